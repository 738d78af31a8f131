/-! the machine refines the functions (printed by wip/whole/dec.py) -/
/-! FilterBench$Kept.chainCount()I -/
set_option maxRecDepth 10000 in
set_option maxHeartbeats 4000000 in
theorem r_Kept_chainCount_e {B : Nat} {SA : Nat → Nat} {d : Nat} (hd : 0 ≤ d) : ∀ (L : JLoc) (v0 : Nat) (μ : JMem) (r : Int32), jget L 0 = .ref v0 → g_Kept_chainCount v0 μ.1 = some r → jR B SA d m_Kept_chainCount 0 L [] μ (some (.int r)) μ := by
  intro L v0 μ r hl0 h
  unfold g_Kept_chainCount at h
  refine jr_aload_n jf_142_0 rfl hl0 ?_
  replace h := obd_of h; obtain ⟨x1, hx1, h⟩ := h
  refine jr_getA jf_142_1 hx1 ?_
  replace h := obd_of h; obtain ⟨a2, rfl, h⟩ := h
  replace h := obd_of h; obtain ⟨x3, hx3, h⟩ := h
  refine jr_arraylength jf_142_4 hx3 ?_
  refine jr_iconst jf_142_5 jc_i_3 ?_
  refine jr_idiv jf_142_6 (by simp only [jdivI]; exact if_neg (by decide)) ?_
  obtain rfl := Option.some.inj h
  exact jr_retI jf_142_7 jmt_142
set_option maxRecDepth 10000 in
set_option maxHeartbeats 4000000 in
theorem r_Kept_chainCount {B : Nat} {SA : Nat → Nat} {d : Nat} (hd : 0 ≤ d) : ∀ (v0 : Nat) (μ : JMem) (r : Int32), g_Kept_chainCount v0 μ.1 = some r → jR B SA d m_Kept_chainCount 0 (lv_args 0 [.ref v0]) [] μ (some (.int r)) μ := by
  intro v0 μ r h
  exact r_Kept_chainCount_e hd (lv_args 0 _) _ _ _ (by simp [lv_args, jget, rv_cat, cat_int, cat_long, cat_double, cat_float, cat_ref]) h
/-! FilterBench$Kept.isShaped(ILFilterBench$Chain;)Z -/
set_option maxRecDepth 10000 in
set_option maxHeartbeats 4000000 in
theorem r_Kept_isShaped_e {B : Nat} {SA : Nat → Nat} {d : Nat} (hd : 0 ≤ d) : ∀ (L : JLoc) (v0 : Nat) (v1 : Int32) (v2 : Option Nat) (μ : JMem) (r : Bool), jget L 0 = .ref v0 → jget L 1 = .int v1 → jget L 2 = rv v2 → g_Kept_isShaped v0 v1 v2 μ.1 = some r → jR B SA d m_Kept_isShaped 0 L [] μ (some (.int (jb r))) μ := by
  intro L v0 v1 v2 μ r hl0 hl1 hl2 h
  unfold g_Kept_isShaped at h
  refine jr_iload_n jf_143_0 rfl hl1 ?_
  refine jr_iconst jf_143_1 jc_i_3 ?_
  refine jr_imul jf_143_2 ?_
  refine jr_istore_n jf_143_3 rfl jml_143 (by decide) ?_
  refine jr_iload_n jf_143_4 rfl jg1_same ?_
  replace h := ite_or h; rcases h with ⟨hc, h⟩ | ⟨hc, h⟩
  · refine jr_if_lt_t jf_143_5 hc ?_
    refine jr_iconst jf_143_66 jc_i_0 ?_
    obtain rfl := Option.some.inj h
    exact jr_retZ (x := false) jf_143_67 jmt_143
  · refine jr_if_lt_f jf_143_5 hc ?_
    refine jr_iload_n jf_143_8 rfl jg1_same ?_
    refine jr_iconst jf_143_9 jc_i_2 ?_
    refine jr_iadd jf_143_10 ?_
    refine jr_aload_n jf_143_11 rfl (jg1_ne rfl hl0) ?_
    replace h := obd_of h; obtain ⟨x1, hx1, h⟩ := h
    refine jr_getA jf_143_12 hx1 ?_
    replace h := obd_of h; obtain ⟨a2, rfl, h⟩ := h
    replace h := obd_of h; obtain ⟨x3, hx3, h⟩ := h
    refine jr_arraylength jf_143_15 hx3 ?_
    replace h := ite_or h; rcases h with ⟨hc, h⟩ | ⟨hc, h⟩
    · refine jr_if2_ge_t jf_143_16 hc ?_
      refine jr_iconst jf_143_66 jc_i_0 ?_
      obtain rfl := Option.some.inj h
      exact jr_retZ (x := false) jf_143_67 jmt_143
    · refine jr_if2_ge_f jf_143_16 hc ?_
      refine jr_aload_n jf_143_19 rfl (jg1_ne rfl hl0) ?_
      replace h := obd_of h; obtain ⟨x4, hx4, h⟩ := h
      refine jr_getA jf_143_20 hx4 ?_
      refine jr_iload_n jf_143_23 rfl jg1_same ?_
      replace h := obd_of h; obtain ⟨a5, rfl, h⟩ := h
      replace h := obd_of h; obtain ⟨x6, hx6, h⟩ := h
      refine jr_iaload jf_143_24 hx6 ?_
      refine jr_aload_n_A jf_143_25 rfl (jg1_pre (by first | rfl | exact rv_cat _) hl2) ?_
      replace h := obd_of h; obtain ⟨a7, rfl, h⟩ := h
      replace h := obd_of h; obtain ⟨x8, hx8, h⟩ := h
      refine jr_getI jf_143_26 hx8 ?_
      replace h := ite_or h; rcases h with ⟨hc, h⟩ | ⟨hc, h⟩
      · refine jr_if2_ne_f jf_143_29 hc ?_
        refine jr_aload_n jf_143_32 rfl (jg1_ne rfl hl0) ?_
        replace h := obd_of h; obtain ⟨x9, hx9, h⟩ := h
        refine jr_getA jf_143_33 hx9 ?_
        refine jr_iload_n jf_143_36 rfl jg1_same ?_
        refine jr_iconst jf_143_37 jc_i_1 ?_
        refine jr_iadd jf_143_38 ?_
        replace h := obd_of h; obtain ⟨a10, rfl, h⟩ := h
        replace h := obd_of h; obtain ⟨x11, hx11, h⟩ := h
        refine jr_iaload jf_143_39 hx11 ?_
        refine jr_aload_n jf_143_40 rfl (jg1_pre (by first | rfl | exact rv_cat _) hl2) ?_
        replace h := obd_of h; obtain ⟨x12, hx12, h⟩ := h
        refine jr_getI jf_143_41 hx12 ?_
        replace h := ite_or h; rcases h with ⟨hc, h⟩ | ⟨hc, h⟩
        · refine jr_if2_ne_f jf_143_44 hc ?_
          refine jr_aload_n jf_143_47 rfl (jg1_ne rfl hl0) ?_
          replace h := obd_of h; obtain ⟨x13, hx13, h⟩ := h
          refine jr_getA jf_143_48 hx13 ?_
          refine jr_iload_n jf_143_51 rfl jg1_same ?_
          refine jr_iconst jf_143_52 jc_i_2 ?_
          refine jr_iadd jf_143_53 ?_
          replace h := obd_of h; obtain ⟨a14, rfl, h⟩ := h
          replace h := obd_of h; obtain ⟨x15, hx15, h⟩ := h
          refine jr_iaload jf_143_54 hx15 ?_
          refine jr_aload_n jf_143_55 rfl (jg1_pre (by first | rfl | exact rv_cat _) hl2) ?_
          replace h := obd_of h; obtain ⟨x16, hx16, h⟩ := h
          refine jr_getI jf_143_56 hx16 ?_
          replace h := ite_or h; rcases h with ⟨hc, h⟩ | ⟨hc, h⟩
          · refine jr_if2_ne_f jf_143_59 hc ?_
            refine jr_iconst jf_143_62 jc_i_1 ?_
            refine jr_goto jf_143_63 ?_
            obtain rfl := Option.some.inj h
            exact jr_retZ (x := true) jf_143_67 jmt_143
          · refine jr_if2_ne_t jf_143_59 hc ?_
            refine jr_iconst jf_143_66 jc_i_0 ?_
            obtain rfl := Option.some.inj h
            exact jr_retZ (x := false) jf_143_67 jmt_143
        · refine jr_if2_ne_t jf_143_44 hc ?_
          refine jr_iconst jf_143_66 jc_i_0 ?_
          obtain rfl := Option.some.inj h
          exact jr_retZ (x := false) jf_143_67 jmt_143
      · refine jr_if2_ne_t jf_143_29 hc ?_
        refine jr_iconst jf_143_66 jc_i_0 ?_
        obtain rfl := Option.some.inj h
        exact jr_retZ (x := false) jf_143_67 jmt_143
set_option maxRecDepth 10000 in
set_option maxHeartbeats 4000000 in
theorem r_Kept_isShaped {B : Nat} {SA : Nat → Nat} {d : Nat} (hd : 0 ≤ d) : ∀ (v0 : Nat) (v1 : Int32) (v2 : Option Nat) (μ : JMem) (r : Bool), g_Kept_isShaped v0 v1 v2 μ.1 = some r → jR B SA d m_Kept_isShaped 0 (lv_args 0 [.ref v0, .int v1, rv v2]) [] μ (some (.int (jb r))) μ := by
  intro v0 v1 v2 μ r h
  exact r_Kept_isShaped_e hd (lv_args 0 _) _ _ _ _ _ (by simp [lv_args, jget, rv_cat, cat_int, cat_long, cat_double, cat_float, cat_ref]) (by simp [lv_args, jget, rv_cat, cat_int, cat_long, cat_double, cat_float, cat_ref]) (by simp [lv_args, jget, rv_cat, cat_int, cat_long, cat_double, cat_float, cat_ref]) h
/-! FilterBench.hasShapeOf(LFilterBench$Kept;I)Z -/
set_option maxRecDepth 10000 in
set_option maxHeartbeats 4000000 in
theorem r_B_hasShapeOf_12 {N B : Nat} {SA : Nat → Nat} {d : Nat} (hd : 1 ≤ d) : ∀ (n : Nat), ∀ (L : JLoc) (v0 : Nat) (v1 : Nat) (v2 : Int32) (v3 : Int32) (μ : JMem) (r : Bool), jget L 0 = .ref v0 → jget L 1 = .ref v1 → jget L 2 = .int v2 → jget L 3 = .int v3 → g_B_hasShapeOf_12 N n v0 v1 v2 v3 μ.1 = some r → jR B SA d m_B_hasShapeOf 12 L [] μ (some (.int (jb r))) μ := by
  intro n
  induction n with
  | zero =>
    intro L v0 v1 v2 v3 μ r hl0 hl1 hl2 hl3 h
    unfold g_B_hasShapeOf_12 at h
    cases h
  | succ n ih =>
    intro L v0 v1 v2 v3 μ r hl0 hl1 hl2 hl3 h
    unfold g_B_hasShapeOf_12 at h
    refine jr_iload_n jf_141_12 rfl hl3 ?_
    refine jr_iload_n jf_141_13 rfl hl2 ?_
    replace h := ite_or h; rcases h with ⟨hc, h⟩ | ⟨hc, h⟩
    · refine jr_if2_ge_t jf_141_14 hc ?_
      refine jr_iconst jf_141_57 jc_i_1 ?_
      obtain rfl := Option.some.inj h
      exact jr_retZ (x := true) jf_141_58 jmt_141
    · refine jr_if2_ge_f jf_141_14 hc ?_
      refine jr_iload_n jf_141_17 rfl hl3 ?_
      refine jr_aload_n jf_141_18 rfl hl0 ?_
      replace h := obd_of h; obtain ⟨x1, hx1, h⟩ := h
      refine jr_getA jf_141_19 hx1 ?_
      replace h := obd_of h; obtain ⟨a2, rfl, h⟩ := h
      replace h := obd_of h; obtain ⟨x3, hx3, h⟩ := h
      refine jr_arraylength jf_141_22 hx3 ?_
      replace h := ite_or h; rcases h with ⟨hc, h⟩ | ⟨hc, h⟩
      · refine jr_if2_ge_t jf_141_23 hc ?_
        refine jr_iconst jf_141_57 jc_i_1 ?_
        obtain rfl := Option.some.inj h
        exact jr_retZ (x := true) jf_141_58 jmt_141
      · refine jr_if2_ge_f jf_141_23 hc ?_
        refine jr_aload_n jf_141_26 rfl hl0 ?_
        replace h := obd_of h; obtain ⟨x4, hx4, h⟩ := h
        refine jr_getA jf_141_27 hx4 ?_
        refine jr_iload_n jf_141_30 rfl hl3 ?_
        replace h := obd_of h; obtain ⟨a5, rfl, h⟩ := h
        replace h := obd_of h; obtain ⟨x6, hx6, h⟩ := h
        refine jr_aaload jf_141_31 hx6 ?_
        replace h := jon_or h; rcases h with ⟨rfl, h⟩ | ⟨a7, rfl, h⟩
        · refine jr_ifnull_n jf_141_32 ?_
          refine jr_iconst jf_141_49 jc_i_0 ?_
          obtain rfl := Option.some.inj h
          exact jr_retZ (x := false) jf_141_50 jmt_141
        · refine jr_ifnull_s jf_141_32 ?_
          refine jr_aload_n jf_141_35 rfl hl1 ?_
          refine jr_iload_n jf_141_36 rfl hl3 ?_
          refine jr_aload_n jf_141_37 rfl hl0 ?_
          replace h := obd_of h; obtain ⟨x8, hx8, h⟩ := h
          refine jr_getA jf_141_38 hx8 ?_
          refine jr_iload_n jf_141_41 rfl hl3 ?_
          replace h := obd_of h; obtain ⟨a9, rfl, h⟩ := h
          replace h := obd_of h; obtain ⟨x10, hx10, h⟩ := h
          refine jr_aaload jf_141_42 hx10 ?_
          replace h := jgd_of h; obtain ⟨hb11, h⟩ := h
          replace h := obd_of h; obtain ⟨x12, hx12, h⟩ := h
          refine jr_V6_2 jf_141_43 hb11 (by omega) (r_Kept_isShaped (by omega) _ _ _ _ _ hx12) (Nat.le_of_ble_eq_true rfl) jml_143 (by simp only [jcats_cons, jcats_nil, cat_int, cat_long, cat_double, cat_float, cat_ref, rv_cat]; decide) ?_
          replace h := ite_or h; rcases h with ⟨hc, h⟩ | ⟨hc, h⟩
          · refine jr_ifz_ne_t jf_141_46 hc ?_
            refine jr_iinc jf_141_51 jc_i_1 jml_141 (by decide) hl3 ?_
            refine jr_goto jf_141_54 ?_
            exact ih _ _ _ _ _ _ _ (jg1_ne rfl hl0) (jg1_ne rfl hl1) (jg1_pre rfl hl2) jg1_same h
          · refine jr_ifz_ne_f jf_141_46 hc ?_
            refine jr_iconst jf_141_49 jc_i_0 ?_
            obtain rfl := Option.some.inj h
            exact jr_retZ (x := false) jf_141_50 jmt_141
set_option maxRecDepth 10000 in
set_option maxHeartbeats 4000000 in
theorem r_B_hasShapeOf_e {N B : Nat} {SA : Nat → Nat} {d : Nat} (hd : 1 ≤ d) : ∀ (L : JLoc) (v0 : Nat) (v1 : Option Nat) (v2 : Int32) (μ : JMem) (r : Bool), jget L 0 = .ref v0 → jget L 1 = rv v1 → jget L 2 = .int v2 → g_B_hasShapeOf N v0 v1 v2 μ.1 = some r → jR B SA d m_B_hasShapeOf 0 L [] μ (some (.int (jb r))) μ := by
  intro L v0 v1 v2 μ r hl0 hl1 hl2 h
  unfold g_B_hasShapeOf at h
  refine jr_iload_n jf_141_0 rfl hl2 ?_
  refine jr_aload_n_A jf_141_1 rfl hl1 ?_
  replace h := obd_of h; obtain ⟨a1, rfl, h⟩ := h
  replace h := jgd_of h; obtain ⟨hb2, h⟩ := h
  replace h := obd_of h; obtain ⟨x3, hx3, h⟩ := h
  refine jr_V6_0 jf_141_2 hb2 (by omega) (r_Kept_chainCount (by omega) _ _ _ hx3) (Nat.le_of_ble_eq_true rfl) jml_142 (Nat.le_of_ble_eq_true rfl) ?_
  replace h := ite_or h; rcases h with ⟨hc, h⟩ | ⟨hc, h⟩
  · refine jr_if2_eq_t jf_141_5 hc ?_
    refine jr_iconst jf_141_10 jc_i_0 ?_
    refine jr_istore_n jf_141_11 rfl jml_141 (by decide) ?_
    exact r_B_hasShapeOf_12 hd _ _ _ _ _ _ _ _ (jg1_ne rfl hl0) (jg1_ne rfl hl1) (jg1_pre rfl hl2) jg1_same h
  · refine jr_if2_eq_f jf_141_5 hc ?_
    refine jr_iconst jf_141_8 jc_i_0 ?_
    obtain rfl := Option.some.inj h
    exact jr_retZ (x := false) jf_141_9 jmt_141
set_option maxRecDepth 10000 in
set_option maxHeartbeats 4000000 in
theorem r_B_hasShapeOf {N B : Nat} {SA : Nat → Nat} {d : Nat} (hd : 1 ≤ d) : ∀ (v0 : Nat) (v1 : Option Nat) (v2 : Int32) (μ : JMem) (r : Bool), g_B_hasShapeOf N v0 v1 v2 μ.1 = some r → jR B SA d m_B_hasShapeOf 0 (lv_args 0 [.ref v0, rv v1, .int v2]) [] μ (some (.int (jb r))) μ := by
  intro v0 v1 v2 μ r h
  exact r_B_hasShapeOf_e hd (lv_args 0 _) _ _ _ _ _ (by simp [lv_args, jget, rv_cat, cat_int, cat_long, cat_double, cat_float, cat_ref]) (by simp [lv_args, jget, rv_cat, cat_int, cat_long, cat_double, cat_float, cat_ref]) (by simp [lv_args, jget, rv_cat, cat_int, cat_long, cat_double, cat_float, cat_ref]) h
/-! FilterBench.keptAt(I)LFilterBench$Kept; -/
set_option maxRecDepth 10000 in
set_option maxHeartbeats 4000000 in
theorem r_B_keptAt_21 {B : Nat} {SA : Nat → Nat} {d : Nat} (hd : 0 ≤ d) : ∀ (L : JLoc) (μ : JMem) (r : Option Nat), g_B_keptAt_21 μ.1 = some r → jR B SA d m_B_keptAt 21 L [] μ (some (rv r)) μ := by
  intro L μ r h
  unfold g_B_keptAt_21 at h
  refine jr_aconst_null jf_140_21 ?_
  refine jr_goto jf_140_22 ?_
  obtain rfl := Option.some.inj h
  exact jr_retA jf_140_31 jmt_140
set_option maxRecDepth 10000 in
set_option maxHeartbeats 4000000 in
theorem r_B_keptAt_e {B : Nat} {SA : Nat → Nat} {d : Nat} (hd : 0 ≤ d) : ∀ (L : JLoc) (v0 : Nat) (v1 : Int32) (μ : JMem) (r : Option Nat), jget L 0 = .ref v0 → jget L 1 = .int v1 → g_B_keptAt v0 v1 μ.1 = some r → jR B SA d m_B_keptAt 0 L [] μ (some (rv r)) μ := by
  intro L v0 v1 μ r hl0 hl1 h
  unfold g_B_keptAt at h
  refine jr_iload_n jf_140_0 rfl hl1 ?_
  replace h := ite_or h; rcases h with ⟨hc, h⟩ | ⟨hc, h⟩
  · refine jr_if_lt_t jf_140_1 hc ?_
    exact r_B_keptAt_21 hd _  _ _ h
  · refine jr_if_lt_f jf_140_1 hc ?_
    refine jr_iload_n jf_140_4 rfl hl1 ?_
    refine jr_aload_n jf_140_5 rfl hl0 ?_
    replace h := obd_of h; obtain ⟨x1, hx1, h⟩ := h
    refine jr_getI jf_140_6 hx1 ?_
    replace h := ite_or h; rcases h with ⟨hc, h⟩ | ⟨hc, h⟩
    · refine jr_if2_ge_t jf_140_9 hc ?_
      exact r_B_keptAt_21 hd _  _ _ h
    · refine jr_if2_ge_f jf_140_9 hc ?_
      refine jr_iload_n jf_140_12 rfl hl1 ?_
      refine jr_aload_n jf_140_13 rfl hl0 ?_
      replace h := obd_of h; obtain ⟨x2, hx2, h⟩ := h
      refine jr_getA jf_140_14 hx2 ?_
      replace h := obd_of h; obtain ⟨a3, rfl, h⟩ := h
      replace h := obd_of h; obtain ⟨x4, hx4, h⟩ := h
      refine jr_arraylength jf_140_17 hx4 ?_
      replace h := ite_or h; rcases h with ⟨hc, h⟩ | ⟨hc, h⟩
      · refine jr_if2_lt_t jf_140_18 hc ?_
        refine jr_aload_n jf_140_25 rfl hl0 ?_
        replace h := obd_of h; obtain ⟨x5, hx5, h⟩ := h
        refine jr_getA jf_140_26 hx5 ?_
        refine jr_iload_n jf_140_29 rfl hl1 ?_
        replace h := obd_of h; obtain ⟨a6, rfl, h⟩ := h
        replace h := obd_of h; obtain ⟨x7, hx7, h⟩ := h
        refine jr_aaload jf_140_30 hx7 ?_
        obtain rfl := Option.some.inj h
        exact jr_retA jf_140_31 jmt_140
      · refine jr_if2_lt_f jf_140_18 hc ?_
        exact r_B_keptAt_21 hd _  _ _ h
set_option maxRecDepth 10000 in
set_option maxHeartbeats 4000000 in
theorem r_B_keptAt {B : Nat} {SA : Nat → Nat} {d : Nat} (hd : 0 ≤ d) : ∀ (v0 : Nat) (v1 : Int32) (μ : JMem) (r : Option Nat), g_B_keptAt v0 v1 μ.1 = some r → jR B SA d m_B_keptAt 0 (lv_args 0 [.ref v0, .int v1]) [] μ (some (rv r)) μ := by
  intro v0 v1 μ r h
  exact r_B_keptAt_e hd (lv_args 0 _) _ _ _ _ (by simp [lv_args, jget, rv_cat, cat_int, cat_long, cat_double, cat_float, cat_ref]) (by simp [lv_args, jget, rv_cat, cat_int, cat_long, cat_double, cat_float, cat_ref]) h
/-! FilterBench$Row.load([JI)I -/
set_option maxRecDepth 10000 in
set_option maxHeartbeats 4000000 in
theorem r_Row_load_35 {N B : Nat} {SA : Nat → Nat} {d : Nat} (hd : 2 ≤ d) {k2 : Nat → Option Nat → Int32 → Int32 → JMem → Option (Int32 × JMem)} (i2 : ∀ (L : JLoc) (v0 : Nat) (v1 : Option Nat) (v2 : Int32) (v3 : Int32) (μ : JMem) (r : Int32) (μ9 : JMem), jget L 0 = .ref v0 → jget L 1 = rv v1 → jget L 2 = .int v2 → jget L 3 = .int v3 → k2 v0 v1 v2 v3 μ = some (r, μ9) → jR B SA d m_Row_load 2 L [] μ (some (.int r)) μ9) : ∀ (L : JLoc) (v0 : Nat) (v1 : Option Nat) (v2 : Int32) (v3 : Int32) (μ : JMem) (r : Int32) (μ9 : JMem), jget L 0 = .ref v0 → jget L 1 = rv v1 → jget L 2 = .int v2 → jget L 3 = .int v3 → g_Row_load_35 N B k2 v0 v1 v2 v3 μ = some (r, μ9) → jR B SA d m_Row_load 35 L [] μ (some (.int r)) μ9 := by
  intro L v0 v1 v2 v3 μ r μ9 hl0 hl1 hl2 hl3 h
  unfold g_Row_load_35 at h
  refine jr_iinc jf_146_35 jc_i_1 jml_146 (by decide) hl3 ?_
  refine jr_goto jf_146_38 ?_
  exact i2 _ _ _ _ _ _ _ _ (jg1_ne rfl hl0) (jg1_ne rfl hl1) (jg1_pre rfl hl2) jg1_same h
set_option maxRecDepth 10000 in
set_option maxHeartbeats 4000000 in
theorem r_Row_load_2 {N B : Nat} {SA : Nat → Nat} {d : Nat} (hd : 2 ≤ d) : ∀ (n : Nat), ∀ (L : JLoc) (v0 : Nat) (v1 : Option Nat) (v2 : Int32) (v3 : Int32) (μ : JMem) (r : Int32) (μ9 : JMem), jget L 0 = .ref v0 → jget L 1 = rv v1 → jget L 2 = .int v2 → jget L 3 = .int v3 → g_Row_load_2 N B n v0 v1 v2 v3 μ = some (r, μ9) → jR B SA d m_Row_load 2 L [] μ (some (.int r)) μ9 := by
  intro n
  induction n with
  | zero =>
    intro L v0 v1 v2 v3 μ r μ9 hl0 hl1 hl2 hl3 h
    unfold g_Row_load_2 at h
    cases h
  | succ n ih =>
    intro L v0 v1 v2 v3 μ r μ9 hl0 hl1 hl2 hl3 h
    unfold g_Row_load_2 at h
    refine jr_iload_n jf_146_2 rfl hl3 ?_
    refine jr_aload_n jf_146_3 rfl hl0 ?_
    replace h := obd_of h; obtain ⟨x1, hx1, h⟩ := h
    refine jr_getA jf_146_4 hx1 ?_
    replace h := obd_of h; obtain ⟨a2, rfl, h⟩ := h
    replace h := obd_of h; obtain ⟨x3, hx3, h⟩ := h
    refine jr_arraylength jf_146_7 hx3 ?_
    replace h := ite_or h; rcases h with ⟨hc, h⟩ | ⟨hc, h⟩
    · refine jr_if2_ge_t jf_146_8 hc ?_
      refine jr_iload_n jf_146_41 rfl hl2 ?_
      refine jr_aload_n jf_146_42 rfl hl0 ?_
      replace h := obd_of h; obtain ⟨x4, hx4, h⟩ := h
      refine jr_getA jf_146_43 hx4 ?_
      replace h := obd_of h; obtain ⟨a5, rfl, h⟩ := h
      replace h := obd_of h; obtain ⟨x6, hx6, h⟩ := h
      refine jr_arraylength jf_146_46 hx6 ?_
      refine jr_iadd jf_146_47 ?_
      obtain ⟨rfl, rfl⟩ := Prod.mk.inj (Option.some.inj h)
      exact jr_retI jf_146_48 jmt_146
    · refine jr_if2_ge_f jf_146_8 hc ?_
      refine jr_iload_n jf_146_11 rfl hl2 ?_
      refine jr_iload_n jf_146_12 rfl hl3 ?_
      refine jr_iadd jf_146_13 ?_
      replace h := ite_or h; rcases h with ⟨hc, h⟩ | ⟨hc, h⟩
      · refine jr_if_lt_t jf_146_14 hc ?_
        exact r_Row_load_35 hd ih _ _ _ _ _ _ _ _ hl0 hl1 hl2 hl3 h
      · refine jr_if_lt_f jf_146_14 hc ?_
        refine jr_iload_n jf_146_17 rfl hl2 ?_
        refine jr_iload_n jf_146_18 rfl hl3 ?_
        refine jr_iadd jf_146_19 ?_
        refine jr_aload_n_A jf_146_20 rfl hl1 ?_
        replace h := obd_of h; obtain ⟨a7, rfl, h⟩ := h
        replace h := obd_of h; obtain ⟨x8, hx8, h⟩ := h
        refine jr_arraylength jf_146_21 hx8 ?_
        replace h := ite_or h; rcases h with ⟨hc, h⟩ | ⟨hc, h⟩
        · refine jr_if2_ge_t jf_146_22 hc ?_
          exact r_Row_load_35 hd ih _ _ (some _) _ _ _ _ _ hl0 hl1 hl2 hl3 h
        · refine jr_if2_ge_f jf_146_22 hc ?_
          refine jr_aload_n jf_146_25 rfl hl0 ?_
          refine jr_iload_n jf_146_26 rfl hl3 ?_
          refine jr_aload_n jf_146_27 rfl hl1 ?_
          refine jr_iload_n jf_146_28 rfl hl2 ?_
          refine jr_iload_n jf_146_29 rfl hl3 ?_
          refine jr_iadd jf_146_30 ?_
          replace h := obd_of h; obtain ⟨x9, hx9, h⟩ := h
          refine jr_laload jf_146_31 hx9 ?_
          replace h := jgd_of h; obtain ⟨hb10, h⟩ := h
          replace h := obd_of h; obtain ⟨μ11, hμ11, h⟩ := h
          refine jr_V6v_2 jf_146_32 hb10 (by omega) (r_Row_put (by omega) _ _ _ _ _ hμ11) (Nat.le_of_ble_eq_true rfl) jml_66 (Nat.le_of_ble_eq_true rfl) ?_
          exact r_Row_load_35 hd ih _ _ (some _) _ _ _ _ _ hl0 hl1 hl2 hl3 h
set_option maxRecDepth 10000 in
set_option maxHeartbeats 4000000 in
theorem r_Row_load_e {N B : Nat} {SA : Nat → Nat} {d : Nat} (hd : 2 ≤ d) : ∀ (L : JLoc) (v0 : Nat) (v1 : Option Nat) (v2 : Int32) (μ : JMem) (r : Int32) (μ9 : JMem), jget L 0 = .ref v0 → jget L 1 = rv v1 → jget L 2 = .int v2 → g_Row_load N B v0 v1 v2 μ = some (r, μ9) → jR B SA d m_Row_load 0 L [] μ (some (.int r)) μ9 := by
  intro L v0 v1 v2 μ r μ9 hl0 hl1 hl2 h
  unfold g_Row_load at h
  refine jr_iconst jf_146_0 jc_i_0 ?_
  refine jr_istore_n jf_146_1 rfl jml_146 (by decide) ?_
  exact r_Row_load_2 hd _ _ _ _ _ _ _ _ _ (jg1_ne rfl hl0) (jg1_ne rfl hl1) (jg1_pre rfl hl2) jg1_same h
set_option maxRecDepth 10000 in
set_option maxHeartbeats 4000000 in
theorem r_Row_load {N B : Nat} {SA : Nat → Nat} {d : Nat} (hd : 2 ≤ d) : ∀ (v0 : Nat) (v1 : Option Nat) (v2 : Int32) (μ : JMem) (r : Int32) (μ9 : JMem), g_Row_load N B v0 v1 v2 μ = some (r, μ9) → jR B SA d m_Row_load 0 (lv_args 0 [.ref v0, rv v1, .int v2]) [] μ (some (.int r)) μ9 := by
  intro v0 v1 v2 μ r μ9 h
  exact r_Row_load_e hd (lv_args 0 _) _ _ _ _ _ _ (by simp [lv_args, jget, rv_cat, cat_int, cat_long, cat_double, cat_float, cat_ref]) (by simp [lv_args, jget, rv_cat, cat_int, cat_long, cat_double, cat_float, cat_ref]) (by simp [lv_args, jget, rv_cat, cat_int, cat_long, cat_double, cat_float, cat_ref]) h
/-! FilterBench$Section.load([JI)I -/
set_option maxRecDepth 10000 in
set_option maxHeartbeats 4000000 in
theorem r_Section_load_17 {N B : Nat} {SA : Nat → Nat} {d : Nat} (hd : 3 ≤ d) : ∀ (L : JLoc) (v0 : Nat) (v1 : Option Nat) (v2 : Int32) (μ : JMem) (r : Int32) (μ9 : JMem), jget L 0 = .ref v0 → jget L 1 = rv v1 → jget L 2 = .int v2 → g_Section_load_17 N B v0 v1 v2 μ = some (r, μ9) → jR B SA d m_Section_load 17 L [] μ (some (.int r)) μ9 := by
  intro L v0 v1 v2 μ r μ9 hl0 hl1 hl2 h
  unfold g_Section_load_17 at h
  refine jr_aload_n jf_145_17 rfl hl0 ?_
  replace h := obd_of h; obtain ⟨x1, hx1, h⟩ := h
  refine jr_getA jf_145_18 hx1 ?_
  refine jr_aload_n_A jf_145_21 rfl hl1 ?_
  refine jr_iload_n jf_145_22 rfl hl2 ?_
  refine jr_iconst jf_145_23 jc_i_1 ?_
  refine jr_iadd jf_145_24 ?_
  replace h := obd_of h; obtain ⟨a2, rfl, h⟩ := h
  replace h := jgd_of h; obtain ⟨hb3, h⟩ := h
  replace h := jbd2_of h; obtain ⟨x4, μ5, hx4, h⟩ := h
  refine jr_V6_2 jf_145_25 hb3 (by omega) (r_Row_load (by omega) _ _ _ _ _ _ hx4) (Nat.le_of_ble_eq_true rfl) jml_146 (by simp only [jcats_cons, jcats_nil, cat_int, cat_long, cat_double, cat_float, cat_ref, rv_cat]; decide) ?_
  obtain ⟨rfl, rfl⟩ := Prod.mk.inj (Option.some.inj h)
  exact jr_retI jf_145_28 jmt_145
set_option maxRecDepth 10000 in
set_option maxHeartbeats 4000000 in
theorem r_Section_load_e {N B : Nat} {SA : Nat → Nat} {d : Nat} (hd : 3 ≤ d) : ∀ (L : JLoc) (v0 : Nat) (v1 : Option Nat) (v2 : Int32) (μ : JMem) (r : Int32) (μ9 : JMem), jget L 0 = .ref v0 → jget L 1 = rv v1 → jget L 2 = .int v2 → g_Section_load N B v0 v1 v2 μ = some (r, μ9) → jR B SA d m_Section_load 0 L [] μ (some (.int r)) μ9 := by
  intro L v0 v1 v2 μ r μ9 hl0 hl1 hl2 h
  unfold g_Section_load at h
  refine jr_iload_n jf_145_0 rfl hl2 ?_
  replace h := ite_or h; rcases h with ⟨hc, h⟩ | ⟨hc, h⟩
  · refine jr_if_lt_t jf_145_1 hc ?_
    exact r_Section_load_17 hd _ _ _ _ _ _ _ hl0 hl1 hl2 h
  · refine jr_if_lt_f jf_145_1 hc ?_
    refine jr_iload_n jf_145_4 rfl hl2 ?_
    refine jr_aload_n_A jf_145_5 rfl hl1 ?_
    replace h := obd_of h; obtain ⟨a1, rfl, h⟩ := h
    replace h := obd_of h; obtain ⟨x2, hx2, h⟩ := h
    refine jr_arraylength jf_145_6 hx2 ?_
    replace h := ite_or h; rcases h with ⟨hc, h⟩ | ⟨hc, h⟩
    · refine jr_if2_ge_t jf_145_7 hc ?_
      exact r_Section_load_17 hd _ _ (some _) _ _ _ _ hl0 hl1 hl2 h
    · refine jr_if2_ge_f jf_145_7 hc ?_
      refine jr_aload_n jf_145_10 rfl hl0 ?_
      refine jr_aload_n jf_145_11 rfl hl1 ?_
      refine jr_iload_n jf_145_12 rfl hl2 ?_
      replace h := obd_of h; obtain ⟨x3, hx3, h⟩ := h
      refine jr_laload jf_145_13 hx3 ?_
      replace h := obd_of h; obtain ⟨μ4, hμ4, h⟩ := h
      refine jr_putJ jf_145_14 rfl hμ4 ?_
      exact r_Section_load_17 hd _ _ (some _) _ _ _ _ hl0 hl1 hl2 h
set_option maxRecDepth 10000 in
set_option maxHeartbeats 4000000 in
theorem r_Section_load {N B : Nat} {SA : Nat → Nat} {d : Nat} (hd : 3 ≤ d) : ∀ (v0 : Nat) (v1 : Option Nat) (v2 : Int32) (μ : JMem) (r : Int32) (μ9 : JMem), g_Section_load N B v0 v1 v2 μ = some (r, μ9) → jR B SA d m_Section_load 0 (lv_args 0 [.ref v0, rv v1, .int v2]) [] μ (some (.int r)) μ9 := by
  intro v0 v1 v2 μ r μ9 h
  exact r_Section_load_e hd (lv_args 0 _) _ _ _ _ _ _ (by simp [lv_args, jget, rv_cat, cat_int, cat_long, cat_double, cat_float, cat_ref]) (by simp [lv_args, jget, rv_cat, cat_int, cat_long, cat_double, cat_float, cat_ref]) (by simp [lv_args, jget, rv_cat, cat_int, cat_long, cat_double, cat_float, cat_ref]) h
/-! FilterBench$Chain.load([JI)I -/
set_option maxRecDepth 10000 in
set_option maxHeartbeats 4000000 in
theorem r_Chain_load_38 {N B : Nat} {SA : Nat → Nat} {d : Nat} (hd : 4 ≤ d) {k5 : Nat → Option Nat → Int32 → Int32 → JMem → Option (Int32 × JMem)} (i5 : ∀ (L : JLoc) (v0 : Nat) (v1 : Option Nat) (v3 : Int32) (v4 : Int32) (μ : JMem) (r : Int32) (μ9 : JMem), jget L 0 = .ref v0 → jget L 1 = rv v1 → jget L 3 = .int v3 → jget L 4 = .int v4 → k5 v0 v1 v3 v4 μ = some (r, μ9) → jR B SA d m_Chain_load 5 L [] μ (some (.int r)) μ9) : ∀ (L : JLoc) (v0 : Nat) (v1 : Option Nat) (v4 : Int32) (s0 : Int32) (μ : JMem) (r : Int32) (μ9 : JMem), jget L 0 = .ref v0 → jget L 1 = rv v1 → jget L 4 = .int v4 → g_Chain_load_38 N B k5 v0 v1 v4 s0 μ = some (r, μ9) → jR B SA d m_Chain_load 38 L [.int s0] μ (some (.int r)) μ9 := by
  intro L v0 v1 v4 s0 μ r μ9 hl0 hl1 hl4 h
  unfold g_Chain_load_38 at h
  refine jr_istore_n jf_144_38 rfl jml_144 (by decide) ?_
  refine jr_iinc jf_144_39 jc_i_1 jml_144 (by decide) (jg1_ne rfl hl4) ?_
  refine jr_goto jf_144_42 ?_
  exact i5 _ _ _ _ _ _ _ _ (jg1_ne rfl (jg1_ne rfl hl0)) (jg1_ne rfl (jg1_ne rfl hl1)) (jg1_pre rfl jg1_same) jg1_same h
set_option maxRecDepth 10000 in
set_option maxHeartbeats 4000000 in
theorem r_Chain_load_84 {N B : Nat} {SA : Nat → Nat} {d : Nat} (hd : 4 ≤ d) {k48 : Nat → Option Nat → Int32 → Int32 → JMem → Option (Int32 × JMem)} (i48 : ∀ (L : JLoc) (v0 : Nat) (v1 : Option Nat) (v3 : Int32) (v4 : Int32) (μ : JMem) (r : Int32) (μ9 : JMem), jget L 0 = .ref v0 → jget L 1 = rv v1 → jget L 3 = .int v3 → jget L 4 = .int v4 → k48 v0 v1 v3 v4 μ = some (r, μ9) → jR B SA d m_Chain_load 48 L [] μ (some (.int r)) μ9) : ∀ (L : JLoc) (v0 : Nat) (v1 : Option Nat) (v4 : Int32) (s0 : Int32) (μ : JMem) (r : Int32) (μ9 : JMem), jget L 0 = .ref v0 → jget L 1 = rv v1 → jget L 4 = .int v4 → g_Chain_load_84 N B k48 v0 v1 v4 s0 μ = some (r, μ9) → jR B SA d m_Chain_load 84 L [.int s0] μ (some (.int r)) μ9 := by
  intro L v0 v1 v4 s0 μ r μ9 hl0 hl1 hl4 h
  unfold g_Chain_load_84 at h
  refine jr_istore_n jf_144_84 rfl jml_144 (by decide) ?_
  refine jr_iinc jf_144_85 jc_i_1 jml_144 (by decide) (jg1_ne rfl hl4) ?_
  refine jr_goto jf_144_88 ?_
  exact i48 _ _ _ _ _ _ _ _ (jg1_ne rfl (jg1_ne rfl hl0)) (jg1_ne rfl (jg1_ne rfl hl1)) (jg1_pre rfl jg1_same) jg1_same h
set_option maxRecDepth 10000 in
set_option maxHeartbeats 4000000 in
theorem r_Chain_load_48 {N B : Nat} {SA : Nat → Nat} {d : Nat} (hd : 4 ≤ d) : ∀ (n : Nat), ∀ (L : JLoc) (v0 : Nat) (v1 : Option Nat) (v3 : Int32) (v4 : Int32) (μ : JMem) (r : Int32) (μ9 : JMem), jget L 0 = .ref v0 → jget L 1 = rv v1 → jget L 3 = .int v3 → jget L 4 = .int v4 → g_Chain_load_48 N B n v0 v1 v3 v4 μ = some (r, μ9) → jR B SA d m_Chain_load 48 L [] μ (some (.int r)) μ9 := by
  intro n
  induction n with
  | zero =>
    intro L v0 v1 v3 v4 μ r μ9 hl0 hl1 hl3 hl4 h
    unfold g_Chain_load_48 at h
    cases h
  | succ n ih =>
    intro L v0 v1 v3 v4 μ r μ9 hl0 hl1 hl3 hl4 h
    unfold g_Chain_load_48 at h
    refine jr_iload jf_144_48 hl4 ?_
    refine jr_aload_n jf_144_50 rfl hl0 ?_
    replace h := obd_of h; obtain ⟨x1, hx1, h⟩ := h
    refine jr_getI jf_144_51 hx1 ?_
    replace h := ite_or h; rcases h with ⟨hc, h⟩ | ⟨hc, h⟩
    · refine jr_if2_ge_t jf_144_54 hc ?_
      refine jr_iload_n jf_144_91 rfl hl3 ?_
      obtain ⟨rfl, rfl⟩ := Prod.mk.inj (Option.some.inj h)
      exact jr_retI jf_144_92 jmt_144
    · refine jr_if2_ge_f jf_144_54 hc ?_
      refine jr_aload_n jf_144_57 rfl hl0 ?_
      refine jr_iload jf_144_58 hl4 ?_
      replace h := jgd_of h; obtain ⟨hb2, h⟩ := h
      replace h := obd_of h; obtain ⟨x3, hx3, h⟩ := h
      refine jr_V6_1 jf_144_60 hb2 (by omega) (r_Chain_loopAt (by omega) _ _ _ _ hx3) (Nat.le_of_ble_eq_true rfl) jml_68 (Nat.le_of_ble_eq_true rfl) ?_
      refine jr_astore_A jf_144_63 jml_144 (by decide) ?_
      refine jr_aload_A jf_144_65 jg1_same ?_
      replace h := jon_or h; rcases h with ⟨rfl, h⟩ | ⟨a4, rfl, h⟩
      · refine jr_ifnonnull_n jf_144_67 ?_
        refine jr_iload_n jf_144_70 rfl (jg1_ne rfl hl3) ?_
        refine jr_goto jf_144_71 ?_
        exact r_Chain_load_84 hd ih _ _ _ _ _ _ _ _ (jg1_ne rfl hl0) (jg1_ne rfl hl1) (jg1_pre rfl hl4) h
      · refine jr_ifnonnull_s jf_144_67 ?_
        refine jr_aload jf_144_74 jg1_same ?_
        replace h := obd_of h; obtain ⟨x5, hx5, h⟩ := h
        refine jr_getA jf_144_76 hx5 ?_
        refine jr_aload_n_A jf_144_79 rfl (jg1_ne rfl hl1) ?_
        refine jr_iload_n jf_144_80 rfl (jg1_ne rfl hl3) ?_
        replace h := obd_of h; obtain ⟨a6, rfl, h⟩ := h
        replace h := jgd_of h; obtain ⟨hb7, h⟩ := h
        replace h := jbd2_of h; obtain ⟨x8, μ9, hx8, h⟩ := h
        refine jr_V6_2 jf_144_81 hb7 (by omega) (r_Row_load (by omega) _ _ _ _ _ _ hx8) (Nat.le_of_ble_eq_true rfl) jml_146 (by simp only [jcats_cons, jcats_nil, cat_int, cat_long, cat_double, cat_float, cat_ref, rv_cat]; decide) ?_
        exact r_Chain_load_84 hd ih _ _ _ _ _ _ _ _ (jg1_ne rfl hl0) (jg1_ne rfl hl1) (jg1_pre rfl hl4) h
set_option maxRecDepth 10000 in
set_option maxHeartbeats 4000000 in
theorem r_Chain_load_5 {N B : Nat} {SA : Nat → Nat} {d : Nat} (hd : 4 ≤ d) : ∀ (n : Nat), ∀ (L : JLoc) (v0 : Nat) (v1 : Option Nat) (v3 : Int32) (v4 : Int32) (μ : JMem) (r : Int32) (μ9 : JMem), jget L 0 = .ref v0 → jget L 1 = rv v1 → jget L 3 = .int v3 → jget L 4 = .int v4 → g_Chain_load_5 N B n v0 v1 v3 v4 μ = some (r, μ9) → jR B SA d m_Chain_load 5 L [] μ (some (.int r)) μ9 := by
  intro n
  induction n with
  | zero =>
    intro L v0 v1 v3 v4 μ r μ9 hl0 hl1 hl3 hl4 h
    unfold g_Chain_load_5 at h
    cases h
  | succ n ih =>
    intro L v0 v1 v3 v4 μ r μ9 hl0 hl1 hl3 hl4 h
    unfold g_Chain_load_5 at h
    refine jr_iload jf_144_5 hl4 ?_
    refine jr_aload_n jf_144_7 rfl hl0 ?_
    replace h := obd_of h; obtain ⟨x1, hx1, h⟩ := h
    refine jr_getI jf_144_8 hx1 ?_
    replace h := ite_or h; rcases h with ⟨hc, h⟩ | ⟨hc, h⟩
    · refine jr_if2_ge_t jf_144_11 hc ?_
      refine jr_iconst jf_144_45 jc_i_0 ?_
      refine jr_istore jf_144_46 jml_144 (by decide) ?_
      exact r_Chain_load_48 hd _ _ _ _ _ _ _ _ _ (jg1_ne rfl hl0) (jg1_ne rfl hl1) (jg1_pre rfl hl3) jg1_same h
    · refine jr_if2_ge_f jf_144_11 hc ?_
      refine jr_aload_n jf_144_14 rfl hl0 ?_
      refine jr_iload jf_144_15 hl4 ?_
      replace h := jgd_of h; obtain ⟨hb2, h⟩ := h
      replace h := obd_of h; obtain ⟨x3, hx3, h⟩ := h
      refine jr_V6_1 jf_144_17 hb2 (by omega) (r_Chain_memberAt (by omega) _ _ _ _ hx3) (Nat.le_of_ble_eq_true rfl) jml_50 (Nat.le_of_ble_eq_true rfl) ?_
      refine jr_astore_A jf_144_20 jml_144 (by decide) ?_
      refine jr_aload_A jf_144_22 jg1_same ?_
      replace h := jon_or h; rcases h with ⟨rfl, h⟩ | ⟨a4, rfl, h⟩
      · refine jr_ifnonnull_n jf_144_24 ?_
        refine jr_iload_n jf_144_27 rfl (jg1_ne rfl hl3) ?_
        refine jr_goto jf_144_28 ?_
        exact r_Chain_load_38 hd ih _ _ _ _ _ _ _ _ (jg1_ne rfl hl0) (jg1_ne rfl hl1) (jg1_pre rfl hl4) h
      · refine jr_ifnonnull_s jf_144_24 ?_
        refine jr_aload jf_144_31 jg1_same ?_
        refine jr_aload_n_A jf_144_33 rfl (jg1_ne rfl hl1) ?_
        refine jr_iload_n jf_144_34 rfl (jg1_ne rfl hl3) ?_
        replace h := jgd_of h; obtain ⟨hb5, h⟩ := h
        replace h := jbd2_of h; obtain ⟨x6, μ7, hx6, h⟩ := h
        refine jr_V6_2 jf_144_35 hb5 (by omega) (r_Section_load (by omega) _ _ _ _ _ _ hx6) (Nat.le_of_ble_eq_true rfl) jml_145 (by simp only [jcats_cons, jcats_nil, cat_int, cat_long, cat_double, cat_float, cat_ref, rv_cat]; decide) ?_
        exact r_Chain_load_38 hd ih _ _ _ _ _ _ _ _ (jg1_ne rfl hl0) (jg1_ne rfl hl1) (jg1_pre rfl hl4) h
set_option maxRecDepth 10000 in
set_option maxHeartbeats 4000000 in
theorem r_Chain_load_e {N B : Nat} {SA : Nat → Nat} {d : Nat} (hd : 4 ≤ d) : ∀ (L : JLoc) (v0 : Nat) (v1 : Option Nat) (v2 : Int32) (μ : JMem) (r : Int32) (μ9 : JMem), jget L 0 = .ref v0 → jget L 1 = rv v1 → jget L 2 = .int v2 → g_Chain_load N B v0 v1 v2 μ = some (r, μ9) → jR B SA d m_Chain_load 0 L [] μ (some (.int r)) μ9 := by
  intro L v0 v1 v2 μ r μ9 hl0 hl1 hl2 h
  unfold g_Chain_load at h
  refine jr_iload_n jf_144_0 rfl hl2 ?_
  refine jr_istore_n jf_144_1 rfl jml_144 (by decide) ?_
  refine jr_iconst jf_144_2 jc_i_0 ?_
  refine jr_istore jf_144_3 jml_144 (by decide) ?_
  exact r_Chain_load_5 hd _ _ _ _ _ _ _ _ _ (jg1_ne rfl (jg1_ne rfl hl0)) (jg1_ne rfl (jg1_ne rfl hl1)) (jg1_pre rfl jg1_same) jg1_same h
set_option maxRecDepth 10000 in
set_option maxHeartbeats 4000000 in
theorem r_Chain_load {N B : Nat} {SA : Nat → Nat} {d : Nat} (hd : 4 ≤ d) : ∀ (v0 : Nat) (v1 : Option Nat) (v2 : Int32) (μ : JMem) (r : Int32) (μ9 : JMem), g_Chain_load N B v0 v1 v2 μ = some (r, μ9) → jR B SA d m_Chain_load 0 (lv_args 0 [.ref v0, rv v1, .int v2]) [] μ (some (.int r)) μ9 := by
  intro v0 v1 v2 μ r μ9 h
  exact r_Chain_load_e hd (lv_args 0 _) _ _ _ _ _ _ (by simp [lv_args, jget, rv_cat, cat_int, cat_long, cat_double, cat_float, cat_ref]) (by simp [lv_args, jget, rv_cat, cat_int, cat_long, cat_double, cat_float, cat_ref]) (by simp [lv_args, jget, rv_cat, cat_int, cat_long, cat_double, cat_float, cat_ref]) h
/-! FilterBench.back(I)Z -/
set_option maxRecDepth 10000 in
set_option maxHeartbeats 4000000 in
theorem r_B_back_82 {N B : Nat} {SA : Nat → Nat} {d : Nat} (hd : 5 ≤ d) {k38 : Nat → Nat → Int32 → Int32 → Int32 → JMem → Option (Bool × JMem)} (i38 : ∀ (L : JLoc) (v0 : Nat) (v2 : Nat) (v3 : Int32) (v4 : Int32) (v5 : Int32) (μ : JMem) (r : Bool) (μ9 : JMem), jget L 0 = .ref v0 → jget L 2 = .ref v2 → jget L 3 = .int v3 → jget L 4 = .int v4 → jget L 5 = .int v5 → k38 v0 v2 v3 v4 v5 μ = some (r, μ9) → jR B SA d m_B_back 38 L [] μ (some (.int (jb r))) μ9) : ∀ (L : JLoc) (v0 : Nat) (v2 : Nat) (v3 : Int32) (v4 : Int32) (v5 : Int32) (μ : JMem) (r : Bool) (μ9 : JMem), jget L 0 = .ref v0 → jget L 2 = .ref v2 → jget L 3 = .int v3 → jget L 4 = .int v4 → jget L 5 = .int v5 → g_B_back_82 N B k38 v0 v2 v3 v4 v5 μ = some (r, μ9) → jR B SA d m_B_back 82 L [] μ (some (.int (jb r))) μ9 := by
  intro L v0 v2 v3 v4 v5 μ r μ9 hl0 hl2 hl3 hl4 hl5 h
  unfold g_B_back_82 at h
  refine jr_iinc jf_139_82 jc_i_1 jml_139 (by decide) hl5 ?_
  refine jr_goto jf_139_85 ?_
  exact i38 _ _ _ _ _ _ _ _ _ (jg1_ne rfl hl0) (jg1_ne rfl hl2) (jg1_ne rfl hl3) (jg1_pre rfl hl4) jg1_same h
set_option maxRecDepth 10000 in
set_option maxHeartbeats 4000000 in
theorem r_B_back_38 {N B : Nat} {SA : Nat → Nat} {d : Nat} (hd : 5 ≤ d) : ∀ (n : Nat), ∀ (L : JLoc) (v0 : Nat) (v2 : Nat) (v3 : Int32) (v4 : Int32) (v5 : Int32) (μ : JMem) (r : Bool) (μ9 : JMem), jget L 0 = .ref v0 → jget L 2 = .ref v2 → jget L 3 = .int v3 → jget L 4 = .int v4 → jget L 5 = .int v5 → g_B_back_38 N B n v0 v2 v3 v4 v5 μ = some (r, μ9) → jR B SA d m_B_back 38 L [] μ (some (.int (jb r))) μ9 := by
  intro n
  induction n with
  | zero =>
    intro L v0 v2 v3 v4 v5 μ r μ9 hl0 hl2 hl3 hl4 hl5 h
    unfold g_B_back_38 at h
    cases h
  | succ n ih =>
    intro L v0 v2 v3 v4 v5 μ r μ9 hl0 hl2 hl3 hl4 hl5 h
    unfold g_B_back_38 at h
    refine jr_iload jf_139_38 hl5 ?_
    refine jr_iload_n jf_139_40 rfl hl3 ?_
    replace h := ite_or h; rcases h with ⟨hc, h⟩ | ⟨hc, h⟩
    · refine jr_if2_ge_t jf_139_41 hc ?_
      refine jr_iconst jf_139_88 jc_i_1 ?_
      obtain ⟨rfl, rfl⟩ := Prod.mk.inj (Option.some.inj h)
      exact jr_retZ (x := true) jf_139_89 jmt_139
    · refine jr_if2_ge_f jf_139_41 hc ?_
      refine jr_iload jf_139_44 hl5 ?_
      refine jr_aload_n jf_139_46 rfl hl0 ?_
      replace h := obd_of h; obtain ⟨x1, hx1, h⟩ := h
      refine jr_getA jf_139_47 hx1 ?_
      replace h := obd_of h; obtain ⟨a2, rfl, h⟩ := h
      replace h := obd_of h; obtain ⟨x3, hx3, h⟩ := h
      refine jr_arraylength jf_139_50 hx3 ?_
      replace h := ite_or h; rcases h with ⟨hc, h⟩ | ⟨hc, h⟩
      · refine jr_if2_ge_t jf_139_51 hc ?_
        refine jr_iconst jf_139_88 jc_i_1 ?_
        obtain ⟨rfl, rfl⟩ := Prod.mk.inj (Option.some.inj h)
        exact jr_retZ (x := true) jf_139_89 jmt_139
      · refine jr_if2_ge_f jf_139_51 hc ?_
        refine jr_aload_n jf_139_54 rfl hl0 ?_
        replace h := obd_of h; obtain ⟨x4, hx4, h⟩ := h
        refine jr_getA jf_139_55 hx4 ?_
        refine jr_iload jf_139_58 hl5 ?_
        replace h := obd_of h; obtain ⟨a5, rfl, h⟩ := h
        replace h := obd_of h; obtain ⟨x6, hx6, h⟩ := h
        refine jr_aaload jf_139_60 hx6 ?_
        replace h := jon_or h; rcases h with ⟨rfl, h⟩ | ⟨a7, rfl, h⟩
        · refine jr_ifnull_n jf_139_61 ?_
          exact r_B_back_82 hd ih _ _ _ _ _ _ _ _ _ hl0 hl2 hl3 hl4 hl5 h
        · refine jr_ifnull_s jf_139_61 ?_
          refine jr_aload_n jf_139_64 rfl hl0 ?_
          replace h := obd_of h; obtain ⟨x8, hx8, h⟩ := h
          refine jr_getA jf_139_65 hx8 ?_
          refine jr_iload jf_139_68 hl5 ?_
          replace h := obd_of h; obtain ⟨a9, rfl, h⟩ := h
          replace h := obd_of h; obtain ⟨x10, hx10, h⟩ := h
          refine jr_aaload jf_139_70 hx10 ?_
          refine jr_aload_n jf_139_71 rfl hl2 ?_
          replace h := obd_of h; obtain ⟨x11, hx11, h⟩ := h
          refine jr_getA jf_139_72 hx11 ?_
          refine jr_iload jf_139_75 hl4 ?_
          replace h := obd_of h; obtain ⟨a12, rfl, h⟩ := h
          replace h := jgd_of h; obtain ⟨hb13, h⟩ := h
          replace h := jbd2_of h; obtain ⟨x14, μ15, hx14, h⟩ := h
          refine jr_V6_2 jf_139_77 hb13 (by omega) (r_Chain_load (by omega) _ _ _ _ _ _ hx14) (Nat.le_of_ble_eq_true rfl) jml_144 (by simp only [jcats_cons, jcats_nil, cat_int, cat_long, cat_double, cat_float, cat_ref, rv_cat]; decide) ?_
          refine jr_istore jf_139_80 jml_139 (by decide) ?_
          exact r_B_back_82 hd ih _ _ _ _ _ _ _ _ _ (jg1_ne rfl hl0) (jg1_ne rfl hl2) (jg1_pre rfl hl3) jg1_same (jg1_ne rfl hl5) h
set_option maxRecDepth 10000 in
set_option maxHeartbeats 4000000 in
theorem r_B_back_e {N B : Nat} {SA : Nat → Nat} {d : Nat} (hd : 5 ≤ d) : ∀ (L : JLoc) (v0 : Nat) (v1 : Int32) (μ : JMem) (r : Bool) (μ9 : JMem), jget L 0 = .ref v0 → jget L 1 = .int v1 → g_B_back N B v0 v1 μ = some (r, μ9) → jR B SA d m_B_back 0 L [] μ (some (.int (jb r))) μ9 := by
  intro L v0 v1 μ r μ9 hl0 hl1 h
  unfold g_B_back at h
  refine jr_aload_n jf_139_0 rfl hl0 ?_
  refine jr_iload_n jf_139_1 rfl hl1 ?_
  replace h := jgd_of h; obtain ⟨hb1, h⟩ := h
  replace h := obd_of h; obtain ⟨x2, hx2, h⟩ := h
  refine jr_V6_1 jf_139_2 hb1 (by omega) (r_B_keptAt (by omega) _ _ _ _ hx2) (Nat.le_of_ble_eq_true rfl) jml_140 (Nat.le_of_ble_eq_true rfl) ?_
  refine jr_astore_n_A jf_139_5 rfl jml_139 (by decide) ?_
  refine jr_aload_n_A jf_139_6 rfl jg1_same ?_
  replace h := jon_or h; rcases h with ⟨rfl, h⟩ | ⟨a3, rfl, h⟩
  · refine jr_ifnonnull_n jf_139_7 ?_
    refine jr_iconst jf_139_10 jc_i_0 ?_
    obtain ⟨rfl, rfl⟩ := Prod.mk.inj (Option.some.inj h)
    exact jr_retZ (x := false) jf_139_11 jmt_139
  · refine jr_ifnonnull_s jf_139_7 ?_
    refine jr_aload_n jf_139_12 rfl (jg1_ne rfl hl0) ?_
    refine jr_aload_n jf_139_13 rfl jg1_same ?_
    replace h := obd_of h; obtain ⟨x4, hx4, h⟩ := h
    refine jr_getA jf_139_14 hx4 ?_
    replace h := jgd_of h; obtain ⟨hb5, h⟩ := h
    replace h := jbd2_of h; obtain ⟨x6, μ7, hx6, h⟩ := h
    refine jr_V6_1 jf_139_17 hb5 (by omega) (r_B_gather (by omega) _ _ _ _ _ hx6) (Nat.le_of_ble_eq_true rfl) jml_126 (by simp only [jcats_cons, jcats_nil, cat_int, cat_long, cat_double, cat_float, cat_ref, rv_cat]; decide) ?_
    refine jr_istore_n jf_139_20 rfl jml_139 (by decide) ?_
    refine jr_aload_n jf_139_21 rfl (jg1_ne rfl (jg1_ne rfl hl0)) ?_
    refine jr_aload_n jf_139_22 rfl (jg1_pre (by first | rfl | exact rv_cat _) jg1_same) ?_
    refine jr_iload_n jf_139_23 rfl jg1_same ?_
    replace h := jgd_of h; obtain ⟨hb8, h⟩ := h
    replace h := obd_of h; obtain ⟨x9, hx9, h⟩ := h
    refine jr_V6_2 jf_139_24 hb8 (by omega) (r_B_hasShapeOf (by omega) _ _ _ _ _ hx9) (Nat.le_of_ble_eq_true rfl) jml_141 (by simp only [jcats_cons, jcats_nil, cat_int, cat_long, cat_double, cat_float, cat_ref, rv_cat]; decide) ?_
    replace h := ite_or h; rcases h with ⟨hc, h⟩ | ⟨hc, h⟩
    · refine jr_ifz_ne_t jf_139_27 hc ?_
      refine jr_iconst jf_139_32 jc_i_0 ?_
      refine jr_istore jf_139_33 jml_139 (by decide) ?_
      refine jr_iconst jf_139_35 jc_i_0 ?_
      refine jr_istore jf_139_36 jml_139 (by decide) ?_
      exact r_B_back_38 hd _ _ _ _ _ _ _ _ _ _ (jg1_ne rfl (jg1_ne rfl (jg1_ne rfl (jg1_ne rfl hl0)))) (jg1_ne rfl (jg1_ne rfl (jg1_pre (by first | rfl | exact rv_cat _) jg1_same))) (jg1_ne rfl (jg1_pre rfl jg1_same)) (jg1_pre rfl jg1_same) jg1_same h
    · refine jr_ifz_ne_f jf_139_27 hc ?_
      refine jr_iconst jf_139_30 jc_i_0 ?_
      obtain ⟨rfl, rfl⟩ := Prod.mk.inj (Option.some.inj h)
      exact jr_retZ (x := false) jf_139_31 jmt_139
set_option maxRecDepth 10000 in
set_option maxHeartbeats 4000000 in
theorem r_B_back {N B : Nat} {SA : Nat → Nat} {d : Nat} (hd : 5 ≤ d) : ∀ (v0 : Nat) (v1 : Int32) (μ : JMem) (r : Bool) (μ9 : JMem), g_B_back N B v0 v1 μ = some (r, μ9) → jR B SA d m_B_back 0 (lv_args 0 [.ref v0, .int v1]) [] μ (some (.int (jb r))) μ9 := by
  intro v0 v1 μ r μ9 h
  exact r_B_back_e hd (lv_args 0 _) _ _ _ _ _ (by simp [lv_args, jget, rv_cat, cat_int, cat_long, cat_double, cat_float, cat_ref]) (by simp [lv_args, jget, rv_cat, cat_int, cat_long, cat_double, cat_float, cat_ref]) h
/-! FilterBench$Row.holdsValues([JI)Z -/
set_option maxRecDepth 10000 in
set_option maxHeartbeats 4000000 in
theorem r_Row_holdsValues_2 {N B : Nat} {SA : Nat → Nat} {d : Nat} (hd : 2 ≤ d) : ∀ (n : Nat), ∀ (L : JLoc) (v0 : Nat) (v1 : Option Nat) (v2 : Int32) (v3 : Int32) (μ : JMem) (r : Bool), jget L 0 = .ref v0 → jget L 1 = rv v1 → jget L 2 = .int v2 → jget L 3 = .int v3 → g_Row_holdsValues_2 N n v0 v1 v2 v3 μ.1 = some r → jR B SA d m_Row_holdsValues 2 L [] μ (some (.int (jb r))) μ := by
  intro n
  induction n with
  | zero =>
    intro L v0 v1 v2 v3 μ r hl0 hl1 hl2 hl3 h
    unfold g_Row_holdsValues_2 at h
    cases h
  | succ n ih =>
    intro L v0 v1 v2 v3 μ r hl0 hl1 hl2 hl3 h
    unfold g_Row_holdsValues_2 at h
    refine jr_iload_n jf_150_2 rfl hl3 ?_
    refine jr_aload_n jf_150_3 rfl hl0 ?_
    replace h := obd_of h; obtain ⟨x1, hx1, h⟩ := h
    refine jr_getA jf_150_4 hx1 ?_
    replace h := obd_of h; obtain ⟨a2, rfl, h⟩ := h
    replace h := obd_of h; obtain ⟨x3, hx3, h⟩ := h
    refine jr_arraylength jf_150_7 hx3 ?_
    replace h := ite_or h; rcases h with ⟨hc, h⟩ | ⟨hc, h⟩
    · refine jr_if2_ge_t jf_150_8 hc ?_
      refine jr_iconst jf_150_47 jc_i_1 ?_
      obtain rfl := Option.some.inj h
      exact jr_retZ (x := true) jf_150_48 jmt_150
    · refine jr_if2_ge_f jf_150_8 hc ?_
      refine jr_iload_n jf_150_11 rfl hl2 ?_
      refine jr_iload_n jf_150_12 rfl hl3 ?_
      refine jr_iadd jf_150_13 ?_
      replace h := ite_or h; rcases h with ⟨hc, h⟩ | ⟨hc, h⟩
      · refine jr_if_lt_t jf_150_14 hc ?_
        refine jr_iconst jf_150_39 jc_i_0 ?_
        obtain rfl := Option.some.inj h
        exact jr_retZ (x := false) jf_150_40 jmt_150
      · refine jr_if_lt_f jf_150_14 hc ?_
        refine jr_iload_n jf_150_17 rfl hl2 ?_
        refine jr_iload_n jf_150_18 rfl hl3 ?_
        refine jr_iadd jf_150_19 ?_
        refine jr_aload_n_A jf_150_20 rfl hl1 ?_
        replace h := obd_of h; obtain ⟨a4, rfl, h⟩ := h
        replace h := obd_of h; obtain ⟨x5, hx5, h⟩ := h
        refine jr_arraylength jf_150_21 hx5 ?_
        replace h := ite_or h; rcases h with ⟨hc, h⟩ | ⟨hc, h⟩
        · refine jr_if2_ge_t jf_150_22 hc ?_
          refine jr_iconst jf_150_39 jc_i_0 ?_
          obtain rfl := Option.some.inj h
          exact jr_retZ (x := false) jf_150_40 jmt_150
        · refine jr_if2_ge_f jf_150_22 hc ?_
          refine jr_aload_n jf_150_25 rfl hl1 ?_
          refine jr_iload_n jf_150_26 rfl hl2 ?_
          refine jr_iload_n jf_150_27 rfl hl3 ?_
          refine jr_iadd jf_150_28 ?_
          replace h := obd_of h; obtain ⟨x6, hx6, h⟩ := h
          refine jr_laload jf_150_29 hx6 ?_
          refine jr_aload_n jf_150_30 rfl hl0 ?_
          refine jr_iload_n jf_150_31 rfl hl3 ?_
          replace h := jgd_of h; obtain ⟨hb7, h⟩ := h
          replace h := obd_of h; obtain ⟨x8, hx8, h⟩ := h
          refine jr_V6_1 jf_150_32 hb7 (by omega) (r_Row_at (by omega) _ _ _ _ hx8) (Nat.le_of_ble_eq_true rfl) jml_38 (Nat.le_of_ble_eq_true rfl) ?_
          refine jr_lcmp jf_150_35 ?_
          replace h := ite_or h; rcases h with ⟨hc, h⟩ | ⟨hc, h⟩
          · refine jr_ifl_eq_t jf_150_36 hc ?_
            refine jr_iinc jf_150_41 jc_i_1 jml_150 (by decide) hl3 ?_
            refine jr_goto jf_150_44 ?_
            exact ih _ _ (some _) _ _ _ _ (jg1_ne rfl hl0) (jg1_ne rfl hl1) (jg1_pre rfl hl2) jg1_same h
          · refine jr_ifl_eq_f jf_150_36 hc ?_
            refine jr_iconst jf_150_39 jc_i_0 ?_
            obtain rfl := Option.some.inj h
            exact jr_retZ (x := false) jf_150_40 jmt_150
set_option maxRecDepth 10000 in
set_option maxHeartbeats 4000000 in
theorem r_Row_holdsValues_e {N B : Nat} {SA : Nat → Nat} {d : Nat} (hd : 2 ≤ d) : ∀ (L : JLoc) (v0 : Nat) (v1 : Option Nat) (v2 : Int32) (μ : JMem) (r : Bool), jget L 0 = .ref v0 → jget L 1 = rv v1 → jget L 2 = .int v2 → g_Row_holdsValues N v0 v1 v2 μ.1 = some r → jR B SA d m_Row_holdsValues 0 L [] μ (some (.int (jb r))) μ := by
  intro L v0 v1 v2 μ r hl0 hl1 hl2 h
  unfold g_Row_holdsValues at h
  refine jr_iconst jf_150_0 jc_i_0 ?_
  refine jr_istore_n jf_150_1 rfl jml_150 (by decide) ?_
  exact r_Row_holdsValues_2 hd _ _ _ _ _ _ _ _ (jg1_ne rfl hl0) (jg1_ne rfl hl1) (jg1_pre rfl hl2) jg1_same h
set_option maxRecDepth 10000 in
set_option maxHeartbeats 4000000 in
theorem r_Row_holdsValues {N B : Nat} {SA : Nat → Nat} {d : Nat} (hd : 2 ≤ d) : ∀ (v0 : Nat) (v1 : Option Nat) (v2 : Int32) (μ : JMem) (r : Bool), g_Row_holdsValues N v0 v1 v2 μ.1 = some r → jR B SA d m_Row_holdsValues 0 (lv_args 0 [.ref v0, rv v1, .int v2]) [] μ (some (.int (jb r))) μ := by
  intro v0 v1 v2 μ r h
  exact r_Row_holdsValues_e hd (lv_args 0 _) _ _ _ _ _ (by simp [lv_args, jget, rv_cat, cat_int, cat_long, cat_double, cat_float, cat_ref]) (by simp [lv_args, jget, rv_cat, cat_int, cat_long, cat_double, cat_float, cat_ref]) (by simp [lv_args, jget, rv_cat, cat_int, cat_long, cat_double, cat_float, cat_ref]) h
/-! FilterBench$Section.holdsValues([JI)Z -/
set_option maxRecDepth 10000 in
set_option maxHeartbeats 4000000 in
theorem r_Section_holdsValues_e {N B : Nat} {SA : Nat → Nat} {d : Nat} (hd : 3 ≤ d) : ∀ (L : JLoc) (v0 : Nat) (v1 : Option Nat) (v2 : Int32) (μ : JMem) (r : Bool), jget L 0 = .ref v0 → jget L 1 = rv v1 → jget L 2 = .int v2 → g_Section_holdsValues N v0 v1 v2 μ.1 = some r → jR B SA d m_Section_holdsValues 0 L [] μ (some (.int (jb r))) μ := by
  intro L v0 v1 v2 μ r hl0 hl1 hl2 h
  unfold g_Section_holdsValues at h
  refine jr_iload_n jf_149_0 rfl hl2 ?_
  replace h := ite_or h; rcases h with ⟨hc, h⟩ | ⟨hc, h⟩
  · refine jr_if_lt_t jf_149_1 hc ?_
    refine jr_iconst jf_149_39 jc_i_0 ?_
    obtain rfl := Option.some.inj h
    exact jr_retZ (x := false) jf_149_40 jmt_149
  · refine jr_if_lt_f jf_149_1 hc ?_
    refine jr_iload_n jf_149_4 rfl hl2 ?_
    refine jr_aload_n_A jf_149_5 rfl hl1 ?_
    replace h := obd_of h; obtain ⟨a1, rfl, h⟩ := h
    replace h := obd_of h; obtain ⟨x2, hx2, h⟩ := h
    refine jr_arraylength jf_149_6 hx2 ?_
    replace h := ite_or h; rcases h with ⟨hc, h⟩ | ⟨hc, h⟩
    · refine jr_if2_ge_t jf_149_7 hc ?_
      refine jr_iconst jf_149_39 jc_i_0 ?_
      obtain rfl := Option.some.inj h
      exact jr_retZ (x := false) jf_149_40 jmt_149
    · refine jr_if2_ge_f jf_149_7 hc ?_
      refine jr_aload_n jf_149_10 rfl hl1 ?_
      refine jr_iload_n jf_149_11 rfl hl2 ?_
      replace h := obd_of h; obtain ⟨x3, hx3, h⟩ := h
      refine jr_laload jf_149_12 hx3 ?_
      refine jr_aload_n jf_149_13 rfl hl0 ?_
      replace h := obd_of h; obtain ⟨x4, hx4, h⟩ := h
      refine jr_getJ jf_149_14 hx4 ?_
      refine jr_lcmp jf_149_17 ?_
      replace h := ite_or h; rcases h with ⟨hc, h⟩ | ⟨hc, h⟩
      · refine jr_ifl_ne_f jf_149_18 hc ?_
        refine jr_aload_n jf_149_21 rfl hl0 ?_
        replace h := obd_of h; obtain ⟨x5, hx5, h⟩ := h
        refine jr_getA jf_149_22 hx5 ?_
        refine jr_aload_n jf_149_25 rfl hl1 ?_
        refine jr_iload_n jf_149_26 rfl hl2 ?_
        refine jr_iconst jf_149_27 jc_i_1 ?_
        refine jr_iadd jf_149_28 ?_
        replace h := obd_of h; obtain ⟨a6, rfl, h⟩ := h
        replace h := jgd_of h; obtain ⟨hb7, h⟩ := h
        replace h := obd_of h; obtain ⟨x8, hx8, h⟩ := h
        refine jr_V6_2 jf_149_29 hb7 (by omega) (r_Row_holdsValues (by omega) _ _ _ _ _ hx8) (Nat.le_of_ble_eq_true rfl) jml_150 (by simp only [jcats_cons, jcats_nil, cat_int, cat_long, cat_double, cat_float, cat_ref, rv_cat]; decide) ?_
        replace h := ite_or h; rcases h with ⟨hc, h⟩ | ⟨hc, h⟩
        · refine jr_ifz_eq_f jf_149_32 hc ?_
          refine jr_iconst jf_149_35 jc_i_1 ?_
          refine jr_goto jf_149_36 ?_
          obtain rfl := Option.some.inj h
          exact jr_retZ (x := true) jf_149_40 jmt_149
        · refine jr_ifz_eq_t jf_149_32 hc ?_
          refine jr_iconst jf_149_39 jc_i_0 ?_
          obtain rfl := Option.some.inj h
          exact jr_retZ (x := false) jf_149_40 jmt_149
      · refine jr_ifl_ne_t jf_149_18 hc ?_
        refine jr_iconst jf_149_39 jc_i_0 ?_
        obtain rfl := Option.some.inj h
        exact jr_retZ (x := false) jf_149_40 jmt_149
set_option maxRecDepth 10000 in
set_option maxHeartbeats 4000000 in
theorem r_Section_holdsValues {N B : Nat} {SA : Nat → Nat} {d : Nat} (hd : 3 ≤ d) : ∀ (v0 : Nat) (v1 : Option Nat) (v2 : Int32) (μ : JMem) (r : Bool), g_Section_holdsValues N v0 v1 v2 μ.1 = some r → jR B SA d m_Section_holdsValues 0 (lv_args 0 [.ref v0, rv v1, .int v2]) [] μ (some (.int (jb r))) μ := by
  intro v0 v1 v2 μ r h
  exact r_Section_holdsValues_e hd (lv_args 0 _) _ _ _ _ _ (by simp [lv_args, jget, rv_cat, cat_int, cat_long, cat_double, cat_float, cat_ref]) (by simp [lv_args, jget, rv_cat, cat_int, cat_long, cat_double, cat_float, cat_ref]) (by simp [lv_args, jget, rv_cat, cat_int, cat_long, cat_double, cat_float, cat_ref]) h
/-! FilterBench$Chain.holdsValues([JI)Z -/
set_option maxRecDepth 10000 in
set_option maxHeartbeats 4000000 in
theorem r_Chain_holdsValues_56 {N B : Nat} {SA : Nat → Nat} {d : Nat} (hd : 4 ≤ d) : ∀ (n : Nat), ∀ (L : JLoc) (v0 : Nat) (v1 : Option Nat) (v3 : Int32) (v4 : Int32) (μ : JMem) (r : Bool), jget L 0 = .ref v0 → jget L 1 = rv v1 → jget L 3 = .int v3 → jget L 4 = .int v4 → g_Chain_holdsValues_56 N n v0 v1 v3 v4 μ.1 = some r → jR B SA d m_Chain_holdsValues 56 L [] μ (some (.int (jb r))) μ := by
  intro n
  induction n with
  | zero =>
    intro L v0 v1 v3 v4 μ r hl0 hl1 hl3 hl4 h
    unfold g_Chain_holdsValues_56 at h
    cases h
  | succ n ih =>
    intro L v0 v1 v3 v4 μ r hl0 hl1 hl3 hl4 h
    unfold g_Chain_holdsValues_56 at h
    refine jr_iload jf_148_56 hl4 ?_
    refine jr_aload_n jf_148_58 rfl hl0 ?_
    replace h := obd_of h; obtain ⟨x1, hx1, h⟩ := h
    refine jr_getI jf_148_59 hx1 ?_
    replace h := ite_or h; rcases h with ⟨hc, h⟩ | ⟨hc, h⟩
    · refine jr_if2_ge_t jf_148_62 hc ?_
      refine jr_iconst jf_148_110 jc_i_1 ?_
      obtain rfl := Option.some.inj h
      exact jr_retZ (x := true) jf_148_111 jmt_148
    · refine jr_if2_ge_f jf_148_62 hc ?_
      refine jr_aload_n jf_148_65 rfl hl0 ?_
      refine jr_iload jf_148_66 hl4 ?_
      replace h := jgd_of h; obtain ⟨hb2, h⟩ := h
      replace h := obd_of h; obtain ⟨x3, hx3, h⟩ := h
      refine jr_V6_1 jf_148_68 hb2 (by omega) (r_Chain_loopAt (by omega) _ _ _ _ hx3) (Nat.le_of_ble_eq_true rfl) jml_68 (Nat.le_of_ble_eq_true rfl) ?_
      refine jr_astore_A jf_148_71 jml_148 (by decide) ?_
      refine jr_aload_A jf_148_73 jg1_same ?_
      replace h := jon_or h; rcases h with ⟨rfl, h⟩ | ⟨a4, rfl, h⟩
      · refine jr_ifnull_n jf_148_75 ?_
        refine jr_iconst jf_148_91 jc_i_0 ?_
        obtain rfl := Option.some.inj h
        exact jr_retZ (x := false) jf_148_92 jmt_148
      · refine jr_ifnull_s jf_148_75 ?_
        refine jr_aload jf_148_78 jg1_same ?_
        replace h := obd_of h; obtain ⟨x5, hx5, h⟩ := h
        refine jr_getA jf_148_80 hx5 ?_
        refine jr_aload_n_A jf_148_83 rfl (jg1_ne rfl hl1) ?_
        refine jr_iload_n jf_148_84 rfl (jg1_ne rfl hl3) ?_
        replace h := obd_of h; obtain ⟨a6, rfl, h⟩ := h
        replace h := jgd_of h; obtain ⟨hb7, h⟩ := h
        replace h := obd_of h; obtain ⟨x8, hx8, h⟩ := h
        refine jr_V6_2 jf_148_85 hb7 (by omega) (r_Row_holdsValues (by omega) _ _ _ _ _ hx8) (Nat.le_of_ble_eq_true rfl) jml_150 (by simp only [jcats_cons, jcats_nil, cat_int, cat_long, cat_double, cat_float, cat_ref, rv_cat]; decide) ?_
        replace h := ite_or h; rcases h with ⟨hc, h⟩ | ⟨hc, h⟩
        · refine jr_ifz_ne_t jf_148_88 hc ?_
          refine jr_iload_n jf_148_93 rfl (jg1_ne rfl hl3) ?_
          refine jr_aload jf_148_94 jg1_same ?_
          replace h := obd_of h; obtain ⟨x9, hx9, h⟩ := h
          refine jr_getA jf_148_96 hx9 ?_
          replace h := obd_of h; obtain ⟨a10, rfl, h⟩ := h
          replace h := jgd_of h; obtain ⟨hb11, h⟩ := h
          replace h := obd_of h; obtain ⟨x12, hx12, h⟩ := h
          refine jr_V6_0 jf_148_99 hb11 (by omega) (r_Row_size (by omega) _ _ _ hx12) (Nat.le_of_ble_eq_true rfl) jml_100 (Nat.le_of_ble_eq_true rfl) ?_
          refine jr_iadd jf_148_102 ?_
          refine jr_istore_n jf_148_103 rfl jml_148 (by decide) ?_
          refine jr_iinc jf_148_104 jc_i_1 jml_148 (by decide) (jg1_ne rfl (jg1_pre rfl hl4)) ?_
          refine jr_goto jf_148_107 ?_
          exact ih _ _ _ _ _ _ _ (jg1_ne rfl (jg1_ne rfl (jg1_ne rfl hl0))) (jg1_ne rfl (jg1_ne rfl (jg1_ne rfl hl1))) (jg1_pre rfl jg1_same) jg1_same h
        · refine jr_ifz_ne_f jf_148_88 hc ?_
          refine jr_iconst jf_148_91 jc_i_0 ?_
          obtain rfl := Option.some.inj h
          exact jr_retZ (x := false) jf_148_92 jmt_148
set_option maxRecDepth 10000 in
set_option maxHeartbeats 4000000 in
theorem r_Chain_holdsValues_5 {N B : Nat} {SA : Nat → Nat} {d : Nat} (hd : 4 ≤ d) : ∀ (n : Nat), ∀ (L : JLoc) (v0 : Nat) (v1 : Option Nat) (v3 : Int32) (v4 : Int32) (μ : JMem) (r : Bool), jget L 0 = .ref v0 → jget L 1 = rv v1 → jget L 3 = .int v3 → jget L 4 = .int v4 → g_Chain_holdsValues_5 N n v0 v1 v3 v4 μ.1 = some r → jR B SA d m_Chain_holdsValues 5 L [] μ (some (.int (jb r))) μ := by
  intro n
  induction n with
  | zero =>
    intro L v0 v1 v3 v4 μ r hl0 hl1 hl3 hl4 h
    unfold g_Chain_holdsValues_5 at h
    cases h
  | succ n ih =>
    intro L v0 v1 v3 v4 μ r hl0 hl1 hl3 hl4 h
    unfold g_Chain_holdsValues_5 at h
    refine jr_iload jf_148_5 hl4 ?_
    refine jr_aload_n jf_148_7 rfl hl0 ?_
    replace h := obd_of h; obtain ⟨x1, hx1, h⟩ := h
    refine jr_getI jf_148_8 hx1 ?_
    replace h := ite_or h; rcases h with ⟨hc, h⟩ | ⟨hc, h⟩
    · refine jr_if2_ge_t jf_148_11 hc ?_
      refine jr_iconst jf_148_53 jc_i_0 ?_
      refine jr_istore jf_148_54 jml_148 (by decide) ?_
      exact r_Chain_holdsValues_56 hd _ _ _ _ _ _ _ _ (jg1_ne rfl hl0) (jg1_ne rfl hl1) (jg1_pre rfl hl3) jg1_same h
    · refine jr_if2_ge_f jf_148_11 hc ?_
      refine jr_aload_n jf_148_14 rfl hl0 ?_
      refine jr_iload jf_148_15 hl4 ?_
      replace h := jgd_of h; obtain ⟨hb2, h⟩ := h
      replace h := obd_of h; obtain ⟨x3, hx3, h⟩ := h
      refine jr_V6_1 jf_148_17 hb2 (by omega) (r_Chain_memberAt (by omega) _ _ _ _ hx3) (Nat.le_of_ble_eq_true rfl) jml_50 (Nat.le_of_ble_eq_true rfl) ?_
      refine jr_astore_A jf_148_20 jml_148 (by decide) ?_
      refine jr_aload_A jf_148_22 jg1_same ?_
      replace h := jon_or h; rcases h with ⟨rfl, h⟩ | ⟨a4, rfl, h⟩
      · refine jr_ifnull_n jf_148_24 ?_
        refine jr_iconst jf_148_37 jc_i_0 ?_
        obtain rfl := Option.some.inj h
        exact jr_retZ (x := false) jf_148_38 jmt_148
      · refine jr_ifnull_s jf_148_24 ?_
        refine jr_aload jf_148_27 jg1_same ?_
        refine jr_aload_n_A jf_148_29 rfl (jg1_ne rfl hl1) ?_
        refine jr_iload_n jf_148_30 rfl (jg1_ne rfl hl3) ?_
        replace h := jgd_of h; obtain ⟨hb5, h⟩ := h
        replace h := obd_of h; obtain ⟨x6, hx6, h⟩ := h
        refine jr_V6_2 jf_148_31 hb5 (by omega) (r_Section_holdsValues (by omega) _ _ _ _ _ hx6) (Nat.le_of_ble_eq_true rfl) jml_149 (by simp only [jcats_cons, jcats_nil, cat_int, cat_long, cat_double, cat_float, cat_ref, rv_cat]; decide) ?_
        replace h := ite_or h; rcases h with ⟨hc, h⟩ | ⟨hc, h⟩
        · refine jr_ifz_ne_t jf_148_34 hc ?_
          refine jr_iload_n jf_148_39 rfl (jg1_ne rfl hl3) ?_
          refine jr_aload jf_148_40 jg1_same ?_
          replace h := jgd_of h; obtain ⟨hb7, h⟩ := h
          replace h := obd_of h; obtain ⟨x8, hx8, h⟩ := h
          refine jr_V6_0 jf_148_42 hb7 (by omega) (r_Section_valueCount (by omega) _ _ _ hx8) (Nat.le_of_ble_eq_true rfl) jml_133 (Nat.le_of_ble_eq_true rfl) ?_
          refine jr_iadd jf_148_45 ?_
          refine jr_istore_n jf_148_46 rfl jml_148 (by decide) ?_
          refine jr_iinc jf_148_47 jc_i_1 jml_148 (by decide) (jg1_ne rfl (jg1_pre rfl hl4)) ?_
          refine jr_goto jf_148_50 ?_
          exact ih _ _ _ _ _ _ _ (jg1_ne rfl (jg1_ne rfl (jg1_ne rfl hl0))) (jg1_ne rfl (jg1_ne rfl (jg1_ne rfl hl1))) (jg1_pre rfl jg1_same) jg1_same h
        · refine jr_ifz_ne_f jf_148_34 hc ?_
          refine jr_iconst jf_148_37 jc_i_0 ?_
          obtain rfl := Option.some.inj h
          exact jr_retZ (x := false) jf_148_38 jmt_148
set_option maxRecDepth 10000 in
set_option maxHeartbeats 4000000 in
theorem r_Chain_holdsValues_e {N B : Nat} {SA : Nat → Nat} {d : Nat} (hd : 4 ≤ d) : ∀ (L : JLoc) (v0 : Nat) (v1 : Option Nat) (v2 : Int32) (μ : JMem) (r : Bool), jget L 0 = .ref v0 → jget L 1 = rv v1 → jget L 2 = .int v2 → g_Chain_holdsValues N v0 v1 v2 μ.1 = some r → jR B SA d m_Chain_holdsValues 0 L [] μ (some (.int (jb r))) μ := by
  intro L v0 v1 v2 μ r hl0 hl1 hl2 h
  unfold g_Chain_holdsValues at h
  refine jr_iload_n jf_148_0 rfl hl2 ?_
  refine jr_istore_n jf_148_1 rfl jml_148 (by decide) ?_
  refine jr_iconst jf_148_2 jc_i_0 ?_
  refine jr_istore jf_148_3 jml_148 (by decide) ?_
  exact r_Chain_holdsValues_5 hd _ _ _ _ _ _ _ _ (jg1_ne rfl (jg1_ne rfl hl0)) (jg1_ne rfl (jg1_ne rfl hl1)) (jg1_pre rfl jg1_same) jg1_same h
set_option maxRecDepth 10000 in
set_option maxHeartbeats 4000000 in
theorem r_Chain_holdsValues {N B : Nat} {SA : Nat → Nat} {d : Nat} (hd : 4 ≤ d) : ∀ (v0 : Nat) (v1 : Option Nat) (v2 : Int32) (μ : JMem) (r : Bool), g_Chain_holdsValues N v0 v1 v2 μ.1 = some r → jR B SA d m_Chain_holdsValues 0 (lv_args 0 [.ref v0, rv v1, .int v2]) [] μ (some (.int (jb r))) μ := by
  intro v0 v1 v2 μ r h
  exact r_Chain_holdsValues_e hd (lv_args 0 _) _ _ _ _ _ (by simp [lv_args, jget, rv_cat, cat_int, cat_long, cat_double, cat_float, cat_ref]) (by simp [lv_args, jget, rv_cat, cat_int, cat_long, cat_double, cat_float, cat_ref]) (by simp [lv_args, jget, rv_cat, cat_int, cat_long, cat_double, cat_float, cat_ref]) h
/-! FilterBench.same(I)Z -/
set_option maxRecDepth 10000 in
set_option maxHeartbeats 4000000 in
theorem r_B_same_100 {N B : Nat} {SA : Nat → Nat} {d : Nat} (hd : 5 ≤ d) {k38 : Nat → Nat → Int32 → Int32 → Int32 → JMem → Option (Bool × JMem)} (i38 : ∀ (L : JLoc) (v0 : Nat) (v2 : Nat) (v3 : Int32) (v4 : Int32) (v5 : Int32) (μ : JMem) (r : Bool) (μ9 : JMem), jget L 0 = .ref v0 → jget L 2 = .ref v2 → jget L 3 = .int v3 → jget L 4 = .int v4 → jget L 5 = .int v5 → k38 v0 v2 v3 v4 v5 μ = some (r, μ9) → jR B SA d m_B_same 38 L [] μ (some (.int (jb r))) μ9) : ∀ (L : JLoc) (v0 : Nat) (v2 : Nat) (v3 : Int32) (v4 : Int32) (v5 : Int32) (μ : JMem) (r : Bool) (μ9 : JMem), jget L 0 = .ref v0 → jget L 2 = .ref v2 → jget L 3 = .int v3 → jget L 4 = .int v4 → jget L 5 = .int v5 → g_B_same_100 N B k38 v0 v2 v3 v4 v5 μ = some (r, μ9) → jR B SA d m_B_same 100 L [] μ (some (.int (jb r))) μ9 := by
  intro L v0 v2 v3 v4 v5 μ r μ9 hl0 hl2 hl3 hl4 hl5 h
  unfold g_B_same_100 at h
  refine jr_iinc jf_147_100 jc_i_1 jml_147 (by decide) hl5 ?_
  refine jr_goto jf_147_103 ?_
  exact i38 _ _ _ _ _ _ _ _ _ (jg1_ne rfl hl0) (jg1_ne rfl hl2) (jg1_ne rfl hl3) (jg1_pre rfl hl4) jg1_same h
set_option maxRecDepth 10000 in
set_option maxHeartbeats 4000000 in
theorem r_B_same_38 {N B : Nat} {SA : Nat → Nat} {d : Nat} (hd : 5 ≤ d) : ∀ (n : Nat), ∀ (L : JLoc) (v0 : Nat) (v2 : Nat) (v3 : Int32) (v4 : Int32) (v5 : Int32) (μ : JMem) (r : Bool) (μ9 : JMem), jget L 0 = .ref v0 → jget L 2 = .ref v2 → jget L 3 = .int v3 → jget L 4 = .int v4 → jget L 5 = .int v5 → g_B_same_38 N B n v0 v2 v3 v4 v5 μ = some (r, μ9) → jR B SA d m_B_same 38 L [] μ (some (.int (jb r))) μ9 := by
  intro n
  induction n with
  | zero =>
    intro L v0 v2 v3 v4 v5 μ r μ9 hl0 hl2 hl3 hl4 hl5 h
    unfold g_B_same_38 at h
    cases h
  | succ n ih =>
    intro L v0 v2 v3 v4 v5 μ r μ9 hl0 hl2 hl3 hl4 hl5 h
    unfold g_B_same_38 at h
    refine jr_iload jf_147_38 hl5 ?_
    refine jr_iload_n jf_147_40 rfl hl3 ?_
    replace h := ite_or h; rcases h with ⟨hc, h⟩ | ⟨hc, h⟩
    · refine jr_if2_ge_t jf_147_41 hc ?_
      refine jr_iconst jf_147_106 jc_i_1 ?_
      obtain ⟨rfl, rfl⟩ := Prod.mk.inj (Option.some.inj h)
      exact jr_retZ (x := true) jf_147_107 jmt_147
    · refine jr_if2_ge_f jf_147_41 hc ?_
      refine jr_iload jf_147_44 hl5 ?_
      refine jr_aload_n jf_147_46 rfl hl0 ?_
      replace h := obd_of h; obtain ⟨x1, hx1, h⟩ := h
      refine jr_getA jf_147_47 hx1 ?_
      replace h := obd_of h; obtain ⟨a2, rfl, h⟩ := h
      replace h := obd_of h; obtain ⟨x3, hx3, h⟩ := h
      refine jr_arraylength jf_147_50 hx3 ?_
      replace h := ite_or h; rcases h with ⟨hc, h⟩ | ⟨hc, h⟩
      · refine jr_if2_ge_t jf_147_51 hc ?_
        refine jr_iconst jf_147_106 jc_i_1 ?_
        obtain ⟨rfl, rfl⟩ := Prod.mk.inj (Option.some.inj h)
        exact jr_retZ (x := true) jf_147_107 jmt_147
      · refine jr_if2_ge_f jf_147_51 hc ?_
        refine jr_aload_n jf_147_54 rfl hl0 ?_
        replace h := obd_of h; obtain ⟨x4, hx4, h⟩ := h
        refine jr_getA jf_147_55 hx4 ?_
        refine jr_iload jf_147_58 hl5 ?_
        replace h := obd_of h; obtain ⟨a5, rfl, h⟩ := h
        replace h := obd_of h; obtain ⟨x6, hx6, h⟩ := h
        refine jr_aaload jf_147_60 hx6 ?_
        replace h := jon_or h; rcases h with ⟨rfl, h⟩ | ⟨a7, rfl, h⟩
        · refine jr_ifnull_n jf_147_61 ?_
          exact r_B_same_100 hd ih _ _ _ _ _ _ _ _ _ hl0 hl2 hl3 hl4 hl5 h
        · refine jr_ifnull_s jf_147_61 ?_
          refine jr_aload_n jf_147_64 rfl hl0 ?_
          replace h := obd_of h; obtain ⟨x8, hx8, h⟩ := h
          refine jr_getA jf_147_65 hx8 ?_
          refine jr_iload jf_147_68 hl5 ?_
          replace h := obd_of h; obtain ⟨a9, rfl, h⟩ := h
          replace h := obd_of h; obtain ⟨x10, hx10, h⟩ := h
          refine jr_aaload jf_147_70 hx10 ?_
          refine jr_aload_n jf_147_71 rfl hl2 ?_
          replace h := obd_of h; obtain ⟨x11, hx11, h⟩ := h
          refine jr_getA jf_147_72 hx11 ?_
          refine jr_iload jf_147_75 hl4 ?_
          replace h := obd_of h; obtain ⟨a12, rfl, h⟩ := h
          replace h := jgd_of h; obtain ⟨hb13, h⟩ := h
          replace h := obd_of h; obtain ⟨x14, hx14, h⟩ := h
          refine jr_V6_2 jf_147_77 hb13 (by omega) (r_Chain_holdsValues (by omega) _ _ _ _ _ hx14) (Nat.le_of_ble_eq_true rfl) jml_148 (by simp only [jcats_cons, jcats_nil, cat_int, cat_long, cat_double, cat_float, cat_ref, rv_cat]; decide) ?_
          replace h := ite_or h; rcases h with ⟨hc, h⟩ | ⟨hc, h⟩
          · refine jr_ifz_ne_t jf_147_80 hc ?_
            refine jr_iload jf_147_85 hl4 ?_
            refine jr_aload_n jf_147_87 rfl hl0 ?_
            replace h := obd_of h; obtain ⟨x15, hx15, h⟩ := h
            refine jr_getA jf_147_88 hx15 ?_
            refine jr_iload jf_147_91 hl5 ?_
            replace h := obd_of h; obtain ⟨a16, rfl, h⟩ := h
            replace h := obd_of h; obtain ⟨x17, hx17, h⟩ := h
            refine jr_aaload jf_147_93 hx17 ?_
            replace h := obd_of h; obtain ⟨a18, rfl, h⟩ := h
            replace h := jgd_of h; obtain ⟨hb19, h⟩ := h
            replace h := obd_of h; obtain ⟨x20, hx20, h⟩ := h
            refine jr_V6_0 jf_147_94 hb19 (by omega) (r_Chain_valueCount (by omega) _ _ _ hx20) (Nat.le_of_ble_eq_true rfl) jml_132 (Nat.le_of_ble_eq_true rfl) ?_
            refine jr_iadd jf_147_97 ?_
            refine jr_istore jf_147_98 jml_147 (by decide) ?_
            exact r_B_same_100 hd ih _ _ _ _ _ _ _ _ _ (jg1_ne rfl hl0) (jg1_ne rfl hl2) (jg1_pre rfl hl3) jg1_same (jg1_ne rfl hl5) h
          · refine jr_ifz_ne_f jf_147_80 hc ?_
            refine jr_iconst jf_147_83 jc_i_0 ?_
            obtain ⟨rfl, rfl⟩ := Prod.mk.inj (Option.some.inj h)
            exact jr_retZ (x := false) jf_147_84 jmt_147
set_option maxRecDepth 10000 in
set_option maxHeartbeats 4000000 in
theorem r_B_same_e {N B : Nat} {SA : Nat → Nat} {d : Nat} (hd : 5 ≤ d) : ∀ (L : JLoc) (v0 : Nat) (v1 : Int32) (μ : JMem) (r : Bool) (μ9 : JMem), jget L 0 = .ref v0 → jget L 1 = .int v1 → g_B_same N B v0 v1 μ = some (r, μ9) → jR B SA d m_B_same 0 L [] μ (some (.int (jb r))) μ9 := by
  intro L v0 v1 μ r μ9 hl0 hl1 h
  unfold g_B_same at h
  refine jr_aload_n jf_147_0 rfl hl0 ?_
  refine jr_iload_n jf_147_1 rfl hl1 ?_
  replace h := jgd_of h; obtain ⟨hb1, h⟩ := h
  replace h := obd_of h; obtain ⟨x2, hx2, h⟩ := h
  refine jr_V6_1 jf_147_2 hb1 (by omega) (r_B_keptAt (by omega) _ _ _ _ hx2) (Nat.le_of_ble_eq_true rfl) jml_140 (Nat.le_of_ble_eq_true rfl) ?_
  refine jr_astore_n_A jf_147_5 rfl jml_147 (by decide) ?_
  refine jr_aload_n_A jf_147_6 rfl jg1_same ?_
  replace h := jon_or h; rcases h with ⟨rfl, h⟩ | ⟨a3, rfl, h⟩
  · refine jr_ifnonnull_n jf_147_7 ?_
    refine jr_iconst jf_147_10 jc_i_0 ?_
    obtain ⟨rfl, rfl⟩ := Prod.mk.inj (Option.some.inj h)
    exact jr_retZ (x := false) jf_147_11 jmt_147
  · refine jr_ifnonnull_s jf_147_7 ?_
    refine jr_aload_n jf_147_12 rfl (jg1_ne rfl hl0) ?_
    refine jr_aload_n jf_147_13 rfl jg1_same ?_
    replace h := obd_of h; obtain ⟨x4, hx4, h⟩ := h
    refine jr_getA jf_147_14 hx4 ?_
    replace h := jgd_of h; obtain ⟨hb5, h⟩ := h
    replace h := jbd2_of h; obtain ⟨x6, μ7, hx6, h⟩ := h
    refine jr_V6_1 jf_147_17 hb5 (by omega) (r_B_gather (by omega) _ _ _ _ _ hx6) (Nat.le_of_ble_eq_true rfl) jml_126 (by simp only [jcats_cons, jcats_nil, cat_int, cat_long, cat_double, cat_float, cat_ref, rv_cat]; decide) ?_
    refine jr_istore_n jf_147_20 rfl jml_147 (by decide) ?_
    refine jr_aload_n jf_147_21 rfl (jg1_ne rfl (jg1_ne rfl hl0)) ?_
    refine jr_aload_n jf_147_22 rfl (jg1_pre (by first | rfl | exact rv_cat _) jg1_same) ?_
    refine jr_iload_n jf_147_23 rfl jg1_same ?_
    replace h := jgd_of h; obtain ⟨hb8, h⟩ := h
    replace h := obd_of h; obtain ⟨x9, hx9, h⟩ := h
    refine jr_V6_2 jf_147_24 hb8 (by omega) (r_B_hasShapeOf (by omega) _ _ _ _ _ hx9) (Nat.le_of_ble_eq_true rfl) jml_141 (by simp only [jcats_cons, jcats_nil, cat_int, cat_long, cat_double, cat_float, cat_ref, rv_cat]; decide) ?_
    replace h := ite_or h; rcases h with ⟨hc, h⟩ | ⟨hc, h⟩
    · refine jr_ifz_ne_t jf_147_27 hc ?_
      refine jr_iconst jf_147_32 jc_i_0 ?_
      refine jr_istore jf_147_33 jml_147 (by decide) ?_
      refine jr_iconst jf_147_35 jc_i_0 ?_
      refine jr_istore jf_147_36 jml_147 (by decide) ?_
      exact r_B_same_38 hd _ _ _ _ _ _ _ _ _ _ (jg1_ne rfl (jg1_ne rfl (jg1_ne rfl (jg1_ne rfl hl0)))) (jg1_ne rfl (jg1_ne rfl (jg1_pre (by first | rfl | exact rv_cat _) jg1_same))) (jg1_ne rfl (jg1_pre rfl jg1_same)) (jg1_pre rfl jg1_same) jg1_same h
    · refine jr_ifz_ne_f jf_147_27 hc ?_
      refine jr_iconst jf_147_30 jc_i_0 ?_
      obtain ⟨rfl, rfl⟩ := Prod.mk.inj (Option.some.inj h)
      exact jr_retZ (x := false) jf_147_31 jmt_147
set_option maxRecDepth 10000 in
set_option maxHeartbeats 4000000 in
theorem r_B_same {N B : Nat} {SA : Nat → Nat} {d : Nat} (hd : 5 ≤ d) : ∀ (v0 : Nat) (v1 : Int32) (μ : JMem) (r : Bool) (μ9 : JMem), g_B_same N B v0 v1 μ = some (r, μ9) → jR B SA d m_B_same 0 (lv_args 0 [.ref v0, .int v1]) [] μ (some (.int (jb r))) μ9 := by
  intro v0 v1 μ r μ9 h
  exact r_B_same_e hd (lv_args 0 _) _ _ _ _ _ (by simp [lv_args, jget, rv_cat, cat_int, cat_long, cat_double, cat_float, cat_ref]) (by simp [lv_args, jget, rv_cat, cat_int, cat_long, cat_double, cat_float, cat_ref]) h
/-! FilterBench.comparedToOnePlus(JJ)I -/
set_option maxRecDepth 10000 in
set_option maxHeartbeats 4000000 in
theorem r_B_comparedToOnePlus_e {B : Nat} {SA : Nat → Nat} {d : Nat} (hd : 4 ≤ d) : ∀ (L : JLoc) (v0 : Nat) (v1 : Int64) (v3 : Int64) (μ : JMem) (r : Int32), jget L 0 = .ref v0 → jget L 1 = .long v1 → jget L 3 = .long v3 → g_B_comparedToOnePlus v0 v1 v3 μ.1 = some r → jR B SA d m_B_comparedToOnePlus 0 L [] μ (some (.int r)) μ := by
  intro L v0 v1 v3 μ r hl0 hl1 hl3 h
  unfold g_B_comparedToOnePlus at h
  refine jr_aload_n jf_159_0 rfl hl0 ?_
  replace h := obd_of h; obtain ⟨x1, hx1, h⟩ := h
  refine jr_getA jf_159_1 hx1 ?_
  refine jr_lload_n jf_159_4 rfl hl1 ?_
  refine jr_ldc2l jf_159_5 ?_
  replace h := obd_of h; obtain ⟨a2, rfl, h⟩ := h
  replace h := jgd_of h; obtain ⟨hb3, h⟩ := h
  replace h := obd_of h; obtain ⟨x4, hx4, h⟩ := h
  refine jr_V6_2 jf_159_8 hb3 (by omega) (r_Real_compared (by omega) _ _ _ _ _ hx4) (Nat.le_of_ble_eq_true rfl) jml_105 (Nat.le_of_ble_eq_true rfl) ?_
  replace h := ite_or h; rcases h with ⟨hc, h⟩ | ⟨hc, h⟩
  · refine jr_if_le_t jf_159_11 hc ?_
    refine jr_aload_n jf_159_16 rfl hl0 ?_
    replace h := obd_of h; obtain ⟨x5, hx5, h⟩ := h
    refine jr_getA jf_159_17 hx5 ?_
    refine jr_lload_n jf_159_20 rfl hl1 ?_
    refine jr_ldc2l jf_159_21 ?_
    replace h := obd_of h; obtain ⟨a6, rfl, h⟩ := h
    replace h := jgd_of h; obtain ⟨hb7, h⟩ := h
    replace h := obd_of h; obtain ⟨x8, hx8, h⟩ := h
    refine jr_V6_2 jf_159_24 hb7 (by omega) (r_Real_compared (by omega) _ _ _ _ _ hx8) (Nat.le_of_ble_eq_true rfl) jml_105 (Nat.le_of_ble_eq_true rfl) ?_
    replace h := ite_or h; rcases h with ⟨hc, h⟩ | ⟨hc, h⟩
    · refine jr_if_lt_t jf_159_27 hc ?_
      refine jr_aload_n jf_159_57 rfl hl0 ?_
      replace h := obd_of h; obtain ⟨x9, hx9, h⟩ := h
      refine jr_getA jf_159_58 hx9 ?_
      refine jr_lload_n jf_159_61 rfl hl3 ?_
      refine jr_aload_n jf_159_62 rfl hl0 ?_
      replace h := obd_of h; obtain ⟨x10, hx10, h⟩ := h
      refine jr_getA jf_159_63 hx10 ?_
      refine jr_ldc2l jf_159_66 ?_
      replace h := obd_of h; obtain ⟨a11, rfl, h⟩ := h
      replace h := jgd_of h; obtain ⟨hb12, h⟩ := h
      replace h := obd_of h; obtain ⟨x13, hx13, h⟩ := h
      refine jr_V6_1 jf_159_69 hb12 (by omega) (r_Real_negative (by omega) _ _ _ _ hx13) (by simp only [jcats_cons, jcats_nil, cat_int, cat_long, cat_double, cat_float, cat_ref, rv_cat]; decide) jml_92 (Nat.le_of_ble_eq_true rfl) ?_
      replace h := obd_of h; obtain ⟨a14, rfl, h⟩ := h
      replace h := jgd_of h; obtain ⟨hb15, h⟩ := h
      replace h := obd_of h; obtain ⟨x16, hx16, h⟩ := h
      refine jr_V6_2 jf_159_72 hb15 (by omega) (r_Real_compared (by omega) _ _ _ _ _ hx16) (Nat.le_of_ble_eq_true rfl) jml_105 (Nat.le_of_ble_eq_true rfl) ?_
      replace h := ite_or h; rcases h with ⟨hc, h⟩ | ⟨hc, h⟩
      · refine jr_if_le_t jf_159_75 hc ?_
        refine jr_aload_n jf_159_80 rfl hl0 ?_
        replace h := obd_of h; obtain ⟨x17, hx17, h⟩ := h
        refine jr_getA jf_159_81 hx17 ?_
        refine jr_aload_n jf_159_84 rfl hl0 ?_
        replace h := obd_of h; obtain ⟨x18, hx18, h⟩ := h
        refine jr_getA jf_159_85 hx18 ?_
        refine jr_lload_n jf_159_88 rfl hl3 ?_
        refine jr_ldc2l jf_159_89 ?_
        replace h := obd_of h; obtain ⟨a19, rfl, h⟩ := h
        replace h := jgd_of h; obtain ⟨hb20, h⟩ := h
        replace h := obd_of h; obtain ⟨x21, hx21, h⟩ := h
        refine jr_V6_2 jf_159_92 hb20 (by omega) (r_Real_plus (by omega) _ _ _ _ _ hx21) (by simp only [jcats_cons, jcats_nil, cat_int, cat_long, cat_double, cat_float, cat_ref, rv_cat]; decide) jml_74 (Nat.le_of_ble_eq_true rfl) ?_
        refine jr_lload_n jf_159_95 rfl hl1 ?_
        replace h := obd_of h; obtain ⟨a22, rfl, h⟩ := h
        replace h := jgd_of h; obtain ⟨hb23, h⟩ := h
        replace h := obd_of h; obtain ⟨x24, hx24, h⟩ := h
        refine jr_V6_2 jf_159_96 hb23 (by omega) (r_Real_compared (by omega) _ _ _ _ _ hx24) (Nat.le_of_ble_eq_true rfl) jml_105 (Nat.le_of_ble_eq_true rfl) ?_
        obtain rfl := Option.some.inj h
        exact jr_retI jf_159_99 jmt_159
      · refine jr_if_le_f jf_159_75 hc ?_
        refine jr_iconst jf_159_78 jc_i_1 ?_
        obtain rfl := Option.some.inj h
        exact jr_retI jf_159_79 jmt_159
    · refine jr_if_lt_f jf_159_27 hc ?_
      refine jr_aload_n jf_159_30 rfl hl0 ?_
      replace h := obd_of h; obtain ⟨x25, hx25, h⟩ := h
      refine jr_getA jf_159_31 hx25 ?_
      refine jr_lload_n jf_159_34 rfl hl3 ?_
      refine jr_aload_n jf_159_35 rfl hl0 ?_
      replace h := obd_of h; obtain ⟨x26, hx26, h⟩ := h
      refine jr_getA jf_159_36 hx26 ?_
      refine jr_lload_n jf_159_39 rfl hl1 ?_
      refine jr_aload_n jf_159_40 rfl hl0 ?_
      replace h := obd_of h; obtain ⟨x27, hx27, h⟩ := h
      refine jr_getA jf_159_41 hx27 ?_
      refine jr_ldc2l jf_159_44 ?_
      replace h := obd_of h; obtain ⟨a28, rfl, h⟩ := h
      replace h := jgd_of h; obtain ⟨hb29, h⟩ := h
      replace h := obd_of h; obtain ⟨x30, hx30, h⟩ := h
      refine jr_V6_1 jf_159_47 hb29 (by omega) (r_Real_negative (by omega) _ _ _ _ hx30) (by simp only [jcats_cons, jcats_nil, cat_int, cat_long, cat_double, cat_float, cat_ref, rv_cat]; decide) jml_92 (Nat.le_of_ble_eq_true rfl) ?_
      replace h := obd_of h; obtain ⟨a31, rfl, h⟩ := h
      replace h := jgd_of h; obtain ⟨hb32, h⟩ := h
      replace h := obd_of h; obtain ⟨x33, hx33, h⟩ := h
      refine jr_V6_2 jf_159_50 hb32 (by omega) (r_Real_plus (by omega) _ _ _ _ _ hx33) (by simp only [jcats_cons, jcats_nil, cat_int, cat_long, cat_double, cat_float, cat_ref, rv_cat]; decide) jml_74 (Nat.le_of_ble_eq_true rfl) ?_
      replace h := obd_of h; obtain ⟨a34, rfl, h⟩ := h
      replace h := jgd_of h; obtain ⟨hb35, h⟩ := h
      replace h := obd_of h; obtain ⟨x36, hx36, h⟩ := h
      refine jr_V6_2 jf_159_53 hb35 (by omega) (r_Real_compared (by omega) _ _ _ _ _ hx36) (Nat.le_of_ble_eq_true rfl) jml_105 (Nat.le_of_ble_eq_true rfl) ?_
      obtain rfl := Option.some.inj h
      exact jr_retI jf_159_56 jmt_159
  · refine jr_if_le_f jf_159_11 hc ?_
    refine jr_iconst jf_159_14 jc_i_m1 ?_
    obtain rfl := Option.some.inj h
    exact jr_retI jf_159_15 jmt_159
set_option maxRecDepth 10000 in
set_option maxHeartbeats 4000000 in
theorem r_B_comparedToOnePlus {B : Nat} {SA : Nat → Nat} {d : Nat} (hd : 4 ≤ d) : ∀ (v0 : Nat) (v1 : Int64) (v3 : Int64) (μ : JMem) (r : Int32), g_B_comparedToOnePlus v0 v1 v3 μ.1 = some r → jR B SA d m_B_comparedToOnePlus 0 (lv_args 0 [.ref v0, .long v1, .long v3]) [] μ (some (.int r)) μ := by
  intro v0 v1 v3 μ r h
  exact r_B_comparedToOnePlus_e hd (lv_args 0 _) _ _ _ _ _ (by simp [lv_args, jget, rv_cat, cat_int, cat_long, cat_double, cat_float, cat_ref]) (by simp [lv_args, jget, rv_cat, cat_int, cat_long, cat_double, cat_float, cat_ref]) (by simp [lv_args, jget, rv_cat, cat_int, cat_long, cat_double, cat_float, cat_ref]) h
/-! FilterBench.judged(I)I -/
set_option maxRecDepth 10000 in
set_option maxHeartbeats 4000000 in
theorem r_B_judged_e {B : Nat} {SA : Nat → Nat} {d : Nat} (hd : 0 ≤ d) : ∀ (L : JLoc) (v0 : Int32) (μ : JMem) (r : Int32), jget L 0 = .int v0 → g_B_judged v0 = r → jR B SA d m_B_judged 0 L [] μ (some (.int r)) μ := by
  intro L v0 μ r hl0 h
  unfold g_B_judged at h
  refine jr_iload_n jf_157_0 rfl hl0 ?_
  replace h := ite_or h; rcases h with ⟨hc, h⟩ | ⟨hc, h⟩
  · refine jr_if_le_t jf_157_1 hc ?_
    refine jr_iload_n jf_157_8 rfl hl0 ?_
    replace h := ite_or h; rcases h with ⟨hc, h⟩ | ⟨hc, h⟩
    · refine jr_if_ne_f jf_157_9 hc ?_
      refine jr_iconst jf_157_12 jc_i_2 ?_
      refine jr_goto jf_157_13 ?_
      subst h
      exact jr_retI jf_157_17 jmt_157
    · refine jr_if_ne_t jf_157_9 hc ?_
      refine jr_iconst jf_157_16 jc_i_0 ?_
      subst h
      exact jr_retI jf_157_17 jmt_157
  · refine jr_if_le_f jf_157_1 hc ?_
    refine jr_iconst jf_157_4 jc_i_1 ?_
    refine jr_goto jf_157_5 ?_
    subst h
    exact jr_retI jf_157_17 jmt_157
set_option maxRecDepth 10000 in
set_option maxHeartbeats 4000000 in
theorem r_B_judged {B : Nat} {SA : Nat → Nat} {d : Nat} (hd : 0 ≤ d) : ∀ (v0 : Int32) (μ : JMem) (r : Int32), g_B_judged v0 = r → jR B SA d m_B_judged 0 (lv_args 0 [.int v0]) [] μ (some (.int r)) μ := by
  intro v0 μ r h
  exact r_B_judged_e hd (lv_args 0 _) _ _ _ (by simp [lv_args, jget, rv_cat, cat_int, cat_long, cat_double, cat_float, cat_ref]) h
/-! FilterBench$Real.isFinite(J)Z -/
set_option maxRecDepth 10000 in
set_option maxHeartbeats 4000000 in
theorem r_Real_isFinite_e {B : Nat} {SA : Nat → Nat} {d : Nat} (hd : 0 ≤ d) : ∀ (L : JLoc) (v0 : Nat) (v1 : Int64) (μ : JMem) (r : Bool), jget L 0 = .ref v0 → jget L 1 = .long v1 → g_Real_isFinite v0 v1 μ.1 = some r → jR B SA d m_Real_isFinite 0 L [] μ (some (.int (jb r))) μ := by
  intro L v0 v1 μ r hl0 hl1 h
  unfold g_Real_isFinite at h
  refine jr_lload_n jf_156_0 rfl hl1 ?_
  refine jr_aload_n jf_156_1 rfl hl0 ?_
  replace h := obd_of h; obtain ⟨x1, hx1, h⟩ := h
  refine jr_getJ jf_156_2 hx1 ?_
  refine jr_ldc2l jf_156_5 ?_
  refine jr_lxor jf_156_8 ?_
  refine jr_land jf_156_9 ?_
  refine jr_aload_n jf_156_10 rfl hl0 ?_
  replace h := obd_of h; obtain ⟨x2, hx2, h⟩ := h
  refine jr_getJ jf_156_11 hx2 ?_
  refine jr_lcmp jf_156_14 ?_
  replace h := ite_or h; rcases h with ⟨hc, h⟩ | ⟨hc, h⟩
  · refine jr_ifl_ge_t jf_156_15 hc ?_
    refine jr_iconst jf_156_22 jc_i_0 ?_
    obtain rfl := Option.some.inj h
    exact jr_retZ (x := false) jf_156_23 jmt_156
  · refine jr_ifl_ge_f jf_156_15 hc ?_
    refine jr_iconst jf_156_18 jc_i_1 ?_
    refine jr_goto jf_156_19 ?_
    obtain rfl := Option.some.inj h
    exact jr_retZ (x := true) jf_156_23 jmt_156
set_option maxRecDepth 10000 in
set_option maxHeartbeats 4000000 in
theorem r_Real_isFinite {B : Nat} {SA : Nat → Nat} {d : Nat} (hd : 0 ≤ d) : ∀ (v0 : Nat) (v1 : Int64) (μ : JMem) (r : Bool), g_Real_isFinite v0 v1 μ.1 = some r → jR B SA d m_Real_isFinite 0 (lv_args 0 [.ref v0, .long v1]) [] μ (some (.int (jb r))) μ := by
  intro v0 v1 μ r h
  exact r_Real_isFinite_e hd (lv_args 0 _) _ _ _ _ (by simp [lv_args, jget, rv_cat, cat_int, cat_long, cat_double, cat_float, cat_ref]) (by simp [lv_args, jget, rv_cat, cat_int, cat_long, cat_double, cat_float, cat_ref]) h
/-! FilterBench.judgedPair(JJ)I -/
set_option maxRecDepth 10000 in
set_option maxHeartbeats 4000000 in
theorem r_B_judgedPair_80 {B : Nat} {SA : Nat → Nat} {d : Nat} (hd : 5 ≤ d) : ∀ (L : JLoc) (s0 : Int32) (μ : JMem) (r : Int32), g_B_judgedPair_80 s0 μ.1 = some r → jR B SA d m_B_judgedPair 80 L [.int s0] μ (some (.int r)) μ := by
  intro L s0 μ r h
  unfold g_B_judgedPair_80 at h
  refine jr_S3_1 jf_158_80 (by omega) (r_B_judged (by omega) _ _ _ rfl) (Nat.le_of_ble_eq_true rfl) jml_157 (Nat.le_of_ble_eq_true rfl) ?_
  obtain rfl := Option.some.inj h
  exact jr_retI jf_158_83 jmt_158
set_option maxRecDepth 10000 in
set_option maxHeartbeats 4000000 in
theorem r_B_judgedPair_e {B : Nat} {SA : Nat → Nat} {d : Nat} (hd : 5 ≤ d) : ∀ (L : JLoc) (v0 : Nat) (v1 : Int64) (v3 : Int64) (μ : JMem) (r : Int32), jget L 0 = .ref v0 → jget L 1 = .long v1 → jget L 3 = .long v3 → g_B_judgedPair v0 v1 v3 μ.1 = some r → jR B SA d m_B_judgedPair 0 L [] μ (some (.int r)) μ := by
  intro L v0 v1 v3 μ r hl0 hl1 hl3 h
  unfold g_B_judgedPair at h
  refine jr_aload_n jf_158_0 rfl hl0 ?_
  replace h := obd_of h; obtain ⟨x1, hx1, h⟩ := h
  refine jr_getA jf_158_1 hx1 ?_
  refine jr_lload_n jf_158_4 rfl hl1 ?_
  replace h := obd_of h; obtain ⟨a2, rfl, h⟩ := h
  replace h := jgd_of h; obtain ⟨hb3, h⟩ := h
  replace h := obd_of h; obtain ⟨x4, hx4, h⟩ := h
  refine jr_V6_1 jf_158_5 hb3 (by omega) (r_Real_isFinite (by omega) _ _ _ _ hx4) (Nat.le_of_ble_eq_true rfl) jml_156 (Nat.le_of_ble_eq_true rfl) ?_
  replace h := ite_or h; rcases h with ⟨hc, h⟩ | ⟨hc, h⟩
  · refine jr_ifz_eq_f jf_158_8 hc ?_
    refine jr_aload_n jf_158_11 rfl hl0 ?_
    replace h := obd_of h; obtain ⟨x5, hx5, h⟩ := h
    refine jr_getA jf_158_12 hx5 ?_
    refine jr_lload_n jf_158_15 rfl hl3 ?_
    replace h := obd_of h; obtain ⟨a6, rfl, h⟩ := h
    replace h := jgd_of h; obtain ⟨hb7, h⟩ := h
    replace h := obd_of h; obtain ⟨x8, hx8, h⟩ := h
    refine jr_V6_1 jf_158_16 hb7 (by omega) (r_Real_isFinite (by omega) _ _ _ _ hx8) (Nat.le_of_ble_eq_true rfl) jml_156 (Nat.le_of_ble_eq_true rfl) ?_
    replace h := ite_or h; rcases h with ⟨hc, h⟩ | ⟨hc, h⟩
    · refine jr_ifz_ne_t jf_158_19 hc ?_
      refine jr_aload_n jf_158_24 rfl hl0 ?_
      replace h := obd_of h; obtain ⟨x9, hx9, h⟩ := h
      refine jr_getA jf_158_25 hx9 ?_
      refine jr_ldc2l jf_158_28 ?_
      refine jr_aload_n jf_158_31 rfl hl0 ?_
      replace h := obd_of h; obtain ⟨x10, hx10, h⟩ := h
      refine jr_getA jf_158_32 hx10 ?_
      refine jr_lload_n jf_158_35 rfl hl3 ?_
      replace h := obd_of h; obtain ⟨a11, rfl, h⟩ := h
      replace h := jgd_of h; obtain ⟨hb12, h⟩ := h
      replace h := obd_of h; obtain ⟨x13, hx13, h⟩ := h
      refine jr_V6_1 jf_158_36 hb12 (by omega) (r_Real_sizeOf (by omega) _ _ _ _ hx13) (by simp only [jcats_cons, jcats_nil, cat_int, cat_long, cat_double, cat_float, cat_ref, rv_cat]; decide) jml_31 (Nat.le_of_ble_eq_true rfl) ?_
      replace h := obd_of h; obtain ⟨a14, rfl, h⟩ := h
      replace h := jgd_of h; obtain ⟨hb15, h⟩ := h
      replace h := obd_of h; obtain ⟨x16, hx16, h⟩ := h
      refine jr_V6_2 jf_158_39 hb15 (by omega) (r_Real_compared (by omega) _ _ _ _ _ hx16) (Nat.le_of_ble_eq_true rfl) jml_105 (Nat.le_of_ble_eq_true rfl) ?_
      refine jr_istore jf_158_42 jml_158 (by decide) ?_
      refine jr_iload jf_158_44 jg1_same ?_
      replace h := ite_or h; rcases h with ⟨hc, h⟩ | ⟨hc, h⟩
      · refine jr_if_ge_t jf_158_46 hc ?_
        refine jr_aload_n jf_158_51 rfl (jg1_ne rfl hl0) ?_
        refine jr_aload_n jf_158_52 rfl (jg1_ne rfl hl0) ?_
        replace h := obd_of h; obtain ⟨x17, hx17, h⟩ := h
        refine jr_getA jf_158_53 hx17 ?_
        refine jr_lload_n jf_158_56 rfl (jg1_ne rfl hl1) ?_
        replace h := obd_of h; obtain ⟨a18, rfl, h⟩ := h
        replace h := jgd_of h; obtain ⟨hb19, h⟩ := h
        replace h := obd_of h; obtain ⟨x20, hx20, h⟩ := h
        refine jr_V6_1 jf_158_57 hb19 (by omega) (r_Real_sizeOf (by omega) _ _ _ _ hx20) (Nat.le_of_ble_eq_true rfl) jml_31 (Nat.le_of_ble_eq_true rfl) ?_
        refine jr_lload_n jf_158_60 rfl (jg1_ne rfl hl3) ?_
        replace h := jgd_of h; obtain ⟨hb21, h⟩ := h
        replace h := obd_of h; obtain ⟨x22, hx22, h⟩ := h
        refine jr_V6_2 jf_158_61 hb21 (by omega) (r_B_comparedToOnePlus (by omega) _ _ _ _ _ hx22) (Nat.le_of_ble_eq_true rfl) jml_159 (Nat.le_of_ble_eq_true rfl) ?_
        refine jr_istore jf_158_64 jml_158 (by decide) ?_
        refine jr_iload jf_158_66 jg1_same ?_
        refine jr_iload jf_158_68 (jg1_pre rfl jg1_same) ?_
        replace h := ite_or h; rcases h with ⟨hc, h⟩ | ⟨hc, h⟩
        · refine jr_if2_ge_t jf_158_70 hc ?_
          refine jr_iload jf_158_78 (jg1_pre rfl jg1_same) ?_
          exact r_B_judgedPair_80 hd _ _ _ _ h
        · refine jr_if2_ge_f jf_158_70 hc ?_
          refine jr_iload jf_158_73 jg1_same ?_
          refine jr_goto jf_158_75 ?_
          exact r_B_judgedPair_80 hd _ _ _ _ h
      · refine jr_if_ge_f jf_158_46 hc ?_
        refine jr_iconst jf_158_49 jc_i_0 ?_
        obtain rfl := Option.some.inj h
        exact jr_retI jf_158_50 jmt_158
    · refine jr_ifz_ne_f jf_158_19 hc ?_
      refine jr_iconst jf_158_22 jc_i_0 ?_
      obtain rfl := Option.some.inj h
      exact jr_retI jf_158_23 jmt_158
  · refine jr_ifz_eq_t jf_158_8 hc ?_
    refine jr_iconst jf_158_22 jc_i_0 ?_
    obtain rfl := Option.some.inj h
    exact jr_retI jf_158_23 jmt_158
set_option maxRecDepth 10000 in
set_option maxHeartbeats 4000000 in
theorem r_B_judgedPair {B : Nat} {SA : Nat → Nat} {d : Nat} (hd : 5 ≤ d) : ∀ (v0 : Nat) (v1 : Int64) (v3 : Int64) (μ : JMem) (r : Int32), g_B_judgedPair v0 v1 v3 μ.1 = some r → jR B SA d m_B_judgedPair 0 (lv_args 0 [.ref v0, .long v1, .long v3]) [] μ (some (.int r)) μ := by
  intro v0 v1 v3 μ r h
  exact r_B_judgedPair_e hd (lv_args 0 _) _ _ _ _ _ (by simp [lv_args, jget, rv_cat, cat_int, cat_long, cat_double, cat_float, cat_ref]) (by simp [lv_args, jget, rv_cat, cat_int, cat_long, cat_double, cat_float, cat_ref]) (by simp [lv_args, jget, rv_cat, cat_int, cat_long, cat_double, cat_float, cat_ref]) h
/-! FilterBench.judgedPole(J)I -/
set_option maxRecDepth 10000 in
set_option maxHeartbeats 4000000 in
theorem r_B_judgedPole_e {B : Nat} {SA : Nat → Nat} {d : Nat} (hd : 2 ≤ d) : ∀ (L : JLoc) (v0 : Nat) (v1 : Int64) (μ : JMem) (r : Int32), jget L 0 = .ref v0 → jget L 1 = .long v1 → g_B_judgedPole v0 v1 μ.1 = some r → jR B SA d m_B_judgedPole 0 L [] μ (some (.int r)) μ := by
  intro L v0 v1 μ r hl0 hl1 h
  unfold g_B_judgedPole at h
  refine jr_aload_n jf_155_0 rfl hl0 ?_
  replace h := obd_of h; obtain ⟨x1, hx1, h⟩ := h
  refine jr_getA jf_155_1 hx1 ?_
  refine jr_lload_n jf_155_4 rfl hl1 ?_
  replace h := obd_of h; obtain ⟨a2, rfl, h⟩ := h
  replace h := jgd_of h; obtain ⟨hb3, h⟩ := h
  replace h := obd_of h; obtain ⟨x4, hx4, h⟩ := h
  refine jr_V6_1 jf_155_5 hb3 (by omega) (r_Real_isFinite (by omega) _ _ _ _ hx4) (Nat.le_of_ble_eq_true rfl) jml_156 (Nat.le_of_ble_eq_true rfl) ?_
  replace h := ite_or h; rcases h with ⟨hc, h⟩ | ⟨hc, h⟩
  · refine jr_ifz_ne_t jf_155_8 hc ?_
    refine jr_aload_n jf_155_13 rfl hl0 ?_
    replace h := obd_of h; obtain ⟨x5, hx5, h⟩ := h
    refine jr_getA jf_155_14 hx5 ?_
    refine jr_ldc2l jf_155_17 ?_
    refine jr_aload_n jf_155_20 rfl hl0 ?_
    replace h := obd_of h; obtain ⟨x6, hx6, h⟩ := h
    refine jr_getA jf_155_21 hx6 ?_
    refine jr_lload_n jf_155_24 rfl hl1 ?_
    replace h := obd_of h; obtain ⟨a7, rfl, h⟩ := h
    replace h := jgd_of h; obtain ⟨hb8, h⟩ := h
    replace h := obd_of h; obtain ⟨x9, hx9, h⟩ := h
    refine jr_V6_1 jf_155_25 hb8 (by omega) (r_Real_sizeOf (by omega) _ _ _ _ hx9) (by simp only [jcats_cons, jcats_nil, cat_int, cat_long, cat_double, cat_float, cat_ref, rv_cat]; decide) jml_31 (Nat.le_of_ble_eq_true rfl) ?_
    replace h := obd_of h; obtain ⟨a10, rfl, h⟩ := h
    replace h := jgd_of h; obtain ⟨hb11, h⟩ := h
    replace h := obd_of h; obtain ⟨x12, hx12, h⟩ := h
    refine jr_V6_2 jf_155_28 hb11 (by omega) (r_Real_compared (by omega) _ _ _ _ _ hx12) (Nat.le_of_ble_eq_true rfl) jml_105 (Nat.le_of_ble_eq_true rfl) ?_
    refine jr_S3_1 jf_155_31 (by omega) (r_B_judged (by omega) _ _ _ rfl) (Nat.le_of_ble_eq_true rfl) jml_157 (Nat.le_of_ble_eq_true rfl) ?_
    obtain rfl := Option.some.inj h
    exact jr_retI jf_155_34 jmt_155
  · refine jr_ifz_ne_f jf_155_8 hc ?_
    refine jr_iconst jf_155_11 jc_i_0 ?_
    obtain rfl := Option.some.inj h
    exact jr_retI jf_155_12 jmt_155
set_option maxRecDepth 10000 in
set_option maxHeartbeats 4000000 in
theorem r_B_judgedPole {B : Nat} {SA : Nat → Nat} {d : Nat} (hd : 2 ≤ d) : ∀ (v0 : Nat) (v1 : Int64) (μ : JMem) (r : Int32), g_B_judgedPole v0 v1 μ.1 = some r → jR B SA d m_B_judgedPole 0 (lv_args 0 [.ref v0, .long v1]) [] μ (some (.int r)) μ := by
  intro v0 v1 μ r h
  exact r_B_judgedPole_e hd (lv_args 0 _) _ _ _ _ (by simp [lv_args, jget, rv_cat, cat_int, cat_long, cat_double, cat_float, cat_ref]) (by simp [lv_args, jget, rv_cat, cat_int, cat_long, cat_double, cat_float, cat_ref]) h
/-! FilterBench$Real.meaning(JZLFilterBench$Real;)J -/
set_option maxRecDepth 10000 in
set_option maxHeartbeats 4000000 in
theorem r_Real_meaning_e {B : Nat} {SA : Nat → Nat} {d : Nat} (hd : 3 ≤ d) : ∀ (L : JLoc) (v0 : Nat) (v1 : Int64) (v4 : Option Nat) (μ : JMem) (r : Int64), jget L 0 = .ref v0 → jget L 1 = .long v1 → jget L 4 = rv v4 → g_Real_meaning_e v0 v1 v4 μ.1 = some r → jR B SA d m_Real_meaning 0 L [] μ (some (.long r)) μ := by
  intro L v0 v1 v4 μ r hl0 hl1 hl4 h
  unfold g_Real_meaning_e at h
  refine jr_aload_A jf_153_0 hl4 ?_
  refine jr_aload_n jf_153_2 rfl hl0 ?_
  refine jr_lload_n jf_153_3 rfl hl1 ?_
  replace h := obd_of h; obtain ⟨a1, rfl, h⟩ := h
  replace h := jgd_of h; obtain ⟨hb2, h⟩ := h
  replace h := obd_of h; obtain ⟨x3, hx3, h⟩ := h
  refine jr_V6_2 jf_153_4 hb2 (by omega) (r_Real_taken (by omega) _ _ _ _ _ hx3) (Nat.le_of_ble_eq_true rfl) jml_30 (by simp only [jcats_cons, jcats_nil, cat_int, cat_long, cat_double, cat_float, cat_ref, rv_cat]; decide) ?_
  obtain rfl := Option.some.inj h
  exact jr_retJ jf_153_7 jmt_153
set_option maxRecDepth 10000 in
set_option maxHeartbeats 4000000 in
theorem r_Real_meaning {B : Nat} {SA : Nat → Nat} {d : Nat} (hd : 3 ≤ d) : ∀ (v0 : Nat) (v1 : Int64) (v3 : Bool) (v4 : Option Nat) (μ : JMem) (r : Int64), g_Real_meaning v0 v1 v3 v4 μ.1 = some r → jR B SA d m_Real_meaning 0 (lv_args 0 [.ref v0, .long v1, .int (jb v3), rv v4]) [] μ (some (.long r)) μ := by
  intro v0 v1 v3 v4 μ r h
  exact r_Real_meaning_e hd (lv_args 0 _) _ _ _ _ _ (by simp [lv_args, jget, rv_cat, cat_int, cat_long, cat_double, cat_float, cat_ref]) (by simp [lv_args, jget, rv_cat, cat_int, cat_long, cat_double, cat_float, cat_ref]) (by simp [lv_args, jget, rv_cat, cat_int, cat_long, cat_double, cat_float, cat_ref]) h
/-! FilterBench$Shorts.meaning(JZLFilterBench$Real;)J -/
set_option maxRecDepth 10000 in
set_option maxHeartbeats 4000000 in
theorem r_Shorts_meaning_13 {B : Nat} {SA : Nat → Nat} {d : Nat} (hd : 3 ≤ d) : ∀ (L : JLoc) (s0 : Int32) (s1 : Int64) (s2 : Option Nat) (μ : JMem) (r : Int64), g_Shorts_meaning_13 s0 s1 s2 μ.1 = some r → jR B SA d m_Shorts_meaning 13 L [.int s0, .long s1, rv s2] μ (some (.long r)) μ := by
  intro L s0 s1 s2 μ r h
  unfold g_Shorts_meaning_13 at h
  replace h := obd_of h; obtain ⟨a1, rfl, h⟩ := h
  replace h := jgd_of h; obtain ⟨hb2, h⟩ := h
  replace h := obd_of h; obtain ⟨x3, hx3, h⟩ := h
  refine jr_V6_2 jf_154_13 hb2 (by omega) (r_Real_scaled (by omega) _ _ _ _ _ hx3) (Nat.le_of_ble_eq_true rfl) jml_116 (Nat.le_of_ble_eq_true rfl) ?_
  obtain rfl := Option.some.inj h
  exact jr_retJ jf_154_16 jmt_154
set_option maxRecDepth 10000 in
set_option maxHeartbeats 4000000 in
theorem r_Shorts_meaning_e {B : Nat} {SA : Nat → Nat} {d : Nat} (hd : 3 ≤ d) : ∀ (L : JLoc) (v1 : Int64) (v3 : Bool) (v4 : Option Nat) (μ : JMem) (r : Int64), jget L 1 = .long v1 → jget L 3 = .int (jb v3) → jget L 4 = rv v4 → g_Shorts_meaning_e v1 v3 v4 μ.1 = some r → jR B SA d m_Shorts_meaning 0 L [] μ (some (.long r)) μ := by
  intro L v1 v3 v4 μ r hl1 hl3 hl4 h
  unfold g_Shorts_meaning_e at h
  refine jr_aload_A jf_154_0 hl4 ?_
  refine jr_lload_n jf_154_2 rfl hl1 ?_
  refine jr_iload_n jf_154_3 rfl hl3 ?_
  replace h := ite_or h; rcases h with ⟨hc, h⟩ | ⟨hc, h⟩
  · refine jr_ifz_eq_f jf_154_4 hc ?_
    refine jr_iconst jf_154_7 jc_i_0 ?_
    refine jr_goto jf_154_8 ?_
    exact r_Shorts_meaning_13 hd _ _ _ _ _ _ h
  · refine jr_ifz_eq_t jf_154_4 hc ?_
    refine jr_bipush jf_154_11 jc_b_m14 ?_
    exact r_Shorts_meaning_13 hd _ _ _ _ _ _ h
set_option maxRecDepth 10000 in
set_option maxHeartbeats 4000000 in
theorem r_Shorts_meaning {B : Nat} {SA : Nat → Nat} {d : Nat} (hd : 3 ≤ d) : ∀ (v0 : Nat) (v1 : Int64) (v3 : Bool) (v4 : Option Nat) (μ : JMem) (r : Int64), g_Shorts_meaning v0 v1 v3 v4 μ.1 = some r → jR B SA d m_Shorts_meaning 0 (lv_args 0 [.ref v0, .long v1, .int (jb v3), rv v4]) [] μ (some (.long r)) μ := by
  intro v0 v1 v3 v4 μ r h
  exact r_Shorts_meaning_e hd (lv_args 0 _) _ _ _ _ _ (by simp [lv_args, jget, rv_cat, cat_int, cat_long, cat_double, cat_float, cat_ref]) (by simp [lv_args, jget, rv_cat, cat_int, cat_long, cat_double, cat_float, cat_ref]) (by simp [lv_args, jget, rv_cat, cat_int, cat_long, cat_double, cat_float, cat_ref]) h
/-! FilterBench.meaningOf(LFilterBench$Section;I)J -/
set_option maxRecDepth 10000 in
set_option maxHeartbeats 4000000 in
theorem r_B_meaningOf_e {B : Nat} {SA : Nat → Nat} {d : Nat} (hd : 4 ≤ d) : ∀ (L : JLoc) (v0 : Nat) (v1 : Option Nat) (v2 : Int32) (μ : JMem) (r : Int64), jget L 0 = .ref v0 → jget L 1 = rv v1 → jget L 2 = .int v2 → g_B_meaningOf v0 v1 v2 μ.1 = some r → jR B SA d m_B_meaningOf 0 L [] μ (some (.long r)) μ := by
  intro L v0 v1 v2 μ r hl0 hl1 hl2 h
  unfold g_B_meaningOf at h
  refine jr_aload_n_A jf_152_0 rfl hl1 ?_
  replace h := obd_of h; obtain ⟨a1, rfl, h⟩ := h
  replace h := obd_of h; obtain ⟨x2, hx2, h⟩ := h
  refine jr_getA jf_152_1 hx2 ?_
  refine jr_aload_n jf_152_4 rfl hl1 ?_
  refine jr_iload_n jf_152_5 rfl hl2 ?_
  replace h := jgd_of h; obtain ⟨hb3, h⟩ := h
  replace h := obd_of h; obtain ⟨x4, hx4, h⟩ := h
  refine jr_V6_1 jf_152_6 hb3 (by omega) (r_Section_factor (by omega) _ _ _ _ hx4) (by simp only [jcats_cons, jcats_nil, cat_int, cat_long, cat_double, cat_float, cat_ref, rv_cat]; decide) jml_43 (Nat.le_of_ble_eq_true rfl) ?_
  refine jr_aload_n jf_152_9 rfl hl1 ?_
  replace h := jgd_of h; obtain ⟨hb5, h⟩ := h
  replace h := obd_of h; obtain ⟨x6, hx6, h⟩ := h
  refine jr_V6_0 jf_152_10 hb5 (by omega) (r_Section_takesWhole (by omega) _ _ _ hx6) (by simp only [jcats_cons, jcats_nil, cat_int, cat_long, cat_double, cat_float, cat_ref, rv_cat]; decide) jml_22 (Nat.le_of_ble_eq_true rfl) ?_
  refine jr_aload_n jf_152_13 rfl hl0 ?_
  replace h := obd_of h; obtain ⟨x7, hx7, h⟩ := h
  refine jr_getA jf_152_14 hx7 ?_
  replace h := obd_of h; obtain ⟨a8, rfl, h⟩ := h
  replace h := obd_of h; obtain ⟨x9, hx9, h⟩ := h
  rcases ite_or hx9 with ⟨hb, hx⟩ | ⟨hb0, hx⟩
  · refine jr_V8a_3 jf_152_17 hb (by omega) (r_Real_meaning (by omega) _ _ _ _ _ _ hx) (Nat.le_of_ble_eq_true rfl) jml_153 (by simp only [jcats_cons, jcats_nil, cat_int, cat_long, cat_double, cat_float, cat_ref, rv_cat]; decide) ?_
    obtain rfl := Option.some.inj h
    exact jr_retJ jf_152_20 jmt_152
  · obtain ⟨hb, hx⟩ := jgd_of hx
    refine jr_V8b_3 jf_152_17 hb0 hb (by omega) (r_Shorts_meaning (by omega) _ _ _ _ _ _ hx) (Nat.le_of_ble_eq_true rfl) jml_154 (by simp only [jcats_cons, jcats_nil, cat_int, cat_long, cat_double, cat_float, cat_ref, rv_cat]; decide) ?_
    obtain rfl := Option.some.inj h
    exact jr_retJ jf_152_20 jmt_152
set_option maxRecDepth 10000 in
set_option maxHeartbeats 4000000 in
theorem r_B_meaningOf {B : Nat} {SA : Nat → Nat} {d : Nat} (hd : 4 ≤ d) : ∀ (v0 : Nat) (v1 : Option Nat) (v2 : Int32) (μ : JMem) (r : Int64), g_B_meaningOf v0 v1 v2 μ.1 = some r → jR B SA d m_B_meaningOf 0 (lv_args 0 [.ref v0, rv v1, .int v2]) [] μ (some (.long r)) μ := by
  intro v0 v1 v2 μ r h
  exact r_B_meaningOf_e hd (lv_args 0 _) _ _ _ _ _ (by simp [lv_args, jget, rv_cat, cat_int, cat_long, cat_double, cat_float, cat_ref]) (by simp [lv_args, jget, rv_cat, cat_int, cat_long, cat_double, cat_float, cat_ref]) (by simp [lv_args, jget, rv_cat, cat_int, cat_long, cat_double, cat_float, cat_ref]) h
/-! FilterBench.poles(I)I -/
set_option maxRecDepth 10000 in
set_option maxHeartbeats 4000000 in
theorem r_B_poles_74 {B : Nat} {SA : Nat → Nat} {d : Nat} (hd : 6 ≤ d) : ∀ (L : JLoc) (v0 : Nat) (v2 : Nat) (μ : JMem) (r : Int32), jget L 0 = .ref v0 → jget L 2 = .ref v2 → g_B_poles_74 v0 v2 μ.1 = some r → jR B SA d m_B_poles 74 L [] μ (some (.int r)) μ := by
  intro L v0 v2 μ r hl0 hl2 h
  unfold g_B_poles_74 at h
  refine jr_aload_n jf_151_74 rfl hl0 ?_
  refine jr_aload_n jf_151_75 rfl hl0 ?_
  refine jr_aload_n jf_151_76 rfl hl2 ?_
  refine jr_iconst jf_151_77 jc_i_3 ?_
  replace h := jgd_of h; obtain ⟨hb1, h⟩ := h
  replace h := obd_of h; obtain ⟨x2, hx2, h⟩ := h
  refine jr_V6_2 jf_151_78 hb1 (by omega) (r_B_meaningOf (by omega) _ _ _ _ _ hx2) (Nat.le_of_ble_eq_true rfl) jml_152 (by simp only [jcats_cons, jcats_nil, cat_int, cat_long, cat_double, cat_float, cat_ref, rv_cat]; decide) ?_
  refine jr_aload_n jf_151_81 rfl hl0 ?_
  refine jr_aload_n jf_151_82 rfl hl2 ?_
  refine jr_iconst jf_151_83 jc_i_4 ?_
  replace h := jgd_of h; obtain ⟨hb3, h⟩ := h
  replace h := obd_of h; obtain ⟨x4, hx4, h⟩ := h
  refine jr_V6_2 jf_151_84 hb3 (by omega) (r_B_meaningOf (by omega) _ _ _ _ _ hx4) (Nat.le_of_ble_eq_true rfl) jml_152 (by simp only [jcats_cons, jcats_nil, cat_int, cat_long, cat_double, cat_float, cat_ref, rv_cat]; decide) ?_
  replace h := jgd_of h; obtain ⟨hb5, h⟩ := h
  replace h := obd_of h; obtain ⟨x6, hx6, h⟩ := h
  refine jr_V6_2 jf_151_87 hb5 (by omega) (r_B_judgedPair (by omega) _ _ _ _ _ hx6) (Nat.le_of_ble_eq_true rfl) jml_158 (Nat.le_of_ble_eq_true rfl) ?_
  obtain rfl := Option.some.inj h
  exact jr_retI jf_151_90 jmt_151
set_option maxRecDepth 10000 in
set_option maxHeartbeats 4000000 in
theorem r_B_poles_e {B : Nat} {SA : Nat → Nat} {d : Nat} (hd : 6 ≤ d) : ∀ (L : JLoc) (v0 : Nat) (v1 : Int32) (μ : JMem) (r : Int32), jget L 0 = .ref v0 → jget L 1 = .int v1 → g_B_poles v0 v1 μ.1 = some r → jR B SA d m_B_poles 0 L [] μ (some (.int r)) μ := by
  intro L v0 v1 μ r hl0 hl1 h
  unfold g_B_poles at h
  refine jr_aload_n jf_151_0 rfl hl0 ?_
  refine jr_iload_n jf_151_1 rfl hl1 ?_
  replace h := jgd_of h; obtain ⟨hb1, h⟩ := h
  replace h := obd_of h; obtain ⟨x2, hx2, h⟩ := h
  refine jr_V6_1 jf_151_2 hb1 (by omega) (r_B_sectionAt (by omega) _ _ _ _ hx2) (Nat.le_of_ble_eq_true rfl) jml_13 (Nat.le_of_ble_eq_true rfl) ?_
  refine jr_astore_n_A jf_151_5 rfl jml_151 (by decide) ?_
  refine jr_aload_n_A jf_151_6 rfl jg1_same ?_
  replace h := jon_or h; rcases h with ⟨rfl, h⟩ | ⟨a3, rfl, h⟩
  · refine jr_ifnonnull_n jf_151_7 ?_
    refine jr_iconst jf_151_10 jc_i_m1 ?_
    obtain rfl := Option.some.inj h
    exact jr_retI jf_151_11 jmt_151
  · refine jr_ifnonnull_s jf_151_7 ?_
    refine jr_aload_n jf_151_12 rfl jg1_same ?_
    replace h := obd_of h; obtain ⟨x4, hx4, h⟩ := h
    refine jr_getI jf_151_13 hx4 ?_
    refine jr_switch jf_151_16 ?_
    replace h := ite_or h; rcases h with ⟨hc, h⟩ | ⟨hc, h⟩
    · refine jsw_hit (by decide) hc ?_
      refine jr_aload_n jf_151_52 rfl (jg1_ne rfl hl0) ?_
      refine jr_aload_n jf_151_53 rfl (jg1_ne rfl hl0) ?_
      refine jr_aload_n jf_151_54 rfl jg1_same ?_
      refine jr_iconst jf_151_55 jc_i_1 ?_
      replace h := jgd_of h; obtain ⟨hb5, h⟩ := h
      replace h := obd_of h; obtain ⟨x6, hx6, h⟩ := h
      refine jr_V6_2 jf_151_56 hb5 (by omega) (r_B_meaningOf (by omega) _ _ _ _ _ hx6) (Nat.le_of_ble_eq_true rfl) jml_152 (by simp only [jcats_cons, jcats_nil, cat_int, cat_long, cat_double, cat_float, cat_ref, rv_cat]; decide) ?_
      replace h := jgd_of h; obtain ⟨hb7, h⟩ := h
      replace h := obd_of h; obtain ⟨x8, hx8, h⟩ := h
      refine jr_V6_1 jf_151_59 hb7 (by omega) (r_B_judgedPole (by omega) _ _ _ _ hx8) (Nat.le_of_ble_eq_true rfl) jml_155 (Nat.le_of_ble_eq_true rfl) ?_
      obtain rfl := Option.some.inj h
      exact jr_retI jf_151_62 jmt_151
    · refine jsw_miss (by decide) hc (by decide : (1 : Int) + 1 = 2) ?_
      replace h := ite_or h; rcases h with ⟨hc, h⟩ | ⟨hc, h⟩
      · refine jsw_hit (by decide) hc ?_
        exact r_B_poles_74 hd _ _ _ _ _ (jg1_ne rfl hl0) jg1_same h
      · refine jsw_miss (by decide) hc (by decide : (2 : Int) + 1 = 3) ?_
        replace h := ite_or h; rcases h with ⟨hc, h⟩ | ⟨hc, h⟩
        · refine jsw_hit (by decide) hc ?_
          exact r_B_poles_74 hd _ _ _ _ _ (jg1_ne rfl hl0) jg1_same h
        · refine jsw_miss (by decide) hc (by decide : (3 : Int) + 1 = 4) ?_
          replace h := ite_or h; rcases h with ⟨hc, h⟩ | ⟨hc, h⟩
          · refine jsw_hit (by decide) hc ?_
            exact r_B_poles_74 hd _ _ _ _ _ (jg1_ne rfl hl0) jg1_same h
          · refine jsw_miss (by decide) hc (by decide : (4 : Int) + 1 = 5) ?_
            replace h := ite_or h; rcases h with ⟨hc, h⟩ | ⟨hc, h⟩
            · refine jsw_hit (by decide) hc ?_
              refine jr_aload_n jf_151_63 rfl (jg1_ne rfl hl0) ?_
              refine jr_aload_n jf_151_64 rfl (jg1_ne rfl hl0) ?_
              refine jr_aload_n jf_151_65 rfl jg1_same ?_
              refine jr_iconst jf_151_66 jc_i_0 ?_
              replace h := jgd_of h; obtain ⟨hb9, h⟩ := h
              replace h := obd_of h; obtain ⟨x10, hx10, h⟩ := h
              refine jr_V6_2 jf_151_67 hb9 (by omega) (r_B_meaningOf (by omega) _ _ _ _ _ hx10) (Nat.le_of_ble_eq_true rfl) jml_152 (by simp only [jcats_cons, jcats_nil, cat_int, cat_long, cat_double, cat_float, cat_ref, rv_cat]; decide) ?_
              replace h := jgd_of h; obtain ⟨hb11, h⟩ := h
              replace h := obd_of h; obtain ⟨x12, hx12, h⟩ := h
              refine jr_V6_1 jf_151_70 hb11 (by omega) (r_B_judgedPole (by omega) _ _ _ _ hx12) (Nat.le_of_ble_eq_true rfl) jml_155 (Nat.le_of_ble_eq_true rfl) ?_
              obtain rfl := Option.some.inj h
              exact jr_retI jf_151_73 jmt_151
            · refine jsw_miss (by decide) hc (by decide : (5 : Int) + 1 = 6) ?_
              refine jsw_end ?_
              refine jr_iconst jf_151_91 jc_i_m1 ?_
              obtain rfl := Option.some.inj h
              exact jr_retI jf_151_92 jmt_151
set_option maxRecDepth 10000 in
set_option maxHeartbeats 4000000 in
theorem r_B_poles {B : Nat} {SA : Nat → Nat} {d : Nat} (hd : 6 ≤ d) : ∀ (v0 : Nat) (v1 : Int32) (μ : JMem) (r : Int32), g_B_poles v0 v1 μ.1 = some r → jR B SA d m_B_poles 0 (lv_args 0 [.ref v0, .int v1]) [] μ (some (.int r)) μ := by
  intro v0 v1 μ r h
  exact r_B_poles_e hd (lv_args 0 _) _ _ _ _ (by simp [lv_args, jget, rv_cat, cat_int, cat_long, cat_double, cat_float, cat_ref]) (by simp [lv_args, jget, rv_cat, cat_int, cat_long, cat_double, cat_float, cat_ref]) h
/-! java/util/Arrays.fill([II)V -/
set_option maxRecDepth 10000 in
set_option maxHeartbeats 4000000 in
theorem r_JArrays_fill_2_5 {N B : Nat} {SA : Nat → Nat} {d : Nat} (hd : 0 ≤ d) : ∀ (n : Nat), ∀ (L : JLoc) (v0 : Nat) (v1 : Int32) (v2 : Int32) (v3 : Int32) (μ : JMem) (μ9 : JMem), jget L 0 = .ref v0 → jget L 1 = .int v1 → jget L 2 = .int v2 → jget L 3 = .int v3 → g_JArrays_fill_2_5 N B n v0 v1 v2 v3 μ = some μ9 → jR B SA d m_JArrays_fill_2 5 L [] μ none μ9 := by
  intro n
  induction n with
  | zero =>
    intro L v0 v1 v2 v3 μ μ9 hl0 hl1 hl2 hl3 h
    unfold g_JArrays_fill_2_5 at h
    cases h
  | succ n ih =>
    intro L v0 v1 v2 v3 μ μ9 hl0 hl1 hl2 hl3 h
    unfold g_JArrays_fill_2_5 at h
    refine jr_iload_n jf_163_5 rfl hl2 ?_
    refine jr_iload_n jf_163_6 rfl hl3 ?_
    replace h := ite_or h; rcases h with ⟨hc, h⟩ | ⟨hc, h⟩
    · refine jr_if2_ge_t jf_163_7 hc ?_
      obtain rfl := Option.some.inj h
      exact jr_return jf_163_20 jmt_163
    · refine jr_if2_ge_f jf_163_7 hc ?_
      refine jr_aload_n jf_163_10 rfl hl0 ?_
      refine jr_iload_n jf_163_11 rfl hl2 ?_
      refine jr_iload_n jf_163_12 rfl hl1 ?_
      replace h := obd_of h; obtain ⟨μ1, hμ1, h⟩ := h
      refine jr_iastore jf_163_13 hμ1 ?_
      refine jr_iinc jf_163_14 jc_i_1 jml_163 (by decide) hl2 ?_
      refine jr_goto jf_163_17 ?_
      exact ih _ _ _ _ _ _ _ (jg1_ne rfl hl0) (jg1_pre rfl hl1) jg1_same (jg1_ne rfl hl3) h
set_option maxRecDepth 10000 in
set_option maxHeartbeats 4000000 in
theorem r_JArrays_fill_2_e {N B : Nat} {SA : Nat → Nat} {d : Nat} (hd : 0 ≤ d) : ∀ (L : JLoc) (v0 : Option Nat) (v1 : Int32) (μ : JMem) (μ9 : JMem), jget L 0 = rv v0 → jget L 1 = .int v1 → g_JArrays_fill_2 N B v0 v1 μ = some μ9 → jR B SA d m_JArrays_fill_2 0 L [] μ none μ9 := by
  intro L v0 v1 μ μ9 hl0 hl1 h
  unfold g_JArrays_fill_2 at h
  refine jr_iconst jf_163_0 jc_i_0 ?_
  refine jr_istore_n jf_163_1 rfl jml_163 (by decide) ?_
  refine jr_aload_n_A jf_163_2 rfl (jg1_ne rfl hl0) ?_
  replace h := obd_of h; obtain ⟨a1, rfl, h⟩ := h
  replace h := obd_of h; obtain ⟨x2, hx2, h⟩ := h
  refine jr_arraylength jf_163_3 hx2 ?_
  refine jr_istore_n jf_163_4 rfl jml_163 (by decide) ?_
  exact r_JArrays_fill_2_5 hd _ _ _ _ _ _ _ _ (jg1_ne rfl (jg1_ne rfl hl0)) (jg1_ne rfl (jg1_pre rfl hl1)) (jg1_pre rfl jg1_same) jg1_same h
set_option maxRecDepth 10000 in
set_option maxHeartbeats 4000000 in
theorem r_JArrays_fill_2 {N B : Nat} {SA : Nat → Nat} {d : Nat} (hd : 0 ≤ d) : ∀ (v0 : Option Nat) (v1 : Int32) (μ : JMem) (μ9 : JMem), g_JArrays_fill_2 N B v0 v1 μ = some μ9 → jR B SA d m_JArrays_fill_2 0 (lv_args 0 [rv v0, .int v1]) [] μ none μ9 := by
  intro v0 v1 μ μ9 h
  exact r_JArrays_fill_2_e hd (lv_args 0 _) _ _ _ _ (by simp [lv_args, jget, rv_cat, cat_int, cat_long, cat_double, cat_float, cat_ref]) (by simp [lv_args, jget, rv_cat, cat_int, cat_long, cat_double, cat_float, cat_ref]) h
/-! FilterBench$DeadCycles.begin()V -/
set_option maxRecDepth 10000 in
set_option maxHeartbeats 4000000 in
theorem r_DeadCycles_begin_14 {N B : Nat} {SA : Nat → Nat} {d : Nat} (hd : 1 ≤ d) : ∀ (L : JLoc) (v0 : Nat) (μ : JMem) (μ9 : JMem), jget L 0 = .ref v0 → g_DeadCycles_begin_14 N B v0 μ = some μ9 → jR B SA d m_DeadCycles_begin 14 L [] μ none μ9 := by
  intro L v0 μ μ9 hl0 h
  unfold g_DeadCycles_begin_14 at h
  refine jr_aload_n jf_162_14 rfl hl0 ?_
  refine jr_ldc jf_162_15 ?_
  replace h := jbd2_of h; obtain ⟨a1, μ2, ha1, h⟩ := h
  refine jr_newarray jf_162_17 rfl ha1 ?_
  replace h := obd_of h; obtain ⟨μ3, hμ3, h⟩ := h
  refine jr_putA (x := some _) jf_162_19 rfl hμ3 ?_
  refine jr_aload_n jf_162_22 rfl hl0 ?_
  refine jr_ldc jf_162_23 ?_
  replace h := jbd2_of h; obtain ⟨a4, μ5, ha4, h⟩ := h
  refine jr_newarray jf_162_25 rfl ha4 ?_
  replace h := obd_of h; obtain ⟨μ6, hμ6, h⟩ := h
  refine jr_putA (x := some _) jf_162_27 rfl hμ6 ?_
  refine jr_goto jf_162_30 ?_
  obtain rfl := Option.some.inj h
  exact jr_return jf_162_49 jmt_162
set_option maxRecDepth 10000 in
set_option maxHeartbeats 4000000 in
theorem r_DeadCycles_begin_e {N B : Nat} {SA : Nat → Nat} {d : Nat} (hd : 1 ≤ d) : ∀ (L : JLoc) (v0 : Nat) (μ : JMem) (μ9 : JMem), jget L 0 = .ref v0 → g_DeadCycles_begin N B v0 μ = some μ9 → jR B SA d m_DeadCycles_begin 0 L [] μ none μ9 := by
  intro L v0 μ μ9 hl0 h
  unfold g_DeadCycles_begin at h
  refine jr_aload_n jf_162_0 rfl hl0 ?_
  replace h := obd_of h; obtain ⟨x1, hx1, h⟩ := h
  refine jr_getA jf_162_1 hx1 ?_
  replace h := jon_or h; rcases h with ⟨rfl, h⟩ | ⟨a2, rfl, h⟩
  · refine jr_ifnull_n jf_162_4 ?_
    exact r_DeadCycles_begin_14 hd _ _ _ _ hl0 h
  · refine jr_ifnull_s jf_162_4 ?_
    refine jr_aload_n jf_162_7 rfl hl0 ?_
    replace h := obd_of h; obtain ⟨x3, hx3, h⟩ := h
    refine jr_getA jf_162_8 hx3 ?_
    replace h := jon_or h; rcases h with ⟨rfl, h⟩ | ⟨a4, rfl, h⟩
    · refine jr_ifnonnull_n jf_162_11 ?_
      exact r_DeadCycles_begin_14 hd _ _ _ _ hl0 h
    · refine jr_ifnonnull_s jf_162_11 ?_
      refine jr_aload_n jf_162_33 rfl hl0 ?_
      replace h := obd_of h; obtain ⟨x5, hx5, h⟩ := h
      refine jr_getA jf_162_34 hx5 ?_
      refine jr_iconst jf_162_37 jc_i_0 ?_
      replace h := obd_of h; obtain ⟨μ6, hμ6, h⟩ := h
      refine jr_S3v_2 jf_162_38 (by omega) (r_JArrays_fill_2 (by omega) _ _ _ _ hμ6) (Nat.le_of_ble_eq_true rfl) jml_163 (by simp only [jcats_cons, jcats_nil, cat_int, cat_long, cat_double, cat_float, cat_ref, rv_cat]; decide) ?_
      refine jr_aload_n jf_162_41 rfl hl0 ?_
      replace h := obd_of h; obtain ⟨x7, hx7, h⟩ := h
      refine jr_getA jf_162_42 hx7 ?_
      refine jr_lconst0 jf_162_45 ?_
      replace h := obd_of h; obtain ⟨μ8, hμ8, h⟩ := h
      refine jr_S3v_2 jf_162_46 (by omega) (r_JArrays_fill (by omega) _ _ _ _ hμ8) (Nat.le_of_ble_eq_true rfl) jml_130 (by simp only [jcats_cons, jcats_nil, cat_int, cat_long, cat_double, cat_float, cat_ref, rv_cat]; decide) ?_
      obtain rfl := Option.some.inj h
      exact jr_return jf_162_49 jmt_162
set_option maxRecDepth 10000 in
set_option maxHeartbeats 4000000 in
theorem r_DeadCycles_begin {N B : Nat} {SA : Nat → Nat} {d : Nat} (hd : 1 ≤ d) : ∀ (v0 : Nat) (μ : JMem) (μ9 : JMem), g_DeadCycles_begin N B v0 μ = some μ9 → jR B SA d m_DeadCycles_begin 0 (lv_args 0 [.ref v0]) [] μ none μ9 := by
  intro v0 μ μ9 h
  exact r_DeadCycles_begin_e hd (lv_args 0 _) _ _ _ (by simp [lv_args, jget, rv_cat, cat_int, cat_long, cat_double, cat_float, cat_ref]) h
/-! FilterBench$DeadCycles.setOwner(II)V -/
set_option maxRecDepth 10000 in
set_option maxHeartbeats 4000000 in
theorem r_DeadCycles_setOwner_e {B : Nat} {SA : Nat → Nat} {d : Nat} (hd : 0 ≤ d) : ∀ (L : JLoc) (v0 : Nat) (v1 : Int32) (v2 : Int32) (μ : JMem) (μ9 : JMem), jget L 0 = .ref v0 → jget L 1 = .int v1 → jget L 2 = .int v2 → g_DeadCycles_setOwner B v0 v1 v2 μ = some μ9 → jR B SA d m_DeadCycles_setOwner 0 L [] μ none μ9 := by
  intro L v0 v1 v2 μ μ9 hl0 hl1 hl2 h
  unfold g_DeadCycles_setOwner at h
  refine jr_aload_n jf_166_0 rfl hl0 ?_
  replace h := obd_of h; obtain ⟨x1, hx1, h⟩ := h
  refine jr_getA jf_166_1 hx1 ?_
  replace h := jon_or h; rcases h with ⟨rfl, h⟩ | ⟨a2, rfl, h⟩
  · refine jr_ifnull_n jf_166_4 ?_
    obtain rfl := Option.some.inj h
    exact jr_return jf_166_27 jmt_166
  · refine jr_ifnull_s jf_166_4 ?_
    refine jr_iload_n jf_166_7 rfl hl1 ?_
    replace h := ite_or h; rcases h with ⟨hc, h⟩ | ⟨hc, h⟩
    · refine jr_if_lt_t jf_166_8 hc ?_
      obtain rfl := Option.some.inj h
      exact jr_return jf_166_27 jmt_166
    · refine jr_if_lt_f jf_166_8 hc ?_
      refine jr_iload_n jf_166_11 rfl hl1 ?_
      refine jr_aload_n jf_166_12 rfl hl0 ?_
      replace h := obd_of h; obtain ⟨x3, hx3, h⟩ := h
      refine jr_getA jf_166_13 hx3 ?_
      replace h := obd_of h; obtain ⟨a4, rfl, h⟩ := h
      replace h := obd_of h; obtain ⟨x5, hx5, h⟩ := h
      refine jr_arraylength jf_166_16 hx5 ?_
      replace h := ite_or h; rcases h with ⟨hc, h⟩ | ⟨hc, h⟩
      · refine jr_if2_ge_t jf_166_17 hc ?_
        obtain rfl := Option.some.inj h
        exact jr_return jf_166_27 jmt_166
      · refine jr_if2_ge_f jf_166_17 hc ?_
        refine jr_aload_n jf_166_20 rfl hl0 ?_
        replace h := obd_of h; obtain ⟨x6, hx6, h⟩ := h
        refine jr_getA jf_166_21 hx6 ?_
        refine jr_iload_n jf_166_24 rfl hl1 ?_
        refine jr_iload_n jf_166_25 rfl hl2 ?_
        replace h := obd_of h; obtain ⟨a7, rfl, h⟩ := h
        replace h := obd_of h; obtain ⟨μ8, hμ8, h⟩ := h
        refine jr_iastore jf_166_26 hμ8 ?_
        obtain rfl := Option.some.inj h
        exact jr_return jf_166_27 jmt_166
set_option maxRecDepth 10000 in
set_option maxHeartbeats 4000000 in
theorem r_DeadCycles_setOwner {B : Nat} {SA : Nat → Nat} {d : Nat} (hd : 0 ≤ d) : ∀ (v0 : Nat) (v1 : Int32) (v2 : Int32) (μ : JMem) (μ9 : JMem), g_DeadCycles_setOwner B v0 v1 v2 μ = some μ9 → jR B SA d m_DeadCycles_setOwner 0 (lv_args 0 [.ref v0, .int v1, .int v2]) [] μ none μ9 := by
  intro v0 v1 v2 μ μ9 h
  exact r_DeadCycles_setOwner_e hd (lv_args 0 _) _ _ _ _ _ (by simp [lv_args, jget, rv_cat, cat_int, cat_long, cat_double, cat_float, cat_ref]) (by simp [lv_args, jget, rv_cat, cat_int, cat_long, cat_double, cat_float, cat_ref]) (by simp [lv_args, jget, rv_cat, cat_int, cat_long, cat_double, cat_float, cat_ref]) h
/-! FilterBench$DeadCycles.setTally(IJ)V -/
set_option maxRecDepth 10000 in
set_option maxHeartbeats 4000000 in
theorem r_DeadCycles_setTally_e {B : Nat} {SA : Nat → Nat} {d : Nat} (hd : 0 ≤ d) : ∀ (L : JLoc) (v0 : Nat) (v1 : Int32) (v2 : Int64) (μ : JMem) (μ9 : JMem), jget L 0 = .ref v0 → jget L 1 = .int v1 → jget L 2 = .long v2 → g_DeadCycles_setTally B v0 v1 v2 μ = some μ9 → jR B SA d m_DeadCycles_setTally 0 L [] μ none μ9 := by
  intro L v0 v1 v2 μ μ9 hl0 hl1 hl2 h
  unfold g_DeadCycles_setTally at h
  refine jr_aload_n jf_170_0 rfl hl0 ?_
  replace h := obd_of h; obtain ⟨x1, hx1, h⟩ := h
  refine jr_getA jf_170_1 hx1 ?_
  replace h := jon_or h; rcases h with ⟨rfl, h⟩ | ⟨a2, rfl, h⟩
  · refine jr_ifnull_n jf_170_4 ?_
    obtain rfl := Option.some.inj h
    exact jr_return jf_170_27 jmt_170
  · refine jr_ifnull_s jf_170_4 ?_
    refine jr_iload_n jf_170_7 rfl hl1 ?_
    replace h := ite_or h; rcases h with ⟨hc, h⟩ | ⟨hc, h⟩
    · refine jr_if_lt_t jf_170_8 hc ?_
      obtain rfl := Option.some.inj h
      exact jr_return jf_170_27 jmt_170
    · refine jr_if_lt_f jf_170_8 hc ?_
      refine jr_iload_n jf_170_11 rfl hl1 ?_
      refine jr_aload_n jf_170_12 rfl hl0 ?_
      replace h := obd_of h; obtain ⟨x3, hx3, h⟩ := h
      refine jr_getA jf_170_13 hx3 ?_
      replace h := obd_of h; obtain ⟨a4, rfl, h⟩ := h
      replace h := obd_of h; obtain ⟨x5, hx5, h⟩ := h
      refine jr_arraylength jf_170_16 hx5 ?_
      replace h := ite_or h; rcases h with ⟨hc, h⟩ | ⟨hc, h⟩
      · refine jr_if2_ge_t jf_170_17 hc ?_
        obtain rfl := Option.some.inj h
        exact jr_return jf_170_27 jmt_170
      · refine jr_if2_ge_f jf_170_17 hc ?_
        refine jr_aload_n jf_170_20 rfl hl0 ?_
        replace h := obd_of h; obtain ⟨x6, hx6, h⟩ := h
        refine jr_getA jf_170_21 hx6 ?_
        refine jr_iload_n jf_170_24 rfl hl1 ?_
        refine jr_lload_n jf_170_25 rfl hl2 ?_
        replace h := obd_of h; obtain ⟨a7, rfl, h⟩ := h
        replace h := obd_of h; obtain ⟨μ8, hμ8, h⟩ := h
        refine jr_lastore jf_170_26 hμ8 ?_
        obtain rfl := Option.some.inj h
        exact jr_return jf_170_27 jmt_170
set_option maxRecDepth 10000 in
set_option maxHeartbeats 4000000 in
theorem r_DeadCycles_setTally {B : Nat} {SA : Nat → Nat} {d : Nat} (hd : 0 ≤ d) : ∀ (v0 : Nat) (v1 : Int32) (v2 : Int64) (μ : JMem) (μ9 : JMem), g_DeadCycles_setTally B v0 v1 v2 μ = some μ9 → jR B SA d m_DeadCycles_setTally 0 (lv_args 0 [.ref v0, .int v1, .long v2]) [] μ none μ9 := by
  intro v0 v1 v2 μ μ9 h
  exact r_DeadCycles_setTally_e hd (lv_args 0 _) _ _ _ _ _ (by simp [lv_args, jget, rv_cat, cat_int, cat_long, cat_double, cat_float, cat_ref]) (by simp [lv_args, jget, rv_cat, cat_int, cat_long, cat_double, cat_float, cat_ref]) (by simp [lv_args, jget, rv_cat, cat_int, cat_long, cat_double, cat_float, cat_ref]) h
/-! FilterBench$DeadCycles.tallyOf(I)J -/
set_option maxRecDepth 10000 in
set_option maxHeartbeats 4000000 in
theorem r_DeadCycles_tallyOf_20 {B : Nat} {SA : Nat → Nat} {d : Nat} (hd : 0 ≤ d) : ∀ (L : JLoc) (μ : JMem) (r : Int64), g_DeadCycles_tallyOf_20 μ.1 = some r → jR B SA d m_DeadCycles_tallyOf 20 L [] μ (some (.long r)) μ := by
  intro L μ r h
  unfold g_DeadCycles_tallyOf_20 at h
  refine jr_lconst0 jf_171_20 ?_
  refine jr_goto jf_171_21 ?_
  obtain rfl := Option.some.inj h
  exact jr_retJ jf_171_30 jmt_171
set_option maxRecDepth 10000 in
set_option maxHeartbeats 4000000 in
theorem r_DeadCycles_tallyOf_e {B : Nat} {SA : Nat → Nat} {d : Nat} (hd : 0 ≤ d) : ∀ (L : JLoc) (v0 : Nat) (v1 : Int32) (μ : JMem) (r : Int64), jget L 0 = .ref v0 → jget L 1 = .int v1 → g_DeadCycles_tallyOf v0 v1 μ.1 = some r → jR B SA d m_DeadCycles_tallyOf 0 L [] μ (some (.long r)) μ := by
  intro L v0 v1 μ r hl0 hl1 h
  unfold g_DeadCycles_tallyOf at h
  refine jr_aload_n jf_171_0 rfl hl0 ?_
  replace h := obd_of h; obtain ⟨x1, hx1, h⟩ := h
  refine jr_getA jf_171_1 hx1 ?_
  replace h := jon_or h; rcases h with ⟨rfl, h⟩ | ⟨a2, rfl, h⟩
  · refine jr_ifnull_n jf_171_4 ?_
    exact r_DeadCycles_tallyOf_20 hd _  _ _ h
  · refine jr_ifnull_s jf_171_4 ?_
    refine jr_iload_n jf_171_7 rfl hl1 ?_
    replace h := ite_or h; rcases h with ⟨hc, h⟩ | ⟨hc, h⟩
    · refine jr_if_lt_t jf_171_8 hc ?_
      exact r_DeadCycles_tallyOf_20 hd _  _ _ h
    · refine jr_if_lt_f jf_171_8 hc ?_
      refine jr_iload_n jf_171_11 rfl hl1 ?_
      refine jr_aload_n jf_171_12 rfl hl0 ?_
      replace h := obd_of h; obtain ⟨x3, hx3, h⟩ := h
      refine jr_getA jf_171_13 hx3 ?_
      replace h := obd_of h; obtain ⟨a4, rfl, h⟩ := h
      replace h := obd_of h; obtain ⟨x5, hx5, h⟩ := h
      refine jr_arraylength jf_171_16 hx5 ?_
      replace h := ite_or h; rcases h with ⟨hc, h⟩ | ⟨hc, h⟩
      · refine jr_if2_lt_t jf_171_17 hc ?_
        refine jr_aload_n jf_171_24 rfl hl0 ?_
        replace h := obd_of h; obtain ⟨x6, hx6, h⟩ := h
        refine jr_getA jf_171_25 hx6 ?_
        refine jr_iload_n jf_171_28 rfl hl1 ?_
        replace h := obd_of h; obtain ⟨a7, rfl, h⟩ := h
        replace h := obd_of h; obtain ⟨x8, hx8, h⟩ := h
        refine jr_laload jf_171_29 hx8 ?_
        obtain rfl := Option.some.inj h
        exact jr_retJ jf_171_30 jmt_171
      · refine jr_if2_lt_f jf_171_17 hc ?_
        exact r_DeadCycles_tallyOf_20 hd _  _ _ h
set_option maxRecDepth 10000 in
set_option maxHeartbeats 4000000 in
theorem r_DeadCycles_tallyOf {B : Nat} {SA : Nat → Nat} {d : Nat} (hd : 0 ≤ d) : ∀ (v0 : Nat) (v1 : Int32) (μ : JMem) (r : Int64), g_DeadCycles_tallyOf v0 v1 μ.1 = some r → jR B SA d m_DeadCycles_tallyOf 0 (lv_args 0 [.ref v0, .int v1]) [] μ (some (.long r)) μ := by
  intro v0 v1 μ r h
  exact r_DeadCycles_tallyOf_e hd (lv_args 0 _) _ _ _ _ (by simp [lv_args, jget, rv_cat, cat_int, cat_long, cat_double, cat_float, cat_ref]) (by simp [lv_args, jget, rv_cat, cat_int, cat_long, cat_double, cat_float, cat_ref]) h
/-! FilterBench$DeadCycles.gatherFound()V -/
set_option maxRecDepth 10000 in
set_option maxHeartbeats 4000000 in
theorem r_DeadCycles_gatherFound_55 {N B : Nat} {SA : Nat → Nat} {d : Nat} (hd : 1 ≤ d) {k7 : Nat → Int32 → JMem → Option JMem} (i7 : ∀ (L : JLoc) (v0 : Nat) (v1 : Int32) (μ : JMem) (μ9 : JMem), jget L 0 = .ref v0 → jget L 1 = .int v1 → k7 v0 v1 μ = some μ9 → jR B SA d m_DeadCycles_gatherFound 7 L [] μ none μ9) : ∀ (L : JLoc) (v0 : Nat) (v1 : Int32) (μ : JMem) (μ9 : JMem), jget L 0 = .ref v0 → jget L 1 = .int v1 → g_DeadCycles_gatherFound_55 N B k7 v0 v1 μ = some μ9 → jR B SA d m_DeadCycles_gatherFound 55 L [] μ none μ9 := by
  intro L v0 v1 μ μ9 hl0 hl1 h
  unfold g_DeadCycles_gatherFound_55 at h
  refine jr_iinc jf_172_55 jc_i_1 jml_172 (by decide) hl1 ?_
  refine jr_goto jf_172_58 ?_
  exact i7 _ _ _ _ _ (jg1_pre (by first | rfl | exact rv_cat _) hl0) jg1_same h
set_option maxRecDepth 10000 in
set_option maxHeartbeats 4000000 in
theorem r_DeadCycles_gatherFound_7 {N B : Nat} {SA : Nat → Nat} {d : Nat} (hd : 1 ≤ d) : ∀ (n : Nat), ∀ (L : JLoc) (v0 : Nat) (v1 : Int32) (μ : JMem) (μ9 : JMem), jget L 0 = .ref v0 → jget L 1 = .int v1 → g_DeadCycles_gatherFound_7 N B n v0 v1 μ = some μ9 → jR B SA d m_DeadCycles_gatherFound 7 L [] μ none μ9 := by
  intro n
  induction n with
  | zero =>
    intro L v0 v1 μ μ9 hl0 hl1 h
    unfold g_DeadCycles_gatherFound_7 at h
    cases h
  | succ n ih =>
    intro L v0 v1 μ μ9 hl0 hl1 h
    unfold g_DeadCycles_gatherFound_7 at h
    refine jr_iload_n jf_172_7 rfl hl1 ?_
    refine jr_ldc jf_172_8 ?_
    replace h := ite_or h; rcases h with ⟨hc, h⟩ | ⟨hc, h⟩
    · refine jr_if2_ge_t jf_172_10 hc ?_
      obtain rfl := Option.some.inj h
      exact jr_return jf_172_61 jmt_172
    · refine jr_if2_ge_f jf_172_10 hc ?_
      refine jr_aload_n jf_172_13 rfl hl0 ?_
      refine jr_iload_n jf_172_14 rfl hl1 ?_
      replace h := jgd_of h; obtain ⟨hb1, h⟩ := h
      replace h := obd_of h; obtain ⟨x2, hx2, h⟩ := h
      refine jr_V6_1 jf_172_15 hb1 (by omega) (r_DeadCycles_tallyOf (by omega) _ _ _ _ hx2) (Nat.le_of_ble_eq_true rfl) jml_171 (Nat.le_of_ble_eq_true rfl) ?_
      refine jr_lconst0 jf_172_18 ?_
      refine jr_lcmp jf_172_19 ?_
      replace h := ite_or h; rcases h with ⟨hc, h⟩ | ⟨hc, h⟩
      · refine jr_ifl_eq_t jf_172_20 hc ?_
        exact r_DeadCycles_gatherFound_55 hd ih _ _ _ _ _ hl0 hl1 h
      · refine jr_ifl_eq_f jf_172_20 hc ?_
        refine jr_aload_n jf_172_23 rfl hl0 ?_
        refine jr_aload_n jf_172_24 rfl hl0 ?_
        replace h := obd_of h; obtain ⟨x3, hx3, h⟩ := h
        refine jr_getI jf_172_25 hx3 ?_
        refine jr_aload_n jf_172_28 rfl hl0 ?_
        refine jr_iload_n jf_172_29 rfl hl1 ?_
        replace h := jgd_of h; obtain ⟨hb4, h⟩ := h
        replace h := obd_of h; obtain ⟨x5, hx5, h⟩ := h
        refine jr_V6_1 jf_172_30 hb4 (by omega) (r_DeadCycles_tallyOf (by omega) _ _ _ _ hx5) (Nat.le_of_ble_eq_true rfl) jml_171 (Nat.le_of_ble_eq_true rfl) ?_
        replace h := jgd_of h; obtain ⟨hb6, h⟩ := h
        replace h := obd_of h; obtain ⟨μ7, hμ7, h⟩ := h
        refine jr_V6v_2 jf_172_33 hb6 (by omega) (r_DeadCycles_setTally (by omega) _ _ _ _ _ hμ7) (Nat.le_of_ble_eq_true rfl) jml_170 (Nat.le_of_ble_eq_true rfl) ?_
        refine jr_aload_n jf_172_36 rfl hl0 ?_
        refine jr_aload_n jf_172_37 rfl hl0 ?_
        replace h := obd_of h; obtain ⟨x8, hx8, h⟩ := h
        refine jr_getI jf_172_38 hx8 ?_
        refine jr_iload_n jf_172_41 rfl hl1 ?_
        replace h := jgd_of h; obtain ⟨hb9, h⟩ := h
        replace h := obd_of h; obtain ⟨μ10, hμ10, h⟩ := h
        refine jr_V6v_2 jf_172_42 hb9 (by omega) (r_DeadCycles_setOwner (by omega) _ _ _ _ _ hμ10) (Nat.le_of_ble_eq_true rfl) jml_166 (Nat.le_of_ble_eq_true rfl) ?_
        refine jr_aload_n jf_172_45 rfl hl0 ?_
        refine jr_dup jf_172_46 rfl ?_
        replace h := obd_of h; obtain ⟨x11, hx11, h⟩ := h
        refine jr_getI jf_172_47 hx11 ?_
        refine jr_iconst jf_172_50 jc_i_1 ?_
        refine jr_iadd jf_172_51 ?_
        replace h := obd_of h; obtain ⟨μ12, hμ12, h⟩ := h
        refine jr_putI jf_172_52 rfl hμ12 ?_
        exact r_DeadCycles_gatherFound_55 hd ih _ _ _ _ _ hl0 hl1 h
set_option maxRecDepth 10000 in
set_option maxHeartbeats 4000000 in
theorem r_DeadCycles_gatherFound_e {N B : Nat} {SA : Nat → Nat} {d : Nat} (hd : 1 ≤ d) : ∀ (L : JLoc) (v0 : Nat) (μ : JMem) (μ9 : JMem), jget L 0 = .ref v0 → g_DeadCycles_gatherFound N B v0 μ = some μ9 → jR B SA d m_DeadCycles_gatherFound 0 L [] μ none μ9 := by
  intro L v0 μ μ9 hl0 h
  unfold g_DeadCycles_gatherFound at h
  refine jr_aload_n jf_172_0 rfl hl0 ?_
  refine jr_iconst jf_172_1 jc_i_0 ?_
  replace h := obd_of h; obtain ⟨μ1, hμ1, h⟩ := h
  refine jr_putI jf_172_2 rfl hμ1 ?_
  refine jr_iconst jf_172_5 jc_i_0 ?_
  refine jr_istore_n jf_172_6 rfl jml_172 (by decide) ?_
  exact r_DeadCycles_gatherFound_7 hd _ _ _ _ _ _ (jg1_pre (by first | rfl | exact rv_cat _) hl0) jg1_same h
set_option maxRecDepth 10000 in
set_option maxHeartbeats 4000000 in
theorem r_DeadCycles_gatherFound {N B : Nat} {SA : Nat → Nat} {d : Nat} (hd : 1 ≤ d) : ∀ (v0 : Nat) (μ : JMem) (μ9 : JMem), g_DeadCycles_gatherFound N B v0 μ = some μ9 → jR B SA d m_DeadCycles_gatherFound 0 (lv_args 0 [.ref v0]) [] μ none μ9 := by
  intro v0 μ μ9 h
  exact r_DeadCycles_gatherFound_e hd (lv_args 0 _) _ _ _ (by simp [lv_args, jget, rv_cat, cat_int, cat_long, cat_double, cat_float, cat_ref]) h
/-! FilterBench$DeadCycles.ownerOf(I)I -/
set_option maxRecDepth 10000 in
set_option maxHeartbeats 4000000 in
theorem r_DeadCycles_ownerOf_20 {B : Nat} {SA : Nat → Nat} {d : Nat} (hd : 0 ≤ d) : ∀ (L : JLoc) (μ : JMem) (r : Int32), g_DeadCycles_ownerOf_20 μ.1 = some r → jR B SA d m_DeadCycles_ownerOf 20 L [] μ (some (.int r)) μ := by
  intro L μ r h
  unfold g_DeadCycles_ownerOf_20 at h
  refine jr_iconst jf_164_20 jc_i_0 ?_
  refine jr_goto jf_164_21 ?_
  obtain rfl := Option.some.inj h
  exact jr_retI jf_164_30 jmt_164
set_option maxRecDepth 10000 in
set_option maxHeartbeats 4000000 in
theorem r_DeadCycles_ownerOf_e {B : Nat} {SA : Nat → Nat} {d : Nat} (hd : 0 ≤ d) : ∀ (L : JLoc) (v0 : Nat) (v1 : Int32) (μ : JMem) (r : Int32), jget L 0 = .ref v0 → jget L 1 = .int v1 → g_DeadCycles_ownerOf v0 v1 μ.1 = some r → jR B SA d m_DeadCycles_ownerOf 0 L [] μ (some (.int r)) μ := by
  intro L v0 v1 μ r hl0 hl1 h
  unfold g_DeadCycles_ownerOf at h
  refine jr_aload_n jf_164_0 rfl hl0 ?_
  replace h := obd_of h; obtain ⟨x1, hx1, h⟩ := h
  refine jr_getA jf_164_1 hx1 ?_
  replace h := jon_or h; rcases h with ⟨rfl, h⟩ | ⟨a2, rfl, h⟩
  · refine jr_ifnull_n jf_164_4 ?_
    exact r_DeadCycles_ownerOf_20 hd _  _ _ h
  · refine jr_ifnull_s jf_164_4 ?_
    refine jr_iload_n jf_164_7 rfl hl1 ?_
    replace h := ite_or h; rcases h with ⟨hc, h⟩ | ⟨hc, h⟩
    · refine jr_if_lt_t jf_164_8 hc ?_
      exact r_DeadCycles_ownerOf_20 hd _  _ _ h
    · refine jr_if_lt_f jf_164_8 hc ?_
      refine jr_iload_n jf_164_11 rfl hl1 ?_
      refine jr_aload_n jf_164_12 rfl hl0 ?_
      replace h := obd_of h; obtain ⟨x3, hx3, h⟩ := h
      refine jr_getA jf_164_13 hx3 ?_
      replace h := obd_of h; obtain ⟨a4, rfl, h⟩ := h
      replace h := obd_of h; obtain ⟨x5, hx5, h⟩ := h
      refine jr_arraylength jf_164_16 hx5 ?_
      replace h := ite_or h; rcases h with ⟨hc, h⟩ | ⟨hc, h⟩
      · refine jr_if2_lt_t jf_164_17 hc ?_
        refine jr_aload_n jf_164_24 rfl hl0 ?_
        replace h := obd_of h; obtain ⟨x6, hx6, h⟩ := h
        refine jr_getA jf_164_25 hx6 ?_
        refine jr_iload_n jf_164_28 rfl hl1 ?_
        replace h := obd_of h; obtain ⟨a7, rfl, h⟩ := h
        replace h := obd_of h; obtain ⟨x8, hx8, h⟩ := h
        refine jr_iaload jf_164_29 hx8 ?_
        obtain rfl := Option.some.inj h
        exact jr_retI jf_164_30 jmt_164
      · refine jr_if2_lt_f jf_164_17 hc ?_
        exact r_DeadCycles_ownerOf_20 hd _  _ _ h
set_option maxRecDepth 10000 in
set_option maxHeartbeats 4000000 in
theorem r_DeadCycles_ownerOf {B : Nat} {SA : Nat → Nat} {d : Nat} (hd : 0 ≤ d) : ∀ (v0 : Nat) (v1 : Int32) (μ : JMem) (r : Int32), g_DeadCycles_ownerOf v0 v1 μ.1 = some r → jR B SA d m_DeadCycles_ownerOf 0 (lv_args 0 [.ref v0, .int v1]) [] μ (some (.int r)) μ := by
  intro v0 v1 μ r h
  exact r_DeadCycles_ownerOf_e hd (lv_args 0 _) _ _ _ _ (by simp [lv_args, jget, rv_cat, cat_int, cat_long, cat_double, cat_float, cat_ref]) (by simp [lv_args, jget, rv_cat, cat_int, cat_long, cat_double, cat_float, cat_ref]) h
/-! FilterBench$DeadCycles.next(I)I -/
set_option maxRecDepth 10000 in
set_option maxHeartbeats 4000000 in
theorem r_DeadCycles_next_38 {B : Nat} {SA : Nat → Nat} {d : Nat} (hd : 2 ≤ d) : ∀ (L : JLoc) (s0 : Int64) (μ : JMem) (r : Int32), g_DeadCycles_next_38 s0 μ.1 = some r → jR B SA d m_DeadCycles_next 38 L [.long s0] μ (some (.int r)) μ := by
  intro L s0 μ r h
  unfold g_DeadCycles_next_38 at h
  refine jr_l2i jf_167_38 ?_
  refine jr_sipush jf_167_39 jc_s_m32768 ?_
  refine jr_isub jf_167_42 ?_
  obtain rfl := Option.some.inj h
  exact jr_retI jf_167_43 jmt_167
set_option maxRecDepth 10000 in
set_option maxHeartbeats 4000000 in
theorem r_DeadCycles_next_e {B : Nat} {SA : Nat → Nat} {d : Nat} (hd : 2 ≤ d) : ∀ (L : JLoc) (v0 : Nat) (v1 : Int32) (μ : JMem) (r : Int32), jget L 0 = .ref v0 → jget L 1 = .int v1 → g_DeadCycles_next v0 v1 μ.1 = some r → jR B SA d m_DeadCycles_next 0 L [] μ (some (.int r)) μ := by
  intro L v0 v1 μ r hl0 hl1 h
  unfold g_DeadCycles_next at h
  refine jr_aload_n jf_167_0 rfl hl0 ?_
  replace h := obd_of h; obtain ⟨x1, hx1, h⟩ := h
  refine jr_getJ jf_167_1 hx1 ?_
  refine jr_iload_n jf_167_4 rfl hl1 ?_
  refine jr_sipush jf_167_5 jc_s_m32768 ?_
  refine jr_iadd jf_167_8 ?_
  refine jr_i2l jf_167_9 ?_
  refine jr_lmul jf_167_10 ?_
  refine jr_aload_n jf_167_11 rfl hl0 ?_
  replace h := obd_of h; obtain ⟨x2, hx2, h⟩ := h
  refine jr_getI jf_167_12 hx2 ?_
  refine jr_S3_2 jf_167_15 (by omega) (r_Shorts_rounded (by omega) _ _ _ _ rfl) (Nat.le_of_ble_eq_true rfl) jml_80 (Nat.le_of_ble_eq_true rfl) ?_
  refine jr_lstore_n jf_167_18 rfl jml_167 (by decide) ?_
  replace h := jlet_of h
  refine jr_lload_n jf_167_19 rfl jg2_same ?_
  refine jr_S3_1 jf_167_20 (by omega) (r_Shorts_isShort (by omega) _ _ _ rfl) (Nat.le_of_ble_eq_true rfl) jml_81 (Nat.le_of_ble_eq_true rfl) ?_
  replace h := ite_or h; rcases h with ⟨hc, h⟩ | ⟨hc, h⟩
  · refine jr_ifz_eq_f jf_167_23 hc ?_
    refine jr_lload_n jf_167_26 rfl jg2_same ?_
    refine jr_goto jf_167_27 ?_
    exact r_DeadCycles_next_38 hd _ _ _ _ h
  · refine jr_ifz_eq_t jf_167_23 hc ?_
    refine jr_lload_n jf_167_30 rfl jg2_same ?_
    refine jr_aload_n jf_167_31 rfl (jg2_ne rfl hl0) ?_
    replace h := obd_of h; obtain ⟨x4, hx4, h⟩ := h
    refine jr_getI jf_167_32 hx4 ?_
    refine jr_S3_2 jf_167_35 (by omega) (r_Shorts_limited (by omega) _ _ _ _ rfl) (Nat.le_of_ble_eq_true rfl) jml_82 (Nat.le_of_ble_eq_true rfl) ?_
    exact r_DeadCycles_next_38 hd _ _ _ _ h
set_option maxRecDepth 10000 in
set_option maxHeartbeats 4000000 in
theorem r_DeadCycles_next {B : Nat} {SA : Nat → Nat} {d : Nat} (hd : 2 ≤ d) : ∀ (v0 : Nat) (v1 : Int32) (μ : JMem) (r : Int32), g_DeadCycles_next v0 v1 μ.1 = some r → jR B SA d m_DeadCycles_next 0 (lv_args 0 [.ref v0, .int v1]) [] μ (some (.int r)) μ := by
  intro v0 v1 μ r h
  exact r_DeadCycles_next_e hd (lv_args 0 _) _ _ _ _ (by simp [lv_args, jget, rv_cat, cat_int, cat_long, cat_double, cat_float, cat_ref]) (by simp [lv_args, jget, rv_cat, cat_int, cat_long, cat_double, cat_float, cat_ref]) h
/-! java/lang/Math.min(II)I -/
set_option maxRecDepth 10000 in
set_option maxHeartbeats 4000000 in
theorem r_JMath_min_e {B : Nat} {SA : Nat → Nat} {d : Nat} (hd : 0 ≤ d) : ∀ (L : JLoc) (v0 : Int32) (v1 : Int32) (μ : JMem) (r : Int32), jget L 0 = .int v0 → jget L 1 = .int v1 → g_JMath_min v0 v1 = r → jR B SA d m_JMath_min 0 L [] μ (some (.int r)) μ := by
  intro L v0 v1 μ r hl0 hl1 h
  unfold g_JMath_min at h
  refine jr_iload_n jf_169_0 rfl hl0 ?_
  refine jr_iload_n jf_169_1 rfl hl1 ?_
  replace h := ite_or h; rcases h with ⟨hc, h⟩ | ⟨hc, h⟩
  · refine jr_if2_gt_t jf_169_2 hc ?_
    refine jr_iload_n jf_169_9 rfl hl1 ?_
    subst h
    exact jr_retI jf_169_10 jmt_169
  · refine jr_if2_gt_f jf_169_2 hc ?_
    refine jr_iload_n jf_169_5 rfl hl0 ?_
    refine jr_goto jf_169_6 ?_
    subst h
    exact jr_retI jf_169_10 jmt_169
set_option maxRecDepth 10000 in
set_option maxHeartbeats 4000000 in
theorem r_JMath_min {B : Nat} {SA : Nat → Nat} {d : Nat} (hd : 0 ≤ d) : ∀ (v0 : Int32) (v1 : Int32) (μ : JMem) (r : Int32), g_JMath_min v0 v1 = r → jR B SA d m_JMath_min 0 (lv_args 0 [.int v0, .int v1]) [] μ (some (.int r)) μ := by
  intro v0 v1 μ r h
  exact r_JMath_min_e hd (lv_args 0 _) _ _ _ _ (by simp [lv_args, jget, rv_cat, cat_int, cat_long, cat_double, cat_float, cat_ref]) (by simp [lv_args, jget, rv_cat, cat_int, cat_long, cat_double, cat_float, cat_ref]) h
/-! FilterBench$DeadCycles.newCycle(I)I -/
set_option maxRecDepth 10000 in
set_option maxHeartbeats 4000000 in
theorem r_DeadCycles_newCycle_51 {N B : Nat} {SA : Nat → Nat} {d : Nat} (hd : 3 ≤ d) : ∀ (L : JLoc) (v0 : Nat) (v2 : Int32) (v3 : Int32) (μ : JMem) (r : Int32) (μ9 : JMem), jget L 0 = .ref v0 → jget L 2 = .int v2 → jget L 3 = .int v3 → g_DeadCycles_newCycle_51 N B v0 v2 v3 μ = some (r, μ9) → jR B SA d m_DeadCycles_newCycle 51 L [] μ (some (.int r)) μ9 := by
  intro L v0 v2 v3 μ r μ9 hl0 hl2 hl3 h
  unfold g_DeadCycles_newCycle_51 at h
  refine jr_aload_n jf_168_51 rfl hl0 ?_
  refine jr_iload_n jf_168_52 rfl hl2 ?_
  refine jr_iload_n jf_168_53 rfl hl3 ?_
  refine jr_i2l jf_168_54 ?_
  replace h := jgd_of h; obtain ⟨hb1, h⟩ := h
  replace h := obd_of h; obtain ⟨μ2, hμ2, h⟩ := h
  refine jr_V6v_2 jf_168_55 hb1 (by omega) (r_DeadCycles_setTally (by omega) _ _ _ _ _ hμ2) (Nat.le_of_ble_eq_true rfl) jml_170 (Nat.le_of_ble_eq_true rfl) ?_
  refine jr_iload_n jf_168_58 rfl hl2 ?_
  refine jr_iconst jf_168_59 jc_i_1 ?_
  refine jr_iadd jf_168_60 ?_
  obtain ⟨rfl, rfl⟩ := Prod.mk.inj (Option.some.inj h)
  exact jr_retI jf_168_61 jmt_168
set_option maxRecDepth 10000 in
set_option maxHeartbeats 4000000 in
theorem r_DeadCycles_newCycle_14 {N B : Nat} {SA : Nat → Nat} {d : Nat} (hd : 3 ≤ d) : ∀ (n : Nat), ∀ (L : JLoc) (v0 : Nat) (v1 : Int32) (v2 : Int32) (v3 : Int32) (v4 : Int32) (v5 : Int32) (μ : JMem) (r : Int32) (μ9 : JMem), jget L 0 = .ref v0 → jget L 1 = .int v1 → jget L 2 = .int v2 → jget L 3 = .int v3 → jget L 4 = .int v4 → jget L 5 = .int v5 → g_DeadCycles_newCycle_14 N B n v0 v1 v2 v3 v4 v5 μ = some (r, μ9) → jR B SA d m_DeadCycles_newCycle 14 L [] μ (some (.int r)) μ9 := by
  intro n
  induction n with
  | zero =>
    intro L v0 v1 v2 v3 v4 v5 μ r μ9 hl0 hl1 hl2 hl3 hl4 hl5 h
    unfold g_DeadCycles_newCycle_14 at h
    cases h
  | succ n ih =>
    intro L v0 v1 v2 v3 v4 v5 μ r μ9 hl0 hl1 hl2 hl3 hl4 hl5 h
    unfold g_DeadCycles_newCycle_14 at h
    refine jr_iload jf_168_14 hl5 ?_
    refine jr_ldc jf_168_16 ?_
    replace h := ite_or h; rcases h with ⟨hc, h⟩ | ⟨hc, h⟩
    · refine jr_if2_ge_t jf_168_18 hc ?_
      exact r_DeadCycles_newCycle_51 hd _ _ _ _ _ _ _ hl0 hl2 hl3 h
    · refine jr_if2_ge_f jf_168_18 hc ?_
      refine jr_iload jf_168_21 hl4 ?_
      refine jr_iload_n jf_168_23 rfl hl1 ?_
      replace h := ite_or h; rcases h with ⟨hc, h⟩ | ⟨hc, h⟩
      · refine jr_if2_eq_t jf_168_24 hc ?_
        exact r_DeadCycles_newCycle_51 hd _ _ _ _ _ _ _ hl0 hl2 hl3 h
      · refine jr_if2_eq_f jf_168_24 hc ?_
        refine jr_iload_n jf_168_27 rfl hl2 ?_
        refine jr_iload jf_168_28 hl4 ?_
        refine jr_S3_2 jf_168_30 (by omega) (r_JMath_min (by omega) _ _ _ _ rfl) (Nat.le_of_ble_eq_true rfl) jml_169 (Nat.le_of_ble_eq_true rfl) ?_
        refine jr_istore_n jf_168_33 rfl jml_168 (by decide) ?_
        refine jr_iinc jf_168_34 jc_i_1 jml_168 (by decide) (jg1_ne rfl hl3) ?_
        refine jr_aload_n jf_168_37 rfl (jg1_ne rfl (jg1_ne rfl hl0)) ?_
        refine jr_iload jf_168_38 (jg1_ne rfl (jg1_ne rfl hl4)) ?_
        replace h := jgd_of h; obtain ⟨hb1, h⟩ := h
        replace h := obd_of h; obtain ⟨x2, hx2, h⟩ := h
        refine jr_V6_1 jf_168_40 hb1 (by omega) (r_DeadCycles_next (by omega) _ _ _ _ hx2) (Nat.le_of_ble_eq_true rfl) jml_167 (Nat.le_of_ble_eq_true rfl) ?_
        refine jr_istore jf_168_43 jml_168 (by decide) ?_
        refine jr_iinc jf_168_45 jc_i_1 jml_168 (by decide) (jg1_ne rfl (jg1_ne rfl (jg1_ne rfl hl5))) ?_
        refine jr_goto jf_168_48 ?_
        exact ih _ _ _ _ _ _ _ _ _ _ (jg1_ne rfl (jg1_ne rfl (jg1_ne rfl (jg1_ne rfl hl0)))) (jg1_ne rfl (jg1_ne rfl (jg1_ne rfl (jg1_pre rfl hl1)))) (jg1_ne rfl (jg1_ne rfl (jg1_pre rfl jg1_same))) (jg1_ne rfl (jg1_pre rfl jg1_same)) (jg1_pre rfl jg1_same) jg1_same h
set_option maxRecDepth 10000 in
set_option maxHeartbeats 4000000 in
theorem r_DeadCycles_newCycle_e {N B : Nat} {SA : Nat → Nat} {d : Nat} (hd : 3 ≤ d) : ∀ (L : JLoc) (v0 : Nat) (v1 : Int32) (μ : JMem) (r : Int32) (μ9 : JMem), jget L 0 = .ref v0 → jget L 1 = .int v1 → g_DeadCycles_newCycle N B v0 v1 μ = some (r, μ9) → jR B SA d m_DeadCycles_newCycle 0 L [] μ (some (.int r)) μ9 := by
  intro L v0 v1 μ r μ9 hl0 hl1 h
  unfold g_DeadCycles_newCycle at h
  refine jr_iload_n jf_168_0 rfl hl1 ?_
  refine jr_istore_n jf_168_1 rfl jml_168 (by decide) ?_
  refine jr_iconst jf_168_2 jc_i_1 ?_
  refine jr_istore_n jf_168_3 rfl jml_168 (by decide) ?_
  refine jr_aload_n jf_168_4 rfl (jg1_ne rfl (jg1_ne rfl hl0)) ?_
  refine jr_iload_n jf_168_5 rfl (jg1_ne rfl (jg1_pre rfl hl1)) ?_
  replace h := jgd_of h; obtain ⟨hb1, h⟩ := h
  replace h := obd_of h; obtain ⟨x2, hx2, h⟩ := h
  refine jr_V6_1 jf_168_6 hb1 (by omega) (r_DeadCycles_next (by omega) _ _ _ _ hx2) (Nat.le_of_ble_eq_true rfl) jml_167 (Nat.le_of_ble_eq_true rfl) ?_
  refine jr_istore jf_168_9 jml_168 (by decide) ?_
  refine jr_iconst jf_168_11 jc_i_0 ?_
  refine jr_istore jf_168_12 jml_168 (by decide) ?_
  exact r_DeadCycles_newCycle_14 hd _ _ _ _ _ _ _ _ _ _ _ (jg1_ne rfl (jg1_ne rfl (jg1_ne rfl (jg1_ne rfl hl0)))) (jg1_ne rfl (jg1_ne rfl (jg1_ne rfl (jg1_pre rfl hl1)))) (jg1_ne rfl (jg1_ne rfl (jg1_pre rfl jg1_same))) (jg1_ne rfl (jg1_pre rfl jg1_same)) (jg1_pre rfl jg1_same) jg1_same h
set_option maxRecDepth 10000 in
set_option maxHeartbeats 4000000 in
theorem r_DeadCycles_newCycle {N B : Nat} {SA : Nat → Nat} {d : Nat} (hd : 3 ≤ d) : ∀ (v0 : Nat) (v1 : Int32) (μ : JMem) (r : Int32) (μ9 : JMem), g_DeadCycles_newCycle N B v0 v1 μ = some (r, μ9) → jR B SA d m_DeadCycles_newCycle 0 (lv_args 0 [.ref v0, .int v1]) [] μ (some (.int r)) μ9 := by
  intro v0 v1 μ r μ9 h
  exact r_DeadCycles_newCycle_e hd (lv_args 0 _) _ _ _ _ _ (by simp [lv_args, jget, rv_cat, cat_int, cat_long, cat_double, cat_float, cat_ref]) (by simp [lv_args, jget, rv_cat, cat_int, cat_long, cat_double, cat_float, cat_ref]) h
/-! FilterBench$DeadCycles.walk(I)V -/
set_option maxRecDepth 10000 in
set_option maxHeartbeats 4000000 in
theorem r_DeadCycles_walk_112 {N B : Nat} {SA : Nat → Nat} {d : Nat} (hd : 4 ≤ d) : ∀ (L : JLoc) (v0 : Nat) (v4 : Int32) (v5 : Int32) (μ : JMem) (μ9 : JMem), jget L 0 = .ref v0 → jget L 4 = .int v4 → jget L 5 = .int v5 → g_DeadCycles_walk_112 N B v0 v4 v5 μ = some μ9 → jR B SA d m_DeadCycles_walk 112 L [] μ none μ9 := by
  intro L v0 v4 v5 μ μ9 hl0 hl4 hl5 h
  unfold g_DeadCycles_walk_112 at h
  refine jr_aload_n jf_165_112 rfl hl0 ?_
  refine jr_iload jf_165_113 hl4 ?_
  refine jr_iconst jf_165_115 jc_i_1 ?_
  refine jr_isub jf_165_116 ?_
  refine jr_aload_n jf_165_117 rfl hl0 ?_
  refine jr_iload jf_165_118 hl4 ?_
  refine jr_iconst jf_165_120 jc_i_1 ?_
  refine jr_isub jf_165_121 ?_
  replace h := jgd_of h; obtain ⟨hb1, h⟩ := h
  replace h := obd_of h; obtain ⟨x2, hx2, h⟩ := h
  refine jr_V6_1 jf_165_122 hb1 (by omega) (r_DeadCycles_tallyOf (by omega) _ _ _ _ hx2) (Nat.le_of_ble_eq_true rfl) jml_171 (Nat.le_of_ble_eq_true rfl) ?_
  refine jr_iload jf_165_125 hl5 ?_
  refine jr_i2l jf_165_127 ?_
  refine jr_bipush jf_165_128 jc_b_32 ?_
  refine jr_lshl jf_165_130 ?_
  refine jr_ladd jf_165_131 ?_
  replace h := jgd_of h; obtain ⟨hb3, h⟩ := h
  replace h := obd_of h; obtain ⟨μ4, hμ4, h⟩ := h
  refine jr_V6v_2 jf_165_132 hb3 (by omega) (r_DeadCycles_setTally (by omega) _ _ _ _ _ hμ4) (Nat.le_of_ble_eq_true rfl) jml_170 (Nat.le_of_ble_eq_true rfl) ?_
  obtain rfl := Option.some.inj h
  exact jr_return jf_165_135 jmt_165
set_option maxRecDepth 10000 in
set_option maxHeartbeats 4000000 in
theorem r_DeadCycles_walk_74 {N B : Nat} {SA : Nat → Nat} {d : Nat} (hd : 4 ≤ d) : ∀ (n : Nat), ∀ (L : JLoc) (v0 : Nat) (v2 : Int32) (v3 : Int32) (v4 : Int32) (v5 : Int32) (v6 : Int32) (μ : JMem) (μ9 : JMem), jget L 0 = .ref v0 → jget L 2 = .int v2 → jget L 3 = .int v3 → jget L 4 = .int v4 → jget L 5 = .int v5 → jget L 6 = .int v6 → g_DeadCycles_walk_74 N B n v0 v2 v3 v4 v5 v6 μ = some μ9 → jR B SA d m_DeadCycles_walk 74 L [] μ none μ9 := by
  intro n
  induction n with
  | zero =>
    intro L v0 v2 v3 v4 v5 v6 μ μ9 hl0 hl2 hl3 hl4 hl5 hl6 h
    unfold g_DeadCycles_walk_74 at h
    cases h
  | succ n ih =>
    intro L v0 v2 v3 v4 v5 v6 μ μ9 hl0 hl2 hl3 hl4 hl5 hl6 h
    unfold g_DeadCycles_walk_74 at h
    refine jr_iload jf_165_74 hl6 ?_
    refine jr_ldc jf_165_76 ?_
    replace h := ite_or h; rcases h with ⟨hc, h⟩ | ⟨hc, h⟩
    · refine jr_if2_ge_t jf_165_78 hc ?_
      exact r_DeadCycles_walk_112 hd _ _ _ _ _ _ hl0 hl4 hl5 h
    · refine jr_if2_ge_f jf_165_78 hc ?_
      refine jr_aload_n jf_165_81 rfl hl0 ?_
      refine jr_iload_n jf_165_82 rfl hl3 ?_
      replace h := jgd_of h; obtain ⟨hb1, h⟩ := h
      replace h := obd_of h; obtain ⟨x2, hx2, h⟩ := h
      refine jr_V6_1 jf_165_83 hb1 (by omega) (r_DeadCycles_ownerOf (by omega) _ _ _ _ hx2) (Nat.le_of_ble_eq_true rfl) jml_164 (Nat.le_of_ble_eq_true rfl) ?_
      refine jr_iload_n jf_165_86 rfl hl2 ?_
      replace h := ite_or h; rcases h with ⟨hc, h⟩ | ⟨hc, h⟩
      · refine jr_if2_ne_f jf_165_87 hc ?_
        refine jr_aload_n jf_165_90 rfl hl0 ?_
        refine jr_iload_n jf_165_91 rfl hl3 ?_
        refine jr_iload jf_165_92 hl4 ?_
        replace h := jgd_of h; obtain ⟨hb3, h⟩ := h
        replace h := obd_of h; obtain ⟨μ4, hμ4, h⟩ := h
        refine jr_V6v_2 jf_165_94 hb3 (by omega) (r_DeadCycles_setOwner (by omega) _ _ _ _ _ hμ4) (Nat.le_of_ble_eq_true rfl) jml_166 (Nat.le_of_ble_eq_true rfl) ?_
        refine jr_iinc jf_165_97 jc_i_1 jml_165 (by decide) hl5 ?_
        refine jr_aload_n jf_165_100 rfl (jg1_ne rfl hl0) ?_
        refine jr_iload_n jf_165_101 rfl (jg1_ne rfl hl3) ?_
        replace h := jgd_of h; obtain ⟨hb5, h⟩ := h
        replace h := obd_of h; obtain ⟨x6, hx6, h⟩ := h
        refine jr_V6_1 jf_165_102 hb5 (by omega) (r_DeadCycles_next (by omega) _ _ _ _ hx6) (Nat.le_of_ble_eq_true rfl) jml_167 (Nat.le_of_ble_eq_true rfl) ?_
        refine jr_istore_n jf_165_105 rfl jml_165 (by decide) ?_
        refine jr_iinc jf_165_106 jc_i_1 jml_165 (by decide) (jg1_ne rfl (jg1_ne rfl hl6)) ?_
        refine jr_goto jf_165_109 ?_
        exact ih _ _ _ _ _ _ _ _ _ (jg1_ne rfl (jg1_ne rfl (jg1_ne rfl hl0))) (jg1_ne rfl (jg1_pre rfl (jg1_ne rfl hl2))) (jg1_ne rfl jg1_same) (jg1_ne rfl (jg1_ne rfl (jg1_pre rfl hl4))) (jg1_pre rfl (jg1_ne rfl jg1_same)) jg1_same h
      · refine jr_if2_ne_t jf_165_87 hc ?_
        exact r_DeadCycles_walk_112 hd _ _ _ _ _ _ hl0 hl4 hl5 h
set_option maxRecDepth 10000 in
set_option maxHeartbeats 4000000 in
theorem r_DeadCycles_walk_64 {N B : Nat} {SA : Nat → Nat} {d : Nat} (hd : 4 ≤ d) : ∀ (L : JLoc) (v0 : Nat) (v1 : Int32) (v2 : Int32) (s0 : Int32) (μ : JMem) (μ9 : JMem), jget L 0 = .ref v0 → jget L 1 = .int v1 → jget L 2 = .int v2 → g_DeadCycles_walk_64 N B v0 v1 v2 s0 μ = some μ9 → jR B SA d m_DeadCycles_walk 64 L [.int s0] μ none μ9 := by
  intro L v0 v1 v2 s0 μ μ9 hl0 hl1 hl2 h
  unfold g_DeadCycles_walk_64 at h
  refine jr_istore jf_165_64 jml_165 (by decide) ?_
  refine jr_iconst jf_165_66 jc_i_0 ?_
  refine jr_istore jf_165_67 jml_165 (by decide) ?_
  refine jr_iload_n jf_165_69 rfl (jg1_ne rfl (jg1_ne rfl hl1)) ?_
  refine jr_istore_n jf_165_70 rfl jml_165 (by decide) ?_
  refine jr_iconst jf_165_71 jc_i_0 ?_
  refine jr_istore jf_165_72 jml_165 (by decide) ?_
  exact r_DeadCycles_walk_74 hd _ _ _ _ _ _ _ _ _ _ (jg1_ne rfl (jg1_ne rfl (jg1_ne rfl (jg1_ne rfl hl0)))) (jg1_ne rfl (jg1_pre rfl (jg1_ne rfl (jg1_ne rfl hl2)))) (jg1_ne rfl jg1_same) (jg1_ne rfl (jg1_ne rfl (jg1_pre rfl jg1_same))) (jg1_pre rfl (jg1_ne rfl jg1_same)) jg1_same h
set_option maxRecDepth 10000 in
set_option maxHeartbeats 4000000 in
theorem r_DeadCycles_walk_42 {N B : Nat} {SA : Nat → Nat} {d : Nat} (hd : 4 ≤ d) : ∀ (L : JLoc) (v0 : Nat) (v1 : Int32) (v2 : Int32) (v3 : Int32) (μ : JMem) (μ9 : JMem), jget L 0 = .ref v0 → jget L 1 = .int v1 → jget L 2 = .int v2 → jget L 3 = .int v3 → g_DeadCycles_walk_42 N B v0 v1 v2 v3 μ = some μ9 → jR B SA d m_DeadCycles_walk 42 L [] μ none μ9 := by
  intro L v0 v1 v2 v3 μ μ9 hl0 hl1 hl2 hl3 h
  unfold g_DeadCycles_walk_42 at h
  refine jr_aload_n jf_165_42 rfl hl0 ?_
  refine jr_iload_n jf_165_43 rfl hl3 ?_
  replace h := jgd_of h; obtain ⟨hb1, h⟩ := h
  replace h := obd_of h; obtain ⟨x2, hx2, h⟩ := h
  refine jr_V6_1 jf_165_44 hb1 (by omega) (r_DeadCycles_ownerOf (by omega) _ _ _ _ hx2) (Nat.le_of_ble_eq_true rfl) jml_164 (Nat.le_of_ble_eq_true rfl) ?_
  refine jr_iload_n jf_165_47 rfl hl2 ?_
  replace h := ite_or h; rcases h with ⟨hc, h⟩ | ⟨hc, h⟩
  · refine jr_if2_ne_f jf_165_48 hc ?_
    refine jr_aload_n jf_165_51 rfl hl0 ?_
    refine jr_iload_n jf_165_52 rfl hl3 ?_
    replace h := jgd_of h; obtain ⟨hb3, h⟩ := h
    replace h := jbd2_of h; obtain ⟨x4, μ5, hx4, h⟩ := h
    refine jr_V6_1 jf_165_53 hb3 (by omega) (r_DeadCycles_newCycle (by omega) _ _ _ _ _ hx4) (Nat.le_of_ble_eq_true rfl) jml_168 (Nat.le_of_ble_eq_true rfl) ?_
    refine jr_goto jf_165_56 ?_
    exact r_DeadCycles_walk_64 hd _ _ _ _ _ _ _ hl0 hl1 hl2 h
  · refine jr_if2_ne_t jf_165_48 hc ?_
    refine jr_aload_n jf_165_59 rfl hl0 ?_
    refine jr_iload_n jf_165_60 rfl hl3 ?_
    replace h := jgd_of h; obtain ⟨hb6, h⟩ := h
    replace h := obd_of h; obtain ⟨x7, hx7, h⟩ := h
    refine jr_V6_1 jf_165_61 hb6 (by omega) (r_DeadCycles_ownerOf (by omega) _ _ _ _ hx7) (Nat.le_of_ble_eq_true rfl) jml_164 (Nat.le_of_ble_eq_true rfl) ?_
    exact r_DeadCycles_walk_64 hd _ _ _ _ _ _ _ hl0 hl1 hl2 h
set_option maxRecDepth 10000 in
set_option maxHeartbeats 4000000 in
theorem r_DeadCycles_walk_9 {N B : Nat} {SA : Nat → Nat} {d : Nat} (hd : 4 ≤ d) : ∀ (n : Nat), ∀ (L : JLoc) (v0 : Nat) (v1 : Int32) (v2 : Int32) (v3 : Int32) (v4 : Int32) (μ : JMem) (μ9 : JMem), jget L 0 = .ref v0 → jget L 1 = .int v1 → jget L 2 = .int v2 → jget L 3 = .int v3 → jget L 4 = .int v4 → g_DeadCycles_walk_9 N B n v0 v1 v2 v3 v4 μ = some μ9 → jR B SA d m_DeadCycles_walk 9 L [] μ none μ9 := by
  intro n
  induction n with
  | zero =>
    intro L v0 v1 v2 v3 v4 μ μ9 hl0 hl1 hl2 hl3 hl4 h
    unfold g_DeadCycles_walk_9 at h
    cases h
  | succ n ih =>
    intro L v0 v1 v2 v3 v4 μ μ9 hl0 hl1 hl2 hl3 hl4 h
    unfold g_DeadCycles_walk_9 at h
    refine jr_iload jf_165_9 hl4 ?_
    refine jr_ldc jf_165_11 ?_
    replace h := ite_or h; rcases h with ⟨hc, h⟩ | ⟨hc, h⟩
    · refine jr_if2_ge_t jf_165_13 hc ?_
      exact r_DeadCycles_walk_42 hd _ _ _ _ _ _ _ hl0 hl1 hl2 hl3 h
    · refine jr_if2_ge_f jf_165_13 hc ?_
      refine jr_aload_n jf_165_16 rfl hl0 ?_
      refine jr_iload_n jf_165_17 rfl hl3 ?_
      replace h := jgd_of h; obtain ⟨hb1, h⟩ := h
      replace h := obd_of h; obtain ⟨x2, hx2, h⟩ := h
      refine jr_V6_1 jf_165_18 hb1 (by omega) (r_DeadCycles_ownerOf (by omega) _ _ _ _ hx2) (Nat.le_of_ble_eq_true rfl) jml_164 (Nat.le_of_ble_eq_true rfl) ?_
      replace h := ite_or h; rcases h with ⟨hc, h⟩ | ⟨hc, h⟩
      · refine jr_if_ne_f jf_165_21 hc ?_
        refine jr_aload_n jf_165_24 rfl hl0 ?_
        refine jr_iload_n jf_165_25 rfl hl3 ?_
        refine jr_iload_n jf_165_26 rfl hl2 ?_
        replace h := jgd_of h; obtain ⟨hb3, h⟩ := h
        replace h := obd_of h; obtain ⟨μ4, hμ4, h⟩ := h
        refine jr_V6v_2 jf_165_27 hb3 (by omega) (r_DeadCycles_setOwner (by omega) _ _ _ _ _ hμ4) (Nat.le_of_ble_eq_true rfl) jml_166 (Nat.le_of_ble_eq_true rfl) ?_
        refine jr_aload_n jf_165_30 rfl hl0 ?_
        refine jr_iload_n jf_165_31 rfl hl3 ?_
        replace h := jgd_of h; obtain ⟨hb5, h⟩ := h
        replace h := obd_of h; obtain ⟨x6, hx6, h⟩ := h
        refine jr_V6_1 jf_165_32 hb5 (by omega) (r_DeadCycles_next (by omega) _ _ _ _ hx6) (Nat.le_of_ble_eq_true rfl) jml_167 (Nat.le_of_ble_eq_true rfl) ?_
        refine jr_istore_n jf_165_35 rfl jml_165 (by decide) ?_
        refine jr_iinc jf_165_36 jc_i_1 jml_165 (by decide) (jg1_ne rfl hl4) ?_
        refine jr_goto jf_165_39 ?_
        exact ih _ _ _ _ _ _ _ _ (jg1_ne rfl (jg1_ne rfl hl0)) (jg1_ne rfl (jg1_ne rfl hl1)) (jg1_ne rfl (jg1_pre rfl hl2)) (jg1_pre rfl jg1_same) jg1_same h
      · refine jr_if_ne_t jf_165_21 hc ?_
        exact r_DeadCycles_walk_42 hd _ _ _ _ _ _ _ hl0 hl1 hl2 hl3 h
set_option maxRecDepth 10000 in
set_option maxHeartbeats 4000000 in
theorem r_DeadCycles_walk_e {N B : Nat} {SA : Nat → Nat} {d : Nat} (hd : 4 ≤ d) : ∀ (L : JLoc) (v0 : Nat) (v1 : Int32) (μ : JMem) (μ9 : JMem), jget L 0 = .ref v0 → jget L 1 = .int v1 → g_DeadCycles_walk N B v0 v1 μ = some μ9 → jR B SA d m_DeadCycles_walk 0 L [] μ none μ9 := by
  intro L v0 v1 μ μ9 hl0 hl1 h
  unfold g_DeadCycles_walk at h
  refine jr_iconst jf_165_0 jc_i_m1 ?_
  refine jr_iload_n jf_165_1 rfl hl1 ?_
  refine jr_isub jf_165_2 ?_
  refine jr_istore_n jf_165_3 rfl jml_165 (by decide) ?_
  refine jr_iload_n jf_165_4 rfl (jg1_pre rfl hl1) ?_
  refine jr_istore_n jf_165_5 rfl jml_165 (by decide) ?_
  refine jr_iconst jf_165_6 jc_i_0 ?_
  refine jr_istore jf_165_7 jml_165 (by decide) ?_
  exact r_DeadCycles_walk_9 hd _ _ _ _ _ _ _ _ _ (jg1_ne rfl (jg1_ne rfl (jg1_ne rfl hl0))) (jg1_ne rfl (jg1_ne rfl (jg1_pre rfl hl1))) (jg1_ne rfl (jg1_pre rfl jg1_same)) (jg1_pre rfl jg1_same) jg1_same h
set_option maxRecDepth 10000 in
set_option maxHeartbeats 4000000 in
theorem r_DeadCycles_walk {N B : Nat} {SA : Nat → Nat} {d : Nat} (hd : 4 ≤ d) : ∀ (v0 : Nat) (v1 : Int32) (μ : JMem) (μ9 : JMem), g_DeadCycles_walk N B v0 v1 μ = some μ9 → jR B SA d m_DeadCycles_walk 0 (lv_args 0 [.ref v0, .int v1]) [] μ none μ9 := by
  intro v0 v1 μ μ9 h
  exact r_DeadCycles_walk_e hd (lv_args 0 _) _ _ _ _ (by simp [lv_args, jget, rv_cat, cat_int, cat_long, cat_double, cat_float, cat_ref]) (by simp [lv_args, jget, rv_cat, cat_int, cat_long, cat_double, cat_float, cat_ref]) h
/-! FilterBench$DeadCycles.look(LFilterBench$Section;)Z -/
set_option maxRecDepth 10000 in
set_option maxHeartbeats 4000000 in
theorem r_DeadCycles_look_129 {N B : Nat} {SA : Nat → Nat} {d : Nat} (hd : 5 ≤ d) {k110 : Nat → Int32 → JMem → Option (Bool × JMem)} (i110 : ∀ (L : JLoc) (v0 : Nat) (v2 : Int32) (μ : JMem) (r : Bool) (μ9 : JMem), jget L 0 = .ref v0 → jget L 2 = .int v2 → k110 v0 v2 μ = some (r, μ9) → jR B SA d m_DeadCycles_look 110 L [] μ (some (.int (jb r))) μ9) : ∀ (L : JLoc) (v0 : Nat) (v2 : Int32) (μ : JMem) (r : Bool) (μ9 : JMem), jget L 0 = .ref v0 → jget L 2 = .int v2 → g_DeadCycles_look_129 N B k110 v0 v2 μ = some (r, μ9) → jR B SA d m_DeadCycles_look 129 L [] μ (some (.int (jb r))) μ9 := by
  intro L v0 v2 μ r μ9 hl0 hl2 h
  unfold g_DeadCycles_look_129 at h
  refine jr_iinc jf_161_129 jc_i_1 jml_161 (by decide) hl2 ?_
  refine jr_goto jf_161_132 ?_
  exact i110 _ _ _ _ _ _ (jg1_ne rfl hl0) jg1_same h
set_option maxRecDepth 10000 in
set_option maxHeartbeats 4000000 in
theorem r_DeadCycles_look_110 {N B : Nat} {SA : Nat → Nat} {d : Nat} (hd : 5 ≤ d) : ∀ (n : Nat), ∀ (L : JLoc) (v0 : Nat) (v2 : Int32) (μ : JMem) (r : Bool) (μ9 : JMem), jget L 0 = .ref v0 → jget L 2 = .int v2 → g_DeadCycles_look_110 N B n v0 v2 μ = some (r, μ9) → jR B SA d m_DeadCycles_look 110 L [] μ (some (.int (jb r))) μ9 := by
  intro n
  induction n with
  | zero =>
    intro L v0 v2 μ r μ9 hl0 hl2 h
    unfold g_DeadCycles_look_110 at h
    cases h
  | succ n ih =>
    intro L v0 v2 μ r μ9 hl0 hl2 h
    unfold g_DeadCycles_look_110 at h
    refine jr_iload_n jf_161_110 rfl hl2 ?_
    refine jr_ldc jf_161_111 ?_
    replace h := ite_or h; rcases h with ⟨hc, h⟩ | ⟨hc, h⟩
    · refine jr_if2_ge_t jf_161_113 hc ?_
      refine jr_aload_n jf_161_135 rfl hl0 ?_
      replace h := jgd_of h; obtain ⟨hb1, h⟩ := h
      replace h := obd_of h; obtain ⟨μ2, hμ2, h⟩ := h
      refine jr_V6v_0 jf_161_136 hb1 (by omega) (r_DeadCycles_gatherFound (by omega) _ _ _ hμ2) (Nat.le_of_ble_eq_true rfl) jml_172 (Nat.le_of_ble_eq_true rfl) ?_
      refine jr_iconst jf_161_139 jc_i_1 ?_
      obtain ⟨rfl, rfl⟩ := Prod.mk.inj (Option.some.inj h)
      exact jr_retZ (x := true) jf_161_140 jmt_161
    · refine jr_if2_ge_f jf_161_113 hc ?_
      refine jr_aload_n jf_161_116 rfl hl0 ?_
      refine jr_iload_n jf_161_117 rfl hl2 ?_
      replace h := jgd_of h; obtain ⟨hb3, h⟩ := h
      replace h := obd_of h; obtain ⟨x4, hx4, h⟩ := h
      refine jr_V6_1 jf_161_118 hb3 (by omega) (r_DeadCycles_ownerOf (by omega) _ _ _ _ hx4) (Nat.le_of_ble_eq_true rfl) jml_164 (Nat.le_of_ble_eq_true rfl) ?_
      replace h := ite_or h; rcases h with ⟨hc, h⟩ | ⟨hc, h⟩
      · refine jr_if_ne_f jf_161_121 hc ?_
        refine jr_aload_n jf_161_124 rfl hl0 ?_
        refine jr_iload_n jf_161_125 rfl hl2 ?_
        replace h := jgd_of h; obtain ⟨hb5, h⟩ := h
        replace h := obd_of h; obtain ⟨μ6, hμ6, h⟩ := h
        refine jr_V6v_1 jf_161_126 hb5 (by omega) (r_DeadCycles_walk (by omega) _ _ _ _ hμ6) (Nat.le_of_ble_eq_true rfl) jml_165 (Nat.le_of_ble_eq_true rfl) ?_
        exact r_DeadCycles_look_129 hd ih _ _ _ _ _ _ hl0 hl2 h
      · refine jr_if_ne_t jf_161_121 hc ?_
        exact r_DeadCycles_look_129 hd ih _ _ _ _ _ _ hl0 hl2 h
set_option maxRecDepth 10000 in
set_option maxHeartbeats 4000000 in
theorem r_DeadCycles_look_74 {N B : Nat} {SA : Nat → Nat} {d : Nat} (hd : 5 ≤ d) : ∀ (L : JLoc) (v0 : Nat) (v1 : Nat) (μ : JMem) (r : Bool) (μ9 : JMem), jget L 0 = .ref v0 → jget L 1 = .ref v1 → g_DeadCycles_look_74 N B v0 v1 μ = some (r, μ9) → jR B SA d m_DeadCycles_look 74 L [] μ (some (.int (jb r))) μ9 := by
  intro L v0 v1 μ r μ9 hl0 hl1 h
  unfold g_DeadCycles_look_74 at h
  refine jr_aload_n jf_161_74 rfl hl0 ?_
  refine jr_iconst jf_161_75 jc_i_1 ?_
  replace h := obd_of h; obtain ⟨μ1, hμ1, h⟩ := h
  refine jr_putZ (x := true) jf_161_76 rfl hμ1 ?_
  refine jr_aload_n jf_161_79 rfl hl0 ?_
  refine jr_aload_n jf_161_80 rfl hl1 ?_
  refine jr_iconst jf_161_81 jc_i_1 ?_
  replace h := jgd_of h; obtain ⟨hb2, h⟩ := h
  replace h := obd_of h; obtain ⟨x3, hx3, h⟩ := h
  refine jr_V6_1 jf_161_82 hb2 (by omega) (r_Section_factor (by omega) _ _ _ _ hx3) (Nat.le_of_ble_eq_true rfl) jml_43 (Nat.le_of_ble_eq_true rfl) ?_
  replace h := obd_of h; obtain ⟨μ4, hμ4, h⟩ := h
  refine jr_putJ jf_161_85 rfl hμ4 ?_
  refine jr_aload_n jf_161_88 rfl hl0 ?_
  refine jr_aload_n jf_161_89 rfl hl1 ?_
  replace h := obd_of h; obtain ⟨x5, hx5, h⟩ := h
  refine jr_getI jf_161_90 hx5 ?_
  replace h := obd_of h; obtain ⟨μ6, hμ6, h⟩ := h
  refine jr_putI jf_161_93 rfl hμ6 ?_
  refine jr_aload_n jf_161_96 rfl hl0 ?_
  refine jr_aload_n jf_161_97 rfl hl1 ?_
  replace h := obd_of h; obtain ⟨x7, hx7, h⟩ := h
  refine jr_getI jf_161_98 hx7 ?_
  replace h := obd_of h; obtain ⟨μ8, hμ8, h⟩ := h
  refine jr_putI jf_161_101 rfl hμ8 ?_
  refine jr_aload_n jf_161_104 rfl hl0 ?_
  replace h := jgd_of h; obtain ⟨hb9, h⟩ := h
  replace h := obd_of h; obtain ⟨μ10, hμ10, h⟩ := h
  refine jr_V6v_0 jf_161_105 hb9 (by omega) (r_DeadCycles_begin (by omega) _ _ _ hμ10) (Nat.le_of_ble_eq_true rfl) jml_162 (Nat.le_of_ble_eq_true rfl) ?_
  refine jr_iconst jf_161_108 jc_i_0 ?_
  refine jr_istore_n jf_161_109 rfl jml_161 (by decide) ?_
  exact r_DeadCycles_look_110 hd _ _ _ _ _ _ _ (jg1_ne rfl hl0) jg1_same h
set_option maxRecDepth 10000 in
set_option maxHeartbeats 4000000 in
theorem r_DeadCycles_look_e {N B : Nat} {SA : Nat → Nat} {d : Nat} (hd : 5 ≤ d) : ∀ (L : JLoc) (v0 : Nat) (v1 : Option Nat) (μ : JMem) (r : Bool) (μ9 : JMem), jget L 0 = .ref v0 → jget L 1 = rv v1 → g_DeadCycles_look N B v0 v1 μ = some (r, μ9) → jR B SA d m_DeadCycles_look 0 L [] μ (some (.int (jb r))) μ9 := by
  intro L v0 v1 μ r μ9 hl0 hl1 h
  unfold g_DeadCycles_look at h
  refine jr_aload_n_A jf_161_0 rfl hl1 ?_
  replace h := jon_or h; rcases h with ⟨rfl, h⟩ | ⟨a1, rfl, h⟩
  · refine jr_ifnull_n jf_161_1 ?_
    refine jr_iconst jf_161_28 jc_i_0 ?_
    obtain ⟨rfl, rfl⟩ := Prod.mk.inj (Option.some.inj h)
    exact jr_retZ (x := false) jf_161_29 jmt_161
  · refine jr_ifnull_s jf_161_1 ?_
    refine jr_aload_n jf_161_4 rfl hl1 ?_
    replace h := obd_of h; obtain ⟨x2, hx2, h⟩ := h
    refine jr_getI jf_161_5 hx2 ?_
    refine jr_iconst jf_161_8 jc_i_1 ?_
    replace h := ite_or h; rcases h with ⟨hc, h⟩ | ⟨hc, h⟩
    · refine jr_if2_ne_f jf_161_9 hc ?_
      refine jr_aload_n jf_161_12 rfl hl1 ?_
      replace h := obd_of h; obtain ⟨x3, hx3, h⟩ := h
      refine jr_getI jf_161_13 hx3 ?_
      refine jr_iconst jf_161_16 jc_i_2 ?_
      replace h := ite_or h; rcases h with ⟨hc, h⟩ | ⟨hc, h⟩
      · refine jr_if2_ne_f jf_161_17 hc ?_
        refine jr_aload_n jf_161_20 rfl hl1 ?_
        replace h := obd_of h; obtain ⟨x4, hx4, h⟩ := h
        refine jr_getI jf_161_21 hx4 ?_
        refine jr_iconst jf_161_24 jc_i_2 ?_
        replace h := ite_or h; rcases h with ⟨hc, h⟩ | ⟨hc, h⟩
        · refine jr_if2_ne_f jf_161_25 hc ?_
          refine jr_iconst jf_161_28 jc_i_0 ?_
          obtain ⟨rfl, rfl⟩ := Prod.mk.inj (Option.some.inj h)
          exact jr_retZ (x := false) jf_161_29 jmt_161
        · refine jr_if2_ne_t jf_161_25 hc ?_
          refine jr_aload_n jf_161_30 rfl hl0 ?_
          replace h := obd_of h; obtain ⟨x5, hx5, h⟩ := h
          refine jr_getZ jf_161_31 hx5 ?_
          replace h := ite_or h; rcases h with ⟨hc, h⟩ | ⟨hc, h⟩
          · refine jr_ifz_eq_f jf_161_34 hc ?_
            refine jr_aload_n jf_161_37 rfl hl0 ?_
            replace h := obd_of h; obtain ⟨x6, hx6, h⟩ := h
            refine jr_getJ jf_161_38 hx6 ?_
            refine jr_aload_n jf_161_41 rfl hl1 ?_
            refine jr_iconst jf_161_42 jc_i_1 ?_
            replace h := jgd_of h; obtain ⟨hb7, h⟩ := h
            replace h := obd_of h; obtain ⟨x8, hx8, h⟩ := h
            refine jr_V6_1 jf_161_43 hb7 (by omega) (r_Section_factor (by omega) _ _ _ _ hx8) (Nat.le_of_ble_eq_true rfl) jml_43 (Nat.le_of_ble_eq_true rfl) ?_
            refine jr_lcmp jf_161_46 ?_
            replace h := ite_or h; rcases h with ⟨hc, h⟩ | ⟨hc, h⟩
            · refine jr_ifl_ne_f jf_161_47 hc ?_
              refine jr_aload_n jf_161_50 rfl hl0 ?_
              replace h := obd_of h; obtain ⟨x9, hx9, h⟩ := h
              refine jr_getI jf_161_51 hx9 ?_
              refine jr_aload_n jf_161_54 rfl hl1 ?_
              replace h := obd_of h; obtain ⟨x10, hx10, h⟩ := h
              refine jr_getI jf_161_55 hx10 ?_
              replace h := ite_or h; rcases h with ⟨hc, h⟩ | ⟨hc, h⟩
              · refine jr_if2_ne_f jf_161_58 hc ?_
                refine jr_aload_n jf_161_61 rfl hl0 ?_
                replace h := obd_of h; obtain ⟨x11, hx11, h⟩ := h
                refine jr_getI jf_161_62 hx11 ?_
                refine jr_aload_n jf_161_65 rfl hl1 ?_
                replace h := obd_of h; obtain ⟨x12, hx12, h⟩ := h
                refine jr_getI jf_161_66 hx12 ?_
                replace h := ite_or h; rcases h with ⟨hc, h⟩ | ⟨hc, h⟩
                · refine jr_if2_ne_f jf_161_69 hc ?_
                  refine jr_iconst jf_161_72 jc_i_1 ?_
                  obtain ⟨rfl, rfl⟩ := Prod.mk.inj (Option.some.inj h)
                  exact jr_retZ (x := true) jf_161_73 jmt_161
                · refine jr_if2_ne_t jf_161_69 hc ?_
                  exact r_DeadCycles_look_74 hd _ _ _ _ _ _ hl0 hl1 h
              · refine jr_if2_ne_t jf_161_58 hc ?_
                exact r_DeadCycles_look_74 hd _ _ _ _ _ _ hl0 hl1 h
            · refine jr_ifl_ne_t jf_161_47 hc ?_
              exact r_DeadCycles_look_74 hd _ _ _ _ _ _ hl0 hl1 h
          · refine jr_ifz_eq_t jf_161_34 hc ?_
            exact r_DeadCycles_look_74 hd _ _ _ _ _ _ hl0 hl1 h
      · refine jr_if2_ne_t jf_161_17 hc ?_
        refine jr_iconst jf_161_28 jc_i_0 ?_
        obtain ⟨rfl, rfl⟩ := Prod.mk.inj (Option.some.inj h)
        exact jr_retZ (x := false) jf_161_29 jmt_161
    · refine jr_if2_ne_t jf_161_9 hc ?_
      refine jr_iconst jf_161_28 jc_i_0 ?_
      obtain ⟨rfl, rfl⟩ := Prod.mk.inj (Option.some.inj h)
      exact jr_retZ (x := false) jf_161_29 jmt_161
set_option maxRecDepth 10000 in
set_option maxHeartbeats 4000000 in
theorem r_DeadCycles_look {N B : Nat} {SA : Nat → Nat} {d : Nat} (hd : 5 ≤ d) : ∀ (v0 : Nat) (v1 : Option Nat) (μ : JMem) (r : Bool) (μ9 : JMem), g_DeadCycles_look N B v0 v1 μ = some (r, μ9) → jR B SA d m_DeadCycles_look 0 (lv_args 0 [.ref v0, rv v1]) [] μ (some (.int (jb r))) μ9 := by
  intro v0 v1 μ r μ9 h
  exact r_DeadCycles_look_e hd (lv_args 0 _) _ _ _ _ _ (by simp [lv_args, jget, rv_cat, cat_int, cat_long, cat_double, cat_float, cat_ref]) (by simp [lv_args, jget, rv_cat, cat_int, cat_long, cat_double, cat_float, cat_ref]) h
/-! FilterBench.cycles(I)I -/
set_option maxRecDepth 10000 in
set_option maxHeartbeats 4000000 in
theorem r_B_cycles_e {N B : Nat} {SA : Nat → Nat} {d : Nat} (hd : 6 ≤ d) : ∀ (L : JLoc) (v0 : Nat) (v1 : Int32) (μ : JMem) (r : Int32) (μ9 : JMem), jget L 0 = .ref v0 → jget L 1 = .int v1 → g_B_cycles N B v0 v1 μ = some (r, μ9) → jR B SA d m_B_cycles 0 L [] μ (some (.int r)) μ9 := by
  intro L v0 v1 μ r μ9 hl0 hl1 h
  unfold g_B_cycles at h
  refine jr_aload_n jf_160_0 rfl hl0 ?_
  replace h := obd_of h; obtain ⟨x1, hx1, h⟩ := h
  refine jr_getA jf_160_1 hx1 ?_
  refine jr_aload_n jf_160_4 rfl hl0 ?_
  refine jr_iload_n jf_160_5 rfl hl1 ?_
  replace h := jgd_of h; obtain ⟨hb2, h⟩ := h
  replace h := obd_of h; obtain ⟨x3, hx3, h⟩ := h
  refine jr_V6_1 jf_160_6 hb2 (by omega) (r_B_sectionAt (by omega) _ _ _ _ hx3) (by simp only [jcats_cons, jcats_nil, cat_int, cat_long, cat_double, cat_float, cat_ref, rv_cat]; decide) jml_13 (Nat.le_of_ble_eq_true rfl) ?_
  replace h := obd_of h; obtain ⟨a4, rfl, h⟩ := h
  replace h := jgd_of h; obtain ⟨hb5, h⟩ := h
  replace h := jbd2_of h; obtain ⟨x6, μ7, hx6, h⟩ := h
  refine jr_V6_1 jf_160_9 hb5 (by omega) (r_DeadCycles_look (by omega) _ _ _ _ _ hx6) (Nat.le_of_ble_eq_true rfl) jml_161 (by simp only [jcats_cons, jcats_nil, cat_int, cat_long, cat_double, cat_float, cat_ref, rv_cat]; decide) ?_
  replace h := ite_or h; rcases h with ⟨hc, h⟩ | ⟨hc, h⟩
  · refine jr_ifz_eq_f jf_160_12 hc ?_
    refine jr_aload_n jf_160_15 rfl hl0 ?_
    replace h := obd_of h; obtain ⟨x8, hx8, h⟩ := h
    refine jr_getA jf_160_16 hx8 ?_
    replace h := obd_of h; obtain ⟨a9, rfl, h⟩ := h
    replace h := obd_of h; obtain ⟨x10, hx10, h⟩ := h
    refine jr_getI jf_160_19 hx10 ?_
    refine jr_goto jf_160_22 ?_
    obtain ⟨rfl, rfl⟩ := Prod.mk.inj (Option.some.inj h)
    exact jr_retI jf_160_26 jmt_160
  · refine jr_ifz_eq_t jf_160_12 hc ?_
    refine jr_iconst jf_160_25 jc_i_m1 ?_
    obtain ⟨rfl, rfl⟩ := Prod.mk.inj (Option.some.inj h)
    exact jr_retI jf_160_26 jmt_160
set_option maxRecDepth 10000 in
set_option maxHeartbeats 4000000 in
theorem r_B_cycles {N B : Nat} {SA : Nat → Nat} {d : Nat} (hd : 6 ≤ d) : ∀ (v0 : Nat) (v1 : Int32) (μ : JMem) (r : Int32) (μ9 : JMem), g_B_cycles N B v0 v1 μ = some (r, μ9) → jR B SA d m_B_cycles 0 (lv_args 0 [.ref v0, .int v1]) [] μ (some (.int r)) μ9 := by
  intro v0 v1 μ r μ9 h
  exact r_B_cycles_e hd (lv_args 0 _) _ _ _ _ _ (by simp [lv_args, jget, rv_cat, cat_int, cat_long, cat_double, cat_float, cat_ref]) (by simp [lv_args, jget, rv_cat, cat_int, cat_long, cat_double, cat_float, cat_ref]) h
/-! FilterBench$DeadCycles.basinOf(I)I -/
set_option maxRecDepth 10000 in
set_option maxHeartbeats 4000000 in
theorem r_DeadCycles_basinOf_e {B : Nat} {SA : Nat → Nat} {d : Nat} (hd : 1 ≤ d) : ∀ (L : JLoc) (v0 : Nat) (v1 : Int32) (μ : JMem) (r : Int32), jget L 0 = .ref v0 → jget L 1 = .int v1 → g_DeadCycles_basinOf v0 v1 μ.1 = some r → jR B SA d m_DeadCycles_basinOf 0 L [] μ (some (.int r)) μ := by
  intro L v0 v1 μ r hl0 hl1 h
  unfold g_DeadCycles_basinOf at h
  refine jr_aload_n jf_176_0 rfl hl0 ?_
  refine jr_iload_n jf_176_1 rfl hl1 ?_
  replace h := jgd_of h; obtain ⟨hb1, h⟩ := h
  replace h := obd_of h; obtain ⟨x2, hx2, h⟩ := h
  refine jr_V6_1 jf_176_2 hb1 (by omega) (r_DeadCycles_tallyOf (by omega) _ _ _ _ hx2) (Nat.le_of_ble_eq_true rfl) jml_171 (Nat.le_of_ble_eq_true rfl) ?_
  refine jr_bipush jf_176_5 jc_b_32 ?_
  refine jr_lushr jf_176_7 ?_
  refine jr_l2i jf_176_8 ?_
  obtain rfl := Option.some.inj h
  exact jr_retI jf_176_9 jmt_176
set_option maxRecDepth 10000 in
set_option maxHeartbeats 4000000 in
theorem r_DeadCycles_basinOf {B : Nat} {SA : Nat → Nat} {d : Nat} (hd : 1 ≤ d) : ∀ (v0 : Nat) (v1 : Int32) (μ : JMem) (r : Int32), g_DeadCycles_basinOf v0 v1 μ.1 = some r → jR B SA d m_DeadCycles_basinOf 0 (lv_args 0 [.ref v0, .int v1]) [] μ (some (.int r)) μ := by
  intro v0 v1 μ r h
  exact r_DeadCycles_basinOf_e hd (lv_args 0 _) _ _ _ _ (by simp [lv_args, jget, rv_cat, cat_int, cat_long, cat_double, cat_float, cat_ref]) (by simp [lv_args, jget, rv_cat, cat_int, cat_long, cat_double, cat_float, cat_ref]) h
/-! FilterBench$DeadCycles.leastOf(I)I -/
set_option maxRecDepth 10000 in
set_option maxHeartbeats 4000000 in
theorem r_DeadCycles_leastOf_e {B : Nat} {SA : Nat → Nat} {d : Nat} (hd : 1 ≤ d) : ∀ (L : JLoc) (v0 : Nat) (v1 : Int32) (μ : JMem) (r : Int32), jget L 0 = .ref v0 → jget L 1 = .int v1 → g_DeadCycles_leastOf v0 v1 μ.1 = some r → jR B SA d m_DeadCycles_leastOf 0 L [] μ (some (.int r)) μ := by
  intro L v0 v1 μ r hl0 hl1 h
  unfold g_DeadCycles_leastOf at h
  refine jr_aload_n jf_174_0 rfl hl0 ?_
  refine jr_iload_n jf_174_1 rfl hl1 ?_
  replace h := jgd_of h; obtain ⟨hb1, h⟩ := h
  replace h := obd_of h; obtain ⟨x2, hx2, h⟩ := h
  refine jr_V6_1 jf_174_2 hb1 (by omega) (r_DeadCycles_ownerOf (by omega) _ _ _ _ hx2) (Nat.le_of_ble_eq_true rfl) jml_164 (Nat.le_of_ble_eq_true rfl) ?_
  refine jr_sipush jf_174_5 jc_s_m32768 ?_
  refine jr_iadd jf_174_8 ?_
  obtain rfl := Option.some.inj h
  exact jr_retI jf_174_9 jmt_174
set_option maxRecDepth 10000 in
set_option maxHeartbeats 4000000 in
theorem r_DeadCycles_leastOf {B : Nat} {SA : Nat → Nat} {d : Nat} (hd : 1 ≤ d) : ∀ (v0 : Nat) (v1 : Int32) (μ : JMem) (r : Int32), g_DeadCycles_leastOf v0 v1 μ.1 = some r → jR B SA d m_DeadCycles_leastOf 0 (lv_args 0 [.ref v0, .int v1]) [] μ (some (.int r)) μ := by
  intro v0 v1 μ r h
  exact r_DeadCycles_leastOf_e hd (lv_args 0 _) _ _ _ _ (by simp [lv_args, jget, rv_cat, cat_int, cat_long, cat_double, cat_float, cat_ref]) (by simp [lv_args, jget, rv_cat, cat_int, cat_long, cat_double, cat_float, cat_ref]) h
/-! FilterBench$DeadCycles.lengthOf(I)I -/
set_option maxRecDepth 10000 in
set_option maxHeartbeats 4000000 in
theorem r_DeadCycles_lengthOf_e {B : Nat} {SA : Nat → Nat} {d : Nat} (hd : 1 ≤ d) : ∀ (L : JLoc) (v0 : Nat) (v1 : Int32) (μ : JMem) (r : Int32), jget L 0 = .ref v0 → jget L 1 = .int v1 → g_DeadCycles_lengthOf v0 v1 μ.1 = some r → jR B SA d m_DeadCycles_lengthOf 0 L [] μ (some (.int r)) μ := by
  intro L v0 v1 μ r hl0 hl1 h
  unfold g_DeadCycles_lengthOf at h
  refine jr_aload_n jf_175_0 rfl hl0 ?_
  refine jr_iload_n jf_175_1 rfl hl1 ?_
  replace h := jgd_of h; obtain ⟨hb1, h⟩ := h
  replace h := obd_of h; obtain ⟨x2, hx2, h⟩ := h
  refine jr_V6_1 jf_175_2 hb1 (by omega) (r_DeadCycles_tallyOf (by omega) _ _ _ _ hx2) (Nat.le_of_ble_eq_true rfl) jml_171 (Nat.le_of_ble_eq_true rfl) ?_
  refine jr_l2i jf_175_5 ?_
  obtain rfl := Option.some.inj h
  exact jr_retI jf_175_6 jmt_175
set_option maxRecDepth 10000 in
set_option maxHeartbeats 4000000 in
theorem r_DeadCycles_lengthOf {B : Nat} {SA : Nat → Nat} {d : Nat} (hd : 1 ≤ d) : ∀ (v0 : Nat) (v1 : Int32) (μ : JMem) (r : Int32), g_DeadCycles_lengthOf v0 v1 μ.1 = some r → jR B SA d m_DeadCycles_lengthOf 0 (lv_args 0 [.ref v0, .int v1]) [] μ (some (.int r)) μ := by
  intro v0 v1 μ r h
  exact r_DeadCycles_lengthOf_e hd (lv_args 0 _) _ _ _ _ (by simp [lv_args, jget, rv_cat, cat_int, cat_long, cat_double, cat_float, cat_ref]) (by simp [lv_args, jget, rv_cat, cat_int, cat_long, cat_double, cat_float, cat_ref]) h
/-! FilterBench.cycle(III)I -/
set_option maxRecDepth 10000 in
set_option maxHeartbeats 4000000 in
theorem r_B_cycle_e {N B : Nat} {SA : Nat → Nat} {d : Nat} (hd : 6 ≤ d) : ∀ (L : JLoc) (v0 : Nat) (v1 : Int32) (v2 : Int32) (v3 : Int32) (μ : JMem) (r : Int32) (μ9 : JMem), jget L 0 = .ref v0 → jget L 1 = .int v1 → jget L 2 = .int v2 → jget L 3 = .int v3 → g_B_cycle N B v0 v1 v2 v3 μ = some (r, μ9) → jR B SA d m_B_cycle 0 L [] μ (some (.int r)) μ9 := by
  intro L v0 v1 v2 v3 μ r μ9 hl0 hl1 hl2 hl3 h
  unfold g_B_cycle at h
  refine jr_aload_n jf_173_0 rfl hl0 ?_
  replace h := obd_of h; obtain ⟨x1, hx1, h⟩ := h
  refine jr_getA jf_173_1 hx1 ?_
  refine jr_aload_n jf_173_4 rfl hl0 ?_
  refine jr_iload_n jf_173_5 rfl hl1 ?_
  replace h := jgd_of h; obtain ⟨hb2, h⟩ := h
  replace h := obd_of h; obtain ⟨x3, hx3, h⟩ := h
  refine jr_V6_1 jf_173_6 hb2 (by omega) (r_B_sectionAt (by omega) _ _ _ _ hx3) (by simp only [jcats_cons, jcats_nil, cat_int, cat_long, cat_double, cat_float, cat_ref, rv_cat]; decide) jml_13 (Nat.le_of_ble_eq_true rfl) ?_
  replace h := obd_of h; obtain ⟨a4, rfl, h⟩ := h
  replace h := jgd_of h; obtain ⟨hb5, h⟩ := h
  replace h := jbd2_of h; obtain ⟨x6, μ7, hx6, h⟩ := h
  refine jr_V6_1 jf_173_9 hb5 (by omega) (r_DeadCycles_look (by omega) _ _ _ _ _ hx6) (Nat.le_of_ble_eq_true rfl) jml_161 (by simp only [jcats_cons, jcats_nil, cat_int, cat_long, cat_double, cat_float, cat_ref, rv_cat]; decide) ?_
  replace h := ite_or h; rcases h with ⟨hc, h⟩ | ⟨hc, h⟩
  · refine jr_ifz_eq_f jf_173_12 hc ?_
    refine jr_iload_n jf_173_15 rfl hl2 ?_
    replace h := ite_or h; rcases h with ⟨hc, h⟩ | ⟨hc, h⟩
    · refine jr_if_lt_t jf_173_16 hc ?_
      refine jr_iconst jf_173_30 jc_i_0 ?_
      obtain ⟨rfl, rfl⟩ := Prod.mk.inj (Option.some.inj h)
      exact jr_retI jf_173_31 jmt_173
    · refine jr_if_lt_f jf_173_16 hc ?_
      refine jr_iload_n jf_173_19 rfl hl2 ?_
      refine jr_aload_n jf_173_20 rfl hl0 ?_
      replace h := obd_of h; obtain ⟨x8, hx8, h⟩ := h
      refine jr_getA jf_173_21 hx8 ?_
      replace h := obd_of h; obtain ⟨a9, rfl, h⟩ := h
      replace h := obd_of h; obtain ⟨x10, hx10, h⟩ := h
      refine jr_getI jf_173_24 hx10 ?_
      replace h := ite_or h; rcases h with ⟨hc, h⟩ | ⟨hc, h⟩
      · refine jr_if2_lt_t jf_173_27 hc ?_
        refine jr_iload_n jf_173_32 rfl hl3 ?_
        refine jr_switch jf_173_33 ?_
        replace h := ite_or h; rcases h with ⟨hc, h⟩ | ⟨hc, h⟩
        · refine jsw_hit (by decide) hc ?_
          refine jr_aload_n jf_173_60 rfl hl0 ?_
          replace h := obd_of h; obtain ⟨x11, hx11, h⟩ := h
          refine jr_getA jf_173_61 hx11 ?_
          refine jr_iload_n jf_173_64 rfl hl2 ?_
          replace h := obd_of h; obtain ⟨a12, rfl, h⟩ := h
          replace h := jgd_of h; obtain ⟨hb13, h⟩ := h
          replace h := obd_of h; obtain ⟨x14, hx14, h⟩ := h
          refine jr_V6_1 jf_173_65 hb13 (by omega) (r_DeadCycles_leastOf (by omega) _ _ _ _ hx14) (Nat.le_of_ble_eq_true rfl) jml_174 (Nat.le_of_ble_eq_true rfl) ?_
          obtain ⟨rfl, rfl⟩ := Prod.mk.inj (Option.some.inj h)
          exact jr_retI jf_173_68 jmt_173
        · refine jsw_miss (by decide) hc (by decide : (0 : Int) + 1 = 1) ?_
          replace h := ite_or h; rcases h with ⟨hc, h⟩ | ⟨hc, h⟩
          · refine jsw_hit (by decide) hc ?_
            refine jr_aload_n jf_173_69 rfl hl0 ?_
            replace h := obd_of h; obtain ⟨x15, hx15, h⟩ := h
            refine jr_getA jf_173_70 hx15 ?_
            refine jr_iload_n jf_173_73 rfl hl2 ?_
            replace h := obd_of h; obtain ⟨a16, rfl, h⟩ := h
            replace h := jgd_of h; obtain ⟨hb17, h⟩ := h
            replace h := obd_of h; obtain ⟨x18, hx18, h⟩ := h
            refine jr_V6_1 jf_173_74 hb17 (by omega) (r_DeadCycles_lengthOf (by omega) _ _ _ _ hx18) (Nat.le_of_ble_eq_true rfl) jml_175 (Nat.le_of_ble_eq_true rfl) ?_
            obtain ⟨rfl, rfl⟩ := Prod.mk.inj (Option.some.inj h)
            exact jr_retI jf_173_77 jmt_173
          · refine jsw_miss (by decide) hc (by decide : (1 : Int) + 1 = 2) ?_
            replace h := ite_or h; rcases h with ⟨hc, h⟩ | ⟨hc, h⟩
            · refine jsw_hit (by decide) hc ?_
              refine jr_aload_n jf_173_78 rfl hl0 ?_
              replace h := obd_of h; obtain ⟨x19, hx19, h⟩ := h
              refine jr_getA jf_173_79 hx19 ?_
              refine jr_iload_n jf_173_82 rfl hl2 ?_
              replace h := obd_of h; obtain ⟨a20, rfl, h⟩ := h
              replace h := jgd_of h; obtain ⟨hb21, h⟩ := h
              replace h := obd_of h; obtain ⟨x22, hx22, h⟩ := h
              refine jr_V6_1 jf_173_83 hb21 (by omega) (r_DeadCycles_basinOf (by omega) _ _ _ _ hx22) (Nat.le_of_ble_eq_true rfl) jml_176 (Nat.le_of_ble_eq_true rfl) ?_
              obtain ⟨rfl, rfl⟩ := Prod.mk.inj (Option.some.inj h)
              exact jr_retI jf_173_86 jmt_173
            · refine jsw_miss (by decide) hc (by decide : (2 : Int) + 1 = 3) ?_
              refine jsw_end ?_
              refine jr_iconst jf_173_87 jc_i_0 ?_
              obtain ⟨rfl, rfl⟩ := Prod.mk.inj (Option.some.inj h)
              exact jr_retI jf_173_88 jmt_173
      · refine jr_if2_lt_f jf_173_27 hc ?_
        refine jr_iconst jf_173_30 jc_i_0 ?_
        obtain ⟨rfl, rfl⟩ := Prod.mk.inj (Option.some.inj h)
        exact jr_retI jf_173_31 jmt_173
  · refine jr_ifz_eq_t jf_173_12 hc ?_
    refine jr_iconst jf_173_30 jc_i_0 ?_
    obtain ⟨rfl, rfl⟩ := Prod.mk.inj (Option.some.inj h)
    exact jr_retI jf_173_31 jmt_173
set_option maxRecDepth 10000 in
set_option maxHeartbeats 4000000 in
theorem r_B_cycle {N B : Nat} {SA : Nat → Nat} {d : Nat} (hd : 6 ≤ d) : ∀ (v0 : Nat) (v1 : Int32) (v2 : Int32) (v3 : Int32) (μ : JMem) (r : Int32) (μ9 : JMem), g_B_cycle N B v0 v1 v2 v3 μ = some (r, μ9) → jR B SA d m_B_cycle 0 (lv_args 0 [.ref v0, .int v1, .int v2, .int v3]) [] μ (some (.int r)) μ9 := by
  intro v0 v1 v2 v3 μ r μ9 h
  exact r_B_cycle_e hd (lv_args 0 _) _ _ _ _ _ _ _ (by simp [lv_args, jget, rv_cat, cat_int, cat_long, cat_double, cat_float, cat_ref]) (by simp [lv_args, jget, rv_cat, cat_int, cat_long, cat_double, cat_float, cat_ref]) (by simp [lv_args, jget, rv_cat, cat_int, cat_long, cat_double, cat_float, cat_ref]) (by simp [lv_args, jget, rv_cat, cat_int, cat_long, cat_double, cat_float, cat_ref]) h
/-! FilterBench$Real.nearest(JZLFilterBench$Real;)J -/
set_option maxRecDepth 10000 in
set_option maxHeartbeats 4000000 in
theorem r_Real_nearest_e {B : Nat} {SA : Nat → Nat} {d : Nat} (hd : 3 ≤ d) : ∀ (L : JLoc) (v0 : Nat) (v1 : Int64) (v4 : Option Nat) (μ : JMem) (r : Int64), jget L 0 = .ref v0 → jget L 1 = .long v1 → jget L 4 = rv v4 → g_Real_nearest_e v0 v1 v4 μ.1 = some r → jR B SA d m_Real_nearest 0 L [] μ (some (.long r)) μ := by
  intro L v0 v1 v4 μ r hl0 hl1 hl4 h
  unfold g_Real_nearest_e at h
  refine jr_aload_n jf_182_0 rfl hl0 ?_
  refine jr_aload_A jf_182_1 hl4 ?_
  refine jr_lload_n jf_182_3 rfl hl1 ?_
  replace h := jgd_of h; obtain ⟨hb1, h⟩ := h
  replace h := obd_of h; obtain ⟨x2, hx2, h⟩ := h
  refine jr_V6_2 jf_182_4 hb1 (by omega) (r_Real_taken (by omega) _ _ _ _ _ hx2) (Nat.le_of_ble_eq_true rfl) jml_30 (by simp only [jcats_cons, jcats_nil, cat_int, cat_long, cat_double, cat_float, cat_ref, rv_cat]; decide) ?_
  obtain rfl := Option.some.inj h
  exact jr_retJ jf_182_7 jmt_182
set_option maxRecDepth 10000 in
set_option maxHeartbeats 4000000 in
theorem r_Real_nearest {B : Nat} {SA : Nat → Nat} {d : Nat} (hd : 3 ≤ d) : ∀ (v0 : Nat) (v1 : Int64) (v3 : Bool) (v4 : Option Nat) (μ : JMem) (r : Int64), g_Real_nearest v0 v1 v3 v4 μ.1 = some r → jR B SA d m_Real_nearest 0 (lv_args 0 [.ref v0, .long v1, .int (jb v3), rv v4]) [] μ (some (.long r)) μ := by
  intro v0 v1 v3 v4 μ r h
  exact r_Real_nearest_e hd (lv_args 0 _) _ _ _ _ _ (by simp [lv_args, jget, rv_cat, cat_int, cat_long, cat_double, cat_float, cat_ref]) (by simp [lv_args, jget, rv_cat, cat_int, cat_long, cat_double, cat_float, cat_ref]) (by simp [lv_args, jget, rv_cat, cat_int, cat_long, cat_double, cat_float, cat_ref]) h
/-! FilterBench$Shorts.nearest(JZLFilterBench$Real;)J -/
set_option maxRecDepth 10000 in
set_option maxHeartbeats 4000000 in
theorem r_Shorts_nearest_25 {B : Nat} {SA : Nat → Nat} {d : Nat} (hd : 1 ≤ d) : ∀ (L : JLoc) (v1 : Int64) (v4 : Nat) (v5 : Int64) (s0 : Int32) (s1 : Int32) (μ : JMem) (r : Int64), jget L 1 = .long v1 → jget L 4 = .ref v4 → jget L 5 = .long v5 → g_Shorts_nearest_25 v1 v4 v5 s0 s1 μ.1 = some r → jR B SA d m_Shorts_nearest 25 L [.int s0, .int s1] μ (some (.long r)) μ := by
  intro L v1 v4 v5 s0 s1 μ r hl1 hl4 hl5 h
  unfold g_Shorts_nearest_25 at h
  refine jr_iadd jf_183_25 ?_
  refine jr_istore jf_183_26 jml_183 (by decide) ?_
  refine jr_aload jf_183_28 (jg1_ne rfl hl4) ?_
  refine jr_lload_n jf_183_30 rfl (jg1_ne rfl hl1) ?_
  replace h := jgd_of h; obtain ⟨hb1, h⟩ := h
  replace h := obd_of h; obtain ⟨x2, hx2, h⟩ := h
  refine jr_V6_1 jf_183_31 hb1 (by omega) (r_Real_isFinite (by omega) _ _ _ _ hx2) (Nat.le_of_ble_eq_true rfl) jml_156 (Nat.le_of_ble_eq_true rfl) ?_
  replace h := ite_or h; rcases h with ⟨hc, h⟩ | ⟨hc, h⟩
  · refine jr_ifz_eq_f jf_183_34 hc ?_
    refine jr_iload jf_183_37 jg1_same ?_
    replace h := ite_or h; rcases h with ⟨hc, h⟩ | ⟨hc, h⟩
    · refine jr_if_lt_t jf_183_39 hc ?_
      refine jr_aload jf_183_46 (jg1_ne rfl hl4) ?_
      refine jr_lload jf_183_48 (jg1_ne rfl hl5) ?_
      replace h := jgd_of h; obtain ⟨hb3, h⟩ := h
      replace h := obd_of h; obtain ⟨x4, hx4, h⟩ := h
      refine jr_V7_1 jf_183_50 hb3 (by omega) (r_Real_mantissa (by omega) _ _ _ _ hx4) (Nat.le_of_ble_eq_true rfl) jml_33 (Nat.le_of_ble_eq_true rfl) ?_
      refine jr_iload jf_183_53 jg1_same ?_
      refine jr_ineg jf_183_55 ?_
      refine jr_S5_2 jf_183_56 (by omega) (r_Numbers_halfEven (by omega) _ _ _ _ rfl) (Nat.le_of_ble_eq_true rfl) jml_29 (Nat.le_of_ble_eq_true rfl) ?_
      refine jr_lstore jf_183_59 jml_183 (by decide) ?_
      replace h := jlet_of h
      refine jr_lload_n jf_183_61 rfl (jg2_ne rfl (jg1_ne rfl hl1)) ?_
      refine jr_lconst0 jf_183_62 ?_
      refine jr_lcmp jf_183_63 ?_
      replace h := ite_or h; rcases h with ⟨hc, h⟩ | ⟨hc, h⟩
      · refine jr_ifl_ge_t jf_183_64 hc ?_
        refine jr_lload jf_183_73 jg2_same ?_
        obtain rfl := Option.some.inj h
        exact jr_retJ jf_183_75 jmt_183
      · refine jr_ifl_ge_f jf_183_64 hc ?_
        refine jr_lload jf_183_67 jg2_same ?_
        refine jr_lneg jf_183_69 ?_
        refine jr_goto jf_183_70 ?_
        obtain rfl := Option.some.inj h
        exact jr_retJ jf_183_75 jmt_183
    · refine jr_if_lt_f jf_183_39 hc ?_
      refine jr_ldc2l jf_183_42 ?_
      obtain rfl := Option.some.inj h
      exact jr_retJ jf_183_45 jmt_183
  · refine jr_ifz_eq_t jf_183_34 hc ?_
    refine jr_ldc2l jf_183_42 ?_
    obtain rfl := Option.some.inj h
    exact jr_retJ jf_183_45 jmt_183
set_option maxRecDepth 10000 in
set_option maxHeartbeats 4000000 in
theorem r_Shorts_nearest_e {B : Nat} {SA : Nat → Nat} {d : Nat} (hd : 1 ≤ d) : ∀ (L : JLoc) (v1 : Int64) (v3 : Bool) (v4 : Option Nat) (μ : JMem) (r : Int64), jget L 1 = .long v1 → jget L 3 = .int (jb v3) → jget L 4 = rv v4 → g_Shorts_nearest_e v1 v3 v4 μ.1 = some r → jR B SA d m_Shorts_nearest 0 L [] μ (some (.long r)) μ := by
  intro L v1 v3 v4 μ r hl1 hl3 hl4 h
  unfold g_Shorts_nearest_e at h
  refine jr_aload_A jf_183_0 hl4 ?_
  refine jr_lload_n jf_183_2 rfl hl1 ?_
  replace h := obd_of h; obtain ⟨a1, rfl, h⟩ := h
  replace h := jgd_of h; obtain ⟨hb2, h⟩ := h
  replace h := obd_of h; obtain ⟨x3, hx3, h⟩ := h
  refine jr_V6_1 jf_183_3 hb2 (by omega) (r_Real_sizeOf (by omega) _ _ _ _ hx3) (Nat.le_of_ble_eq_true rfl) jml_31 (Nat.le_of_ble_eq_true rfl) ?_
  refine jr_lstore jf_183_6 jml_183 (by decide) ?_
  refine jr_aload jf_183_8 (jg2_pre (by first | rfl | exact rv_cat _) hl4) ?_
  refine jr_lload jf_183_10 jg2_same ?_
  replace h := jgd_of h; obtain ⟨hb4, h⟩ := h
  replace h := obd_of h; obtain ⟨x5, hx5, h⟩ := h
  refine jr_V7_1 jf_183_12 hb4 (by omega) (r_Real_exponent (by omega) _ _ _ _ hx5) (Nat.le_of_ble_eq_true rfl) jml_32 (Nat.le_of_ble_eq_true rfl) ?_
  refine jr_iload_n jf_183_15 rfl (jg2_ne rfl hl3) ?_
  replace h := ite_or h; rcases h with ⟨hc, h⟩ | ⟨hc, h⟩
  · refine jr_ifz_eq_f jf_183_16 hc ?_
    refine jr_iconst jf_183_19 jc_i_0 ?_
    refine jr_goto jf_183_20 ?_
    exact r_Shorts_nearest_25 hd _ _ _ _ _ _ _ _ (jg2_ne rfl hl1) (jg2_pre (by first | rfl | exact rv_cat _) hl4) jg2_same h
  · refine jr_ifz_eq_t jf_183_16 hc ?_
    refine jr_bipush jf_183_23 jc_b_14 ?_
    exact r_Shorts_nearest_25 hd _ _ _ _ _ _ _ _ (jg2_ne rfl hl1) (jg2_pre (by first | rfl | exact rv_cat _) hl4) jg2_same h
set_option maxRecDepth 10000 in
set_option maxHeartbeats 4000000 in
theorem r_Shorts_nearest {B : Nat} {SA : Nat → Nat} {d : Nat} (hd : 1 ≤ d) : ∀ (v0 : Nat) (v1 : Int64) (v3 : Bool) (v4 : Option Nat) (μ : JMem) (r : Int64), g_Shorts_nearest v0 v1 v3 v4 μ.1 = some r → jR B SA d m_Shorts_nearest 0 (lv_args 0 [.ref v0, .long v1, .int (jb v3), rv v4]) [] μ (some (.long r)) μ := by
  intro v0 v1 v3 v4 μ r h
  exact r_Shorts_nearest_e hd (lv_args 0 _) _ _ _ _ _ (by simp [lv_args, jget, rv_cat, cat_int, cat_long, cat_double, cat_float, cat_ref]) (by simp [lv_args, jget, rv_cat, cat_int, cat_long, cat_double, cat_float, cat_ref]) (by simp [lv_args, jget, rv_cat, cat_int, cat_long, cat_double, cat_float, cat_ref]) h
/-! FilterBench.translated(LFilterBench$Numbers;JZLFilterBench$Numbers;)J -/
set_option maxRecDepth 10000 in
set_option maxHeartbeats 4000000 in
theorem r_B_translated_e {B : Nat} {SA : Nat → Nat} {d : Nat} (hd : 4 ≤ d) : ∀ (L : JLoc) (v0 : Nat) (v1 : Option Nat) (v2 : Int64) (v4 : Bool) (v5 : Option Nat) (μ : JMem) (r : Int64), jget L 0 = .ref v0 → jget L 1 = rv v1 → jget L 2 = .long v2 → jget L 4 = .int (jb v4) → jget L 5 = rv v5 → g_B_translated v0 v1 v2 v4 v5 μ.1 = some r → jR B SA d m_B_translated 0 L [] μ (some (.long r)) μ := by
  intro L v0 v1 v2 v4 v5 μ r hl0 hl1 hl2 hl4 hl5 h
  unfold g_B_translated at h
  refine jr_aload_A jf_181_0 hl5 ?_
  refine jr_aload_n_A jf_181_2 rfl hl1 ?_
  refine jr_lload_n jf_181_3 rfl hl2 ?_
  refine jr_iload jf_181_4 hl4 ?_
  refine jr_aload_n jf_181_6 rfl hl0 ?_
  replace h := obd_of h; obtain ⟨x1, hx1, h⟩ := h
  refine jr_getA jf_181_7 hx1 ?_
  replace h := obd_of h; obtain ⟨a2, rfl, h⟩ := h
  replace h := obd_of h; obtain ⟨x3, hx3, h⟩ := h
  rcases ite_or hx3 with ⟨hb, hx⟩ | ⟨hb0, hx⟩
  · refine jr_V8a_3 jf_181_10 hb (by omega) (r_Real_meaning (by omega) _ _ _ _ _ _ hx) (by simp only [jcats_cons, jcats_nil, cat_int, cat_long, cat_double, cat_float, cat_ref, rv_cat]; decide) jml_153 (by simp only [jcats_cons, jcats_nil, cat_int, cat_long, cat_double, cat_float, cat_ref, rv_cat]; decide) ?_
    refine jr_iload jf_181_13 hl4 ?_
    refine jr_aload_n jf_181_15 rfl hl0 ?_
    replace h := obd_of h; obtain ⟨x4, hx4, h⟩ := h
    refine jr_getA jf_181_16 hx4 ?_
    replace h := obd_of h; obtain ⟨a5, rfl, h⟩ := h
    replace h := obd_of h; obtain ⟨x6, hx6, h⟩ := h
    rcases ite_or hx6 with ⟨hb, hx⟩ | ⟨hb0, hx⟩
    · refine jr_V8a_3 jf_181_19 hb (by omega) (r_Real_nearest (by omega) _ _ _ _ _ _ hx) (Nat.le_of_ble_eq_true rfl) jml_182 (by simp only [jcats_cons, jcats_nil, cat_int, cat_long, cat_double, cat_float, cat_ref, rv_cat]; decide) ?_
      obtain rfl := Option.some.inj h
      exact jr_retJ jf_181_22 jmt_181
    · obtain ⟨hb, hx⟩ := jgd_of hx
      refine jr_V8b_3 jf_181_19 hb0 hb (by omega) (r_Shorts_nearest (by omega) _ _ _ _ _ _ hx) (Nat.le_of_ble_eq_true rfl) jml_183 (by simp only [jcats_cons, jcats_nil, cat_int, cat_long, cat_double, cat_float, cat_ref, rv_cat]; decide) ?_
      obtain rfl := Option.some.inj h
      exact jr_retJ jf_181_22 jmt_181
  · obtain ⟨hb, hx⟩ := jgd_of hx
    refine jr_V8b_3 jf_181_10 hb0 hb (by omega) (r_Shorts_meaning (by omega) _ _ _ _ _ _ hx) (by simp only [jcats_cons, jcats_nil, cat_int, cat_long, cat_double, cat_float, cat_ref, rv_cat]; decide) jml_154 (by simp only [jcats_cons, jcats_nil, cat_int, cat_long, cat_double, cat_float, cat_ref, rv_cat]; decide) ?_
    refine jr_iload jf_181_13 hl4 ?_
    refine jr_aload_n jf_181_15 rfl hl0 ?_
    replace h := obd_of h; obtain ⟨x4, hx4, h⟩ := h
    refine jr_getA jf_181_16 hx4 ?_
    replace h := obd_of h; obtain ⟨a5, rfl, h⟩ := h
    replace h := obd_of h; obtain ⟨x6, hx6, h⟩ := h
    rcases ite_or hx6 with ⟨hb, hx⟩ | ⟨hb0, hx⟩
    · refine jr_V8a_3 jf_181_19 hb (by omega) (r_Real_nearest (by omega) _ _ _ _ _ _ hx) (Nat.le_of_ble_eq_true rfl) jml_182 (by simp only [jcats_cons, jcats_nil, cat_int, cat_long, cat_double, cat_float, cat_ref, rv_cat]; decide) ?_
      obtain rfl := Option.some.inj h
      exact jr_retJ jf_181_22 jmt_181
    · obtain ⟨hb, hx⟩ := jgd_of hx
      refine jr_V8b_3 jf_181_19 hb0 hb (by omega) (r_Shorts_nearest (by omega) _ _ _ _ _ _ hx) (Nat.le_of_ble_eq_true rfl) jml_183 (by simp only [jcats_cons, jcats_nil, cat_int, cat_long, cat_double, cat_float, cat_ref, rv_cat]; decide) ?_
      obtain rfl := Option.some.inj h
      exact jr_retJ jf_181_22 jmt_181
set_option maxRecDepth 10000 in
set_option maxHeartbeats 4000000 in
theorem r_B_translated {B : Nat} {SA : Nat → Nat} {d : Nat} (hd : 4 ≤ d) : ∀ (v0 : Nat) (v1 : Option Nat) (v2 : Int64) (v4 : Bool) (v5 : Option Nat) (μ : JMem) (r : Int64), g_B_translated v0 v1 v2 v4 v5 μ.1 = some r → jR B SA d m_B_translated 0 (lv_args 0 [.ref v0, rv v1, .long v2, .int (jb v4), rv v5]) [] μ (some (.long r)) μ := by
  intro v0 v1 v2 v4 v5 μ r h
  exact r_B_translated_e hd (lv_args 0 _) _ _ _ _ _ _ _ (by simp [lv_args, jget, rv_cat, cat_int, cat_long, cat_double, cat_float, cat_ref]) (by simp [lv_args, jget, rv_cat, cat_int, cat_long, cat_double, cat_float, cat_ref]) (by simp [lv_args, jget, rv_cat, cat_int, cat_long, cat_double, cat_float, cat_ref]) (by simp [lv_args, jget, rv_cat, cat_int, cat_long, cat_double, cat_float, cat_ref]) (by simp [lv_args, jget, rv_cat, cat_int, cat_long, cat_double, cat_float, cat_ref]) h
/-! FilterBench$Section.factorCount()I -/
set_option maxRecDepth 10000 in
set_option maxHeartbeats 4000000 in
theorem r_Section_factorCount_e {B : Nat} {SA : Nat → Nat} {d : Nat} (hd : 0 ≤ d) : ∀ (L : JLoc) (v0 : Nat) (μ : JMem) (r : Int32), jget L 0 = .ref v0 → g_Section_factorCount v0 μ.1 = some r → jR B SA d m_Section_factorCount 0 L [] μ (some (.int r)) μ := by
  intro L v0 μ r hl0 h
  unfold g_Section_factorCount at h
  refine jr_aload_n jf_180_0 rfl hl0 ?_
  replace h := obd_of h; obtain ⟨x1, hx1, h⟩ := h
  refine jr_getA jf_180_1 hx1 ?_
  replace h := obd_of h; obtain ⟨a2, rfl, h⟩ := h
  replace h := obd_of h; obtain ⟨x3, hx3, h⟩ := h
  refine jr_arraylength jf_180_4 hx3 ?_
  obtain rfl := Option.some.inj h
  exact jr_retI jf_180_5 jmt_180
set_option maxRecDepth 10000 in
set_option maxHeartbeats 4000000 in
theorem r_Section_factorCount {B : Nat} {SA : Nat → Nat} {d : Nat} (hd : 0 ≤ d) : ∀ (v0 : Nat) (μ : JMem) (r : Int32), g_Section_factorCount v0 μ.1 = some r → jR B SA d m_Section_factorCount 0 (lv_args 0 [.ref v0]) [] μ (some (.int r)) μ := by
  intro v0 μ r h
  exact r_Section_factorCount_e hd (lv_args 0 _) _ _ _ (by simp [lv_args, jget, rv_cat, cat_int, cat_long, cat_double, cat_float, cat_ref]) h
/-! FilterBench.canTranslate(LFilterBench$Chain;LFilterBench$Numbers;)Z -/
set_option maxRecDepth 10000 in
set_option maxHeartbeats 4000000 in
theorem r_B_canTranslate_72 {N B : Nat} {SA : Nat → Nat} {d : Nat} (hd : 5 ≤ d) {k2 : Nat → Option Nat → Option Nat → Int32 → (Nat → Option JCell) → Option Bool} (i2 : ∀ (L : JLoc) (v0 : Nat) (v1 : Option Nat) (v2 : Option Nat) (v3 : Int32) (μ : JMem) (r : Bool), jget L 0 = .ref v0 → jget L 1 = rv v1 → jget L 2 = rv v2 → jget L 3 = .int v3 → k2 v0 v1 v2 v3 μ.1 = some r → jR B SA d m_B_canTranslate 2 L [] μ (some (.int (jb r))) μ) : ∀ (L : JLoc) (v0 : Nat) (v1 : Nat) (v2 : Option Nat) (v3 : Int32) (μ : JMem) (r : Bool), jget L 0 = .ref v0 → jget L 1 = .ref v1 → jget L 2 = rv v2 → jget L 3 = .int v3 → g_B_canTranslate_72 N k2 v0 v1 v2 v3 μ.1 = some r → jR B SA d m_B_canTranslate 72 L [] μ (some (.int (jb r))) μ := by
  intro L v0 v1 v2 v3 μ r hl0 hl1 hl2 hl3 h
  unfold g_B_canTranslate_72 at h
  refine jr_iinc jf_179_72 jc_i_1 jml_179 (by decide) hl3 ?_
  refine jr_goto jf_179_75 ?_
  exact i2 _ _ (some _) _ _ _ _ (jg1_ne rfl hl0) (jg1_ne rfl hl1) (jg1_pre (by first | rfl | exact rv_cat _) hl2) jg1_same h
set_option maxRecDepth 10000 in
set_option maxHeartbeats 4000000 in
theorem r_B_canTranslate_20 {N B : Nat} {SA : Nat → Nat} {d : Nat} (hd : 5 ≤ d) {k2 : Nat → Option Nat → Option Nat → Int32 → (Nat → Option JCell) → Option Bool} (i2 : ∀ (L : JLoc) (v0 : Nat) (v1 : Option Nat) (v2 : Option Nat) (v3 : Int32) (μ : JMem) (r : Bool), jget L 0 = .ref v0 → jget L 1 = rv v1 → jget L 2 = rv v2 → jget L 3 = .int v3 → k2 v0 v1 v2 v3 μ.1 = some r → jR B SA d m_B_canTranslate 2 L [] μ (some (.int (jb r))) μ) : ∀ (n : Nat), ∀ (L : JLoc) (v0 : Nat) (v1 : Nat) (v2 : Option Nat) (v3 : Int32) (v4 : Option Nat) (v5 : Int32) (μ : JMem) (r : Bool), jget L 0 = .ref v0 → jget L 1 = .ref v1 → jget L 2 = rv v2 → jget L 3 = .int v3 → jget L 4 = rv v4 → jget L 5 = .int v5 → g_B_canTranslate_20 N k2 n v0 v1 v2 v3 v4 v5 μ.1 = some r → jR B SA d m_B_canTranslate 20 L [] μ (some (.int (jb r))) μ := by
  intro n
  induction n with
  | zero =>
    intro L v0 v1 v2 v3 v4 v5 μ r hl0 hl1 hl2 hl3 hl4 hl5 h
    unfold g_B_canTranslate_20 at h
    cases h
  | succ n ih =>
    intro L v0 v1 v2 v3 v4 v5 μ r hl0 hl1 hl2 hl3 hl4 hl5 h
    unfold g_B_canTranslate_20 at h
    refine jr_aload_A jf_179_20 hl4 ?_
    replace h := jon_or h; rcases h with ⟨rfl, h⟩ | ⟨a1, rfl, h⟩
    · refine jr_ifnull_n jf_179_22 ?_
      exact r_B_canTranslate_72 hd i2 _ _ _ _ _ _ _ hl0 hl1 hl2 hl3 h
    · refine jr_ifnull_s jf_179_22 ?_
      refine jr_iload jf_179_25 hl5 ?_
      refine jr_aload jf_179_27 hl4 ?_
      replace h := jgd_of h; obtain ⟨hb2, h⟩ := h
      replace h := obd_of h; obtain ⟨x3, hx3, h⟩ := h
      refine jr_V6_0 jf_179_29 hb2 (by omega) (r_Section_factorCount (by omega) _ _ _ hx3) (Nat.le_of_ble_eq_true rfl) jml_180 (Nat.le_of_ble_eq_true rfl) ?_
      replace h := ite_or h; rcases h with ⟨hc, h⟩ | ⟨hc, h⟩
      · refine jr_if2_ge_t jf_179_32 hc ?_
        exact r_B_canTranslate_72 hd i2 _ _ _ _ _ _ _ hl0 hl1 hl2 hl3 h
      · refine jr_if2_ge_f jf_179_32 hc ?_
        refine jr_aload_n_A jf_179_35 rfl hl2 ?_
        refine jr_aload_n jf_179_36 rfl hl0 ?_
        refine jr_aload jf_179_37 hl4 ?_
        replace h := obd_of h; obtain ⟨x4, hx4, h⟩ := h
        refine jr_getA jf_179_39 hx4 ?_
        refine jr_aload jf_179_42 hl4 ?_
        refine jr_iload jf_179_44 hl5 ?_
        replace h := jgd_of h; obtain ⟨hb5, h⟩ := h
        replace h := obd_of h; obtain ⟨x6, hx6, h⟩ := h
        refine jr_V6_1 jf_179_46 hb5 (by omega) (r_Section_factor (by omega) _ _ _ _ hx6) (by simp only [jcats_cons, jcats_nil, cat_int, cat_long, cat_double, cat_float, cat_ref, rv_cat]; decide) jml_43 (Nat.le_of_ble_eq_true rfl) ?_
        refine jr_aload jf_179_49 hl4 ?_
        replace h := jgd_of h; obtain ⟨hb7, h⟩ := h
        replace h := obd_of h; obtain ⟨x8, hx8, h⟩ := h
        refine jr_V6_0 jf_179_51 hb7 (by omega) (r_Section_takesWhole (by omega) _ _ _ hx8) (by simp only [jcats_cons, jcats_nil, cat_int, cat_long, cat_double, cat_float, cat_ref, rv_cat]; decide) jml_22 (Nat.le_of_ble_eq_true rfl) ?_
        refine jr_aload_n_A jf_179_54 rfl hl2 ?_
        replace h := jgd_of h; obtain ⟨hb9, h⟩ := h
        replace h := obd_of h; obtain ⟨x10, hx10, h⟩ := h
        refine jr_V6_4 jf_179_55 hb9 (by omega) (r_B_translated (by omega) _ _ _ _ _ _ _ hx10) (by simp only [jcats_cons, jcats_nil, cat_int, cat_long, cat_double, cat_float, cat_ref, rv_cat]; decide) jml_181 (by simp only [jcats_cons, jcats_nil, cat_int, cat_long, cat_double, cat_float, cat_ref, rv_cat]; decide) ?_
        replace h := obd_of h; obtain ⟨a11, rfl, h⟩ := h
        replace h := obd_of h; obtain ⟨x12, hx12, h⟩ := h
        rcases ite_or hx12 with ⟨hb, hx⟩ | ⟨hb0, hx⟩
        · refine jr_V8a_1 jf_179_58 hb (by omega) (r_Real_holds (by omega) _ _ _ _ hx) (Nat.le_of_ble_eq_true rfl) jml_15 (Nat.le_of_ble_eq_true rfl) ?_
          replace h := ite_or h; rcases h with ⟨hc, h⟩ | ⟨hc, h⟩
          · refine jr_ifz_ne_t jf_179_61 hc ?_
            refine jr_iinc jf_179_66 jc_i_1 jml_179 (by decide) hl5 ?_
            refine jr_goto jf_179_69 ?_
            exact ih _ _ _ (some _) _ (some _) _ _ _ (jg1_ne rfl hl0) (jg1_ne rfl hl1) (jg1_ne rfl hl2) (jg1_ne rfl hl3) (jg1_pre (by first | rfl | exact rv_cat _) hl4) jg1_same h
          · refine jr_ifz_ne_f jf_179_61 hc ?_
            refine jr_iconst jf_179_64 jc_i_0 ?_
            obtain rfl := Option.some.inj h
            exact jr_retZ (x := false) jf_179_65 jmt_179
        · obtain ⟨hb, hx⟩ := jgd_of hx
          obtain hx := Option.some.inj hx
          refine jr_V8b_1 jf_179_58 hb0 hb (by omega) (r_Shorts_holds (by omega) _ _ _ _ hx) (Nat.le_of_ble_eq_true rfl) jml_16 (Nat.le_of_ble_eq_true rfl) ?_
          replace h := ite_or h; rcases h with ⟨hc, h⟩ | ⟨hc, h⟩
          · refine jr_ifz_ne_t jf_179_61 hc ?_
            refine jr_iinc jf_179_66 jc_i_1 jml_179 (by decide) hl5 ?_
            refine jr_goto jf_179_69 ?_
            exact ih _ _ _ (some _) _ (some _) _ _ _ (jg1_ne rfl hl0) (jg1_ne rfl hl1) (jg1_ne rfl hl2) (jg1_ne rfl hl3) (jg1_pre (by first | rfl | exact rv_cat _) hl4) jg1_same h
          · refine jr_ifz_ne_f jf_179_61 hc ?_
            refine jr_iconst jf_179_64 jc_i_0 ?_
            obtain rfl := Option.some.inj h
            exact jr_retZ (x := false) jf_179_65 jmt_179
set_option maxRecDepth 10000 in
set_option maxHeartbeats 4000000 in
theorem r_B_canTranslate_90 {N B : Nat} {SA : Nat → Nat} {d : Nat} (hd : 5 ≤ d) : ∀ (n : Nat), ∀ (L : JLoc) (v0 : Nat) (v1 : Nat) (v2 : Option Nat) (v3 : Option Nat) (v4 : Int32) (μ : JMem) (r : Bool), jget L 0 = .ref v0 → jget L 1 = .ref v1 → jget L 2 = rv v2 → jget L 3 = rv v3 → jget L 4 = .int v4 → g_B_canTranslate_90 N n v0 v1 v2 v3 v4 μ.1 = some r → jR B SA d m_B_canTranslate 90 L [] μ (some (.int (jb r))) μ := by
  intro n
  induction n with
  | zero =>
    intro L v0 v1 v2 v3 v4 μ r hl0 hl1 hl2 hl3 hl4 h
    unfold g_B_canTranslate_90 at h
    cases h
  | succ n ih =>
    intro L v0 v1 v2 v3 v4 μ r hl0 hl1 hl2 hl3 hl4 h
    unfold g_B_canTranslate_90 at h
    refine jr_iload jf_179_90 hl4 ?_
    refine jr_aload_n jf_179_92 rfl hl1 ?_
    replace h := obd_of h; obtain ⟨x1, hx1, h⟩ := h
    refine jr_getI jf_179_93 hx1 ?_
    replace h := ite_or h; rcases h with ⟨hc, h⟩ | ⟨hc, h⟩
    · refine jr_if2_ge_t jf_179_96 hc ?_
      refine jr_iconst jf_179_143 jc_i_1 ?_
      obtain rfl := Option.some.inj h
      exact jr_retZ (x := true) jf_179_144 jmt_179
    · refine jr_if2_ge_f jf_179_96 hc ?_
      refine jr_aload_n jf_179_99 rfl hl1 ?_
      refine jr_iload jf_179_100 hl4 ?_
      replace h := jgd_of h; obtain ⟨hb2, h⟩ := h
      replace h := obd_of h; obtain ⟨x3, hx3, h⟩ := h
      refine jr_V6_1 jf_179_102 hb2 (by omega) (r_Chain_loopAt (by omega) _ _ _ _ hx3) (Nat.le_of_ble_eq_true rfl) jml_68 (Nat.le_of_ble_eq_true rfl) ?_
      refine jr_astore_A jf_179_105 jml_179 (by decide) ?_
      refine jr_aload_n_A jf_179_107 rfl (jg1_ne rfl hl3) ?_
      replace h := jon_or h; rcases h with ⟨rfl, h⟩ | ⟨a4, rfl, h⟩
      · refine jr_ifnull_n jf_179_108 ?_
        refine jr_iconst jf_179_135 jc_i_0 ?_
        obtain rfl := Option.some.inj h
        exact jr_retZ (x := false) jf_179_136 jmt_179
      · refine jr_ifnull_s jf_179_108 ?_
        refine jr_aload_A jf_179_111 jg1_same ?_
        replace h := jon_or h; rcases h with ⟨rfl, h⟩ | ⟨a5, rfl, h⟩
        · refine jr_ifnull_n jf_179_113 ?_
          refine jr_iconst jf_179_135 jc_i_0 ?_
          obtain rfl := Option.some.inj h
          exact jr_retZ (x := false) jf_179_136 jmt_179
        · refine jr_ifnull_s jf_179_113 ?_
          refine jr_aload_n_A jf_179_116 rfl (jg1_ne rfl hl2) ?_
          refine jr_aload_n jf_179_117 rfl (jg1_ne rfl hl0) ?_
          refine jr_aload_n jf_179_118 rfl (jg1_ne rfl hl3) ?_
          refine jr_aload jf_179_119 jg1_same ?_
          replace h := obd_of h; obtain ⟨x6, hx6, h⟩ := h
          refine jr_getJ jf_179_121 hx6 ?_
          refine jr_iconst jf_179_124 jc_i_0 ?_
          refine jr_aload_n_A jf_179_125 rfl (jg1_ne rfl hl2) ?_
          replace h := jgd_of h; obtain ⟨hb7, h⟩ := h
          replace h := obd_of h; obtain ⟨x8, hx8, h⟩ := h
          refine jr_V6_4 jf_179_126 hb7 (by omega) (r_B_translated (by omega) _ _ _ _ _ _ _ hx8) (by simp only [jcats_cons, jcats_nil, cat_int, cat_long, cat_double, cat_float, cat_ref, rv_cat]; decide) jml_181 (by simp only [jcats_cons, jcats_nil, cat_int, cat_long, cat_double, cat_float, cat_ref, rv_cat]; decide) ?_
          replace h := obd_of h; obtain ⟨a9, rfl, h⟩ := h
          replace h := obd_of h; obtain ⟨x10, hx10, h⟩ := h
          rcases ite_or hx10 with ⟨hb, hx⟩ | ⟨hb0, hx⟩
          · refine jr_V8a_1 jf_179_129 hb (by omega) (r_Real_holds (by omega) _ _ _ _ hx) (Nat.le_of_ble_eq_true rfl) jml_15 (Nat.le_of_ble_eq_true rfl) ?_
            replace h := ite_or h; rcases h with ⟨hc, h⟩ | ⟨hc, h⟩
            · refine jr_ifz_ne_t jf_179_132 hc ?_
              refine jr_iinc jf_179_137 jc_i_1 jml_179 (by decide) (jg1_pre rfl hl4) ?_
              refine jr_goto jf_179_140 ?_
              exact ih _ _ _ (some _) (some _) _ _ _ (jg1_ne rfl (jg1_ne rfl hl0)) (jg1_ne rfl (jg1_ne rfl hl1)) (jg1_ne rfl (jg1_ne rfl hl2)) (jg1_pre (by first | rfl | exact rv_cat _) (jg1_ne rfl hl3)) jg1_same h
            · refine jr_ifz_ne_f jf_179_132 hc ?_
              refine jr_iconst jf_179_135 jc_i_0 ?_
              obtain rfl := Option.some.inj h
              exact jr_retZ (x := false) jf_179_136 jmt_179
          · obtain ⟨hb, hx⟩ := jgd_of hx
            obtain hx := Option.some.inj hx
            refine jr_V8b_1 jf_179_129 hb0 hb (by omega) (r_Shorts_holds (by omega) _ _ _ _ hx) (Nat.le_of_ble_eq_true rfl) jml_16 (Nat.le_of_ble_eq_true rfl) ?_
            replace h := ite_or h; rcases h with ⟨hc, h⟩ | ⟨hc, h⟩
            · refine jr_ifz_ne_t jf_179_132 hc ?_
              refine jr_iinc jf_179_137 jc_i_1 jml_179 (by decide) (jg1_pre rfl hl4) ?_
              refine jr_goto jf_179_140 ?_
              exact ih _ _ _ (some _) (some _) _ _ _ (jg1_ne rfl (jg1_ne rfl hl0)) (jg1_ne rfl (jg1_ne rfl hl1)) (jg1_ne rfl (jg1_ne rfl hl2)) (jg1_pre (by first | rfl | exact rv_cat _) (jg1_ne rfl hl3)) jg1_same h
            · refine jr_ifz_ne_f jf_179_132 hc ?_
              refine jr_iconst jf_179_135 jc_i_0 ?_
              obtain rfl := Option.some.inj h
              exact jr_retZ (x := false) jf_179_136 jmt_179
set_option maxRecDepth 10000 in
set_option maxHeartbeats 4000000 in
theorem r_B_canTranslate_2 {N B : Nat} {SA : Nat → Nat} {d : Nat} (hd : 5 ≤ d) : ∀ (n : Nat), ∀ (L : JLoc) (v0 : Nat) (v1 : Option Nat) (v2 : Option Nat) (v3 : Int32) (μ : JMem) (r : Bool), jget L 0 = .ref v0 → jget L 1 = rv v1 → jget L 2 = rv v2 → jget L 3 = .int v3 → g_B_canTranslate_2 N n v0 v1 v2 v3 μ.1 = some r → jR B SA d m_B_canTranslate 2 L [] μ (some (.int (jb r))) μ := by
  intro n
  induction n with
  | zero =>
    intro L v0 v1 v2 v3 μ r hl0 hl1 hl2 hl3 h
    unfold g_B_canTranslate_2 at h
    cases h
  | succ n ih =>
    intro L v0 v1 v2 v3 μ r hl0 hl1 hl2 hl3 h
    unfold g_B_canTranslate_2 at h
    refine jr_iload_n jf_179_2 rfl hl3 ?_
    refine jr_aload_n_A jf_179_3 rfl hl1 ?_
    replace h := obd_of h; obtain ⟨a1, rfl, h⟩ := h
    replace h := obd_of h; obtain ⟨x2, hx2, h⟩ := h
    refine jr_getI jf_179_4 hx2 ?_
    replace h := ite_or h; rcases h with ⟨hc, h⟩ | ⟨hc, h⟩
    · refine jr_if2_ge_t jf_179_7 hc ?_
      refine jr_aload_n jf_179_78 rfl hl0 ?_
      refine jr_aload_n jf_179_79 rfl hl1 ?_
      replace h := jgd_of h; obtain ⟨hb3, h⟩ := h
      replace h := obd_of h; obtain ⟨x4, hx4, h⟩ := h
      refine jr_V6_0 jf_179_80 hb3 (by omega) (r_Chain_sort (by omega) _ _ _ hx4) (Nat.le_of_ble_eq_true rfl) jml_49 (Nat.le_of_ble_eq_true rfl) ?_
      replace h := jgd_of h; obtain ⟨hb5, h⟩ := h
      replace h := obd_of h; obtain ⟨x6, hx6, h⟩ := h
      refine jr_V6_1 jf_179_83 hb5 (by omega) (r_B_numbersOf (by omega) _ _ _ _ hx6) (Nat.le_of_ble_eq_true rfl) jml_6 (Nat.le_of_ble_eq_true rfl) ?_
      refine jr_astore_n_A jf_179_86 rfl jml_179 (by decide) ?_
      refine jr_iconst jf_179_87 jc_i_0 ?_
      refine jr_istore jf_179_88 jml_179 (by decide) ?_
      exact r_B_canTranslate_90 hd _ _ _ _ _ _ _ _ _ (jg1_ne rfl (jg1_ne rfl hl0)) (jg1_ne rfl (jg1_ne rfl hl1)) (jg1_ne rfl (jg1_pre (by first | rfl | exact rv_cat _) hl2)) (jg1_pre (by first | rfl | exact rv_cat _) jg1_same) jg1_same h
    · refine jr_if2_ge_f jf_179_7 hc ?_
      refine jr_aload_n jf_179_10 rfl hl1 ?_
      refine jr_iload_n jf_179_11 rfl hl3 ?_
      replace h := jgd_of h; obtain ⟨hb7, h⟩ := h
      replace h := obd_of h; obtain ⟨x8, hx8, h⟩ := h
      refine jr_V6_1 jf_179_12 hb7 (by omega) (r_Chain_memberAt (by omega) _ _ _ _ hx8) (Nat.le_of_ble_eq_true rfl) jml_50 (Nat.le_of_ble_eq_true rfl) ?_
      refine jr_astore_A jf_179_15 jml_179 (by decide) ?_
      refine jr_iconst jf_179_17 jc_i_0 ?_
      refine jr_istore jf_179_18 jml_179 (by decide) ?_
      exact r_B_canTranslate_20 hd ih _ _ _ _ _ _ _ _ _ _ (jg1_ne rfl (jg1_ne rfl hl0)) (jg1_ne rfl (jg1_ne rfl hl1)) (jg1_ne rfl (jg1_ne rfl hl2)) (jg1_ne rfl (jg1_pre rfl hl3)) (jg1_pre (by first | rfl | exact rv_cat _) jg1_same) jg1_same h
set_option maxRecDepth 10000 in
set_option maxHeartbeats 4000000 in
theorem r_B_canTranslate_e {N B : Nat} {SA : Nat → Nat} {d : Nat} (hd : 5 ≤ d) : ∀ (L : JLoc) (v0 : Nat) (v1 : Option Nat) (v2 : Option Nat) (μ : JMem) (r : Bool), jget L 0 = .ref v0 → jget L 1 = rv v1 → jget L 2 = rv v2 → g_B_canTranslate N v0 v1 v2 μ.1 = some r → jR B SA d m_B_canTranslate 0 L [] μ (some (.int (jb r))) μ := by
  intro L v0 v1 v2 μ r hl0 hl1 hl2 h
  unfold g_B_canTranslate at h
  refine jr_iconst jf_179_0 jc_i_0 ?_
  refine jr_istore_n jf_179_1 rfl jml_179 (by decide) ?_
  exact r_B_canTranslate_2 hd _ _ _ _ _ _ _ _ (jg1_ne rfl hl0) (jg1_ne rfl hl1) (jg1_pre (by first | rfl | exact rv_cat _) hl2) jg1_same h
set_option maxRecDepth 10000 in
set_option maxHeartbeats 4000000 in
theorem r_B_canTranslate {N B : Nat} {SA : Nat → Nat} {d : Nat} (hd : 5 ≤ d) : ∀ (v0 : Nat) (v1 : Option Nat) (v2 : Option Nat) (μ : JMem) (r : Bool), g_B_canTranslate N v0 v1 v2 μ.1 = some r → jR B SA d m_B_canTranslate 0 (lv_args 0 [.ref v0, rv v1, rv v2]) [] μ (some (.int (jb r))) μ := by
  intro v0 v1 v2 μ r h
  exact r_B_canTranslate_e hd (lv_args 0 _) _ _ _ _ _ (by simp [lv_args, jget, rv_cat, cat_int, cat_long, cat_double, cat_float, cat_ref]) (by simp [lv_args, jget, rv_cat, cat_int, cat_long, cat_double, cat_float, cat_ref]) (by simp [lv_args, jget, rv_cat, cat_int, cat_long, cat_double, cat_float, cat_ref]) h
/-! FilterBench.canRemake(LFilterBench$Chain;LFilterBench$Numbers;)Z -/
set_option maxRecDepth 10000 in
set_option maxHeartbeats 4000000 in
theorem r_B_canRemake_76 {N B : Nat} {SA : Nat → Nat} {d : Nat} (hd : 6 ≤ d) : ∀ (L : JLoc) (v0 : Nat) (v3 : Int32) (v4 : Int32) (μ : JMem) (r : Bool) (μ9 : JMem), jget L 0 = .ref v0 → jget L 3 = .int v3 → jget L 4 = .int v4 → g_B_canRemake_76 N B v0 v3 v4 μ = some (r, μ9) → jR B SA d m_B_canRemake 76 L [] μ (some (.int (jb r))) μ9 := by
  intro L v0 v3 v4 μ r μ9 hl0 hl3 hl4 h
  unfold g_B_canRemake_76 at h
  refine jr_aload_n jf_178_76 rfl hl0 ?_
  replace h := obd_of h; obtain ⟨x1, hx1, h⟩ := h
  refine jr_getI jf_178_77 hx1 ?_
  refine jr_iload jf_178_80 hl4 ?_
  refine jr_iadd jf_178_82 ?_
  refine jr_bipush jf_178_83 jc_b_60 ?_
  replace h := ite_or h; rcases h with ⟨hc, h⟩ | ⟨hc, h⟩
  · refine jr_if2_gt_t jf_178_85 hc ?_
    refine jr_iconst jf_178_103 jc_i_0 ?_
    obtain ⟨rfl, rfl⟩ := Prod.mk.inj (Option.some.inj h)
    exact jr_retZ (x := false) jf_178_104 jmt_178
  · refine jr_if2_gt_f jf_178_85 hc ?_
    refine jr_aload_n jf_178_88 rfl hl0 ?_
    replace h := obd_of h; obtain ⟨x2, hx2, h⟩ := h
    refine jr_getI jf_178_89 hx2 ?_
    refine jr_iload_n jf_178_92 rfl hl3 ?_
    refine jr_iadd jf_178_93 ?_
    refine jr_bipush jf_178_94 jc_b_20 ?_
    replace h := ite_or h; rcases h with ⟨hc, h⟩ | ⟨hc, h⟩
    · refine jr_if2_gt_t jf_178_96 hc ?_
      refine jr_iconst jf_178_103 jc_i_0 ?_
      obtain ⟨rfl, rfl⟩ := Prod.mk.inj (Option.some.inj h)
      exact jr_retZ (x := false) jf_178_104 jmt_178
    · refine jr_if2_gt_f jf_178_96 hc ?_
      refine jr_iconst jf_178_99 jc_i_1 ?_
      refine jr_goto jf_178_100 ?_
      obtain ⟨rfl, rfl⟩ := Prod.mk.inj (Option.some.inj h)
      exact jr_retZ (x := true) jf_178_104 jmt_178
set_option maxRecDepth 10000 in
set_option maxHeartbeats 4000000 in
theorem r_B_canRemake_12 {N B : Nat} {SA : Nat → Nat} {d : Nat} (hd : 6 ≤ d) : ∀ (n : Nat), ∀ (L : JLoc) (v0 : Nat) (v2 : Option Nat) (v3 : Int32) (v4 : Int32) (v5 : Int32) (μ : JMem) (r : Bool) (μ9 : JMem), jget L 0 = .ref v0 → jget L 2 = rv v2 → jget L 3 = .int v3 → jget L 4 = .int v4 → jget L 5 = .int v5 → g_B_canRemake_12 N B n v0 v2 v3 v4 v5 μ = some (r, μ9) → jR B SA d m_B_canRemake 12 L [] μ (some (.int (jb r))) μ9 := by
  intro n
  induction n with
  | zero =>
    intro L v0 v2 v3 v4 v5 μ r μ9 hl0 hl2 hl3 hl4 hl5 h
    unfold g_B_canRemake_12 at h
    cases h
  | succ n ih =>
    intro L v0 v2 v3 v4 v5 μ r μ9 hl0 hl2 hl3 hl4 hl5 h
    unfold g_B_canRemake_12 at h
    refine jr_iload jf_178_12 hl5 ?_
    refine jr_iload_n jf_178_14 rfl hl3 ?_
    replace h := ite_or h; rcases h with ⟨hc, h⟩ | ⟨hc, h⟩
    · refine jr_if2_ge_t jf_178_15 hc ?_
      exact r_B_canRemake_76 hd _ _ _ _ _ _ _ hl0 hl3 hl4 h
    · refine jr_if2_ge_f jf_178_15 hc ?_
      refine jr_iload jf_178_18 hl5 ?_
      refine jr_aload_n jf_178_20 rfl hl0 ?_
      replace h := obd_of h; obtain ⟨x1, hx1, h⟩ := h
      refine jr_getA jf_178_21 hx1 ?_
      replace h := obd_of h; obtain ⟨a2, rfl, h⟩ := h
      replace h := obd_of h; obtain ⟨x3, hx3, h⟩ := h
      refine jr_arraylength jf_178_24 hx3 ?_
      replace h := ite_or h; rcases h with ⟨hc, h⟩ | ⟨hc, h⟩
      · refine jr_if2_ge_t jf_178_25 hc ?_
        exact r_B_canRemake_76 hd _ _ _ _ _ _ _ hl0 hl3 hl4 h
      · refine jr_if2_ge_f jf_178_25 hc ?_
        refine jr_aload_n jf_178_28 rfl hl0 ?_
        replace h := obd_of h; obtain ⟨x4, hx4, h⟩ := h
        refine jr_getA jf_178_29 hx4 ?_
        refine jr_iload jf_178_32 hl5 ?_
        replace h := obd_of h; obtain ⟨a5, rfl, h⟩ := h
        replace h := obd_of h; obtain ⟨x6, hx6, h⟩ := h
        refine jr_aaload jf_178_34 hx6 ?_
        replace h := jon_or h; rcases h with ⟨rfl, h⟩ | ⟨a7, rfl, h⟩
        · refine jr_ifnull_n jf_178_35 ?_
          refine jr_iconst jf_178_53 jc_i_0 ?_
          obtain ⟨rfl, rfl⟩ := Prod.mk.inj (Option.some.inj h)
          exact jr_retZ (x := false) jf_178_54 jmt_178
        · refine jr_ifnull_s jf_178_35 ?_
          refine jr_aload_n jf_178_38 rfl hl0 ?_
          refine jr_aload_n jf_178_39 rfl hl0 ?_
          replace h := obd_of h; obtain ⟨x8, hx8, h⟩ := h
          refine jr_getA jf_178_40 hx8 ?_
          refine jr_iload jf_178_43 hl5 ?_
          replace h := obd_of h; obtain ⟨a9, rfl, h⟩ := h
          replace h := obd_of h; obtain ⟨x10, hx10, h⟩ := h
          refine jr_aaload jf_178_45 hx10 ?_
          refine jr_aload_n_A jf_178_46 rfl hl2 ?_
          replace h := jgd_of h; obtain ⟨hb11, h⟩ := h
          replace h := obd_of h; obtain ⟨x12, hx12, h⟩ := h
          refine jr_V6_2 jf_178_47 hb11 (by omega) (r_B_canTranslate (by omega) _ _ _ _ _ hx12) (Nat.le_of_ble_eq_true rfl) jml_179 (by simp only [jcats_cons, jcats_nil, cat_int, cat_long, cat_double, cat_float, cat_ref, rv_cat]; decide) ?_
          replace h := ite_or h; rcases h with ⟨hc, h⟩ | ⟨hc, h⟩
          · refine jr_ifz_ne_t jf_178_50 hc ?_
            refine jr_iload jf_178_55 hl4 ?_
            refine jr_aload_n jf_178_57 rfl hl0 ?_
            replace h := obd_of h; obtain ⟨x13, hx13, h⟩ := h
            refine jr_getA jf_178_58 hx13 ?_
            refine jr_iload jf_178_61 hl5 ?_
            replace h := obd_of h; obtain ⟨a14, rfl, h⟩ := h
            replace h := obd_of h; obtain ⟨x15, hx15, h⟩ := h
            refine jr_aaload jf_178_63 hx15 ?_
            replace h := obd_of h; obtain ⟨a16, rfl, h⟩ := h
            replace h := obd_of h; obtain ⟨x17, hx17, h⟩ := h
            refine jr_getI jf_178_64 hx17 ?_
            refine jr_iadd jf_178_67 ?_
            refine jr_istore jf_178_68 jml_178 (by decide) ?_
            refine jr_iinc jf_178_70 jc_i_1 jml_178 (by decide) (jg1_ne rfl hl5) ?_
            refine jr_goto jf_178_73 ?_
            exact ih _ _ _ _ _ _ _ _ _ (jg1_ne rfl (jg1_ne rfl hl0)) (jg1_ne rfl (jg1_ne rfl hl2)) (jg1_ne rfl (jg1_pre rfl hl3)) (jg1_pre rfl jg1_same) jg1_same h
          · refine jr_ifz_ne_f jf_178_50 hc ?_
            refine jr_iconst jf_178_53 jc_i_0 ?_
            obtain ⟨rfl, rfl⟩ := Prod.mk.inj (Option.some.inj h)
            exact jr_retZ (x := false) jf_178_54 jmt_178
set_option maxRecDepth 10000 in
set_option maxHeartbeats 4000000 in
theorem r_B_canRemake_e {N B : Nat} {SA : Nat → Nat} {d : Nat} (hd : 6 ≤ d) : ∀ (L : JLoc) (v0 : Nat) (v1 : Option Nat) (v2 : Option Nat) (μ : JMem) (r : Bool) (μ9 : JMem), jget L 0 = .ref v0 → jget L 1 = rv v1 → jget L 2 = rv v2 → g_B_canRemake N B v0 v1 v2 μ = some (r, μ9) → jR B SA d m_B_canRemake 0 L [] μ (some (.int (jb r))) μ9 := by
  intro L v0 v1 v2 μ r μ9 hl0 hl1 hl2 h
  unfold g_B_canRemake at h
  refine jr_aload_n jf_178_0 rfl hl0 ?_
  refine jr_aload_n_A jf_178_1 rfl hl1 ?_
  replace h := jgd_of h; obtain ⟨hb1, h⟩ := h
  replace h := jbd2_of h; obtain ⟨x2, μ3, hx2, h⟩ := h
  refine jr_V6_1 jf_178_2 hb1 (by omega) (r_B_gather (by omega) _ _ _ _ _ hx2) (Nat.le_of_ble_eq_true rfl) jml_126 (by simp only [jcats_cons, jcats_nil, cat_int, cat_long, cat_double, cat_float, cat_ref, rv_cat]; decide) ?_
  refine jr_istore_n jf_178_5 rfl jml_178 (by decide) ?_
  refine jr_iconst jf_178_6 jc_i_0 ?_
  refine jr_istore jf_178_7 jml_178 (by decide) ?_
  refine jr_iconst jf_178_9 jc_i_0 ?_
  refine jr_istore jf_178_10 jml_178 (by decide) ?_
  exact r_B_canRemake_12 hd _ _ _ _ _ _ _ _ _ _ (jg1_ne rfl (jg1_ne rfl (jg1_ne rfl hl0))) (jg1_ne rfl (jg1_ne rfl (jg1_pre (by first | rfl | exact rv_cat _) hl2))) (jg1_ne rfl (jg1_pre rfl jg1_same)) (jg1_pre rfl jg1_same) jg1_same h
set_option maxRecDepth 10000 in
set_option maxHeartbeats 4000000 in
theorem r_B_canRemake {N B : Nat} {SA : Nat → Nat} {d : Nat} (hd : 6 ≤ d) : ∀ (v0 : Nat) (v1 : Option Nat) (v2 : Option Nat) (μ : JMem) (r : Bool) (μ9 : JMem), g_B_canRemake N B v0 v1 v2 μ = some (r, μ9) → jR B SA d m_B_canRemake 0 (lv_args 0 [.ref v0, rv v1, rv v2]) [] μ (some (.int (jb r))) μ9 := by
  intro v0 v1 v2 μ r μ9 h
  exact r_B_canRemake_e hd (lv_args 0 _) _ _ _ _ _ _ (by simp [lv_args, jget, rv_cat, cat_int, cat_long, cat_double, cat_float, cat_ref]) (by simp [lv_args, jget, rv_cat, cat_int, cat_long, cat_double, cat_float, cat_ref]) (by simp [lv_args, jget, rv_cat, cat_int, cat_long, cat_double, cat_float, cat_ref]) h
/-! FilterBench.remadeSection(LFilterBench$Section;ILFilterBench$Numbers;)LFilterBench$Section; -/
set_option maxRecDepth 10000 in
set_option maxHeartbeats 4000000 in
theorem r_B_remadeSection_26 {N B : Nat} {SA : Nat → Nat} {d : Nat} (hd : 5 ≤ d) : ∀ (n : Nat), ∀ (L : JLoc) (v0 : Nat) (v1 : Nat) (v2 : Int32) (v3 : Option Nat) (v4 : Nat) (v5 : Int32) (μ : JMem) (r : Option Nat) (μ9 : JMem), jget L 0 = .ref v0 → jget L 1 = .ref v1 → jget L 2 = .int v2 → jget L 3 = rv v3 → jget L 4 = .ref v4 → jget L 5 = .int v5 → g_B_remadeSection_26 N B SA n v0 v1 v2 v3 v4 v5 μ = some (r, μ9) → jR B SA d m_B_remadeSection 26 L [] μ (some (rv r)) μ9 := by
  intro n
  induction n with
  | zero =>
    intro L v0 v1 v2 v3 v4 v5 μ r μ9 hl0 hl1 hl2 hl3 hl4 hl5 h
    unfold g_B_remadeSection_26 at h
    cases h
  | succ n ih =>
    intro L v0 v1 v2 v3 v4 v5 μ r μ9 hl0 hl1 hl2 hl3 hl4 hl5 h
    unfold g_B_remadeSection_26 at h
    refine jr_iload jf_185_26 hl5 ?_
    refine jr_aload_n jf_185_28 rfl hl1 ?_
    replace h := jgd_of h; obtain ⟨hb1, h⟩ := h
    replace h := obd_of h; obtain ⟨x2, hx2, h⟩ := h
    refine jr_V6_0 jf_185_29 hb1 (by omega) (r_Section_factorCount (by omega) _ _ _ hx2) (Nat.le_of_ble_eq_true rfl) jml_180 (Nat.le_of_ble_eq_true rfl) ?_
    replace h := ite_or h; rcases h with ⟨hc, h⟩ | ⟨hc, h⟩
    · refine jr_if2_ge_t jf_185_32 hc ?_
      refine jr_aload_n jf_185_67 rfl hl1 ?_
      replace h := obd_of h; obtain ⟨x3, hx3, h⟩ := h
      refine jr_getI jf_185_68 hx3 ?_
      refine jr_iconst jf_185_71 jc_i_2 ?_
      replace h := ite_or h; rcases h with ⟨hc, h⟩ | ⟨hc, h⟩
      · refine jr_if2_ne_f jf_185_72 hc ?_
        refine jr_iload_n jf_185_75 rfl hl2 ?_
        refine jr_iconst jf_185_76 jc_i_2 ?_
        replace h := ite_or h; rcases h with ⟨hc, h⟩ | ⟨hc, h⟩
        · refine jr_if2_ne_f jf_185_77 hc ?_
          refine jr_aload jf_185_80 hl4 ?_
          refine jr_aload_n jf_185_82 rfl hl1 ?_
          replace h := obd_of h; obtain ⟨x4, hx4, h⟩ := h
          refine jr_getI jf_185_83 hx4 ?_
          replace h := obd_of h; obtain ⟨μ5, hμ5, h⟩ := h
          refine jr_putI jf_185_86 rfl hμ5 ?_
          refine jr_aload jf_185_89 hl4 ?_
          refine jr_aload_n jf_185_91 rfl hl1 ?_
          replace h := obd_of h; obtain ⟨x6, hx6, h⟩ := h
          refine jr_getI jf_185_92 hx6 ?_
          replace h := obd_of h; obtain ⟨μ7, hμ7, h⟩ := h
          refine jr_putI jf_185_95 rfl hμ7 ?_
          refine jr_aload jf_185_98 hl4 ?_
          obtain ⟨rfl, rfl⟩ := Prod.mk.inj (Option.some.inj h)
          exact jr_retA (x := some _) jf_185_100 jmt_185
        · refine jr_if2_ne_t jf_185_77 hc ?_
          refine jr_aload jf_185_98 hl4 ?_
          obtain ⟨rfl, rfl⟩ := Prod.mk.inj (Option.some.inj h)
          exact jr_retA (x := some _) jf_185_100 jmt_185
      · refine jr_if2_ne_t jf_185_72 hc ?_
        refine jr_aload jf_185_98 hl4 ?_
        obtain ⟨rfl, rfl⟩ := Prod.mk.inj (Option.some.inj h)
        exact jr_retA (x := some _) jf_185_100 jmt_185
    · refine jr_if2_ge_f jf_185_32 hc ?_
      refine jr_aload jf_185_35 hl4 ?_
      refine jr_iload jf_185_37 hl5 ?_
      refine jr_aload_n jf_185_39 rfl hl0 ?_
      refine jr_aload_n jf_185_40 rfl hl1 ?_
      replace h := obd_of h; obtain ⟨x8, hx8, h⟩ := h
      refine jr_getA jf_185_41 hx8 ?_
      refine jr_aload_n jf_185_44 rfl hl1 ?_
      refine jr_iload jf_185_45 hl5 ?_
      replace h := jgd_of h; obtain ⟨hb9, h⟩ := h
      replace h := obd_of h; obtain ⟨x10, hx10, h⟩ := h
      refine jr_V6_1 jf_185_47 hb9 (by omega) (r_Section_factor (by omega) _ _ _ _ hx10) (by simp only [jcats_cons, jcats_nil, cat_int, cat_long, cat_double, cat_float, cat_ref, rv_cat]; decide) jml_43 (Nat.le_of_ble_eq_true rfl) ?_
      refine jr_aload_n jf_185_50 rfl hl1 ?_
      replace h := jgd_of h; obtain ⟨hb11, h⟩ := h
      replace h := obd_of h; obtain ⟨x12, hx12, h⟩ := h
      refine jr_V6_0 jf_185_51 hb11 (by omega) (r_Section_takesWhole (by omega) _ _ _ hx12) (by simp only [jcats_cons, jcats_nil, cat_int, cat_long, cat_double, cat_float, cat_ref, rv_cat]; decide) jml_22 (Nat.le_of_ble_eq_true rfl) ?_
      refine jr_aload_n_A jf_185_54 rfl hl3 ?_
      replace h := jgd_of h; obtain ⟨hb13, h⟩ := h
      replace h := obd_of h; obtain ⟨x14, hx14, h⟩ := h
      refine jr_V6_4 jf_185_55 hb13 (by omega) (r_B_translated (by omega) _ _ _ _ _ _ _ hx14) (Nat.le_of_ble_eq_true rfl) jml_181 (by simp only [jcats_cons, jcats_nil, cat_int, cat_long, cat_double, cat_float, cat_ref, rv_cat]; decide) ?_
      replace h := jgd_of h; obtain ⟨hb15, h⟩ := h
      replace h := obd_of h; obtain ⟨μ16, hμ16, h⟩ := h
      refine jr_V6v_2 jf_185_58 hb15 (by omega) (r_Section_setFactor (by omega) _ _ _ _ _ hμ16) (Nat.le_of_ble_eq_true rfl) jml_20 (Nat.le_of_ble_eq_true rfl) ?_
      refine jr_iinc jf_185_61 jc_i_1 jml_185 (by decide) hl5 ?_
      refine jr_goto jf_185_64 ?_
      exact ih _ _ _ _ _ _ _ _ _ _ (jg1_ne rfl hl0) (jg1_ne rfl hl1) (jg1_ne rfl hl2) (jg1_ne rfl hl3) (jg1_pre (by first | rfl | exact rv_cat _) hl4) jg1_same h
set_option maxRecDepth 10000 in
set_option maxHeartbeats 4000000 in
theorem r_B_remadeSection_e {N B : Nat} {SA : Nat → Nat} {d : Nat} (hd : 5 ≤ d) : ∀ (L : JLoc) (v0 : Nat) (v1 : Option Nat) (v2 : Int32) (v3 : Option Nat) (μ : JMem) (r : Option Nat) (μ9 : JMem), jget L 0 = .ref v0 → jget L 1 = rv v1 → jget L 2 = .int v2 → jget L 3 = rv v3 → g_B_remadeSection N B SA v0 v1 v2 v3 μ = some (r, μ9) → jR B SA d m_B_remadeSection 0 L [] μ (some (rv r)) μ9 := by
  intro L v0 v1 v2 v3 μ r μ9 hl0 hl1 hl2 hl3 h
  unfold g_B_remadeSection at h
  refine jr_aload_n jf_185_0 rfl hl0 ?_
  refine jr_aload_n_A jf_185_1 rfl hl1 ?_
  replace h := obd_of h; obtain ⟨a1, rfl, h⟩ := h
  replace h := obd_of h; obtain ⟨x2, hx2, h⟩ := h
  refine jr_getI jf_185_2 hx2 ?_
  refine jr_iload_n jf_185_5 rfl hl2 ?_
  refine jr_aload_n jf_185_6 rfl hl1 ?_
  replace h := obd_of h; obtain ⟨x3, hx3, h⟩ := h
  refine jr_getI jf_185_7 hx3 ?_
  refine jr_aload_n_A jf_185_10 rfl hl3 ?_
  replace h := jgd_of h; obtain ⟨hb4, h⟩ := h
  replace h := jbd2_of h; obtain ⟨x5, μ6, hx5, h⟩ := h
  refine jr_V6_4 jf_185_11 hb4 (by omega) (r_B_newSection (by omega) _ _ _ _ _ _ _ _ hx5) (Nat.le_of_ble_eq_true rfl) jml_9 (by simp only [jcats_cons, jcats_nil, cat_int, cat_long, cat_double, cat_float, cat_ref, rv_cat]; decide) ?_
  refine jr_astore_A jf_185_14 jml_185 (by decide) ?_
  refine jr_aload_A jf_185_16 jg1_same ?_
  replace h := jon_or h; rcases h with ⟨rfl, h⟩ | ⟨a7, rfl, h⟩
  · refine jr_ifnonnull_n jf_185_18 ?_
    refine jr_aconst_null jf_185_21 ?_
    obtain ⟨rfl, rfl⟩ := Prod.mk.inj (Option.some.inj h)
    exact jr_retA jf_185_22 jmt_185
  · refine jr_ifnonnull_s jf_185_18 ?_
    refine jr_iconst jf_185_23 jc_i_0 ?_
    refine jr_istore jf_185_24 jml_185 (by decide) ?_
    exact r_B_remadeSection_26 hd _ _ _ _ _ _ _ _ _ _ _ (jg1_ne rfl (jg1_ne rfl hl0)) (jg1_ne rfl (jg1_ne rfl hl1)) (jg1_ne rfl (jg1_ne rfl hl2)) (jg1_ne rfl (jg1_pre (by first | rfl | exact rv_cat _) hl3)) (jg1_pre (by first | rfl | exact rv_cat _) jg1_same) jg1_same h
set_option maxRecDepth 10000 in
set_option maxHeartbeats 4000000 in
theorem r_B_remadeSection {N B : Nat} {SA : Nat → Nat} {d : Nat} (hd : 5 ≤ d) : ∀ (v0 : Nat) (v1 : Option Nat) (v2 : Int32) (v3 : Option Nat) (μ : JMem) (r : Option Nat) (μ9 : JMem), g_B_remadeSection N B SA v0 v1 v2 v3 μ = some (r, μ9) → jR B SA d m_B_remadeSection 0 (lv_args 0 [.ref v0, rv v1, .int v2, rv v3]) [] μ (some (rv r)) μ9 := by
  intro v0 v1 v2 v3 μ r μ9 h
  exact r_B_remadeSection_e hd (lv_args 0 _) _ _ _ _ _ _ _ (by simp [lv_args, jget, rv_cat, cat_int, cat_long, cat_double, cat_float, cat_ref]) (by simp [lv_args, jget, rv_cat, cat_int, cat_long, cat_double, cat_float, cat_ref]) (by simp [lv_args, jget, rv_cat, cat_int, cat_long, cat_double, cat_float, cat_ref]) (by simp [lv_args, jget, rv_cat, cat_int, cat_long, cat_double, cat_float, cat_ref]) h
/-! FilterBench.remakeLoops(LFilterBench$Chain;LFilterBench$Chain;LFilterBench$Numbers;)V -/
set_option maxRecDepth 10000 in
set_option maxHeartbeats 4000000 in
theorem r_B_remakeLoops_82 {N B : Nat} {SA : Nat → Nat} {d : Nat} (hd : 5 ≤ d) {k13 : Nat → Nat → Option Nat → Option Nat → Option Nat → Int32 → JMem → Option JMem} (i13 : ∀ (L : JLoc) (v0 : Nat) (v1 : Nat) (v2 : Option Nat) (v3 : Option Nat) (v4 : Option Nat) (v5 : Int32) (μ : JMem) (μ9 : JMem), jget L 0 = .ref v0 → jget L 1 = .ref v1 → jget L 2 = rv v2 → jget L 3 = rv v3 → jget L 4 = rv v4 → jget L 5 = .int v5 → k13 v0 v1 v2 v3 v4 v5 μ = some μ9 → jR B SA d m_B_remakeLoops 13 L [] μ none μ9) : ∀ (L : JLoc) (v0 : Nat) (v1 : Nat) (v2 : Option Nat) (v3 : Option Nat) (v4 : Option Nat) (v5 : Int32) (μ : JMem) (μ9 : JMem), jget L 0 = .ref v0 → jget L 1 = .ref v1 → jget L 2 = rv v2 → jget L 3 = rv v3 → jget L 4 = rv v4 → jget L 5 = .int v5 → g_B_remakeLoops_82 N B k13 v0 v1 v2 v3 v4 v5 μ = some μ9 → jR B SA d m_B_remakeLoops 82 L [] μ none μ9 := by
  intro L v0 v1 v2 v3 v4 v5 μ μ9 hl0 hl1 hl2 hl3 hl4 hl5 h
  unfold g_B_remakeLoops_82 at h
  refine jr_iinc jf_186_82 jc_i_1 jml_186 (by decide) hl5 ?_
  refine jr_goto jf_186_85 ?_
  exact i13 _ _ _ _ _ _ _ _ _ (jg1_ne rfl hl0) (jg1_ne rfl hl1) (jg1_ne rfl hl2) (jg1_ne rfl hl3) (jg1_pre (by first | rfl | exact rv_cat _) hl4) jg1_same h
set_option maxRecDepth 10000 in
set_option maxHeartbeats 4000000 in
theorem r_B_remakeLoops_13 {N B : Nat} {SA : Nat → Nat} {d : Nat} (hd : 5 ≤ d) : ∀ (n : Nat), ∀ (L : JLoc) (v0 : Nat) (v1 : Nat) (v2 : Option Nat) (v3 : Option Nat) (v4 : Option Nat) (v5 : Int32) (μ : JMem) (μ9 : JMem), jget L 0 = .ref v0 → jget L 1 = .ref v1 → jget L 2 = rv v2 → jget L 3 = rv v3 → jget L 4 = rv v4 → jget L 5 = .int v5 → g_B_remakeLoops_13 N B n v0 v1 v2 v3 v4 v5 μ = some μ9 → jR B SA d m_B_remakeLoops 13 L [] μ none μ9 := by
  intro n
  induction n with
  | zero =>
    intro L v0 v1 v2 v3 v4 v5 μ μ9 hl0 hl1 hl2 hl3 hl4 hl5 h
    unfold g_B_remakeLoops_13 at h
    cases h
  | succ n ih =>
    intro L v0 v1 v2 v3 v4 v5 μ μ9 hl0 hl1 hl2 hl3 hl4 hl5 h
    unfold g_B_remakeLoops_13 at h
    refine jr_iload jf_186_13 hl5 ?_
    refine jr_aload_n jf_186_15 rfl hl1 ?_
    replace h := obd_of h; obtain ⟨x1, hx1, h⟩ := h
    refine jr_getI jf_186_16 hx1 ?_
    replace h := ite_or h; rcases h with ⟨hc, h⟩ | ⟨hc, h⟩
    · refine jr_if2_ge_t jf_186_19 hc ?_
      obtain rfl := Option.some.inj h
      exact jr_return jf_186_88 jmt_186
    · refine jr_if2_ge_f jf_186_19 hc ?_
      refine jr_aload_n jf_186_22 rfl hl1 ?_
      refine jr_iload jf_186_23 hl5 ?_
      replace h := jgd_of h; obtain ⟨hb2, h⟩ := h
      replace h := obd_of h; obtain ⟨x3, hx3, h⟩ := h
      refine jr_V6_1 jf_186_25 hb2 (by omega) (r_Chain_loopAt (by omega) _ _ _ _ hx3) (Nat.le_of_ble_eq_true rfl) jml_68 (Nat.le_of_ble_eq_true rfl) ?_
      refine jr_astore_A jf_186_28 jml_186 (by decide) ?_
      refine jr_aload_A jf_186_30 (jg1_ne rfl hl4) ?_
      replace h := jon_or h; rcases h with ⟨rfl, h⟩ | ⟨a4, rfl, h⟩
      · refine jr_ifnull_n jf_186_32 ?_
        exact r_B_remakeLoops_82 hd ih _ _ _ _ _ _ _ _ _ (jg1_ne rfl hl0) (jg1_ne rfl hl1) (jg1_ne rfl hl2) (jg1_ne rfl hl3) (jg1_ne rfl hl4) (jg1_pre rfl hl5) h
      · refine jr_ifnull_s jf_186_32 ?_
        refine jr_aload_A jf_186_35 jg1_same ?_
        replace h := jon_or h; rcases h with ⟨rfl, h⟩ | ⟨a5, rfl, h⟩
        · refine jr_ifnull_n jf_186_37 ?_
          exact r_B_remakeLoops_82 hd ih _ _ _ _ _ (some _) _ _ _ (jg1_ne rfl hl0) (jg1_ne rfl hl1) (jg1_ne rfl hl2) (jg1_ne rfl hl3) (jg1_ne rfl hl4) (jg1_pre rfl hl5) h
        · refine jr_ifnull_s jf_186_37 ?_
          refine jr_aload_n_A jf_186_40 rfl (jg1_ne rfl hl2) ?_
          replace h := jnew_of h
          refine jr_new jf_186_41 ?_
          refine jr_dup jf_186_44 rfl ?_
          refine jr_aload jf_186_45 jg1_same ?_
          replace h := obd_of h; obtain ⟨x8, hx8, h⟩ := h
          refine jr_getI jf_186_47 hx8 ?_
          refine jr_aload jf_186_50 jg1_same ?_
          replace h := obd_of h; obtain ⟨x9, hx9, h⟩ := h
          refine jr_getI jf_186_52 hx9 ?_
          refine jr_aload jf_186_55 jg1_same ?_
          replace h := obd_of h; obtain ⟨x10, hx10, h⟩ := h
          refine jr_getA jf_186_57 hx10 ?_
          replace h := obd_of h; obtain ⟨a11, rfl, h⟩ := h
          replace h := jgd_of h; obtain ⟨hb12, h⟩ := h
          replace h := obd_of h; obtain ⟨x13, hx13, h⟩ := h
          refine jr_V6_0 jf_186_60 hb12 (by omega) (r_Row_size (by omega) _ _ _ hx13) (by simp only [jcats_cons, jcats_nil, cat_int, cat_long, cat_double, cat_float, cat_ref, rv_cat]; decide) jml_100 (Nat.le_of_ble_eq_true rfl) ?_
          refine jr_aload_n jf_186_63 rfl (jg1_ne rfl hl0) ?_
          refine jr_aload jf_186_64 (jg1_ne rfl hl4) ?_
          refine jr_aload jf_186_66 jg1_same ?_
          replace h := obd_of h; obtain ⟨x14, hx14, h⟩ := h
          refine jr_getJ jf_186_68 hx14 ?_
          refine jr_iconst jf_186_71 jc_i_0 ?_
          refine jr_aload_n_A jf_186_72 rfl (jg1_ne rfl hl3) ?_
          replace h := jgd_of h; obtain ⟨hb15, h⟩ := h
          replace h := obd_of h; obtain ⟨x16, hx16, h⟩ := h
          refine jr_V6_4 jf_186_73 hb15 (by omega) (r_B_translated (by omega) _ _ _ _ _ _ _ hx16) (by simp only [jcats_cons, jcats_nil, cat_int, cat_long, cat_double, cat_float, cat_ref, rv_cat]; decide) jml_181 (by simp only [jcats_cons, jcats_nil, cat_int, cat_long, cat_double, cat_float, cat_ref, rv_cat]; decide) ?_
          replace h := obd_of h; obtain ⟨μ17, hμ17, h⟩ := h
          refine jr_P1v_4 jf_186_76 (by omega) (r_Loop_init (by omega) _ _ _ _ _ _ _ hμ17) (by simp only [jcats_cons, jcats_nil, cat_int, cat_long, cat_double, cat_float, cat_ref, rv_cat]; decide) jml_57 (Nat.le_of_ble_eq_true rfl) ?_
          replace h := obd_of h; obtain ⟨a18, rfl, h⟩ := h
          replace h := jgd_of h; obtain ⟨hb19, h⟩ := h
          replace h := obd_of h; obtain ⟨μ20, hμ20, h⟩ := h
          refine jr_V6v_1 jf_186_79 hb19 (by omega) (r_Chain_tie (by omega) _ _ _ _ hμ20) (Nat.le_of_ble_eq_true rfl) jml_58 (by simp only [jcats_cons, jcats_nil, cat_int, cat_long, cat_double, cat_float, cat_ref, rv_cat]; decide) ?_
          exact r_B_remakeLoops_82 hd ih _ _ _ (some _) _ (some _) _ _ _ (jg1_ne rfl hl0) (jg1_ne rfl hl1) (jg1_ne rfl hl2) (jg1_ne rfl hl3) (jg1_ne rfl hl4) (jg1_pre rfl hl5) h
set_option maxRecDepth 10000 in
set_option maxHeartbeats 4000000 in
theorem r_B_remakeLoops_e {N B : Nat} {SA : Nat → Nat} {d : Nat} (hd : 5 ≤ d) : ∀ (L : JLoc) (v0 : Nat) (v1 : Option Nat) (v2 : Option Nat) (v3 : Option Nat) (μ : JMem) (μ9 : JMem), jget L 0 = .ref v0 → jget L 1 = rv v1 → jget L 2 = rv v2 → jget L 3 = rv v3 → g_B_remakeLoops N B v0 v1 v2 v3 μ = some μ9 → jR B SA d m_B_remakeLoops 0 L [] μ none μ9 := by
  intro L v0 v1 v2 v3 μ μ9 hl0 hl1 hl2 hl3 h
  unfold g_B_remakeLoops at h
  refine jr_aload_n jf_186_0 rfl hl0 ?_
  refine jr_aload_n_A jf_186_1 rfl hl1 ?_
  replace h := obd_of h; obtain ⟨a1, rfl, h⟩ := h
  replace h := jgd_of h; obtain ⟨hb2, h⟩ := h
  replace h := obd_of h; obtain ⟨x3, hx3, h⟩ := h
  refine jr_V6_0 jf_186_2 hb2 (by omega) (r_Chain_sort (by omega) _ _ _ hx3) (Nat.le_of_ble_eq_true rfl) jml_49 (Nat.le_of_ble_eq_true rfl) ?_
  replace h := jgd_of h; obtain ⟨hb4, h⟩ := h
  replace h := obd_of h; obtain ⟨x5, hx5, h⟩ := h
  refine jr_V6_1 jf_186_5 hb4 (by omega) (r_B_numbersOf (by omega) _ _ _ _ hx5) (Nat.le_of_ble_eq_true rfl) jml_6 (Nat.le_of_ble_eq_true rfl) ?_
  refine jr_astore_A jf_186_8 jml_186 (by decide) ?_
  refine jr_iconst jf_186_10 jc_i_0 ?_
  refine jr_istore jf_186_11 jml_186 (by decide) ?_
  exact r_B_remakeLoops_13 hd _ _ _ _ _ _ _ _ _ _ (jg1_ne rfl (jg1_ne rfl hl0)) (jg1_ne rfl (jg1_ne rfl hl1)) (jg1_ne rfl (jg1_ne rfl hl2)) (jg1_ne rfl (jg1_pre (by first | rfl | exact rv_cat _) hl3)) (jg1_pre (by first | rfl | exact rv_cat _) jg1_same) jg1_same h
set_option maxRecDepth 10000 in
set_option maxHeartbeats 4000000 in
theorem r_B_remakeLoops {N B : Nat} {SA : Nat → Nat} {d : Nat} (hd : 5 ≤ d) : ∀ (v0 : Nat) (v1 : Option Nat) (v2 : Option Nat) (v3 : Option Nat) (μ : JMem) (μ9 : JMem), g_B_remakeLoops N B v0 v1 v2 v3 μ = some μ9 → jR B SA d m_B_remakeLoops 0 (lv_args 0 [.ref v0, rv v1, rv v2, rv v3]) [] μ none μ9 := by
  intro v0 v1 v2 v3 μ μ9 h
  exact r_B_remakeLoops_e hd (lv_args 0 _) _ _ _ _ _ _ (by simp [lv_args, jget, rv_cat, cat_int, cat_long, cat_double, cat_float, cat_ref]) (by simp [lv_args, jget, rv_cat, cat_int, cat_long, cat_double, cat_float, cat_ref]) (by simp [lv_args, jget, rv_cat, cat_int, cat_long, cat_double, cat_float, cat_ref]) (by simp [lv_args, jget, rv_cat, cat_int, cat_long, cat_double, cat_float, cat_ref]) h
/-! FilterBench.remade(LFilterBench$Chain;ILFilterBench$Numbers;I)LFilterBench$Chain; -/
set_option maxRecDepth 10000 in
set_option maxHeartbeats 4000000 in
theorem r_B_remade_117 {N B : Nat} {SA : Nat → Nat} {d : Nat} (hd : 6 ≤ d) {kS : Nat → Option Nat → Int32 → Option Nat → Int32 → JMem → Option (Option Nat × JMem)} (iS : ∀ (v0 : Nat) (v1 : Option Nat) (v2 : Int32) (v3 : Option Nat) (v4 : Int32) (μ : JMem) (r : Option Nat) (μ9 : JMem), kS v0 v1 v2 v3 v4 μ = some (r, μ9) → jR B SA (d - 1) m_B_remade 0 (lv_args 0 [.ref v0, rv v1, .int v2, rv v3, .int v4]) [] μ (some (rv r)) μ9) {k21 : Nat → Option Nat → Int32 → Option Nat → Int32 → Nat → Int32 → JMem → Option (Option Nat × JMem)} (i21 : ∀ (L : JLoc) (v0 : Nat) (v1 : Option Nat) (v2 : Int32) (v3 : Option Nat) (v4 : Int32) (v5 : Nat) (v6 : Int32) (μ : JMem) (r : Option Nat) (μ9 : JMem), jget L 0 = .ref v0 → jget L 1 = rv v1 → jget L 2 = .int v2 → jget L 3 = rv v3 → jget L 4 = .int v4 → jget L 5 = .ref v5 → jget L 6 = .int v6 → k21 v0 v1 v2 v3 v4 v5 v6 μ = some (r, μ9) → jR B SA d m_B_remade 21 L [] μ (some (rv r)) μ9) : ∀ (L : JLoc) (v0 : Nat) (v1 : Nat) (v2 : Int32) (v3 : Option Nat) (v4 : Int32) (v5 : Nat) (v6 : Int32) (μ : JMem) (r : Option Nat) (μ9 : JMem), jget L 0 = .ref v0 → jget L 1 = .ref v1 → jget L 2 = .int v2 → jget L 3 = rv v3 → jget L 4 = .int v4 → jget L 5 = .ref v5 → jget L 6 = .int v6 → g_B_remade_117 N B SA kS k21 v0 v1 v2 v3 v4 v5 v6 μ = some (r, μ9) → jR B SA d m_B_remade 117 L [] μ (some (rv r)) μ9 := by
  intro L v0 v1 v2 v3 v4 v5 v6 μ r μ9 hl0 hl1 hl2 hl3 hl4 hl5 hl6 h
  unfold g_B_remade_117 at h
  refine jr_iinc jf_184_117 jc_i_1 jml_184 (by decide) hl6 ?_
  refine jr_goto jf_184_120 ?_
  exact i21 _ _ (some _) _ _ _ _ _ _ _ _ (jg1_ne rfl hl0) (jg1_ne rfl hl1) (jg1_ne rfl hl2) (jg1_ne rfl hl3) (jg1_ne rfl hl4) (jg1_pre (by first | rfl | exact rv_cat _) hl5) jg1_same h
set_option maxRecDepth 10000 in
set_option maxHeartbeats 4000000 in
theorem r_B_remade_72 {N B : Nat} {SA : Nat → Nat} {d : Nat} (hd : 6 ≤ d) {kS : Nat → Option Nat → Int32 → Option Nat → Int32 → JMem → Option (Option Nat × JMem)} (iS : ∀ (v0 : Nat) (v1 : Option Nat) (v2 : Int32) (v3 : Option Nat) (v4 : Int32) (μ : JMem) (r : Option Nat) (μ9 : JMem), kS v0 v1 v2 v3 v4 μ = some (r, μ9) → jR B SA (d - 1) m_B_remade 0 (lv_args 0 [.ref v0, rv v1, .int v2, rv v3, .int v4]) [] μ (some (rv r)) μ9) {k21 : Nat → Option Nat → Int32 → Option Nat → Int32 → Nat → Int32 → JMem → Option (Option Nat × JMem)} (i21 : ∀ (L : JLoc) (v0 : Nat) (v1 : Option Nat) (v2 : Int32) (v3 : Option Nat) (v4 : Int32) (v5 : Nat) (v6 : Int32) (μ : JMem) (r : Option Nat) (μ9 : JMem), jget L 0 = .ref v0 → jget L 1 = rv v1 → jget L 2 = .int v2 → jget L 3 = rv v3 → jget L 4 = .int v4 → jget L 5 = .ref v5 → jget L 6 = .int v6 → k21 v0 v1 v2 v3 v4 v5 v6 μ = some (r, μ9) → jR B SA d m_B_remade 21 L [] μ (some (rv r)) μ9) : ∀ (L : JLoc) (v0 : Nat) (v1 : Nat) (v2 : Int32) (v3 : Option Nat) (v4 : Int32) (v5 : Nat) (v6 : Int32) (v7 : Nat) (s0 : Option Nat) (μ : JMem) (r : Option Nat) (μ9 : JMem), jget L 0 = .ref v0 → jget L 1 = .ref v1 → jget L 2 = .int v2 → jget L 3 = rv v3 → jget L 4 = .int v4 → jget L 5 = .ref v5 → jget L 6 = .int v6 → jget L 7 = .ref v7 → g_B_remade_72 N B SA kS k21 v0 v1 v2 v3 v4 v5 v6 v7 s0 μ = some (r, μ9) → jR B SA d m_B_remade 72 L [rv s0] μ (some (rv r)) μ9 := by
  intro L v0 v1 v2 v3 v4 v5 v6 v7 s0 μ r μ9 hl0 hl1 hl2 hl3 hl4 hl5 hl6 hl7 h
  unfold g_B_remade_72 at h
  refine jr_astore_A jf_184_72 jml_184 (by decide) ?_
  refine jr_aload_n jf_184_74 rfl (jg1_ne rfl hl0) ?_
  refine jr_aload jf_184_75 (jg1_pre (by first | rfl | exact rv_cat _) hl7) ?_
  refine jr_iload_n jf_184_77 rfl (jg1_ne rfl hl2) ?_
  refine jr_aload_n_A jf_184_78 rfl (jg1_ne rfl hl3) ?_
  replace h := jgd_of h; obtain ⟨hb1, h⟩ := h
  replace h := jbd2_of h; obtain ⟨x2, μ3, hx2, h⟩ := h
  refine jr_V6_3 jf_184_79 hb1 (by omega) (r_B_remadeSection (by omega) _ _ _ _ _ _ _ hx2) (Nat.le_of_ble_eq_true rfl) jml_185 (by simp only [jcats_cons, jcats_nil, cat_int, cat_long, cat_double, cat_float, cat_ref, rv_cat]; decide) ?_
  refine jr_astore_A jf_184_82 jml_184 (by decide) ?_
  refine jr_aload_A jf_184_84 jg1_same ?_
  replace h := jon_or h; rcases h with ⟨rfl, h⟩ | ⟨a4, rfl, h⟩
  · refine jr_ifnonnull_n jf_184_86 ?_
    refine jr_aconst_null jf_184_89 ?_
    obtain ⟨rfl, rfl⟩ := Prod.mk.inj (Option.some.inj h)
    exact jr_retA jf_184_90 jmt_184
  · refine jr_ifnonnull_s jf_184_86 ?_
    refine jr_aload jf_184_91 (jg1_ne rfl (jg1_ne rfl hl5)) ?_
    refine jr_aload jf_184_93 jg1_same ?_
    replace h := jgd_of h; obtain ⟨hb5, h⟩ := h
    replace h := obd_of h; obtain ⟨μ6, hμ6, h⟩ := h
    refine jr_V6v_1 jf_184_95 hb5 (by omega) (r_Chain_join (by omega) _ _ _ _ hμ6) (Nat.le_of_ble_eq_true rfl) jml_53 (by simp only [jcats_cons, jcats_nil, cat_int, cat_long, cat_double, cat_float, cat_ref, rv_cat]; decide) ?_
    refine jr_aload_A jf_184_98 (jg1_pre (by first | rfl | exact rv_cat _) jg1_same) ?_
    replace h := jon_or h; rcases h with ⟨rfl, h⟩ | ⟨a7, rfl, h⟩
    · refine jr_ifnull_n jf_184_100 ?_
      exact r_B_remade_117 hd iS i21 _ _ _ _ _ _ _ _ _ _ _ (jg1_ne rfl (jg1_ne rfl hl0)) (jg1_ne rfl (jg1_ne rfl hl1)) (jg1_ne rfl (jg1_ne rfl hl2)) (jg1_ne rfl (jg1_ne rfl hl3)) (jg1_ne rfl (jg1_ne rfl hl4)) (jg1_ne rfl (jg1_ne rfl hl5)) (jg1_ne rfl (jg1_ne rfl hl6)) h
    · refine jr_ifnull_s jf_184_100 ?_
      refine jr_aload jf_184_103 jg1_same ?_
      refine jr_aload jf_184_105 (jg1_pre (by first | rfl | exact rv_cat _) jg1_same) ?_
      replace h := obd_of h; obtain ⟨μ8, hμ8, h⟩ := h
      refine jr_putA (x := some _) jf_184_107 rfl hμ8 ?_
      refine jr_aload jf_184_110 (jg1_pre (by first | rfl | exact rv_cat _) jg1_same) ?_
      refine jr_aload jf_184_112 jg1_same ?_
      replace h := obd_of h; obtain ⟨μ9, hμ9, h⟩ := h
      refine jr_putA (x := some _) jf_184_114 rfl hμ9 ?_
      exact r_B_remade_117 hd iS i21 _ _ _ _ _ _ _ _ _ _ _ (jg1_ne rfl (jg1_ne rfl hl0)) (jg1_ne rfl (jg1_ne rfl hl1)) (jg1_ne rfl (jg1_ne rfl hl2)) (jg1_ne rfl (jg1_ne rfl hl3)) (jg1_ne rfl (jg1_ne rfl hl4)) (jg1_ne rfl (jg1_ne rfl hl5)) (jg1_ne rfl (jg1_ne rfl hl6)) h
set_option maxRecDepth 10000 in
set_option maxHeartbeats 4000000 in
theorem r_B_remade_21 {N B : Nat} {SA : Nat → Nat} {d : Nat} (hd : 6 ≤ d) {kS : Nat → Option Nat → Int32 → Option Nat → Int32 → JMem → Option (Option Nat × JMem)} (iS : ∀ (v0 : Nat) (v1 : Option Nat) (v2 : Int32) (v3 : Option Nat) (v4 : Int32) (μ : JMem) (r : Option Nat) (μ9 : JMem), kS v0 v1 v2 v3 v4 μ = some (r, μ9) → jR B SA (d - 1) m_B_remade 0 (lv_args 0 [.ref v0, rv v1, .int v2, rv v3, .int v4]) [] μ (some (rv r)) μ9) : ∀ (n : Nat), ∀ (L : JLoc) (v0 : Nat) (v1 : Option Nat) (v2 : Int32) (v3 : Option Nat) (v4 : Int32) (v5 : Nat) (v6 : Int32) (μ : JMem) (r : Option Nat) (μ9 : JMem), jget L 0 = .ref v0 → jget L 1 = rv v1 → jget L 2 = .int v2 → jget L 3 = rv v3 → jget L 4 = .int v4 → jget L 5 = .ref v5 → jget L 6 = .int v6 → g_B_remade_21 N B SA kS n v0 v1 v2 v3 v4 v5 v6 μ = some (r, μ9) → jR B SA d m_B_remade 21 L [] μ (some (rv r)) μ9 := by
  intro n
  induction n with
  | zero =>
    intro L v0 v1 v2 v3 v4 v5 v6 μ r μ9 hl0 hl1 hl2 hl3 hl4 hl5 hl6 h
    unfold g_B_remade_21 at h
    cases h
  | succ n ih =>
    intro L v0 v1 v2 v3 v4 v5 v6 μ r μ9 hl0 hl1 hl2 hl3 hl4 hl5 hl6 h
    unfold g_B_remade_21 at h
    refine jr_iload jf_184_21 hl6 ?_
    refine jr_aload_n_A jf_184_23 rfl hl1 ?_
    replace h := obd_of h; obtain ⟨a1, rfl, h⟩ := h
    replace h := obd_of h; obtain ⟨x2, hx2, h⟩ := h
    refine jr_getI jf_184_24 hx2 ?_
    replace h := ite_or h; rcases h with ⟨hc, h⟩ | ⟨hc, h⟩
    · refine jr_if2_ge_t jf_184_27 hc ?_
      refine jr_aload_n jf_184_123 rfl hl0 ?_
      refine jr_aload_n jf_184_124 rfl hl1 ?_
      refine jr_aload jf_184_125 hl5 ?_
      refine jr_aload_n_A jf_184_127 rfl hl3 ?_
      replace h := jgd_of h; obtain ⟨hb3, h⟩ := h
      replace h := obd_of h; obtain ⟨μ4, hμ4, h⟩ := h
      refine jr_V6v_3 jf_184_128 hb3 (by omega) (r_B_remakeLoops (by omega) _ _ _ _ _ _ hμ4) (Nat.le_of_ble_eq_true rfl) jml_186 (by simp only [jcats_cons, jcats_nil, cat_int, cat_long, cat_double, cat_float, cat_ref, rv_cat]; decide) ?_
      refine jr_aload_n jf_184_131 rfl hl0 ?_
      refine jr_aload jf_184_132 hl5 ?_
      replace h := jgd_of h; obtain ⟨hb5, h⟩ := h
      replace h := jbd2_of h; obtain ⟨x6, μ7, hx6, h⟩ := h
      refine jr_V6_1 jf_184_134 hb5 (by omega) (r_B_registered (by omega) _ _ _ _ _ hx6) (Nat.le_of_ble_eq_true rfl) jml_46 (by simp only [jcats_cons, jcats_nil, cat_int, cat_long, cat_double, cat_float, cat_ref, rv_cat]; decide) ?_
      refine jr_pop jf_184_137 rfl ?_
      refine jr_aload jf_184_138 hl5 ?_
      obtain ⟨rfl, rfl⟩ := Prod.mk.inj (Option.some.inj h)
      exact jr_retA (x := some _) jf_184_140 jmt_184
    · refine jr_if2_ge_f jf_184_27 hc ?_
      refine jr_aload_n jf_184_30 rfl hl1 ?_
      refine jr_iload jf_184_31 hl6 ?_
      replace h := jgd_of h; obtain ⟨hb8, h⟩ := h
      replace h := obd_of h; obtain ⟨x9, hx9, h⟩ := h
      refine jr_V6_1 jf_184_33 hb8 (by omega) (r_Chain_memberAt (by omega) _ _ _ _ hx9) (Nat.le_of_ble_eq_true rfl) jml_50 (Nat.le_of_ble_eq_true rfl) ?_
      refine jr_astore_A jf_184_36 jml_184 (by decide) ?_
      refine jr_aload_A jf_184_38 jg1_same ?_
      replace h := jon_or h; rcases h with ⟨rfl, h⟩ | ⟨a10, rfl, h⟩
      · refine jr_ifnonnull_n jf_184_40 ?_
        refine jr_aconst_null jf_184_43 ?_
        obtain ⟨rfl, rfl⟩ := Prod.mk.inj (Option.some.inj h)
        exact jr_retA jf_184_44 jmt_184
      · refine jr_ifnonnull_s jf_184_40 ?_
        refine jr_aload jf_184_45 jg1_same ?_
        replace h := obd_of h; obtain ⟨x11, hx11, h⟩ := h
        refine jr_getA jf_184_47 hx11 ?_
        replace h := jon_or h; rcases h with ⟨rfl, h⟩ | ⟨a12, rfl, h⟩
        · refine jr_ifnonnull_n jf_184_50 ?_
          refine jr_aconst_null jf_184_53 ?_
          refine jr_goto jf_184_54 ?_
          exact r_B_remade_72 hd iS ih _ _ _ _ _ _ _ _ _ _ _ _ _ (jg1_ne rfl hl0) (jg1_ne rfl hl1) (jg1_ne rfl hl2) (jg1_ne rfl hl3) (jg1_ne rfl hl4) (jg1_ne rfl hl5) (jg1_pre rfl hl6) jg1_same h
        · refine jr_ifnonnull_s jf_184_50 ?_
          refine jr_aload_n jf_184_57 rfl (jg1_ne rfl hl0) ?_
          refine jr_aload jf_184_58 jg1_same ?_
          replace h := obd_of h; obtain ⟨x13, hx13, h⟩ := h
          refine jr_getA jf_184_60 hx13 ?_
          refine jr_iload_n jf_184_63 rfl (jg1_ne rfl hl2) ?_
          refine jr_aload_n_A jf_184_64 rfl (jg1_ne rfl hl3) ?_
          refine jr_iload jf_184_65 (jg1_ne rfl hl4) ?_
          refine jr_iconst jf_184_67 jc_i_1 ?_
          refine jr_iadd jf_184_68 ?_
          replace h := jgd_of h; obtain ⟨hb14, h⟩ := h
          replace h := jbd2_of h; obtain ⟨x15, μ16, hx15, h⟩ := h
          refine jr_V6_4 jf_184_69 hb14 (by omega) (iS _ _ _ _ _ _ _ _ hx15) (Nat.le_of_ble_eq_true rfl) jml_184 (by simp only [jcats_cons, jcats_nil, cat_int, cat_long, cat_double, cat_float, cat_ref, rv_cat]; decide) ?_
          exact r_B_remade_72 hd iS ih _ _ _ _ _ _ _ _ _ _ _ _ _ (jg1_ne rfl hl0) (jg1_ne rfl hl1) (jg1_ne rfl hl2) (jg1_ne rfl hl3) (jg1_ne rfl hl4) (jg1_ne rfl hl5) (jg1_pre rfl hl6) jg1_same h
set_option maxRecDepth 10000 in
set_option maxHeartbeats 4000000 in
theorem r_B_remade_b {N B : Nat} {SA : Nat → Nat} {d : Nat} (hd : 6 ≤ d) {kS : Nat → Option Nat → Int32 → Option Nat → Int32 → JMem → Option (Option Nat × JMem)} (iS : ∀ (v0 : Nat) (v1 : Option Nat) (v2 : Int32) (v3 : Option Nat) (v4 : Int32) (μ : JMem) (r : Option Nat) (μ9 : JMem), kS v0 v1 v2 v3 v4 μ = some (r, μ9) → jR B SA (d - 1) m_B_remade 0 (lv_args 0 [.ref v0, rv v1, .int v2, rv v3, .int v4]) [] μ (some (rv r)) μ9) : ∀ (L : JLoc) (v0 : Nat) (v1 : Option Nat) (v2 : Int32) (v3 : Option Nat) (v4 : Int32) (μ : JMem) (r : Option Nat) (μ9 : JMem), jget L 0 = .ref v0 → jget L 1 = rv v1 → jget L 2 = .int v2 → jget L 3 = rv v3 → jget L 4 = .int v4 → g_B_remade_b N B SA kS v0 v1 v2 v3 v4 μ = some (r, μ9) → jR B SA d m_B_remade 0 L [] μ (some (rv r)) μ9 := by
  intro L v0 v1 v2 v3 v4 μ r μ9 hl0 hl1 hl2 hl3 hl4 h
  unfold g_B_remade_b at h
  refine jr_iload jf_184_0 hl4 ?_
  refine jr_bipush jf_184_2 jc_b_30 ?_
  replace h := ite_or h; rcases h with ⟨hc, h⟩ | ⟨hc, h⟩
  · refine jr_if2_le_t jf_184_4 hc ?_
    replace h := jnew_of h
    refine jr_new jf_184_9 ?_
    refine jr_dup jf_184_12 rfl ?_
    replace h := obd_of h; obtain ⟨μ3, hμ3, h⟩ := h
    refine jr_P2v_0 jf_184_13 (by omega) (r_Chain_init (by omega) _ _ _ hμ3) (Nat.le_of_ble_eq_true rfl) jml_45 (Nat.le_of_ble_eq_true rfl) ?_
    refine jr_astore jf_184_16 jml_184 (by decide) ?_
    refine jr_iconst jf_184_18 jc_i_0 ?_
    refine jr_istore jf_184_19 jml_184 (by decide) ?_
    exact r_B_remade_21 hd iS _ _ _ _ _ _ _ _ _ _ _ _ (jg1_ne rfl (jg1_ne rfl hl0)) (jg1_ne rfl (jg1_ne rfl hl1)) (jg1_ne rfl (jg1_ne rfl hl2)) (jg1_ne rfl (jg1_ne rfl hl3)) (jg1_ne rfl (jg1_pre rfl hl4)) (jg1_pre (by first | rfl | exact rv_cat _) jg1_same) jg1_same h
  · refine jr_if2_le_f jf_184_4 hc ?_
    refine jr_aconst_null jf_184_7 ?_
    obtain ⟨rfl, rfl⟩ := Prod.mk.inj (Option.some.inj h)
    exact jr_retA jf_184_8 jmt_184
set_option maxRecDepth 10000 in
set_option maxHeartbeats 4000000 in
theorem r_B_remade {N B : Nat} {SA : Nat → Nat} : ∀ (n d : Nat), n + 6 ≤ d → ∀ (v0 : Nat) (v1 : Option Nat) (v2 : Int32) (v3 : Option Nat) (v4 : Int32) (μ : JMem) (r : Option Nat) (μ9 : JMem), g_B_remade N B SA n v0 v1 v2 v3 v4 μ = some (r, μ9) → jR B SA d m_B_remade 0 (lv_args 0 [.ref v0, rv v1, .int v2, rv v3, .int v4]) [] μ (some (rv r)) μ9 := by
  intro n
  induction n with
  | zero =>
    intro d hd v0 v1 v2 v3 v4 μ r μ9 h
    unfold g_B_remade at h
    cases h
  | succ n ih =>
    intro d hd v0 v1 v2 v3 v4 μ r μ9 h
    unfold g_B_remade at h
    exact r_B_remade_b (by omega) (ih (d - 1) (by omega)) (lv_args 0 _) _ _ _ _ _ _ _ _ (by simp [lv_args, jget, rv_cat, cat_int, cat_long, cat_double, cat_float, cat_ref]) (by simp [lv_args, jget, rv_cat, cat_int, cat_long, cat_double, cat_float, cat_ref]) (by simp [lv_args, jget, rv_cat, cat_int, cat_long, cat_double, cat_float, cat_ref]) (by simp [lv_args, jget, rv_cat, cat_int, cat_long, cat_double, cat_float, cat_ref]) (by simp [lv_args, jget, rv_cat, cat_int, cat_long, cat_double, cat_float, cat_ref]) h
/-! FilterBench.convert(II)I -/
set_option maxRecDepth 10000 in
set_option maxHeartbeats 4000000 in
theorem r_B_convert_e {N M B : Nat} {SA : Nat → Nat} {d : Nat} (hd : M + 7 ≤ d) : ∀ (L : JLoc) (v0 : Nat) (v1 : Int32) (v2 : Int32) (μ : JMem) (r : Int32) (μ9 : JMem), jget L 0 = .ref v0 → jget L 1 = .int v1 → jget L 2 = .int v2 → g_B_convert N M B SA v0 v1 v2 μ = some (r, μ9) → jR B SA d m_B_convert 0 L [] μ (some (.int r)) μ9 := by
  intro L v0 v1 v2 μ r μ9 hl0 hl1 hl2 h
  unfold g_B_convert at h
  refine jr_aload_n jf_177_0 rfl hl0 ?_
  refine jr_iload_n jf_177_1 rfl hl1 ?_
  replace h := jgd_of h; obtain ⟨hb1, h⟩ := h
  replace h := obd_of h; obtain ⟨x2, hx2, h⟩ := h
  refine jr_V6_1 jf_177_2 hb1 (by omega) (r_B_fedAlone (by omega) _ _ _ _ hx2) (Nat.le_of_ble_eq_true rfl) jml_63 (Nat.le_of_ble_eq_true rfl) ?_
  refine jr_astore_n_A jf_177_5 rfl jml_177 (by decide) ?_
  refine jr_aload_n jf_177_6 rfl (jg1_ne rfl hl0) ?_
  refine jr_iload_n jf_177_7 rfl (jg1_pre rfl hl2) ?_
  replace h := jgd_of h; obtain ⟨hb3, h⟩ := h
  replace h := obd_of h; obtain ⟨x4, hx4, h⟩ := h
  refine jr_V6_1 jf_177_8 hb3 (by omega) (r_B_numbersOf (by omega) _ _ _ _ hx4) (Nat.le_of_ble_eq_true rfl) jml_6 (Nat.le_of_ble_eq_true rfl) ?_
  refine jr_astore_A jf_177_11 jml_177 (by decide) ?_
  refine jr_aload_n_A jf_177_13 rfl (jg1_pre (by first | rfl | exact rv_cat _) jg1_same) ?_
  replace h := jon_or h; rcases h with ⟨rfl, h⟩ | ⟨a5, rfl, h⟩
  · refine jr_ifnull_n jf_177_14 ?_
    refine jr_iconst jf_177_32 jc_i_m1 ?_
    obtain ⟨rfl, rfl⟩ := Prod.mk.inj (Option.some.inj h)
    exact jr_retI jf_177_33 jmt_177
  · refine jr_ifnull_s jf_177_14 ?_
    refine jr_aload_A jf_177_17 jg1_same ?_
    replace h := jon_or h; rcases h with ⟨rfl, h⟩ | ⟨a6, rfl, h⟩
    · refine jr_ifnull_n jf_177_19 ?_
      refine jr_iconst jf_177_32 jc_i_m1 ?_
      obtain ⟨rfl, rfl⟩ := Prod.mk.inj (Option.some.inj h)
      exact jr_retI jf_177_33 jmt_177
    · refine jr_ifnull_s jf_177_19 ?_
      refine jr_aload_n jf_177_22 rfl (jg1_ne rfl (jg1_ne rfl hl0)) ?_
      refine jr_aload_n jf_177_23 rfl (jg1_pre (by first | rfl | exact rv_cat _) jg1_same) ?_
      refine jr_aload jf_177_24 jg1_same ?_
      replace h := jgd_of h; obtain ⟨hb7, h⟩ := h
      replace h := jbd2_of h; obtain ⟨x8, μ9, hx8, h⟩ := h
      refine jr_V6_2 jf_177_26 hb7 (by omega) (r_B_canRemake (by omega) _ _ _ _ _ _ hx8) (Nat.le_of_ble_eq_true rfl) jml_178 (by simp only [jcats_cons, jcats_nil, cat_int, cat_long, cat_double, cat_float, cat_ref, rv_cat]; decide) ?_
      replace h := ite_or h; rcases h with ⟨hc, h⟩ | ⟨hc, h⟩
      · refine jr_ifz_ne_t jf_177_29 hc ?_
        refine jr_aload_n jf_177_34 rfl (jg1_ne rfl (jg1_ne rfl hl0)) ?_
        refine jr_aload_n jf_177_35 rfl (jg1_pre (by first | rfl | exact rv_cat _) jg1_same) ?_
        refine jr_iload_n jf_177_36 rfl (jg1_ne rfl (jg1_pre rfl hl2)) ?_
        refine jr_aload jf_177_37 jg1_same ?_
        refine jr_iconst jf_177_39 jc_i_0 ?_
        replace h := jgd_of h; obtain ⟨hb10, h⟩ := h
        replace h := jbd2_of h; obtain ⟨x11, μ12, hx11, h⟩ := h
        refine jr_V6_4 jf_177_40 hb10 (by omega) (r_B_remade M _ (by omega) _ _ _ _ _ _ _ _ hx11) (Nat.le_of_ble_eq_true rfl) jml_184 (by simp only [jcats_cons, jcats_nil, cat_int, cat_long, cat_double, cat_float, cat_ref, rv_cat]; decide) ?_
        replace h := obd_of h; obtain ⟨x13, hx13, h⟩ := h
        refine jr_S3_1 jf_177_43 (by omega) (r_B_numberOf (by omega) _ _ _ hx13) (Nat.le_of_ble_eq_true rfl) jml_41 (by simp only [jcats_cons, jcats_nil, cat_int, cat_long, cat_double, cat_float, cat_ref, rv_cat]; decide) ?_
        obtain ⟨rfl, rfl⟩ := Prod.mk.inj (Option.some.inj h)
        exact jr_retI jf_177_46 jmt_177
      · refine jr_ifz_ne_f jf_177_29 hc ?_
        refine jr_iconst jf_177_32 jc_i_m1 ?_
        obtain ⟨rfl, rfl⟩ := Prod.mk.inj (Option.some.inj h)
        exact jr_retI jf_177_33 jmt_177
set_option maxRecDepth 10000 in
set_option maxHeartbeats 4000000 in
theorem r_B_convert {N M B : Nat} {SA : Nat → Nat} {d : Nat} (hd : M + 7 ≤ d) : ∀ (v0 : Nat) (v1 : Int32) (v2 : Int32) (μ : JMem) (r : Int32) (μ9 : JMem), g_B_convert N M B SA v0 v1 v2 μ = some (r, μ9) → jR B SA d m_B_convert 0 (lv_args 0 [.ref v0, .int v1, .int v2]) [] μ (some (.int r)) μ9 := by
  intro v0 v1 v2 μ r μ9 h
  exact r_B_convert_e hd (lv_args 0 _) _ _ _ _ _ _ (by simp [lv_args, jget, rv_cat, cat_int, cat_long, cat_double, cat_float, cat_ref]) (by simp [lv_args, jget, rv_cat, cat_int, cat_long, cat_double, cat_float, cat_ref]) (by simp [lv_args, jget, rv_cat, cat_int, cat_long, cat_double, cat_float, cat_ref]) h
/-! FilterBenchModel.<init>()V -/
set_option maxRecDepth 10000 in
set_option maxHeartbeats 4000000 in
theorem r_R_init_e {B : Nat} {SA : Nat → Nat} {d : Nat} (hd : 1 ≤ d) : ∀ (L : JLoc) (v0 : Nat) (μ : JMem) (μ9 : JMem), jget L 0 = .ref v0 → g_R_init B v0 μ = some μ9 → jR B SA d m_R_init 0 L [] μ none μ9 := by
  intro L v0 μ μ9 hl0 h
  unfold g_R_init at h
  refine jr_aload_n jf_187_0 rfl hl0 ?_
  refine jr_oinit jf_187_1 (by omega) (Nat.le_of_ble_eq_true rfl) ?_
  refine jr_aload_n jf_187_4 rfl hl0 ?_
  refine jr_bipush jf_187_5 jc_b_60 ?_
  replace h := jbd2_of h; obtain ⟨a1, μ2, ha1, h⟩ := h
  refine jr_newarray jf_187_7 rfl ha1 ?_
  replace h := obd_of h; obtain ⟨μ3, hμ3, h⟩ := h
  refine jr_putA (x := some _) jf_187_9 rfl hμ3 ?_
  refine jr_aload_n jf_187_12 rfl hl0 ?_
  refine jr_bipush jf_187_13 jc_b_60 ?_
  replace h := jbd2_of h; obtain ⟨a4, μ5, ha4, h⟩ := h
  refine jr_newarray jf_187_15 rfl ha4 ?_
  replace h := obd_of h; obtain ⟨μ6, hμ6, h⟩ := h
  refine jr_putA (x := some _) jf_187_17 rfl hμ6 ?_
  refine jr_aload_n jf_187_20 rfl hl0 ?_
  refine jr_bipush jf_187_21 jc_b_60 ?_
  replace h := jbd2_of h; obtain ⟨a7, μ8, ha7, h⟩ := h
  refine jr_newarray jf_187_23 rfl ha7 ?_
  replace h := obd_of h; obtain ⟨μ9, hμ9, h⟩ := h
  refine jr_putA (x := some _) jf_187_25 rfl hμ9 ?_
  refine jr_aload_n jf_187_28 rfl hl0 ?_
  refine jr_bipush jf_187_29 jc_b_60 ?_
  replace h := jbd2_of h; obtain ⟨a10, μ11, ha10, h⟩ := h
  refine jr_newarray jf_187_31 rfl ha10 ?_
  replace h := obd_of h; obtain ⟨μ12, hμ12, h⟩ := h
  refine jr_putA (x := some _) jf_187_33 rfl hμ12 ?_
  refine jr_aload_n jf_187_36 rfl hl0 ?_
  refine jr_bipush jf_187_37 jc_b_60 ?_
  replace h := jbd2_of h; obtain ⟨a13, μ14, ha13, h⟩ := h
  refine jr_newarray jf_187_39 rfl ha13 ?_
  replace h := obd_of h; obtain ⟨μ15, hμ15, h⟩ := h
  refine jr_putA (x := some _) jf_187_41 rfl hμ15 ?_
  refine jr_aload_n jf_187_44 rfl hl0 ?_
  refine jr_sipush jf_187_45 jc_s_300 ?_
  replace h := jbd2_of h; obtain ⟨a16, μ17, ha16, h⟩ := h
  refine jr_newarray jf_187_48 rfl ha16 ?_
  replace h := obd_of h; obtain ⟨μ18, hμ18, h⟩ := h
  refine jr_putA (x := some _) jf_187_50 rfl hμ18 ?_
  refine jr_aload_n jf_187_53 rfl hl0 ?_
  refine jr_bipush jf_187_54 jc_b_60 ?_
  replace h := jbd2_of h; obtain ⟨a19, μ20, ha19, h⟩ := h
  refine jr_newarray jf_187_56 rfl ha19 ?_
  replace h := obd_of h; obtain ⟨μ21, hμ21, h⟩ := h
  refine jr_putA (x := some _) jf_187_58 rfl hμ21 ?_
  refine jr_aload_n jf_187_61 rfl hl0 ?_
  refine jr_bipush jf_187_62 jc_b_60 ?_
  replace h := jbd2_of h; obtain ⟨a22, μ23, ha22, h⟩ := h
  refine jr_newarray jf_187_64 rfl ha22 ?_
  replace h := obd_of h; obtain ⟨μ24, hμ24, h⟩ := h
  refine jr_putA (x := some _) jf_187_66 rfl hμ24 ?_
  refine jr_aload_n jf_187_69 rfl hl0 ?_
  refine jr_bipush jf_187_70 jc_b_60 ?_
  replace h := jbd2_of h; obtain ⟨a25, μ26, ha25, h⟩ := h
  refine jr_newarray jf_187_72 rfl ha25 ?_
  replace h := obd_of h; obtain ⟨μ27, hμ27, h⟩ := h
  refine jr_putA (x := some _) jf_187_74 rfl hμ27 ?_
  refine jr_aload_n jf_187_77 rfl hl0 ?_
  refine jr_bipush jf_187_78 jc_b_60 ?_
  replace h := jbd2_of h; obtain ⟨a28, μ29, ha28, h⟩ := h
  refine jr_newarray jf_187_80 rfl ha28 ?_
  replace h := obd_of h; obtain ⟨μ30, hμ30, h⟩ := h
  refine jr_putA (x := some _) jf_187_82 rfl hμ30 ?_
  refine jr_aload_n jf_187_85 rfl hl0 ?_
  refine jr_bipush jf_187_86 jc_b_60 ?_
  replace h := jbd2_of h; obtain ⟨a31, μ32, ha31, h⟩ := h
  refine jr_newarray jf_187_88 rfl ha31 ?_
  replace h := obd_of h; obtain ⟨μ33, hμ33, h⟩ := h
  refine jr_putA (x := some _) jf_187_90 rfl hμ33 ?_
  refine jr_aload_n jf_187_93 rfl hl0 ?_
  refine jr_sipush jf_187_94 jc_s_3840 ?_
  replace h := jbd2_of h; obtain ⟨a34, μ35, ha34, h⟩ := h
  refine jr_newarray jf_187_97 rfl ha34 ?_
  replace h := obd_of h; obtain ⟨μ36, hμ36, h⟩ := h
  refine jr_putA (x := some _) jf_187_99 rfl hμ36 ?_
  refine jr_aload_n jf_187_102 rfl hl0 ?_
  refine jr_bipush jf_187_103 jc_b_60 ?_
  replace h := jbd2_of h; obtain ⟨a37, μ38, ha37, h⟩ := h
  refine jr_newarray jf_187_105 rfl ha37 ?_
  replace h := obd_of h; obtain ⟨μ39, hμ39, h⟩ := h
  refine jr_putA (x := some _) jf_187_107 rfl hμ39 ?_
  refine jr_aload_n jf_187_110 rfl hl0 ?_
  refine jr_bipush jf_187_111 jc_b_60 ?_
  replace h := jbd2_of h; obtain ⟨a40, μ41, ha40, h⟩ := h
  refine jr_newarray jf_187_113 rfl ha40 ?_
  replace h := obd_of h; obtain ⟨μ42, hμ42, h⟩ := h
  refine jr_putA (x := some _) jf_187_115 rfl hμ42 ?_
  refine jr_aload_n jf_187_118 rfl hl0 ?_
  refine jr_bipush jf_187_119 jc_b_20 ?_
  replace h := jbd2_of h; obtain ⟨a43, μ44, ha43, h⟩ := h
  refine jr_newarray jf_187_121 rfl ha43 ?_
  replace h := obd_of h; obtain ⟨μ45, hμ45, h⟩ := h
  refine jr_putA (x := some _) jf_187_123 rfl hμ45 ?_
  refine jr_aload_n jf_187_126 rfl hl0 ?_
  refine jr_sipush jf_187_127 jc_s_200 ?_
  replace h := jbd2_of h; obtain ⟨a46, μ47, ha46, h⟩ := h
  refine jr_newarray jf_187_130 rfl ha46 ?_
  replace h := obd_of h; obtain ⟨μ48, hμ48, h⟩ := h
  refine jr_putA (x := some _) jf_187_132 rfl hμ48 ?_
  refine jr_aload_n jf_187_135 rfl hl0 ?_
  refine jr_bipush jf_187_136 jc_b_20 ?_
  replace h := jbd2_of h; obtain ⟨a49, μ50, ha49, h⟩ := h
  refine jr_newarray jf_187_138 rfl ha49 ?_
  replace h := obd_of h; obtain ⟨μ51, hμ51, h⟩ := h
  refine jr_putA (x := some _) jf_187_140 rfl hμ51 ?_
  refine jr_aload_n jf_187_143 rfl hl0 ?_
  refine jr_bipush jf_187_144 jc_b_20 ?_
  replace h := jbd2_of h; obtain ⟨a52, μ53, ha52, h⟩ := h
  refine jr_newarray jf_187_146 rfl ha52 ?_
  replace h := obd_of h; obtain ⟨μ54, hμ54, h⟩ := h
  refine jr_putA (x := some _) jf_187_148 rfl hμ54 ?_
  refine jr_aload_n jf_187_151 rfl hl0 ?_
  refine jr_bipush jf_187_152 jc_b_60 ?_
  replace h := jbd2_of h; obtain ⟨a55, μ56, ha55, h⟩ := h
  refine jr_newarray jf_187_154 rfl ha55 ?_
  replace h := obd_of h; obtain ⟨μ57, hμ57, h⟩ := h
  refine jr_putA (x := some _) jf_187_156 rfl hμ57 ?_
  refine jr_aload_n jf_187_159 rfl hl0 ?_
  refine jr_bipush jf_187_160 jc_b_60 ?_
  replace h := jbd2_of h; obtain ⟨a58, μ59, ha58, h⟩ := h
  refine jr_newarray jf_187_162 rfl ha58 ?_
  replace h := obd_of h; obtain ⟨μ60, hμ60, h⟩ := h
  refine jr_putA (x := some _) jf_187_164 rfl hμ60 ?_
  refine jr_aload_n jf_187_167 rfl hl0 ?_
  refine jr_bipush jf_187_168 jc_b_60 ?_
  replace h := jbd2_of h; obtain ⟨a61, μ62, ha61, h⟩ := h
  refine jr_newarray jf_187_170 rfl ha61 ?_
  replace h := obd_of h; obtain ⟨μ63, hμ63, h⟩ := h
  refine jr_putA (x := some _) jf_187_172 rfl hμ63 ?_
  refine jr_aload_n jf_187_175 rfl hl0 ?_
  refine jr_bipush jf_187_176 jc_b_60 ?_
  replace h := jbd2_of h; obtain ⟨a64, μ65, ha64, h⟩ := h
  refine jr_newarray jf_187_178 rfl ha64 ?_
  replace h := obd_of h; obtain ⟨μ66, hμ66, h⟩ := h
  refine jr_putA (x := some _) jf_187_180 rfl hμ66 ?_
  refine jr_aload_n jf_187_183 rfl hl0 ?_
  refine jr_sipush jf_187_184 jc_s_3840 ?_
  replace h := jbd2_of h; obtain ⟨a67, μ68, ha67, h⟩ := h
  refine jr_newarray jf_187_187 rfl ha67 ?_
  replace h := obd_of h; obtain ⟨μ69, hμ69, h⟩ := h
  refine jr_putA (x := some _) jf_187_189 rfl hμ69 ?_
  refine jr_aload_n jf_187_192 rfl hl0 ?_
  refine jr_bipush jf_187_193 jc_b_60 ?_
  replace h := jbd2_of h; obtain ⟨a70, μ71, ha70, h⟩ := h
  refine jr_newarray jf_187_195 rfl ha70 ?_
  replace h := obd_of h; obtain ⟨μ72, hμ72, h⟩ := h
  refine jr_putA (x := some _) jf_187_197 rfl hμ72 ?_
  refine jr_aload_n jf_187_200 rfl hl0 ?_
  refine jr_sipush jf_187_201 jc_s_8000 ?_
  replace h := jbd2_of h; obtain ⟨a73, μ74, ha73, h⟩ := h
  refine jr_newarray jf_187_204 rfl ha73 ?_
  replace h := obd_of h; obtain ⟨μ75, hμ75, h⟩ := h
  refine jr_putA (x := some _) jf_187_206 rfl hμ75 ?_
  refine jr_aload_n jf_187_209 rfl hl0 ?_
  refine jr_bipush jf_187_210 jc_b_20 ?_
  replace h := jbd2_of h; obtain ⟨a76, μ77, ha76, h⟩ := h
  refine jr_newarray jf_187_212 rfl ha76 ?_
  replace h := obd_of h; obtain ⟨μ78, hμ78, h⟩ := h
  refine jr_putA (x := some _) jf_187_214 rfl hμ78 ?_
  refine jr_aload_n jf_187_217 rfl hl0 ?_
  refine jr_bipush jf_187_218 jc_b_40 ?_
  replace h := jbd2_of h; obtain ⟨a79, μ80, ha79, h⟩ := h
  refine jr_newarray jf_187_220 rfl ha79 ?_
  replace h := obd_of h; obtain ⟨μ81, hμ81, h⟩ := h
  refine jr_putA (x := some _) jf_187_222 rfl hμ81 ?_
  refine jr_aload_n jf_187_225 rfl hl0 ?_
  refine jr_bipush jf_187_226 jc_b_40 ?_
  replace h := jbd2_of h; obtain ⟨a82, μ83, ha82, h⟩ := h
  refine jr_newarray jf_187_228 rfl ha82 ?_
  replace h := obd_of h; obtain ⟨μ84, hμ84, h⟩ := h
  refine jr_putA (x := some _) jf_187_230 rfl hμ84 ?_
  refine jr_aload_n jf_187_233 rfl hl0 ?_
  refine jr_bipush jf_187_234 jc_b_40 ?_
  replace h := jbd2_of h; obtain ⟨a85, μ86, ha85, h⟩ := h
  refine jr_newarray jf_187_236 rfl ha85 ?_
  replace h := obd_of h; obtain ⟨μ87, hμ87, h⟩ := h
  refine jr_putA (x := some _) jf_187_238 rfl hμ87 ?_
  refine jr_aload_n jf_187_241 rfl hl0 ?_
  refine jr_bipush jf_187_242 jc_b_40 ?_
  replace h := jbd2_of h; obtain ⟨a88, μ89, ha88, h⟩ := h
  refine jr_newarray jf_187_244 rfl ha88 ?_
  replace h := obd_of h; obtain ⟨μ90, hμ90, h⟩ := h
  refine jr_putA (x := some _) jf_187_246 rfl hμ90 ?_
  refine jr_aload_n jf_187_249 rfl hl0 ?_
  refine jr_bipush jf_187_250 jc_b_20 ?_
  replace h := jbd2_of h; obtain ⟨a91, μ92, ha91, h⟩ := h
  refine jr_newarray jf_187_252 rfl ha91 ?_
  replace h := obd_of h; obtain ⟨μ93, hμ93, h⟩ := h
  refine jr_putA (x := some _) jf_187_254 rfl hμ93 ?_
  refine jr_aload_n jf_187_257 rfl hl0 ?_
  refine jr_bipush jf_187_258 jc_b_8 ?_
  replace h := jbd2_of h; obtain ⟨a94, μ95, ha94, h⟩ := h
  refine jr_newarray jf_187_260 rfl ha94 ?_
  replace h := obd_of h; obtain ⟨μ96, hμ96, h⟩ := h
  refine jr_putA (x := some _) jf_187_262 rfl hμ96 ?_
  refine jr_aload_n jf_187_265 rfl hl0 ?_
  refine jr_sipush jf_187_266 jc_s_30720 ?_
  replace h := jbd2_of h; obtain ⟨a97, μ98, ha97, h⟩ := h
  refine jr_newarray jf_187_269 rfl ha97 ?_
  replace h := obd_of h; obtain ⟨μ99, hμ99, h⟩ := h
  refine jr_putA (x := some _) jf_187_271 rfl hμ99 ?_
  refine jr_aload_n jf_187_274 rfl hl0 ?_
  refine jr_sipush jf_187_275 jc_s_480 ?_
  replace h := jbd2_of h; obtain ⟨a100, μ101, ha100, h⟩ := h
  refine jr_newarray jf_187_278 rfl ha100 ?_
  replace h := obd_of h; obtain ⟨μ102, hμ102, h⟩ := h
  refine jr_putA (x := some _) jf_187_280 rfl hμ102 ?_
  refine jr_aload_n jf_187_283 rfl hl0 ?_
  refine jr_sipush jf_187_284 jc_s_480 ?_
  replace h := jbd2_of h; obtain ⟨a103, μ104, ha103, h⟩ := h
  refine jr_newarray jf_187_287 rfl ha103 ?_
  replace h := obd_of h; obtain ⟨μ105, hμ105, h⟩ := h
  refine jr_putA (x := some _) jf_187_289 rfl hμ105 ?_
  refine jr_aload_n jf_187_292 rfl hl0 ?_
  refine jr_sipush jf_187_293 jc_s_30720 ?_
  replace h := jbd2_of h; obtain ⟨a106, μ107, ha106, h⟩ := h
  refine jr_newarray jf_187_296 rfl ha106 ?_
  replace h := obd_of h; obtain ⟨μ108, hμ108, h⟩ := h
  refine jr_putA (x := some _) jf_187_298 rfl hμ108 ?_
  refine jr_aload_n jf_187_301 rfl hl0 ?_
  refine jr_sipush jf_187_302 jc_s_480 ?_
  replace h := jbd2_of h; obtain ⟨a109, μ110, ha109, h⟩ := h
  refine jr_newarray jf_187_305 rfl ha109 ?_
  replace h := obd_of h; obtain ⟨μ111, hμ111, h⟩ := h
  refine jr_putA (x := some _) jf_187_307 rfl hμ111 ?_
  refine jr_aload_n jf_187_310 rfl hl0 ?_
  refine jr_sipush jf_187_311 jc_s_160 ?_
  replace h := jbd2_of h; obtain ⟨a112, μ113, ha112, h⟩ := h
  refine jr_newarray jf_187_314 rfl ha112 ?_
  replace h := obd_of h; obtain ⟨μ114, hμ114, h⟩ := h
  refine jr_putA (x := some _) jf_187_316 rfl hμ114 ?_
  refine jr_aload_n jf_187_319 rfl hl0 ?_
  refine jr_sipush jf_187_320 jc_s_160 ?_
  replace h := jbd2_of h; obtain ⟨a115, μ116, ha115, h⟩ := h
  refine jr_newarray jf_187_323 rfl ha115 ?_
  replace h := obd_of h; obtain ⟨μ117, hμ117, h⟩ := h
  refine jr_putA (x := some _) jf_187_325 rfl hμ117 ?_
  refine jr_aload_n jf_187_328 rfl hl0 ?_
  refine jr_sipush jf_187_329 jc_s_480 ?_
  replace h := jbd2_of h; obtain ⟨a118, μ119, ha118, h⟩ := h
  refine jr_newarray jf_187_332 rfl ha118 ?_
  replace h := obd_of h; obtain ⟨μ120, hμ120, h⟩ := h
  refine jr_putA (x := some _) jf_187_334 rfl hμ120 ?_
  refine jr_aload_n jf_187_337 rfl hl0 ?_
  refine jr_ldc jf_187_338 ?_
  replace h := jbd2_of h; obtain ⟨a121, μ122, ha121, h⟩ := h
  refine jr_newarray jf_187_340 rfl ha121 ?_
  replace h := obd_of h; obtain ⟨μ123, hμ123, h⟩ := h
  refine jr_putA (x := some _) jf_187_342 rfl hμ123 ?_
  refine jr_aload_n jf_187_345 rfl hl0 ?_
  refine jr_ldc jf_187_346 ?_
  replace h := jbd2_of h; obtain ⟨a124, μ125, ha124, h⟩ := h
  refine jr_newarray jf_187_348 rfl ha124 ?_
  replace h := obd_of h; obtain ⟨μ126, hμ126, h⟩ := h
  refine jr_putA (x := some _) jf_187_350 rfl hμ126 ?_
  refine jr_aload_n jf_187_353 rfl hl0 ?_
  refine jr_ldc jf_187_354 ?_
  replace h := jbd2_of h; obtain ⟨a127, μ128, ha127, h⟩ := h
  refine jr_newarray jf_187_356 rfl ha127 ?_
  replace h := obd_of h; obtain ⟨μ129, hμ129, h⟩ := h
  refine jr_putA (x := some _) jf_187_358 rfl hμ129 ?_
  refine jr_aload_n jf_187_361 rfl hl0 ?_
  refine jr_ldc jf_187_362 ?_
  replace h := jbd2_of h; obtain ⟨a130, μ131, ha130, h⟩ := h
  refine jr_newarray jf_187_364 rfl ha130 ?_
  replace h := obd_of h; obtain ⟨μ132, hμ132, h⟩ := h
  refine jr_putA (x := some _) jf_187_366 rfl hμ132 ?_
  refine jr_aload_n jf_187_369 rfl hl0 ?_
  refine jr_ldc jf_187_370 ?_
  replace h := jbd2_of h; obtain ⟨a133, μ134, ha133, h⟩ := h
  refine jr_newarray jf_187_372 rfl ha133 ?_
  replace h := obd_of h; obtain ⟨μ135, hμ135, h⟩ := h
  refine jr_putA (x := some _) jf_187_374 rfl hμ135 ?_
  refine jr_aload_n jf_187_377 rfl hl0 ?_
  refine jr_bipush jf_187_378 jc_b_60 ?_
  replace h := jbd2_of h; obtain ⟨a136, μ137, ha136, h⟩ := h
  refine jr_newarray jf_187_380 rfl ha136 ?_
  replace h := obd_of h; obtain ⟨μ138, hμ138, h⟩ := h
  refine jr_putA (x := some _) jf_187_382 rfl hμ138 ?_
  refine jr_aload_n jf_187_385 rfl hl0 ?_
  refine jr_bipush jf_187_386 jc_b_20 ?_
  replace h := jbd2_of h; obtain ⟨a139, μ140, ha139, h⟩ := h
  refine jr_newarray jf_187_388 rfl ha139 ?_
  replace h := obd_of h; obtain ⟨μ141, hμ141, h⟩ := h
  refine jr_putA (x := some _) jf_187_390 rfl hμ141 ?_
  refine jr_aload_n jf_187_393 rfl hl0 ?_
  refine jr_bipush jf_187_394 jc_b_20 ?_
  replace h := jbd2_of h; obtain ⟨a142, μ143, ha142, h⟩ := h
  refine jr_newarray jf_187_396 rfl ha142 ?_
  replace h := obd_of h; obtain ⟨μ144, hμ144, h⟩ := h
  refine jr_putA (x := some _) jf_187_398 rfl hμ144 ?_
  refine jr_aload_n jf_187_401 rfl hl0 ?_
  refine jr_bipush jf_187_402 jc_b_20 ?_
  replace h := jbd2_of h; obtain ⟨a145, μ146, ha145, h⟩ := h
  refine jr_newarray jf_187_404 rfl ha145 ?_
  replace h := obd_of h; obtain ⟨μ147, hμ147, h⟩ := h
  refine jr_putA (x := some _) jf_187_406 rfl hμ147 ?_
  refine jr_aload_n jf_187_409 rfl hl0 ?_
  refine jr_iconst jf_187_410 jc_i_m1 ?_
  replace h := obd_of h; obtain ⟨μ148, hμ148, h⟩ := h
  refine jr_putI jf_187_411 rfl hμ148 ?_
  obtain rfl := Option.some.inj h
  exact jr_return jf_187_414 jmt_187
set_option maxRecDepth 10000 in
set_option maxHeartbeats 4000000 in
theorem r_R_init {B : Nat} {SA : Nat → Nat} {d : Nat} (hd : 1 ≤ d) : ∀ (v0 : Nat) (μ : JMem) (μ9 : JMem), g_R_init B v0 μ = some μ9 → jR B SA d m_R_init 0 (lv_args 0 [.ref v0]) [] μ none μ9 := by
  intro v0 μ μ9 h
  exact r_R_init_e hd (lv_args 0 _) _ _ _ (by simp [lv_args, jget, rv_cat, cat_int, cat_long, cat_double, cat_float, cat_ref]) h
/-! FilterBenchModel.in(III)Z -/
set_option maxRecDepth 10000 in
set_option maxHeartbeats 4000000 in
theorem r_R_in_e {B : Nat} {SA : Nat → Nat} {d : Nat} (hd : 0 ≤ d) : ∀ (L : JLoc) (v0 : Int32) (v1 : Int32) (v2 : Int32) (μ : JMem) (r : Bool), jget L 0 = .int v0 → jget L 1 = .int v1 → jget L 2 = .int v2 → g_R_in v0 v1 v2 = r → jR B SA d m_R_in 0 L [] μ (some (.int (jb r))) μ := by
  intro L v0 v1 v2 μ r hl0 hl1 hl2 h
  unfold g_R_in at h
  refine jr_iload_n jf_189_0 rfl hl0 ?_
  refine jr_iload_n jf_189_1 rfl hl1 ?_
  replace h := ite_or h; rcases h with ⟨hc, h⟩ | ⟨hc, h⟩
  · refine jr_if2_lt_t jf_189_2 hc ?_
    refine jr_iconst jf_189_14 jc_i_0 ?_
    subst h
    exact jr_retZ (x := false) jf_189_15 jmt_189
  · refine jr_if2_lt_f jf_189_2 hc ?_
    refine jr_iload_n jf_189_5 rfl hl0 ?_
    refine jr_iload_n jf_189_6 rfl hl2 ?_
    replace h := ite_or h; rcases h with ⟨hc, h⟩ | ⟨hc, h⟩
    · refine jr_if2_gt_t jf_189_7 hc ?_
      refine jr_iconst jf_189_14 jc_i_0 ?_
      subst h
      exact jr_retZ (x := false) jf_189_15 jmt_189
    · refine jr_if2_gt_f jf_189_7 hc ?_
      refine jr_iconst jf_189_10 jc_i_1 ?_
      refine jr_goto jf_189_11 ?_
      subst h
      exact jr_retZ (x := true) jf_189_15 jmt_189
set_option maxRecDepth 10000 in
set_option maxHeartbeats 4000000 in
theorem r_R_in {B : Nat} {SA : Nat → Nat} {d : Nat} (hd : 0 ≤ d) : ∀ (v0 : Int32) (v1 : Int32) (v2 : Int32) (μ : JMem) (r : Bool), g_R_in v0 v1 v2 = r → jR B SA d m_R_in 0 (lv_args 0 [.int v0, .int v1, .int v2]) [] μ (some (.int (jb r))) μ := by
  intro v0 v1 v2 μ r h
  exact r_R_in_e hd (lv_args 0 _) _ _ _ _ _ (by simp [lv_args, jget, rv_cat, cat_int, cat_long, cat_double, cat_float, cat_ref]) (by simp [lv_args, jget, rv_cat, cat_int, cat_long, cat_double, cat_float, cat_ref]) (by simp [lv_args, jget, rv_cat, cat_int, cat_long, cat_double, cat_float, cat_ref]) h
/-! FilterBenchModel.isLength(II)Z -/
set_option maxRecDepth 10000 in
set_option maxHeartbeats 4000000 in
theorem r_R_isLength_12 {B : Nat} {SA : Nat → Nat} {d : Nat} (hd : 1 ≤ d) : ∀ (L : JLoc) (v1 : Int32) (μ : JMem) (r : Bool), jget L 1 = .int v1 → g_R_isLength_12 v1 = r → jR B SA d m_R_isLength 12 L [] μ (some (.int (jb r))) μ := by
  intro L v1 μ r hl1 h
  unfold g_R_isLength_12 at h
  refine jr_iload_n jf_190_12 rfl hl1 ?_
  refine jr_iconst jf_190_13 jc_i_1 ?_
  refine jr_bipush jf_190_14 jc_b_64 ?_
  refine jr_S3_3 jf_190_16 (by omega) (r_R_in (by omega) _ _ _ _ _ rfl) (Nat.le_of_ble_eq_true rfl) jml_189 (Nat.le_of_ble_eq_true rfl) ?_
  subst h
  exact jr_retZ jf_190_19 jmt_190
set_option maxRecDepth 10000 in
set_option maxHeartbeats 4000000 in
theorem r_R_isLength_55 {B : Nat} {SA : Nat → Nat} {d : Nat} (hd : 1 ≤ d) : ∀ (L : JLoc) (μ : JMem) (r : Bool), g_R_isLength_55 = r → jR B SA d m_R_isLength 55 L [] μ (some (.int (jb r))) μ := by
  intro L μ r h
  unfold g_R_isLength_55 at h
  refine jr_iconst jf_190_55 jc_i_1 ?_
  refine jr_goto jf_190_56 ?_
  subst h
  exact jr_retZ (x := true) jf_190_60 jmt_190
set_option maxRecDepth 10000 in
set_option maxHeartbeats 4000000 in
theorem r_R_isLength_e {B : Nat} {SA : Nat → Nat} {d : Nat} (hd : 1 ≤ d) : ∀ (L : JLoc) (v0 : Int32) (v1 : Int32) (μ : JMem) (r : Bool), jget L 0 = .int v0 → jget L 1 = .int v1 → g_R_isLength v0 v1 = r → jR B SA d m_R_isLength 0 L [] μ (some (.int (jb r))) μ := by
  intro L v0 v1 μ r hl0 hl1 h
  unfold g_R_isLength at h
  refine jr_iload_n jf_190_0 rfl hl0 ?_
  refine jr_bipush jf_190_1 jc_b_6 ?_
  replace h := ite_or h; rcases h with ⟨hc, h⟩ | ⟨hc, h⟩
  · refine jr_if2_eq_t jf_190_3 hc ?_
    exact r_R_isLength_12 hd _ _ _ _ hl1 h
  · refine jr_if2_eq_f jf_190_3 hc ?_
    refine jr_iload_n jf_190_6 rfl hl0 ?_
    refine jr_bipush jf_190_7 jc_b_8 ?_
    replace h := ite_or h; rcases h with ⟨hc, h⟩ | ⟨hc, h⟩
    · refine jr_if2_ne_f jf_190_9 hc ?_
      exact r_R_isLength_12 hd _ _ _ _ hl1 h
    · refine jr_if2_ne_t jf_190_9 hc ?_
      refine jr_iload_n jf_190_20 rfl hl0 ?_
      refine jr_bipush jf_190_21 jc_b_7 ?_
      replace h := ite_or h; rcases h with ⟨hc, h⟩ | ⟨hc, h⟩
      · refine jr_if2_ne_f jf_190_23 hc ?_
        refine jr_iload_n jf_190_26 rfl hl1 ?_
        refine jr_iconst jf_190_27 jc_i_1 ?_
        refine jr_bipush jf_190_28 jc_b_32 ?_
        refine jr_S3_3 jf_190_30 (by omega) (r_R_in (by omega) _ _ _ _ _ rfl) (Nat.le_of_ble_eq_true rfl) jml_189 (Nat.le_of_ble_eq_true rfl) ?_
        subst h
        exact jr_retZ jf_190_33 jmt_190
      · refine jr_if2_ne_t jf_190_23 hc ?_
        refine jr_iload_n jf_190_34 rfl hl0 ?_
        refine jr_bipush jf_190_35 jc_b_12 ?_
        refine jr_bipush jf_190_37 jc_b_14 ?_
        refine jr_S3_3 jf_190_39 (by omega) (r_R_in (by omega) _ _ _ _ _ rfl) (Nat.le_of_ble_eq_true rfl) jml_189 (Nat.le_of_ble_eq_true rfl) ?_
        replace h := ite_or h; rcases h with ⟨hc, h⟩ | ⟨hc, h⟩
        · refine jr_ifz_eq_f jf_190_42 hc ?_
          refine jr_iload_n jf_190_45 rfl hl1 ?_
          refine jr_iconst jf_190_46 jc_i_2 ?_
          refine jr_bipush jf_190_47 jc_b_8 ?_
          refine jr_S3_3 jf_190_49 (by omega) (r_R_in (by omega) _ _ _ _ _ rfl) (Nat.le_of_ble_eq_true rfl) jml_189 (Nat.le_of_ble_eq_true rfl) ?_
          replace h := ite_or h; rcases h with ⟨hc, h⟩ | ⟨hc, h⟩
          · refine jr_ifz_eq_f jf_190_52 hc ?_
            exact r_R_isLength_55 hd _  _ _ h
          · refine jr_ifz_eq_t jf_190_52 hc ?_
            refine jr_iconst jf_190_59 jc_i_0 ?_
            subst h
            exact jr_retZ (x := false) jf_190_60 jmt_190
        · refine jr_ifz_eq_t jf_190_42 hc ?_
          exact r_R_isLength_55 hd _  _ _ h
set_option maxRecDepth 10000 in
set_option maxHeartbeats 4000000 in
theorem r_R_isLength {B : Nat} {SA : Nat → Nat} {d : Nat} (hd : 1 ≤ d) : ∀ (v0 : Int32) (v1 : Int32) (μ : JMem) (r : Bool), g_R_isLength v0 v1 = r → jR B SA d m_R_isLength 0 (lv_args 0 [.int v0, .int v1]) [] μ (some (.int (jb r))) μ := by
  intro v0 v1 μ r h
  exact r_R_isLength_e hd (lv_args 0 _) _ _ _ _ (by simp [lv_args, jget, rv_cat, cat_int, cat_long, cat_double, cat_float, cat_ref]) (by simp [lv_args, jget, rv_cat, cat_int, cat_long, cat_double, cat_float, cat_ref]) h
/-! FilterBenchModel.clears(I)V -/
set_option maxRecDepth 10000 in
set_option maxHeartbeats 4000000 in
theorem r_R_clears_2 {N B : Nat} {SA : Nat → Nat} {d : Nat} (hd : 0 ≤ d) : ∀ (n : Nat), ∀ (L : JLoc) (v0 : Nat) (v1 : Int32) (v2 : Int32) (μ : JMem) (μ9 : JMem), jget L 0 = .ref v0 → jget L 1 = .int v1 → jget L 2 = .int v2 → g_R_clears_2 N B n v0 v1 v2 μ = some μ9 → jR B SA d m_R_clears 2 L [] μ none μ9 := by
  intro n
  induction n with
  | zero =>
    intro L v0 v1 v2 μ μ9 hl0 hl1 hl2 h
    unfold g_R_clears_2 at h
    cases h
  | succ n ih =>
    intro L v0 v1 v2 μ μ9 hl0 hl1 hl2 h
    unfold g_R_clears_2 at h
    refine jr_iload_n jf_192_2 rfl hl2 ?_
    refine jr_bipush jf_192_3 jc_b_64 ?_
    replace h := ite_or h; rcases h with ⟨hc, h⟩ | ⟨hc, h⟩
    · refine jr_if2_ge_t jf_192_5 hc ?_
      refine jr_aload_n jf_192_26 rfl hl0 ?_
      replace h := obd_of h; obtain ⟨x1, hx1, h⟩ := h
      refine jr_getA jf_192_27 hx1 ?_
      refine jr_iload_n jf_192_30 rfl hl1 ?_
      refine jr_iconst jf_192_31 jc_i_0 ?_
      replace h := obd_of h; obtain ⟨a2, rfl, h⟩ := h
      replace h := obd_of h; obtain ⟨μ3, hμ3, h⟩ := h
      refine jr_iastore jf_192_32 hμ3 ?_
      refine jr_aload_n jf_192_33 rfl hl0 ?_
      replace h := obd_of h; obtain ⟨x4, hx4, h⟩ := h
      refine jr_getA jf_192_34 hx4 ?_
      refine jr_iload_n jf_192_37 rfl hl1 ?_
      refine jr_lconst0 jf_192_38 ?_
      replace h := obd_of h; obtain ⟨a5, rfl, h⟩ := h
      replace h := obd_of h; obtain ⟨μ6, hμ6, h⟩ := h
      refine jr_lastore jf_192_39 hμ6 ?_
      obtain rfl := Option.some.inj h
      exact jr_return jf_192_40 jmt_192
    · refine jr_if2_ge_f jf_192_5 hc ?_
      refine jr_aload_n jf_192_8 rfl hl0 ?_
      replace h := obd_of h; obtain ⟨x7, hx7, h⟩ := h
      refine jr_getA jf_192_9 hx7 ?_
      refine jr_bipush jf_192_12 jc_b_64 ?_
      refine jr_iload_n jf_192_14 rfl hl1 ?_
      refine jr_imul jf_192_15 ?_
      refine jr_iload_n jf_192_16 rfl hl2 ?_
      refine jr_iadd jf_192_17 ?_
      refine jr_dconst0 jf_192_18 ?_
      replace h := obd_of h; obtain ⟨a8, rfl, h⟩ := h
      replace h := obd_of h; obtain ⟨μ9, hμ9, h⟩ := h
      refine jr_dastore jf_192_19 hμ9 ?_
      refine jr_iinc jf_192_20 jc_i_1 jml_192 (by decide) hl2 ?_
      refine jr_goto jf_192_23 ?_
      exact ih _ _ _ _ _ _ (jg1_ne rfl hl0) (jg1_pre rfl hl1) jg1_same h
set_option maxRecDepth 10000 in
set_option maxHeartbeats 4000000 in
theorem r_R_clears_e {N B : Nat} {SA : Nat → Nat} {d : Nat} (hd : 0 ≤ d) : ∀ (L : JLoc) (v0 : Nat) (v1 : Int32) (μ : JMem) (μ9 : JMem), jget L 0 = .ref v0 → jget L 1 = .int v1 → g_R_clears N B v0 v1 μ = some μ9 → jR B SA d m_R_clears 0 L [] μ none μ9 := by
  intro L v0 v1 μ μ9 hl0 hl1 h
  unfold g_R_clears at h
  refine jr_iconst jf_192_0 jc_i_0 ?_
  refine jr_istore_n jf_192_1 rfl jml_192 (by decide) ?_
  exact r_R_clears_2 hd _ _ _ _ _ _ _ (jg1_ne rfl hl0) (jg1_pre rfl hl1) jg1_same h
set_option maxRecDepth 10000 in
set_option maxHeartbeats 4000000 in
theorem r_R_clears {N B : Nat} {SA : Nat → Nat} {d : Nat} (hd : 0 ≤ d) : ∀ (v0 : Nat) (v1 : Int32) (μ : JMem) (μ9 : JMem), g_R_clears N B v0 v1 μ = some μ9 → jR B SA d m_R_clears 0 (lv_args 0 [.ref v0, .int v1]) [] μ none μ9 := by
  intro v0 v1 μ μ9 h
  exact r_R_clears_e hd (lv_args 0 _) _ _ _ _ (by simp [lv_args, jget, rv_cat, cat_int, cat_long, cat_double, cat_float, cat_ref]) (by simp [lv_args, jget, rv_cat, cat_int, cat_long, cat_double, cat_float, cat_ref]) h
/-! FilterBenchModel.newSection(III)I -/
set_option maxRecDepth 10000 in
set_option maxHeartbeats 4000000 in
theorem r_R_newSection_49 {N B : Nat} {SA : Nat → Nat} {d : Nat} (hd : 1 ≤ d) : ∀ (n : Nat), ∀ (L : JLoc) (v0 : Nat) (v4 : Int32) (v5 : Int32) (μ : JMem) (r : Int32) (μ9 : JMem), jget L 0 = .ref v0 → jget L 4 = .int v4 → jget L 5 = .int v5 → g_R_newSection_49 N B n v0 v4 v5 μ = some (r, μ9) → jR B SA d m_R_newSection 49 L [] μ (some (.int r)) μ9 := by
  intro n
  induction n with
  | zero =>
    intro L v0 v4 v5 μ r μ9 hl0 hl4 hl5 h
    unfold g_R_newSection_49 at h
    cases h
  | succ n ih =>
    intro L v0 v4 v5 μ r μ9 hl0 hl4 hl5 h
    unfold g_R_newSection_49 at h
    refine jr_iload jf_191_49 hl5 ?_
    refine jr_iconst jf_191_51 jc_i_5 ?_
    replace h := ite_or h; rcases h with ⟨hc, h⟩ | ⟨hc, h⟩
    · refine jr_if2_ge_t jf_191_52 hc ?_
      refine jr_aload_n jf_191_74 rfl hl0 ?_
      replace h := obd_of h; obtain ⟨x1, hx1, h⟩ := h
      refine jr_getA jf_191_75 hx1 ?_
      refine jr_iload jf_191_78 hl4 ?_
      refine jr_iconst jf_191_80 jc_i_m1 ?_
      replace h := obd_of h; obtain ⟨a2, rfl, h⟩ := h
      replace h := obd_of h; obtain ⟨μ3, hμ3, h⟩ := h
      refine jr_iastore jf_191_81 hμ3 ?_
      refine jr_aload_n jf_191_82 rfl hl0 ?_
      replace h := obd_of h; obtain ⟨x4, hx4, h⟩ := h
      refine jr_getA jf_191_83 hx4 ?_
      refine jr_iload jf_191_86 hl4 ?_
      refine jr_iconst jf_191_88 jc_i_m1 ?_
      replace h := obd_of h; obtain ⟨a5, rfl, h⟩ := h
      replace h := obd_of h; obtain ⟨μ6, hμ6, h⟩ := h
      refine jr_iastore jf_191_89 hμ6 ?_
      refine jr_aload_n jf_191_90 rfl hl0 ?_
      replace h := obd_of h; obtain ⟨x7, hx7, h⟩ := h
      refine jr_getA jf_191_91 hx7 ?_
      refine jr_iload jf_191_94 hl4 ?_
      refine jr_iconst jf_191_96 jc_i_m1 ?_
      replace h := obd_of h; obtain ⟨a8, rfl, h⟩ := h
      replace h := obd_of h; obtain ⟨μ9, hμ9, h⟩ := h
      refine jr_iastore jf_191_97 hμ9 ?_
      refine jr_aload_n jf_191_98 rfl hl0 ?_
      replace h := obd_of h; obtain ⟨x10, hx10, h⟩ := h
      refine jr_getA jf_191_99 hx10 ?_
      refine jr_iload jf_191_102 hl4 ?_
      refine jr_iconst jf_191_104 jc_i_0 ?_
      replace h := obd_of h; obtain ⟨a11, rfl, h⟩ := h
      replace h := obd_of h; obtain ⟨μ12, hμ12, h⟩ := h
      refine jr_iastore jf_191_105 hμ12 ?_
      refine jr_aload_n jf_191_106 rfl hl0 ?_
      replace h := obd_of h; obtain ⟨x13, hx13, h⟩ := h
      refine jr_getA jf_191_107 hx13 ?_
      refine jr_iload jf_191_110 hl4 ?_
      refine jr_iconst jf_191_112 jc_i_0 ?_
      replace h := obd_of h; obtain ⟨a14, rfl, h⟩ := h
      replace h := obd_of h; obtain ⟨μ15, hμ15, h⟩ := h
      refine jr_iastore jf_191_113 hμ15 ?_
      refine jr_aload_n jf_191_114 rfl hl0 ?_
      refine jr_iload jf_191_115 hl4 ?_
      replace h := jgd_of h; obtain ⟨hb16, h⟩ := h
      replace h := obd_of h; obtain ⟨μ17, hμ17, h⟩ := h
      refine jr_V6v_1 jf_191_117 hb16 (by omega) (r_R_clears (by omega) _ _ _ _ hμ17) (Nat.le_of_ble_eq_true rfl) jml_192 (Nat.le_of_ble_eq_true rfl) ?_
      refine jr_aload_n jf_191_120 rfl hl0 ?_
      refine jr_dup jf_191_121 rfl ?_
      replace h := obd_of h; obtain ⟨x18, hx18, h⟩ := h
      refine jr_getI jf_191_122 hx18 ?_
      refine jr_iconst jf_191_125 jc_i_1 ?_
      refine jr_iadd jf_191_126 ?_
      replace h := obd_of h; obtain ⟨μ19, hμ19, h⟩ := h
      refine jr_putI jf_191_127 rfl hμ19 ?_
      refine jr_iload jf_191_130 hl4 ?_
      obtain ⟨rfl, rfl⟩ := Prod.mk.inj (Option.some.inj h)
      exact jr_retI jf_191_132 jmt_191
    · refine jr_if2_ge_f jf_191_52 hc ?_
      refine jr_aload_n jf_191_55 rfl hl0 ?_
      replace h := obd_of h; obtain ⟨x20, hx20, h⟩ := h
      refine jr_getA jf_191_56 hx20 ?_
      refine jr_iconst jf_191_59 jc_i_5 ?_
      refine jr_iload jf_191_60 hl4 ?_
      refine jr_imul jf_191_62 ?_
      refine jr_iload jf_191_63 hl5 ?_
      refine jr_iadd jf_191_65 ?_
      refine jr_dconst0 jf_191_66 ?_
      replace h := obd_of h; obtain ⟨a21, rfl, h⟩ := h
      replace h := obd_of h; obtain ⟨μ22, hμ22, h⟩ := h
      refine jr_dastore jf_191_67 hμ22 ?_
      refine jr_iinc jf_191_68 jc_i_1 jml_191 (by decide) hl5 ?_
      refine jr_goto jf_191_71 ?_
      exact ih _ _ _ _ _ _ _ (jg1_ne rfl hl0) (jg1_pre rfl hl4) jg1_same h
set_option maxRecDepth 10000 in
set_option maxHeartbeats 4000000 in
theorem r_R_newSection_e {N B : Nat} {SA : Nat → Nat} {d : Nat} (hd : 1 ≤ d) : ∀ (L : JLoc) (v0 : Nat) (v1 : Int32) (v2 : Int32) (v3 : Int32) (μ : JMem) (r : Int32) (μ9 : JMem), jget L 0 = .ref v0 → jget L 1 = .int v1 → jget L 2 = .int v2 → jget L 3 = .int v3 → g_R_newSection N B v0 v1 v2 v3 μ = some (r, μ9) → jR B SA d m_R_newSection 0 L [] μ (some (.int r)) μ9 := by
  intro L v0 v1 v2 v3 μ r μ9 hl0 hl1 hl2 hl3 h
  unfold g_R_newSection at h
  refine jr_aload_n jf_191_0 rfl hl0 ?_
  replace h := obd_of h; obtain ⟨x1, hx1, h⟩ := h
  refine jr_getI jf_191_1 hx1 ?_
  refine jr_istore jf_191_4 jml_191 (by decide) ?_
  refine jr_aload_n jf_191_6 rfl (jg1_ne rfl hl0) ?_
  replace h := obd_of h; obtain ⟨x2, hx2, h⟩ := h
  refine jr_getA jf_191_7 hx2 ?_
  refine jr_iload jf_191_10 jg1_same ?_
  refine jr_iload_n jf_191_12 rfl (jg1_ne rfl hl1) ?_
  replace h := obd_of h; obtain ⟨a3, rfl, h⟩ := h
  replace h := obd_of h; obtain ⟨μ4, hμ4, h⟩ := h
  refine jr_iastore jf_191_13 hμ4 ?_
  refine jr_aload_n jf_191_14 rfl (jg1_ne rfl hl0) ?_
  replace h := obd_of h; obtain ⟨x5, hx5, h⟩ := h
  refine jr_getA jf_191_15 hx5 ?_
  refine jr_iload jf_191_18 jg1_same ?_
  refine jr_iload_n jf_191_20 rfl (jg1_ne rfl hl2) ?_
  replace h := obd_of h; obtain ⟨a6, rfl, h⟩ := h
  replace h := obd_of h; obtain ⟨μ7, hμ7, h⟩ := h
  refine jr_iastore jf_191_21 hμ7 ?_
  refine jr_aload_n jf_191_22 rfl (jg1_ne rfl hl0) ?_
  replace h := obd_of h; obtain ⟨x8, hx8, h⟩ := h
  refine jr_getA jf_191_23 hx8 ?_
  refine jr_iload jf_191_26 jg1_same ?_
  refine jr_iload_n jf_191_28 rfl (jg1_pre rfl hl3) ?_
  replace h := obd_of h; obtain ⟨a9, rfl, h⟩ := h
  replace h := obd_of h; obtain ⟨μ10, hμ10, h⟩ := h
  refine jr_iastore jf_191_29 hμ10 ?_
  refine jr_aload_n jf_191_30 rfl (jg1_ne rfl hl0) ?_
  replace h := obd_of h; obtain ⟨x11, hx11, h⟩ := h
  refine jr_getA jf_191_31 hx11 ?_
  refine jr_iload jf_191_34 jg1_same ?_
  refine jr_iconst jf_191_36 jc_i_0 ?_
  replace h := obd_of h; obtain ⟨a12, rfl, h⟩ := h
  replace h := obd_of h; obtain ⟨μ13, hμ13, h⟩ := h
  refine jr_iastore jf_191_37 hμ13 ?_
  refine jr_aload_n jf_191_38 rfl (jg1_ne rfl hl0) ?_
  replace h := obd_of h; obtain ⟨x14, hx14, h⟩ := h
  refine jr_getA jf_191_39 hx14 ?_
  refine jr_iload jf_191_42 jg1_same ?_
  refine jr_iconst jf_191_44 jc_i_0 ?_
  replace h := obd_of h; obtain ⟨a15, rfl, h⟩ := h
  replace h := obd_of h; obtain ⟨μ16, hμ16, h⟩ := h
  refine jr_iastore jf_191_45 hμ16 ?_
  refine jr_iconst jf_191_46 jc_i_0 ?_
  refine jr_istore jf_191_47 jml_191 (by decide) ?_
  exact r_R_newSection_49 hd _ _ _ _ _ _ _ _ (jg1_ne rfl (jg1_ne rfl hl0)) (jg1_pre rfl jg1_same) jg1_same h
set_option maxRecDepth 10000 in
set_option maxHeartbeats 4000000 in
theorem r_R_newSection {N B : Nat} {SA : Nat → Nat} {d : Nat} (hd : 1 ≤ d) : ∀ (v0 : Nat) (v1 : Int32) (v2 : Int32) (v3 : Int32) (μ : JMem) (r : Int32) (μ9 : JMem), g_R_newSection N B v0 v1 v2 v3 μ = some (r, μ9) → jR B SA d m_R_newSection 0 (lv_args 0 [.ref v0, .int v1, .int v2, .int v3]) [] μ (some (.int r)) μ9 := by
  intro v0 v1 v2 v3 μ r μ9 h
  exact r_R_newSection_e hd (lv_args 0 _) _ _ _ _ _ _ _ (by simp [lv_args, jget, rv_cat, cat_int, cat_long, cat_double, cat_float, cat_ref]) (by simp [lv_args, jget, rv_cat, cat_int, cat_long, cat_double, cat_float, cat_ref]) (by simp [lv_args, jget, rv_cat, cat_int, cat_long, cat_double, cat_float, cat_ref]) (by simp [lv_args, jget, rv_cat, cat_int, cat_long, cat_double, cat_float, cat_ref]) h
/-! FilterBenchModel.section(III)I -/
set_option maxRecDepth 10000 in
set_option maxHeartbeats 4000000 in
theorem r_R_section_e {N B : Nat} {SA : Nat → Nat} {d : Nat} (hd : 2 ≤ d) : ∀ (L : JLoc) (v0 : Nat) (v1 : Int32) (v2 : Int32) (v3 : Int32) (μ : JMem) (r : Int32) (μ9 : JMem), jget L 0 = .ref v0 → jget L 1 = .int v1 → jget L 2 = .int v2 → jget L 3 = .int v3 → g_R_section N B v0 v1 v2 v3 μ = some (r, μ9) → jR B SA d m_R_section 0 L [] μ (some (.int r)) μ9 := by
  intro L v0 v1 v2 v3 μ r μ9 hl0 hl1 hl2 hl3 h
  unfold g_R_section at h
  refine jr_aload_n jf_188_0 rfl hl0 ?_
  replace h := obd_of h; obtain ⟨x1, hx1, h⟩ := h
  refine jr_getI jf_188_1 hx1 ?_
  refine jr_bipush jf_188_4 jc_b_60 ?_
  replace h := ite_or h; rcases h with ⟨hc, h⟩ | ⟨hc, h⟩
  · refine jr_if2_eq_t jf_188_6 hc ?_
    refine jr_iconst jf_188_36 jc_i_m1 ?_
    obtain ⟨rfl, rfl⟩ := Prod.mk.inj (Option.some.inj h)
    exact jr_retI jf_188_37 jmt_188
  · refine jr_if2_eq_f jf_188_6 hc ?_
    refine jr_iload_n jf_188_9 rfl hl1 ?_
    refine jr_iconst jf_188_10 jc_i_0 ?_
    refine jr_bipush jf_188_11 jc_b_15 ?_
    refine jr_S3_3 jf_188_13 (by omega) (r_R_in (by omega) _ _ _ _ _ rfl) (Nat.le_of_ble_eq_true rfl) jml_189 (Nat.le_of_ble_eq_true rfl) ?_
    replace h := ite_or h; rcases h with ⟨hc, h⟩ | ⟨hc, h⟩
    · refine jr_ifz_eq_f jf_188_16 hc ?_
      refine jr_iload_n jf_188_19 rfl hl2 ?_
      refine jr_iconst jf_188_20 jc_i_0 ?_
      refine jr_iconst jf_188_21 jc_i_2 ?_
      refine jr_S3_3 jf_188_22 (by omega) (r_R_in (by omega) _ _ _ _ _ rfl) (Nat.le_of_ble_eq_true rfl) jml_189 (Nat.le_of_ble_eq_true rfl) ?_
      replace h := ite_or h; rcases h with ⟨hc, h⟩ | ⟨hc, h⟩
      · refine jr_ifz_eq_f jf_188_25 hc ?_
        refine jr_iload_n jf_188_28 rfl hl1 ?_
        refine jr_iload_n jf_188_29 rfl hl3 ?_
        refine jr_S3_2 jf_188_30 (by omega) (r_R_isLength (by omega) _ _ _ _ rfl) (Nat.le_of_ble_eq_true rfl) jml_190 (Nat.le_of_ble_eq_true rfl) ?_
        replace h := ite_or h; rcases h with ⟨hc, h⟩ | ⟨hc, h⟩
        · refine jr_ifz_ne_t jf_188_33 hc ?_
          refine jr_aload_n jf_188_38 rfl hl0 ?_
          refine jr_iload_n jf_188_39 rfl hl1 ?_
          refine jr_iload_n jf_188_40 rfl hl2 ?_
          refine jr_iload_n jf_188_41 rfl hl3 ?_
          replace h := jgd_of h; obtain ⟨hb2, h⟩ := h
          replace h := jbd2_of h; obtain ⟨x3, μ4, hx3, h⟩ := h
          refine jr_V6_3 jf_188_42 hb2 (by omega) (r_R_newSection (by omega) _ _ _ _ _ _ _ hx3) (Nat.le_of_ble_eq_true rfl) jml_191 (Nat.le_of_ble_eq_true rfl) ?_
          obtain ⟨rfl, rfl⟩ := Prod.mk.inj (Option.some.inj h)
          exact jr_retI jf_188_45 jmt_188
        · refine jr_ifz_ne_f jf_188_33 hc ?_
          refine jr_iconst jf_188_36 jc_i_m1 ?_
          obtain ⟨rfl, rfl⟩ := Prod.mk.inj (Option.some.inj h)
          exact jr_retI jf_188_37 jmt_188
      · refine jr_ifz_eq_t jf_188_25 hc ?_
        refine jr_iconst jf_188_36 jc_i_m1 ?_
        obtain ⟨rfl, rfl⟩ := Prod.mk.inj (Option.some.inj h)
        exact jr_retI jf_188_37 jmt_188
    · refine jr_ifz_eq_t jf_188_16 hc ?_
      refine jr_iconst jf_188_36 jc_i_m1 ?_
      obtain ⟨rfl, rfl⟩ := Prod.mk.inj (Option.some.inj h)
      exact jr_retI jf_188_37 jmt_188
set_option maxRecDepth 10000 in
set_option maxHeartbeats 4000000 in
theorem r_R_section {N B : Nat} {SA : Nat → Nat} {d : Nat} (hd : 2 ≤ d) : ∀ (v0 : Nat) (v1 : Int32) (v2 : Int32) (v3 : Int32) (μ : JMem) (r : Int32) (μ9 : JMem), g_R_section N B v0 v1 v2 v3 μ = some (r, μ9) → jR B SA d m_R_section 0 (lv_args 0 [.ref v0, .int v1, .int v2, .int v3]) [] μ (some (.int r)) μ9 := by
  intro v0 v1 v2 v3 μ r μ9 h
  exact r_R_section_e hd (lv_args 0 _) _ _ _ _ _ _ _ (by simp [lv_args, jget, rv_cat, cat_int, cat_long, cat_double, cat_float, cat_ref]) (by simp [lv_args, jget, rv_cat, cat_int, cat_long, cat_double, cat_float, cat_ref]) (by simp [lv_args, jget, rv_cat, cat_int, cat_long, cat_double, cat_float, cat_ref]) (by simp [lv_args, jget, rv_cat, cat_int, cat_long, cat_double, cat_float, cat_ref]) h
/-! FilterBenchModel.coefficientsOf(I)I -/
set_option maxRecDepth 10000 in
set_option maxHeartbeats 4000000 in
theorem r_R_coefficientsOf_e {B : Nat} {SA : Nat → Nat} {d : Nat} (hd : 0 ≤ d) : ∀ (L : JLoc) (v0 : Int32) (μ : JMem) (r : Int32), jget L 0 = .int v0 → g_R_coefficientsOf v0 = r → jR B SA d m_R_coefficientsOf 0 L [] μ (some (.int r)) μ := by
  intro L v0 μ r hl0 h
  unfold g_R_coefficientsOf at h
  refine jr_iload_n jf_196_0 rfl hl0 ?_
  refine jr_switch jf_196_1 ?_
  replace h := ite_or h; rcases h with ⟨hc, h⟩ | ⟨hc, h⟩
  · refine jsw_hit (by decide) hc ?_
    refine jr_iconst jf_196_76 jc_i_2 ?_
    subst h
    exact jr_retI jf_196_77 jmt_196
  · refine jsw_miss (by decide) hc (by decide : (1 : Int) + 1 = 2) ?_
    replace h := ite_or h; rcases h with ⟨hc, h⟩ | ⟨hc, h⟩
    · refine jsw_hit (by decide) hc ?_
      refine jr_iconst jf_196_78 jc_i_5 ?_
      subst h
      exact jr_retI jf_196_79 jmt_196
    · refine jsw_miss (by decide) hc (by decide : (2 : Int) + 1 = 3) ?_
      replace h := ite_or h; rcases h with ⟨hc, h⟩ | ⟨hc, h⟩
      · refine jsw_hit (by decide) hc ?_
        refine jr_iconst jf_196_78 jc_i_5 ?_
        subst h
        exact jr_retI jf_196_79 jmt_196
      · refine jsw_miss (by decide) hc (by decide : (3 : Int) + 1 = 4) ?_
        replace h := ite_or h; rcases h with ⟨hc, h⟩ | ⟨hc, h⟩
        · refine jsw_hit (by decide) hc ?_
          refine jr_iconst jf_196_78 jc_i_5 ?_
          subst h
          exact jr_retI jf_196_79 jmt_196
        · refine jsw_miss (by decide) hc (by decide : (4 : Int) + 1 = 5) ?_
          replace h := ite_or h; rcases h with ⟨hc, h⟩ | ⟨hc, h⟩
          · refine jsw_hit (by decide) hc ?_
            refine jr_iconst jf_196_82 jc_i_1 ?_
            subst h
            exact jr_retI jf_196_83 jmt_196
          · refine jsw_miss (by decide) hc (by decide : (5 : Int) + 1 = 6) ?_
            replace h := ite_or h; rcases h with ⟨hc, h⟩ | ⟨hc, h⟩
            · refine jsw_hit (by decide) hc ?_
              refine jr_iconst jf_196_80 jc_i_0 ?_
              subst h
              exact jr_retI jf_196_81 jmt_196
            · refine jsw_miss (by decide) hc (by decide : (6 : Int) + 1 = 7) ?_
              replace h := ite_or h; rcases h with ⟨hc, h⟩ | ⟨hc, h⟩
              · refine jsw_hit (by decide) hc ?_
                refine jr_iconst jf_196_82 jc_i_1 ?_
                subst h
                exact jr_retI jf_196_83 jmt_196
              · refine jsw_miss (by decide) hc (by decide : (7 : Int) + 1 = 8) ?_
                replace h := ite_or h; rcases h with ⟨hc, h⟩ | ⟨hc, h⟩
                · refine jsw_hit (by decide) hc ?_
                  refine jr_iconst jf_196_82 jc_i_1 ?_
                  subst h
                  exact jr_retI jf_196_83 jmt_196
                · refine jsw_miss (by decide) hc (by decide : (8 : Int) + 1 = 9) ?_
                  replace h := ite_or h; rcases h with ⟨hc, h⟩ | ⟨hc, h⟩
                  · refine jsw_hit (by decide) hc ?_
                    refine jr_iconst jf_196_82 jc_i_1 ?_
                    subst h
                    exact jr_retI jf_196_83 jmt_196
                  · refine jsw_miss (by decide) hc (by decide : (9 : Int) + 1 = 10) ?_
                    replace h := ite_or h; rcases h with ⟨hc, h⟩ | ⟨hc, h⟩
                    · refine jsw_hit (by decide) hc ?_
                      refine jr_iconst jf_196_82 jc_i_1 ?_
                      subst h
                      exact jr_retI jf_196_83 jmt_196
                    · refine jsw_miss (by decide) hc (by decide : (10 : Int) + 1 = 11) ?_
                      replace h := ite_or h; rcases h with ⟨hc, h⟩ | ⟨hc, h⟩
                      · refine jsw_hit (by decide) hc ?_
                        refine jr_iconst jf_196_82 jc_i_1 ?_
                        subst h
                        exact jr_retI jf_196_83 jmt_196
                      · refine jsw_miss (by decide) hc (by decide : (11 : Int) + 1 = 12) ?_
                        replace h := ite_or h; rcases h with ⟨hc, h⟩ | ⟨hc, h⟩
                        · refine jsw_hit (by decide) hc ?_
                          refine jr_iconst jf_196_80 jc_i_0 ?_
                          subst h
                          exact jr_retI jf_196_81 jmt_196
                        · refine jsw_miss (by decide) hc (by decide : (12 : Int) + 1 = 13) ?_
                          replace h := ite_or h; rcases h with ⟨hc, h⟩ | ⟨hc, h⟩
                          · refine jsw_hit (by decide) hc ?_
                            refine jr_iconst jf_196_80 jc_i_0 ?_
                            subst h
                            exact jr_retI jf_196_81 jmt_196
                          · refine jsw_miss (by decide) hc (by decide : (13 : Int) + 1 = 14) ?_
                            replace h := ite_or h; rcases h with ⟨hc, h⟩ | ⟨hc, h⟩
                            · refine jsw_hit (by decide) hc ?_
                              refine jr_iconst jf_196_80 jc_i_0 ?_
                              subst h
                              exact jr_retI jf_196_81 jmt_196
                            · refine jsw_miss (by decide) hc (by decide : (14 : Int) + 1 = 15) ?_
                              replace h := ite_or h; rcases h with ⟨hc, h⟩ | ⟨hc, h⟩
                              · refine jsw_hit (by decide) hc ?_
                                refine jr_iconst jf_196_76 jc_i_2 ?_
                                subst h
                                exact jr_retI jf_196_77 jmt_196
                              · refine jsw_miss (by decide) hc (by decide : (15 : Int) + 1 = 16) ?_
                                refine jsw_end ?_
                                refine jr_iconst jf_196_82 jc_i_1 ?_
                                subst h
                                exact jr_retI jf_196_83 jmt_196
set_option maxRecDepth 10000 in
set_option maxHeartbeats 4000000 in
theorem r_R_coefficientsOf {B : Nat} {SA : Nat → Nat} {d : Nat} (hd : 0 ≤ d) : ∀ (v0 : Int32) (μ : JMem) (r : Int32), g_R_coefficientsOf v0 = r → jR B SA d m_R_coefficientsOf 0 (lv_args 0 [.int v0]) [] μ (some (.int r)) μ := by
  intro v0 μ r h
  exact r_R_coefficientsOf_e hd (lv_args 0 _) _ _ _ (by simp [lv_args, jget, rv_cat, cat_int, cat_long, cat_double, cat_float, cat_ref]) h
/-! FilterBenchModel.isSection(I)Z -/
set_option maxRecDepth 10000 in
set_option maxHeartbeats 4000000 in
theorem r_R_isSection_e {B : Nat} {SA : Nat → Nat} {d : Nat} (hd : 1 ≤ d) : ∀ (L : JLoc) (v0 : Nat) (v1 : Int32) (μ : JMem) (r : Bool), jget L 0 = .ref v0 → jget L 1 = .int v1 → g_R_isSection v0 v1 μ.1 = some r → jR B SA d m_R_isSection 0 L [] μ (some (.int (jb r))) μ := by
  intro L v0 v1 μ r hl0 hl1 h
  unfold g_R_isSection at h
  refine jr_iload_n jf_195_0 rfl hl1 ?_
  refine jr_iconst jf_195_1 jc_i_0 ?_
  refine jr_aload_n jf_195_2 rfl hl0 ?_
  replace h := obd_of h; obtain ⟨x1, hx1, h⟩ := h
  refine jr_getI jf_195_3 hx1 ?_
  refine jr_iconst jf_195_6 jc_i_1 ?_
  refine jr_isub jf_195_7 ?_
  refine jr_S3_3 jf_195_8 (by omega) (r_R_in (by omega) _ _ _ _ _ rfl) (Nat.le_of_ble_eq_true rfl) jml_189 (Nat.le_of_ble_eq_true rfl) ?_
  obtain rfl := Option.some.inj h
  exact jr_retZ jf_195_11 jmt_195
set_option maxRecDepth 10000 in
set_option maxHeartbeats 4000000 in
theorem r_R_isSection {B : Nat} {SA : Nat → Nat} {d : Nat} (hd : 1 ≤ d) : ∀ (v0 : Nat) (v1 : Int32) (μ : JMem) (r : Bool), g_R_isSection v0 v1 μ.1 = some r → jR B SA d m_R_isSection 0 (lv_args 0 [.ref v0, .int v1]) [] μ (some (.int (jb r))) μ := by
  intro v0 v1 μ r h
  exact r_R_isSection_e hd (lv_args 0 _) _ _ _ _ (by simp [lv_args, jget, rv_cat, cat_int, cat_long, cat_double, cat_float, cat_ref]) (by simp [lv_args, jget, rv_cat, cat_int, cat_long, cat_double, cat_float, cat_ref]) h
/-! FilterBenchModel.isCoefficient(II)Z -/
set_option maxRecDepth 10000 in
set_option maxHeartbeats 4000000 in
theorem r_R_isCoefficient_e {B : Nat} {SA : Nat → Nat} {d : Nat} (hd : 2 ≤ d) : ∀ (L : JLoc) (v0 : Nat) (v1 : Int32) (v2 : Int32) (μ : JMem) (r : Bool), jget L 0 = .ref v0 → jget L 1 = .int v1 → jget L 2 = .int v2 → g_R_isCoefficient v0 v1 v2 μ.1 = some r → jR B SA d m_R_isCoefficient 0 L [] μ (some (.int (jb r))) μ := by
  intro L v0 v1 v2 μ r hl0 hl1 hl2 h
  unfold g_R_isCoefficient at h
  refine jr_aload_n jf_194_0 rfl hl0 ?_
  refine jr_iload_n jf_194_1 rfl hl1 ?_
  replace h := jgd_of h; obtain ⟨hb1, h⟩ := h
  replace h := obd_of h; obtain ⟨x2, hx2, h⟩ := h
  refine jr_V6_1 jf_194_2 hb1 (by omega) (r_R_isSection (by omega) _ _ _ _ hx2) (Nat.le_of_ble_eq_true rfl) jml_195 (Nat.le_of_ble_eq_true rfl) ?_
  replace h := ite_or h; rcases h with ⟨hc, h⟩ | ⟨hc, h⟩
  · refine jr_ifz_eq_f jf_194_5 hc ?_
    refine jr_iload_n jf_194_8 rfl hl2 ?_
    refine jr_iconst jf_194_9 jc_i_0 ?_
    refine jr_aload_n jf_194_10 rfl hl0 ?_
    replace h := obd_of h; obtain ⟨x3, hx3, h⟩ := h
    refine jr_getA jf_194_11 hx3 ?_
    refine jr_iload_n jf_194_14 rfl hl1 ?_
    replace h := obd_of h; obtain ⟨a4, rfl, h⟩ := h
    replace h := obd_of h; obtain ⟨x5, hx5, h⟩ := h
    refine jr_iaload jf_194_15 hx5 ?_
    refine jr_S3_1 jf_194_16 (by omega) (r_R_coefficientsOf (by omega) _ _ _ rfl) (Nat.le_of_ble_eq_true rfl) jml_196 (Nat.le_of_ble_eq_true rfl) ?_
    refine jr_iconst jf_194_19 jc_i_1 ?_
    refine jr_isub jf_194_20 ?_
    refine jr_S3_3 jf_194_21 (by omega) (r_R_in (by omega) _ _ _ _ _ rfl) (Nat.le_of_ble_eq_true rfl) jml_189 (Nat.le_of_ble_eq_true rfl) ?_
    replace h := ite_or h; rcases h with ⟨hc, h⟩ | ⟨hc, h⟩
    · refine jr_ifz_eq_f jf_194_24 hc ?_
      refine jr_iconst jf_194_27 jc_i_1 ?_
      refine jr_goto jf_194_28 ?_
      obtain rfl := Option.some.inj h
      exact jr_retZ (x := true) jf_194_32 jmt_194
    · refine jr_ifz_eq_t jf_194_24 hc ?_
      refine jr_iconst jf_194_31 jc_i_0 ?_
      obtain rfl := Option.some.inj h
      exact jr_retZ (x := false) jf_194_32 jmt_194
  · refine jr_ifz_eq_t jf_194_5 hc ?_
    refine jr_iconst jf_194_31 jc_i_0 ?_
    obtain rfl := Option.some.inj h
    exact jr_retZ (x := false) jf_194_32 jmt_194
set_option maxRecDepth 10000 in
set_option maxHeartbeats 4000000 in
theorem r_R_isCoefficient {B : Nat} {SA : Nat → Nat} {d : Nat} (hd : 2 ≤ d) : ∀ (v0 : Nat) (v1 : Int32) (v2 : Int32) (μ : JMem) (r : Bool), g_R_isCoefficient v0 v1 v2 μ.1 = some r → jR B SA d m_R_isCoefficient 0 (lv_args 0 [.ref v0, .int v1, .int v2]) [] μ (some (.int (jb r))) μ := by
  intro v0 v1 v2 μ r h
  exact r_R_isCoefficient_e hd (lv_args 0 _) _ _ _ _ _ (by simp [lv_args, jget, rv_cat, cat_int, cat_long, cat_double, cat_float, cat_ref]) (by simp [lv_args, jget, rv_cat, cat_int, cat_long, cat_double, cat_float, cat_ref]) (by simp [lv_args, jget, rv_cat, cat_int, cat_long, cat_double, cat_float, cat_ref]) h
/-! FilterBenchModel.isValue(IJ)Z -/
set_option maxRecDepth 10000 in
set_option maxHeartbeats 4000000 in
theorem r_R_isValue_47 {B : Nat} {SA : Nat → Nat} {d : Nat} (hd : 0 ≤ d) : ∀ (L : JLoc) (μ : JMem) (r : Bool), g_R_isValue_47 = r → jR B SA d m_R_isValue 47 L [] μ (some (.int (jb r))) μ := by
  intro L μ r h
  unfold g_R_isValue_47 at h
  refine jr_iconst jf_197_47 jc_i_1 ?_
  refine jr_goto jf_197_48 ?_
  subst h
  exact jr_retZ (x := true) jf_197_52 jmt_197
set_option maxRecDepth 10000 in
set_option maxHeartbeats 4000000 in
theorem r_R_isValue_e {B : Nat} {SA : Nat → Nat} {d : Nat} (hd : 0 ≤ d) : ∀ (L : JLoc) (v0 : Int32) (v1 : Int64) (μ : JMem) (r : Bool), jget L 0 = .int v0 → jget L 1 = .long v1 → g_R_isValue v0 v1 = r → jR B SA d m_R_isValue 0 L [] μ (some (.int (jb r))) μ := by
  intro L v0 v1 μ r hl0 hl1 h
  unfold g_R_isValue at h
  refine jr_iload_n jf_197_0 rfl hl0 ?_
  refine jr_iconst jf_197_1 jc_i_2 ?_
  replace h := ite_or h; rcases h with ⟨hc, h⟩ | ⟨hc, h⟩
  · refine jr_if2_ne_f jf_197_2 hc ?_
    refine jr_lload_n jf_197_5 rfl hl1 ?_
    refine jr_ldc2l jf_197_6 ?_
    refine jr_lcmp jf_197_9 ?_
    replace h := ite_or h; rcases h with ⟨hc, h⟩ | ⟨hc, h⟩
    · refine jr_ifl_lt_t jf_197_10 hc ?_
      refine jr_iconst jf_197_25 jc_i_0 ?_
      subst h
      exact jr_retZ (x := false) jf_197_26 jmt_197
    · refine jr_ifl_lt_f jf_197_10 hc ?_
      refine jr_lload_n jf_197_13 rfl hl1 ?_
      refine jr_ldc2l jf_197_14 ?_
      refine jr_lcmp jf_197_17 ?_
      replace h := ite_or h; rcases h with ⟨hc, h⟩ | ⟨hc, h⟩
      · refine jr_ifl_gt_t jf_197_18 hc ?_
        refine jr_iconst jf_197_25 jc_i_0 ?_
        subst h
        exact jr_retZ (x := false) jf_197_26 jmt_197
      · refine jr_ifl_gt_f jf_197_18 hc ?_
        refine jr_iconst jf_197_21 jc_i_1 ?_
        refine jr_goto jf_197_22 ?_
        subst h
        exact jr_retZ (x := true) jf_197_26 jmt_197
  · refine jr_if2_ne_t jf_197_2 hc ?_
    refine jr_iload_n jf_197_27 rfl hl0 ?_
    replace h := ite_or h; rcases h with ⟨hc, h⟩ | ⟨hc, h⟩
    · refine jr_if_eq_t jf_197_28 hc ?_
      exact r_R_isValue_47 hd _  _ _ h
    · refine jr_if_eq_f jf_197_28 hc ?_
      refine jr_lload_n jf_197_31 rfl hl1 ?_
      refine jr_ldc2l jf_197_32 ?_
      refine jr_lcmp jf_197_35 ?_
      replace h := ite_or h; rcases h with ⟨hc, h⟩ | ⟨hc, h⟩
      · refine jr_ifl_lt_t jf_197_36 hc ?_
        refine jr_iconst jf_197_51 jc_i_0 ?_
        subst h
        exact jr_retZ (x := false) jf_197_52 jmt_197
      · refine jr_ifl_lt_f jf_197_36 hc ?_
        refine jr_lload_n jf_197_39 rfl hl1 ?_
        refine jr_ldc2l jf_197_40 ?_
        refine jr_lcmp jf_197_43 ?_
        replace h := ite_or h; rcases h with ⟨hc, h⟩ | ⟨hc, h⟩
        · refine jr_ifl_gt_t jf_197_44 hc ?_
          refine jr_iconst jf_197_51 jc_i_0 ?_
          subst h
          exact jr_retZ (x := false) jf_197_52 jmt_197
        · refine jr_ifl_gt_f jf_197_44 hc ?_
          exact r_R_isValue_47 hd _  _ _ h
set_option maxRecDepth 10000 in
set_option maxHeartbeats 4000000 in
theorem r_R_isValue {B : Nat} {SA : Nat → Nat} {d : Nat} (hd : 0 ≤ d) : ∀ (v0 : Int32) (v1 : Int64) (μ : JMem) (r : Bool), g_R_isValue v0 v1 = r → jR B SA d m_R_isValue 0 (lv_args 0 [.int v0, .long v1]) [] μ (some (.int (jb r))) μ := by
  intro v0 v1 μ r h
  exact r_R_isValue_e hd (lv_args 0 _) _ _ _ _ (by simp [lv_args, jget, rv_cat, cat_int, cat_long, cat_double, cat_float, cat_ref]) (by simp [lv_args, jget, rv_cat, cat_int, cat_long, cat_double, cat_float, cat_ref]) h
/-! FilterBenchModel.valueOf(IJ)D -/
set_option maxRecDepth 10000 in
set_option maxHeartbeats 4000000 in
theorem r_R_valueOf_e {B : Nat} {SA : Nat → Nat} {d : Nat} (hd : 1 ≤ d) : ∀ (L : JLoc) (v0 : Int32) (v1 : Int64) (μ : JMem) (r : UInt64), jget L 0 = .int v0 → jget L 1 = .long v1 → g_R_valueOf v0 v1 = some r → jR B SA d m_R_valueOf 0 L [] μ (some (.double r)) μ := by
  intro L v0 v1 μ r hl0 hl1 h
  unfold g_R_valueOf at h
  refine jr_iload_n jf_198_0 rfl hl0 ?_
  replace h := ite_or h; rcases h with ⟨hc, h⟩ | ⟨hc, h⟩
  · refine jr_if_ne_f jf_198_1 hc ?_
    refine jr_lload_n jf_198_4 rfl hl1 ?_
    refine jr_ldc2l jf_198_5 ?_
    refine jr_land jf_198_8 ?_
    refine jr_ldc2l jf_198_9 ?_
    refine jr_lcmp jf_198_12 ?_
    replace h := ite_or h; rcases h with ⟨hc, h⟩ | ⟨hc, h⟩
    · refine jr_ifl_le_t jf_198_13 hc ?_
      refine jr_lload_n jf_198_22 rfl hl1 ?_
      replace h := obd_of h; obtain ⟨x1, hx1, h⟩ := h
      refine jr_l2dn jf_198_23 hx1 (by omega) (Nat.le_of_ble_eq_true rfl) ?_
      obtain rfl := Option.some.inj h
      exact jr_retD jf_198_26 jmt_198
    · refine jr_ifl_le_f jf_198_13 hc ?_
      refine jr_ldc2d jf_198_16 ?_
      refine jr_goto jf_198_19 ?_
      obtain rfl := Option.some.inj h
      exact jr_retD jf_198_26 jmt_198
  · refine jr_if_ne_t jf_198_1 hc ?_
    refine jr_iload_n jf_198_27 rfl hl0 ?_
    refine jr_iconst jf_198_28 jc_i_1 ?_
    replace h := ite_or h; rcases h with ⟨hc, h⟩ | ⟨hc, h⟩
    · refine jr_if2_eq_t jf_198_29 hc ?_
      refine jr_lload_n jf_198_35 rfl hl1 ?_
      refine jr_l2i jf_198_36 ?_
      refine jr_ldc jf_198_37 ?_
      refine jr_iand jf_198_39 ?_
      refine jr_ldc jf_198_40 ?_
      replace h := ite_or h; rcases h with ⟨hc, h⟩ | ⟨hc, h⟩
      · refine jr_if2_le_t jf_198_42 hc ?_
        refine jr_lload_n jf_198_49 rfl hl1 ?_
        refine jr_l2i jf_198_50 ?_
        replace h := obd_of h; obtain ⟨x2, hx2, h⟩ := h
        refine jr_i2fn jf_198_51 hx2 (by omega) (Nat.le_of_ble_eq_true rfl) ?_
        replace h := obd_of h; obtain ⟨x3, hx3, h⟩ := h
        refine jr_f2d jf_198_54 hx3 ?_
        obtain rfl := Option.some.inj h
        exact jr_retD jf_198_55 jmt_198
      · refine jr_if2_le_f jf_198_42 hc ?_
        refine jr_ldc2d jf_198_45 ?_
        obtain rfl := Option.some.inj h
        exact jr_retD jf_198_48 jmt_198
    · refine jr_if2_eq_f jf_198_29 hc ?_
      refine jr_lload_n jf_198_32 rfl hl1 ?_
      refine jr_l2d jf_198_33 ?_
      obtain rfl := Option.some.inj h
      exact jr_retD jf_198_34 jmt_198
set_option maxRecDepth 10000 in
set_option maxHeartbeats 4000000 in
theorem r_R_valueOf {B : Nat} {SA : Nat → Nat} {d : Nat} (hd : 1 ≤ d) : ∀ (v0 : Int32) (v1 : Int64) (μ : JMem) (r : UInt64), g_R_valueOf v0 v1 = some r → jR B SA d m_R_valueOf 0 (lv_args 0 [.int v0, .long v1]) [] μ (some (.double r)) μ := by
  intro v0 v1 μ r h
  exact r_R_valueOf_e hd (lv_args 0 _) _ _ _ _ (by simp [lv_args, jget, rv_cat, cat_int, cat_long, cat_double, cat_float, cat_ref]) (by simp [lv_args, jget, rv_cat, cat_int, cat_long, cat_double, cat_float, cat_ref]) h
/-! FilterBenchModel.coefficient(IIJ)Z -/
set_option maxRecDepth 10000 in
set_option maxHeartbeats 4000000 in
theorem r_R_coefficient_e {B : Nat} {SA : Nat → Nat} {d : Nat} (hd : 3 ≤ d) : ∀ (L : JLoc) (v0 : Nat) (v1 : Int32) (v2 : Int32) (v3 : Int64) (μ : JMem) (r : Bool) (μ9 : JMem), jget L 0 = .ref v0 → jget L 1 = .int v1 → jget L 2 = .int v2 → jget L 3 = .long v3 → g_R_coefficient B v0 v1 v2 v3 μ = some (r, μ9) → jR B SA d m_R_coefficient 0 L [] μ (some (.int (jb r))) μ9 := by
  intro L v0 v1 v2 v3 μ r μ9 hl0 hl1 hl2 hl3 h
  unfold g_R_coefficient at h
  refine jr_aload_n jf_193_0 rfl hl0 ?_
  refine jr_iload_n jf_193_1 rfl hl1 ?_
  refine jr_iload_n jf_193_2 rfl hl2 ?_
  replace h := jgd_of h; obtain ⟨hb1, h⟩ := h
  replace h := obd_of h; obtain ⟨x2, hx2, h⟩ := h
  refine jr_V6_2 jf_193_3 hb1 (by omega) (r_R_isCoefficient (by omega) _ _ _ _ _ hx2) (Nat.le_of_ble_eq_true rfl) jml_194 (Nat.le_of_ble_eq_true rfl) ?_
  replace h := ite_or h; rcases h with ⟨hc, h⟩ | ⟨hc, h⟩
  · refine jr_ifz_eq_f jf_193_6 hc ?_
    refine jr_aload_n jf_193_9 rfl hl0 ?_
    replace h := obd_of h; obtain ⟨x3, hx3, h⟩ := h
    refine jr_getA jf_193_10 hx3 ?_
    refine jr_iload_n jf_193_13 rfl hl1 ?_
    replace h := obd_of h; obtain ⟨a4, rfl, h⟩ := h
    replace h := obd_of h; obtain ⟨x5, hx5, h⟩ := h
    refine jr_iaload jf_193_14 hx5 ?_
    refine jr_lload_n jf_193_15 rfl hl3 ?_
    refine jr_S3_2 jf_193_16 (by omega) (r_R_isValue (by omega) _ _ _ _ rfl) (Nat.le_of_ble_eq_true rfl) jml_197 (Nat.le_of_ble_eq_true rfl) ?_
    replace h := ite_or h; rcases h with ⟨hc, h⟩ | ⟨hc, h⟩
    · refine jr_ifz_ne_t jf_193_19 hc ?_
      refine jr_aload_n jf_193_24 rfl hl0 ?_
      replace h := obd_of h; obtain ⟨x6, hx6, h⟩ := h
      refine jr_getA jf_193_25 hx6 ?_
      refine jr_iconst jf_193_28 jc_i_5 ?_
      refine jr_iload_n jf_193_29 rfl hl1 ?_
      refine jr_imul jf_193_30 ?_
      refine jr_iload_n jf_193_31 rfl hl2 ?_
      refine jr_iadd jf_193_32 ?_
      refine jr_aload_n jf_193_33 rfl hl0 ?_
      replace h := obd_of h; obtain ⟨x7, hx7, h⟩ := h
      refine jr_getA jf_193_34 hx7 ?_
      refine jr_iload_n jf_193_37 rfl hl1 ?_
      replace h := obd_of h; obtain ⟨a8, rfl, h⟩ := h
      replace h := obd_of h; obtain ⟨x9, hx9, h⟩ := h
      refine jr_iaload jf_193_38 hx9 ?_
      refine jr_lload_n jf_193_39 rfl hl3 ?_
      replace h := obd_of h; obtain ⟨x10, hx10, h⟩ := h
      refine jr_S3_2 jf_193_40 (by omega) (r_R_valueOf (by omega) _ _ _ _ hx10) (by simp only [jcats_cons, jcats_nil, cat_int, cat_long, cat_double, cat_float, cat_ref, rv_cat]; decide) jml_198 (Nat.le_of_ble_eq_true rfl) ?_
      replace h := obd_of h; obtain ⟨a11, rfl, h⟩ := h
      replace h := obd_of h; obtain ⟨μ12, hμ12, h⟩ := h
      refine jr_dastore jf_193_43 hμ12 ?_
      refine jr_iconst jf_193_44 jc_i_1 ?_
      obtain ⟨rfl, rfl⟩ := Prod.mk.inj (Option.some.inj h)
      exact jr_retZ (x := true) jf_193_45 jmt_193
    · refine jr_ifz_ne_f jf_193_19 hc ?_
      refine jr_iconst jf_193_22 jc_i_0 ?_
      obtain ⟨rfl, rfl⟩ := Prod.mk.inj (Option.some.inj h)
      exact jr_retZ (x := false) jf_193_23 jmt_193
  · refine jr_ifz_eq_t jf_193_6 hc ?_
    refine jr_iconst jf_193_22 jc_i_0 ?_
    obtain ⟨rfl, rfl⟩ := Prod.mk.inj (Option.some.inj h)
    exact jr_retZ (x := false) jf_193_23 jmt_193
set_option maxRecDepth 10000 in
set_option maxHeartbeats 4000000 in
theorem r_R_coefficient {B : Nat} {SA : Nat → Nat} {d : Nat} (hd : 3 ≤ d) : ∀ (v0 : Nat) (v1 : Int32) (v2 : Int32) (v3 : Int64) (μ : JMem) (r : Bool) (μ9 : JMem), g_R_coefficient B v0 v1 v2 v3 μ = some (r, μ9) → jR B SA d m_R_coefficient 0 (lv_args 0 [.ref v0, .int v1, .int v2, .long v3]) [] μ (some (.int (jb r))) μ9 := by
  intro v0 v1 v2 v3 μ r μ9 h
  exact r_R_coefficient_e hd (lv_args 0 _) _ _ _ _ _ _ _ (by simp [lv_args, jget, rv_cat, cat_int, cat_long, cat_double, cat_float, cat_ref]) (by simp [lv_args, jget, rv_cat, cat_int, cat_long, cat_double, cat_float, cat_ref]) (by simp [lv_args, jget, rv_cat, cat_int, cat_long, cat_double, cat_float, cat_ref]) (by simp [lv_args, jget, rv_cat, cat_int, cat_long, cat_double, cat_float, cat_ref]) h
/-! FilterBenchModel.floor(JJ)J -/
set_option maxRecDepth 10000 in
set_option maxHeartbeats 4000000 in
theorem r_R_floor_e {B : Nat} {SA : Nat → Nat} {d : Nat} (hd : 0 ≤ d) : ∀ (L : JLoc) (v0 : Int64) (v2 : Int64) (μ : JMem) (r : Int64), jget L 0 = .long v0 → jget L 2 = .long v2 → g_R_floor v0 v2 = some r → jR B SA d m_R_floor 0 L [] μ (some (.long r)) μ := by
  intro L v0 v2 μ r hl0 hl2 h
  unfold g_R_floor at h
  refine jr_lload_n jf_201_0 rfl hl0 ?_
  refine jr_lload_n jf_201_1 rfl hl2 ?_
  replace h := obd_of h; obtain ⟨x1, hx1, h⟩ := h
  refine jr_ldiv jf_201_2 hx1 ?_
  refine jr_lstore jf_201_3 jml_201 (by decide) ?_
  refine jr_lload_n jf_201_5 rfl (jg2_ne rfl hl0) ?_
  refine jr_lload_n jf_201_6 rfl (jg2_ne rfl hl2) ?_
  replace h := obd_of h; obtain ⟨x2, hx2, h⟩ := h
  refine jr_lrem jf_201_7 hx2 ?_
  refine jr_lconst0 jf_201_8 ?_
  refine jr_lcmp jf_201_9 ?_
  replace h := ite_or h; rcases h with ⟨hc, h⟩ | ⟨hc, h⟩
  · refine jr_ifl_ge_t jf_201_10 hc ?_
    refine jr_lload jf_201_20 jg2_same ?_
    obtain rfl := Option.some.inj h
    exact jr_retJ jf_201_22 jmt_201
  · refine jr_ifl_ge_f jf_201_10 hc ?_
    refine jr_lload jf_201_13 jg2_same ?_
    refine jr_lconst1 jf_201_15 ?_
    refine jr_lsub jf_201_16 ?_
    refine jr_goto jf_201_17 ?_
    obtain rfl := Option.some.inj h
    exact jr_retJ jf_201_22 jmt_201
set_option maxRecDepth 10000 in
set_option maxHeartbeats 4000000 in
theorem r_R_floor {B : Nat} {SA : Nat → Nat} {d : Nat} (hd : 0 ≤ d) : ∀ (v0 : Int64) (v2 : Int64) (μ : JMem) (r : Int64), g_R_floor v0 v2 = some r → jR B SA d m_R_floor 0 (lv_args 0 [.long v0, .long v2]) [] μ (some (.long r)) μ := by
  intro v0 v2 μ r h
  exact r_R_floor_e hd (lv_args 0 _) _ _ _ _ (by simp [lv_args, jget, rv_cat, cat_int, cat_long, cat_double, cat_float, cat_ref]) (by simp [lv_args, jget, rv_cat, cat_int, cat_long, cat_double, cat_float, cat_ref]) h
