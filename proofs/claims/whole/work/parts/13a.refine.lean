/-! the machine refines the functions (printed by wip/whole/dec.py) -/
/-! FilterBench$DeadCycles.<init>()V -/
set_option maxRecDepth 10000 in
set_option maxHeartbeats 4000000 in
theorem r_DeadCycles_init_e {B : Nat} {SA : Nat → Nat} {d : Nat} (hd : 1 ≤ d) : ∀ (L : JLoc) (v0 : Nat) (μ : JMem) (μ9 : JMem), jget L 0 = .ref v0 → g_DeadCycles_init v0 μ = some μ9 → jR B SA d m_DeadCycles_init 0 L [] μ none μ9 := by
  intro L v0 μ μ9 hl0 h
  unfold g_DeadCycles_init at h
  refine jr_aload_n jf_4_0 rfl hl0 ?_
  refine jr_oinit jf_4_1 (by omega) (Nat.le_of_ble_eq_true rfl) ?_
  obtain rfl := Option.some.inj h
  exact jr_return jf_4_4 jmt_4
set_option maxRecDepth 10000 in
set_option maxHeartbeats 4000000 in
theorem r_DeadCycles_init {B : Nat} {SA : Nat → Nat} {d : Nat} (hd : 1 ≤ d) : ∀ (v0 : Nat) (μ : JMem) (μ9 : JMem), g_DeadCycles_init v0 μ = some μ9 → jR B SA d m_DeadCycles_init 0 (lv_args 0 [.ref v0]) [] μ none μ9 := by
  intro v0 μ μ9 h
  exact r_DeadCycles_init_e hd (lv_args 0 _) _ _ _ (by simp [lv_args, jget, rv_cat, cat_int, cat_long, cat_double, cat_float, cat_ref]) h
/-! FilterBench$Numbers.<init>()V -/
set_option maxRecDepth 10000 in
set_option maxHeartbeats 4000000 in
theorem r_Numbers_init_e {B : Nat} {SA : Nat → Nat} {d : Nat} (hd : 1 ≤ d) : ∀ (L : JLoc) (v0 : Nat) (μ : JMem) (μ9 : JMem), jget L 0 = .ref v0 → g_Numbers_init v0 μ = some μ9 → jR B SA d m_Numbers_init 0 L [] μ none μ9 := by
  intro L v0 μ μ9 hl0 h
  unfold g_Numbers_init at h
  refine jr_aload_n jf_2_0 rfl hl0 ?_
  refine jr_oinit jf_2_1 (by omega) (Nat.le_of_ble_eq_true rfl) ?_
  obtain rfl := Option.some.inj h
  exact jr_return jf_2_4 jmt_2
set_option maxRecDepth 10000 in
set_option maxHeartbeats 4000000 in
theorem r_Numbers_init {B : Nat} {SA : Nat → Nat} {d : Nat} (hd : 1 ≤ d) : ∀ (v0 : Nat) (μ : JMem) (μ9 : JMem), g_Numbers_init v0 μ = some μ9 → jR B SA d m_Numbers_init 0 (lv_args 0 [.ref v0]) [] μ none μ9 := by
  intro v0 μ μ9 h
  exact r_Numbers_init_e hd (lv_args 0 _) _ _ _ (by simp [lv_args, jget, rv_cat, cat_int, cat_long, cat_double, cat_float, cat_ref]) h
/-! FilterBench$Real.<init>(II)V -/
set_option maxRecDepth 10000 in
set_option maxHeartbeats 4000000 in
theorem r_Real_init_e {B : Nat} {SA : Nat → Nat} {d : Nat} (hd : 2 ≤ d) : ∀ (L : JLoc) (v0 : Nat) (v1 : Int32) (v2 : Int32) (μ : JMem) (μ9 : JMem), jget L 0 = .ref v0 → jget L 1 = .int v1 → jget L 2 = .int v2 → g_Real_init B v0 v1 v2 μ = some μ9 → jR B SA d m_Real_init 0 L [] μ none μ9 := by
  intro L v0 v1 v2 μ μ9 hl0 hl1 hl2 h
  unfold g_Real_init at h
  refine jr_aload_n jf_1_0 rfl hl0 ?_
  replace h := obd_of h; obtain ⟨μ1, hμ1, h⟩ := h
  refine jr_P2v_0 jf_1_1 (by omega) (r_Numbers_init (by omega) _ _ _ hμ1) (Nat.le_of_ble_eq_true rfl) jml_2 (Nat.le_of_ble_eq_true rfl) ?_
  refine jr_aload_n jf_1_4 rfl hl0 ?_
  refine jr_iload_n jf_1_5 rfl hl1 ?_
  replace h := obd_of h; obtain ⟨μ2, hμ2, h⟩ := h
  refine jr_putI jf_1_6 rfl hμ2 ?_
  refine jr_aload_n jf_1_9 rfl hl0 ?_
  refine jr_lconst1 jf_1_10 ?_
  refine jr_iload_n jf_1_11 rfl hl1 ?_
  refine jr_lshl jf_1_12 ?_
  replace h := obd_of h; obtain ⟨μ3, hμ3, h⟩ := h
  refine jr_putJ jf_1_13 rfl hμ3 ?_
  refine jr_aload_n jf_1_16 rfl hl0 ?_
  refine jr_iconst jf_1_17 jc_i_1 ?_
  refine jr_iload_n jf_1_18 rfl hl2 ?_
  refine jr_ishl jf_1_19 ?_
  refine jr_iconst jf_1_20 jc_i_1 ?_
  refine jr_isub jf_1_21 ?_
  replace h := obd_of h; obtain ⟨μ4, hμ4, h⟩ := h
  refine jr_putI jf_1_22 rfl hμ4 ?_
  refine jr_aload_n jf_1_25 rfl hl0 ?_
  refine jr_aload_n jf_1_26 rfl hl0 ?_
  replace h := obd_of h; obtain ⟨x5, hx5, h⟩ := h
  refine jr_getI jf_1_27 hx5 ?_
  refine jr_iconst jf_1_30 jc_i_1 ?_
  refine jr_ishr jf_1_31 ?_
  replace h := obd_of h; obtain ⟨μ6, hμ6, h⟩ := h
  refine jr_putI jf_1_32 rfl hμ6 ?_
  refine jr_aload_n jf_1_35 rfl hl0 ?_
  refine jr_ldc2l jf_1_36 ?_
  refine jr_iload_n jf_1_39 rfl hl1 ?_
  refine jr_iload_n jf_1_40 rfl hl2 ?_
  refine jr_iadd jf_1_41 ?_
  refine jr_lshl jf_1_42 ?_
  replace h := obd_of h; obtain ⟨μ7, hμ7, h⟩ := h
  refine jr_putJ jf_1_43 rfl hμ7 ?_
  refine jr_aload_n jf_1_46 rfl hl0 ?_
  refine jr_aload_n jf_1_47 rfl hl0 ?_
  replace h := obd_of h; obtain ⟨x8, hx8, h⟩ := h
  refine jr_getI jf_1_48 hx8 ?_
  refine jr_i2l jf_1_51 ?_
  refine jr_iload_n jf_1_52 rfl hl1 ?_
  refine jr_lshl jf_1_53 ?_
  replace h := obd_of h; obtain ⟨μ9, hμ9, h⟩ := h
  refine jr_putJ jf_1_54 rfl hμ9 ?_
  refine jr_aload_n jf_1_57 rfl hl0 ?_
  refine jr_aload_n jf_1_58 rfl hl0 ?_
  replace h := obd_of h; obtain ⟨x10, hx10, h⟩ := h
  refine jr_getJ jf_1_59 hx10 ?_
  refine jr_aload_n jf_1_62 rfl hl0 ?_
  replace h := obd_of h; obtain ⟨x11, hx11, h⟩ := h
  refine jr_getJ jf_1_63 hx11 ?_
  refine jr_iconst jf_1_66 jc_i_1 ?_
  refine jr_lshr jf_1_67 ?_
  refine jr_lor jf_1_68 ?_
  replace h := obd_of h; obtain ⟨μ12, hμ12, h⟩ := h
  refine jr_putJ jf_1_69 rfl hμ12 ?_
  obtain rfl := Option.some.inj h
  exact jr_return jf_1_72 jmt_1
set_option maxRecDepth 10000 in
set_option maxHeartbeats 4000000 in
theorem r_Real_init {B : Nat} {SA : Nat → Nat} {d : Nat} (hd : 2 ≤ d) : ∀ (v0 : Nat) (v1 : Int32) (v2 : Int32) (μ : JMem) (μ9 : JMem), g_Real_init B v0 v1 v2 μ = some μ9 → jR B SA d m_Real_init 0 (lv_args 0 [.ref v0, .int v1, .int v2]) [] μ none μ9 := by
  intro v0 v1 v2 μ μ9 h
  exact r_Real_init_e hd (lv_args 0 _) _ _ _ _ _ (by simp [lv_args, jget, rv_cat, cat_int, cat_long, cat_double, cat_float, cat_ref]) (by simp [lv_args, jget, rv_cat, cat_int, cat_long, cat_double, cat_float, cat_ref]) (by simp [lv_args, jget, rv_cat, cat_int, cat_long, cat_double, cat_float, cat_ref]) h
/-! FilterBench$Shorts.<init>()V -/
set_option maxRecDepth 10000 in
set_option maxHeartbeats 4000000 in
theorem r_Shorts_init_e {B : Nat} {SA : Nat → Nat} {d : Nat} (hd : 2 ≤ d) : ∀ (L : JLoc) (v0 : Nat) (μ : JMem) (μ9 : JMem), jget L 0 = .ref v0 → g_Shorts_init v0 μ = some μ9 → jR B SA d m_Shorts_init 0 L [] μ none μ9 := by
  intro L v0 μ μ9 hl0 h
  unfold g_Shorts_init at h
  refine jr_aload_n jf_3_0 rfl hl0 ?_
  replace h := obd_of h; obtain ⟨μ1, hμ1, h⟩ := h
  refine jr_P2v_0 jf_3_1 (by omega) (r_Numbers_init (by omega) _ _ _ hμ1) (Nat.le_of_ble_eq_true rfl) jml_2 (Nat.le_of_ble_eq_true rfl) ?_
  obtain rfl := Option.some.inj h
  exact jr_return jf_3_4 jmt_3
set_option maxRecDepth 10000 in
set_option maxHeartbeats 4000000 in
theorem r_Shorts_init {B : Nat} {SA : Nat → Nat} {d : Nat} (hd : 2 ≤ d) : ∀ (v0 : Nat) (μ : JMem) (μ9 : JMem), g_Shorts_init v0 μ = some μ9 → jR B SA d m_Shorts_init 0 (lv_args 0 [.ref v0]) [] μ none μ9 := by
  intro v0 μ μ9 h
  exact r_Shorts_init_e hd (lv_args 0 _) _ _ _ (by simp [lv_args, jget, rv_cat, cat_int, cat_long, cat_double, cat_float, cat_ref]) h
/-! FilterBench.<init>()V -/
set_option maxRecDepth 10000 in
set_option maxHeartbeats 4000000 in
theorem r_B_init_e {B : Nat} {SA : Nat → Nat} {d : Nat} (hd : 3 ≤ d) : ∀ (L : JLoc) (v0 : Nat) (μ : JMem) (μ9 : JMem), jget L 0 = .ref v0 → g_B_init B v0 μ = some μ9 → jR B SA d m_B_init 0 L [] μ none μ9 := by
  intro L v0 μ μ9 hl0 h
  unfold g_B_init at h
  refine jr_aload_n jf_0_0 rfl hl0 ?_
  refine jr_oinit jf_0_1 (by omega) (Nat.le_of_ble_eq_true rfl) ?_
  refine jr_aload_n jf_0_4 rfl hl0 ?_
  replace h := jnew_of h
  refine jr_new jf_0_5 ?_
  refine jr_dup jf_0_8 rfl ?_
  refine jr_bipush jf_0_9 jc_b_52 ?_
  refine jr_bipush jf_0_11 jc_b_11 ?_
  replace h := obd_of h; obtain ⟨μ3, hμ3, h⟩ := h
  refine jr_P1v_2 jf_0_13 (by omega) (r_Real_init (by omega) _ _ _ _ _ hμ3) (Nat.le_of_ble_eq_true rfl) jml_1 (Nat.le_of_ble_eq_true rfl) ?_
  replace h := obd_of h; obtain ⟨μ4, hμ4, h⟩ := h
  refine jr_putA (x := some _) jf_0_16 rfl hμ4 ?_
  refine jr_aload_n jf_0_19 rfl hl0 ?_
  replace h := jnew_of h
  refine jr_new jf_0_20 ?_
  refine jr_dup jf_0_23 rfl ?_
  refine jr_bipush jf_0_24 jc_b_23 ?_
  refine jr_bipush jf_0_26 jc_b_8 ?_
  replace h := obd_of h; obtain ⟨μ7, hμ7, h⟩ := h
  refine jr_P1v_2 jf_0_28 (by omega) (r_Real_init (by omega) _ _ _ _ _ hμ7) (Nat.le_of_ble_eq_true rfl) jml_1 (Nat.le_of_ble_eq_true rfl) ?_
  replace h := obd_of h; obtain ⟨μ8, hμ8, h⟩ := h
  refine jr_putA (x := some _) jf_0_31 rfl hμ8 ?_
  refine jr_aload_n jf_0_34 rfl hl0 ?_
  replace h := jnew_of h
  refine jr_new jf_0_35 ?_
  refine jr_dup jf_0_38 rfl ?_
  replace h := obd_of h; obtain ⟨μ11, hμ11, h⟩ := h
  refine jr_P2v_0 jf_0_39 (by omega) (r_Shorts_init (by omega) _ _ _ hμ11) (Nat.le_of_ble_eq_true rfl) jml_3 (Nat.le_of_ble_eq_true rfl) ?_
  replace h := obd_of h; obtain ⟨μ12, hμ12, h⟩ := h
  refine jr_putA (x := some _) jf_0_42 rfl hμ12 ?_
  refine jr_aload_n jf_0_45 rfl hl0 ?_
  refine jr_bipush jf_0_46 jc_b_60 ?_
  replace h := jbd2_of h; obtain ⟨a13, μ14, ha13, h⟩ := h
  refine jr_anewarray jf_0_48 ha13 ?_
  replace h := obd_of h; obtain ⟨μ15, hμ15, h⟩ := h
  refine jr_putA (x := some _) jf_0_51 rfl hμ15 ?_
  refine jr_aload_n jf_0_54 rfl hl0 ?_
  refine jr_bipush jf_0_55 jc_b_20 ?_
  replace h := jbd2_of h; obtain ⟨a16, μ17, ha16, h⟩ := h
  refine jr_anewarray jf_0_57 ha16 ?_
  replace h := obd_of h; obtain ⟨μ18, hμ18, h⟩ := h
  refine jr_putA (x := some _) jf_0_60 rfl hμ18 ?_
  refine jr_aload_n jf_0_63 rfl hl0 ?_
  refine jr_bipush jf_0_64 jc_b_8 ?_
  replace h := jbd2_of h; obtain ⟨a19, μ20, ha19, h⟩ := h
  refine jr_anewarray jf_0_66 ha19 ?_
  replace h := obd_of h; obtain ⟨μ21, hμ21, h⟩ := h
  refine jr_putA (x := some _) jf_0_69 rfl hμ21 ?_
  refine jr_aload_n jf_0_72 rfl hl0 ?_
  refine jr_bipush jf_0_73 jc_b_20 ?_
  replace h := jbd2_of h; obtain ⟨a22, μ23, ha22, h⟩ := h
  refine jr_anewarray jf_0_75 ha22 ?_
  replace h := obd_of h; obtain ⟨μ24, hμ24, h⟩ := h
  refine jr_putA (x := some _) jf_0_78 rfl hμ24 ?_
  refine jr_aload_n jf_0_81 rfl hl0 ?_
  replace h := jnew_of h
  refine jr_new jf_0_82 ?_
  refine jr_dup jf_0_85 rfl ?_
  replace h := obd_of h; obtain ⟨μ27, hμ27, h⟩ := h
  refine jr_P2v_0 jf_0_86 (by omega) (r_DeadCycles_init (by omega) _ _ _ hμ27) (Nat.le_of_ble_eq_true rfl) jml_4 (Nat.le_of_ble_eq_true rfl) ?_
  replace h := obd_of h; obtain ⟨μ28, hμ28, h⟩ := h
  refine jr_putA (x := some _) jf_0_89 rfl hμ28 ?_
  obtain rfl := Option.some.inj h
  exact jr_return jf_0_92 jmt_0
set_option maxRecDepth 10000 in
set_option maxHeartbeats 4000000 in
theorem r_B_init {B : Nat} {SA : Nat → Nat} {d : Nat} (hd : 3 ≤ d) : ∀ (v0 : Nat) (μ : JMem) (μ9 : JMem), g_B_init B v0 μ = some μ9 → jR B SA d m_B_init 0 (lv_args 0 [.ref v0]) [] μ none μ9 := by
  intro v0 μ μ9 h
  exact r_B_init_e hd (lv_args 0 _) _ _ _ (by simp [lv_args, jget, rv_cat, cat_int, cat_long, cat_double, cat_float, cat_ref]) h
/-! FilterBench.fitsKind(II)Z -/
set_option maxRecDepth 10000 in
set_option maxHeartbeats 4000000 in
theorem r_B_fitsKind_48 {B : Nat} {SA : Nat → Nat} {d : Nat} (hd : 0 ≤ d) : ∀ (L : JLoc) (μ : JMem) (r : Bool), g_B_fitsKind_48 SA μ.1 = some r → jR B SA d m_B_fitsKind 48 L [] μ (some (.int (jb r))) μ := by
  intro L μ r h
  unfold g_B_fitsKind_48 at h
  refine jr_iconst jf_8_48 jc_i_1 ?_
  refine jr_goto jf_8_49 ?_
  obtain rfl := Option.some.inj h
  exact jr_retZ (x := true) jf_8_53 jmt_8
set_option maxRecDepth 10000 in
set_option maxHeartbeats 4000000 in
theorem r_B_fitsKind_e {B : Nat} {SA : Nat → Nat} {d : Nat} (hd : 0 ≤ d) : ∀ (L : JLoc) (v0 : Int32) (v1 : Int32) (μ : JMem) (r : Bool), jget L 0 = .int v0 → jget L 1 = .int v1 → g_B_fitsKind SA v0 v1 μ.1 = some r → jR B SA d m_B_fitsKind 0 L [] μ (some (.int (jb r))) μ := by
  intro L v0 v1 μ r hl0 hl1 h
  unfold g_B_fitsKind at h
  refine jr_iload_n jf_8_0 rfl hl0 ?_
  replace h := ite_or h; rcases h with ⟨hc, h⟩ | ⟨hc, h⟩
  · refine jr_if_lt_t jf_8_1 hc ?_
    refine jr_iconst jf_8_20 jc_i_0 ?_
    obtain rfl := Option.some.inj h
    exact jr_retZ (x := false) jf_8_21 jmt_8
  · refine jr_if_lt_f jf_8_1 hc ?_
    refine jr_iload_n jf_8_4 rfl hl0 ?_
    refine jr_getstatic jf_8_5 ?_
    replace h := obd_of h; obtain ⟨x1, hx1, h⟩ := h
    refine jr_arraylength jf_8_8 hx1 ?_
    replace h := ite_or h; rcases h with ⟨hc, h⟩ | ⟨hc, h⟩
    · refine jr_if2_ge_t jf_8_9 hc ?_
      refine jr_iconst jf_8_20 jc_i_0 ?_
      obtain rfl := Option.some.inj h
      exact jr_retZ (x := false) jf_8_21 jmt_8
    · refine jr_if2_ge_f jf_8_9 hc ?_
      refine jr_iload_n jf_8_12 rfl hl0 ?_
      refine jr_getstatic jf_8_13 ?_
      replace h := obd_of h; obtain ⟨x2, hx2, h⟩ := h
      refine jr_arraylength jf_8_16 hx2 ?_
      replace h := ite_or h; rcases h with ⟨hc, h⟩ | ⟨hc, h⟩
      · refine jr_if2_lt_t jf_8_17 hc ?_
        refine jr_getstatic jf_8_22 ?_
        refine jr_iload_n jf_8_25 rfl hl0 ?_
        replace h := obd_of h; obtain ⟨x3, hx3, h⟩ := h
        refine jr_iaload jf_8_26 hx3 ?_
        replace h := ite_or h; rcases h with ⟨hc, h⟩ | ⟨hc, h⟩
        · refine jr_if_eq_t jf_8_27 hc ?_
          exact r_B_fitsKind_48 hd _  _ _ h
        · refine jr_if_eq_f jf_8_27 hc ?_
          refine jr_iload_n jf_8_30 rfl hl1 ?_
          refine jr_getstatic jf_8_31 ?_
          refine jr_iload_n jf_8_34 rfl hl0 ?_
          replace h := obd_of h; obtain ⟨x4, hx4, h⟩ := h
          refine jr_iaload jf_8_35 hx4 ?_
          replace h := ite_or h; rcases h with ⟨hc, h⟩ | ⟨hc, h⟩
          · refine jr_if2_lt_t jf_8_36 hc ?_
            refine jr_iconst jf_8_52 jc_i_0 ?_
            obtain rfl := Option.some.inj h
            exact jr_retZ (x := false) jf_8_53 jmt_8
          · refine jr_if2_lt_f jf_8_36 hc ?_
            refine jr_iload_n jf_8_39 rfl hl1 ?_
            refine jr_getstatic jf_8_40 ?_
            refine jr_iload_n jf_8_43 rfl hl0 ?_
            replace h := obd_of h; obtain ⟨x5, hx5, h⟩ := h
            refine jr_iaload jf_8_44 hx5 ?_
            replace h := ite_or h; rcases h with ⟨hc, h⟩ | ⟨hc, h⟩
            · refine jr_if2_gt_t jf_8_45 hc ?_
              refine jr_iconst jf_8_52 jc_i_0 ?_
              obtain rfl := Option.some.inj h
              exact jr_retZ (x := false) jf_8_53 jmt_8
            · refine jr_if2_gt_f jf_8_45 hc ?_
              exact r_B_fitsKind_48 hd _  _ _ h
      · refine jr_if2_lt_f jf_8_17 hc ?_
        refine jr_iconst jf_8_20 jc_i_0 ?_
        obtain rfl := Option.some.inj h
        exact jr_retZ (x := false) jf_8_21 jmt_8
set_option maxRecDepth 10000 in
set_option maxHeartbeats 4000000 in
theorem r_B_fitsKind {B : Nat} {SA : Nat → Nat} {d : Nat} (hd : 0 ≤ d) : ∀ (v0 : Int32) (v1 : Int32) (μ : JMem) (r : Bool), g_B_fitsKind SA v0 v1 μ.1 = some r → jR B SA d m_B_fitsKind 0 (lv_args 0 [.int v0, .int v1]) [] μ (some (.int (jb r))) μ := by
  intro v0 v1 μ r h
  exact r_B_fitsKind_e hd (lv_args 0 _) _ _ _ _ (by simp [lv_args, jget, rv_cat, cat_int, cat_long, cat_double, cat_float, cat_ref]) (by simp [lv_args, jget, rv_cat, cat_int, cat_long, cat_double, cat_float, cat_ref]) h
/-! FilterBench.isKind(I)Z -/
set_option maxRecDepth 10000 in
set_option maxHeartbeats 4000000 in
theorem r_B_isKind_e {B : Nat} {SA : Nat → Nat} {d : Nat} (hd : 0 ≤ d) : ∀ (L : JLoc) (v0 : Int32) (μ : JMem) (r : Bool), jget L 0 = .int v0 → g_B_isKind SA v0 μ.1 = some r → jR B SA d m_B_isKind 0 L [] μ (some (.int (jb r))) μ := by
  intro L v0 μ r hl0 h
  unfold g_B_isKind at h
  refine jr_iload_n jf_7_0 rfl hl0 ?_
  replace h := ite_or h; rcases h with ⟨hc, h⟩ | ⟨hc, h⟩
  · refine jr_if_lt_t jf_7_1 hc ?_
    refine jr_iconst jf_7_16 jc_i_0 ?_
    obtain rfl := Option.some.inj h
    exact jr_retZ (x := false) jf_7_17 jmt_7
  · refine jr_if_lt_f jf_7_1 hc ?_
    refine jr_iload_n jf_7_4 rfl hl0 ?_
    refine jr_getstatic jf_7_5 ?_
    replace h := obd_of h; obtain ⟨x1, hx1, h⟩ := h
    refine jr_arraylength jf_7_8 hx1 ?_
    replace h := ite_or h; rcases h with ⟨hc, h⟩ | ⟨hc, h⟩
    · refine jr_if2_ge_t jf_7_9 hc ?_
      refine jr_iconst jf_7_16 jc_i_0 ?_
      obtain rfl := Option.some.inj h
      exact jr_retZ (x := false) jf_7_17 jmt_7
    · refine jr_if2_ge_f jf_7_9 hc ?_
      refine jr_iconst jf_7_12 jc_i_1 ?_
      refine jr_goto jf_7_13 ?_
      obtain rfl := Option.some.inj h
      exact jr_retZ (x := true) jf_7_17 jmt_7
set_option maxRecDepth 10000 in
set_option maxHeartbeats 4000000 in
theorem r_B_isKind {B : Nat} {SA : Nat → Nat} {d : Nat} (hd : 0 ≤ d) : ∀ (v0 : Int32) (μ : JMem) (r : Bool), g_B_isKind SA v0 μ.1 = some r → jR B SA d m_B_isKind 0 (lv_args 0 [.int v0]) [] μ (some (.int (jb r))) μ := by
  intro v0 μ r h
  exact r_B_isKind_e hd (lv_args 0 _) _ _ _ (by simp [lv_args, jget, rv_cat, cat_int, cat_long, cat_double, cat_float, cat_ref]) h
/-! FilterBench$Row.<init>(I)V -/
set_option maxRecDepth 10000 in
set_option maxHeartbeats 4000000 in
theorem r_Row_init_14 {B : Nat} {SA : Nat → Nat} {d : Nat} (hd : 1 ≤ d) : ∀ (L : JLoc) (s0 : Int32) (s1 : Nat) (μ : JMem) (μ9 : JMem), g_Row_init_14 B s0 s1 μ = some μ9 → jR B SA d m_Row_init 14 L [.int s0, .ref s1] μ none μ9 := by
  intro L s0 s1 μ μ9 h
  unfold g_Row_init_14 at h
  replace h := jbd2_of h; obtain ⟨a1, μ2, ha1, h⟩ := h
  refine jr_newarray jf_11_14 rfl ha1 ?_
  replace h := obd_of h; obtain ⟨μ3, hμ3, h⟩ := h
  refine jr_putA (x := some _) jf_11_16 rfl hμ3 ?_
  obtain rfl := Option.some.inj h
  exact jr_return jf_11_19 jmt_11
set_option maxRecDepth 10000 in
set_option maxHeartbeats 4000000 in
theorem r_Row_init_e {B : Nat} {SA : Nat → Nat} {d : Nat} (hd : 1 ≤ d) : ∀ (L : JLoc) (v0 : Nat) (v1 : Int32) (μ : JMem) (μ9 : JMem), jget L 0 = .ref v0 → jget L 1 = .int v1 → g_Row_init B v0 v1 μ = some μ9 → jR B SA d m_Row_init 0 L [] μ none μ9 := by
  intro L v0 v1 μ μ9 hl0 hl1 h
  unfold g_Row_init at h
  refine jr_aload_n jf_11_0 rfl hl0 ?_
  refine jr_oinit jf_11_1 (by omega) (Nat.le_of_ble_eq_true rfl) ?_
  refine jr_aload_n jf_11_4 rfl hl0 ?_
  refine jr_iload_n jf_11_5 rfl hl1 ?_
  replace h := ite_or h; rcases h with ⟨hc, h⟩ | ⟨hc, h⟩
  · refine jr_if_ge_t jf_11_6 hc ?_
    refine jr_iload_n jf_11_13 rfl hl1 ?_
    exact r_Row_init_14 hd _ _ _ _ _ h
  · refine jr_if_ge_f jf_11_6 hc ?_
    refine jr_iconst jf_11_9 jc_i_0 ?_
    refine jr_goto jf_11_10 ?_
    exact r_Row_init_14 hd _ _ _ _ _ h
set_option maxRecDepth 10000 in
set_option maxHeartbeats 4000000 in
theorem r_Row_init {B : Nat} {SA : Nat → Nat} {d : Nat} (hd : 1 ≤ d) : ∀ (v0 : Nat) (v1 : Int32) (μ : JMem) (μ9 : JMem), g_Row_init B v0 v1 μ = some μ9 → jR B SA d m_Row_init 0 (lv_args 0 [.ref v0, .int v1]) [] μ none μ9 := by
  intro v0 v1 μ μ9 h
  exact r_Row_init_e hd (lv_args 0 _) _ _ _ _ (by simp [lv_args, jget, rv_cat, cat_int, cat_long, cat_double, cat_float, cat_ref]) (by simp [lv_args, jget, rv_cat, cat_int, cat_long, cat_double, cat_float, cat_ref]) h
/-! FilterBench$Section.<init>(IIIILFilterBench$Numbers;)V -/
set_option maxRecDepth 10000 in
set_option maxHeartbeats 4000000 in
theorem r_Section_init_128 {B : Nat} {SA : Nat → Nat} {d : Nat} (hd : 2 ≤ d) : ∀ (L : JLoc) (s0 : Int32) (s1 : Nat) (s2 : Nat) (s3 : Nat) (μ : JMem) (μ9 : JMem), g_Section_init_128 B SA s0 s1 s2 s3 μ = some μ9 → jR B SA d m_Section_init 128 L [.int s0, .ref s1, .ref s2, .ref s3] μ none μ9 := by
  intro L s0 s1 s2 s3 μ μ9 h
  unfold g_Section_init_128 at h
  replace h := obd_of h; obtain ⟨μ1, hμ1, h⟩ := h
  refine jr_P1v_1 jf_10_128 (by omega) (r_Row_init (by omega) _ _ _ _ hμ1) (Nat.le_of_ble_eq_true rfl) jml_11 (Nat.le_of_ble_eq_true rfl) ?_
  replace h := obd_of h; obtain ⟨μ2, hμ2, h⟩ := h
  refine jr_putA (x := some _) jf_10_131 rfl hμ2 ?_
  obtain rfl := Option.some.inj h
  exact jr_return jf_10_134 jmt_10
set_option maxRecDepth 10000 in
set_option maxHeartbeats 4000000 in
theorem r_Section_init_109 {B : Nat} {SA : Nat → Nat} {d : Nat} (hd : 2 ≤ d) : ∀ (L : JLoc) (v0 : Nat) (v4 : Int32) (s0 : Int32) (μ : JMem) (μ9 : JMem), jget L 0 = .ref v0 → jget L 4 = .int v4 → g_Section_init_109 B SA v0 v4 s0 μ = some μ9 → jR B SA d m_Section_init 109 L [.int s0] μ none μ9 := by
  intro L v0 v4 s0 μ μ9 hl0 hl4 h
  unfold g_Section_init_109 at h
  refine jr_istore jf_10_109 jml_10 (by decide) ?_
  refine jr_aload_n jf_10_111 rfl (jg1_ne rfl hl0) ?_
  replace h := jnew_of h
  refine jr_new jf_10_112 ?_
  refine jr_dup jf_10_115 rfl ?_
  refine jr_iload jf_10_116 jg1_same ?_
  replace h := ite_or h; rcases h with ⟨hc, h⟩ | ⟨hc, h⟩
  · refine jr_if_ge_t jf_10_118 hc ?_
    refine jr_iload jf_10_126 jg1_same ?_
    exact r_Section_init_128 hd _ _ _ _ _ _ _ h
  · refine jr_if_ge_f jf_10_118 hc ?_
    refine jr_iload jf_10_121 (jg1_ne rfl hl4) ?_
    refine jr_goto jf_10_123 ?_
    exact r_Section_init_128 hd _ _ _ _ _ _ _ h
set_option maxRecDepth 10000 in
set_option maxHeartbeats 4000000 in
theorem r_Section_init_100 {B : Nat} {SA : Nat → Nat} {d : Nat} (hd : 2 ≤ d) : ∀ (L : JLoc) (v0 : Nat) (v4 : Int32) (μ : JMem) (μ9 : JMem), jget L 0 = .ref v0 → jget L 4 = .int v4 → g_Section_init_100 B SA v0 v4 μ = some μ9 → jR B SA d m_Section_init 100 L [] μ none μ9 := by
  intro L v0 v4 μ μ9 hl0 hl4 h
  unfold g_Section_init_100 at h
  refine jr_iconst jf_10_100 jc_i_0 ?_
  refine jr_goto jf_10_101 ?_
  exact r_Section_init_109 hd _ _ _ _ _ _ hl0 hl4 h
set_option maxRecDepth 10000 in
set_option maxHeartbeats 4000000 in
theorem r_Section_init_83 {B : Nat} {SA : Nat → Nat} {d : Nat} (hd : 2 ≤ d) : ∀ (L : JLoc) (v0 : Nat) (v2 : Int32) (v4 : Int32) (s0 : Int32) (s1 : Nat) (μ : JMem) (μ9 : JMem), jget L 0 = .ref v0 → jget L 2 = .int v2 → jget L 4 = .int v4 → g_Section_init_83 B SA v0 v2 v4 s0 s1 μ = some μ9 → jR B SA d m_Section_init 83 L [.int s0, .ref s1] μ none μ9 := by
  intro L v0 v2 v4 s0 s1 μ μ9 hl0 hl2 hl4 h
  unfold g_Section_init_83 at h
  replace h := jbd2_of h; obtain ⟨a1, μ2, ha1, h⟩ := h
  refine jr_newarray jf_10_83 rfl ha1 ?_
  replace h := obd_of h; obtain ⟨μ3, hμ3, h⟩ := h
  refine jr_putA (x := some _) jf_10_85 rfl hμ3 ?_
  refine jr_iload_n jf_10_88 rfl hl2 ?_
  replace h := ite_or h; rcases h with ⟨hc, h⟩ | ⟨hc, h⟩
  · refine jr_if_lt_t jf_10_89 hc ?_
    exact r_Section_init_100 hd _ _ _ _ _ hl0 hl4 h
  · refine jr_if_lt_f jf_10_89 hc ?_
    refine jr_iload_n jf_10_92 rfl hl2 ?_
    refine jr_getstatic jf_10_93 ?_
    replace h := obd_of h; obtain ⟨x4, hx4, h⟩ := h
    refine jr_arraylength jf_10_96 hx4 ?_
    replace h := ite_or h; rcases h with ⟨hc, h⟩ | ⟨hc, h⟩
    · refine jr_if2_lt_t jf_10_97 hc ?_
      refine jr_getstatic jf_10_104 ?_
      refine jr_iload_n jf_10_107 rfl hl2 ?_
      replace h := obd_of h; obtain ⟨x5, hx5, h⟩ := h
      refine jr_iaload jf_10_108 hx5 ?_
      exact r_Section_init_109 hd _ _ _ _ _ _ hl0 hl4 h
    · refine jr_if2_lt_f jf_10_97 hc ?_
      exact r_Section_init_100 hd _ _ _ _ _ hl0 hl4 h
set_option maxRecDepth 10000 in
set_option maxHeartbeats 4000000 in
theorem r_Section_init_69 {B : Nat} {SA : Nat → Nat} {d : Nat} (hd : 2 ≤ d) : ∀ (L : JLoc) (v0 : Nat) (v2 : Int32) (v4 : Int32) (s0 : Int32) (μ : JMem) (μ9 : JMem), jget L 0 = .ref v0 → jget L 2 = .int v2 → jget L 4 = .int v4 → g_Section_init_69 B SA v0 v2 v4 s0 μ = some μ9 → jR B SA d m_Section_init 69 L [.int s0] μ none μ9 := by
  intro L v0 v2 v4 s0 μ μ9 hl0 hl2 hl4 h
  unfold g_Section_init_69 at h
  refine jr_istore jf_10_69 jml_10 (by decide) ?_
  refine jr_aload_n jf_10_71 rfl (jg1_ne rfl hl0) ?_
  refine jr_iload jf_10_72 jg1_same ?_
  replace h := ite_or h; rcases h with ⟨hc, h⟩ | ⟨hc, h⟩
  · refine jr_if_ge_t jf_10_74 hc ?_
    refine jr_iload jf_10_81 jg1_same ?_
    exact r_Section_init_83 hd _ _ _ _ _ _ _ _ (jg1_ne rfl hl0) (jg1_ne rfl hl2) (jg1_ne rfl hl4) h
  · refine jr_if_ge_f jf_10_74 hc ?_
    refine jr_iconst jf_10_77 jc_i_0 ?_
    refine jr_goto jf_10_78 ?_
    exact r_Section_init_83 hd _ _ _ _ _ _ _ _ (jg1_ne rfl hl0) (jg1_ne rfl hl2) (jg1_ne rfl hl4) h
set_option maxRecDepth 10000 in
set_option maxHeartbeats 4000000 in
theorem r_Section_init_60 {B : Nat} {SA : Nat → Nat} {d : Nat} (hd : 2 ≤ d) : ∀ (L : JLoc) (v0 : Nat) (v2 : Int32) (v4 : Int32) (μ : JMem) (μ9 : JMem), jget L 0 = .ref v0 → jget L 2 = .int v2 → jget L 4 = .int v4 → g_Section_init_60 B SA v0 v2 v4 μ = some μ9 → jR B SA d m_Section_init 60 L [] μ none μ9 := by
  intro L v0 v2 v4 μ μ9 hl0 hl2 hl4 h
  unfold g_Section_init_60 at h
  refine jr_iconst jf_10_60 jc_i_0 ?_
  refine jr_goto jf_10_61 ?_
  exact r_Section_init_69 hd _ _ _ _ _ _ _ hl0 hl2 hl4 h
set_option maxRecDepth 10000 in
set_option maxHeartbeats 4000000 in
theorem r_Section_init_e {B : Nat} {SA : Nat → Nat} {d : Nat} (hd : 2 ≤ d) : ∀ (L : JLoc) (v0 : Nat) (v1 : Int32) (v2 : Int32) (v3 : Int32) (v4 : Int32) (v5 : Option Nat) (μ : JMem) (μ9 : JMem), jget L 0 = .ref v0 → jget L 1 = .int v1 → jget L 2 = .int v2 → jget L 3 = .int v3 → jget L 4 = .int v4 → jget L 5 = rv v5 → g_Section_init B SA v0 v1 v2 v3 v4 v5 μ = some μ9 → jR B SA d m_Section_init 0 L [] μ none μ9 := by
  intro L v0 v1 v2 v3 v4 v5 μ μ9 hl0 hl1 hl2 hl3 hl4 hl5 h
  unfold g_Section_init at h
  refine jr_aload_n jf_10_0 rfl hl0 ?_
  refine jr_oinit jf_10_1 (by omega) (Nat.le_of_ble_eq_true rfl) ?_
  refine jr_aload_n jf_10_4 rfl hl0 ?_
  replace h := jnew_of h
  refine jr_new jf_10_5 ?_
  refine jr_dup jf_10_8 rfl ?_
  refine jr_iconst jf_10_9 jc_i_1 ?_
  replace h := obd_of h; obtain ⟨μ3, hμ3, h⟩ := h
  refine jr_P1v_1 jf_10_10 (by omega) (r_Row_init (by omega) _ _ _ _ hμ3) (Nat.le_of_ble_eq_true rfl) jml_11 (Nat.le_of_ble_eq_true rfl) ?_
  replace h := obd_of h; obtain ⟨μ4, hμ4, h⟩ := h
  refine jr_putA (x := some _) jf_10_13 rfl hμ4 ?_
  refine jr_aload_n jf_10_16 rfl hl0 ?_
  refine jr_iconst jf_10_17 jc_i_m1 ?_
  replace h := obd_of h; obtain ⟨μ5, hμ5, h⟩ := h
  refine jr_putI jf_10_18 rfl hμ5 ?_
  refine jr_aload_n jf_10_21 rfl hl0 ?_
  refine jr_iload_n jf_10_22 rfl hl1 ?_
  replace h := obd_of h; obtain ⟨μ6, hμ6, h⟩ := h
  refine jr_putI jf_10_23 rfl hμ6 ?_
  refine jr_aload_n jf_10_26 rfl hl0 ?_
  refine jr_iload_n jf_10_27 rfl hl2 ?_
  replace h := obd_of h; obtain ⟨μ7, hμ7, h⟩ := h
  refine jr_putI jf_10_28 rfl hμ7 ?_
  refine jr_aload_n jf_10_31 rfl hl0 ?_
  refine jr_iload_n jf_10_32 rfl hl3 ?_
  replace h := obd_of h; obtain ⟨μ8, hμ8, h⟩ := h
  refine jr_putI jf_10_33 rfl hμ8 ?_
  refine jr_aload_n jf_10_36 rfl hl0 ?_
  refine jr_iload jf_10_37 hl4 ?_
  replace h := obd_of h; obtain ⟨μ9, hμ9, h⟩ := h
  refine jr_putI jf_10_39 rfl hμ9 ?_
  refine jr_aload_n jf_10_42 rfl hl0 ?_
  refine jr_aload_A jf_10_43 hl5 ?_
  replace h := obd_of h; obtain ⟨μ10, hμ10, h⟩ := h
  refine jr_putA jf_10_45 rfl hμ10 ?_
  refine jr_iload_n jf_10_48 rfl hl2 ?_
  replace h := ite_or h; rcases h with ⟨hc, h⟩ | ⟨hc, h⟩
  · refine jr_if_lt_t jf_10_49 hc ?_
    exact r_Section_init_60 hd _ _ _ _ _ _ hl0 hl2 hl4 h
  · refine jr_if_lt_f jf_10_49 hc ?_
    refine jr_iload_n jf_10_52 rfl hl2 ?_
    refine jr_getstatic jf_10_53 ?_
    replace h := obd_of h; obtain ⟨x11, hx11, h⟩ := h
    refine jr_arraylength jf_10_56 hx11 ?_
    replace h := ite_or h; rcases h with ⟨hc, h⟩ | ⟨hc, h⟩
    · refine jr_if2_lt_t jf_10_57 hc ?_
      refine jr_getstatic jf_10_64 ?_
      refine jr_iload_n jf_10_67 rfl hl2 ?_
      replace h := obd_of h; obtain ⟨x12, hx12, h⟩ := h
      refine jr_iaload jf_10_68 hx12 ?_
      exact r_Section_init_69 hd _ _ _ _ _ _ _ hl0 hl2 hl4 h
    · refine jr_if2_lt_f jf_10_57 hc ?_
      exact r_Section_init_60 hd _ _ _ _ _ _ hl0 hl2 hl4 h
set_option maxRecDepth 10000 in
set_option maxHeartbeats 4000000 in
theorem r_Section_init {B : Nat} {SA : Nat → Nat} {d : Nat} (hd : 2 ≤ d) : ∀ (v0 : Nat) (v1 : Int32) (v2 : Int32) (v3 : Int32) (v4 : Int32) (v5 : Option Nat) (μ : JMem) (μ9 : JMem), g_Section_init B SA v0 v1 v2 v3 v4 v5 μ = some μ9 → jR B SA d m_Section_init 0 (lv_args 0 [.ref v0, .int v1, .int v2, .int v3, .int v4, rv v5]) [] μ none μ9 := by
  intro v0 v1 v2 v3 v4 v5 μ μ9 h
  exact r_Section_init_e hd (lv_args 0 _) _ _ _ _ _ _ _ _ (by simp [lv_args, jget, rv_cat, cat_int, cat_long, cat_double, cat_float, cat_ref]) (by simp [lv_args, jget, rv_cat, cat_int, cat_long, cat_double, cat_float, cat_ref]) (by simp [lv_args, jget, rv_cat, cat_int, cat_long, cat_double, cat_float, cat_ref]) (by simp [lv_args, jget, rv_cat, cat_int, cat_long, cat_double, cat_float, cat_ref]) (by simp [lv_args, jget, rv_cat, cat_int, cat_long, cat_double, cat_float, cat_ref]) (by simp [lv_args, jget, rv_cat, cat_int, cat_long, cat_double, cat_float, cat_ref]) h
/-! FilterBench.newSection(IIILFilterBench$Numbers;)LFilterBench$Section; -/
set_option maxRecDepth 10000 in
set_option maxHeartbeats 4000000 in
theorem r_B_newSection_e {B : Nat} {SA : Nat → Nat} {d : Nat} (hd : 3 ≤ d) : ∀ (L : JLoc) (v0 : Nat) (v1 : Int32) (v2 : Int32) (v3 : Int32) (v4 : Option Nat) (μ : JMem) (r : Option Nat) (μ9 : JMem), jget L 0 = .ref v0 → jget L 1 = .int v1 → jget L 2 = .int v2 → jget L 3 = .int v3 → jget L 4 = rv v4 → g_B_newSection B SA v0 v1 v2 v3 v4 μ = some (r, μ9) → jR B SA d m_B_newSection 0 L [] μ (some (rv r)) μ9 := by
  intro L v0 v1 v2 v3 v4 μ r μ9 hl0 hl1 hl2 hl3 hl4 h
  unfold g_B_newSection at h
  refine jr_aload_n jf_9_0 rfl hl0 ?_
  replace h := obd_of h; obtain ⟨x1, hx1, h⟩ := h
  refine jr_getI jf_9_1 hx1 ?_
  replace h := ite_or h; rcases h with ⟨hc, h⟩ | ⟨hc, h⟩
  · refine jr_if_lt_t jf_9_4 hc ?_
    refine jr_aconst_null jf_9_19 ?_
    obtain ⟨rfl, rfl⟩ := Prod.mk.inj (Option.some.inj h)
    exact jr_retA jf_9_20 jmt_9
  · refine jr_if_lt_f jf_9_4 hc ?_
    refine jr_aload_n jf_9_7 rfl hl0 ?_
    replace h := obd_of h; obtain ⟨x2, hx2, h⟩ := h
    refine jr_getI jf_9_8 hx2 ?_
    refine jr_aload_n jf_9_11 rfl hl0 ?_
    replace h := obd_of h; obtain ⟨x3, hx3, h⟩ := h
    refine jr_getA jf_9_12 hx3 ?_
    replace h := obd_of h; obtain ⟨a4, rfl, h⟩ := h
    replace h := obd_of h; obtain ⟨x5, hx5, h⟩ := h
    refine jr_arraylength jf_9_15 hx5 ?_
    replace h := ite_or h; rcases h with ⟨hc, h⟩ | ⟨hc, h⟩
    · refine jr_if2_lt_t jf_9_16 hc ?_
      replace h := jnew_of h
      refine jr_new jf_9_21 ?_
      refine jr_dup jf_9_24 rfl ?_
      refine jr_aload_n jf_9_25 rfl hl0 ?_
      replace h := obd_of h; obtain ⟨x8, hx8, h⟩ := h
      refine jr_getI jf_9_26 hx8 ?_
      refine jr_iload_n jf_9_29 rfl hl1 ?_
      refine jr_iload_n jf_9_30 rfl hl2 ?_
      refine jr_iload_n jf_9_31 rfl hl3 ?_
      refine jr_aload_A jf_9_32 hl4 ?_
      replace h := obd_of h; obtain ⟨μ9, hμ9, h⟩ := h
      refine jr_P1v_5 jf_9_34 (by omega) (r_Section_init (by omega) _ _ _ _ _ _ _ _ hμ9) (Nat.le_of_ble_eq_true rfl) jml_10 (by simp only [jcats_cons, jcats_nil, cat_int, cat_long, cat_double, cat_float, cat_ref, rv_cat]; decide) ?_
      refine jr_astore jf_9_37 jml_9 (by decide) ?_
      refine jr_aload_n jf_9_39 rfl (jg1_ne rfl hl0) ?_
      replace h := obd_of h; obtain ⟨x10, hx10, h⟩ := h
      refine jr_getA jf_9_40 hx10 ?_
      refine jr_aload_n jf_9_43 rfl (jg1_ne rfl hl0) ?_
      replace h := obd_of h; obtain ⟨x11, hx11, h⟩ := h
      refine jr_getI jf_9_44 hx11 ?_
      refine jr_aload jf_9_47 jg1_same ?_
      replace h := obd_of h; obtain ⟨a12, rfl, h⟩ := h
      replace h := obd_of h; obtain ⟨μ13, hμ13, h⟩ := h
      refine jr_aastore jf_9_49 hμ13 ?_
      refine jr_aload_n jf_9_50 rfl (jg1_ne rfl hl0) ?_
      refine jr_dup jf_9_51 rfl ?_
      replace h := obd_of h; obtain ⟨x14, hx14, h⟩ := h
      refine jr_getI jf_9_52 hx14 ?_
      refine jr_iconst jf_9_55 jc_i_1 ?_
      refine jr_iadd jf_9_56 ?_
      replace h := obd_of h; obtain ⟨μ15, hμ15, h⟩ := h
      refine jr_putI jf_9_57 rfl hμ15 ?_
      refine jr_aload jf_9_60 jg1_same ?_
      obtain ⟨rfl, rfl⟩ := Prod.mk.inj (Option.some.inj h)
      exact jr_retA (x := some _) jf_9_62 jmt_9
    · refine jr_if2_lt_f jf_9_16 hc ?_
      refine jr_aconst_null jf_9_19 ?_
      obtain ⟨rfl, rfl⟩ := Prod.mk.inj (Option.some.inj h)
      exact jr_retA jf_9_20 jmt_9
set_option maxRecDepth 10000 in
set_option maxHeartbeats 4000000 in
theorem r_B_newSection {B : Nat} {SA : Nat → Nat} {d : Nat} (hd : 3 ≤ d) : ∀ (v0 : Nat) (v1 : Int32) (v2 : Int32) (v3 : Int32) (v4 : Option Nat) (μ : JMem) (r : Option Nat) (μ9 : JMem), g_B_newSection B SA v0 v1 v2 v3 v4 μ = some (r, μ9) → jR B SA d m_B_newSection 0 (lv_args 0 [.ref v0, .int v1, .int v2, .int v3, rv v4]) [] μ (some (rv r)) μ9 := by
  intro v0 v1 v2 v3 v4 μ r μ9 h
  exact r_B_newSection_e hd (lv_args 0 _) _ _ _ _ _ _ _ _ (by simp [lv_args, jget, rv_cat, cat_int, cat_long, cat_double, cat_float, cat_ref]) (by simp [lv_args, jget, rv_cat, cat_int, cat_long, cat_double, cat_float, cat_ref]) (by simp [lv_args, jget, rv_cat, cat_int, cat_long, cat_double, cat_float, cat_ref]) (by simp [lv_args, jget, rv_cat, cat_int, cat_long, cat_double, cat_float, cat_ref]) (by simp [lv_args, jget, rv_cat, cat_int, cat_long, cat_double, cat_float, cat_ref]) h
/-! FilterBench.numbersOf(I)LFilterBench$Numbers; -/
set_option maxRecDepth 10000 in
set_option maxHeartbeats 4000000 in
theorem r_B_numbersOf_e {B : Nat} {SA : Nat → Nat} {d : Nat} (hd : 0 ≤ d) : ∀ (L : JLoc) (v0 : Nat) (v1 : Int32) (μ : JMem) (r : Option Nat), jget L 0 = .ref v0 → jget L 1 = .int v1 → g_B_numbersOf v0 v1 μ.1 = some r → jR B SA d m_B_numbersOf 0 L [] μ (some (rv r)) μ := by
  intro L v0 v1 μ r hl0 hl1 h
  unfold g_B_numbersOf at h
  refine jr_iload_n jf_6_0 rfl hl1 ?_
  refine jr_switch jf_6_1 ?_
  replace h := ite_or h; rcases h with ⟨hc, h⟩ | ⟨hc, h⟩
  · refine jsw_hit (by decide) hc ?_
    refine jr_aload_n jf_6_28 rfl hl0 ?_
    replace h := obd_of h; obtain ⟨x1, hx1, h⟩ := h
    refine jr_getA jf_6_29 hx1 ?_
    obtain rfl := Option.some.inj h
    exact jr_retA jf_6_32 jmt_6
  · refine jsw_miss (by decide) hc (by decide : (0 : Int) + 1 = 1) ?_
    replace h := ite_or h; rcases h with ⟨hc, h⟩ | ⟨hc, h⟩
    · refine jsw_hit (by decide) hc ?_
      refine jr_aload_n jf_6_33 rfl hl0 ?_
      replace h := obd_of h; obtain ⟨x2, hx2, h⟩ := h
      refine jr_getA jf_6_34 hx2 ?_
      obtain rfl := Option.some.inj h
      exact jr_retA jf_6_37 jmt_6
    · refine jsw_miss (by decide) hc (by decide : (1 : Int) + 1 = 2) ?_
      replace h := ite_or h; rcases h with ⟨hc, h⟩ | ⟨hc, h⟩
      · refine jsw_hit (by decide) hc ?_
        refine jr_aload_n jf_6_38 rfl hl0 ?_
        replace h := obd_of h; obtain ⟨x3, hx3, h⟩ := h
        refine jr_getA jf_6_39 hx3 ?_
        obtain rfl := Option.some.inj h
        exact jr_retA jf_6_42 jmt_6
      · refine jsw_miss (by decide) hc (by decide : (2 : Int) + 1 = 3) ?_
        refine jsw_end ?_
        refine jr_aconst_null jf_6_43 ?_
        obtain rfl := Option.some.inj h
        exact jr_retA jf_6_44 jmt_6
set_option maxRecDepth 10000 in
set_option maxHeartbeats 4000000 in
theorem r_B_numbersOf {B : Nat} {SA : Nat → Nat} {d : Nat} (hd : 0 ≤ d) : ∀ (v0 : Nat) (v1 : Int32) (μ : JMem) (r : Option Nat), g_B_numbersOf v0 v1 μ.1 = some r → jR B SA d m_B_numbersOf 0 (lv_args 0 [.ref v0, .int v1]) [] μ (some (rv r)) μ := by
  intro v0 v1 μ r h
  exact r_B_numbersOf_e hd (lv_args 0 _) _ _ _ _ (by simp [lv_args, jget, rv_cat, cat_int, cat_long, cat_double, cat_float, cat_ref]) (by simp [lv_args, jget, rv_cat, cat_int, cat_long, cat_double, cat_float, cat_ref]) h
/-! FilterBench.section(III)I -/
set_option maxRecDepth 10000 in
set_option maxHeartbeats 4000000 in
theorem r_B_section_e {B : Nat} {SA : Nat → Nat} {d : Nat} (hd : 4 ≤ d) : ∀ (L : JLoc) (v0 : Nat) (v1 : Int32) (v2 : Int32) (v3 : Int32) (μ : JMem) (r : Int32) (μ9 : JMem), jget L 0 = .ref v0 → jget L 1 = .int v1 → jget L 2 = .int v2 → jget L 3 = .int v3 → g_B_section B SA v0 v1 v2 v3 μ = some (r, μ9) → jR B SA d m_B_section 0 L [] μ (some (.int r)) μ9 := by
  intro L v0 v1 v2 v3 μ r μ9 hl0 hl1 hl2 hl3 h
  unfold g_B_section at h
  refine jr_aload_n jf_5_0 rfl hl0 ?_
  refine jr_iload_n jf_5_1 rfl hl2 ?_
  replace h := jgd_of h; obtain ⟨hb1, h⟩ := h
  replace h := obd_of h; obtain ⟨x2, hx2, h⟩ := h
  refine jr_V6_1 jf_5_2 hb1 (by omega) (r_B_numbersOf (by omega) _ _ _ _ hx2) (Nat.le_of_ble_eq_true rfl) jml_6 (Nat.le_of_ble_eq_true rfl) ?_
  refine jr_astore_A jf_5_5 jml_5 (by decide) ?_
  refine jr_aload_A jf_5_7 jg1_same ?_
  replace h := jon_or h; rcases h with ⟨rfl, h⟩ | ⟨a3, rfl, h⟩
  · refine jr_ifnull_n jf_5_9 ?_
    refine jr_iconst jf_5_27 jc_i_m1 ?_
    obtain ⟨rfl, rfl⟩ := Prod.mk.inj (Option.some.inj h)
    exact jr_retI jf_5_28 jmt_5
  · refine jr_ifnull_s jf_5_9 ?_
    refine jr_iload_n jf_5_12 rfl (jg1_ne rfl hl1) ?_
    replace h := obd_of h; obtain ⟨x4, hx4, h⟩ := h
    refine jr_S3_1 jf_5_13 (by omega) (r_B_isKind (by omega) _ _ _ hx4) (Nat.le_of_ble_eq_true rfl) jml_7 (Nat.le_of_ble_eq_true rfl) ?_
    replace h := ite_or h; rcases h with ⟨hc, h⟩ | ⟨hc, h⟩
    · refine jr_ifz_eq_f jf_5_16 hc ?_
      refine jr_iload_n jf_5_19 rfl (jg1_ne rfl hl1) ?_
      refine jr_iload_n jf_5_20 rfl (jg1_pre rfl hl3) ?_
      replace h := obd_of h; obtain ⟨x5, hx5, h⟩ := h
      refine jr_S3_2 jf_5_21 (by omega) (r_B_fitsKind (by omega) _ _ _ _ hx5) (Nat.le_of_ble_eq_true rfl) jml_8 (Nat.le_of_ble_eq_true rfl) ?_
      replace h := ite_or h; rcases h with ⟨hc, h⟩ | ⟨hc, h⟩
      · refine jr_ifz_ne_t jf_5_24 hc ?_
        refine jr_aload_n jf_5_29 rfl (jg1_ne rfl hl0) ?_
        refine jr_iload_n jf_5_30 rfl (jg1_ne rfl hl1) ?_
        refine jr_iload_n jf_5_31 rfl (jg1_ne rfl hl2) ?_
        refine jr_iload_n jf_5_32 rfl (jg1_pre rfl hl3) ?_
        refine jr_aload jf_5_33 jg1_same ?_
        replace h := jgd_of h; obtain ⟨hb6, h⟩ := h
        replace h := jbd2_of h; obtain ⟨x7, μ8, hx7, h⟩ := h
        refine jr_V6_4 jf_5_35 hb6 (by omega) (r_B_newSection (by omega) _ _ _ _ _ _ _ _ hx7) (Nat.le_of_ble_eq_true rfl) jml_9 (by simp only [jcats_cons, jcats_nil, cat_int, cat_long, cat_double, cat_float, cat_ref, rv_cat]; decide) ?_
        refine jr_astore_A jf_5_38 jml_5 (by decide) ?_
        refine jr_aload_A jf_5_40 jg1_same ?_
        replace h := jon_or h; rcases h with ⟨rfl, h⟩ | ⟨a9, rfl, h⟩
        · refine jr_ifnonnull_n jf_5_42 ?_
          refine jr_iconst jf_5_45 jc_i_m1 ?_
          refine jr_goto jf_5_46 ?_
          obtain ⟨rfl, rfl⟩ := Prod.mk.inj (Option.some.inj h)
          exact jr_retI jf_5_54 jmt_5
        · refine jr_ifnonnull_s jf_5_42 ?_
          refine jr_aload jf_5_49 jg1_same ?_
          replace h := obd_of h; obtain ⟨x10, hx10, h⟩ := h
          refine jr_getI jf_5_51 hx10 ?_
          obtain ⟨rfl, rfl⟩ := Prod.mk.inj (Option.some.inj h)
          exact jr_retI jf_5_54 jmt_5
      · refine jr_ifz_ne_f jf_5_24 hc ?_
        refine jr_iconst jf_5_27 jc_i_m1 ?_
        obtain ⟨rfl, rfl⟩ := Prod.mk.inj (Option.some.inj h)
        exact jr_retI jf_5_28 jmt_5
    · refine jr_ifz_eq_t jf_5_16 hc ?_
      refine jr_iconst jf_5_27 jc_i_m1 ?_
      obtain ⟨rfl, rfl⟩ := Prod.mk.inj (Option.some.inj h)
      exact jr_retI jf_5_28 jmt_5
set_option maxRecDepth 10000 in
set_option maxHeartbeats 4000000 in
theorem r_B_section {B : Nat} {SA : Nat → Nat} {d : Nat} (hd : 4 ≤ d) : ∀ (v0 : Nat) (v1 : Int32) (v2 : Int32) (v3 : Int32) (μ : JMem) (r : Int32) (μ9 : JMem), g_B_section B SA v0 v1 v2 v3 μ = some (r, μ9) → jR B SA d m_B_section 0 (lv_args 0 [.ref v0, .int v1, .int v2, .int v3]) [] μ (some (.int r)) μ9 := by
  intro v0 v1 v2 v3 μ r μ9 h
  exact r_B_section_e hd (lv_args 0 _) _ _ _ _ _ _ _ (by simp [lv_args, jget, rv_cat, cat_int, cat_long, cat_double, cat_float, cat_ref]) (by simp [lv_args, jget, rv_cat, cat_int, cat_long, cat_double, cat_float, cat_ref]) (by simp [lv_args, jget, rv_cat, cat_int, cat_long, cat_double, cat_float, cat_ref]) (by simp [lv_args, jget, rv_cat, cat_int, cat_long, cat_double, cat_float, cat_ref]) h
/-! FilterBench.sectionAt(I)LFilterBench$Section; -/
set_option maxRecDepth 10000 in
set_option maxHeartbeats 4000000 in
theorem r_B_sectionAt_21 {B : Nat} {SA : Nat → Nat} {d : Nat} (hd : 0 ≤ d) : ∀ (L : JLoc) (μ : JMem) (r : Option Nat), g_B_sectionAt_21 μ.1 = some r → jR B SA d m_B_sectionAt 21 L [] μ (some (rv r)) μ := by
  intro L μ r h
  unfold g_B_sectionAt_21 at h
  refine jr_aconst_null jf_13_21 ?_
  refine jr_goto jf_13_22 ?_
  obtain rfl := Option.some.inj h
  exact jr_retA jf_13_31 jmt_13
set_option maxRecDepth 10000 in
set_option maxHeartbeats 4000000 in
theorem r_B_sectionAt_e {B : Nat} {SA : Nat → Nat} {d : Nat} (hd : 0 ≤ d) : ∀ (L : JLoc) (v0 : Nat) (v1 : Int32) (μ : JMem) (r : Option Nat), jget L 0 = .ref v0 → jget L 1 = .int v1 → g_B_sectionAt v0 v1 μ.1 = some r → jR B SA d m_B_sectionAt 0 L [] μ (some (rv r)) μ := by
  intro L v0 v1 μ r hl0 hl1 h
  unfold g_B_sectionAt at h
  refine jr_iload_n jf_13_0 rfl hl1 ?_
  replace h := ite_or h; rcases h with ⟨hc, h⟩ | ⟨hc, h⟩
  · refine jr_if_lt_t jf_13_1 hc ?_
    exact r_B_sectionAt_21 hd _  _ _ h
  · refine jr_if_lt_f jf_13_1 hc ?_
    refine jr_iload_n jf_13_4 rfl hl1 ?_
    refine jr_aload_n jf_13_5 rfl hl0 ?_
    replace h := obd_of h; obtain ⟨x1, hx1, h⟩ := h
    refine jr_getI jf_13_6 hx1 ?_
    replace h := ite_or h; rcases h with ⟨hc, h⟩ | ⟨hc, h⟩
    · refine jr_if2_ge_t jf_13_9 hc ?_
      exact r_B_sectionAt_21 hd _  _ _ h
    · refine jr_if2_ge_f jf_13_9 hc ?_
      refine jr_iload_n jf_13_12 rfl hl1 ?_
      refine jr_aload_n jf_13_13 rfl hl0 ?_
      replace h := obd_of h; obtain ⟨x2, hx2, h⟩ := h
      refine jr_getA jf_13_14 hx2 ?_
      replace h := obd_of h; obtain ⟨a3, rfl, h⟩ := h
      replace h := obd_of h; obtain ⟨x4, hx4, h⟩ := h
      refine jr_arraylength jf_13_17 hx4 ?_
      replace h := ite_or h; rcases h with ⟨hc, h⟩ | ⟨hc, h⟩
      · refine jr_if2_lt_t jf_13_18 hc ?_
        refine jr_aload_n jf_13_25 rfl hl0 ?_
        replace h := obd_of h; obtain ⟨x5, hx5, h⟩ := h
        refine jr_getA jf_13_26 hx5 ?_
        refine jr_iload_n jf_13_29 rfl hl1 ?_
        replace h := obd_of h; obtain ⟨a6, rfl, h⟩ := h
        replace h := obd_of h; obtain ⟨x7, hx7, h⟩ := h
        refine jr_aaload jf_13_30 hx7 ?_
        obtain rfl := Option.some.inj h
        exact jr_retA jf_13_31 jmt_13
      · refine jr_if2_lt_f jf_13_18 hc ?_
        exact r_B_sectionAt_21 hd _  _ _ h
set_option maxRecDepth 10000 in
set_option maxHeartbeats 4000000 in
theorem r_B_sectionAt {B : Nat} {SA : Nat → Nat} {d : Nat} (hd : 0 ≤ d) : ∀ (v0 : Nat) (v1 : Int32) (μ : JMem) (r : Option Nat), g_B_sectionAt v0 v1 μ.1 = some r → jR B SA d m_B_sectionAt 0 (lv_args 0 [.ref v0, .int v1]) [] μ (some (rv r)) μ := by
  intro v0 v1 μ r h
  exact r_B_sectionAt_e hd (lv_args 0 _) _ _ _ _ (by simp [lv_args, jget, rv_cat, cat_int, cat_long, cat_double, cat_float, cat_ref]) (by simp [lv_args, jget, rv_cat, cat_int, cat_long, cat_double, cat_float, cat_ref]) h
/-! FilterBench$Real.isNumber(J)Z -/
set_option maxRecDepth 10000 in
set_option maxHeartbeats 4000000 in
theorem r_Real_isNumber_e {B : Nat} {SA : Nat → Nat} {d : Nat} (hd : 0 ≤ d) : ∀ (L : JLoc) (v0 : Nat) (v1 : Int64) (μ : JMem) (r : Bool), jget L 0 = .ref v0 → jget L 1 = .long v1 → g_Real_isNumber v0 v1 μ.1 = some r → jR B SA d m_Real_isNumber 0 L [] μ (some (.int (jb r))) μ := by
  intro L v0 v1 μ r hl0 hl1 h
  unfold g_Real_isNumber at h
  refine jr_lload_n jf_18_0 rfl hl1 ?_
  refine jr_aload_n jf_18_1 rfl hl0 ?_
  replace h := obd_of h; obtain ⟨x1, hx1, h⟩ := h
  refine jr_getJ jf_18_2 hx1 ?_
  refine jr_ldc2l jf_18_5 ?_
  refine jr_lxor jf_18_8 ?_
  refine jr_land jf_18_9 ?_
  refine jr_aload_n jf_18_10 rfl hl0 ?_
  replace h := obd_of h; obtain ⟨x2, hx2, h⟩ := h
  refine jr_getJ jf_18_11 hx2 ?_
  refine jr_lcmp jf_18_14 ?_
  replace h := ite_or h; rcases h with ⟨hc, h⟩ | ⟨hc, h⟩
  · refine jr_ifl_gt_t jf_18_15 hc ?_
    refine jr_iconst jf_18_22 jc_i_0 ?_
    obtain rfl := Option.some.inj h
    exact jr_retZ (x := false) jf_18_23 jmt_18
  · refine jr_ifl_gt_f jf_18_15 hc ?_
    refine jr_iconst jf_18_18 jc_i_1 ?_
    refine jr_goto jf_18_19 ?_
    obtain rfl := Option.some.inj h
    exact jr_retZ (x := true) jf_18_23 jmt_18
set_option maxRecDepth 10000 in
set_option maxHeartbeats 4000000 in
theorem r_Real_isNumber {B : Nat} {SA : Nat → Nat} {d : Nat} (hd : 0 ≤ d) : ∀ (v0 : Nat) (v1 : Int64) (μ : JMem) (r : Bool), g_Real_isNumber v0 v1 μ.1 = some r → jR B SA d m_Real_isNumber 0 (lv_args 0 [.ref v0, .long v1]) [] μ (some (.int (jb r))) μ := by
  intro v0 v1 μ r h
  exact r_Real_isNumber_e hd (lv_args 0 _) _ _ _ _ (by simp [lv_args, jget, rv_cat, cat_int, cat_long, cat_double, cat_float, cat_ref]) (by simp [lv_args, jget, rv_cat, cat_int, cat_long, cat_double, cat_float, cat_ref]) h
/-! FilterBench$Real.clean(J)J -/
set_option maxRecDepth 10000 in
set_option maxHeartbeats 4000000 in
theorem r_Real_clean_e {B : Nat} {SA : Nat → Nat} {d : Nat} (hd : 1 ≤ d) : ∀ (L : JLoc) (v0 : Nat) (v1 : Int64) (μ : JMem) (r : Int64), jget L 0 = .ref v0 → jget L 1 = .long v1 → g_Real_clean v0 v1 μ.1 = some r → jR B SA d m_Real_clean 0 L [] μ (some (.long r)) μ := by
  intro L v0 v1 μ r hl0 hl1 h
  unfold g_Real_clean at h
  refine jr_aload_n jf_17_0 rfl hl0 ?_
  refine jr_lload_n jf_17_1 rfl hl1 ?_
  replace h := jgd_of h; obtain ⟨hb1, h⟩ := h
  replace h := obd_of h; obtain ⟨x2, hx2, h⟩ := h
  refine jr_V6_1 jf_17_2 hb1 (by omega) (r_Real_isNumber (by omega) _ _ _ _ hx2) (Nat.le_of_ble_eq_true rfl) jml_18 (Nat.le_of_ble_eq_true rfl) ?_
  replace h := ite_or h; rcases h with ⟨hc, h⟩ | ⟨hc, h⟩
  · refine jr_ifz_eq_f jf_17_5 hc ?_
    refine jr_lload_n jf_17_8 rfl hl1 ?_
    refine jr_goto jf_17_9 ?_
    obtain rfl := Option.some.inj h
    exact jr_retJ jf_17_16 jmt_17
  · refine jr_ifz_eq_t jf_17_5 hc ?_
    refine jr_aload_n jf_17_12 rfl hl0 ?_
    replace h := obd_of h; obtain ⟨x3, hx3, h⟩ := h
    refine jr_getJ jf_17_13 hx3 ?_
    obtain rfl := Option.some.inj h
    exact jr_retJ jf_17_16 jmt_17
set_option maxRecDepth 10000 in
set_option maxHeartbeats 4000000 in
theorem r_Real_clean {B : Nat} {SA : Nat → Nat} {d : Nat} (hd : 1 ≤ d) : ∀ (v0 : Nat) (v1 : Int64) (μ : JMem) (r : Int64), g_Real_clean v0 v1 μ.1 = some r → jR B SA d m_Real_clean 0 (lv_args 0 [.ref v0, .long v1]) [] μ (some (.long r)) μ := by
  intro v0 v1 μ r h
  exact r_Real_clean_e hd (lv_args 0 _) _ _ _ _ (by simp [lv_args, jget, rv_cat, cat_int, cat_long, cat_double, cat_float, cat_ref]) (by simp [lv_args, jget, rv_cat, cat_int, cat_long, cat_double, cat_float, cat_ref]) h
/-! FilterBench$Real.holds(J)Z -/
set_option maxRecDepth 10000 in
set_option maxHeartbeats 4000000 in
theorem r_Real_holds_17 {B : Nat} {SA : Nat → Nat} {d : Nat} (hd : 0 ≤ d) : ∀ (L : JLoc) (μ : JMem) (r : Bool), g_Real_holds_17 μ.1 = some r → jR B SA d m_Real_holds 17 L [] μ (some (.int (jb r))) μ := by
  intro L μ r h
  unfold g_Real_holds_17 at h
  refine jr_iconst jf_15_17 jc_i_1 ?_
  refine jr_goto jf_15_18 ?_
  obtain rfl := Option.some.inj h
  exact jr_retZ (x := true) jf_15_22 jmt_15
set_option maxRecDepth 10000 in
set_option maxHeartbeats 4000000 in
theorem r_Real_holds_e {B : Nat} {SA : Nat → Nat} {d : Nat} (hd : 0 ≤ d) : ∀ (L : JLoc) (v0 : Nat) (v1 : Int64) (μ : JMem) (r : Bool), jget L 0 = .ref v0 → jget L 1 = .long v1 → g_Real_holds v0 v1 μ.1 = some r → jR B SA d m_Real_holds 0 L [] μ (some (.int (jb r))) μ := by
  intro L v0 v1 μ r hl0 hl1 h
  unfold g_Real_holds at h
  refine jr_aload_n jf_15_0 rfl hl0 ?_
  replace h := obd_of h; obtain ⟨x1, hx1, h⟩ := h
  refine jr_getI jf_15_1 hx1 ?_
  refine jr_bipush jf_15_4 jc_b_52 ?_
  replace h := ite_or h; rcases h with ⟨hc, h⟩ | ⟨hc, h⟩
  · refine jr_if2_eq_t jf_15_6 hc ?_
    exact r_Real_holds_17 hd _  _ _ h
  · refine jr_if2_eq_f jf_15_6 hc ?_
    refine jr_lload_n jf_15_9 rfl hl1 ?_
    refine jr_lload_n jf_15_10 rfl hl1 ?_
    refine jr_l2i jf_15_11 ?_
    refine jr_i2l jf_15_12 ?_
    refine jr_lcmp jf_15_13 ?_
    replace h := ite_or h; rcases h with ⟨hc, h⟩ | ⟨hc, h⟩
    · refine jr_ifl_ne_f jf_15_14 hc ?_
      exact r_Real_holds_17 hd _  _ _ h
    · refine jr_ifl_ne_t jf_15_14 hc ?_
      refine jr_iconst jf_15_21 jc_i_0 ?_
      obtain rfl := Option.some.inj h
      exact jr_retZ (x := false) jf_15_22 jmt_15
set_option maxRecDepth 10000 in
set_option maxHeartbeats 4000000 in
theorem r_Real_holds {B : Nat} {SA : Nat → Nat} {d : Nat} (hd : 0 ≤ d) : ∀ (v0 : Nat) (v1 : Int64) (μ : JMem) (r : Bool), g_Real_holds v0 v1 μ.1 = some r → jR B SA d m_Real_holds 0 (lv_args 0 [.ref v0, .long v1]) [] μ (some (.int (jb r))) μ := by
  intro v0 v1 μ r h
  exact r_Real_holds_e hd (lv_args 0 _) _ _ _ _ (by simp [lv_args, jget, rv_cat, cat_int, cat_long, cat_double, cat_float, cat_ref]) (by simp [lv_args, jget, rv_cat, cat_int, cat_long, cat_double, cat_float, cat_ref]) h
/-! FilterBench$Section.hasFactor(I)Z -/
set_option maxRecDepth 10000 in
set_option maxHeartbeats 4000000 in
theorem r_Section_hasFactor_e {B : Nat} {SA : Nat → Nat} {d : Nat} (hd : 0 ≤ d) : ∀ (L : JLoc) (v0 : Nat) (v1 : Int32) (μ : JMem) (r : Bool), jget L 0 = .ref v0 → jget L 1 = .int v1 → g_Section_hasFactor v0 v1 μ.1 = some r → jR B SA d m_Section_hasFactor 0 L [] μ (some (.int (jb r))) μ := by
  intro L v0 v1 μ r hl0 hl1 h
  unfold g_Section_hasFactor at h
  refine jr_iload_n jf_14_0 rfl hl1 ?_
  replace h := ite_or h; rcases h with ⟨hc, h⟩ | ⟨hc, h⟩
  · refine jr_if_lt_t jf_14_1 hc ?_
    refine jr_iconst jf_14_17 jc_i_0 ?_
    obtain rfl := Option.some.inj h
    exact jr_retZ (x := false) jf_14_18 jmt_14
  · refine jr_if_lt_f jf_14_1 hc ?_
    refine jr_iload_n jf_14_4 rfl hl1 ?_
    refine jr_aload_n jf_14_5 rfl hl0 ?_
    replace h := obd_of h; obtain ⟨x1, hx1, h⟩ := h
    refine jr_getA jf_14_6 hx1 ?_
    replace h := obd_of h; obtain ⟨a2, rfl, h⟩ := h
    replace h := obd_of h; obtain ⟨x3, hx3, h⟩ := h
    refine jr_arraylength jf_14_9 hx3 ?_
    replace h := ite_or h; rcases h with ⟨hc, h⟩ | ⟨hc, h⟩
    · refine jr_if2_ge_t jf_14_10 hc ?_
      refine jr_iconst jf_14_17 jc_i_0 ?_
      obtain rfl := Option.some.inj h
      exact jr_retZ (x := false) jf_14_18 jmt_14
    · refine jr_if2_ge_f jf_14_10 hc ?_
      refine jr_iconst jf_14_13 jc_i_1 ?_
      refine jr_goto jf_14_14 ?_
      obtain rfl := Option.some.inj h
      exact jr_retZ (x := true) jf_14_18 jmt_14
set_option maxRecDepth 10000 in
set_option maxHeartbeats 4000000 in
theorem r_Section_hasFactor {B : Nat} {SA : Nat → Nat} {d : Nat} (hd : 0 ≤ d) : ∀ (v0 : Nat) (v1 : Int32) (μ : JMem) (r : Bool), g_Section_hasFactor v0 v1 μ.1 = some r → jR B SA d m_Section_hasFactor 0 (lv_args 0 [.ref v0, .int v1]) [] μ (some (.int (jb r))) μ := by
  intro v0 v1 μ r h
  exact r_Section_hasFactor_e hd (lv_args 0 _) _ _ _ _ (by simp [lv_args, jget, rv_cat, cat_int, cat_long, cat_double, cat_float, cat_ref]) (by simp [lv_args, jget, rv_cat, cat_int, cat_long, cat_double, cat_float, cat_ref]) h
/-! FilterBench$Section.setFactor(IJ)V -/
set_option maxRecDepth 10000 in
set_option maxHeartbeats 4000000 in
theorem r_Section_setFactor_e {B : Nat} {SA : Nat → Nat} {d : Nat} (hd : 0 ≤ d) : ∀ (L : JLoc) (v0 : Nat) (v1 : Int32) (v2 : Int64) (μ : JMem) (μ9 : JMem), jget L 0 = .ref v0 → jget L 1 = .int v1 → jget L 2 = .long v2 → g_Section_setFactor B v0 v1 v2 μ = some μ9 → jR B SA d m_Section_setFactor 0 L [] μ none μ9 := by
  intro L v0 v1 v2 μ μ9 hl0 hl1 hl2 h
  unfold g_Section_setFactor at h
  refine jr_iload_n jf_20_0 rfl hl1 ?_
  replace h := ite_or h; rcases h with ⟨hc, h⟩ | ⟨hc, h⟩
  · refine jr_if_lt_t jf_20_1 hc ?_
    obtain rfl := Option.some.inj h
    exact jr_return jf_20_20 jmt_20
  · refine jr_if_lt_f jf_20_1 hc ?_
    refine jr_iload_n jf_20_4 rfl hl1 ?_
    refine jr_aload_n jf_20_5 rfl hl0 ?_
    replace h := obd_of h; obtain ⟨x1, hx1, h⟩ := h
    refine jr_getA jf_20_6 hx1 ?_
    replace h := obd_of h; obtain ⟨a2, rfl, h⟩ := h
    replace h := obd_of h; obtain ⟨x3, hx3, h⟩ := h
    refine jr_arraylength jf_20_9 hx3 ?_
    replace h := ite_or h; rcases h with ⟨hc, h⟩ | ⟨hc, h⟩
    · refine jr_if2_ge_t jf_20_10 hc ?_
      obtain rfl := Option.some.inj h
      exact jr_return jf_20_20 jmt_20
    · refine jr_if2_ge_f jf_20_10 hc ?_
      refine jr_aload_n jf_20_13 rfl hl0 ?_
      replace h := obd_of h; obtain ⟨x4, hx4, h⟩ := h
      refine jr_getA jf_20_14 hx4 ?_
      refine jr_iload_n jf_20_17 rfl hl1 ?_
      refine jr_lload_n jf_20_18 rfl hl2 ?_
      replace h := obd_of h; obtain ⟨a5, rfl, h⟩ := h
      replace h := obd_of h; obtain ⟨μ6, hμ6, h⟩ := h
      refine jr_lastore jf_20_19 hμ6 ?_
      obtain rfl := Option.some.inj h
      exact jr_return jf_20_20 jmt_20
set_option maxRecDepth 10000 in
set_option maxHeartbeats 4000000 in
theorem r_Section_setFactor {B : Nat} {SA : Nat → Nat} {d : Nat} (hd : 0 ≤ d) : ∀ (v0 : Nat) (v1 : Int32) (v2 : Int64) (μ : JMem) (μ9 : JMem), g_Section_setFactor B v0 v1 v2 μ = some μ9 → jR B SA d m_Section_setFactor 0 (lv_args 0 [.ref v0, .int v1, .long v2]) [] μ none μ9 := by
  intro v0 v1 v2 μ μ9 h
  exact r_Section_setFactor_e hd (lv_args 0 _) _ _ _ _ _ (by simp [lv_args, jget, rv_cat, cat_int, cat_long, cat_double, cat_float, cat_ref]) (by simp [lv_args, jget, rv_cat, cat_int, cat_long, cat_double, cat_float, cat_ref]) (by simp [lv_args, jget, rv_cat, cat_int, cat_long, cat_double, cat_float, cat_ref]) h
/-! FilterBench$Shorts.clean(J)J -/
set_option maxRecDepth 10000 in
set_option maxHeartbeats 4000000 in
theorem r_Shorts_clean_e {B : Nat} {SA : Nat → Nat} {d : Nat} (hd : 0 ≤ d) : ∀ (L : JLoc) (v1 : Int64) (μ : JMem) (r : Int64), jget L 1 = .long v1 → g_Shorts_clean_e v1 = r → jR B SA d m_Shorts_clean 0 L [] μ (some (.long r)) μ := by
  intro L v1 μ r hl1 h
  unfold g_Shorts_clean_e at h
  refine jr_lload_n jf_19_0 rfl hl1 ?_
  subst h
  exact jr_retJ jf_19_1 jmt_19
set_option maxRecDepth 10000 in
set_option maxHeartbeats 4000000 in
theorem r_Shorts_clean {B : Nat} {SA : Nat → Nat} {d : Nat} (hd : 0 ≤ d) : ∀ (v0 : Nat) (v1 : Int64) (μ : JMem) (r : Int64), g_Shorts_clean v0 v1 = r → jR B SA d m_Shorts_clean 0 (lv_args 0 [.ref v0, .long v1]) [] μ (some (.long r)) μ := by
  intro v0 v1 μ r h
  exact r_Shorts_clean_e hd (lv_args 0 _) _ _ _ (by simp [lv_args, jget, rv_cat, cat_int, cat_long, cat_double, cat_float, cat_ref]) h
/-! FilterBench$Shorts.holds(J)Z -/
set_option maxRecDepth 10000 in
set_option maxHeartbeats 4000000 in
theorem r_Shorts_holds_e {B : Nat} {SA : Nat → Nat} {d : Nat} (hd : 0 ≤ d) : ∀ (L : JLoc) (v1 : Int64) (μ : JMem) (r : Bool), jget L 1 = .long v1 → g_Shorts_holds_e v1 = r → jR B SA d m_Shorts_holds 0 L [] μ (some (.int (jb r))) μ := by
  intro L v1 μ r hl1 h
  unfold g_Shorts_holds_e at h
  refine jr_lload_n jf_16_0 rfl hl1 ?_
  refine jr_lload_n jf_16_1 rfl hl1 ?_
  refine jr_l2i jf_16_2 ?_
  refine jr_i2s jf_16_3 ?_
  refine jr_i2l jf_16_4 ?_
  refine jr_lcmp jf_16_5 ?_
  replace h := ite_or h; rcases h with ⟨hc, h⟩ | ⟨hc, h⟩
  · refine jr_ifl_ne_f jf_16_6 hc ?_
    refine jr_iconst jf_16_9 jc_i_1 ?_
    refine jr_goto jf_16_10 ?_
    subst h
    exact jr_retZ (x := true) jf_16_14 jmt_16
  · refine jr_ifl_ne_t jf_16_6 hc ?_
    refine jr_iconst jf_16_13 jc_i_0 ?_
    subst h
    exact jr_retZ (x := false) jf_16_14 jmt_16
set_option maxRecDepth 10000 in
set_option maxHeartbeats 4000000 in
theorem r_Shorts_holds {B : Nat} {SA : Nat → Nat} {d : Nat} (hd : 0 ≤ d) : ∀ (v0 : Nat) (v1 : Int64) (μ : JMem) (r : Bool), g_Shorts_holds v0 v1 = r → jR B SA d m_Shorts_holds 0 (lv_args 0 [.ref v0, .long v1]) [] μ (some (.int (jb r))) μ := by
  intro v0 v1 μ r h
  exact r_Shorts_holds_e hd (lv_args 0 _) _ _ _ (by simp [lv_args, jget, rv_cat, cat_int, cat_long, cat_double, cat_float, cat_ref]) h
/-! FilterBench.coefficient(IIJ)Z -/
set_option maxRecDepth 10000 in
set_option maxHeartbeats 4000000 in
theorem r_B_coefficient_e {B : Nat} {SA : Nat → Nat} {d : Nat} (hd : 2 ≤ d) : ∀ (L : JLoc) (v0 : Nat) (v1 : Int32) (v2 : Int32) (v3 : Int64) (μ : JMem) (r : Bool) (μ9 : JMem), jget L 0 = .ref v0 → jget L 1 = .int v1 → jget L 2 = .int v2 → jget L 3 = .long v3 → g_B_coefficient B v0 v1 v2 v3 μ = some (r, μ9) → jR B SA d m_B_coefficient 0 L [] μ (some (.int (jb r))) μ9 := by
  intro L v0 v1 v2 v3 μ r μ9 hl0 hl1 hl2 hl3 h
  unfold g_B_coefficient at h
  refine jr_aload_n jf_12_0 rfl hl0 ?_
  refine jr_iload_n jf_12_1 rfl hl1 ?_
  replace h := jgd_of h; obtain ⟨hb1, h⟩ := h
  replace h := obd_of h; obtain ⟨x2, hx2, h⟩ := h
  refine jr_V6_1 jf_12_2 hb1 (by omega) (r_B_sectionAt (by omega) _ _ _ _ hx2) (Nat.le_of_ble_eq_true rfl) jml_13 (Nat.le_of_ble_eq_true rfl) ?_
  refine jr_astore_A jf_12_5 jml_12 (by decide) ?_
  refine jr_aload_A jf_12_7 jg1_same ?_
  replace h := jon_or h; rcases h with ⟨rfl, h⟩ | ⟨a3, rfl, h⟩
  · refine jr_ifnull_n jf_12_9 ?_
    refine jr_iconst jf_12_33 jc_i_0 ?_
    obtain ⟨rfl, rfl⟩ := Prod.mk.inj (Option.some.inj h)
    exact jr_retZ (x := false) jf_12_34 jmt_12
  · refine jr_ifnull_s jf_12_9 ?_
    refine jr_aload jf_12_12 jg1_same ?_
    refine jr_iload_n jf_12_14 rfl (jg1_ne rfl hl2) ?_
    replace h := jgd_of h; obtain ⟨hb4, h⟩ := h
    replace h := obd_of h; obtain ⟨x5, hx5, h⟩ := h
    refine jr_V6_1 jf_12_15 hb4 (by omega) (r_Section_hasFactor (by omega) _ _ _ _ hx5) (Nat.le_of_ble_eq_true rfl) jml_14 (Nat.le_of_ble_eq_true rfl) ?_
    replace h := ite_or h; rcases h with ⟨hc, h⟩ | ⟨hc, h⟩
    · refine jr_ifz_eq_f jf_12_18 hc ?_
      refine jr_aload jf_12_21 jg1_same ?_
      replace h := obd_of h; obtain ⟨x6, hx6, h⟩ := h
      refine jr_getA jf_12_23 hx6 ?_
      refine jr_lload_n jf_12_26 rfl (jg1_ne rfl hl3) ?_
      replace h := obd_of h; obtain ⟨a7, rfl, h⟩ := h
      replace h := obd_of h; obtain ⟨x8, hx8, h⟩ := h
      rcases ite_or hx8 with ⟨hb, hx⟩ | ⟨hb0, hx⟩
      · refine jr_V8a_1 jf_12_27 hb (by omega) (r_Real_holds (by omega) _ _ _ _ hx) (Nat.le_of_ble_eq_true rfl) jml_15 (Nat.le_of_ble_eq_true rfl) ?_
        replace h := ite_or h; rcases h with ⟨hc, h⟩ | ⟨hc, h⟩
        · refine jr_ifz_ne_t jf_12_30 hc ?_
          refine jr_aload jf_12_35 jg1_same ?_
          refine jr_iload_n jf_12_37 rfl (jg1_ne rfl hl2) ?_
          refine jr_aload jf_12_38 jg1_same ?_
          replace h := obd_of h; obtain ⟨x9, hx9, h⟩ := h
          refine jr_getA jf_12_40 hx9 ?_
          refine jr_lload_n jf_12_43 rfl (jg1_ne rfl hl3) ?_
          replace h := obd_of h; obtain ⟨a10, rfl, h⟩ := h
          replace h := obd_of h; obtain ⟨x11, hx11, h⟩ := h
          rcases ite_or hx11 with ⟨hb, hx⟩ | ⟨hb0, hx⟩
          · refine jr_V8a_1 jf_12_44 hb (by omega) (r_Real_clean (by omega) _ _ _ _ hx) (Nat.le_of_ble_eq_true rfl) jml_17 (Nat.le_of_ble_eq_true rfl) ?_
            replace h := jgd_of h; obtain ⟨hb12, h⟩ := h
            replace h := obd_of h; obtain ⟨μ13, hμ13, h⟩ := h
            refine jr_V6v_2 jf_12_47 hb12 (by omega) (r_Section_setFactor (by omega) _ _ _ _ _ hμ13) (Nat.le_of_ble_eq_true rfl) jml_20 (Nat.le_of_ble_eq_true rfl) ?_
            refine jr_iconst jf_12_50 jc_i_1 ?_
            obtain ⟨rfl, rfl⟩ := Prod.mk.inj (Option.some.inj h)
            exact jr_retZ (x := true) jf_12_51 jmt_12
          · obtain ⟨hb, hx⟩ := jgd_of hx
            obtain hx := Option.some.inj hx
            refine jr_V8b_1 jf_12_44 hb0 hb (by omega) (r_Shorts_clean (by omega) _ _ _ _ hx) (Nat.le_of_ble_eq_true rfl) jml_19 (Nat.le_of_ble_eq_true rfl) ?_
            replace h := jgd_of h; obtain ⟨hb12, h⟩ := h
            replace h := obd_of h; obtain ⟨μ13, hμ13, h⟩ := h
            refine jr_V6v_2 jf_12_47 hb12 (by omega) (r_Section_setFactor (by omega) _ _ _ _ _ hμ13) (Nat.le_of_ble_eq_true rfl) jml_20 (Nat.le_of_ble_eq_true rfl) ?_
            refine jr_iconst jf_12_50 jc_i_1 ?_
            obtain ⟨rfl, rfl⟩ := Prod.mk.inj (Option.some.inj h)
            exact jr_retZ (x := true) jf_12_51 jmt_12
        · refine jr_ifz_ne_f jf_12_30 hc ?_
          refine jr_iconst jf_12_33 jc_i_0 ?_
          obtain ⟨rfl, rfl⟩ := Prod.mk.inj (Option.some.inj h)
          exact jr_retZ (x := false) jf_12_34 jmt_12
      · obtain ⟨hb, hx⟩ := jgd_of hx
        obtain hx := Option.some.inj hx
        refine jr_V8b_1 jf_12_27 hb0 hb (by omega) (r_Shorts_holds (by omega) _ _ _ _ hx) (Nat.le_of_ble_eq_true rfl) jml_16 (Nat.le_of_ble_eq_true rfl) ?_
        replace h := ite_or h; rcases h with ⟨hc, h⟩ | ⟨hc, h⟩
        · refine jr_ifz_ne_t jf_12_30 hc ?_
          refine jr_aload jf_12_35 jg1_same ?_
          refine jr_iload_n jf_12_37 rfl (jg1_ne rfl hl2) ?_
          refine jr_aload jf_12_38 jg1_same ?_
          replace h := obd_of h; obtain ⟨x9, hx9, h⟩ := h
          refine jr_getA jf_12_40 hx9 ?_
          refine jr_lload_n jf_12_43 rfl (jg1_ne rfl hl3) ?_
          replace h := obd_of h; obtain ⟨a10, rfl, h⟩ := h
          replace h := obd_of h; obtain ⟨x11, hx11, h⟩ := h
          rcases ite_or hx11 with ⟨hb, hx⟩ | ⟨hb0, hx⟩
          · refine jr_V8a_1 jf_12_44 hb (by omega) (r_Real_clean (by omega) _ _ _ _ hx) (Nat.le_of_ble_eq_true rfl) jml_17 (Nat.le_of_ble_eq_true rfl) ?_
            replace h := jgd_of h; obtain ⟨hb12, h⟩ := h
            replace h := obd_of h; obtain ⟨μ13, hμ13, h⟩ := h
            refine jr_V6v_2 jf_12_47 hb12 (by omega) (r_Section_setFactor (by omega) _ _ _ _ _ hμ13) (Nat.le_of_ble_eq_true rfl) jml_20 (Nat.le_of_ble_eq_true rfl) ?_
            refine jr_iconst jf_12_50 jc_i_1 ?_
            obtain ⟨rfl, rfl⟩ := Prod.mk.inj (Option.some.inj h)
            exact jr_retZ (x := true) jf_12_51 jmt_12
          · obtain ⟨hb, hx⟩ := jgd_of hx
            obtain hx := Option.some.inj hx
            refine jr_V8b_1 jf_12_44 hb0 hb (by omega) (r_Shorts_clean (by omega) _ _ _ _ hx) (Nat.le_of_ble_eq_true rfl) jml_19 (Nat.le_of_ble_eq_true rfl) ?_
            replace h := jgd_of h; obtain ⟨hb12, h⟩ := h
            replace h := obd_of h; obtain ⟨μ13, hμ13, h⟩ := h
            refine jr_V6v_2 jf_12_47 hb12 (by omega) (r_Section_setFactor (by omega) _ _ _ _ _ hμ13) (Nat.le_of_ble_eq_true rfl) jml_20 (Nat.le_of_ble_eq_true rfl) ?_
            refine jr_iconst jf_12_50 jc_i_1 ?_
            obtain ⟨rfl, rfl⟩ := Prod.mk.inj (Option.some.inj h)
            exact jr_retZ (x := true) jf_12_51 jmt_12
        · refine jr_ifz_ne_f jf_12_30 hc ?_
          refine jr_iconst jf_12_33 jc_i_0 ?_
          obtain ⟨rfl, rfl⟩ := Prod.mk.inj (Option.some.inj h)
          exact jr_retZ (x := false) jf_12_34 jmt_12
    · refine jr_ifz_eq_t jf_12_18 hc ?_
      refine jr_iconst jf_12_33 jc_i_0 ?_
      obtain ⟨rfl, rfl⟩ := Prod.mk.inj (Option.some.inj h)
      exact jr_retZ (x := false) jf_12_34 jmt_12
set_option maxRecDepth 10000 in
set_option maxHeartbeats 4000000 in
theorem r_B_coefficient {B : Nat} {SA : Nat → Nat} {d : Nat} (hd : 2 ≤ d) : ∀ (v0 : Nat) (v1 : Int32) (v2 : Int32) (v3 : Int64) (μ : JMem) (r : Bool) (μ9 : JMem), g_B_coefficient B v0 v1 v2 v3 μ = some (r, μ9) → jR B SA d m_B_coefficient 0 (lv_args 0 [.ref v0, .int v1, .int v2, .long v3]) [] μ (some (.int (jb r))) μ9 := by
  intro v0 v1 v2 v3 μ r μ9 h
  exact r_B_coefficient_e hd (lv_args 0 _) _ _ _ _ _ _ _ (by simp [lv_args, jget, rv_cat, cat_int, cat_long, cat_double, cat_float, cat_ref]) (by simp [lv_args, jget, rv_cat, cat_int, cat_long, cat_double, cat_float, cat_ref]) (by simp [lv_args, jget, rv_cat, cat_int, cat_long, cat_double, cat_float, cat_ref]) (by simp [lv_args, jget, rv_cat, cat_int, cat_long, cat_double, cat_float, cat_ref]) h
/-! java/lang/Math.abs(J)J -/
set_option maxRecDepth 10000 in
set_option maxHeartbeats 4000000 in
theorem r_JMath_abs_e {B : Nat} {SA : Nat → Nat} {d : Nat} (hd : 0 ≤ d) : ∀ (L : JLoc) (v0 : Int64) (μ : JMem) (r : Int64), jget L 0 = .long v0 → g_JMath_abs v0 = r → jR B SA d m_JMath_abs 0 L [] μ (some (.long r)) μ := by
  intro L v0 μ r hl0 h
  unfold g_JMath_abs at h
  refine jr_lload_n jf_25_0 rfl hl0 ?_
  refine jr_lconst0 jf_25_1 ?_
  refine jr_lcmp jf_25_2 ?_
  replace h := ite_or h; rcases h with ⟨hc, h⟩ | ⟨hc, h⟩
  · refine jr_ifl_ge_t jf_25_3 hc ?_
    refine jr_lload_n jf_25_11 rfl hl0 ?_
    subst h
    exact jr_retJ jf_25_12 jmt_25
  · refine jr_ifl_ge_f jf_25_3 hc ?_
    refine jr_lload_n jf_25_6 rfl hl0 ?_
    refine jr_lneg jf_25_7 ?_
    refine jr_goto jf_25_8 ?_
    subst h
    exact jr_retJ jf_25_12 jmt_25
set_option maxRecDepth 10000 in
set_option maxHeartbeats 4000000 in
theorem r_JMath_abs {B : Nat} {SA : Nat → Nat} {d : Nat} (hd : 0 ≤ d) : ∀ (v0 : Int64) (μ : JMem) (r : Int64), g_JMath_abs v0 = r → jR B SA d m_JMath_abs 0 (lv_args 0 [.long v0]) [] μ (some (.long r)) μ := by
  intro v0 μ r h
  exact r_JMath_abs_e hd (lv_args 0 _) _ _ _ (by simp [lv_args, jget, rv_cat, cat_int, cat_long, cat_double, cat_float, cat_ref]) h
/-! FilterBench$Real.lead(J)I -/
set_option maxRecDepth 10000 in
set_option maxHeartbeats 4000000 in
theorem r_Real_lead_89 {B : Nat} {SA : Nat → Nat} {d : Nat} (hd : 0 ≤ d) : ∀ (L : JLoc) (v2 : Int64) (v4 : Int32) (μ : JMem) (r : Int32), jget L 2 = .long v2 → jget L 4 = .int v4 → g_Real_lead_89 v2 v4 = r → jR B SA d m_Real_lead 89 L [] μ (some (.int r)) μ := by
  intro L v2 v4 μ r hl2 hl4 h
  unfold g_Real_lead_89 at h
  refine jr_lload_n jf_26_89 rfl hl2 ?_
  refine jr_bipush jf_26_90 jc_b_62 ?_
  refine jr_lushr jf_26_92 ?_
  refine jr_lconst0 jf_26_93 ?_
  refine jr_lcmp jf_26_94 ?_
  replace h := ite_or h; rcases h with ⟨hc, h⟩ | ⟨hc, h⟩
  · refine jr_ifl_ne_f jf_26_95 hc ?_
    refine jr_iload jf_26_98 hl4 ?_
    refine jr_iconst jf_26_100 jc_i_1 ?_
    refine jr_iadd jf_26_101 ?_
    refine jr_goto jf_26_102 ?_
    subst h
    exact jr_retI jf_26_107 jmt_26
  · refine jr_ifl_ne_t jf_26_95 hc ?_
    refine jr_iload jf_26_105 hl4 ?_
    subst h
    exact jr_retI jf_26_107 jmt_26
set_option maxRecDepth 10000 in
set_option maxHeartbeats 4000000 in
theorem r_Real_lead_73 {B : Nat} {SA : Nat → Nat} {d : Nat} (hd : 0 ≤ d) : ∀ (L : JLoc) (v2 : Int64) (v4 : Int32) (μ : JMem) (r : Int32), jget L 2 = .long v2 → jget L 4 = .int v4 → g_Real_lead_73 v2 v4 = r → jR B SA d m_Real_lead 73 L [] μ (some (.int r)) μ := by
  intro L v2 v4 μ r hl2 hl4 h
  unfold g_Real_lead_73 at h
  refine jr_lload_n jf_26_73 rfl hl2 ?_
  refine jr_bipush jf_26_74 jc_b_61 ?_
  refine jr_lushr jf_26_76 ?_
  refine jr_lconst0 jf_26_77 ?_
  refine jr_lcmp jf_26_78 ?_
  replace h := ite_or h; rcases h with ⟨hc, h⟩ | ⟨hc, h⟩
  · refine jr_ifl_ne_f jf_26_79 hc ?_
    refine jr_iinc jf_26_82 jc_i_2 jml_26 (by decide) hl4 ?_
    refine jr_lload_n jf_26_85 rfl (jg1_ne rfl hl2) ?_
    refine jr_iconst jf_26_86 jc_i_2 ?_
    refine jr_lshl jf_26_87 ?_
    refine jr_lstore_n jf_26_88 rfl jml_26 (by decide) ?_
    replace h := jlet_of h
    exact r_Real_lead_89 hd _ _ _ _ _ jg2_same (jg2_ne rfl jg1_same) h
  · refine jr_ifl_ne_t jf_26_79 hc ?_
    exact r_Real_lead_89 hd _ _ _ _ _ hl2 hl4 h
set_option maxRecDepth 10000 in
set_option maxHeartbeats 4000000 in
theorem r_Real_lead_57 {B : Nat} {SA : Nat → Nat} {d : Nat} (hd : 0 ≤ d) : ∀ (L : JLoc) (v2 : Int64) (v4 : Int32) (μ : JMem) (r : Int32), jget L 2 = .long v2 → jget L 4 = .int v4 → g_Real_lead_57 v2 v4 = r → jR B SA d m_Real_lead 57 L [] μ (some (.int r)) μ := by
  intro L v2 v4 μ r hl2 hl4 h
  unfold g_Real_lead_57 at h
  refine jr_lload_n jf_26_57 rfl hl2 ?_
  refine jr_bipush jf_26_58 jc_b_59 ?_
  refine jr_lushr jf_26_60 ?_
  refine jr_lconst0 jf_26_61 ?_
  refine jr_lcmp jf_26_62 ?_
  replace h := ite_or h; rcases h with ⟨hc, h⟩ | ⟨hc, h⟩
  · refine jr_ifl_ne_f jf_26_63 hc ?_
    refine jr_iinc jf_26_66 jc_i_4 jml_26 (by decide) hl4 ?_
    refine jr_lload_n jf_26_69 rfl (jg1_ne rfl hl2) ?_
    refine jr_iconst jf_26_70 jc_i_4 ?_
    refine jr_lshl jf_26_71 ?_
    refine jr_lstore_n jf_26_72 rfl jml_26 (by decide) ?_
    replace h := jlet_of h
    exact r_Real_lead_73 hd _ _ _ _ _ jg2_same (jg2_ne rfl jg1_same) h
  · refine jr_ifl_ne_t jf_26_63 hc ?_
    exact r_Real_lead_73 hd _ _ _ _ _ hl2 hl4 h
set_option maxRecDepth 10000 in
set_option maxHeartbeats 4000000 in
theorem r_Real_lead_40 {B : Nat} {SA : Nat → Nat} {d : Nat} (hd : 0 ≤ d) : ∀ (L : JLoc) (v2 : Int64) (v4 : Int32) (μ : JMem) (r : Int32), jget L 2 = .long v2 → jget L 4 = .int v4 → g_Real_lead_40 v2 v4 = r → jR B SA d m_Real_lead 40 L [] μ (some (.int r)) μ := by
  intro L v2 v4 μ r hl2 hl4 h
  unfold g_Real_lead_40 at h
  refine jr_lload_n jf_26_40 rfl hl2 ?_
  refine jr_bipush jf_26_41 jc_b_55 ?_
  refine jr_lushr jf_26_43 ?_
  refine jr_lconst0 jf_26_44 ?_
  refine jr_lcmp jf_26_45 ?_
  replace h := ite_or h; rcases h with ⟨hc, h⟩ | ⟨hc, h⟩
  · refine jr_ifl_ne_f jf_26_46 hc ?_
    refine jr_iinc jf_26_49 jc_i_8 jml_26 (by decide) hl4 ?_
    refine jr_lload_n jf_26_52 rfl (jg1_ne rfl hl2) ?_
    refine jr_bipush jf_26_53 jc_b_8 ?_
    refine jr_lshl jf_26_55 ?_
    refine jr_lstore_n jf_26_56 rfl jml_26 (by decide) ?_
    replace h := jlet_of h
    exact r_Real_lead_57 hd _ _ _ _ _ jg2_same (jg2_ne rfl jg1_same) h
  · refine jr_ifl_ne_t jf_26_46 hc ?_
    exact r_Real_lead_57 hd _ _ _ _ _ hl2 hl4 h
set_option maxRecDepth 10000 in
set_option maxHeartbeats 4000000 in
theorem r_Real_lead_23 {B : Nat} {SA : Nat → Nat} {d : Nat} (hd : 0 ≤ d) : ∀ (L : JLoc) (v2 : Int64) (v4 : Int32) (μ : JMem) (r : Int32), jget L 2 = .long v2 → jget L 4 = .int v4 → g_Real_lead_23 v2 v4 = r → jR B SA d m_Real_lead 23 L [] μ (some (.int r)) μ := by
  intro L v2 v4 μ r hl2 hl4 h
  unfold g_Real_lead_23 at h
  refine jr_lload_n jf_26_23 rfl hl2 ?_
  refine jr_bipush jf_26_24 jc_b_47 ?_
  refine jr_lushr jf_26_26 ?_
  refine jr_lconst0 jf_26_27 ?_
  refine jr_lcmp jf_26_28 ?_
  replace h := ite_or h; rcases h with ⟨hc, h⟩ | ⟨hc, h⟩
  · refine jr_ifl_ne_f jf_26_29 hc ?_
    refine jr_iinc jf_26_32 jc_i_16 jml_26 (by decide) hl4 ?_
    refine jr_lload_n jf_26_35 rfl (jg1_ne rfl hl2) ?_
    refine jr_bipush jf_26_36 jc_b_16 ?_
    refine jr_lshl jf_26_38 ?_
    refine jr_lstore_n jf_26_39 rfl jml_26 (by decide) ?_
    replace h := jlet_of h
    exact r_Real_lead_40 hd _ _ _ _ _ jg2_same (jg2_ne rfl jg1_same) h
  · refine jr_ifl_ne_t jf_26_29 hc ?_
    exact r_Real_lead_40 hd _ _ _ _ _ hl2 hl4 h
set_option maxRecDepth 10000 in
set_option maxHeartbeats 4000000 in
theorem r_Real_lead_e {B : Nat} {SA : Nat → Nat} {d : Nat} (hd : 0 ≤ d) : ∀ (L : JLoc) (v0 : Int64) (μ : JMem) (r : Int32), jget L 0 = .long v0 → g_Real_lead v0 = r → jR B SA d m_Real_lead 0 L [] μ (some (.int r)) μ := by
  intro L v0 μ r hl0 h
  unfold g_Real_lead at h
  refine jr_lload_n jf_26_0 rfl hl0 ?_
  refine jr_lstore_n jf_26_1 rfl jml_26 (by decide) ?_
  refine jr_iconst jf_26_2 jc_i_0 ?_
  refine jr_istore jf_26_3 jml_26 (by decide) ?_
  refine jr_lload_n jf_26_5 rfl (jg1_ne rfl jg2_same) ?_
  refine jr_bipush jf_26_6 jc_b_31 ?_
  refine jr_lushr jf_26_8 ?_
  refine jr_lconst0 jf_26_9 ?_
  refine jr_lcmp jf_26_10 ?_
  replace h := ite_or h; rcases h with ⟨hc, h⟩ | ⟨hc, h⟩
  · refine jr_ifl_ne_f jf_26_11 hc ?_
    refine jr_bipush jf_26_14 jc_b_32 ?_
    refine jr_istore jf_26_16 jml_26 (by decide) ?_
    refine jr_lload_n jf_26_18 rfl (jg1_ne rfl (jg1_ne rfl jg2_same)) ?_
    refine jr_bipush jf_26_19 jc_b_32 ?_
    refine jr_lshl jf_26_21 ?_
    refine jr_lstore_n jf_26_22 rfl jml_26 (by decide) ?_
    replace h := jlet_of h
    exact r_Real_lead_23 hd _ _ _ _ _ jg2_same (jg2_ne rfl jg1_same) h
  · refine jr_ifl_ne_t jf_26_11 hc ?_
    exact r_Real_lead_23 hd _ _ _ _ _ (jg1_ne rfl jg2_same) jg1_same h
set_option maxRecDepth 10000 in
set_option maxHeartbeats 4000000 in
theorem r_Real_lead {B : Nat} {SA : Nat → Nat} {d : Nat} (hd : 0 ≤ d) : ∀ (v0 : Int64) (μ : JMem) (r : Int32), g_Real_lead v0 = r → jR B SA d m_Real_lead 0 (lv_args 0 [.long v0]) [] μ (some (.int r)) μ := by
  intro v0 μ r h
  exact r_Real_lead_e hd (lv_args 0 _) _ _ _ (by simp [lv_args, jget, rv_cat, cat_int, cat_long, cat_double, cat_float, cat_ref]) h
/-! FilterBench$Numbers.halfEven(JI)J -/
set_option maxRecDepth 10000 in
set_option maxHeartbeats 4000000 in
theorem r_Numbers_halfEven_58 {B : Nat} {SA : Nat → Nat} {d : Nat} (hd : 0 ≤ d) : ∀ (L : JLoc) (v3 : Int64) (μ : JMem) (r : Int64), jget L 3 = .long v3 → g_Numbers_halfEven_58 v3 = r → jR B SA d m_Numbers_halfEven 58 L [] μ (some (.long r)) μ := by
  intro L v3 μ r hl3 h
  unfold g_Numbers_halfEven_58 at h
  refine jr_lload_n jf_29_58 rfl hl3 ?_
  refine jr_lconst1 jf_29_59 ?_
  refine jr_ladd jf_29_60 ?_
  refine jr_goto jf_29_61 ?_
  subst h
  exact jr_retJ jf_29_65 jmt_29
set_option maxRecDepth 10000 in
set_option maxHeartbeats 4000000 in
theorem r_Numbers_halfEven_e {B : Nat} {SA : Nat → Nat} {d : Nat} (hd : 0 ≤ d) : ∀ (L : JLoc) (v0 : Int64) (v2 : Int32) (μ : JMem) (r : Int64), jget L 0 = .long v0 → jget L 2 = .int v2 → g_Numbers_halfEven v0 v2 = r → jR B SA d m_Numbers_halfEven 0 L [] μ (some (.long r)) μ := by
  intro L v0 v2 μ r hl0 hl2 h
  unfold g_Numbers_halfEven at h
  refine jr_iload_n jf_29_0 rfl hl2 ?_
  replace h := ite_or h; rcases h with ⟨hc, h⟩ | ⟨hc, h⟩
  · refine jr_if_gt_t jf_29_1 hc ?_
    refine jr_iload_n jf_29_6 rfl hl2 ?_
    refine jr_bipush jf_29_7 jc_b_63 ?_
    replace h := ite_or h; rcases h with ⟨hc, h⟩ | ⟨hc, h⟩
    · refine jr_if2_le_t jf_29_9 hc ?_
      refine jr_lload_n jf_29_14 rfl hl0 ?_
      refine jr_iload_n jf_29_15 rfl hl2 ?_
      refine jr_lushr jf_29_16 ?_
      refine jr_lstore_n jf_29_17 rfl jml_29 (by decide) ?_
      replace h := jlet_of h
      refine jr_lload_n jf_29_18 rfl (jg2_ne rfl hl0) ?_
      refine jr_lconst1 jf_29_19 ?_
      refine jr_iload_n jf_29_20 rfl (jg2_pre rfl hl2) ?_
      refine jr_lshl jf_29_21 ?_
      refine jr_lconst1 jf_29_22 ?_
      refine jr_lsub jf_29_23 ?_
      refine jr_land jf_29_24 ?_
      refine jr_lstore jf_29_25 jml_29 (by decide) ?_
      replace h := jlet_of h
      refine jr_lconst1 jf_29_27 ?_
      refine jr_iload_n jf_29_28 rfl (jg2_ne rfl (jg2_pre rfl hl2)) ?_
      refine jr_iconst jf_29_29 jc_i_1 ?_
      refine jr_isub jf_29_30 ?_
      refine jr_lshl jf_29_31 ?_
      refine jr_lstore jf_29_32 jml_29 (by decide) ?_
      replace h := jlet_of h
      refine jr_lload jf_29_34 (jg2_ne rfl jg2_same) ?_
      refine jr_lload jf_29_36 jg2_same ?_
      refine jr_lcmp jf_29_38 ?_
      replace h := ite_or h; rcases h with ⟨hc, h⟩ | ⟨hc, h⟩
      · refine jr_ifl_gt_t jf_29_39 hc ?_
        exact r_Numbers_halfEven_58 hd _ _ _ _ (jg2_ne rfl (jg2_ne rfl jg2_same)) h
      · refine jr_ifl_gt_f jf_29_39 hc ?_
        refine jr_lload jf_29_42 (jg2_ne rfl jg2_same) ?_
        refine jr_lload jf_29_44 jg2_same ?_
        refine jr_lcmp jf_29_46 ?_
        replace h := ite_or h; rcases h with ⟨hc, h⟩ | ⟨hc, h⟩
        · refine jr_ifl_ne_f jf_29_47 hc ?_
          refine jr_lload_n jf_29_50 rfl (jg2_ne rfl (jg2_ne rfl jg2_same)) ?_
          refine jr_lconst1 jf_29_51 ?_
          refine jr_land jf_29_52 ?_
          refine jr_lconst1 jf_29_53 ?_
          refine jr_lcmp jf_29_54 ?_
          replace h := ite_or h; rcases h with ⟨hc, h⟩ | ⟨hc, h⟩
          · refine jr_ifl_ne_f jf_29_55 hc ?_
            exact r_Numbers_halfEven_58 hd _ _ _ _ (jg2_ne rfl (jg2_ne rfl jg2_same)) h
          · refine jr_ifl_ne_t jf_29_55 hc ?_
            refine jr_lload_n jf_29_64 rfl (jg2_ne rfl (jg2_ne rfl jg2_same)) ?_
            subst h
            exact jr_retJ jf_29_65 jmt_29
        · refine jr_ifl_ne_t jf_29_47 hc ?_
          refine jr_lload_n jf_29_64 rfl (jg2_ne rfl (jg2_ne rfl jg2_same)) ?_
          subst h
          exact jr_retJ jf_29_65 jmt_29
    · refine jr_if2_le_f jf_29_9 hc ?_
      refine jr_lconst0 jf_29_12 ?_
      subst h
      exact jr_retJ jf_29_13 jmt_29
  · refine jr_if_gt_f jf_29_1 hc ?_
    refine jr_lload_n jf_29_4 rfl hl0 ?_
    subst h
    exact jr_retJ jf_29_5 jmt_29
set_option maxRecDepth 10000 in
set_option maxHeartbeats 4000000 in
theorem r_Numbers_halfEven {B : Nat} {SA : Nat → Nat} {d : Nat} (hd : 0 ≤ d) : ∀ (v0 : Int64) (v2 : Int32) (μ : JMem) (r : Int64), g_Numbers_halfEven v0 v2 = r → jR B SA d m_Numbers_halfEven 0 (lv_args 0 [.long v0, .int v2]) [] μ (some (.long r)) μ := by
  intro v0 v2 μ r h
  exact r_Numbers_halfEven_e hd (lv_args 0 _) _ _ _ _ (by simp [lv_args, jget, rv_cat, cat_int, cat_long, cat_double, cat_float, cat_ref]) (by simp [lv_args, jget, rv_cat, cat_int, cat_long, cat_double, cat_float, cat_ref]) h
/-! FilterBench$Real.signed(ZJ)J -/
set_option maxRecDepth 10000 in
set_option maxHeartbeats 4000000 in
theorem r_Real_signed_e {B : Nat} {SA : Nat → Nat} {d : Nat} (hd : 0 ≤ d) : ∀ (L : JLoc) (v0 : Nat) (v1 : Bool) (v2 : Int64) (μ : JMem) (r : Int64), jget L 0 = .ref v0 → jget L 1 = .int (jb v1) → jget L 2 = .long v2 → g_Real_signed v0 v1 v2 μ.1 = some r → jR B SA d m_Real_signed 0 L [] μ (some (.long r)) μ := by
  intro L v0 v1 v2 μ r hl0 hl1 hl2 h
  unfold g_Real_signed at h
  refine jr_iload_n jf_27_0 rfl hl1 ?_
  replace h := ite_or h; rcases h with ⟨hc, h⟩ | ⟨hc, h⟩
  · refine jr_ifz_eq_f jf_27_1 hc ?_
    refine jr_lload_n jf_27_4 rfl hl2 ?_
    refine jr_aload_n jf_27_5 rfl hl0 ?_
    replace h := obd_of h; obtain ⟨x1, hx1, h⟩ := h
    refine jr_getJ jf_27_6 hx1 ?_
    refine jr_lor jf_27_9 ?_
    refine jr_goto jf_27_10 ?_
    obtain rfl := Option.some.inj h
    exact jr_retJ jf_27_14 jmt_27
  · refine jr_ifz_eq_t jf_27_1 hc ?_
    refine jr_lload_n jf_27_13 rfl hl2 ?_
    obtain rfl := Option.some.inj h
    exact jr_retJ jf_27_14 jmt_27
set_option maxRecDepth 10000 in
set_option maxHeartbeats 4000000 in
theorem r_Real_signed {B : Nat} {SA : Nat → Nat} {d : Nat} (hd : 0 ≤ d) : ∀ (v0 : Nat) (v1 : Bool) (v2 : Int64) (μ : JMem) (r : Int64), g_Real_signed v0 v1 v2 μ.1 = some r → jR B SA d m_Real_signed 0 (lv_args 0 [.ref v0, .int (jb v1), .long v2]) [] μ (some (.long r)) μ := by
  intro v0 v1 v2 μ r h
  exact r_Real_signed_e hd (lv_args 0 _) _ _ _ _ _ (by simp [lv_args, jget, rv_cat, cat_int, cat_long, cat_double, cat_float, cat_ref]) (by simp [lv_args, jget, rv_cat, cat_int, cat_long, cat_double, cat_float, cat_ref]) (by simp [lv_args, jget, rv_cat, cat_int, cat_long, cat_double, cat_float, cat_ref]) h
/-! FilterBench$Real.packed(ZIJ)J -/
set_option maxRecDepth 10000 in
set_option maxHeartbeats 4000000 in
theorem r_Real_packed_66 {B : Nat} {SA : Nat → Nat} {d : Nat} (hd : 1 ≤ d) : ∀ (L : JLoc) (v0 : Nat) (v1 : Bool) (v3 : Int64) (v5 : Int32) (v6 : Int32) (v7 : Int32) (μ : JMem) (r : Int64), jget L 0 = .ref v0 → jget L 1 = .int (jb v1) → jget L 3 = .long v3 → jget L 5 = .int v5 → jget L 6 = .int v6 → jget L 7 = .int v7 → g_Real_packed_66 v0 v1 v3 v5 v6 v7 μ.1 = some r → jR B SA d m_Real_packed 66 L [] μ (some (.long r)) μ := by
  intro L v0 v1 v3 v5 v6 v7 μ r hl0 hl1 hl3 hl5 hl6 hl7 h
  unfold g_Real_packed_66 at h
  refine jr_iload jf_28_66 hl6 ?_
  refine jr_iconst jf_28_68 jc_i_1 ?_
  refine jr_isub jf_28_69 ?_
  refine jr_i2l jf_28_70 ?_
  refine jr_aload_n jf_28_71 rfl hl0 ?_
  replace h := obd_of h; obtain ⟨x1, hx1, h⟩ := h
  refine jr_getI jf_28_72 hx1 ?_
  refine jr_lshl jf_28_75 ?_
  refine jr_lload_n jf_28_76 rfl hl3 ?_
  refine jr_iload jf_28_77 hl5 ?_
  refine jr_lshl jf_28_79 ?_
  refine jr_iload jf_28_80 hl7 ?_
  refine jr_S5_2 jf_28_82 (by omega) (r_Numbers_halfEven (by omega) _ _ _ _ rfl) (Nat.le_of_ble_eq_true rfl) jml_29 (Nat.le_of_ble_eq_true rfl) ?_
  refine jr_ladd jf_28_85 ?_
  refine jr_lstore jf_28_86 jml_28 (by decide) ?_
  replace h := jlet_of h
  refine jr_aload_n jf_28_88 rfl (jg2_ne rfl hl0) ?_
  refine jr_iload_n jf_28_89 rfl (jg2_ne rfl hl1) ?_
  refine jr_lload jf_28_90 jg2_same ?_
  replace h := jgd_of h; obtain ⟨hb3, h⟩ := h
  replace h := obd_of h; obtain ⟨x4, hx4, h⟩ := h
  refine jr_V6_2 jf_28_92 hb3 (by omega) (r_Real_signed (by omega) _ _ _ _ _ hx4) (Nat.le_of_ble_eq_true rfl) jml_27 (Nat.le_of_ble_eq_true rfl) ?_
  obtain rfl := Option.some.inj h
  exact jr_retJ jf_28_95 jmt_28
set_option maxRecDepth 10000 in
set_option maxHeartbeats 4000000 in
theorem r_Real_packed_e {B : Nat} {SA : Nat → Nat} {d : Nat} (hd : 1 ≤ d) : ∀ (L : JLoc) (v0 : Nat) (v1 : Bool) (v2 : Int32) (v3 : Int64) (μ : JMem) (r : Int64), jget L 0 = .ref v0 → jget L 1 = .int (jb v1) → jget L 2 = .int v2 → jget L 3 = .long v3 → g_Real_packed v0 v1 v2 v3 μ.1 = some r → jR B SA d m_Real_packed 0 L [] μ (some (.long r)) μ := by
  intro L v0 v1 v2 v3 μ r hl0 hl1 hl2 hl3 h
  unfold g_Real_packed at h
  refine jr_lload_n jf_28_0 rfl hl3 ?_
  refine jr_S3_1 jf_28_1 (by omega) (r_Real_lead (by omega) _ _ _ rfl) (Nat.le_of_ble_eq_true rfl) jml_26 (Nat.le_of_ble_eq_true rfl) ?_
  refine jr_istore jf_28_4 jml_28 (by decide) ?_
  refine jr_iload_n jf_28_6 rfl (jg1_ne rfl hl2) ?_
  refine jr_iload jf_28_7 jg1_same ?_
  refine jr_isub jf_28_9 ?_
  refine jr_bipush jf_28_10 jc_b_62 ?_
  refine jr_iadd jf_28_12 ?_
  refine jr_aload_n jf_28_13 rfl (jg1_ne rfl hl0) ?_
  replace h := obd_of h; obtain ⟨x1, hx1, h⟩ := h
  refine jr_getI jf_28_14 hx1 ?_
  refine jr_iadd jf_28_17 ?_
  refine jr_istore jf_28_18 jml_28 (by decide) ?_
  replace h := jlet_of h
  refine jr_iload jf_28_20 jg1_same ?_
  refine jr_aload_n jf_28_22 rfl (jg1_ne rfl (jg1_ne rfl hl0)) ?_
  replace h := obd_of h; obtain ⟨x3, hx3, h⟩ := h
  refine jr_getI jf_28_23 hx3 ?_
  replace h := ite_or h; rcases h with ⟨hc, h⟩ | ⟨hc, h⟩
  · refine jr_if2_lt_t jf_28_26 hc ?_
    refine jr_bipush jf_28_39 jc_b_62 ?_
    refine jr_aload_n jf_28_41 rfl (jg1_ne rfl (jg1_ne rfl hl0)) ?_
    replace h := obd_of h; obtain ⟨x4, hx4, h⟩ := h
    refine jr_getI jf_28_42 hx4 ?_
    refine jr_isub jf_28_45 ?_
    refine jr_istore jf_28_46 jml_28 (by decide) ?_
    refine jr_iload jf_28_48 (jg1_pre rfl jg1_same) ?_
    refine jr_iconst jf_28_50 jc_i_1 ?_
    replace h := ite_or h; rcases h with ⟨hc, h⟩ | ⟨hc, h⟩
    · refine jr_if2_ge_t jf_28_51 hc ?_
      exact r_Real_packed_66 hd _ _ _ _ _ _ _ _ _ (jg1_ne rfl (jg1_ne rfl (jg1_ne rfl hl0))) (jg1_ne rfl (jg1_ne rfl (jg1_ne rfl hl1))) (jg1_ne rfl (jg1_ne rfl (jg1_ne rfl hl3))) (jg1_ne rfl (jg1_pre rfl jg1_same)) (jg1_pre rfl jg1_same) jg1_same h
    · refine jr_if2_ge_f jf_28_51 hc ?_
      refine jr_iload jf_28_54 jg1_same ?_
      refine jr_iconst jf_28_56 jc_i_1 ?_
      refine jr_iload jf_28_57 (jg1_pre rfl jg1_same) ?_
      refine jr_isub jf_28_59 ?_
      refine jr_iadd jf_28_60 ?_
      refine jr_istore jf_28_61 jml_28 (by decide) ?_
      replace h := jlet_of h
      refine jr_iconst jf_28_63 jc_i_1 ?_
      refine jr_istore jf_28_64 jml_28 (by decide) ?_
      exact r_Real_packed_66 hd _ _ _ _ _ _ _ _ _ (jg1_ne rfl (jg1_ne rfl (jg1_ne rfl (jg1_ne rfl (jg1_ne rfl hl0))))) (jg1_ne rfl (jg1_ne rfl (jg1_ne rfl (jg1_ne rfl (jg1_ne rfl hl1))))) (jg1_ne rfl (jg1_ne rfl (jg1_ne rfl (jg1_ne rfl (jg1_ne rfl hl3))))) (jg1_pre rfl (jg1_ne rfl (jg1_ne rfl (jg1_pre rfl jg1_same)))) jg1_same (jg1_ne rfl jg1_same) h
  · refine jr_if2_lt_f jf_28_26 hc ?_
    refine jr_aload_n jf_28_29 rfl (jg1_ne rfl (jg1_ne rfl hl0)) ?_
    refine jr_iload_n jf_28_30 rfl (jg1_ne rfl (jg1_ne rfl hl1)) ?_
    refine jr_aload_n jf_28_31 rfl (jg1_ne rfl (jg1_ne rfl hl0)) ?_
    replace h := obd_of h; obtain ⟨x6, hx6, h⟩ := h
    refine jr_getJ jf_28_32 hx6 ?_
    replace h := jgd_of h; obtain ⟨hb7, h⟩ := h
    replace h := obd_of h; obtain ⟨x8, hx8, h⟩ := h
    refine jr_V6_2 jf_28_35 hb7 (by omega) (r_Real_signed (by omega) _ _ _ _ _ hx8) (Nat.le_of_ble_eq_true rfl) jml_27 (Nat.le_of_ble_eq_true rfl) ?_
    obtain rfl := Option.some.inj h
    exact jr_retJ jf_28_38 jmt_28
set_option maxRecDepth 10000 in
set_option maxHeartbeats 4000000 in
theorem r_Real_packed {B : Nat} {SA : Nat → Nat} {d : Nat} (hd : 1 ≤ d) : ∀ (v0 : Nat) (v1 : Bool) (v2 : Int32) (v3 : Int64) (μ : JMem) (r : Int64), g_Real_packed v0 v1 v2 v3 μ.1 = some r → jR B SA d m_Real_packed 0 (lv_args 0 [.ref v0, .int (jb v1), .int v2, .long v3]) [] μ (some (.long r)) μ := by
  intro v0 v1 v2 v3 μ r h
  exact r_Real_packed_e hd (lv_args 0 _) _ _ _ _ _ _ (by simp [lv_args, jget, rv_cat, cat_int, cat_long, cat_double, cat_float, cat_ref]) (by simp [lv_args, jget, rv_cat, cat_int, cat_long, cat_double, cat_float, cat_ref]) (by simp [lv_args, jget, rv_cat, cat_int, cat_long, cat_double, cat_float, cat_ref]) (by simp [lv_args, jget, rv_cat, cat_int, cat_long, cat_double, cat_float, cat_ref]) h
/-! FilterBench$Real.divided(II)J -/
set_option maxRecDepth 10000 in
set_option maxHeartbeats 4000000 in
theorem r_Real_divided_78 {B : Nat} {SA : Nat → Nat} {d : Nat} (hd : 2 ≤ d) : ∀ (L : JLoc) (v0 : Nat) (v3 : Bool) (μ : JMem) (r : Int64), jget L 0 = .ref v0 → jget L 3 = .int (jb v3) → g_Real_divided_78 v0 v3 μ.1 = some r → jR B SA d m_Real_divided 78 L [] μ (some (.long r)) μ := by
  intro L v0 v3 μ r hl0 hl3 h
  unfold g_Real_divided_78 at h
  refine jr_aload_n jf_24_78 rfl hl0 ?_
  refine jr_iload_n jf_24_79 rfl hl3 ?_
  refine jr_lconst0 jf_24_80 ?_
  replace h := jgd_of h; obtain ⟨hb1, h⟩ := h
  replace h := obd_of h; obtain ⟨x2, hx2, h⟩ := h
  refine jr_V6_2 jf_24_81 hb1 (by omega) (r_Real_signed (by omega) _ _ _ _ _ hx2) (Nat.le_of_ble_eq_true rfl) jml_27 (Nat.le_of_ble_eq_true rfl) ?_
  obtain rfl := Option.some.inj h
  exact jr_retJ jf_24_84 jmt_24
set_option maxRecDepth 10000 in
set_option maxHeartbeats 4000000 in
theorem r_Real_divided_150 {B : Nat} {SA : Nat → Nat} {d : Nat} (hd : 2 ≤ d) : ∀ (L : JLoc) (s0 : Int64) (s1 : Int32) (s2 : Bool) (s3 : Nat) (μ : JMem) (r : Int64), g_Real_divided_150 s0 s1 s2 s3 μ.1 = some r → jR B SA d m_Real_divided 150 L [.long s0, .int s1, .int (jb s2), .ref s3] μ (some (.long r)) μ := by
  intro L s0 s1 s2 s3 μ r h
  unfold g_Real_divided_150 at h
  replace h := jgd_of h; obtain ⟨hb1, h⟩ := h
  replace h := obd_of h; obtain ⟨x2, hx2, h⟩ := h
  refine jr_V6_3 jf_24_150 hb1 (by omega) (r_Real_packed (by omega) _ _ _ _ _ _ hx2) (Nat.le_of_ble_eq_true rfl) jml_28 (Nat.le_of_ble_eq_true rfl) ?_
  obtain rfl := Option.some.inj h
  exact jr_retJ jf_24_153 jmt_24
set_option maxRecDepth 10000 in
set_option maxHeartbeats 4000000 in
theorem r_Real_divided_26 {B : Nat} {SA : Nat → Nat} {d : Nat} (hd : 2 ≤ d) : ∀ (L : JLoc) (v0 : Nat) (v1 : Int32) (v2 : Int32) (s0 : Bool) (μ : JMem) (r : Int64), jget L 0 = .ref v0 → jget L 1 = .int v1 → jget L 2 = .int v2 → g_Real_divided_26 v0 v1 v2 s0 μ.1 = some r → jR B SA d m_Real_divided 26 L [.int (jb s0)] μ (some (.long r)) μ := by
  intro L v0 v1 v2 s0 μ r hl0 hl1 hl2 h
  unfold g_Real_divided_26 at h
  refine jr_istore_n jf_24_26 rfl jml_24 (by decide) ?_
  refine jr_iload_n jf_24_27 rfl (jg1_ne rfl hl1) ?_
  refine jr_i2l jf_24_28 ?_
  refine jr_S3_1 jf_24_29 (by omega) (r_JMath_abs (by omega) _ _ _ rfl) (Nat.le_of_ble_eq_true rfl) jml_25 (Nat.le_of_ble_eq_true rfl) ?_
  refine jr_lstore jf_24_32 jml_24 (by decide) ?_
  replace h := jlet_of h
  refine jr_lload jf_24_34 jg2_same ?_
  refine jr_S3_1 jf_24_36 (by omega) (r_Real_lead (by omega) _ _ _ rfl) (Nat.le_of_ble_eq_true rfl) jml_26 (Nat.le_of_ble_eq_true rfl) ?_
  refine jr_istore jf_24_39 jml_24 (by decide) ?_
  refine jr_iload_n jf_24_41 rfl (jg1_ne rfl (jg2_ne rfl (jg1_pre rfl hl2))) ?_
  refine jr_i2l jf_24_42 ?_
  refine jr_S3_1 jf_24_43 (by omega) (r_JMath_abs (by omega) _ _ _ rfl) (Nat.le_of_ble_eq_true rfl) jml_25 (Nat.le_of_ble_eq_true rfl) ?_
  refine jr_S3_1 jf_24_46 (by omega) (r_Real_lead (by omega) _ _ _ rfl) (Nat.le_of_ble_eq_true rfl) jml_26 (Nat.le_of_ble_eq_true rfl) ?_
  refine jr_bipush jf_24_49 jc_b_31 ?_
  refine jr_isub jf_24_51 ?_
  refine jr_istore jf_24_52 jml_24 (by decide) ?_
  replace h := jlet_of h
  refine jr_iload_n jf_24_54 rfl (jg1_ne rfl (jg1_ne rfl (jg2_ne rfl (jg1_pre rfl hl2)))) ?_
  refine jr_i2l jf_24_55 ?_
  refine jr_S3_1 jf_24_56 (by omega) (r_JMath_abs (by omega) _ _ _ rfl) (Nat.le_of_ble_eq_true rfl) jml_25 (Nat.le_of_ble_eq_true rfl) ?_
  refine jr_iload jf_24_59 jg1_same ?_
  refine jr_lshl jf_24_61 ?_
  refine jr_lstore jf_24_62 jml_24 (by decide) ?_
  replace h := jlet_of h
  refine jr_lload jf_24_64 (jg2_ne rfl (jg1_ne rfl (jg1_ne rfl jg2_same))) ?_
  refine jr_lconst0 jf_24_66 ?_
  refine jr_lcmp jf_24_67 ?_
  replace h := ite_or h; rcases h with ⟨hc, h⟩ | ⟨hc, h⟩
  · refine jr_ifl_eq_t jf_24_68 hc ?_
    exact r_Real_divided_78 hd _ _ _ _ _ (jg2_ne rfl (jg1_ne rfl (jg1_ne rfl (jg2_ne rfl (jg1_ne rfl hl0))))) (jg2_ne rfl (jg1_ne rfl (jg1_ne rfl (jg2_pre rfl jg1_same)))) h
  · refine jr_ifl_eq_f jf_24_68 hc ?_
    refine jr_lload jf_24_71 jg2_same ?_
    refine jr_lconst0 jf_24_73 ?_
    refine jr_lcmp jf_24_74 ?_
    replace h := ite_or h; rcases h with ⟨hc, h⟩ | ⟨hc, h⟩
    · refine jr_ifl_ne_f jf_24_75 hc ?_
      exact r_Real_divided_78 hd _ _ _ _ _ (jg2_ne rfl (jg1_ne rfl (jg1_ne rfl (jg2_ne rfl (jg1_ne rfl hl0))))) (jg2_ne rfl (jg1_ne rfl (jg1_ne rfl (jg2_pre rfl jg1_same)))) h
    · refine jr_ifl_ne_t jf_24_75 hc ?_
      refine jr_lload jf_24_85 (jg2_ne rfl (jg1_ne rfl (jg1_ne rfl jg2_same))) ?_
      refine jr_iload jf_24_87 (jg2_ne rfl (jg1_pre rfl jg1_same)) ?_
      refine jr_lshl jf_24_89 ?_
      refine jr_lload jf_24_90 jg2_same ?_
      replace h := obd_of h; obtain ⟨x4, hx4, h⟩ := h
      refine jr_ldiv jf_24_92 hx4 ?_
      refine jr_lstore jf_24_93 jml_24 (by decide) ?_
      refine jr_lload jf_24_95 (jg2_ne rfl (jg2_ne rfl (jg1_ne rfl (jg1_ne rfl jg2_same)))) ?_
      refine jr_iload jf_24_97 (jg2_ne rfl (jg2_ne rfl (jg1_pre rfl jg1_same))) ?_
      refine jr_lshl jf_24_99 ?_
      refine jr_lload jf_24_100 (jg2_ne rfl jg2_same) ?_
      replace h := obd_of h; obtain ⟨x5, hx5, h⟩ := h
      refine jr_lrem jf_24_102 hx5 ?_
      refine jr_bipush jf_24_103 jc_b_30 ?_
      refine jr_lshl jf_24_105 ?_
      refine jr_lstore jf_24_106 jml_24 (by decide) ?_
      replace h := jlet_of h
      refine jr_lload jf_24_108 (jg2_ne rfl jg2_same) ?_
      refine jr_bipush jf_24_110 jc_b_30 ?_
      refine jr_lshl jf_24_112 ?_
      refine jr_lload jf_24_113 jg2_same ?_
      refine jr_lload jf_24_115 (jg2_ne rfl (jg2_ne rfl jg2_same)) ?_
      replace h := obd_of h; obtain ⟨x7, hx7, h⟩ := h
      refine jr_ldiv jf_24_117 hx7 ?_
      refine jr_lor jf_24_118 ?_
      refine jr_lstore jf_24_119 jml_24 (by decide) ?_
      replace h := jlet_of h
      refine jr_aload_n jf_24_121 rfl (jg2_ne rfl (jg2_ne rfl (jg2_ne rfl (jg2_ne rfl (jg1_ne rfl (jg1_ne rfl (jg2_ne rfl (jg1_ne rfl hl0)))))))) ?_
      refine jr_iload_n jf_24_122 rfl (jg2_ne rfl (jg2_ne rfl (jg2_ne rfl (jg2_ne rfl (jg1_ne rfl (jg1_ne rfl (jg2_pre rfl jg1_same))))))) ?_
      refine jr_iload jf_24_123 (jg2_ne rfl (jg2_ne rfl (jg2_ne rfl (jg2_pre rfl jg1_same)))) ?_
      refine jr_iload jf_24_125 (jg2_ne rfl (jg2_ne rfl (jg2_ne rfl (jg2_ne rfl (jg1_pre rfl jg1_same))))) ?_
      refine jr_isub jf_24_127 ?_
      refine jr_bipush jf_24_128 jc_b_30 ?_
      refine jr_isub jf_24_130 ?_
      refine jr_lload jf_24_131 (jg2_ne rfl jg2_same) ?_
      refine jr_lload jf_24_133 (jg2_ne rfl (jg2_ne rfl (jg2_ne rfl jg2_same))) ?_
      replace h := obd_of h; obtain ⟨x9, hx9, h⟩ := h
      refine jr_lrem jf_24_135 hx9 ?_
      refine jr_lconst0 jf_24_136 ?_
      refine jr_lcmp jf_24_137 ?_
      replace h := ite_or h; rcases h with ⟨hc, h⟩ | ⟨hc, h⟩
      · refine jr_ifl_ne_f jf_24_138 hc ?_
        refine jr_lload jf_24_141 jg2_same ?_
        refine jr_goto jf_24_143 ?_
        exact r_Real_divided_150 hd _ _ _ _ _ _ _ h
      · refine jr_ifl_ne_t jf_24_138 hc ?_
        refine jr_lload jf_24_146 jg2_same ?_
        refine jr_lconst1 jf_24_148 ?_
        refine jr_lor jf_24_149 ?_
        exact r_Real_divided_150 hd _ _ _ _ _ _ _ h
set_option maxRecDepth 10000 in
set_option maxHeartbeats 4000000 in
theorem r_Real_divided_18 {B : Nat} {SA : Nat → Nat} {d : Nat} (hd : 2 ≤ d) : ∀ (L : JLoc) (v0 : Nat) (v1 : Int32) (v2 : Int32) (s0 : Bool) (s1 : Bool) (μ : JMem) (r : Int64), jget L 0 = .ref v0 → jget L 1 = .int v1 → jget L 2 = .int v2 → g_Real_divided_18 v0 v1 v2 s0 s1 μ.1 = some r → jR B SA d m_Real_divided 18 L [.int (jb s0), .int (jb s1)] μ (some (.long r)) μ := by
  intro L v0 v1 v2 s0 s1 μ r hl0 hl1 hl2 h
  unfold g_Real_divided_18 at h
  replace h := ite_or h; rcases h with ⟨hc, h⟩ | ⟨hc, h⟩
  · refine jr_if2z_eq_t jf_24_18 hc ?_
    refine jr_iconst jf_24_25 jc_i_0 ?_
    exact r_Real_divided_26 hd _ _ _ _ false _ _ hl0 hl1 hl2 h
  · refine jr_if2z_eq_f jf_24_18 hc ?_
    refine jr_iconst jf_24_21 jc_i_1 ?_
    refine jr_goto jf_24_22 ?_
    exact r_Real_divided_26 hd _ _ _ _ true _ _ hl0 hl1 hl2 h
set_option maxRecDepth 10000 in
set_option maxHeartbeats 4000000 in
theorem r_Real_divided_9 {B : Nat} {SA : Nat → Nat} {d : Nat} (hd : 2 ≤ d) : ∀ (L : JLoc) (v0 : Nat) (v1 : Int32) (v2 : Int32) (s0 : Bool) (μ : JMem) (r : Int64), jget L 0 = .ref v0 → jget L 1 = .int v1 → jget L 2 = .int v2 → g_Real_divided_9 v0 v1 v2 s0 μ.1 = some r → jR B SA d m_Real_divided 9 L [.int (jb s0)] μ (some (.long r)) μ := by
  intro L v0 v1 v2 s0 μ r hl0 hl1 hl2 h
  unfold g_Real_divided_9 at h
  refine jr_iload_n jf_24_9 rfl hl2 ?_
  replace h := ite_or h; rcases h with ⟨hc, h⟩ | ⟨hc, h⟩
  · refine jr_if_ge_t jf_24_10 hc ?_
    refine jr_iconst jf_24_17 jc_i_0 ?_
    exact r_Real_divided_18 hd _ _ _ _ false _ _ _ hl0 hl1 hl2 h
  · refine jr_if_ge_f jf_24_10 hc ?_
    refine jr_iconst jf_24_13 jc_i_1 ?_
    refine jr_goto jf_24_14 ?_
    exact r_Real_divided_18 hd _ _ _ _ true _ _ _ hl0 hl1 hl2 h
set_option maxRecDepth 10000 in
set_option maxHeartbeats 4000000 in
theorem r_Real_divided_e {B : Nat} {SA : Nat → Nat} {d : Nat} (hd : 2 ≤ d) : ∀ (L : JLoc) (v0 : Nat) (v1 : Int32) (v2 : Int32) (μ : JMem) (r : Int64), jget L 0 = .ref v0 → jget L 1 = .int v1 → jget L 2 = .int v2 → g_Real_divided v0 v1 v2 μ.1 = some r → jR B SA d m_Real_divided 0 L [] μ (some (.long r)) μ := by
  intro L v0 v1 v2 μ r hl0 hl1 hl2 h
  unfold g_Real_divided at h
  refine jr_iload_n jf_24_0 rfl hl1 ?_
  replace h := ite_or h; rcases h with ⟨hc, h⟩ | ⟨hc, h⟩
  · refine jr_if_ge_t jf_24_1 hc ?_
    refine jr_iconst jf_24_8 jc_i_0 ?_
    exact r_Real_divided_9 hd _ _ _ _ false _ _ hl0 hl1 hl2 h
  · refine jr_if_ge_f jf_24_1 hc ?_
    refine jr_iconst jf_24_4 jc_i_1 ?_
    refine jr_goto jf_24_5 ?_
    exact r_Real_divided_9 hd _ _ _ _ true _ _ hl0 hl1 hl2 h
set_option maxRecDepth 10000 in
set_option maxHeartbeats 4000000 in
theorem r_Real_divided {B : Nat} {SA : Nat → Nat} {d : Nat} (hd : 2 ≤ d) : ∀ (v0 : Nat) (v1 : Int32) (v2 : Int32) (μ : JMem) (r : Int64), g_Real_divided v0 v1 v2 μ.1 = some r → jR B SA d m_Real_divided 0 (lv_args 0 [.ref v0, .int v1, .int v2]) [] μ (some (.long r)) μ := by
  intro v0 v1 v2 μ r h
  exact r_Real_divided_e hd (lv_args 0 _) _ _ _ _ _ (by simp [lv_args, jget, rv_cat, cat_int, cat_long, cat_double, cat_float, cat_ref]) (by simp [lv_args, jget, rv_cat, cat_int, cat_long, cat_double, cat_float, cat_ref]) (by simp [lv_args, jget, rv_cat, cat_int, cat_long, cat_double, cat_float, cat_ref]) h
/-! FilterBench$Real.exponent(J)I -/
set_option maxRecDepth 10000 in
set_option maxHeartbeats 4000000 in
theorem r_Real_exponent_17 {B : Nat} {SA : Nat → Nat} {d : Nat} (hd : 0 ≤ d) : ∀ (L : JLoc) (v0 : Nat) (s0 : Int32) (μ : JMem) (r : Int32), jget L 0 = .ref v0 → g_Real_exponent_17 v0 s0 μ.1 = some r → jR B SA d m_Real_exponent 17 L [.int s0] μ (some (.int r)) μ := by
  intro L v0 s0 μ r hl0 h
  unfold g_Real_exponent_17 at h
  refine jr_aload_n jf_32_17 rfl hl0 ?_
  replace h := obd_of h; obtain ⟨x1, hx1, h⟩ := h
  refine jr_getI jf_32_18 hx1 ?_
  refine jr_isub jf_32_21 ?_
  refine jr_aload_n jf_32_22 rfl hl0 ?_
  replace h := obd_of h; obtain ⟨x2, hx2, h⟩ := h
  refine jr_getI jf_32_23 hx2 ?_
  refine jr_isub jf_32_26 ?_
  obtain rfl := Option.some.inj h
  exact jr_retI jf_32_27 jmt_32
set_option maxRecDepth 10000 in
set_option maxHeartbeats 4000000 in
theorem r_Real_exponent_e {B : Nat} {SA : Nat → Nat} {d : Nat} (hd : 0 ≤ d) : ∀ (L : JLoc) (v0 : Nat) (v1 : Int64) (μ : JMem) (r : Int32), jget L 0 = .ref v0 → jget L 1 = .long v1 → g_Real_exponent v0 v1 μ.1 = some r → jR B SA d m_Real_exponent 0 L [] μ (some (.int r)) μ := by
  intro L v0 v1 μ r hl0 hl1 h
  unfold g_Real_exponent at h
  refine jr_lload_n jf_32_0 rfl hl1 ?_
  refine jr_aload_n jf_32_1 rfl hl0 ?_
  replace h := obd_of h; obtain ⟨x1, hx1, h⟩ := h
  refine jr_getI jf_32_2 hx1 ?_
  refine jr_lushr jf_32_5 ?_
  refine jr_l2i jf_32_6 ?_
  refine jr_istore_n jf_32_7 rfl jml_32 (by decide) ?_
  replace h := jlet_of h
  refine jr_iload_n jf_32_8 rfl jg1_same ?_
  replace h := ite_or h; rcases h with ⟨hc, h⟩ | ⟨hc, h⟩
  · refine jr_if_ne_f jf_32_9 hc ?_
    refine jr_iconst jf_32_12 jc_i_1 ?_
    refine jr_goto jf_32_13 ?_
    exact r_Real_exponent_17 hd _ _ _ _ _ (jg1_ne rfl hl0) h
  · refine jr_if_ne_t jf_32_9 hc ?_
    refine jr_iload_n jf_32_16 rfl jg1_same ?_
    exact r_Real_exponent_17 hd _ _ _ _ _ (jg1_ne rfl hl0) h
set_option maxRecDepth 10000 in
set_option maxHeartbeats 4000000 in
theorem r_Real_exponent {B : Nat} {SA : Nat → Nat} {d : Nat} (hd : 0 ≤ d) : ∀ (v0 : Nat) (v1 : Int64) (μ : JMem) (r : Int32), g_Real_exponent v0 v1 μ.1 = some r → jR B SA d m_Real_exponent 0 (lv_args 0 [.ref v0, .long v1]) [] μ (some (.int r)) μ := by
  intro v0 v1 μ r h
  exact r_Real_exponent_e hd (lv_args 0 _) _ _ _ _ (by simp [lv_args, jget, rv_cat, cat_int, cat_long, cat_double, cat_float, cat_ref]) (by simp [lv_args, jget, rv_cat, cat_int, cat_long, cat_double, cat_float, cat_ref]) h
/-! FilterBench$Real.mantissa(J)J -/
set_option maxRecDepth 10000 in
set_option maxHeartbeats 4000000 in
theorem r_Real_mantissa_e {B : Nat} {SA : Nat → Nat} {d : Nat} (hd : 0 ≤ d) : ∀ (L : JLoc) (v0 : Nat) (v1 : Int64) (μ : JMem) (r : Int64), jget L 0 = .ref v0 → jget L 1 = .long v1 → g_Real_mantissa v0 v1 μ.1 = some r → jR B SA d m_Real_mantissa 0 L [] μ (some (.long r)) μ := by
  intro L v0 v1 μ r hl0 hl1 h
  unfold g_Real_mantissa at h
  refine jr_lload_n jf_33_0 rfl hl1 ?_
  refine jr_aload_n jf_33_1 rfl hl0 ?_
  replace h := obd_of h; obtain ⟨x1, hx1, h⟩ := h
  refine jr_getJ jf_33_2 hx1 ?_
  refine jr_lcmp jf_33_5 ?_
  replace h := ite_or h; rcases h with ⟨hc, h⟩ | ⟨hc, h⟩
  · refine jr_ifl_ge_t jf_33_6 hc ?_
    refine jr_lload_n jf_33_13 rfl hl1 ?_
    refine jr_aload_n jf_33_14 rfl hl0 ?_
    replace h := obd_of h; obtain ⟨x2, hx2, h⟩ := h
    refine jr_getJ jf_33_15 hx2 ?_
    refine jr_lconst1 jf_33_18 ?_
    refine jr_lsub jf_33_19 ?_
    refine jr_land jf_33_20 ?_
    refine jr_aload_n jf_33_21 rfl hl0 ?_
    replace h := obd_of h; obtain ⟨x3, hx3, h⟩ := h
    refine jr_getJ jf_33_22 hx3 ?_
    refine jr_lor jf_33_25 ?_
    obtain rfl := Option.some.inj h
    exact jr_retJ jf_33_26 jmt_33
  · refine jr_ifl_ge_f jf_33_6 hc ?_
    refine jr_lload_n jf_33_9 rfl hl1 ?_
    refine jr_goto jf_33_10 ?_
    obtain rfl := Option.some.inj h
    exact jr_retJ jf_33_26 jmt_33
set_option maxRecDepth 10000 in
set_option maxHeartbeats 4000000 in
theorem r_Real_mantissa {B : Nat} {SA : Nat → Nat} {d : Nat} (hd : 0 ≤ d) : ∀ (v0 : Nat) (v1 : Int64) (μ : JMem) (r : Int64), g_Real_mantissa v0 v1 μ.1 = some r → jR B SA d m_Real_mantissa 0 (lv_args 0 [.ref v0, .long v1]) [] μ (some (.long r)) μ := by
  intro v0 v1 μ r h
  exact r_Real_mantissa_e hd (lv_args 0 _) _ _ _ _ (by simp [lv_args, jget, rv_cat, cat_int, cat_long, cat_double, cat_float, cat_ref]) (by simp [lv_args, jget, rv_cat, cat_int, cat_long, cat_double, cat_float, cat_ref]) h
/-! FilterBench$Real.sizeOf(J)J -/
set_option maxRecDepth 10000 in
set_option maxHeartbeats 4000000 in
theorem r_Real_sizeOf_e {B : Nat} {SA : Nat → Nat} {d : Nat} (hd : 0 ≤ d) : ∀ (L : JLoc) (v0 : Nat) (v1 : Int64) (μ : JMem) (r : Int64), jget L 0 = .ref v0 → jget L 1 = .long v1 → g_Real_sizeOf v0 v1 μ.1 = some r → jR B SA d m_Real_sizeOf 0 L [] μ (some (.long r)) μ := by
  intro L v0 v1 μ r hl0 hl1 h
  unfold g_Real_sizeOf at h
  refine jr_lload_n jf_31_0 rfl hl1 ?_
  refine jr_aload_n jf_31_1 rfl hl0 ?_
  replace h := obd_of h; obtain ⟨x1, hx1, h⟩ := h
  refine jr_getJ jf_31_2 hx1 ?_
  refine jr_ldc2l jf_31_5 ?_
  refine jr_lxor jf_31_8 ?_
  refine jr_land jf_31_9 ?_
  obtain rfl := Option.some.inj h
  exact jr_retJ jf_31_10 jmt_31
set_option maxRecDepth 10000 in
set_option maxHeartbeats 4000000 in
theorem r_Real_sizeOf {B : Nat} {SA : Nat → Nat} {d : Nat} (hd : 0 ≤ d) : ∀ (v0 : Nat) (v1 : Int64) (μ : JMem) (r : Int64), g_Real_sizeOf v0 v1 μ.1 = some r → jR B SA d m_Real_sizeOf 0 (lv_args 0 [.ref v0, .long v1]) [] μ (some (.long r)) μ := by
  intro v0 v1 μ r h
  exact r_Real_sizeOf_e hd (lv_args 0 _) _ _ _ _ (by simp [lv_args, jget, rv_cat, cat_int, cat_long, cat_double, cat_float, cat_ref]) (by simp [lv_args, jget, rv_cat, cat_int, cat_long, cat_double, cat_float, cat_ref]) h
/-! FilterBench$Real.taken(LFilterBench$Real;J)J -/
set_option maxRecDepth 10000 in
set_option maxHeartbeats 4000000 in
theorem r_Real_taken_66 {B : Nat} {SA : Nat → Nat} {d : Nat} (hd : 2 ≤ d) : ∀ (L : JLoc) (s0 : Int64) (s1 : Bool) (s2 : Nat) (μ : JMem) (r : Int64), g_Real_taken_66 s0 s1 s2 μ.1 = some r → jR B SA d m_Real_taken 66 L [.long s0, .int (jb s1), .ref s2] μ (some (.long r)) μ := by
  intro L s0 s1 s2 μ r h
  unfold g_Real_taken_66 at h
  replace h := jgd_of h; obtain ⟨hb1, h⟩ := h
  replace h := obd_of h; obtain ⟨x2, hx2, h⟩ := h
  refine jr_V6_2 jf_30_66 hb1 (by omega) (r_Real_signed (by omega) _ _ _ _ _ hx2) (Nat.le_of_ble_eq_true rfl) jml_27 (Nat.le_of_ble_eq_true rfl) ?_
  obtain rfl := Option.some.inj h
  exact jr_retJ jf_30_69 jmt_30
set_option maxRecDepth 10000 in
set_option maxHeartbeats 4000000 in
theorem r_Real_taken_51 {B : Nat} {SA : Nat → Nat} {d : Nat} (hd : 2 ≤ d) : ∀ (L : JLoc) (v0 : Nat) (v4 : Int64) (s0 : Bool) (s1 : Nat) (μ : JMem) (r : Int64), jget L 0 = .ref v0 → jget L 4 = .long v4 → g_Real_taken_51 v0 v4 s0 s1 μ.1 = some r → jR B SA d m_Real_taken 51 L [.int (jb s0), .ref s1] μ (some (.long r)) μ := by
  intro L v0 v4 s0 s1 μ r hl0 hl4 h
  unfold g_Real_taken_51 at h
  refine jr_lload jf_30_51 hl4 ?_
  refine jr_lconst0 jf_30_53 ?_
  refine jr_lcmp jf_30_54 ?_
  replace h := ite_or h; rcases h with ⟨hc, h⟩ | ⟨hc, h⟩
  · refine jr_ifl_ne_f jf_30_55 hc ?_
    refine jr_lconst0 jf_30_58 ?_
    refine jr_goto jf_30_59 ?_
    exact r_Real_taken_66 hd _ _ _ _ _ _ h
  · refine jr_ifl_ne_t jf_30_55 hc ?_
    refine jr_aload_n jf_30_62 rfl hl0 ?_
    replace h := obd_of h; obtain ⟨x1, hx1, h⟩ := h
    refine jr_getJ jf_30_63 hx1 ?_
    exact r_Real_taken_66 hd _ _ _ _ _ _ h
set_option maxRecDepth 10000 in
set_option maxHeartbeats 4000000 in
theorem r_Real_taken_39 {B : Nat} {SA : Nat → Nat} {d : Nat} (hd : 2 ≤ d) : ∀ (L : JLoc) (v0 : Nat) (v2 : Int64) (v4 : Int64) (μ : JMem) (r : Int64), jget L 0 = .ref v0 → jget L 2 = .long v2 → jget L 4 = .long v4 → g_Real_taken_39 v0 v2 v4 μ.1 = some r → jR B SA d m_Real_taken 39 L [] μ (some (.long r)) μ := by
  intro L v0 v2 v4 μ r hl0 hl2 hl4 h
  unfold g_Real_taken_39 at h
  refine jr_aload_n jf_30_39 rfl hl0 ?_
  refine jr_lload_n jf_30_40 rfl hl2 ?_
  refine jr_lconst0 jf_30_41 ?_
  refine jr_lcmp jf_30_42 ?_
  replace h := ite_or h; rcases h with ⟨hc, h⟩ | ⟨hc, h⟩
  · refine jr_ifl_ge_t jf_30_43 hc ?_
    refine jr_iconst jf_30_50 jc_i_0 ?_
    exact r_Real_taken_51 hd _ _ _ false _ _ _ hl0 hl4 h
  · refine jr_ifl_ge_f jf_30_43 hc ?_
    refine jr_iconst jf_30_46 jc_i_1 ?_
    refine jr_goto jf_30_47 ?_
    exact r_Real_taken_51 hd _ _ _ true _ _ _ hl0 hl4 h
set_option maxRecDepth 10000 in
set_option maxHeartbeats 4000000 in
theorem r_Real_taken_82 {B : Nat} {SA : Nat → Nat} {d : Nat} (hd : 2 ≤ d) : ∀ (L : JLoc) (v1 : Nat) (v4 : Int64) (s0 : Bool) (s1 : Nat) (μ : JMem) (r : Int64), jget L 1 = .ref v1 → jget L 4 = .long v4 → g_Real_taken_82 v1 v4 s0 s1 μ.1 = some r → jR B SA d m_Real_taken 82 L [.int (jb s0), .ref s1] μ (some (.long r)) μ := by
  intro L v1 v4 s0 s1 μ r hl1 hl4 h
  unfold g_Real_taken_82 at h
  refine jr_aload_n jf_30_82 rfl hl1 ?_
  refine jr_lload jf_30_83 hl4 ?_
  replace h := jgd_of h; obtain ⟨hb1, h⟩ := h
  replace h := obd_of h; obtain ⟨x2, hx2, h⟩ := h
  refine jr_V6_1 jf_30_85 hb1 (by omega) (r_Real_exponent (by omega) _ _ _ _ hx2) (Nat.le_of_ble_eq_true rfl) jml_32 (Nat.le_of_ble_eq_true rfl) ?_
  refine jr_aload_n jf_30_88 rfl hl1 ?_
  refine jr_lload jf_30_89 hl4 ?_
  replace h := jgd_of h; obtain ⟨hb3, h⟩ := h
  replace h := obd_of h; obtain ⟨x4, hx4, h⟩ := h
  refine jr_V6_1 jf_30_91 hb3 (by omega) (r_Real_mantissa (by omega) _ _ _ _ hx4) (Nat.le_of_ble_eq_true rfl) jml_33 (Nat.le_of_ble_eq_true rfl) ?_
  replace h := jgd_of h; obtain ⟨hb5, h⟩ := h
  replace h := obd_of h; obtain ⟨x6, hx6, h⟩ := h
  refine jr_V6_3 jf_30_94 hb5 (by omega) (r_Real_packed (by omega) _ _ _ _ _ _ hx6) (Nat.le_of_ble_eq_true rfl) jml_28 (Nat.le_of_ble_eq_true rfl) ?_
  obtain rfl := Option.some.inj h
  exact jr_retJ jf_30_97 jmt_30
set_option maxRecDepth 10000 in
set_option maxHeartbeats 4000000 in
theorem r_Real_taken_e {B : Nat} {SA : Nat → Nat} {d : Nat} (hd : 2 ≤ d) : ∀ (L : JLoc) (v0 : Nat) (v1 : Option Nat) (v2 : Int64) (μ : JMem) (r : Int64), jget L 0 = .ref v0 → jget L 1 = rv v1 → jget L 2 = .long v2 → g_Real_taken v0 v1 v2 μ.1 = some r → jR B SA d m_Real_taken 0 L [] μ (some (.long r)) μ := by
  intro L v0 v1 v2 μ r hl0 hl1 hl2 h
  unfold g_Real_taken at h
  refine jr_aload_n_A jf_30_0 rfl hl1 ?_
  refine jr_lload_n jf_30_1 rfl hl2 ?_
  replace h := obd_of h; obtain ⟨a1, rfl, h⟩ := h
  replace h := jgd_of h; obtain ⟨hb2, h⟩ := h
  replace h := obd_of h; obtain ⟨x3, hx3, h⟩ := h
  refine jr_V6_1 jf_30_2 hb2 (by omega) (r_Real_sizeOf (by omega) _ _ _ _ hx3) (Nat.le_of_ble_eq_true rfl) jml_31 (Nat.le_of_ble_eq_true rfl) ?_
  refine jr_lstore jf_30_5 jml_30 (by decide) ?_
  refine jr_lload jf_30_7 jg2_same ?_
  refine jr_aload_n jf_30_9 rfl (jg2_ne rfl hl1) ?_
  replace h := obd_of h; obtain ⟨x4, hx4, h⟩ := h
  refine jr_getJ jf_30_10 hx4 ?_
  refine jr_lcmp jf_30_13 ?_
  replace h := ite_or h; rcases h with ⟨hc, h⟩ | ⟨hc, h⟩
  · refine jr_ifl_le_t jf_30_14 hc ?_
    refine jr_lload jf_30_22 jg2_same ?_
    refine jr_lconst0 jf_30_24 ?_
    refine jr_lcmp jf_30_25 ?_
    replace h := ite_or h; rcases h with ⟨hc, h⟩ | ⟨hc, h⟩
    · refine jr_ifl_eq_t jf_30_26 hc ?_
      exact r_Real_taken_39 hd _ _ _ _ _ _ (jg2_ne rfl hl0) (jg2_ne rfl hl2) jg2_same h
    · refine jr_ifl_eq_f jf_30_26 hc ?_
      refine jr_lload jf_30_29 jg2_same ?_
      refine jr_aload_n jf_30_31 rfl (jg2_ne rfl hl1) ?_
      replace h := obd_of h; obtain ⟨x5, hx5, h⟩ := h
      refine jr_getJ jf_30_32 hx5 ?_
      refine jr_lcmp jf_30_35 ?_
      replace h := ite_or h; rcases h with ⟨hc, h⟩ | ⟨hc, h⟩
      · refine jr_ifl_ne_f jf_30_36 hc ?_
        exact r_Real_taken_39 hd _ _ _ _ _ _ (jg2_ne rfl hl0) (jg2_ne rfl hl2) jg2_same h
      · refine jr_ifl_ne_t jf_30_36 hc ?_
        refine jr_aload_n jf_30_70 rfl (jg2_ne rfl hl0) ?_
        refine jr_lload_n jf_30_71 rfl (jg2_ne rfl hl2) ?_
        refine jr_lconst0 jf_30_72 ?_
        refine jr_lcmp jf_30_73 ?_
        replace h := ite_or h; rcases h with ⟨hc, h⟩ | ⟨hc, h⟩
        · refine jr_ifl_ge_t jf_30_74 hc ?_
          refine jr_iconst jf_30_81 jc_i_0 ?_
          exact r_Real_taken_82 hd _ _ _ false _ _ _ (jg2_ne rfl hl1) jg2_same h
        · refine jr_ifl_ge_f jf_30_74 hc ?_
          refine jr_iconst jf_30_77 jc_i_1 ?_
          refine jr_goto jf_30_78 ?_
          exact r_Real_taken_82 hd _ _ _ true _ _ _ (jg2_ne rfl hl1) jg2_same h
  · refine jr_ifl_le_f jf_30_14 hc ?_
    refine jr_aload_n jf_30_17 rfl (jg2_ne rfl hl0) ?_
    replace h := obd_of h; obtain ⟨x6, hx6, h⟩ := h
    refine jr_getJ jf_30_18 hx6 ?_
    obtain rfl := Option.some.inj h
    exact jr_retJ jf_30_21 jmt_30
set_option maxRecDepth 10000 in
set_option maxHeartbeats 4000000 in
theorem r_Real_taken {B : Nat} {SA : Nat → Nat} {d : Nat} (hd : 2 ≤ d) : ∀ (v0 : Nat) (v1 : Option Nat) (v2 : Int64) (μ : JMem) (r : Int64), g_Real_taken v0 v1 v2 μ.1 = some r → jR B SA d m_Real_taken 0 (lv_args 0 [.ref v0, rv v1, .long v2]) [] μ (some (.long r)) μ := by
  intro v0 v1 v2 μ r h
  exact r_Real_taken_e hd (lv_args 0 _) _ _ _ _ _ (by simp [lv_args, jget, rv_cat, cat_int, cat_long, cat_double, cat_float, cat_ref]) (by simp [lv_args, jget, rv_cat, cat_int, cat_long, cat_double, cat_float, cat_ref]) (by simp [lv_args, jget, rv_cat, cat_int, cat_long, cat_double, cat_float, cat_ref]) h
/-! FilterBench$Real.quotient(IIZLFilterBench$Real;)J -/
set_option maxRecDepth 10000 in
set_option maxHeartbeats 4000000 in
theorem r_Real_quotient_e {B : Nat} {SA : Nat → Nat} {d : Nat} (hd : 3 ≤ d) : ∀ (L : JLoc) (v0 : Nat) (v1 : Int32) (v2 : Int32) (v4 : Option Nat) (μ : JMem) (r : Int64), jget L 0 = .ref v0 → jget L 1 = .int v1 → jget L 2 = .int v2 → jget L 4 = rv v4 → g_Real_quotient_e v0 v1 v2 v4 μ.1 = some r → jR B SA d m_Real_quotient 0 L [] μ (some (.long r)) μ := by
  intro L v0 v1 v2 v4 μ r hl0 hl1 hl2 hl4 h
  unfold g_Real_quotient_e at h
  refine jr_aload_n jf_23_0 rfl hl0 ?_
  refine jr_aload_A jf_23_1 hl4 ?_
  refine jr_aload_A jf_23_3 hl4 ?_
  refine jr_iload_n jf_23_5 rfl hl1 ?_
  refine jr_iload_n jf_23_6 rfl hl2 ?_
  replace h := obd_of h; obtain ⟨a1, rfl, h⟩ := h
  replace h := jgd_of h; obtain ⟨hb2, h⟩ := h
  replace h := obd_of h; obtain ⟨x3, hx3, h⟩ := h
  refine jr_V6_2 jf_23_7 hb2 (by omega) (r_Real_divided (by omega) _ _ _ _ _ hx3) (Nat.le_of_ble_eq_true rfl) jml_24 (Nat.le_of_ble_eq_true rfl) ?_
  replace h := jgd_of h; obtain ⟨hb4, h⟩ := h
  replace h := obd_of h; obtain ⟨x5, hx5, h⟩ := h
  refine jr_V6_2 jf_23_10 hb4 (by omega) (r_Real_taken (by omega) _ _ _ _ _ hx5) (Nat.le_of_ble_eq_true rfl) jml_30 (by simp only [jcats_cons, jcats_nil, cat_int, cat_long, cat_double, cat_float, cat_ref, rv_cat]; decide) ?_
  obtain rfl := Option.some.inj h
  exact jr_retJ jf_23_13 jmt_23
set_option maxRecDepth 10000 in
set_option maxHeartbeats 4000000 in
theorem r_Real_quotient {B : Nat} {SA : Nat → Nat} {d : Nat} (hd : 3 ≤ d) : ∀ (v0 : Nat) (v1 : Int32) (v2 : Int32) (v3 : Bool) (v4 : Option Nat) (μ : JMem) (r : Int64), g_Real_quotient v0 v1 v2 v3 v4 μ.1 = some r → jR B SA d m_Real_quotient 0 (lv_args 0 [.ref v0, .int v1, .int v2, .int (jb v3), rv v4]) [] μ (some (.long r)) μ := by
  intro v0 v1 v2 v3 v4 μ r h
  exact r_Real_quotient_e hd (lv_args 0 _) _ _ _ _ _ _ (by simp [lv_args, jget, rv_cat, cat_int, cat_long, cat_double, cat_float, cat_ref]) (by simp [lv_args, jget, rv_cat, cat_int, cat_long, cat_double, cat_float, cat_ref]) (by simp [lv_args, jget, rv_cat, cat_int, cat_long, cat_double, cat_float, cat_ref]) (by simp [lv_args, jget, rv_cat, cat_int, cat_long, cat_double, cat_float, cat_ref]) h
/-! FilterBench$Section.takesWhole()Z -/
set_option maxRecDepth 10000 in
set_option maxHeartbeats 4000000 in
theorem r_Section_takesWhole_18 {B : Nat} {SA : Nat → Nat} {d : Nat} (hd : 0 ≤ d) : ∀ (L : JLoc) (μ : JMem) (r : Bool), g_Section_takesWhole_18 μ.1 = some r → jR B SA d m_Section_takesWhole 18 L [] μ (some (.int (jb r))) μ := by
  intro L μ r h
  unfold g_Section_takesWhole_18 at h
  refine jr_iconst jf_22_18 jc_i_1 ?_
  refine jr_goto jf_22_19 ?_
  obtain rfl := Option.some.inj h
  exact jr_retZ (x := true) jf_22_23 jmt_22
set_option maxRecDepth 10000 in
set_option maxHeartbeats 4000000 in
theorem r_Section_takesWhole_e {B : Nat} {SA : Nat → Nat} {d : Nat} (hd : 0 ≤ d) : ∀ (L : JLoc) (v0 : Nat) (μ : JMem) (r : Bool), jget L 0 = .ref v0 → g_Section_takesWhole v0 μ.1 = some r → jR B SA d m_Section_takesWhole 0 L [] μ (some (.int (jb r))) μ := by
  intro L v0 μ r hl0 h
  unfold g_Section_takesWhole at h
  refine jr_aload_n jf_22_0 rfl hl0 ?_
  replace h := obd_of h; obtain ⟨x1, hx1, h⟩ := h
  refine jr_getI jf_22_1 hx1 ?_
  refine jr_bipush jf_22_4 jc_b_9 ?_
  replace h := ite_or h; rcases h with ⟨hc, h⟩ | ⟨hc, h⟩
  · refine jr_if2_eq_t jf_22_6 hc ?_
    exact r_Section_takesWhole_18 hd _  _ _ h
  · refine jr_if2_eq_f jf_22_6 hc ?_
    refine jr_aload_n jf_22_9 rfl hl0 ?_
    replace h := obd_of h; obtain ⟨x2, hx2, h⟩ := h
    refine jr_getI jf_22_10 hx2 ?_
    refine jr_bipush jf_22_13 jc_b_10 ?_
    replace h := ite_or h; rcases h with ⟨hc, h⟩ | ⟨hc, h⟩
    · refine jr_if2_ne_f jf_22_15 hc ?_
      exact r_Section_takesWhole_18 hd _  _ _ h
    · refine jr_if2_ne_t jf_22_15 hc ?_
      refine jr_iconst jf_22_22 jc_i_0 ?_
      obtain rfl := Option.some.inj h
      exact jr_retZ (x := false) jf_22_23 jmt_22
set_option maxRecDepth 10000 in
set_option maxHeartbeats 4000000 in
theorem r_Section_takesWhole {B : Nat} {SA : Nat → Nat} {d : Nat} (hd : 0 ≤ d) : ∀ (v0 : Nat) (μ : JMem) (r : Bool), g_Section_takesWhole v0 μ.1 = some r → jR B SA d m_Section_takesWhole 0 (lv_args 0 [.ref v0]) [] μ (some (.int (jb r))) μ := by
  intro v0 μ r h
  exact r_Section_takesWhole_e hd (lv_args 0 _) _ _ _ (by simp [lv_args, jget, rv_cat, cat_int, cat_long, cat_double, cat_float, cat_ref]) h
/-! java/lang/Math.floorDiv(JJ)J -/
set_option maxRecDepth 10000 in
set_option maxHeartbeats 4000000 in
theorem r_JMath_floorDiv_e {B : Nat} {SA : Nat → Nat} {d : Nat} (hd : 0 ≤ d) : ∀ (L : JLoc) (v0 : Int64) (v2 : Int64) (μ : JMem) (r : Int64), jget L 0 = .long v0 → jget L 2 = .long v2 → g_JMath_floorDiv v0 v2 = some r → jR B SA d m_JMath_floorDiv 0 L [] μ (some (.long r)) μ := by
  intro L v0 v2 μ r hl0 hl2 h
  unfold g_JMath_floorDiv at h
  refine jr_lload_n jf_35_0 rfl hl0 ?_
  refine jr_lload_n jf_35_1 rfl hl2 ?_
  replace h := obd_of h; obtain ⟨x1, hx1, h⟩ := h
  refine jr_ldiv jf_35_2 hx1 ?_
  refine jr_lstore jf_35_3 jml_35 (by decide) ?_
  refine jr_lload_n jf_35_5 rfl (jg2_ne rfl hl0) ?_
  refine jr_lload_n jf_35_6 rfl (jg2_ne rfl hl2) ?_
  refine jr_lxor jf_35_7 ?_
  refine jr_lconst0 jf_35_8 ?_
  refine jr_lcmp jf_35_9 ?_
  replace h := ite_or h; rcases h with ⟨hc, h⟩ | ⟨hc, h⟩
  · refine jr_ifl_ge_t jf_35_10 hc ?_
    refine jr_lload jf_35_27 jg2_same ?_
    obtain rfl := Option.some.inj h
    exact jr_retJ jf_35_29 jmt_35
  · refine jr_ifl_ge_f jf_35_10 hc ?_
    refine jr_lload jf_35_13 jg2_same ?_
    refine jr_lload_n jf_35_15 rfl (jg2_ne rfl hl2) ?_
    refine jr_lmul jf_35_16 ?_
    refine jr_lload_n jf_35_17 rfl (jg2_ne rfl hl0) ?_
    refine jr_lcmp jf_35_18 ?_
    replace h := ite_or h; rcases h with ⟨hc, h⟩ | ⟨hc, h⟩
    · refine jr_ifl_eq_t jf_35_19 hc ?_
      refine jr_lload jf_35_27 jg2_same ?_
      obtain rfl := Option.some.inj h
      exact jr_retJ jf_35_29 jmt_35
    · refine jr_ifl_eq_f jf_35_19 hc ?_
      refine jr_lload jf_35_22 jg2_same ?_
      refine jr_lconst1 jf_35_24 ?_
      refine jr_lsub jf_35_25 ?_
      obtain rfl := Option.some.inj h
      exact jr_retJ jf_35_26 jmt_35
set_option maxRecDepth 10000 in
set_option maxHeartbeats 4000000 in
theorem r_JMath_floorDiv {B : Nat} {SA : Nat → Nat} {d : Nat} (hd : 0 ≤ d) : ∀ (v0 : Int64) (v2 : Int64) (μ : JMem) (r : Int64), g_JMath_floorDiv v0 v2 = some r → jR B SA d m_JMath_floorDiv 0 (lv_args 0 [.long v0, .long v2]) [] μ (some (.long r)) μ := by
  intro v0 v2 μ r h
  exact r_JMath_floorDiv_e hd (lv_args 0 _) _ _ _ _ (by simp [lv_args, jget, rv_cat, cat_int, cat_long, cat_double, cat_float, cat_ref]) (by simp [lv_args, jget, rv_cat, cat_int, cat_long, cat_double, cat_float, cat_ref]) h
/-! FilterBench$Shorts.quotient(IIZLFilterBench$Real;)J -/
set_option maxRecDepth 10000 in
set_option maxHeartbeats 4000000 in
theorem r_Shorts_quotient_93 {B : Nat} {SA : Nat → Nat} {d : Nat} (hd : 1 ≤ d) : ∀ (L : JLoc) (v9 : Int64) (μ : JMem) (r : Int64), jget L 9 = .long v9 → g_Shorts_quotient_93 v9 = some r → jR B SA d m_Shorts_quotient 93 L [] μ (some (.long r)) μ := by
  intro L v9 μ r hl9 h
  unfold g_Shorts_quotient_93 at h
  refine jr_lload jf_34_93 hl9 ?_
  refine jr_lconst1 jf_34_95 ?_
  refine jr_ladd jf_34_96 ?_
  refine jr_goto jf_34_97 ?_
  obtain rfl := Option.some.inj h
  exact jr_retJ jf_34_102 jmt_34
set_option maxRecDepth 10000 in
set_option maxHeartbeats 4000000 in
theorem r_Shorts_quotient_30 {B : Nat} {SA : Nat → Nat} {d : Nat} (hd : 1 ≤ d) : ∀ (L : JLoc) (v5 : Int64) (s0 : Int32) (s1 : Int64) (μ : JMem) (r : Int64), jget L 5 = .long v5 → g_Shorts_quotient_30 v5 s0 s1 = some r → jR B SA d m_Shorts_quotient 30 L [.int s0, .long s1] μ (some (.long r)) μ := by
  intro L v5 s0 s1 μ r hl5 h
  unfold g_Shorts_quotient_30 at h
  refine jr_i2l jf_34_30 ?_
  refine jr_lmul jf_34_31 ?_
  refine jr_lstore jf_34_32 jml_34 (by decide) ?_
  refine jr_lload jf_34_34 (jg2_ne rfl hl5) ?_
  refine jr_lconst0 jf_34_36 ?_
  refine jr_lcmp jf_34_37 ?_
  replace h := ite_or h; rcases h with ⟨hc, h⟩ | ⟨hc, h⟩
  · refine jr_ifl_ne_f jf_34_38 hc ?_
    refine jr_ldc2l jf_34_41 ?_
    obtain rfl := Option.some.inj h
    exact jr_retJ jf_34_44 jmt_34
  · refine jr_ifl_ne_t jf_34_38 hc ?_
    refine jr_lload jf_34_45 jg2_same ?_
    refine jr_lload jf_34_47 (jg2_ne rfl hl5) ?_
    replace h := obd_of h; obtain ⟨x1, hx1, h⟩ := h
    refine jr_S3_2 jf_34_49 (by omega) (r_JMath_floorDiv (by omega) _ _ _ _ hx1) (Nat.le_of_ble_eq_true rfl) jml_35 (Nat.le_of_ble_eq_true rfl) ?_
    refine jr_lstore jf_34_52 jml_34 (by decide) ?_
    refine jr_lload jf_34_54 (jg2_ne rfl jg2_same) ?_
    refine jr_lload jf_34_56 jg2_same ?_
    refine jr_lload jf_34_58 (jg2_ne rfl (jg2_ne rfl hl5)) ?_
    refine jr_lmul jf_34_60 ?_
    refine jr_lsub jf_34_61 ?_
    refine jr_ldc2l jf_34_62 ?_
    refine jr_lmul jf_34_65 ?_
    refine jr_lstore jf_34_66 jml_34 (by decide) ?_
    replace h := jlet_of h
    refine jr_lload jf_34_68 jg2_same ?_
    refine jr_lload jf_34_70 (jg2_ne rfl (jg2_ne rfl (jg2_ne rfl hl5))) ?_
    refine jr_lcmp jf_34_72 ?_
    replace h := ite_or h; rcases h with ⟨hc, h⟩ | ⟨hc, h⟩
    · refine jr_ifl_gt_t jf_34_73 hc ?_
      exact r_Shorts_quotient_93 hd _ _ _ _ (jg2_ne rfl jg2_same) h
    · refine jr_ifl_gt_f jf_34_73 hc ?_
      refine jr_lload jf_34_76 jg2_same ?_
      refine jr_lload jf_34_78 (jg2_ne rfl (jg2_ne rfl (jg2_ne rfl hl5))) ?_
      refine jr_lcmp jf_34_80 ?_
      replace h := ite_or h; rcases h with ⟨hc, h⟩ | ⟨hc, h⟩
      · refine jr_ifl_ne_f jf_34_81 hc ?_
        refine jr_lload jf_34_84 (jg2_ne rfl jg2_same) ?_
        refine jr_lconst1 jf_34_86 ?_
        refine jr_land jf_34_87 ?_
        refine jr_lconst1 jf_34_88 ?_
        refine jr_lcmp jf_34_89 ?_
        replace h := ite_or h; rcases h with ⟨hc, h⟩ | ⟨hc, h⟩
        · refine jr_ifl_ne_f jf_34_90 hc ?_
          exact r_Shorts_quotient_93 hd _ _ _ _ (jg2_ne rfl jg2_same) h
        · refine jr_ifl_ne_t jf_34_90 hc ?_
          refine jr_lload jf_34_100 (jg2_ne rfl jg2_same) ?_
          obtain rfl := Option.some.inj h
          exact jr_retJ jf_34_102 jmt_34
      · refine jr_ifl_ne_t jf_34_81 hc ?_
        refine jr_lload jf_34_100 (jg2_ne rfl jg2_same) ?_
        obtain rfl := Option.some.inj h
        exact jr_retJ jf_34_102 jmt_34
set_option maxRecDepth 10000 in
set_option maxHeartbeats 4000000 in
theorem r_Shorts_quotient_19 {B : Nat} {SA : Nat → Nat} {d : Nat} (hd : 1 ≤ d) : ∀ (L : JLoc) (v3 : Bool) (v5 : Int64) (s0 : Int64) (μ : JMem) (r : Int64), jget L 3 = .int (jb v3) → jget L 5 = .long v5 → g_Shorts_quotient_19 v3 v5 s0 = some r → jR B SA d m_Shorts_quotient 19 L [.long s0] μ (some (.long r)) μ := by
  intro L v3 v5 s0 μ r hl3 hl5 h
  unfold g_Shorts_quotient_19 at h
  refine jr_iload_n jf_34_19 rfl hl3 ?_
  replace h := ite_or h; rcases h with ⟨hc, h⟩ | ⟨hc, h⟩
  · refine jr_ifz_eq_f jf_34_20 hc ?_
    refine jr_iconst jf_34_23 jc_i_1 ?_
    refine jr_goto jf_34_24 ?_
    exact r_Shorts_quotient_30 hd _ _ _ _ _ _ hl5 h
  · refine jr_ifz_eq_t jf_34_20 hc ?_
    refine jr_sipush jf_34_27 jc_s_16384 ?_
    exact r_Shorts_quotient_30 hd _ _ _ _ _ _ hl5 h
set_option maxRecDepth 10000 in
set_option maxHeartbeats 4000000 in
theorem r_Shorts_quotient_e {B : Nat} {SA : Nat → Nat} {d : Nat} (hd : 1 ≤ d) : ∀ (L : JLoc) (v1 : Int32) (v2 : Int32) (v3 : Bool) (μ : JMem) (r : Int64), jget L 1 = .int v1 → jget L 2 = .int v2 → jget L 3 = .int (jb v3) → g_Shorts_quotient_e v1 v2 v3 = some r → jR B SA d m_Shorts_quotient 0 L [] μ (some (.long r)) μ := by
  intro L v1 v2 v3 μ r hl1 hl2 hl3 h
  unfold g_Shorts_quotient_e at h
  refine jr_iload_n jf_34_0 rfl hl2 ?_
  refine jr_i2l jf_34_1 ?_
  refine jr_S3_1 jf_34_2 (by omega) (r_JMath_abs (by omega) _ _ _ rfl) (Nat.le_of_ble_eq_true rfl) jml_25 (Nat.le_of_ble_eq_true rfl) ?_
  refine jr_lstore jf_34_5 jml_34 (by decide) ?_
  replace h := jlet_of h
  refine jr_iload_n jf_34_7 rfl (jg2_ne rfl hl2) ?_
  replace h := ite_or h; rcases h with ⟨hc, h⟩ | ⟨hc, h⟩
  · refine jr_if_ge_t jf_34_8 hc ?_
    refine jr_iload_n jf_34_17 rfl (jg2_ne rfl hl1) ?_
    refine jr_i2l jf_34_18 ?_
    exact r_Shorts_quotient_19 hd _ _ _ _ _ _ (jg2_ne rfl hl3) jg2_same h
  · refine jr_if_ge_f jf_34_8 hc ?_
    refine jr_iload_n jf_34_11 rfl (jg2_ne rfl hl1) ?_
    refine jr_i2l jf_34_12 ?_
    refine jr_lneg jf_34_13 ?_
    refine jr_goto jf_34_14 ?_
    exact r_Shorts_quotient_19 hd _ _ _ _ _ _ (jg2_ne rfl hl3) jg2_same h
set_option maxRecDepth 10000 in
set_option maxHeartbeats 4000000 in
theorem r_Shorts_quotient {B : Nat} {SA : Nat → Nat} {d : Nat} (hd : 1 ≤ d) : ∀ (v0 : Nat) (v1 : Int32) (v2 : Int32) (v3 : Bool) (v4 : Option Nat) (μ : JMem) (r : Int64), g_Shorts_quotient v0 v1 v2 v3 v4 = some r → jR B SA d m_Shorts_quotient 0 (lv_args 0 [.ref v0, .int v1, .int v2, .int (jb v3), rv v4]) [] μ (some (.long r)) μ := by
  intro v0 v1 v2 v3 v4 μ r h
  exact r_Shorts_quotient_e hd (lv_args 0 _) _ _ _ _ _ (by simp [lv_args, jget, rv_cat, cat_int, cat_long, cat_double, cat_float, cat_ref]) (by simp [lv_args, jget, rv_cat, cat_int, cat_long, cat_double, cat_float, cat_ref]) (by simp [lv_args, jget, rv_cat, cat_int, cat_long, cat_double, cat_float, cat_ref]) h
/-! FilterBench.ratio(IIII)Z -/
set_option maxRecDepth 10000 in
set_option maxHeartbeats 4000000 in
theorem r_B_ratio_e {B : Nat} {SA : Nat → Nat} {d : Nat} (hd : 4 ≤ d) : ∀ (L : JLoc) (v0 : Nat) (v1 : Int32) (v2 : Int32) (v3 : Int32) (v4 : Int32) (μ : JMem) (r : Bool) (μ9 : JMem), jget L 0 = .ref v0 → jget L 1 = .int v1 → jget L 2 = .int v2 → jget L 3 = .int v3 → jget L 4 = .int v4 → g_B_ratio B v0 v1 v2 v3 v4 μ = some (r, μ9) → jR B SA d m_B_ratio 0 L [] μ (some (.int (jb r))) μ9 := by
  intro L v0 v1 v2 v3 v4 μ r μ9 hl0 hl1 hl2 hl3 hl4 h
  unfold g_B_ratio at h
  refine jr_aload_n jf_21_0 rfl hl0 ?_
  refine jr_iload_n jf_21_1 rfl hl1 ?_
  replace h := jgd_of h; obtain ⟨hb1, h⟩ := h
  replace h := obd_of h; obtain ⟨x2, hx2, h⟩ := h
  refine jr_V6_1 jf_21_2 hb1 (by omega) (r_B_sectionAt (by omega) _ _ _ _ hx2) (Nat.le_of_ble_eq_true rfl) jml_13 (Nat.le_of_ble_eq_true rfl) ?_
  refine jr_astore_A jf_21_5 jml_21 (by decide) ?_
  refine jr_aload_A jf_21_7 jg1_same ?_
  replace h := jon_or h; rcases h with ⟨rfl, h⟩ | ⟨a3, rfl, h⟩
  · refine jr_ifnull_n jf_21_9 ?_
    refine jr_iconst jf_21_26 jc_i_0 ?_
    obtain ⟨rfl, rfl⟩ := Prod.mk.inj (Option.some.inj h)
    exact jr_retZ (x := false) jf_21_27 jmt_21
  · refine jr_ifnull_s jf_21_9 ?_
    refine jr_aload jf_21_12 jg1_same ?_
    refine jr_iload_n jf_21_14 rfl (jg1_ne rfl hl2) ?_
    replace h := jgd_of h; obtain ⟨hb4, h⟩ := h
    replace h := obd_of h; obtain ⟨x5, hx5, h⟩ := h
    refine jr_V6_1 jf_21_15 hb4 (by omega) (r_Section_hasFactor (by omega) _ _ _ _ hx5) (Nat.le_of_ble_eq_true rfl) jml_14 (Nat.le_of_ble_eq_true rfl) ?_
    replace h := ite_or h; rcases h with ⟨hc, h⟩ | ⟨hc, h⟩
    · refine jr_ifz_eq_f jf_21_18 hc ?_
      refine jr_iload jf_21_21 (jg1_pre rfl hl4) ?_
      replace h := ite_or h; rcases h with ⟨hc, h⟩ | ⟨hc, h⟩
      · refine jr_if_ne_f jf_21_23 hc ?_
        refine jr_iconst jf_21_26 jc_i_0 ?_
        obtain ⟨rfl, rfl⟩ := Prod.mk.inj (Option.some.inj h)
        exact jr_retZ (x := false) jf_21_27 jmt_21
      · refine jr_if_ne_t jf_21_23 hc ?_
        refine jr_aload jf_21_28 jg1_same ?_
        replace h := obd_of h; obtain ⟨x6, hx6, h⟩ := h
        refine jr_getA jf_21_30 hx6 ?_
        refine jr_iload_n jf_21_33 rfl (jg1_ne rfl hl3) ?_
        refine jr_iload jf_21_34 (jg1_pre rfl hl4) ?_
        refine jr_aload jf_21_36 jg1_same ?_
        replace h := jgd_of h; obtain ⟨hb7, h⟩ := h
        replace h := obd_of h; obtain ⟨x8, hx8, h⟩ := h
        refine jr_V6_0 jf_21_38 hb7 (by omega) (r_Section_takesWhole (by omega) _ _ _ hx8) (by simp only [jcats_cons, jcats_nil, cat_int, cat_long, cat_double, cat_float, cat_ref, rv_cat]; decide) jml_22 (Nat.le_of_ble_eq_true rfl) ?_
        refine jr_aload_n jf_21_41 rfl (jg1_ne rfl hl0) ?_
        replace h := obd_of h; obtain ⟨x9, hx9, h⟩ := h
        refine jr_getA jf_21_42 hx9 ?_
        replace h := obd_of h; obtain ⟨a10, rfl, h⟩ := h
        replace h := obd_of h; obtain ⟨x11, hx11, h⟩ := h
        rcases ite_or hx11 with ⟨hb, hx⟩ | ⟨hb0, hx⟩
        · refine jr_V8a_4 jf_21_45 hb (by omega) (r_Real_quotient (by omega) _ _ _ _ _ _ _ hx) (Nat.le_of_ble_eq_true rfl) jml_23 (by simp only [jcats_cons, jcats_nil, cat_int, cat_long, cat_double, cat_float, cat_ref, rv_cat]; decide) ?_
          refine jr_lstore jf_21_48 jml_21 (by decide) ?_
          refine jr_aload jf_21_50 (jg2_pre (by first | rfl | exact rv_cat _) jg1_same) ?_
          replace h := obd_of h; obtain ⟨x12, hx12, h⟩ := h
          refine jr_getA jf_21_52 hx12 ?_
          refine jr_lload jf_21_55 jg2_same ?_
          replace h := obd_of h; obtain ⟨a13, rfl, h⟩ := h
          replace h := obd_of h; obtain ⟨x14, hx14, h⟩ := h
          rcases ite_or hx14 with ⟨hb, hx⟩ | ⟨hb0, hx⟩
          · refine jr_V8a_1 jf_21_57 hb (by omega) (r_Real_holds (by omega) _ _ _ _ hx) (Nat.le_of_ble_eq_true rfl) jml_15 (Nat.le_of_ble_eq_true rfl) ?_
            replace h := ite_or h; rcases h with ⟨hc, h⟩ | ⟨hc, h⟩
            · refine jr_ifz_ne_t jf_21_60 hc ?_
              refine jr_aload jf_21_65 (jg2_pre (by first | rfl | exact rv_cat _) jg1_same) ?_
              refine jr_iload_n jf_21_67 rfl (jg2_ne rfl (jg1_ne rfl hl2)) ?_
              refine jr_lload jf_21_68 jg2_same ?_
              replace h := jgd_of h; obtain ⟨hb15, h⟩ := h
              replace h := obd_of h; obtain ⟨μ16, hμ16, h⟩ := h
              refine jr_V6v_2 jf_21_70 hb15 (by omega) (r_Section_setFactor (by omega) _ _ _ _ _ hμ16) (Nat.le_of_ble_eq_true rfl) jml_20 (Nat.le_of_ble_eq_true rfl) ?_
              refine jr_iconst jf_21_73 jc_i_1 ?_
              obtain ⟨rfl, rfl⟩ := Prod.mk.inj (Option.some.inj h)
              exact jr_retZ (x := true) jf_21_74 jmt_21
            · refine jr_ifz_ne_f jf_21_60 hc ?_
              refine jr_iconst jf_21_63 jc_i_0 ?_
              obtain ⟨rfl, rfl⟩ := Prod.mk.inj (Option.some.inj h)
              exact jr_retZ (x := false) jf_21_64 jmt_21
          · obtain ⟨hb, hx⟩ := jgd_of hx
            obtain hx := Option.some.inj hx
            refine jr_V8b_1 jf_21_57 hb0 hb (by omega) (r_Shorts_holds (by omega) _ _ _ _ hx) (Nat.le_of_ble_eq_true rfl) jml_16 (Nat.le_of_ble_eq_true rfl) ?_
            replace h := ite_or h; rcases h with ⟨hc, h⟩ | ⟨hc, h⟩
            · refine jr_ifz_ne_t jf_21_60 hc ?_
              refine jr_aload jf_21_65 (jg2_pre (by first | rfl | exact rv_cat _) jg1_same) ?_
              refine jr_iload_n jf_21_67 rfl (jg2_ne rfl (jg1_ne rfl hl2)) ?_
              refine jr_lload jf_21_68 jg2_same ?_
              replace h := jgd_of h; obtain ⟨hb15, h⟩ := h
              replace h := obd_of h; obtain ⟨μ16, hμ16, h⟩ := h
              refine jr_V6v_2 jf_21_70 hb15 (by omega) (r_Section_setFactor (by omega) _ _ _ _ _ hμ16) (Nat.le_of_ble_eq_true rfl) jml_20 (Nat.le_of_ble_eq_true rfl) ?_
              refine jr_iconst jf_21_73 jc_i_1 ?_
              obtain ⟨rfl, rfl⟩ := Prod.mk.inj (Option.some.inj h)
              exact jr_retZ (x := true) jf_21_74 jmt_21
            · refine jr_ifz_ne_f jf_21_60 hc ?_
              refine jr_iconst jf_21_63 jc_i_0 ?_
              obtain ⟨rfl, rfl⟩ := Prod.mk.inj (Option.some.inj h)
              exact jr_retZ (x := false) jf_21_64 jmt_21
        · obtain ⟨hb, hx⟩ := jgd_of hx
          refine jr_V8b_4 jf_21_45 hb0 hb (by omega) (r_Shorts_quotient (by omega) _ _ _ _ _ _ _ hx) (Nat.le_of_ble_eq_true rfl) jml_34 (by simp only [jcats_cons, jcats_nil, cat_int, cat_long, cat_double, cat_float, cat_ref, rv_cat]; decide) ?_
          refine jr_lstore jf_21_48 jml_21 (by decide) ?_
          refine jr_aload jf_21_50 (jg2_pre (by first | rfl | exact rv_cat _) jg1_same) ?_
          replace h := obd_of h; obtain ⟨x12, hx12, h⟩ := h
          refine jr_getA jf_21_52 hx12 ?_
          refine jr_lload jf_21_55 jg2_same ?_
          replace h := obd_of h; obtain ⟨a13, rfl, h⟩ := h
          replace h := obd_of h; obtain ⟨x14, hx14, h⟩ := h
          rcases ite_or hx14 with ⟨hb, hx⟩ | ⟨hb0, hx⟩
          · refine jr_V8a_1 jf_21_57 hb (by omega) (r_Real_holds (by omega) _ _ _ _ hx) (Nat.le_of_ble_eq_true rfl) jml_15 (Nat.le_of_ble_eq_true rfl) ?_
            replace h := ite_or h; rcases h with ⟨hc, h⟩ | ⟨hc, h⟩
            · refine jr_ifz_ne_t jf_21_60 hc ?_
              refine jr_aload jf_21_65 (jg2_pre (by first | rfl | exact rv_cat _) jg1_same) ?_
              refine jr_iload_n jf_21_67 rfl (jg2_ne rfl (jg1_ne rfl hl2)) ?_
              refine jr_lload jf_21_68 jg2_same ?_
              replace h := jgd_of h; obtain ⟨hb15, h⟩ := h
              replace h := obd_of h; obtain ⟨μ16, hμ16, h⟩ := h
              refine jr_V6v_2 jf_21_70 hb15 (by omega) (r_Section_setFactor (by omega) _ _ _ _ _ hμ16) (Nat.le_of_ble_eq_true rfl) jml_20 (Nat.le_of_ble_eq_true rfl) ?_
              refine jr_iconst jf_21_73 jc_i_1 ?_
              obtain ⟨rfl, rfl⟩ := Prod.mk.inj (Option.some.inj h)
              exact jr_retZ (x := true) jf_21_74 jmt_21
            · refine jr_ifz_ne_f jf_21_60 hc ?_
              refine jr_iconst jf_21_63 jc_i_0 ?_
              obtain ⟨rfl, rfl⟩ := Prod.mk.inj (Option.some.inj h)
              exact jr_retZ (x := false) jf_21_64 jmt_21
          · obtain ⟨hb, hx⟩ := jgd_of hx
            obtain hx := Option.some.inj hx
            refine jr_V8b_1 jf_21_57 hb0 hb (by omega) (r_Shorts_holds (by omega) _ _ _ _ hx) (Nat.le_of_ble_eq_true rfl) jml_16 (Nat.le_of_ble_eq_true rfl) ?_
            replace h := ite_or h; rcases h with ⟨hc, h⟩ | ⟨hc, h⟩
            · refine jr_ifz_ne_t jf_21_60 hc ?_
              refine jr_aload jf_21_65 (jg2_pre (by first | rfl | exact rv_cat _) jg1_same) ?_
              refine jr_iload_n jf_21_67 rfl (jg2_ne rfl (jg1_ne rfl hl2)) ?_
              refine jr_lload jf_21_68 jg2_same ?_
              replace h := jgd_of h; obtain ⟨hb15, h⟩ := h
              replace h := obd_of h; obtain ⟨μ16, hμ16, h⟩ := h
              refine jr_V6v_2 jf_21_70 hb15 (by omega) (r_Section_setFactor (by omega) _ _ _ _ _ hμ16) (Nat.le_of_ble_eq_true rfl) jml_20 (Nat.le_of_ble_eq_true rfl) ?_
              refine jr_iconst jf_21_73 jc_i_1 ?_
              obtain ⟨rfl, rfl⟩ := Prod.mk.inj (Option.some.inj h)
              exact jr_retZ (x := true) jf_21_74 jmt_21
            · refine jr_ifz_ne_f jf_21_60 hc ?_
              refine jr_iconst jf_21_63 jc_i_0 ?_
              obtain ⟨rfl, rfl⟩ := Prod.mk.inj (Option.some.inj h)
              exact jr_retZ (x := false) jf_21_64 jmt_21
    · refine jr_ifz_eq_t jf_21_18 hc ?_
      refine jr_iconst jf_21_26 jc_i_0 ?_
      obtain ⟨rfl, rfl⟩ := Prod.mk.inj (Option.some.inj h)
      exact jr_retZ (x := false) jf_21_27 jmt_21
set_option maxRecDepth 10000 in
set_option maxHeartbeats 4000000 in
theorem r_B_ratio {B : Nat} {SA : Nat → Nat} {d : Nat} (hd : 4 ≤ d) : ∀ (v0 : Nat) (v1 : Int32) (v2 : Int32) (v3 : Int32) (v4 : Int32) (μ : JMem) (r : Bool) (μ9 : JMem), g_B_ratio B v0 v1 v2 v3 v4 μ = some (r, μ9) → jR B SA d m_B_ratio 0 (lv_args 0 [.ref v0, .int v1, .int v2, .int v3, .int v4]) [] μ (some (.int (jb r))) μ9 := by
  intro v0 v1 v2 v3 v4 μ r μ9 h
  exact r_B_ratio_e hd (lv_args 0 _) _ _ _ _ _ _ _ _ (by simp [lv_args, jget, rv_cat, cat_int, cat_long, cat_double, cat_float, cat_ref]) (by simp [lv_args, jget, rv_cat, cat_int, cat_long, cat_double, cat_float, cat_ref]) (by simp [lv_args, jget, rv_cat, cat_int, cat_long, cat_double, cat_float, cat_ref]) (by simp [lv_args, jget, rv_cat, cat_int, cat_long, cat_double, cat_float, cat_ref]) (by simp [lv_args, jget, rv_cat, cat_int, cat_long, cat_double, cat_float, cat_ref]) h
/-! FilterBench.rule(III)Z -/
set_option maxRecDepth 10000 in
set_option maxHeartbeats 4000000 in
theorem r_B_rule_e {B : Nat} {SA : Nat → Nat} {d : Nat} (hd : 1 ≤ d) : ∀ (L : JLoc) (v0 : Nat) (v1 : Int32) (v2 : Int32) (v3 : Int32) (μ : JMem) (r : Bool) (μ9 : JMem), jget L 0 = .ref v0 → jget L 1 = .int v1 → jget L 2 = .int v2 → jget L 3 = .int v3 → g_B_rule B v0 v1 v2 v3 μ = some (r, μ9) → jR B SA d m_B_rule 0 L [] μ (some (.int (jb r))) μ9 := by
  intro L v0 v1 v2 v3 μ r μ9 hl0 hl1 hl2 hl3 h
  unfold g_B_rule at h
  refine jr_aload_n jf_36_0 rfl hl0 ?_
  refine jr_iload_n jf_36_1 rfl hl1 ?_
  replace h := jgd_of h; obtain ⟨hb1, h⟩ := h
  replace h := obd_of h; obtain ⟨x2, hx2, h⟩ := h
  refine jr_V6_1 jf_36_2 hb1 (by omega) (r_B_sectionAt (by omega) _ _ _ _ hx2) (Nat.le_of_ble_eq_true rfl) jml_13 (Nat.le_of_ble_eq_true rfl) ?_
  refine jr_astore_A jf_36_5 jml_36 (by decide) ?_
  refine jr_aload_A jf_36_7 jg1_same ?_
  replace h := jon_or h; rcases h with ⟨rfl, h⟩ | ⟨a3, rfl, h⟩
  · refine jr_ifnull_n jf_36_9 ?_
    refine jr_iconst jf_36_21 jc_i_0 ?_
    obtain ⟨rfl, rfl⟩ := Prod.mk.inj (Option.some.inj h)
    exact jr_retZ (x := false) jf_36_22 jmt_36
  · refine jr_ifnull_s jf_36_9 ?_
    refine jr_aload jf_36_12 jg1_same ?_
    replace h := obd_of h; obtain ⟨x4, hx4, h⟩ := h
    refine jr_getI jf_36_14 hx4 ?_
    refine jr_iconst jf_36_17 jc_i_2 ?_
    replace h := ite_or h; rcases h with ⟨hc, h⟩ | ⟨hc, h⟩
    · refine jr_if2_eq_t jf_36_18 hc ?_
      refine jr_iload_n jf_36_23 rfl (jg1_ne rfl hl2) ?_
      replace h := ite_or h; rcases h with ⟨hc, h⟩ | ⟨hc, h⟩
      · refine jr_if_lt_t jf_36_24 hc ?_
        refine jr_iconst jf_36_41 jc_i_0 ?_
        obtain ⟨rfl, rfl⟩ := Prod.mk.inj (Option.some.inj h)
        exact jr_retZ (x := false) jf_36_42 jmt_36
      · refine jr_if_lt_f jf_36_24 hc ?_
        refine jr_iload_n jf_36_27 rfl (jg1_ne rfl hl2) ?_
        refine jr_iconst jf_36_28 jc_i_2 ?_
        replace h := ite_or h; rcases h with ⟨hc, h⟩ | ⟨hc, h⟩
        · refine jr_if2_gt_t jf_36_29 hc ?_
          refine jr_iconst jf_36_41 jc_i_0 ?_
          obtain ⟨rfl, rfl⟩ := Prod.mk.inj (Option.some.inj h)
          exact jr_retZ (x := false) jf_36_42 jmt_36
        · refine jr_if2_gt_f jf_36_29 hc ?_
          refine jr_iload_n jf_36_32 rfl (jg1_pre rfl hl3) ?_
          replace h := ite_or h; rcases h with ⟨hc, h⟩ | ⟨hc, h⟩
          · refine jr_if_lt_t jf_36_33 hc ?_
            refine jr_iconst jf_36_41 jc_i_0 ?_
            obtain ⟨rfl, rfl⟩ := Prod.mk.inj (Option.some.inj h)
            exact jr_retZ (x := false) jf_36_42 jmt_36
          · refine jr_if_lt_f jf_36_33 hc ?_
            refine jr_iload_n jf_36_36 rfl (jg1_pre rfl hl3) ?_
            refine jr_iconst jf_36_37 jc_i_1 ?_
            replace h := ite_or h; rcases h with ⟨hc, h⟩ | ⟨hc, h⟩
            · refine jr_if2_le_t jf_36_38 hc ?_
              refine jr_aload jf_36_43 jg1_same ?_
              refine jr_iload_n jf_36_45 rfl (jg1_ne rfl hl2) ?_
              replace h := obd_of h; obtain ⟨μ5, hμ5, h⟩ := h
              refine jr_putI jf_36_46 rfl hμ5 ?_
              refine jr_aload jf_36_49 jg1_same ?_
              refine jr_iload_n jf_36_51 rfl (jg1_pre rfl hl3) ?_
              replace h := obd_of h; obtain ⟨μ6, hμ6, h⟩ := h
              refine jr_putI jf_36_52 rfl hμ6 ?_
              refine jr_iconst jf_36_55 jc_i_1 ?_
              obtain ⟨rfl, rfl⟩ := Prod.mk.inj (Option.some.inj h)
              exact jr_retZ (x := true) jf_36_56 jmt_36
            · refine jr_if2_le_f jf_36_38 hc ?_
              refine jr_iconst jf_36_41 jc_i_0 ?_
              obtain ⟨rfl, rfl⟩ := Prod.mk.inj (Option.some.inj h)
              exact jr_retZ (x := false) jf_36_42 jmt_36
    · refine jr_if2_eq_f jf_36_18 hc ?_
      refine jr_iconst jf_36_21 jc_i_0 ?_
      obtain ⟨rfl, rfl⟩ := Prod.mk.inj (Option.some.inj h)
      exact jr_retZ (x := false) jf_36_22 jmt_36
set_option maxRecDepth 10000 in
set_option maxHeartbeats 4000000 in
theorem r_B_rule {B : Nat} {SA : Nat → Nat} {d : Nat} (hd : 1 ≤ d) : ∀ (v0 : Nat) (v1 : Int32) (v2 : Int32) (v3 : Int32) (μ : JMem) (r : Bool) (μ9 : JMem), g_B_rule B v0 v1 v2 v3 μ = some (r, μ9) → jR B SA d m_B_rule 0 (lv_args 0 [.ref v0, .int v1, .int v2, .int v3]) [] μ (some (.int (jb r))) μ9 := by
  intro v0 v1 v2 v3 μ r μ9 h
  exact r_B_rule_e hd (lv_args 0 _) _ _ _ _ _ _ _ (by simp [lv_args, jget, rv_cat, cat_int, cat_long, cat_double, cat_float, cat_ref]) (by simp [lv_args, jget, rv_cat, cat_int, cat_long, cat_double, cat_float, cat_ref]) (by simp [lv_args, jget, rv_cat, cat_int, cat_long, cat_double, cat_float, cat_ref]) (by simp [lv_args, jget, rv_cat, cat_int, cat_long, cat_double, cat_float, cat_ref]) h
/-! FilterBench$Row.index(I)I -/
set_option maxRecDepth 10000 in
set_option maxHeartbeats 4000000 in
theorem r_Row_index_e {B : Nat} {SA : Nat → Nat} {d : Nat} (hd : 0 ≤ d) : ∀ (L : JLoc) (v0 : Nat) (v1 : Int32) (μ : JMem) (r : Int32), jget L 0 = .ref v0 → jget L 1 = .int v1 → g_Row_index v0 v1 μ.1 = some r → jR B SA d m_Row_index 0 L [] μ (some (.int r)) μ := by
  intro L v0 v1 μ r hl0 hl1 h
  unfold g_Row_index at h
  refine jr_aload_n jf_39_0 rfl hl0 ?_
  replace h := obd_of h; obtain ⟨x1, hx1, h⟩ := h
  refine jr_getI jf_39_1 hx1 ?_
  refine jr_iload_n jf_39_4 rfl hl1 ?_
  refine jr_iadd jf_39_5 ?_
  refine jr_istore_n jf_39_6 rfl jml_39 (by decide) ?_
  refine jr_iload_n jf_39_7 rfl jg1_same ?_
  refine jr_aload_n jf_39_8 rfl (jg1_ne rfl hl0) ?_
  replace h := obd_of h; obtain ⟨x2, hx2, h⟩ := h
  refine jr_getA jf_39_9 hx2 ?_
  replace h := obd_of h; obtain ⟨a3, rfl, h⟩ := h
  replace h := obd_of h; obtain ⟨x4, hx4, h⟩ := h
  refine jr_arraylength jf_39_12 hx4 ?_
  replace h := ite_or h; rcases h with ⟨hc, h⟩ | ⟨hc, h⟩
  · refine jr_if2_lt_t jf_39_13 hc ?_
    refine jr_iload_n jf_39_26 rfl jg1_same ?_
    obtain rfl := Option.some.inj h
    exact jr_retI jf_39_27 jmt_39
  · refine jr_if2_lt_f jf_39_13 hc ?_
    refine jr_iload_n jf_39_16 rfl jg1_same ?_
    refine jr_aload_n jf_39_17 rfl (jg1_ne rfl hl0) ?_
    replace h := obd_of h; obtain ⟨x5, hx5, h⟩ := h
    refine jr_getA jf_39_18 hx5 ?_
    replace h := obd_of h; obtain ⟨a6, rfl, h⟩ := h
    replace h := obd_of h; obtain ⟨x7, hx7, h⟩ := h
    refine jr_arraylength jf_39_21 hx7 ?_
    refine jr_isub jf_39_22 ?_
    refine jr_goto jf_39_23 ?_
    obtain rfl := Option.some.inj h
    exact jr_retI jf_39_27 jmt_39
set_option maxRecDepth 10000 in
set_option maxHeartbeats 4000000 in
theorem r_Row_index {B : Nat} {SA : Nat → Nat} {d : Nat} (hd : 0 ≤ d) : ∀ (v0 : Nat) (v1 : Int32) (μ : JMem) (r : Int32), g_Row_index v0 v1 μ.1 = some r → jR B SA d m_Row_index 0 (lv_args 0 [.ref v0, .int v1]) [] μ (some (.int r)) μ := by
  intro v0 v1 μ r h
  exact r_Row_index_e hd (lv_args 0 _) _ _ _ _ (by simp [lv_args, jget, rv_cat, cat_int, cat_long, cat_double, cat_float, cat_ref]) (by simp [lv_args, jget, rv_cat, cat_int, cat_long, cat_double, cat_float, cat_ref]) h
/-! FilterBench$Row.at(I)J -/
set_option maxRecDepth 10000 in
set_option maxHeartbeats 4000000 in
theorem r_Row_at_13 {B : Nat} {SA : Nat → Nat} {d : Nat} (hd : 1 ≤ d) : ∀ (L : JLoc) (μ : JMem) (r : Int64), g_Row_at_13 μ.1 = some r → jR B SA d m_Row_at 13 L [] μ (some (.long r)) μ := by
  intro L μ r h
  unfold g_Row_at_13 at h
  refine jr_lconst0 jf_38_13 ?_
  refine jr_goto jf_38_14 ?_
  obtain rfl := Option.some.inj h
  exact jr_retJ jf_38_27 jmt_38
set_option maxRecDepth 10000 in
set_option maxHeartbeats 4000000 in
theorem r_Row_at_e {B : Nat} {SA : Nat → Nat} {d : Nat} (hd : 1 ≤ d) : ∀ (L : JLoc) (v0 : Nat) (v1 : Int32) (μ : JMem) (r : Int64), jget L 0 = .ref v0 → jget L 1 = .int v1 → g_Row_at v0 v1 μ.1 = some r → jR B SA d m_Row_at 0 L [] μ (some (.long r)) μ := by
  intro L v0 v1 μ r hl0 hl1 h
  unfold g_Row_at at h
  refine jr_iload_n jf_38_0 rfl hl1 ?_
  replace h := ite_or h; rcases h with ⟨hc, h⟩ | ⟨hc, h⟩
  · refine jr_if_lt_t jf_38_1 hc ?_
    exact r_Row_at_13 hd _  _ _ h
  · refine jr_if_lt_f jf_38_1 hc ?_
    refine jr_iload_n jf_38_4 rfl hl1 ?_
    refine jr_aload_n jf_38_5 rfl hl0 ?_
    replace h := obd_of h; obtain ⟨x1, hx1, h⟩ := h
    refine jr_getA jf_38_6 hx1 ?_
    replace h := obd_of h; obtain ⟨a2, rfl, h⟩ := h
    replace h := obd_of h; obtain ⟨x3, hx3, h⟩ := h
    refine jr_arraylength jf_38_9 hx3 ?_
    replace h := ite_or h; rcases h with ⟨hc, h⟩ | ⟨hc, h⟩
    · refine jr_if2_lt_t jf_38_10 hc ?_
      refine jr_aload_n jf_38_17 rfl hl0 ?_
      replace h := obd_of h; obtain ⟨x4, hx4, h⟩ := h
      refine jr_getA jf_38_18 hx4 ?_
      refine jr_aload_n jf_38_21 rfl hl0 ?_
      refine jr_iload_n jf_38_22 rfl hl1 ?_
      replace h := jgd_of h; obtain ⟨hb5, h⟩ := h
      replace h := obd_of h; obtain ⟨x6, hx6, h⟩ := h
      refine jr_V6_1 jf_38_23 hb5 (by omega) (r_Row_index (by omega) _ _ _ _ hx6) (by simp only [jcats_cons, jcats_nil, cat_int, cat_long, cat_double, cat_float, cat_ref, rv_cat]; decide) jml_39 (Nat.le_of_ble_eq_true rfl) ?_
      replace h := obd_of h; obtain ⟨a7, rfl, h⟩ := h
      replace h := obd_of h; obtain ⟨x8, hx8, h⟩ := h
      refine jr_laload jf_38_26 hx8 ?_
      obtain rfl := Option.some.inj h
      exact jr_retJ jf_38_27 jmt_38
    · refine jr_if2_lt_f jf_38_10 hc ?_
      exact r_Row_at_13 hd _  _ _ h
set_option maxRecDepth 10000 in
set_option maxHeartbeats 4000000 in
theorem r_Row_at {B : Nat} {SA : Nat → Nat} {d : Nat} (hd : 1 ≤ d) : ∀ (v0 : Nat) (v1 : Int32) (μ : JMem) (r : Int64), g_Row_at v0 v1 μ.1 = some r → jR B SA d m_Row_at 0 (lv_args 0 [.ref v0, .int v1]) [] μ (some (.long r)) μ := by
  intro v0 v1 μ r h
  exact r_Row_at_e hd (lv_args 0 _) _ _ _ _ (by simp [lv_args, jget, rv_cat, cat_int, cat_long, cat_double, cat_float, cat_ref]) (by simp [lv_args, jget, rv_cat, cat_int, cat_long, cat_double, cat_float, cat_ref]) h
/-! FilterBench.state(II)J -/
set_option maxRecDepth 10000 in
set_option maxHeartbeats 4000000 in
theorem r_B_state_e {B : Nat} {SA : Nat → Nat} {d : Nat} (hd : 2 ≤ d) : ∀ (L : JLoc) (v0 : Nat) (v1 : Int32) (v2 : Int32) (μ : JMem) (r : Int64), jget L 0 = .ref v0 → jget L 1 = .int v1 → jget L 2 = .int v2 → g_B_state v0 v1 v2 μ.1 = some r → jR B SA d m_B_state 0 L [] μ (some (.long r)) μ := by
  intro L v0 v1 v2 μ r hl0 hl1 hl2 h
  unfold g_B_state at h
  refine jr_aload_n jf_37_0 rfl hl0 ?_
  refine jr_iload_n jf_37_1 rfl hl1 ?_
  replace h := jgd_of h; obtain ⟨hb1, h⟩ := h
  replace h := obd_of h; obtain ⟨x2, hx2, h⟩ := h
  refine jr_V6_1 jf_37_2 hb1 (by omega) (r_B_sectionAt (by omega) _ _ _ _ hx2) (Nat.le_of_ble_eq_true rfl) jml_13 (Nat.le_of_ble_eq_true rfl) ?_
  refine jr_astore_n_A jf_37_5 rfl jml_37 (by decide) ?_
  refine jr_aload_n_A jf_37_6 rfl jg1_same ?_
  replace h := jon_or h; rcases h with ⟨rfl, h⟩ | ⟨a3, rfl, h⟩
  · refine jr_ifnonnull_n jf_37_7 ?_
    refine jr_lconst0 jf_37_10 ?_
    obtain rfl := Option.some.inj h
    exact jr_retJ jf_37_11 jmt_37
  · refine jr_ifnonnull_s jf_37_7 ?_
    refine jr_iload_n jf_37_12 rfl (jg1_pre rfl hl2) ?_
    refine jr_bipush jf_37_13 jc_b_100 ?_
    replace h := ite_or h; rcases h with ⟨hc, h⟩ | ⟨hc, h⟩
    · refine jr_if2_ne_f jf_37_15 hc ?_
      refine jr_aload_n jf_37_18 rfl jg1_same ?_
      replace h := obd_of h; obtain ⟨x4, hx4, h⟩ := h
      refine jr_getA jf_37_19 hx4 ?_
      refine jr_iconst jf_37_22 jc_i_0 ?_
      replace h := obd_of h; obtain ⟨a5, rfl, h⟩ := h
      replace h := jgd_of h; obtain ⟨hb6, h⟩ := h
      replace h := obd_of h; obtain ⟨x7, hx7, h⟩ := h
      refine jr_V6_1 jf_37_23 hb6 (by omega) (r_Row_at (by omega) _ _ _ _ hx7) (Nat.le_of_ble_eq_true rfl) jml_38 (Nat.le_of_ble_eq_true rfl) ?_
      refine jr_goto jf_37_26 ?_
      obtain rfl := Option.some.inj h
      exact jr_retJ jf_37_37 jmt_37
    · refine jr_if2_ne_t jf_37_15 hc ?_
      refine jr_aload_n jf_37_29 rfl jg1_same ?_
      replace h := obd_of h; obtain ⟨x8, hx8, h⟩ := h
      refine jr_getA jf_37_30 hx8 ?_
      refine jr_iload_n jf_37_33 rfl (jg1_pre rfl hl2) ?_
      replace h := obd_of h; obtain ⟨a9, rfl, h⟩ := h
      replace h := jgd_of h; obtain ⟨hb10, h⟩ := h
      replace h := obd_of h; obtain ⟨x11, hx11, h⟩ := h
      refine jr_V6_1 jf_37_34 hb10 (by omega) (r_Row_at (by omega) _ _ _ _ hx11) (Nat.le_of_ble_eq_true rfl) jml_38 (Nat.le_of_ble_eq_true rfl) ?_
      obtain rfl := Option.some.inj h
      exact jr_retJ jf_37_37 jmt_37
set_option maxRecDepth 10000 in
set_option maxHeartbeats 4000000 in
theorem r_B_state {B : Nat} {SA : Nat → Nat} {d : Nat} (hd : 2 ≤ d) : ∀ (v0 : Nat) (v1 : Int32) (v2 : Int32) (μ : JMem) (r : Int64), g_B_state v0 v1 v2 μ.1 = some r → jR B SA d m_B_state 0 (lv_args 0 [.ref v0, .int v1, .int v2]) [] μ (some (.long r)) μ := by
  intro v0 v1 v2 μ r h
  exact r_B_state_e hd (lv_args 0 _) _ _ _ _ _ (by simp [lv_args, jget, rv_cat, cat_int, cat_long, cat_double, cat_float, cat_ref]) (by simp [lv_args, jget, rv_cat, cat_int, cat_long, cat_double, cat_float, cat_ref]) (by simp [lv_args, jget, rv_cat, cat_int, cat_long, cat_double, cat_float, cat_ref]) h
/-! FilterBench.numberOf(LFilterBench$Chain;)I -/
set_option maxRecDepth 10000 in
set_option maxHeartbeats 4000000 in
theorem r_B_numberOf_e {B : Nat} {SA : Nat → Nat} {d : Nat} (hd : 0 ≤ d) : ∀ (L : JLoc) (v0 : Option Nat) (μ : JMem) (r : Int32), jget L 0 = rv v0 → g_B_numberOf v0 μ.1 = some r → jR B SA d m_B_numberOf 0 L [] μ (some (.int r)) μ := by
  intro L v0 μ r hl0 h
  unfold g_B_numberOf at h
  refine jr_aload_n_A jf_41_0 rfl hl0 ?_
  replace h := jon_or h; rcases h with ⟨rfl, h⟩ | ⟨a1, rfl, h⟩
  · refine jr_ifnonnull_n jf_41_1 ?_
    refine jr_iconst jf_41_4 jc_i_m1 ?_
    refine jr_goto jf_41_5 ?_
    obtain rfl := Option.some.inj h
    exact jr_retI jf_41_12 jmt_41
  · refine jr_ifnonnull_s jf_41_1 ?_
    refine jr_aload_n jf_41_8 rfl hl0 ?_
    replace h := obd_of h; obtain ⟨x2, hx2, h⟩ := h
    refine jr_getI jf_41_9 hx2 ?_
    obtain rfl := Option.some.inj h
    exact jr_retI jf_41_12 jmt_41
set_option maxRecDepth 10000 in
set_option maxHeartbeats 4000000 in
theorem r_B_numberOf {B : Nat} {SA : Nat → Nat} {d : Nat} (hd : 0 ≤ d) : ∀ (v0 : Option Nat) (μ : JMem) (r : Int32), g_B_numberOf v0 μ.1 = some r → jR B SA d m_B_numberOf 0 (lv_args 0 [rv v0]) [] μ (some (.int r)) μ := by
  intro v0 μ r h
  exact r_B_numberOf_e hd (lv_args 0 _) _ _ _ (by simp [lv_args, jget, rv_cat, cat_int, cat_long, cat_double, cat_float, cat_ref]) h
/-! FilterBench.about(II)I -/
set_option maxRecDepth 10000 in
set_option maxHeartbeats 4000000 in
theorem r_B_about_e {B : Nat} {SA : Nat → Nat} {d : Nat} (hd : 1 ≤ d) : ∀ (L : JLoc) (v0 : Nat) (v1 : Int32) (v2 : Int32) (μ : JMem) (r : Int32), jget L 0 = .ref v0 → jget L 1 = .int v1 → jget L 2 = .int v2 → g_B_about v0 v1 v2 μ.1 = some r → jR B SA d m_B_about 0 L [] μ (some (.int r)) μ := by
  intro L v0 v1 v2 μ r hl0 hl1 hl2 h
  unfold g_B_about at h
  refine jr_aload_n jf_40_0 rfl hl0 ?_
  refine jr_iload_n jf_40_1 rfl hl1 ?_
  replace h := jgd_of h; obtain ⟨hb1, h⟩ := h
  replace h := obd_of h; obtain ⟨x2, hx2, h⟩ := h
  refine jr_V6_1 jf_40_2 hb1 (by omega) (r_B_sectionAt (by omega) _ _ _ _ hx2) (Nat.le_of_ble_eq_true rfl) jml_13 (Nat.le_of_ble_eq_true rfl) ?_
  refine jr_astore_n_A jf_40_5 rfl jml_40 (by decide) ?_
  refine jr_aload_n_A jf_40_6 rfl jg1_same ?_
  replace h := jon_or h; rcases h with ⟨rfl, h⟩ | ⟨a3, rfl, h⟩
  · refine jr_ifnonnull_n jf_40_7 ?_
    refine jr_iconst jf_40_10 jc_i_m1 ?_
    obtain rfl := Option.some.inj h
    exact jr_retI jf_40_11 jmt_40
  · refine jr_ifnonnull_s jf_40_7 ?_
    refine jr_iload_n jf_40_12 rfl (jg1_pre rfl hl2) ?_
    refine jr_switch jf_40_13 ?_
    replace h := ite_or h; rcases h with ⟨hc, h⟩ | ⟨hc, h⟩
    · refine jsw_hit (by decide) hc ?_
      refine jr_aload_n jf_40_68 rfl jg1_same ?_
      replace h := obd_of h; obtain ⟨x4, hx4, h⟩ := h
      refine jr_getI jf_40_69 hx4 ?_
      obtain rfl := Option.some.inj h
      exact jr_retI jf_40_72 jmt_40
    · refine jsw_miss (by decide) hc (by decide : (0 : Int) + 1 = 1) ?_
      replace h := ite_or h; rcases h with ⟨hc, h⟩ | ⟨hc, h⟩
      · refine jsw_hit (by decide) hc ?_
        refine jr_aload_n jf_40_73 rfl jg1_same ?_
        replace h := obd_of h; obtain ⟨x5, hx5, h⟩ := h
        refine jr_getI jf_40_74 hx5 ?_
        obtain rfl := Option.some.inj h
        exact jr_retI jf_40_77 jmt_40
      · refine jsw_miss (by decide) hc (by decide : (1 : Int) + 1 = 2) ?_
        replace h := ite_or h; rcases h with ⟨hc, h⟩ | ⟨hc, h⟩
        · refine jsw_hit (by decide) hc ?_
          refine jr_aload_n jf_40_78 rfl jg1_same ?_
          replace h := obd_of h; obtain ⟨x6, hx6, h⟩ := h
          refine jr_getI jf_40_79 hx6 ?_
          obtain rfl := Option.some.inj h
          exact jr_retI jf_40_82 jmt_40
        · refine jsw_miss (by decide) hc (by decide : (2 : Int) + 1 = 3) ?_
          replace h := ite_or h; rcases h with ⟨hc, h⟩ | ⟨hc, h⟩
          · refine jsw_hit (by decide) hc ?_
            refine jr_aload_n jf_40_83 rfl jg1_same ?_
            replace h := obd_of h; obtain ⟨x7, hx7, h⟩ := h
            refine jr_getA jf_40_84 hx7 ?_
            replace h := obd_of h; obtain ⟨x8, hx8, h⟩ := h
            refine jr_S3_1 jf_40_87 (by omega) (r_B_numberOf (by omega) _ _ _ hx8) (Nat.le_of_ble_eq_true rfl) jml_41 (by simp only [jcats_cons, jcats_nil, cat_int, cat_long, cat_double, cat_float, cat_ref, rv_cat]; decide) ?_
            obtain rfl := Option.some.inj h
            exact jr_retI jf_40_90 jmt_40
          · refine jsw_miss (by decide) hc (by decide : (3 : Int) + 1 = 4) ?_
            replace h := ite_or h; rcases h with ⟨hc, h⟩ | ⟨hc, h⟩
            · refine jsw_hit (by decide) hc ?_
              refine jr_aload_n jf_40_91 rfl jg1_same ?_
              replace h := obd_of h; obtain ⟨x9, hx9, h⟩ := h
              refine jr_getI jf_40_92 hx9 ?_
              obtain rfl := Option.some.inj h
              exact jr_retI jf_40_95 jmt_40
            · refine jsw_miss (by decide) hc (by decide : (4 : Int) + 1 = 5) ?_
              replace h := ite_or h; rcases h with ⟨hc, h⟩ | ⟨hc, h⟩
              · refine jsw_hit (by decide) hc ?_
                refine jr_aload_n jf_40_96 rfl jg1_same ?_
                replace h := obd_of h; obtain ⟨x10, hx10, h⟩ := h
                refine jr_getI jf_40_97 hx10 ?_
                obtain rfl := Option.some.inj h
                exact jr_retI jf_40_100 jmt_40
              · refine jsw_miss (by decide) hc (by decide : (5 : Int) + 1 = 6) ?_
                replace h := ite_or h; rcases h with ⟨hc, h⟩ | ⟨hc, h⟩
                · refine jsw_hit (by decide) hc ?_
                  refine jr_aload_n jf_40_101 rfl jg1_same ?_
                  replace h := obd_of h; obtain ⟨x11, hx11, h⟩ := h
                  refine jr_getI jf_40_102 hx11 ?_
                  obtain rfl := Option.some.inj h
                  exact jr_retI jf_40_105 jmt_40
                · refine jsw_miss (by decide) hc (by decide : (6 : Int) + 1 = 7) ?_
                  replace h := ite_or h; rcases h with ⟨hc, h⟩ | ⟨hc, h⟩
                  · refine jsw_hit (by decide) hc ?_
                    refine jr_aload_n jf_40_106 rfl jg1_same ?_
                    replace h := obd_of h; obtain ⟨x12, hx12, h⟩ := h
                    refine jr_getA jf_40_107 hx12 ?_
                    replace h := obd_of h; obtain ⟨x13, hx13, h⟩ := h
                    refine jr_S3_1 jf_40_110 (by omega) (r_B_numberOf (by omega) _ _ _ hx13) (Nat.le_of_ble_eq_true rfl) jml_41 (by simp only [jcats_cons, jcats_nil, cat_int, cat_long, cat_double, cat_float, cat_ref, rv_cat]; decide) ?_
                    obtain rfl := Option.some.inj h
                    exact jr_retI jf_40_113 jmt_40
                  · refine jsw_miss (by decide) hc (by decide : (7 : Int) + 1 = 8) ?_
                    replace h := ite_or h; rcases h with ⟨hc, h⟩ | ⟨hc, h⟩
                    · refine jsw_hit (by decide) hc ?_
                      refine jr_aload_n jf_40_114 rfl jg1_same ?_
                      replace h := obd_of h; obtain ⟨x14, hx14, h⟩ := h
                      refine jr_getI jf_40_115 hx14 ?_
                      obtain rfl := Option.some.inj h
                      exact jr_retI jf_40_118 jmt_40
                    · refine jsw_miss (by decide) hc (by decide : (8 : Int) + 1 = 9) ?_
                      replace h := ite_or h; rcases h with ⟨hc, h⟩ | ⟨hc, h⟩
                      · refine jsw_hit (by decide) hc ?_
                        refine jr_aload_n jf_40_119 rfl jg1_same ?_
                        replace h := obd_of h; obtain ⟨x15, hx15, h⟩ := h
                        refine jr_getI jf_40_120 hx15 ?_
                        obtain rfl := Option.some.inj h
                        exact jr_retI jf_40_123 jmt_40
                      · refine jsw_miss (by decide) hc (by decide : (9 : Int) + 1 = 10) ?_
                        refine jsw_end ?_
                        refine jr_iconst jf_40_124 jc_i_m1 ?_
                        obtain rfl := Option.some.inj h
                        exact jr_retI jf_40_125 jmt_40
set_option maxRecDepth 10000 in
set_option maxHeartbeats 4000000 in
theorem r_B_about {B : Nat} {SA : Nat → Nat} {d : Nat} (hd : 1 ≤ d) : ∀ (v0 : Nat) (v1 : Int32) (v2 : Int32) (μ : JMem) (r : Int32), g_B_about v0 v1 v2 μ.1 = some r → jR B SA d m_B_about 0 (lv_args 0 [.ref v0, .int v1, .int v2]) [] μ (some (.int r)) μ := by
  intro v0 v1 v2 μ r h
  exact r_B_about_e hd (lv_args 0 _) _ _ _ _ _ (by simp [lv_args, jget, rv_cat, cat_int, cat_long, cat_double, cat_float, cat_ref]) (by simp [lv_args, jget, rv_cat, cat_int, cat_long, cat_double, cat_float, cat_ref]) (by simp [lv_args, jget, rv_cat, cat_int, cat_long, cat_double, cat_float, cat_ref]) h
/-! FilterBench$Section.factor(I)J -/
set_option maxRecDepth 10000 in
set_option maxHeartbeats 4000000 in
theorem r_Section_factor_13 {B : Nat} {SA : Nat → Nat} {d : Nat} (hd : 0 ≤ d) : ∀ (L : JLoc) (μ : JMem) (r : Int64), g_Section_factor_13 μ.1 = some r → jR B SA d m_Section_factor 13 L [] μ (some (.long r)) μ := by
  intro L μ r h
  unfold g_Section_factor_13 at h
  refine jr_lconst0 jf_43_13 ?_
  refine jr_goto jf_43_14 ?_
  obtain rfl := Option.some.inj h
  exact jr_retJ jf_43_23 jmt_43
set_option maxRecDepth 10000 in
set_option maxHeartbeats 4000000 in
theorem r_Section_factor_e {B : Nat} {SA : Nat → Nat} {d : Nat} (hd : 0 ≤ d) : ∀ (L : JLoc) (v0 : Nat) (v1 : Int32) (μ : JMem) (r : Int64), jget L 0 = .ref v0 → jget L 1 = .int v1 → g_Section_factor v0 v1 μ.1 = some r → jR B SA d m_Section_factor 0 L [] μ (some (.long r)) μ := by
  intro L v0 v1 μ r hl0 hl1 h
  unfold g_Section_factor at h
  refine jr_iload_n jf_43_0 rfl hl1 ?_
  replace h := ite_or h; rcases h with ⟨hc, h⟩ | ⟨hc, h⟩
  · refine jr_if_lt_t jf_43_1 hc ?_
    exact r_Section_factor_13 hd _  _ _ h
  · refine jr_if_lt_f jf_43_1 hc ?_
    refine jr_iload_n jf_43_4 rfl hl1 ?_
    refine jr_aload_n jf_43_5 rfl hl0 ?_
    replace h := obd_of h; obtain ⟨x1, hx1, h⟩ := h
    refine jr_getA jf_43_6 hx1 ?_
    replace h := obd_of h; obtain ⟨a2, rfl, h⟩ := h
    replace h := obd_of h; obtain ⟨x3, hx3, h⟩ := h
    refine jr_arraylength jf_43_9 hx3 ?_
    replace h := ite_or h; rcases h with ⟨hc, h⟩ | ⟨hc, h⟩
    · refine jr_if2_lt_t jf_43_10 hc ?_
      refine jr_aload_n jf_43_17 rfl hl0 ?_
      replace h := obd_of h; obtain ⟨x4, hx4, h⟩ := h
      refine jr_getA jf_43_18 hx4 ?_
      refine jr_iload_n jf_43_21 rfl hl1 ?_
      replace h := obd_of h; obtain ⟨a5, rfl, h⟩ := h
      replace h := obd_of h; obtain ⟨x6, hx6, h⟩ := h
      refine jr_laload jf_43_22 hx6 ?_
      obtain rfl := Option.some.inj h
      exact jr_retJ jf_43_23 jmt_43
    · refine jr_if2_lt_f jf_43_10 hc ?_
      exact r_Section_factor_13 hd _  _ _ h
set_option maxRecDepth 10000 in
set_option maxHeartbeats 4000000 in
theorem r_Section_factor {B : Nat} {SA : Nat → Nat} {d : Nat} (hd : 0 ≤ d) : ∀ (v0 : Nat) (v1 : Int32) (μ : JMem) (r : Int64), g_Section_factor v0 v1 μ.1 = some r → jR B SA d m_Section_factor 0 (lv_args 0 [.ref v0, .int v1]) [] μ (some (.long r)) μ := by
  intro v0 v1 μ r h
  exact r_Section_factor_e hd (lv_args 0 _) _ _ _ _ (by simp [lv_args, jget, rv_cat, cat_int, cat_long, cat_double, cat_float, cat_ref]) (by simp [lv_args, jget, rv_cat, cat_int, cat_long, cat_double, cat_float, cat_ref]) h
/-! FilterBench.told(II)J -/
set_option maxRecDepth 10000 in
set_option maxHeartbeats 4000000 in
theorem r_B_told_e {B : Nat} {SA : Nat → Nat} {d : Nat} (hd : 1 ≤ d) : ∀ (L : JLoc) (v0 : Nat) (v1 : Int32) (v2 : Int32) (μ : JMem) (r : Int64), jget L 0 = .ref v0 → jget L 1 = .int v1 → jget L 2 = .int v2 → g_B_told v0 v1 v2 μ.1 = some r → jR B SA d m_B_told 0 L [] μ (some (.long r)) μ := by
  intro L v0 v1 v2 μ r hl0 hl1 hl2 h
  unfold g_B_told at h
  refine jr_aload_n jf_42_0 rfl hl0 ?_
  refine jr_iload_n jf_42_1 rfl hl1 ?_
  replace h := jgd_of h; obtain ⟨hb1, h⟩ := h
  replace h := obd_of h; obtain ⟨x2, hx2, h⟩ := h
  refine jr_V6_1 jf_42_2 hb1 (by omega) (r_B_sectionAt (by omega) _ _ _ _ hx2) (Nat.le_of_ble_eq_true rfl) jml_13 (Nat.le_of_ble_eq_true rfl) ?_
  refine jr_astore_n_A jf_42_5 rfl jml_42 (by decide) ?_
  refine jr_aload_n_A jf_42_6 rfl jg1_same ?_
  replace h := jon_or h; rcases h with ⟨rfl, h⟩ | ⟨a3, rfl, h⟩
  · refine jr_ifnonnull_n jf_42_7 ?_
    refine jr_lconst0 jf_42_10 ?_
    refine jr_goto jf_42_11 ?_
    obtain rfl := Option.some.inj h
    exact jr_retJ jf_42_19 jmt_42
  · refine jr_ifnonnull_s jf_42_7 ?_
    refine jr_aload_n jf_42_14 rfl jg1_same ?_
    refine jr_iload_n jf_42_15 rfl (jg1_pre rfl hl2) ?_
    replace h := jgd_of h; obtain ⟨hb4, h⟩ := h
    replace h := obd_of h; obtain ⟨x5, hx5, h⟩ := h
    refine jr_V6_1 jf_42_16 hb4 (by omega) (r_Section_factor (by omega) _ _ _ _ hx5) (Nat.le_of_ble_eq_true rfl) jml_43 (Nat.le_of_ble_eq_true rfl) ?_
    obtain rfl := Option.some.inj h
    exact jr_retJ jf_42_19 jmt_42
set_option maxRecDepth 10000 in
set_option maxHeartbeats 4000000 in
theorem r_B_told {B : Nat} {SA : Nat → Nat} {d : Nat} (hd : 1 ≤ d) : ∀ (v0 : Nat) (v1 : Int32) (v2 : Int32) (μ : JMem) (r : Int64), g_B_told v0 v1 v2 μ.1 = some r → jR B SA d m_B_told 0 (lv_args 0 [.ref v0, .int v1, .int v2]) [] μ (some (.long r)) μ := by
  intro v0 v1 v2 μ r h
  exact r_B_told_e hd (lv_args 0 _) _ _ _ _ _ (by simp [lv_args, jget, rv_cat, cat_int, cat_long, cat_double, cat_float, cat_ref]) (by simp [lv_args, jget, rv_cat, cat_int, cat_long, cat_double, cat_float, cat_ref]) (by simp [lv_args, jget, rv_cat, cat_int, cat_long, cat_double, cat_float, cat_ref]) h
/-! FilterBench.registered(LFilterBench$Chain;)I -/
set_option maxRecDepth 10000 in
set_option maxHeartbeats 4000000 in
theorem r_B_registered_e {B : Nat} {SA : Nat → Nat} {d : Nat} (hd : 0 ≤ d) : ∀ (L : JLoc) (v0 : Nat) (v1 : Option Nat) (μ : JMem) (r : Int32) (μ9 : JMem), jget L 0 = .ref v0 → jget L 1 = rv v1 → g_B_registered B v0 v1 μ = some (r, μ9) → jR B SA d m_B_registered 0 L [] μ (some (.int r)) μ9 := by
  intro L v0 v1 μ r μ9 hl0 hl1 h
  unfold g_B_registered at h
  refine jr_aload_n jf_46_0 rfl hl0 ?_
  replace h := obd_of h; obtain ⟨x1, hx1, h⟩ := h
  refine jr_getI jf_46_1 hx1 ?_
  replace h := ite_or h; rcases h with ⟨hc, h⟩ | ⟨hc, h⟩
  · refine jr_if_lt_t jf_46_4 hc ?_
    refine jr_iconst jf_46_19 jc_i_m1 ?_
    obtain ⟨rfl, rfl⟩ := Prod.mk.inj (Option.some.inj h)
    exact jr_retI jf_46_20 jmt_46
  · refine jr_if_lt_f jf_46_4 hc ?_
    refine jr_aload_n jf_46_7 rfl hl0 ?_
    replace h := obd_of h; obtain ⟨x2, hx2, h⟩ := h
    refine jr_getI jf_46_8 hx2 ?_
    refine jr_aload_n jf_46_11 rfl hl0 ?_
    replace h := obd_of h; obtain ⟨x3, hx3, h⟩ := h
    refine jr_getA jf_46_12 hx3 ?_
    replace h := obd_of h; obtain ⟨a4, rfl, h⟩ := h
    replace h := obd_of h; obtain ⟨x5, hx5, h⟩ := h
    refine jr_arraylength jf_46_15 hx5 ?_
    replace h := ite_or h; rcases h with ⟨hc, h⟩ | ⟨hc, h⟩
    · refine jr_if2_lt_t jf_46_16 hc ?_
      refine jr_aload_n_A jf_46_21 rfl hl1 ?_
      refine jr_aload_n jf_46_22 rfl hl0 ?_
      replace h := obd_of h; obtain ⟨x6, hx6, h⟩ := h
      refine jr_getI jf_46_23 hx6 ?_
      replace h := obd_of h; obtain ⟨a7, rfl, h⟩ := h
      replace h := obd_of h; obtain ⟨μ8, hμ8, h⟩ := h
      refine jr_putI jf_46_26 rfl hμ8 ?_
      refine jr_aload_n jf_46_29 rfl hl0 ?_
      replace h := obd_of h; obtain ⟨x9, hx9, h⟩ := h
      refine jr_getA jf_46_30 hx9 ?_
      refine jr_aload_n jf_46_33 rfl hl0 ?_
      replace h := obd_of h; obtain ⟨x10, hx10, h⟩ := h
      refine jr_getI jf_46_34 hx10 ?_
      refine jr_aload_n jf_46_37 rfl hl1 ?_
      replace h := obd_of h; obtain ⟨a11, rfl, h⟩ := h
      replace h := obd_of h; obtain ⟨μ12, hμ12, h⟩ := h
      refine jr_aastore jf_46_38 hμ12 ?_
      refine jr_aload_n jf_46_39 rfl hl0 ?_
      refine jr_dup jf_46_40 rfl ?_
      replace h := obd_of h; obtain ⟨x13, hx13, h⟩ := h
      refine jr_getI jf_46_41 hx13 ?_
      refine jr_iconst jf_46_44 jc_i_1 ?_
      refine jr_iadd jf_46_45 ?_
      replace h := obd_of h; obtain ⟨μ14, hμ14, h⟩ := h
      refine jr_putI jf_46_46 rfl hμ14 ?_
      refine jr_aload_n jf_46_49 rfl hl1 ?_
      replace h := obd_of h; obtain ⟨x15, hx15, h⟩ := h
      refine jr_getI jf_46_50 hx15 ?_
      obtain ⟨rfl, rfl⟩ := Prod.mk.inj (Option.some.inj h)
      exact jr_retI jf_46_53 jmt_46
    · refine jr_if2_lt_f jf_46_16 hc ?_
      refine jr_iconst jf_46_19 jc_i_m1 ?_
      obtain ⟨rfl, rfl⟩ := Prod.mk.inj (Option.some.inj h)
      exact jr_retI jf_46_20 jmt_46
set_option maxRecDepth 10000 in
set_option maxHeartbeats 4000000 in
theorem r_B_registered {B : Nat} {SA : Nat → Nat} {d : Nat} (hd : 0 ≤ d) : ∀ (v0 : Nat) (v1 : Option Nat) (μ : JMem) (r : Int32) (μ9 : JMem), g_B_registered B v0 v1 μ = some (r, μ9) → jR B SA d m_B_registered 0 (lv_args 0 [.ref v0, rv v1]) [] μ (some (.int r)) μ9 := by
  intro v0 v1 μ r μ9 h
  exact r_B_registered_e hd (lv_args 0 _) _ _ _ _ _ (by simp [lv_args, jget, rv_cat, cat_int, cat_long, cat_double, cat_float, cat_ref]) (by simp [lv_args, jget, rv_cat, cat_int, cat_long, cat_double, cat_float, cat_ref]) h
/-! FilterBench$Chain.<init>()V -/
set_option maxRecDepth 10000 in
set_option maxHeartbeats 4000000 in
theorem r_Chain_init_e {B : Nat} {SA : Nat → Nat} {d : Nat} (hd : 1 ≤ d) : ∀ (L : JLoc) (v0 : Nat) (μ : JMem) (μ9 : JMem), jget L 0 = .ref v0 → g_Chain_init B v0 μ = some μ9 → jR B SA d m_Chain_init 0 L [] μ none μ9 := by
  intro L v0 μ μ9 hl0 h
  unfold g_Chain_init at h
  refine jr_aload_n jf_45_0 rfl hl0 ?_
  refine jr_oinit jf_45_1 (by omega) (Nat.le_of_ble_eq_true rfl) ?_
  refine jr_aload_n jf_45_4 rfl hl0 ?_
  refine jr_iconst jf_45_5 jc_i_m1 ?_
  replace h := obd_of h; obtain ⟨μ1, hμ1, h⟩ := h
  refine jr_putI jf_45_6 rfl hμ1 ?_
  refine jr_aload_n jf_45_9 rfl hl0 ?_
  refine jr_bipush jf_45_10 jc_b_10 ?_
  replace h := jbd2_of h; obtain ⟨a2, μ3, ha2, h⟩ := h
  refine jr_anewarray jf_45_12 ha2 ?_
  replace h := obd_of h; obtain ⟨μ4, hμ4, h⟩ := h
  refine jr_putA (x := some _) jf_45_15 rfl hμ4 ?_
  refine jr_aload_n jf_45_18 rfl hl0 ?_
  refine jr_iconst jf_45_19 jc_i_3 ?_
  replace h := jbd2_of h; obtain ⟨a5, μ6, ha5, h⟩ := h
  refine jr_anewarray jf_45_20 ha5 ?_
  replace h := obd_of h; obtain ⟨μ7, hμ7, h⟩ := h
  refine jr_putA (x := some _) jf_45_23 rfl hμ7 ?_
  refine jr_aload_n jf_45_26 rfl hl0 ?_
  refine jr_sipush jf_45_27 jc_s_400 ?_
  replace h := jbd2_of h; obtain ⟨a8, μ9, ha8, h⟩ := h
  refine jr_newarray jf_45_30 rfl ha8 ?_
  replace h := obd_of h; obtain ⟨μ10, hμ10, h⟩ := h
  refine jr_putA (x := some _) jf_45_32 rfl hμ10 ?_
  obtain rfl := Option.some.inj h
  exact jr_return jf_45_35 jmt_45
set_option maxRecDepth 10000 in
set_option maxHeartbeats 4000000 in
theorem r_Chain_init {B : Nat} {SA : Nat → Nat} {d : Nat} (hd : 1 ≤ d) : ∀ (v0 : Nat) (μ : JMem) (μ9 : JMem), g_Chain_init B v0 μ = some μ9 → jR B SA d m_Chain_init 0 (lv_args 0 [.ref v0]) [] μ none μ9 := by
  intro v0 μ μ9 h
  exact r_Chain_init_e hd (lv_args 0 _) _ _ _ (by simp [lv_args, jget, rv_cat, cat_int, cat_long, cat_double, cat_float, cat_ref]) h
/-! FilterBench.chain()I -/
set_option maxRecDepth 10000 in
set_option maxHeartbeats 4000000 in
theorem r_B_chain_e {B : Nat} {SA : Nat → Nat} {d : Nat} (hd : 2 ≤ d) : ∀ (L : JLoc) (v0 : Nat) (μ : JMem) (r : Int32) (μ9 : JMem), jget L 0 = .ref v0 → g_B_chain B v0 μ = some (r, μ9) → jR B SA d m_B_chain 0 L [] μ (some (.int r)) μ9 := by
  intro L v0 μ r μ9 hl0 h
  unfold g_B_chain at h
  refine jr_aload_n jf_44_0 rfl hl0 ?_
  replace h := obd_of h; obtain ⟨x1, hx1, h⟩ := h
  refine jr_getI jf_44_1 hx1 ?_
  refine jr_aload_n jf_44_4 rfl hl0 ?_
  replace h := obd_of h; obtain ⟨x2, hx2, h⟩ := h
  refine jr_getA jf_44_5 hx2 ?_
  replace h := obd_of h; obtain ⟨a3, rfl, h⟩ := h
  replace h := obd_of h; obtain ⟨x4, hx4, h⟩ := h
  refine jr_arraylength jf_44_8 hx4 ?_
  replace h := ite_or h; rcases h with ⟨hc, h⟩ | ⟨hc, h⟩
  · refine jr_if2_lt_t jf_44_9 hc ?_
    refine jr_aload_n jf_44_16 rfl hl0 ?_
    replace h := jnew_of h
    refine jr_new jf_44_17 ?_
    refine jr_dup jf_44_20 rfl ?_
    replace h := obd_of h; obtain ⟨μ7, hμ7, h⟩ := h
    refine jr_P2v_0 jf_44_21 (by omega) (r_Chain_init (by omega) _ _ _ hμ7) (Nat.le_of_ble_eq_true rfl) jml_45 (Nat.le_of_ble_eq_true rfl) ?_
    replace h := jgd_of h; obtain ⟨hb8, h⟩ := h
    replace h := jbd2_of h; obtain ⟨x9, μ10, hx9, h⟩ := h
    refine jr_V6_1 jf_44_24 hb8 (by omega) (r_B_registered (by omega) _ _ _ _ _ hx9) (Nat.le_of_ble_eq_true rfl) jml_46 (by simp only [jcats_cons, jcats_nil, cat_int, cat_long, cat_double, cat_float, cat_ref, rv_cat]; decide) ?_
    obtain ⟨rfl, rfl⟩ := Prod.mk.inj (Option.some.inj h)
    exact jr_retI jf_44_27 jmt_44
  · refine jr_if2_lt_f jf_44_9 hc ?_
    refine jr_iconst jf_44_12 jc_i_m1 ?_
    refine jr_goto jf_44_13 ?_
    obtain ⟨rfl, rfl⟩ := Prod.mk.inj (Option.some.inj h)
    exact jr_retI jf_44_27 jmt_44
set_option maxRecDepth 10000 in
set_option maxHeartbeats 4000000 in
theorem r_B_chain {B : Nat} {SA : Nat → Nat} {d : Nat} (hd : 2 ≤ d) : ∀ (v0 : Nat) (μ : JMem) (r : Int32) (μ9 : JMem), g_B_chain B v0 μ = some (r, μ9) → jR B SA d m_B_chain 0 (lv_args 0 [.ref v0]) [] μ (some (.int r)) μ9 := by
  intro v0 μ r μ9 h
  exact r_B_chain_e hd (lv_args 0 _) _ _ _ _ (by simp [lv_args, jget, rv_cat, cat_int, cat_long, cat_double, cat_float, cat_ref]) h
/-! FilterBench.chainAt(I)LFilterBench$Chain; -/
set_option maxRecDepth 10000 in
set_option maxHeartbeats 4000000 in
theorem r_B_chainAt_21 {B : Nat} {SA : Nat → Nat} {d : Nat} (hd : 0 ≤ d) : ∀ (L : JLoc) (μ : JMem) (r : Option Nat), g_B_chainAt_21 μ.1 = some r → jR B SA d m_B_chainAt 21 L [] μ (some (rv r)) μ := by
  intro L μ r h
  unfold g_B_chainAt_21 at h
  refine jr_aconst_null jf_48_21 ?_
  refine jr_goto jf_48_22 ?_
  obtain rfl := Option.some.inj h
  exact jr_retA jf_48_31 jmt_48
set_option maxRecDepth 10000 in
set_option maxHeartbeats 4000000 in
theorem r_B_chainAt_e {B : Nat} {SA : Nat → Nat} {d : Nat} (hd : 0 ≤ d) : ∀ (L : JLoc) (v0 : Nat) (v1 : Int32) (μ : JMem) (r : Option Nat), jget L 0 = .ref v0 → jget L 1 = .int v1 → g_B_chainAt v0 v1 μ.1 = some r → jR B SA d m_B_chainAt 0 L [] μ (some (rv r)) μ := by
  intro L v0 v1 μ r hl0 hl1 h
  unfold g_B_chainAt at h
  refine jr_iload_n jf_48_0 rfl hl1 ?_
  replace h := ite_or h; rcases h with ⟨hc, h⟩ | ⟨hc, h⟩
  · refine jr_if_lt_t jf_48_1 hc ?_
    exact r_B_chainAt_21 hd _  _ _ h
  · refine jr_if_lt_f jf_48_1 hc ?_
    refine jr_iload_n jf_48_4 rfl hl1 ?_
    refine jr_aload_n jf_48_5 rfl hl0 ?_
    replace h := obd_of h; obtain ⟨x1, hx1, h⟩ := h
    refine jr_getI jf_48_6 hx1 ?_
    replace h := ite_or h; rcases h with ⟨hc, h⟩ | ⟨hc, h⟩
    · refine jr_if2_ge_t jf_48_9 hc ?_
      exact r_B_chainAt_21 hd _  _ _ h
    · refine jr_if2_ge_f jf_48_9 hc ?_
      refine jr_iload_n jf_48_12 rfl hl1 ?_
      refine jr_aload_n jf_48_13 rfl hl0 ?_
      replace h := obd_of h; obtain ⟨x2, hx2, h⟩ := h
      refine jr_getA jf_48_14 hx2 ?_
      replace h := obd_of h; obtain ⟨a3, rfl, h⟩ := h
      replace h := obd_of h; obtain ⟨x4, hx4, h⟩ := h
      refine jr_arraylength jf_48_17 hx4 ?_
      replace h := ite_or h; rcases h with ⟨hc, h⟩ | ⟨hc, h⟩
      · refine jr_if2_lt_t jf_48_18 hc ?_
        refine jr_aload_n jf_48_25 rfl hl0 ?_
        replace h := obd_of h; obtain ⟨x5, hx5, h⟩ := h
        refine jr_getA jf_48_26 hx5 ?_
        refine jr_iload_n jf_48_29 rfl hl1 ?_
        replace h := obd_of h; obtain ⟨a6, rfl, h⟩ := h
        replace h := obd_of h; obtain ⟨x7, hx7, h⟩ := h
        refine jr_aaload jf_48_30 hx7 ?_
        obtain rfl := Option.some.inj h
        exact jr_retA jf_48_31 jmt_48
      · refine jr_if2_lt_f jf_48_18 hc ?_
        exact r_B_chainAt_21 hd _  _ _ h
set_option maxRecDepth 10000 in
set_option maxHeartbeats 4000000 in
theorem r_B_chainAt {B : Nat} {SA : Nat → Nat} {d : Nat} (hd : 0 ≤ d) : ∀ (v0 : Nat) (v1 : Int32) (μ : JMem) (r : Option Nat), g_B_chainAt v0 v1 μ.1 = some r → jR B SA d m_B_chainAt 0 (lv_args 0 [.ref v0, .int v1]) [] μ (some (rv r)) μ := by
  intro v0 v1 μ r h
  exact r_B_chainAt_e hd (lv_args 0 _) _ _ _ _ (by simp [lv_args, jget, rv_cat, cat_int, cat_long, cat_double, cat_float, cat_ref]) (by simp [lv_args, jget, rv_cat, cat_int, cat_long, cat_double, cat_float, cat_ref]) h
/-! FilterBench$Chain.join(LFilterBench$Section;)V -/
set_option maxRecDepth 10000 in
set_option maxHeartbeats 4000000 in
theorem r_Chain_join_e {B : Nat} {SA : Nat → Nat} {d : Nat} (hd : 0 ≤ d) : ∀ (L : JLoc) (v0 : Nat) (v1 : Option Nat) (μ : JMem) (μ9 : JMem), jget L 0 = .ref v0 → jget L 1 = rv v1 → g_Chain_join B v0 v1 μ = some μ9 → jR B SA d m_Chain_join 0 L [] μ none μ9 := by
  intro L v0 v1 μ μ9 hl0 hl1 h
  unfold g_Chain_join at h
  refine jr_aload_n jf_53_0 rfl hl0 ?_
  replace h := obd_of h; obtain ⟨x1, hx1, h⟩ := h
  refine jr_getI jf_53_1 hx1 ?_
  replace h := ite_or h; rcases h with ⟨hc, h⟩ | ⟨hc, h⟩
  · refine jr_if_lt_t jf_53_4 hc ?_
    obtain rfl := Option.some.inj h
    exact jr_return jf_53_52 jmt_53
  · refine jr_if_lt_f jf_53_4 hc ?_
    refine jr_aload_n jf_53_7 rfl hl0 ?_
    replace h := obd_of h; obtain ⟨x2, hx2, h⟩ := h
    refine jr_getI jf_53_8 hx2 ?_
    refine jr_aload_n jf_53_11 rfl hl0 ?_
    replace h := obd_of h; obtain ⟨x3, hx3, h⟩ := h
    refine jr_getA jf_53_12 hx3 ?_
    replace h := obd_of h; obtain ⟨a4, rfl, h⟩ := h
    replace h := obd_of h; obtain ⟨x5, hx5, h⟩ := h
    refine jr_arraylength jf_53_15 hx5 ?_
    replace h := ite_or h; rcases h with ⟨hc, h⟩ | ⟨hc, h⟩
    · refine jr_if2_ge_t jf_53_16 hc ?_
      obtain rfl := Option.some.inj h
      exact jr_return jf_53_52 jmt_53
    · refine jr_if2_ge_f jf_53_16 hc ?_
      refine jr_aload_n jf_53_19 rfl hl0 ?_
      replace h := obd_of h; obtain ⟨x6, hx6, h⟩ := h
      refine jr_getA jf_53_20 hx6 ?_
      refine jr_aload_n jf_53_23 rfl hl0 ?_
      replace h := obd_of h; obtain ⟨x7, hx7, h⟩ := h
      refine jr_getI jf_53_24 hx7 ?_
      refine jr_aload_n_A jf_53_27 rfl hl1 ?_
      replace h := obd_of h; obtain ⟨a8, rfl, h⟩ := h
      replace h := obd_of h; obtain ⟨a9, rfl, h⟩ := h
      replace h := obd_of h; obtain ⟨μ10, hμ10, h⟩ := h
      refine jr_aastore jf_53_28 hμ10 ?_
      refine jr_aload_n jf_53_29 rfl hl1 ?_
      refine jr_aload_n jf_53_30 rfl hl0 ?_
      replace h := obd_of h; obtain ⟨μ11, hμ11, h⟩ := h
      refine jr_putA (x := some _) jf_53_31 rfl hμ11 ?_
      refine jr_aload_n jf_53_34 rfl hl1 ?_
      refine jr_aload_n jf_53_35 rfl hl0 ?_
      replace h := obd_of h; obtain ⟨x12, hx12, h⟩ := h
      refine jr_getI jf_53_36 hx12 ?_
      replace h := obd_of h; obtain ⟨μ13, hμ13, h⟩ := h
      refine jr_putI jf_53_39 rfl hμ13 ?_
      refine jr_aload_n jf_53_42 rfl hl0 ?_
      refine jr_dup jf_53_43 rfl ?_
      replace h := obd_of h; obtain ⟨x14, hx14, h⟩ := h
      refine jr_getI jf_53_44 hx14 ?_
      refine jr_iconst jf_53_47 jc_i_1 ?_
      refine jr_iadd jf_53_48 ?_
      replace h := obd_of h; obtain ⟨μ15, hμ15, h⟩ := h
      refine jr_putI jf_53_49 rfl hμ15 ?_
      obtain rfl := Option.some.inj h
      exact jr_return jf_53_52 jmt_53
set_option maxRecDepth 10000 in
set_option maxHeartbeats 4000000 in
theorem r_Chain_join {B : Nat} {SA : Nat → Nat} {d : Nat} (hd : 0 ≤ d) : ∀ (v0 : Nat) (v1 : Option Nat) (μ : JMem) (μ9 : JMem), g_Chain_join B v0 v1 μ = some μ9 → jR B SA d m_Chain_join 0 (lv_args 0 [.ref v0, rv v1]) [] μ none μ9 := by
  intro v0 v1 μ μ9 h
  exact r_Chain_join_e hd (lv_args 0 _) _ _ _ _ (by simp [lv_args, jget, rv_cat, cat_int, cat_long, cat_double, cat_float, cat_ref]) (by simp [lv_args, jget, rv_cat, cat_int, cat_long, cat_double, cat_float, cat_ref]) h
/-! FilterBench$Chain.memberAt(I)LFilterBench$Section; -/
set_option maxRecDepth 10000 in
set_option maxHeartbeats 4000000 in
theorem r_Chain_memberAt_21 {B : Nat} {SA : Nat → Nat} {d : Nat} (hd : 0 ≤ d) : ∀ (L : JLoc) (μ : JMem) (r : Option Nat), g_Chain_memberAt_21 μ.1 = some r → jR B SA d m_Chain_memberAt 21 L [] μ (some (rv r)) μ := by
  intro L μ r h
  unfold g_Chain_memberAt_21 at h
  refine jr_aconst_null jf_50_21 ?_
  refine jr_goto jf_50_22 ?_
  obtain rfl := Option.some.inj h
  exact jr_retA jf_50_31 jmt_50
set_option maxRecDepth 10000 in
set_option maxHeartbeats 4000000 in
theorem r_Chain_memberAt_e {B : Nat} {SA : Nat → Nat} {d : Nat} (hd : 0 ≤ d) : ∀ (L : JLoc) (v0 : Nat) (v1 : Int32) (μ : JMem) (r : Option Nat), jget L 0 = .ref v0 → jget L 1 = .int v1 → g_Chain_memberAt v0 v1 μ.1 = some r → jR B SA d m_Chain_memberAt 0 L [] μ (some (rv r)) μ := by
  intro L v0 v1 μ r hl0 hl1 h
  unfold g_Chain_memberAt at h
  refine jr_iload_n jf_50_0 rfl hl1 ?_
  replace h := ite_or h; rcases h with ⟨hc, h⟩ | ⟨hc, h⟩
  · refine jr_if_lt_t jf_50_1 hc ?_
    exact r_Chain_memberAt_21 hd _  _ _ h
  · refine jr_if_lt_f jf_50_1 hc ?_
    refine jr_iload_n jf_50_4 rfl hl1 ?_
    refine jr_aload_n jf_50_5 rfl hl0 ?_
    replace h := obd_of h; obtain ⟨x1, hx1, h⟩ := h
    refine jr_getI jf_50_6 hx1 ?_
    replace h := ite_or h; rcases h with ⟨hc, h⟩ | ⟨hc, h⟩
    · refine jr_if2_ge_t jf_50_9 hc ?_
      exact r_Chain_memberAt_21 hd _  _ _ h
    · refine jr_if2_ge_f jf_50_9 hc ?_
      refine jr_iload_n jf_50_12 rfl hl1 ?_
      refine jr_aload_n jf_50_13 rfl hl0 ?_
      replace h := obd_of h; obtain ⟨x2, hx2, h⟩ := h
      refine jr_getA jf_50_14 hx2 ?_
      replace h := obd_of h; obtain ⟨a3, rfl, h⟩ := h
      replace h := obd_of h; obtain ⟨x4, hx4, h⟩ := h
      refine jr_arraylength jf_50_17 hx4 ?_
      replace h := ite_or h; rcases h with ⟨hc, h⟩ | ⟨hc, h⟩
      · refine jr_if2_lt_t jf_50_18 hc ?_
        refine jr_aload_n jf_50_25 rfl hl0 ?_
        replace h := obd_of h; obtain ⟨x5, hx5, h⟩ := h
        refine jr_getA jf_50_26 hx5 ?_
        refine jr_iload_n jf_50_29 rfl hl1 ?_
        replace h := obd_of h; obtain ⟨a6, rfl, h⟩ := h
        replace h := obd_of h; obtain ⟨x7, hx7, h⟩ := h
        refine jr_aaload jf_50_30 hx7 ?_
        obtain rfl := Option.some.inj h
        exact jr_retA jf_50_31 jmt_50
      · refine jr_if2_lt_f jf_50_18 hc ?_
        exact r_Chain_memberAt_21 hd _  _ _ h
set_option maxRecDepth 10000 in
set_option maxHeartbeats 4000000 in
theorem r_Chain_memberAt {B : Nat} {SA : Nat → Nat} {d : Nat} (hd : 0 ≤ d) : ∀ (v0 : Nat) (v1 : Int32) (μ : JMem) (r : Option Nat), g_Chain_memberAt v0 v1 μ.1 = some r → jR B SA d m_Chain_memberAt 0 (lv_args 0 [.ref v0, .int v1]) [] μ (some (rv r)) μ := by
  intro v0 v1 μ r h
  exact r_Chain_memberAt_e hd (lv_args 0 _) _ _ _ _ (by simp [lv_args, jget, rv_cat, cat_int, cat_long, cat_double, cat_float, cat_ref]) (by simp [lv_args, jget, rv_cat, cat_int, cat_long, cat_double, cat_float, cat_ref]) h
/-! FilterBench$Chain.sort()I -/
set_option maxRecDepth 10000 in
set_option maxHeartbeats 4000000 in
theorem r_Chain_sort_e {B : Nat} {SA : Nat → Nat} {d : Nat} (hd : 1 ≤ d) : ∀ (L : JLoc) (v0 : Nat) (μ : JMem) (r : Int32), jget L 0 = .ref v0 → g_Chain_sort v0 μ.1 = some r → jR B SA d m_Chain_sort 0 L [] μ (some (.int r)) μ := by
  intro L v0 μ r hl0 h
  unfold g_Chain_sort at h
  refine jr_aload_n jf_49_0 rfl hl0 ?_
  refine jr_iconst jf_49_1 jc_i_0 ?_
  replace h := jgd_of h; obtain ⟨hb1, h⟩ := h
  replace h := obd_of h; obtain ⟨x2, hx2, h⟩ := h
  refine jr_V6_1 jf_49_2 hb1 (by omega) (r_Chain_memberAt (by omega) _ _ _ _ hx2) (Nat.le_of_ble_eq_true rfl) jml_50 (Nat.le_of_ble_eq_true rfl) ?_
  refine jr_astore_n_A jf_49_5 rfl jml_49 (by decide) ?_
  refine jr_aload_n_A jf_49_6 rfl jg1_same ?_
  replace h := jon_or h; rcases h with ⟨rfl, h⟩ | ⟨a3, rfl, h⟩
  · refine jr_ifnonnull_n jf_49_7 ?_
    refine jr_iconst jf_49_10 jc_i_m1 ?_
    refine jr_goto jf_49_11 ?_
    obtain rfl := Option.some.inj h
    exact jr_retI jf_49_18 jmt_49
  · refine jr_ifnonnull_s jf_49_7 ?_
    refine jr_aload_n jf_49_14 rfl jg1_same ?_
    replace h := obd_of h; obtain ⟨x4, hx4, h⟩ := h
    refine jr_getI jf_49_15 hx4 ?_
    obtain rfl := Option.some.inj h
    exact jr_retI jf_49_18 jmt_49
set_option maxRecDepth 10000 in
set_option maxHeartbeats 4000000 in
theorem r_Chain_sort {B : Nat} {SA : Nat → Nat} {d : Nat} (hd : 1 ≤ d) : ∀ (v0 : Nat) (μ : JMem) (r : Int32), g_Chain_sort v0 μ.1 = some r → jR B SA d m_Chain_sort 0 (lv_args 0 [.ref v0]) [] μ (some (.int r)) μ := by
  intro v0 μ r h
  exact r_Chain_sort_e hd (lv_args 0 _) _ _ _ (by simp [lv_args, jget, rv_cat, cat_int, cat_long, cat_double, cat_float, cat_ref]) h
/-! FilterBench$Section.spreads()Z -/
set_option maxRecDepth 10000 in
set_option maxHeartbeats 4000000 in
theorem r_Section_spreads_18 {B : Nat} {SA : Nat → Nat} {d : Nat} (hd : 0 ≤ d) : ∀ (L : JLoc) (μ : JMem) (r : Bool), g_Section_spreads_18 μ.1 = some r → jR B SA d m_Section_spreads 18 L [] μ (some (.int (jb r))) μ := by
  intro L μ r h
  unfold g_Section_spreads_18 at h
  refine jr_iconst jf_51_18 jc_i_1 ?_
  refine jr_goto jf_51_19 ?_
  obtain rfl := Option.some.inj h
  exact jr_retZ (x := true) jf_51_23 jmt_51
set_option maxRecDepth 10000 in
set_option maxHeartbeats 4000000 in
theorem r_Section_spreads_e {B : Nat} {SA : Nat → Nat} {d : Nat} (hd : 0 ≤ d) : ∀ (L : JLoc) (v0 : Nat) (μ : JMem) (r : Bool), jget L 0 = .ref v0 → g_Section_spreads v0 μ.1 = some r → jR B SA d m_Section_spreads 0 L [] μ (some (.int (jb r))) μ := by
  intro L v0 μ r hl0 h
  unfold g_Section_spreads at h
  refine jr_aload_n jf_51_0 rfl hl0 ?_
  replace h := obd_of h; obtain ⟨x1, hx1, h⟩ := h
  refine jr_getI jf_51_1 hx1 ?_
  refine jr_bipush jf_51_4 jc_b_13 ?_
  replace h := ite_or h; rcases h with ⟨hc, h⟩ | ⟨hc, h⟩
  · refine jr_if2_eq_t jf_51_6 hc ?_
    exact r_Section_spreads_18 hd _  _ _ h
  · refine jr_if2_eq_f jf_51_6 hc ?_
    refine jr_aload_n jf_51_9 rfl hl0 ?_
    replace h := obd_of h; obtain ⟨x2, hx2, h⟩ := h
    refine jr_getI jf_51_10 hx2 ?_
    refine jr_bipush jf_51_13 jc_b_14 ?_
    replace h := ite_or h; rcases h with ⟨hc, h⟩ | ⟨hc, h⟩
    · refine jr_if2_ne_f jf_51_15 hc ?_
      exact r_Section_spreads_18 hd _  _ _ h
    · refine jr_if2_ne_t jf_51_15 hc ?_
      refine jr_iconst jf_51_22 jc_i_0 ?_
      obtain rfl := Option.some.inj h
      exact jr_retZ (x := false) jf_51_23 jmt_51
set_option maxRecDepth 10000 in
set_option maxHeartbeats 4000000 in
theorem r_Section_spreads {B : Nat} {SA : Nat → Nat} {d : Nat} (hd : 0 ≤ d) : ∀ (v0 : Nat) (μ : JMem) (r : Bool), g_Section_spreads v0 μ.1 = some r → jR B SA d m_Section_spreads 0 (lv_args 0 [.ref v0]) [] μ (some (.int (jb r))) μ := by
  intro v0 μ r h
  exact r_Section_spreads_e hd (lv_args 0 _) _ _ _ (by simp [lv_args, jget, rv_cat, cat_int, cat_long, cat_double, cat_float, cat_ref]) h
/-! FilterBench$Chain.spreaders()I -/
set_option maxRecDepth 10000 in
set_option maxHeartbeats 4000000 in
theorem r_Chain_spreaders_35 {N B : Nat} {SA : Nat → Nat} {d : Nat} (hd : 1 ≤ d) {k4 : Nat → Int32 → Int32 → (Nat → Option JCell) → Option Int32} (i4 : ∀ (L : JLoc) (v0 : Nat) (v1 : Int32) (v2 : Int32) (μ : JMem) (r : Int32), jget L 0 = .ref v0 → jget L 1 = .int v1 → jget L 2 = .int v2 → k4 v0 v1 v2 μ.1 = some r → jR B SA d m_Chain_spreaders 4 L [] μ (some (.int r)) μ) : ∀ (L : JLoc) (v0 : Nat) (v2 : Int32) (s0 : Bool) (s1 : Int32) (μ : JMem) (r : Int32), jget L 0 = .ref v0 → jget L 2 = .int v2 → g_Chain_spreaders_35 N k4 v0 v2 s0 s1 μ.1 = some r → jR B SA d m_Chain_spreaders 35 L [.int (jb s0), .int s1] μ (some (.int r)) μ := by
  intro L v0 v2 s0 s1 μ r hl0 hl2 h
  unfold g_Chain_spreaders_35 at h
  refine jr_iadd jf_52_35 ?_
  refine jr_istore_n jf_52_36 rfl jml_52 (by decide) ?_
  refine jr_iinc jf_52_37 jc_i_1 jml_52 (by decide) (jg1_ne rfl hl2) ?_
  refine jr_goto jf_52_40 ?_
  exact i4 _ _ _ _ _ _ (jg1_ne rfl (jg1_pre (by first | rfl | exact rv_cat _) hl0)) (jg1_pre rfl jg1_same) jg1_same h
set_option maxRecDepth 10000 in
set_option maxHeartbeats 4000000 in
theorem r_Chain_spreaders_34 {N B : Nat} {SA : Nat → Nat} {d : Nat} (hd : 1 ≤ d) {k4 : Nat → Int32 → Int32 → (Nat → Option JCell) → Option Int32} (i4 : ∀ (L : JLoc) (v0 : Nat) (v1 : Int32) (v2 : Int32) (μ : JMem) (r : Int32), jget L 0 = .ref v0 → jget L 1 = .int v1 → jget L 2 = .int v2 → k4 v0 v1 v2 μ.1 = some r → jR B SA d m_Chain_spreaders 4 L [] μ (some (.int r)) μ) : ∀ (L : JLoc) (v0 : Nat) (v2 : Int32) (s0 : Int32) (μ : JMem) (r : Int32), jget L 0 = .ref v0 → jget L 2 = .int v2 → g_Chain_spreaders_34 N k4 v0 v2 s0 μ.1 = some r → jR B SA d m_Chain_spreaders 34 L [.int s0] μ (some (.int r)) μ := by
  intro L v0 v2 s0 μ r hl0 hl2 h
  unfold g_Chain_spreaders_34 at h
  refine jr_iconst jf_52_34 jc_i_0 ?_
  exact r_Chain_spreaders_35 hd i4 _ _ _ false _ _ _ hl0 hl2 h
set_option maxRecDepth 10000 in
set_option maxHeartbeats 4000000 in
theorem r_Chain_spreaders_4 {N B : Nat} {SA : Nat → Nat} {d : Nat} (hd : 1 ≤ d) : ∀ (n : Nat), ∀ (L : JLoc) (v0 : Nat) (v1 : Int32) (v2 : Int32) (μ : JMem) (r : Int32), jget L 0 = .ref v0 → jget L 1 = .int v1 → jget L 2 = .int v2 → g_Chain_spreaders_4 N n v0 v1 v2 μ.1 = some r → jR B SA d m_Chain_spreaders 4 L [] μ (some (.int r)) μ := by
  intro n
  induction n with
  | zero =>
    intro L v0 v1 v2 μ r hl0 hl1 hl2 h
    unfold g_Chain_spreaders_4 at h
    cases h
  | succ n ih =>
    intro L v0 v1 v2 μ r hl0 hl1 hl2 h
    unfold g_Chain_spreaders_4 at h
    refine jr_iload_n jf_52_4 rfl hl2 ?_
    refine jr_aload_n jf_52_5 rfl hl0 ?_
    replace h := obd_of h; obtain ⟨x1, hx1, h⟩ := h
    refine jr_getI jf_52_6 hx1 ?_
    replace h := ite_or h; rcases h with ⟨hc, h⟩ | ⟨hc, h⟩
    · refine jr_if2_ge_t jf_52_9 hc ?_
      refine jr_iload_n jf_52_43 rfl hl1 ?_
      obtain rfl := Option.some.inj h
      exact jr_retI jf_52_44 jmt_52
    · refine jr_if2_ge_f jf_52_9 hc ?_
      refine jr_aload_n jf_52_12 rfl hl0 ?_
      refine jr_iload_n jf_52_13 rfl hl2 ?_
      replace h := jgd_of h; obtain ⟨hb2, h⟩ := h
      replace h := obd_of h; obtain ⟨x3, hx3, h⟩ := h
      refine jr_V6_1 jf_52_14 hb2 (by omega) (r_Chain_memberAt (by omega) _ _ _ _ hx3) (Nat.le_of_ble_eq_true rfl) jml_50 (Nat.le_of_ble_eq_true rfl) ?_
      refine jr_astore_n_A jf_52_17 rfl jml_52 (by decide) ?_
      refine jr_iload_n jf_52_18 rfl (jg1_ne rfl hl1) ?_
      refine jr_aload_n_A jf_52_19 rfl jg1_same ?_
      replace h := jon_or h; rcases h with ⟨rfl, h⟩ | ⟨a4, rfl, h⟩
      · refine jr_ifnull_n jf_52_20 ?_
        exact r_Chain_spreaders_34 hd ih _ _ _ _ _ _ (jg1_ne rfl hl0) (jg1_pre rfl hl2) h
      · refine jr_ifnull_s jf_52_20 ?_
        refine jr_aload_n jf_52_23 rfl jg1_same ?_
        replace h := jgd_of h; obtain ⟨hb5, h⟩ := h
        replace h := obd_of h; obtain ⟨x6, hx6, h⟩ := h
        refine jr_V6_0 jf_52_24 hb5 (by omega) (r_Section_spreads (by omega) _ _ _ hx6) (Nat.le_of_ble_eq_true rfl) jml_51 (Nat.le_of_ble_eq_true rfl) ?_
        replace h := ite_or h; rcases h with ⟨hc, h⟩ | ⟨hc, h⟩
        · refine jr_ifz_eq_f jf_52_27 hc ?_
          refine jr_iconst jf_52_30 jc_i_1 ?_
          refine jr_goto jf_52_31 ?_
          exact r_Chain_spreaders_35 hd ih _ _ _ true _ _ _ (jg1_ne rfl hl0) (jg1_pre rfl hl2) h
        · refine jr_ifz_eq_t jf_52_27 hc ?_
          exact r_Chain_spreaders_34 hd ih _ _ _ _ _ _ (jg1_ne rfl hl0) (jg1_pre rfl hl2) h
set_option maxRecDepth 10000 in
set_option maxHeartbeats 4000000 in
theorem r_Chain_spreaders_e {N B : Nat} {SA : Nat → Nat} {d : Nat} (hd : 1 ≤ d) : ∀ (L : JLoc) (v0 : Nat) (μ : JMem) (r : Int32), jget L 0 = .ref v0 → g_Chain_spreaders N v0 μ.1 = some r → jR B SA d m_Chain_spreaders 0 L [] μ (some (.int r)) μ := by
  intro L v0 μ r hl0 h
  unfold g_Chain_spreaders at h
  refine jr_iconst jf_52_0 jc_i_0 ?_
  refine jr_istore_n jf_52_1 rfl jml_52 (by decide) ?_
  refine jr_iconst jf_52_2 jc_i_0 ?_
  refine jr_istore_n jf_52_3 rfl jml_52 (by decide) ?_
  exact r_Chain_spreaders_4 hd _ _ _ _ _ _ _ (jg1_ne rfl (jg1_pre (by first | rfl | exact rv_cat _) hl0)) (jg1_pre rfl jg1_same) jg1_same h
set_option maxRecDepth 10000 in
set_option maxHeartbeats 4000000 in
theorem r_Chain_spreaders {N B : Nat} {SA : Nat → Nat} {d : Nat} (hd : 1 ≤ d) : ∀ (v0 : Nat) (μ : JMem) (r : Int32), g_Chain_spreaders N v0 μ.1 = some r → jR B SA d m_Chain_spreaders 0 (lv_args 0 [.ref v0]) [] μ (some (.int r)) μ := by
  intro v0 μ r h
  exact r_Chain_spreaders_e hd (lv_args 0 _) _ _ _ (by simp [lv_args, jget, rv_cat, cat_int, cat_long, cat_double, cat_float, cat_ref]) h
/-! FilterBench.add(II)I -/
set_option maxRecDepth 10000 in
set_option maxHeartbeats 4000000 in
theorem r_B_add_87 {N B : Nat} {SA : Nat → Nat} {d : Nat} (hd : 2 ≤ d) : ∀ (L : JLoc) (v3 : Nat) (v4 : Nat) (μ : JMem) (r : Int32) (μ9 : JMem), jget L 3 = .ref v3 → jget L 4 = .ref v4 → g_B_add_87 N B v3 v4 μ = some (r, μ9) → jR B SA d m_B_add 87 L [] μ (some (.int r)) μ9 := by
  intro L v3 v4 μ r μ9 hl3 hl4 h
  unfold g_B_add_87 at h
  refine jr_aload_n jf_47_87 rfl hl3 ?_
  refine jr_aload jf_47_88 hl4 ?_
  replace h := jgd_of h; obtain ⟨hb1, h⟩ := h
  replace h := obd_of h; obtain ⟨μ2, hμ2, h⟩ := h
  refine jr_V6v_1 jf_47_90 hb1 (by omega) (r_Chain_join (by omega) _ _ _ _ hμ2) (Nat.le_of_ble_eq_true rfl) jml_53 (by simp only [jcats_cons, jcats_nil, cat_int, cat_long, cat_double, cat_float, cat_ref, rv_cat]; decide) ?_
  refine jr_aload jf_47_93 hl4 ?_
  replace h := obd_of h; obtain ⟨x3, hx3, h⟩ := h
  refine jr_getI jf_47_95 hx3 ?_
  obtain ⟨rfl, rfl⟩ := Prod.mk.inj (Option.some.inj h)
  exact jr_retI jf_47_98 jmt_47
set_option maxRecDepth 10000 in
set_option maxHeartbeats 4000000 in
theorem r_B_add_69 {N B : Nat} {SA : Nat → Nat} {d : Nat} (hd : 2 ≤ d) : ∀ (L : JLoc) (v3 : Nat) (v4 : Nat) (μ : JMem) (r : Int32) (μ9 : JMem), jget L 3 = .ref v3 → jget L 4 = .ref v4 → g_B_add_69 N B v3 v4 μ = some (r, μ9) → jR B SA d m_B_add 69 L [] μ (some (.int r)) μ9 := by
  intro L v3 v4 μ r μ9 hl3 hl4 h
  unfold g_B_add_69 at h
  refine jr_aload jf_47_69 hl4 ?_
  replace h := jgd_of h; obtain ⟨hb1, h⟩ := h
  replace h := obd_of h; obtain ⟨x2, hx2, h⟩ := h
  refine jr_V6_0 jf_47_71 hb1 (by omega) (r_Section_spreads (by omega) _ _ _ hx2) (Nat.le_of_ble_eq_true rfl) jml_51 (Nat.le_of_ble_eq_true rfl) ?_
  replace h := ite_or h; rcases h with ⟨hc, h⟩ | ⟨hc, h⟩
  · refine jr_ifz_eq_f jf_47_74 hc ?_
    refine jr_aload_n jf_47_77 rfl hl3 ?_
    replace h := jgd_of h; obtain ⟨hb3, h⟩ := h
    replace h := obd_of h; obtain ⟨x4, hx4, h⟩ := h
    refine jr_V6_0 jf_47_78 hb3 (by omega) (r_Chain_spreaders (by omega) _ _ _ hx4) (Nat.le_of_ble_eq_true rfl) jml_52 (Nat.le_of_ble_eq_true rfl) ?_
    refine jr_iconst jf_47_81 jc_i_2 ?_
    replace h := ite_or h; rcases h with ⟨hc, h⟩ | ⟨hc, h⟩
    · refine jr_if2_lt_t jf_47_82 hc ?_
      exact r_B_add_87 hd _ _ _ _ _ _ hl3 hl4 h
    · refine jr_if2_lt_f jf_47_82 hc ?_
      refine jr_iconst jf_47_85 jc_i_m1 ?_
      obtain ⟨rfl, rfl⟩ := Prod.mk.inj (Option.some.inj h)
      exact jr_retI jf_47_86 jmt_47
  · refine jr_ifz_eq_t jf_47_74 hc ?_
    exact r_B_add_87 hd _ _ _ _ _ _ hl3 hl4 h
set_option maxRecDepth 10000 in
set_option maxHeartbeats 4000000 in
theorem r_B_add_e {N B : Nat} {SA : Nat → Nat} {d : Nat} (hd : 2 ≤ d) : ∀ (L : JLoc) (v0 : Nat) (v1 : Int32) (v2 : Int32) (μ : JMem) (r : Int32) (μ9 : JMem), jget L 0 = .ref v0 → jget L 1 = .int v1 → jget L 2 = .int v2 → g_B_add N B v0 v1 v2 μ = some (r, μ9) → jR B SA d m_B_add 0 L [] μ (some (.int r)) μ9 := by
  intro L v0 v1 v2 μ r μ9 hl0 hl1 hl2 h
  unfold g_B_add at h
  refine jr_aload_n jf_47_0 rfl hl0 ?_
  refine jr_iload_n jf_47_1 rfl hl1 ?_
  replace h := jgd_of h; obtain ⟨hb1, h⟩ := h
  replace h := obd_of h; obtain ⟨x2, hx2, h⟩ := h
  refine jr_V6_1 jf_47_2 hb1 (by omega) (r_B_chainAt (by omega) _ _ _ _ hx2) (Nat.le_of_ble_eq_true rfl) jml_48 (Nat.le_of_ble_eq_true rfl) ?_
  refine jr_astore_n_A jf_47_5 rfl jml_47 (by decide) ?_
  refine jr_aload_n jf_47_6 rfl (jg1_ne rfl hl0) ?_
  refine jr_iload_n jf_47_7 rfl (jg1_pre rfl hl2) ?_
  replace h := jgd_of h; obtain ⟨hb3, h⟩ := h
  replace h := obd_of h; obtain ⟨x4, hx4, h⟩ := h
  refine jr_V6_1 jf_47_8 hb3 (by omega) (r_B_sectionAt (by omega) _ _ _ _ hx4) (Nat.le_of_ble_eq_true rfl) jml_13 (Nat.le_of_ble_eq_true rfl) ?_
  refine jr_astore_A jf_47_11 jml_47 (by decide) ?_
  refine jr_aload_n_A jf_47_13 rfl (jg1_pre (by first | rfl | exact rv_cat _) jg1_same) ?_
  replace h := jon_or h; rcases h with ⟨rfl, h⟩ | ⟨a5, rfl, h⟩
  · refine jr_ifnull_n jf_47_14 ?_
    refine jr_iconst jf_47_37 jc_i_m1 ?_
    obtain ⟨rfl, rfl⟩ := Prod.mk.inj (Option.some.inj h)
    exact jr_retI jf_47_38 jmt_47
  · refine jr_ifnull_s jf_47_14 ?_
    refine jr_aload_A jf_47_17 jg1_same ?_
    replace h := jon_or h; rcases h with ⟨rfl, h⟩ | ⟨a6, rfl, h⟩
    · refine jr_ifnull_n jf_47_19 ?_
      refine jr_iconst jf_47_37 jc_i_m1 ?_
      obtain ⟨rfl, rfl⟩ := Prod.mk.inj (Option.some.inj h)
      exact jr_retI jf_47_38 jmt_47
    · refine jr_ifnull_s jf_47_19 ?_
      refine jr_aload jf_47_22 jg1_same ?_
      replace h := obd_of h; obtain ⟨x7, hx7, h⟩ := h
      refine jr_getA jf_47_24 hx7 ?_
      replace h := jon_or h; rcases h with ⟨rfl, h⟩ | ⟨a8, rfl, h⟩
      · refine jr_ifnonnull_n jf_47_27 ?_
        refine jr_aload_n jf_47_30 rfl (jg1_pre (by first | rfl | exact rv_cat _) jg1_same) ?_
        replace h := obd_of h; obtain ⟨x9, hx9, h⟩ := h
        refine jr_getA jf_47_31 hx9 ?_
        replace h := jon_or h; rcases h with ⟨rfl, h⟩ | ⟨a10, rfl, h⟩
        · refine jr_ifnull_n jf_47_34 ?_
          refine jr_aload_n jf_47_39 rfl (jg1_pre (by first | rfl | exact rv_cat _) jg1_same) ?_
          replace h := obd_of h; obtain ⟨x11, hx11, h⟩ := h
          refine jr_getI jf_47_40 hx11 ?_
          refine jr_bipush jf_47_43 jc_b_10 ?_
          replace h := ite_or h; rcases h with ⟨hc, h⟩ | ⟨hc, h⟩
          · refine jr_if2_ge_t jf_47_45 hc ?_
            refine jr_iconst jf_47_67 jc_i_m1 ?_
            obtain ⟨rfl, rfl⟩ := Prod.mk.inj (Option.some.inj h)
            exact jr_retI jf_47_68 jmt_47
          · refine jr_if2_ge_f jf_47_45 hc ?_
            refine jr_aload_n jf_47_48 rfl (jg1_pre (by first | rfl | exact rv_cat _) jg1_same) ?_
            replace h := obd_of h; obtain ⟨x12, hx12, h⟩ := h
            refine jr_getI jf_47_49 hx12 ?_
            replace h := ite_or h; rcases h with ⟨hc, h⟩ | ⟨hc, h⟩
            · refine jr_if_le_t jf_47_52 hc ?_
              exact r_B_add_69 hd _ _ _ _ _ _ (jg1_pre (by first | rfl | exact rv_cat _) jg1_same) jg1_same h
            · refine jr_if_le_f jf_47_52 hc ?_
              refine jr_aload_n jf_47_55 rfl (jg1_pre (by first | rfl | exact rv_cat _) jg1_same) ?_
              replace h := jgd_of h; obtain ⟨hb13, h⟩ := h
              replace h := obd_of h; obtain ⟨x14, hx14, h⟩ := h
              refine jr_V6_0 jf_47_56 hb13 (by omega) (r_Chain_sort (by omega) _ _ _ hx14) (Nat.le_of_ble_eq_true rfl) jml_49 (Nat.le_of_ble_eq_true rfl) ?_
              refine jr_aload jf_47_59 jg1_same ?_
              replace h := obd_of h; obtain ⟨x15, hx15, h⟩ := h
              refine jr_getI jf_47_61 hx15 ?_
              replace h := ite_or h; rcases h with ⟨hc, h⟩ | ⟨hc, h⟩
              · refine jr_if2_eq_t jf_47_64 hc ?_
                exact r_B_add_69 hd _ _ _ _ _ _ (jg1_pre (by first | rfl | exact rv_cat _) jg1_same) jg1_same h
              · refine jr_if2_eq_f jf_47_64 hc ?_
                refine jr_iconst jf_47_67 jc_i_m1 ?_
                obtain ⟨rfl, rfl⟩ := Prod.mk.inj (Option.some.inj h)
                exact jr_retI jf_47_68 jmt_47
        · refine jr_ifnull_s jf_47_34 ?_
          refine jr_iconst jf_47_37 jc_i_m1 ?_
          obtain ⟨rfl, rfl⟩ := Prod.mk.inj (Option.some.inj h)
          exact jr_retI jf_47_38 jmt_47
      · refine jr_ifnonnull_s jf_47_27 ?_
        refine jr_iconst jf_47_37 jc_i_m1 ?_
        obtain ⟨rfl, rfl⟩ := Prod.mk.inj (Option.some.inj h)
        exact jr_retI jf_47_38 jmt_47
set_option maxRecDepth 10000 in
set_option maxHeartbeats 4000000 in
theorem r_B_add {N B : Nat} {SA : Nat → Nat} {d : Nat} (hd : 2 ≤ d) : ∀ (v0 : Nat) (v1 : Int32) (v2 : Int32) (μ : JMem) (r : Int32) (μ9 : JMem), g_B_add N B v0 v1 v2 μ = some (r, μ9) → jR B SA d m_B_add 0 (lv_args 0 [.ref v0, .int v1, .int v2]) [] μ (some (.int r)) μ9 := by
  intro v0 v1 v2 μ r μ9 h
  exact r_B_add_e hd (lv_args 0 _) _ _ _ _ _ _ (by simp [lv_args, jget, rv_cat, cat_int, cat_long, cat_double, cat_float, cat_ref]) (by simp [lv_args, jget, rv_cat, cat_int, cat_long, cat_double, cat_float, cat_ref]) (by simp [lv_args, jget, rv_cat, cat_int, cat_long, cat_double, cat_float, cat_ref]) h
/-! FilterBench$Section.changesRate()Z -/
set_option maxRecDepth 10000 in
set_option maxHeartbeats 4000000 in
theorem r_Section_changesRate_16 {B : Nat} {SA : Nat → Nat} {d : Nat} (hd : 1 ≤ d) : ∀ (L : JLoc) (μ : JMem) (r : Bool), g_Section_changesRate_16 μ.1 = some r → jR B SA d m_Section_changesRate 16 L [] μ (some (.int (jb r))) μ := by
  intro L μ r h
  unfold g_Section_changesRate_16 at h
  refine jr_iconst jf_56_16 jc_i_1 ?_
  refine jr_goto jf_56_17 ?_
  obtain rfl := Option.some.inj h
  exact jr_retZ (x := true) jf_56_21 jmt_56
set_option maxRecDepth 10000 in
set_option maxHeartbeats 4000000 in
theorem r_Section_changesRate_e {B : Nat} {SA : Nat → Nat} {d : Nat} (hd : 1 ≤ d) : ∀ (L : JLoc) (v0 : Nat) (μ : JMem) (r : Bool), jget L 0 = .ref v0 → g_Section_changesRate v0 μ.1 = some r → jR B SA d m_Section_changesRate 0 L [] μ (some (.int (jb r))) μ := by
  intro L v0 μ r hl0 h
  unfold g_Section_changesRate at h
  refine jr_aload_n jf_56_0 rfl hl0 ?_
  replace h := obd_of h; obtain ⟨x1, hx1, h⟩ := h
  refine jr_getI jf_56_1 hx1 ?_
  refine jr_bipush jf_56_4 jc_b_12 ?_
  replace h := ite_or h; rcases h with ⟨hc, h⟩ | ⟨hc, h⟩
  · refine jr_if2_eq_t jf_56_6 hc ?_
    exact r_Section_changesRate_16 hd _  _ _ h
  · refine jr_if2_eq_f jf_56_6 hc ?_
    refine jr_aload_n jf_56_9 rfl hl0 ?_
    replace h := jgd_of h; obtain ⟨hb2, h⟩ := h
    replace h := obd_of h; obtain ⟨x3, hx3, h⟩ := h
    refine jr_V6_0 jf_56_10 hb2 (by omega) (r_Section_spreads (by omega) _ _ _ hx3) (Nat.le_of_ble_eq_true rfl) jml_51 (Nat.le_of_ble_eq_true rfl) ?_
    replace h := ite_or h; rcases h with ⟨hc, h⟩ | ⟨hc, h⟩
    · refine jr_ifz_eq_f jf_56_13 hc ?_
      exact r_Section_changesRate_16 hd _  _ _ h
    · refine jr_ifz_eq_t jf_56_13 hc ?_
      refine jr_iconst jf_56_20 jc_i_0 ?_
      obtain rfl := Option.some.inj h
      exact jr_retZ (x := false) jf_56_21 jmt_56
set_option maxRecDepth 10000 in
set_option maxHeartbeats 4000000 in
theorem r_Section_changesRate {B : Nat} {SA : Nat → Nat} {d : Nat} (hd : 1 ≤ d) : ∀ (v0 : Nat) (μ : JMem) (r : Bool), g_Section_changesRate v0 μ.1 = some r → jR B SA d m_Section_changesRate 0 (lv_args 0 [.ref v0]) [] μ (some (.int (jb r))) μ := by
  intro v0 μ r h
  exact r_Section_changesRate_e hd (lv_args 0 _) _ _ _ (by simp [lv_args, jget, rv_cat, cat_int, cat_long, cat_double, cat_float, cat_ref]) h
/-! FilterBench$Chain.changesRate(II)Z -/
set_option maxRecDepth 10000 in
set_option maxHeartbeats 4000000 in
theorem r_Chain_changesRate_45 {N B : Nat} {SA : Nat → Nat} {d : Nat} (hd : 2 ≤ d) {k10 : Nat → Int32 → Int32 → (Nat → Option JCell) → Option Bool} (i10 : ∀ (L : JLoc) (v0 : Nat) (v2 : Int32) (v3 : Int32) (μ : JMem) (r : Bool), jget L 0 = .ref v0 → jget L 2 = .int v2 → jget L 3 = .int v3 → k10 v0 v2 v3 μ.1 = some r → jR B SA d m_Chain_changesRate 10 L [] μ (some (.int (jb r))) μ) : ∀ (L : JLoc) (v0 : Nat) (v2 : Int32) (v3 : Int32) (μ : JMem) (r : Bool), jget L 0 = .ref v0 → jget L 2 = .int v2 → jget L 3 = .int v3 → g_Chain_changesRate_45 N k10 v0 v2 v3 μ.1 = some r → jR B SA d m_Chain_changesRate 45 L [] μ (some (.int (jb r))) μ := by
  intro L v0 v2 v3 μ r hl0 hl2 hl3 h
  unfold g_Chain_changesRate_45 at h
  refine jr_iinc jf_55_45 jc_i_1 jml_55 (by decide) hl3 ?_
  refine jr_goto jf_55_48 ?_
  exact i10 _ _ _ _ _ _ (jg1_ne rfl hl0) (jg1_pre rfl hl2) jg1_same h
set_option maxRecDepth 10000 in
set_option maxHeartbeats 4000000 in
theorem r_Chain_changesRate_10 {N B : Nat} {SA : Nat → Nat} {d : Nat} (hd : 2 ≤ d) : ∀ (n : Nat), ∀ (L : JLoc) (v0 : Nat) (v2 : Int32) (v3 : Int32) (μ : JMem) (r : Bool), jget L 0 = .ref v0 → jget L 2 = .int v2 → jget L 3 = .int v3 → g_Chain_changesRate_10 N n v0 v2 v3 μ.1 = some r → jR B SA d m_Chain_changesRate 10 L [] μ (some (.int (jb r))) μ := by
  intro n
  induction n with
  | zero =>
    intro L v0 v2 v3 μ r hl0 hl2 hl3 h
    unfold g_Chain_changesRate_10 at h
    cases h
  | succ n ih =>
    intro L v0 v2 v3 μ r hl0 hl2 hl3 h
    unfold g_Chain_changesRate_10 at h
    refine jr_iload_n jf_55_10 rfl hl3 ?_
    refine jr_iload_n jf_55_11 rfl hl2 ?_
    replace h := ite_or h; rcases h with ⟨hc, h⟩ | ⟨hc, h⟩
    · refine jr_if2_gt_t jf_55_12 hc ?_
      refine jr_iconst jf_55_51 jc_i_0 ?_
      obtain rfl := Option.some.inj h
      exact jr_retZ (x := false) jf_55_52 jmt_55
    · refine jr_if2_gt_f jf_55_12 hc ?_
      refine jr_iload_n jf_55_15 rfl hl3 ?_
      refine jr_aload_n jf_55_16 rfl hl0 ?_
      replace h := obd_of h; obtain ⟨x1, hx1, h⟩ := h
      refine jr_getI jf_55_17 hx1 ?_
      replace h := ite_or h; rcases h with ⟨hc, h⟩ | ⟨hc, h⟩
      · refine jr_if2_ge_t jf_55_20 hc ?_
        refine jr_iconst jf_55_51 jc_i_0 ?_
        obtain rfl := Option.some.inj h
        exact jr_retZ (x := false) jf_55_52 jmt_55
      · refine jr_if2_ge_f jf_55_20 hc ?_
        refine jr_aload_n jf_55_23 rfl hl0 ?_
        refine jr_iload_n jf_55_24 rfl hl3 ?_
        replace h := jgd_of h; obtain ⟨hb2, h⟩ := h
        replace h := obd_of h; obtain ⟨x3, hx3, h⟩ := h
        refine jr_V6_1 jf_55_25 hb2 (by omega) (r_Chain_memberAt (by omega) _ _ _ _ hx3) (Nat.le_of_ble_eq_true rfl) jml_50 (Nat.le_of_ble_eq_true rfl) ?_
        refine jr_astore_A jf_55_28 jml_55 (by decide) ?_
        refine jr_aload_A jf_55_30 jg1_same ?_
        replace h := jon_or h; rcases h with ⟨rfl, h⟩ | ⟨a4, rfl, h⟩
        · refine jr_ifnull_n jf_55_32 ?_
          exact r_Chain_changesRate_45 hd ih _ _ _ _ _ _ (jg1_ne rfl hl0) (jg1_ne rfl hl2) (jg1_pre rfl hl3) h
        · refine jr_ifnull_s jf_55_32 ?_
          refine jr_aload jf_55_35 jg1_same ?_
          replace h := jgd_of h; obtain ⟨hb5, h⟩ := h
          replace h := obd_of h; obtain ⟨x6, hx6, h⟩ := h
          refine jr_V6_0 jf_55_37 hb5 (by omega) (r_Section_changesRate (by omega) _ _ _ hx6) (Nat.le_of_ble_eq_true rfl) jml_56 (Nat.le_of_ble_eq_true rfl) ?_
          replace h := ite_or h; rcases h with ⟨hc, h⟩ | ⟨hc, h⟩
          · refine jr_ifz_eq_f jf_55_40 hc ?_
            refine jr_iconst jf_55_43 jc_i_1 ?_
            obtain rfl := Option.some.inj h
            exact jr_retZ (x := true) jf_55_44 jmt_55
          · refine jr_ifz_eq_t jf_55_40 hc ?_
            exact r_Chain_changesRate_45 hd ih _ _ _ _ _ _ (jg1_ne rfl hl0) (jg1_ne rfl hl2) (jg1_pre rfl hl3) h
set_option maxRecDepth 10000 in
set_option maxHeartbeats 4000000 in
theorem r_Chain_changesRate_9 {N B : Nat} {SA : Nat → Nat} {d : Nat} (hd : 2 ≤ d) : ∀ (L : JLoc) (v0 : Nat) (v2 : Int32) (s0 : Int32) (μ : JMem) (r : Bool), jget L 0 = .ref v0 → jget L 2 = .int v2 → g_Chain_changesRate_9 N v0 v2 s0 μ.1 = some r → jR B SA d m_Chain_changesRate 9 L [.int s0] μ (some (.int (jb r))) μ := by
  intro L v0 v2 s0 μ r hl0 hl2 h
  unfold g_Chain_changesRate_9 at h
  refine jr_istore_n jf_55_9 rfl jml_55 (by decide) ?_
  exact r_Chain_changesRate_10 hd _ _ _ _ _ _ _ (jg1_ne rfl hl0) (jg1_pre rfl hl2) jg1_same h
set_option maxRecDepth 10000 in
set_option maxHeartbeats 4000000 in
theorem r_Chain_changesRate_e {N B : Nat} {SA : Nat → Nat} {d : Nat} (hd : 2 ≤ d) : ∀ (L : JLoc) (v0 : Nat) (v1 : Int32) (v2 : Int32) (μ : JMem) (r : Bool), jget L 0 = .ref v0 → jget L 1 = .int v1 → jget L 2 = .int v2 → g_Chain_changesRate N v0 v1 v2 μ.1 = some r → jR B SA d m_Chain_changesRate 0 L [] μ (some (.int (jb r))) μ := by
  intro L v0 v1 v2 μ r hl0 hl1 hl2 h
  unfold g_Chain_changesRate at h
  refine jr_iload_n jf_55_0 rfl hl1 ?_
  replace h := ite_or h; rcases h with ⟨hc, h⟩ | ⟨hc, h⟩
  · refine jr_if_ge_t jf_55_1 hc ?_
    refine jr_iload_n jf_55_8 rfl hl1 ?_
    exact r_Chain_changesRate_9 hd _ _ _ _ _ _ hl0 hl2 h
  · refine jr_if_ge_f jf_55_1 hc ?_
    refine jr_iconst jf_55_4 jc_i_0 ?_
    refine jr_goto jf_55_5 ?_
    exact r_Chain_changesRate_9 hd _ _ _ _ _ _ hl0 hl2 h
set_option maxRecDepth 10000 in
set_option maxHeartbeats 4000000 in
theorem r_Chain_changesRate {N B : Nat} {SA : Nat → Nat} {d : Nat} (hd : 2 ≤ d) : ∀ (v0 : Nat) (v1 : Int32) (v2 : Int32) (μ : JMem) (r : Bool), g_Chain_changesRate N v0 v1 v2 μ.1 = some r → jR B SA d m_Chain_changesRate 0 (lv_args 0 [.ref v0, .int v1, .int v2]) [] μ (some (.int (jb r))) μ := by
  intro v0 v1 v2 μ r h
  exact r_Chain_changesRate_e hd (lv_args 0 _) _ _ _ _ _ (by simp [lv_args, jget, rv_cat, cat_int, cat_long, cat_double, cat_float, cat_ref]) (by simp [lv_args, jget, rv_cat, cat_int, cat_long, cat_double, cat_float, cat_ref]) (by simp [lv_args, jget, rv_cat, cat_int, cat_long, cat_double, cat_float, cat_ref]) h
/-! FilterBench$Chain.tie(LFilterBench$Loop;)V -/
set_option maxRecDepth 10000 in
set_option maxHeartbeats 4000000 in
theorem r_Chain_tie_e {B : Nat} {SA : Nat → Nat} {d : Nat} (hd : 0 ≤ d) : ∀ (L : JLoc) (v0 : Nat) (v1 : Option Nat) (μ : JMem) (μ9 : JMem), jget L 0 = .ref v0 → jget L 1 = rv v1 → g_Chain_tie B v0 v1 μ = some μ9 → jR B SA d m_Chain_tie 0 L [] μ none μ9 := by
  intro L v0 v1 μ μ9 hl0 hl1 h
  unfold g_Chain_tie at h
  refine jr_aload_n jf_58_0 rfl hl0 ?_
  replace h := obd_of h; obtain ⟨x1, hx1, h⟩ := h
  refine jr_getI jf_58_1 hx1 ?_
  replace h := ite_or h; rcases h with ⟨hc, h⟩ | ⟨hc, h⟩
  · refine jr_if_lt_t jf_58_4 hc ?_
    obtain rfl := Option.some.inj h
    exact jr_return jf_58_39 jmt_58
  · refine jr_if_lt_f jf_58_4 hc ?_
    refine jr_aload_n jf_58_7 rfl hl0 ?_
    replace h := obd_of h; obtain ⟨x2, hx2, h⟩ := h
    refine jr_getI jf_58_8 hx2 ?_
    refine jr_aload_n jf_58_11 rfl hl0 ?_
    replace h := obd_of h; obtain ⟨x3, hx3, h⟩ := h
    refine jr_getA jf_58_12 hx3 ?_
    replace h := obd_of h; obtain ⟨a4, rfl, h⟩ := h
    replace h := obd_of h; obtain ⟨x5, hx5, h⟩ := h
    refine jr_arraylength jf_58_15 hx5 ?_
    replace h := ite_or h; rcases h with ⟨hc, h⟩ | ⟨hc, h⟩
    · refine jr_if2_ge_t jf_58_16 hc ?_
      obtain rfl := Option.some.inj h
      exact jr_return jf_58_39 jmt_58
    · refine jr_if2_ge_f jf_58_16 hc ?_
      refine jr_aload_n jf_58_19 rfl hl0 ?_
      replace h := obd_of h; obtain ⟨x6, hx6, h⟩ := h
      refine jr_getA jf_58_20 hx6 ?_
      refine jr_aload_n jf_58_23 rfl hl0 ?_
      replace h := obd_of h; obtain ⟨x7, hx7, h⟩ := h
      refine jr_getI jf_58_24 hx7 ?_
      refine jr_aload_n_A jf_58_27 rfl hl1 ?_
      replace h := obd_of h; obtain ⟨a8, rfl, h⟩ := h
      replace h := obd_of h; obtain ⟨a9, rfl, h⟩ := h
      replace h := obd_of h; obtain ⟨μ10, hμ10, h⟩ := h
      refine jr_aastore jf_58_28 hμ10 ?_
      refine jr_aload_n jf_58_29 rfl hl0 ?_
      refine jr_dup jf_58_30 rfl ?_
      replace h := obd_of h; obtain ⟨x11, hx11, h⟩ := h
      refine jr_getI jf_58_31 hx11 ?_
      refine jr_iconst jf_58_34 jc_i_1 ?_
      refine jr_iadd jf_58_35 ?_
      replace h := obd_of h; obtain ⟨μ12, hμ12, h⟩ := h
      refine jr_putI jf_58_36 rfl hμ12 ?_
      obtain rfl := Option.some.inj h
      exact jr_return jf_58_39 jmt_58
set_option maxRecDepth 10000 in
set_option maxHeartbeats 4000000 in
theorem r_Chain_tie {B : Nat} {SA : Nat → Nat} {d : Nat} (hd : 0 ≤ d) : ∀ (v0 : Nat) (v1 : Option Nat) (μ : JMem) (μ9 : JMem), g_Chain_tie B v0 v1 μ = some μ9 → jR B SA d m_Chain_tie 0 (lv_args 0 [.ref v0, rv v1]) [] μ none μ9 := by
  intro v0 v1 μ μ9 h
  exact r_Chain_tie_e hd (lv_args 0 _) _ _ _ _ (by simp [lv_args, jget, rv_cat, cat_int, cat_long, cat_double, cat_float, cat_ref]) (by simp [lv_args, jget, rv_cat, cat_int, cat_long, cat_double, cat_float, cat_ref]) h
/-! FilterBench$Loop.<init>(IIIJ)V -/
set_option maxRecDepth 10000 in
set_option maxHeartbeats 4000000 in
theorem r_Loop_init_e {B : Nat} {SA : Nat → Nat} {d : Nat} (hd : 2 ≤ d) : ∀ (L : JLoc) (v0 : Nat) (v1 : Int32) (v2 : Int32) (v3 : Int32) (v4 : Int64) (μ : JMem) (μ9 : JMem), jget L 0 = .ref v0 → jget L 1 = .int v1 → jget L 2 = .int v2 → jget L 3 = .int v3 → jget L 4 = .long v4 → g_Loop_init B v0 v1 v2 v3 v4 μ = some μ9 → jR B SA d m_Loop_init 0 L [] μ none μ9 := by
  intro L v0 v1 v2 v3 v4 μ μ9 hl0 hl1 hl2 hl3 hl4 h
  unfold g_Loop_init at h
  refine jr_aload_n jf_57_0 rfl hl0 ?_
  refine jr_oinit jf_57_1 (by omega) (Nat.le_of_ble_eq_true rfl) ?_
  refine jr_aload_n jf_57_4 rfl hl0 ?_
  refine jr_iload_n jf_57_5 rfl hl1 ?_
  replace h := obd_of h; obtain ⟨μ1, hμ1, h⟩ := h
  refine jr_putI jf_57_6 rfl hμ1 ?_
  refine jr_aload_n jf_57_9 rfl hl0 ?_
  refine jr_iload_n jf_57_10 rfl hl2 ?_
  replace h := obd_of h; obtain ⟨μ2, hμ2, h⟩ := h
  refine jr_putI jf_57_11 rfl hμ2 ?_
  refine jr_aload_n jf_57_14 rfl hl0 ?_
  refine jr_lload jf_57_15 hl4 ?_
  replace h := obd_of h; obtain ⟨μ3, hμ3, h⟩ := h
  refine jr_putJ jf_57_17 rfl hμ3 ?_
  refine jr_aload_n jf_57_20 rfl hl0 ?_
  replace h := jnew_of h
  refine jr_new jf_57_21 ?_
  refine jr_dup jf_57_24 rfl ?_
  refine jr_iload_n jf_57_25 rfl hl3 ?_
  replace h := obd_of h; obtain ⟨μ6, hμ6, h⟩ := h
  refine jr_P1v_1 jf_57_26 (by omega) (r_Row_init (by omega) _ _ _ _ hμ6) (Nat.le_of_ble_eq_true rfl) jml_11 (Nat.le_of_ble_eq_true rfl) ?_
  replace h := obd_of h; obtain ⟨μ7, hμ7, h⟩ := h
  refine jr_putA (x := some _) jf_57_29 rfl hμ7 ?_
  obtain rfl := Option.some.inj h
  exact jr_return jf_57_32 jmt_57
set_option maxRecDepth 10000 in
set_option maxHeartbeats 4000000 in
theorem r_Loop_init {B : Nat} {SA : Nat → Nat} {d : Nat} (hd : 2 ≤ d) : ∀ (v0 : Nat) (v1 : Int32) (v2 : Int32) (v3 : Int32) (v4 : Int64) (μ : JMem) (μ9 : JMem), g_Loop_init B v0 v1 v2 v3 v4 μ = some μ9 → jR B SA d m_Loop_init 0 (lv_args 0 [.ref v0, .int v1, .int v2, .int v3, .long v4]) [] μ none μ9 := by
  intro v0 v1 v2 v3 v4 μ μ9 h
  exact r_Loop_init_e hd (lv_args 0 _) _ _ _ _ _ _ _ (by simp [lv_args, jget, rv_cat, cat_int, cat_long, cat_double, cat_float, cat_ref]) (by simp [lv_args, jget, rv_cat, cat_int, cat_long, cat_double, cat_float, cat_ref]) (by simp [lv_args, jget, rv_cat, cat_int, cat_long, cat_double, cat_float, cat_ref]) (by simp [lv_args, jget, rv_cat, cat_int, cat_long, cat_double, cat_float, cat_ref]) (by simp [lv_args, jget, rv_cat, cat_int, cat_long, cat_double, cat_float, cat_ref]) h
/-! FilterBench.loop(IIIIJ)I -/
set_option maxRecDepth 10000 in
set_option maxHeartbeats 4000000 in
theorem r_B_loop_e {N B : Nat} {SA : Nat → Nat} {d : Nat} (hd : 3 ≤ d) : ∀ (L : JLoc) (v0 : Nat) (v1 : Int32) (v2 : Int32) (v3 : Int32) (v4 : Int32) (v5 : Int64) (μ : JMem) (r : Int32) (μ9 : JMem), jget L 0 = .ref v0 → jget L 1 = .int v1 → jget L 2 = .int v2 → jget L 3 = .int v3 → jget L 4 = .int v4 → jget L 5 = .long v5 → g_B_loop N B v0 v1 v2 v3 v4 v5 μ = some (r, μ9) → jR B SA d m_B_loop 0 L [] μ (some (.int r)) μ9 := by
  intro L v0 v1 v2 v3 v4 v5 μ r μ9 hl0 hl1 hl2 hl3 hl4 hl5 h
  unfold g_B_loop at h
  refine jr_aload_n jf_54_0 rfl hl0 ?_
  refine jr_iload_n jf_54_1 rfl hl1 ?_
  replace h := jgd_of h; obtain ⟨hb1, h⟩ := h
  replace h := obd_of h; obtain ⟨x2, hx2, h⟩ := h
  refine jr_V6_1 jf_54_2 hb1 (by omega) (r_B_chainAt (by omega) _ _ _ _ hx2) (Nat.le_of_ble_eq_true rfl) jml_48 (Nat.le_of_ble_eq_true rfl) ?_
  refine jr_astore_A jf_54_5 jml_54 (by decide) ?_
  refine jr_aload_A jf_54_7 jg1_same ?_
  replace h := jon_or h; rcases h with ⟨rfl, h⟩ | ⟨a3, rfl, h⟩
  · refine jr_ifnull_n jf_54_9 ?_
    refine jr_iconst jf_54_29 jc_i_m1 ?_
    obtain ⟨rfl, rfl⟩ := Prod.mk.inj (Option.some.inj h)
    exact jr_retI jf_54_30 jmt_54
  · refine jr_ifnull_s jf_54_9 ?_
    refine jr_aload jf_54_12 jg1_same ?_
    replace h := obd_of h; obtain ⟨x4, hx4, h⟩ := h
    refine jr_getA jf_54_14 hx4 ?_
    replace h := jon_or h; rcases h with ⟨rfl, h⟩ | ⟨a5, rfl, h⟩
    · refine jr_ifnonnull_n jf_54_17 ?_
      refine jr_aload jf_54_20 jg1_same ?_
      replace h := obd_of h; obtain ⟨x6, hx6, h⟩ := h
      refine jr_getI jf_54_22 hx6 ?_
      refine jr_iconst jf_54_25 jc_i_3 ?_
      replace h := ite_or h; rcases h with ⟨hc, h⟩ | ⟨hc, h⟩
      · refine jr_if2_lt_t jf_54_26 hc ?_
        refine jr_iload_n jf_54_31 rfl (jg1_ne rfl hl2) ?_
        replace h := ite_or h; rcases h with ⟨hc, h⟩ | ⟨hc, h⟩
        · refine jr_if_lt_t jf_54_32 hc ?_
          refine jr_iconst jf_54_72 jc_i_m1 ?_
          obtain ⟨rfl, rfl⟩ := Prod.mk.inj (Option.some.inj h)
          exact jr_retI jf_54_73 jmt_54
        · refine jr_if_lt_f jf_54_32 hc ?_
          refine jr_iload_n jf_54_35 rfl (jg1_ne rfl hl2) ?_
          refine jr_iload_n jf_54_36 rfl (jg1_ne rfl hl3) ?_
          replace h := ite_or h; rcases h with ⟨hc, h⟩ | ⟨hc, h⟩
          · refine jr_if2_gt_t jf_54_37 hc ?_
            refine jr_iconst jf_54_72 jc_i_m1 ?_
            obtain ⟨rfl, rfl⟩ := Prod.mk.inj (Option.some.inj h)
            exact jr_retI jf_54_73 jmt_54
          · refine jr_if2_gt_f jf_54_37 hc ?_
            refine jr_iload_n jf_54_40 rfl (jg1_ne rfl hl3) ?_
            refine jr_aload jf_54_41 jg1_same ?_
            replace h := obd_of h; obtain ⟨x7, hx7, h⟩ := h
            refine jr_getI jf_54_43 hx7 ?_
            replace h := ite_or h; rcases h with ⟨hc, h⟩ | ⟨hc, h⟩
            · refine jr_if2_ge_t jf_54_46 hc ?_
              refine jr_iconst jf_54_72 jc_i_m1 ?_
              obtain ⟨rfl, rfl⟩ := Prod.mk.inj (Option.some.inj h)
              exact jr_retI jf_54_73 jmt_54
            · refine jr_if2_ge_f jf_54_46 hc ?_
              refine jr_iload jf_54_49 (jg1_ne rfl hl4) ?_
              refine jr_iconst jf_54_51 jc_i_1 ?_
              replace h := ite_or h; rcases h with ⟨hc, h⟩ | ⟨hc, h⟩
              · refine jr_if2_lt_t jf_54_52 hc ?_
                refine jr_iconst jf_54_72 jc_i_m1 ?_
                obtain ⟨rfl, rfl⟩ := Prod.mk.inj (Option.some.inj h)
                exact jr_retI jf_54_73 jmt_54
              · refine jr_if2_lt_f jf_54_52 hc ?_
                refine jr_iload jf_54_55 (jg1_ne rfl hl4) ?_
                refine jr_bipush jf_54_57 jc_b_64 ?_
                replace h := ite_or h; rcases h with ⟨hc, h⟩ | ⟨hc, h⟩
                · refine jr_if2_gt_t jf_54_59 hc ?_
                  refine jr_iconst jf_54_72 jc_i_m1 ?_
                  obtain ⟨rfl, rfl⟩ := Prod.mk.inj (Option.some.inj h)
                  exact jr_retI jf_54_73 jmt_54
                · refine jr_if2_gt_f jf_54_59 hc ?_
                  refine jr_aload jf_54_62 jg1_same ?_
                  refine jr_iload_n jf_54_64 rfl (jg1_ne rfl hl2) ?_
                  refine jr_iload_n jf_54_65 rfl (jg1_ne rfl hl3) ?_
                  replace h := jgd_of h; obtain ⟨hb8, h⟩ := h
                  replace h := obd_of h; obtain ⟨x9, hx9, h⟩ := h
                  refine jr_V6_2 jf_54_66 hb8 (by omega) (r_Chain_changesRate (by omega) _ _ _ _ _ hx9) (Nat.le_of_ble_eq_true rfl) jml_55 (Nat.le_of_ble_eq_true rfl) ?_
                  replace h := ite_or h; rcases h with ⟨hc, h⟩ | ⟨hc, h⟩
                  · refine jr_ifz_eq_f jf_54_69 hc ?_
                    refine jr_iconst jf_54_72 jc_i_m1 ?_
                    obtain ⟨rfl, rfl⟩ := Prod.mk.inj (Option.some.inj h)
                    exact jr_retI jf_54_73 jmt_54
                  · refine jr_ifz_eq_t jf_54_69 hc ?_
                    refine jr_aload_n jf_54_74 rfl (jg1_ne rfl hl0) ?_
                    refine jr_aload jf_54_75 jg1_same ?_
                    replace h := jgd_of h; obtain ⟨hb10, h⟩ := h
                    replace h := obd_of h; obtain ⟨x11, hx11, h⟩ := h
                    refine jr_V6_0 jf_54_77 hb10 (by omega) (r_Chain_sort (by omega) _ _ _ hx11) (Nat.le_of_ble_eq_true rfl) jml_49 (Nat.le_of_ble_eq_true rfl) ?_
                    replace h := jgd_of h; obtain ⟨hb12, h⟩ := h
                    replace h := obd_of h; obtain ⟨x13, hx13, h⟩ := h
                    refine jr_V6_1 jf_54_80 hb12 (by omega) (r_B_numbersOf (by omega) _ _ _ _ hx13) (Nat.le_of_ble_eq_true rfl) jml_6 (Nat.le_of_ble_eq_true rfl) ?_
                    refine jr_astore_A jf_54_83 jml_54 (by decide) ?_
                    refine jr_aload_A jf_54_85 jg1_same ?_
                    replace h := jon_or h; rcases h with ⟨rfl, h⟩ | ⟨a14, rfl, h⟩
                    · refine jr_ifnull_n jf_54_87 ?_
                      refine jr_iconst jf_54_100 jc_i_m1 ?_
                      obtain ⟨rfl, rfl⟩ := Prod.mk.inj (Option.some.inj h)
                      exact jr_retI jf_54_101 jmt_54
                    · refine jr_ifnull_s jf_54_87 ?_
                      refine jr_aload jf_54_90 jg1_same ?_
                      refine jr_lload jf_54_92 (jg1_ne rfl (jg1_ne rfl hl5)) ?_
                      replace h := obd_of h; obtain ⟨x15, hx15, h⟩ := h
                      rcases ite_or hx15 with ⟨hb, hx⟩ | ⟨hb0, hx⟩
                      · refine jr_V8a_1 jf_54_94 hb (by omega) (r_Real_holds (by omega) _ _ _ _ hx) (Nat.le_of_ble_eq_true rfl) jml_15 (Nat.le_of_ble_eq_true rfl) ?_
                        replace h := ite_or h; rcases h with ⟨hc, h⟩ | ⟨hc, h⟩
                        · refine jr_ifz_ne_t jf_54_97 hc ?_
                          refine jr_aload jf_54_102 (jg1_pre (by first | rfl | exact rv_cat _) jg1_same) ?_
                          replace h := jnew_of h
                          refine jr_new jf_54_104 ?_
                          refine jr_dup jf_54_107 rfl ?_
                          refine jr_iload_n jf_54_108 rfl (jg1_ne rfl (jg1_ne rfl hl2)) ?_
                          refine jr_iload_n jf_54_109 rfl (jg1_ne rfl (jg1_ne rfl hl3)) ?_
                          refine jr_iload jf_54_110 (jg1_ne rfl (jg1_ne rfl hl4)) ?_
                          refine jr_aload jf_54_112 jg1_same ?_
                          refine jr_lload jf_54_114 (jg1_ne rfl (jg1_ne rfl hl5)) ?_
                          replace h := obd_of h; obtain ⟨x18, hx18, h⟩ := h
                          rcases ite_or hx18 with ⟨hb, hx⟩ | ⟨hb0, hx⟩
                          · refine jr_V8a_1 jf_54_116 hb (by omega) (r_Real_clean (by omega) _ _ _ _ hx) (Nat.le_of_ble_eq_true rfl) jml_17 (Nat.le_of_ble_eq_true rfl) ?_
                            replace h := obd_of h; obtain ⟨μ19, hμ19, h⟩ := h
                            refine jr_P1v_4 jf_54_119 (by omega) (r_Loop_init (by omega) _ _ _ _ _ _ _ hμ19) (Nat.le_of_ble_eq_true rfl) jml_57 (Nat.le_of_ble_eq_true rfl) ?_
                            replace h := jgd_of h; obtain ⟨hb20, h⟩ := h
                            replace h := obd_of h; obtain ⟨μ21, hμ21, h⟩ := h
                            refine jr_V6v_1 jf_54_122 hb20 (by omega) (r_Chain_tie (by omega) _ _ _ _ hμ21) (Nat.le_of_ble_eq_true rfl) jml_58 (by simp only [jcats_cons, jcats_nil, cat_int, cat_long, cat_double, cat_float, cat_ref, rv_cat]; decide) ?_
                            refine jr_aload jf_54_125 (jg1_pre (by first | rfl | exact rv_cat _) jg1_same) ?_
                            replace h := obd_of h; obtain ⟨x22, hx22, h⟩ := h
                            refine jr_getI jf_54_127 hx22 ?_
                            obtain ⟨rfl, rfl⟩ := Prod.mk.inj (Option.some.inj h)
                            exact jr_retI jf_54_130 jmt_54
                          · obtain ⟨hb, hx⟩ := jgd_of hx
                            obtain hx := Option.some.inj hx
                            refine jr_V8b_1 jf_54_116 hb0 hb (by omega) (r_Shorts_clean (by omega) _ _ _ _ hx) (Nat.le_of_ble_eq_true rfl) jml_19 (Nat.le_of_ble_eq_true rfl) ?_
                            replace h := obd_of h; obtain ⟨μ19, hμ19, h⟩ := h
                            refine jr_P1v_4 jf_54_119 (by omega) (r_Loop_init (by omega) _ _ _ _ _ _ _ hμ19) (Nat.le_of_ble_eq_true rfl) jml_57 (Nat.le_of_ble_eq_true rfl) ?_
                            replace h := jgd_of h; obtain ⟨hb20, h⟩ := h
                            replace h := obd_of h; obtain ⟨μ21, hμ21, h⟩ := h
                            refine jr_V6v_1 jf_54_122 hb20 (by omega) (r_Chain_tie (by omega) _ _ _ _ hμ21) (Nat.le_of_ble_eq_true rfl) jml_58 (by simp only [jcats_cons, jcats_nil, cat_int, cat_long, cat_double, cat_float, cat_ref, rv_cat]; decide) ?_
                            refine jr_aload jf_54_125 (jg1_pre (by first | rfl | exact rv_cat _) jg1_same) ?_
                            replace h := obd_of h; obtain ⟨x22, hx22, h⟩ := h
                            refine jr_getI jf_54_127 hx22 ?_
                            obtain ⟨rfl, rfl⟩ := Prod.mk.inj (Option.some.inj h)
                            exact jr_retI jf_54_130 jmt_54
                        · refine jr_ifz_ne_f jf_54_97 hc ?_
                          refine jr_iconst jf_54_100 jc_i_m1 ?_
                          obtain ⟨rfl, rfl⟩ := Prod.mk.inj (Option.some.inj h)
                          exact jr_retI jf_54_101 jmt_54
                      · obtain ⟨hb, hx⟩ := jgd_of hx
                        obtain hx := Option.some.inj hx
                        refine jr_V8b_1 jf_54_94 hb0 hb (by omega) (r_Shorts_holds (by omega) _ _ _ _ hx) (Nat.le_of_ble_eq_true rfl) jml_16 (Nat.le_of_ble_eq_true rfl) ?_
                        replace h := ite_or h; rcases h with ⟨hc, h⟩ | ⟨hc, h⟩
                        · refine jr_ifz_ne_t jf_54_97 hc ?_
                          refine jr_aload jf_54_102 (jg1_pre (by first | rfl | exact rv_cat _) jg1_same) ?_
                          replace h := jnew_of h
                          refine jr_new jf_54_104 ?_
                          refine jr_dup jf_54_107 rfl ?_
                          refine jr_iload_n jf_54_108 rfl (jg1_ne rfl (jg1_ne rfl hl2)) ?_
                          refine jr_iload_n jf_54_109 rfl (jg1_ne rfl (jg1_ne rfl hl3)) ?_
                          refine jr_iload jf_54_110 (jg1_ne rfl (jg1_ne rfl hl4)) ?_
                          refine jr_aload jf_54_112 jg1_same ?_
                          refine jr_lload jf_54_114 (jg1_ne rfl (jg1_ne rfl hl5)) ?_
                          replace h := obd_of h; obtain ⟨x18, hx18, h⟩ := h
                          rcases ite_or hx18 with ⟨hb, hx⟩ | ⟨hb0, hx⟩
                          · refine jr_V8a_1 jf_54_116 hb (by omega) (r_Real_clean (by omega) _ _ _ _ hx) (Nat.le_of_ble_eq_true rfl) jml_17 (Nat.le_of_ble_eq_true rfl) ?_
                            replace h := obd_of h; obtain ⟨μ19, hμ19, h⟩ := h
                            refine jr_P1v_4 jf_54_119 (by omega) (r_Loop_init (by omega) _ _ _ _ _ _ _ hμ19) (Nat.le_of_ble_eq_true rfl) jml_57 (Nat.le_of_ble_eq_true rfl) ?_
                            replace h := jgd_of h; obtain ⟨hb20, h⟩ := h
                            replace h := obd_of h; obtain ⟨μ21, hμ21, h⟩ := h
                            refine jr_V6v_1 jf_54_122 hb20 (by omega) (r_Chain_tie (by omega) _ _ _ _ hμ21) (Nat.le_of_ble_eq_true rfl) jml_58 (by simp only [jcats_cons, jcats_nil, cat_int, cat_long, cat_double, cat_float, cat_ref, rv_cat]; decide) ?_
                            refine jr_aload jf_54_125 (jg1_pre (by first | rfl | exact rv_cat _) jg1_same) ?_
                            replace h := obd_of h; obtain ⟨x22, hx22, h⟩ := h
                            refine jr_getI jf_54_127 hx22 ?_
                            obtain ⟨rfl, rfl⟩ := Prod.mk.inj (Option.some.inj h)
                            exact jr_retI jf_54_130 jmt_54
                          · obtain ⟨hb, hx⟩ := jgd_of hx
                            obtain hx := Option.some.inj hx
                            refine jr_V8b_1 jf_54_116 hb0 hb (by omega) (r_Shorts_clean (by omega) _ _ _ _ hx) (Nat.le_of_ble_eq_true rfl) jml_19 (Nat.le_of_ble_eq_true rfl) ?_
                            replace h := obd_of h; obtain ⟨μ19, hμ19, h⟩ := h
                            refine jr_P1v_4 jf_54_119 (by omega) (r_Loop_init (by omega) _ _ _ _ _ _ _ hμ19) (Nat.le_of_ble_eq_true rfl) jml_57 (Nat.le_of_ble_eq_true rfl) ?_
                            replace h := jgd_of h; obtain ⟨hb20, h⟩ := h
                            replace h := obd_of h; obtain ⟨μ21, hμ21, h⟩ := h
                            refine jr_V6v_1 jf_54_122 hb20 (by omega) (r_Chain_tie (by omega) _ _ _ _ hμ21) (Nat.le_of_ble_eq_true rfl) jml_58 (by simp only [jcats_cons, jcats_nil, cat_int, cat_long, cat_double, cat_float, cat_ref, rv_cat]; decide) ?_
                            refine jr_aload jf_54_125 (jg1_pre (by first | rfl | exact rv_cat _) jg1_same) ?_
                            replace h := obd_of h; obtain ⟨x22, hx22, h⟩ := h
                            refine jr_getI jf_54_127 hx22 ?_
                            obtain ⟨rfl, rfl⟩ := Prod.mk.inj (Option.some.inj h)
                            exact jr_retI jf_54_130 jmt_54
                        · refine jr_ifz_ne_f jf_54_97 hc ?_
                          refine jr_iconst jf_54_100 jc_i_m1 ?_
                          obtain ⟨rfl, rfl⟩ := Prod.mk.inj (Option.some.inj h)
                          exact jr_retI jf_54_101 jmt_54
      · refine jr_if2_lt_f jf_54_26 hc ?_
        refine jr_iconst jf_54_29 jc_i_m1 ?_
        obtain ⟨rfl, rfl⟩ := Prod.mk.inj (Option.some.inj h)
        exact jr_retI jf_54_30 jmt_54
    · refine jr_ifnonnull_s jf_54_17 ?_
      refine jr_iconst jf_54_29 jc_i_m1 ?_
      obtain ⟨rfl, rfl⟩ := Prod.mk.inj (Option.some.inj h)
      exact jr_retI jf_54_30 jmt_54
set_option maxRecDepth 10000 in
set_option maxHeartbeats 4000000 in
theorem r_B_loop {N B : Nat} {SA : Nat → Nat} {d : Nat} (hd : 3 ≤ d) : ∀ (v0 : Nat) (v1 : Int32) (v2 : Int32) (v3 : Int32) (v4 : Int32) (v5 : Int64) (μ : JMem) (r : Int32) (μ9 : JMem), g_B_loop N B v0 v1 v2 v3 v4 v5 μ = some (r, μ9) → jR B SA d m_B_loop 0 (lv_args 0 [.ref v0, .int v1, .int v2, .int v3, .int v4, .long v5]) [] μ (some (.int r)) μ9 := by
  intro v0 v1 v2 v3 v4 v5 μ r μ9 h
  exact r_B_loop_e hd (lv_args 0 _) _ _ _ _ _ _ _ _ _ (by simp [lv_args, jget, rv_cat, cat_int, cat_long, cat_double, cat_float, cat_ref]) (by simp [lv_args, jget, rv_cat, cat_int, cat_long, cat_double, cat_float, cat_ref]) (by simp [lv_args, jget, rv_cat, cat_int, cat_long, cat_double, cat_float, cat_ref]) (by simp [lv_args, jget, rv_cat, cat_int, cat_long, cat_double, cat_float, cat_ref]) (by simp [lv_args, jget, rv_cat, cat_int, cat_long, cat_double, cat_float, cat_ref]) (by simp [lv_args, jget, rv_cat, cat_int, cat_long, cat_double, cat_float, cat_ref]) h
/-! FilterBench.within(II)Z -/
set_option maxRecDepth 10000 in
set_option maxHeartbeats 4000000 in
theorem r_B_within_e {N B : Nat} {SA : Nat → Nat} {d : Nat} (hd : 3 ≤ d) : ∀ (L : JLoc) (v0 : Nat) (v1 : Int32) (v2 : Int32) (μ : JMem) (r : Bool) (μ9 : JMem), jget L 0 = .ref v0 → jget L 1 = .int v1 → jget L 2 = .int v2 → g_B_within N B v0 v1 v2 μ = some (r, μ9) → jR B SA d m_B_within 0 L [] μ (some (.int (jb r))) μ9 := by
  intro L v0 v1 v2 μ r μ9 hl0 hl1 hl2 h
  unfold g_B_within at h
  refine jr_aload_n jf_59_0 rfl hl0 ?_
  refine jr_iload_n jf_59_1 rfl hl1 ?_
  replace h := jgd_of h; obtain ⟨hb1, h⟩ := h
  replace h := obd_of h; obtain ⟨x2, hx2, h⟩ := h
  refine jr_V6_1 jf_59_2 hb1 (by omega) (r_B_sectionAt (by omega) _ _ _ _ hx2) (Nat.le_of_ble_eq_true rfl) jml_13 (Nat.le_of_ble_eq_true rfl) ?_
  refine jr_astore_n_A jf_59_5 rfl jml_59 (by decide) ?_
  refine jr_aload_n jf_59_6 rfl (jg1_ne rfl hl0) ?_
  refine jr_iload_n jf_59_7 rfl (jg1_pre rfl hl2) ?_
  replace h := jgd_of h; obtain ⟨hb3, h⟩ := h
  replace h := obd_of h; obtain ⟨x4, hx4, h⟩ := h
  refine jr_V6_1 jf_59_8 hb3 (by omega) (r_B_chainAt (by omega) _ _ _ _ hx4) (Nat.le_of_ble_eq_true rfl) jml_48 (Nat.le_of_ble_eq_true rfl) ?_
  refine jr_astore_A jf_59_11 jml_59 (by decide) ?_
  refine jr_aload_n_A jf_59_13 rfl (jg1_pre (by first | rfl | exact rv_cat _) jg1_same) ?_
  replace h := jon_or h; rcases h with ⟨rfl, h⟩ | ⟨a5, rfl, h⟩
  · refine jr_ifnull_n jf_59_14 ?_
    refine jr_iconst jf_59_45 jc_i_0 ?_
    obtain ⟨rfl, rfl⟩ := Prod.mk.inj (Option.some.inj h)
    exact jr_retZ (x := false) jf_59_46 jmt_59
  · refine jr_ifnull_s jf_59_14 ?_
    refine jr_aload_A jf_59_17 jg1_same ?_
    replace h := jon_or h; rcases h with ⟨rfl, h⟩ | ⟨a6, rfl, h⟩
    · refine jr_ifnull_n jf_59_19 ?_
      refine jr_iconst jf_59_45 jc_i_0 ?_
      obtain ⟨rfl, rfl⟩ := Prod.mk.inj (Option.some.inj h)
      exact jr_retZ (x := false) jf_59_46 jmt_59
    · refine jr_ifnull_s jf_59_19 ?_
      refine jr_aload_n jf_59_22 rfl (jg1_pre (by first | rfl | exact rv_cat _) jg1_same) ?_
      replace h := obd_of h; obtain ⟨x7, hx7, h⟩ := h
      refine jr_getI jf_59_23 hx7 ?_
      refine jr_bipush jf_59_26 jc_b_15 ?_
      replace h := ite_or h; rcases h with ⟨hc, h⟩ | ⟨hc, h⟩
      · refine jr_if2_ne_f jf_59_28 hc ?_
        refine jr_aload_n jf_59_31 rfl (jg1_pre (by first | rfl | exact rv_cat _) jg1_same) ?_
        replace h := obd_of h; obtain ⟨x8, hx8, h⟩ := h
        refine jr_getA jf_59_32 hx8 ?_
        replace h := jon_or h; rcases h with ⟨rfl, h⟩ | ⟨a9, rfl, h⟩
        · refine jr_ifnonnull_n jf_59_35 ?_
          refine jr_aload_n jf_59_38 rfl (jg1_pre (by first | rfl | exact rv_cat _) jg1_same) ?_
          replace h := obd_of h; obtain ⟨x10, hx10, h⟩ := h
          refine jr_getA jf_59_39 hx10 ?_
          replace h := jon_or h; rcases h with ⟨rfl, h⟩ | ⟨a11, rfl, h⟩
          · refine jr_ifnonnull_n jf_59_42 ?_
            refine jr_iconst jf_59_45 jc_i_0 ?_
            obtain ⟨rfl, rfl⟩ := Prod.mk.inj (Option.some.inj h)
            exact jr_retZ (x := false) jf_59_46 jmt_59
          · refine jr_ifnonnull_s jf_59_42 ?_
            refine jr_aload_n jf_59_47 rfl (jg1_pre (by first | rfl | exact rv_cat _) jg1_same) ?_
            replace h := obd_of h; obtain ⟨x12, hx12, h⟩ := h
            refine jr_getA jf_59_48 hx12 ?_
            replace h := obd_of h; obtain ⟨a13, rfl, h⟩ := h
            replace h := obd_of h; obtain ⟨x14, hx14, h⟩ := h
            refine jr_getI jf_59_51 hx14 ?_
            refine jr_aload jf_59_54 jg1_same ?_
            replace h := obd_of h; obtain ⟨x15, hx15, h⟩ := h
            refine jr_getI jf_59_56 hx15 ?_
            replace h := ite_or h; rcases h with ⟨hc, h⟩ | ⟨hc, h⟩
            · refine jr_if2_le_t jf_59_59 hc ?_
              refine jr_iconst jf_59_78 jc_i_0 ?_
              obtain ⟨rfl, rfl⟩ := Prod.mk.inj (Option.some.inj h)
              exact jr_retZ (x := false) jf_59_79 jmt_59
            · refine jr_if2_le_f jf_59_59 hc ?_
              refine jr_aload jf_59_62 jg1_same ?_
              replace h := obd_of h; obtain ⟨x16, hx16, h⟩ := h
              refine jr_getA jf_59_64 hx16 ?_
              replace h := jon_or h; rcases h with ⟨rfl, h⟩ | ⟨a17, rfl, h⟩
              · refine jr_ifnonnull_n jf_59_67 ?_
                refine jr_aload jf_59_70 jg1_same ?_
                replace h := obd_of h; obtain ⟨x18, hx18, h⟩ := h
                refine jr_getI jf_59_72 hx18 ?_
                replace h := ite_or h; rcases h with ⟨hc, h⟩ | ⟨hc, h⟩
                · refine jr_if_ne_f jf_59_75 hc ?_
                  refine jr_iconst jf_59_78 jc_i_0 ?_
                  obtain ⟨rfl, rfl⟩ := Prod.mk.inj (Option.some.inj h)
                  exact jr_retZ (x := false) jf_59_79 jmt_59
                · refine jr_if_ne_t jf_59_75 hc ?_
                  refine jr_aload jf_59_80 jg1_same ?_
                  replace h := jgd_of h; obtain ⟨hb19, h⟩ := h
                  replace h := obd_of h; obtain ⟨x20, hx20, h⟩ := h
                  refine jr_V6_0 jf_59_82 hb19 (by omega) (r_Chain_sort (by omega) _ _ _ hx20) (Nat.le_of_ble_eq_true rfl) jml_49 (Nat.le_of_ble_eq_true rfl) ?_
                  refine jr_aload_n jf_59_85 rfl (jg1_pre (by first | rfl | exact rv_cat _) jg1_same) ?_
                  replace h := obd_of h; obtain ⟨x21, hx21, h⟩ := h
                  refine jr_getI jf_59_86 hx21 ?_
                  replace h := ite_or h; rcases h with ⟨hc, h⟩ | ⟨hc, h⟩
                  · refine jr_if2_ne_f jf_59_89 hc ?_
                    refine jr_aload jf_59_92 jg1_same ?_
                    refine jr_iconst jf_59_94 jc_i_0 ?_
                    refine jr_aload jf_59_95 jg1_same ?_
                    replace h := obd_of h; obtain ⟨x22, hx22, h⟩ := h
                    refine jr_getI jf_59_97 hx22 ?_
                    refine jr_iconst jf_59_100 jc_i_1 ?_
                    refine jr_isub jf_59_101 ?_
                    replace h := jgd_of h; obtain ⟨hb23, h⟩ := h
                    replace h := obd_of h; obtain ⟨x24, hx24, h⟩ := h
                    refine jr_V6_2 jf_59_102 hb23 (by omega) (r_Chain_changesRate (by omega) _ _ _ _ _ hx24) (Nat.le_of_ble_eq_true rfl) jml_55 (Nat.le_of_ble_eq_true rfl) ?_
                    replace h := ite_or h; rcases h with ⟨hc, h⟩ | ⟨hc, h⟩
                    · refine jr_ifz_eq_f jf_59_105 hc ?_
                      refine jr_iconst jf_59_108 jc_i_0 ?_
                      obtain ⟨rfl, rfl⟩ := Prod.mk.inj (Option.some.inj h)
                      exact jr_retZ (x := false) jf_59_109 jmt_59
                    · refine jr_ifz_eq_t jf_59_105 hc ?_
                      refine jr_aload_n jf_59_110 rfl (jg1_pre (by first | rfl | exact rv_cat _) jg1_same) ?_
                      refine jr_aload jf_59_111 jg1_same ?_
                      replace h := obd_of h; obtain ⟨μ25, hμ25, h⟩ := h
                      refine jr_putA (x := some _) jf_59_113 rfl hμ25 ?_
                      refine jr_aload jf_59_116 jg1_same ?_
                      refine jr_aload_n jf_59_118 rfl (jg1_pre (by first | rfl | exact rv_cat _) jg1_same) ?_
                      replace h := obd_of h; obtain ⟨μ26, hμ26, h⟩ := h
                      refine jr_putA (x := some _) jf_59_119 rfl hμ26 ?_
                      refine jr_iconst jf_59_122 jc_i_1 ?_
                      obtain ⟨rfl, rfl⟩ := Prod.mk.inj (Option.some.inj h)
                      exact jr_retZ (x := true) jf_59_123 jmt_59
                  · refine jr_if2_ne_t jf_59_89 hc ?_
                    refine jr_iconst jf_59_108 jc_i_0 ?_
                    obtain ⟨rfl, rfl⟩ := Prod.mk.inj (Option.some.inj h)
                    exact jr_retZ (x := false) jf_59_109 jmt_59
              · refine jr_ifnonnull_s jf_59_67 ?_
                refine jr_iconst jf_59_78 jc_i_0 ?_
                obtain ⟨rfl, rfl⟩ := Prod.mk.inj (Option.some.inj h)
                exact jr_retZ (x := false) jf_59_79 jmt_59
        · refine jr_ifnonnull_s jf_59_35 ?_
          refine jr_iconst jf_59_45 jc_i_0 ?_
          obtain ⟨rfl, rfl⟩ := Prod.mk.inj (Option.some.inj h)
          exact jr_retZ (x := false) jf_59_46 jmt_59
      · refine jr_if2_ne_t jf_59_28 hc ?_
        refine jr_iconst jf_59_45 jc_i_0 ?_
        obtain ⟨rfl, rfl⟩ := Prod.mk.inj (Option.some.inj h)
        exact jr_retZ (x := false) jf_59_46 jmt_59
set_option maxRecDepth 10000 in
set_option maxHeartbeats 4000000 in
theorem r_B_within {N B : Nat} {SA : Nat → Nat} {d : Nat} (hd : 3 ≤ d) : ∀ (v0 : Nat) (v1 : Int32) (v2 : Int32) (μ : JMem) (r : Bool) (μ9 : JMem), g_B_within N B v0 v1 v2 μ = some (r, μ9) → jR B SA d m_B_within 0 (lv_args 0 [.ref v0, .int v1, .int v2]) [] μ (some (.int (jb r))) μ9 := by
  intro v0 v1 v2 μ r μ9 h
  exact r_B_within_e hd (lv_args 0 _) _ _ _ _ _ _ (by simp [lv_args, jget, rv_cat, cat_int, cat_long, cat_double, cat_float, cat_ref]) (by simp [lv_args, jget, rv_cat, cat_int, cat_long, cat_double, cat_float, cat_ref]) (by simp [lv_args, jget, rv_cat, cat_int, cat_long, cat_double, cat_float, cat_ref]) h
/-! FilterBench.chain(II)I -/
set_option maxRecDepth 10000 in
set_option maxHeartbeats 4000000 in
theorem r_B_chain_2_e {B : Nat} {SA : Nat → Nat} {d : Nat} (hd : 2 ≤ d) : ∀ (L : JLoc) (v0 : Nat) (v1 : Int32) (v2 : Int32) (μ : JMem) (r : Int32), jget L 0 = .ref v0 → jget L 1 = .int v1 → jget L 2 = .int v2 → g_B_chain_2 v0 v1 v2 μ.1 = some r → jR B SA d m_B_chain_2 0 L [] μ (some (.int r)) μ := by
  intro L v0 v1 v2 μ r hl0 hl1 hl2 h
  unfold g_B_chain_2 at h
  refine jr_aload_n jf_60_0 rfl hl0 ?_
  refine jr_iload_n jf_60_1 rfl hl1 ?_
  replace h := jgd_of h; obtain ⟨hb1, h⟩ := h
  replace h := obd_of h; obtain ⟨x2, hx2, h⟩ := h
  refine jr_V6_1 jf_60_2 hb1 (by omega) (r_B_chainAt (by omega) _ _ _ _ hx2) (Nat.le_of_ble_eq_true rfl) jml_48 (Nat.le_of_ble_eq_true rfl) ?_
  refine jr_astore_n_A jf_60_5 rfl jml_60 (by decide) ?_
  refine jr_aload_n_A jf_60_6 rfl jg1_same ?_
  replace h := jon_or h; rcases h with ⟨rfl, h⟩ | ⟨a3, rfl, h⟩
  · refine jr_ifnonnull_n jf_60_7 ?_
    refine jr_iconst jf_60_10 jc_i_m1 ?_
    obtain rfl := Option.some.inj h
    exact jr_retI jf_60_11 jmt_60
  · refine jr_ifnonnull_s jf_60_7 ?_
    refine jr_iload_n jf_60_12 rfl (jg1_pre rfl hl2) ?_
    refine jr_switch jf_60_13 ?_
    replace h := ite_or h; rcases h with ⟨hc, h⟩ | ⟨hc, h⟩
    · refine jsw_hit (by decide) hc ?_
      refine jr_aload_n jf_60_48 rfl jg1_same ?_
      replace h := obd_of h; obtain ⟨x4, hx4, h⟩ := h
      refine jr_getI jf_60_49 hx4 ?_
      obtain rfl := Option.some.inj h
      exact jr_retI jf_60_52 jmt_60
    · refine jsw_miss (by decide) hc (by decide : (0 : Int) + 1 = 1) ?_
      replace h := ite_or h; rcases h with ⟨hc, h⟩ | ⟨hc, h⟩
      · refine jsw_hit (by decide) hc ?_
        refine jr_aload_n jf_60_53 rfl jg1_same ?_
        replace h := obd_of h; obtain ⟨x5, hx5, h⟩ := h
        refine jr_getI jf_60_54 hx5 ?_
        obtain rfl := Option.some.inj h
        exact jr_retI jf_60_57 jmt_60
      · refine jsw_miss (by decide) hc (by decide : (1 : Int) + 1 = 2) ?_
        replace h := ite_or h; rcases h with ⟨hc, h⟩ | ⟨hc, h⟩
        · refine jsw_hit (by decide) hc ?_
          refine jr_aload_n jf_60_58 rfl jg1_same ?_
          replace h := obd_of h; obtain ⟨x6, hx6, h⟩ := h
          refine jr_getI jf_60_59 hx6 ?_
          obtain rfl := Option.some.inj h
          exact jr_retI jf_60_62 jmt_60
        · refine jsw_miss (by decide) hc (by decide : (2 : Int) + 1 = 3) ?_
          replace h := ite_or h; rcases h with ⟨hc, h⟩ | ⟨hc, h⟩
          · refine jsw_hit (by decide) hc ?_
            refine jr_aload_n jf_60_63 rfl jg1_same ?_
            replace h := obd_of h; obtain ⟨x7, hx7, h⟩ := h
            refine jr_getA jf_60_64 hx7 ?_
            replace h := jon_or h; rcases h with ⟨rfl, h⟩ | ⟨a8, rfl, h⟩
            · refine jr_ifnonnull_n jf_60_67 ?_
              refine jr_iconst jf_60_70 jc_i_m1 ?_
              refine jr_goto jf_60_71 ?_
              obtain rfl := Option.some.inj h
              exact jr_retI jf_60_81 jmt_60
            · refine jr_ifnonnull_s jf_60_67 ?_
              refine jr_aload_n jf_60_74 rfl jg1_same ?_
              replace h := obd_of h; obtain ⟨x9, hx9, h⟩ := h
              refine jr_getA jf_60_75 hx9 ?_
              replace h := obd_of h; obtain ⟨a10, rfl, h⟩ := h
              replace h := obd_of h; obtain ⟨x11, hx11, h⟩ := h
              refine jr_getI jf_60_78 hx11 ?_
              obtain rfl := Option.some.inj h
              exact jr_retI jf_60_81 jmt_60
          · refine jsw_miss (by decide) hc (by decide : (3 : Int) + 1 = 4) ?_
            replace h := ite_or h; rcases h with ⟨hc, h⟩ | ⟨hc, h⟩
            · refine jsw_hit (by decide) hc ?_
              refine jr_aload_n jf_60_82 rfl jg1_same ?_
              replace h := jgd_of h; obtain ⟨hb12, h⟩ := h
              replace h := obd_of h; obtain ⟨x13, hx13, h⟩ := h
              refine jr_V6_0 jf_60_83 hb12 (by omega) (r_Chain_sort (by omega) _ _ _ hx13) (Nat.le_of_ble_eq_true rfl) jml_49 (Nat.le_of_ble_eq_true rfl) ?_
              obtain rfl := Option.some.inj h
              exact jr_retI jf_60_86 jmt_60
            · refine jsw_miss (by decide) hc (by decide : (4 : Int) + 1 = 5) ?_
              refine jsw_end ?_
              refine jr_iconst jf_60_87 jc_i_m1 ?_
              obtain rfl := Option.some.inj h
              exact jr_retI jf_60_88 jmt_60
set_option maxRecDepth 10000 in
set_option maxHeartbeats 4000000 in
theorem r_B_chain_2 {B : Nat} {SA : Nat → Nat} {d : Nat} (hd : 2 ≤ d) : ∀ (v0 : Nat) (v1 : Int32) (v2 : Int32) (μ : JMem) (r : Int32), g_B_chain_2 v0 v1 v2 μ.1 = some r → jR B SA d m_B_chain_2 0 (lv_args 0 [.ref v0, .int v1, .int v2]) [] μ (some (.int r)) μ := by
  intro v0 v1 v2 μ r h
  exact r_B_chain_2_e hd (lv_args 0 _) _ _ _ _ _ (by simp [lv_args, jget, rv_cat, cat_int, cat_long, cat_double, cat_float, cat_ref]) (by simp [lv_args, jget, rv_cat, cat_int, cat_long, cat_double, cat_float, cat_ref]) (by simp [lv_args, jget, rv_cat, cat_int, cat_long, cat_double, cat_float, cat_ref]) h
/-! FilterBench.count(I)I -/
set_option maxRecDepth 10000 in
set_option maxHeartbeats 4000000 in
theorem r_B_count_e {B : Nat} {SA : Nat → Nat} {d : Nat} (hd : 0 ≤ d) : ∀ (L : JLoc) (v0 : Nat) (v1 : Int32) (μ : JMem) (r : Int32), jget L 0 = .ref v0 → jget L 1 = .int v1 → g_B_count v0 v1 μ.1 = some r → jR B SA d m_B_count 0 L [] μ (some (.int r)) μ := by
  intro L v0 v1 μ r hl0 hl1 h
  unfold g_B_count at h
  refine jr_iload_n jf_61_0 rfl hl1 ?_
  refine jr_switch jf_61_1 ?_
  replace h := ite_or h; rcases h with ⟨hc, h⟩ | ⟨hc, h⟩
  · refine jsw_hit (by decide) hc ?_
    refine jr_aload_n jf_61_28 rfl hl0 ?_
    replace h := obd_of h; obtain ⟨x1, hx1, h⟩ := h
    refine jr_getI jf_61_29 hx1 ?_
    obtain rfl := Option.some.inj h
    exact jr_retI jf_61_32 jmt_61
  · refine jsw_miss (by decide) hc (by decide : (0 : Int) + 1 = 1) ?_
    replace h := ite_or h; rcases h with ⟨hc, h⟩ | ⟨hc, h⟩
    · refine jsw_hit (by decide) hc ?_
      refine jr_aload_n jf_61_33 rfl hl0 ?_
      replace h := obd_of h; obtain ⟨x2, hx2, h⟩ := h
      refine jr_getI jf_61_34 hx2 ?_
      obtain rfl := Option.some.inj h
      exact jr_retI jf_61_37 jmt_61
    · refine jsw_miss (by decide) hc (by decide : (1 : Int) + 1 = 2) ?_
      replace h := ite_or h; rcases h with ⟨hc, h⟩ | ⟨hc, h⟩
      · refine jsw_hit (by decide) hc ?_
        refine jr_aload_n jf_61_38 rfl hl0 ?_
        replace h := obd_of h; obtain ⟨x3, hx3, h⟩ := h
        refine jr_getI jf_61_39 hx3 ?_
        obtain rfl := Option.some.inj h
        exact jr_retI jf_61_42 jmt_61
      · refine jsw_miss (by decide) hc (by decide : (2 : Int) + 1 = 3) ?_
        refine jsw_end ?_
        refine jr_iconst jf_61_43 jc_i_m1 ?_
        obtain rfl := Option.some.inj h
        exact jr_retI jf_61_44 jmt_61
set_option maxRecDepth 10000 in
set_option maxHeartbeats 4000000 in
theorem r_B_count {B : Nat} {SA : Nat → Nat} {d : Nat} (hd : 0 ≤ d) : ∀ (v0 : Nat) (v1 : Int32) (μ : JMem) (r : Int32), g_B_count v0 v1 μ.1 = some r → jR B SA d m_B_count 0 (lv_args 0 [.ref v0, .int v1]) [] μ (some (.int r)) μ := by
  intro v0 v1 μ r h
  exact r_B_count_e hd (lv_args 0 _) _ _ _ _ (by simp [lv_args, jget, rv_cat, cat_int, cat_long, cat_double, cat_float, cat_ref]) (by simp [lv_args, jget, rv_cat, cat_int, cat_long, cat_double, cat_float, cat_ref]) h
/-! FilterBench.fedAlone(I)LFilterBench$Chain; -/
set_option maxRecDepth 10000 in
set_option maxHeartbeats 4000000 in
theorem r_B_fedAlone_24 {B : Nat} {SA : Nat → Nat} {d : Nat} (hd : 1 ≤ d) : ∀ (L : JLoc) (μ : JMem) (r : Option Nat), g_B_fedAlone_24 μ.1 = some r → jR B SA d m_B_fedAlone 24 L [] μ (some (rv r)) μ := by
  intro L μ r h
  unfold g_B_fedAlone_24 at h
  refine jr_aconst_null jf_63_24 ?_
  refine jr_goto jf_63_25 ?_
  obtain rfl := Option.some.inj h
  exact jr_retA jf_63_29 jmt_63
set_option maxRecDepth 10000 in
set_option maxHeartbeats 4000000 in
theorem r_B_fedAlone_e {B : Nat} {SA : Nat → Nat} {d : Nat} (hd : 1 ≤ d) : ∀ (L : JLoc) (v0 : Nat) (v1 : Int32) (μ : JMem) (r : Option Nat), jget L 0 = .ref v0 → jget L 1 = .int v1 → g_B_fedAlone v0 v1 μ.1 = some r → jR B SA d m_B_fedAlone 0 L [] μ (some (rv r)) μ := by
  intro L v0 v1 μ r hl0 hl1 h
  unfold g_B_fedAlone at h
  refine jr_aload_n jf_63_0 rfl hl0 ?_
  refine jr_iload_n jf_63_1 rfl hl1 ?_
  replace h := jgd_of h; obtain ⟨hb1, h⟩ := h
  replace h := obd_of h; obtain ⟨x2, hx2, h⟩ := h
  refine jr_V6_1 jf_63_2 hb1 (by omega) (r_B_chainAt (by omega) _ _ _ _ hx2) (Nat.le_of_ble_eq_true rfl) jml_48 (Nat.le_of_ble_eq_true rfl) ?_
  refine jr_astore_n_A jf_63_5 rfl jml_63 (by decide) ?_
  refine jr_aload_n_A jf_63_6 rfl jg1_same ?_
  replace h := jon_or h; rcases h with ⟨rfl, h⟩ | ⟨a3, rfl, h⟩
  · refine jr_ifnull_n jf_63_7 ?_
    exact r_B_fedAlone_24 hd _  _ _ h
  · refine jr_ifnull_s jf_63_7 ?_
    refine jr_aload_n jf_63_10 rfl jg1_same ?_
    replace h := obd_of h; obtain ⟨x4, hx4, h⟩ := h
    refine jr_getI jf_63_11 hx4 ?_
    replace h := ite_or h; rcases h with ⟨hc, h⟩ | ⟨hc, h⟩
    · refine jr_if_eq_t jf_63_14 hc ?_
      exact r_B_fedAlone_24 hd _  _ _ h
    · refine jr_if_eq_f jf_63_14 hc ?_
      refine jr_aload_n jf_63_17 rfl jg1_same ?_
      replace h := obd_of h; obtain ⟨x5, hx5, h⟩ := h
      refine jr_getA jf_63_18 hx5 ?_
      replace h := jon_or h; rcases h with ⟨rfl, h⟩ | ⟨a6, rfl, h⟩
      · refine jr_ifnull_n jf_63_21 ?_
        refine jr_aload_n jf_63_28 rfl jg1_same ?_
        obtain rfl := Option.some.inj h
        exact jr_retA (x := some _) jf_63_29 jmt_63
      · refine jr_ifnull_s jf_63_21 ?_
        exact r_B_fedAlone_24 hd _  _ _ h
set_option maxRecDepth 10000 in
set_option maxHeartbeats 4000000 in
theorem r_B_fedAlone {B : Nat} {SA : Nat → Nat} {d : Nat} (hd : 1 ≤ d) : ∀ (v0 : Nat) (v1 : Int32) (μ : JMem) (r : Option Nat), g_B_fedAlone v0 v1 μ.1 = some r → jR B SA d m_B_fedAlone 0 (lv_args 0 [.ref v0, .int v1]) [] μ (some (rv r)) μ := by
  intro v0 v1 μ r h
  exact r_B_fedAlone_e hd (lv_args 0 _) _ _ _ _ (by simp [lv_args, jget, rv_cat, cat_int, cat_long, cat_double, cat_float, cat_ref]) (by simp [lv_args, jget, rv_cat, cat_int, cat_long, cat_double, cat_float, cat_ref]) h
/-! FilterBench$Chain.emit(J)V -/
set_option maxRecDepth 10000 in
set_option maxHeartbeats 4000000 in
theorem r_Chain_emit_84 {B : Nat} {SA : Nat → Nat} {d : Nat} (hd : 0 ≤ d) : ∀ (L : JLoc) (v0 : Nat) (s0 : Int32) (s1 : Nat) (μ : JMem) (μ9 : JMem), jget L 0 = .ref v0 → g_Chain_emit_84 B v0 s0 s1 μ = some μ9 → jR B SA d m_Chain_emit 84 L [.int s0, .ref s1] μ none μ9 := by
  intro L v0 s0 s1 μ μ9 hl0 h
  unfold g_Chain_emit_84 at h
  replace h := obd_of h; obtain ⟨μ1, hμ1, h⟩ := h
  refine jr_putI jf_113_84 rfl hμ1 ?_
  refine jr_aload_n jf_113_87 rfl hl0 ?_
  refine jr_dup jf_113_88 rfl ?_
  replace h := obd_of h; obtain ⟨x2, hx2, h⟩ := h
  refine jr_getI jf_113_89 hx2 ?_
  refine jr_iconst jf_113_92 jc_i_1 ?_
  refine jr_iadd jf_113_93 ?_
  replace h := obd_of h; obtain ⟨μ3, hμ3, h⟩ := h
  refine jr_putI jf_113_94 rfl hμ3 ?_
  obtain rfl := Option.some.inj h
  exact jr_return jf_113_97 jmt_113
set_option maxRecDepth 10000 in
set_option maxHeartbeats 4000000 in
theorem r_Chain_emit_55 {B : Nat} {SA : Nat → Nat} {d : Nat} (hd : 0 ≤ d) : ∀ (L : JLoc) (v0 : Nat) (s0 : Int32) (s1 : Nat) (μ : JMem) (μ9 : JMem), jget L 0 = .ref v0 → g_Chain_emit_55 B v0 s0 s1 μ = some μ9 → jR B SA d m_Chain_emit 55 L [.int s0, .ref s1] μ none μ9 := by
  intro L v0 s0 s1 μ μ9 hl0 h
  unfold g_Chain_emit_55 at h
  replace h := obd_of h; obtain ⟨μ1, hμ1, h⟩ := h
  refine jr_putI jf_113_55 rfl hμ1 ?_
  refine jr_aload_n jf_113_58 rfl hl0 ?_
  refine jr_aload_n jf_113_59 rfl hl0 ?_
  replace h := obd_of h; obtain ⟨x2, hx2, h⟩ := h
  refine jr_getI jf_113_60 hx2 ?_
  refine jr_aload_n jf_113_63 rfl hl0 ?_
  replace h := obd_of h; obtain ⟨x3, hx3, h⟩ := h
  refine jr_getA jf_113_64 hx3 ?_
  replace h := obd_of h; obtain ⟨a4, rfl, h⟩ := h
  replace h := obd_of h; obtain ⟨x5, hx5, h⟩ := h
  refine jr_arraylength jf_113_67 hx5 ?_
  replace h := ite_or h; rcases h with ⟨hc, h⟩ | ⟨hc, h⟩
  · refine jr_if2_ge_t jf_113_68 hc ?_
    refine jr_aload_n jf_113_80 rfl hl0 ?_
    replace h := obd_of h; obtain ⟨x6, hx6, h⟩ := h
    refine jr_getI jf_113_81 hx6 ?_
    exact r_Chain_emit_84 hd _ _ _ _ _ _ hl0 h
  · refine jr_if2_ge_f jf_113_68 hc ?_
    refine jr_aload_n jf_113_71 rfl hl0 ?_
    replace h := obd_of h; obtain ⟨x7, hx7, h⟩ := h
    refine jr_getI jf_113_72 hx7 ?_
    refine jr_iconst jf_113_75 jc_i_1 ?_
    refine jr_iadd jf_113_76 ?_
    refine jr_goto jf_113_77 ?_
    exact r_Chain_emit_84 hd _ _ _ _ _ _ hl0 h
set_option maxRecDepth 10000 in
set_option maxHeartbeats 4000000 in
theorem r_Chain_emit_e {B : Nat} {SA : Nat → Nat} {d : Nat} (hd : 0 ≤ d) : ∀ (L : JLoc) (v0 : Nat) (v1 : Int64) (μ : JMem) (μ9 : JMem), jget L 0 = .ref v0 → jget L 1 = .long v1 → g_Chain_emit B v0 v1 μ = some μ9 → jR B SA d m_Chain_emit 0 L [] μ none μ9 := by
  intro L v0 v1 μ μ9 hl0 hl1 h
  unfold g_Chain_emit at h
  refine jr_aload_n jf_113_0 rfl hl0 ?_
  replace h := obd_of h; obtain ⟨x1, hx1, h⟩ := h
  refine jr_getI jf_113_1 hx1 ?_
  replace h := ite_or h; rcases h with ⟨hc, h⟩ | ⟨hc, h⟩
  · refine jr_if_lt_t jf_113_4 hc ?_
    obtain rfl := Option.some.inj h
    exact jr_return jf_113_19 jmt_113
  · refine jr_if_lt_f jf_113_4 hc ?_
    refine jr_aload_n jf_113_7 rfl hl0 ?_
    replace h := obd_of h; obtain ⟨x2, hx2, h⟩ := h
    refine jr_getI jf_113_8 hx2 ?_
    refine jr_aload_n jf_113_11 rfl hl0 ?_
    replace h := obd_of h; obtain ⟨x3, hx3, h⟩ := h
    refine jr_getA jf_113_12 hx3 ?_
    replace h := obd_of h; obtain ⟨a4, rfl, h⟩ := h
    replace h := obd_of h; obtain ⟨x5, hx5, h⟩ := h
    refine jr_arraylength jf_113_15 hx5 ?_
    replace h := ite_or h; rcases h with ⟨hc, h⟩ | ⟨hc, h⟩
    · refine jr_if2_lt_t jf_113_16 hc ?_
      refine jr_aload_n jf_113_20 rfl hl0 ?_
      replace h := obd_of h; obtain ⟨x6, hx6, h⟩ := h
      refine jr_getA jf_113_21 hx6 ?_
      refine jr_aload_n jf_113_24 rfl hl0 ?_
      replace h := obd_of h; obtain ⟨x7, hx7, h⟩ := h
      refine jr_getI jf_113_25 hx7 ?_
      refine jr_lload_n jf_113_28 rfl hl1 ?_
      replace h := obd_of h; obtain ⟨a8, rfl, h⟩ := h
      replace h := obd_of h; obtain ⟨μ9, hμ9, h⟩ := h
      refine jr_lastore jf_113_29 hμ9 ?_
      refine jr_aload_n jf_113_30 rfl hl0 ?_
      refine jr_aload_n jf_113_31 rfl hl0 ?_
      replace h := obd_of h; obtain ⟨x10, hx10, h⟩ := h
      refine jr_getI jf_113_32 hx10 ?_
      refine jr_iconst jf_113_35 jc_i_1 ?_
      refine jr_iadd jf_113_36 ?_
      refine jr_aload_n jf_113_37 rfl hl0 ?_
      replace h := obd_of h; obtain ⟨x11, hx11, h⟩ := h
      refine jr_getA jf_113_38 hx11 ?_
      replace h := obd_of h; obtain ⟨a12, rfl, h⟩ := h
      replace h := obd_of h; obtain ⟨x13, hx13, h⟩ := h
      refine jr_arraylength jf_113_41 hx13 ?_
      replace h := ite_or h; rcases h with ⟨hc, h⟩ | ⟨hc, h⟩
      · refine jr_if2_lt_t jf_113_42 hc ?_
        refine jr_aload_n jf_113_49 rfl hl0 ?_
        replace h := obd_of h; obtain ⟨x14, hx14, h⟩ := h
        refine jr_getI jf_113_50 hx14 ?_
        refine jr_iconst jf_113_53 jc_i_1 ?_
        refine jr_iadd jf_113_54 ?_
        exact r_Chain_emit_55 hd _ _ _ _ _ _ hl0 h
      · refine jr_if2_lt_f jf_113_42 hc ?_
        refine jr_iconst jf_113_45 jc_i_0 ?_
        refine jr_goto jf_113_46 ?_
        exact r_Chain_emit_55 hd _ _ _ _ _ _ hl0 h
    · refine jr_if2_lt_f jf_113_16 hc ?_
      obtain rfl := Option.some.inj h
      exact jr_return jf_113_19 jmt_113
set_option maxRecDepth 10000 in
set_option maxHeartbeats 4000000 in
theorem r_Chain_emit {B : Nat} {SA : Nat → Nat} {d : Nat} (hd : 0 ≤ d) : ∀ (v0 : Nat) (v1 : Int64) (μ : JMem) (μ9 : JMem), g_Chain_emit B v0 v1 μ = some μ9 → jR B SA d m_Chain_emit 0 (lv_args 0 [.ref v0, .long v1]) [] μ none μ9 := by
  intro v0 v1 μ μ9 h
  exact r_Chain_emit_e hd (lv_args 0 _) _ _ _ _ (by simp [lv_args, jget, rv_cat, cat_int, cat_long, cat_double, cat_float, cat_ref]) (by simp [lv_args, jget, rv_cat, cat_int, cat_long, cat_double, cat_float, cat_ref]) h
/-! FilterBench$Chain.loopAt(I)LFilterBench$Loop; -/
set_option maxRecDepth 10000 in
set_option maxHeartbeats 4000000 in
theorem r_Chain_loopAt_21 {B : Nat} {SA : Nat → Nat} {d : Nat} (hd : 0 ≤ d) : ∀ (L : JLoc) (μ : JMem) (r : Option Nat), g_Chain_loopAt_21 μ.1 = some r → jR B SA d m_Chain_loopAt 21 L [] μ (some (rv r)) μ := by
  intro L μ r h
  unfold g_Chain_loopAt_21 at h
  refine jr_aconst_null jf_68_21 ?_
  refine jr_goto jf_68_22 ?_
  obtain rfl := Option.some.inj h
  exact jr_retA jf_68_31 jmt_68
set_option maxRecDepth 10000 in
set_option maxHeartbeats 4000000 in
theorem r_Chain_loopAt_e {B : Nat} {SA : Nat → Nat} {d : Nat} (hd : 0 ≤ d) : ∀ (L : JLoc) (v0 : Nat) (v1 : Int32) (μ : JMem) (r : Option Nat), jget L 0 = .ref v0 → jget L 1 = .int v1 → g_Chain_loopAt v0 v1 μ.1 = some r → jR B SA d m_Chain_loopAt 0 L [] μ (some (rv r)) μ := by
  intro L v0 v1 μ r hl0 hl1 h
  unfold g_Chain_loopAt at h
  refine jr_iload_n jf_68_0 rfl hl1 ?_
  replace h := ite_or h; rcases h with ⟨hc, h⟩ | ⟨hc, h⟩
  · refine jr_if_lt_t jf_68_1 hc ?_
    exact r_Chain_loopAt_21 hd _  _ _ h
  · refine jr_if_lt_f jf_68_1 hc ?_
    refine jr_iload_n jf_68_4 rfl hl1 ?_
    refine jr_aload_n jf_68_5 rfl hl0 ?_
    replace h := obd_of h; obtain ⟨x1, hx1, h⟩ := h
    refine jr_getI jf_68_6 hx1 ?_
    replace h := ite_or h; rcases h with ⟨hc, h⟩ | ⟨hc, h⟩
    · refine jr_if2_ge_t jf_68_9 hc ?_
      exact r_Chain_loopAt_21 hd _  _ _ h
    · refine jr_if2_ge_f jf_68_9 hc ?_
      refine jr_iload_n jf_68_12 rfl hl1 ?_
      refine jr_aload_n jf_68_13 rfl hl0 ?_
      replace h := obd_of h; obtain ⟨x2, hx2, h⟩ := h
      refine jr_getA jf_68_14 hx2 ?_
      replace h := obd_of h; obtain ⟨a3, rfl, h⟩ := h
      replace h := obd_of h; obtain ⟨x4, hx4, h⟩ := h
      refine jr_arraylength jf_68_17 hx4 ?_
      replace h := ite_or h; rcases h with ⟨hc, h⟩ | ⟨hc, h⟩
      · refine jr_if2_lt_t jf_68_18 hc ?_
        refine jr_aload_n jf_68_25 rfl hl0 ?_
        replace h := obd_of h; obtain ⟨x5, hx5, h⟩ := h
        refine jr_getA jf_68_26 hx5 ?_
        refine jr_iload_n jf_68_29 rfl hl1 ?_
        replace h := obd_of h; obtain ⟨a6, rfl, h⟩ := h
        replace h := obd_of h; obtain ⟨x7, hx7, h⟩ := h
        refine jr_aaload jf_68_30 hx7 ?_
        obtain rfl := Option.some.inj h
        exact jr_retA jf_68_31 jmt_68
      · refine jr_if2_lt_f jf_68_18 hc ?_
        exact r_Chain_loopAt_21 hd _  _ _ h
set_option maxRecDepth 10000 in
set_option maxHeartbeats 4000000 in
theorem r_Chain_loopAt {B : Nat} {SA : Nat → Nat} {d : Nat} (hd : 0 ≤ d) : ∀ (v0 : Nat) (v1 : Int32) (μ : JMem) (r : Option Nat), g_Chain_loopAt v0 v1 μ.1 = some r → jR B SA d m_Chain_loopAt 0 (lv_args 0 [.ref v0, .int v1]) [] μ (some (rv r)) μ := by
  intro v0 v1 μ r h
  exact r_Chain_loopAt_e hd (lv_args 0 _) _ _ _ _ (by simp [lv_args, jget, rv_cat, cat_int, cat_long, cat_double, cat_float, cat_ref]) (by simp [lv_args, jget, rv_cat, cat_int, cat_long, cat_double, cat_float, cat_ref]) h
/-! FilterBench$Real.shifted(JI)J -/
set_option maxRecDepth 10000 in
set_option maxHeartbeats 4000000 in
theorem r_Real_shifted_e {B : Nat} {SA : Nat → Nat} {d : Nat} (hd : 0 ≤ d) : ∀ (L : JLoc) (v0 : Int64) (v2 : Int32) (μ : JMem) (r : Int64), jget L 0 = .long v0 → jget L 2 = .int v2 → g_Real_shifted v0 v2 = r → jR B SA d m_Real_shifted 0 L [] μ (some (.long r)) μ := by
  intro L v0 v2 μ r hl0 hl2 h
  unfold g_Real_shifted at h
  refine jr_iload_n jf_77_0 rfl hl2 ?_
  replace h := ite_or h; rcases h with ⟨hc, h⟩ | ⟨hc, h⟩
  · refine jr_if_gt_t jf_77_1 hc ?_
    refine jr_iload_n jf_77_6 rfl hl2 ?_
    refine jr_bipush jf_77_7 jc_b_62 ?_
    replace h := ite_or h; rcases h with ⟨hc, h⟩ | ⟨hc, h⟩
    · refine jr_if2_le_t jf_77_9 hc ?_
      refine jr_lload_n jf_77_14 rfl hl0 ?_
      refine jr_iload_n jf_77_15 rfl hl2 ?_
      refine jr_lushr jf_77_16 ?_
      refine jr_lstore_n jf_77_17 rfl jml_77 (by decide) ?_
      replace h := jlet_of h
      refine jr_lload_n jf_77_18 rfl jg2_same ?_
      refine jr_iload_n jf_77_19 rfl (jg2_pre rfl hl2) ?_
      refine jr_lshl jf_77_20 ?_
      refine jr_lload_n jf_77_21 rfl (jg2_ne rfl hl0) ?_
      refine jr_lcmp jf_77_22 ?_
      replace h := ite_or h; rcases h with ⟨hc, h⟩ | ⟨hc, h⟩
      · refine jr_ifl_ne_f jf_77_23 hc ?_
        refine jr_lload_n jf_77_26 rfl jg2_same ?_
        refine jr_goto jf_77_27 ?_
        subst h
        exact jr_retJ jf_77_33 jmt_77
      · refine jr_ifl_ne_t jf_77_23 hc ?_
        refine jr_lload_n jf_77_30 rfl jg2_same ?_
        refine jr_lconst1 jf_77_31 ?_
        refine jr_lor jf_77_32 ?_
        subst h
        exact jr_retJ jf_77_33 jmt_77
    · refine jr_if2_le_f jf_77_9 hc ?_
      refine jr_lconst1 jf_77_12 ?_
      subst h
      exact jr_retJ jf_77_13 jmt_77
  · refine jr_if_gt_f jf_77_1 hc ?_
    refine jr_lload_n jf_77_4 rfl hl0 ?_
    subst h
    exact jr_retJ jf_77_5 jmt_77
set_option maxRecDepth 10000 in
set_option maxHeartbeats 4000000 in
theorem r_Real_shifted {B : Nat} {SA : Nat → Nat} {d : Nat} (hd : 0 ≤ d) : ∀ (v0 : Int64) (v2 : Int32) (μ : JMem) (r : Int64), g_Real_shifted v0 v2 = r → jR B SA d m_Real_shifted 0 (lv_args 0 [.long v0, .int v2]) [] μ (some (.long r)) μ := by
  intro v0 v2 μ r h
  exact r_Real_shifted_e hd (lv_args 0 _) _ _ _ _ (by simp [lv_args, jget, rv_cat, cat_int, cat_long, cat_double, cat_float, cat_ref]) (by simp [lv_args, jget, rv_cat, cat_int, cat_long, cat_double, cat_float, cat_ref]) h
/-! FilterBench$Real.added(ZJZJ)J -/
set_option maxRecDepth 10000 in
set_option maxHeartbeats 4000000 in
theorem r_Real_added_62 {B : Nat} {SA : Nat → Nat} {d : Nat} (hd : 2 ≤ d) : ∀ (L : JLoc) (v0 : Nat) (v1 : Bool) (v7 : Int32) (s0 : Int64) (μ : JMem) (r : Int64), jget L 0 = .ref v0 → jget L 1 = .int (jb v1) → jget L 7 = .int v7 → g_Real_added_62 v0 v1 v7 s0 μ.1 = some r → jR B SA d m_Real_added 62 L [.long s0] μ (some (.long r)) μ := by
  intro L v0 v1 v7 s0 μ r hl0 hl1 hl7 h
  unfold g_Real_added_62 at h
  refine jr_lstore jf_76_62 jml_76 (by decide) ?_
  refine jr_lload jf_76_64 jg2_same ?_
  refine jr_lconst0 jf_76_66 ?_
  refine jr_lcmp jf_76_67 ?_
  replace h := ite_or h; rcases h with ⟨hc, h⟩ | ⟨hc, h⟩
  · refine jr_ifl_ne_f jf_76_68 hc ?_
    refine jr_lconst0 jf_76_71 ?_
    refine jr_goto jf_76_72 ?_
    obtain rfl := Option.some.inj h
    exact jr_retJ jf_76_87 jmt_76
  · refine jr_ifl_ne_t jf_76_68 hc ?_
    refine jr_aload_n jf_76_75 rfl (jg2_ne rfl hl0) ?_
    refine jr_iload_n jf_76_76 rfl (jg2_ne rfl hl1) ?_
    refine jr_iload jf_76_77 (jg2_ne rfl hl7) ?_
    refine jr_bipush jf_76_79 jc_b_9 ?_
    refine jr_isub jf_76_81 ?_
    refine jr_lload jf_76_82 jg2_same ?_
    replace h := jgd_of h; obtain ⟨hb1, h⟩ := h
    replace h := obd_of h; obtain ⟨x2, hx2, h⟩ := h
    refine jr_V6_3 jf_76_84 hb1 (by omega) (r_Real_packed (by omega) _ _ _ _ _ _ hx2) (Nat.le_of_ble_eq_true rfl) jml_28 (Nat.le_of_ble_eq_true rfl) ?_
    obtain rfl := Option.some.inj h
    exact jr_retJ jf_76_87 jmt_76
set_option maxRecDepth 10000 in
set_option maxHeartbeats 4000000 in
theorem r_Real_added_e {B : Nat} {SA : Nat → Nat} {d : Nat} (hd : 2 ≤ d) : ∀ (L : JLoc) (v0 : Nat) (v1 : Bool) (v2 : Int64) (v4 : Bool) (v5 : Int64) (μ : JMem) (r : Int64), jget L 0 = .ref v0 → jget L 1 = .int (jb v1) → jget L 2 = .long v2 → jget L 4 = .int (jb v4) → jget L 5 = .long v5 → g_Real_added v0 v1 v2 v4 v5 μ.1 = some r → jR B SA d m_Real_added 0 L [] μ (some (.long r)) μ := by
  intro L v0 v1 v2 v4 v5 μ r hl0 hl1 hl2 hl4 hl5 h
  unfold g_Real_added at h
  refine jr_aload_n jf_76_0 rfl hl0 ?_
  refine jr_lload_n jf_76_1 rfl hl2 ?_
  replace h := jgd_of h; obtain ⟨hb1, h⟩ := h
  replace h := obd_of h; obtain ⟨x2, hx2, h⟩ := h
  refine jr_V6_1 jf_76_2 hb1 (by omega) (r_Real_exponent (by omega) _ _ _ _ hx2) (Nat.le_of_ble_eq_true rfl) jml_32 (Nat.le_of_ble_eq_true rfl) ?_
  refine jr_istore jf_76_5 jml_76 (by decide) ?_
  refine jr_iload jf_76_7 jg1_same ?_
  refine jr_aload_n jf_76_9 rfl (jg1_ne rfl hl0) ?_
  refine jr_lload jf_76_10 (jg1_ne rfl hl5) ?_
  replace h := jgd_of h; obtain ⟨hb3, h⟩ := h
  replace h := obd_of h; obtain ⟨x4, hx4, h⟩ := h
  refine jr_V6_1 jf_76_12 hb3 (by omega) (r_Real_exponent (by omega) _ _ _ _ hx4) (Nat.le_of_ble_eq_true rfl) jml_32 (Nat.le_of_ble_eq_true rfl) ?_
  refine jr_isub jf_76_15 ?_
  refine jr_istore jf_76_16 jml_76 (by decide) ?_
  refine jr_aload_n jf_76_18 rfl (jg1_ne rfl (jg1_ne rfl hl0)) ?_
  refine jr_lload_n jf_76_19 rfl (jg1_ne rfl (jg1_ne rfl hl2)) ?_
  replace h := jgd_of h; obtain ⟨hb5, h⟩ := h
  replace h := obd_of h; obtain ⟨x6, hx6, h⟩ := h
  refine jr_V6_1 jf_76_20 hb5 (by omega) (r_Real_mantissa (by omega) _ _ _ _ hx6) (Nat.le_of_ble_eq_true rfl) jml_33 (Nat.le_of_ble_eq_true rfl) ?_
  refine jr_bipush jf_76_23 jc_b_9 ?_
  refine jr_lshl jf_76_25 ?_
  refine jr_lstore jf_76_26 jml_76 (by decide) ?_
  replace h := jlet_of h
  refine jr_aload_n jf_76_28 rfl (jg2_ne rfl (jg1_ne rfl (jg1_ne rfl hl0))) ?_
  refine jr_lload jf_76_29 (jg2_ne rfl (jg1_ne rfl (jg1_ne rfl hl5))) ?_
  replace h := jgd_of h; obtain ⟨hb8, h⟩ := h
  replace h := obd_of h; obtain ⟨x9, hx9, h⟩ := h
  refine jr_V6_1 jf_76_31 hb8 (by omega) (r_Real_mantissa (by omega) _ _ _ _ hx9) (Nat.le_of_ble_eq_true rfl) jml_33 (Nat.le_of_ble_eq_true rfl) ?_
  refine jr_bipush jf_76_34 jc_b_9 ?_
  refine jr_lshl jf_76_36 ?_
  refine jr_iload jf_76_37 (jg2_pre rfl jg1_same) ?_
  refine jr_S3_2 jf_76_39 (by omega) (r_Real_shifted (by omega) _ _ _ _ rfl) (Nat.le_of_ble_eq_true rfl) jml_77 (Nat.le_of_ble_eq_true rfl) ?_
  refine jr_lstore jf_76_42 jml_76 (by decide) ?_
  replace h := jlet_of h
  refine jr_iload jf_76_44 (jg2_ne rfl (jg2_ne rfl (jg1_ne rfl (jg1_ne rfl hl4)))) ?_
  replace h := ite_or h; rcases h with ⟨hc, h⟩ | ⟨hc, h⟩
  · refine jr_ifz_eq_f jf_76_46 hc ?_
    refine jr_lload jf_76_49 (jg2_ne rfl jg2_same) ?_
    refine jr_lload jf_76_51 jg2_same ?_
    refine jr_ladd jf_76_53 ?_
    refine jr_goto jf_76_54 ?_
    exact r_Real_added_62 hd _ _ _ _ _ _ _ (jg2_ne rfl (jg2_ne rfl (jg1_ne rfl (jg1_ne rfl hl0)))) (jg2_ne rfl (jg2_ne rfl (jg1_ne rfl (jg1_ne rfl hl1)))) (jg2_ne rfl (jg2_ne rfl (jg1_pre rfl jg1_same))) h
  · refine jr_ifz_eq_t jf_76_46 hc ?_
    refine jr_lload jf_76_57 (jg2_ne rfl jg2_same) ?_
    refine jr_lload jf_76_59 jg2_same ?_
    refine jr_lsub jf_76_61 ?_
    exact r_Real_added_62 hd _ _ _ _ _ _ _ (jg2_ne rfl (jg2_ne rfl (jg1_ne rfl (jg1_ne rfl hl0)))) (jg2_ne rfl (jg2_ne rfl (jg1_ne rfl (jg1_ne rfl hl1)))) (jg2_ne rfl (jg2_ne rfl (jg1_pre rfl jg1_same))) h
set_option maxRecDepth 10000 in
set_option maxHeartbeats 4000000 in
theorem r_Real_added {B : Nat} {SA : Nat → Nat} {d : Nat} (hd : 2 ≤ d) : ∀ (v0 : Nat) (v1 : Bool) (v2 : Int64) (v4 : Bool) (v5 : Int64) (μ : JMem) (r : Int64), g_Real_added v0 v1 v2 v4 v5 μ.1 = some r → jR B SA d m_Real_added 0 (lv_args 0 [.ref v0, .int (jb v1), .long v2, .int (jb v4), .long v5]) [] μ (some (.long r)) μ := by
  intro v0 v1 v2 v4 v5 μ r h
  exact r_Real_added_e hd (lv_args 0 _) _ _ _ _ _ _ _ (by simp [lv_args, jget, rv_cat, cat_int, cat_long, cat_double, cat_float, cat_ref]) (by simp [lv_args, jget, rv_cat, cat_int, cat_long, cat_double, cat_float, cat_ref]) (by simp [lv_args, jget, rv_cat, cat_int, cat_long, cat_double, cat_float, cat_ref]) (by simp [lv_args, jget, rv_cat, cat_int, cat_long, cat_double, cat_float, cat_ref]) (by simp [lv_args, jget, rv_cat, cat_int, cat_long, cat_double, cat_float, cat_ref]) h
/-! FilterBench$Real.withInfinity(JJ)J -/
set_option maxRecDepth 10000 in
set_option maxHeartbeats 4000000 in
theorem r_Real_withInfinity_16 {B : Nat} {SA : Nat → Nat} {d : Nat} (hd : 1 ≤ d) : ∀ (L : JLoc) (v0 : Nat) (μ : JMem) (r : Int64), jget L 0 = .ref v0 → g_Real_withInfinity_16 v0 μ.1 = some r → jR B SA d m_Real_withInfinity 16 L [] μ (some (.long r)) μ := by
  intro L v0 μ r hl0 h
  unfold g_Real_withInfinity_16 at h
  refine jr_aload_n jf_75_16 rfl hl0 ?_
  replace h := obd_of h; obtain ⟨x1, hx1, h⟩ := h
  refine jr_getJ jf_75_17 hx1 ?_
  obtain rfl := Option.some.inj h
  exact jr_retJ jf_75_20 jmt_75
set_option maxRecDepth 10000 in
set_option maxHeartbeats 4000000 in
theorem r_Real_withInfinity_e {B : Nat} {SA : Nat → Nat} {d : Nat} (hd : 1 ≤ d) : ∀ (L : JLoc) (v0 : Nat) (v1 : Int64) (v3 : Int64) (μ : JMem) (r : Int64), jget L 0 = .ref v0 → jget L 1 = .long v1 → jget L 3 = .long v3 → g_Real_withInfinity v0 v1 v3 μ.1 = some r → jR B SA d m_Real_withInfinity 0 L [] μ (some (.long r)) μ := by
  intro L v0 v1 v3 μ r hl0 hl1 hl3 h
  unfold g_Real_withInfinity at h
  refine jr_aload_n jf_75_0 rfl hl0 ?_
  refine jr_lload_n jf_75_1 rfl hl1 ?_
  replace h := jgd_of h; obtain ⟨hb1, h⟩ := h
  replace h := obd_of h; obtain ⟨x2, hx2, h⟩ := h
  refine jr_V6_1 jf_75_2 hb1 (by omega) (r_Real_isNumber (by omega) _ _ _ _ hx2) (Nat.le_of_ble_eq_true rfl) jml_18 (Nat.le_of_ble_eq_true rfl) ?_
  replace h := ite_or h; rcases h with ⟨hc, h⟩ | ⟨hc, h⟩
  · refine jr_ifz_eq_f jf_75_5 hc ?_
    refine jr_aload_n jf_75_8 rfl hl0 ?_
    refine jr_lload_n jf_75_9 rfl hl3 ?_
    replace h := jgd_of h; obtain ⟨hb3, h⟩ := h
    replace h := obd_of h; obtain ⟨x4, hx4, h⟩ := h
    refine jr_V6_1 jf_75_10 hb3 (by omega) (r_Real_isNumber (by omega) _ _ _ _ hx4) (Nat.le_of_ble_eq_true rfl) jml_18 (Nat.le_of_ble_eq_true rfl) ?_
    replace h := ite_or h; rcases h with ⟨hc, h⟩ | ⟨hc, h⟩
    · refine jr_ifz_ne_t jf_75_13 hc ?_
      refine jr_aload_n jf_75_21 rfl hl0 ?_
      refine jr_lload_n jf_75_22 rfl hl1 ?_
      replace h := jgd_of h; obtain ⟨hb5, h⟩ := h
      replace h := obd_of h; obtain ⟨x6, hx6, h⟩ := h
      refine jr_V6_1 jf_75_23 hb5 (by omega) (r_Real_sizeOf (by omega) _ _ _ _ hx6) (Nat.le_of_ble_eq_true rfl) jml_31 (Nat.le_of_ble_eq_true rfl) ?_
      refine jr_aload_n jf_75_26 rfl hl0 ?_
      replace h := obd_of h; obtain ⟨x7, hx7, h⟩ := h
      refine jr_getJ jf_75_27 hx7 ?_
      refine jr_lcmp jf_75_30 ?_
      replace h := ite_or h; rcases h with ⟨hc, h⟩ | ⟨hc, h⟩
      · refine jr_ifl_eq_t jf_75_31 hc ?_
        refine jr_aload_n jf_75_36 rfl hl0 ?_
        refine jr_lload_n jf_75_37 rfl hl3 ?_
        replace h := jgd_of h; obtain ⟨hb8, h⟩ := h
        replace h := obd_of h; obtain ⟨x9, hx9, h⟩ := h
        refine jr_V6_1 jf_75_38 hb8 (by omega) (r_Real_sizeOf (by omega) _ _ _ _ hx9) (Nat.le_of_ble_eq_true rfl) jml_31 (Nat.le_of_ble_eq_true rfl) ?_
        refine jr_aload_n jf_75_41 rfl hl0 ?_
        replace h := obd_of h; obtain ⟨x10, hx10, h⟩ := h
        refine jr_getJ jf_75_42 hx10 ?_
        refine jr_lcmp jf_75_45 ?_
        replace h := ite_or h; rcases h with ⟨hc, h⟩ | ⟨hc, h⟩
        · refine jr_ifl_ne_f jf_75_46 hc ?_
          refine jr_lload_n jf_75_49 rfl hl1 ?_
          refine jr_lload_n jf_75_50 rfl hl3 ?_
          refine jr_lcmp jf_75_51 ?_
          replace h := ite_or h; rcases h with ⟨hc, h⟩ | ⟨hc, h⟩
          · refine jr_ifl_eq_t jf_75_52 hc ?_
            refine jr_lload_n jf_75_62 rfl hl1 ?_
            obtain rfl := Option.some.inj h
            exact jr_retJ jf_75_63 jmt_75
          · refine jr_ifl_eq_f jf_75_52 hc ?_
            refine jr_aload_n jf_75_55 rfl hl0 ?_
            replace h := obd_of h; obtain ⟨x11, hx11, h⟩ := h
            refine jr_getJ jf_75_56 hx11 ?_
            refine jr_goto jf_75_59 ?_
            obtain rfl := Option.some.inj h
            exact jr_retJ jf_75_63 jmt_75
        · refine jr_ifl_ne_t jf_75_46 hc ?_
          refine jr_lload_n jf_75_62 rfl hl1 ?_
          obtain rfl := Option.some.inj h
          exact jr_retJ jf_75_63 jmt_75
      · refine jr_ifl_eq_f jf_75_31 hc ?_
        refine jr_lload_n jf_75_34 rfl hl3 ?_
        obtain rfl := Option.some.inj h
        exact jr_retJ jf_75_35 jmt_75
    · refine jr_ifz_ne_f jf_75_13 hc ?_
      exact r_Real_withInfinity_16 hd _ _ _ _ hl0 h
  · refine jr_ifz_eq_t jf_75_5 hc ?_
    exact r_Real_withInfinity_16 hd _ _ _ _ hl0 h
set_option maxRecDepth 10000 in
set_option maxHeartbeats 4000000 in
theorem r_Real_withInfinity {B : Nat} {SA : Nat → Nat} {d : Nat} (hd : 1 ≤ d) : ∀ (v0 : Nat) (v1 : Int64) (v3 : Int64) (μ : JMem) (r : Int64), g_Real_withInfinity v0 v1 v3 μ.1 = some r → jR B SA d m_Real_withInfinity 0 (lv_args 0 [.ref v0, .long v1, .long v3]) [] μ (some (.long r)) μ := by
  intro v0 v1 v3 μ r h
  exact r_Real_withInfinity_e hd (lv_args 0 _) _ _ _ _ _ (by simp [lv_args, jget, rv_cat, cat_int, cat_long, cat_double, cat_float, cat_ref]) (by simp [lv_args, jget, rv_cat, cat_int, cat_long, cat_double, cat_float, cat_ref]) (by simp [lv_args, jget, rv_cat, cat_int, cat_long, cat_double, cat_float, cat_ref]) h
/-! FilterBench$Real.plus(JJ)J -/
set_option maxRecDepth 10000 in
set_option maxHeartbeats 4000000 in
theorem r_Real_plus_34 {B : Nat} {SA : Nat → Nat} {d : Nat} (hd : 3 ≤ d) : ∀ (L : JLoc) (v0 : Nat) (v1 : Int64) (v3 : Int64) (μ : JMem) (r : Int64), jget L 0 = .ref v0 → jget L 1 = .long v1 → jget L 3 = .long v3 → g_Real_plus_34 v0 v1 v3 μ.1 = some r → jR B SA d m_Real_plus 34 L [] μ (some (.long r)) μ := by
  intro L v0 v1 v3 μ r hl0 hl1 hl3 h
  unfold g_Real_plus_34 at h
  refine jr_aload_n jf_74_34 rfl hl0 ?_
  refine jr_lload_n jf_74_35 rfl hl1 ?_
  refine jr_lload_n jf_74_36 rfl hl3 ?_
  replace h := jgd_of h; obtain ⟨hb1, h⟩ := h
  replace h := obd_of h; obtain ⟨x2, hx2, h⟩ := h
  refine jr_V6_2 jf_74_37 hb1 (by omega) (r_Real_withInfinity (by omega) _ _ _ _ _ hx2) (Nat.le_of_ble_eq_true rfl) jml_75 (Nat.le_of_ble_eq_true rfl) ?_
  obtain rfl := Option.some.inj h
  exact jr_retJ jf_74_40 jmt_74
set_option maxRecDepth 10000 in
set_option maxHeartbeats 4000000 in
theorem r_Real_plus_55 {B : Nat} {SA : Nat → Nat} {d : Nat} (hd : 3 ≤ d) : ∀ (L : JLoc) (v1 : Int64) (v3 : Int64) (v5 : Int64) (v7 : Int64) (μ : JMem) (r : Int64), jget L 1 = .long v1 → jget L 3 = .long v3 → jget L 5 = .long v5 → jget L 7 = .long v7 → g_Real_plus_55 v1 v3 v5 v7 μ.1 = some r → jR B SA d m_Real_plus 55 L [] μ (some (.long r)) μ := by
  intro L v1 v3 v5 v7 μ r hl1 hl3 hl5 hl7 h
  unfold g_Real_plus_55 at h
  refine jr_lload jf_74_55 hl5 ?_
  refine jr_lconst0 jf_74_57 ?_
  refine jr_lcmp jf_74_58 ?_
  replace h := ite_or h; rcases h with ⟨hc, h⟩ | ⟨hc, h⟩
  · refine jr_ifl_eq_t jf_74_59 hc ?_
    refine jr_lload jf_74_66 hl7 ?_
    refine jr_lconst0 jf_74_68 ?_
    refine jr_lcmp jf_74_69 ?_
    replace h := ite_or h; rcases h with ⟨hc, h⟩ | ⟨hc, h⟩
    · refine jr_ifl_eq_t jf_74_70 hc ?_
      refine jr_lload_n jf_74_77 rfl hl1 ?_
      refine jr_lload_n jf_74_78 rfl hl3 ?_
      refine jr_land jf_74_79 ?_
      obtain rfl := Option.some.inj h
      exact jr_retJ jf_74_80 jmt_74
    · refine jr_ifl_eq_f jf_74_70 hc ?_
      refine jr_lload_n jf_74_73 rfl hl3 ?_
      refine jr_goto jf_74_74 ?_
      obtain rfl := Option.some.inj h
      exact jr_retJ jf_74_80 jmt_74
  · refine jr_ifl_eq_f jf_74_59 hc ?_
    refine jr_lload_n jf_74_62 rfl hl1 ?_
    refine jr_goto jf_74_63 ?_
    obtain rfl := Option.some.inj h
    exact jr_retJ jf_74_80 jmt_74
set_option maxRecDepth 10000 in
set_option maxHeartbeats 4000000 in
theorem r_Real_plus_133 {B : Nat} {SA : Nat → Nat} {d : Nat} (hd : 3 ≤ d) : ∀ (L : JLoc) (v7 : Int64) (s0 : Bool) (s1 : Int64) (s2 : Bool) (s3 : Nat) (μ : JMem) (r : Int64), jget L 7 = .long v7 → g_Real_plus_133 v7 s0 s1 s2 s3 μ.1 = some r → jR B SA d m_Real_plus 133 L [.int (jb s0), .long s1, .int (jb s2), .ref s3] μ (some (.long r)) μ := by
  intro L v7 s0 s1 s2 s3 μ r hl7 h
  unfold g_Real_plus_133 at h
  refine jr_lload jf_74_133 hl7 ?_
  replace h := jgd_of h; obtain ⟨hb1, h⟩ := h
  replace h := obd_of h; obtain ⟨x2, hx2, h⟩ := h
  refine jr_V6_4 jf_74_135 hb1 (by omega) (r_Real_added (by omega) _ _ _ _ _ _ _ hx2) (Nat.le_of_ble_eq_true rfl) jml_76 (Nat.le_of_ble_eq_true rfl) ?_
  refine jr_goto jf_74_138 ?_
  obtain rfl := Option.some.inj h
  exact jr_retJ jf_74_190 jmt_74
set_option maxRecDepth 10000 in
set_option maxHeartbeats 4000000 in
theorem r_Real_plus_125 {B : Nat} {SA : Nat → Nat} {d : Nat} (hd : 3 ≤ d) : ∀ (L : JLoc) (v7 : Int64) (s0 : Bool) (s1 : Bool) (s2 : Int64) (s3 : Bool) (s4 : Nat) (μ : JMem) (r : Int64), jget L 7 = .long v7 → g_Real_plus_125 v7 s0 s1 s2 s3 s4 μ.1 = some r → jR B SA d m_Real_plus 125 L [.int (jb s0), .int (jb s1), .long s2, .int (jb s3), .ref s4] μ (some (.long r)) μ := by
  intro L v7 s0 s1 s2 s3 s4 μ r hl7 h
  unfold g_Real_plus_125 at h
  replace h := ite_or h; rcases h with ⟨hc, h⟩ | ⟨hc, h⟩
  · refine jr_if2z_ne_f jf_74_125 hc ?_
    refine jr_iconst jf_74_128 jc_i_1 ?_
    refine jr_goto jf_74_129 ?_
    exact r_Real_plus_133 hd _ _ true _ _ _ _ _ hl7 h
  · refine jr_if2z_ne_t jf_74_125 hc ?_
    refine jr_iconst jf_74_132 jc_i_0 ?_
    exact r_Real_plus_133 hd _ _ false _ _ _ _ _ hl7 h
set_option maxRecDepth 10000 in
set_option maxHeartbeats 4000000 in
theorem r_Real_plus_114 {B : Nat} {SA : Nat → Nat} {d : Nat} (hd : 3 ≤ d) : ∀ (L : JLoc) (v3 : Int64) (v7 : Int64) (s0 : Bool) (s1 : Int64) (s2 : Bool) (s3 : Nat) (μ : JMem) (r : Int64), jget L 3 = .long v3 → jget L 7 = .long v7 → g_Real_plus_114 v3 v7 s0 s1 s2 s3 μ.1 = some r → jR B SA d m_Real_plus 114 L [.int (jb s0), .long s1, .int (jb s2), .ref s3] μ (some (.long r)) μ := by
  intro L v3 v7 s0 s1 s2 s3 μ r hl3 hl7 h
  unfold g_Real_plus_114 at h
  refine jr_lload_n jf_74_114 rfl hl3 ?_
  refine jr_lconst0 jf_74_115 ?_
  refine jr_lcmp jf_74_116 ?_
  replace h := ite_or h; rcases h with ⟨hc, h⟩ | ⟨hc, h⟩
  · refine jr_ifl_ge_t jf_74_117 hc ?_
    refine jr_iconst jf_74_124 jc_i_0 ?_
    exact r_Real_plus_125 hd _ _ false _ _ _ _ _ _ hl7 h
  · refine jr_ifl_ge_f jf_74_117 hc ?_
    refine jr_iconst jf_74_120 jc_i_1 ?_
    refine jr_goto jf_74_121 ?_
    exact r_Real_plus_125 hd _ _ true _ _ _ _ _ _ hl7 h
set_option maxRecDepth 10000 in
set_option maxHeartbeats 4000000 in
theorem r_Real_plus_101 {B : Nat} {SA : Nat → Nat} {d : Nat} (hd : 3 ≤ d) : ∀ (L : JLoc) (v1 : Int64) (v3 : Int64) (v5 : Int64) (v7 : Int64) (s0 : Bool) (s1 : Nat) (μ : JMem) (r : Int64), jget L 1 = .long v1 → jget L 3 = .long v3 → jget L 5 = .long v5 → jget L 7 = .long v7 → g_Real_plus_101 v1 v3 v5 v7 s0 s1 μ.1 = some r → jR B SA d m_Real_plus 101 L [.int (jb s0), .ref s1] μ (some (.long r)) μ := by
  intro L v1 v3 v5 v7 s0 s1 μ r hl1 hl3 hl5 hl7 h
  unfold g_Real_plus_101 at h
  refine jr_lload jf_74_101 hl5 ?_
  refine jr_lload_n jf_74_103 rfl hl1 ?_
  refine jr_lconst0 jf_74_104 ?_
  refine jr_lcmp jf_74_105 ?_
  replace h := ite_or h; rcases h with ⟨hc, h⟩ | ⟨hc, h⟩
  · refine jr_ifl_ge_t jf_74_106 hc ?_
    refine jr_iconst jf_74_113 jc_i_0 ?_
    exact r_Real_plus_114 hd _ _ _ false _ _ _ _ _ hl3 hl7 h
  · refine jr_ifl_ge_f jf_74_106 hc ?_
    refine jr_iconst jf_74_109 jc_i_1 ?_
    refine jr_goto jf_74_110 ?_
    exact r_Real_plus_114 hd _ _ _ true _ _ _ _ _ hl3 hl7 h
set_option maxRecDepth 10000 in
set_option maxHeartbeats 4000000 in
theorem r_Real_plus_185 {B : Nat} {SA : Nat → Nat} {d : Nat} (hd : 3 ≤ d) : ∀ (L : JLoc) (v5 : Int64) (s0 : Bool) (s1 : Int64) (s2 : Bool) (s3 : Nat) (μ : JMem) (r : Int64), jget L 5 = .long v5 → g_Real_plus_185 v5 s0 s1 s2 s3 μ.1 = some r → jR B SA d m_Real_plus 185 L [.int (jb s0), .long s1, .int (jb s2), .ref s3] μ (some (.long r)) μ := by
  intro L v5 s0 s1 s2 s3 μ r hl5 h
  unfold g_Real_plus_185 at h
  refine jr_lload jf_74_185 hl5 ?_
  replace h := jgd_of h; obtain ⟨hb1, h⟩ := h
  replace h := obd_of h; obtain ⟨x2, hx2, h⟩ := h
  refine jr_V6_4 jf_74_187 hb1 (by omega) (r_Real_added (by omega) _ _ _ _ _ _ _ hx2) (Nat.le_of_ble_eq_true rfl) jml_76 (Nat.le_of_ble_eq_true rfl) ?_
  obtain rfl := Option.some.inj h
  exact jr_retJ jf_74_190 jmt_74
set_option maxRecDepth 10000 in
set_option maxHeartbeats 4000000 in
theorem r_Real_plus_177 {B : Nat} {SA : Nat → Nat} {d : Nat} (hd : 3 ≤ d) : ∀ (L : JLoc) (v5 : Int64) (s0 : Bool) (s1 : Bool) (s2 : Int64) (s3 : Bool) (s4 : Nat) (μ : JMem) (r : Int64), jget L 5 = .long v5 → g_Real_plus_177 v5 s0 s1 s2 s3 s4 μ.1 = some r → jR B SA d m_Real_plus 177 L [.int (jb s0), .int (jb s1), .long s2, .int (jb s3), .ref s4] μ (some (.long r)) μ := by
  intro L v5 s0 s1 s2 s3 s4 μ r hl5 h
  unfold g_Real_plus_177 at h
  replace h := ite_or h; rcases h with ⟨hc, h⟩ | ⟨hc, h⟩
  · refine jr_if2z_ne_f jf_74_177 hc ?_
    refine jr_iconst jf_74_180 jc_i_1 ?_
    refine jr_goto jf_74_181 ?_
    exact r_Real_plus_185 hd _ _ true _ _ _ _ _ hl5 h
  · refine jr_if2z_ne_t jf_74_177 hc ?_
    refine jr_iconst jf_74_184 jc_i_0 ?_
    exact r_Real_plus_185 hd _ _ false _ _ _ _ _ hl5 h
set_option maxRecDepth 10000 in
set_option maxHeartbeats 4000000 in
theorem r_Real_plus_166 {B : Nat} {SA : Nat → Nat} {d : Nat} (hd : 3 ≤ d) : ∀ (L : JLoc) (v3 : Int64) (v5 : Int64) (s0 : Bool) (s1 : Int64) (s2 : Bool) (s3 : Nat) (μ : JMem) (r : Int64), jget L 3 = .long v3 → jget L 5 = .long v5 → g_Real_plus_166 v3 v5 s0 s1 s2 s3 μ.1 = some r → jR B SA d m_Real_plus 166 L [.int (jb s0), .long s1, .int (jb s2), .ref s3] μ (some (.long r)) μ := by
  intro L v3 v5 s0 s1 s2 s3 μ r hl3 hl5 h
  unfold g_Real_plus_166 at h
  refine jr_lload_n jf_74_166 rfl hl3 ?_
  refine jr_lconst0 jf_74_167 ?_
  refine jr_lcmp jf_74_168 ?_
  replace h := ite_or h; rcases h with ⟨hc, h⟩ | ⟨hc, h⟩
  · refine jr_ifl_ge_t jf_74_169 hc ?_
    refine jr_iconst jf_74_176 jc_i_0 ?_
    exact r_Real_plus_177 hd _ _ false _ _ _ _ _ _ hl5 h
  · refine jr_ifl_ge_f jf_74_169 hc ?_
    refine jr_iconst jf_74_172 jc_i_1 ?_
    refine jr_goto jf_74_173 ?_
    exact r_Real_plus_177 hd _ _ true _ _ _ _ _ _ hl5 h
set_option maxRecDepth 10000 in
set_option maxHeartbeats 4000000 in
theorem r_Real_plus_153 {B : Nat} {SA : Nat → Nat} {d : Nat} (hd : 3 ≤ d) : ∀ (L : JLoc) (v1 : Int64) (v3 : Int64) (v5 : Int64) (v7 : Int64) (s0 : Bool) (s1 : Nat) (μ : JMem) (r : Int64), jget L 1 = .long v1 → jget L 3 = .long v3 → jget L 5 = .long v5 → jget L 7 = .long v7 → g_Real_plus_153 v1 v3 v5 v7 s0 s1 μ.1 = some r → jR B SA d m_Real_plus 153 L [.int (jb s0), .ref s1] μ (some (.long r)) μ := by
  intro L v1 v3 v5 v7 s0 s1 μ r hl1 hl3 hl5 hl7 h
  unfold g_Real_plus_153 at h
  refine jr_lload jf_74_153 hl7 ?_
  refine jr_lload_n jf_74_155 rfl hl1 ?_
  refine jr_lconst0 jf_74_156 ?_
  refine jr_lcmp jf_74_157 ?_
  replace h := ite_or h; rcases h with ⟨hc, h⟩ | ⟨hc, h⟩
  · refine jr_ifl_ge_t jf_74_158 hc ?_
    refine jr_iconst jf_74_165 jc_i_0 ?_
    exact r_Real_plus_166 hd _ _ _ false _ _ _ _ _ hl3 hl5 h
  · refine jr_ifl_ge_f jf_74_158 hc ?_
    refine jr_iconst jf_74_161 jc_i_1 ?_
    refine jr_goto jf_74_162 ?_
    exact r_Real_plus_166 hd _ _ _ true _ _ _ _ _ hl3 hl5 h
set_option maxRecDepth 10000 in
set_option maxHeartbeats 4000000 in
theorem r_Real_plus_e {B : Nat} {SA : Nat → Nat} {d : Nat} (hd : 3 ≤ d) : ∀ (L : JLoc) (v0 : Nat) (v1 : Int64) (v3 : Int64) (μ : JMem) (r : Int64), jget L 0 = .ref v0 → jget L 1 = .long v1 → jget L 3 = .long v3 → g_Real_plus v0 v1 v3 μ.1 = some r → jR B SA d m_Real_plus 0 L [] μ (some (.long r)) μ := by
  intro L v0 v1 v3 μ r hl0 hl1 hl3 h
  unfold g_Real_plus at h
  refine jr_aload_n jf_74_0 rfl hl0 ?_
  refine jr_lload_n jf_74_1 rfl hl1 ?_
  replace h := jgd_of h; obtain ⟨hb1, h⟩ := h
  replace h := obd_of h; obtain ⟨x2, hx2, h⟩ := h
  refine jr_V6_1 jf_74_2 hb1 (by omega) (r_Real_sizeOf (by omega) _ _ _ _ hx2) (Nat.le_of_ble_eq_true rfl) jml_31 (Nat.le_of_ble_eq_true rfl) ?_
  refine jr_lstore jf_74_5 jml_74 (by decide) ?_
  refine jr_aload_n jf_74_7 rfl (jg2_ne rfl hl0) ?_
  refine jr_lload_n jf_74_8 rfl (jg2_ne rfl hl3) ?_
  replace h := jgd_of h; obtain ⟨hb3, h⟩ := h
  replace h := obd_of h; obtain ⟨x4, hx4, h⟩ := h
  refine jr_V6_1 jf_74_9 hb3 (by omega) (r_Real_sizeOf (by omega) _ _ _ _ hx4) (Nat.le_of_ble_eq_true rfl) jml_31 (Nat.le_of_ble_eq_true rfl) ?_
  refine jr_lstore jf_74_12 jml_74 (by decide) ?_
  refine jr_lload jf_74_14 (jg2_ne rfl jg2_same) ?_
  refine jr_aload_n jf_74_16 rfl (jg2_ne rfl (jg2_ne rfl hl0)) ?_
  replace h := obd_of h; obtain ⟨x5, hx5, h⟩ := h
  refine jr_getJ jf_74_17 hx5 ?_
  refine jr_lcmp jf_74_20 ?_
  replace h := ite_or h; rcases h with ⟨hc, h⟩ | ⟨hc, h⟩
  · refine jr_ifl_ge_t jf_74_21 hc ?_
    exact r_Real_plus_34 hd _ _ _ _ _ _ (jg2_ne rfl (jg2_ne rfl hl0)) (jg2_ne rfl (jg2_ne rfl hl1)) (jg2_ne rfl (jg2_ne rfl hl3)) h
  · refine jr_ifl_ge_f jf_74_21 hc ?_
    refine jr_lload jf_74_24 jg2_same ?_
    refine jr_aload_n jf_74_26 rfl (jg2_ne rfl (jg2_ne rfl hl0)) ?_
    replace h := obd_of h; obtain ⟨x6, hx6, h⟩ := h
    refine jr_getJ jf_74_27 hx6 ?_
    refine jr_lcmp jf_74_30 ?_
    replace h := ite_or h; rcases h with ⟨hc, h⟩ | ⟨hc, h⟩
    · refine jr_ifl_lt_t jf_74_31 hc ?_
      refine jr_lload jf_74_41 (jg2_ne rfl jg2_same) ?_
      refine jr_lconst0 jf_74_43 ?_
      refine jr_lcmp jf_74_44 ?_
      replace h := ite_or h; rcases h with ⟨hc, h⟩ | ⟨hc, h⟩
      · refine jr_ifl_eq_t jf_74_45 hc ?_
        exact r_Real_plus_55 hd _ _ _ _ _ _ _ (jg2_ne rfl (jg2_ne rfl hl1)) (jg2_ne rfl (jg2_ne rfl hl3)) (jg2_ne rfl jg2_same) jg2_same h
      · refine jr_ifl_eq_f jf_74_45 hc ?_
        refine jr_lload jf_74_48 jg2_same ?_
        refine jr_lconst0 jf_74_50 ?_
        refine jr_lcmp jf_74_51 ?_
        replace h := ite_or h; rcases h with ⟨hc, h⟩ | ⟨hc, h⟩
        · refine jr_ifl_ne_f jf_74_52 hc ?_
          exact r_Real_plus_55 hd _ _ _ _ _ _ _ (jg2_ne rfl (jg2_ne rfl hl1)) (jg2_ne rfl (jg2_ne rfl hl3)) (jg2_ne rfl jg2_same) jg2_same h
        · refine jr_ifl_ne_t jf_74_52 hc ?_
          refine jr_lload jf_74_81 (jg2_ne rfl jg2_same) ?_
          refine jr_lload jf_74_83 jg2_same ?_
          refine jr_lcmp jf_74_85 ?_
          replace h := ite_or h; rcases h with ⟨hc, h⟩ | ⟨hc, h⟩
          · refine jr_ifl_lt_t jf_74_86 hc ?_
            refine jr_aload_n jf_74_141 rfl (jg2_ne rfl (jg2_ne rfl hl0)) ?_
            refine jr_lload_n jf_74_142 rfl (jg2_ne rfl (jg2_ne rfl hl3)) ?_
            refine jr_lconst0 jf_74_143 ?_
            refine jr_lcmp jf_74_144 ?_
            replace h := ite_or h; rcases h with ⟨hc, h⟩ | ⟨hc, h⟩
            · refine jr_ifl_ge_t jf_74_145 hc ?_
              refine jr_iconst jf_74_152 jc_i_0 ?_
              exact r_Real_plus_153 hd _ _ _ _ _ false _ _ _ (jg2_ne rfl (jg2_ne rfl hl1)) (jg2_ne rfl (jg2_ne rfl hl3)) (jg2_ne rfl jg2_same) jg2_same h
            · refine jr_ifl_ge_f jf_74_145 hc ?_
              refine jr_iconst jf_74_148 jc_i_1 ?_
              refine jr_goto jf_74_149 ?_
              exact r_Real_plus_153 hd _ _ _ _ _ true _ _ _ (jg2_ne rfl (jg2_ne rfl hl1)) (jg2_ne rfl (jg2_ne rfl hl3)) (jg2_ne rfl jg2_same) jg2_same h
          · refine jr_ifl_lt_f jf_74_86 hc ?_
            refine jr_aload_n jf_74_89 rfl (jg2_ne rfl (jg2_ne rfl hl0)) ?_
            refine jr_lload_n jf_74_90 rfl (jg2_ne rfl (jg2_ne rfl hl1)) ?_
            refine jr_lconst0 jf_74_91 ?_
            refine jr_lcmp jf_74_92 ?_
            replace h := ite_or h; rcases h with ⟨hc, h⟩ | ⟨hc, h⟩
            · refine jr_ifl_ge_t jf_74_93 hc ?_
              refine jr_iconst jf_74_100 jc_i_0 ?_
              exact r_Real_plus_101 hd _ _ _ _ _ false _ _ _ (jg2_ne rfl (jg2_ne rfl hl1)) (jg2_ne rfl (jg2_ne rfl hl3)) (jg2_ne rfl jg2_same) jg2_same h
            · refine jr_ifl_ge_f jf_74_93 hc ?_
              refine jr_iconst jf_74_96 jc_i_1 ?_
              refine jr_goto jf_74_97 ?_
              exact r_Real_plus_101 hd _ _ _ _ _ true _ _ _ (jg2_ne rfl (jg2_ne rfl hl1)) (jg2_ne rfl (jg2_ne rfl hl3)) (jg2_ne rfl jg2_same) jg2_same h
    · refine jr_ifl_lt_f jf_74_31 hc ?_
      exact r_Real_plus_34 hd _ _ _ _ _ _ (jg2_ne rfl (jg2_ne rfl hl0)) (jg2_ne rfl (jg2_ne rfl hl1)) (jg2_ne rfl (jg2_ne rfl hl3)) h
set_option maxRecDepth 10000 in
set_option maxHeartbeats 4000000 in
theorem r_Real_plus {B : Nat} {SA : Nat → Nat} {d : Nat} (hd : 3 ≤ d) : ∀ (v0 : Nat) (v1 : Int64) (v3 : Int64) (μ : JMem) (r : Int64), g_Real_plus v0 v1 v3 μ.1 = some r → jR B SA d m_Real_plus 0 (lv_args 0 [.ref v0, .long v1, .long v3]) [] μ (some (.long r)) μ := by
  intro v0 v1 v3 μ r h
  exact r_Real_plus_e hd (lv_args 0 _) _ _ _ _ _ (by simp [lv_args, jget, rv_cat, cat_int, cat_long, cat_double, cat_float, cat_ref]) (by simp [lv_args, jget, rv_cat, cat_int, cat_long, cat_double, cat_float, cat_ref]) (by simp [lv_args, jget, rv_cat, cat_int, cat_long, cat_double, cat_float, cat_ref]) h
/-! FilterBench$Real.highProduct(JJ)J -/
set_option maxRecDepth 10000 in
set_option maxHeartbeats 4000000 in
theorem r_Real_highProduct_e {B : Nat} {SA : Nat → Nat} {d : Nat} (hd : 0 ≤ d) : ∀ (L : JLoc) (v0 : Int64) (v2 : Int64) (μ : JMem) (r : Int64), jget L 0 = .long v0 → jget L 2 = .long v2 → g_Real_highProduct v0 v2 = r → jR B SA d m_Real_highProduct 0 L [] μ (some (.long r)) μ := by
  intro L v0 v2 μ r hl0 hl2 h
  unfold g_Real_highProduct at h
  refine jr_lload_n jf_70_0 rfl hl0 ?_
  refine jr_bipush jf_70_1 jc_b_27 ?_
  refine jr_lushr jf_70_3 ?_
  refine jr_lstore jf_70_4 jml_70 (by decide) ?_
  replace h := jlet_of h
  refine jr_lload_n jf_70_6 rfl (jg2_ne rfl hl0) ?_
  refine jr_ldc2l jf_70_7 ?_
  refine jr_land jf_70_10 ?_
  refine jr_lstore jf_70_11 jml_70 (by decide) ?_
  refine jr_lload_n jf_70_13 rfl (jg2_ne rfl (jg2_ne rfl hl2)) ?_
  refine jr_bipush jf_70_14 jc_b_27 ?_
  refine jr_lushr jf_70_16 ?_
  refine jr_lstore jf_70_17 jml_70 (by decide) ?_
  replace h := jlet_of h
  refine jr_lload_n jf_70_19 rfl (jg2_ne rfl (jg2_ne rfl (jg2_ne rfl hl2))) ?_
  refine jr_ldc2l jf_70_20 ?_
  refine jr_land jf_70_23 ?_
  refine jr_lstore jf_70_24 jml_70 (by decide) ?_
  refine jr_lload jf_70_26 (jg2_ne rfl (jg2_ne rfl jg2_same)) ?_
  refine jr_lload jf_70_28 jg2_same ?_
  refine jr_lmul jf_70_30 ?_
  refine jr_lstore jf_70_31 jml_70 (by decide) ?_
  replace h := jlet_of h
  refine jr_lload jf_70_33 (jg2_ne rfl (jg2_ne rfl (jg2_ne rfl (jg2_ne rfl jg2_same)))) ?_
  refine jr_lload jf_70_35 (jg2_ne rfl jg2_same) ?_
  refine jr_lmul jf_70_37 ?_
  refine jr_lload jf_70_38 (jg2_ne rfl (jg2_ne rfl (jg2_ne rfl jg2_same))) ?_
  refine jr_lload jf_70_40 (jg2_ne rfl (jg2_ne rfl jg2_same)) ?_
  refine jr_lmul jf_70_42 ?_
  refine jr_ladd jf_70_43 ?_
  refine jr_lload jf_70_44 jg2_same ?_
  refine jr_bipush jf_70_46 jc_b_27 ?_
  refine jr_lushr jf_70_48 ?_
  refine jr_ladd jf_70_49 ?_
  refine jr_lstore jf_70_50 jml_70 (by decide) ?_
  replace h := jlet_of h
  refine jr_lload jf_70_52 (jg2_ne rfl (jg2_ne rfl (jg2_ne rfl (jg2_ne rfl (jg2_ne rfl jg2_same))))) ?_
  refine jr_lload jf_70_54 (jg2_ne rfl (jg2_ne rfl (jg2_ne rfl jg2_same))) ?_
  refine jr_lmul jf_70_56 ?_
  refine jr_lload jf_70_57 jg2_same ?_
  refine jr_bipush jf_70_59 jc_b_27 ?_
  refine jr_lushr jf_70_61 ?_
  refine jr_ladd jf_70_62 ?_
  refine jr_lstore jf_70_63 jml_70 (by decide) ?_
  replace h := jlet_of h
  refine jr_lload jf_70_65 (jg2_ne rfl jg2_same) ?_
  refine jr_ldc2l jf_70_67 ?_
  refine jr_land jf_70_70 ?_
  refine jr_bipush jf_70_71 jc_b_27 ?_
  refine jr_lshl jf_70_73 ?_
  refine jr_lload jf_70_74 (jg2_ne rfl (jg2_ne rfl jg2_same)) ?_
  refine jr_ldc2l jf_70_76 ?_
  refine jr_land jf_70_79 ?_
  refine jr_lor jf_70_80 ?_
  refine jr_lstore jf_70_81 jml_70 (by decide) ?_
  replace h := jlet_of h
  refine jr_lload jf_70_83 (jg2_ne rfl jg2_same) ?_
  refine jr_bipush jf_70_85 jc_b_10 ?_
  refine jr_lshl jf_70_87 ?_
  refine jr_lload jf_70_88 jg2_same ?_
  refine jr_bipush jf_70_90 jc_b_44 ?_
  refine jr_lushr jf_70_92 ?_
  refine jr_lor jf_70_93 ?_
  refine jr_lstore jf_70_94 jml_70 (by decide) ?_
  replace h := jlet_of h
  refine jr_lload jf_70_96 (jg2_ne rfl jg2_same) ?_
  refine jr_ldc2l jf_70_98 ?_
  refine jr_land jf_70_101 ?_
  refine jr_lconst0 jf_70_102 ?_
  refine jr_lcmp jf_70_103 ?_
  replace h := ite_or h; rcases h with ⟨hc, h⟩ | ⟨hc, h⟩
  · refine jr_ifl_ne_f jf_70_104 hc ?_
    refine jr_lload jf_70_107 jg2_same ?_
    refine jr_goto jf_70_109 ?_
    subst h
    exact jr_retJ jf_70_116 jmt_70
  · refine jr_ifl_ne_t jf_70_104 hc ?_
    refine jr_lload jf_70_112 jg2_same ?_
    refine jr_lconst1 jf_70_114 ?_
    refine jr_lor jf_70_115 ?_
    subst h
    exact jr_retJ jf_70_116 jmt_70
set_option maxRecDepth 10000 in
set_option maxHeartbeats 4000000 in
theorem r_Real_highProduct {B : Nat} {SA : Nat → Nat} {d : Nat} (hd : 0 ≤ d) : ∀ (v0 : Int64) (v2 : Int64) (μ : JMem) (r : Int64), g_Real_highProduct v0 v2 = r → jR B SA d m_Real_highProduct 0 (lv_args 0 [.long v0, .long v2]) [] μ (some (.long r)) μ := by
  intro v0 v2 μ r h
  exact r_Real_highProduct_e hd (lv_args 0 _) _ _ _ _ (by simp [lv_args, jget, rv_cat, cat_int, cat_long, cat_double, cat_float, cat_ref]) (by simp [lv_args, jget, rv_cat, cat_int, cat_long, cat_double, cat_float, cat_ref]) h
/-! FilterBench$Real.product(JJ)J -/
set_option maxRecDepth 10000 in
set_option maxHeartbeats 4000000 in
theorem r_Real_product_100 {B : Nat} {SA : Nat → Nat} {d : Nat} (hd : 2 ≤ d) : ∀ (L : JLoc) (v0 : Nat) (μ : JMem) (r : Int64), jget L 0 = .ref v0 → g_Real_product_100 v0 μ.1 = some r → jR B SA d m_Real_product 100 L [] μ (some (.long r)) μ := by
  intro L v0 μ r hl0 h
  unfold g_Real_product_100 at h
  refine jr_aload_n jf_69_100 rfl hl0 ?_
  replace h := obd_of h; obtain ⟨x1, hx1, h⟩ := h
  refine jr_getJ jf_69_101 hx1 ?_
  refine jr_goto jf_69_104 ?_
  obtain rfl := Option.some.inj h
  exact jr_retJ jf_69_117 jmt_69
set_option maxRecDepth 10000 in
set_option maxHeartbeats 4000000 in
theorem r_Real_product_66 {B : Nat} {SA : Nat → Nat} {d : Nat} (hd : 2 ≤ d) : ∀ (L : JLoc) (v0 : Nat) (v5 : Int64) (v7 : Int64) (v9 : Bool) (μ : JMem) (r : Int64), jget L 0 = .ref v0 → jget L 5 = .long v5 → jget L 7 = .long v7 → jget L 9 = .int (jb v9) → g_Real_product_66 v0 v5 v7 v9 μ.1 = some r → jR B SA d m_Real_product 66 L [] μ (some (.long r)) μ := by
  intro L v0 v5 v7 v9 μ r hl0 hl5 hl7 hl9 h
  unfold g_Real_product_66 at h
  refine jr_lload jf_69_66 hl5 ?_
  refine jr_aload_n jf_69_68 rfl hl0 ?_
  replace h := obd_of h; obtain ⟨x1, hx1, h⟩ := h
  refine jr_getJ jf_69_69 hx1 ?_
  refine jr_lcmp jf_69_72 ?_
  replace h := ite_or h; rcases h with ⟨hc, h⟩ | ⟨hc, h⟩
  · refine jr_ifl_gt_t jf_69_73 hc ?_
    exact r_Real_product_100 hd _ _ _ _ hl0 h
  · refine jr_ifl_gt_f jf_69_73 hc ?_
    refine jr_lload jf_69_76 hl7 ?_
    refine jr_aload_n jf_69_78 rfl hl0 ?_
    replace h := obd_of h; obtain ⟨x2, hx2, h⟩ := h
    refine jr_getJ jf_69_79 hx2 ?_
    refine jr_lcmp jf_69_82 ?_
    replace h := ite_or h; rcases h with ⟨hc, h⟩ | ⟨hc, h⟩
    · refine jr_ifl_gt_t jf_69_83 hc ?_
      exact r_Real_product_100 hd _ _ _ _ hl0 h
    · refine jr_ifl_gt_f jf_69_83 hc ?_
      refine jr_lload jf_69_86 hl5 ?_
      refine jr_lconst0 jf_69_88 ?_
      refine jr_lcmp jf_69_89 ?_
      replace h := ite_or h; rcases h with ⟨hc, h⟩ | ⟨hc, h⟩
      · refine jr_ifl_eq_t jf_69_90 hc ?_
        exact r_Real_product_100 hd _ _ _ _ hl0 h
      · refine jr_ifl_eq_f jf_69_90 hc ?_
        refine jr_lload jf_69_93 hl7 ?_
        refine jr_lconst0 jf_69_95 ?_
        refine jr_lcmp jf_69_96 ?_
        replace h := ite_or h; rcases h with ⟨hc, h⟩ | ⟨hc, h⟩
        · refine jr_ifl_ne_f jf_69_97 hc ?_
          exact r_Real_product_100 hd _ _ _ _ hl0 h
        · refine jr_ifl_ne_t jf_69_97 hc ?_
          refine jr_aload_n jf_69_107 rfl hl0 ?_
          refine jr_iload jf_69_108 hl9 ?_
          refine jr_aload_n jf_69_110 rfl hl0 ?_
          replace h := obd_of h; obtain ⟨x3, hx3, h⟩ := h
          refine jr_getJ jf_69_111 hx3 ?_
          replace h := jgd_of h; obtain ⟨hb4, h⟩ := h
          replace h := obd_of h; obtain ⟨x5, hx5, h⟩ := h
          refine jr_V6_2 jf_69_114 hb4 (by omega) (r_Real_signed (by omega) _ _ _ _ _ hx5) (Nat.le_of_ble_eq_true rfl) jml_27 (Nat.le_of_ble_eq_true rfl) ?_
          obtain rfl := Option.some.inj h
          exact jr_retJ jf_69_117 jmt_69
set_option maxRecDepth 10000 in
set_option maxHeartbeats 4000000 in
theorem r_Real_product_132 {B : Nat} {SA : Nat → Nat} {d : Nat} (hd : 2 ≤ d) : ∀ (L : JLoc) (v0 : Nat) (v9 : Bool) (μ : JMem) (r : Int64), jget L 0 = .ref v0 → jget L 9 = .int (jb v9) → g_Real_product_132 v0 v9 μ.1 = some r → jR B SA d m_Real_product 132 L [] μ (some (.long r)) μ := by
  intro L v0 v9 μ r hl0 hl9 h
  unfold g_Real_product_132 at h
  refine jr_aload_n jf_69_132 rfl hl0 ?_
  refine jr_iload jf_69_133 hl9 ?_
  refine jr_lconst0 jf_69_135 ?_
  replace h := jgd_of h; obtain ⟨hb1, h⟩ := h
  replace h := obd_of h; obtain ⟨x2, hx2, h⟩ := h
  refine jr_V6_2 jf_69_136 hb1 (by omega) (r_Real_signed (by omega) _ _ _ _ _ hx2) (Nat.le_of_ble_eq_true rfl) jml_27 (Nat.le_of_ble_eq_true rfl) ?_
  obtain rfl := Option.some.inj h
  exact jr_retJ jf_69_139 jmt_69
set_option maxRecDepth 10000 in
set_option maxHeartbeats 4000000 in
theorem r_Real_product_44 {B : Nat} {SA : Nat → Nat} {d : Nat} (hd : 2 ≤ d) : ∀ (L : JLoc) (v0 : Nat) (v5 : Int64) (v7 : Int64) (s0 : Bool) (μ : JMem) (r : Int64), jget L 0 = .ref v0 → jget L 5 = .long v5 → jget L 7 = .long v7 → g_Real_product_44 v0 v5 v7 s0 μ.1 = some r → jR B SA d m_Real_product 44 L [.int (jb s0)] μ (some (.long r)) μ := by
  intro L v0 v5 v7 s0 μ r hl0 hl5 hl7 h
  unfold g_Real_product_44 at h
  refine jr_istore jf_69_44 jml_69 (by decide) ?_
  refine jr_lload jf_69_46 (jg1_ne rfl hl5) ?_
  refine jr_aload_n jf_69_48 rfl (jg1_ne rfl hl0) ?_
  replace h := obd_of h; obtain ⟨x1, hx1, h⟩ := h
  refine jr_getJ jf_69_49 hx1 ?_
  refine jr_lcmp jf_69_52 ?_
  replace h := ite_or h; rcases h with ⟨hc, h⟩ | ⟨hc, h⟩
  · refine jr_ifl_ge_t jf_69_53 hc ?_
    exact r_Real_product_66 hd _ _ _ _ _ _ _ (jg1_ne rfl hl0) (jg1_ne rfl hl5) (jg1_ne rfl hl7) jg1_same h
  · refine jr_ifl_ge_f jf_69_53 hc ?_
    refine jr_lload jf_69_56 (jg1_ne rfl hl7) ?_
    refine jr_aload_n jf_69_58 rfl (jg1_ne rfl hl0) ?_
    replace h := obd_of h; obtain ⟨x2, hx2, h⟩ := h
    refine jr_getJ jf_69_59 hx2 ?_
    refine jr_lcmp jf_69_62 ?_
    replace h := ite_or h; rcases h with ⟨hc, h⟩ | ⟨hc, h⟩
    · refine jr_ifl_lt_t jf_69_63 hc ?_
      refine jr_lload jf_69_118 (jg1_ne rfl hl5) ?_
      refine jr_lconst0 jf_69_120 ?_
      refine jr_lcmp jf_69_121 ?_
      replace h := ite_or h; rcases h with ⟨hc, h⟩ | ⟨hc, h⟩
      · refine jr_ifl_eq_t jf_69_122 hc ?_
        exact r_Real_product_132 hd _ _ _ _ _ (jg1_ne rfl hl0) jg1_same h
      · refine jr_ifl_eq_f jf_69_122 hc ?_
        refine jr_lload jf_69_125 (jg1_ne rfl hl7) ?_
        refine jr_lconst0 jf_69_127 ?_
        refine jr_lcmp jf_69_128 ?_
        replace h := ite_or h; rcases h with ⟨hc, h⟩ | ⟨hc, h⟩
        · refine jr_ifl_ne_f jf_69_129 hc ?_
          exact r_Real_product_132 hd _ _ _ _ _ (jg1_ne rfl hl0) jg1_same h
        · refine jr_ifl_ne_t jf_69_129 hc ?_
          refine jr_aload_n jf_69_140 rfl (jg1_ne rfl hl0) ?_
          refine jr_lload jf_69_141 (jg1_ne rfl hl5) ?_
          replace h := jgd_of h; obtain ⟨hb3, h⟩ := h
          replace h := obd_of h; obtain ⟨x4, hx4, h⟩ := h
          refine jr_V6_1 jf_69_143 hb3 (by omega) (r_Real_mantissa (by omega) _ _ _ _ hx4) (Nat.le_of_ble_eq_true rfl) jml_33 (Nat.le_of_ble_eq_true rfl) ?_
          refine jr_lstore jf_69_146 jml_69 (by decide) ?_
          refine jr_aload_n jf_69_148 rfl (jg2_ne rfl (jg1_ne rfl hl0)) ?_
          refine jr_lload jf_69_149 (jg2_ne rfl (jg1_ne rfl hl7)) ?_
          replace h := jgd_of h; obtain ⟨hb5, h⟩ := h
          replace h := obd_of h; obtain ⟨x6, hx6, h⟩ := h
          refine jr_V6_1 jf_69_151 hb5 (by omega) (r_Real_mantissa (by omega) _ _ _ _ hx6) (Nat.le_of_ble_eq_true rfl) jml_33 (Nat.le_of_ble_eq_true rfl) ?_
          refine jr_lstore jf_69_154 jml_69 (by decide) ?_
          refine jr_lload jf_69_156 (jg2_ne rfl jg2_same) ?_
          refine jr_S3_1 jf_69_158 (by omega) (r_Real_lead (by omega) _ _ _ rfl) (Nat.le_of_ble_eq_true rfl) jml_26 (Nat.le_of_ble_eq_true rfl) ?_
          refine jr_bipush jf_69_161 jc_b_62 ?_
          refine jr_isub jf_69_163 ?_
          refine jr_bipush jf_69_164 jc_b_52 ?_
          refine jr_iadd jf_69_166 ?_
          refine jr_istore jf_69_167 jml_69 (by decide) ?_
          replace h := jlet_of h
          refine jr_lload jf_69_169 (jg1_ne rfl jg2_same) ?_
          refine jr_S3_1 jf_69_171 (by omega) (r_Real_lead (by omega) _ _ _ rfl) (Nat.le_of_ble_eq_true rfl) jml_26 (Nat.le_of_ble_eq_true rfl) ?_
          refine jr_bipush jf_69_174 jc_b_62 ?_
          refine jr_isub jf_69_176 ?_
          refine jr_bipush jf_69_177 jc_b_52 ?_
          refine jr_iadd jf_69_179 ?_
          refine jr_istore jf_69_180 jml_69 (by decide) ?_
          replace h := jlet_of h
          refine jr_aload_n jf_69_182 rfl (jg1_ne rfl (jg1_ne rfl (jg2_ne rfl (jg2_ne rfl (jg1_ne rfl hl0))))) ?_
          refine jr_iload jf_69_183 (jg1_ne rfl (jg1_ne rfl (jg2_ne rfl (jg2_pre rfl jg1_same)))) ?_
          refine jr_aload_n jf_69_185 rfl (jg1_ne rfl (jg1_ne rfl (jg2_ne rfl (jg2_ne rfl (jg1_ne rfl hl0))))) ?_
          refine jr_lload jf_69_186 (jg1_ne rfl (jg1_ne rfl (jg2_ne rfl (jg2_ne rfl (jg1_ne rfl hl5))))) ?_
          replace h := jgd_of h; obtain ⟨hb9, h⟩ := h
          replace h := obd_of h; obtain ⟨x10, hx10, h⟩ := h
          refine jr_V6_1 jf_69_188 hb9 (by omega) (r_Real_exponent (by omega) _ _ _ _ hx10) (Nat.le_of_ble_eq_true rfl) jml_32 (Nat.le_of_ble_eq_true rfl) ?_
          refine jr_iload jf_69_191 (jg1_pre rfl jg1_same) ?_
          refine jr_isub jf_69_193 ?_
          refine jr_aload_n jf_69_194 rfl (jg1_ne rfl (jg1_ne rfl (jg2_ne rfl (jg2_ne rfl (jg1_ne rfl hl0))))) ?_
          refine jr_lload jf_69_195 (jg1_ne rfl (jg1_ne rfl (jg2_ne rfl (jg2_ne rfl (jg1_ne rfl hl7))))) ?_
          replace h := jgd_of h; obtain ⟨hb11, h⟩ := h
          replace h := obd_of h; obtain ⟨x12, hx12, h⟩ := h
          refine jr_V6_1 jf_69_197 hb11 (by omega) (r_Real_exponent (by omega) _ _ _ _ hx12) (Nat.le_of_ble_eq_true rfl) jml_32 (Nat.le_of_ble_eq_true rfl) ?_
          refine jr_iadd jf_69_200 ?_
          refine jr_iload jf_69_201 jg1_same ?_
          refine jr_isub jf_69_203 ?_
          refine jr_bipush jf_69_204 jc_b_44 ?_
          refine jr_iadd jf_69_206 ?_
          refine jr_lload jf_69_207 (jg1_ne rfl (jg1_ne rfl (jg2_ne rfl jg2_same))) ?_
          refine jr_iload jf_69_209 (jg1_pre rfl jg1_same) ?_
          refine jr_lshl jf_69_211 ?_
          refine jr_lload jf_69_212 (jg1_ne rfl (jg1_ne rfl jg2_same)) ?_
          refine jr_iload jf_69_214 jg1_same ?_
          refine jr_lshl jf_69_216 ?_
          refine jr_S3_2 jf_69_217 (by omega) (r_Real_highProduct (by omega) _ _ _ _ rfl) (Nat.le_of_ble_eq_true rfl) jml_70 (Nat.le_of_ble_eq_true rfl) ?_
          replace h := jgd_of h; obtain ⟨hb13, h⟩ := h
          replace h := obd_of h; obtain ⟨x14, hx14, h⟩ := h
          refine jr_V6_3 jf_69_220 hb13 (by omega) (r_Real_packed (by omega) _ _ _ _ _ _ hx14) (Nat.le_of_ble_eq_true rfl) jml_28 (Nat.le_of_ble_eq_true rfl) ?_
          obtain rfl := Option.some.inj h
          exact jr_retJ jf_69_223 jmt_69
    · refine jr_ifl_lt_f jf_69_63 hc ?_
      exact r_Real_product_66 hd _ _ _ _ _ _ _ (jg1_ne rfl hl0) (jg1_ne rfl hl5) (jg1_ne rfl hl7) jg1_same h
set_option maxRecDepth 10000 in
set_option maxHeartbeats 4000000 in
theorem r_Real_product_36 {B : Nat} {SA : Nat → Nat} {d : Nat} (hd : 2 ≤ d) : ∀ (L : JLoc) (v0 : Nat) (v5 : Int64) (v7 : Int64) (s0 : Bool) (s1 : Bool) (μ : JMem) (r : Int64), jget L 0 = .ref v0 → jget L 5 = .long v5 → jget L 7 = .long v7 → g_Real_product_36 v0 v5 v7 s0 s1 μ.1 = some r → jR B SA d m_Real_product 36 L [.int (jb s0), .int (jb s1)] μ (some (.long r)) μ := by
  intro L v0 v5 v7 s0 s1 μ r hl0 hl5 hl7 h
  unfold g_Real_product_36 at h
  replace h := ite_or h; rcases h with ⟨hc, h⟩ | ⟨hc, h⟩
  · refine jr_if2z_eq_t jf_69_36 hc ?_
    refine jr_iconst jf_69_43 jc_i_0 ?_
    exact r_Real_product_44 hd _ _ _ _ false _ _ hl0 hl5 hl7 h
  · refine jr_if2z_eq_f jf_69_36 hc ?_
    refine jr_iconst jf_69_39 jc_i_1 ?_
    refine jr_goto jf_69_40 ?_
    exact r_Real_product_44 hd _ _ _ _ true _ _ hl0 hl5 hl7 h
set_option maxRecDepth 10000 in
set_option maxHeartbeats 4000000 in
theorem r_Real_product_25 {B : Nat} {SA : Nat → Nat} {d : Nat} (hd : 2 ≤ d) : ∀ (L : JLoc) (v0 : Nat) (v3 : Int64) (v5 : Int64) (v7 : Int64) (s0 : Bool) (μ : JMem) (r : Int64), jget L 0 = .ref v0 → jget L 3 = .long v3 → jget L 5 = .long v5 → jget L 7 = .long v7 → g_Real_product_25 v0 v3 v5 v7 s0 μ.1 = some r → jR B SA d m_Real_product 25 L [.int (jb s0)] μ (some (.long r)) μ := by
  intro L v0 v3 v5 v7 s0 μ r hl0 hl3 hl5 hl7 h
  unfold g_Real_product_25 at h
  refine jr_lload_n jf_69_25 rfl hl3 ?_
  refine jr_lconst0 jf_69_26 ?_
  refine jr_lcmp jf_69_27 ?_
  replace h := ite_or h; rcases h with ⟨hc, h⟩ | ⟨hc, h⟩
  · refine jr_ifl_ge_t jf_69_28 hc ?_
    refine jr_iconst jf_69_35 jc_i_0 ?_
    exact r_Real_product_36 hd _ _ _ _ false _ _ _ hl0 hl5 hl7 h
  · refine jr_ifl_ge_f jf_69_28 hc ?_
    refine jr_iconst jf_69_31 jc_i_1 ?_
    refine jr_goto jf_69_32 ?_
    exact r_Real_product_36 hd _ _ _ _ true _ _ _ hl0 hl5 hl7 h
set_option maxRecDepth 10000 in
set_option maxHeartbeats 4000000 in
theorem r_Real_product_e {B : Nat} {SA : Nat → Nat} {d : Nat} (hd : 2 ≤ d) : ∀ (L : JLoc) (v0 : Nat) (v1 : Int64) (v3 : Int64) (μ : JMem) (r : Int64), jget L 0 = .ref v0 → jget L 1 = .long v1 → jget L 3 = .long v3 → g_Real_product v0 v1 v3 μ.1 = some r → jR B SA d m_Real_product 0 L [] μ (some (.long r)) μ := by
  intro L v0 v1 v3 μ r hl0 hl1 hl3 h
  unfold g_Real_product at h
  refine jr_aload_n jf_69_0 rfl hl0 ?_
  refine jr_lload_n jf_69_1 rfl hl1 ?_
  replace h := jgd_of h; obtain ⟨hb1, h⟩ := h
  replace h := obd_of h; obtain ⟨x2, hx2, h⟩ := h
  refine jr_V6_1 jf_69_2 hb1 (by omega) (r_Real_sizeOf (by omega) _ _ _ _ hx2) (Nat.le_of_ble_eq_true rfl) jml_31 (Nat.le_of_ble_eq_true rfl) ?_
  refine jr_lstore jf_69_5 jml_69 (by decide) ?_
  refine jr_aload_n jf_69_7 rfl (jg2_ne rfl hl0) ?_
  refine jr_lload_n jf_69_8 rfl (jg2_ne rfl hl3) ?_
  replace h := jgd_of h; obtain ⟨hb3, h⟩ := h
  replace h := obd_of h; obtain ⟨x4, hx4, h⟩ := h
  refine jr_V6_1 jf_69_9 hb3 (by omega) (r_Real_sizeOf (by omega) _ _ _ _ hx4) (Nat.le_of_ble_eq_true rfl) jml_31 (Nat.le_of_ble_eq_true rfl) ?_
  refine jr_lstore jf_69_12 jml_69 (by decide) ?_
  refine jr_lload_n jf_69_14 rfl (jg2_ne rfl (jg2_ne rfl hl1)) ?_
  refine jr_lconst0 jf_69_15 ?_
  refine jr_lcmp jf_69_16 ?_
  replace h := ite_or h; rcases h with ⟨hc, h⟩ | ⟨hc, h⟩
  · refine jr_ifl_ge_t jf_69_17 hc ?_
    refine jr_iconst jf_69_24 jc_i_0 ?_
    exact r_Real_product_25 hd _ _ _ _ _ false _ _ (jg2_ne rfl (jg2_ne rfl hl0)) (jg2_ne rfl (jg2_ne rfl hl3)) (jg2_ne rfl jg2_same) jg2_same h
  · refine jr_ifl_ge_f jf_69_17 hc ?_
    refine jr_iconst jf_69_20 jc_i_1 ?_
    refine jr_goto jf_69_21 ?_
    exact r_Real_product_25 hd _ _ _ _ _ true _ _ (jg2_ne rfl (jg2_ne rfl hl0)) (jg2_ne rfl (jg2_ne rfl hl3)) (jg2_ne rfl jg2_same) jg2_same h
set_option maxRecDepth 10000 in
set_option maxHeartbeats 4000000 in
theorem r_Real_product {B : Nat} {SA : Nat → Nat} {d : Nat} (hd : 2 ≤ d) : ∀ (v0 : Nat) (v1 : Int64) (v3 : Int64) (μ : JMem) (r : Int64), g_Real_product v0 v1 v3 μ.1 = some r → jR B SA d m_Real_product 0 (lv_args 0 [.ref v0, .long v1, .long v3]) [] μ (some (.long r)) μ := by
  intro v0 v1 v3 μ r h
  exact r_Real_product_e hd (lv_args 0 _) _ _ _ _ _ (by simp [lv_args, jget, rv_cat, cat_int, cat_long, cat_double, cat_float, cat_ref]) (by simp [lv_args, jget, rv_cat, cat_int, cat_long, cat_double, cat_float, cat_ref]) (by simp [lv_args, jget, rv_cat, cat_int, cat_long, cat_double, cat_float, cat_ref]) h
