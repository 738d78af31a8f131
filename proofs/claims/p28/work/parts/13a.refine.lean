/-! the machine refines the functions (printed by wip/p28/dec.py) -/
/-! FilterBench$DeadCycles.<init>()V -/
set_option maxRecDepth 10000 in
set_option maxHeartbeats 4000000 in
theorem r_DeadCycles_init_e {B : Nat} {SA : Nat → Nat} {d : Nat} (hd : 1 ≤ d) : ∀ (L : JLoc) (v0 : Nat) (μ : JMem) (μ9 : JMem), jget L 0 = .ref v0 → g_DeadCycles_init v0 μ = some μ9 → jR B SA d m_DeadCycles_init 0 L [] μ none μ9 := by
  intro L v0 μ μ9 hl0 h
  unfold g_DeadCycles_init at h
  refine jr_aload_n jf_4_0 rfl hl0 ?_
  refine jr_oinit jf_4_1 (by omega) (Nat.le_of_ble_eq_true rfl) ?_
  obtain rfl := Option.some.inj h
  exact jr_return jf_4_4 jmt_4
set_option maxRecDepth 10000 in
set_option maxHeartbeats 4000000 in
theorem r_DeadCycles_init {B : Nat} {SA : Nat → Nat} {d : Nat} (hd : 1 ≤ d) : ∀ (v0 : Nat) (μ : JMem) (μ9 : JMem), g_DeadCycles_init v0 μ = some μ9 → jR B SA d m_DeadCycles_init 0 (lv_args 0 [.ref v0]) [] μ none μ9 := by
  intro v0 μ μ9 h
  exact r_DeadCycles_init_e hd (lv_args 0 _) _ _ _ (by simp [lv_args, jget, rv_cat, cat_int, cat_long, cat_double, cat_float, cat_ref]) h
/-! FilterBench$Numbers.<init>()V -/
set_option maxRecDepth 10000 in
set_option maxHeartbeats 4000000 in
theorem r_Numbers_init_e {B : Nat} {SA : Nat → Nat} {d : Nat} (hd : 1 ≤ d) : ∀ (L : JLoc) (v0 : Nat) (μ : JMem) (μ9 : JMem), jget L 0 = .ref v0 → g_Numbers_init v0 μ = some μ9 → jR B SA d m_Numbers_init 0 L [] μ none μ9 := by
  intro L v0 μ μ9 hl0 h
  unfold g_Numbers_init at h
  refine jr_aload_n jf_2_0 rfl hl0 ?_
  refine jr_oinit jf_2_1 (by omega) (Nat.le_of_ble_eq_true rfl) ?_
  obtain rfl := Option.some.inj h
  exact jr_return jf_2_4 jmt_2
set_option maxRecDepth 10000 in
set_option maxHeartbeats 4000000 in
theorem r_Numbers_init {B : Nat} {SA : Nat → Nat} {d : Nat} (hd : 1 ≤ d) : ∀ (v0 : Nat) (μ : JMem) (μ9 : JMem), g_Numbers_init v0 μ = some μ9 → jR B SA d m_Numbers_init 0 (lv_args 0 [.ref v0]) [] μ none μ9 := by
  intro v0 μ μ9 h
  exact r_Numbers_init_e hd (lv_args 0 _) _ _ _ (by simp [lv_args, jget, rv_cat, cat_int, cat_long, cat_double, cat_float, cat_ref]) h
/-! FilterBench$Real.<init>(II)V -/
set_option maxRecDepth 10000 in
set_option maxHeartbeats 4000000 in
theorem r_Real_init_e {B : Nat} {SA : Nat → Nat} {d : Nat} (hd : 2 ≤ d) : ∀ (L : JLoc) (v0 : Nat) (v1 : Int32) (v2 : Int32) (μ : JMem) (μ9 : JMem), jget L 0 = .ref v0 → jget L 1 = .int v1 → jget L 2 = .int v2 → g_Real_init B v0 v1 v2 μ = some μ9 → jR B SA d m_Real_init 0 L [] μ none μ9 := by
  intro L v0 v1 v2 μ μ9 hl0 hl1 hl2 h
  unfold g_Real_init at h
  refine jr_aload_n jf_1_0 rfl hl0 ?_
  replace h := obd_of h; obtain ⟨μ1, hμ1, h⟩ := h
  refine jr_P2v_0 jf_1_1 (by omega) (r_Numbers_init (by omega) _ _ _ hμ1) (Nat.le_of_ble_eq_true rfl) jml_2 (Nat.le_of_ble_eq_true rfl) ?_
  refine jr_aload_n jf_1_4 rfl hl0 ?_
  refine jr_iload_n jf_1_5 rfl hl1 ?_
  replace h := obd_of h; obtain ⟨μ2, hμ2, h⟩ := h
  refine jr_putI jf_1_6 rfl hμ2 ?_
  refine jr_aload_n jf_1_9 rfl hl0 ?_
  refine jr_lconst1 jf_1_10 ?_
  refine jr_iload_n jf_1_11 rfl hl1 ?_
  refine jr_lshl jf_1_12 ?_
  replace h := obd_of h; obtain ⟨μ3, hμ3, h⟩ := h
  refine jr_putJ jf_1_13 rfl hμ3 ?_
  refine jr_aload_n jf_1_16 rfl hl0 ?_
  refine jr_iconst jf_1_17 jc_i_1 ?_
  refine jr_iload_n jf_1_18 rfl hl2 ?_
  refine jr_ishl jf_1_19 ?_
  refine jr_iconst jf_1_20 jc_i_1 ?_
  refine jr_isub jf_1_21 ?_
  replace h := obd_of h; obtain ⟨μ4, hμ4, h⟩ := h
  refine jr_putI jf_1_22 rfl hμ4 ?_
  refine jr_aload_n jf_1_25 rfl hl0 ?_
  refine jr_aload_n jf_1_26 rfl hl0 ?_
  replace h := obd_of h; obtain ⟨x5, hx5, h⟩ := h
  refine jr_getI jf_1_27 hx5 ?_
  refine jr_iconst jf_1_30 jc_i_1 ?_
  refine jr_ishr jf_1_31 ?_
  replace h := obd_of h; obtain ⟨μ6, hμ6, h⟩ := h
  refine jr_putI jf_1_32 rfl hμ6 ?_
  refine jr_aload_n jf_1_35 rfl hl0 ?_
  refine jr_ldc2l jf_1_36 ?_
  refine jr_iload_n jf_1_39 rfl hl1 ?_
  refine jr_iload_n jf_1_40 rfl hl2 ?_
  refine jr_iadd jf_1_41 ?_
  refine jr_lshl jf_1_42 ?_
  replace h := obd_of h; obtain ⟨μ7, hμ7, h⟩ := h
  refine jr_putJ jf_1_43 rfl hμ7 ?_
  refine jr_aload_n jf_1_46 rfl hl0 ?_
  refine jr_aload_n jf_1_47 rfl hl0 ?_
  replace h := obd_of h; obtain ⟨x8, hx8, h⟩ := h
  refine jr_getI jf_1_48 hx8 ?_
  refine jr_i2l jf_1_51 ?_
  refine jr_iload_n jf_1_52 rfl hl1 ?_
  refine jr_lshl jf_1_53 ?_
  replace h := obd_of h; obtain ⟨μ9, hμ9, h⟩ := h
  refine jr_putJ jf_1_54 rfl hμ9 ?_
  refine jr_aload_n jf_1_57 rfl hl0 ?_
  refine jr_aload_n jf_1_58 rfl hl0 ?_
  replace h := obd_of h; obtain ⟨x10, hx10, h⟩ := h
  refine jr_getJ jf_1_59 hx10 ?_
  refine jr_aload_n jf_1_62 rfl hl0 ?_
  replace h := obd_of h; obtain ⟨x11, hx11, h⟩ := h
  refine jr_getJ jf_1_63 hx11 ?_
  refine jr_iconst jf_1_66 jc_i_1 ?_
  refine jr_lshr jf_1_67 ?_
  refine jr_lor jf_1_68 ?_
  replace h := obd_of h; obtain ⟨μ12, hμ12, h⟩ := h
  refine jr_putJ jf_1_69 rfl hμ12 ?_
  obtain rfl := Option.some.inj h
  exact jr_return jf_1_72 jmt_1
set_option maxRecDepth 10000 in
set_option maxHeartbeats 4000000 in
theorem r_Real_init {B : Nat} {SA : Nat → Nat} {d : Nat} (hd : 2 ≤ d) : ∀ (v0 : Nat) (v1 : Int32) (v2 : Int32) (μ : JMem) (μ9 : JMem), g_Real_init B v0 v1 v2 μ = some μ9 → jR B SA d m_Real_init 0 (lv_args 0 [.ref v0, .int v1, .int v2]) [] μ none μ9 := by
  intro v0 v1 v2 μ μ9 h
  exact r_Real_init_e hd (lv_args 0 _) _ _ _ _ _ (by simp [lv_args, jget, rv_cat, cat_int, cat_long, cat_double, cat_float, cat_ref]) (by simp [lv_args, jget, rv_cat, cat_int, cat_long, cat_double, cat_float, cat_ref]) (by simp [lv_args, jget, rv_cat, cat_int, cat_long, cat_double, cat_float, cat_ref]) h
/-! FilterBench$Shorts.<init>()V -/
set_option maxRecDepth 10000 in
set_option maxHeartbeats 4000000 in
theorem r_Shorts_init_e {B : Nat} {SA : Nat → Nat} {d : Nat} (hd : 2 ≤ d) : ∀ (L : JLoc) (v0 : Nat) (μ : JMem) (μ9 : JMem), jget L 0 = .ref v0 → g_Shorts_init v0 μ = some μ9 → jR B SA d m_Shorts_init 0 L [] μ none μ9 := by
  intro L v0 μ μ9 hl0 h
  unfold g_Shorts_init at h
  refine jr_aload_n jf_3_0 rfl hl0 ?_
  replace h := obd_of h; obtain ⟨μ1, hμ1, h⟩ := h
  refine jr_P2v_0 jf_3_1 (by omega) (r_Numbers_init (by omega) _ _ _ hμ1) (Nat.le_of_ble_eq_true rfl) jml_2 (Nat.le_of_ble_eq_true rfl) ?_
  obtain rfl := Option.some.inj h
  exact jr_return jf_3_4 jmt_3
set_option maxRecDepth 10000 in
set_option maxHeartbeats 4000000 in
theorem r_Shorts_init {B : Nat} {SA : Nat → Nat} {d : Nat} (hd : 2 ≤ d) : ∀ (v0 : Nat) (μ : JMem) (μ9 : JMem), g_Shorts_init v0 μ = some μ9 → jR B SA d m_Shorts_init 0 (lv_args 0 [.ref v0]) [] μ none μ9 := by
  intro v0 μ μ9 h
  exact r_Shorts_init_e hd (lv_args 0 _) _ _ _ (by simp [lv_args, jget, rv_cat, cat_int, cat_long, cat_double, cat_float, cat_ref]) h
/-! FilterBench.<init>()V -/
set_option maxRecDepth 10000 in
set_option maxHeartbeats 4000000 in
theorem r_B_init_e {B : Nat} {SA : Nat → Nat} {d : Nat} (hd : 3 ≤ d) : ∀ (L : JLoc) (v0 : Nat) (μ : JMem) (μ9 : JMem), jget L 0 = .ref v0 → g_B_init B v0 μ = some μ9 → jR B SA d m_B_init 0 L [] μ none μ9 := by
  intro L v0 μ μ9 hl0 h
  unfold g_B_init at h
  refine jr_aload_n jf_0_0 rfl hl0 ?_
  refine jr_oinit jf_0_1 (by omega) (Nat.le_of_ble_eq_true rfl) ?_
  refine jr_aload_n jf_0_4 rfl hl0 ?_
  replace h := jnew_of h
  refine jr_new jf_0_5 ?_
  refine jr_dup jf_0_8 rfl ?_
  refine jr_bipush jf_0_9 jc_b_52 ?_
  refine jr_bipush jf_0_11 jc_b_11 ?_
  replace h := obd_of h; obtain ⟨μ3, hμ3, h⟩ := h
  refine jr_P1v_2 jf_0_13 (by omega) (r_Real_init (by omega) _ _ _ _ _ hμ3) (Nat.le_of_ble_eq_true rfl) jml_1 (Nat.le_of_ble_eq_true rfl) ?_
  replace h := obd_of h; obtain ⟨μ4, hμ4, h⟩ := h
  refine jr_putA (x := some _) jf_0_16 rfl hμ4 ?_
  refine jr_aload_n jf_0_19 rfl hl0 ?_
  replace h := jnew_of h
  refine jr_new jf_0_20 ?_
  refine jr_dup jf_0_23 rfl ?_
  refine jr_bipush jf_0_24 jc_b_23 ?_
  refine jr_bipush jf_0_26 jc_b_8 ?_
  replace h := obd_of h; obtain ⟨μ7, hμ7, h⟩ := h
  refine jr_P1v_2 jf_0_28 (by omega) (r_Real_init (by omega) _ _ _ _ _ hμ7) (Nat.le_of_ble_eq_true rfl) jml_1 (Nat.le_of_ble_eq_true rfl) ?_
  replace h := obd_of h; obtain ⟨μ8, hμ8, h⟩ := h
  refine jr_putA (x := some _) jf_0_31 rfl hμ8 ?_
  refine jr_aload_n jf_0_34 rfl hl0 ?_
  replace h := jnew_of h
  refine jr_new jf_0_35 ?_
  refine jr_dup jf_0_38 rfl ?_
  replace h := obd_of h; obtain ⟨μ11, hμ11, h⟩ := h
  refine jr_P2v_0 jf_0_39 (by omega) (r_Shorts_init (by omega) _ _ _ hμ11) (Nat.le_of_ble_eq_true rfl) jml_3 (Nat.le_of_ble_eq_true rfl) ?_
  replace h := obd_of h; obtain ⟨μ12, hμ12, h⟩ := h
  refine jr_putA (x := some _) jf_0_42 rfl hμ12 ?_
  refine jr_aload_n jf_0_45 rfl hl0 ?_
  refine jr_bipush jf_0_46 jc_b_60 ?_
  replace h := jbd2_of h; obtain ⟨a13, μ14, ha13, h⟩ := h
  refine jr_anewarray jf_0_48 ha13 ?_
  replace h := obd_of h; obtain ⟨μ15, hμ15, h⟩ := h
  refine jr_putA (x := some _) jf_0_51 rfl hμ15 ?_
  refine jr_aload_n jf_0_54 rfl hl0 ?_
  refine jr_bipush jf_0_55 jc_b_20 ?_
  replace h := jbd2_of h; obtain ⟨a16, μ17, ha16, h⟩ := h
  refine jr_anewarray jf_0_57 ha16 ?_
  replace h := obd_of h; obtain ⟨μ18, hμ18, h⟩ := h
  refine jr_putA (x := some _) jf_0_60 rfl hμ18 ?_
  refine jr_aload_n jf_0_63 rfl hl0 ?_
  refine jr_bipush jf_0_64 jc_b_8 ?_
  replace h := jbd2_of h; obtain ⟨a19, μ20, ha19, h⟩ := h
  refine jr_anewarray jf_0_66 ha19 ?_
  replace h := obd_of h; obtain ⟨μ21, hμ21, h⟩ := h
  refine jr_putA (x := some _) jf_0_69 rfl hμ21 ?_
  refine jr_aload_n jf_0_72 rfl hl0 ?_
  refine jr_bipush jf_0_73 jc_b_20 ?_
  replace h := jbd2_of h; obtain ⟨a22, μ23, ha22, h⟩ := h
  refine jr_anewarray jf_0_75 ha22 ?_
  replace h := obd_of h; obtain ⟨μ24, hμ24, h⟩ := h
  refine jr_putA (x := some _) jf_0_78 rfl hμ24 ?_
  refine jr_aload_n jf_0_81 rfl hl0 ?_
  replace h := jnew_of h
  refine jr_new jf_0_82 ?_
  refine jr_dup jf_0_85 rfl ?_
  replace h := obd_of h; obtain ⟨μ27, hμ27, h⟩ := h
  refine jr_P2v_0 jf_0_86 (by omega) (r_DeadCycles_init (by omega) _ _ _ hμ27) (Nat.le_of_ble_eq_true rfl) jml_4 (Nat.le_of_ble_eq_true rfl) ?_
  replace h := obd_of h; obtain ⟨μ28, hμ28, h⟩ := h
  refine jr_putA (x := some _) jf_0_89 rfl hμ28 ?_
  obtain rfl := Option.some.inj h
  exact jr_return jf_0_92 jmt_0
set_option maxRecDepth 10000 in
set_option maxHeartbeats 4000000 in
theorem r_B_init {B : Nat} {SA : Nat → Nat} {d : Nat} (hd : 3 ≤ d) : ∀ (v0 : Nat) (μ : JMem) (μ9 : JMem), g_B_init B v0 μ = some μ9 → jR B SA d m_B_init 0 (lv_args 0 [.ref v0]) [] μ none μ9 := by
  intro v0 μ μ9 h
  exact r_B_init_e hd (lv_args 0 _) _ _ _ (by simp [lv_args, jget, rv_cat, cat_int, cat_long, cat_double, cat_float, cat_ref]) h
/-! FilterBench.fitsKind(II)Z -/
set_option maxRecDepth 10000 in
set_option maxHeartbeats 4000000 in
theorem r_B_fitsKind_48 {B : Nat} {SA : Nat → Nat} {d : Nat} (hd : 0 ≤ d) : ∀ (L : JLoc) (μ : JMem) (r : Bool), g_B_fitsKind_48 SA μ.1 = some r → jR B SA d m_B_fitsKind 48 L [] μ (some (.int (jb r))) μ := by
  intro L μ r h
  unfold g_B_fitsKind_48 at h
  refine jr_iconst jf_8_48 jc_i_1 ?_
  refine jr_goto jf_8_49 ?_
  obtain rfl := Option.some.inj h
  exact jr_retZ (x := true) jf_8_53 jmt_8
set_option maxRecDepth 10000 in
set_option maxHeartbeats 4000000 in
theorem r_B_fitsKind_e {B : Nat} {SA : Nat → Nat} {d : Nat} (hd : 0 ≤ d) : ∀ (L : JLoc) (v0 : Int32) (v1 : Int32) (μ : JMem) (r : Bool), jget L 0 = .int v0 → jget L 1 = .int v1 → g_B_fitsKind SA v0 v1 μ.1 = some r → jR B SA d m_B_fitsKind 0 L [] μ (some (.int (jb r))) μ := by
  intro L v0 v1 μ r hl0 hl1 h
  unfold g_B_fitsKind at h
  refine jr_iload_n jf_8_0 rfl hl0 ?_
  replace h := ite_or h; rcases h with ⟨hc, h⟩ | ⟨hc, h⟩
  · refine jr_if_lt_t jf_8_1 hc ?_
    refine jr_iconst jf_8_20 jc_i_0 ?_
    obtain rfl := Option.some.inj h
    exact jr_retZ (x := false) jf_8_21 jmt_8
  · refine jr_if_lt_f jf_8_1 hc ?_
    refine jr_iload_n jf_8_4 rfl hl0 ?_
    refine jr_getstatic jf_8_5 ?_
    replace h := obd_of h; obtain ⟨x1, hx1, h⟩ := h
    refine jr_arraylength jf_8_8 hx1 ?_
    replace h := ite_or h; rcases h with ⟨hc, h⟩ | ⟨hc, h⟩
    · refine jr_if2_ge_t jf_8_9 hc ?_
      refine jr_iconst jf_8_20 jc_i_0 ?_
      obtain rfl := Option.some.inj h
      exact jr_retZ (x := false) jf_8_21 jmt_8
    · refine jr_if2_ge_f jf_8_9 hc ?_
      refine jr_iload_n jf_8_12 rfl hl0 ?_
      refine jr_getstatic jf_8_13 ?_
      replace h := obd_of h; obtain ⟨x2, hx2, h⟩ := h
      refine jr_arraylength jf_8_16 hx2 ?_
      replace h := ite_or h; rcases h with ⟨hc, h⟩ | ⟨hc, h⟩
      · refine jr_if2_lt_t jf_8_17 hc ?_
        refine jr_getstatic jf_8_22 ?_
        refine jr_iload_n jf_8_25 rfl hl0 ?_
        replace h := obd_of h; obtain ⟨x3, hx3, h⟩ := h
        refine jr_iaload jf_8_26 hx3 ?_
        replace h := ite_or h; rcases h with ⟨hc, h⟩ | ⟨hc, h⟩
        · refine jr_if_eq_t jf_8_27 hc ?_
          exact r_B_fitsKind_48 hd _  _ _ h
        · refine jr_if_eq_f jf_8_27 hc ?_
          refine jr_iload_n jf_8_30 rfl hl1 ?_
          refine jr_getstatic jf_8_31 ?_
          refine jr_iload_n jf_8_34 rfl hl0 ?_
          replace h := obd_of h; obtain ⟨x4, hx4, h⟩ := h
          refine jr_iaload jf_8_35 hx4 ?_
          replace h := ite_or h; rcases h with ⟨hc, h⟩ | ⟨hc, h⟩
          · refine jr_if2_lt_t jf_8_36 hc ?_
            refine jr_iconst jf_8_52 jc_i_0 ?_
            obtain rfl := Option.some.inj h
            exact jr_retZ (x := false) jf_8_53 jmt_8
          · refine jr_if2_lt_f jf_8_36 hc ?_
            refine jr_iload_n jf_8_39 rfl hl1 ?_
            refine jr_getstatic jf_8_40 ?_
            refine jr_iload_n jf_8_43 rfl hl0 ?_
            replace h := obd_of h; obtain ⟨x5, hx5, h⟩ := h
            refine jr_iaload jf_8_44 hx5 ?_
            replace h := ite_or h; rcases h with ⟨hc, h⟩ | ⟨hc, h⟩
            · refine jr_if2_gt_t jf_8_45 hc ?_
              refine jr_iconst jf_8_52 jc_i_0 ?_
              obtain rfl := Option.some.inj h
              exact jr_retZ (x := false) jf_8_53 jmt_8
            · refine jr_if2_gt_f jf_8_45 hc ?_
              exact r_B_fitsKind_48 hd _  _ _ h
      · refine jr_if2_lt_f jf_8_17 hc ?_
        refine jr_iconst jf_8_20 jc_i_0 ?_
        obtain rfl := Option.some.inj h
        exact jr_retZ (x := false) jf_8_21 jmt_8
set_option maxRecDepth 10000 in
set_option maxHeartbeats 4000000 in
theorem r_B_fitsKind {B : Nat} {SA : Nat → Nat} {d : Nat} (hd : 0 ≤ d) : ∀ (v0 : Int32) (v1 : Int32) (μ : JMem) (r : Bool), g_B_fitsKind SA v0 v1 μ.1 = some r → jR B SA d m_B_fitsKind 0 (lv_args 0 [.int v0, .int v1]) [] μ (some (.int (jb r))) μ := by
  intro v0 v1 μ r h
  exact r_B_fitsKind_e hd (lv_args 0 _) _ _ _ _ (by simp [lv_args, jget, rv_cat, cat_int, cat_long, cat_double, cat_float, cat_ref]) (by simp [lv_args, jget, rv_cat, cat_int, cat_long, cat_double, cat_float, cat_ref]) h
/-! FilterBench.isKind(I)Z -/
set_option maxRecDepth 10000 in
set_option maxHeartbeats 4000000 in
theorem r_B_isKind_e {B : Nat} {SA : Nat → Nat} {d : Nat} (hd : 0 ≤ d) : ∀ (L : JLoc) (v0 : Int32) (μ : JMem) (r : Bool), jget L 0 = .int v0 → g_B_isKind SA v0 μ.1 = some r → jR B SA d m_B_isKind 0 L [] μ (some (.int (jb r))) μ := by
  intro L v0 μ r hl0 h
  unfold g_B_isKind at h
  refine jr_iload_n jf_7_0 rfl hl0 ?_
  replace h := ite_or h; rcases h with ⟨hc, h⟩ | ⟨hc, h⟩
  · refine jr_if_lt_t jf_7_1 hc ?_
    refine jr_iconst jf_7_16 jc_i_0 ?_
    obtain rfl := Option.some.inj h
    exact jr_retZ (x := false) jf_7_17 jmt_7
  · refine jr_if_lt_f jf_7_1 hc ?_
    refine jr_iload_n jf_7_4 rfl hl0 ?_
    refine jr_getstatic jf_7_5 ?_
    replace h := obd_of h; obtain ⟨x1, hx1, h⟩ := h
    refine jr_arraylength jf_7_8 hx1 ?_
    replace h := ite_or h; rcases h with ⟨hc, h⟩ | ⟨hc, h⟩
    · refine jr_if2_ge_t jf_7_9 hc ?_
      refine jr_iconst jf_7_16 jc_i_0 ?_
      obtain rfl := Option.some.inj h
      exact jr_retZ (x := false) jf_7_17 jmt_7
    · refine jr_if2_ge_f jf_7_9 hc ?_
      refine jr_iconst jf_7_12 jc_i_1 ?_
      refine jr_goto jf_7_13 ?_
      obtain rfl := Option.some.inj h
      exact jr_retZ (x := true) jf_7_17 jmt_7
set_option maxRecDepth 10000 in
set_option maxHeartbeats 4000000 in
theorem r_B_isKind {B : Nat} {SA : Nat → Nat} {d : Nat} (hd : 0 ≤ d) : ∀ (v0 : Int32) (μ : JMem) (r : Bool), g_B_isKind SA v0 μ.1 = some r → jR B SA d m_B_isKind 0 (lv_args 0 [.int v0]) [] μ (some (.int (jb r))) μ := by
  intro v0 μ r h
  exact r_B_isKind_e hd (lv_args 0 _) _ _ _ (by simp [lv_args, jget, rv_cat, cat_int, cat_long, cat_double, cat_float, cat_ref]) h
/-! FilterBench$Row.<init>(I)V -/
set_option maxRecDepth 10000 in
set_option maxHeartbeats 4000000 in
theorem r_Row_init_14 {B : Nat} {SA : Nat → Nat} {d : Nat} (hd : 1 ≤ d) : ∀ (L : JLoc) (s0 : Int32) (s1 : Nat) (μ : JMem) (μ9 : JMem), g_Row_init_14 B s0 s1 μ = some μ9 → jR B SA d m_Row_init 14 L [.int s0, .ref s1] μ none μ9 := by
  intro L s0 s1 μ μ9 h
  unfold g_Row_init_14 at h
  replace h := jbd2_of h; obtain ⟨a1, μ2, ha1, h⟩ := h
  refine jr_newarray jf_11_14 rfl ha1 ?_
  replace h := obd_of h; obtain ⟨μ3, hμ3, h⟩ := h
  refine jr_putA (x := some _) jf_11_16 rfl hμ3 ?_
  obtain rfl := Option.some.inj h
  exact jr_return jf_11_19 jmt_11
set_option maxRecDepth 10000 in
set_option maxHeartbeats 4000000 in
theorem r_Row_init_e {B : Nat} {SA : Nat → Nat} {d : Nat} (hd : 1 ≤ d) : ∀ (L : JLoc) (v0 : Nat) (v1 : Int32) (μ : JMem) (μ9 : JMem), jget L 0 = .ref v0 → jget L 1 = .int v1 → g_Row_init B v0 v1 μ = some μ9 → jR B SA d m_Row_init 0 L [] μ none μ9 := by
  intro L v0 v1 μ μ9 hl0 hl1 h
  unfold g_Row_init at h
  refine jr_aload_n jf_11_0 rfl hl0 ?_
  refine jr_oinit jf_11_1 (by omega) (Nat.le_of_ble_eq_true rfl) ?_
  refine jr_aload_n jf_11_4 rfl hl0 ?_
  refine jr_iload_n jf_11_5 rfl hl1 ?_
  replace h := ite_or h; rcases h with ⟨hc, h⟩ | ⟨hc, h⟩
  · refine jr_if_ge_t jf_11_6 hc ?_
    refine jr_iload_n jf_11_13 rfl hl1 ?_
    exact r_Row_init_14 hd _ _ _ _ _ h
  · refine jr_if_ge_f jf_11_6 hc ?_
    refine jr_iconst jf_11_9 jc_i_0 ?_
    refine jr_goto jf_11_10 ?_
    exact r_Row_init_14 hd _ _ _ _ _ h
set_option maxRecDepth 10000 in
set_option maxHeartbeats 4000000 in
theorem r_Row_init {B : Nat} {SA : Nat → Nat} {d : Nat} (hd : 1 ≤ d) : ∀ (v0 : Nat) (v1 : Int32) (μ : JMem) (μ9 : JMem), g_Row_init B v0 v1 μ = some μ9 → jR B SA d m_Row_init 0 (lv_args 0 [.ref v0, .int v1]) [] μ none μ9 := by
  intro v0 v1 μ μ9 h
  exact r_Row_init_e hd (lv_args 0 _) _ _ _ _ (by simp [lv_args, jget, rv_cat, cat_int, cat_long, cat_double, cat_float, cat_ref]) (by simp [lv_args, jget, rv_cat, cat_int, cat_long, cat_double, cat_float, cat_ref]) h
/-! FilterBench$Section.<init>(IIIILFilterBench$Numbers;)V -/
set_option maxRecDepth 10000 in
set_option maxHeartbeats 4000000 in
theorem r_Section_init_128 {B : Nat} {SA : Nat → Nat} {d : Nat} (hd : 2 ≤ d) : ∀ (L : JLoc) (s0 : Int32) (s1 : Nat) (s2 : Nat) (s3 : Nat) (μ : JMem) (μ9 : JMem), g_Section_init_128 B SA s0 s1 s2 s3 μ = some μ9 → jR B SA d m_Section_init 128 L [.int s0, .ref s1, .ref s2, .ref s3] μ none μ9 := by
  intro L s0 s1 s2 s3 μ μ9 h
  unfold g_Section_init_128 at h
  replace h := obd_of h; obtain ⟨μ1, hμ1, h⟩ := h
  refine jr_P1v_1 jf_10_128 (by omega) (r_Row_init (by omega) _ _ _ _ hμ1) (Nat.le_of_ble_eq_true rfl) jml_11 (Nat.le_of_ble_eq_true rfl) ?_
  replace h := obd_of h; obtain ⟨μ2, hμ2, h⟩ := h
  refine jr_putA (x := some _) jf_10_131 rfl hμ2 ?_
  obtain rfl := Option.some.inj h
  exact jr_return jf_10_134 jmt_10
set_option maxRecDepth 10000 in
set_option maxHeartbeats 4000000 in
theorem r_Section_init_109 {B : Nat} {SA : Nat → Nat} {d : Nat} (hd : 2 ≤ d) : ∀ (L : JLoc) (v0 : Nat) (v4 : Int32) (s0 : Int32) (μ : JMem) (μ9 : JMem), jget L 0 = .ref v0 → jget L 4 = .int v4 → g_Section_init_109 B SA v0 v4 s0 μ = some μ9 → jR B SA d m_Section_init 109 L [.int s0] μ none μ9 := by
  intro L v0 v4 s0 μ μ9 hl0 hl4 h
  unfold g_Section_init_109 at h
  refine jr_istore jf_10_109 jml_10 (by decide) ?_
  refine jr_aload_n jf_10_111 rfl (jg1_ne rfl hl0) ?_
  replace h := jnew_of h
  refine jr_new jf_10_112 ?_
  refine jr_dup jf_10_115 rfl ?_
  refine jr_iload jf_10_116 jg1_same ?_
  replace h := ite_or h; rcases h with ⟨hc, h⟩ | ⟨hc, h⟩
  · refine jr_if_ge_t jf_10_118 hc ?_
    refine jr_iload jf_10_126 jg1_same ?_
    exact r_Section_init_128 hd _ _ _ _ _ _ _ h
  · refine jr_if_ge_f jf_10_118 hc ?_
    refine jr_iload jf_10_121 (jg1_ne rfl hl4) ?_
    refine jr_goto jf_10_123 ?_
    exact r_Section_init_128 hd _ _ _ _ _ _ _ h
set_option maxRecDepth 10000 in
set_option maxHeartbeats 4000000 in
theorem r_Section_init_100 {B : Nat} {SA : Nat → Nat} {d : Nat} (hd : 2 ≤ d) : ∀ (L : JLoc) (v0 : Nat) (v4 : Int32) (μ : JMem) (μ9 : JMem), jget L 0 = .ref v0 → jget L 4 = .int v4 → g_Section_init_100 B SA v0 v4 μ = some μ9 → jR B SA d m_Section_init 100 L [] μ none μ9 := by
  intro L v0 v4 μ μ9 hl0 hl4 h
  unfold g_Section_init_100 at h
  refine jr_iconst jf_10_100 jc_i_0 ?_
  refine jr_goto jf_10_101 ?_
  exact r_Section_init_109 hd _ _ _ _ _ _ hl0 hl4 h
set_option maxRecDepth 10000 in
set_option maxHeartbeats 4000000 in
theorem r_Section_init_83 {B : Nat} {SA : Nat → Nat} {d : Nat} (hd : 2 ≤ d) : ∀ (L : JLoc) (v0 : Nat) (v2 : Int32) (v4 : Int32) (s0 : Int32) (s1 : Nat) (μ : JMem) (μ9 : JMem), jget L 0 = .ref v0 → jget L 2 = .int v2 → jget L 4 = .int v4 → g_Section_init_83 B SA v0 v2 v4 s0 s1 μ = some μ9 → jR B SA d m_Section_init 83 L [.int s0, .ref s1] μ none μ9 := by
  intro L v0 v2 v4 s0 s1 μ μ9 hl0 hl2 hl4 h
  unfold g_Section_init_83 at h
  replace h := jbd2_of h; obtain ⟨a1, μ2, ha1, h⟩ := h
  refine jr_newarray jf_10_83 rfl ha1 ?_
  replace h := obd_of h; obtain ⟨μ3, hμ3, h⟩ := h
  refine jr_putA (x := some _) jf_10_85 rfl hμ3 ?_
  refine jr_iload_n jf_10_88 rfl hl2 ?_
  replace h := ite_or h; rcases h with ⟨hc, h⟩ | ⟨hc, h⟩
  · refine jr_if_lt_t jf_10_89 hc ?_
    exact r_Section_init_100 hd _ _ _ _ _ hl0 hl4 h
  · refine jr_if_lt_f jf_10_89 hc ?_
    refine jr_iload_n jf_10_92 rfl hl2 ?_
    refine jr_getstatic jf_10_93 ?_
    replace h := obd_of h; obtain ⟨x4, hx4, h⟩ := h
    refine jr_arraylength jf_10_96 hx4 ?_
    replace h := ite_or h; rcases h with ⟨hc, h⟩ | ⟨hc, h⟩
    · refine jr_if2_lt_t jf_10_97 hc ?_
      refine jr_getstatic jf_10_104 ?_
      refine jr_iload_n jf_10_107 rfl hl2 ?_
      replace h := obd_of h; obtain ⟨x5, hx5, h⟩ := h
      refine jr_iaload jf_10_108 hx5 ?_
      exact r_Section_init_109 hd _ _ _ _ _ _ hl0 hl4 h
    · refine jr_if2_lt_f jf_10_97 hc ?_
      exact r_Section_init_100 hd _ _ _ _ _ hl0 hl4 h
set_option maxRecDepth 10000 in
set_option maxHeartbeats 4000000 in
theorem r_Section_init_69 {B : Nat} {SA : Nat → Nat} {d : Nat} (hd : 2 ≤ d) : ∀ (L : JLoc) (v0 : Nat) (v2 : Int32) (v4 : Int32) (s0 : Int32) (μ : JMem) (μ9 : JMem), jget L 0 = .ref v0 → jget L 2 = .int v2 → jget L 4 = .int v4 → g_Section_init_69 B SA v0 v2 v4 s0 μ = some μ9 → jR B SA d m_Section_init 69 L [.int s0] μ none μ9 := by
  intro L v0 v2 v4 s0 μ μ9 hl0 hl2 hl4 h
  unfold g_Section_init_69 at h
  refine jr_istore jf_10_69 jml_10 (by decide) ?_
  refine jr_aload_n jf_10_71 rfl (jg1_ne rfl hl0) ?_
  refine jr_iload jf_10_72 jg1_same ?_
  replace h := ite_or h; rcases h with ⟨hc, h⟩ | ⟨hc, h⟩
  · refine jr_if_ge_t jf_10_74 hc ?_
    refine jr_iload jf_10_81 jg1_same ?_
    exact r_Section_init_83 hd _ _ _ _ _ _ _ _ (jg1_ne rfl hl0) (jg1_ne rfl hl2) (jg1_ne rfl hl4) h
  · refine jr_if_ge_f jf_10_74 hc ?_
    refine jr_iconst jf_10_77 jc_i_0 ?_
    refine jr_goto jf_10_78 ?_
    exact r_Section_init_83 hd _ _ _ _ _ _ _ _ (jg1_ne rfl hl0) (jg1_ne rfl hl2) (jg1_ne rfl hl4) h
set_option maxRecDepth 10000 in
set_option maxHeartbeats 4000000 in
theorem r_Section_init_60 {B : Nat} {SA : Nat → Nat} {d : Nat} (hd : 2 ≤ d) : ∀ (L : JLoc) (v0 : Nat) (v2 : Int32) (v4 : Int32) (μ : JMem) (μ9 : JMem), jget L 0 = .ref v0 → jget L 2 = .int v2 → jget L 4 = .int v4 → g_Section_init_60 B SA v0 v2 v4 μ = some μ9 → jR B SA d m_Section_init 60 L [] μ none μ9 := by
  intro L v0 v2 v4 μ μ9 hl0 hl2 hl4 h
  unfold g_Section_init_60 at h
  refine jr_iconst jf_10_60 jc_i_0 ?_
  refine jr_goto jf_10_61 ?_
  exact r_Section_init_69 hd _ _ _ _ _ _ _ hl0 hl2 hl4 h
set_option maxRecDepth 10000 in
set_option maxHeartbeats 4000000 in
theorem r_Section_init_e {B : Nat} {SA : Nat → Nat} {d : Nat} (hd : 2 ≤ d) : ∀ (L : JLoc) (v0 : Nat) (v1 : Int32) (v2 : Int32) (v3 : Int32) (v4 : Int32) (v5 : Option Nat) (μ : JMem) (μ9 : JMem), jget L 0 = .ref v0 → jget L 1 = .int v1 → jget L 2 = .int v2 → jget L 3 = .int v3 → jget L 4 = .int v4 → jget L 5 = rv v5 → g_Section_init B SA v0 v1 v2 v3 v4 v5 μ = some μ9 → jR B SA d m_Section_init 0 L [] μ none μ9 := by
  intro L v0 v1 v2 v3 v4 v5 μ μ9 hl0 hl1 hl2 hl3 hl4 hl5 h
  unfold g_Section_init at h
  refine jr_aload_n jf_10_0 rfl hl0 ?_
  refine jr_oinit jf_10_1 (by omega) (Nat.le_of_ble_eq_true rfl) ?_
  refine jr_aload_n jf_10_4 rfl hl0 ?_
  replace h := jnew_of h
  refine jr_new jf_10_5 ?_
  refine jr_dup jf_10_8 rfl ?_
  refine jr_iconst jf_10_9 jc_i_1 ?_
  replace h := obd_of h; obtain ⟨μ3, hμ3, h⟩ := h
  refine jr_P1v_1 jf_10_10 (by omega) (r_Row_init (by omega) _ _ _ _ hμ3) (Nat.le_of_ble_eq_true rfl) jml_11 (Nat.le_of_ble_eq_true rfl) ?_
  replace h := obd_of h; obtain ⟨μ4, hμ4, h⟩ := h
  refine jr_putA (x := some _) jf_10_13 rfl hμ4 ?_
  refine jr_aload_n jf_10_16 rfl hl0 ?_
  refine jr_iconst jf_10_17 jc_i_m1 ?_
  replace h := obd_of h; obtain ⟨μ5, hμ5, h⟩ := h
  refine jr_putI jf_10_18 rfl hμ5 ?_
  refine jr_aload_n jf_10_21 rfl hl0 ?_
  refine jr_iload_n jf_10_22 rfl hl1 ?_
  replace h := obd_of h; obtain ⟨μ6, hμ6, h⟩ := h
  refine jr_putI jf_10_23 rfl hμ6 ?_
  refine jr_aload_n jf_10_26 rfl hl0 ?_
  refine jr_iload_n jf_10_27 rfl hl2 ?_
  replace h := obd_of h; obtain ⟨μ7, hμ7, h⟩ := h
  refine jr_putI jf_10_28 rfl hμ7 ?_
  refine jr_aload_n jf_10_31 rfl hl0 ?_
  refine jr_iload_n jf_10_32 rfl hl3 ?_
  replace h := obd_of h; obtain ⟨μ8, hμ8, h⟩ := h
  refine jr_putI jf_10_33 rfl hμ8 ?_
  refine jr_aload_n jf_10_36 rfl hl0 ?_
  refine jr_iload jf_10_37 hl4 ?_
  replace h := obd_of h; obtain ⟨μ9, hμ9, h⟩ := h
  refine jr_putI jf_10_39 rfl hμ9 ?_
  refine jr_aload_n jf_10_42 rfl hl0 ?_
  refine jr_aload_A jf_10_43 hl5 ?_
  replace h := obd_of h; obtain ⟨μ10, hμ10, h⟩ := h
  refine jr_putA jf_10_45 rfl hμ10 ?_
  refine jr_iload_n jf_10_48 rfl hl2 ?_
  replace h := ite_or h; rcases h with ⟨hc, h⟩ | ⟨hc, h⟩
  · refine jr_if_lt_t jf_10_49 hc ?_
    exact r_Section_init_60 hd _ _ _ _ _ _ hl0 hl2 hl4 h
  · refine jr_if_lt_f jf_10_49 hc ?_
    refine jr_iload_n jf_10_52 rfl hl2 ?_
    refine jr_getstatic jf_10_53 ?_
    replace h := obd_of h; obtain ⟨x11, hx11, h⟩ := h
    refine jr_arraylength jf_10_56 hx11 ?_
    replace h := ite_or h; rcases h with ⟨hc, h⟩ | ⟨hc, h⟩
    · refine jr_if2_lt_t jf_10_57 hc ?_
      refine jr_getstatic jf_10_64 ?_
      refine jr_iload_n jf_10_67 rfl hl2 ?_
      replace h := obd_of h; obtain ⟨x12, hx12, h⟩ := h
      refine jr_iaload jf_10_68 hx12 ?_
      exact r_Section_init_69 hd _ _ _ _ _ _ _ hl0 hl2 hl4 h
    · refine jr_if2_lt_f jf_10_57 hc ?_
      exact r_Section_init_60 hd _ _ _ _ _ _ hl0 hl2 hl4 h
set_option maxRecDepth 10000 in
set_option maxHeartbeats 4000000 in
theorem r_Section_init {B : Nat} {SA : Nat → Nat} {d : Nat} (hd : 2 ≤ d) : ∀ (v0 : Nat) (v1 : Int32) (v2 : Int32) (v3 : Int32) (v4 : Int32) (v5 : Option Nat) (μ : JMem) (μ9 : JMem), g_Section_init B SA v0 v1 v2 v3 v4 v5 μ = some μ9 → jR B SA d m_Section_init 0 (lv_args 0 [.ref v0, .int v1, .int v2, .int v3, .int v4, rv v5]) [] μ none μ9 := by
  intro v0 v1 v2 v3 v4 v5 μ μ9 h
  exact r_Section_init_e hd (lv_args 0 _) _ _ _ _ _ _ _ _ (by simp [lv_args, jget, rv_cat, cat_int, cat_long, cat_double, cat_float, cat_ref]) (by simp [lv_args, jget, rv_cat, cat_int, cat_long, cat_double, cat_float, cat_ref]) (by simp [lv_args, jget, rv_cat, cat_int, cat_long, cat_double, cat_float, cat_ref]) (by simp [lv_args, jget, rv_cat, cat_int, cat_long, cat_double, cat_float, cat_ref]) (by simp [lv_args, jget, rv_cat, cat_int, cat_long, cat_double, cat_float, cat_ref]) (by simp [lv_args, jget, rv_cat, cat_int, cat_long, cat_double, cat_float, cat_ref]) h
/-! FilterBench.newSection(IIILFilterBench$Numbers;)LFilterBench$Section; -/
set_option maxRecDepth 10000 in
set_option maxHeartbeats 4000000 in
theorem r_B_newSection_e {B : Nat} {SA : Nat → Nat} {d : Nat} (hd : 3 ≤ d) : ∀ (L : JLoc) (v0 : Nat) (v1 : Int32) (v2 : Int32) (v3 : Int32) (v4 : Option Nat) (μ : JMem) (r : Option Nat) (μ9 : JMem), jget L 0 = .ref v0 → jget L 1 = .int v1 → jget L 2 = .int v2 → jget L 3 = .int v3 → jget L 4 = rv v4 → g_B_newSection B SA v0 v1 v2 v3 v4 μ = some (r, μ9) → jR B SA d m_B_newSection 0 L [] μ (some (rv r)) μ9 := by
  intro L v0 v1 v2 v3 v4 μ r μ9 hl0 hl1 hl2 hl3 hl4 h
  unfold g_B_newSection at h
  refine jr_aload_n jf_9_0 rfl hl0 ?_
  replace h := obd_of h; obtain ⟨x1, hx1, h⟩ := h
  refine jr_getI jf_9_1 hx1 ?_
  replace h := ite_or h; rcases h with ⟨hc, h⟩ | ⟨hc, h⟩
  · refine jr_if_lt_t jf_9_4 hc ?_
    refine jr_aconst_null jf_9_19 ?_
    obtain ⟨rfl, rfl⟩ := Prod.mk.inj (Option.some.inj h)
    exact jr_retA jf_9_20 jmt_9
  · refine jr_if_lt_f jf_9_4 hc ?_
    refine jr_aload_n jf_9_7 rfl hl0 ?_
    replace h := obd_of h; obtain ⟨x2, hx2, h⟩ := h
    refine jr_getI jf_9_8 hx2 ?_
    refine jr_aload_n jf_9_11 rfl hl0 ?_
    replace h := obd_of h; obtain ⟨x3, hx3, h⟩ := h
    refine jr_getA jf_9_12 hx3 ?_
    replace h := obd_of h; obtain ⟨a4, rfl, h⟩ := h
    replace h := obd_of h; obtain ⟨x5, hx5, h⟩ := h
    refine jr_arraylength jf_9_15 hx5 ?_
    replace h := ite_or h; rcases h with ⟨hc, h⟩ | ⟨hc, h⟩
    · refine jr_if2_lt_t jf_9_16 hc ?_
      replace h := jnew_of h
      refine jr_new jf_9_21 ?_
      refine jr_dup jf_9_24 rfl ?_
      refine jr_aload_n jf_9_25 rfl hl0 ?_
      replace h := obd_of h; obtain ⟨x8, hx8, h⟩ := h
      refine jr_getI jf_9_26 hx8 ?_
      refine jr_iload_n jf_9_29 rfl hl1 ?_
      refine jr_iload_n jf_9_30 rfl hl2 ?_
      refine jr_iload_n jf_9_31 rfl hl3 ?_
      refine jr_aload_A jf_9_32 hl4 ?_
      replace h := obd_of h; obtain ⟨μ9, hμ9, h⟩ := h
      refine jr_P1v_5 jf_9_34 (by omega) (r_Section_init (by omega) _ _ _ _ _ _ _ _ hμ9) (Nat.le_of_ble_eq_true rfl) jml_10 (by simp only [jcats_cons, jcats_nil, cat_int, cat_long, cat_double, cat_float, cat_ref, rv_cat]; decide) ?_
      refine jr_astore jf_9_37 jml_9 (by decide) ?_
      refine jr_aload_n jf_9_39 rfl (jg1_ne rfl hl0) ?_
      replace h := obd_of h; obtain ⟨x10, hx10, h⟩ := h
      refine jr_getA jf_9_40 hx10 ?_
      refine jr_aload_n jf_9_43 rfl (jg1_ne rfl hl0) ?_
      replace h := obd_of h; obtain ⟨x11, hx11, h⟩ := h
      refine jr_getI jf_9_44 hx11 ?_
      refine jr_aload jf_9_47 jg1_same ?_
      replace h := obd_of h; obtain ⟨a12, rfl, h⟩ := h
      replace h := obd_of h; obtain ⟨μ13, hμ13, h⟩ := h
      refine jr_aastore jf_9_49 hμ13 ?_
      refine jr_aload_n jf_9_50 rfl (jg1_ne rfl hl0) ?_
      refine jr_dup jf_9_51 rfl ?_
      replace h := obd_of h; obtain ⟨x14, hx14, h⟩ := h
      refine jr_getI jf_9_52 hx14 ?_
      refine jr_iconst jf_9_55 jc_i_1 ?_
      refine jr_iadd jf_9_56 ?_
      replace h := obd_of h; obtain ⟨μ15, hμ15, h⟩ := h
      refine jr_putI jf_9_57 rfl hμ15 ?_
      refine jr_aload jf_9_60 jg1_same ?_
      obtain ⟨rfl, rfl⟩ := Prod.mk.inj (Option.some.inj h)
      exact jr_retA (x := some _) jf_9_62 jmt_9
    · refine jr_if2_lt_f jf_9_16 hc ?_
      refine jr_aconst_null jf_9_19 ?_
      obtain ⟨rfl, rfl⟩ := Prod.mk.inj (Option.some.inj h)
      exact jr_retA jf_9_20 jmt_9
set_option maxRecDepth 10000 in
set_option maxHeartbeats 4000000 in
theorem r_B_newSection {B : Nat} {SA : Nat → Nat} {d : Nat} (hd : 3 ≤ d) : ∀ (v0 : Nat) (v1 : Int32) (v2 : Int32) (v3 : Int32) (v4 : Option Nat) (μ : JMem) (r : Option Nat) (μ9 : JMem), g_B_newSection B SA v0 v1 v2 v3 v4 μ = some (r, μ9) → jR B SA d m_B_newSection 0 (lv_args 0 [.ref v0, .int v1, .int v2, .int v3, rv v4]) [] μ (some (rv r)) μ9 := by
  intro v0 v1 v2 v3 v4 μ r μ9 h
  exact r_B_newSection_e hd (lv_args 0 _) _ _ _ _ _ _ _ _ (by simp [lv_args, jget, rv_cat, cat_int, cat_long, cat_double, cat_float, cat_ref]) (by simp [lv_args, jget, rv_cat, cat_int, cat_long, cat_double, cat_float, cat_ref]) (by simp [lv_args, jget, rv_cat, cat_int, cat_long, cat_double, cat_float, cat_ref]) (by simp [lv_args, jget, rv_cat, cat_int, cat_long, cat_double, cat_float, cat_ref]) (by simp [lv_args, jget, rv_cat, cat_int, cat_long, cat_double, cat_float, cat_ref]) h
/-! FilterBench.numbersOf(I)LFilterBench$Numbers; -/
set_option maxRecDepth 10000 in
set_option maxHeartbeats 4000000 in
theorem r_B_numbersOf_e {B : Nat} {SA : Nat → Nat} {d : Nat} (hd : 0 ≤ d) : ∀ (L : JLoc) (v0 : Nat) (v1 : Int32) (μ : JMem) (r : Option Nat), jget L 0 = .ref v0 → jget L 1 = .int v1 → g_B_numbersOf v0 v1 μ.1 = some r → jR B SA d m_B_numbersOf 0 L [] μ (some (rv r)) μ := by
  intro L v0 v1 μ r hl0 hl1 h
  unfold g_B_numbersOf at h
  refine jr_iload_n jf_6_0 rfl hl1 ?_
  refine jr_switch jf_6_1 ?_
  replace h := ite_or h; rcases h with ⟨hc, h⟩ | ⟨hc, h⟩
  · refine jsw_hit (by decide) hc ?_
    refine jr_aload_n jf_6_28 rfl hl0 ?_
    replace h := obd_of h; obtain ⟨x1, hx1, h⟩ := h
    refine jr_getA jf_6_29 hx1 ?_
    obtain rfl := Option.some.inj h
    exact jr_retA jf_6_32 jmt_6
  · refine jsw_miss (by decide) hc (by decide : (0 : Int) + 1 = 1) ?_
    replace h := ite_or h; rcases h with ⟨hc, h⟩ | ⟨hc, h⟩
    · refine jsw_hit (by decide) hc ?_
      refine jr_aload_n jf_6_33 rfl hl0 ?_
      replace h := obd_of h; obtain ⟨x2, hx2, h⟩ := h
      refine jr_getA jf_6_34 hx2 ?_
      obtain rfl := Option.some.inj h
      exact jr_retA jf_6_37 jmt_6
    · refine jsw_miss (by decide) hc (by decide : (1 : Int) + 1 = 2) ?_
      replace h := ite_or h; rcases h with ⟨hc, h⟩ | ⟨hc, h⟩
      · refine jsw_hit (by decide) hc ?_
        refine jr_aload_n jf_6_38 rfl hl0 ?_
        replace h := obd_of h; obtain ⟨x3, hx3, h⟩ := h
        refine jr_getA jf_6_39 hx3 ?_
        obtain rfl := Option.some.inj h
        exact jr_retA jf_6_42 jmt_6
      · refine jsw_miss (by decide) hc (by decide : (2 : Int) + 1 = 3) ?_
        refine jsw_end ?_
        refine jr_aconst_null jf_6_43 ?_
        obtain rfl := Option.some.inj h
        exact jr_retA jf_6_44 jmt_6
set_option maxRecDepth 10000 in
set_option maxHeartbeats 4000000 in
theorem r_B_numbersOf {B : Nat} {SA : Nat → Nat} {d : Nat} (hd : 0 ≤ d) : ∀ (v0 : Nat) (v1 : Int32) (μ : JMem) (r : Option Nat), g_B_numbersOf v0 v1 μ.1 = some r → jR B SA d m_B_numbersOf 0 (lv_args 0 [.ref v0, .int v1]) [] μ (some (rv r)) μ := by
  intro v0 v1 μ r h
  exact r_B_numbersOf_e hd (lv_args 0 _) _ _ _ _ (by simp [lv_args, jget, rv_cat, cat_int, cat_long, cat_double, cat_float, cat_ref]) (by simp [lv_args, jget, rv_cat, cat_int, cat_long, cat_double, cat_float, cat_ref]) h
/-! FilterBench.section(III)I -/
set_option maxRecDepth 10000 in
set_option maxHeartbeats 4000000 in
theorem r_B_section_e {B : Nat} {SA : Nat → Nat} {d : Nat} (hd : 4 ≤ d) : ∀ (L : JLoc) (v0 : Nat) (v1 : Int32) (v2 : Int32) (v3 : Int32) (μ : JMem) (r : Int32) (μ9 : JMem), jget L 0 = .ref v0 → jget L 1 = .int v1 → jget L 2 = .int v2 → jget L 3 = .int v3 → g_B_section B SA v0 v1 v2 v3 μ = some (r, μ9) → jR B SA d m_B_section 0 L [] μ (some (.int r)) μ9 := by
  intro L v0 v1 v2 v3 μ r μ9 hl0 hl1 hl2 hl3 h
  unfold g_B_section at h
  refine jr_aload_n jf_5_0 rfl hl0 ?_
  refine jr_iload_n jf_5_1 rfl hl2 ?_
  replace h := jgd_of h; obtain ⟨hb1, h⟩ := h
  replace h := obd_of h; obtain ⟨x2, hx2, h⟩ := h
  refine jr_V6_1 jf_5_2 hb1 (by omega) (r_B_numbersOf (by omega) _ _ _ _ hx2) (Nat.le_of_ble_eq_true rfl) jml_6 (Nat.le_of_ble_eq_true rfl) ?_
  refine jr_astore_A jf_5_5 jml_5 (by decide) ?_
  refine jr_aload_A jf_5_7 jg1_same ?_
  replace h := jon_or h; rcases h with ⟨rfl, h⟩ | ⟨a3, rfl, h⟩
  · refine jr_ifnull_n jf_5_9 ?_
    refine jr_iconst jf_5_27 jc_i_m1 ?_
    obtain ⟨rfl, rfl⟩ := Prod.mk.inj (Option.some.inj h)
    exact jr_retI jf_5_28 jmt_5
  · refine jr_ifnull_s jf_5_9 ?_
    refine jr_iload_n jf_5_12 rfl (jg1_ne rfl hl1) ?_
    replace h := obd_of h; obtain ⟨x4, hx4, h⟩ := h
    refine jr_S3_1 jf_5_13 (by omega) (r_B_isKind (by omega) _ _ _ hx4) (Nat.le_of_ble_eq_true rfl) jml_7 (Nat.le_of_ble_eq_true rfl) ?_
    replace h := ite_or h; rcases h with ⟨hc, h⟩ | ⟨hc, h⟩
    · refine jr_ifz_eq_f jf_5_16 hc ?_
      refine jr_iload_n jf_5_19 rfl (jg1_ne rfl hl1) ?_
      refine jr_iload_n jf_5_20 rfl (jg1_pre rfl hl3) ?_
      replace h := obd_of h; obtain ⟨x5, hx5, h⟩ := h
      refine jr_S3_2 jf_5_21 (by omega) (r_B_fitsKind (by omega) _ _ _ _ hx5) (Nat.le_of_ble_eq_true rfl) jml_8 (Nat.le_of_ble_eq_true rfl) ?_
      replace h := ite_or h; rcases h with ⟨hc, h⟩ | ⟨hc, h⟩
      · refine jr_ifz_ne_t jf_5_24 hc ?_
        refine jr_aload_n jf_5_29 rfl (jg1_ne rfl hl0) ?_
        refine jr_iload_n jf_5_30 rfl (jg1_ne rfl hl1) ?_
        refine jr_iload_n jf_5_31 rfl (jg1_ne rfl hl2) ?_
        refine jr_iload_n jf_5_32 rfl (jg1_pre rfl hl3) ?_
        refine jr_aload jf_5_33 jg1_same ?_
        replace h := jgd_of h; obtain ⟨hb6, h⟩ := h
        replace h := jbd2_of h; obtain ⟨x7, μ8, hx7, h⟩ := h
        refine jr_V6_4 jf_5_35 hb6 (by omega) (r_B_newSection (by omega) _ _ _ _ _ _ _ _ hx7) (Nat.le_of_ble_eq_true rfl) jml_9 (by simp only [jcats_cons, jcats_nil, cat_int, cat_long, cat_double, cat_float, cat_ref, rv_cat]; decide) ?_
        refine jr_astore_A jf_5_38 jml_5 (by decide) ?_
        refine jr_aload_A jf_5_40 jg1_same ?_
        replace h := jon_or h; rcases h with ⟨rfl, h⟩ | ⟨a9, rfl, h⟩
        · refine jr_ifnonnull_n jf_5_42 ?_
          refine jr_iconst jf_5_45 jc_i_m1 ?_
          refine jr_goto jf_5_46 ?_
          obtain ⟨rfl, rfl⟩ := Prod.mk.inj (Option.some.inj h)
          exact jr_retI jf_5_54 jmt_5
        · refine jr_ifnonnull_s jf_5_42 ?_
          refine jr_aload jf_5_49 jg1_same ?_
          replace h := obd_of h; obtain ⟨x10, hx10, h⟩ := h
          refine jr_getI jf_5_51 hx10 ?_
          obtain ⟨rfl, rfl⟩ := Prod.mk.inj (Option.some.inj h)
          exact jr_retI jf_5_54 jmt_5
      · refine jr_ifz_ne_f jf_5_24 hc ?_
        refine jr_iconst jf_5_27 jc_i_m1 ?_
        obtain ⟨rfl, rfl⟩ := Prod.mk.inj (Option.some.inj h)
        exact jr_retI jf_5_28 jmt_5
    · refine jr_ifz_eq_t jf_5_16 hc ?_
      refine jr_iconst jf_5_27 jc_i_m1 ?_
      obtain ⟨rfl, rfl⟩ := Prod.mk.inj (Option.some.inj h)
      exact jr_retI jf_5_28 jmt_5
set_option maxRecDepth 10000 in
set_option maxHeartbeats 4000000 in
theorem r_B_section {B : Nat} {SA : Nat → Nat} {d : Nat} (hd : 4 ≤ d) : ∀ (v0 : Nat) (v1 : Int32) (v2 : Int32) (v3 : Int32) (μ : JMem) (r : Int32) (μ9 : JMem), g_B_section B SA v0 v1 v2 v3 μ = some (r, μ9) → jR B SA d m_B_section 0 (lv_args 0 [.ref v0, .int v1, .int v2, .int v3]) [] μ (some (.int r)) μ9 := by
  intro v0 v1 v2 v3 μ r μ9 h
  exact r_B_section_e hd (lv_args 0 _) _ _ _ _ _ _ _ (by simp [lv_args, jget, rv_cat, cat_int, cat_long, cat_double, cat_float, cat_ref]) (by simp [lv_args, jget, rv_cat, cat_int, cat_long, cat_double, cat_float, cat_ref]) (by simp [lv_args, jget, rv_cat, cat_int, cat_long, cat_double, cat_float, cat_ref]) (by simp [lv_args, jget, rv_cat, cat_int, cat_long, cat_double, cat_float, cat_ref]) h
/-! FilterBench.sectionAt(I)LFilterBench$Section; -/
set_option maxRecDepth 10000 in
set_option maxHeartbeats 4000000 in
theorem r_B_sectionAt_21 {B : Nat} {SA : Nat → Nat} {d : Nat} (hd : 0 ≤ d) : ∀ (L : JLoc) (μ : JMem) (r : Option Nat), g_B_sectionAt_21 μ.1 = some r → jR B SA d m_B_sectionAt 21 L [] μ (some (rv r)) μ := by
  intro L μ r h
  unfold g_B_sectionAt_21 at h
  refine jr_aconst_null jf_13_21 ?_
  refine jr_goto jf_13_22 ?_
  obtain rfl := Option.some.inj h
  exact jr_retA jf_13_31 jmt_13
set_option maxRecDepth 10000 in
set_option maxHeartbeats 4000000 in
theorem r_B_sectionAt_e {B : Nat} {SA : Nat → Nat} {d : Nat} (hd : 0 ≤ d) : ∀ (L : JLoc) (v0 : Nat) (v1 : Int32) (μ : JMem) (r : Option Nat), jget L 0 = .ref v0 → jget L 1 = .int v1 → g_B_sectionAt v0 v1 μ.1 = some r → jR B SA d m_B_sectionAt 0 L [] μ (some (rv r)) μ := by
  intro L v0 v1 μ r hl0 hl1 h
  unfold g_B_sectionAt at h
  refine jr_iload_n jf_13_0 rfl hl1 ?_
  replace h := ite_or h; rcases h with ⟨hc, h⟩ | ⟨hc, h⟩
  · refine jr_if_lt_t jf_13_1 hc ?_
    exact r_B_sectionAt_21 hd _  _ _ h
  · refine jr_if_lt_f jf_13_1 hc ?_
    refine jr_iload_n jf_13_4 rfl hl1 ?_
    refine jr_aload_n jf_13_5 rfl hl0 ?_
    replace h := obd_of h; obtain ⟨x1, hx1, h⟩ := h
    refine jr_getI jf_13_6 hx1 ?_
    replace h := ite_or h; rcases h with ⟨hc, h⟩ | ⟨hc, h⟩
    · refine jr_if2_ge_t jf_13_9 hc ?_
      exact r_B_sectionAt_21 hd _  _ _ h
    · refine jr_if2_ge_f jf_13_9 hc ?_
      refine jr_iload_n jf_13_12 rfl hl1 ?_
      refine jr_aload_n jf_13_13 rfl hl0 ?_
      replace h := obd_of h; obtain ⟨x2, hx2, h⟩ := h
      refine jr_getA jf_13_14 hx2 ?_
      replace h := obd_of h; obtain ⟨a3, rfl, h⟩ := h
      replace h := obd_of h; obtain ⟨x4, hx4, h⟩ := h
      refine jr_arraylength jf_13_17 hx4 ?_
      replace h := ite_or h; rcases h with ⟨hc, h⟩ | ⟨hc, h⟩
      · refine jr_if2_lt_t jf_13_18 hc ?_
        refine jr_aload_n jf_13_25 rfl hl0 ?_
        replace h := obd_of h; obtain ⟨x5, hx5, h⟩ := h
        refine jr_getA jf_13_26 hx5 ?_
        refine jr_iload_n jf_13_29 rfl hl1 ?_
        replace h := obd_of h; obtain ⟨a6, rfl, h⟩ := h
        replace h := obd_of h; obtain ⟨x7, hx7, h⟩ := h
        refine jr_aaload jf_13_30 hx7 ?_
        obtain rfl := Option.some.inj h
        exact jr_retA jf_13_31 jmt_13
      · refine jr_if2_lt_f jf_13_18 hc ?_
        exact r_B_sectionAt_21 hd _  _ _ h
set_option maxRecDepth 10000 in
set_option maxHeartbeats 4000000 in
theorem r_B_sectionAt {B : Nat} {SA : Nat → Nat} {d : Nat} (hd : 0 ≤ d) : ∀ (v0 : Nat) (v1 : Int32) (μ : JMem) (r : Option Nat), g_B_sectionAt v0 v1 μ.1 = some r → jR B SA d m_B_sectionAt 0 (lv_args 0 [.ref v0, .int v1]) [] μ (some (rv r)) μ := by
  intro v0 v1 μ r h
  exact r_B_sectionAt_e hd (lv_args 0 _) _ _ _ _ (by simp [lv_args, jget, rv_cat, cat_int, cat_long, cat_double, cat_float, cat_ref]) (by simp [lv_args, jget, rv_cat, cat_int, cat_long, cat_double, cat_float, cat_ref]) h
/-! FilterBench$Real.isNumber(J)Z -/
set_option maxRecDepth 10000 in
set_option maxHeartbeats 4000000 in
theorem r_Real_isNumber_e {B : Nat} {SA : Nat → Nat} {d : Nat} (hd : 0 ≤ d) : ∀ (L : JLoc) (v0 : Nat) (v1 : Int64) (μ : JMem) (r : Bool), jget L 0 = .ref v0 → jget L 1 = .long v1 → g_Real_isNumber v0 v1 μ.1 = some r → jR B SA d m_Real_isNumber 0 L [] μ (some (.int (jb r))) μ := by
  intro L v0 v1 μ r hl0 hl1 h
  unfold g_Real_isNumber at h
  refine jr_lload_n jf_18_0 rfl hl1 ?_
  refine jr_aload_n jf_18_1 rfl hl0 ?_
  replace h := obd_of h; obtain ⟨x1, hx1, h⟩ := h
  refine jr_getJ jf_18_2 hx1 ?_
  refine jr_ldc2l jf_18_5 ?_
  refine jr_lxor jf_18_8 ?_
  refine jr_land jf_18_9 ?_
  refine jr_aload_n jf_18_10 rfl hl0 ?_
  replace h := obd_of h; obtain ⟨x2, hx2, h⟩ := h
  refine jr_getJ jf_18_11 hx2 ?_
  refine jr_lcmp jf_18_14 ?_
  replace h := ite_or h; rcases h with ⟨hc, h⟩ | ⟨hc, h⟩
  · refine jr_ifl_gt_t jf_18_15 hc ?_
    refine jr_iconst jf_18_22 jc_i_0 ?_
    obtain rfl := Option.some.inj h
    exact jr_retZ (x := false) jf_18_23 jmt_18
  · refine jr_ifl_gt_f jf_18_15 hc ?_
    refine jr_iconst jf_18_18 jc_i_1 ?_
    refine jr_goto jf_18_19 ?_
    obtain rfl := Option.some.inj h
    exact jr_retZ (x := true) jf_18_23 jmt_18
set_option maxRecDepth 10000 in
set_option maxHeartbeats 4000000 in
theorem r_Real_isNumber {B : Nat} {SA : Nat → Nat} {d : Nat} (hd : 0 ≤ d) : ∀ (v0 : Nat) (v1 : Int64) (μ : JMem) (r : Bool), g_Real_isNumber v0 v1 μ.1 = some r → jR B SA d m_Real_isNumber 0 (lv_args 0 [.ref v0, .long v1]) [] μ (some (.int (jb r))) μ := by
  intro v0 v1 μ r h
  exact r_Real_isNumber_e hd (lv_args 0 _) _ _ _ _ (by simp [lv_args, jget, rv_cat, cat_int, cat_long, cat_double, cat_float, cat_ref]) (by simp [lv_args, jget, rv_cat, cat_int, cat_long, cat_double, cat_float, cat_ref]) h
/-! FilterBench$Real.clean(J)J -/
set_option maxRecDepth 10000 in
set_option maxHeartbeats 4000000 in
theorem r_Real_clean_e {B : Nat} {SA : Nat → Nat} {d : Nat} (hd : 1 ≤ d) : ∀ (L : JLoc) (v0 : Nat) (v1 : Int64) (μ : JMem) (r : Int64), jget L 0 = .ref v0 → jget L 1 = .long v1 → g_Real_clean v0 v1 μ.1 = some r → jR B SA d m_Real_clean 0 L [] μ (some (.long r)) μ := by
  intro L v0 v1 μ r hl0 hl1 h
  unfold g_Real_clean at h
  refine jr_aload_n jf_17_0 rfl hl0 ?_
  refine jr_lload_n jf_17_1 rfl hl1 ?_
  replace h := jgd_of h; obtain ⟨hb1, h⟩ := h
  replace h := obd_of h; obtain ⟨x2, hx2, h⟩ := h
  refine jr_V6_1 jf_17_2 hb1 (by omega) (r_Real_isNumber (by omega) _ _ _ _ hx2) (Nat.le_of_ble_eq_true rfl) jml_18 (Nat.le_of_ble_eq_true rfl) ?_
  replace h := ite_or h; rcases h with ⟨hc, h⟩ | ⟨hc, h⟩
  · refine jr_ifz_eq_f jf_17_5 hc ?_
    refine jr_lload_n jf_17_8 rfl hl1 ?_
    refine jr_goto jf_17_9 ?_
    obtain rfl := Option.some.inj h
    exact jr_retJ jf_17_16 jmt_17
  · refine jr_ifz_eq_t jf_17_5 hc ?_
    refine jr_aload_n jf_17_12 rfl hl0 ?_
    replace h := obd_of h; obtain ⟨x3, hx3, h⟩ := h
    refine jr_getJ jf_17_13 hx3 ?_
    obtain rfl := Option.some.inj h
    exact jr_retJ jf_17_16 jmt_17
set_option maxRecDepth 10000 in
set_option maxHeartbeats 4000000 in
theorem r_Real_clean {B : Nat} {SA : Nat → Nat} {d : Nat} (hd : 1 ≤ d) : ∀ (v0 : Nat) (v1 : Int64) (μ : JMem) (r : Int64), g_Real_clean v0 v1 μ.1 = some r → jR B SA d m_Real_clean 0 (lv_args 0 [.ref v0, .long v1]) [] μ (some (.long r)) μ := by
  intro v0 v1 μ r h
  exact r_Real_clean_e hd (lv_args 0 _) _ _ _ _ (by simp [lv_args, jget, rv_cat, cat_int, cat_long, cat_double, cat_float, cat_ref]) (by simp [lv_args, jget, rv_cat, cat_int, cat_long, cat_double, cat_float, cat_ref]) h
/-! FilterBench$Real.holds(J)Z -/
set_option maxRecDepth 10000 in
set_option maxHeartbeats 4000000 in
theorem r_Real_holds_17 {B : Nat} {SA : Nat → Nat} {d : Nat} (hd : 0 ≤ d) : ∀ (L : JLoc) (μ : JMem) (r : Bool), g_Real_holds_17 μ.1 = some r → jR B SA d m_Real_holds 17 L [] μ (some (.int (jb r))) μ := by
  intro L μ r h
  unfold g_Real_holds_17 at h
  refine jr_iconst jf_15_17 jc_i_1 ?_
  refine jr_goto jf_15_18 ?_
  obtain rfl := Option.some.inj h
  exact jr_retZ (x := true) jf_15_22 jmt_15
set_option maxRecDepth 10000 in
set_option maxHeartbeats 4000000 in
theorem r_Real_holds_e {B : Nat} {SA : Nat → Nat} {d : Nat} (hd : 0 ≤ d) : ∀ (L : JLoc) (v0 : Nat) (v1 : Int64) (μ : JMem) (r : Bool), jget L 0 = .ref v0 → jget L 1 = .long v1 → g_Real_holds v0 v1 μ.1 = some r → jR B SA d m_Real_holds 0 L [] μ (some (.int (jb r))) μ := by
  intro L v0 v1 μ r hl0 hl1 h
  unfold g_Real_holds at h
  refine jr_aload_n jf_15_0 rfl hl0 ?_
  replace h := obd_of h; obtain ⟨x1, hx1, h⟩ := h
  refine jr_getI jf_15_1 hx1 ?_
  refine jr_bipush jf_15_4 jc_b_52 ?_
  replace h := ite_or h; rcases h with ⟨hc, h⟩ | ⟨hc, h⟩
  · refine jr_if2_eq_t jf_15_6 hc ?_
    exact r_Real_holds_17 hd _  _ _ h
  · refine jr_if2_eq_f jf_15_6 hc ?_
    refine jr_lload_n jf_15_9 rfl hl1 ?_
    refine jr_lload_n jf_15_10 rfl hl1 ?_
    refine jr_l2i jf_15_11 ?_
    refine jr_i2l jf_15_12 ?_
    refine jr_lcmp jf_15_13 ?_
    replace h := ite_or h; rcases h with ⟨hc, h⟩ | ⟨hc, h⟩
    · refine jr_ifl_ne_f jf_15_14 hc ?_
      exact r_Real_holds_17 hd _  _ _ h
    · refine jr_ifl_ne_t jf_15_14 hc ?_
      refine jr_iconst jf_15_21 jc_i_0 ?_
      obtain rfl := Option.some.inj h
      exact jr_retZ (x := false) jf_15_22 jmt_15
set_option maxRecDepth 10000 in
set_option maxHeartbeats 4000000 in
theorem r_Real_holds {B : Nat} {SA : Nat → Nat} {d : Nat} (hd : 0 ≤ d) : ∀ (v0 : Nat) (v1 : Int64) (μ : JMem) (r : Bool), g_Real_holds v0 v1 μ.1 = some r → jR B SA d m_Real_holds 0 (lv_args 0 [.ref v0, .long v1]) [] μ (some (.int (jb r))) μ := by
  intro v0 v1 μ r h
  exact r_Real_holds_e hd (lv_args 0 _) _ _ _ _ (by simp [lv_args, jget, rv_cat, cat_int, cat_long, cat_double, cat_float, cat_ref]) (by simp [lv_args, jget, rv_cat, cat_int, cat_long, cat_double, cat_float, cat_ref]) h
/-! FilterBench$Section.hasFactor(I)Z -/
set_option maxRecDepth 10000 in
set_option maxHeartbeats 4000000 in
theorem r_Section_hasFactor_e {B : Nat} {SA : Nat → Nat} {d : Nat} (hd : 0 ≤ d) : ∀ (L : JLoc) (v0 : Nat) (v1 : Int32) (μ : JMem) (r : Bool), jget L 0 = .ref v0 → jget L 1 = .int v1 → g_Section_hasFactor v0 v1 μ.1 = some r → jR B SA d m_Section_hasFactor 0 L [] μ (some (.int (jb r))) μ := by
  intro L v0 v1 μ r hl0 hl1 h
  unfold g_Section_hasFactor at h
  refine jr_iload_n jf_14_0 rfl hl1 ?_
  replace h := ite_or h; rcases h with ⟨hc, h⟩ | ⟨hc, h⟩
  · refine jr_if_lt_t jf_14_1 hc ?_
    refine jr_iconst jf_14_17 jc_i_0 ?_
    obtain rfl := Option.some.inj h
    exact jr_retZ (x := false) jf_14_18 jmt_14
  · refine jr_if_lt_f jf_14_1 hc ?_
    refine jr_iload_n jf_14_4 rfl hl1 ?_
    refine jr_aload_n jf_14_5 rfl hl0 ?_
    replace h := obd_of h; obtain ⟨x1, hx1, h⟩ := h
    refine jr_getA jf_14_6 hx1 ?_
    replace h := obd_of h; obtain ⟨a2, rfl, h⟩ := h
    replace h := obd_of h; obtain ⟨x3, hx3, h⟩ := h
    refine jr_arraylength jf_14_9 hx3 ?_
    replace h := ite_or h; rcases h with ⟨hc, h⟩ | ⟨hc, h⟩
    · refine jr_if2_ge_t jf_14_10 hc ?_
      refine jr_iconst jf_14_17 jc_i_0 ?_
      obtain rfl := Option.some.inj h
      exact jr_retZ (x := false) jf_14_18 jmt_14
    · refine jr_if2_ge_f jf_14_10 hc ?_
      refine jr_iconst jf_14_13 jc_i_1 ?_
      refine jr_goto jf_14_14 ?_
      obtain rfl := Option.some.inj h
      exact jr_retZ (x := true) jf_14_18 jmt_14
set_option maxRecDepth 10000 in
set_option maxHeartbeats 4000000 in
theorem r_Section_hasFactor {B : Nat} {SA : Nat → Nat} {d : Nat} (hd : 0 ≤ d) : ∀ (v0 : Nat) (v1 : Int32) (μ : JMem) (r : Bool), g_Section_hasFactor v0 v1 μ.1 = some r → jR B SA d m_Section_hasFactor 0 (lv_args 0 [.ref v0, .int v1]) [] μ (some (.int (jb r))) μ := by
  intro v0 v1 μ r h
  exact r_Section_hasFactor_e hd (lv_args 0 _) _ _ _ _ (by simp [lv_args, jget, rv_cat, cat_int, cat_long, cat_double, cat_float, cat_ref]) (by simp [lv_args, jget, rv_cat, cat_int, cat_long, cat_double, cat_float, cat_ref]) h
/-! FilterBench$Section.setFactor(IJ)V -/
set_option maxRecDepth 10000 in
set_option maxHeartbeats 4000000 in
theorem r_Section_setFactor_e {B : Nat} {SA : Nat → Nat} {d : Nat} (hd : 0 ≤ d) : ∀ (L : JLoc) (v0 : Nat) (v1 : Int32) (v2 : Int64) (μ : JMem) (μ9 : JMem), jget L 0 = .ref v0 → jget L 1 = .int v1 → jget L 2 = .long v2 → g_Section_setFactor B v0 v1 v2 μ = some μ9 → jR B SA d m_Section_setFactor 0 L [] μ none μ9 := by
  intro L v0 v1 v2 μ μ9 hl0 hl1 hl2 h
  unfold g_Section_setFactor at h
  refine jr_iload_n jf_20_0 rfl hl1 ?_
  replace h := ite_or h; rcases h with ⟨hc, h⟩ | ⟨hc, h⟩
  · refine jr_if_lt_t jf_20_1 hc ?_
    obtain rfl := Option.some.inj h
    exact jr_return jf_20_20 jmt_20
  · refine jr_if_lt_f jf_20_1 hc ?_
    refine jr_iload_n jf_20_4 rfl hl1 ?_
    refine jr_aload_n jf_20_5 rfl hl0 ?_
    replace h := obd_of h; obtain ⟨x1, hx1, h⟩ := h
    refine jr_getA jf_20_6 hx1 ?_
    replace h := obd_of h; obtain ⟨a2, rfl, h⟩ := h
    replace h := obd_of h; obtain ⟨x3, hx3, h⟩ := h
    refine jr_arraylength jf_20_9 hx3 ?_
    replace h := ite_or h; rcases h with ⟨hc, h⟩ | ⟨hc, h⟩
    · refine jr_if2_ge_t jf_20_10 hc ?_
      obtain rfl := Option.some.inj h
      exact jr_return jf_20_20 jmt_20
    · refine jr_if2_ge_f jf_20_10 hc ?_
      refine jr_aload_n jf_20_13 rfl hl0 ?_
      replace h := obd_of h; obtain ⟨x4, hx4, h⟩ := h
      refine jr_getA jf_20_14 hx4 ?_
      refine jr_iload_n jf_20_17 rfl hl1 ?_
      refine jr_lload_n jf_20_18 rfl hl2 ?_
      replace h := obd_of h; obtain ⟨a5, rfl, h⟩ := h
      replace h := obd_of h; obtain ⟨μ6, hμ6, h⟩ := h
      refine jr_lastore jf_20_19 hμ6 ?_
      obtain rfl := Option.some.inj h
      exact jr_return jf_20_20 jmt_20
set_option maxRecDepth 10000 in
set_option maxHeartbeats 4000000 in
theorem r_Section_setFactor {B : Nat} {SA : Nat → Nat} {d : Nat} (hd : 0 ≤ d) : ∀ (v0 : Nat) (v1 : Int32) (v2 : Int64) (μ : JMem) (μ9 : JMem), g_Section_setFactor B v0 v1 v2 μ = some μ9 → jR B SA d m_Section_setFactor 0 (lv_args 0 [.ref v0, .int v1, .long v2]) [] μ none μ9 := by
  intro v0 v1 v2 μ μ9 h
  exact r_Section_setFactor_e hd (lv_args 0 _) _ _ _ _ _ (by simp [lv_args, jget, rv_cat, cat_int, cat_long, cat_double, cat_float, cat_ref]) (by simp [lv_args, jget, rv_cat, cat_int, cat_long, cat_double, cat_float, cat_ref]) (by simp [lv_args, jget, rv_cat, cat_int, cat_long, cat_double, cat_float, cat_ref]) h
/-! FilterBench$Shorts.clean(J)J -/
set_option maxRecDepth 10000 in
set_option maxHeartbeats 4000000 in
theorem r_Shorts_clean_e {B : Nat} {SA : Nat → Nat} {d : Nat} (hd : 0 ≤ d) : ∀ (L : JLoc) (v1 : Int64) (μ : JMem) (r : Int64), jget L 1 = .long v1 → g_Shorts_clean_e v1 = r → jR B SA d m_Shorts_clean 0 L [] μ (some (.long r)) μ := by
  intro L v1 μ r hl1 h
  unfold g_Shorts_clean_e at h
  refine jr_lload_n jf_19_0 rfl hl1 ?_
  subst h
  exact jr_retJ jf_19_1 jmt_19
set_option maxRecDepth 10000 in
set_option maxHeartbeats 4000000 in
theorem r_Shorts_clean {B : Nat} {SA : Nat → Nat} {d : Nat} (hd : 0 ≤ d) : ∀ (v0 : Nat) (v1 : Int64) (μ : JMem) (r : Int64), g_Shorts_clean v0 v1 = r → jR B SA d m_Shorts_clean 0 (lv_args 0 [.ref v0, .long v1]) [] μ (some (.long r)) μ := by
  intro v0 v1 μ r h
  exact r_Shorts_clean_e hd (lv_args 0 _) _ _ _ (by simp [lv_args, jget, rv_cat, cat_int, cat_long, cat_double, cat_float, cat_ref]) h
/-! FilterBench$Shorts.holds(J)Z -/
set_option maxRecDepth 10000 in
set_option maxHeartbeats 4000000 in
theorem r_Shorts_holds_e {B : Nat} {SA : Nat → Nat} {d : Nat} (hd : 0 ≤ d) : ∀ (L : JLoc) (v1 : Int64) (μ : JMem) (r : Bool), jget L 1 = .long v1 → g_Shorts_holds_e v1 = r → jR B SA d m_Shorts_holds 0 L [] μ (some (.int (jb r))) μ := by
  intro L v1 μ r hl1 h
  unfold g_Shorts_holds_e at h
  refine jr_lload_n jf_16_0 rfl hl1 ?_
  refine jr_lload_n jf_16_1 rfl hl1 ?_
  refine jr_l2i jf_16_2 ?_
  refine jr_i2s jf_16_3 ?_
  refine jr_i2l jf_16_4 ?_
  refine jr_lcmp jf_16_5 ?_
  replace h := ite_or h; rcases h with ⟨hc, h⟩ | ⟨hc, h⟩
  · refine jr_ifl_ne_f jf_16_6 hc ?_
    refine jr_iconst jf_16_9 jc_i_1 ?_
    refine jr_goto jf_16_10 ?_
    subst h
    exact jr_retZ (x := true) jf_16_14 jmt_16
  · refine jr_ifl_ne_t jf_16_6 hc ?_
    refine jr_iconst jf_16_13 jc_i_0 ?_
    subst h
    exact jr_retZ (x := false) jf_16_14 jmt_16
set_option maxRecDepth 10000 in
set_option maxHeartbeats 4000000 in
theorem r_Shorts_holds {B : Nat} {SA : Nat → Nat} {d : Nat} (hd : 0 ≤ d) : ∀ (v0 : Nat) (v1 : Int64) (μ : JMem) (r : Bool), g_Shorts_holds v0 v1 = r → jR B SA d m_Shorts_holds 0 (lv_args 0 [.ref v0, .long v1]) [] μ (some (.int (jb r))) μ := by
  intro v0 v1 μ r h
  exact r_Shorts_holds_e hd (lv_args 0 _) _ _ _ (by simp [lv_args, jget, rv_cat, cat_int, cat_long, cat_double, cat_float, cat_ref]) h
/-! FilterBench.coefficient(IIJ)Z -/
set_option maxRecDepth 10000 in
set_option maxHeartbeats 4000000 in
theorem r_B_coefficient_e {B : Nat} {SA : Nat → Nat} {d : Nat} (hd : 2 ≤ d) : ∀ (L : JLoc) (v0 : Nat) (v1 : Int32) (v2 : Int32) (v3 : Int64) (μ : JMem) (r : Bool) (μ9 : JMem), jget L 0 = .ref v0 → jget L 1 = .int v1 → jget L 2 = .int v2 → jget L 3 = .long v3 → g_B_coefficient B v0 v1 v2 v3 μ = some (r, μ9) → jR B SA d m_B_coefficient 0 L [] μ (some (.int (jb r))) μ9 := by
  intro L v0 v1 v2 v3 μ r μ9 hl0 hl1 hl2 hl3 h
  unfold g_B_coefficient at h
  refine jr_aload_n jf_12_0 rfl hl0 ?_
  refine jr_iload_n jf_12_1 rfl hl1 ?_
  replace h := jgd_of h; obtain ⟨hb1, h⟩ := h
  replace h := obd_of h; obtain ⟨x2, hx2, h⟩ := h
  refine jr_V6_1 jf_12_2 hb1 (by omega) (r_B_sectionAt (by omega) _ _ _ _ hx2) (Nat.le_of_ble_eq_true rfl) jml_13 (Nat.le_of_ble_eq_true rfl) ?_
  refine jr_astore_A jf_12_5 jml_12 (by decide) ?_
  refine jr_aload_A jf_12_7 jg1_same ?_
  replace h := jon_or h; rcases h with ⟨rfl, h⟩ | ⟨a3, rfl, h⟩
  · refine jr_ifnull_n jf_12_9 ?_
    refine jr_iconst jf_12_33 jc_i_0 ?_
    obtain ⟨rfl, rfl⟩ := Prod.mk.inj (Option.some.inj h)
    exact jr_retZ (x := false) jf_12_34 jmt_12
  · refine jr_ifnull_s jf_12_9 ?_
    refine jr_aload jf_12_12 jg1_same ?_
    refine jr_iload_n jf_12_14 rfl (jg1_ne rfl hl2) ?_
    replace h := jgd_of h; obtain ⟨hb4, h⟩ := h
    replace h := obd_of h; obtain ⟨x5, hx5, h⟩ := h
    refine jr_V6_1 jf_12_15 hb4 (by omega) (r_Section_hasFactor (by omega) _ _ _ _ hx5) (Nat.le_of_ble_eq_true rfl) jml_14 (Nat.le_of_ble_eq_true rfl) ?_
    replace h := ite_or h; rcases h with ⟨hc, h⟩ | ⟨hc, h⟩
    · refine jr_ifz_eq_f jf_12_18 hc ?_
      refine jr_aload jf_12_21 jg1_same ?_
      replace h := obd_of h; obtain ⟨x6, hx6, h⟩ := h
      refine jr_getA jf_12_23 hx6 ?_
      refine jr_lload_n jf_12_26 rfl (jg1_ne rfl hl3) ?_
      replace h := obd_of h; obtain ⟨a7, rfl, h⟩ := h
      replace h := obd_of h; obtain ⟨x8, hx8, h⟩ := h
      rcases ite_or hx8 with ⟨hb, hx⟩ | ⟨hb0, hx⟩
      · refine jr_V8a_1 jf_12_27 hb (by omega) (r_Real_holds (by omega) _ _ _ _ hx) (Nat.le_of_ble_eq_true rfl) jml_15 (Nat.le_of_ble_eq_true rfl) ?_
        replace h := ite_or h; rcases h with ⟨hc, h⟩ | ⟨hc, h⟩
        · refine jr_ifz_ne_t jf_12_30 hc ?_
          refine jr_aload jf_12_35 jg1_same ?_
          refine jr_iload_n jf_12_37 rfl (jg1_ne rfl hl2) ?_
          refine jr_aload jf_12_38 jg1_same ?_
          replace h := obd_of h; obtain ⟨x9, hx9, h⟩ := h
          refine jr_getA jf_12_40 hx9 ?_
          refine jr_lload_n jf_12_43 rfl (jg1_ne rfl hl3) ?_
          replace h := obd_of h; obtain ⟨a10, rfl, h⟩ := h
          replace h := obd_of h; obtain ⟨x11, hx11, h⟩ := h
          rcases ite_or hx11 with ⟨hb, hx⟩ | ⟨hb0, hx⟩
          · refine jr_V8a_1 jf_12_44 hb (by omega) (r_Real_clean (by omega) _ _ _ _ hx) (Nat.le_of_ble_eq_true rfl) jml_17 (Nat.le_of_ble_eq_true rfl) ?_
            replace h := jgd_of h; obtain ⟨hb12, h⟩ := h
            replace h := obd_of h; obtain ⟨μ13, hμ13, h⟩ := h
            refine jr_V6v_2 jf_12_47 hb12 (by omega) (r_Section_setFactor (by omega) _ _ _ _ _ hμ13) (Nat.le_of_ble_eq_true rfl) jml_20 (Nat.le_of_ble_eq_true rfl) ?_
            refine jr_iconst jf_12_50 jc_i_1 ?_
            obtain ⟨rfl, rfl⟩ := Prod.mk.inj (Option.some.inj h)
            exact jr_retZ (x := true) jf_12_51 jmt_12
          · obtain ⟨hb, hx⟩ := jgd_of hx
            obtain hx := Option.some.inj hx
            refine jr_V8b_1 jf_12_44 hb0 hb (by omega) (r_Shorts_clean (by omega) _ _ _ _ hx) (Nat.le_of_ble_eq_true rfl) jml_19 (Nat.le_of_ble_eq_true rfl) ?_
            replace h := jgd_of h; obtain ⟨hb12, h⟩ := h
            replace h := obd_of h; obtain ⟨μ13, hμ13, h⟩ := h
            refine jr_V6v_2 jf_12_47 hb12 (by omega) (r_Section_setFactor (by omega) _ _ _ _ _ hμ13) (Nat.le_of_ble_eq_true rfl) jml_20 (Nat.le_of_ble_eq_true rfl) ?_
            refine jr_iconst jf_12_50 jc_i_1 ?_
            obtain ⟨rfl, rfl⟩ := Prod.mk.inj (Option.some.inj h)
            exact jr_retZ (x := true) jf_12_51 jmt_12
        · refine jr_ifz_ne_f jf_12_30 hc ?_
          refine jr_iconst jf_12_33 jc_i_0 ?_
          obtain ⟨rfl, rfl⟩ := Prod.mk.inj (Option.some.inj h)
          exact jr_retZ (x := false) jf_12_34 jmt_12
      · obtain ⟨hb, hx⟩ := jgd_of hx
        obtain hx := Option.some.inj hx
        refine jr_V8b_1 jf_12_27 hb0 hb (by omega) (r_Shorts_holds (by omega) _ _ _ _ hx) (Nat.le_of_ble_eq_true rfl) jml_16 (Nat.le_of_ble_eq_true rfl) ?_
        replace h := ite_or h; rcases h with ⟨hc, h⟩ | ⟨hc, h⟩
        · refine jr_ifz_ne_t jf_12_30 hc ?_
          refine jr_aload jf_12_35 jg1_same ?_
          refine jr_iload_n jf_12_37 rfl (jg1_ne rfl hl2) ?_
          refine jr_aload jf_12_38 jg1_same ?_
          replace h := obd_of h; obtain ⟨x9, hx9, h⟩ := h
          refine jr_getA jf_12_40 hx9 ?_
          refine jr_lload_n jf_12_43 rfl (jg1_ne rfl hl3) ?_
          replace h := obd_of h; obtain ⟨a10, rfl, h⟩ := h
          replace h := obd_of h; obtain ⟨x11, hx11, h⟩ := h
          rcases ite_or hx11 with ⟨hb, hx⟩ | ⟨hb0, hx⟩
          · refine jr_V8a_1 jf_12_44 hb (by omega) (r_Real_clean (by omega) _ _ _ _ hx) (Nat.le_of_ble_eq_true rfl) jml_17 (Nat.le_of_ble_eq_true rfl) ?_
            replace h := jgd_of h; obtain ⟨hb12, h⟩ := h
            replace h := obd_of h; obtain ⟨μ13, hμ13, h⟩ := h
            refine jr_V6v_2 jf_12_47 hb12 (by omega) (r_Section_setFactor (by omega) _ _ _ _ _ hμ13) (Nat.le_of_ble_eq_true rfl) jml_20 (Nat.le_of_ble_eq_true rfl) ?_
            refine jr_iconst jf_12_50 jc_i_1 ?_
            obtain ⟨rfl, rfl⟩ := Prod.mk.inj (Option.some.inj h)
            exact jr_retZ (x := true) jf_12_51 jmt_12
          · obtain ⟨hb, hx⟩ := jgd_of hx
            obtain hx := Option.some.inj hx
            refine jr_V8b_1 jf_12_44 hb0 hb (by omega) (r_Shorts_clean (by omega) _ _ _ _ hx) (Nat.le_of_ble_eq_true rfl) jml_19 (Nat.le_of_ble_eq_true rfl) ?_
            replace h := jgd_of h; obtain ⟨hb12, h⟩ := h
            replace h := obd_of h; obtain ⟨μ13, hμ13, h⟩ := h
            refine jr_V6v_2 jf_12_47 hb12 (by omega) (r_Section_setFactor (by omega) _ _ _ _ _ hμ13) (Nat.le_of_ble_eq_true rfl) jml_20 (Nat.le_of_ble_eq_true rfl) ?_
            refine jr_iconst jf_12_50 jc_i_1 ?_
            obtain ⟨rfl, rfl⟩ := Prod.mk.inj (Option.some.inj h)
            exact jr_retZ (x := true) jf_12_51 jmt_12
        · refine jr_ifz_ne_f jf_12_30 hc ?_
          refine jr_iconst jf_12_33 jc_i_0 ?_
          obtain ⟨rfl, rfl⟩ := Prod.mk.inj (Option.some.inj h)
          exact jr_retZ (x := false) jf_12_34 jmt_12
    · refine jr_ifz_eq_t jf_12_18 hc ?_
      refine jr_iconst jf_12_33 jc_i_0 ?_
      obtain ⟨rfl, rfl⟩ := Prod.mk.inj (Option.some.inj h)
      exact jr_retZ (x := false) jf_12_34 jmt_12
set_option maxRecDepth 10000 in
set_option maxHeartbeats 4000000 in
theorem r_B_coefficient {B : Nat} {SA : Nat → Nat} {d : Nat} (hd : 2 ≤ d) : ∀ (v0 : Nat) (v1 : Int32) (v2 : Int32) (v3 : Int64) (μ : JMem) (r : Bool) (μ9 : JMem), g_B_coefficient B v0 v1 v2 v3 μ = some (r, μ9) → jR B SA d m_B_coefficient 0 (lv_args 0 [.ref v0, .int v1, .int v2, .long v3]) [] μ (some (.int (jb r))) μ9 := by
  intro v0 v1 v2 v3 μ r μ9 h
  exact r_B_coefficient_e hd (lv_args 0 _) _ _ _ _ _ _ _ (by simp [lv_args, jget, rv_cat, cat_int, cat_long, cat_double, cat_float, cat_ref]) (by simp [lv_args, jget, rv_cat, cat_int, cat_long, cat_double, cat_float, cat_ref]) (by simp [lv_args, jget, rv_cat, cat_int, cat_long, cat_double, cat_float, cat_ref]) (by simp [lv_args, jget, rv_cat, cat_int, cat_long, cat_double, cat_float, cat_ref]) h
/-! FilterBench.rule(III)Z -/
set_option maxRecDepth 10000 in
set_option maxHeartbeats 4000000 in
theorem r_B_rule_e {B : Nat} {SA : Nat → Nat} {d : Nat} (hd : 1 ≤ d) : ∀ (L : JLoc) (v0 : Nat) (v1 : Int32) (v2 : Int32) (v3 : Int32) (μ : JMem) (r : Bool) (μ9 : JMem), jget L 0 = .ref v0 → jget L 1 = .int v1 → jget L 2 = .int v2 → jget L 3 = .int v3 → g_B_rule B v0 v1 v2 v3 μ = some (r, μ9) → jR B SA d m_B_rule 0 L [] μ (some (.int (jb r))) μ9 := by
  intro L v0 v1 v2 v3 μ r μ9 hl0 hl1 hl2 hl3 h
  unfold g_B_rule at h
  refine jr_aload_n jf_21_0 rfl hl0 ?_
  refine jr_iload_n jf_21_1 rfl hl1 ?_
  replace h := jgd_of h; obtain ⟨hb1, h⟩ := h
  replace h := obd_of h; obtain ⟨x2, hx2, h⟩ := h
  refine jr_V6_1 jf_21_2 hb1 (by omega) (r_B_sectionAt (by omega) _ _ _ _ hx2) (Nat.le_of_ble_eq_true rfl) jml_13 (Nat.le_of_ble_eq_true rfl) ?_
  refine jr_astore_A jf_21_5 jml_21 (by decide) ?_
  refine jr_aload_A jf_21_7 jg1_same ?_
  replace h := jon_or h; rcases h with ⟨rfl, h⟩ | ⟨a3, rfl, h⟩
  · refine jr_ifnull_n jf_21_9 ?_
    refine jr_iconst jf_21_21 jc_i_0 ?_
    obtain ⟨rfl, rfl⟩ := Prod.mk.inj (Option.some.inj h)
    exact jr_retZ (x := false) jf_21_22 jmt_21
  · refine jr_ifnull_s jf_21_9 ?_
    refine jr_aload jf_21_12 jg1_same ?_
    replace h := obd_of h; obtain ⟨x4, hx4, h⟩ := h
    refine jr_getI jf_21_14 hx4 ?_
    refine jr_iconst jf_21_17 jc_i_2 ?_
    replace h := ite_or h; rcases h with ⟨hc, h⟩ | ⟨hc, h⟩
    · refine jr_if2_eq_t jf_21_18 hc ?_
      refine jr_iload_n jf_21_23 rfl (jg1_ne rfl hl2) ?_
      replace h := ite_or h; rcases h with ⟨hc, h⟩ | ⟨hc, h⟩
      · refine jr_if_lt_t jf_21_24 hc ?_
        refine jr_iconst jf_21_41 jc_i_0 ?_
        obtain ⟨rfl, rfl⟩ := Prod.mk.inj (Option.some.inj h)
        exact jr_retZ (x := false) jf_21_42 jmt_21
      · refine jr_if_lt_f jf_21_24 hc ?_
        refine jr_iload_n jf_21_27 rfl (jg1_ne rfl hl2) ?_
        refine jr_iconst jf_21_28 jc_i_2 ?_
        replace h := ite_or h; rcases h with ⟨hc, h⟩ | ⟨hc, h⟩
        · refine jr_if2_gt_t jf_21_29 hc ?_
          refine jr_iconst jf_21_41 jc_i_0 ?_
          obtain ⟨rfl, rfl⟩ := Prod.mk.inj (Option.some.inj h)
          exact jr_retZ (x := false) jf_21_42 jmt_21
        · refine jr_if2_gt_f jf_21_29 hc ?_
          refine jr_iload_n jf_21_32 rfl (jg1_pre rfl hl3) ?_
          replace h := ite_or h; rcases h with ⟨hc, h⟩ | ⟨hc, h⟩
          · refine jr_if_lt_t jf_21_33 hc ?_
            refine jr_iconst jf_21_41 jc_i_0 ?_
            obtain ⟨rfl, rfl⟩ := Prod.mk.inj (Option.some.inj h)
            exact jr_retZ (x := false) jf_21_42 jmt_21
          · refine jr_if_lt_f jf_21_33 hc ?_
            refine jr_iload_n jf_21_36 rfl (jg1_pre rfl hl3) ?_
            refine jr_iconst jf_21_37 jc_i_1 ?_
            replace h := ite_or h; rcases h with ⟨hc, h⟩ | ⟨hc, h⟩
            · refine jr_if2_le_t jf_21_38 hc ?_
              refine jr_aload jf_21_43 jg1_same ?_
              refine jr_iload_n jf_21_45 rfl (jg1_ne rfl hl2) ?_
              replace h := obd_of h; obtain ⟨μ5, hμ5, h⟩ := h
              refine jr_putI jf_21_46 rfl hμ5 ?_
              refine jr_aload jf_21_49 jg1_same ?_
              refine jr_iload_n jf_21_51 rfl (jg1_pre rfl hl3) ?_
              replace h := obd_of h; obtain ⟨μ6, hμ6, h⟩ := h
              refine jr_putI jf_21_52 rfl hμ6 ?_
              refine jr_iconst jf_21_55 jc_i_1 ?_
              obtain ⟨rfl, rfl⟩ := Prod.mk.inj (Option.some.inj h)
              exact jr_retZ (x := true) jf_21_56 jmt_21
            · refine jr_if2_le_f jf_21_38 hc ?_
              refine jr_iconst jf_21_41 jc_i_0 ?_
              obtain ⟨rfl, rfl⟩ := Prod.mk.inj (Option.some.inj h)
              exact jr_retZ (x := false) jf_21_42 jmt_21
    · refine jr_if2_eq_f jf_21_18 hc ?_
      refine jr_iconst jf_21_21 jc_i_0 ?_
      obtain ⟨rfl, rfl⟩ := Prod.mk.inj (Option.some.inj h)
      exact jr_retZ (x := false) jf_21_22 jmt_21
set_option maxRecDepth 10000 in
set_option maxHeartbeats 4000000 in
theorem r_B_rule {B : Nat} {SA : Nat → Nat} {d : Nat} (hd : 1 ≤ d) : ∀ (v0 : Nat) (v1 : Int32) (v2 : Int32) (v3 : Int32) (μ : JMem) (r : Bool) (μ9 : JMem), g_B_rule B v0 v1 v2 v3 μ = some (r, μ9) → jR B SA d m_B_rule 0 (lv_args 0 [.ref v0, .int v1, .int v2, .int v3]) [] μ (some (.int (jb r))) μ9 := by
  intro v0 v1 v2 v3 μ r μ9 h
  exact r_B_rule_e hd (lv_args 0 _) _ _ _ _ _ _ _ (by simp [lv_args, jget, rv_cat, cat_int, cat_long, cat_double, cat_float, cat_ref]) (by simp [lv_args, jget, rv_cat, cat_int, cat_long, cat_double, cat_float, cat_ref]) (by simp [lv_args, jget, rv_cat, cat_int, cat_long, cat_double, cat_float, cat_ref]) (by simp [lv_args, jget, rv_cat, cat_int, cat_long, cat_double, cat_float, cat_ref]) h
/-! FilterBench$Row.index(I)I -/
set_option maxRecDepth 10000 in
set_option maxHeartbeats 4000000 in
theorem r_Row_index_e {B : Nat} {SA : Nat → Nat} {d : Nat} (hd : 0 ≤ d) : ∀ (L : JLoc) (v0 : Nat) (v1 : Int32) (μ : JMem) (r : Int32), jget L 0 = .ref v0 → jget L 1 = .int v1 → g_Row_index v0 v1 μ.1 = some r → jR B SA d m_Row_index 0 L [] μ (some (.int r)) μ := by
  intro L v0 v1 μ r hl0 hl1 h
  unfold g_Row_index at h
  refine jr_aload_n jf_24_0 rfl hl0 ?_
  replace h := obd_of h; obtain ⟨x1, hx1, h⟩ := h
  refine jr_getI jf_24_1 hx1 ?_
  refine jr_iload_n jf_24_4 rfl hl1 ?_
  refine jr_iadd jf_24_5 ?_
  refine jr_istore_n jf_24_6 rfl jml_24 (by decide) ?_
  refine jr_iload_n jf_24_7 rfl jg1_same ?_
  refine jr_aload_n jf_24_8 rfl (jg1_ne rfl hl0) ?_
  replace h := obd_of h; obtain ⟨x2, hx2, h⟩ := h
  refine jr_getA jf_24_9 hx2 ?_
  replace h := obd_of h; obtain ⟨a3, rfl, h⟩ := h
  replace h := obd_of h; obtain ⟨x4, hx4, h⟩ := h
  refine jr_arraylength jf_24_12 hx4 ?_
  replace h := ite_or h; rcases h with ⟨hc, h⟩ | ⟨hc, h⟩
  · refine jr_if2_lt_t jf_24_13 hc ?_
    refine jr_iload_n jf_24_26 rfl jg1_same ?_
    obtain rfl := Option.some.inj h
    exact jr_retI jf_24_27 jmt_24
  · refine jr_if2_lt_f jf_24_13 hc ?_
    refine jr_iload_n jf_24_16 rfl jg1_same ?_
    refine jr_aload_n jf_24_17 rfl (jg1_ne rfl hl0) ?_
    replace h := obd_of h; obtain ⟨x5, hx5, h⟩ := h
    refine jr_getA jf_24_18 hx5 ?_
    replace h := obd_of h; obtain ⟨a6, rfl, h⟩ := h
    replace h := obd_of h; obtain ⟨x7, hx7, h⟩ := h
    refine jr_arraylength jf_24_21 hx7 ?_
    refine jr_isub jf_24_22 ?_
    refine jr_goto jf_24_23 ?_
    obtain rfl := Option.some.inj h
    exact jr_retI jf_24_27 jmt_24
set_option maxRecDepth 10000 in
set_option maxHeartbeats 4000000 in
theorem r_Row_index {B : Nat} {SA : Nat → Nat} {d : Nat} (hd : 0 ≤ d) : ∀ (v0 : Nat) (v1 : Int32) (μ : JMem) (r : Int32), g_Row_index v0 v1 μ.1 = some r → jR B SA d m_Row_index 0 (lv_args 0 [.ref v0, .int v1]) [] μ (some (.int r)) μ := by
  intro v0 v1 μ r h
  exact r_Row_index_e hd (lv_args 0 _) _ _ _ _ (by simp [lv_args, jget, rv_cat, cat_int, cat_long, cat_double, cat_float, cat_ref]) (by simp [lv_args, jget, rv_cat, cat_int, cat_long, cat_double, cat_float, cat_ref]) h
/-! FilterBench$Row.at(I)J -/
set_option maxRecDepth 10000 in
set_option maxHeartbeats 4000000 in
theorem r_Row_at_13 {B : Nat} {SA : Nat → Nat} {d : Nat} (hd : 1 ≤ d) : ∀ (L : JLoc) (μ : JMem) (r : Int64), g_Row_at_13 μ.1 = some r → jR B SA d m_Row_at 13 L [] μ (some (.long r)) μ := by
  intro L μ r h
  unfold g_Row_at_13 at h
  refine jr_lconst0 jf_23_13 ?_
  refine jr_goto jf_23_14 ?_
  obtain rfl := Option.some.inj h
  exact jr_retJ jf_23_27 jmt_23
set_option maxRecDepth 10000 in
set_option maxHeartbeats 4000000 in
theorem r_Row_at_e {B : Nat} {SA : Nat → Nat} {d : Nat} (hd : 1 ≤ d) : ∀ (L : JLoc) (v0 : Nat) (v1 : Int32) (μ : JMem) (r : Int64), jget L 0 = .ref v0 → jget L 1 = .int v1 → g_Row_at v0 v1 μ.1 = some r → jR B SA d m_Row_at 0 L [] μ (some (.long r)) μ := by
  intro L v0 v1 μ r hl0 hl1 h
  unfold g_Row_at at h
  refine jr_iload_n jf_23_0 rfl hl1 ?_
  replace h := ite_or h; rcases h with ⟨hc, h⟩ | ⟨hc, h⟩
  · refine jr_if_lt_t jf_23_1 hc ?_
    exact r_Row_at_13 hd _  _ _ h
  · refine jr_if_lt_f jf_23_1 hc ?_
    refine jr_iload_n jf_23_4 rfl hl1 ?_
    refine jr_aload_n jf_23_5 rfl hl0 ?_
    replace h := obd_of h; obtain ⟨x1, hx1, h⟩ := h
    refine jr_getA jf_23_6 hx1 ?_
    replace h := obd_of h; obtain ⟨a2, rfl, h⟩ := h
    replace h := obd_of h; obtain ⟨x3, hx3, h⟩ := h
    refine jr_arraylength jf_23_9 hx3 ?_
    replace h := ite_or h; rcases h with ⟨hc, h⟩ | ⟨hc, h⟩
    · refine jr_if2_lt_t jf_23_10 hc ?_
      refine jr_aload_n jf_23_17 rfl hl0 ?_
      replace h := obd_of h; obtain ⟨x4, hx4, h⟩ := h
      refine jr_getA jf_23_18 hx4 ?_
      refine jr_aload_n jf_23_21 rfl hl0 ?_
      refine jr_iload_n jf_23_22 rfl hl1 ?_
      replace h := jgd_of h; obtain ⟨hb5, h⟩ := h
      replace h := obd_of h; obtain ⟨x6, hx6, h⟩ := h
      refine jr_V6_1 jf_23_23 hb5 (by omega) (r_Row_index (by omega) _ _ _ _ hx6) (by simp only [jcats_cons, jcats_nil, cat_int, cat_long, cat_double, cat_float, cat_ref, rv_cat]; decide) jml_24 (Nat.le_of_ble_eq_true rfl) ?_
      replace h := obd_of h; obtain ⟨a7, rfl, h⟩ := h
      replace h := obd_of h; obtain ⟨x8, hx8, h⟩ := h
      refine jr_laload jf_23_26 hx8 ?_
      obtain rfl := Option.some.inj h
      exact jr_retJ jf_23_27 jmt_23
    · refine jr_if2_lt_f jf_23_10 hc ?_
      exact r_Row_at_13 hd _  _ _ h
set_option maxRecDepth 10000 in
set_option maxHeartbeats 4000000 in
theorem r_Row_at {B : Nat} {SA : Nat → Nat} {d : Nat} (hd : 1 ≤ d) : ∀ (v0 : Nat) (v1 : Int32) (μ : JMem) (r : Int64), g_Row_at v0 v1 μ.1 = some r → jR B SA d m_Row_at 0 (lv_args 0 [.ref v0, .int v1]) [] μ (some (.long r)) μ := by
  intro v0 v1 μ r h
  exact r_Row_at_e hd (lv_args 0 _) _ _ _ _ (by simp [lv_args, jget, rv_cat, cat_int, cat_long, cat_double, cat_float, cat_ref]) (by simp [lv_args, jget, rv_cat, cat_int, cat_long, cat_double, cat_float, cat_ref]) h
/-! FilterBench.state(II)J -/
set_option maxRecDepth 10000 in
set_option maxHeartbeats 4000000 in
theorem r_B_state_e {B : Nat} {SA : Nat → Nat} {d : Nat} (hd : 2 ≤ d) : ∀ (L : JLoc) (v0 : Nat) (v1 : Int32) (v2 : Int32) (μ : JMem) (r : Int64), jget L 0 = .ref v0 → jget L 1 = .int v1 → jget L 2 = .int v2 → g_B_state v0 v1 v2 μ.1 = some r → jR B SA d m_B_state 0 L [] μ (some (.long r)) μ := by
  intro L v0 v1 v2 μ r hl0 hl1 hl2 h
  unfold g_B_state at h
  refine jr_aload_n jf_22_0 rfl hl0 ?_
  refine jr_iload_n jf_22_1 rfl hl1 ?_
  replace h := jgd_of h; obtain ⟨hb1, h⟩ := h
  replace h := obd_of h; obtain ⟨x2, hx2, h⟩ := h
  refine jr_V6_1 jf_22_2 hb1 (by omega) (r_B_sectionAt (by omega) _ _ _ _ hx2) (Nat.le_of_ble_eq_true rfl) jml_13 (Nat.le_of_ble_eq_true rfl) ?_
  refine jr_astore_n_A jf_22_5 rfl jml_22 (by decide) ?_
  refine jr_aload_n_A jf_22_6 rfl jg1_same ?_
  replace h := jon_or h; rcases h with ⟨rfl, h⟩ | ⟨a3, rfl, h⟩
  · refine jr_ifnonnull_n jf_22_7 ?_
    refine jr_lconst0 jf_22_10 ?_
    obtain rfl := Option.some.inj h
    exact jr_retJ jf_22_11 jmt_22
  · refine jr_ifnonnull_s jf_22_7 ?_
    refine jr_iload_n jf_22_12 rfl (jg1_pre rfl hl2) ?_
    refine jr_bipush jf_22_13 jc_b_100 ?_
    replace h := ite_or h; rcases h with ⟨hc, h⟩ | ⟨hc, h⟩
    · refine jr_if2_ne_f jf_22_15 hc ?_
      refine jr_aload_n jf_22_18 rfl jg1_same ?_
      replace h := obd_of h; obtain ⟨x4, hx4, h⟩ := h
      refine jr_getA jf_22_19 hx4 ?_
      refine jr_iconst jf_22_22 jc_i_0 ?_
      replace h := obd_of h; obtain ⟨a5, rfl, h⟩ := h
      replace h := jgd_of h; obtain ⟨hb6, h⟩ := h
      replace h := obd_of h; obtain ⟨x7, hx7, h⟩ := h
      refine jr_V6_1 jf_22_23 hb6 (by omega) (r_Row_at (by omega) _ _ _ _ hx7) (Nat.le_of_ble_eq_true rfl) jml_23 (Nat.le_of_ble_eq_true rfl) ?_
      refine jr_goto jf_22_26 ?_
      obtain rfl := Option.some.inj h
      exact jr_retJ jf_22_37 jmt_22
    · refine jr_if2_ne_t jf_22_15 hc ?_
      refine jr_aload_n jf_22_29 rfl jg1_same ?_
      replace h := obd_of h; obtain ⟨x8, hx8, h⟩ := h
      refine jr_getA jf_22_30 hx8 ?_
      refine jr_iload_n jf_22_33 rfl (jg1_pre rfl hl2) ?_
      replace h := obd_of h; obtain ⟨a9, rfl, h⟩ := h
      replace h := jgd_of h; obtain ⟨hb10, h⟩ := h
      replace h := obd_of h; obtain ⟨x11, hx11, h⟩ := h
      refine jr_V6_1 jf_22_34 hb10 (by omega) (r_Row_at (by omega) _ _ _ _ hx11) (Nat.le_of_ble_eq_true rfl) jml_23 (Nat.le_of_ble_eq_true rfl) ?_
      obtain rfl := Option.some.inj h
      exact jr_retJ jf_22_37 jmt_22
set_option maxRecDepth 10000 in
set_option maxHeartbeats 4000000 in
theorem r_B_state {B : Nat} {SA : Nat → Nat} {d : Nat} (hd : 2 ≤ d) : ∀ (v0 : Nat) (v1 : Int32) (v2 : Int32) (μ : JMem) (r : Int64), g_B_state v0 v1 v2 μ.1 = some r → jR B SA d m_B_state 0 (lv_args 0 [.ref v0, .int v1, .int v2]) [] μ (some (.long r)) μ := by
  intro v0 v1 v2 μ r h
  exact r_B_state_e hd (lv_args 0 _) _ _ _ _ _ (by simp [lv_args, jget, rv_cat, cat_int, cat_long, cat_double, cat_float, cat_ref]) (by simp [lv_args, jget, rv_cat, cat_int, cat_long, cat_double, cat_float, cat_ref]) (by simp [lv_args, jget, rv_cat, cat_int, cat_long, cat_double, cat_float, cat_ref]) h
/-! FilterBench.numberOf(LFilterBench$Chain;)I -/
set_option maxRecDepth 10000 in
set_option maxHeartbeats 4000000 in
theorem r_B_numberOf_e {B : Nat} {SA : Nat → Nat} {d : Nat} (hd : 0 ≤ d) : ∀ (L : JLoc) (v0 : Option Nat) (μ : JMem) (r : Int32), jget L 0 = rv v0 → g_B_numberOf v0 μ.1 = some r → jR B SA d m_B_numberOf 0 L [] μ (some (.int r)) μ := by
  intro L v0 μ r hl0 h
  unfold g_B_numberOf at h
  refine jr_aload_n_A jf_26_0 rfl hl0 ?_
  replace h := jon_or h; rcases h with ⟨rfl, h⟩ | ⟨a1, rfl, h⟩
  · refine jr_ifnonnull_n jf_26_1 ?_
    refine jr_iconst jf_26_4 jc_i_m1 ?_
    refine jr_goto jf_26_5 ?_
    obtain rfl := Option.some.inj h
    exact jr_retI jf_26_12 jmt_26
  · refine jr_ifnonnull_s jf_26_1 ?_
    refine jr_aload_n jf_26_8 rfl hl0 ?_
    replace h := obd_of h; obtain ⟨x2, hx2, h⟩ := h
    refine jr_getI jf_26_9 hx2 ?_
    obtain rfl := Option.some.inj h
    exact jr_retI jf_26_12 jmt_26
set_option maxRecDepth 10000 in
set_option maxHeartbeats 4000000 in
theorem r_B_numberOf {B : Nat} {SA : Nat → Nat} {d : Nat} (hd : 0 ≤ d) : ∀ (v0 : Option Nat) (μ : JMem) (r : Int32), g_B_numberOf v0 μ.1 = some r → jR B SA d m_B_numberOf 0 (lv_args 0 [rv v0]) [] μ (some (.int r)) μ := by
  intro v0 μ r h
  exact r_B_numberOf_e hd (lv_args 0 _) _ _ _ (by simp [lv_args, jget, rv_cat, cat_int, cat_long, cat_double, cat_float, cat_ref]) h
/-! FilterBench.about(II)I -/
set_option maxRecDepth 10000 in
set_option maxHeartbeats 4000000 in
theorem r_B_about_e {B : Nat} {SA : Nat → Nat} {d : Nat} (hd : 1 ≤ d) : ∀ (L : JLoc) (v0 : Nat) (v1 : Int32) (v2 : Int32) (μ : JMem) (r : Int32), jget L 0 = .ref v0 → jget L 1 = .int v1 → jget L 2 = .int v2 → g_B_about v0 v1 v2 μ.1 = some r → jR B SA d m_B_about 0 L [] μ (some (.int r)) μ := by
  intro L v0 v1 v2 μ r hl0 hl1 hl2 h
  unfold g_B_about at h
  refine jr_aload_n jf_25_0 rfl hl0 ?_
  refine jr_iload_n jf_25_1 rfl hl1 ?_
  replace h := jgd_of h; obtain ⟨hb1, h⟩ := h
  replace h := obd_of h; obtain ⟨x2, hx2, h⟩ := h
  refine jr_V6_1 jf_25_2 hb1 (by omega) (r_B_sectionAt (by omega) _ _ _ _ hx2) (Nat.le_of_ble_eq_true rfl) jml_13 (Nat.le_of_ble_eq_true rfl) ?_
  refine jr_astore_n_A jf_25_5 rfl jml_25 (by decide) ?_
  refine jr_aload_n_A jf_25_6 rfl jg1_same ?_
  replace h := jon_or h; rcases h with ⟨rfl, h⟩ | ⟨a3, rfl, h⟩
  · refine jr_ifnonnull_n jf_25_7 ?_
    refine jr_iconst jf_25_10 jc_i_m1 ?_
    obtain rfl := Option.some.inj h
    exact jr_retI jf_25_11 jmt_25
  · refine jr_ifnonnull_s jf_25_7 ?_
    refine jr_iload_n jf_25_12 rfl (jg1_pre rfl hl2) ?_
    refine jr_switch jf_25_13 ?_
    replace h := ite_or h; rcases h with ⟨hc, h⟩ | ⟨hc, h⟩
    · refine jsw_hit (by decide) hc ?_
      refine jr_aload_n jf_25_68 rfl jg1_same ?_
      replace h := obd_of h; obtain ⟨x4, hx4, h⟩ := h
      refine jr_getI jf_25_69 hx4 ?_
      obtain rfl := Option.some.inj h
      exact jr_retI jf_25_72 jmt_25
    · refine jsw_miss (by decide) hc (by decide : (0 : Int) + 1 = 1) ?_
      replace h := ite_or h; rcases h with ⟨hc, h⟩ | ⟨hc, h⟩
      · refine jsw_hit (by decide) hc ?_
        refine jr_aload_n jf_25_73 rfl jg1_same ?_
        replace h := obd_of h; obtain ⟨x5, hx5, h⟩ := h
        refine jr_getI jf_25_74 hx5 ?_
        obtain rfl := Option.some.inj h
        exact jr_retI jf_25_77 jmt_25
      · refine jsw_miss (by decide) hc (by decide : (1 : Int) + 1 = 2) ?_
        replace h := ite_or h; rcases h with ⟨hc, h⟩ | ⟨hc, h⟩
        · refine jsw_hit (by decide) hc ?_
          refine jr_aload_n jf_25_78 rfl jg1_same ?_
          replace h := obd_of h; obtain ⟨x6, hx6, h⟩ := h
          refine jr_getI jf_25_79 hx6 ?_
          obtain rfl := Option.some.inj h
          exact jr_retI jf_25_82 jmt_25
        · refine jsw_miss (by decide) hc (by decide : (2 : Int) + 1 = 3) ?_
          replace h := ite_or h; rcases h with ⟨hc, h⟩ | ⟨hc, h⟩
          · refine jsw_hit (by decide) hc ?_
            refine jr_aload_n jf_25_83 rfl jg1_same ?_
            replace h := obd_of h; obtain ⟨x7, hx7, h⟩ := h
            refine jr_getA jf_25_84 hx7 ?_
            replace h := obd_of h; obtain ⟨x8, hx8, h⟩ := h
            refine jr_S3_1 jf_25_87 (by omega) (r_B_numberOf (by omega) _ _ _ hx8) (Nat.le_of_ble_eq_true rfl) jml_26 (by simp only [jcats_cons, jcats_nil, cat_int, cat_long, cat_double, cat_float, cat_ref, rv_cat]; decide) ?_
            obtain rfl := Option.some.inj h
            exact jr_retI jf_25_90 jmt_25
          · refine jsw_miss (by decide) hc (by decide : (3 : Int) + 1 = 4) ?_
            replace h := ite_or h; rcases h with ⟨hc, h⟩ | ⟨hc, h⟩
            · refine jsw_hit (by decide) hc ?_
              refine jr_aload_n jf_25_91 rfl jg1_same ?_
              replace h := obd_of h; obtain ⟨x9, hx9, h⟩ := h
              refine jr_getI jf_25_92 hx9 ?_
              obtain rfl := Option.some.inj h
              exact jr_retI jf_25_95 jmt_25
            · refine jsw_miss (by decide) hc (by decide : (4 : Int) + 1 = 5) ?_
              replace h := ite_or h; rcases h with ⟨hc, h⟩ | ⟨hc, h⟩
              · refine jsw_hit (by decide) hc ?_
                refine jr_aload_n jf_25_96 rfl jg1_same ?_
                replace h := obd_of h; obtain ⟨x10, hx10, h⟩ := h
                refine jr_getI jf_25_97 hx10 ?_
                obtain rfl := Option.some.inj h
                exact jr_retI jf_25_100 jmt_25
              · refine jsw_miss (by decide) hc (by decide : (5 : Int) + 1 = 6) ?_
                replace h := ite_or h; rcases h with ⟨hc, h⟩ | ⟨hc, h⟩
                · refine jsw_hit (by decide) hc ?_
                  refine jr_aload_n jf_25_101 rfl jg1_same ?_
                  replace h := obd_of h; obtain ⟨x11, hx11, h⟩ := h
                  refine jr_getI jf_25_102 hx11 ?_
                  obtain rfl := Option.some.inj h
                  exact jr_retI jf_25_105 jmt_25
                · refine jsw_miss (by decide) hc (by decide : (6 : Int) + 1 = 7) ?_
                  replace h := ite_or h; rcases h with ⟨hc, h⟩ | ⟨hc, h⟩
                  · refine jsw_hit (by decide) hc ?_
                    refine jr_aload_n jf_25_106 rfl jg1_same ?_
                    replace h := obd_of h; obtain ⟨x12, hx12, h⟩ := h
                    refine jr_getA jf_25_107 hx12 ?_
                    replace h := obd_of h; obtain ⟨x13, hx13, h⟩ := h
                    refine jr_S3_1 jf_25_110 (by omega) (r_B_numberOf (by omega) _ _ _ hx13) (Nat.le_of_ble_eq_true rfl) jml_26 (by simp only [jcats_cons, jcats_nil, cat_int, cat_long, cat_double, cat_float, cat_ref, rv_cat]; decide) ?_
                    obtain rfl := Option.some.inj h
                    exact jr_retI jf_25_113 jmt_25
                  · refine jsw_miss (by decide) hc (by decide : (7 : Int) + 1 = 8) ?_
                    replace h := ite_or h; rcases h with ⟨hc, h⟩ | ⟨hc, h⟩
                    · refine jsw_hit (by decide) hc ?_
                      refine jr_aload_n jf_25_114 rfl jg1_same ?_
                      replace h := obd_of h; obtain ⟨x14, hx14, h⟩ := h
                      refine jr_getI jf_25_115 hx14 ?_
                      obtain rfl := Option.some.inj h
                      exact jr_retI jf_25_118 jmt_25
                    · refine jsw_miss (by decide) hc (by decide : (8 : Int) + 1 = 9) ?_
                      replace h := ite_or h; rcases h with ⟨hc, h⟩ | ⟨hc, h⟩
                      · refine jsw_hit (by decide) hc ?_
                        refine jr_aload_n jf_25_119 rfl jg1_same ?_
                        replace h := obd_of h; obtain ⟨x15, hx15, h⟩ := h
                        refine jr_getI jf_25_120 hx15 ?_
                        obtain rfl := Option.some.inj h
                        exact jr_retI jf_25_123 jmt_25
                      · refine jsw_miss (by decide) hc (by decide : (9 : Int) + 1 = 10) ?_
                        refine jsw_end ?_
                        refine jr_iconst jf_25_124 jc_i_m1 ?_
                        obtain rfl := Option.some.inj h
                        exact jr_retI jf_25_125 jmt_25
set_option maxRecDepth 10000 in
set_option maxHeartbeats 4000000 in
theorem r_B_about {B : Nat} {SA : Nat → Nat} {d : Nat} (hd : 1 ≤ d) : ∀ (v0 : Nat) (v1 : Int32) (v2 : Int32) (μ : JMem) (r : Int32), g_B_about v0 v1 v2 μ.1 = some r → jR B SA d m_B_about 0 (lv_args 0 [.ref v0, .int v1, .int v2]) [] μ (some (.int r)) μ := by
  intro v0 v1 v2 μ r h
  exact r_B_about_e hd (lv_args 0 _) _ _ _ _ _ (by simp [lv_args, jget, rv_cat, cat_int, cat_long, cat_double, cat_float, cat_ref]) (by simp [lv_args, jget, rv_cat, cat_int, cat_long, cat_double, cat_float, cat_ref]) (by simp [lv_args, jget, rv_cat, cat_int, cat_long, cat_double, cat_float, cat_ref]) h
/-! FilterBench$Section.factor(I)J -/
set_option maxRecDepth 10000 in
set_option maxHeartbeats 4000000 in
theorem r_Section_factor_13 {B : Nat} {SA : Nat → Nat} {d : Nat} (hd : 0 ≤ d) : ∀ (L : JLoc) (μ : JMem) (r : Int64), g_Section_factor_13 μ.1 = some r → jR B SA d m_Section_factor 13 L [] μ (some (.long r)) μ := by
  intro L μ r h
  unfold g_Section_factor_13 at h
  refine jr_lconst0 jf_28_13 ?_
  refine jr_goto jf_28_14 ?_
  obtain rfl := Option.some.inj h
  exact jr_retJ jf_28_23 jmt_28
set_option maxRecDepth 10000 in
set_option maxHeartbeats 4000000 in
theorem r_Section_factor_e {B : Nat} {SA : Nat → Nat} {d : Nat} (hd : 0 ≤ d) : ∀ (L : JLoc) (v0 : Nat) (v1 : Int32) (μ : JMem) (r : Int64), jget L 0 = .ref v0 → jget L 1 = .int v1 → g_Section_factor v0 v1 μ.1 = some r → jR B SA d m_Section_factor 0 L [] μ (some (.long r)) μ := by
  intro L v0 v1 μ r hl0 hl1 h
  unfold g_Section_factor at h
  refine jr_iload_n jf_28_0 rfl hl1 ?_
  replace h := ite_or h; rcases h with ⟨hc, h⟩ | ⟨hc, h⟩
  · refine jr_if_lt_t jf_28_1 hc ?_
    exact r_Section_factor_13 hd _  _ _ h
  · refine jr_if_lt_f jf_28_1 hc ?_
    refine jr_iload_n jf_28_4 rfl hl1 ?_
    refine jr_aload_n jf_28_5 rfl hl0 ?_
    replace h := obd_of h; obtain ⟨x1, hx1, h⟩ := h
    refine jr_getA jf_28_6 hx1 ?_
    replace h := obd_of h; obtain ⟨a2, rfl, h⟩ := h
    replace h := obd_of h; obtain ⟨x3, hx3, h⟩ := h
    refine jr_arraylength jf_28_9 hx3 ?_
    replace h := ite_or h; rcases h with ⟨hc, h⟩ | ⟨hc, h⟩
    · refine jr_if2_lt_t jf_28_10 hc ?_
      refine jr_aload_n jf_28_17 rfl hl0 ?_
      replace h := obd_of h; obtain ⟨x4, hx4, h⟩ := h
      refine jr_getA jf_28_18 hx4 ?_
      refine jr_iload_n jf_28_21 rfl hl1 ?_
      replace h := obd_of h; obtain ⟨a5, rfl, h⟩ := h
      replace h := obd_of h; obtain ⟨x6, hx6, h⟩ := h
      refine jr_laload jf_28_22 hx6 ?_
      obtain rfl := Option.some.inj h
      exact jr_retJ jf_28_23 jmt_28
    · refine jr_if2_lt_f jf_28_10 hc ?_
      exact r_Section_factor_13 hd _  _ _ h
set_option maxRecDepth 10000 in
set_option maxHeartbeats 4000000 in
theorem r_Section_factor {B : Nat} {SA : Nat → Nat} {d : Nat} (hd : 0 ≤ d) : ∀ (v0 : Nat) (v1 : Int32) (μ : JMem) (r : Int64), g_Section_factor v0 v1 μ.1 = some r → jR B SA d m_Section_factor 0 (lv_args 0 [.ref v0, .int v1]) [] μ (some (.long r)) μ := by
  intro v0 v1 μ r h
  exact r_Section_factor_e hd (lv_args 0 _) _ _ _ _ (by simp [lv_args, jget, rv_cat, cat_int, cat_long, cat_double, cat_float, cat_ref]) (by simp [lv_args, jget, rv_cat, cat_int, cat_long, cat_double, cat_float, cat_ref]) h
/-! FilterBench.told(II)J -/
set_option maxRecDepth 10000 in
set_option maxHeartbeats 4000000 in
theorem r_B_told_e {B : Nat} {SA : Nat → Nat} {d : Nat} (hd : 1 ≤ d) : ∀ (L : JLoc) (v0 : Nat) (v1 : Int32) (v2 : Int32) (μ : JMem) (r : Int64), jget L 0 = .ref v0 → jget L 1 = .int v1 → jget L 2 = .int v2 → g_B_told v0 v1 v2 μ.1 = some r → jR B SA d m_B_told 0 L [] μ (some (.long r)) μ := by
  intro L v0 v1 v2 μ r hl0 hl1 hl2 h
  unfold g_B_told at h
  refine jr_aload_n jf_27_0 rfl hl0 ?_
  refine jr_iload_n jf_27_1 rfl hl1 ?_
  replace h := jgd_of h; obtain ⟨hb1, h⟩ := h
  replace h := obd_of h; obtain ⟨x2, hx2, h⟩ := h
  refine jr_V6_1 jf_27_2 hb1 (by omega) (r_B_sectionAt (by omega) _ _ _ _ hx2) (Nat.le_of_ble_eq_true rfl) jml_13 (Nat.le_of_ble_eq_true rfl) ?_
  refine jr_astore_n_A jf_27_5 rfl jml_27 (by decide) ?_
  refine jr_aload_n_A jf_27_6 rfl jg1_same ?_
  replace h := jon_or h; rcases h with ⟨rfl, h⟩ | ⟨a3, rfl, h⟩
  · refine jr_ifnonnull_n jf_27_7 ?_
    refine jr_lconst0 jf_27_10 ?_
    refine jr_goto jf_27_11 ?_
    obtain rfl := Option.some.inj h
    exact jr_retJ jf_27_19 jmt_27
  · refine jr_ifnonnull_s jf_27_7 ?_
    refine jr_aload_n jf_27_14 rfl jg1_same ?_
    refine jr_iload_n jf_27_15 rfl (jg1_pre rfl hl2) ?_
    replace h := jgd_of h; obtain ⟨hb4, h⟩ := h
    replace h := obd_of h; obtain ⟨x5, hx5, h⟩ := h
    refine jr_V6_1 jf_27_16 hb4 (by omega) (r_Section_factor (by omega) _ _ _ _ hx5) (Nat.le_of_ble_eq_true rfl) jml_28 (Nat.le_of_ble_eq_true rfl) ?_
    obtain rfl := Option.some.inj h
    exact jr_retJ jf_27_19 jmt_27
set_option maxRecDepth 10000 in
set_option maxHeartbeats 4000000 in
theorem r_B_told {B : Nat} {SA : Nat → Nat} {d : Nat} (hd : 1 ≤ d) : ∀ (v0 : Nat) (v1 : Int32) (v2 : Int32) (μ : JMem) (r : Int64), g_B_told v0 v1 v2 μ.1 = some r → jR B SA d m_B_told 0 (lv_args 0 [.ref v0, .int v1, .int v2]) [] μ (some (.long r)) μ := by
  intro v0 v1 v2 μ r h
  exact r_B_told_e hd (lv_args 0 _) _ _ _ _ _ (by simp [lv_args, jget, rv_cat, cat_int, cat_long, cat_double, cat_float, cat_ref]) (by simp [lv_args, jget, rv_cat, cat_int, cat_long, cat_double, cat_float, cat_ref]) (by simp [lv_args, jget, rv_cat, cat_int, cat_long, cat_double, cat_float, cat_ref]) h
/-! FilterBench.registered(LFilterBench$Chain;)I -/
set_option maxRecDepth 10000 in
set_option maxHeartbeats 4000000 in
theorem r_B_registered_e {B : Nat} {SA : Nat → Nat} {d : Nat} (hd : 0 ≤ d) : ∀ (L : JLoc) (v0 : Nat) (v1 : Option Nat) (μ : JMem) (r : Int32) (μ9 : JMem), jget L 0 = .ref v0 → jget L 1 = rv v1 → g_B_registered B v0 v1 μ = some (r, μ9) → jR B SA d m_B_registered 0 L [] μ (some (.int r)) μ9 := by
  intro L v0 v1 μ r μ9 hl0 hl1 h
  unfold g_B_registered at h
  refine jr_aload_n jf_31_0 rfl hl0 ?_
  replace h := obd_of h; obtain ⟨x1, hx1, h⟩ := h
  refine jr_getI jf_31_1 hx1 ?_
  replace h := ite_or h; rcases h with ⟨hc, h⟩ | ⟨hc, h⟩
  · refine jr_if_lt_t jf_31_4 hc ?_
    refine jr_iconst jf_31_19 jc_i_m1 ?_
    obtain ⟨rfl, rfl⟩ := Prod.mk.inj (Option.some.inj h)
    exact jr_retI jf_31_20 jmt_31
  · refine jr_if_lt_f jf_31_4 hc ?_
    refine jr_aload_n jf_31_7 rfl hl0 ?_
    replace h := obd_of h; obtain ⟨x2, hx2, h⟩ := h
    refine jr_getI jf_31_8 hx2 ?_
    refine jr_aload_n jf_31_11 rfl hl0 ?_
    replace h := obd_of h; obtain ⟨x3, hx3, h⟩ := h
    refine jr_getA jf_31_12 hx3 ?_
    replace h := obd_of h; obtain ⟨a4, rfl, h⟩ := h
    replace h := obd_of h; obtain ⟨x5, hx5, h⟩ := h
    refine jr_arraylength jf_31_15 hx5 ?_
    replace h := ite_or h; rcases h with ⟨hc, h⟩ | ⟨hc, h⟩
    · refine jr_if2_lt_t jf_31_16 hc ?_
      refine jr_aload_n_A jf_31_21 rfl hl1 ?_
      refine jr_aload_n jf_31_22 rfl hl0 ?_
      replace h := obd_of h; obtain ⟨x6, hx6, h⟩ := h
      refine jr_getI jf_31_23 hx6 ?_
      replace h := obd_of h; obtain ⟨a7, rfl, h⟩ := h
      replace h := obd_of h; obtain ⟨μ8, hμ8, h⟩ := h
      refine jr_putI jf_31_26 rfl hμ8 ?_
      refine jr_aload_n jf_31_29 rfl hl0 ?_
      replace h := obd_of h; obtain ⟨x9, hx9, h⟩ := h
      refine jr_getA jf_31_30 hx9 ?_
      refine jr_aload_n jf_31_33 rfl hl0 ?_
      replace h := obd_of h; obtain ⟨x10, hx10, h⟩ := h
      refine jr_getI jf_31_34 hx10 ?_
      refine jr_aload_n jf_31_37 rfl hl1 ?_
      replace h := obd_of h; obtain ⟨a11, rfl, h⟩ := h
      replace h := obd_of h; obtain ⟨μ12, hμ12, h⟩ := h
      refine jr_aastore jf_31_38 hμ12 ?_
      refine jr_aload_n jf_31_39 rfl hl0 ?_
      refine jr_dup jf_31_40 rfl ?_
      replace h := obd_of h; obtain ⟨x13, hx13, h⟩ := h
      refine jr_getI jf_31_41 hx13 ?_
      refine jr_iconst jf_31_44 jc_i_1 ?_
      refine jr_iadd jf_31_45 ?_
      replace h := obd_of h; obtain ⟨μ14, hμ14, h⟩ := h
      refine jr_putI jf_31_46 rfl hμ14 ?_
      refine jr_aload_n jf_31_49 rfl hl1 ?_
      replace h := obd_of h; obtain ⟨x15, hx15, h⟩ := h
      refine jr_getI jf_31_50 hx15 ?_
      obtain ⟨rfl, rfl⟩ := Prod.mk.inj (Option.some.inj h)
      exact jr_retI jf_31_53 jmt_31
    · refine jr_if2_lt_f jf_31_16 hc ?_
      refine jr_iconst jf_31_19 jc_i_m1 ?_
      obtain ⟨rfl, rfl⟩ := Prod.mk.inj (Option.some.inj h)
      exact jr_retI jf_31_20 jmt_31
set_option maxRecDepth 10000 in
set_option maxHeartbeats 4000000 in
theorem r_B_registered {B : Nat} {SA : Nat → Nat} {d : Nat} (hd : 0 ≤ d) : ∀ (v0 : Nat) (v1 : Option Nat) (μ : JMem) (r : Int32) (μ9 : JMem), g_B_registered B v0 v1 μ = some (r, μ9) → jR B SA d m_B_registered 0 (lv_args 0 [.ref v0, rv v1]) [] μ (some (.int r)) μ9 := by
  intro v0 v1 μ r μ9 h
  exact r_B_registered_e hd (lv_args 0 _) _ _ _ _ _ (by simp [lv_args, jget, rv_cat, cat_int, cat_long, cat_double, cat_float, cat_ref]) (by simp [lv_args, jget, rv_cat, cat_int, cat_long, cat_double, cat_float, cat_ref]) h
/-! FilterBench$Chain.<init>()V -/
set_option maxRecDepth 10000 in
set_option maxHeartbeats 4000000 in
theorem r_Chain_init_e {B : Nat} {SA : Nat → Nat} {d : Nat} (hd : 1 ≤ d) : ∀ (L : JLoc) (v0 : Nat) (μ : JMem) (μ9 : JMem), jget L 0 = .ref v0 → g_Chain_init B v0 μ = some μ9 → jR B SA d m_Chain_init 0 L [] μ none μ9 := by
  intro L v0 μ μ9 hl0 h
  unfold g_Chain_init at h
  refine jr_aload_n jf_30_0 rfl hl0 ?_
  refine jr_oinit jf_30_1 (by omega) (Nat.le_of_ble_eq_true rfl) ?_
  refine jr_aload_n jf_30_4 rfl hl0 ?_
  refine jr_iconst jf_30_5 jc_i_m1 ?_
  replace h := obd_of h; obtain ⟨μ1, hμ1, h⟩ := h
  refine jr_putI jf_30_6 rfl hμ1 ?_
  refine jr_aload_n jf_30_9 rfl hl0 ?_
  refine jr_bipush jf_30_10 jc_b_10 ?_
  replace h := jbd2_of h; obtain ⟨a2, μ3, ha2, h⟩ := h
  refine jr_anewarray jf_30_12 ha2 ?_
  replace h := obd_of h; obtain ⟨μ4, hμ4, h⟩ := h
  refine jr_putA (x := some _) jf_30_15 rfl hμ4 ?_
  refine jr_aload_n jf_30_18 rfl hl0 ?_
  refine jr_iconst jf_30_19 jc_i_3 ?_
  replace h := jbd2_of h; obtain ⟨a5, μ6, ha5, h⟩ := h
  refine jr_anewarray jf_30_20 ha5 ?_
  replace h := obd_of h; obtain ⟨μ7, hμ7, h⟩ := h
  refine jr_putA (x := some _) jf_30_23 rfl hμ7 ?_
  refine jr_aload_n jf_30_26 rfl hl0 ?_
  refine jr_sipush jf_30_27 jc_s_400 ?_
  replace h := jbd2_of h; obtain ⟨a8, μ9, ha8, h⟩ := h
  refine jr_newarray jf_30_30 rfl ha8 ?_
  replace h := obd_of h; obtain ⟨μ10, hμ10, h⟩ := h
  refine jr_putA (x := some _) jf_30_32 rfl hμ10 ?_
  obtain rfl := Option.some.inj h
  exact jr_return jf_30_35 jmt_30
set_option maxRecDepth 10000 in
set_option maxHeartbeats 4000000 in
theorem r_Chain_init {B : Nat} {SA : Nat → Nat} {d : Nat} (hd : 1 ≤ d) : ∀ (v0 : Nat) (μ : JMem) (μ9 : JMem), g_Chain_init B v0 μ = some μ9 → jR B SA d m_Chain_init 0 (lv_args 0 [.ref v0]) [] μ none μ9 := by
  intro v0 μ μ9 h
  exact r_Chain_init_e hd (lv_args 0 _) _ _ _ (by simp [lv_args, jget, rv_cat, cat_int, cat_long, cat_double, cat_float, cat_ref]) h
/-! FilterBench.chain()I -/
set_option maxRecDepth 10000 in
set_option maxHeartbeats 4000000 in
theorem r_B_chain_e {B : Nat} {SA : Nat → Nat} {d : Nat} (hd : 2 ≤ d) : ∀ (L : JLoc) (v0 : Nat) (μ : JMem) (r : Int32) (μ9 : JMem), jget L 0 = .ref v0 → g_B_chain B v0 μ = some (r, μ9) → jR B SA d m_B_chain 0 L [] μ (some (.int r)) μ9 := by
  intro L v0 μ r μ9 hl0 h
  unfold g_B_chain at h
  refine jr_aload_n jf_29_0 rfl hl0 ?_
  replace h := obd_of h; obtain ⟨x1, hx1, h⟩ := h
  refine jr_getI jf_29_1 hx1 ?_
  refine jr_aload_n jf_29_4 rfl hl0 ?_
  replace h := obd_of h; obtain ⟨x2, hx2, h⟩ := h
  refine jr_getA jf_29_5 hx2 ?_
  replace h := obd_of h; obtain ⟨a3, rfl, h⟩ := h
  replace h := obd_of h; obtain ⟨x4, hx4, h⟩ := h
  refine jr_arraylength jf_29_8 hx4 ?_
  replace h := ite_or h; rcases h with ⟨hc, h⟩ | ⟨hc, h⟩
  · refine jr_if2_lt_t jf_29_9 hc ?_
    refine jr_aload_n jf_29_16 rfl hl0 ?_
    replace h := jnew_of h
    refine jr_new jf_29_17 ?_
    refine jr_dup jf_29_20 rfl ?_
    replace h := obd_of h; obtain ⟨μ7, hμ7, h⟩ := h
    refine jr_P2v_0 jf_29_21 (by omega) (r_Chain_init (by omega) _ _ _ hμ7) (Nat.le_of_ble_eq_true rfl) jml_30 (Nat.le_of_ble_eq_true rfl) ?_
    replace h := jgd_of h; obtain ⟨hb8, h⟩ := h
    replace h := jbd2_of h; obtain ⟨x9, μ10, hx9, h⟩ := h
    refine jr_V6_1 jf_29_24 hb8 (by omega) (r_B_registered (by omega) _ _ _ _ _ hx9) (Nat.le_of_ble_eq_true rfl) jml_31 (by simp only [jcats_cons, jcats_nil, cat_int, cat_long, cat_double, cat_float, cat_ref, rv_cat]; decide) ?_
    obtain ⟨rfl, rfl⟩ := Prod.mk.inj (Option.some.inj h)
    exact jr_retI jf_29_27 jmt_29
  · refine jr_if2_lt_f jf_29_9 hc ?_
    refine jr_iconst jf_29_12 jc_i_m1 ?_
    refine jr_goto jf_29_13 ?_
    obtain ⟨rfl, rfl⟩ := Prod.mk.inj (Option.some.inj h)
    exact jr_retI jf_29_27 jmt_29
set_option maxRecDepth 10000 in
set_option maxHeartbeats 4000000 in
theorem r_B_chain {B : Nat} {SA : Nat → Nat} {d : Nat} (hd : 2 ≤ d) : ∀ (v0 : Nat) (μ : JMem) (r : Int32) (μ9 : JMem), g_B_chain B v0 μ = some (r, μ9) → jR B SA d m_B_chain 0 (lv_args 0 [.ref v0]) [] μ (some (.int r)) μ9 := by
  intro v0 μ r μ9 h
  exact r_B_chain_e hd (lv_args 0 _) _ _ _ _ (by simp [lv_args, jget, rv_cat, cat_int, cat_long, cat_double, cat_float, cat_ref]) h
/-! FilterBench.chainAt(I)LFilterBench$Chain; -/
set_option maxRecDepth 10000 in
set_option maxHeartbeats 4000000 in
theorem r_B_chainAt_21 {B : Nat} {SA : Nat → Nat} {d : Nat} (hd : 0 ≤ d) : ∀ (L : JLoc) (μ : JMem) (r : Option Nat), g_B_chainAt_21 μ.1 = some r → jR B SA d m_B_chainAt 21 L [] μ (some (rv r)) μ := by
  intro L μ r h
  unfold g_B_chainAt_21 at h
  refine jr_aconst_null jf_33_21 ?_
  refine jr_goto jf_33_22 ?_
  obtain rfl := Option.some.inj h
  exact jr_retA jf_33_31 jmt_33
set_option maxRecDepth 10000 in
set_option maxHeartbeats 4000000 in
theorem r_B_chainAt_e {B : Nat} {SA : Nat → Nat} {d : Nat} (hd : 0 ≤ d) : ∀ (L : JLoc) (v0 : Nat) (v1 : Int32) (μ : JMem) (r : Option Nat), jget L 0 = .ref v0 → jget L 1 = .int v1 → g_B_chainAt v0 v1 μ.1 = some r → jR B SA d m_B_chainAt 0 L [] μ (some (rv r)) μ := by
  intro L v0 v1 μ r hl0 hl1 h
  unfold g_B_chainAt at h
  refine jr_iload_n jf_33_0 rfl hl1 ?_
  replace h := ite_or h; rcases h with ⟨hc, h⟩ | ⟨hc, h⟩
  · refine jr_if_lt_t jf_33_1 hc ?_
    exact r_B_chainAt_21 hd _  _ _ h
  · refine jr_if_lt_f jf_33_1 hc ?_
    refine jr_iload_n jf_33_4 rfl hl1 ?_
    refine jr_aload_n jf_33_5 rfl hl0 ?_
    replace h := obd_of h; obtain ⟨x1, hx1, h⟩ := h
    refine jr_getI jf_33_6 hx1 ?_
    replace h := ite_or h; rcases h with ⟨hc, h⟩ | ⟨hc, h⟩
    · refine jr_if2_ge_t jf_33_9 hc ?_
      exact r_B_chainAt_21 hd _  _ _ h
    · refine jr_if2_ge_f jf_33_9 hc ?_
      refine jr_iload_n jf_33_12 rfl hl1 ?_
      refine jr_aload_n jf_33_13 rfl hl0 ?_
      replace h := obd_of h; obtain ⟨x2, hx2, h⟩ := h
      refine jr_getA jf_33_14 hx2 ?_
      replace h := obd_of h; obtain ⟨a3, rfl, h⟩ := h
      replace h := obd_of h; obtain ⟨x4, hx4, h⟩ := h
      refine jr_arraylength jf_33_17 hx4 ?_
      replace h := ite_or h; rcases h with ⟨hc, h⟩ | ⟨hc, h⟩
      · refine jr_if2_lt_t jf_33_18 hc ?_
        refine jr_aload_n jf_33_25 rfl hl0 ?_
        replace h := obd_of h; obtain ⟨x5, hx5, h⟩ := h
        refine jr_getA jf_33_26 hx5 ?_
        refine jr_iload_n jf_33_29 rfl hl1 ?_
        replace h := obd_of h; obtain ⟨a6, rfl, h⟩ := h
        replace h := obd_of h; obtain ⟨x7, hx7, h⟩ := h
        refine jr_aaload jf_33_30 hx7 ?_
        obtain rfl := Option.some.inj h
        exact jr_retA jf_33_31 jmt_33
      · refine jr_if2_lt_f jf_33_18 hc ?_
        exact r_B_chainAt_21 hd _  _ _ h
set_option maxRecDepth 10000 in
set_option maxHeartbeats 4000000 in
theorem r_B_chainAt {B : Nat} {SA : Nat → Nat} {d : Nat} (hd : 0 ≤ d) : ∀ (v0 : Nat) (v1 : Int32) (μ : JMem) (r : Option Nat), g_B_chainAt v0 v1 μ.1 = some r → jR B SA d m_B_chainAt 0 (lv_args 0 [.ref v0, .int v1]) [] μ (some (rv r)) μ := by
  intro v0 v1 μ r h
  exact r_B_chainAt_e hd (lv_args 0 _) _ _ _ _ (by simp [lv_args, jget, rv_cat, cat_int, cat_long, cat_double, cat_float, cat_ref]) (by simp [lv_args, jget, rv_cat, cat_int, cat_long, cat_double, cat_float, cat_ref]) h
/-! FilterBench$Chain.join(LFilterBench$Section;)V -/
set_option maxRecDepth 10000 in
set_option maxHeartbeats 4000000 in
theorem r_Chain_join_e {B : Nat} {SA : Nat → Nat} {d : Nat} (hd : 0 ≤ d) : ∀ (L : JLoc) (v0 : Nat) (v1 : Option Nat) (μ : JMem) (μ9 : JMem), jget L 0 = .ref v0 → jget L 1 = rv v1 → g_Chain_join B v0 v1 μ = some μ9 → jR B SA d m_Chain_join 0 L [] μ none μ9 := by
  intro L v0 v1 μ μ9 hl0 hl1 h
  unfold g_Chain_join at h
  refine jr_aload_n jf_38_0 rfl hl0 ?_
  replace h := obd_of h; obtain ⟨x1, hx1, h⟩ := h
  refine jr_getI jf_38_1 hx1 ?_
  replace h := ite_or h; rcases h with ⟨hc, h⟩ | ⟨hc, h⟩
  · refine jr_if_lt_t jf_38_4 hc ?_
    obtain rfl := Option.some.inj h
    exact jr_return jf_38_52 jmt_38
  · refine jr_if_lt_f jf_38_4 hc ?_
    refine jr_aload_n jf_38_7 rfl hl0 ?_
    replace h := obd_of h; obtain ⟨x2, hx2, h⟩ := h
    refine jr_getI jf_38_8 hx2 ?_
    refine jr_aload_n jf_38_11 rfl hl0 ?_
    replace h := obd_of h; obtain ⟨x3, hx3, h⟩ := h
    refine jr_getA jf_38_12 hx3 ?_
    replace h := obd_of h; obtain ⟨a4, rfl, h⟩ := h
    replace h := obd_of h; obtain ⟨x5, hx5, h⟩ := h
    refine jr_arraylength jf_38_15 hx5 ?_
    replace h := ite_or h; rcases h with ⟨hc, h⟩ | ⟨hc, h⟩
    · refine jr_if2_ge_t jf_38_16 hc ?_
      obtain rfl := Option.some.inj h
      exact jr_return jf_38_52 jmt_38
    · refine jr_if2_ge_f jf_38_16 hc ?_
      refine jr_aload_n jf_38_19 rfl hl0 ?_
      replace h := obd_of h; obtain ⟨x6, hx6, h⟩ := h
      refine jr_getA jf_38_20 hx6 ?_
      refine jr_aload_n jf_38_23 rfl hl0 ?_
      replace h := obd_of h; obtain ⟨x7, hx7, h⟩ := h
      refine jr_getI jf_38_24 hx7 ?_
      refine jr_aload_n_A jf_38_27 rfl hl1 ?_
      replace h := obd_of h; obtain ⟨a8, rfl, h⟩ := h
      replace h := obd_of h; obtain ⟨a9, rfl, h⟩ := h
      replace h := obd_of h; obtain ⟨μ10, hμ10, h⟩ := h
      refine jr_aastore jf_38_28 hμ10 ?_
      refine jr_aload_n jf_38_29 rfl hl1 ?_
      refine jr_aload_n jf_38_30 rfl hl0 ?_
      replace h := obd_of h; obtain ⟨μ11, hμ11, h⟩ := h
      refine jr_putA (x := some _) jf_38_31 rfl hμ11 ?_
      refine jr_aload_n jf_38_34 rfl hl1 ?_
      refine jr_aload_n jf_38_35 rfl hl0 ?_
      replace h := obd_of h; obtain ⟨x12, hx12, h⟩ := h
      refine jr_getI jf_38_36 hx12 ?_
      replace h := obd_of h; obtain ⟨μ13, hμ13, h⟩ := h
      refine jr_putI jf_38_39 rfl hμ13 ?_
      refine jr_aload_n jf_38_42 rfl hl0 ?_
      refine jr_dup jf_38_43 rfl ?_
      replace h := obd_of h; obtain ⟨x14, hx14, h⟩ := h
      refine jr_getI jf_38_44 hx14 ?_
      refine jr_iconst jf_38_47 jc_i_1 ?_
      refine jr_iadd jf_38_48 ?_
      replace h := obd_of h; obtain ⟨μ15, hμ15, h⟩ := h
      refine jr_putI jf_38_49 rfl hμ15 ?_
      obtain rfl := Option.some.inj h
      exact jr_return jf_38_52 jmt_38
set_option maxRecDepth 10000 in
set_option maxHeartbeats 4000000 in
theorem r_Chain_join {B : Nat} {SA : Nat → Nat} {d : Nat} (hd : 0 ≤ d) : ∀ (v0 : Nat) (v1 : Option Nat) (μ : JMem) (μ9 : JMem), g_Chain_join B v0 v1 μ = some μ9 → jR B SA d m_Chain_join 0 (lv_args 0 [.ref v0, rv v1]) [] μ none μ9 := by
  intro v0 v1 μ μ9 h
  exact r_Chain_join_e hd (lv_args 0 _) _ _ _ _ (by simp [lv_args, jget, rv_cat, cat_int, cat_long, cat_double, cat_float, cat_ref]) (by simp [lv_args, jget, rv_cat, cat_int, cat_long, cat_double, cat_float, cat_ref]) h
/-! FilterBench$Chain.memberAt(I)LFilterBench$Section; -/
set_option maxRecDepth 10000 in
set_option maxHeartbeats 4000000 in
theorem r_Chain_memberAt_21 {B : Nat} {SA : Nat → Nat} {d : Nat} (hd : 0 ≤ d) : ∀ (L : JLoc) (μ : JMem) (r : Option Nat), g_Chain_memberAt_21 μ.1 = some r → jR B SA d m_Chain_memberAt 21 L [] μ (some (rv r)) μ := by
  intro L μ r h
  unfold g_Chain_memberAt_21 at h
  refine jr_aconst_null jf_35_21 ?_
  refine jr_goto jf_35_22 ?_
  obtain rfl := Option.some.inj h
  exact jr_retA jf_35_31 jmt_35
set_option maxRecDepth 10000 in
set_option maxHeartbeats 4000000 in
theorem r_Chain_memberAt_e {B : Nat} {SA : Nat → Nat} {d : Nat} (hd : 0 ≤ d) : ∀ (L : JLoc) (v0 : Nat) (v1 : Int32) (μ : JMem) (r : Option Nat), jget L 0 = .ref v0 → jget L 1 = .int v1 → g_Chain_memberAt v0 v1 μ.1 = some r → jR B SA d m_Chain_memberAt 0 L [] μ (some (rv r)) μ := by
  intro L v0 v1 μ r hl0 hl1 h
  unfold g_Chain_memberAt at h
  refine jr_iload_n jf_35_0 rfl hl1 ?_
  replace h := ite_or h; rcases h with ⟨hc, h⟩ | ⟨hc, h⟩
  · refine jr_if_lt_t jf_35_1 hc ?_
    exact r_Chain_memberAt_21 hd _  _ _ h
  · refine jr_if_lt_f jf_35_1 hc ?_
    refine jr_iload_n jf_35_4 rfl hl1 ?_
    refine jr_aload_n jf_35_5 rfl hl0 ?_
    replace h := obd_of h; obtain ⟨x1, hx1, h⟩ := h
    refine jr_getI jf_35_6 hx1 ?_
    replace h := ite_or h; rcases h with ⟨hc, h⟩ | ⟨hc, h⟩
    · refine jr_if2_ge_t jf_35_9 hc ?_
      exact r_Chain_memberAt_21 hd _  _ _ h
    · refine jr_if2_ge_f jf_35_9 hc ?_
      refine jr_iload_n jf_35_12 rfl hl1 ?_
      refine jr_aload_n jf_35_13 rfl hl0 ?_
      replace h := obd_of h; obtain ⟨x2, hx2, h⟩ := h
      refine jr_getA jf_35_14 hx2 ?_
      replace h := obd_of h; obtain ⟨a3, rfl, h⟩ := h
      replace h := obd_of h; obtain ⟨x4, hx4, h⟩ := h
      refine jr_arraylength jf_35_17 hx4 ?_
      replace h := ite_or h; rcases h with ⟨hc, h⟩ | ⟨hc, h⟩
      · refine jr_if2_lt_t jf_35_18 hc ?_
        refine jr_aload_n jf_35_25 rfl hl0 ?_
        replace h := obd_of h; obtain ⟨x5, hx5, h⟩ := h
        refine jr_getA jf_35_26 hx5 ?_
        refine jr_iload_n jf_35_29 rfl hl1 ?_
        replace h := obd_of h; obtain ⟨a6, rfl, h⟩ := h
        replace h := obd_of h; obtain ⟨x7, hx7, h⟩ := h
        refine jr_aaload jf_35_30 hx7 ?_
        obtain rfl := Option.some.inj h
        exact jr_retA jf_35_31 jmt_35
      · refine jr_if2_lt_f jf_35_18 hc ?_
        exact r_Chain_memberAt_21 hd _  _ _ h
set_option maxRecDepth 10000 in
set_option maxHeartbeats 4000000 in
theorem r_Chain_memberAt {B : Nat} {SA : Nat → Nat} {d : Nat} (hd : 0 ≤ d) : ∀ (v0 : Nat) (v1 : Int32) (μ : JMem) (r : Option Nat), g_Chain_memberAt v0 v1 μ.1 = some r → jR B SA d m_Chain_memberAt 0 (lv_args 0 [.ref v0, .int v1]) [] μ (some (rv r)) μ := by
  intro v0 v1 μ r h
  exact r_Chain_memberAt_e hd (lv_args 0 _) _ _ _ _ (by simp [lv_args, jget, rv_cat, cat_int, cat_long, cat_double, cat_float, cat_ref]) (by simp [lv_args, jget, rv_cat, cat_int, cat_long, cat_double, cat_float, cat_ref]) h
/-! FilterBench$Chain.sort()I -/
set_option maxRecDepth 10000 in
set_option maxHeartbeats 4000000 in
theorem r_Chain_sort_e {B : Nat} {SA : Nat → Nat} {d : Nat} (hd : 1 ≤ d) : ∀ (L : JLoc) (v0 : Nat) (μ : JMem) (r : Int32), jget L 0 = .ref v0 → g_Chain_sort v0 μ.1 = some r → jR B SA d m_Chain_sort 0 L [] μ (some (.int r)) μ := by
  intro L v0 μ r hl0 h
  unfold g_Chain_sort at h
  refine jr_aload_n jf_34_0 rfl hl0 ?_
  refine jr_iconst jf_34_1 jc_i_0 ?_
  replace h := jgd_of h; obtain ⟨hb1, h⟩ := h
  replace h := obd_of h; obtain ⟨x2, hx2, h⟩ := h
  refine jr_V6_1 jf_34_2 hb1 (by omega) (r_Chain_memberAt (by omega) _ _ _ _ hx2) (Nat.le_of_ble_eq_true rfl) jml_35 (Nat.le_of_ble_eq_true rfl) ?_
  refine jr_astore_n_A jf_34_5 rfl jml_34 (by decide) ?_
  refine jr_aload_n_A jf_34_6 rfl jg1_same ?_
  replace h := jon_or h; rcases h with ⟨rfl, h⟩ | ⟨a3, rfl, h⟩
  · refine jr_ifnonnull_n jf_34_7 ?_
    refine jr_iconst jf_34_10 jc_i_m1 ?_
    refine jr_goto jf_34_11 ?_
    obtain rfl := Option.some.inj h
    exact jr_retI jf_34_18 jmt_34
  · refine jr_ifnonnull_s jf_34_7 ?_
    refine jr_aload_n jf_34_14 rfl jg1_same ?_
    replace h := obd_of h; obtain ⟨x4, hx4, h⟩ := h
    refine jr_getI jf_34_15 hx4 ?_
    obtain rfl := Option.some.inj h
    exact jr_retI jf_34_18 jmt_34
set_option maxRecDepth 10000 in
set_option maxHeartbeats 4000000 in
theorem r_Chain_sort {B : Nat} {SA : Nat → Nat} {d : Nat} (hd : 1 ≤ d) : ∀ (v0 : Nat) (μ : JMem) (r : Int32), g_Chain_sort v0 μ.1 = some r → jR B SA d m_Chain_sort 0 (lv_args 0 [.ref v0]) [] μ (some (.int r)) μ := by
  intro v0 μ r h
  exact r_Chain_sort_e hd (lv_args 0 _) _ _ _ (by simp [lv_args, jget, rv_cat, cat_int, cat_long, cat_double, cat_float, cat_ref]) h
/-! FilterBench$Section.spreads()Z -/
set_option maxRecDepth 10000 in
set_option maxHeartbeats 4000000 in
theorem r_Section_spreads_18 {B : Nat} {SA : Nat → Nat} {d : Nat} (hd : 0 ≤ d) : ∀ (L : JLoc) (μ : JMem) (r : Bool), g_Section_spreads_18 μ.1 = some r → jR B SA d m_Section_spreads 18 L [] μ (some (.int (jb r))) μ := by
  intro L μ r h
  unfold g_Section_spreads_18 at h
  refine jr_iconst jf_36_18 jc_i_1 ?_
  refine jr_goto jf_36_19 ?_
  obtain rfl := Option.some.inj h
  exact jr_retZ (x := true) jf_36_23 jmt_36
set_option maxRecDepth 10000 in
set_option maxHeartbeats 4000000 in
theorem r_Section_spreads_e {B : Nat} {SA : Nat → Nat} {d : Nat} (hd : 0 ≤ d) : ∀ (L : JLoc) (v0 : Nat) (μ : JMem) (r : Bool), jget L 0 = .ref v0 → g_Section_spreads v0 μ.1 = some r → jR B SA d m_Section_spreads 0 L [] μ (some (.int (jb r))) μ := by
  intro L v0 μ r hl0 h
  unfold g_Section_spreads at h
  refine jr_aload_n jf_36_0 rfl hl0 ?_
  replace h := obd_of h; obtain ⟨x1, hx1, h⟩ := h
  refine jr_getI jf_36_1 hx1 ?_
  refine jr_bipush jf_36_4 jc_b_13 ?_
  replace h := ite_or h; rcases h with ⟨hc, h⟩ | ⟨hc, h⟩
  · refine jr_if2_eq_t jf_36_6 hc ?_
    exact r_Section_spreads_18 hd _  _ _ h
  · refine jr_if2_eq_f jf_36_6 hc ?_
    refine jr_aload_n jf_36_9 rfl hl0 ?_
    replace h := obd_of h; obtain ⟨x2, hx2, h⟩ := h
    refine jr_getI jf_36_10 hx2 ?_
    refine jr_bipush jf_36_13 jc_b_14 ?_
    replace h := ite_or h; rcases h with ⟨hc, h⟩ | ⟨hc, h⟩
    · refine jr_if2_ne_f jf_36_15 hc ?_
      exact r_Section_spreads_18 hd _  _ _ h
    · refine jr_if2_ne_t jf_36_15 hc ?_
      refine jr_iconst jf_36_22 jc_i_0 ?_
      obtain rfl := Option.some.inj h
      exact jr_retZ (x := false) jf_36_23 jmt_36
set_option maxRecDepth 10000 in
set_option maxHeartbeats 4000000 in
theorem r_Section_spreads {B : Nat} {SA : Nat → Nat} {d : Nat} (hd : 0 ≤ d) : ∀ (v0 : Nat) (μ : JMem) (r : Bool), g_Section_spreads v0 μ.1 = some r → jR B SA d m_Section_spreads 0 (lv_args 0 [.ref v0]) [] μ (some (.int (jb r))) μ := by
  intro v0 μ r h
  exact r_Section_spreads_e hd (lv_args 0 _) _ _ _ (by simp [lv_args, jget, rv_cat, cat_int, cat_long, cat_double, cat_float, cat_ref]) h
/-! FilterBench$Chain.spreaders()I -/
set_option maxRecDepth 10000 in
set_option maxHeartbeats 4000000 in
theorem r_Chain_spreaders_35 {N B : Nat} {SA : Nat → Nat} {d : Nat} (hd : 1 ≤ d) {k4 : Nat → Int32 → Int32 → (Nat → Option JCell) → Option Int32} (i4 : ∀ (L : JLoc) (v0 : Nat) (v1 : Int32) (v2 : Int32) (μ : JMem) (r : Int32), jget L 0 = .ref v0 → jget L 1 = .int v1 → jget L 2 = .int v2 → k4 v0 v1 v2 μ.1 = some r → jR B SA d m_Chain_spreaders 4 L [] μ (some (.int r)) μ) : ∀ (L : JLoc) (v0 : Nat) (v2 : Int32) (s0 : Bool) (s1 : Int32) (μ : JMem) (r : Int32), jget L 0 = .ref v0 → jget L 2 = .int v2 → g_Chain_spreaders_35 N k4 v0 v2 s0 s1 μ.1 = some r → jR B SA d m_Chain_spreaders 35 L [.int (jb s0), .int s1] μ (some (.int r)) μ := by
  intro L v0 v2 s0 s1 μ r hl0 hl2 h
  unfold g_Chain_spreaders_35 at h
  refine jr_iadd jf_37_35 ?_
  refine jr_istore_n jf_37_36 rfl jml_37 (by decide) ?_
  refine jr_iinc jf_37_37 jc_i_1 jml_37 (by decide) (jg1_ne rfl hl2) ?_
  refine jr_goto jf_37_40 ?_
  exact i4 _ _ _ _ _ _ (jg1_ne rfl (jg1_pre (by first | rfl | exact rv_cat _) hl0)) (jg1_pre rfl jg1_same) jg1_same h
set_option maxRecDepth 10000 in
set_option maxHeartbeats 4000000 in
theorem r_Chain_spreaders_34 {N B : Nat} {SA : Nat → Nat} {d : Nat} (hd : 1 ≤ d) {k4 : Nat → Int32 → Int32 → (Nat → Option JCell) → Option Int32} (i4 : ∀ (L : JLoc) (v0 : Nat) (v1 : Int32) (v2 : Int32) (μ : JMem) (r : Int32), jget L 0 = .ref v0 → jget L 1 = .int v1 → jget L 2 = .int v2 → k4 v0 v1 v2 μ.1 = some r → jR B SA d m_Chain_spreaders 4 L [] μ (some (.int r)) μ) : ∀ (L : JLoc) (v0 : Nat) (v2 : Int32) (s0 : Int32) (μ : JMem) (r : Int32), jget L 0 = .ref v0 → jget L 2 = .int v2 → g_Chain_spreaders_34 N k4 v0 v2 s0 μ.1 = some r → jR B SA d m_Chain_spreaders 34 L [.int s0] μ (some (.int r)) μ := by
  intro L v0 v2 s0 μ r hl0 hl2 h
  unfold g_Chain_spreaders_34 at h
  refine jr_iconst jf_37_34 jc_i_0 ?_
  exact r_Chain_spreaders_35 hd i4 _ _ _ false _ _ _ hl0 hl2 h
set_option maxRecDepth 10000 in
set_option maxHeartbeats 4000000 in
theorem r_Chain_spreaders_4 {N B : Nat} {SA : Nat → Nat} {d : Nat} (hd : 1 ≤ d) : ∀ (n : Nat), ∀ (L : JLoc) (v0 : Nat) (v1 : Int32) (v2 : Int32) (μ : JMem) (r : Int32), jget L 0 = .ref v0 → jget L 1 = .int v1 → jget L 2 = .int v2 → g_Chain_spreaders_4 N n v0 v1 v2 μ.1 = some r → jR B SA d m_Chain_spreaders 4 L [] μ (some (.int r)) μ := by
  intro n
  induction n with
  | zero =>
    intro L v0 v1 v2 μ r hl0 hl1 hl2 h
    unfold g_Chain_spreaders_4 at h
    cases h
  | succ n ih =>
    intro L v0 v1 v2 μ r hl0 hl1 hl2 h
    unfold g_Chain_spreaders_4 at h
    refine jr_iload_n jf_37_4 rfl hl2 ?_
    refine jr_aload_n jf_37_5 rfl hl0 ?_
    replace h := obd_of h; obtain ⟨x1, hx1, h⟩ := h
    refine jr_getI jf_37_6 hx1 ?_
    replace h := ite_or h; rcases h with ⟨hc, h⟩ | ⟨hc, h⟩
    · refine jr_if2_ge_t jf_37_9 hc ?_
      refine jr_iload_n jf_37_43 rfl hl1 ?_
      obtain rfl := Option.some.inj h
      exact jr_retI jf_37_44 jmt_37
    · refine jr_if2_ge_f jf_37_9 hc ?_
      refine jr_aload_n jf_37_12 rfl hl0 ?_
      refine jr_iload_n jf_37_13 rfl hl2 ?_
      replace h := jgd_of h; obtain ⟨hb2, h⟩ := h
      replace h := obd_of h; obtain ⟨x3, hx3, h⟩ := h
      refine jr_V6_1 jf_37_14 hb2 (by omega) (r_Chain_memberAt (by omega) _ _ _ _ hx3) (Nat.le_of_ble_eq_true rfl) jml_35 (Nat.le_of_ble_eq_true rfl) ?_
      refine jr_astore_n_A jf_37_17 rfl jml_37 (by decide) ?_
      refine jr_iload_n jf_37_18 rfl (jg1_ne rfl hl1) ?_
      refine jr_aload_n_A jf_37_19 rfl jg1_same ?_
      replace h := jon_or h; rcases h with ⟨rfl, h⟩ | ⟨a4, rfl, h⟩
      · refine jr_ifnull_n jf_37_20 ?_
        exact r_Chain_spreaders_34 hd ih _ _ _ _ _ _ (jg1_ne rfl hl0) (jg1_pre rfl hl2) h
      · refine jr_ifnull_s jf_37_20 ?_
        refine jr_aload_n jf_37_23 rfl jg1_same ?_
        replace h := jgd_of h; obtain ⟨hb5, h⟩ := h
        replace h := obd_of h; obtain ⟨x6, hx6, h⟩ := h
        refine jr_V6_0 jf_37_24 hb5 (by omega) (r_Section_spreads (by omega) _ _ _ hx6) (Nat.le_of_ble_eq_true rfl) jml_36 (Nat.le_of_ble_eq_true rfl) ?_
        replace h := ite_or h; rcases h with ⟨hc, h⟩ | ⟨hc, h⟩
        · refine jr_ifz_eq_f jf_37_27 hc ?_
          refine jr_iconst jf_37_30 jc_i_1 ?_
          refine jr_goto jf_37_31 ?_
          exact r_Chain_spreaders_35 hd ih _ _ _ true _ _ _ (jg1_ne rfl hl0) (jg1_pre rfl hl2) h
        · refine jr_ifz_eq_t jf_37_27 hc ?_
          exact r_Chain_spreaders_34 hd ih _ _ _ _ _ _ (jg1_ne rfl hl0) (jg1_pre rfl hl2) h
set_option maxRecDepth 10000 in
set_option maxHeartbeats 4000000 in
theorem r_Chain_spreaders_e {N B : Nat} {SA : Nat → Nat} {d : Nat} (hd : 1 ≤ d) : ∀ (L : JLoc) (v0 : Nat) (μ : JMem) (r : Int32), jget L 0 = .ref v0 → g_Chain_spreaders N v0 μ.1 = some r → jR B SA d m_Chain_spreaders 0 L [] μ (some (.int r)) μ := by
  intro L v0 μ r hl0 h
  unfold g_Chain_spreaders at h
  refine jr_iconst jf_37_0 jc_i_0 ?_
  refine jr_istore_n jf_37_1 rfl jml_37 (by decide) ?_
  refine jr_iconst jf_37_2 jc_i_0 ?_
  refine jr_istore_n jf_37_3 rfl jml_37 (by decide) ?_
  exact r_Chain_spreaders_4 hd _ _ _ _ _ _ _ (jg1_ne rfl (jg1_pre (by first | rfl | exact rv_cat _) hl0)) (jg1_pre rfl jg1_same) jg1_same h
set_option maxRecDepth 10000 in
set_option maxHeartbeats 4000000 in
theorem r_Chain_spreaders {N B : Nat} {SA : Nat → Nat} {d : Nat} (hd : 1 ≤ d) : ∀ (v0 : Nat) (μ : JMem) (r : Int32), g_Chain_spreaders N v0 μ.1 = some r → jR B SA d m_Chain_spreaders 0 (lv_args 0 [.ref v0]) [] μ (some (.int r)) μ := by
  intro v0 μ r h
  exact r_Chain_spreaders_e hd (lv_args 0 _) _ _ _ (by simp [lv_args, jget, rv_cat, cat_int, cat_long, cat_double, cat_float, cat_ref]) h
/-! FilterBench.add(II)I -/
set_option maxRecDepth 10000 in
set_option maxHeartbeats 4000000 in
theorem r_B_add_87 {N B : Nat} {SA : Nat → Nat} {d : Nat} (hd : 2 ≤ d) : ∀ (L : JLoc) (v3 : Nat) (v4 : Nat) (μ : JMem) (r : Int32) (μ9 : JMem), jget L 3 = .ref v3 → jget L 4 = .ref v4 → g_B_add_87 N B v3 v4 μ = some (r, μ9) → jR B SA d m_B_add 87 L [] μ (some (.int r)) μ9 := by
  intro L v3 v4 μ r μ9 hl3 hl4 h
  unfold g_B_add_87 at h
  refine jr_aload_n jf_32_87 rfl hl3 ?_
  refine jr_aload jf_32_88 hl4 ?_
  replace h := jgd_of h; obtain ⟨hb1, h⟩ := h
  replace h := obd_of h; obtain ⟨μ2, hμ2, h⟩ := h
  refine jr_V6v_1 jf_32_90 hb1 (by omega) (r_Chain_join (by omega) _ _ _ _ hμ2) (Nat.le_of_ble_eq_true rfl) jml_38 (by simp only [jcats_cons, jcats_nil, cat_int, cat_long, cat_double, cat_float, cat_ref, rv_cat]; decide) ?_
  refine jr_aload jf_32_93 hl4 ?_
  replace h := obd_of h; obtain ⟨x3, hx3, h⟩ := h
  refine jr_getI jf_32_95 hx3 ?_
  obtain ⟨rfl, rfl⟩ := Prod.mk.inj (Option.some.inj h)
  exact jr_retI jf_32_98 jmt_32
set_option maxRecDepth 10000 in
set_option maxHeartbeats 4000000 in
theorem r_B_add_69 {N B : Nat} {SA : Nat → Nat} {d : Nat} (hd : 2 ≤ d) : ∀ (L : JLoc) (v3 : Nat) (v4 : Nat) (μ : JMem) (r : Int32) (μ9 : JMem), jget L 3 = .ref v3 → jget L 4 = .ref v4 → g_B_add_69 N B v3 v4 μ = some (r, μ9) → jR B SA d m_B_add 69 L [] μ (some (.int r)) μ9 := by
  intro L v3 v4 μ r μ9 hl3 hl4 h
  unfold g_B_add_69 at h
  refine jr_aload jf_32_69 hl4 ?_
  replace h := jgd_of h; obtain ⟨hb1, h⟩ := h
  replace h := obd_of h; obtain ⟨x2, hx2, h⟩ := h
  refine jr_V6_0 jf_32_71 hb1 (by omega) (r_Section_spreads (by omega) _ _ _ hx2) (Nat.le_of_ble_eq_true rfl) jml_36 (Nat.le_of_ble_eq_true rfl) ?_
  replace h := ite_or h; rcases h with ⟨hc, h⟩ | ⟨hc, h⟩
  · refine jr_ifz_eq_f jf_32_74 hc ?_
    refine jr_aload_n jf_32_77 rfl hl3 ?_
    replace h := jgd_of h; obtain ⟨hb3, h⟩ := h
    replace h := obd_of h; obtain ⟨x4, hx4, h⟩ := h
    refine jr_V6_0 jf_32_78 hb3 (by omega) (r_Chain_spreaders (by omega) _ _ _ hx4) (Nat.le_of_ble_eq_true rfl) jml_37 (Nat.le_of_ble_eq_true rfl) ?_
    refine jr_iconst jf_32_81 jc_i_2 ?_
    replace h := ite_or h; rcases h with ⟨hc, h⟩ | ⟨hc, h⟩
    · refine jr_if2_lt_t jf_32_82 hc ?_
      exact r_B_add_87 hd _ _ _ _ _ _ hl3 hl4 h
    · refine jr_if2_lt_f jf_32_82 hc ?_
      refine jr_iconst jf_32_85 jc_i_m1 ?_
      obtain ⟨rfl, rfl⟩ := Prod.mk.inj (Option.some.inj h)
      exact jr_retI jf_32_86 jmt_32
  · refine jr_ifz_eq_t jf_32_74 hc ?_
    exact r_B_add_87 hd _ _ _ _ _ _ hl3 hl4 h
set_option maxRecDepth 10000 in
set_option maxHeartbeats 4000000 in
theorem r_B_add_e {N B : Nat} {SA : Nat → Nat} {d : Nat} (hd : 2 ≤ d) : ∀ (L : JLoc) (v0 : Nat) (v1 : Int32) (v2 : Int32) (μ : JMem) (r : Int32) (μ9 : JMem), jget L 0 = .ref v0 → jget L 1 = .int v1 → jget L 2 = .int v2 → g_B_add N B v0 v1 v2 μ = some (r, μ9) → jR B SA d m_B_add 0 L [] μ (some (.int r)) μ9 := by
  intro L v0 v1 v2 μ r μ9 hl0 hl1 hl2 h
  unfold g_B_add at h
  refine jr_aload_n jf_32_0 rfl hl0 ?_
  refine jr_iload_n jf_32_1 rfl hl1 ?_
  replace h := jgd_of h; obtain ⟨hb1, h⟩ := h
  replace h := obd_of h; obtain ⟨x2, hx2, h⟩ := h
  refine jr_V6_1 jf_32_2 hb1 (by omega) (r_B_chainAt (by omega) _ _ _ _ hx2) (Nat.le_of_ble_eq_true rfl) jml_33 (Nat.le_of_ble_eq_true rfl) ?_
  refine jr_astore_n_A jf_32_5 rfl jml_32 (by decide) ?_
  refine jr_aload_n jf_32_6 rfl (jg1_ne rfl hl0) ?_
  refine jr_iload_n jf_32_7 rfl (jg1_pre rfl hl2) ?_
  replace h := jgd_of h; obtain ⟨hb3, h⟩ := h
  replace h := obd_of h; obtain ⟨x4, hx4, h⟩ := h
  refine jr_V6_1 jf_32_8 hb3 (by omega) (r_B_sectionAt (by omega) _ _ _ _ hx4) (Nat.le_of_ble_eq_true rfl) jml_13 (Nat.le_of_ble_eq_true rfl) ?_
  refine jr_astore_A jf_32_11 jml_32 (by decide) ?_
  refine jr_aload_n_A jf_32_13 rfl (jg1_pre (by first | rfl | exact rv_cat _) jg1_same) ?_
  replace h := jon_or h; rcases h with ⟨rfl, h⟩ | ⟨a5, rfl, h⟩
  · refine jr_ifnull_n jf_32_14 ?_
    refine jr_iconst jf_32_37 jc_i_m1 ?_
    obtain ⟨rfl, rfl⟩ := Prod.mk.inj (Option.some.inj h)
    exact jr_retI jf_32_38 jmt_32
  · refine jr_ifnull_s jf_32_14 ?_
    refine jr_aload_A jf_32_17 jg1_same ?_
    replace h := jon_or h; rcases h with ⟨rfl, h⟩ | ⟨a6, rfl, h⟩
    · refine jr_ifnull_n jf_32_19 ?_
      refine jr_iconst jf_32_37 jc_i_m1 ?_
      obtain ⟨rfl, rfl⟩ := Prod.mk.inj (Option.some.inj h)
      exact jr_retI jf_32_38 jmt_32
    · refine jr_ifnull_s jf_32_19 ?_
      refine jr_aload jf_32_22 jg1_same ?_
      replace h := obd_of h; obtain ⟨x7, hx7, h⟩ := h
      refine jr_getA jf_32_24 hx7 ?_
      replace h := jon_or h; rcases h with ⟨rfl, h⟩ | ⟨a8, rfl, h⟩
      · refine jr_ifnonnull_n jf_32_27 ?_
        refine jr_aload_n jf_32_30 rfl (jg1_pre (by first | rfl | exact rv_cat _) jg1_same) ?_
        replace h := obd_of h; obtain ⟨x9, hx9, h⟩ := h
        refine jr_getA jf_32_31 hx9 ?_
        replace h := jon_or h; rcases h with ⟨rfl, h⟩ | ⟨a10, rfl, h⟩
        · refine jr_ifnull_n jf_32_34 ?_
          refine jr_aload_n jf_32_39 rfl (jg1_pre (by first | rfl | exact rv_cat _) jg1_same) ?_
          replace h := obd_of h; obtain ⟨x11, hx11, h⟩ := h
          refine jr_getI jf_32_40 hx11 ?_
          refine jr_bipush jf_32_43 jc_b_10 ?_
          replace h := ite_or h; rcases h with ⟨hc, h⟩ | ⟨hc, h⟩
          · refine jr_if2_ge_t jf_32_45 hc ?_
            refine jr_iconst jf_32_67 jc_i_m1 ?_
            obtain ⟨rfl, rfl⟩ := Prod.mk.inj (Option.some.inj h)
            exact jr_retI jf_32_68 jmt_32
          · refine jr_if2_ge_f jf_32_45 hc ?_
            refine jr_aload_n jf_32_48 rfl (jg1_pre (by first | rfl | exact rv_cat _) jg1_same) ?_
            replace h := obd_of h; obtain ⟨x12, hx12, h⟩ := h
            refine jr_getI jf_32_49 hx12 ?_
            replace h := ite_or h; rcases h with ⟨hc, h⟩ | ⟨hc, h⟩
            · refine jr_if_le_t jf_32_52 hc ?_
              exact r_B_add_69 hd _ _ _ _ _ _ (jg1_pre (by first | rfl | exact rv_cat _) jg1_same) jg1_same h
            · refine jr_if_le_f jf_32_52 hc ?_
              refine jr_aload_n jf_32_55 rfl (jg1_pre (by first | rfl | exact rv_cat _) jg1_same) ?_
              replace h := jgd_of h; obtain ⟨hb13, h⟩ := h
              replace h := obd_of h; obtain ⟨x14, hx14, h⟩ := h
              refine jr_V6_0 jf_32_56 hb13 (by omega) (r_Chain_sort (by omega) _ _ _ hx14) (Nat.le_of_ble_eq_true rfl) jml_34 (Nat.le_of_ble_eq_true rfl) ?_
              refine jr_aload jf_32_59 jg1_same ?_
              replace h := obd_of h; obtain ⟨x15, hx15, h⟩ := h
              refine jr_getI jf_32_61 hx15 ?_
              replace h := ite_or h; rcases h with ⟨hc, h⟩ | ⟨hc, h⟩
              · refine jr_if2_eq_t jf_32_64 hc ?_
                exact r_B_add_69 hd _ _ _ _ _ _ (jg1_pre (by first | rfl | exact rv_cat _) jg1_same) jg1_same h
              · refine jr_if2_eq_f jf_32_64 hc ?_
                refine jr_iconst jf_32_67 jc_i_m1 ?_
                obtain ⟨rfl, rfl⟩ := Prod.mk.inj (Option.some.inj h)
                exact jr_retI jf_32_68 jmt_32
        · refine jr_ifnull_s jf_32_34 ?_
          refine jr_iconst jf_32_37 jc_i_m1 ?_
          obtain ⟨rfl, rfl⟩ := Prod.mk.inj (Option.some.inj h)
          exact jr_retI jf_32_38 jmt_32
      · refine jr_ifnonnull_s jf_32_27 ?_
        refine jr_iconst jf_32_37 jc_i_m1 ?_
        obtain ⟨rfl, rfl⟩ := Prod.mk.inj (Option.some.inj h)
        exact jr_retI jf_32_38 jmt_32
set_option maxRecDepth 10000 in
set_option maxHeartbeats 4000000 in
theorem r_B_add {N B : Nat} {SA : Nat → Nat} {d : Nat} (hd : 2 ≤ d) : ∀ (v0 : Nat) (v1 : Int32) (v2 : Int32) (μ : JMem) (r : Int32) (μ9 : JMem), g_B_add N B v0 v1 v2 μ = some (r, μ9) → jR B SA d m_B_add 0 (lv_args 0 [.ref v0, .int v1, .int v2]) [] μ (some (.int r)) μ9 := by
  intro v0 v1 v2 μ r μ9 h
  exact r_B_add_e hd (lv_args 0 _) _ _ _ _ _ _ (by simp [lv_args, jget, rv_cat, cat_int, cat_long, cat_double, cat_float, cat_ref]) (by simp [lv_args, jget, rv_cat, cat_int, cat_long, cat_double, cat_float, cat_ref]) (by simp [lv_args, jget, rv_cat, cat_int, cat_long, cat_double, cat_float, cat_ref]) h
/-! FilterBench$Section.changesRate()Z -/
set_option maxRecDepth 10000 in
set_option maxHeartbeats 4000000 in
theorem r_Section_changesRate_16 {B : Nat} {SA : Nat → Nat} {d : Nat} (hd : 1 ≤ d) : ∀ (L : JLoc) (μ : JMem) (r : Bool), g_Section_changesRate_16 μ.1 = some r → jR B SA d m_Section_changesRate 16 L [] μ (some (.int (jb r))) μ := by
  intro L μ r h
  unfold g_Section_changesRate_16 at h
  refine jr_iconst jf_41_16 jc_i_1 ?_
  refine jr_goto jf_41_17 ?_
  obtain rfl := Option.some.inj h
  exact jr_retZ (x := true) jf_41_21 jmt_41
set_option maxRecDepth 10000 in
set_option maxHeartbeats 4000000 in
theorem r_Section_changesRate_e {B : Nat} {SA : Nat → Nat} {d : Nat} (hd : 1 ≤ d) : ∀ (L : JLoc) (v0 : Nat) (μ : JMem) (r : Bool), jget L 0 = .ref v0 → g_Section_changesRate v0 μ.1 = some r → jR B SA d m_Section_changesRate 0 L [] μ (some (.int (jb r))) μ := by
  intro L v0 μ r hl0 h
  unfold g_Section_changesRate at h
  refine jr_aload_n jf_41_0 rfl hl0 ?_
  replace h := obd_of h; obtain ⟨x1, hx1, h⟩ := h
  refine jr_getI jf_41_1 hx1 ?_
  refine jr_bipush jf_41_4 jc_b_12 ?_
  replace h := ite_or h; rcases h with ⟨hc, h⟩ | ⟨hc, h⟩
  · refine jr_if2_eq_t jf_41_6 hc ?_
    exact r_Section_changesRate_16 hd _  _ _ h
  · refine jr_if2_eq_f jf_41_6 hc ?_
    refine jr_aload_n jf_41_9 rfl hl0 ?_
    replace h := jgd_of h; obtain ⟨hb2, h⟩ := h
    replace h := obd_of h; obtain ⟨x3, hx3, h⟩ := h
    refine jr_V6_0 jf_41_10 hb2 (by omega) (r_Section_spreads (by omega) _ _ _ hx3) (Nat.le_of_ble_eq_true rfl) jml_36 (Nat.le_of_ble_eq_true rfl) ?_
    replace h := ite_or h; rcases h with ⟨hc, h⟩ | ⟨hc, h⟩
    · refine jr_ifz_eq_f jf_41_13 hc ?_
      exact r_Section_changesRate_16 hd _  _ _ h
    · refine jr_ifz_eq_t jf_41_13 hc ?_
      refine jr_iconst jf_41_20 jc_i_0 ?_
      obtain rfl := Option.some.inj h
      exact jr_retZ (x := false) jf_41_21 jmt_41
set_option maxRecDepth 10000 in
set_option maxHeartbeats 4000000 in
theorem r_Section_changesRate {B : Nat} {SA : Nat → Nat} {d : Nat} (hd : 1 ≤ d) : ∀ (v0 : Nat) (μ : JMem) (r : Bool), g_Section_changesRate v0 μ.1 = some r → jR B SA d m_Section_changesRate 0 (lv_args 0 [.ref v0]) [] μ (some (.int (jb r))) μ := by
  intro v0 μ r h
  exact r_Section_changesRate_e hd (lv_args 0 _) _ _ _ (by simp [lv_args, jget, rv_cat, cat_int, cat_long, cat_double, cat_float, cat_ref]) h
/-! FilterBench$Chain.changesRate(II)Z -/
set_option maxRecDepth 10000 in
set_option maxHeartbeats 4000000 in
theorem r_Chain_changesRate_45 {N B : Nat} {SA : Nat → Nat} {d : Nat} (hd : 2 ≤ d) {k10 : Nat → Int32 → Int32 → (Nat → Option JCell) → Option Bool} (i10 : ∀ (L : JLoc) (v0 : Nat) (v2 : Int32) (v3 : Int32) (μ : JMem) (r : Bool), jget L 0 = .ref v0 → jget L 2 = .int v2 → jget L 3 = .int v3 → k10 v0 v2 v3 μ.1 = some r → jR B SA d m_Chain_changesRate 10 L [] μ (some (.int (jb r))) μ) : ∀ (L : JLoc) (v0 : Nat) (v2 : Int32) (v3 : Int32) (μ : JMem) (r : Bool), jget L 0 = .ref v0 → jget L 2 = .int v2 → jget L 3 = .int v3 → g_Chain_changesRate_45 N k10 v0 v2 v3 μ.1 = some r → jR B SA d m_Chain_changesRate 45 L [] μ (some (.int (jb r))) μ := by
  intro L v0 v2 v3 μ r hl0 hl2 hl3 h
  unfold g_Chain_changesRate_45 at h
  refine jr_iinc jf_40_45 jc_i_1 jml_40 (by decide) hl3 ?_
  refine jr_goto jf_40_48 ?_
  exact i10 _ _ _ _ _ _ (jg1_ne rfl hl0) (jg1_pre rfl hl2) jg1_same h
set_option maxRecDepth 10000 in
set_option maxHeartbeats 4000000 in
theorem r_Chain_changesRate_10 {N B : Nat} {SA : Nat → Nat} {d : Nat} (hd : 2 ≤ d) : ∀ (n : Nat), ∀ (L : JLoc) (v0 : Nat) (v2 : Int32) (v3 : Int32) (μ : JMem) (r : Bool), jget L 0 = .ref v0 → jget L 2 = .int v2 → jget L 3 = .int v3 → g_Chain_changesRate_10 N n v0 v2 v3 μ.1 = some r → jR B SA d m_Chain_changesRate 10 L [] μ (some (.int (jb r))) μ := by
  intro n
  induction n with
  | zero =>
    intro L v0 v2 v3 μ r hl0 hl2 hl3 h
    unfold g_Chain_changesRate_10 at h
    cases h
  | succ n ih =>
    intro L v0 v2 v3 μ r hl0 hl2 hl3 h
    unfold g_Chain_changesRate_10 at h
    refine jr_iload_n jf_40_10 rfl hl3 ?_
    refine jr_iload_n jf_40_11 rfl hl2 ?_
    replace h := ite_or h; rcases h with ⟨hc, h⟩ | ⟨hc, h⟩
    · refine jr_if2_gt_t jf_40_12 hc ?_
      refine jr_iconst jf_40_51 jc_i_0 ?_
      obtain rfl := Option.some.inj h
      exact jr_retZ (x := false) jf_40_52 jmt_40
    · refine jr_if2_gt_f jf_40_12 hc ?_
      refine jr_iload_n jf_40_15 rfl hl3 ?_
      refine jr_aload_n jf_40_16 rfl hl0 ?_
      replace h := obd_of h; obtain ⟨x1, hx1, h⟩ := h
      refine jr_getI jf_40_17 hx1 ?_
      replace h := ite_or h; rcases h with ⟨hc, h⟩ | ⟨hc, h⟩
      · refine jr_if2_ge_t jf_40_20 hc ?_
        refine jr_iconst jf_40_51 jc_i_0 ?_
        obtain rfl := Option.some.inj h
        exact jr_retZ (x := false) jf_40_52 jmt_40
      · refine jr_if2_ge_f jf_40_20 hc ?_
        refine jr_aload_n jf_40_23 rfl hl0 ?_
        refine jr_iload_n jf_40_24 rfl hl3 ?_
        replace h := jgd_of h; obtain ⟨hb2, h⟩ := h
        replace h := obd_of h; obtain ⟨x3, hx3, h⟩ := h
        refine jr_V6_1 jf_40_25 hb2 (by omega) (r_Chain_memberAt (by omega) _ _ _ _ hx3) (Nat.le_of_ble_eq_true rfl) jml_35 (Nat.le_of_ble_eq_true rfl) ?_
        refine jr_astore_A jf_40_28 jml_40 (by decide) ?_
        refine jr_aload_A jf_40_30 jg1_same ?_
        replace h := jon_or h; rcases h with ⟨rfl, h⟩ | ⟨a4, rfl, h⟩
        · refine jr_ifnull_n jf_40_32 ?_
          exact r_Chain_changesRate_45 hd ih _ _ _ _ _ _ (jg1_ne rfl hl0) (jg1_ne rfl hl2) (jg1_pre rfl hl3) h
        · refine jr_ifnull_s jf_40_32 ?_
          refine jr_aload jf_40_35 jg1_same ?_
          replace h := jgd_of h; obtain ⟨hb5, h⟩ := h
          replace h := obd_of h; obtain ⟨x6, hx6, h⟩ := h
          refine jr_V6_0 jf_40_37 hb5 (by omega) (r_Section_changesRate (by omega) _ _ _ hx6) (Nat.le_of_ble_eq_true rfl) jml_41 (Nat.le_of_ble_eq_true rfl) ?_
          replace h := ite_or h; rcases h with ⟨hc, h⟩ | ⟨hc, h⟩
          · refine jr_ifz_eq_f jf_40_40 hc ?_
            refine jr_iconst jf_40_43 jc_i_1 ?_
            obtain rfl := Option.some.inj h
            exact jr_retZ (x := true) jf_40_44 jmt_40
          · refine jr_ifz_eq_t jf_40_40 hc ?_
            exact r_Chain_changesRate_45 hd ih _ _ _ _ _ _ (jg1_ne rfl hl0) (jg1_ne rfl hl2) (jg1_pre rfl hl3) h
set_option maxRecDepth 10000 in
set_option maxHeartbeats 4000000 in
theorem r_Chain_changesRate_9 {N B : Nat} {SA : Nat → Nat} {d : Nat} (hd : 2 ≤ d) : ∀ (L : JLoc) (v0 : Nat) (v2 : Int32) (s0 : Int32) (μ : JMem) (r : Bool), jget L 0 = .ref v0 → jget L 2 = .int v2 → g_Chain_changesRate_9 N v0 v2 s0 μ.1 = some r → jR B SA d m_Chain_changesRate 9 L [.int s0] μ (some (.int (jb r))) μ := by
  intro L v0 v2 s0 μ r hl0 hl2 h
  unfold g_Chain_changesRate_9 at h
  refine jr_istore_n jf_40_9 rfl jml_40 (by decide) ?_
  exact r_Chain_changesRate_10 hd _ _ _ _ _ _ _ (jg1_ne rfl hl0) (jg1_pre rfl hl2) jg1_same h
set_option maxRecDepth 10000 in
set_option maxHeartbeats 4000000 in
theorem r_Chain_changesRate_e {N B : Nat} {SA : Nat → Nat} {d : Nat} (hd : 2 ≤ d) : ∀ (L : JLoc) (v0 : Nat) (v1 : Int32) (v2 : Int32) (μ : JMem) (r : Bool), jget L 0 = .ref v0 → jget L 1 = .int v1 → jget L 2 = .int v2 → g_Chain_changesRate N v0 v1 v2 μ.1 = some r → jR B SA d m_Chain_changesRate 0 L [] μ (some (.int (jb r))) μ := by
  intro L v0 v1 v2 μ r hl0 hl1 hl2 h
  unfold g_Chain_changesRate at h
  refine jr_iload_n jf_40_0 rfl hl1 ?_
  replace h := ite_or h; rcases h with ⟨hc, h⟩ | ⟨hc, h⟩
  · refine jr_if_ge_t jf_40_1 hc ?_
    refine jr_iload_n jf_40_8 rfl hl1 ?_
    exact r_Chain_changesRate_9 hd _ _ _ _ _ _ hl0 hl2 h
  · refine jr_if_ge_f jf_40_1 hc ?_
    refine jr_iconst jf_40_4 jc_i_0 ?_
    refine jr_goto jf_40_5 ?_
    exact r_Chain_changesRate_9 hd _ _ _ _ _ _ hl0 hl2 h
set_option maxRecDepth 10000 in
set_option maxHeartbeats 4000000 in
theorem r_Chain_changesRate {N B : Nat} {SA : Nat → Nat} {d : Nat} (hd : 2 ≤ d) : ∀ (v0 : Nat) (v1 : Int32) (v2 : Int32) (μ : JMem) (r : Bool), g_Chain_changesRate N v0 v1 v2 μ.1 = some r → jR B SA d m_Chain_changesRate 0 (lv_args 0 [.ref v0, .int v1, .int v2]) [] μ (some (.int (jb r))) μ := by
  intro v0 v1 v2 μ r h
  exact r_Chain_changesRate_e hd (lv_args 0 _) _ _ _ _ _ (by simp [lv_args, jget, rv_cat, cat_int, cat_long, cat_double, cat_float, cat_ref]) (by simp [lv_args, jget, rv_cat, cat_int, cat_long, cat_double, cat_float, cat_ref]) (by simp [lv_args, jget, rv_cat, cat_int, cat_long, cat_double, cat_float, cat_ref]) h
/-! FilterBench$Chain.tie(LFilterBench$Loop;)V -/
set_option maxRecDepth 10000 in
set_option maxHeartbeats 4000000 in
theorem r_Chain_tie_e {B : Nat} {SA : Nat → Nat} {d : Nat} (hd : 0 ≤ d) : ∀ (L : JLoc) (v0 : Nat) (v1 : Option Nat) (μ : JMem) (μ9 : JMem), jget L 0 = .ref v0 → jget L 1 = rv v1 → g_Chain_tie B v0 v1 μ = some μ9 → jR B SA d m_Chain_tie 0 L [] μ none μ9 := by
  intro L v0 v1 μ μ9 hl0 hl1 h
  unfold g_Chain_tie at h
  refine jr_aload_n jf_43_0 rfl hl0 ?_
  replace h := obd_of h; obtain ⟨x1, hx1, h⟩ := h
  refine jr_getI jf_43_1 hx1 ?_
  replace h := ite_or h; rcases h with ⟨hc, h⟩ | ⟨hc, h⟩
  · refine jr_if_lt_t jf_43_4 hc ?_
    obtain rfl := Option.some.inj h
    exact jr_return jf_43_39 jmt_43
  · refine jr_if_lt_f jf_43_4 hc ?_
    refine jr_aload_n jf_43_7 rfl hl0 ?_
    replace h := obd_of h; obtain ⟨x2, hx2, h⟩ := h
    refine jr_getI jf_43_8 hx2 ?_
    refine jr_aload_n jf_43_11 rfl hl0 ?_
    replace h := obd_of h; obtain ⟨x3, hx3, h⟩ := h
    refine jr_getA jf_43_12 hx3 ?_
    replace h := obd_of h; obtain ⟨a4, rfl, h⟩ := h
    replace h := obd_of h; obtain ⟨x5, hx5, h⟩ := h
    refine jr_arraylength jf_43_15 hx5 ?_
    replace h := ite_or h; rcases h with ⟨hc, h⟩ | ⟨hc, h⟩
    · refine jr_if2_ge_t jf_43_16 hc ?_
      obtain rfl := Option.some.inj h
      exact jr_return jf_43_39 jmt_43
    · refine jr_if2_ge_f jf_43_16 hc ?_
      refine jr_aload_n jf_43_19 rfl hl0 ?_
      replace h := obd_of h; obtain ⟨x6, hx6, h⟩ := h
      refine jr_getA jf_43_20 hx6 ?_
      refine jr_aload_n jf_43_23 rfl hl0 ?_
      replace h := obd_of h; obtain ⟨x7, hx7, h⟩ := h
      refine jr_getI jf_43_24 hx7 ?_
      refine jr_aload_n_A jf_43_27 rfl hl1 ?_
      replace h := obd_of h; obtain ⟨a8, rfl, h⟩ := h
      replace h := obd_of h; obtain ⟨a9, rfl, h⟩ := h
      replace h := obd_of h; obtain ⟨μ10, hμ10, h⟩ := h
      refine jr_aastore jf_43_28 hμ10 ?_
      refine jr_aload_n jf_43_29 rfl hl0 ?_
      refine jr_dup jf_43_30 rfl ?_
      replace h := obd_of h; obtain ⟨x11, hx11, h⟩ := h
      refine jr_getI jf_43_31 hx11 ?_
      refine jr_iconst jf_43_34 jc_i_1 ?_
      refine jr_iadd jf_43_35 ?_
      replace h := obd_of h; obtain ⟨μ12, hμ12, h⟩ := h
      refine jr_putI jf_43_36 rfl hμ12 ?_
      obtain rfl := Option.some.inj h
      exact jr_return jf_43_39 jmt_43
set_option maxRecDepth 10000 in
set_option maxHeartbeats 4000000 in
theorem r_Chain_tie {B : Nat} {SA : Nat → Nat} {d : Nat} (hd : 0 ≤ d) : ∀ (v0 : Nat) (v1 : Option Nat) (μ : JMem) (μ9 : JMem), g_Chain_tie B v0 v1 μ = some μ9 → jR B SA d m_Chain_tie 0 (lv_args 0 [.ref v0, rv v1]) [] μ none μ9 := by
  intro v0 v1 μ μ9 h
  exact r_Chain_tie_e hd (lv_args 0 _) _ _ _ _ (by simp [lv_args, jget, rv_cat, cat_int, cat_long, cat_double, cat_float, cat_ref]) (by simp [lv_args, jget, rv_cat, cat_int, cat_long, cat_double, cat_float, cat_ref]) h
/-! FilterBench$Loop.<init>(IIIJ)V -/
set_option maxRecDepth 10000 in
set_option maxHeartbeats 4000000 in
theorem r_Loop_init_e {B : Nat} {SA : Nat → Nat} {d : Nat} (hd : 2 ≤ d) : ∀ (L : JLoc) (v0 : Nat) (v1 : Int32) (v2 : Int32) (v3 : Int32) (v4 : Int64) (μ : JMem) (μ9 : JMem), jget L 0 = .ref v0 → jget L 1 = .int v1 → jget L 2 = .int v2 → jget L 3 = .int v3 → jget L 4 = .long v4 → g_Loop_init B v0 v1 v2 v3 v4 μ = some μ9 → jR B SA d m_Loop_init 0 L [] μ none μ9 := by
  intro L v0 v1 v2 v3 v4 μ μ9 hl0 hl1 hl2 hl3 hl4 h
  unfold g_Loop_init at h
  refine jr_aload_n jf_42_0 rfl hl0 ?_
  refine jr_oinit jf_42_1 (by omega) (Nat.le_of_ble_eq_true rfl) ?_
  refine jr_aload_n jf_42_4 rfl hl0 ?_
  refine jr_iload_n jf_42_5 rfl hl1 ?_
  replace h := obd_of h; obtain ⟨μ1, hμ1, h⟩ := h
  refine jr_putI jf_42_6 rfl hμ1 ?_
  refine jr_aload_n jf_42_9 rfl hl0 ?_
  refine jr_iload_n jf_42_10 rfl hl2 ?_
  replace h := obd_of h; obtain ⟨μ2, hμ2, h⟩ := h
  refine jr_putI jf_42_11 rfl hμ2 ?_
  refine jr_aload_n jf_42_14 rfl hl0 ?_
  refine jr_lload jf_42_15 hl4 ?_
  replace h := obd_of h; obtain ⟨μ3, hμ3, h⟩ := h
  refine jr_putJ jf_42_17 rfl hμ3 ?_
  refine jr_aload_n jf_42_20 rfl hl0 ?_
  replace h := jnew_of h
  refine jr_new jf_42_21 ?_
  refine jr_dup jf_42_24 rfl ?_
  refine jr_iload_n jf_42_25 rfl hl3 ?_
  replace h := obd_of h; obtain ⟨μ6, hμ6, h⟩ := h
  refine jr_P1v_1 jf_42_26 (by omega) (r_Row_init (by omega) _ _ _ _ hμ6) (Nat.le_of_ble_eq_true rfl) jml_11 (Nat.le_of_ble_eq_true rfl) ?_
  replace h := obd_of h; obtain ⟨μ7, hμ7, h⟩ := h
  refine jr_putA (x := some _) jf_42_29 rfl hμ7 ?_
  obtain rfl := Option.some.inj h
  exact jr_return jf_42_32 jmt_42
set_option maxRecDepth 10000 in
set_option maxHeartbeats 4000000 in
theorem r_Loop_init {B : Nat} {SA : Nat → Nat} {d : Nat} (hd : 2 ≤ d) : ∀ (v0 : Nat) (v1 : Int32) (v2 : Int32) (v3 : Int32) (v4 : Int64) (μ : JMem) (μ9 : JMem), g_Loop_init B v0 v1 v2 v3 v4 μ = some μ9 → jR B SA d m_Loop_init 0 (lv_args 0 [.ref v0, .int v1, .int v2, .int v3, .long v4]) [] μ none μ9 := by
  intro v0 v1 v2 v3 v4 μ μ9 h
  exact r_Loop_init_e hd (lv_args 0 _) _ _ _ _ _ _ _ (by simp [lv_args, jget, rv_cat, cat_int, cat_long, cat_double, cat_float, cat_ref]) (by simp [lv_args, jget, rv_cat, cat_int, cat_long, cat_double, cat_float, cat_ref]) (by simp [lv_args, jget, rv_cat, cat_int, cat_long, cat_double, cat_float, cat_ref]) (by simp [lv_args, jget, rv_cat, cat_int, cat_long, cat_double, cat_float, cat_ref]) (by simp [lv_args, jget, rv_cat, cat_int, cat_long, cat_double, cat_float, cat_ref]) h
/-! FilterBench.loop(IIIIJ)I -/
set_option maxRecDepth 10000 in
set_option maxHeartbeats 4000000 in
theorem r_B_loop_e {N B : Nat} {SA : Nat → Nat} {d : Nat} (hd : 3 ≤ d) : ∀ (L : JLoc) (v0 : Nat) (v1 : Int32) (v2 : Int32) (v3 : Int32) (v4 : Int32) (v5 : Int64) (μ : JMem) (r : Int32) (μ9 : JMem), jget L 0 = .ref v0 → jget L 1 = .int v1 → jget L 2 = .int v2 → jget L 3 = .int v3 → jget L 4 = .int v4 → jget L 5 = .long v5 → g_B_loop N B v0 v1 v2 v3 v4 v5 μ = some (r, μ9) → jR B SA d m_B_loop 0 L [] μ (some (.int r)) μ9 := by
  intro L v0 v1 v2 v3 v4 v5 μ r μ9 hl0 hl1 hl2 hl3 hl4 hl5 h
  unfold g_B_loop at h
  refine jr_aload_n jf_39_0 rfl hl0 ?_
  refine jr_iload_n jf_39_1 rfl hl1 ?_
  replace h := jgd_of h; obtain ⟨hb1, h⟩ := h
  replace h := obd_of h; obtain ⟨x2, hx2, h⟩ := h
  refine jr_V6_1 jf_39_2 hb1 (by omega) (r_B_chainAt (by omega) _ _ _ _ hx2) (Nat.le_of_ble_eq_true rfl) jml_33 (Nat.le_of_ble_eq_true rfl) ?_
  refine jr_astore_A jf_39_5 jml_39 (by decide) ?_
  refine jr_aload_A jf_39_7 jg1_same ?_
  replace h := jon_or h; rcases h with ⟨rfl, h⟩ | ⟨a3, rfl, h⟩
  · refine jr_ifnull_n jf_39_9 ?_
    refine jr_iconst jf_39_29 jc_i_m1 ?_
    obtain ⟨rfl, rfl⟩ := Prod.mk.inj (Option.some.inj h)
    exact jr_retI jf_39_30 jmt_39
  · refine jr_ifnull_s jf_39_9 ?_
    refine jr_aload jf_39_12 jg1_same ?_
    replace h := obd_of h; obtain ⟨x4, hx4, h⟩ := h
    refine jr_getA jf_39_14 hx4 ?_
    replace h := jon_or h; rcases h with ⟨rfl, h⟩ | ⟨a5, rfl, h⟩
    · refine jr_ifnonnull_n jf_39_17 ?_
      refine jr_aload jf_39_20 jg1_same ?_
      replace h := obd_of h; obtain ⟨x6, hx6, h⟩ := h
      refine jr_getI jf_39_22 hx6 ?_
      refine jr_iconst jf_39_25 jc_i_3 ?_
      replace h := ite_or h; rcases h with ⟨hc, h⟩ | ⟨hc, h⟩
      · refine jr_if2_lt_t jf_39_26 hc ?_
        refine jr_iload_n jf_39_31 rfl (jg1_ne rfl hl2) ?_
        replace h := ite_or h; rcases h with ⟨hc, h⟩ | ⟨hc, h⟩
        · refine jr_if_lt_t jf_39_32 hc ?_
          refine jr_iconst jf_39_72 jc_i_m1 ?_
          obtain ⟨rfl, rfl⟩ := Prod.mk.inj (Option.some.inj h)
          exact jr_retI jf_39_73 jmt_39
        · refine jr_if_lt_f jf_39_32 hc ?_
          refine jr_iload_n jf_39_35 rfl (jg1_ne rfl hl2) ?_
          refine jr_iload_n jf_39_36 rfl (jg1_ne rfl hl3) ?_
          replace h := ite_or h; rcases h with ⟨hc, h⟩ | ⟨hc, h⟩
          · refine jr_if2_gt_t jf_39_37 hc ?_
            refine jr_iconst jf_39_72 jc_i_m1 ?_
            obtain ⟨rfl, rfl⟩ := Prod.mk.inj (Option.some.inj h)
            exact jr_retI jf_39_73 jmt_39
          · refine jr_if2_gt_f jf_39_37 hc ?_
            refine jr_iload_n jf_39_40 rfl (jg1_ne rfl hl3) ?_
            refine jr_aload jf_39_41 jg1_same ?_
            replace h := obd_of h; obtain ⟨x7, hx7, h⟩ := h
            refine jr_getI jf_39_43 hx7 ?_
            replace h := ite_or h; rcases h with ⟨hc, h⟩ | ⟨hc, h⟩
            · refine jr_if2_ge_t jf_39_46 hc ?_
              refine jr_iconst jf_39_72 jc_i_m1 ?_
              obtain ⟨rfl, rfl⟩ := Prod.mk.inj (Option.some.inj h)
              exact jr_retI jf_39_73 jmt_39
            · refine jr_if2_ge_f jf_39_46 hc ?_
              refine jr_iload jf_39_49 (jg1_ne rfl hl4) ?_
              refine jr_iconst jf_39_51 jc_i_1 ?_
              replace h := ite_or h; rcases h with ⟨hc, h⟩ | ⟨hc, h⟩
              · refine jr_if2_lt_t jf_39_52 hc ?_
                refine jr_iconst jf_39_72 jc_i_m1 ?_
                obtain ⟨rfl, rfl⟩ := Prod.mk.inj (Option.some.inj h)
                exact jr_retI jf_39_73 jmt_39
              · refine jr_if2_lt_f jf_39_52 hc ?_
                refine jr_iload jf_39_55 (jg1_ne rfl hl4) ?_
                refine jr_bipush jf_39_57 jc_b_64 ?_
                replace h := ite_or h; rcases h with ⟨hc, h⟩ | ⟨hc, h⟩
                · refine jr_if2_gt_t jf_39_59 hc ?_
                  refine jr_iconst jf_39_72 jc_i_m1 ?_
                  obtain ⟨rfl, rfl⟩ := Prod.mk.inj (Option.some.inj h)
                  exact jr_retI jf_39_73 jmt_39
                · refine jr_if2_gt_f jf_39_59 hc ?_
                  refine jr_aload jf_39_62 jg1_same ?_
                  refine jr_iload_n jf_39_64 rfl (jg1_ne rfl hl2) ?_
                  refine jr_iload_n jf_39_65 rfl (jg1_ne rfl hl3) ?_
                  replace h := jgd_of h; obtain ⟨hb8, h⟩ := h
                  replace h := obd_of h; obtain ⟨x9, hx9, h⟩ := h
                  refine jr_V6_2 jf_39_66 hb8 (by omega) (r_Chain_changesRate (by omega) _ _ _ _ _ hx9) (Nat.le_of_ble_eq_true rfl) jml_40 (Nat.le_of_ble_eq_true rfl) ?_
                  replace h := ite_or h; rcases h with ⟨hc, h⟩ | ⟨hc, h⟩
                  · refine jr_ifz_eq_f jf_39_69 hc ?_
                    refine jr_iconst jf_39_72 jc_i_m1 ?_
                    obtain ⟨rfl, rfl⟩ := Prod.mk.inj (Option.some.inj h)
                    exact jr_retI jf_39_73 jmt_39
                  · refine jr_ifz_eq_t jf_39_69 hc ?_
                    refine jr_aload_n jf_39_74 rfl (jg1_ne rfl hl0) ?_
                    refine jr_aload jf_39_75 jg1_same ?_
                    replace h := jgd_of h; obtain ⟨hb10, h⟩ := h
                    replace h := obd_of h; obtain ⟨x11, hx11, h⟩ := h
                    refine jr_V6_0 jf_39_77 hb10 (by omega) (r_Chain_sort (by omega) _ _ _ hx11) (Nat.le_of_ble_eq_true rfl) jml_34 (Nat.le_of_ble_eq_true rfl) ?_
                    replace h := jgd_of h; obtain ⟨hb12, h⟩ := h
                    replace h := obd_of h; obtain ⟨x13, hx13, h⟩ := h
                    refine jr_V6_1 jf_39_80 hb12 (by omega) (r_B_numbersOf (by omega) _ _ _ _ hx13) (Nat.le_of_ble_eq_true rfl) jml_6 (Nat.le_of_ble_eq_true rfl) ?_
                    refine jr_astore_A jf_39_83 jml_39 (by decide) ?_
                    refine jr_aload_A jf_39_85 jg1_same ?_
                    replace h := jon_or h; rcases h with ⟨rfl, h⟩ | ⟨a14, rfl, h⟩
                    · refine jr_ifnull_n jf_39_87 ?_
                      refine jr_iconst jf_39_100 jc_i_m1 ?_
                      obtain ⟨rfl, rfl⟩ := Prod.mk.inj (Option.some.inj h)
                      exact jr_retI jf_39_101 jmt_39
                    · refine jr_ifnull_s jf_39_87 ?_
                      refine jr_aload jf_39_90 jg1_same ?_
                      refine jr_lload jf_39_92 (jg1_ne rfl (jg1_ne rfl hl5)) ?_
                      replace h := obd_of h; obtain ⟨x15, hx15, h⟩ := h
                      rcases ite_or hx15 with ⟨hb, hx⟩ | ⟨hb0, hx⟩
                      · refine jr_V8a_1 jf_39_94 hb (by omega) (r_Real_holds (by omega) _ _ _ _ hx) (Nat.le_of_ble_eq_true rfl) jml_15 (Nat.le_of_ble_eq_true rfl) ?_
                        replace h := ite_or h; rcases h with ⟨hc, h⟩ | ⟨hc, h⟩
                        · refine jr_ifz_ne_t jf_39_97 hc ?_
                          refine jr_aload jf_39_102 (jg1_pre (by first | rfl | exact rv_cat _) jg1_same) ?_
                          replace h := jnew_of h
                          refine jr_new jf_39_104 ?_
                          refine jr_dup jf_39_107 rfl ?_
                          refine jr_iload_n jf_39_108 rfl (jg1_ne rfl (jg1_ne rfl hl2)) ?_
                          refine jr_iload_n jf_39_109 rfl (jg1_ne rfl (jg1_ne rfl hl3)) ?_
                          refine jr_iload jf_39_110 (jg1_ne rfl (jg1_ne rfl hl4)) ?_
                          refine jr_aload jf_39_112 jg1_same ?_
                          refine jr_lload jf_39_114 (jg1_ne rfl (jg1_ne rfl hl5)) ?_
                          replace h := obd_of h; obtain ⟨x18, hx18, h⟩ := h
                          rcases ite_or hx18 with ⟨hb, hx⟩ | ⟨hb0, hx⟩
                          · refine jr_V8a_1 jf_39_116 hb (by omega) (r_Real_clean (by omega) _ _ _ _ hx) (Nat.le_of_ble_eq_true rfl) jml_17 (Nat.le_of_ble_eq_true rfl) ?_
                            replace h := obd_of h; obtain ⟨μ19, hμ19, h⟩ := h
                            refine jr_P1v_4 jf_39_119 (by omega) (r_Loop_init (by omega) _ _ _ _ _ _ _ hμ19) (Nat.le_of_ble_eq_true rfl) jml_42 (Nat.le_of_ble_eq_true rfl) ?_
                            replace h := jgd_of h; obtain ⟨hb20, h⟩ := h
                            replace h := obd_of h; obtain ⟨μ21, hμ21, h⟩ := h
                            refine jr_V6v_1 jf_39_122 hb20 (by omega) (r_Chain_tie (by omega) _ _ _ _ hμ21) (Nat.le_of_ble_eq_true rfl) jml_43 (by simp only [jcats_cons, jcats_nil, cat_int, cat_long, cat_double, cat_float, cat_ref, rv_cat]; decide) ?_
                            refine jr_aload jf_39_125 (jg1_pre (by first | rfl | exact rv_cat _) jg1_same) ?_
                            replace h := obd_of h; obtain ⟨x22, hx22, h⟩ := h
                            refine jr_getI jf_39_127 hx22 ?_
                            obtain ⟨rfl, rfl⟩ := Prod.mk.inj (Option.some.inj h)
                            exact jr_retI jf_39_130 jmt_39
                          · obtain ⟨hb, hx⟩ := jgd_of hx
                            obtain hx := Option.some.inj hx
                            refine jr_V8b_1 jf_39_116 hb0 hb (by omega) (r_Shorts_clean (by omega) _ _ _ _ hx) (Nat.le_of_ble_eq_true rfl) jml_19 (Nat.le_of_ble_eq_true rfl) ?_
                            replace h := obd_of h; obtain ⟨μ19, hμ19, h⟩ := h
                            refine jr_P1v_4 jf_39_119 (by omega) (r_Loop_init (by omega) _ _ _ _ _ _ _ hμ19) (Nat.le_of_ble_eq_true rfl) jml_42 (Nat.le_of_ble_eq_true rfl) ?_
                            replace h := jgd_of h; obtain ⟨hb20, h⟩ := h
                            replace h := obd_of h; obtain ⟨μ21, hμ21, h⟩ := h
                            refine jr_V6v_1 jf_39_122 hb20 (by omega) (r_Chain_tie (by omega) _ _ _ _ hμ21) (Nat.le_of_ble_eq_true rfl) jml_43 (by simp only [jcats_cons, jcats_nil, cat_int, cat_long, cat_double, cat_float, cat_ref, rv_cat]; decide) ?_
                            refine jr_aload jf_39_125 (jg1_pre (by first | rfl | exact rv_cat _) jg1_same) ?_
                            replace h := obd_of h; obtain ⟨x22, hx22, h⟩ := h
                            refine jr_getI jf_39_127 hx22 ?_
                            obtain ⟨rfl, rfl⟩ := Prod.mk.inj (Option.some.inj h)
                            exact jr_retI jf_39_130 jmt_39
                        · refine jr_ifz_ne_f jf_39_97 hc ?_
                          refine jr_iconst jf_39_100 jc_i_m1 ?_
                          obtain ⟨rfl, rfl⟩ := Prod.mk.inj (Option.some.inj h)
                          exact jr_retI jf_39_101 jmt_39
                      · obtain ⟨hb, hx⟩ := jgd_of hx
                        obtain hx := Option.some.inj hx
                        refine jr_V8b_1 jf_39_94 hb0 hb (by omega) (r_Shorts_holds (by omega) _ _ _ _ hx) (Nat.le_of_ble_eq_true rfl) jml_16 (Nat.le_of_ble_eq_true rfl) ?_
                        replace h := ite_or h; rcases h with ⟨hc, h⟩ | ⟨hc, h⟩
                        · refine jr_ifz_ne_t jf_39_97 hc ?_
                          refine jr_aload jf_39_102 (jg1_pre (by first | rfl | exact rv_cat _) jg1_same) ?_
                          replace h := jnew_of h
                          refine jr_new jf_39_104 ?_
                          refine jr_dup jf_39_107 rfl ?_
                          refine jr_iload_n jf_39_108 rfl (jg1_ne rfl (jg1_ne rfl hl2)) ?_
                          refine jr_iload_n jf_39_109 rfl (jg1_ne rfl (jg1_ne rfl hl3)) ?_
                          refine jr_iload jf_39_110 (jg1_ne rfl (jg1_ne rfl hl4)) ?_
                          refine jr_aload jf_39_112 jg1_same ?_
                          refine jr_lload jf_39_114 (jg1_ne rfl (jg1_ne rfl hl5)) ?_
                          replace h := obd_of h; obtain ⟨x18, hx18, h⟩ := h
                          rcases ite_or hx18 with ⟨hb, hx⟩ | ⟨hb0, hx⟩
                          · refine jr_V8a_1 jf_39_116 hb (by omega) (r_Real_clean (by omega) _ _ _ _ hx) (Nat.le_of_ble_eq_true rfl) jml_17 (Nat.le_of_ble_eq_true rfl) ?_
                            replace h := obd_of h; obtain ⟨μ19, hμ19, h⟩ := h
                            refine jr_P1v_4 jf_39_119 (by omega) (r_Loop_init (by omega) _ _ _ _ _ _ _ hμ19) (Nat.le_of_ble_eq_true rfl) jml_42 (Nat.le_of_ble_eq_true rfl) ?_
                            replace h := jgd_of h; obtain ⟨hb20, h⟩ := h
                            replace h := obd_of h; obtain ⟨μ21, hμ21, h⟩ := h
                            refine jr_V6v_1 jf_39_122 hb20 (by omega) (r_Chain_tie (by omega) _ _ _ _ hμ21) (Nat.le_of_ble_eq_true rfl) jml_43 (by simp only [jcats_cons, jcats_nil, cat_int, cat_long, cat_double, cat_float, cat_ref, rv_cat]; decide) ?_
                            refine jr_aload jf_39_125 (jg1_pre (by first | rfl | exact rv_cat _) jg1_same) ?_
                            replace h := obd_of h; obtain ⟨x22, hx22, h⟩ := h
                            refine jr_getI jf_39_127 hx22 ?_
                            obtain ⟨rfl, rfl⟩ := Prod.mk.inj (Option.some.inj h)
                            exact jr_retI jf_39_130 jmt_39
                          · obtain ⟨hb, hx⟩ := jgd_of hx
                            obtain hx := Option.some.inj hx
                            refine jr_V8b_1 jf_39_116 hb0 hb (by omega) (r_Shorts_clean (by omega) _ _ _ _ hx) (Nat.le_of_ble_eq_true rfl) jml_19 (Nat.le_of_ble_eq_true rfl) ?_
                            replace h := obd_of h; obtain ⟨μ19, hμ19, h⟩ := h
                            refine jr_P1v_4 jf_39_119 (by omega) (r_Loop_init (by omega) _ _ _ _ _ _ _ hμ19) (Nat.le_of_ble_eq_true rfl) jml_42 (Nat.le_of_ble_eq_true rfl) ?_
                            replace h := jgd_of h; obtain ⟨hb20, h⟩ := h
                            replace h := obd_of h; obtain ⟨μ21, hμ21, h⟩ := h
                            refine jr_V6v_1 jf_39_122 hb20 (by omega) (r_Chain_tie (by omega) _ _ _ _ hμ21) (Nat.le_of_ble_eq_true rfl) jml_43 (by simp only [jcats_cons, jcats_nil, cat_int, cat_long, cat_double, cat_float, cat_ref, rv_cat]; decide) ?_
                            refine jr_aload jf_39_125 (jg1_pre (by first | rfl | exact rv_cat _) jg1_same) ?_
                            replace h := obd_of h; obtain ⟨x22, hx22, h⟩ := h
                            refine jr_getI jf_39_127 hx22 ?_
                            obtain ⟨rfl, rfl⟩ := Prod.mk.inj (Option.some.inj h)
                            exact jr_retI jf_39_130 jmt_39
                        · refine jr_ifz_ne_f jf_39_97 hc ?_
                          refine jr_iconst jf_39_100 jc_i_m1 ?_
                          obtain ⟨rfl, rfl⟩ := Prod.mk.inj (Option.some.inj h)
                          exact jr_retI jf_39_101 jmt_39
      · refine jr_if2_lt_f jf_39_26 hc ?_
        refine jr_iconst jf_39_29 jc_i_m1 ?_
        obtain ⟨rfl, rfl⟩ := Prod.mk.inj (Option.some.inj h)
        exact jr_retI jf_39_30 jmt_39
    · refine jr_ifnonnull_s jf_39_17 ?_
      refine jr_iconst jf_39_29 jc_i_m1 ?_
      obtain ⟨rfl, rfl⟩ := Prod.mk.inj (Option.some.inj h)
      exact jr_retI jf_39_30 jmt_39
set_option maxRecDepth 10000 in
set_option maxHeartbeats 4000000 in
theorem r_B_loop {N B : Nat} {SA : Nat → Nat} {d : Nat} (hd : 3 ≤ d) : ∀ (v0 : Nat) (v1 : Int32) (v2 : Int32) (v3 : Int32) (v4 : Int32) (v5 : Int64) (μ : JMem) (r : Int32) (μ9 : JMem), g_B_loop N B v0 v1 v2 v3 v4 v5 μ = some (r, μ9) → jR B SA d m_B_loop 0 (lv_args 0 [.ref v0, .int v1, .int v2, .int v3, .int v4, .long v5]) [] μ (some (.int r)) μ9 := by
  intro v0 v1 v2 v3 v4 v5 μ r μ9 h
  exact r_B_loop_e hd (lv_args 0 _) _ _ _ _ _ _ _ _ _ (by simp [lv_args, jget, rv_cat, cat_int, cat_long, cat_double, cat_float, cat_ref]) (by simp [lv_args, jget, rv_cat, cat_int, cat_long, cat_double, cat_float, cat_ref]) (by simp [lv_args, jget, rv_cat, cat_int, cat_long, cat_double, cat_float, cat_ref]) (by simp [lv_args, jget, rv_cat, cat_int, cat_long, cat_double, cat_float, cat_ref]) (by simp [lv_args, jget, rv_cat, cat_int, cat_long, cat_double, cat_float, cat_ref]) (by simp [lv_args, jget, rv_cat, cat_int, cat_long, cat_double, cat_float, cat_ref]) h
/-! FilterBench.chain(II)I -/
set_option maxRecDepth 10000 in
set_option maxHeartbeats 4000000 in
theorem r_B_chain_2_e {B : Nat} {SA : Nat → Nat} {d : Nat} (hd : 2 ≤ d) : ∀ (L : JLoc) (v0 : Nat) (v1 : Int32) (v2 : Int32) (μ : JMem) (r : Int32), jget L 0 = .ref v0 → jget L 1 = .int v1 → jget L 2 = .int v2 → g_B_chain_2 v0 v1 v2 μ.1 = some r → jR B SA d m_B_chain_2 0 L [] μ (some (.int r)) μ := by
  intro L v0 v1 v2 μ r hl0 hl1 hl2 h
  unfold g_B_chain_2 at h
  refine jr_aload_n jf_44_0 rfl hl0 ?_
  refine jr_iload_n jf_44_1 rfl hl1 ?_
  replace h := jgd_of h; obtain ⟨hb1, h⟩ := h
  replace h := obd_of h; obtain ⟨x2, hx2, h⟩ := h
  refine jr_V6_1 jf_44_2 hb1 (by omega) (r_B_chainAt (by omega) _ _ _ _ hx2) (Nat.le_of_ble_eq_true rfl) jml_33 (Nat.le_of_ble_eq_true rfl) ?_
  refine jr_astore_n_A jf_44_5 rfl jml_44 (by decide) ?_
  refine jr_aload_n_A jf_44_6 rfl jg1_same ?_
  replace h := jon_or h; rcases h with ⟨rfl, h⟩ | ⟨a3, rfl, h⟩
  · refine jr_ifnonnull_n jf_44_7 ?_
    refine jr_iconst jf_44_10 jc_i_m1 ?_
    obtain rfl := Option.some.inj h
    exact jr_retI jf_44_11 jmt_44
  · refine jr_ifnonnull_s jf_44_7 ?_
    refine jr_iload_n jf_44_12 rfl (jg1_pre rfl hl2) ?_
    refine jr_switch jf_44_13 ?_
    replace h := ite_or h; rcases h with ⟨hc, h⟩ | ⟨hc, h⟩
    · refine jsw_hit (by decide) hc ?_
      refine jr_aload_n jf_44_48 rfl jg1_same ?_
      replace h := obd_of h; obtain ⟨x4, hx4, h⟩ := h
      refine jr_getI jf_44_49 hx4 ?_
      obtain rfl := Option.some.inj h
      exact jr_retI jf_44_52 jmt_44
    · refine jsw_miss (by decide) hc (by decide : (0 : Int) + 1 = 1) ?_
      replace h := ite_or h; rcases h with ⟨hc, h⟩ | ⟨hc, h⟩
      · refine jsw_hit (by decide) hc ?_
        refine jr_aload_n jf_44_53 rfl jg1_same ?_
        replace h := obd_of h; obtain ⟨x5, hx5, h⟩ := h
        refine jr_getI jf_44_54 hx5 ?_
        obtain rfl := Option.some.inj h
        exact jr_retI jf_44_57 jmt_44
      · refine jsw_miss (by decide) hc (by decide : (1 : Int) + 1 = 2) ?_
        replace h := ite_or h; rcases h with ⟨hc, h⟩ | ⟨hc, h⟩
        · refine jsw_hit (by decide) hc ?_
          refine jr_aload_n jf_44_58 rfl jg1_same ?_
          replace h := obd_of h; obtain ⟨x6, hx6, h⟩ := h
          refine jr_getI jf_44_59 hx6 ?_
          obtain rfl := Option.some.inj h
          exact jr_retI jf_44_62 jmt_44
        · refine jsw_miss (by decide) hc (by decide : (2 : Int) + 1 = 3) ?_
          replace h := ite_or h; rcases h with ⟨hc, h⟩ | ⟨hc, h⟩
          · refine jsw_hit (by decide) hc ?_
            refine jr_aload_n jf_44_63 rfl jg1_same ?_
            replace h := obd_of h; obtain ⟨x7, hx7, h⟩ := h
            refine jr_getA jf_44_64 hx7 ?_
            replace h := jon_or h; rcases h with ⟨rfl, h⟩ | ⟨a8, rfl, h⟩
            · refine jr_ifnonnull_n jf_44_67 ?_
              refine jr_iconst jf_44_70 jc_i_m1 ?_
              refine jr_goto jf_44_71 ?_
              obtain rfl := Option.some.inj h
              exact jr_retI jf_44_81 jmt_44
            · refine jr_ifnonnull_s jf_44_67 ?_
              refine jr_aload_n jf_44_74 rfl jg1_same ?_
              replace h := obd_of h; obtain ⟨x9, hx9, h⟩ := h
              refine jr_getA jf_44_75 hx9 ?_
              replace h := obd_of h; obtain ⟨a10, rfl, h⟩ := h
              replace h := obd_of h; obtain ⟨x11, hx11, h⟩ := h
              refine jr_getI jf_44_78 hx11 ?_
              obtain rfl := Option.some.inj h
              exact jr_retI jf_44_81 jmt_44
          · refine jsw_miss (by decide) hc (by decide : (3 : Int) + 1 = 4) ?_
            replace h := ite_or h; rcases h with ⟨hc, h⟩ | ⟨hc, h⟩
            · refine jsw_hit (by decide) hc ?_
              refine jr_aload_n jf_44_82 rfl jg1_same ?_
              replace h := jgd_of h; obtain ⟨hb12, h⟩ := h
              replace h := obd_of h; obtain ⟨x13, hx13, h⟩ := h
              refine jr_V6_0 jf_44_83 hb12 (by omega) (r_Chain_sort (by omega) _ _ _ hx13) (Nat.le_of_ble_eq_true rfl) jml_34 (Nat.le_of_ble_eq_true rfl) ?_
              obtain rfl := Option.some.inj h
              exact jr_retI jf_44_86 jmt_44
            · refine jsw_miss (by decide) hc (by decide : (4 : Int) + 1 = 5) ?_
              refine jsw_end ?_
              refine jr_iconst jf_44_87 jc_i_m1 ?_
              obtain rfl := Option.some.inj h
              exact jr_retI jf_44_88 jmt_44
set_option maxRecDepth 10000 in
set_option maxHeartbeats 4000000 in
theorem r_B_chain_2 {B : Nat} {SA : Nat → Nat} {d : Nat} (hd : 2 ≤ d) : ∀ (v0 : Nat) (v1 : Int32) (v2 : Int32) (μ : JMem) (r : Int32), g_B_chain_2 v0 v1 v2 μ.1 = some r → jR B SA d m_B_chain_2 0 (lv_args 0 [.ref v0, .int v1, .int v2]) [] μ (some (.int r)) μ := by
  intro v0 v1 v2 μ r h
  exact r_B_chain_2_e hd (lv_args 0 _) _ _ _ _ _ (by simp [lv_args, jget, rv_cat, cat_int, cat_long, cat_double, cat_float, cat_ref]) (by simp [lv_args, jget, rv_cat, cat_int, cat_long, cat_double, cat_float, cat_ref]) (by simp [lv_args, jget, rv_cat, cat_int, cat_long, cat_double, cat_float, cat_ref]) h
/-! FilterBench.count(I)I -/
set_option maxRecDepth 10000 in
set_option maxHeartbeats 4000000 in
theorem r_B_count_e {B : Nat} {SA : Nat → Nat} {d : Nat} (hd : 0 ≤ d) : ∀ (L : JLoc) (v0 : Nat) (v1 : Int32) (μ : JMem) (r : Int32), jget L 0 = .ref v0 → jget L 1 = .int v1 → g_B_count v0 v1 μ.1 = some r → jR B SA d m_B_count 0 L [] μ (some (.int r)) μ := by
  intro L v0 v1 μ r hl0 hl1 h
  unfold g_B_count at h
  refine jr_iload_n jf_45_0 rfl hl1 ?_
  refine jr_switch jf_45_1 ?_
  replace h := ite_or h; rcases h with ⟨hc, h⟩ | ⟨hc, h⟩
  · refine jsw_hit (by decide) hc ?_
    refine jr_aload_n jf_45_28 rfl hl0 ?_
    replace h := obd_of h; obtain ⟨x1, hx1, h⟩ := h
    refine jr_getI jf_45_29 hx1 ?_
    obtain rfl := Option.some.inj h
    exact jr_retI jf_45_32 jmt_45
  · refine jsw_miss (by decide) hc (by decide : (0 : Int) + 1 = 1) ?_
    replace h := ite_or h; rcases h with ⟨hc, h⟩ | ⟨hc, h⟩
    · refine jsw_hit (by decide) hc ?_
      refine jr_aload_n jf_45_33 rfl hl0 ?_
      replace h := obd_of h; obtain ⟨x2, hx2, h⟩ := h
      refine jr_getI jf_45_34 hx2 ?_
      obtain rfl := Option.some.inj h
      exact jr_retI jf_45_37 jmt_45
    · refine jsw_miss (by decide) hc (by decide : (1 : Int) + 1 = 2) ?_
      replace h := ite_or h; rcases h with ⟨hc, h⟩ | ⟨hc, h⟩
      · refine jsw_hit (by decide) hc ?_
        refine jr_aload_n jf_45_38 rfl hl0 ?_
        replace h := obd_of h; obtain ⟨x3, hx3, h⟩ := h
        refine jr_getI jf_45_39 hx3 ?_
        obtain rfl := Option.some.inj h
        exact jr_retI jf_45_42 jmt_45
      · refine jsw_miss (by decide) hc (by decide : (2 : Int) + 1 = 3) ?_
        refine jsw_end ?_
        refine jr_iconst jf_45_43 jc_i_m1 ?_
        obtain rfl := Option.some.inj h
        exact jr_retI jf_45_44 jmt_45
set_option maxRecDepth 10000 in
set_option maxHeartbeats 4000000 in
theorem r_B_count {B : Nat} {SA : Nat → Nat} {d : Nat} (hd : 0 ≤ d) : ∀ (v0 : Nat) (v1 : Int32) (μ : JMem) (r : Int32), g_B_count v0 v1 μ.1 = some r → jR B SA d m_B_count 0 (lv_args 0 [.ref v0, .int v1]) [] μ (some (.int r)) μ := by
  intro v0 v1 μ r h
  exact r_B_count_e hd (lv_args 0 _) _ _ _ _ (by simp [lv_args, jget, rv_cat, cat_int, cat_long, cat_double, cat_float, cat_ref]) (by simp [lv_args, jget, rv_cat, cat_int, cat_long, cat_double, cat_float, cat_ref]) h
/-! FilterBench.fedAlone(I)LFilterBench$Chain; -/
set_option maxRecDepth 10000 in
set_option maxHeartbeats 4000000 in
theorem r_B_fedAlone_24 {B : Nat} {SA : Nat → Nat} {d : Nat} (hd : 1 ≤ d) : ∀ (L : JLoc) (μ : JMem) (r : Option Nat), g_B_fedAlone_24 μ.1 = some r → jR B SA d m_B_fedAlone 24 L [] μ (some (rv r)) μ := by
  intro L μ r h
  unfold g_B_fedAlone_24 at h
  refine jr_aconst_null jf_47_24 ?_
  refine jr_goto jf_47_25 ?_
  obtain rfl := Option.some.inj h
  exact jr_retA jf_47_29 jmt_47
set_option maxRecDepth 10000 in
set_option maxHeartbeats 4000000 in
theorem r_B_fedAlone_e {B : Nat} {SA : Nat → Nat} {d : Nat} (hd : 1 ≤ d) : ∀ (L : JLoc) (v0 : Nat) (v1 : Int32) (μ : JMem) (r : Option Nat), jget L 0 = .ref v0 → jget L 1 = .int v1 → g_B_fedAlone v0 v1 μ.1 = some r → jR B SA d m_B_fedAlone 0 L [] μ (some (rv r)) μ := by
  intro L v0 v1 μ r hl0 hl1 h
  unfold g_B_fedAlone at h
  refine jr_aload_n jf_47_0 rfl hl0 ?_
  refine jr_iload_n jf_47_1 rfl hl1 ?_
  replace h := jgd_of h; obtain ⟨hb1, h⟩ := h
  replace h := obd_of h; obtain ⟨x2, hx2, h⟩ := h
  refine jr_V6_1 jf_47_2 hb1 (by omega) (r_B_chainAt (by omega) _ _ _ _ hx2) (Nat.le_of_ble_eq_true rfl) jml_33 (Nat.le_of_ble_eq_true rfl) ?_
  refine jr_astore_n_A jf_47_5 rfl jml_47 (by decide) ?_
  refine jr_aload_n_A jf_47_6 rfl jg1_same ?_
  replace h := jon_or h; rcases h with ⟨rfl, h⟩ | ⟨a3, rfl, h⟩
  · refine jr_ifnull_n jf_47_7 ?_
    exact r_B_fedAlone_24 hd _  _ _ h
  · refine jr_ifnull_s jf_47_7 ?_
    refine jr_aload_n jf_47_10 rfl jg1_same ?_
    replace h := obd_of h; obtain ⟨x4, hx4, h⟩ := h
    refine jr_getI jf_47_11 hx4 ?_
    replace h := ite_or h; rcases h with ⟨hc, h⟩ | ⟨hc, h⟩
    · refine jr_if_eq_t jf_47_14 hc ?_
      exact r_B_fedAlone_24 hd _  _ _ h
    · refine jr_if_eq_f jf_47_14 hc ?_
      refine jr_aload_n jf_47_17 rfl jg1_same ?_
      replace h := obd_of h; obtain ⟨x5, hx5, h⟩ := h
      refine jr_getA jf_47_18 hx5 ?_
      replace h := jon_or h; rcases h with ⟨rfl, h⟩ | ⟨a6, rfl, h⟩
      · refine jr_ifnull_n jf_47_21 ?_
        refine jr_aload_n jf_47_28 rfl jg1_same ?_
        obtain rfl := Option.some.inj h
        exact jr_retA (x := some _) jf_47_29 jmt_47
      · refine jr_ifnull_s jf_47_21 ?_
        exact r_B_fedAlone_24 hd _  _ _ h
set_option maxRecDepth 10000 in
set_option maxHeartbeats 4000000 in
theorem r_B_fedAlone {B : Nat} {SA : Nat → Nat} {d : Nat} (hd : 1 ≤ d) : ∀ (v0 : Nat) (v1 : Int32) (μ : JMem) (r : Option Nat), g_B_fedAlone v0 v1 μ.1 = some r → jR B SA d m_B_fedAlone 0 (lv_args 0 [.ref v0, .int v1]) [] μ (some (rv r)) μ := by
  intro v0 v1 μ r h
  exact r_B_fedAlone_e hd (lv_args 0 _) _ _ _ _ (by simp [lv_args, jget, rv_cat, cat_int, cat_long, cat_double, cat_float, cat_ref]) (by simp [lv_args, jget, rv_cat, cat_int, cat_long, cat_double, cat_float, cat_ref]) h
/-! FilterBench$Chain.emit(J)V -/
set_option maxRecDepth 10000 in
set_option maxHeartbeats 4000000 in
theorem r_Chain_emit_84 {B : Nat} {SA : Nat → Nat} {d : Nat} (hd : 0 ≤ d) : ∀ (L : JLoc) (v0 : Nat) (s0 : Int32) (s1 : Nat) (μ : JMem) (μ9 : JMem), jget L 0 = .ref v0 → g_Chain_emit_84 B v0 s0 s1 μ = some μ9 → jR B SA d m_Chain_emit 84 L [.int s0, .ref s1] μ none μ9 := by
  intro L v0 s0 s1 μ μ9 hl0 h
  unfold g_Chain_emit_84 at h
  replace h := obd_of h; obtain ⟨μ1, hμ1, h⟩ := h
  refine jr_putI jf_104_84 rfl hμ1 ?_
  refine jr_aload_n jf_104_87 rfl hl0 ?_
  refine jr_dup jf_104_88 rfl ?_
  replace h := obd_of h; obtain ⟨x2, hx2, h⟩ := h
  refine jr_getI jf_104_89 hx2 ?_
  refine jr_iconst jf_104_92 jc_i_1 ?_
  refine jr_iadd jf_104_93 ?_
  replace h := obd_of h; obtain ⟨μ3, hμ3, h⟩ := h
  refine jr_putI jf_104_94 rfl hμ3 ?_
  obtain rfl := Option.some.inj h
  exact jr_return jf_104_97 jmt_104
set_option maxRecDepth 10000 in
set_option maxHeartbeats 4000000 in
theorem r_Chain_emit_55 {B : Nat} {SA : Nat → Nat} {d : Nat} (hd : 0 ≤ d) : ∀ (L : JLoc) (v0 : Nat) (s0 : Int32) (s1 : Nat) (μ : JMem) (μ9 : JMem), jget L 0 = .ref v0 → g_Chain_emit_55 B v0 s0 s1 μ = some μ9 → jR B SA d m_Chain_emit 55 L [.int s0, .ref s1] μ none μ9 := by
  intro L v0 s0 s1 μ μ9 hl0 h
  unfold g_Chain_emit_55 at h
  replace h := obd_of h; obtain ⟨μ1, hμ1, h⟩ := h
  refine jr_putI jf_104_55 rfl hμ1 ?_
  refine jr_aload_n jf_104_58 rfl hl0 ?_
  refine jr_aload_n jf_104_59 rfl hl0 ?_
  replace h := obd_of h; obtain ⟨x2, hx2, h⟩ := h
  refine jr_getI jf_104_60 hx2 ?_
  refine jr_aload_n jf_104_63 rfl hl0 ?_
  replace h := obd_of h; obtain ⟨x3, hx3, h⟩ := h
  refine jr_getA jf_104_64 hx3 ?_
  replace h := obd_of h; obtain ⟨a4, rfl, h⟩ := h
  replace h := obd_of h; obtain ⟨x5, hx5, h⟩ := h
  refine jr_arraylength jf_104_67 hx5 ?_
  replace h := ite_or h; rcases h with ⟨hc, h⟩ | ⟨hc, h⟩
  · refine jr_if2_ge_t jf_104_68 hc ?_
    refine jr_aload_n jf_104_80 rfl hl0 ?_
    replace h := obd_of h; obtain ⟨x6, hx6, h⟩ := h
    refine jr_getI jf_104_81 hx6 ?_
    exact r_Chain_emit_84 hd _ _ _ _ _ _ hl0 h
  · refine jr_if2_ge_f jf_104_68 hc ?_
    refine jr_aload_n jf_104_71 rfl hl0 ?_
    replace h := obd_of h; obtain ⟨x7, hx7, h⟩ := h
    refine jr_getI jf_104_72 hx7 ?_
    refine jr_iconst jf_104_75 jc_i_1 ?_
    refine jr_iadd jf_104_76 ?_
    refine jr_goto jf_104_77 ?_
    exact r_Chain_emit_84 hd _ _ _ _ _ _ hl0 h
set_option maxRecDepth 10000 in
set_option maxHeartbeats 4000000 in
theorem r_Chain_emit_e {B : Nat} {SA : Nat → Nat} {d : Nat} (hd : 0 ≤ d) : ∀ (L : JLoc) (v0 : Nat) (v1 : Int64) (μ : JMem) (μ9 : JMem), jget L 0 = .ref v0 → jget L 1 = .long v1 → g_Chain_emit B v0 v1 μ = some μ9 → jR B SA d m_Chain_emit 0 L [] μ none μ9 := by
  intro L v0 v1 μ μ9 hl0 hl1 h
  unfold g_Chain_emit at h
  refine jr_aload_n jf_104_0 rfl hl0 ?_
  replace h := obd_of h; obtain ⟨x1, hx1, h⟩ := h
  refine jr_getI jf_104_1 hx1 ?_
  replace h := ite_or h; rcases h with ⟨hc, h⟩ | ⟨hc, h⟩
  · refine jr_if_lt_t jf_104_4 hc ?_
    obtain rfl := Option.some.inj h
    exact jr_return jf_104_19 jmt_104
  · refine jr_if_lt_f jf_104_4 hc ?_
    refine jr_aload_n jf_104_7 rfl hl0 ?_
    replace h := obd_of h; obtain ⟨x2, hx2, h⟩ := h
    refine jr_getI jf_104_8 hx2 ?_
    refine jr_aload_n jf_104_11 rfl hl0 ?_
    replace h := obd_of h; obtain ⟨x3, hx3, h⟩ := h
    refine jr_getA jf_104_12 hx3 ?_
    replace h := obd_of h; obtain ⟨a4, rfl, h⟩ := h
    replace h := obd_of h; obtain ⟨x5, hx5, h⟩ := h
    refine jr_arraylength jf_104_15 hx5 ?_
    replace h := ite_or h; rcases h with ⟨hc, h⟩ | ⟨hc, h⟩
    · refine jr_if2_lt_t jf_104_16 hc ?_
      refine jr_aload_n jf_104_20 rfl hl0 ?_
      replace h := obd_of h; obtain ⟨x6, hx6, h⟩ := h
      refine jr_getA jf_104_21 hx6 ?_
      refine jr_aload_n jf_104_24 rfl hl0 ?_
      replace h := obd_of h; obtain ⟨x7, hx7, h⟩ := h
      refine jr_getI jf_104_25 hx7 ?_
      refine jr_lload_n jf_104_28 rfl hl1 ?_
      replace h := obd_of h; obtain ⟨a8, rfl, h⟩ := h
      replace h := obd_of h; obtain ⟨μ9, hμ9, h⟩ := h
      refine jr_lastore jf_104_29 hμ9 ?_
      refine jr_aload_n jf_104_30 rfl hl0 ?_
      refine jr_aload_n jf_104_31 rfl hl0 ?_
      replace h := obd_of h; obtain ⟨x10, hx10, h⟩ := h
      refine jr_getI jf_104_32 hx10 ?_
      refine jr_iconst jf_104_35 jc_i_1 ?_
      refine jr_iadd jf_104_36 ?_
      refine jr_aload_n jf_104_37 rfl hl0 ?_
      replace h := obd_of h; obtain ⟨x11, hx11, h⟩ := h
      refine jr_getA jf_104_38 hx11 ?_
      replace h := obd_of h; obtain ⟨a12, rfl, h⟩ := h
      replace h := obd_of h; obtain ⟨x13, hx13, h⟩ := h
      refine jr_arraylength jf_104_41 hx13 ?_
      replace h := ite_or h; rcases h with ⟨hc, h⟩ | ⟨hc, h⟩
      · refine jr_if2_lt_t jf_104_42 hc ?_
        refine jr_aload_n jf_104_49 rfl hl0 ?_
        replace h := obd_of h; obtain ⟨x14, hx14, h⟩ := h
        refine jr_getI jf_104_50 hx14 ?_
        refine jr_iconst jf_104_53 jc_i_1 ?_
        refine jr_iadd jf_104_54 ?_
        exact r_Chain_emit_55 hd _ _ _ _ _ _ hl0 h
      · refine jr_if2_lt_f jf_104_42 hc ?_
        refine jr_iconst jf_104_45 jc_i_0 ?_
        refine jr_goto jf_104_46 ?_
        exact r_Chain_emit_55 hd _ _ _ _ _ _ hl0 h
    · refine jr_if2_lt_f jf_104_16 hc ?_
      obtain rfl := Option.some.inj h
      exact jr_return jf_104_19 jmt_104
set_option maxRecDepth 10000 in
set_option maxHeartbeats 4000000 in
theorem r_Chain_emit {B : Nat} {SA : Nat → Nat} {d : Nat} (hd : 0 ≤ d) : ∀ (v0 : Nat) (v1 : Int64) (μ : JMem) (μ9 : JMem), g_Chain_emit B v0 v1 μ = some μ9 → jR B SA d m_Chain_emit 0 (lv_args 0 [.ref v0, .long v1]) [] μ none μ9 := by
  intro v0 v1 μ μ9 h
  exact r_Chain_emit_e hd (lv_args 0 _) _ _ _ _ (by simp [lv_args, jget, rv_cat, cat_int, cat_long, cat_double, cat_float, cat_ref]) (by simp [lv_args, jget, rv_cat, cat_int, cat_long, cat_double, cat_float, cat_ref]) h
/-! FilterBench$Chain.loopAt(I)LFilterBench$Loop; -/
set_option maxRecDepth 10000 in
set_option maxHeartbeats 4000000 in
theorem r_Chain_loopAt_21 {B : Nat} {SA : Nat → Nat} {d : Nat} (hd : 0 ≤ d) : ∀ (L : JLoc) (μ : JMem) (r : Option Nat), g_Chain_loopAt_21 μ.1 = some r → jR B SA d m_Chain_loopAt 21 L [] μ (some (rv r)) μ := by
  intro L μ r h
  unfold g_Chain_loopAt_21 at h
  refine jr_aconst_null jf_52_21 ?_
  refine jr_goto jf_52_22 ?_
  obtain rfl := Option.some.inj h
  exact jr_retA jf_52_31 jmt_52
set_option maxRecDepth 10000 in
set_option maxHeartbeats 4000000 in
theorem r_Chain_loopAt_e {B : Nat} {SA : Nat → Nat} {d : Nat} (hd : 0 ≤ d) : ∀ (L : JLoc) (v0 : Nat) (v1 : Int32) (μ : JMem) (r : Option Nat), jget L 0 = .ref v0 → jget L 1 = .int v1 → g_Chain_loopAt v0 v1 μ.1 = some r → jR B SA d m_Chain_loopAt 0 L [] μ (some (rv r)) μ := by
  intro L v0 v1 μ r hl0 hl1 h
  unfold g_Chain_loopAt at h
  refine jr_iload_n jf_52_0 rfl hl1 ?_
  replace h := ite_or h; rcases h with ⟨hc, h⟩ | ⟨hc, h⟩
  · refine jr_if_lt_t jf_52_1 hc ?_
    exact r_Chain_loopAt_21 hd _  _ _ h
  · refine jr_if_lt_f jf_52_1 hc ?_
    refine jr_iload_n jf_52_4 rfl hl1 ?_
    refine jr_aload_n jf_52_5 rfl hl0 ?_
    replace h := obd_of h; obtain ⟨x1, hx1, h⟩ := h
    refine jr_getI jf_52_6 hx1 ?_
    replace h := ite_or h; rcases h with ⟨hc, h⟩ | ⟨hc, h⟩
    · refine jr_if2_ge_t jf_52_9 hc ?_
      exact r_Chain_loopAt_21 hd _  _ _ h
    · refine jr_if2_ge_f jf_52_9 hc ?_
      refine jr_iload_n jf_52_12 rfl hl1 ?_
      refine jr_aload_n jf_52_13 rfl hl0 ?_
      replace h := obd_of h; obtain ⟨x2, hx2, h⟩ := h
      refine jr_getA jf_52_14 hx2 ?_
      replace h := obd_of h; obtain ⟨a3, rfl, h⟩ := h
      replace h := obd_of h; obtain ⟨x4, hx4, h⟩ := h
      refine jr_arraylength jf_52_17 hx4 ?_
      replace h := ite_or h; rcases h with ⟨hc, h⟩ | ⟨hc, h⟩
      · refine jr_if2_lt_t jf_52_18 hc ?_
        refine jr_aload_n jf_52_25 rfl hl0 ?_
        replace h := obd_of h; obtain ⟨x5, hx5, h⟩ := h
        refine jr_getA jf_52_26 hx5 ?_
        refine jr_iload_n jf_52_29 rfl hl1 ?_
        replace h := obd_of h; obtain ⟨a6, rfl, h⟩ := h
        replace h := obd_of h; obtain ⟨x7, hx7, h⟩ := h
        refine jr_aaload jf_52_30 hx7 ?_
        obtain rfl := Option.some.inj h
        exact jr_retA jf_52_31 jmt_52
      · refine jr_if2_lt_f jf_52_18 hc ?_
        exact r_Chain_loopAt_21 hd _  _ _ h
set_option maxRecDepth 10000 in
set_option maxHeartbeats 4000000 in
theorem r_Chain_loopAt {B : Nat} {SA : Nat → Nat} {d : Nat} (hd : 0 ≤ d) : ∀ (v0 : Nat) (v1 : Int32) (μ : JMem) (r : Option Nat), g_Chain_loopAt v0 v1 μ.1 = some r → jR B SA d m_Chain_loopAt 0 (lv_args 0 [.ref v0, .int v1]) [] μ (some (rv r)) μ := by
  intro v0 v1 μ r h
  exact r_Chain_loopAt_e hd (lv_args 0 _) _ _ _ _ (by simp [lv_args, jget, rv_cat, cat_int, cat_long, cat_double, cat_float, cat_ref]) (by simp [lv_args, jget, rv_cat, cat_int, cat_long, cat_double, cat_float, cat_ref]) h
/-! FilterBench$Real.exponent(J)I -/
set_option maxRecDepth 10000 in
set_option maxHeartbeats 4000000 in
theorem r_Real_exponent_17 {B : Nat} {SA : Nat → Nat} {d : Nat} (hd : 0 ≤ d) : ∀ (L : JLoc) (v0 : Nat) (s0 : Int32) (μ : JMem) (r : Int32), jget L 0 = .ref v0 → g_Real_exponent_17 v0 s0 μ.1 = some r → jR B SA d m_Real_exponent 17 L [.int s0] μ (some (.int r)) μ := by
  intro L v0 s0 μ r hl0 h
  unfold g_Real_exponent_17 at h
  refine jr_aload_n jf_58_17 rfl hl0 ?_
  replace h := obd_of h; obtain ⟨x1, hx1, h⟩ := h
  refine jr_getI jf_58_18 hx1 ?_
  refine jr_isub jf_58_21 ?_
  refine jr_aload_n jf_58_22 rfl hl0 ?_
  replace h := obd_of h; obtain ⟨x2, hx2, h⟩ := h
  refine jr_getI jf_58_23 hx2 ?_
  refine jr_isub jf_58_26 ?_
  obtain rfl := Option.some.inj h
  exact jr_retI jf_58_27 jmt_58
set_option maxRecDepth 10000 in
set_option maxHeartbeats 4000000 in
theorem r_Real_exponent_e {B : Nat} {SA : Nat → Nat} {d : Nat} (hd : 0 ≤ d) : ∀ (L : JLoc) (v0 : Nat) (v1 : Int64) (μ : JMem) (r : Int32), jget L 0 = .ref v0 → jget L 1 = .long v1 → g_Real_exponent v0 v1 μ.1 = some r → jR B SA d m_Real_exponent 0 L [] μ (some (.int r)) μ := by
  intro L v0 v1 μ r hl0 hl1 h
  unfold g_Real_exponent at h
  refine jr_lload_n jf_58_0 rfl hl1 ?_
  refine jr_aload_n jf_58_1 rfl hl0 ?_
  replace h := obd_of h; obtain ⟨x1, hx1, h⟩ := h
  refine jr_getI jf_58_2 hx1 ?_
  refine jr_lushr jf_58_5 ?_
  refine jr_l2i jf_58_6 ?_
  refine jr_istore_n jf_58_7 rfl jml_58 (by decide) ?_
  replace h := jlet_of h
  refine jr_iload_n jf_58_8 rfl jg1_same ?_
  replace h := ite_or h; rcases h with ⟨hc, h⟩ | ⟨hc, h⟩
  · refine jr_if_ne_f jf_58_9 hc ?_
    refine jr_iconst jf_58_12 jc_i_1 ?_
    refine jr_goto jf_58_13 ?_
    exact r_Real_exponent_17 hd _ _ _ _ _ (jg1_ne rfl hl0) h
  · refine jr_if_ne_t jf_58_9 hc ?_
    refine jr_iload_n jf_58_16 rfl jg1_same ?_
    exact r_Real_exponent_17 hd _ _ _ _ _ (jg1_ne rfl hl0) h
set_option maxRecDepth 10000 in
set_option maxHeartbeats 4000000 in
theorem r_Real_exponent {B : Nat} {SA : Nat → Nat} {d : Nat} (hd : 0 ≤ d) : ∀ (v0 : Nat) (v1 : Int64) (μ : JMem) (r : Int32), g_Real_exponent v0 v1 μ.1 = some r → jR B SA d m_Real_exponent 0 (lv_args 0 [.ref v0, .long v1]) [] μ (some (.int r)) μ := by
  intro v0 v1 μ r h
  exact r_Real_exponent_e hd (lv_args 0 _) _ _ _ _ (by simp [lv_args, jget, rv_cat, cat_int, cat_long, cat_double, cat_float, cat_ref]) (by simp [lv_args, jget, rv_cat, cat_int, cat_long, cat_double, cat_float, cat_ref]) h
/-! FilterBench$Real.mantissa(J)J -/
set_option maxRecDepth 10000 in
set_option maxHeartbeats 4000000 in
theorem r_Real_mantissa_e {B : Nat} {SA : Nat → Nat} {d : Nat} (hd : 0 ≤ d) : ∀ (L : JLoc) (v0 : Nat) (v1 : Int64) (μ : JMem) (r : Int64), jget L 0 = .ref v0 → jget L 1 = .long v1 → g_Real_mantissa v0 v1 μ.1 = some r → jR B SA d m_Real_mantissa 0 L [] μ (some (.long r)) μ := by
  intro L v0 v1 μ r hl0 hl1 h
  unfold g_Real_mantissa at h
  refine jr_lload_n jf_56_0 rfl hl1 ?_
  refine jr_aload_n jf_56_1 rfl hl0 ?_
  replace h := obd_of h; obtain ⟨x1, hx1, h⟩ := h
  refine jr_getJ jf_56_2 hx1 ?_
  refine jr_lcmp jf_56_5 ?_
  replace h := ite_or h; rcases h with ⟨hc, h⟩ | ⟨hc, h⟩
  · refine jr_ifl_ge_t jf_56_6 hc ?_
    refine jr_lload_n jf_56_13 rfl hl1 ?_
    refine jr_aload_n jf_56_14 rfl hl0 ?_
    replace h := obd_of h; obtain ⟨x2, hx2, h⟩ := h
    refine jr_getJ jf_56_15 hx2 ?_
    refine jr_lconst1 jf_56_18 ?_
    refine jr_lsub jf_56_19 ?_
    refine jr_land jf_56_20 ?_
    refine jr_aload_n jf_56_21 rfl hl0 ?_
    replace h := obd_of h; obtain ⟨x3, hx3, h⟩ := h
    refine jr_getJ jf_56_22 hx3 ?_
    refine jr_lor jf_56_25 ?_
    obtain rfl := Option.some.inj h
    exact jr_retJ jf_56_26 jmt_56
  · refine jr_ifl_ge_f jf_56_6 hc ?_
    refine jr_lload_n jf_56_9 rfl hl1 ?_
    refine jr_goto jf_56_10 ?_
    obtain rfl := Option.some.inj h
    exact jr_retJ jf_56_26 jmt_56
set_option maxRecDepth 10000 in
set_option maxHeartbeats 4000000 in
theorem r_Real_mantissa {B : Nat} {SA : Nat → Nat} {d : Nat} (hd : 0 ≤ d) : ∀ (v0 : Nat) (v1 : Int64) (μ : JMem) (r : Int64), g_Real_mantissa v0 v1 μ.1 = some r → jR B SA d m_Real_mantissa 0 (lv_args 0 [.ref v0, .long v1]) [] μ (some (.long r)) μ := by
  intro v0 v1 μ r h
  exact r_Real_mantissa_e hd (lv_args 0 _) _ _ _ _ (by simp [lv_args, jget, rv_cat, cat_int, cat_long, cat_double, cat_float, cat_ref]) (by simp [lv_args, jget, rv_cat, cat_int, cat_long, cat_double, cat_float, cat_ref]) h
/-! FilterBench$Numbers.halfEven(JI)J -/
set_option maxRecDepth 10000 in
set_option maxHeartbeats 4000000 in
theorem r_Numbers_halfEven_58 {B : Nat} {SA : Nat → Nat} {d : Nat} (hd : 0 ≤ d) : ∀ (L : JLoc) (v3 : Int64) (μ : JMem) (r : Int64), jget L 3 = .long v3 → g_Numbers_halfEven_58 v3 = r → jR B SA d m_Numbers_halfEven 58 L [] μ (some (.long r)) μ := by
  intro L v3 μ r hl3 h
  unfold g_Numbers_halfEven_58 at h
  refine jr_lload_n jf_61_58 rfl hl3 ?_
  refine jr_lconst1 jf_61_59 ?_
  refine jr_ladd jf_61_60 ?_
  refine jr_goto jf_61_61 ?_
  subst h
  exact jr_retJ jf_61_65 jmt_61
set_option maxRecDepth 10000 in
set_option maxHeartbeats 4000000 in
theorem r_Numbers_halfEven_e {B : Nat} {SA : Nat → Nat} {d : Nat} (hd : 0 ≤ d) : ∀ (L : JLoc) (v0 : Int64) (v2 : Int32) (μ : JMem) (r : Int64), jget L 0 = .long v0 → jget L 2 = .int v2 → g_Numbers_halfEven v0 v2 = r → jR B SA d m_Numbers_halfEven 0 L [] μ (some (.long r)) μ := by
  intro L v0 v2 μ r hl0 hl2 h
  unfold g_Numbers_halfEven at h
  refine jr_iload_n jf_61_0 rfl hl2 ?_
  replace h := ite_or h; rcases h with ⟨hc, h⟩ | ⟨hc, h⟩
  · refine jr_if_gt_t jf_61_1 hc ?_
    refine jr_iload_n jf_61_6 rfl hl2 ?_
    refine jr_bipush jf_61_7 jc_b_63 ?_
    replace h := ite_or h; rcases h with ⟨hc, h⟩ | ⟨hc, h⟩
    · refine jr_if2_le_t jf_61_9 hc ?_
      refine jr_lload_n jf_61_14 rfl hl0 ?_
      refine jr_iload_n jf_61_15 rfl hl2 ?_
      refine jr_lushr jf_61_16 ?_
      refine jr_lstore_n jf_61_17 rfl jml_61 (by decide) ?_
      replace h := jlet_of h
      refine jr_lload_n jf_61_18 rfl (jg2_ne rfl hl0) ?_
      refine jr_lconst1 jf_61_19 ?_
      refine jr_iload_n jf_61_20 rfl (jg2_pre rfl hl2) ?_
      refine jr_lshl jf_61_21 ?_
      refine jr_lconst1 jf_61_22 ?_
      refine jr_lsub jf_61_23 ?_
      refine jr_land jf_61_24 ?_
      refine jr_lstore jf_61_25 jml_61 (by decide) ?_
      replace h := jlet_of h
      refine jr_lconst1 jf_61_27 ?_
      refine jr_iload_n jf_61_28 rfl (jg2_ne rfl (jg2_pre rfl hl2)) ?_
      refine jr_iconst jf_61_29 jc_i_1 ?_
      refine jr_isub jf_61_30 ?_
      refine jr_lshl jf_61_31 ?_
      refine jr_lstore jf_61_32 jml_61 (by decide) ?_
      replace h := jlet_of h
      refine jr_lload jf_61_34 (jg2_ne rfl jg2_same) ?_
      refine jr_lload jf_61_36 jg2_same ?_
      refine jr_lcmp jf_61_38 ?_
      replace h := ite_or h; rcases h with ⟨hc, h⟩ | ⟨hc, h⟩
      · refine jr_ifl_gt_t jf_61_39 hc ?_
        exact r_Numbers_halfEven_58 hd _ _ _ _ (jg2_ne rfl (jg2_ne rfl jg2_same)) h
      · refine jr_ifl_gt_f jf_61_39 hc ?_
        refine jr_lload jf_61_42 (jg2_ne rfl jg2_same) ?_
        refine jr_lload jf_61_44 jg2_same ?_
        refine jr_lcmp jf_61_46 ?_
        replace h := ite_or h; rcases h with ⟨hc, h⟩ | ⟨hc, h⟩
        · refine jr_ifl_ne_f jf_61_47 hc ?_
          refine jr_lload_n jf_61_50 rfl (jg2_ne rfl (jg2_ne rfl jg2_same)) ?_
          refine jr_lconst1 jf_61_51 ?_
          refine jr_land jf_61_52 ?_
          refine jr_lconst1 jf_61_53 ?_
          refine jr_lcmp jf_61_54 ?_
          replace h := ite_or h; rcases h with ⟨hc, h⟩ | ⟨hc, h⟩
          · refine jr_ifl_ne_f jf_61_55 hc ?_
            exact r_Numbers_halfEven_58 hd _ _ _ _ (jg2_ne rfl (jg2_ne rfl jg2_same)) h
          · refine jr_ifl_ne_t jf_61_55 hc ?_
            refine jr_lload_n jf_61_64 rfl (jg2_ne rfl (jg2_ne rfl jg2_same)) ?_
            subst h
            exact jr_retJ jf_61_65 jmt_61
        · refine jr_ifl_ne_t jf_61_47 hc ?_
          refine jr_lload_n jf_61_64 rfl (jg2_ne rfl (jg2_ne rfl jg2_same)) ?_
          subst h
          exact jr_retJ jf_61_65 jmt_61
    · refine jr_if2_le_f jf_61_9 hc ?_
      refine jr_lconst0 jf_61_12 ?_
      subst h
      exact jr_retJ jf_61_13 jmt_61
  · refine jr_if_gt_f jf_61_1 hc ?_
    refine jr_lload_n jf_61_4 rfl hl0 ?_
    subst h
    exact jr_retJ jf_61_5 jmt_61
set_option maxRecDepth 10000 in
set_option maxHeartbeats 4000000 in
theorem r_Numbers_halfEven {B : Nat} {SA : Nat → Nat} {d : Nat} (hd : 0 ≤ d) : ∀ (v0 : Int64) (v2 : Int32) (μ : JMem) (r : Int64), g_Numbers_halfEven v0 v2 = r → jR B SA d m_Numbers_halfEven 0 (lv_args 0 [.long v0, .int v2]) [] μ (some (.long r)) μ := by
  intro v0 v2 μ r h
  exact r_Numbers_halfEven_e hd (lv_args 0 _) _ _ _ _ (by simp [lv_args, jget, rv_cat, cat_int, cat_long, cat_double, cat_float, cat_ref]) (by simp [lv_args, jget, rv_cat, cat_int, cat_long, cat_double, cat_float, cat_ref]) h
/-! FilterBench$Real.lead(J)I -/
set_option maxRecDepth 10000 in
set_option maxHeartbeats 4000000 in
theorem r_Real_lead_89 {B : Nat} {SA : Nat → Nat} {d : Nat} (hd : 0 ≤ d) : ∀ (L : JLoc) (v2 : Int64) (v4 : Int32) (μ : JMem) (r : Int32), jget L 2 = .long v2 → jget L 4 = .int v4 → g_Real_lead_89 v2 v4 = r → jR B SA d m_Real_lead 89 L [] μ (some (.int r)) μ := by
  intro L v2 v4 μ r hl2 hl4 h
  unfold g_Real_lead_89 at h
  refine jr_lload_n jf_57_89 rfl hl2 ?_
  refine jr_bipush jf_57_90 jc_b_62 ?_
  refine jr_lushr jf_57_92 ?_
  refine jr_lconst0 jf_57_93 ?_
  refine jr_lcmp jf_57_94 ?_
  replace h := ite_or h; rcases h with ⟨hc, h⟩ | ⟨hc, h⟩
  · refine jr_ifl_ne_f jf_57_95 hc ?_
    refine jr_iload jf_57_98 hl4 ?_
    refine jr_iconst jf_57_100 jc_i_1 ?_
    refine jr_iadd jf_57_101 ?_
    refine jr_goto jf_57_102 ?_
    subst h
    exact jr_retI jf_57_107 jmt_57
  · refine jr_ifl_ne_t jf_57_95 hc ?_
    refine jr_iload jf_57_105 hl4 ?_
    subst h
    exact jr_retI jf_57_107 jmt_57
set_option maxRecDepth 10000 in
set_option maxHeartbeats 4000000 in
theorem r_Real_lead_73 {B : Nat} {SA : Nat → Nat} {d : Nat} (hd : 0 ≤ d) : ∀ (L : JLoc) (v2 : Int64) (v4 : Int32) (μ : JMem) (r : Int32), jget L 2 = .long v2 → jget L 4 = .int v4 → g_Real_lead_73 v2 v4 = r → jR B SA d m_Real_lead 73 L [] μ (some (.int r)) μ := by
  intro L v2 v4 μ r hl2 hl4 h
  unfold g_Real_lead_73 at h
  refine jr_lload_n jf_57_73 rfl hl2 ?_
  refine jr_bipush jf_57_74 jc_b_61 ?_
  refine jr_lushr jf_57_76 ?_
  refine jr_lconst0 jf_57_77 ?_
  refine jr_lcmp jf_57_78 ?_
  replace h := ite_or h; rcases h with ⟨hc, h⟩ | ⟨hc, h⟩
  · refine jr_ifl_ne_f jf_57_79 hc ?_
    refine jr_iinc jf_57_82 jc_i_2 jml_57 (by decide) hl4 ?_
    refine jr_lload_n jf_57_85 rfl (jg1_ne rfl hl2) ?_
    refine jr_iconst jf_57_86 jc_i_2 ?_
    refine jr_lshl jf_57_87 ?_
    refine jr_lstore_n jf_57_88 rfl jml_57 (by decide) ?_
    replace h := jlet_of h
    exact r_Real_lead_89 hd _ _ _ _ _ jg2_same (jg2_ne rfl jg1_same) h
  · refine jr_ifl_ne_t jf_57_79 hc ?_
    exact r_Real_lead_89 hd _ _ _ _ _ hl2 hl4 h
set_option maxRecDepth 10000 in
set_option maxHeartbeats 4000000 in
theorem r_Real_lead_57 {B : Nat} {SA : Nat → Nat} {d : Nat} (hd : 0 ≤ d) : ∀ (L : JLoc) (v2 : Int64) (v4 : Int32) (μ : JMem) (r : Int32), jget L 2 = .long v2 → jget L 4 = .int v4 → g_Real_lead_57 v2 v4 = r → jR B SA d m_Real_lead 57 L [] μ (some (.int r)) μ := by
  intro L v2 v4 μ r hl2 hl4 h
  unfold g_Real_lead_57 at h
  refine jr_lload_n jf_57_57 rfl hl2 ?_
  refine jr_bipush jf_57_58 jc_b_59 ?_
  refine jr_lushr jf_57_60 ?_
  refine jr_lconst0 jf_57_61 ?_
  refine jr_lcmp jf_57_62 ?_
  replace h := ite_or h; rcases h with ⟨hc, h⟩ | ⟨hc, h⟩
  · refine jr_ifl_ne_f jf_57_63 hc ?_
    refine jr_iinc jf_57_66 jc_i_4 jml_57 (by decide) hl4 ?_
    refine jr_lload_n jf_57_69 rfl (jg1_ne rfl hl2) ?_
    refine jr_iconst jf_57_70 jc_i_4 ?_
    refine jr_lshl jf_57_71 ?_
    refine jr_lstore_n jf_57_72 rfl jml_57 (by decide) ?_
    replace h := jlet_of h
    exact r_Real_lead_73 hd _ _ _ _ _ jg2_same (jg2_ne rfl jg1_same) h
  · refine jr_ifl_ne_t jf_57_63 hc ?_
    exact r_Real_lead_73 hd _ _ _ _ _ hl2 hl4 h
set_option maxRecDepth 10000 in
set_option maxHeartbeats 4000000 in
theorem r_Real_lead_40 {B : Nat} {SA : Nat → Nat} {d : Nat} (hd : 0 ≤ d) : ∀ (L : JLoc) (v2 : Int64) (v4 : Int32) (μ : JMem) (r : Int32), jget L 2 = .long v2 → jget L 4 = .int v4 → g_Real_lead_40 v2 v4 = r → jR B SA d m_Real_lead 40 L [] μ (some (.int r)) μ := by
  intro L v2 v4 μ r hl2 hl4 h
  unfold g_Real_lead_40 at h
  refine jr_lload_n jf_57_40 rfl hl2 ?_
  refine jr_bipush jf_57_41 jc_b_55 ?_
  refine jr_lushr jf_57_43 ?_
  refine jr_lconst0 jf_57_44 ?_
  refine jr_lcmp jf_57_45 ?_
  replace h := ite_or h; rcases h with ⟨hc, h⟩ | ⟨hc, h⟩
  · refine jr_ifl_ne_f jf_57_46 hc ?_
    refine jr_iinc jf_57_49 jc_i_8 jml_57 (by decide) hl4 ?_
    refine jr_lload_n jf_57_52 rfl (jg1_ne rfl hl2) ?_
    refine jr_bipush jf_57_53 jc_b_8 ?_
    refine jr_lshl jf_57_55 ?_
    refine jr_lstore_n jf_57_56 rfl jml_57 (by decide) ?_
    replace h := jlet_of h
    exact r_Real_lead_57 hd _ _ _ _ _ jg2_same (jg2_ne rfl jg1_same) h
  · refine jr_ifl_ne_t jf_57_46 hc ?_
    exact r_Real_lead_57 hd _ _ _ _ _ hl2 hl4 h
set_option maxRecDepth 10000 in
set_option maxHeartbeats 4000000 in
theorem r_Real_lead_23 {B : Nat} {SA : Nat → Nat} {d : Nat} (hd : 0 ≤ d) : ∀ (L : JLoc) (v2 : Int64) (v4 : Int32) (μ : JMem) (r : Int32), jget L 2 = .long v2 → jget L 4 = .int v4 → g_Real_lead_23 v2 v4 = r → jR B SA d m_Real_lead 23 L [] μ (some (.int r)) μ := by
  intro L v2 v4 μ r hl2 hl4 h
  unfold g_Real_lead_23 at h
  refine jr_lload_n jf_57_23 rfl hl2 ?_
  refine jr_bipush jf_57_24 jc_b_47 ?_
  refine jr_lushr jf_57_26 ?_
  refine jr_lconst0 jf_57_27 ?_
  refine jr_lcmp jf_57_28 ?_
  replace h := ite_or h; rcases h with ⟨hc, h⟩ | ⟨hc, h⟩
  · refine jr_ifl_ne_f jf_57_29 hc ?_
    refine jr_iinc jf_57_32 jc_i_16 jml_57 (by decide) hl4 ?_
    refine jr_lload_n jf_57_35 rfl (jg1_ne rfl hl2) ?_
    refine jr_bipush jf_57_36 jc_b_16 ?_
    refine jr_lshl jf_57_38 ?_
    refine jr_lstore_n jf_57_39 rfl jml_57 (by decide) ?_
    replace h := jlet_of h
    exact r_Real_lead_40 hd _ _ _ _ _ jg2_same (jg2_ne rfl jg1_same) h
  · refine jr_ifl_ne_t jf_57_29 hc ?_
    exact r_Real_lead_40 hd _ _ _ _ _ hl2 hl4 h
set_option maxRecDepth 10000 in
set_option maxHeartbeats 4000000 in
theorem r_Real_lead_e {B : Nat} {SA : Nat → Nat} {d : Nat} (hd : 0 ≤ d) : ∀ (L : JLoc) (v0 : Int64) (μ : JMem) (r : Int32), jget L 0 = .long v0 → g_Real_lead v0 = r → jR B SA d m_Real_lead 0 L [] μ (some (.int r)) μ := by
  intro L v0 μ r hl0 h
  unfold g_Real_lead at h
  refine jr_lload_n jf_57_0 rfl hl0 ?_
  refine jr_lstore_n jf_57_1 rfl jml_57 (by decide) ?_
  refine jr_iconst jf_57_2 jc_i_0 ?_
  refine jr_istore jf_57_3 jml_57 (by decide) ?_
  refine jr_lload_n jf_57_5 rfl (jg1_ne rfl jg2_same) ?_
  refine jr_bipush jf_57_6 jc_b_31 ?_
  refine jr_lushr jf_57_8 ?_
  refine jr_lconst0 jf_57_9 ?_
  refine jr_lcmp jf_57_10 ?_
  replace h := ite_or h; rcases h with ⟨hc, h⟩ | ⟨hc, h⟩
  · refine jr_ifl_ne_f jf_57_11 hc ?_
    refine jr_bipush jf_57_14 jc_b_32 ?_
    refine jr_istore jf_57_16 jml_57 (by decide) ?_
    refine jr_lload_n jf_57_18 rfl (jg1_ne rfl (jg1_ne rfl jg2_same)) ?_
    refine jr_bipush jf_57_19 jc_b_32 ?_
    refine jr_lshl jf_57_21 ?_
    refine jr_lstore_n jf_57_22 rfl jml_57 (by decide) ?_
    replace h := jlet_of h
    exact r_Real_lead_23 hd _ _ _ _ _ jg2_same (jg2_ne rfl jg1_same) h
  · refine jr_ifl_ne_t jf_57_11 hc ?_
    exact r_Real_lead_23 hd _ _ _ _ _ (jg1_ne rfl jg2_same) jg1_same h
set_option maxRecDepth 10000 in
set_option maxHeartbeats 4000000 in
theorem r_Real_lead {B : Nat} {SA : Nat → Nat} {d : Nat} (hd : 0 ≤ d) : ∀ (v0 : Int64) (μ : JMem) (r : Int32), g_Real_lead v0 = r → jR B SA d m_Real_lead 0 (lv_args 0 [.long v0]) [] μ (some (.int r)) μ := by
  intro v0 μ r h
  exact r_Real_lead_e hd (lv_args 0 _) _ _ _ (by simp [lv_args, jget, rv_cat, cat_int, cat_long, cat_double, cat_float, cat_ref]) h
/-! FilterBench$Real.signed(ZJ)J -/
set_option maxRecDepth 10000 in
set_option maxHeartbeats 4000000 in
theorem r_Real_signed_e {B : Nat} {SA : Nat → Nat} {d : Nat} (hd : 0 ≤ d) : ∀ (L : JLoc) (v0 : Nat) (v1 : Bool) (v2 : Int64) (μ : JMem) (r : Int64), jget L 0 = .ref v0 → jget L 1 = .int (jb v1) → jget L 2 = .long v2 → g_Real_signed v0 v1 v2 μ.1 = some r → jR B SA d m_Real_signed 0 L [] μ (some (.long r)) μ := by
  intro L v0 v1 v2 μ r hl0 hl1 hl2 h
  unfold g_Real_signed at h
  refine jr_iload_n jf_55_0 rfl hl1 ?_
  replace h := ite_or h; rcases h with ⟨hc, h⟩ | ⟨hc, h⟩
  · refine jr_ifz_eq_f jf_55_1 hc ?_
    refine jr_lload_n jf_55_4 rfl hl2 ?_
    refine jr_aload_n jf_55_5 rfl hl0 ?_
    replace h := obd_of h; obtain ⟨x1, hx1, h⟩ := h
    refine jr_getJ jf_55_6 hx1 ?_
    refine jr_lor jf_55_9 ?_
    refine jr_goto jf_55_10 ?_
    obtain rfl := Option.some.inj h
    exact jr_retJ jf_55_14 jmt_55
  · refine jr_ifz_eq_t jf_55_1 hc ?_
    refine jr_lload_n jf_55_13 rfl hl2 ?_
    obtain rfl := Option.some.inj h
    exact jr_retJ jf_55_14 jmt_55
set_option maxRecDepth 10000 in
set_option maxHeartbeats 4000000 in
theorem r_Real_signed {B : Nat} {SA : Nat → Nat} {d : Nat} (hd : 0 ≤ d) : ∀ (v0 : Nat) (v1 : Bool) (v2 : Int64) (μ : JMem) (r : Int64), g_Real_signed v0 v1 v2 μ.1 = some r → jR B SA d m_Real_signed 0 (lv_args 0 [.ref v0, .int (jb v1), .long v2]) [] μ (some (.long r)) μ := by
  intro v0 v1 v2 μ r h
  exact r_Real_signed_e hd (lv_args 0 _) _ _ _ _ _ (by simp [lv_args, jget, rv_cat, cat_int, cat_long, cat_double, cat_float, cat_ref]) (by simp [lv_args, jget, rv_cat, cat_int, cat_long, cat_double, cat_float, cat_ref]) (by simp [lv_args, jget, rv_cat, cat_int, cat_long, cat_double, cat_float, cat_ref]) h
/-! FilterBench$Real.packed(ZIJ)J -/
set_option maxRecDepth 10000 in
set_option maxHeartbeats 4000000 in
theorem r_Real_packed_66 {B : Nat} {SA : Nat → Nat} {d : Nat} (hd : 1 ≤ d) : ∀ (L : JLoc) (v0 : Nat) (v1 : Bool) (v3 : Int64) (v5 : Int32) (v6 : Int32) (v7 : Int32) (μ : JMem) (r : Int64), jget L 0 = .ref v0 → jget L 1 = .int (jb v1) → jget L 3 = .long v3 → jget L 5 = .int v5 → jget L 6 = .int v6 → jget L 7 = .int v7 → g_Real_packed_66 v0 v1 v3 v5 v6 v7 μ.1 = some r → jR B SA d m_Real_packed 66 L [] μ (some (.long r)) μ := by
  intro L v0 v1 v3 v5 v6 v7 μ r hl0 hl1 hl3 hl5 hl6 hl7 h
  unfold g_Real_packed_66 at h
  refine jr_iload jf_60_66 hl6 ?_
  refine jr_iconst jf_60_68 jc_i_1 ?_
  refine jr_isub jf_60_69 ?_
  refine jr_i2l jf_60_70 ?_
  refine jr_aload_n jf_60_71 rfl hl0 ?_
  replace h := obd_of h; obtain ⟨x1, hx1, h⟩ := h
  refine jr_getI jf_60_72 hx1 ?_
  refine jr_lshl jf_60_75 ?_
  refine jr_lload_n jf_60_76 rfl hl3 ?_
  refine jr_iload jf_60_77 hl5 ?_
  refine jr_lshl jf_60_79 ?_
  refine jr_iload jf_60_80 hl7 ?_
  refine jr_S5_2 jf_60_82 (by omega) (r_Numbers_halfEven (by omega) _ _ _ _ rfl) (Nat.le_of_ble_eq_true rfl) jml_61 (Nat.le_of_ble_eq_true rfl) ?_
  refine jr_ladd jf_60_85 ?_
  refine jr_lstore jf_60_86 jml_60 (by decide) ?_
  replace h := jlet_of h
  refine jr_aload_n jf_60_88 rfl (jg2_ne rfl hl0) ?_
  refine jr_iload_n jf_60_89 rfl (jg2_ne rfl hl1) ?_
  refine jr_lload jf_60_90 jg2_same ?_
  replace h := jgd_of h; obtain ⟨hb3, h⟩ := h
  replace h := obd_of h; obtain ⟨x4, hx4, h⟩ := h
  refine jr_V6_2 jf_60_92 hb3 (by omega) (r_Real_signed (by omega) _ _ _ _ _ hx4) (Nat.le_of_ble_eq_true rfl) jml_55 (Nat.le_of_ble_eq_true rfl) ?_
  obtain rfl := Option.some.inj h
  exact jr_retJ jf_60_95 jmt_60
set_option maxRecDepth 10000 in
set_option maxHeartbeats 4000000 in
theorem r_Real_packed_e {B : Nat} {SA : Nat → Nat} {d : Nat} (hd : 1 ≤ d) : ∀ (L : JLoc) (v0 : Nat) (v1 : Bool) (v2 : Int32) (v3 : Int64) (μ : JMem) (r : Int64), jget L 0 = .ref v0 → jget L 1 = .int (jb v1) → jget L 2 = .int v2 → jget L 3 = .long v3 → g_Real_packed v0 v1 v2 v3 μ.1 = some r → jR B SA d m_Real_packed 0 L [] μ (some (.long r)) μ := by
  intro L v0 v1 v2 v3 μ r hl0 hl1 hl2 hl3 h
  unfold g_Real_packed at h
  refine jr_lload_n jf_60_0 rfl hl3 ?_
  refine jr_S3_1 jf_60_1 (by omega) (r_Real_lead (by omega) _ _ _ rfl) (Nat.le_of_ble_eq_true rfl) jml_57 (Nat.le_of_ble_eq_true rfl) ?_
  refine jr_istore jf_60_4 jml_60 (by decide) ?_
  refine jr_iload_n jf_60_6 rfl (jg1_ne rfl hl2) ?_
  refine jr_iload jf_60_7 jg1_same ?_
  refine jr_isub jf_60_9 ?_
  refine jr_bipush jf_60_10 jc_b_62 ?_
  refine jr_iadd jf_60_12 ?_
  refine jr_aload_n jf_60_13 rfl (jg1_ne rfl hl0) ?_
  replace h := obd_of h; obtain ⟨x1, hx1, h⟩ := h
  refine jr_getI jf_60_14 hx1 ?_
  refine jr_iadd jf_60_17 ?_
  refine jr_istore jf_60_18 jml_60 (by decide) ?_
  replace h := jlet_of h
  refine jr_iload jf_60_20 jg1_same ?_
  refine jr_aload_n jf_60_22 rfl (jg1_ne rfl (jg1_ne rfl hl0)) ?_
  replace h := obd_of h; obtain ⟨x3, hx3, h⟩ := h
  refine jr_getI jf_60_23 hx3 ?_
  replace h := ite_or h; rcases h with ⟨hc, h⟩ | ⟨hc, h⟩
  · refine jr_if2_lt_t jf_60_26 hc ?_
    refine jr_bipush jf_60_39 jc_b_62 ?_
    refine jr_aload_n jf_60_41 rfl (jg1_ne rfl (jg1_ne rfl hl0)) ?_
    replace h := obd_of h; obtain ⟨x4, hx4, h⟩ := h
    refine jr_getI jf_60_42 hx4 ?_
    refine jr_isub jf_60_45 ?_
    refine jr_istore jf_60_46 jml_60 (by decide) ?_
    refine jr_iload jf_60_48 (jg1_pre rfl jg1_same) ?_
    refine jr_iconst jf_60_50 jc_i_1 ?_
    replace h := ite_or h; rcases h with ⟨hc, h⟩ | ⟨hc, h⟩
    · refine jr_if2_ge_t jf_60_51 hc ?_
      exact r_Real_packed_66 hd _ _ _ _ _ _ _ _ _ (jg1_ne rfl (jg1_ne rfl (jg1_ne rfl hl0))) (jg1_ne rfl (jg1_ne rfl (jg1_ne rfl hl1))) (jg1_ne rfl (jg1_ne rfl (jg1_ne rfl hl3))) (jg1_ne rfl (jg1_pre rfl jg1_same)) (jg1_pre rfl jg1_same) jg1_same h
    · refine jr_if2_ge_f jf_60_51 hc ?_
      refine jr_iload jf_60_54 jg1_same ?_
      refine jr_iconst jf_60_56 jc_i_1 ?_
      refine jr_iload jf_60_57 (jg1_pre rfl jg1_same) ?_
      refine jr_isub jf_60_59 ?_
      refine jr_iadd jf_60_60 ?_
      refine jr_istore jf_60_61 jml_60 (by decide) ?_
      replace h := jlet_of h
      refine jr_iconst jf_60_63 jc_i_1 ?_
      refine jr_istore jf_60_64 jml_60 (by decide) ?_
      exact r_Real_packed_66 hd _ _ _ _ _ _ _ _ _ (jg1_ne rfl (jg1_ne rfl (jg1_ne rfl (jg1_ne rfl (jg1_ne rfl hl0))))) (jg1_ne rfl (jg1_ne rfl (jg1_ne rfl (jg1_ne rfl (jg1_ne rfl hl1))))) (jg1_ne rfl (jg1_ne rfl (jg1_ne rfl (jg1_ne rfl (jg1_ne rfl hl3))))) (jg1_pre rfl (jg1_ne rfl (jg1_ne rfl (jg1_pre rfl jg1_same)))) jg1_same (jg1_ne rfl jg1_same) h
  · refine jr_if2_lt_f jf_60_26 hc ?_
    refine jr_aload_n jf_60_29 rfl (jg1_ne rfl (jg1_ne rfl hl0)) ?_
    refine jr_iload_n jf_60_30 rfl (jg1_ne rfl (jg1_ne rfl hl1)) ?_
    refine jr_aload_n jf_60_31 rfl (jg1_ne rfl (jg1_ne rfl hl0)) ?_
    replace h := obd_of h; obtain ⟨x6, hx6, h⟩ := h
    refine jr_getJ jf_60_32 hx6 ?_
    replace h := jgd_of h; obtain ⟨hb7, h⟩ := h
    replace h := obd_of h; obtain ⟨x8, hx8, h⟩ := h
    refine jr_V6_2 jf_60_35 hb7 (by omega) (r_Real_signed (by omega) _ _ _ _ _ hx8) (Nat.le_of_ble_eq_true rfl) jml_55 (Nat.le_of_ble_eq_true rfl) ?_
    obtain rfl := Option.some.inj h
    exact jr_retJ jf_60_38 jmt_60
set_option maxRecDepth 10000 in
set_option maxHeartbeats 4000000 in
theorem r_Real_packed {B : Nat} {SA : Nat → Nat} {d : Nat} (hd : 1 ≤ d) : ∀ (v0 : Nat) (v1 : Bool) (v2 : Int32) (v3 : Int64) (μ : JMem) (r : Int64), g_Real_packed v0 v1 v2 v3 μ.1 = some r → jR B SA d m_Real_packed 0 (lv_args 0 [.ref v0, .int (jb v1), .int v2, .long v3]) [] μ (some (.long r)) μ := by
  intro v0 v1 v2 v3 μ r h
  exact r_Real_packed_e hd (lv_args 0 _) _ _ _ _ _ _ (by simp [lv_args, jget, rv_cat, cat_int, cat_long, cat_double, cat_float, cat_ref]) (by simp [lv_args, jget, rv_cat, cat_int, cat_long, cat_double, cat_float, cat_ref]) (by simp [lv_args, jget, rv_cat, cat_int, cat_long, cat_double, cat_float, cat_ref]) (by simp [lv_args, jget, rv_cat, cat_int, cat_long, cat_double, cat_float, cat_ref]) h
/-! FilterBench$Real.shifted(JI)J -/
set_option maxRecDepth 10000 in
set_option maxHeartbeats 4000000 in
theorem r_Real_shifted_e {B : Nat} {SA : Nat → Nat} {d : Nat} (hd : 0 ≤ d) : ∀ (L : JLoc) (v0 : Int64) (v2 : Int32) (μ : JMem) (r : Int64), jget L 0 = .long v0 → jget L 2 = .int v2 → g_Real_shifted v0 v2 = r → jR B SA d m_Real_shifted 0 L [] μ (some (.long r)) μ := by
  intro L v0 v2 μ r hl0 hl2 h
  unfold g_Real_shifted at h
  refine jr_iload_n jf_68_0 rfl hl2 ?_
  replace h := ite_or h; rcases h with ⟨hc, h⟩ | ⟨hc, h⟩
  · refine jr_if_gt_t jf_68_1 hc ?_
    refine jr_iload_n jf_68_6 rfl hl2 ?_
    refine jr_bipush jf_68_7 jc_b_62 ?_
    replace h := ite_or h; rcases h with ⟨hc, h⟩ | ⟨hc, h⟩
    · refine jr_if2_le_t jf_68_9 hc ?_
      refine jr_lload_n jf_68_14 rfl hl0 ?_
      refine jr_iload_n jf_68_15 rfl hl2 ?_
      refine jr_lushr jf_68_16 ?_
      refine jr_lstore_n jf_68_17 rfl jml_68 (by decide) ?_
      replace h := jlet_of h
      refine jr_lload_n jf_68_18 rfl jg2_same ?_
      refine jr_iload_n jf_68_19 rfl (jg2_pre rfl hl2) ?_
      refine jr_lshl jf_68_20 ?_
      refine jr_lload_n jf_68_21 rfl (jg2_ne rfl hl0) ?_
      refine jr_lcmp jf_68_22 ?_
      replace h := ite_or h; rcases h with ⟨hc, h⟩ | ⟨hc, h⟩
      · refine jr_ifl_ne_f jf_68_23 hc ?_
        refine jr_lload_n jf_68_26 rfl jg2_same ?_
        refine jr_goto jf_68_27 ?_
        subst h
        exact jr_retJ jf_68_33 jmt_68
      · refine jr_ifl_ne_t jf_68_23 hc ?_
        refine jr_lload_n jf_68_30 rfl jg2_same ?_
        refine jr_lconst1 jf_68_31 ?_
        refine jr_lor jf_68_32 ?_
        subst h
        exact jr_retJ jf_68_33 jmt_68
    · refine jr_if2_le_f jf_68_9 hc ?_
      refine jr_lconst1 jf_68_12 ?_
      subst h
      exact jr_retJ jf_68_13 jmt_68
  · refine jr_if_gt_f jf_68_1 hc ?_
    refine jr_lload_n jf_68_4 rfl hl0 ?_
    subst h
    exact jr_retJ jf_68_5 jmt_68
set_option maxRecDepth 10000 in
set_option maxHeartbeats 4000000 in
theorem r_Real_shifted {B : Nat} {SA : Nat → Nat} {d : Nat} (hd : 0 ≤ d) : ∀ (v0 : Int64) (v2 : Int32) (μ : JMem) (r : Int64), g_Real_shifted v0 v2 = r → jR B SA d m_Real_shifted 0 (lv_args 0 [.long v0, .int v2]) [] μ (some (.long r)) μ := by
  intro v0 v2 μ r h
  exact r_Real_shifted_e hd (lv_args 0 _) _ _ _ _ (by simp [lv_args, jget, rv_cat, cat_int, cat_long, cat_double, cat_float, cat_ref]) (by simp [lv_args, jget, rv_cat, cat_int, cat_long, cat_double, cat_float, cat_ref]) h
/-! FilterBench$Real.added(ZJZJ)J -/
set_option maxRecDepth 10000 in
set_option maxHeartbeats 4000000 in
theorem r_Real_added_62 {B : Nat} {SA : Nat → Nat} {d : Nat} (hd : 2 ≤ d) : ∀ (L : JLoc) (v0 : Nat) (v1 : Bool) (v7 : Int32) (s0 : Int64) (μ : JMem) (r : Int64), jget L 0 = .ref v0 → jget L 1 = .int (jb v1) → jget L 7 = .int v7 → g_Real_added_62 v0 v1 v7 s0 μ.1 = some r → jR B SA d m_Real_added 62 L [.long s0] μ (some (.long r)) μ := by
  intro L v0 v1 v7 s0 μ r hl0 hl1 hl7 h
  unfold g_Real_added_62 at h
  refine jr_lstore jf_67_62 jml_67 (by decide) ?_
  refine jr_lload jf_67_64 jg2_same ?_
  refine jr_lconst0 jf_67_66 ?_
  refine jr_lcmp jf_67_67 ?_
  replace h := ite_or h; rcases h with ⟨hc, h⟩ | ⟨hc, h⟩
  · refine jr_ifl_ne_f jf_67_68 hc ?_
    refine jr_lconst0 jf_67_71 ?_
    refine jr_goto jf_67_72 ?_
    obtain rfl := Option.some.inj h
    exact jr_retJ jf_67_87 jmt_67
  · refine jr_ifl_ne_t jf_67_68 hc ?_
    refine jr_aload_n jf_67_75 rfl (jg2_ne rfl hl0) ?_
    refine jr_iload_n jf_67_76 rfl (jg2_ne rfl hl1) ?_
    refine jr_iload jf_67_77 (jg2_ne rfl hl7) ?_
    refine jr_bipush jf_67_79 jc_b_9 ?_
    refine jr_isub jf_67_81 ?_
    refine jr_lload jf_67_82 jg2_same ?_
    replace h := jgd_of h; obtain ⟨hb1, h⟩ := h
    replace h := obd_of h; obtain ⟨x2, hx2, h⟩ := h
    refine jr_V6_3 jf_67_84 hb1 (by omega) (r_Real_packed (by omega) _ _ _ _ _ _ hx2) (Nat.le_of_ble_eq_true rfl) jml_60 (Nat.le_of_ble_eq_true rfl) ?_
    obtain rfl := Option.some.inj h
    exact jr_retJ jf_67_87 jmt_67
set_option maxRecDepth 10000 in
set_option maxHeartbeats 4000000 in
theorem r_Real_added_e {B : Nat} {SA : Nat → Nat} {d : Nat} (hd : 2 ≤ d) : ∀ (L : JLoc) (v0 : Nat) (v1 : Bool) (v2 : Int64) (v4 : Bool) (v5 : Int64) (μ : JMem) (r : Int64), jget L 0 = .ref v0 → jget L 1 = .int (jb v1) → jget L 2 = .long v2 → jget L 4 = .int (jb v4) → jget L 5 = .long v5 → g_Real_added v0 v1 v2 v4 v5 μ.1 = some r → jR B SA d m_Real_added 0 L [] μ (some (.long r)) μ := by
  intro L v0 v1 v2 v4 v5 μ r hl0 hl1 hl2 hl4 hl5 h
  unfold g_Real_added at h
  refine jr_aload_n jf_67_0 rfl hl0 ?_
  refine jr_lload_n jf_67_1 rfl hl2 ?_
  replace h := jgd_of h; obtain ⟨hb1, h⟩ := h
  replace h := obd_of h; obtain ⟨x2, hx2, h⟩ := h
  refine jr_V6_1 jf_67_2 hb1 (by omega) (r_Real_exponent (by omega) _ _ _ _ hx2) (Nat.le_of_ble_eq_true rfl) jml_58 (Nat.le_of_ble_eq_true rfl) ?_
  refine jr_istore jf_67_5 jml_67 (by decide) ?_
  refine jr_iload jf_67_7 jg1_same ?_
  refine jr_aload_n jf_67_9 rfl (jg1_ne rfl hl0) ?_
  refine jr_lload jf_67_10 (jg1_ne rfl hl5) ?_
  replace h := jgd_of h; obtain ⟨hb3, h⟩ := h
  replace h := obd_of h; obtain ⟨x4, hx4, h⟩ := h
  refine jr_V6_1 jf_67_12 hb3 (by omega) (r_Real_exponent (by omega) _ _ _ _ hx4) (Nat.le_of_ble_eq_true rfl) jml_58 (Nat.le_of_ble_eq_true rfl) ?_
  refine jr_isub jf_67_15 ?_
  refine jr_istore jf_67_16 jml_67 (by decide) ?_
  refine jr_aload_n jf_67_18 rfl (jg1_ne rfl (jg1_ne rfl hl0)) ?_
  refine jr_lload_n jf_67_19 rfl (jg1_ne rfl (jg1_ne rfl hl2)) ?_
  replace h := jgd_of h; obtain ⟨hb5, h⟩ := h
  replace h := obd_of h; obtain ⟨x6, hx6, h⟩ := h
  refine jr_V6_1 jf_67_20 hb5 (by omega) (r_Real_mantissa (by omega) _ _ _ _ hx6) (Nat.le_of_ble_eq_true rfl) jml_56 (Nat.le_of_ble_eq_true rfl) ?_
  refine jr_bipush jf_67_23 jc_b_9 ?_
  refine jr_lshl jf_67_25 ?_
  refine jr_lstore jf_67_26 jml_67 (by decide) ?_
  replace h := jlet_of h
  refine jr_aload_n jf_67_28 rfl (jg2_ne rfl (jg1_ne rfl (jg1_ne rfl hl0))) ?_
  refine jr_lload jf_67_29 (jg2_ne rfl (jg1_ne rfl (jg1_ne rfl hl5))) ?_
  replace h := jgd_of h; obtain ⟨hb8, h⟩ := h
  replace h := obd_of h; obtain ⟨x9, hx9, h⟩ := h
  refine jr_V6_1 jf_67_31 hb8 (by omega) (r_Real_mantissa (by omega) _ _ _ _ hx9) (Nat.le_of_ble_eq_true rfl) jml_56 (Nat.le_of_ble_eq_true rfl) ?_
  refine jr_bipush jf_67_34 jc_b_9 ?_
  refine jr_lshl jf_67_36 ?_
  refine jr_iload jf_67_37 (jg2_pre rfl jg1_same) ?_
  refine jr_S3_2 jf_67_39 (by omega) (r_Real_shifted (by omega) _ _ _ _ rfl) (Nat.le_of_ble_eq_true rfl) jml_68 (Nat.le_of_ble_eq_true rfl) ?_
  refine jr_lstore jf_67_42 jml_67 (by decide) ?_
  replace h := jlet_of h
  refine jr_iload jf_67_44 (jg2_ne rfl (jg2_ne rfl (jg1_ne rfl (jg1_ne rfl hl4)))) ?_
  replace h := ite_or h; rcases h with ⟨hc, h⟩ | ⟨hc, h⟩
  · refine jr_ifz_eq_f jf_67_46 hc ?_
    refine jr_lload jf_67_49 (jg2_ne rfl jg2_same) ?_
    refine jr_lload jf_67_51 jg2_same ?_
    refine jr_ladd jf_67_53 ?_
    refine jr_goto jf_67_54 ?_
    exact r_Real_added_62 hd _ _ _ _ _ _ _ (jg2_ne rfl (jg2_ne rfl (jg1_ne rfl (jg1_ne rfl hl0)))) (jg2_ne rfl (jg2_ne rfl (jg1_ne rfl (jg1_ne rfl hl1)))) (jg2_ne rfl (jg2_ne rfl (jg1_pre rfl jg1_same))) h
  · refine jr_ifz_eq_t jf_67_46 hc ?_
    refine jr_lload jf_67_57 (jg2_ne rfl jg2_same) ?_
    refine jr_lload jf_67_59 jg2_same ?_
    refine jr_lsub jf_67_61 ?_
    exact r_Real_added_62 hd _ _ _ _ _ _ _ (jg2_ne rfl (jg2_ne rfl (jg1_ne rfl (jg1_ne rfl hl0)))) (jg2_ne rfl (jg2_ne rfl (jg1_ne rfl (jg1_ne rfl hl1)))) (jg2_ne rfl (jg2_ne rfl (jg1_pre rfl jg1_same))) h
set_option maxRecDepth 10000 in
set_option maxHeartbeats 4000000 in
theorem r_Real_added {B : Nat} {SA : Nat → Nat} {d : Nat} (hd : 2 ≤ d) : ∀ (v0 : Nat) (v1 : Bool) (v2 : Int64) (v4 : Bool) (v5 : Int64) (μ : JMem) (r : Int64), g_Real_added v0 v1 v2 v4 v5 μ.1 = some r → jR B SA d m_Real_added 0 (lv_args 0 [.ref v0, .int (jb v1), .long v2, .int (jb v4), .long v5]) [] μ (some (.long r)) μ := by
  intro v0 v1 v2 v4 v5 μ r h
  exact r_Real_added_e hd (lv_args 0 _) _ _ _ _ _ _ _ (by simp [lv_args, jget, rv_cat, cat_int, cat_long, cat_double, cat_float, cat_ref]) (by simp [lv_args, jget, rv_cat, cat_int, cat_long, cat_double, cat_float, cat_ref]) (by simp [lv_args, jget, rv_cat, cat_int, cat_long, cat_double, cat_float, cat_ref]) (by simp [lv_args, jget, rv_cat, cat_int, cat_long, cat_double, cat_float, cat_ref]) (by simp [lv_args, jget, rv_cat, cat_int, cat_long, cat_double, cat_float, cat_ref]) h
/-! FilterBench$Real.sizeOf(J)J -/
set_option maxRecDepth 10000 in
set_option maxHeartbeats 4000000 in
theorem r_Real_sizeOf_e {B : Nat} {SA : Nat → Nat} {d : Nat} (hd : 0 ≤ d) : ∀ (L : JLoc) (v0 : Nat) (v1 : Int64) (μ : JMem) (r : Int64), jget L 0 = .ref v0 → jget L 1 = .long v1 → g_Real_sizeOf v0 v1 μ.1 = some r → jR B SA d m_Real_sizeOf 0 L [] μ (some (.long r)) μ := by
  intro L v0 v1 μ r hl0 hl1 h
  unfold g_Real_sizeOf at h
  refine jr_lload_n jf_54_0 rfl hl1 ?_
  refine jr_aload_n jf_54_1 rfl hl0 ?_
  replace h := obd_of h; obtain ⟨x1, hx1, h⟩ := h
  refine jr_getJ jf_54_2 hx1 ?_
  refine jr_ldc2l jf_54_5 ?_
  refine jr_lxor jf_54_8 ?_
  refine jr_land jf_54_9 ?_
  obtain rfl := Option.some.inj h
  exact jr_retJ jf_54_10 jmt_54
set_option maxRecDepth 10000 in
set_option maxHeartbeats 4000000 in
theorem r_Real_sizeOf {B : Nat} {SA : Nat → Nat} {d : Nat} (hd : 0 ≤ d) : ∀ (v0 : Nat) (v1 : Int64) (μ : JMem) (r : Int64), g_Real_sizeOf v0 v1 μ.1 = some r → jR B SA d m_Real_sizeOf 0 (lv_args 0 [.ref v0, .long v1]) [] μ (some (.long r)) μ := by
  intro v0 v1 μ r h
  exact r_Real_sizeOf_e hd (lv_args 0 _) _ _ _ _ (by simp [lv_args, jget, rv_cat, cat_int, cat_long, cat_double, cat_float, cat_ref]) (by simp [lv_args, jget, rv_cat, cat_int, cat_long, cat_double, cat_float, cat_ref]) h
/-! FilterBench$Real.withInfinity(JJ)J -/
set_option maxRecDepth 10000 in
set_option maxHeartbeats 4000000 in
theorem r_Real_withInfinity_16 {B : Nat} {SA : Nat → Nat} {d : Nat} (hd : 1 ≤ d) : ∀ (L : JLoc) (v0 : Nat) (μ : JMem) (r : Int64), jget L 0 = .ref v0 → g_Real_withInfinity_16 v0 μ.1 = some r → jR B SA d m_Real_withInfinity 16 L [] μ (some (.long r)) μ := by
  intro L v0 μ r hl0 h
  unfold g_Real_withInfinity_16 at h
  refine jr_aload_n jf_66_16 rfl hl0 ?_
  replace h := obd_of h; obtain ⟨x1, hx1, h⟩ := h
  refine jr_getJ jf_66_17 hx1 ?_
  obtain rfl := Option.some.inj h
  exact jr_retJ jf_66_20 jmt_66
set_option maxRecDepth 10000 in
set_option maxHeartbeats 4000000 in
theorem r_Real_withInfinity_e {B : Nat} {SA : Nat → Nat} {d : Nat} (hd : 1 ≤ d) : ∀ (L : JLoc) (v0 : Nat) (v1 : Int64) (v3 : Int64) (μ : JMem) (r : Int64), jget L 0 = .ref v0 → jget L 1 = .long v1 → jget L 3 = .long v3 → g_Real_withInfinity v0 v1 v3 μ.1 = some r → jR B SA d m_Real_withInfinity 0 L [] μ (some (.long r)) μ := by
  intro L v0 v1 v3 μ r hl0 hl1 hl3 h
  unfold g_Real_withInfinity at h
  refine jr_aload_n jf_66_0 rfl hl0 ?_
  refine jr_lload_n jf_66_1 rfl hl1 ?_
  replace h := jgd_of h; obtain ⟨hb1, h⟩ := h
  replace h := obd_of h; obtain ⟨x2, hx2, h⟩ := h
  refine jr_V6_1 jf_66_2 hb1 (by omega) (r_Real_isNumber (by omega) _ _ _ _ hx2) (Nat.le_of_ble_eq_true rfl) jml_18 (Nat.le_of_ble_eq_true rfl) ?_
  replace h := ite_or h; rcases h with ⟨hc, h⟩ | ⟨hc, h⟩
  · refine jr_ifz_eq_f jf_66_5 hc ?_
    refine jr_aload_n jf_66_8 rfl hl0 ?_
    refine jr_lload_n jf_66_9 rfl hl3 ?_
    replace h := jgd_of h; obtain ⟨hb3, h⟩ := h
    replace h := obd_of h; obtain ⟨x4, hx4, h⟩ := h
    refine jr_V6_1 jf_66_10 hb3 (by omega) (r_Real_isNumber (by omega) _ _ _ _ hx4) (Nat.le_of_ble_eq_true rfl) jml_18 (Nat.le_of_ble_eq_true rfl) ?_
    replace h := ite_or h; rcases h with ⟨hc, h⟩ | ⟨hc, h⟩
    · refine jr_ifz_ne_t jf_66_13 hc ?_
      refine jr_aload_n jf_66_21 rfl hl0 ?_
      refine jr_lload_n jf_66_22 rfl hl1 ?_
      replace h := jgd_of h; obtain ⟨hb5, h⟩ := h
      replace h := obd_of h; obtain ⟨x6, hx6, h⟩ := h
      refine jr_V6_1 jf_66_23 hb5 (by omega) (r_Real_sizeOf (by omega) _ _ _ _ hx6) (Nat.le_of_ble_eq_true rfl) jml_54 (Nat.le_of_ble_eq_true rfl) ?_
      refine jr_aload_n jf_66_26 rfl hl0 ?_
      replace h := obd_of h; obtain ⟨x7, hx7, h⟩ := h
      refine jr_getJ jf_66_27 hx7 ?_
      refine jr_lcmp jf_66_30 ?_
      replace h := ite_or h; rcases h with ⟨hc, h⟩ | ⟨hc, h⟩
      · refine jr_ifl_eq_t jf_66_31 hc ?_
        refine jr_aload_n jf_66_36 rfl hl0 ?_
        refine jr_lload_n jf_66_37 rfl hl3 ?_
        replace h := jgd_of h; obtain ⟨hb8, h⟩ := h
        replace h := obd_of h; obtain ⟨x9, hx9, h⟩ := h
        refine jr_V6_1 jf_66_38 hb8 (by omega) (r_Real_sizeOf (by omega) _ _ _ _ hx9) (Nat.le_of_ble_eq_true rfl) jml_54 (Nat.le_of_ble_eq_true rfl) ?_
        refine jr_aload_n jf_66_41 rfl hl0 ?_
        replace h := obd_of h; obtain ⟨x10, hx10, h⟩ := h
        refine jr_getJ jf_66_42 hx10 ?_
        refine jr_lcmp jf_66_45 ?_
        replace h := ite_or h; rcases h with ⟨hc, h⟩ | ⟨hc, h⟩
        · refine jr_ifl_ne_f jf_66_46 hc ?_
          refine jr_lload_n jf_66_49 rfl hl1 ?_
          refine jr_lload_n jf_66_50 rfl hl3 ?_
          refine jr_lcmp jf_66_51 ?_
          replace h := ite_or h; rcases h with ⟨hc, h⟩ | ⟨hc, h⟩
          · refine jr_ifl_eq_t jf_66_52 hc ?_
            refine jr_lload_n jf_66_62 rfl hl1 ?_
            obtain rfl := Option.some.inj h
            exact jr_retJ jf_66_63 jmt_66
          · refine jr_ifl_eq_f jf_66_52 hc ?_
            refine jr_aload_n jf_66_55 rfl hl0 ?_
            replace h := obd_of h; obtain ⟨x11, hx11, h⟩ := h
            refine jr_getJ jf_66_56 hx11 ?_
            refine jr_goto jf_66_59 ?_
            obtain rfl := Option.some.inj h
            exact jr_retJ jf_66_63 jmt_66
        · refine jr_ifl_ne_t jf_66_46 hc ?_
          refine jr_lload_n jf_66_62 rfl hl1 ?_
          obtain rfl := Option.some.inj h
          exact jr_retJ jf_66_63 jmt_66
      · refine jr_ifl_eq_f jf_66_31 hc ?_
        refine jr_lload_n jf_66_34 rfl hl3 ?_
        obtain rfl := Option.some.inj h
        exact jr_retJ jf_66_35 jmt_66
    · refine jr_ifz_ne_f jf_66_13 hc ?_
      exact r_Real_withInfinity_16 hd _ _ _ _ hl0 h
  · refine jr_ifz_eq_t jf_66_5 hc ?_
    exact r_Real_withInfinity_16 hd _ _ _ _ hl0 h
set_option maxRecDepth 10000 in
set_option maxHeartbeats 4000000 in
theorem r_Real_withInfinity {B : Nat} {SA : Nat → Nat} {d : Nat} (hd : 1 ≤ d) : ∀ (v0 : Nat) (v1 : Int64) (v3 : Int64) (μ : JMem) (r : Int64), g_Real_withInfinity v0 v1 v3 μ.1 = some r → jR B SA d m_Real_withInfinity 0 (lv_args 0 [.ref v0, .long v1, .long v3]) [] μ (some (.long r)) μ := by
  intro v0 v1 v3 μ r h
  exact r_Real_withInfinity_e hd (lv_args 0 _) _ _ _ _ _ (by simp [lv_args, jget, rv_cat, cat_int, cat_long, cat_double, cat_float, cat_ref]) (by simp [lv_args, jget, rv_cat, cat_int, cat_long, cat_double, cat_float, cat_ref]) (by simp [lv_args, jget, rv_cat, cat_int, cat_long, cat_double, cat_float, cat_ref]) h
/-! FilterBench$Real.plus(JJ)J -/
set_option maxRecDepth 10000 in
set_option maxHeartbeats 4000000 in
theorem r_Real_plus_34 {B : Nat} {SA : Nat → Nat} {d : Nat} (hd : 3 ≤ d) : ∀ (L : JLoc) (v0 : Nat) (v1 : Int64) (v3 : Int64) (μ : JMem) (r : Int64), jget L 0 = .ref v0 → jget L 1 = .long v1 → jget L 3 = .long v3 → g_Real_plus_34 v0 v1 v3 μ.1 = some r → jR B SA d m_Real_plus 34 L [] μ (some (.long r)) μ := by
  intro L v0 v1 v3 μ r hl0 hl1 hl3 h
  unfold g_Real_plus_34 at h
  refine jr_aload_n jf_65_34 rfl hl0 ?_
  refine jr_lload_n jf_65_35 rfl hl1 ?_
  refine jr_lload_n jf_65_36 rfl hl3 ?_
  replace h := jgd_of h; obtain ⟨hb1, h⟩ := h
  replace h := obd_of h; obtain ⟨x2, hx2, h⟩ := h
  refine jr_V6_2 jf_65_37 hb1 (by omega) (r_Real_withInfinity (by omega) _ _ _ _ _ hx2) (Nat.le_of_ble_eq_true rfl) jml_66 (Nat.le_of_ble_eq_true rfl) ?_
  obtain rfl := Option.some.inj h
  exact jr_retJ jf_65_40 jmt_65
set_option maxRecDepth 10000 in
set_option maxHeartbeats 4000000 in
theorem r_Real_plus_55 {B : Nat} {SA : Nat → Nat} {d : Nat} (hd : 3 ≤ d) : ∀ (L : JLoc) (v1 : Int64) (v3 : Int64) (v5 : Int64) (v7 : Int64) (μ : JMem) (r : Int64), jget L 1 = .long v1 → jget L 3 = .long v3 → jget L 5 = .long v5 → jget L 7 = .long v7 → g_Real_plus_55 v1 v3 v5 v7 μ.1 = some r → jR B SA d m_Real_plus 55 L [] μ (some (.long r)) μ := by
  intro L v1 v3 v5 v7 μ r hl1 hl3 hl5 hl7 h
  unfold g_Real_plus_55 at h
  refine jr_lload jf_65_55 hl5 ?_
  refine jr_lconst0 jf_65_57 ?_
  refine jr_lcmp jf_65_58 ?_
  replace h := ite_or h; rcases h with ⟨hc, h⟩ | ⟨hc, h⟩
  · refine jr_ifl_eq_t jf_65_59 hc ?_
    refine jr_lload jf_65_66 hl7 ?_
    refine jr_lconst0 jf_65_68 ?_
    refine jr_lcmp jf_65_69 ?_
    replace h := ite_or h; rcases h with ⟨hc, h⟩ | ⟨hc, h⟩
    · refine jr_ifl_eq_t jf_65_70 hc ?_
      refine jr_lload_n jf_65_77 rfl hl1 ?_
      refine jr_lload_n jf_65_78 rfl hl3 ?_
      refine jr_land jf_65_79 ?_
      obtain rfl := Option.some.inj h
      exact jr_retJ jf_65_80 jmt_65
    · refine jr_ifl_eq_f jf_65_70 hc ?_
      refine jr_lload_n jf_65_73 rfl hl3 ?_
      refine jr_goto jf_65_74 ?_
      obtain rfl := Option.some.inj h
      exact jr_retJ jf_65_80 jmt_65
  · refine jr_ifl_eq_f jf_65_59 hc ?_
    refine jr_lload_n jf_65_62 rfl hl1 ?_
    refine jr_goto jf_65_63 ?_
    obtain rfl := Option.some.inj h
    exact jr_retJ jf_65_80 jmt_65
set_option maxRecDepth 10000 in
set_option maxHeartbeats 4000000 in
theorem r_Real_plus_133 {B : Nat} {SA : Nat → Nat} {d : Nat} (hd : 3 ≤ d) : ∀ (L : JLoc) (v7 : Int64) (s0 : Bool) (s1 : Int64) (s2 : Bool) (s3 : Nat) (μ : JMem) (r : Int64), jget L 7 = .long v7 → g_Real_plus_133 v7 s0 s1 s2 s3 μ.1 = some r → jR B SA d m_Real_plus 133 L [.int (jb s0), .long s1, .int (jb s2), .ref s3] μ (some (.long r)) μ := by
  intro L v7 s0 s1 s2 s3 μ r hl7 h
  unfold g_Real_plus_133 at h
  refine jr_lload jf_65_133 hl7 ?_
  replace h := jgd_of h; obtain ⟨hb1, h⟩ := h
  replace h := obd_of h; obtain ⟨x2, hx2, h⟩ := h
  refine jr_V6_4 jf_65_135 hb1 (by omega) (r_Real_added (by omega) _ _ _ _ _ _ _ hx2) (Nat.le_of_ble_eq_true rfl) jml_67 (Nat.le_of_ble_eq_true rfl) ?_
  refine jr_goto jf_65_138 ?_
  obtain rfl := Option.some.inj h
  exact jr_retJ jf_65_190 jmt_65
set_option maxRecDepth 10000 in
set_option maxHeartbeats 4000000 in
theorem r_Real_plus_125 {B : Nat} {SA : Nat → Nat} {d : Nat} (hd : 3 ≤ d) : ∀ (L : JLoc) (v7 : Int64) (s0 : Bool) (s1 : Bool) (s2 : Int64) (s3 : Bool) (s4 : Nat) (μ : JMem) (r : Int64), jget L 7 = .long v7 → g_Real_plus_125 v7 s0 s1 s2 s3 s4 μ.1 = some r → jR B SA d m_Real_plus 125 L [.int (jb s0), .int (jb s1), .long s2, .int (jb s3), .ref s4] μ (some (.long r)) μ := by
  intro L v7 s0 s1 s2 s3 s4 μ r hl7 h
  unfold g_Real_plus_125 at h
  replace h := ite_or h; rcases h with ⟨hc, h⟩ | ⟨hc, h⟩
  · refine jr_if2z_ne_f jf_65_125 hc ?_
    refine jr_iconst jf_65_128 jc_i_1 ?_
    refine jr_goto jf_65_129 ?_
    exact r_Real_plus_133 hd _ _ true _ _ _ _ _ hl7 h
  · refine jr_if2z_ne_t jf_65_125 hc ?_
    refine jr_iconst jf_65_132 jc_i_0 ?_
    exact r_Real_plus_133 hd _ _ false _ _ _ _ _ hl7 h
set_option maxRecDepth 10000 in
set_option maxHeartbeats 4000000 in
theorem r_Real_plus_114 {B : Nat} {SA : Nat → Nat} {d : Nat} (hd : 3 ≤ d) : ∀ (L : JLoc) (v3 : Int64) (v7 : Int64) (s0 : Bool) (s1 : Int64) (s2 : Bool) (s3 : Nat) (μ : JMem) (r : Int64), jget L 3 = .long v3 → jget L 7 = .long v7 → g_Real_plus_114 v3 v7 s0 s1 s2 s3 μ.1 = some r → jR B SA d m_Real_plus 114 L [.int (jb s0), .long s1, .int (jb s2), .ref s3] μ (some (.long r)) μ := by
  intro L v3 v7 s0 s1 s2 s3 μ r hl3 hl7 h
  unfold g_Real_plus_114 at h
  refine jr_lload_n jf_65_114 rfl hl3 ?_
  refine jr_lconst0 jf_65_115 ?_
  refine jr_lcmp jf_65_116 ?_
  replace h := ite_or h; rcases h with ⟨hc, h⟩ | ⟨hc, h⟩
  · refine jr_ifl_ge_t jf_65_117 hc ?_
    refine jr_iconst jf_65_124 jc_i_0 ?_
    exact r_Real_plus_125 hd _ _ false _ _ _ _ _ _ hl7 h
  · refine jr_ifl_ge_f jf_65_117 hc ?_
    refine jr_iconst jf_65_120 jc_i_1 ?_
    refine jr_goto jf_65_121 ?_
    exact r_Real_plus_125 hd _ _ true _ _ _ _ _ _ hl7 h
set_option maxRecDepth 10000 in
set_option maxHeartbeats 4000000 in
theorem r_Real_plus_101 {B : Nat} {SA : Nat → Nat} {d : Nat} (hd : 3 ≤ d) : ∀ (L : JLoc) (v1 : Int64) (v3 : Int64) (v5 : Int64) (v7 : Int64) (s0 : Bool) (s1 : Nat) (μ : JMem) (r : Int64), jget L 1 = .long v1 → jget L 3 = .long v3 → jget L 5 = .long v5 → jget L 7 = .long v7 → g_Real_plus_101 v1 v3 v5 v7 s0 s1 μ.1 = some r → jR B SA d m_Real_plus 101 L [.int (jb s0), .ref s1] μ (some (.long r)) μ := by
  intro L v1 v3 v5 v7 s0 s1 μ r hl1 hl3 hl5 hl7 h
  unfold g_Real_plus_101 at h
  refine jr_lload jf_65_101 hl5 ?_
  refine jr_lload_n jf_65_103 rfl hl1 ?_
  refine jr_lconst0 jf_65_104 ?_
  refine jr_lcmp jf_65_105 ?_
  replace h := ite_or h; rcases h with ⟨hc, h⟩ | ⟨hc, h⟩
  · refine jr_ifl_ge_t jf_65_106 hc ?_
    refine jr_iconst jf_65_113 jc_i_0 ?_
    exact r_Real_plus_114 hd _ _ _ false _ _ _ _ _ hl3 hl7 h
  · refine jr_ifl_ge_f jf_65_106 hc ?_
    refine jr_iconst jf_65_109 jc_i_1 ?_
    refine jr_goto jf_65_110 ?_
    exact r_Real_plus_114 hd _ _ _ true _ _ _ _ _ hl3 hl7 h
set_option maxRecDepth 10000 in
set_option maxHeartbeats 4000000 in
theorem r_Real_plus_185 {B : Nat} {SA : Nat → Nat} {d : Nat} (hd : 3 ≤ d) : ∀ (L : JLoc) (v5 : Int64) (s0 : Bool) (s1 : Int64) (s2 : Bool) (s3 : Nat) (μ : JMem) (r : Int64), jget L 5 = .long v5 → g_Real_plus_185 v5 s0 s1 s2 s3 μ.1 = some r → jR B SA d m_Real_plus 185 L [.int (jb s0), .long s1, .int (jb s2), .ref s3] μ (some (.long r)) μ := by
  intro L v5 s0 s1 s2 s3 μ r hl5 h
  unfold g_Real_plus_185 at h
  refine jr_lload jf_65_185 hl5 ?_
  replace h := jgd_of h; obtain ⟨hb1, h⟩ := h
  replace h := obd_of h; obtain ⟨x2, hx2, h⟩ := h
  refine jr_V6_4 jf_65_187 hb1 (by omega) (r_Real_added (by omega) _ _ _ _ _ _ _ hx2) (Nat.le_of_ble_eq_true rfl) jml_67 (Nat.le_of_ble_eq_true rfl) ?_
  obtain rfl := Option.some.inj h
  exact jr_retJ jf_65_190 jmt_65
set_option maxRecDepth 10000 in
set_option maxHeartbeats 4000000 in
theorem r_Real_plus_177 {B : Nat} {SA : Nat → Nat} {d : Nat} (hd : 3 ≤ d) : ∀ (L : JLoc) (v5 : Int64) (s0 : Bool) (s1 : Bool) (s2 : Int64) (s3 : Bool) (s4 : Nat) (μ : JMem) (r : Int64), jget L 5 = .long v5 → g_Real_plus_177 v5 s0 s1 s2 s3 s4 μ.1 = some r → jR B SA d m_Real_plus 177 L [.int (jb s0), .int (jb s1), .long s2, .int (jb s3), .ref s4] μ (some (.long r)) μ := by
  intro L v5 s0 s1 s2 s3 s4 μ r hl5 h
  unfold g_Real_plus_177 at h
  replace h := ite_or h; rcases h with ⟨hc, h⟩ | ⟨hc, h⟩
  · refine jr_if2z_ne_f jf_65_177 hc ?_
    refine jr_iconst jf_65_180 jc_i_1 ?_
    refine jr_goto jf_65_181 ?_
    exact r_Real_plus_185 hd _ _ true _ _ _ _ _ hl5 h
  · refine jr_if2z_ne_t jf_65_177 hc ?_
    refine jr_iconst jf_65_184 jc_i_0 ?_
    exact r_Real_plus_185 hd _ _ false _ _ _ _ _ hl5 h
set_option maxRecDepth 10000 in
set_option maxHeartbeats 4000000 in
theorem r_Real_plus_166 {B : Nat} {SA : Nat → Nat} {d : Nat} (hd : 3 ≤ d) : ∀ (L : JLoc) (v3 : Int64) (v5 : Int64) (s0 : Bool) (s1 : Int64) (s2 : Bool) (s3 : Nat) (μ : JMem) (r : Int64), jget L 3 = .long v3 → jget L 5 = .long v5 → g_Real_plus_166 v3 v5 s0 s1 s2 s3 μ.1 = some r → jR B SA d m_Real_plus 166 L [.int (jb s0), .long s1, .int (jb s2), .ref s3] μ (some (.long r)) μ := by
  intro L v3 v5 s0 s1 s2 s3 μ r hl3 hl5 h
  unfold g_Real_plus_166 at h
  refine jr_lload_n jf_65_166 rfl hl3 ?_
  refine jr_lconst0 jf_65_167 ?_
  refine jr_lcmp jf_65_168 ?_
  replace h := ite_or h; rcases h with ⟨hc, h⟩ | ⟨hc, h⟩
  · refine jr_ifl_ge_t jf_65_169 hc ?_
    refine jr_iconst jf_65_176 jc_i_0 ?_
    exact r_Real_plus_177 hd _ _ false _ _ _ _ _ _ hl5 h
  · refine jr_ifl_ge_f jf_65_169 hc ?_
    refine jr_iconst jf_65_172 jc_i_1 ?_
    refine jr_goto jf_65_173 ?_
    exact r_Real_plus_177 hd _ _ true _ _ _ _ _ _ hl5 h
set_option maxRecDepth 10000 in
set_option maxHeartbeats 4000000 in
theorem r_Real_plus_153 {B : Nat} {SA : Nat → Nat} {d : Nat} (hd : 3 ≤ d) : ∀ (L : JLoc) (v1 : Int64) (v3 : Int64) (v5 : Int64) (v7 : Int64) (s0 : Bool) (s1 : Nat) (μ : JMem) (r : Int64), jget L 1 = .long v1 → jget L 3 = .long v3 → jget L 5 = .long v5 → jget L 7 = .long v7 → g_Real_plus_153 v1 v3 v5 v7 s0 s1 μ.1 = some r → jR B SA d m_Real_plus 153 L [.int (jb s0), .ref s1] μ (some (.long r)) μ := by
  intro L v1 v3 v5 v7 s0 s1 μ r hl1 hl3 hl5 hl7 h
  unfold g_Real_plus_153 at h
  refine jr_lload jf_65_153 hl7 ?_
  refine jr_lload_n jf_65_155 rfl hl1 ?_
  refine jr_lconst0 jf_65_156 ?_
  refine jr_lcmp jf_65_157 ?_
  replace h := ite_or h; rcases h with ⟨hc, h⟩ | ⟨hc, h⟩
  · refine jr_ifl_ge_t jf_65_158 hc ?_
    refine jr_iconst jf_65_165 jc_i_0 ?_
    exact r_Real_plus_166 hd _ _ _ false _ _ _ _ _ hl3 hl5 h
  · refine jr_ifl_ge_f jf_65_158 hc ?_
    refine jr_iconst jf_65_161 jc_i_1 ?_
    refine jr_goto jf_65_162 ?_
    exact r_Real_plus_166 hd _ _ _ true _ _ _ _ _ hl3 hl5 h
set_option maxRecDepth 10000 in
set_option maxHeartbeats 4000000 in
theorem r_Real_plus_e {B : Nat} {SA : Nat → Nat} {d : Nat} (hd : 3 ≤ d) : ∀ (L : JLoc) (v0 : Nat) (v1 : Int64) (v3 : Int64) (μ : JMem) (r : Int64), jget L 0 = .ref v0 → jget L 1 = .long v1 → jget L 3 = .long v3 → g_Real_plus v0 v1 v3 μ.1 = some r → jR B SA d m_Real_plus 0 L [] μ (some (.long r)) μ := by
  intro L v0 v1 v3 μ r hl0 hl1 hl3 h
  unfold g_Real_plus at h
  refine jr_aload_n jf_65_0 rfl hl0 ?_
  refine jr_lload_n jf_65_1 rfl hl1 ?_
  replace h := jgd_of h; obtain ⟨hb1, h⟩ := h
  replace h := obd_of h; obtain ⟨x2, hx2, h⟩ := h
  refine jr_V6_1 jf_65_2 hb1 (by omega) (r_Real_sizeOf (by omega) _ _ _ _ hx2) (Nat.le_of_ble_eq_true rfl) jml_54 (Nat.le_of_ble_eq_true rfl) ?_
  refine jr_lstore jf_65_5 jml_65 (by decide) ?_
  refine jr_aload_n jf_65_7 rfl (jg2_ne rfl hl0) ?_
  refine jr_lload_n jf_65_8 rfl (jg2_ne rfl hl3) ?_
  replace h := jgd_of h; obtain ⟨hb3, h⟩ := h
  replace h := obd_of h; obtain ⟨x4, hx4, h⟩ := h
  refine jr_V6_1 jf_65_9 hb3 (by omega) (r_Real_sizeOf (by omega) _ _ _ _ hx4) (Nat.le_of_ble_eq_true rfl) jml_54 (Nat.le_of_ble_eq_true rfl) ?_
  refine jr_lstore jf_65_12 jml_65 (by decide) ?_
  refine jr_lload jf_65_14 (jg2_ne rfl jg2_same) ?_
  refine jr_aload_n jf_65_16 rfl (jg2_ne rfl (jg2_ne rfl hl0)) ?_
  replace h := obd_of h; obtain ⟨x5, hx5, h⟩ := h
  refine jr_getJ jf_65_17 hx5 ?_
  refine jr_lcmp jf_65_20 ?_
  replace h := ite_or h; rcases h with ⟨hc, h⟩ | ⟨hc, h⟩
  · refine jr_ifl_ge_t jf_65_21 hc ?_
    exact r_Real_plus_34 hd _ _ _ _ _ _ (jg2_ne rfl (jg2_ne rfl hl0)) (jg2_ne rfl (jg2_ne rfl hl1)) (jg2_ne rfl (jg2_ne rfl hl3)) h
  · refine jr_ifl_ge_f jf_65_21 hc ?_
    refine jr_lload jf_65_24 jg2_same ?_
    refine jr_aload_n jf_65_26 rfl (jg2_ne rfl (jg2_ne rfl hl0)) ?_
    replace h := obd_of h; obtain ⟨x6, hx6, h⟩ := h
    refine jr_getJ jf_65_27 hx6 ?_
    refine jr_lcmp jf_65_30 ?_
    replace h := ite_or h; rcases h with ⟨hc, h⟩ | ⟨hc, h⟩
    · refine jr_ifl_lt_t jf_65_31 hc ?_
      refine jr_lload jf_65_41 (jg2_ne rfl jg2_same) ?_
      refine jr_lconst0 jf_65_43 ?_
      refine jr_lcmp jf_65_44 ?_
      replace h := ite_or h; rcases h with ⟨hc, h⟩ | ⟨hc, h⟩
      · refine jr_ifl_eq_t jf_65_45 hc ?_
        exact r_Real_plus_55 hd _ _ _ _ _ _ _ (jg2_ne rfl (jg2_ne rfl hl1)) (jg2_ne rfl (jg2_ne rfl hl3)) (jg2_ne rfl jg2_same) jg2_same h
      · refine jr_ifl_eq_f jf_65_45 hc ?_
        refine jr_lload jf_65_48 jg2_same ?_
        refine jr_lconst0 jf_65_50 ?_
        refine jr_lcmp jf_65_51 ?_
        replace h := ite_or h; rcases h with ⟨hc, h⟩ | ⟨hc, h⟩
        · refine jr_ifl_ne_f jf_65_52 hc ?_
          exact r_Real_plus_55 hd _ _ _ _ _ _ _ (jg2_ne rfl (jg2_ne rfl hl1)) (jg2_ne rfl (jg2_ne rfl hl3)) (jg2_ne rfl jg2_same) jg2_same h
        · refine jr_ifl_ne_t jf_65_52 hc ?_
          refine jr_lload jf_65_81 (jg2_ne rfl jg2_same) ?_
          refine jr_lload jf_65_83 jg2_same ?_
          refine jr_lcmp jf_65_85 ?_
          replace h := ite_or h; rcases h with ⟨hc, h⟩ | ⟨hc, h⟩
          · refine jr_ifl_lt_t jf_65_86 hc ?_
            refine jr_aload_n jf_65_141 rfl (jg2_ne rfl (jg2_ne rfl hl0)) ?_
            refine jr_lload_n jf_65_142 rfl (jg2_ne rfl (jg2_ne rfl hl3)) ?_
            refine jr_lconst0 jf_65_143 ?_
            refine jr_lcmp jf_65_144 ?_
            replace h := ite_or h; rcases h with ⟨hc, h⟩ | ⟨hc, h⟩
            · refine jr_ifl_ge_t jf_65_145 hc ?_
              refine jr_iconst jf_65_152 jc_i_0 ?_
              exact r_Real_plus_153 hd _ _ _ _ _ false _ _ _ (jg2_ne rfl (jg2_ne rfl hl1)) (jg2_ne rfl (jg2_ne rfl hl3)) (jg2_ne rfl jg2_same) jg2_same h
            · refine jr_ifl_ge_f jf_65_145 hc ?_
              refine jr_iconst jf_65_148 jc_i_1 ?_
              refine jr_goto jf_65_149 ?_
              exact r_Real_plus_153 hd _ _ _ _ _ true _ _ _ (jg2_ne rfl (jg2_ne rfl hl1)) (jg2_ne rfl (jg2_ne rfl hl3)) (jg2_ne rfl jg2_same) jg2_same h
          · refine jr_ifl_lt_f jf_65_86 hc ?_
            refine jr_aload_n jf_65_89 rfl (jg2_ne rfl (jg2_ne rfl hl0)) ?_
            refine jr_lload_n jf_65_90 rfl (jg2_ne rfl (jg2_ne rfl hl1)) ?_
            refine jr_lconst0 jf_65_91 ?_
            refine jr_lcmp jf_65_92 ?_
            replace h := ite_or h; rcases h with ⟨hc, h⟩ | ⟨hc, h⟩
            · refine jr_ifl_ge_t jf_65_93 hc ?_
              refine jr_iconst jf_65_100 jc_i_0 ?_
              exact r_Real_plus_101 hd _ _ _ _ _ false _ _ _ (jg2_ne rfl (jg2_ne rfl hl1)) (jg2_ne rfl (jg2_ne rfl hl3)) (jg2_ne rfl jg2_same) jg2_same h
            · refine jr_ifl_ge_f jf_65_93 hc ?_
              refine jr_iconst jf_65_96 jc_i_1 ?_
              refine jr_goto jf_65_97 ?_
              exact r_Real_plus_101 hd _ _ _ _ _ true _ _ _ (jg2_ne rfl (jg2_ne rfl hl1)) (jg2_ne rfl (jg2_ne rfl hl3)) (jg2_ne rfl jg2_same) jg2_same h
    · refine jr_ifl_lt_f jf_65_31 hc ?_
      exact r_Real_plus_34 hd _ _ _ _ _ _ (jg2_ne rfl (jg2_ne rfl hl0)) (jg2_ne rfl (jg2_ne rfl hl1)) (jg2_ne rfl (jg2_ne rfl hl3)) h
set_option maxRecDepth 10000 in
set_option maxHeartbeats 4000000 in
theorem r_Real_plus {B : Nat} {SA : Nat → Nat} {d : Nat} (hd : 3 ≤ d) : ∀ (v0 : Nat) (v1 : Int64) (v3 : Int64) (μ : JMem) (r : Int64), g_Real_plus v0 v1 v3 μ.1 = some r → jR B SA d m_Real_plus 0 (lv_args 0 [.ref v0, .long v1, .long v3]) [] μ (some (.long r)) μ := by
  intro v0 v1 v3 μ r h
  exact r_Real_plus_e hd (lv_args 0 _) _ _ _ _ _ (by simp [lv_args, jget, rv_cat, cat_int, cat_long, cat_double, cat_float, cat_ref]) (by simp [lv_args, jget, rv_cat, cat_int, cat_long, cat_double, cat_float, cat_ref]) (by simp [lv_args, jget, rv_cat, cat_int, cat_long, cat_double, cat_float, cat_ref]) h
/-! FilterBench$Real.highProduct(JJ)J -/
set_option maxRecDepth 10000 in
set_option maxHeartbeats 4000000 in
theorem r_Real_highProduct_e {B : Nat} {SA : Nat → Nat} {d : Nat} (hd : 0 ≤ d) : ∀ (L : JLoc) (v0 : Int64) (v2 : Int64) (μ : JMem) (r : Int64), jget L 0 = .long v0 → jget L 2 = .long v2 → g_Real_highProduct v0 v2 = r → jR B SA d m_Real_highProduct 0 L [] μ (some (.long r)) μ := by
  intro L v0 v2 μ r hl0 hl2 h
  unfold g_Real_highProduct at h
  refine jr_lload_n jf_59_0 rfl hl0 ?_
  refine jr_bipush jf_59_1 jc_b_27 ?_
  refine jr_lushr jf_59_3 ?_
  refine jr_lstore jf_59_4 jml_59 (by decide) ?_
  replace h := jlet_of h
  refine jr_lload_n jf_59_6 rfl (jg2_ne rfl hl0) ?_
  refine jr_ldc2l jf_59_7 ?_
  refine jr_land jf_59_10 ?_
  refine jr_lstore jf_59_11 jml_59 (by decide) ?_
  refine jr_lload_n jf_59_13 rfl (jg2_ne rfl (jg2_ne rfl hl2)) ?_
  refine jr_bipush jf_59_14 jc_b_27 ?_
  refine jr_lushr jf_59_16 ?_
  refine jr_lstore jf_59_17 jml_59 (by decide) ?_
  replace h := jlet_of h
  refine jr_lload_n jf_59_19 rfl (jg2_ne rfl (jg2_ne rfl (jg2_ne rfl hl2))) ?_
  refine jr_ldc2l jf_59_20 ?_
  refine jr_land jf_59_23 ?_
  refine jr_lstore jf_59_24 jml_59 (by decide) ?_
  refine jr_lload jf_59_26 (jg2_ne rfl (jg2_ne rfl jg2_same)) ?_
  refine jr_lload jf_59_28 jg2_same ?_
  refine jr_lmul jf_59_30 ?_
  refine jr_lstore jf_59_31 jml_59 (by decide) ?_
  replace h := jlet_of h
  refine jr_lload jf_59_33 (jg2_ne rfl (jg2_ne rfl (jg2_ne rfl (jg2_ne rfl jg2_same)))) ?_
  refine jr_lload jf_59_35 (jg2_ne rfl jg2_same) ?_
  refine jr_lmul jf_59_37 ?_
  refine jr_lload jf_59_38 (jg2_ne rfl (jg2_ne rfl (jg2_ne rfl jg2_same))) ?_
  refine jr_lload jf_59_40 (jg2_ne rfl (jg2_ne rfl jg2_same)) ?_
  refine jr_lmul jf_59_42 ?_
  refine jr_ladd jf_59_43 ?_
  refine jr_lload jf_59_44 jg2_same ?_
  refine jr_bipush jf_59_46 jc_b_27 ?_
  refine jr_lushr jf_59_48 ?_
  refine jr_ladd jf_59_49 ?_
  refine jr_lstore jf_59_50 jml_59 (by decide) ?_
  replace h := jlet_of h
  refine jr_lload jf_59_52 (jg2_ne rfl (jg2_ne rfl (jg2_ne rfl (jg2_ne rfl (jg2_ne rfl jg2_same))))) ?_
  refine jr_lload jf_59_54 (jg2_ne rfl (jg2_ne rfl (jg2_ne rfl jg2_same))) ?_
  refine jr_lmul jf_59_56 ?_
  refine jr_lload jf_59_57 jg2_same ?_
  refine jr_bipush jf_59_59 jc_b_27 ?_
  refine jr_lushr jf_59_61 ?_
  refine jr_ladd jf_59_62 ?_
  refine jr_lstore jf_59_63 jml_59 (by decide) ?_
  replace h := jlet_of h
  refine jr_lload jf_59_65 (jg2_ne rfl jg2_same) ?_
  refine jr_ldc2l jf_59_67 ?_
  refine jr_land jf_59_70 ?_
  refine jr_bipush jf_59_71 jc_b_27 ?_
  refine jr_lshl jf_59_73 ?_
  refine jr_lload jf_59_74 (jg2_ne rfl (jg2_ne rfl jg2_same)) ?_
  refine jr_ldc2l jf_59_76 ?_
  refine jr_land jf_59_79 ?_
  refine jr_lor jf_59_80 ?_
  refine jr_lstore jf_59_81 jml_59 (by decide) ?_
  replace h := jlet_of h
  refine jr_lload jf_59_83 (jg2_ne rfl jg2_same) ?_
  refine jr_bipush jf_59_85 jc_b_10 ?_
  refine jr_lshl jf_59_87 ?_
  refine jr_lload jf_59_88 jg2_same ?_
  refine jr_bipush jf_59_90 jc_b_44 ?_
  refine jr_lushr jf_59_92 ?_
  refine jr_lor jf_59_93 ?_
  refine jr_lstore jf_59_94 jml_59 (by decide) ?_
  replace h := jlet_of h
  refine jr_lload jf_59_96 (jg2_ne rfl jg2_same) ?_
  refine jr_ldc2l jf_59_98 ?_
  refine jr_land jf_59_101 ?_
  refine jr_lconst0 jf_59_102 ?_
  refine jr_lcmp jf_59_103 ?_
  replace h := ite_or h; rcases h with ⟨hc, h⟩ | ⟨hc, h⟩
  · refine jr_ifl_ne_f jf_59_104 hc ?_
    refine jr_lload jf_59_107 jg2_same ?_
    refine jr_goto jf_59_109 ?_
    subst h
    exact jr_retJ jf_59_116 jmt_59
  · refine jr_ifl_ne_t jf_59_104 hc ?_
    refine jr_lload jf_59_112 jg2_same ?_
    refine jr_lconst1 jf_59_114 ?_
    refine jr_lor jf_59_115 ?_
    subst h
    exact jr_retJ jf_59_116 jmt_59
set_option maxRecDepth 10000 in
set_option maxHeartbeats 4000000 in
theorem r_Real_highProduct {B : Nat} {SA : Nat → Nat} {d : Nat} (hd : 0 ≤ d) : ∀ (v0 : Int64) (v2 : Int64) (μ : JMem) (r : Int64), g_Real_highProduct v0 v2 = r → jR B SA d m_Real_highProduct 0 (lv_args 0 [.long v0, .long v2]) [] μ (some (.long r)) μ := by
  intro v0 v2 μ r h
  exact r_Real_highProduct_e hd (lv_args 0 _) _ _ _ _ (by simp [lv_args, jget, rv_cat, cat_int, cat_long, cat_double, cat_float, cat_ref]) (by simp [lv_args, jget, rv_cat, cat_int, cat_long, cat_double, cat_float, cat_ref]) h
/-! FilterBench$Real.product(JJ)J -/
set_option maxRecDepth 10000 in
set_option maxHeartbeats 4000000 in
theorem r_Real_product_100 {B : Nat} {SA : Nat → Nat} {d : Nat} (hd : 2 ≤ d) : ∀ (L : JLoc) (v0 : Nat) (μ : JMem) (r : Int64), jget L 0 = .ref v0 → g_Real_product_100 v0 μ.1 = some r → jR B SA d m_Real_product 100 L [] μ (some (.long r)) μ := by
  intro L v0 μ r hl0 h
  unfold g_Real_product_100 at h
  refine jr_aload_n jf_53_100 rfl hl0 ?_
  replace h := obd_of h; obtain ⟨x1, hx1, h⟩ := h
  refine jr_getJ jf_53_101 hx1 ?_
  refine jr_goto jf_53_104 ?_
  obtain rfl := Option.some.inj h
  exact jr_retJ jf_53_117 jmt_53
set_option maxRecDepth 10000 in
set_option maxHeartbeats 4000000 in
theorem r_Real_product_66 {B : Nat} {SA : Nat → Nat} {d : Nat} (hd : 2 ≤ d) : ∀ (L : JLoc) (v0 : Nat) (v5 : Int64) (v7 : Int64) (v9 : Bool) (μ : JMem) (r : Int64), jget L 0 = .ref v0 → jget L 5 = .long v5 → jget L 7 = .long v7 → jget L 9 = .int (jb v9) → g_Real_product_66 v0 v5 v7 v9 μ.1 = some r → jR B SA d m_Real_product 66 L [] μ (some (.long r)) μ := by
  intro L v0 v5 v7 v9 μ r hl0 hl5 hl7 hl9 h
  unfold g_Real_product_66 at h
  refine jr_lload jf_53_66 hl5 ?_
  refine jr_aload_n jf_53_68 rfl hl0 ?_
  replace h := obd_of h; obtain ⟨x1, hx1, h⟩ := h
  refine jr_getJ jf_53_69 hx1 ?_
  refine jr_lcmp jf_53_72 ?_
  replace h := ite_or h; rcases h with ⟨hc, h⟩ | ⟨hc, h⟩
  · refine jr_ifl_gt_t jf_53_73 hc ?_
    exact r_Real_product_100 hd _ _ _ _ hl0 h
  · refine jr_ifl_gt_f jf_53_73 hc ?_
    refine jr_lload jf_53_76 hl7 ?_
    refine jr_aload_n jf_53_78 rfl hl0 ?_
    replace h := obd_of h; obtain ⟨x2, hx2, h⟩ := h
    refine jr_getJ jf_53_79 hx2 ?_
    refine jr_lcmp jf_53_82 ?_
    replace h := ite_or h; rcases h with ⟨hc, h⟩ | ⟨hc, h⟩
    · refine jr_ifl_gt_t jf_53_83 hc ?_
      exact r_Real_product_100 hd _ _ _ _ hl0 h
    · refine jr_ifl_gt_f jf_53_83 hc ?_
      refine jr_lload jf_53_86 hl5 ?_
      refine jr_lconst0 jf_53_88 ?_
      refine jr_lcmp jf_53_89 ?_
      replace h := ite_or h; rcases h with ⟨hc, h⟩ | ⟨hc, h⟩
      · refine jr_ifl_eq_t jf_53_90 hc ?_
        exact r_Real_product_100 hd _ _ _ _ hl0 h
      · refine jr_ifl_eq_f jf_53_90 hc ?_
        refine jr_lload jf_53_93 hl7 ?_
        refine jr_lconst0 jf_53_95 ?_
        refine jr_lcmp jf_53_96 ?_
        replace h := ite_or h; rcases h with ⟨hc, h⟩ | ⟨hc, h⟩
        · refine jr_ifl_ne_f jf_53_97 hc ?_
          exact r_Real_product_100 hd _ _ _ _ hl0 h
        · refine jr_ifl_ne_t jf_53_97 hc ?_
          refine jr_aload_n jf_53_107 rfl hl0 ?_
          refine jr_iload jf_53_108 hl9 ?_
          refine jr_aload_n jf_53_110 rfl hl0 ?_
          replace h := obd_of h; obtain ⟨x3, hx3, h⟩ := h
          refine jr_getJ jf_53_111 hx3 ?_
          replace h := jgd_of h; obtain ⟨hb4, h⟩ := h
          replace h := obd_of h; obtain ⟨x5, hx5, h⟩ := h
          refine jr_V6_2 jf_53_114 hb4 (by omega) (r_Real_signed (by omega) _ _ _ _ _ hx5) (Nat.le_of_ble_eq_true rfl) jml_55 (Nat.le_of_ble_eq_true rfl) ?_
          obtain rfl := Option.some.inj h
          exact jr_retJ jf_53_117 jmt_53
set_option maxRecDepth 10000 in
set_option maxHeartbeats 4000000 in
theorem r_Real_product_132 {B : Nat} {SA : Nat → Nat} {d : Nat} (hd : 2 ≤ d) : ∀ (L : JLoc) (v0 : Nat) (v9 : Bool) (μ : JMem) (r : Int64), jget L 0 = .ref v0 → jget L 9 = .int (jb v9) → g_Real_product_132 v0 v9 μ.1 = some r → jR B SA d m_Real_product 132 L [] μ (some (.long r)) μ := by
  intro L v0 v9 μ r hl0 hl9 h
  unfold g_Real_product_132 at h
  refine jr_aload_n jf_53_132 rfl hl0 ?_
  refine jr_iload jf_53_133 hl9 ?_
  refine jr_lconst0 jf_53_135 ?_
  replace h := jgd_of h; obtain ⟨hb1, h⟩ := h
  replace h := obd_of h; obtain ⟨x2, hx2, h⟩ := h
  refine jr_V6_2 jf_53_136 hb1 (by omega) (r_Real_signed (by omega) _ _ _ _ _ hx2) (Nat.le_of_ble_eq_true rfl) jml_55 (Nat.le_of_ble_eq_true rfl) ?_
  obtain rfl := Option.some.inj h
  exact jr_retJ jf_53_139 jmt_53
set_option maxRecDepth 10000 in
set_option maxHeartbeats 4000000 in
theorem r_Real_product_44 {B : Nat} {SA : Nat → Nat} {d : Nat} (hd : 2 ≤ d) : ∀ (L : JLoc) (v0 : Nat) (v5 : Int64) (v7 : Int64) (s0 : Bool) (μ : JMem) (r : Int64), jget L 0 = .ref v0 → jget L 5 = .long v5 → jget L 7 = .long v7 → g_Real_product_44 v0 v5 v7 s0 μ.1 = some r → jR B SA d m_Real_product 44 L [.int (jb s0)] μ (some (.long r)) μ := by
  intro L v0 v5 v7 s0 μ r hl0 hl5 hl7 h
  unfold g_Real_product_44 at h
  refine jr_istore jf_53_44 jml_53 (by decide) ?_
  refine jr_lload jf_53_46 (jg1_ne rfl hl5) ?_
  refine jr_aload_n jf_53_48 rfl (jg1_ne rfl hl0) ?_
  replace h := obd_of h; obtain ⟨x1, hx1, h⟩ := h
  refine jr_getJ jf_53_49 hx1 ?_
  refine jr_lcmp jf_53_52 ?_
  replace h := ite_or h; rcases h with ⟨hc, h⟩ | ⟨hc, h⟩
  · refine jr_ifl_ge_t jf_53_53 hc ?_
    exact r_Real_product_66 hd _ _ _ _ _ _ _ (jg1_ne rfl hl0) (jg1_ne rfl hl5) (jg1_ne rfl hl7) jg1_same h
  · refine jr_ifl_ge_f jf_53_53 hc ?_
    refine jr_lload jf_53_56 (jg1_ne rfl hl7) ?_
    refine jr_aload_n jf_53_58 rfl (jg1_ne rfl hl0) ?_
    replace h := obd_of h; obtain ⟨x2, hx2, h⟩ := h
    refine jr_getJ jf_53_59 hx2 ?_
    refine jr_lcmp jf_53_62 ?_
    replace h := ite_or h; rcases h with ⟨hc, h⟩ | ⟨hc, h⟩
    · refine jr_ifl_lt_t jf_53_63 hc ?_
      refine jr_lload jf_53_118 (jg1_ne rfl hl5) ?_
      refine jr_lconst0 jf_53_120 ?_
      refine jr_lcmp jf_53_121 ?_
      replace h := ite_or h; rcases h with ⟨hc, h⟩ | ⟨hc, h⟩
      · refine jr_ifl_eq_t jf_53_122 hc ?_
        exact r_Real_product_132 hd _ _ _ _ _ (jg1_ne rfl hl0) jg1_same h
      · refine jr_ifl_eq_f jf_53_122 hc ?_
        refine jr_lload jf_53_125 (jg1_ne rfl hl7) ?_
        refine jr_lconst0 jf_53_127 ?_
        refine jr_lcmp jf_53_128 ?_
        replace h := ite_or h; rcases h with ⟨hc, h⟩ | ⟨hc, h⟩
        · refine jr_ifl_ne_f jf_53_129 hc ?_
          exact r_Real_product_132 hd _ _ _ _ _ (jg1_ne rfl hl0) jg1_same h
        · refine jr_ifl_ne_t jf_53_129 hc ?_
          refine jr_aload_n jf_53_140 rfl (jg1_ne rfl hl0) ?_
          refine jr_lload jf_53_141 (jg1_ne rfl hl5) ?_
          replace h := jgd_of h; obtain ⟨hb3, h⟩ := h
          replace h := obd_of h; obtain ⟨x4, hx4, h⟩ := h
          refine jr_V6_1 jf_53_143 hb3 (by omega) (r_Real_mantissa (by omega) _ _ _ _ hx4) (Nat.le_of_ble_eq_true rfl) jml_56 (Nat.le_of_ble_eq_true rfl) ?_
          refine jr_lstore jf_53_146 jml_53 (by decide) ?_
          refine jr_aload_n jf_53_148 rfl (jg2_ne rfl (jg1_ne rfl hl0)) ?_
          refine jr_lload jf_53_149 (jg2_ne rfl (jg1_ne rfl hl7)) ?_
          replace h := jgd_of h; obtain ⟨hb5, h⟩ := h
          replace h := obd_of h; obtain ⟨x6, hx6, h⟩ := h
          refine jr_V6_1 jf_53_151 hb5 (by omega) (r_Real_mantissa (by omega) _ _ _ _ hx6) (Nat.le_of_ble_eq_true rfl) jml_56 (Nat.le_of_ble_eq_true rfl) ?_
          refine jr_lstore jf_53_154 jml_53 (by decide) ?_
          refine jr_lload jf_53_156 (jg2_ne rfl jg2_same) ?_
          refine jr_S3_1 jf_53_158 (by omega) (r_Real_lead (by omega) _ _ _ rfl) (Nat.le_of_ble_eq_true rfl) jml_57 (Nat.le_of_ble_eq_true rfl) ?_
          refine jr_bipush jf_53_161 jc_b_62 ?_
          refine jr_isub jf_53_163 ?_
          refine jr_bipush jf_53_164 jc_b_52 ?_
          refine jr_iadd jf_53_166 ?_
          refine jr_istore jf_53_167 jml_53 (by decide) ?_
          replace h := jlet_of h
          refine jr_lload jf_53_169 (jg1_ne rfl jg2_same) ?_
          refine jr_S3_1 jf_53_171 (by omega) (r_Real_lead (by omega) _ _ _ rfl) (Nat.le_of_ble_eq_true rfl) jml_57 (Nat.le_of_ble_eq_true rfl) ?_
          refine jr_bipush jf_53_174 jc_b_62 ?_
          refine jr_isub jf_53_176 ?_
          refine jr_bipush jf_53_177 jc_b_52 ?_
          refine jr_iadd jf_53_179 ?_
          refine jr_istore jf_53_180 jml_53 (by decide) ?_
          replace h := jlet_of h
          refine jr_aload_n jf_53_182 rfl (jg1_ne rfl (jg1_ne rfl (jg2_ne rfl (jg2_ne rfl (jg1_ne rfl hl0))))) ?_
          refine jr_iload jf_53_183 (jg1_ne rfl (jg1_ne rfl (jg2_ne rfl (jg2_pre rfl jg1_same)))) ?_
          refine jr_aload_n jf_53_185 rfl (jg1_ne rfl (jg1_ne rfl (jg2_ne rfl (jg2_ne rfl (jg1_ne rfl hl0))))) ?_
          refine jr_lload jf_53_186 (jg1_ne rfl (jg1_ne rfl (jg2_ne rfl (jg2_ne rfl (jg1_ne rfl hl5))))) ?_
          replace h := jgd_of h; obtain ⟨hb9, h⟩ := h
          replace h := obd_of h; obtain ⟨x10, hx10, h⟩ := h
          refine jr_V6_1 jf_53_188 hb9 (by omega) (r_Real_exponent (by omega) _ _ _ _ hx10) (Nat.le_of_ble_eq_true rfl) jml_58 (Nat.le_of_ble_eq_true rfl) ?_
          refine jr_iload jf_53_191 (jg1_pre rfl jg1_same) ?_
          refine jr_isub jf_53_193 ?_
          refine jr_aload_n jf_53_194 rfl (jg1_ne rfl (jg1_ne rfl (jg2_ne rfl (jg2_ne rfl (jg1_ne rfl hl0))))) ?_
          refine jr_lload jf_53_195 (jg1_ne rfl (jg1_ne rfl (jg2_ne rfl (jg2_ne rfl (jg1_ne rfl hl7))))) ?_
          replace h := jgd_of h; obtain ⟨hb11, h⟩ := h
          replace h := obd_of h; obtain ⟨x12, hx12, h⟩ := h
          refine jr_V6_1 jf_53_197 hb11 (by omega) (r_Real_exponent (by omega) _ _ _ _ hx12) (Nat.le_of_ble_eq_true rfl) jml_58 (Nat.le_of_ble_eq_true rfl) ?_
          refine jr_iadd jf_53_200 ?_
          refine jr_iload jf_53_201 jg1_same ?_
          refine jr_isub jf_53_203 ?_
          refine jr_bipush jf_53_204 jc_b_44 ?_
          refine jr_iadd jf_53_206 ?_
          refine jr_lload jf_53_207 (jg1_ne rfl (jg1_ne rfl (jg2_ne rfl jg2_same))) ?_
          refine jr_iload jf_53_209 (jg1_pre rfl jg1_same) ?_
          refine jr_lshl jf_53_211 ?_
          refine jr_lload jf_53_212 (jg1_ne rfl (jg1_ne rfl jg2_same)) ?_
          refine jr_iload jf_53_214 jg1_same ?_
          refine jr_lshl jf_53_216 ?_
          refine jr_S3_2 jf_53_217 (by omega) (r_Real_highProduct (by omega) _ _ _ _ rfl) (Nat.le_of_ble_eq_true rfl) jml_59 (Nat.le_of_ble_eq_true rfl) ?_
          replace h := jgd_of h; obtain ⟨hb13, h⟩ := h
          replace h := obd_of h; obtain ⟨x14, hx14, h⟩ := h
          refine jr_V6_3 jf_53_220 hb13 (by omega) (r_Real_packed (by omega) _ _ _ _ _ _ hx14) (Nat.le_of_ble_eq_true rfl) jml_60 (Nat.le_of_ble_eq_true rfl) ?_
          obtain rfl := Option.some.inj h
          exact jr_retJ jf_53_223 jmt_53
    · refine jr_ifl_lt_f jf_53_63 hc ?_
      exact r_Real_product_66 hd _ _ _ _ _ _ _ (jg1_ne rfl hl0) (jg1_ne rfl hl5) (jg1_ne rfl hl7) jg1_same h
set_option maxRecDepth 10000 in
set_option maxHeartbeats 4000000 in
theorem r_Real_product_36 {B : Nat} {SA : Nat → Nat} {d : Nat} (hd : 2 ≤ d) : ∀ (L : JLoc) (v0 : Nat) (v5 : Int64) (v7 : Int64) (s0 : Bool) (s1 : Bool) (μ : JMem) (r : Int64), jget L 0 = .ref v0 → jget L 5 = .long v5 → jget L 7 = .long v7 → g_Real_product_36 v0 v5 v7 s0 s1 μ.1 = some r → jR B SA d m_Real_product 36 L [.int (jb s0), .int (jb s1)] μ (some (.long r)) μ := by
  intro L v0 v5 v7 s0 s1 μ r hl0 hl5 hl7 h
  unfold g_Real_product_36 at h
  replace h := ite_or h; rcases h with ⟨hc, h⟩ | ⟨hc, h⟩
  · refine jr_if2z_eq_t jf_53_36 hc ?_
    refine jr_iconst jf_53_43 jc_i_0 ?_
    exact r_Real_product_44 hd _ _ _ _ false _ _ hl0 hl5 hl7 h
  · refine jr_if2z_eq_f jf_53_36 hc ?_
    refine jr_iconst jf_53_39 jc_i_1 ?_
    refine jr_goto jf_53_40 ?_
    exact r_Real_product_44 hd _ _ _ _ true _ _ hl0 hl5 hl7 h
set_option maxRecDepth 10000 in
set_option maxHeartbeats 4000000 in
theorem r_Real_product_25 {B : Nat} {SA : Nat → Nat} {d : Nat} (hd : 2 ≤ d) : ∀ (L : JLoc) (v0 : Nat) (v3 : Int64) (v5 : Int64) (v7 : Int64) (s0 : Bool) (μ : JMem) (r : Int64), jget L 0 = .ref v0 → jget L 3 = .long v3 → jget L 5 = .long v5 → jget L 7 = .long v7 → g_Real_product_25 v0 v3 v5 v7 s0 μ.1 = some r → jR B SA d m_Real_product 25 L [.int (jb s0)] μ (some (.long r)) μ := by
  intro L v0 v3 v5 v7 s0 μ r hl0 hl3 hl5 hl7 h
  unfold g_Real_product_25 at h
  refine jr_lload_n jf_53_25 rfl hl3 ?_
  refine jr_lconst0 jf_53_26 ?_
  refine jr_lcmp jf_53_27 ?_
  replace h := ite_or h; rcases h with ⟨hc, h⟩ | ⟨hc, h⟩
  · refine jr_ifl_ge_t jf_53_28 hc ?_
    refine jr_iconst jf_53_35 jc_i_0 ?_
    exact r_Real_product_36 hd _ _ _ _ false _ _ _ hl0 hl5 hl7 h
  · refine jr_ifl_ge_f jf_53_28 hc ?_
    refine jr_iconst jf_53_31 jc_i_1 ?_
    refine jr_goto jf_53_32 ?_
    exact r_Real_product_36 hd _ _ _ _ true _ _ _ hl0 hl5 hl7 h
set_option maxRecDepth 10000 in
set_option maxHeartbeats 4000000 in
theorem r_Real_product_e {B : Nat} {SA : Nat → Nat} {d : Nat} (hd : 2 ≤ d) : ∀ (L : JLoc) (v0 : Nat) (v1 : Int64) (v3 : Int64) (μ : JMem) (r : Int64), jget L 0 = .ref v0 → jget L 1 = .long v1 → jget L 3 = .long v3 → g_Real_product v0 v1 v3 μ.1 = some r → jR B SA d m_Real_product 0 L [] μ (some (.long r)) μ := by
  intro L v0 v1 v3 μ r hl0 hl1 hl3 h
  unfold g_Real_product at h
  refine jr_aload_n jf_53_0 rfl hl0 ?_
  refine jr_lload_n jf_53_1 rfl hl1 ?_
  replace h := jgd_of h; obtain ⟨hb1, h⟩ := h
  replace h := obd_of h; obtain ⟨x2, hx2, h⟩ := h
  refine jr_V6_1 jf_53_2 hb1 (by omega) (r_Real_sizeOf (by omega) _ _ _ _ hx2) (Nat.le_of_ble_eq_true rfl) jml_54 (Nat.le_of_ble_eq_true rfl) ?_
  refine jr_lstore jf_53_5 jml_53 (by decide) ?_
  refine jr_aload_n jf_53_7 rfl (jg2_ne rfl hl0) ?_
  refine jr_lload_n jf_53_8 rfl (jg2_ne rfl hl3) ?_
  replace h := jgd_of h; obtain ⟨hb3, h⟩ := h
  replace h := obd_of h; obtain ⟨x4, hx4, h⟩ := h
  refine jr_V6_1 jf_53_9 hb3 (by omega) (r_Real_sizeOf (by omega) _ _ _ _ hx4) (Nat.le_of_ble_eq_true rfl) jml_54 (Nat.le_of_ble_eq_true rfl) ?_
  refine jr_lstore jf_53_12 jml_53 (by decide) ?_
  refine jr_lload_n jf_53_14 rfl (jg2_ne rfl (jg2_ne rfl hl1)) ?_
  refine jr_lconst0 jf_53_15 ?_
  refine jr_lcmp jf_53_16 ?_
  replace h := ite_or h; rcases h with ⟨hc, h⟩ | ⟨hc, h⟩
  · refine jr_ifl_ge_t jf_53_17 hc ?_
    refine jr_iconst jf_53_24 jc_i_0 ?_
    exact r_Real_product_25 hd _ _ _ _ _ false _ _ (jg2_ne rfl (jg2_ne rfl hl0)) (jg2_ne rfl (jg2_ne rfl hl3)) (jg2_ne rfl jg2_same) jg2_same h
  · refine jr_ifl_ge_f jf_53_17 hc ?_
    refine jr_iconst jf_53_20 jc_i_1 ?_
    refine jr_goto jf_53_21 ?_
    exact r_Real_product_25 hd _ _ _ _ _ true _ _ (jg2_ne rfl (jg2_ne rfl hl0)) (jg2_ne rfl (jg2_ne rfl hl3)) (jg2_ne rfl jg2_same) jg2_same h
set_option maxRecDepth 10000 in
set_option maxHeartbeats 4000000 in
theorem r_Real_product {B : Nat} {SA : Nat → Nat} {d : Nat} (hd : 2 ≤ d) : ∀ (v0 : Nat) (v1 : Int64) (v3 : Int64) (μ : JMem) (r : Int64), g_Real_product v0 v1 v3 μ.1 = some r → jR B SA d m_Real_product 0 (lv_args 0 [.ref v0, .long v1, .long v3]) [] μ (some (.long r)) μ := by
  intro v0 v1 v3 μ r h
  exact r_Real_product_e hd (lv_args 0 _) _ _ _ _ _ (by simp [lv_args, jget, rv_cat, cat_int, cat_long, cat_double, cat_float, cat_ref]) (by simp [lv_args, jget, rv_cat, cat_int, cat_long, cat_double, cat_float, cat_ref]) (by simp [lv_args, jget, rv_cat, cat_int, cat_long, cat_double, cat_float, cat_ref]) h
/-! FilterBench$Real.term(J)J -/
set_option maxRecDepth 10000 in
set_option maxHeartbeats 4000000 in
theorem r_Real_term_e {B : Nat} {SA : Nat → Nat} {d : Nat} (hd : 0 ≤ d) : ∀ (L : JLoc) (v1 : Int64) (μ : JMem) (r : Int64), jget L 1 = .long v1 → g_Real_term_e v1 = r → jR B SA d m_Real_term 0 L [] μ (some (.long r)) μ := by
  intro L v1 μ r hl1 h
  unfold g_Real_term_e at h
  refine jr_lload_n jf_63_0 rfl hl1 ?_
  subst h
  exact jr_retJ jf_63_1 jmt_63
set_option maxRecDepth 10000 in
set_option maxHeartbeats 4000000 in
theorem r_Real_term {B : Nat} {SA : Nat → Nat} {d : Nat} (hd : 0 ≤ d) : ∀ (v0 : Nat) (v1 : Int64) (μ : JMem) (r : Int64), g_Real_term v0 v1 = r → jR B SA d m_Real_term 0 (lv_args 0 [.ref v0, .long v1]) [] μ (some (.long r)) μ := by
  intro v0 v1 μ r h
  exact r_Real_term_e hd (lv_args 0 _) _ _ _ (by simp [lv_args, jget, rv_cat, cat_int, cat_long, cat_double, cat_float, cat_ref]) h
/-! FilterBench$Row.put(IJ)V -/
set_option maxRecDepth 10000 in
set_option maxHeartbeats 4000000 in
theorem r_Row_put_e {B : Nat} {SA : Nat → Nat} {d : Nat} (hd : 1 ≤ d) : ∀ (L : JLoc) (v0 : Nat) (v1 : Int32) (v2 : Int64) (μ : JMem) (μ9 : JMem), jget L 0 = .ref v0 → jget L 1 = .int v1 → jget L 2 = .long v2 → g_Row_put B v0 v1 v2 μ = some μ9 → jR B SA d m_Row_put 0 L [] μ none μ9 := by
  intro L v0 v1 v2 μ μ9 hl0 hl1 hl2 h
  unfold g_Row_put at h
  refine jr_iload_n jf_50_0 rfl hl1 ?_
  replace h := ite_or h; rcases h with ⟨hc, h⟩ | ⟨hc, h⟩
  · refine jr_if_lt_t jf_50_1 hc ?_
    obtain rfl := Option.some.inj h
    exact jr_return jf_50_24 jmt_50
  · refine jr_if_lt_f jf_50_1 hc ?_
    refine jr_iload_n jf_50_4 rfl hl1 ?_
    refine jr_aload_n jf_50_5 rfl hl0 ?_
    replace h := obd_of h; obtain ⟨x1, hx1, h⟩ := h
    refine jr_getA jf_50_6 hx1 ?_
    replace h := obd_of h; obtain ⟨a2, rfl, h⟩ := h
    replace h := obd_of h; obtain ⟨x3, hx3, h⟩ := h
    refine jr_arraylength jf_50_9 hx3 ?_
    replace h := ite_or h; rcases h with ⟨hc, h⟩ | ⟨hc, h⟩
    · refine jr_if2_ge_t jf_50_10 hc ?_
      obtain rfl := Option.some.inj h
      exact jr_return jf_50_24 jmt_50
    · refine jr_if2_ge_f jf_50_10 hc ?_
      refine jr_aload_n jf_50_13 rfl hl0 ?_
      replace h := obd_of h; obtain ⟨x4, hx4, h⟩ := h
      refine jr_getA jf_50_14 hx4 ?_
      refine jr_aload_n jf_50_17 rfl hl0 ?_
      refine jr_iload_n jf_50_18 rfl hl1 ?_
      replace h := jgd_of h; obtain ⟨hb5, h⟩ := h
      replace h := obd_of h; obtain ⟨x6, hx6, h⟩ := h
      refine jr_V6_1 jf_50_19 hb5 (by omega) (r_Row_index (by omega) _ _ _ _ hx6) (by simp only [jcats_cons, jcats_nil, cat_int, cat_long, cat_double, cat_float, cat_ref, rv_cat]; decide) jml_24 (Nat.le_of_ble_eq_true rfl) ?_
      refine jr_lload_n jf_50_22 rfl hl2 ?_
      replace h := obd_of h; obtain ⟨a7, rfl, h⟩ := h
      replace h := obd_of h; obtain ⟨μ8, hμ8, h⟩ := h
      refine jr_lastore jf_50_23 hμ8 ?_
      obtain rfl := Option.some.inj h
      exact jr_return jf_50_24 jmt_50
set_option maxRecDepth 10000 in
set_option maxHeartbeats 4000000 in
theorem r_Row_put {B : Nat} {SA : Nat → Nat} {d : Nat} (hd : 1 ≤ d) : ∀ (v0 : Nat) (v1 : Int32) (v2 : Int64) (μ : JMem) (μ9 : JMem), g_Row_put B v0 v1 v2 μ = some μ9 → jR B SA d m_Row_put 0 (lv_args 0 [.ref v0, .int v1, .long v2]) [] μ none μ9 := by
  intro v0 v1 v2 μ μ9 h
  exact r_Row_put_e hd (lv_args 0 _) _ _ _ _ _ (by simp [lv_args, jget, rv_cat, cat_int, cat_long, cat_double, cat_float, cat_ref]) (by simp [lv_args, jget, rv_cat, cat_int, cat_long, cat_double, cat_float, cat_ref]) (by simp [lv_args, jget, rv_cat, cat_int, cat_long, cat_double, cat_float, cat_ref]) h
/-! FilterBench$Shorts.isShort(J)Z -/
set_option maxRecDepth 10000 in
set_option maxHeartbeats 4000000 in
theorem r_Shorts_isShort_e {B : Nat} {SA : Nat → Nat} {d : Nat} (hd : 0 ≤ d) : ∀ (L : JLoc) (v0 : Int64) (μ : JMem) (r : Bool), jget L 0 = .long v0 → g_Shorts_isShort v0 = r → jR B SA d m_Shorts_isShort 0 L [] μ (some (.int (jb r))) μ := by
  intro L v0 μ r hl0 h
  unfold g_Shorts_isShort at h
  refine jr_lload_n jf_72_0 rfl hl0 ?_
  refine jr_ldc2l jf_72_1 ?_
  refine jr_lcmp jf_72_4 ?_
  replace h := ite_or h; rcases h with ⟨hc, h⟩ | ⟨hc, h⟩
  · refine jr_ifl_lt_t jf_72_5 hc ?_
    refine jr_iconst jf_72_20 jc_i_0 ?_
    subst h
    exact jr_retZ (x := false) jf_72_21 jmt_72
  · refine jr_ifl_lt_f jf_72_5 hc ?_
    refine jr_lload_n jf_72_8 rfl hl0 ?_
    refine jr_ldc2l jf_72_9 ?_
    refine jr_lcmp jf_72_12 ?_
    replace h := ite_or h; rcases h with ⟨hc, h⟩ | ⟨hc, h⟩
    · refine jr_ifl_gt_t jf_72_13 hc ?_
      refine jr_iconst jf_72_20 jc_i_0 ?_
      subst h
      exact jr_retZ (x := false) jf_72_21 jmt_72
    · refine jr_ifl_gt_f jf_72_13 hc ?_
      refine jr_iconst jf_72_16 jc_i_1 ?_
      refine jr_goto jf_72_17 ?_
      subst h
      exact jr_retZ (x := true) jf_72_21 jmt_72
set_option maxRecDepth 10000 in
set_option maxHeartbeats 4000000 in
theorem r_Shorts_isShort {B : Nat} {SA : Nat → Nat} {d : Nat} (hd : 0 ≤ d) : ∀ (v0 : Int64) (μ : JMem) (r : Bool), g_Shorts_isShort v0 = r → jR B SA d m_Shorts_isShort 0 (lv_args 0 [.long v0]) [] μ (some (.int (jb r))) μ := by
  intro v0 μ r h
  exact r_Shorts_isShort_e hd (lv_args 0 _) _ _ _ (by simp [lv_args, jget, rv_cat, cat_int, cat_long, cat_double, cat_float, cat_ref]) h
/-! FilterBench$Shorts.cut(J)J -/
set_option maxRecDepth 10000 in
set_option maxHeartbeats 4000000 in
theorem r_Shorts_cut_e {B : Nat} {SA : Nat → Nat} {d : Nat} (hd : 0 ≤ d) : ∀ (L : JLoc) (v0 : Int64) (μ : JMem) (r : Int64), jget L 0 = .long v0 → g_Shorts_cut v0 = r → jR B SA d m_Shorts_cut 0 L [] μ (some (.long r)) μ := by
  intro L v0 μ r hl0 h
  unfold g_Shorts_cut at h
  refine jr_lload_n jf_74_0 rfl hl0 ?_
  refine jr_ldc2l jf_74_1 ?_
  refine jr_lcmp jf_74_4 ?_
  replace h := ite_or h; rcases h with ⟨hc, h⟩ | ⟨hc, h⟩
  · refine jr_ifl_le_t jf_74_5 hc ?_
    refine jr_lload_n jf_74_14 rfl hl0 ?_
    refine jr_ldc2l jf_74_15 ?_
    refine jr_lcmp jf_74_18 ?_
    replace h := ite_or h; rcases h with ⟨hc, h⟩ | ⟨hc, h⟩
    · refine jr_ifl_ge_t jf_74_19 hc ?_
      refine jr_lload_n jf_74_28 rfl hl0 ?_
      subst h
      exact jr_retJ jf_74_29 jmt_74
    · refine jr_ifl_ge_f jf_74_19 hc ?_
      refine jr_ldc2l jf_74_22 ?_
      refine jr_goto jf_74_25 ?_
      subst h
      exact jr_retJ jf_74_29 jmt_74
  · refine jr_ifl_le_f jf_74_5 hc ?_
    refine jr_ldc2l jf_74_8 ?_
    refine jr_goto jf_74_11 ?_
    subst h
    exact jr_retJ jf_74_29 jmt_74
set_option maxRecDepth 10000 in
set_option maxHeartbeats 4000000 in
theorem r_Shorts_cut {B : Nat} {SA : Nat → Nat} {d : Nat} (hd : 0 ≤ d) : ∀ (v0 : Int64) (μ : JMem) (r : Int64), g_Shorts_cut v0 = r → jR B SA d m_Shorts_cut 0 (lv_args 0 [.long v0]) [] μ (some (.long r)) μ := by
  intro v0 μ r h
  exact r_Shorts_cut_e hd (lv_args 0 _) _ _ _ (by simp [lv_args, jget, rv_cat, cat_int, cat_long, cat_double, cat_float, cat_ref]) h
/-! FilterBench$Shorts.limited(JI)J -/
set_option maxRecDepth 10000 in
set_option maxHeartbeats 4000000 in
theorem r_Shorts_limited_e {B : Nat} {SA : Nat → Nat} {d : Nat} (hd : 1 ≤ d) : ∀ (L : JLoc) (v0 : Int64) (v2 : Int32) (μ : JMem) (r : Int64), jget L 0 = .long v0 → jget L 2 = .int v2 → g_Shorts_limited v0 v2 = r → jR B SA d m_Shorts_limited 0 L [] μ (some (.long r)) μ := by
  intro L v0 v2 μ r hl0 hl2 h
  unfold g_Shorts_limited at h
  refine jr_iload_n jf_73_0 rfl hl2 ?_
  replace h := ite_or h; rcases h with ⟨hc, h⟩ | ⟨hc, h⟩
  · refine jr_if_ne_f jf_73_1 hc ?_
    refine jr_lload_n jf_73_4 rfl hl0 ?_
    refine jr_S3_1 jf_73_5 (by omega) (r_Shorts_cut (by omega) _ _ _ rfl) (Nat.le_of_ble_eq_true rfl) jml_74 (Nat.le_of_ble_eq_true rfl) ?_
    refine jr_goto jf_73_8 ?_
    subst h
    exact jr_retJ jf_73_15 jmt_73
  · refine jr_if_ne_t jf_73_1 hc ?_
    refine jr_lload_n jf_73_11 rfl hl0 ?_
    refine jr_l2i jf_73_12 ?_
    refine jr_i2s jf_73_13 ?_
    refine jr_i2l jf_73_14 ?_
    subst h
    exact jr_retJ jf_73_15 jmt_73
set_option maxRecDepth 10000 in
set_option maxHeartbeats 4000000 in
theorem r_Shorts_limited {B : Nat} {SA : Nat → Nat} {d : Nat} (hd : 1 ≤ d) : ∀ (v0 : Int64) (v2 : Int32) (μ : JMem) (r : Int64), g_Shorts_limited v0 v2 = r → jR B SA d m_Shorts_limited 0 (lv_args 0 [.long v0, .int v2]) [] μ (some (.long r)) μ := by
  intro v0 v2 μ r h
  exact r_Shorts_limited_e hd (lv_args 0 _) _ _ _ _ (by simp [lv_args, jget, rv_cat, cat_int, cat_long, cat_double, cat_float, cat_ref]) (by simp [lv_args, jget, rv_cat, cat_int, cat_long, cat_double, cat_float, cat_ref]) h
/-! FilterBench$Shorts.rounded(JI)J -/
set_option maxRecDepth 10000 in
set_option maxHeartbeats 4000000 in
theorem r_Shorts_rounded_e {B : Nat} {SA : Nat → Nat} {d : Nat} (hd : 0 ≤ d) : ∀ (L : JLoc) (v0 : Int64) (v2 : Int32) (μ : JMem) (r : Int64), jget L 0 = .long v0 → jget L 2 = .int v2 → g_Shorts_rounded v0 v2 = r → jR B SA d m_Shorts_rounded 0 L [] μ (some (.long r)) μ := by
  intro L v0 v2 μ r hl0 hl2 h
  unfold g_Shorts_rounded at h
  refine jr_iload_n jf_71_0 rfl hl2 ?_
  replace h := ite_or h; rcases h with ⟨hc, h⟩ | ⟨hc, h⟩
  · refine jr_if_ne_f jf_71_1 hc ?_
    refine jr_lload_n jf_71_4 rfl hl0 ?_
    refine jr_ldc2l jf_71_5 ?_
    refine jr_ladd jf_71_8 ?_
    refine jr_bipush jf_71_9 jc_b_14 ?_
    refine jr_lshr jf_71_11 ?_
    refine jr_goto jf_71_12 ?_
    subst h
    exact jr_retJ jf_71_20 jmt_71
  · refine jr_if_ne_t jf_71_1 hc ?_
    refine jr_lload_n jf_71_15 rfl hl0 ?_
    refine jr_ldc2l jf_71_16 ?_
    refine jr_ldiv jf_71_19 (by simp only [jdivL]; exact if_neg (by decide)) ?_
    subst h
    exact jr_retJ jf_71_20 jmt_71
set_option maxRecDepth 10000 in
set_option maxHeartbeats 4000000 in
theorem r_Shorts_rounded {B : Nat} {SA : Nat → Nat} {d : Nat} (hd : 0 ≤ d) : ∀ (v0 : Int64) (v2 : Int32) (μ : JMem) (r : Int64), g_Shorts_rounded v0 v2 = r → jR B SA d m_Shorts_rounded 0 (lv_args 0 [.long v0, .int v2]) [] μ (some (.long r)) μ := by
  intro v0 v2 μ r h
  exact r_Shorts_rounded_e hd (lv_args 0 _) _ _ _ _ (by simp [lv_args, jget, rv_cat, cat_int, cat_long, cat_double, cat_float, cat_ref]) (by simp [lv_args, jget, rv_cat, cat_int, cat_long, cat_double, cat_float, cat_ref]) h
/-! FilterBench$Section.settled(J)J -/
set_option maxRecDepth 10000 in
set_option maxHeartbeats 4000000 in
theorem r_Section_settled_67 {B : Nat} {SA : Nat → Nat} {d : Nat} (hd : 2 ≤ d) : ∀ (L : JLoc) (v0 : Nat) (v5 : Int64) (μ : JMem) (r : Int64) (μ9 : JMem), jget L 0 = .ref v0 → jget L 5 = .long v5 → g_Section_settled_67 B v0 v5 μ = some (r, μ9) → jR B SA d m_Section_settled 67 L [] μ (some (.long r)) μ9 := by
  intro L v0 v5 μ r μ9 hl0 hl5 h
  unfold g_Section_settled_67 at h
  refine jr_lload jf_70_67 hl5 ?_
  refine jr_S3_1 jf_70_69 (by omega) (r_Shorts_isShort (by omega) _ _ _ rfl) (Nat.le_of_ble_eq_true rfl) jml_72 (Nat.le_of_ble_eq_true rfl) ?_
  replace h := ite_or h; rcases h with ⟨hc, h⟩ | ⟨hc, h⟩
  · refine jr_ifz_eq_f jf_70_72 hc ?_
    refine jr_lload jf_70_75 hl5 ?_
    obtain ⟨rfl, rfl⟩ := Prod.mk.inj (Option.some.inj h)
    exact jr_retJ jf_70_77 jmt_70
  · refine jr_ifz_eq_t jf_70_72 hc ?_
    refine jr_aload_n jf_70_78 rfl hl0 ?_
    refine jr_dup jf_70_79 rfl ?_
    replace h := obd_of h; obtain ⟨x1, hx1, h⟩ := h
    refine jr_getI jf_70_80 hx1 ?_
    refine jr_iconst jf_70_83 jc_i_1 ?_
    refine jr_iadd jf_70_84 ?_
    replace h := obd_of h; obtain ⟨μ2, hμ2, h⟩ := h
    refine jr_putI jf_70_85 rfl hμ2 ?_
    refine jr_lload jf_70_88 hl5 ?_
    refine jr_aload_n jf_70_90 rfl hl0 ?_
    replace h := obd_of h; obtain ⟨x3, hx3, h⟩ := h
    refine jr_getI jf_70_91 hx3 ?_
    refine jr_S3_2 jf_70_94 (by omega) (r_Shorts_limited (by omega) _ _ _ _ rfl) (Nat.le_of_ble_eq_true rfl) jml_73 (Nat.le_of_ble_eq_true rfl) ?_
    obtain ⟨rfl, rfl⟩ := Prod.mk.inj (Option.some.inj h)
    exact jr_retJ jf_70_97 jmt_70
set_option maxRecDepth 10000 in
set_option maxHeartbeats 4000000 in
theorem r_Section_settled_32 {B : Nat} {SA : Nat → Nat} {d : Nat} (hd : 2 ≤ d) : ∀ (L : JLoc) (v0 : Nat) (s0 : Int64) (μ : JMem) (r : Int64) (μ9 : JMem), jget L 0 = .ref v0 → g_Section_settled_32 B v0 s0 μ = some (r, μ9) → jR B SA d m_Section_settled 32 L [.long s0] μ (some (.long r)) μ9 := by
  intro L v0 s0 μ r μ9 hl0 h
  unfold g_Section_settled_32 at h
  refine jr_lstore_n jf_70_32 rfl jml_70 (by decide) ?_
  refine jr_lload_n jf_70_33 rfl jg2_same ?_
  refine jr_aload_n jf_70_34 rfl (jg2_ne rfl hl0) ?_
  replace h := obd_of h; obtain ⟨x1, hx1, h⟩ := h
  refine jr_getI jf_70_35 hx1 ?_
  refine jr_S3_2 jf_70_38 (by omega) (r_Shorts_rounded (by omega) _ _ _ _ rfl) (Nat.le_of_ble_eq_true rfl) jml_71 (Nat.le_of_ble_eq_true rfl) ?_
  refine jr_lstore jf_70_41 jml_70 (by decide) ?_
  refine jr_aload_n jf_70_43 rfl (jg2_ne rfl (jg2_ne rfl hl0)) ?_
  replace h := obd_of h; obtain ⟨x2, hx2, h⟩ := h
  refine jr_getI jf_70_44 hx2 ?_
  refine jr_iconst jf_70_47 jc_i_2 ?_
  replace h := ite_or h; rcases h with ⟨hc, h⟩ | ⟨hc, h⟩
  · refine jr_if2_ne_f jf_70_48 hc ?_
    refine jr_aload_n jf_70_51 rfl (jg2_ne rfl (jg2_ne rfl hl0)) ?_
    replace h := obd_of h; obtain ⟨x3, hx3, h⟩ := h
    refine jr_getA jf_70_52 hx3 ?_
    refine jr_iconst jf_70_55 jc_i_0 ?_
    refine jr_lload_n jf_70_56 rfl (jg2_ne rfl jg2_same) ?_
    refine jr_lload jf_70_57 jg2_same ?_
    refine jr_ldc2l jf_70_59 ?_
    refine jr_lmul jf_70_62 ?_
    refine jr_lsub jf_70_63 ?_
    replace h := obd_of h; obtain ⟨a4, rfl, h⟩ := h
    replace h := jgd_of h; obtain ⟨hb5, h⟩ := h
    replace h := obd_of h; obtain ⟨μ6, hμ6, h⟩ := h
    refine jr_V6v_2 jf_70_64 hb5 (by omega) (r_Row_put (by omega) _ _ _ _ _ hμ6) (Nat.le_of_ble_eq_true rfl) jml_50 (Nat.le_of_ble_eq_true rfl) ?_
    exact r_Section_settled_67 hd _ _ _ _ _ _ (jg2_ne rfl (jg2_ne rfl hl0)) jg2_same h
  · refine jr_if2_ne_t jf_70_48 hc ?_
    exact r_Section_settled_67 hd _ _ _ _ _ _ (jg2_ne rfl (jg2_ne rfl hl0)) jg2_same h
set_option maxRecDepth 10000 in
set_option maxHeartbeats 4000000 in
theorem r_Section_settled_e {B : Nat} {SA : Nat → Nat} {d : Nat} (hd : 2 ≤ d) : ∀ (L : JLoc) (v0 : Nat) (v1 : Int64) (μ : JMem) (r : Int64) (μ9 : JMem), jget L 0 = .ref v0 → jget L 1 = .long v1 → g_Section_settled B v0 v1 μ = some (r, μ9) → jR B SA d m_Section_settled 0 L [] μ (some (.long r)) μ9 := by
  intro L v0 v1 μ r μ9 hl0 hl1 h
  unfold g_Section_settled at h
  refine jr_aload_n jf_70_0 rfl hl0 ?_
  replace h := obd_of h; obtain ⟨x1, hx1, h⟩ := h
  refine jr_getI jf_70_1 hx1 ?_
  refine jr_iconst jf_70_4 jc_i_2 ?_
  replace h := ite_or h; rcases h with ⟨hc, h⟩ | ⟨hc, h⟩
  · refine jr_if2_eq_t jf_70_5 hc ?_
    refine jr_aload_n jf_70_10 rfl hl0 ?_
    replace h := obd_of h; obtain ⟨x2, hx2, h⟩ := h
    refine jr_getI jf_70_11 hx2 ?_
    refine jr_iconst jf_70_14 jc_i_2 ?_
    replace h := ite_or h; rcases h with ⟨hc, h⟩ | ⟨hc, h⟩
    · refine jr_if2_ne_f jf_70_15 hc ?_
      refine jr_lload_n jf_70_18 rfl hl1 ?_
      refine jr_aload_n jf_70_19 rfl hl0 ?_
      replace h := obd_of h; obtain ⟨x3, hx3, h⟩ := h
      refine jr_getA jf_70_20 hx3 ?_
      refine jr_iconst jf_70_23 jc_i_0 ?_
      replace h := obd_of h; obtain ⟨a4, rfl, h⟩ := h
      replace h := jgd_of h; obtain ⟨hb5, h⟩ := h
      replace h := obd_of h; obtain ⟨x6, hx6, h⟩ := h
      refine jr_V6_1 jf_70_24 hb5 (by omega) (r_Row_at (by omega) _ _ _ _ hx6) (Nat.le_of_ble_eq_true rfl) jml_23 (Nat.le_of_ble_eq_true rfl) ?_
      refine jr_ladd jf_70_27 ?_
      refine jr_goto jf_70_28 ?_
      exact r_Section_settled_32 hd _ _ _ _ _ _ hl0 h
    · refine jr_if2_ne_t jf_70_15 hc ?_
      refine jr_lload_n jf_70_31 rfl hl1 ?_
      exact r_Section_settled_32 hd _ _ _ _ _ _ hl0 h
  · refine jr_if2_eq_f jf_70_5 hc ?_
    refine jr_lload_n jf_70_8 rfl hl1 ?_
    obtain ⟨rfl, rfl⟩ := Prod.mk.inj (Option.some.inj h)
    exact jr_retJ jf_70_9 jmt_70
set_option maxRecDepth 10000 in
set_option maxHeartbeats 4000000 in
theorem r_Section_settled {B : Nat} {SA : Nat → Nat} {d : Nat} (hd : 2 ≤ d) : ∀ (v0 : Nat) (v1 : Int64) (μ : JMem) (r : Int64) (μ9 : JMem), g_Section_settled B v0 v1 μ = some (r, μ9) → jR B SA d m_Section_settled 0 (lv_args 0 [.ref v0, .long v1]) [] μ (some (.long r)) μ9 := by
  intro v0 v1 μ r μ9 h
  exact r_Section_settled_e hd (lv_args 0 _) _ _ _ _ _ (by simp [lv_args, jget, rv_cat, cat_int, cat_long, cat_double, cat_float, cat_ref]) (by simp [lv_args, jget, rv_cat, cat_int, cat_long, cat_double, cat_float, cat_ref]) h
/-! FilterBench$Shorts.plus(JJ)J -/
set_option maxRecDepth 10000 in
set_option maxHeartbeats 4000000 in
theorem r_Shorts_plus_e {B : Nat} {SA : Nat → Nat} {d : Nat} (hd : 0 ≤ d) : ∀ (L : JLoc) (v1 : Int64) (v3 : Int64) (μ : JMem) (r : Int64), jget L 1 = .long v1 → jget L 3 = .long v3 → g_Shorts_plus_e v1 v3 = r → jR B SA d m_Shorts_plus 0 L [] μ (some (.long r)) μ := by
  intro L v1 v3 μ r hl1 hl3 h
  unfold g_Shorts_plus_e at h
  refine jr_lload_n jf_69_0 rfl hl1 ?_
  refine jr_lload_n jf_69_1 rfl hl3 ?_
  refine jr_ladd jf_69_2 ?_
  subst h
  exact jr_retJ jf_69_3 jmt_69
set_option maxRecDepth 10000 in
set_option maxHeartbeats 4000000 in
theorem r_Shorts_plus {B : Nat} {SA : Nat → Nat} {d : Nat} (hd : 0 ≤ d) : ∀ (v0 : Nat) (v1 : Int64) (v3 : Int64) (μ : JMem) (r : Int64), g_Shorts_plus v0 v1 v3 = r → jR B SA d m_Shorts_plus 0 (lv_args 0 [.ref v0, .long v1, .long v3]) [] μ (some (.long r)) μ := by
  intro v0 v1 v3 μ r h
  exact r_Shorts_plus_e hd (lv_args 0 _) _ _ _ _ (by simp [lv_args, jget, rv_cat, cat_int, cat_long, cat_double, cat_float, cat_ref]) (by simp [lv_args, jget, rv_cat, cat_int, cat_long, cat_double, cat_float, cat_ref]) h
/-! FilterBench$Shorts.product(JJ)J -/
set_option maxRecDepth 10000 in
set_option maxHeartbeats 4000000 in
theorem r_Shorts_product_e {B : Nat} {SA : Nat → Nat} {d : Nat} (hd : 0 ≤ d) : ∀ (L : JLoc) (v1 : Int64) (v3 : Int64) (μ : JMem) (r : Int64), jget L 1 = .long v1 → jget L 3 = .long v3 → g_Shorts_product_e v1 v3 = r → jR B SA d m_Shorts_product 0 L [] μ (some (.long r)) μ := by
  intro L v1 v3 μ r hl1 hl3 h
  unfold g_Shorts_product_e at h
  refine jr_lload_n jf_62_0 rfl hl1 ?_
  refine jr_lload_n jf_62_1 rfl hl3 ?_
  refine jr_lmul jf_62_2 ?_
  subst h
  exact jr_retJ jf_62_3 jmt_62
set_option maxRecDepth 10000 in
set_option maxHeartbeats 4000000 in
theorem r_Shorts_product {B : Nat} {SA : Nat → Nat} {d : Nat} (hd : 0 ≤ d) : ∀ (v0 : Nat) (v1 : Int64) (v3 : Int64) (μ : JMem) (r : Int64), g_Shorts_product v0 v1 v3 = r → jR B SA d m_Shorts_product 0 (lv_args 0 [.ref v0, .long v1, .long v3]) [] μ (some (.long r)) μ := by
  intro v0 v1 v3 μ r h
  exact r_Shorts_product_e hd (lv_args 0 _) _ _ _ _ (by simp [lv_args, jget, rv_cat, cat_int, cat_long, cat_double, cat_float, cat_ref]) (by simp [lv_args, jget, rv_cat, cat_int, cat_long, cat_double, cat_float, cat_ref]) h
/-! FilterBench$Shorts.term(J)J -/
set_option maxRecDepth 10000 in
set_option maxHeartbeats 4000000 in
theorem r_Shorts_term_e {B : Nat} {SA : Nat → Nat} {d : Nat} (hd : 0 ≤ d) : ∀ (L : JLoc) (v1 : Int64) (μ : JMem) (r : Int64), jget L 1 = .long v1 → g_Shorts_term_e v1 = r → jR B SA d m_Shorts_term 0 L [] μ (some (.long r)) μ := by
  intro L v1 μ r hl1 h
  unfold g_Shorts_term_e at h
  refine jr_lload_n jf_64_0 rfl hl1 ?_
  refine jr_ldc2l jf_64_1 ?_
  refine jr_lmul jf_64_4 ?_
  subst h
  exact jr_retJ jf_64_5 jmt_64
set_option maxRecDepth 10000 in
set_option maxHeartbeats 4000000 in
theorem r_Shorts_term {B : Nat} {SA : Nat → Nat} {d : Nat} (hd : 0 ≤ d) : ∀ (v0 : Nat) (v1 : Int64) (μ : JMem) (r : Int64), g_Shorts_term v0 v1 = r → jR B SA d m_Shorts_term 0 (lv_args 0 [.ref v0, .long v1]) [] μ (some (.long r)) μ := by
  intro v0 v1 μ r h
  exact r_Shorts_term_e hd (lv_args 0 _) _ _ _ (by simp [lv_args, jget, rv_cat, cat_int, cat_long, cat_double, cat_float, cat_ref]) h
/-! FilterBench$Chain.looped(ILFilterBench$Section;J)J -/
set_option maxRecDepth 10000 in
set_option maxHeartbeats 4000000 in
theorem r_Chain_looped_84 {N B : Nat} {SA : Nat → Nat} {d : Nat} (hd : 4 ≤ d) {k6 : Nat → Int32 → Option Nat → Int64 → Int32 → JMem → Option (Int64 × JMem)} (i6 : ∀ (L : JLoc) (v0 : Nat) (v1 : Int32) (v2 : Option Nat) (v5 : Int64) (v7 : Int32) (μ : JMem) (r : Int64) (μ9 : JMem), jget L 0 = .ref v0 → jget L 1 = .int v1 → jget L 2 = rv v2 → jget L 5 = .long v5 → jget L 7 = .int v7 → k6 v0 v1 v2 v5 v7 μ = some (r, μ9) → jR B SA d m_Chain_looped 6 L [] μ (some (.long r)) μ9) : ∀ (L : JLoc) (v0 : Nat) (v1 : Int32) (v2 : Option Nat) (v5 : Int64) (v7 : Int32) (μ : JMem) (r : Int64) (μ9 : JMem), jget L 0 = .ref v0 → jget L 1 = .int v1 → jget L 2 = rv v2 → jget L 5 = .long v5 → jget L 7 = .int v7 → g_Chain_looped_84 N B k6 v0 v1 v2 v5 v7 μ = some (r, μ9) → jR B SA d m_Chain_looped 84 L [] μ (some (.long r)) μ9 := by
  intro L v0 v1 v2 v5 v7 μ r μ9 hl0 hl1 hl2 hl5 hl7 h
  unfold g_Chain_looped_84 at h
  refine jr_iinc jf_51_84 jc_i_1 jml_51 (by decide) hl7 ?_
  refine jr_goto jf_51_87 ?_
  exact i6 _ _ _ _ _ _ _ _ _ (jg1_ne rfl hl0) (jg1_ne rfl hl1) (jg1_ne rfl hl2) (jg1_ne rfl hl5) jg1_same h
set_option maxRecDepth 10000 in
set_option maxHeartbeats 4000000 in
theorem r_Chain_looped_6 {N B : Nat} {SA : Nat → Nat} {d : Nat} (hd : 4 ≤ d) : ∀ (n : Nat), ∀ (L : JLoc) (v0 : Nat) (v1 : Int32) (v2 : Option Nat) (v5 : Int64) (v7 : Int32) (μ : JMem) (r : Int64) (μ9 : JMem), jget L 0 = .ref v0 → jget L 1 = .int v1 → jget L 2 = rv v2 → jget L 5 = .long v5 → jget L 7 = .int v7 → g_Chain_looped_6 N B n v0 v1 v2 v5 v7 μ = some (r, μ9) → jR B SA d m_Chain_looped 6 L [] μ (some (.long r)) μ9 := by
  intro n
  induction n with
  | zero =>
    intro L v0 v1 v2 v5 v7 μ r μ9 hl0 hl1 hl2 hl5 hl7 h
    unfold g_Chain_looped_6 at h
    cases h
  | succ n ih =>
    intro L v0 v1 v2 v5 v7 μ r μ9 hl0 hl1 hl2 hl5 hl7 h
    unfold g_Chain_looped_6 at h
    refine jr_iload jf_51_6 hl7 ?_
    refine jr_aload_n jf_51_8 rfl hl0 ?_
    replace h := obd_of h; obtain ⟨x1, hx1, h⟩ := h
    refine jr_getI jf_51_9 hx1 ?_
    replace h := ite_or h; rcases h with ⟨hc, h⟩ | ⟨hc, h⟩
    · refine jr_if2_ge_t jf_51_12 hc ?_
      refine jr_lload jf_51_90 hl5 ?_
      obtain ⟨rfl, rfl⟩ := Prod.mk.inj (Option.some.inj h)
      exact jr_retJ jf_51_92 jmt_51
    · refine jr_if2_ge_f jf_51_12 hc ?_
      refine jr_aload_n jf_51_15 rfl hl0 ?_
      refine jr_iload jf_51_16 hl7 ?_
      replace h := jgd_of h; obtain ⟨hb2, h⟩ := h
      replace h := obd_of h; obtain ⟨x3, hx3, h⟩ := h
      refine jr_V6_1 jf_51_18 hb2 (by omega) (r_Chain_loopAt (by omega) _ _ _ _ hx3) (Nat.le_of_ble_eq_true rfl) jml_52 (Nat.le_of_ble_eq_true rfl) ?_
      refine jr_astore_A jf_51_21 jml_51 (by decide) ?_
      refine jr_aload_A jf_51_23 jg1_same ?_
      replace h := jon_or h; rcases h with ⟨rfl, h⟩ | ⟨a4, rfl, h⟩
      · refine jr_ifnull_n jf_51_25 ?_
        exact r_Chain_looped_84 hd ih _ _ _ _ _ _ _ _ _ (jg1_ne rfl hl0) (jg1_ne rfl hl1) (jg1_ne rfl hl2) (jg1_ne rfl hl5) (jg1_pre rfl hl7) h
      · refine jr_ifnull_s jf_51_25 ?_
        refine jr_aload jf_51_28 jg1_same ?_
        replace h := obd_of h; obtain ⟨x5, hx5, h⟩ := h
        refine jr_getI jf_51_30 hx5 ?_
        refine jr_iload_n jf_51_33 rfl (jg1_ne rfl hl1) ?_
        replace h := ite_or h; rcases h with ⟨hc, h⟩ | ⟨hc, h⟩
        · refine jr_if2_ne_f jf_51_34 hc ?_
          refine jr_aload_n_A jf_51_37 rfl (jg1_ne rfl hl2) ?_
          replace h := obd_of h; obtain ⟨a6, rfl, h⟩ := h
          replace h := obd_of h; obtain ⟨x7, hx7, h⟩ := h
          refine jr_getA jf_51_38 hx7 ?_
          refine jr_aload jf_51_41 jg1_same ?_
          replace h := obd_of h; obtain ⟨x8, hx8, h⟩ := h
          refine jr_getJ jf_51_43 hx8 ?_
          refine jr_aload jf_51_46 jg1_same ?_
          replace h := obd_of h; obtain ⟨x9, hx9, h⟩ := h
          refine jr_getA jf_51_48 hx9 ?_
          refine jr_iconst jf_51_51 jc_i_0 ?_
          replace h := obd_of h; obtain ⟨a10, rfl, h⟩ := h
          replace h := jgd_of h; obtain ⟨hb11, h⟩ := h
          replace h := obd_of h; obtain ⟨x12, hx12, h⟩ := h
          refine jr_V6_1 jf_51_52 hb11 (by omega) (r_Row_at (by omega) _ _ _ _ hx12) (by simp only [jcats_cons, jcats_nil, cat_int, cat_long, cat_double, cat_float, cat_ref, rv_cat]; decide) jml_23 (Nat.le_of_ble_eq_true rfl) ?_
          replace h := obd_of h; obtain ⟨a13, rfl, h⟩ := h
          replace h := obd_of h; obtain ⟨x14, hx14, h⟩ := h
          rcases ite_or hx14 with ⟨hb, hx⟩ | ⟨hb0, hx⟩
          · refine jr_V8a_2 jf_51_55 hb (by omega) (r_Real_product (by omega) _ _ _ _ _ hx) (Nat.le_of_ble_eq_true rfl) jml_53 (Nat.le_of_ble_eq_true rfl) ?_
            refine jr_lstore jf_51_58 jml_51 (by decide) ?_
            refine jr_aload_n jf_51_60 rfl (jg2_ne rfl (jg1_ne rfl hl2)) ?_
            refine jr_aload_n jf_51_61 rfl (jg2_ne rfl (jg1_ne rfl hl2)) ?_
            replace h := obd_of h; obtain ⟨x15, hx15, h⟩ := h
            refine jr_getA jf_51_62 hx15 ?_
            refine jr_aload_n jf_51_65 rfl (jg2_ne rfl (jg1_ne rfl hl2)) ?_
            replace h := obd_of h; obtain ⟨x16, hx16, h⟩ := h
            refine jr_getA jf_51_66 hx16 ?_
            refine jr_lload jf_51_69 (jg2_ne rfl (jg1_ne rfl hl5)) ?_
            replace h := obd_of h; obtain ⟨a17, rfl, h⟩ := h
            replace h := obd_of h; obtain ⟨x18, hx18, h⟩ := h
            rcases ite_or hx18 with ⟨hb, hx⟩ | ⟨hb0, hx⟩
            · obtain hx := Option.some.inj hx
              refine jr_V8a_1 jf_51_71 hb (by omega) (r_Real_term (by omega) _ _ _ _ hx) (by simp only [jcats_cons, jcats_nil, cat_int, cat_long, cat_double, cat_float, cat_ref, rv_cat]; decide) jml_63 (Nat.le_of_ble_eq_true rfl) ?_
              refine jr_lload jf_51_74 jg2_same ?_
              replace h := obd_of h; obtain ⟨a19, rfl, h⟩ := h
              replace h := obd_of h; obtain ⟨x20, hx20, h⟩ := h
              rcases ite_or hx20 with ⟨hb, hx⟩ | ⟨hb0, hx⟩
              · refine jr_V8a_2 jf_51_76 hb (by omega) (r_Real_plus (by omega) _ _ _ _ _ hx) (Nat.le_of_ble_eq_true rfl) jml_65 (Nat.le_of_ble_eq_true rfl) ?_
                replace h := jgd_of h; obtain ⟨hb21, h⟩ := h
                replace h := jbd2_of h; obtain ⟨x22, μ23, hx22, h⟩ := h
                refine jr_V6_1 jf_51_79 hb21 (by omega) (r_Section_settled (by omega) _ _ _ _ _ hx22) (Nat.le_of_ble_eq_true rfl) jml_70 (Nat.le_of_ble_eq_true rfl) ?_
                refine jr_lstore jf_51_82 jml_51 (by decide) ?_
                exact r_Chain_looped_84 hd ih _ _ _ (some _) _ _ _ _ _ (jg2_ne rfl (jg2_ne rfl (jg1_ne rfl hl0))) (jg2_ne rfl (jg2_ne rfl (jg1_ne rfl hl1))) (jg2_ne rfl (jg2_ne rfl (jg1_ne rfl hl2))) jg2_same (jg2_ne rfl (jg2_ne rfl (jg1_pre rfl hl7))) h
              · obtain ⟨hb, hx⟩ := jgd_of hx
                obtain hx := Option.some.inj hx
                refine jr_V8b_2 jf_51_76 hb0 hb (by omega) (r_Shorts_plus (by omega) _ _ _ _ _ hx) (Nat.le_of_ble_eq_true rfl) jml_69 (Nat.le_of_ble_eq_true rfl) ?_
                replace h := jgd_of h; obtain ⟨hb21, h⟩ := h
                replace h := jbd2_of h; obtain ⟨x22, μ23, hx22, h⟩ := h
                refine jr_V6_1 jf_51_79 hb21 (by omega) (r_Section_settled (by omega) _ _ _ _ _ hx22) (Nat.le_of_ble_eq_true rfl) jml_70 (Nat.le_of_ble_eq_true rfl) ?_
                refine jr_lstore jf_51_82 jml_51 (by decide) ?_
                exact r_Chain_looped_84 hd ih _ _ _ (some _) _ _ _ _ _ (jg2_ne rfl (jg2_ne rfl (jg1_ne rfl hl0))) (jg2_ne rfl (jg2_ne rfl (jg1_ne rfl hl1))) (jg2_ne rfl (jg2_ne rfl (jg1_ne rfl hl2))) jg2_same (jg2_ne rfl (jg2_ne rfl (jg1_pre rfl hl7))) h
            · obtain ⟨hb, hx⟩ := jgd_of hx
              obtain hx := Option.some.inj hx
              refine jr_V8b_1 jf_51_71 hb0 hb (by omega) (r_Shorts_term (by omega) _ _ _ _ hx) (by simp only [jcats_cons, jcats_nil, cat_int, cat_long, cat_double, cat_float, cat_ref, rv_cat]; decide) jml_64 (Nat.le_of_ble_eq_true rfl) ?_
              refine jr_lload jf_51_74 jg2_same ?_
              replace h := obd_of h; obtain ⟨a19, rfl, h⟩ := h
              replace h := obd_of h; obtain ⟨x20, hx20, h⟩ := h
              rcases ite_or hx20 with ⟨hb, hx⟩ | ⟨hb0, hx⟩
              · refine jr_V8a_2 jf_51_76 hb (by omega) (r_Real_plus (by omega) _ _ _ _ _ hx) (Nat.le_of_ble_eq_true rfl) jml_65 (Nat.le_of_ble_eq_true rfl) ?_
                replace h := jgd_of h; obtain ⟨hb21, h⟩ := h
                replace h := jbd2_of h; obtain ⟨x22, μ23, hx22, h⟩ := h
                refine jr_V6_1 jf_51_79 hb21 (by omega) (r_Section_settled (by omega) _ _ _ _ _ hx22) (Nat.le_of_ble_eq_true rfl) jml_70 (Nat.le_of_ble_eq_true rfl) ?_
                refine jr_lstore jf_51_82 jml_51 (by decide) ?_
                exact r_Chain_looped_84 hd ih _ _ _ (some _) _ _ _ _ _ (jg2_ne rfl (jg2_ne rfl (jg1_ne rfl hl0))) (jg2_ne rfl (jg2_ne rfl (jg1_ne rfl hl1))) (jg2_ne rfl (jg2_ne rfl (jg1_ne rfl hl2))) jg2_same (jg2_ne rfl (jg2_ne rfl (jg1_pre rfl hl7))) h
              · obtain ⟨hb, hx⟩ := jgd_of hx
                obtain hx := Option.some.inj hx
                refine jr_V8b_2 jf_51_76 hb0 hb (by omega) (r_Shorts_plus (by omega) _ _ _ _ _ hx) (Nat.le_of_ble_eq_true rfl) jml_69 (Nat.le_of_ble_eq_true rfl) ?_
                replace h := jgd_of h; obtain ⟨hb21, h⟩ := h
                replace h := jbd2_of h; obtain ⟨x22, μ23, hx22, h⟩ := h
                refine jr_V6_1 jf_51_79 hb21 (by omega) (r_Section_settled (by omega) _ _ _ _ _ hx22) (Nat.le_of_ble_eq_true rfl) jml_70 (Nat.le_of_ble_eq_true rfl) ?_
                refine jr_lstore jf_51_82 jml_51 (by decide) ?_
                exact r_Chain_looped_84 hd ih _ _ _ (some _) _ _ _ _ _ (jg2_ne rfl (jg2_ne rfl (jg1_ne rfl hl0))) (jg2_ne rfl (jg2_ne rfl (jg1_ne rfl hl1))) (jg2_ne rfl (jg2_ne rfl (jg1_ne rfl hl2))) jg2_same (jg2_ne rfl (jg2_ne rfl (jg1_pre rfl hl7))) h
          · obtain ⟨hb, hx⟩ := jgd_of hx
            obtain hx := Option.some.inj hx
            refine jr_V8b_2 jf_51_55 hb0 hb (by omega) (r_Shorts_product (by omega) _ _ _ _ _ hx) (Nat.le_of_ble_eq_true rfl) jml_62 (Nat.le_of_ble_eq_true rfl) ?_
            refine jr_lstore jf_51_58 jml_51 (by decide) ?_
            refine jr_aload_n jf_51_60 rfl (jg2_ne rfl (jg1_ne rfl hl2)) ?_
            refine jr_aload_n jf_51_61 rfl (jg2_ne rfl (jg1_ne rfl hl2)) ?_
            replace h := obd_of h; obtain ⟨x15, hx15, h⟩ := h
            refine jr_getA jf_51_62 hx15 ?_
            refine jr_aload_n jf_51_65 rfl (jg2_ne rfl (jg1_ne rfl hl2)) ?_
            replace h := obd_of h; obtain ⟨x16, hx16, h⟩ := h
            refine jr_getA jf_51_66 hx16 ?_
            refine jr_lload jf_51_69 (jg2_ne rfl (jg1_ne rfl hl5)) ?_
            replace h := obd_of h; obtain ⟨a17, rfl, h⟩ := h
            replace h := obd_of h; obtain ⟨x18, hx18, h⟩ := h
            rcases ite_or hx18 with ⟨hb, hx⟩ | ⟨hb0, hx⟩
            · obtain hx := Option.some.inj hx
              refine jr_V8a_1 jf_51_71 hb (by omega) (r_Real_term (by omega) _ _ _ _ hx) (by simp only [jcats_cons, jcats_nil, cat_int, cat_long, cat_double, cat_float, cat_ref, rv_cat]; decide) jml_63 (Nat.le_of_ble_eq_true rfl) ?_
              refine jr_lload jf_51_74 jg2_same ?_
              replace h := obd_of h; obtain ⟨a19, rfl, h⟩ := h
              replace h := obd_of h; obtain ⟨x20, hx20, h⟩ := h
              rcases ite_or hx20 with ⟨hb, hx⟩ | ⟨hb0, hx⟩
              · refine jr_V8a_2 jf_51_76 hb (by omega) (r_Real_plus (by omega) _ _ _ _ _ hx) (Nat.le_of_ble_eq_true rfl) jml_65 (Nat.le_of_ble_eq_true rfl) ?_
                replace h := jgd_of h; obtain ⟨hb21, h⟩ := h
                replace h := jbd2_of h; obtain ⟨x22, μ23, hx22, h⟩ := h
                refine jr_V6_1 jf_51_79 hb21 (by omega) (r_Section_settled (by omega) _ _ _ _ _ hx22) (Nat.le_of_ble_eq_true rfl) jml_70 (Nat.le_of_ble_eq_true rfl) ?_
                refine jr_lstore jf_51_82 jml_51 (by decide) ?_
                exact r_Chain_looped_84 hd ih _ _ _ (some _) _ _ _ _ _ (jg2_ne rfl (jg2_ne rfl (jg1_ne rfl hl0))) (jg2_ne rfl (jg2_ne rfl (jg1_ne rfl hl1))) (jg2_ne rfl (jg2_ne rfl (jg1_ne rfl hl2))) jg2_same (jg2_ne rfl (jg2_ne rfl (jg1_pre rfl hl7))) h
              · obtain ⟨hb, hx⟩ := jgd_of hx
                obtain hx := Option.some.inj hx
                refine jr_V8b_2 jf_51_76 hb0 hb (by omega) (r_Shorts_plus (by omega) _ _ _ _ _ hx) (Nat.le_of_ble_eq_true rfl) jml_69 (Nat.le_of_ble_eq_true rfl) ?_
                replace h := jgd_of h; obtain ⟨hb21, h⟩ := h
                replace h := jbd2_of h; obtain ⟨x22, μ23, hx22, h⟩ := h
                refine jr_V6_1 jf_51_79 hb21 (by omega) (r_Section_settled (by omega) _ _ _ _ _ hx22) (Nat.le_of_ble_eq_true rfl) jml_70 (Nat.le_of_ble_eq_true rfl) ?_
                refine jr_lstore jf_51_82 jml_51 (by decide) ?_
                exact r_Chain_looped_84 hd ih _ _ _ (some _) _ _ _ _ _ (jg2_ne rfl (jg2_ne rfl (jg1_ne rfl hl0))) (jg2_ne rfl (jg2_ne rfl (jg1_ne rfl hl1))) (jg2_ne rfl (jg2_ne rfl (jg1_ne rfl hl2))) jg2_same (jg2_ne rfl (jg2_ne rfl (jg1_pre rfl hl7))) h
            · obtain ⟨hb, hx⟩ := jgd_of hx
              obtain hx := Option.some.inj hx
              refine jr_V8b_1 jf_51_71 hb0 hb (by omega) (r_Shorts_term (by omega) _ _ _ _ hx) (by simp only [jcats_cons, jcats_nil, cat_int, cat_long, cat_double, cat_float, cat_ref, rv_cat]; decide) jml_64 (Nat.le_of_ble_eq_true rfl) ?_
              refine jr_lload jf_51_74 jg2_same ?_
              replace h := obd_of h; obtain ⟨a19, rfl, h⟩ := h
              replace h := obd_of h; obtain ⟨x20, hx20, h⟩ := h
              rcases ite_or hx20 with ⟨hb, hx⟩ | ⟨hb0, hx⟩
              · refine jr_V8a_2 jf_51_76 hb (by omega) (r_Real_plus (by omega) _ _ _ _ _ hx) (Nat.le_of_ble_eq_true rfl) jml_65 (Nat.le_of_ble_eq_true rfl) ?_
                replace h := jgd_of h; obtain ⟨hb21, h⟩ := h
                replace h := jbd2_of h; obtain ⟨x22, μ23, hx22, h⟩ := h
                refine jr_V6_1 jf_51_79 hb21 (by omega) (r_Section_settled (by omega) _ _ _ _ _ hx22) (Nat.le_of_ble_eq_true rfl) jml_70 (Nat.le_of_ble_eq_true rfl) ?_
                refine jr_lstore jf_51_82 jml_51 (by decide) ?_
                exact r_Chain_looped_84 hd ih _ _ _ (some _) _ _ _ _ _ (jg2_ne rfl (jg2_ne rfl (jg1_ne rfl hl0))) (jg2_ne rfl (jg2_ne rfl (jg1_ne rfl hl1))) (jg2_ne rfl (jg2_ne rfl (jg1_ne rfl hl2))) jg2_same (jg2_ne rfl (jg2_ne rfl (jg1_pre rfl hl7))) h
              · obtain ⟨hb, hx⟩ := jgd_of hx
                obtain hx := Option.some.inj hx
                refine jr_V8b_2 jf_51_76 hb0 hb (by omega) (r_Shorts_plus (by omega) _ _ _ _ _ hx) (Nat.le_of_ble_eq_true rfl) jml_69 (Nat.le_of_ble_eq_true rfl) ?_
                replace h := jgd_of h; obtain ⟨hb21, h⟩ := h
                replace h := jbd2_of h; obtain ⟨x22, μ23, hx22, h⟩ := h
                refine jr_V6_1 jf_51_79 hb21 (by omega) (r_Section_settled (by omega) _ _ _ _ _ hx22) (Nat.le_of_ble_eq_true rfl) jml_70 (Nat.le_of_ble_eq_true rfl) ?_
                refine jr_lstore jf_51_82 jml_51 (by decide) ?_
                exact r_Chain_looped_84 hd ih _ _ _ (some _) _ _ _ _ _ (jg2_ne rfl (jg2_ne rfl (jg1_ne rfl hl0))) (jg2_ne rfl (jg2_ne rfl (jg1_ne rfl hl1))) (jg2_ne rfl (jg2_ne rfl (jg1_ne rfl hl2))) jg2_same (jg2_ne rfl (jg2_ne rfl (jg1_pre rfl hl7))) h
        · refine jr_if2_ne_t jf_51_34 hc ?_
          exact r_Chain_looped_84 hd ih _ _ _ _ _ _ _ _ _ (jg1_ne rfl hl0) (jg1_ne rfl hl1) (jg1_ne rfl hl2) (jg1_ne rfl hl5) (jg1_pre rfl hl7) h
set_option maxRecDepth 10000 in
set_option maxHeartbeats 4000000 in
theorem r_Chain_looped_e {N B : Nat} {SA : Nat → Nat} {d : Nat} (hd : 4 ≤ d) : ∀ (L : JLoc) (v0 : Nat) (v1 : Int32) (v2 : Option Nat) (v3 : Int64) (μ : JMem) (r : Int64) (μ9 : JMem), jget L 0 = .ref v0 → jget L 1 = .int v1 → jget L 2 = rv v2 → jget L 3 = .long v3 → g_Chain_looped N B v0 v1 v2 v3 μ = some (r, μ9) → jR B SA d m_Chain_looped 0 L [] μ (some (.long r)) μ9 := by
  intro L v0 v1 v2 v3 μ r μ9 hl0 hl1 hl2 hl3 h
  unfold g_Chain_looped at h
  refine jr_lload_n jf_51_0 rfl hl3 ?_
  refine jr_lstore jf_51_1 jml_51 (by decide) ?_
  refine jr_iconst jf_51_3 jc_i_0 ?_
  refine jr_istore jf_51_4 jml_51 (by decide) ?_
  exact r_Chain_looped_6 hd _ _ _ _ _ _ _ _ _ _ (jg1_ne rfl (jg2_ne rfl hl0)) (jg1_ne rfl (jg2_ne rfl hl1)) (jg1_ne rfl (jg2_ne rfl hl2)) (jg1_ne rfl jg2_same) jg1_same h
set_option maxRecDepth 10000 in
set_option maxHeartbeats 4000000 in
theorem r_Chain_looped {N B : Nat} {SA : Nat → Nat} {d : Nat} (hd : 4 ≤ d) : ∀ (v0 : Nat) (v1 : Int32) (v2 : Option Nat) (v3 : Int64) (μ : JMem) (r : Int64) (μ9 : JMem), g_Chain_looped N B v0 v1 v2 v3 μ = some (r, μ9) → jR B SA d m_Chain_looped 0 (lv_args 0 [.ref v0, .int v1, rv v2, .long v3]) [] μ (some (.long r)) μ9 := by
  intro v0 v1 v2 v3 μ r μ9 h
  exact r_Chain_looped_e hd (lv_args 0 _) _ _ _ _ _ _ _ (by simp [lv_args, jget, rv_cat, cat_int, cat_long, cat_double, cat_float, cat_ref]) (by simp [lv_args, jget, rv_cat, cat_int, cat_long, cat_double, cat_float, cat_ref]) (by simp [lv_args, jget, rv_cat, cat_int, cat_long, cat_double, cat_float, cat_ref]) (by simp [lv_args, jget, rv_cat, cat_int, cat_long, cat_double, cat_float, cat_ref]) h
/-! FilterBench$Chain.madeBefore(I)J -/
set_option maxRecDepth 10000 in
set_option maxHeartbeats 4000000 in
theorem r_Chain_madeBefore_52 {B : Nat} {SA : Nat → Nat} {d : Nat} (hd : 0 ≤ d) : ∀ (L : JLoc) (μ : JMem) (r : Int64), g_Chain_madeBefore_52 μ.1 = some r → jR B SA d m_Chain_madeBefore 52 L [] μ (some (.long r)) μ := by
  intro L μ r h
  unfold g_Chain_madeBefore_52 at h
  refine jr_lconst0 jf_76_52 ?_
  refine jr_goto jf_76_53 ?_
  obtain rfl := Option.some.inj h
  exact jr_retJ jf_76_62 jmt_76
set_option maxRecDepth 10000 in
set_option maxHeartbeats 4000000 in
theorem r_Chain_madeBefore_38 {B : Nat} {SA : Nat → Nat} {d : Nat} (hd : 0 ≤ d) : ∀ (L : JLoc) (v0 : Nat) (s0 : Int32) (μ : JMem) (r : Int64), jget L 0 = .ref v0 → g_Chain_madeBefore_38 v0 s0 μ.1 = some r → jR B SA d m_Chain_madeBefore 38 L [.int s0] μ (some (.long r)) μ := by
  intro L v0 s0 μ r hl0 h
  unfold g_Chain_madeBefore_38 at h
  refine jr_istore_n jf_76_38 rfl jml_76 (by decide) ?_
  refine jr_iload_n jf_76_39 rfl jg1_same ?_
  replace h := ite_or h; rcases h with ⟨hc, h⟩ | ⟨hc, h⟩
  · refine jr_if_lt_t jf_76_40 hc ?_
    exact r_Chain_madeBefore_52 hd _  _ _ h
  · refine jr_if_lt_f jf_76_40 hc ?_
    refine jr_iload_n jf_76_43 rfl jg1_same ?_
    refine jr_aload_n jf_76_44 rfl (jg1_ne rfl hl0) ?_
    replace h := obd_of h; obtain ⟨x1, hx1, h⟩ := h
    refine jr_getA jf_76_45 hx1 ?_
    replace h := obd_of h; obtain ⟨a2, rfl, h⟩ := h
    replace h := obd_of h; obtain ⟨x3, hx3, h⟩ := h
    refine jr_arraylength jf_76_48 hx3 ?_
    replace h := ite_or h; rcases h with ⟨hc, h⟩ | ⟨hc, h⟩
    · refine jr_if2_lt_t jf_76_49 hc ?_
      refine jr_aload_n jf_76_56 rfl (jg1_ne rfl hl0) ?_
      replace h := obd_of h; obtain ⟨x4, hx4, h⟩ := h
      refine jr_getA jf_76_57 hx4 ?_
      refine jr_iload_n jf_76_60 rfl jg1_same ?_
      replace h := obd_of h; obtain ⟨a5, rfl, h⟩ := h
      replace h := obd_of h; obtain ⟨x6, hx6, h⟩ := h
      refine jr_laload jf_76_61 hx6 ?_
      obtain rfl := Option.some.inj h
      exact jr_retJ jf_76_62 jmt_76
    · refine jr_if2_lt_f jf_76_49 hc ?_
      exact r_Chain_madeBefore_52 hd _  _ _ h
set_option maxRecDepth 10000 in
set_option maxHeartbeats 4000000 in
theorem r_Chain_madeBefore_e {B : Nat} {SA : Nat → Nat} {d : Nat} (hd : 0 ≤ d) : ∀ (L : JLoc) (v0 : Nat) (v1 : Int32) (μ : JMem) (r : Int64), jget L 0 = .ref v0 → jget L 1 = .int v1 → g_Chain_madeBefore v0 v1 μ.1 = some r → jR B SA d m_Chain_madeBefore 0 L [] μ (some (.long r)) μ := by
  intro L v0 v1 μ r hl0 hl1 h
  unfold g_Chain_madeBefore at h
  refine jr_iload_n jf_76_0 rfl hl1 ?_
  replace h := ite_or h; rcases h with ⟨hc, h⟩ | ⟨hc, h⟩
  · refine jr_if_lt_t jf_76_1 hc ?_
    refine jr_lconst0 jf_76_12 ?_
    obtain rfl := Option.some.inj h
    exact jr_retJ jf_76_13 jmt_76
  · refine jr_if_lt_f jf_76_1 hc ?_
    refine jr_iload_n jf_76_4 rfl hl1 ?_
    refine jr_aload_n jf_76_5 rfl hl0 ?_
    replace h := obd_of h; obtain ⟨x1, hx1, h⟩ := h
    refine jr_getI jf_76_6 hx1 ?_
    replace h := ite_or h; rcases h with ⟨hc, h⟩ | ⟨hc, h⟩
    · refine jr_if2_lt_t jf_76_9 hc ?_
      refine jr_aload_n jf_76_14 rfl hl0 ?_
      replace h := obd_of h; obtain ⟨x2, hx2, h⟩ := h
      refine jr_getI jf_76_15 hx2 ?_
      refine jr_iconst jf_76_18 jc_i_1 ?_
      refine jr_isub jf_76_19 ?_
      refine jr_iload_n jf_76_20 rfl hl1 ?_
      refine jr_isub jf_76_21 ?_
      refine jr_istore_n jf_76_22 rfl jml_76 (by decide) ?_
      refine jr_iload_n jf_76_23 rfl jg1_same ?_
      replace h := ite_or h; rcases h with ⟨hc, h⟩ | ⟨hc, h⟩
      · refine jr_if_ge_t jf_76_24 hc ?_
        refine jr_iload_n jf_76_37 rfl jg1_same ?_
        exact r_Chain_madeBefore_38 hd _ _ _ _ _ (jg1_ne rfl hl0) h
      · refine jr_if_ge_f jf_76_24 hc ?_
        refine jr_iload_n jf_76_27 rfl jg1_same ?_
        refine jr_aload_n jf_76_28 rfl (jg1_ne rfl hl0) ?_
        replace h := obd_of h; obtain ⟨x3, hx3, h⟩ := h
        refine jr_getA jf_76_29 hx3 ?_
        replace h := obd_of h; obtain ⟨a4, rfl, h⟩ := h
        replace h := obd_of h; obtain ⟨x5, hx5, h⟩ := h
        refine jr_arraylength jf_76_32 hx5 ?_
        refine jr_iadd jf_76_33 ?_
        refine jr_goto jf_76_34 ?_
        exact r_Chain_madeBefore_38 hd _ _ _ _ _ (jg1_ne rfl hl0) h
    · refine jr_if2_lt_f jf_76_9 hc ?_
      refine jr_lconst0 jf_76_12 ?_
      obtain rfl := Option.some.inj h
      exact jr_retJ jf_76_13 jmt_76
set_option maxRecDepth 10000 in
set_option maxHeartbeats 4000000 in
theorem r_Chain_madeBefore {B : Nat} {SA : Nat → Nat} {d : Nat} (hd : 0 ≤ d) : ∀ (v0 : Nat) (v1 : Int32) (μ : JMem) (r : Int64), g_Chain_madeBefore v0 v1 μ.1 = some r → jR B SA d m_Chain_madeBefore 0 (lv_args 0 [.ref v0, .int v1]) [] μ (some (.long r)) μ := by
  intro v0 v1 μ r h
  exact r_Chain_madeBefore_e hd (lv_args 0 _) _ _ _ _ (by simp [lv_args, jget, rv_cat, cat_int, cat_long, cat_double, cat_float, cat_ref]) (by simp [lv_args, jget, rv_cat, cat_int, cat_long, cat_double, cat_float, cat_ref]) h
