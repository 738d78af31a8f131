/-! the machine refines the functions (printed by wip/whole/dec.py) -/
/-! FilterBenchModel.trees(I)V -/
set_option maxRecDepth 10000 in
set_option maxHeartbeats 4000000 in
theorem r_R_trees_97 {N B : Nat} {SA : Nat → Nat} {d : Nat} (hd : 0 ≤ d) {k14 : Nat → Int32 → JMem → Option JMem} (i14 : ∀ (L : JLoc) (v0 : Nat) (v2 : Int32) (μ : JMem) (μ9 : JMem), jget L 0 = .ref v0 → jget L 2 = .int v2 → k14 v0 v2 μ = some μ9 → jR B SA d m_R_trees 14 L [] μ none μ9) {k24 : Nat → Int32 → Int32 → JMem → Option JMem} (i24 : ∀ (L : JLoc) (v0 : Nat) (v2 : Int32) (v3 : Int32) (μ : JMem) (μ9 : JMem), jget L 0 = .ref v0 → jget L 2 = .int v2 → jget L 3 = .int v3 → k24 v0 v2 v3 μ = some μ9 → jR B SA d m_R_trees 24 L [] μ none μ9) : ∀ (L : JLoc) (v0 : Nat) (v2 : Int32) (v3 : Int32) (μ : JMem) (μ9 : JMem), jget L 0 = .ref v0 → jget L 2 = .int v2 → jget L 3 = .int v3 → g_R_trees_97 N B k14 k24 v0 v2 v3 μ = some μ9 → jR B SA d m_R_trees 97 L [] μ none μ9 := by
  intro L v0 v2 v3 μ μ9 hl0 hl2 hl3 h
  unfold g_R_trees_97 at h
  refine jr_iinc jf_244_97 jc_i_1 jml_244 (by decide) hl3 ?_
  refine jr_goto jf_244_100 ?_
  exact i24 _ _ _ _ _ _ (jg1_ne rfl hl0) (jg1_pre rfl hl2) jg1_same h
set_option maxRecDepth 10000 in
set_option maxHeartbeats 4000000 in
theorem r_R_trees_24 {N B : Nat} {SA : Nat → Nat} {d : Nat} (hd : 0 ≤ d) {k14 : Nat → Int32 → JMem → Option JMem} (i14 : ∀ (L : JLoc) (v0 : Nat) (v2 : Int32) (μ : JMem) (μ9 : JMem), jget L 0 = .ref v0 → jget L 2 = .int v2 → k14 v0 v2 μ = some μ9 → jR B SA d m_R_trees 14 L [] μ none μ9) : ∀ (n : Nat), ∀ (L : JLoc) (v0 : Nat) (v2 : Int32) (v3 : Int32) (μ : JMem) (μ9 : JMem), jget L 0 = .ref v0 → jget L 2 = .int v2 → jget L 3 = .int v3 → g_R_trees_24 N B k14 n v0 v2 v3 μ = some μ9 → jR B SA d m_R_trees 24 L [] μ none μ9 := by
  intro n
  induction n with
  | zero =>
    intro L v0 v2 v3 μ μ9 hl0 hl2 hl3 h
    unfold g_R_trees_24 at h
    cases h
  | succ n ih =>
    intro L v0 v2 v3 μ μ9 hl0 hl2 hl3 h
    unfold g_R_trees_24 at h
    refine jr_iload_n jf_244_24 rfl hl3 ?_
    refine jr_aload_n jf_244_25 rfl hl0 ?_
    replace h := obd_of h; obtain ⟨x1, hx1, h⟩ := h
    refine jr_getA jf_244_26 hx1 ?_
    refine jr_aload_n jf_244_29 rfl hl0 ?_
    replace h := obd_of h; obtain ⟨x2, hx2, h⟩ := h
    refine jr_getA jf_244_30 hx2 ?_
    refine jr_iload_n jf_244_33 rfl hl2 ?_
    replace h := obd_of h; obtain ⟨a3, rfl, h⟩ := h
    replace h := obd_of h; obtain ⟨x4, hx4, h⟩ := h
    refine jr_iaload jf_244_34 hx4 ?_
    replace h := obd_of h; obtain ⟨a5, rfl, h⟩ := h
    replace h := obd_of h; obtain ⟨x6, hx6, h⟩ := h
    refine jr_iaload jf_244_35 hx6 ?_
    replace h := ite_or h; rcases h with ⟨hc, h⟩ | ⟨hc, h⟩
    · refine jr_if2_ge_t jf_244_36 hc ?_
      refine jr_iinc jf_244_103 jc_i_1 jml_244 (by decide) hl2 ?_
      refine jr_goto jf_244_106 ?_
      exact i14 _ _ _ _ _ (jg1_ne rfl hl0) jg1_same h
    · refine jr_if2_ge_f jf_244_36 hc ?_
      refine jr_aload_n jf_244_39 rfl hl0 ?_
      replace h := obd_of h; obtain ⟨x7, hx7, h⟩ := h
      refine jr_getA jf_244_40 hx7 ?_
      refine jr_bipush jf_244_43 jc_b_10 ?_
      refine jr_aload_n jf_244_45 rfl hl0 ?_
      replace h := obd_of h; obtain ⟨x8, hx8, h⟩ := h
      refine jr_getA jf_244_46 hx8 ?_
      refine jr_iload_n jf_244_49 rfl hl2 ?_
      replace h := obd_of h; obtain ⟨a9, rfl, h⟩ := h
      replace h := obd_of h; obtain ⟨x10, hx10, h⟩ := h
      refine jr_iaload jf_244_50 hx10 ?_
      refine jr_imul jf_244_51 ?_
      refine jr_iload_n jf_244_52 rfl hl3 ?_
      refine jr_iadd jf_244_53 ?_
      replace h := obd_of h; obtain ⟨a11, rfl, h⟩ := h
      replace h := obd_of h; obtain ⟨x12, hx12, h⟩ := h
      refine jr_iaload jf_244_54 hx12 ?_
      refine jr_istore jf_244_55 jml_244 (by decide) ?_
      refine jr_aload_n jf_244_57 rfl (jg1_ne rfl hl0) ?_
      replace h := obd_of h; obtain ⟨x13, hx13, h⟩ := h
      refine jr_getA jf_244_58 hx13 ?_
      refine jr_iload jf_244_61 jg1_same ?_
      replace h := obd_of h; obtain ⟨a14, rfl, h⟩ := h
      replace h := obd_of h; obtain ⟨x15, hx15, h⟩ := h
      refine jr_iaload jf_244_63 hx15 ?_
      refine jr_iconst jf_244_64 jc_i_m1 ?_
      replace h := ite_or h; rcases h with ⟨hc, h⟩ | ⟨hc, h⟩
      · refine jr_if2_ne_f jf_244_65 hc ?_
        refine jr_goto jf_244_68 ?_
        exact r_R_trees_97 hd i14 ih _ _ _ _ _ _ (jg1_ne rfl hl0) (jg1_ne rfl hl2) (jg1_pre rfl hl3) h
      · refine jr_if2_ne_t jf_244_65 hc ?_
        refine jr_aload_n jf_244_71 rfl (jg1_ne rfl hl0) ?_
        replace h := obd_of h; obtain ⟨x16, hx16, h⟩ := h
        refine jr_getA jf_244_72 hx16 ?_
        refine jr_aload_n jf_244_75 rfl (jg1_ne rfl hl0) ?_
        replace h := obd_of h; obtain ⟨x17, hx17, h⟩ := h
        refine jr_getI jf_244_76 hx17 ?_
        refine jr_aload_n jf_244_79 rfl (jg1_ne rfl hl0) ?_
        replace h := obd_of h; obtain ⟨x18, hx18, h⟩ := h
        refine jr_getA jf_244_80 hx18 ?_
        refine jr_iload jf_244_83 jg1_same ?_
        replace h := obd_of h; obtain ⟨a19, rfl, h⟩ := h
        replace h := obd_of h; obtain ⟨x20, hx20, h⟩ := h
        refine jr_iaload jf_244_85 hx20 ?_
        replace h := obd_of h; obtain ⟨a21, rfl, h⟩ := h
        replace h := obd_of h; obtain ⟨μ22, hμ22, h⟩ := h
        refine jr_iastore jf_244_86 hμ22 ?_
        refine jr_aload_n jf_244_87 rfl (jg1_ne rfl hl0) ?_
        refine jr_dup jf_244_88 rfl ?_
        replace h := obd_of h; obtain ⟨x23, hx23, h⟩ := h
        refine jr_getI jf_244_89 hx23 ?_
        refine jr_iconst jf_244_92 jc_i_1 ?_
        refine jr_iadd jf_244_93 ?_
        replace h := obd_of h; obtain ⟨μ24, hμ24, h⟩ := h
        refine jr_putI jf_244_94 rfl hμ24 ?_
        exact r_R_trees_97 hd i14 ih _ _ _ _ _ _ (jg1_ne rfl hl0) (jg1_ne rfl hl2) (jg1_pre rfl hl3) h
set_option maxRecDepth 10000 in
set_option maxHeartbeats 4000000 in
theorem r_R_trees_14 {N B : Nat} {SA : Nat → Nat} {d : Nat} (hd : 0 ≤ d) : ∀ (n : Nat), ∀ (L : JLoc) (v0 : Nat) (v2 : Int32) (μ : JMem) (μ9 : JMem), jget L 0 = .ref v0 → jget L 2 = .int v2 → g_R_trees_14 N B n v0 v2 μ = some μ9 → jR B SA d m_R_trees 14 L [] μ none μ9 := by
  intro n
  induction n with
  | zero =>
    intro L v0 v2 μ μ9 hl0 hl2 h
    unfold g_R_trees_14 at h
    cases h
  | succ n ih =>
    intro L v0 v2 μ μ9 hl0 hl2 h
    unfold g_R_trees_14 at h
    refine jr_iload_n jf_244_14 rfl hl2 ?_
    refine jr_aload_n jf_244_15 rfl hl0 ?_
    replace h := obd_of h; obtain ⟨x1, hx1, h⟩ := h
    refine jr_getI jf_244_16 hx1 ?_
    replace h := ite_or h; rcases h with ⟨hc, h⟩ | ⟨hc, h⟩
    · refine jr_if2_ge_t jf_244_19 hc ?_
      obtain rfl := Option.some.inj h
      exact jr_return jf_244_109 jmt_244
    · refine jr_if2_ge_f jf_244_19 hc ?_
      refine jr_iconst jf_244_22 jc_i_0 ?_
      refine jr_istore_n jf_244_23 rfl jml_244 (by decide) ?_
      exact r_R_trees_24 hd ih _ _ _ _ _ _ _ (jg1_ne rfl hl0) (jg1_pre rfl hl2) jg1_same h
set_option maxRecDepth 10000 in
set_option maxHeartbeats 4000000 in
theorem r_R_trees_e {N B : Nat} {SA : Nat → Nat} {d : Nat} (hd : 0 ≤ d) : ∀ (L : JLoc) (v0 : Nat) (v1 : Int32) (μ : JMem) (μ9 : JMem), jget L 0 = .ref v0 → jget L 1 = .int v1 → g_R_trees N B v0 v1 μ = some μ9 → jR B SA d m_R_trees 0 L [] μ none μ9 := by
  intro L v0 v1 μ μ9 hl0 hl1 h
  unfold g_R_trees at h
  refine jr_aload_n jf_244_0 rfl hl0 ?_
  refine jr_iconst jf_244_1 jc_i_1 ?_
  replace h := obd_of h; obtain ⟨μ1, hμ1, h⟩ := h
  refine jr_putI jf_244_2 rfl hμ1 ?_
  refine jr_aload_n jf_244_5 rfl hl0 ?_
  replace h := obd_of h; obtain ⟨x2, hx2, h⟩ := h
  refine jr_getA jf_244_6 hx2 ?_
  refine jr_iconst jf_244_9 jc_i_0 ?_
  refine jr_iload_n jf_244_10 rfl hl1 ?_
  replace h := obd_of h; obtain ⟨a3, rfl, h⟩ := h
  replace h := obd_of h; obtain ⟨μ4, hμ4, h⟩ := h
  refine jr_iastore jf_244_11 hμ4 ?_
  refine jr_iconst jf_244_12 jc_i_0 ?_
  refine jr_istore_n jf_244_13 rfl jml_244 (by decide) ?_
  exact r_R_trees_14 hd _ _ _ _ _ _ (jg1_ne rfl hl0) jg1_same h
set_option maxRecDepth 10000 in
set_option maxHeartbeats 4000000 in
theorem r_R_trees {N B : Nat} {SA : Nat → Nat} {d : Nat} (hd : 0 ≤ d) : ∀ (v0 : Nat) (v1 : Int32) (μ : JMem) (μ9 : JMem), g_R_trees N B v0 v1 μ = some μ9 → jR B SA d m_R_trees 0 (lv_args 0 [.ref v0, .int v1]) [] μ none μ9 := by
  intro v0 v1 μ μ9 h
  exact r_R_trees_e hd (lv_args 0 _) _ _ _ _ (by simp [lv_args, jget, rv_cat, cat_int, cat_long, cat_double, cat_float, cat_ref]) (by simp [lv_args, jget, rv_cat, cat_int, cat_long, cat_double, cat_float, cat_ref]) h
/-! FilterBenchModel.reset(I)Z -/
set_option maxRecDepth 10000 in
set_option maxHeartbeats 4000000 in
theorem r_R_reset_17 {N B : Nat} {SA : Nat → Nat} {d : Nat} (hd : 2 ≤ d) : ∀ (n : Nat), ∀ (L : JLoc) (v0 : Nat) (v2 : Int32) (μ : JMem) (r : Bool) (μ9 : JMem), jget L 0 = .ref v0 → jget L 2 = .int v2 → g_R_reset_17 N B n v0 v2 μ = some (r, μ9) → jR B SA d m_R_reset 17 L [] μ (some (.int (jb r))) μ9 := by
  intro n
  induction n with
  | zero =>
    intro L v0 v2 μ r μ9 hl0 hl2 h
    unfold g_R_reset_17 at h
    cases h
  | succ n ih =>
    intro L v0 v2 μ r μ9 hl0 hl2 h
    unfold g_R_reset_17 at h
    refine jr_iload_n jf_243_17 rfl hl2 ?_
    refine jr_aload_n jf_243_18 rfl hl0 ?_
    replace h := obd_of h; obtain ⟨x1, hx1, h⟩ := h
    refine jr_getI jf_243_19 hx1 ?_
    replace h := ite_or h; rcases h with ⟨hc, h⟩ | ⟨hc, h⟩
    · refine jr_if2_ge_t jf_243_22 hc ?_
      refine jr_iconst jf_243_41 jc_i_1 ?_
      obtain ⟨rfl, rfl⟩ := Prod.mk.inj (Option.some.inj h)
      exact jr_retZ (x := true) jf_243_42 jmt_243
    · refine jr_if2_ge_f jf_243_22 hc ?_
      refine jr_aload_n jf_243_25 rfl hl0 ?_
      refine jr_aload_n jf_243_26 rfl hl0 ?_
      replace h := obd_of h; obtain ⟨x2, hx2, h⟩ := h
      refine jr_getA jf_243_27 hx2 ?_
      refine jr_iload_n jf_243_30 rfl hl2 ?_
      replace h := obd_of h; obtain ⟨a3, rfl, h⟩ := h
      replace h := obd_of h; obtain ⟨x4, hx4, h⟩ := h
      refine jr_iaload jf_243_31 hx4 ?_
      replace h := jgd_of h; obtain ⟨hb5, h⟩ := h
      replace h := obd_of h; obtain ⟨μ6, hμ6, h⟩ := h
      refine jr_V6v_1 jf_243_32 hb5 (by omega) (r_R_empties (by omega) _ _ _ _ hμ6) (Nat.le_of_ble_eq_true rfl) jml_245 (Nat.le_of_ble_eq_true rfl) ?_
      refine jr_iinc jf_243_35 jc_i_1 jml_243 (by decide) hl2 ?_
      refine jr_goto jf_243_38 ?_
      exact ih _ _ _ _ _ _ (jg1_ne rfl hl0) jg1_same h
set_option maxRecDepth 10000 in
set_option maxHeartbeats 4000000 in
theorem r_R_reset_e {N B : Nat} {SA : Nat → Nat} {d : Nat} (hd : 2 ≤ d) : ∀ (L : JLoc) (v0 : Nat) (v1 : Int32) (μ : JMem) (r : Bool) (μ9 : JMem), jget L 0 = .ref v0 → jget L 1 = .int v1 → g_R_reset N B v0 v1 μ = some (r, μ9) → jR B SA d m_R_reset 0 L [] μ (some (.int (jb r))) μ9 := by
  intro L v0 v1 μ r μ9 hl0 hl1 h
  unfold g_R_reset at h
  refine jr_aload_n jf_243_0 rfl hl0 ?_
  refine jr_iload_n jf_243_1 rfl hl1 ?_
  replace h := jgd_of h; obtain ⟨hb1, h⟩ := h
  replace h := obd_of h; obtain ⟨x2, hx2, h⟩ := h
  refine jr_V6_1 jf_243_2 hb1 (by omega) (r_R_isChain (by omega) _ _ _ _ hx2) (Nat.le_of_ble_eq_true rfl) jml_204 (Nat.le_of_ble_eq_true rfl) ?_
  replace h := ite_or h; rcases h with ⟨hc, h⟩ | ⟨hc, h⟩
  · refine jr_ifz_ne_t jf_243_5 hc ?_
    refine jr_aload_n jf_243_10 rfl hl0 ?_
    refine jr_iload_n jf_243_11 rfl hl1 ?_
    replace h := jgd_of h; obtain ⟨hb3, h⟩ := h
    replace h := obd_of h; obtain ⟨μ4, hμ4, h⟩ := h
    refine jr_V6v_1 jf_243_12 hb3 (by omega) (r_R_trees (by omega) _ _ _ _ hμ4) (Nat.le_of_ble_eq_true rfl) jml_244 (Nat.le_of_ble_eq_true rfl) ?_
    refine jr_iconst jf_243_15 jc_i_0 ?_
    refine jr_istore_n jf_243_16 rfl jml_243 (by decide) ?_
    exact r_R_reset_17 hd _ _ _ _ _ _ _ (jg1_ne rfl hl0) jg1_same h
  · refine jr_ifz_ne_f jf_243_5 hc ?_
    refine jr_iconst jf_243_8 jc_i_0 ?_
    obtain ⟨rfl, rfl⟩ := Prod.mk.inj (Option.some.inj h)
    exact jr_retZ (x := false) jf_243_9 jmt_243
set_option maxRecDepth 10000 in
set_option maxHeartbeats 4000000 in
theorem r_R_reset {N B : Nat} {SA : Nat → Nat} {d : Nat} (hd : 2 ≤ d) : ∀ (v0 : Nat) (v1 : Int32) (μ : JMem) (r : Bool) (μ9 : JMem), g_R_reset N B v0 v1 μ = some (r, μ9) → jR B SA d m_R_reset 0 (lv_args 0 [.ref v0, .int v1]) [] μ (some (.int (jb r))) μ9 := by
  intro v0 v1 μ r μ9 h
  exact r_R_reset_e hd (lv_args 0 _) _ _ _ _ _ (by simp [lv_args, jget, rv_cat, cat_int, cat_long, cat_double, cat_float, cat_ref]) (by simp [lv_args, jget, rv_cat, cat_int, cat_long, cat_double, cat_float, cat_ref]) h
/-! FilterBenchModel.keeps(II)V -/
set_option maxRecDepth 10000 in
set_option maxHeartbeats 4000000 in
theorem r_R_keeps_63 {N B : Nat} {SA : Nat → Nat} {d : Nat} (hd : 0 ≤ d) {k38 : Nat → Int32 → Int32 → Int32 → JMem → Option JMem} (i38 : ∀ (L : JLoc) (v0 : Nat) (v1 : Int32) (v2 : Int32) (v3 : Int32) (μ : JMem) (μ9 : JMem), jget L 0 = .ref v0 → jget L 1 = .int v1 → jget L 2 = .int v2 → jget L 3 = .int v3 → k38 v0 v1 v2 v3 μ = some μ9 → jR B SA d m_R_keeps 38 L [] μ none μ9) : ∀ (n : Nat), ∀ (L : JLoc) (v0 : Nat) (v1 : Int32) (v2 : Int32) (v3 : Int32) (v4 : Int32) (v5 : Int32) (μ : JMem) (μ9 : JMem), jget L 0 = .ref v0 → jget L 1 = .int v1 → jget L 2 = .int v2 → jget L 3 = .int v3 → jget L 4 = .int v4 → jget L 5 = .int v5 → g_R_keeps_63 N B k38 n v0 v1 v2 v3 v4 v5 μ = some μ9 → jR B SA d m_R_keeps 63 L [] μ none μ9 := by
  intro n
  induction n with
  | zero =>
    intro L v0 v1 v2 v3 v4 v5 μ μ9 hl0 hl1 hl2 hl3 hl4 hl5 h
    unfold g_R_keeps_63 at h
    cases h
  | succ n ih =>
    intro L v0 v1 v2 v3 v4 v5 μ μ9 hl0 hl1 hl2 hl3 hl4 hl5 h
    unfold g_R_keeps_63 at h
    refine jr_iload jf_247_63 hl5 ?_
    refine jr_bipush jf_247_65 jc_b_64 ?_
    replace h := ite_or h; rcases h with ⟨hc, h⟩ | ⟨hc, h⟩
    · refine jr_if2_ge_t jf_247_67 hc ?_
      refine jr_aload_n jf_247_101 rfl hl0 ?_
      replace h := obd_of h; obtain ⟨x1, hx1, h⟩ := h
      refine jr_getA jf_247_102 hx1 ?_
      refine jr_iload jf_247_105 hl4 ?_
      refine jr_aload_n jf_247_107 rfl hl0 ?_
      replace h := obd_of h; obtain ⟨x2, hx2, h⟩ := h
      refine jr_getA jf_247_108 hx2 ?_
      refine jr_iload_n jf_247_111 rfl hl3 ?_
      replace h := obd_of h; obtain ⟨a3, rfl, h⟩ := h
      replace h := obd_of h; obtain ⟨x4, hx4, h⟩ := h
      refine jr_iaload jf_247_112 hx4 ?_
      replace h := obd_of h; obtain ⟨a5, rfl, h⟩ := h
      replace h := obd_of h; obtain ⟨μ6, hμ6, h⟩ := h
      refine jr_iastore jf_247_113 hμ6 ?_
      refine jr_iinc jf_247_114 jc_i_1 jml_247 (by decide) hl3 ?_
      refine jr_goto jf_247_117 ?_
      exact i38 _ _ _ _ _ _ _ (jg1_ne rfl hl0) (jg1_ne rfl hl1) (jg1_pre rfl hl2) jg1_same h
    · refine jr_if2_ge_f jf_247_67 hc ?_
      refine jr_aload_n jf_247_70 rfl hl0 ?_
      replace h := obd_of h; obtain ⟨x7, hx7, h⟩ := h
      refine jr_getA jf_247_71 hx7 ?_
      refine jr_bipush jf_247_74 jc_b_64 ?_
      refine jr_iload jf_247_76 hl4 ?_
      refine jr_imul jf_247_78 ?_
      refine jr_iload jf_247_79 hl5 ?_
      refine jr_iadd jf_247_81 ?_
      refine jr_aload_n jf_247_82 rfl hl0 ?_
      replace h := obd_of h; obtain ⟨x8, hx8, h⟩ := h
      refine jr_getA jf_247_83 hx8 ?_
      refine jr_bipush jf_247_86 jc_b_64 ?_
      refine jr_iload_n jf_247_88 rfl hl3 ?_
      refine jr_imul jf_247_89 ?_
      refine jr_iload jf_247_90 hl5 ?_
      refine jr_iadd jf_247_92 ?_
      replace h := obd_of h; obtain ⟨a9, rfl, h⟩ := h
      replace h := obd_of h; obtain ⟨x10, hx10, h⟩ := h
      refine jr_daload jf_247_93 hx10 ?_
      replace h := obd_of h; obtain ⟨a11, rfl, h⟩ := h
      replace h := obd_of h; obtain ⟨μ12, hμ12, h⟩ := h
      refine jr_dastore jf_247_94 hμ12 ?_
      refine jr_iinc jf_247_95 jc_i_1 jml_247 (by decide) hl5 ?_
      refine jr_goto jf_247_98 ?_
      exact ih _ _ _ _ _ _ _ _ _ (jg1_ne rfl hl0) (jg1_ne rfl hl1) (jg1_ne rfl hl2) (jg1_ne rfl hl3) (jg1_pre rfl hl4) jg1_same h
set_option maxRecDepth 10000 in
set_option maxHeartbeats 4000000 in
theorem r_R_keeps_157 {N B : Nat} {SA : Nat → Nat} {d : Nat} (hd : 0 ≤ d) {k122 : Nat → Int32 → Int32 → Int32 → JMem → Option JMem} (i122 : ∀ (L : JLoc) (v0 : Nat) (v1 : Int32) (v2 : Int32) (v3 : Int32) (μ : JMem) (μ9 : JMem), jget L 0 = .ref v0 → jget L 1 = .int v1 → jget L 2 = .int v2 → jget L 3 = .int v3 → k122 v0 v1 v2 v3 μ = some μ9 → jR B SA d m_R_keeps 122 L [] μ none μ9) : ∀ (n : Nat), ∀ (L : JLoc) (v0 : Nat) (v1 : Int32) (v2 : Int32) (v3 : Int32) (v4 : Int32) (v5 : Int32) (v6 : Int32) (μ : JMem) (μ9 : JMem), jget L 0 = .ref v0 → jget L 1 = .int v1 → jget L 2 = .int v2 → jget L 3 = .int v3 → jget L 4 = .int v4 → jget L 5 = .int v5 → jget L 6 = .int v6 → g_R_keeps_157 N B k122 n v0 v1 v2 v3 v4 v5 v6 μ = some μ9 → jR B SA d m_R_keeps 157 L [] μ none μ9 := by
  intro n
  induction n with
  | zero =>
    intro L v0 v1 v2 v3 v4 v5 v6 μ μ9 hl0 hl1 hl2 hl3 hl4 hl5 hl6 h
    unfold g_R_keeps_157 at h
    cases h
  | succ n ih =>
    intro L v0 v1 v2 v3 v4 v5 v6 μ μ9 hl0 hl1 hl2 hl3 hl4 hl5 hl6 h
    unfold g_R_keeps_157 at h
    refine jr_iload jf_247_157 hl6 ?_
    refine jr_bipush jf_247_159 jc_b_64 ?_
    replace h := ite_or h; rcases h with ⟨hc, h⟩ | ⟨hc, h⟩
    · refine jr_if2_ge_t jf_247_161 hc ?_
      refine jr_aload_n jf_247_196 rfl hl0 ?_
      replace h := obd_of h; obtain ⟨x1, hx1, h⟩ := h
      refine jr_getA jf_247_197 hx1 ?_
      refine jr_iload jf_247_200 hl5 ?_
      refine jr_aload_n jf_247_202 rfl hl0 ?_
      replace h := obd_of h; obtain ⟨x2, hx2, h⟩ := h
      refine jr_getA jf_247_203 hx2 ?_
      refine jr_iload jf_247_206 hl4 ?_
      replace h := obd_of h; obtain ⟨a3, rfl, h⟩ := h
      replace h := obd_of h; obtain ⟨x4, hx4, h⟩ := h
      refine jr_iaload jf_247_208 hx4 ?_
      replace h := obd_of h; obtain ⟨a5, rfl, h⟩ := h
      replace h := obd_of h; obtain ⟨μ6, hμ6, h⟩ := h
      refine jr_iastore jf_247_209 hμ6 ?_
      refine jr_aload_n jf_247_210 rfl hl0 ?_
      replace h := obd_of h; obtain ⟨x7, hx7, h⟩ := h
      refine jr_getA jf_247_211 hx7 ?_
      refine jr_iload jf_247_214 hl5 ?_
      refine jr_aload_n jf_247_216 rfl hl0 ?_
      replace h := obd_of h; obtain ⟨x8, hx8, h⟩ := h
      refine jr_getA jf_247_217 hx8 ?_
      refine jr_iload jf_247_220 hl4 ?_
      replace h := obd_of h; obtain ⟨a9, rfl, h⟩ := h
      replace h := obd_of h; obtain ⟨x10, hx10, h⟩ := h
      refine jr_laload jf_247_222 hx10 ?_
      replace h := obd_of h; obtain ⟨a11, rfl, h⟩ := h
      replace h := obd_of h; obtain ⟨μ12, hμ12, h⟩ := h
      refine jr_lastore jf_247_223 hμ12 ?_
      refine jr_aload_n jf_247_224 rfl hl0 ?_
      replace h := obd_of h; obtain ⟨x13, hx13, h⟩ := h
      refine jr_getA jf_247_225 hx13 ?_
      refine jr_iload jf_247_228 hl5 ?_
      refine jr_aload_n jf_247_230 rfl hl0 ?_
      replace h := obd_of h; obtain ⟨x14, hx14, h⟩ := h
      refine jr_getA jf_247_231 hx14 ?_
      refine jr_iload jf_247_234 hl4 ?_
      replace h := obd_of h; obtain ⟨a15, rfl, h⟩ := h
      replace h := obd_of h; obtain ⟨x16, hx16, h⟩ := h
      refine jr_iaload jf_247_236 hx16 ?_
      replace h := obd_of h; obtain ⟨a17, rfl, h⟩ := h
      replace h := obd_of h; obtain ⟨μ18, hμ18, h⟩ := h
      refine jr_iastore jf_247_237 hμ18 ?_
      refine jr_iinc jf_247_238 jc_i_1 jml_247 (by decide) hl3 ?_
      refine jr_goto jf_247_241 ?_
      exact i122 _ _ _ _ _ _ _ (jg1_ne rfl hl0) (jg1_ne rfl hl1) (jg1_pre rfl hl2) jg1_same h
    · refine jr_if2_ge_f jf_247_161 hc ?_
      refine jr_aload_n jf_247_164 rfl hl0 ?_
      replace h := obd_of h; obtain ⟨x19, hx19, h⟩ := h
      refine jr_getA jf_247_165 hx19 ?_
      refine jr_bipush jf_247_168 jc_b_64 ?_
      refine jr_iload jf_247_170 hl5 ?_
      refine jr_imul jf_247_172 ?_
      refine jr_iload jf_247_173 hl6 ?_
      refine jr_iadd jf_247_175 ?_
      refine jr_aload_n jf_247_176 rfl hl0 ?_
      replace h := obd_of h; obtain ⟨x20, hx20, h⟩ := h
      refine jr_getA jf_247_177 hx20 ?_
      refine jr_bipush jf_247_180 jc_b_64 ?_
      refine jr_iload jf_247_182 hl4 ?_
      refine jr_imul jf_247_184 ?_
      refine jr_iload jf_247_185 hl6 ?_
      refine jr_iadd jf_247_187 ?_
      replace h := obd_of h; obtain ⟨a21, rfl, h⟩ := h
      replace h := obd_of h; obtain ⟨x22, hx22, h⟩ := h
      refine jr_daload jf_247_188 hx22 ?_
      replace h := obd_of h; obtain ⟨a23, rfl, h⟩ := h
      replace h := obd_of h; obtain ⟨μ24, hμ24, h⟩ := h
      refine jr_dastore jf_247_189 hμ24 ?_
      refine jr_iinc jf_247_190 jc_i_1 jml_247 (by decide) hl6 ?_
      refine jr_goto jf_247_193 ?_
      exact ih _ _ _ _ _ _ _ _ _ _ (jg1_ne rfl hl0) (jg1_ne rfl hl1) (jg1_ne rfl hl2) (jg1_ne rfl hl3) (jg1_ne rfl hl4) (jg1_pre rfl hl5) jg1_same h
set_option maxRecDepth 10000 in
set_option maxHeartbeats 4000000 in
theorem r_R_keeps_122 {N B : Nat} {SA : Nat → Nat} {d : Nat} (hd : 0 ≤ d) : ∀ (n : Nat), ∀ (L : JLoc) (v0 : Nat) (v1 : Int32) (v2 : Int32) (v3 : Int32) (μ : JMem) (μ9 : JMem), jget L 0 = .ref v0 → jget L 1 = .int v1 → jget L 2 = .int v2 → jget L 3 = .int v3 → g_R_keeps_122 N B n v0 v1 v2 v3 μ = some μ9 → jR B SA d m_R_keeps 122 L [] μ none μ9 := by
  intro n
  induction n with
  | zero =>
    intro L v0 v1 v2 v3 μ μ9 hl0 hl1 hl2 hl3 h
    unfold g_R_keeps_122 at h
    cases h
  | succ n ih =>
    intro L v0 v1 v2 v3 μ μ9 hl0 hl1 hl2 hl3 h
    unfold g_R_keeps_122 at h
    refine jr_iload_n jf_247_122 rfl hl3 ?_
    refine jr_aload_n jf_247_123 rfl hl0 ?_
    replace h := obd_of h; obtain ⟨x1, hx1, h⟩ := h
    refine jr_getA jf_247_124 hx1 ?_
    refine jr_iload_n jf_247_127 rfl hl2 ?_
    replace h := obd_of h; obtain ⟨a2, rfl, h⟩ := h
    replace h := obd_of h; obtain ⟨x3, hx3, h⟩ := h
    refine jr_iaload jf_247_128 hx3 ?_
    replace h := ite_or h; rcases h with ⟨hc, h⟩ | ⟨hc, h⟩
    · refine jr_if2_ge_t jf_247_129 hc ?_
      obtain rfl := Option.some.inj h
      exact jr_return jf_247_244 jmt_247
    · refine jr_if2_ge_f jf_247_129 hc ?_
      refine jr_aload_n jf_247_132 rfl hl0 ?_
      replace h := obd_of h; obtain ⟨x4, hx4, h⟩ := h
      refine jr_getA jf_247_133 hx4 ?_
      refine jr_bipush jf_247_136 jc_b_10 ?_
      refine jr_iload_n jf_247_138 rfl hl2 ?_
      refine jr_imul jf_247_139 ?_
      refine jr_iload_n jf_247_140 rfl hl3 ?_
      refine jr_iadd jf_247_141 ?_
      replace h := obd_of h; obtain ⟨a5, rfl, h⟩ := h
      replace h := obd_of h; obtain ⟨x6, hx6, h⟩ := h
      refine jr_iaload jf_247_142 hx6 ?_
      refine jr_istore jf_247_143 jml_247 (by decide) ?_
      refine jr_bipush jf_247_145 jc_b_60 ?_
      refine jr_iload_n jf_247_147 rfl (jg1_ne rfl hl1) ?_
      refine jr_imul jf_247_148 ?_
      refine jr_iload jf_247_149 jg1_same ?_
      refine jr_iadd jf_247_151 ?_
      refine jr_istore jf_247_152 jml_247 (by decide) ?_
      refine jr_iconst jf_247_154 jc_i_0 ?_
      refine jr_istore jf_247_155 jml_247 (by decide) ?_
      exact r_R_keeps_157 hd ih _ _ _ _ _ _ _ _ _ _ _ (jg1_ne rfl (jg1_ne rfl (jg1_ne rfl hl0))) (jg1_ne rfl (jg1_ne rfl (jg1_ne rfl hl1))) (jg1_ne rfl (jg1_ne rfl (jg1_ne rfl hl2))) (jg1_ne rfl (jg1_ne rfl (jg1_pre rfl hl3))) (jg1_ne rfl (jg1_pre rfl jg1_same)) (jg1_pre rfl jg1_same) jg1_same h
set_option maxRecDepth 10000 in
set_option maxHeartbeats 4000000 in
theorem r_R_keeps_38 {N B : Nat} {SA : Nat → Nat} {d : Nat} (hd : 0 ≤ d) : ∀ (n : Nat), ∀ (L : JLoc) (v0 : Nat) (v1 : Int32) (v2 : Int32) (v3 : Int32) (μ : JMem) (μ9 : JMem), jget L 0 = .ref v0 → jget L 1 = .int v1 → jget L 2 = .int v2 → jget L 3 = .int v3 → g_R_keeps_38 N B n v0 v1 v2 v3 μ = some μ9 → jR B SA d m_R_keeps 38 L [] μ none μ9 := by
  intro n
  induction n with
  | zero =>
    intro L v0 v1 v2 v3 μ μ9 hl0 hl1 hl2 hl3 h
    unfold g_R_keeps_38 at h
    cases h
  | succ n ih =>
    intro L v0 v1 v2 v3 μ μ9 hl0 hl1 hl2 hl3 h
    unfold g_R_keeps_38 at h
    refine jr_iload_n jf_247_38 rfl hl3 ?_
    refine jr_iconst jf_247_39 jc_i_3 ?_
    refine jr_iload_n jf_247_40 rfl hl2 ?_
    refine jr_imul jf_247_41 ?_
    refine jr_aload_n jf_247_42 rfl hl0 ?_
    replace h := obd_of h; obtain ⟨x1, hx1, h⟩ := h
    refine jr_getA jf_247_43 hx1 ?_
    refine jr_iload_n jf_247_46 rfl hl2 ?_
    replace h := obd_of h; obtain ⟨a2, rfl, h⟩ := h
    replace h := obd_of h; obtain ⟨x3, hx3, h⟩ := h
    refine jr_iaload jf_247_47 hx3 ?_
    refine jr_iadd jf_247_48 ?_
    replace h := ite_or h; rcases h with ⟨hc, h⟩ | ⟨hc, h⟩
    · refine jr_if2_ge_t jf_247_49 hc ?_
      refine jr_iconst jf_247_120 jc_i_0 ?_
      refine jr_istore_n jf_247_121 rfl jml_247 (by decide) ?_
      exact r_R_keeps_122 hd _ _ _ _ _ _ _ _ (jg1_ne rfl hl0) (jg1_ne rfl hl1) (jg1_pre rfl hl2) jg1_same h
    · refine jr_if2_ge_f jf_247_49 hc ?_
      refine jr_bipush jf_247_52 jc_b_60 ?_
      refine jr_iload_n jf_247_54 rfl hl1 ?_
      refine jr_imul jf_247_55 ?_
      refine jr_iload_n jf_247_56 rfl hl3 ?_
      refine jr_iadd jf_247_57 ?_
      refine jr_istore jf_247_58 jml_247 (by decide) ?_
      refine jr_iconst jf_247_60 jc_i_0 ?_
      refine jr_istore jf_247_61 jml_247 (by decide) ?_
      exact r_R_keeps_63 hd ih _ _ _ _ _ _ _ _ _ _ (jg1_ne rfl (jg1_ne rfl hl0)) (jg1_ne rfl (jg1_ne rfl hl1)) (jg1_ne rfl (jg1_ne rfl hl2)) (jg1_ne rfl (jg1_pre rfl hl3)) (jg1_pre rfl jg1_same) jg1_same h
set_option maxRecDepth 10000 in
set_option maxHeartbeats 4000000 in
theorem r_R_keeps_e {N B : Nat} {SA : Nat → Nat} {d : Nat} (hd : 0 ≤ d) : ∀ (L : JLoc) (v0 : Nat) (v1 : Int32) (v2 : Int32) (μ : JMem) (μ9 : JMem), jget L 0 = .ref v0 → jget L 1 = .int v1 → jget L 2 = .int v2 → g_R_keeps N B v0 v1 v2 μ = some μ9 → jR B SA d m_R_keeps 0 L [] μ none μ9 := by
  intro L v0 v1 v2 μ μ9 hl0 hl1 hl2 h
  unfold g_R_keeps at h
  refine jr_aload_n jf_247_0 rfl hl0 ?_
  replace h := obd_of h; obtain ⟨x1, hx1, h⟩ := h
  refine jr_getA jf_247_1 hx1 ?_
  refine jr_bipush jf_247_4 jc_b_20 ?_
  refine jr_iload_n jf_247_6 rfl hl1 ?_
  refine jr_imul jf_247_7 ?_
  refine jr_iload_n jf_247_8 rfl hl2 ?_
  refine jr_iadd jf_247_9 ?_
  refine jr_aload_n jf_247_10 rfl hl0 ?_
  replace h := obd_of h; obtain ⟨x2, hx2, h⟩ := h
  refine jr_getA jf_247_11 hx2 ?_
  refine jr_iload_n jf_247_14 rfl hl2 ?_
  replace h := obd_of h; obtain ⟨a3, rfl, h⟩ := h
  replace h := obd_of h; obtain ⟨x4, hx4, h⟩ := h
  refine jr_iaload jf_247_15 hx4 ?_
  replace h := obd_of h; obtain ⟨a5, rfl, h⟩ := h
  replace h := obd_of h; obtain ⟨μ6, hμ6, h⟩ := h
  refine jr_iastore jf_247_16 hμ6 ?_
  refine jr_aload_n jf_247_17 rfl hl0 ?_
  replace h := obd_of h; obtain ⟨x7, hx7, h⟩ := h
  refine jr_getA jf_247_18 hx7 ?_
  refine jr_bipush jf_247_21 jc_b_20 ?_
  refine jr_iload_n jf_247_23 rfl hl1 ?_
  refine jr_imul jf_247_24 ?_
  refine jr_iload_n jf_247_25 rfl hl2 ?_
  refine jr_iadd jf_247_26 ?_
  refine jr_aload_n jf_247_27 rfl hl0 ?_
  replace h := obd_of h; obtain ⟨x8, hx8, h⟩ := h
  refine jr_getA jf_247_28 hx8 ?_
  refine jr_iload_n jf_247_31 rfl hl2 ?_
  replace h := obd_of h; obtain ⟨a9, rfl, h⟩ := h
  replace h := obd_of h; obtain ⟨x10, hx10, h⟩ := h
  refine jr_iaload jf_247_32 hx10 ?_
  replace h := obd_of h; obtain ⟨a11, rfl, h⟩ := h
  replace h := obd_of h; obtain ⟨μ12, hμ12, h⟩ := h
  refine jr_iastore jf_247_33 hμ12 ?_
  refine jr_iconst jf_247_34 jc_i_3 ?_
  refine jr_iload_n jf_247_35 rfl hl2 ?_
  refine jr_imul jf_247_36 ?_
  refine jr_istore_n jf_247_37 rfl jml_247 (by decide) ?_
  exact r_R_keeps_38 hd _ _ _ _ _ _ _ _ (jg1_ne rfl hl0) (jg1_ne rfl hl1) (jg1_pre rfl hl2) jg1_same h
set_option maxRecDepth 10000 in
set_option maxHeartbeats 4000000 in
theorem r_R_keeps {N B : Nat} {SA : Nat → Nat} {d : Nat} (hd : 0 ≤ d) : ∀ (v0 : Nat) (v1 : Int32) (v2 : Int32) (μ : JMem) (μ9 : JMem), g_R_keeps N B v0 v1 v2 μ = some μ9 → jR B SA d m_R_keeps 0 (lv_args 0 [.ref v0, .int v1, .int v2]) [] μ none μ9 := by
  intro v0 v1 v2 μ μ9 h
  exact r_R_keeps_e hd (lv_args 0 _) _ _ _ _ _ (by simp [lv_args, jget, rv_cat, cat_int, cat_long, cat_double, cat_float, cat_ref]) (by simp [lv_args, jget, rv_cat, cat_int, cat_long, cat_double, cat_float, cat_ref]) (by simp [lv_args, jget, rv_cat, cat_int, cat_long, cat_double, cat_float, cat_ref]) h
/-! FilterBenchModel.keep(I)I -/
set_option maxRecDepth 10000 in
set_option maxHeartbeats 4000000 in
theorem r_R_keep_36 {N B : Nat} {SA : Nat → Nat} {d : Nat} (hd : 2 ≤ d) : ∀ (n : Nat), ∀ (L : JLoc) (v0 : Nat) (v2 : Int32) (μ : JMem) (r : Int32) (μ9 : JMem), jget L 0 = .ref v0 → jget L 2 = .int v2 → g_R_keep_36 N B n v0 v2 μ = some (r, μ9) → jR B SA d m_R_keep 36 L [] μ (some (.int r)) μ9 := by
  intro n
  induction n with
  | zero =>
    intro L v0 v2 μ r μ9 hl0 hl2 h
    unfold g_R_keep_36 at h
    cases h
  | succ n ih =>
    intro L v0 v2 μ r μ9 hl0 hl2 h
    unfold g_R_keep_36 at h
    refine jr_iload_n jf_246_36 rfl hl2 ?_
    refine jr_aload_n jf_246_37 rfl hl0 ?_
    replace h := obd_of h; obtain ⟨x1, hx1, h⟩ := h
    refine jr_getI jf_246_38 hx1 ?_
    replace h := ite_or h; rcases h with ⟨hc, h⟩ | ⟨hc, h⟩
    · refine jr_if2_ge_t jf_246_41 hc ?_
      refine jr_aload_n jf_246_64 rfl hl0 ?_
      refine jr_dup jf_246_65 rfl ?_
      replace h := obd_of h; obtain ⟨x2, hx2, h⟩ := h
      refine jr_getI jf_246_66 hx2 ?_
      refine jr_iconst jf_246_69 jc_i_1 ?_
      refine jr_iadd jf_246_70 ?_
      replace h := obd_of h; obtain ⟨μ3, hμ3, h⟩ := h
      refine jr_putI jf_246_71 rfl hμ3 ?_
      refine jr_aload_n jf_246_74 rfl hl0 ?_
      replace h := obd_of h; obtain ⟨x4, hx4, h⟩ := h
      refine jr_getI jf_246_75 hx4 ?_
      refine jr_iconst jf_246_78 jc_i_1 ?_
      refine jr_isub jf_246_79 ?_
      obtain ⟨rfl, rfl⟩ := Prod.mk.inj (Option.some.inj h)
      exact jr_retI jf_246_80 jmt_246
    · refine jr_if2_ge_f jf_246_41 hc ?_
      refine jr_aload_n jf_246_44 rfl hl0 ?_
      refine jr_aload_n jf_246_45 rfl hl0 ?_
      replace h := obd_of h; obtain ⟨x5, hx5, h⟩ := h
      refine jr_getI jf_246_46 hx5 ?_
      refine jr_aload_n jf_246_49 rfl hl0 ?_
      replace h := obd_of h; obtain ⟨x6, hx6, h⟩ := h
      refine jr_getA jf_246_50 hx6 ?_
      refine jr_iload_n jf_246_53 rfl hl2 ?_
      replace h := obd_of h; obtain ⟨a7, rfl, h⟩ := h
      replace h := obd_of h; obtain ⟨x8, hx8, h⟩ := h
      refine jr_iaload jf_246_54 hx8 ?_
      replace h := jgd_of h; obtain ⟨hb9, h⟩ := h
      replace h := obd_of h; obtain ⟨μ10, hμ10, h⟩ := h
      refine jr_V6v_2 jf_246_55 hb9 (by omega) (r_R_keeps (by omega) _ _ _ _ _ hμ10) (Nat.le_of_ble_eq_true rfl) jml_247 (Nat.le_of_ble_eq_true rfl) ?_
      refine jr_iinc jf_246_58 jc_i_1 jml_246 (by decide) hl2 ?_
      refine jr_goto jf_246_61 ?_
      exact ih _ _ _ _ _ _ (jg1_ne rfl hl0) jg1_same h
set_option maxRecDepth 10000 in
set_option maxHeartbeats 4000000 in
theorem r_R_keep_e {N B : Nat} {SA : Nat → Nat} {d : Nat} (hd : 2 ≤ d) : ∀ (L : JLoc) (v0 : Nat) (v1 : Int32) (μ : JMem) (r : Int32) (μ9 : JMem), jget L 0 = .ref v0 → jget L 1 = .int v1 → g_R_keep N B v0 v1 μ = some (r, μ9) → jR B SA d m_R_keep 0 L [] μ (some (.int r)) μ9 := by
  intro L v0 v1 μ r μ9 hl0 hl1 h
  unfold g_R_keep at h
  refine jr_aload_n jf_246_0 rfl hl0 ?_
  refine jr_iload_n jf_246_1 rfl hl1 ?_
  replace h := jgd_of h; obtain ⟨hb1, h⟩ := h
  replace h := obd_of h; obtain ⟨x2, hx2, h⟩ := h
  refine jr_V6_1 jf_246_2 hb1 (by omega) (r_R_isChain (by omega) _ _ _ _ hx2) (Nat.le_of_ble_eq_true rfl) jml_204 (Nat.le_of_ble_eq_true rfl) ?_
  replace h := ite_or h; rcases h with ⟨hc, h⟩ | ⟨hc, h⟩
  · refine jr_ifz_eq_f jf_246_5 hc ?_
    refine jr_aload_n jf_246_8 rfl hl0 ?_
    replace h := obd_of h; obtain ⟨x3, hx3, h⟩ := h
    refine jr_getI jf_246_9 hx3 ?_
    refine jr_bipush jf_246_12 jc_b_8 ?_
    replace h := ite_or h; rcases h with ⟨hc, h⟩ | ⟨hc, h⟩
    · refine jr_if2_ne_f jf_246_14 hc ?_
      refine jr_iconst jf_246_17 jc_i_m1 ?_
      obtain ⟨rfl, rfl⟩ := Prod.mk.inj (Option.some.inj h)
      exact jr_retI jf_246_18 jmt_246
    · refine jr_if2_ne_t jf_246_14 hc ?_
      refine jr_aload_n jf_246_19 rfl hl0 ?_
      replace h := obd_of h; obtain ⟨x4, hx4, h⟩ := h
      refine jr_getA jf_246_20 hx4 ?_
      refine jr_aload_n jf_246_23 rfl hl0 ?_
      replace h := obd_of h; obtain ⟨x5, hx5, h⟩ := h
      refine jr_getI jf_246_24 hx5 ?_
      refine jr_iload_n jf_246_27 rfl hl1 ?_
      replace h := obd_of h; obtain ⟨a6, rfl, h⟩ := h
      replace h := obd_of h; obtain ⟨μ7, hμ7, h⟩ := h
      refine jr_iastore jf_246_28 hμ7 ?_
      refine jr_aload_n jf_246_29 rfl hl0 ?_
      refine jr_iload_n jf_246_30 rfl hl1 ?_
      replace h := jgd_of h; obtain ⟨hb8, h⟩ := h
      replace h := obd_of h; obtain ⟨μ9, hμ9, h⟩ := h
      refine jr_V6v_1 jf_246_31 hb8 (by omega) (r_R_trees (by omega) _ _ _ _ hμ9) (Nat.le_of_ble_eq_true rfl) jml_244 (Nat.le_of_ble_eq_true rfl) ?_
      refine jr_iconst jf_246_34 jc_i_0 ?_
      refine jr_istore_n jf_246_35 rfl jml_246 (by decide) ?_
      exact r_R_keep_36 hd _ _ _ _ _ _ _ (jg1_ne rfl hl0) jg1_same h
  · refine jr_ifz_eq_t jf_246_5 hc ?_
    refine jr_iconst jf_246_17 jc_i_m1 ?_
    obtain ⟨rfl, rfl⟩ := Prod.mk.inj (Option.some.inj h)
    exact jr_retI jf_246_18 jmt_246
set_option maxRecDepth 10000 in
set_option maxHeartbeats 4000000 in
theorem r_R_keep {N B : Nat} {SA : Nat → Nat} {d : Nat} (hd : 2 ≤ d) : ∀ (v0 : Nat) (v1 : Int32) (μ : JMem) (r : Int32) (μ9 : JMem), g_R_keep N B v0 v1 μ = some (r, μ9) → jR B SA d m_R_keep 0 (lv_args 0 [.ref v0, .int v1]) [] μ (some (.int r)) μ9 := by
  intro v0 v1 μ r μ9 h
  exact r_R_keep_e hd (lv_args 0 _) _ _ _ _ _ (by simp [lv_args, jget, rv_cat, cat_int, cat_long, cat_double, cat_float, cat_ref]) (by simp [lv_args, jget, rv_cat, cat_int, cat_long, cat_double, cat_float, cat_ref]) h
/-! FilterBenchModel.backs(II)V -/
set_option maxRecDepth 10000 in
set_option maxHeartbeats 4000000 in
theorem r_R_backs_29 {N B : Nat} {SA : Nat → Nat} {d : Nat} (hd : 0 ≤ d) {k4 : Nat → Int32 → Int32 → Int32 → JMem → Option JMem} (i4 : ∀ (L : JLoc) (v0 : Nat) (v1 : Int32) (v2 : Int32) (v3 : Int32) (μ : JMem) (μ9 : JMem), jget L 0 = .ref v0 → jget L 1 = .int v1 → jget L 2 = .int v2 → jget L 3 = .int v3 → k4 v0 v1 v2 v3 μ = some μ9 → jR B SA d m_R_backs 4 L [] μ none μ9) : ∀ (n : Nat), ∀ (L : JLoc) (v0 : Nat) (v1 : Int32) (v2 : Int32) (v3 : Int32) (v4 : Int32) (v5 : Int32) (μ : JMem) (μ9 : JMem), jget L 0 = .ref v0 → jget L 1 = .int v1 → jget L 2 = .int v2 → jget L 3 = .int v3 → jget L 4 = .int v4 → jget L 5 = .int v5 → g_R_backs_29 N B k4 n v0 v1 v2 v3 v4 v5 μ = some μ9 → jR B SA d m_R_backs 29 L [] μ none μ9 := by
  intro n
  induction n with
  | zero =>
    intro L v0 v1 v2 v3 v4 v5 μ μ9 hl0 hl1 hl2 hl3 hl4 hl5 h
    unfold g_R_backs_29 at h
    cases h
  | succ n ih =>
    intro L v0 v1 v2 v3 v4 v5 μ μ9 hl0 hl1 hl2 hl3 hl4 hl5 h
    unfold g_R_backs_29 at h
    refine jr_iload jf_251_29 hl5 ?_
    refine jr_bipush jf_251_31 jc_b_64 ?_
    replace h := ite_or h; rcases h with ⟨hc, h⟩ | ⟨hc, h⟩
    · refine jr_if2_ge_t jf_251_33 hc ?_
      refine jr_aload_n jf_251_67 rfl hl0 ?_
      replace h := obd_of h; obtain ⟨x1, hx1, h⟩ := h
      refine jr_getA jf_251_68 hx1 ?_
      refine jr_iload_n jf_251_71 rfl hl3 ?_
      refine jr_aload_n jf_251_72 rfl hl0 ?_
      replace h := obd_of h; obtain ⟨x2, hx2, h⟩ := h
      refine jr_getA jf_251_73 hx2 ?_
      refine jr_iload jf_251_76 hl4 ?_
      replace h := obd_of h; obtain ⟨a3, rfl, h⟩ := h
      replace h := obd_of h; obtain ⟨x4, hx4, h⟩ := h
      refine jr_iaload jf_251_78 hx4 ?_
      replace h := obd_of h; obtain ⟨a5, rfl, h⟩ := h
      replace h := obd_of h; obtain ⟨μ6, hμ6, h⟩ := h
      refine jr_iastore jf_251_79 hμ6 ?_
      refine jr_iinc jf_251_80 jc_i_1 jml_251 (by decide) hl3 ?_
      refine jr_goto jf_251_83 ?_
      exact i4 _ _ _ _ _ _ _ (jg1_ne rfl hl0) (jg1_ne rfl hl1) (jg1_pre rfl hl2) jg1_same h
    · refine jr_if2_ge_f jf_251_33 hc ?_
      refine jr_aload_n jf_251_36 rfl hl0 ?_
      replace h := obd_of h; obtain ⟨x7, hx7, h⟩ := h
      refine jr_getA jf_251_37 hx7 ?_
      refine jr_bipush jf_251_40 jc_b_64 ?_
      refine jr_iload_n jf_251_42 rfl hl3 ?_
      refine jr_imul jf_251_43 ?_
      refine jr_iload jf_251_44 hl5 ?_
      refine jr_iadd jf_251_46 ?_
      refine jr_aload_n jf_251_47 rfl hl0 ?_
      replace h := obd_of h; obtain ⟨x8, hx8, h⟩ := h
      refine jr_getA jf_251_48 hx8 ?_
      refine jr_bipush jf_251_51 jc_b_64 ?_
      refine jr_iload jf_251_53 hl4 ?_
      refine jr_imul jf_251_55 ?_
      refine jr_iload jf_251_56 hl5 ?_
      refine jr_iadd jf_251_58 ?_
      replace h := obd_of h; obtain ⟨a9, rfl, h⟩ := h
      replace h := obd_of h; obtain ⟨x10, hx10, h⟩ := h
      refine jr_daload jf_251_59 hx10 ?_
      replace h := obd_of h; obtain ⟨a11, rfl, h⟩ := h
      replace h := obd_of h; obtain ⟨μ12, hμ12, h⟩ := h
      refine jr_dastore jf_251_60 hμ12 ?_
      refine jr_iinc jf_251_61 jc_i_1 jml_251 (by decide) hl5 ?_
      refine jr_goto jf_251_64 ?_
      exact ih _ _ _ _ _ _ _ _ _ (jg1_ne rfl hl0) (jg1_ne rfl hl1) (jg1_ne rfl hl2) (jg1_ne rfl hl3) (jg1_pre rfl hl4) jg1_same h
set_option maxRecDepth 10000 in
set_option maxHeartbeats 4000000 in
theorem r_R_backs_123 {N B : Nat} {SA : Nat → Nat} {d : Nat} (hd : 0 ≤ d) {k88 : Nat → Int32 → Int32 → Int32 → JMem → Option JMem} (i88 : ∀ (L : JLoc) (v0 : Nat) (v1 : Int32) (v2 : Int32) (v3 : Int32) (μ : JMem) (μ9 : JMem), jget L 0 = .ref v0 → jget L 1 = .int v1 → jget L 2 = .int v2 → jget L 3 = .int v3 → k88 v0 v1 v2 v3 μ = some μ9 → jR B SA d m_R_backs 88 L [] μ none μ9) : ∀ (n : Nat), ∀ (L : JLoc) (v0 : Nat) (v1 : Int32) (v2 : Int32) (v3 : Int32) (v4 : Int32) (v5 : Int32) (v6 : Int32) (μ : JMem) (μ9 : JMem), jget L 0 = .ref v0 → jget L 1 = .int v1 → jget L 2 = .int v2 → jget L 3 = .int v3 → jget L 4 = .int v4 → jget L 5 = .int v5 → jget L 6 = .int v6 → g_R_backs_123 N B k88 n v0 v1 v2 v3 v4 v5 v6 μ = some μ9 → jR B SA d m_R_backs 123 L [] μ none μ9 := by
  intro n
  induction n with
  | zero =>
    intro L v0 v1 v2 v3 v4 v5 v6 μ μ9 hl0 hl1 hl2 hl3 hl4 hl5 hl6 h
    unfold g_R_backs_123 at h
    cases h
  | succ n ih =>
    intro L v0 v1 v2 v3 v4 v5 v6 μ μ9 hl0 hl1 hl2 hl3 hl4 hl5 hl6 h
    unfold g_R_backs_123 at h
    refine jr_iload jf_251_123 hl6 ?_
    refine jr_bipush jf_251_125 jc_b_64 ?_
    replace h := ite_or h; rcases h with ⟨hc, h⟩ | ⟨hc, h⟩
    · refine jr_if2_ge_t jf_251_127 hc ?_
      refine jr_aload_n jf_251_162 rfl hl0 ?_
      replace h := obd_of h; obtain ⟨x1, hx1, h⟩ := h
      refine jr_getA jf_251_163 hx1 ?_
      refine jr_iload jf_251_166 hl4 ?_
      refine jr_aload_n jf_251_168 rfl hl0 ?_
      replace h := obd_of h; obtain ⟨x2, hx2, h⟩ := h
      refine jr_getA jf_251_169 hx2 ?_
      refine jr_iload jf_251_172 hl5 ?_
      replace h := obd_of h; obtain ⟨a3, rfl, h⟩ := h
      replace h := obd_of h; obtain ⟨x4, hx4, h⟩ := h
      refine jr_iaload jf_251_174 hx4 ?_
      replace h := obd_of h; obtain ⟨a5, rfl, h⟩ := h
      replace h := obd_of h; obtain ⟨μ6, hμ6, h⟩ := h
      refine jr_iastore jf_251_175 hμ6 ?_
      refine jr_aload_n jf_251_176 rfl hl0 ?_
      replace h := obd_of h; obtain ⟨x7, hx7, h⟩ := h
      refine jr_getA jf_251_177 hx7 ?_
      refine jr_iload jf_251_180 hl4 ?_
      refine jr_aload_n jf_251_182 rfl hl0 ?_
      replace h := obd_of h; obtain ⟨x8, hx8, h⟩ := h
      refine jr_getA jf_251_183 hx8 ?_
      refine jr_iload jf_251_186 hl5 ?_
      replace h := obd_of h; obtain ⟨a9, rfl, h⟩ := h
      replace h := obd_of h; obtain ⟨x10, hx10, h⟩ := h
      refine jr_laload jf_251_188 hx10 ?_
      replace h := obd_of h; obtain ⟨a11, rfl, h⟩ := h
      replace h := obd_of h; obtain ⟨μ12, hμ12, h⟩ := h
      refine jr_lastore jf_251_189 hμ12 ?_
      refine jr_iinc jf_251_190 jc_i_1 jml_251 (by decide) hl3 ?_
      refine jr_goto jf_251_193 ?_
      exact i88 _ _ _ _ _ _ _ (jg1_ne rfl hl0) (jg1_ne rfl hl1) (jg1_pre rfl hl2) jg1_same h
    · refine jr_if2_ge_f jf_251_127 hc ?_
      refine jr_aload_n jf_251_130 rfl hl0 ?_
      replace h := obd_of h; obtain ⟨x13, hx13, h⟩ := h
      refine jr_getA jf_251_131 hx13 ?_
      refine jr_bipush jf_251_134 jc_b_64 ?_
      refine jr_iload jf_251_136 hl4 ?_
      refine jr_imul jf_251_138 ?_
      refine jr_iload jf_251_139 hl6 ?_
      refine jr_iadd jf_251_141 ?_
      refine jr_aload_n jf_251_142 rfl hl0 ?_
      replace h := obd_of h; obtain ⟨x14, hx14, h⟩ := h
      refine jr_getA jf_251_143 hx14 ?_
      refine jr_bipush jf_251_146 jc_b_64 ?_
      refine jr_iload jf_251_148 hl5 ?_
      refine jr_imul jf_251_150 ?_
      refine jr_iload jf_251_151 hl6 ?_
      refine jr_iadd jf_251_153 ?_
      replace h := obd_of h; obtain ⟨a15, rfl, h⟩ := h
      replace h := obd_of h; obtain ⟨x16, hx16, h⟩ := h
      refine jr_daload jf_251_154 hx16 ?_
      replace h := obd_of h; obtain ⟨a17, rfl, h⟩ := h
      replace h := obd_of h; obtain ⟨μ18, hμ18, h⟩ := h
      refine jr_dastore jf_251_155 hμ18 ?_
      refine jr_iinc jf_251_156 jc_i_1 jml_251 (by decide) hl6 ?_
      refine jr_goto jf_251_159 ?_
      exact ih _ _ _ _ _ _ _ _ _ _ (jg1_ne rfl hl0) (jg1_ne rfl hl1) (jg1_ne rfl hl2) (jg1_ne rfl hl3) (jg1_ne rfl hl4) (jg1_pre rfl hl5) jg1_same h
set_option maxRecDepth 10000 in
set_option maxHeartbeats 4000000 in
theorem r_R_backs_88 {N B : Nat} {SA : Nat → Nat} {d : Nat} (hd : 0 ≤ d) : ∀ (n : Nat), ∀ (L : JLoc) (v0 : Nat) (v1 : Int32) (v2 : Int32) (v3 : Int32) (μ : JMem) (μ9 : JMem), jget L 0 = .ref v0 → jget L 1 = .int v1 → jget L 2 = .int v2 → jget L 3 = .int v3 → g_R_backs_88 N B n v0 v1 v2 v3 μ = some μ9 → jR B SA d m_R_backs 88 L [] μ none μ9 := by
  intro n
  induction n with
  | zero =>
    intro L v0 v1 v2 v3 μ μ9 hl0 hl1 hl2 hl3 h
    unfold g_R_backs_88 at h
    cases h
  | succ n ih =>
    intro L v0 v1 v2 v3 μ μ9 hl0 hl1 hl2 hl3 h
    unfold g_R_backs_88 at h
    refine jr_iload_n jf_251_88 rfl hl3 ?_
    refine jr_aload_n jf_251_89 rfl hl0 ?_
    replace h := obd_of h; obtain ⟨x1, hx1, h⟩ := h
    refine jr_getA jf_251_90 hx1 ?_
    refine jr_iload_n jf_251_93 rfl hl2 ?_
    replace h := obd_of h; obtain ⟨a2, rfl, h⟩ := h
    replace h := obd_of h; obtain ⟨x3, hx3, h⟩ := h
    refine jr_iaload jf_251_94 hx3 ?_
    replace h := ite_or h; rcases h with ⟨hc, h⟩ | ⟨hc, h⟩
    · refine jr_if2_ge_t jf_251_95 hc ?_
      obtain rfl := Option.some.inj h
      exact jr_return jf_251_196 jmt_251
    · refine jr_if2_ge_f jf_251_95 hc ?_
      refine jr_aload_n jf_251_98 rfl hl0 ?_
      replace h := obd_of h; obtain ⟨x4, hx4, h⟩ := h
      refine jr_getA jf_251_99 hx4 ?_
      refine jr_bipush jf_251_102 jc_b_10 ?_
      refine jr_iload_n jf_251_104 rfl hl2 ?_
      refine jr_imul jf_251_105 ?_
      refine jr_iload_n jf_251_106 rfl hl3 ?_
      refine jr_iadd jf_251_107 ?_
      replace h := obd_of h; obtain ⟨a5, rfl, h⟩ := h
      replace h := obd_of h; obtain ⟨x6, hx6, h⟩ := h
      refine jr_iaload jf_251_108 hx6 ?_
      refine jr_istore jf_251_109 jml_251 (by decide) ?_
      refine jr_bipush jf_251_111 jc_b_60 ?_
      refine jr_iload_n jf_251_113 rfl (jg1_ne rfl hl1) ?_
      refine jr_imul jf_251_114 ?_
      refine jr_iload jf_251_115 jg1_same ?_
      refine jr_iadd jf_251_117 ?_
      refine jr_istore jf_251_118 jml_251 (by decide) ?_
      refine jr_iconst jf_251_120 jc_i_0 ?_
      refine jr_istore jf_251_121 jml_251 (by decide) ?_
      exact r_R_backs_123 hd ih _ _ _ _ _ _ _ _ _ _ _ (jg1_ne rfl (jg1_ne rfl (jg1_ne rfl hl0))) (jg1_ne rfl (jg1_ne rfl (jg1_ne rfl hl1))) (jg1_ne rfl (jg1_ne rfl (jg1_ne rfl hl2))) (jg1_ne rfl (jg1_ne rfl (jg1_pre rfl hl3))) (jg1_ne rfl (jg1_pre rfl jg1_same)) (jg1_pre rfl jg1_same) jg1_same h
set_option maxRecDepth 10000 in
set_option maxHeartbeats 4000000 in
theorem r_R_backs_4 {N B : Nat} {SA : Nat → Nat} {d : Nat} (hd : 0 ≤ d) : ∀ (n : Nat), ∀ (L : JLoc) (v0 : Nat) (v1 : Int32) (v2 : Int32) (v3 : Int32) (μ : JMem) (μ9 : JMem), jget L 0 = .ref v0 → jget L 1 = .int v1 → jget L 2 = .int v2 → jget L 3 = .int v3 → g_R_backs_4 N B n v0 v1 v2 v3 μ = some μ9 → jR B SA d m_R_backs 4 L [] μ none μ9 := by
  intro n
  induction n with
  | zero =>
    intro L v0 v1 v2 v3 μ μ9 hl0 hl1 hl2 hl3 h
    unfold g_R_backs_4 at h
    cases h
  | succ n ih =>
    intro L v0 v1 v2 v3 μ μ9 hl0 hl1 hl2 hl3 h
    unfold g_R_backs_4 at h
    refine jr_iload_n jf_251_4 rfl hl3 ?_
    refine jr_iconst jf_251_5 jc_i_3 ?_
    refine jr_iload_n jf_251_6 rfl hl2 ?_
    refine jr_imul jf_251_7 ?_
    refine jr_aload_n jf_251_8 rfl hl0 ?_
    replace h := obd_of h; obtain ⟨x1, hx1, h⟩ := h
    refine jr_getA jf_251_9 hx1 ?_
    refine jr_iload_n jf_251_12 rfl hl2 ?_
    replace h := obd_of h; obtain ⟨a2, rfl, h⟩ := h
    replace h := obd_of h; obtain ⟨x3, hx3, h⟩ := h
    refine jr_iaload jf_251_13 hx3 ?_
    refine jr_iadd jf_251_14 ?_
    replace h := ite_or h; rcases h with ⟨hc, h⟩ | ⟨hc, h⟩
    · refine jr_if2_ge_t jf_251_15 hc ?_
      refine jr_iconst jf_251_86 jc_i_0 ?_
      refine jr_istore_n jf_251_87 rfl jml_251 (by decide) ?_
      exact r_R_backs_88 hd _ _ _ _ _ _ _ _ (jg1_ne rfl hl0) (jg1_ne rfl hl1) (jg1_pre rfl hl2) jg1_same h
    · refine jr_if2_ge_f jf_251_15 hc ?_
      refine jr_bipush jf_251_18 jc_b_60 ?_
      refine jr_iload_n jf_251_20 rfl hl1 ?_
      refine jr_imul jf_251_21 ?_
      refine jr_iload_n jf_251_22 rfl hl3 ?_
      refine jr_iadd jf_251_23 ?_
      refine jr_istore jf_251_24 jml_251 (by decide) ?_
      refine jr_iconst jf_251_26 jc_i_0 ?_
      refine jr_istore jf_251_27 jml_251 (by decide) ?_
      exact r_R_backs_29 hd ih _ _ _ _ _ _ _ _ _ _ (jg1_ne rfl (jg1_ne rfl hl0)) (jg1_ne rfl (jg1_ne rfl hl1)) (jg1_ne rfl (jg1_ne rfl hl2)) (jg1_ne rfl (jg1_pre rfl hl3)) (jg1_pre rfl jg1_same) jg1_same h
set_option maxRecDepth 10000 in
set_option maxHeartbeats 4000000 in
theorem r_R_backs_e {N B : Nat} {SA : Nat → Nat} {d : Nat} (hd : 0 ≤ d) : ∀ (L : JLoc) (v0 : Nat) (v1 : Int32) (v2 : Int32) (μ : JMem) (μ9 : JMem), jget L 0 = .ref v0 → jget L 1 = .int v1 → jget L 2 = .int v2 → g_R_backs N B v0 v1 v2 μ = some μ9 → jR B SA d m_R_backs 0 L [] μ none μ9 := by
  intro L v0 v1 v2 μ μ9 hl0 hl1 hl2 h
  unfold g_R_backs at h
  refine jr_iconst jf_251_0 jc_i_3 ?_
  refine jr_iload_n jf_251_1 rfl hl2 ?_
  refine jr_imul jf_251_2 ?_
  refine jr_istore_n jf_251_3 rfl jml_251 (by decide) ?_
  exact r_R_backs_4 hd _ _ _ _ _ _ _ _ (jg1_ne rfl hl0) (jg1_ne rfl hl1) (jg1_pre rfl hl2) jg1_same h
set_option maxRecDepth 10000 in
set_option maxHeartbeats 4000000 in
theorem r_R_backs {N B : Nat} {SA : Nat → Nat} {d : Nat} (hd : 0 ≤ d) : ∀ (v0 : Nat) (v1 : Int32) (v2 : Int32) (μ : JMem) (μ9 : JMem), g_R_backs N B v0 v1 v2 μ = some μ9 → jR B SA d m_R_backs 0 (lv_args 0 [.ref v0, .int v1, .int v2]) [] μ none μ9 := by
  intro v0 v1 v2 μ μ9 h
  exact r_R_backs_e hd (lv_args 0 _) _ _ _ _ _ (by simp [lv_args, jget, rv_cat, cat_int, cat_long, cat_double, cat_float, cat_ref]) (by simp [lv_args, jget, rv_cat, cat_int, cat_long, cat_double, cat_float, cat_ref]) (by simp [lv_args, jget, rv_cat, cat_int, cat_long, cat_double, cat_float, cat_ref]) h
/-! FilterBenchModel.fits(II)Z -/
set_option maxRecDepth 10000 in
set_option maxHeartbeats 4000000 in
theorem r_R_fits_44 {N B : Nat} {SA : Nat → Nat} {d : Nat} (hd : 0 ≤ d) : ∀ (n : Nat), ∀ (L : JLoc) (v0 : Nat) (v1 : Int32) (v2 : Int32) (v3 : Int32) (μ : JMem) (r : Bool), jget L 0 = .ref v0 → jget L 1 = .int v1 → jget L 2 = .int v2 → jget L 3 = .int v3 → g_R_fits_44 N n v0 v1 v2 v3 μ.1 = some r → jR B SA d m_R_fits 44 L [] μ (some (.int (jb r))) μ := by
  intro n
  induction n with
  | zero =>
    intro L v0 v1 v2 v3 μ r hl0 hl1 hl2 hl3 h
    unfold g_R_fits_44 at h
    cases h
  | succ n ih =>
    intro L v0 v1 v2 v3 μ r hl0 hl1 hl2 hl3 h
    unfold g_R_fits_44 at h
    refine jr_iload_n jf_250_44 rfl hl3 ?_
    refine jr_aload_n jf_250_45 rfl hl0 ?_
    replace h := obd_of h; obtain ⟨x1, hx1, h⟩ := h
    refine jr_getA jf_250_46 hx1 ?_
    refine jr_iload_n jf_250_49 rfl hl2 ?_
    replace h := obd_of h; obtain ⟨a2, rfl, h⟩ := h
    replace h := obd_of h; obtain ⟨x3, hx3, h⟩ := h
    refine jr_iaload jf_250_50 hx3 ?_
    replace h := ite_or h; rcases h with ⟨hc, h⟩ | ⟨hc, h⟩
    · refine jr_if2_ge_t jf_250_51 hc ?_
      refine jr_iconst jf_250_97 jc_i_1 ?_
      obtain rfl := Option.some.inj h
      exact jr_retZ (x := true) jf_250_98 jmt_250
    · refine jr_if2_ge_f jf_250_51 hc ?_
      refine jr_aload_n jf_250_54 rfl hl0 ?_
      replace h := obd_of h; obtain ⟨x4, hx4, h⟩ := h
      refine jr_getA jf_250_55 hx4 ?_
      refine jr_bipush jf_250_58 jc_b_10 ?_
      refine jr_iload_n jf_250_60 rfl hl2 ?_
      refine jr_imul jf_250_61 ?_
      refine jr_iload_n jf_250_62 rfl hl3 ?_
      refine jr_iadd jf_250_63 ?_
      replace h := obd_of h; obtain ⟨a5, rfl, h⟩ := h
      replace h := obd_of h; obtain ⟨x6, hx6, h⟩ := h
      refine jr_iaload jf_250_64 hx6 ?_
      refine jr_istore jf_250_65 jml_250 (by decide) ?_
      refine jr_aload_n jf_250_67 rfl (jg1_ne rfl hl0) ?_
      replace h := obd_of h; obtain ⟨x7, hx7, h⟩ := h
      refine jr_getA jf_250_68 hx7 ?_
      refine jr_bipush jf_250_71 jc_b_60 ?_
      refine jr_iload_n jf_250_73 rfl (jg1_ne rfl hl1) ?_
      refine jr_imul jf_250_74 ?_
      refine jr_iload jf_250_75 jg1_same ?_
      refine jr_iadd jf_250_77 ?_
      replace h := obd_of h; obtain ⟨a8, rfl, h⟩ := h
      replace h := obd_of h; obtain ⟨x9, hx9, h⟩ := h
      refine jr_iaload jf_250_78 hx9 ?_
      refine jr_aload_n jf_250_79 rfl (jg1_ne rfl hl0) ?_
      replace h := obd_of h; obtain ⟨x10, hx10, h⟩ := h
      refine jr_getA jf_250_80 hx10 ?_
      refine jr_iload jf_250_83 jg1_same ?_
      replace h := obd_of h; obtain ⟨a11, rfl, h⟩ := h
      replace h := obd_of h; obtain ⟨x12, hx12, h⟩ := h
      refine jr_iaload jf_250_85 hx12 ?_
      replace h := ite_or h; rcases h with ⟨hc, h⟩ | ⟨hc, h⟩
      · refine jr_if2_eq_t jf_250_86 hc ?_
        refine jr_iinc jf_250_91 jc_i_1 jml_250 (by decide) (jg1_pre rfl hl3) ?_
        refine jr_goto jf_250_94 ?_
        exact ih _ _ _ _ _ _ _ (jg1_ne rfl (jg1_ne rfl hl0)) (jg1_ne rfl (jg1_ne rfl hl1)) (jg1_pre rfl (jg1_ne rfl hl2)) jg1_same h
      · refine jr_if2_eq_f jf_250_86 hc ?_
        refine jr_iconst jf_250_89 jc_i_0 ?_
        obtain rfl := Option.some.inj h
        exact jr_retZ (x := false) jf_250_90 jmt_250
set_option maxRecDepth 10000 in
set_option maxHeartbeats 4000000 in
theorem r_R_fits_e {N B : Nat} {SA : Nat → Nat} {d : Nat} (hd : 0 ≤ d) : ∀ (L : JLoc) (v0 : Nat) (v1 : Int32) (v2 : Int32) (μ : JMem) (r : Bool), jget L 0 = .ref v0 → jget L 1 = .int v1 → jget L 2 = .int v2 → g_R_fits N v0 v1 v2 μ.1 = some r → jR B SA d m_R_fits 0 L [] μ (some (.int (jb r))) μ := by
  intro L v0 v1 v2 μ r hl0 hl1 hl2 h
  unfold g_R_fits at h
  refine jr_aload_n jf_250_0 rfl hl0 ?_
  replace h := obd_of h; obtain ⟨x1, hx1, h⟩ := h
  refine jr_getA jf_250_1 hx1 ?_
  refine jr_bipush jf_250_4 jc_b_20 ?_
  refine jr_iload_n jf_250_6 rfl hl1 ?_
  refine jr_imul jf_250_7 ?_
  refine jr_iload_n jf_250_8 rfl hl2 ?_
  refine jr_iadd jf_250_9 ?_
  replace h := obd_of h; obtain ⟨a2, rfl, h⟩ := h
  replace h := obd_of h; obtain ⟨x3, hx3, h⟩ := h
  refine jr_iaload jf_250_10 hx3 ?_
  refine jr_aload_n jf_250_11 rfl hl0 ?_
  replace h := obd_of h; obtain ⟨x4, hx4, h⟩ := h
  refine jr_getA jf_250_12 hx4 ?_
  refine jr_iload_n jf_250_15 rfl hl2 ?_
  replace h := obd_of h; obtain ⟨a5, rfl, h⟩ := h
  replace h := obd_of h; obtain ⟨x6, hx6, h⟩ := h
  refine jr_iaload jf_250_16 hx6 ?_
  replace h := ite_or h; rcases h with ⟨hc, h⟩ | ⟨hc, h⟩
  · refine jr_if2_ne_f jf_250_17 hc ?_
    refine jr_aload_n jf_250_20 rfl hl0 ?_
    replace h := obd_of h; obtain ⟨x7, hx7, h⟩ := h
    refine jr_getA jf_250_21 hx7 ?_
    refine jr_bipush jf_250_24 jc_b_20 ?_
    refine jr_iload_n jf_250_26 rfl hl1 ?_
    refine jr_imul jf_250_27 ?_
    refine jr_iload_n jf_250_28 rfl hl2 ?_
    refine jr_iadd jf_250_29 ?_
    replace h := obd_of h; obtain ⟨a8, rfl, h⟩ := h
    replace h := obd_of h; obtain ⟨x9, hx9, h⟩ := h
    refine jr_iaload jf_250_30 hx9 ?_
    refine jr_aload_n jf_250_31 rfl hl0 ?_
    replace h := obd_of h; obtain ⟨x10, hx10, h⟩ := h
    refine jr_getA jf_250_32 hx10 ?_
    refine jr_iload_n jf_250_35 rfl hl2 ?_
    replace h := obd_of h; obtain ⟨a11, rfl, h⟩ := h
    replace h := obd_of h; obtain ⟨x12, hx12, h⟩ := h
    refine jr_iaload jf_250_36 hx12 ?_
    replace h := ite_or h; rcases h with ⟨hc, h⟩ | ⟨hc, h⟩
    · refine jr_if2_eq_t jf_250_37 hc ?_
      refine jr_iconst jf_250_42 jc_i_0 ?_
      refine jr_istore_n jf_250_43 rfl jml_250 (by decide) ?_
      exact r_R_fits_44 hd _ _ _ _ _ _ _ _ (jg1_ne rfl hl0) (jg1_ne rfl hl1) (jg1_pre rfl hl2) jg1_same h
    · refine jr_if2_eq_f jf_250_37 hc ?_
      refine jr_iconst jf_250_40 jc_i_0 ?_
      obtain rfl := Option.some.inj h
      exact jr_retZ (x := false) jf_250_41 jmt_250
  · refine jr_if2_ne_t jf_250_17 hc ?_
    refine jr_iconst jf_250_40 jc_i_0 ?_
    obtain rfl := Option.some.inj h
    exact jr_retZ (x := false) jf_250_41 jmt_250
set_option maxRecDepth 10000 in
set_option maxHeartbeats 4000000 in
theorem r_R_fits {N B : Nat} {SA : Nat → Nat} {d : Nat} (hd : 0 ≤ d) : ∀ (v0 : Nat) (v1 : Int32) (v2 : Int32) (μ : JMem) (r : Bool), g_R_fits N v0 v1 v2 μ.1 = some r → jR B SA d m_R_fits 0 (lv_args 0 [.ref v0, .int v1, .int v2]) [] μ (some (.int (jb r))) μ := by
  intro v0 v1 v2 μ r h
  exact r_R_fits_e hd (lv_args 0 _) _ _ _ _ _ (by simp [lv_args, jget, rv_cat, cat_int, cat_long, cat_double, cat_float, cat_ref]) (by simp [lv_args, jget, rv_cat, cat_int, cat_long, cat_double, cat_float, cat_ref]) (by simp [lv_args, jget, rv_cat, cat_int, cat_long, cat_double, cat_float, cat_ref]) h
/-! FilterBenchModel.isKept(I)Z -/
set_option maxRecDepth 10000 in
set_option maxHeartbeats 4000000 in
theorem r_R_isKept_28 {N B : Nat} {SA : Nat → Nat} {d : Nat} (hd : 1 ≤ d) : ∀ (n : Nat), ∀ (L : JLoc) (v0 : Nat) (v1 : Int32) (v2 : Int32) (μ : JMem) (r : Bool) (μ9 : JMem), jget L 0 = .ref v0 → jget L 1 = .int v1 → jget L 2 = .int v2 → g_R_isKept_28 N B n v0 v1 v2 μ = some (r, μ9) → jR B SA d m_R_isKept 28 L [] μ (some (.int (jb r))) μ9 := by
  intro n
  induction n with
  | zero =>
    intro L v0 v1 v2 μ r μ9 hl0 hl1 hl2 h
    unfold g_R_isKept_28 at h
    cases h
  | succ n ih =>
    intro L v0 v1 v2 μ r μ9 hl0 hl1 hl2 h
    unfold g_R_isKept_28 at h
    refine jr_iload_n jf_249_28 rfl hl2 ?_
    refine jr_aload_n jf_249_29 rfl hl0 ?_
    replace h := obd_of h; obtain ⟨x1, hx1, h⟩ := h
    refine jr_getI jf_249_30 hx1 ?_
    replace h := ite_or h; rcases h with ⟨hc, h⟩ | ⟨hc, h⟩
    · refine jr_if2_ge_t jf_249_33 hc ?_
      refine jr_iconst jf_249_58 jc_i_1 ?_
      obtain ⟨rfl, rfl⟩ := Prod.mk.inj (Option.some.inj h)
      exact jr_retZ (x := true) jf_249_59 jmt_249
    · refine jr_if2_ge_f jf_249_33 hc ?_
      refine jr_aload_n jf_249_36 rfl hl0 ?_
      refine jr_iload_n jf_249_37 rfl hl1 ?_
      refine jr_aload_n jf_249_38 rfl hl0 ?_
      replace h := obd_of h; obtain ⟨x2, hx2, h⟩ := h
      refine jr_getA jf_249_39 hx2 ?_
      refine jr_iload_n jf_249_42 rfl hl2 ?_
      replace h := obd_of h; obtain ⟨a3, rfl, h⟩ := h
      replace h := obd_of h; obtain ⟨x4, hx4, h⟩ := h
      refine jr_iaload jf_249_43 hx4 ?_
      replace h := jgd_of h; obtain ⟨hb5, h⟩ := h
      replace h := obd_of h; obtain ⟨x6, hx6, h⟩ := h
      refine jr_V6_2 jf_249_44 hb5 (by omega) (r_R_fits (by omega) _ _ _ _ _ hx6) (Nat.le_of_ble_eq_true rfl) jml_250 (Nat.le_of_ble_eq_true rfl) ?_
      replace h := ite_or h; rcases h with ⟨hc, h⟩ | ⟨hc, h⟩
      · refine jr_ifz_ne_t jf_249_47 hc ?_
        refine jr_iinc jf_249_52 jc_i_1 jml_249 (by decide) hl2 ?_
        refine jr_goto jf_249_55 ?_
        exact ih _ _ _ _ _ _ _ (jg1_ne rfl hl0) (jg1_pre rfl hl1) jg1_same h
      · refine jr_ifz_ne_f jf_249_47 hc ?_
        refine jr_iconst jf_249_50 jc_i_0 ?_
        obtain ⟨rfl, rfl⟩ := Prod.mk.inj (Option.some.inj h)
        exact jr_retZ (x := false) jf_249_51 jmt_249
set_option maxRecDepth 10000 in
set_option maxHeartbeats 4000000 in
theorem r_R_isKept_e {N B : Nat} {SA : Nat → Nat} {d : Nat} (hd : 1 ≤ d) : ∀ (L : JLoc) (v0 : Nat) (v1 : Int32) (μ : JMem) (r : Bool) (μ9 : JMem), jget L 0 = .ref v0 → jget L 1 = .int v1 → g_R_isKept N B v0 v1 μ = some (r, μ9) → jR B SA d m_R_isKept 0 L [] μ (some (.int (jb r))) μ9 := by
  intro L v0 v1 μ r μ9 hl0 hl1 h
  unfold g_R_isKept at h
  refine jr_iload_n jf_249_0 rfl hl1 ?_
  refine jr_iconst jf_249_1 jc_i_0 ?_
  refine jr_aload_n jf_249_2 rfl hl0 ?_
  replace h := obd_of h; obtain ⟨x1, hx1, h⟩ := h
  refine jr_getI jf_249_3 hx1 ?_
  refine jr_iconst jf_249_6 jc_i_1 ?_
  refine jr_isub jf_249_7 ?_
  refine jr_S3_3 jf_249_8 (by omega) (r_R_in (by omega) _ _ _ _ _ rfl) (Nat.le_of_ble_eq_true rfl) jml_187 (Nat.le_of_ble_eq_true rfl) ?_
  replace h := ite_or h; rcases h with ⟨hc, h⟩ | ⟨hc, h⟩
  · refine jr_ifz_ne_t jf_249_11 hc ?_
    refine jr_aload_n jf_249_16 rfl hl0 ?_
    refine jr_aload_n jf_249_17 rfl hl0 ?_
    replace h := obd_of h; obtain ⟨x2, hx2, h⟩ := h
    refine jr_getA jf_249_18 hx2 ?_
    refine jr_iload_n jf_249_21 rfl hl1 ?_
    replace h := obd_of h; obtain ⟨a3, rfl, h⟩ := h
    replace h := obd_of h; obtain ⟨x4, hx4, h⟩ := h
    refine jr_iaload jf_249_22 hx4 ?_
    replace h := jgd_of h; obtain ⟨hb5, h⟩ := h
    replace h := obd_of h; obtain ⟨μ6, hμ6, h⟩ := h
    refine jr_V6v_1 jf_249_23 hb5 (by omega) (r_R_trees (by omega) _ _ _ _ hμ6) (Nat.le_of_ble_eq_true rfl) jml_244 (Nat.le_of_ble_eq_true rfl) ?_
    refine jr_iconst jf_249_26 jc_i_0 ?_
    refine jr_istore_n jf_249_27 rfl jml_249 (by decide) ?_
    exact r_R_isKept_28 hd _ _ _ _ _ _ _ _ (jg1_ne rfl hl0) (jg1_pre rfl hl1) jg1_same h
  · refine jr_ifz_ne_f jf_249_11 hc ?_
    refine jr_iconst jf_249_14 jc_i_0 ?_
    obtain ⟨rfl, rfl⟩ := Prod.mk.inj (Option.some.inj h)
    exact jr_retZ (x := false) jf_249_15 jmt_249
set_option maxRecDepth 10000 in
set_option maxHeartbeats 4000000 in
theorem r_R_isKept {N B : Nat} {SA : Nat → Nat} {d : Nat} (hd : 1 ≤ d) : ∀ (v0 : Nat) (v1 : Int32) (μ : JMem) (r : Bool) (μ9 : JMem), g_R_isKept N B v0 v1 μ = some (r, μ9) → jR B SA d m_R_isKept 0 (lv_args 0 [.ref v0, .int v1]) [] μ (some (.int (jb r))) μ9 := by
  intro v0 v1 μ r μ9 h
  exact r_R_isKept_e hd (lv_args 0 _) _ _ _ _ _ (by simp [lv_args, jget, rv_cat, cat_int, cat_long, cat_double, cat_float, cat_ref]) (by simp [lv_args, jget, rv_cat, cat_int, cat_long, cat_double, cat_float, cat_ref]) h
/-! FilterBenchModel.back(I)Z -/
set_option maxRecDepth 10000 in
set_option maxHeartbeats 4000000 in
theorem r_R_back_12 {N B : Nat} {SA : Nat → Nat} {d : Nat} (hd : 2 ≤ d) : ∀ (n : Nat), ∀ (L : JLoc) (v0 : Nat) (v1 : Int32) (v2 : Int32) (μ : JMem) (r : Bool) (μ9 : JMem), jget L 0 = .ref v0 → jget L 1 = .int v1 → jget L 2 = .int v2 → g_R_back_12 N B n v0 v1 v2 μ = some (r, μ9) → jR B SA d m_R_back 12 L [] μ (some (.int (jb r))) μ9 := by
  intro n
  induction n with
  | zero =>
    intro L v0 v1 v2 μ r μ9 hl0 hl1 hl2 h
    unfold g_R_back_12 at h
    cases h
  | succ n ih =>
    intro L v0 v1 v2 μ r μ9 hl0 hl1 hl2 h
    unfold g_R_back_12 at h
    refine jr_iload_n jf_248_12 rfl hl2 ?_
    refine jr_aload_n jf_248_13 rfl hl0 ?_
    replace h := obd_of h; obtain ⟨x1, hx1, h⟩ := h
    refine jr_getI jf_248_14 hx1 ?_
    replace h := ite_or h; rcases h with ⟨hc, h⟩ | ⟨hc, h⟩
    · refine jr_if2_ge_t jf_248_17 hc ?_
      refine jr_iconst jf_248_37 jc_i_1 ?_
      obtain ⟨rfl, rfl⟩ := Prod.mk.inj (Option.some.inj h)
      exact jr_retZ (x := true) jf_248_38 jmt_248
    · refine jr_if2_ge_f jf_248_17 hc ?_
      refine jr_aload_n jf_248_20 rfl hl0 ?_
      refine jr_iload_n jf_248_21 rfl hl1 ?_
      refine jr_aload_n jf_248_22 rfl hl0 ?_
      replace h := obd_of h; obtain ⟨x2, hx2, h⟩ := h
      refine jr_getA jf_248_23 hx2 ?_
      refine jr_iload_n jf_248_26 rfl hl2 ?_
      replace h := obd_of h; obtain ⟨a3, rfl, h⟩ := h
      replace h := obd_of h; obtain ⟨x4, hx4, h⟩ := h
      refine jr_iaload jf_248_27 hx4 ?_
      replace h := jgd_of h; obtain ⟨hb5, h⟩ := h
      replace h := obd_of h; obtain ⟨μ6, hμ6, h⟩ := h
      refine jr_V6v_2 jf_248_28 hb5 (by omega) (r_R_backs (by omega) _ _ _ _ _ hμ6) (Nat.le_of_ble_eq_true rfl) jml_251 (Nat.le_of_ble_eq_true rfl) ?_
      refine jr_iinc jf_248_31 jc_i_1 jml_248 (by decide) hl2 ?_
      refine jr_goto jf_248_34 ?_
      exact ih _ _ _ _ _ _ _ (jg1_ne rfl hl0) (jg1_pre rfl hl1) jg1_same h
set_option maxRecDepth 10000 in
set_option maxHeartbeats 4000000 in
theorem r_R_back_e {N B : Nat} {SA : Nat → Nat} {d : Nat} (hd : 2 ≤ d) : ∀ (L : JLoc) (v0 : Nat) (v1 : Int32) (μ : JMem) (r : Bool) (μ9 : JMem), jget L 0 = .ref v0 → jget L 1 = .int v1 → g_R_back N B v0 v1 μ = some (r, μ9) → jR B SA d m_R_back 0 L [] μ (some (.int (jb r))) μ9 := by
  intro L v0 v1 μ r μ9 hl0 hl1 h
  unfold g_R_back at h
  refine jr_aload_n jf_248_0 rfl hl0 ?_
  refine jr_iload_n jf_248_1 rfl hl1 ?_
  replace h := jgd_of h; obtain ⟨hb1, h⟩ := h
  replace h := jbd2_of h; obtain ⟨x2, μ3, hx2, h⟩ := h
  refine jr_V6_1 jf_248_2 hb1 (by omega) (r_R_isKept (by omega) _ _ _ _ _ hx2) (Nat.le_of_ble_eq_true rfl) jml_249 (Nat.le_of_ble_eq_true rfl) ?_
  replace h := ite_or h; rcases h with ⟨hc, h⟩ | ⟨hc, h⟩
  · refine jr_ifz_ne_t jf_248_5 hc ?_
    refine jr_iconst jf_248_10 jc_i_0 ?_
    refine jr_istore_n jf_248_11 rfl jml_248 (by decide) ?_
    exact r_R_back_12 hd _ _ _ _ _ _ _ _ (jg1_ne rfl hl0) (jg1_pre rfl hl1) jg1_same h
  · refine jr_ifz_ne_f jf_248_5 hc ?_
    refine jr_iconst jf_248_8 jc_i_0 ?_
    obtain ⟨rfl, rfl⟩ := Prod.mk.inj (Option.some.inj h)
    exact jr_retZ (x := false) jf_248_9 jmt_248
set_option maxRecDepth 10000 in
set_option maxHeartbeats 4000000 in
theorem r_R_back {N B : Nat} {SA : Nat → Nat} {d : Nat} (hd : 2 ≤ d) : ∀ (v0 : Nat) (v1 : Int32) (μ : JMem) (r : Bool) (μ9 : JMem), g_R_back N B v0 v1 μ = some (r, μ9) → jR B SA d m_R_back 0 (lv_args 0 [.ref v0, .int v1]) [] μ (some (.int (jb r))) μ9 := by
  intro v0 v1 μ r μ9 h
  exact r_R_back_e hd (lv_args 0 _) _ _ _ _ _ (by simp [lv_args, jget, rv_cat, cat_int, cat_long, cat_double, cat_float, cat_ref]) (by simp [lv_args, jget, rv_cat, cat_int, cat_long, cat_double, cat_float, cat_ref]) h
/-! FilterBenchModel.alike(II)Z -/
set_option maxRecDepth 10000 in
set_option maxHeartbeats 4000000 in
theorem r_R_alike_37 {N B : Nat} {SA : Nat → Nat} {d : Nat} (hd : 3 ≤ d) {k4 : Nat → Int32 → Int32 → Int32 → (Nat → Option JCell) → Option Bool} (i4 : ∀ (L : JLoc) (v0 : Nat) (v1 : Int32) (v2 : Int32) (v3 : Int32) (μ : JMem) (r : Bool), jget L 0 = .ref v0 → jget L 1 = .int v1 → jget L 2 = .int v2 → jget L 3 = .int v3 → k4 v0 v1 v2 v3 μ.1 = some r → jR B SA d m_R_alike 4 L [] μ (some (.int (jb r))) μ) : ∀ (n : Nat), ∀ (L : JLoc) (v0 : Nat) (v1 : Int32) (v2 : Int32) (v3 : Int32) (v4 : Int32) (v5 : Int32) (v6 : Int32) (μ : JMem) (r : Bool), jget L 0 = .ref v0 → jget L 1 = .int v1 → jget L 2 = .int v2 → jget L 3 = .int v3 → jget L 4 = .int v4 → jget L 5 = .int v5 → jget L 6 = .int v6 → g_R_alike_37 N k4 n v0 v1 v2 v3 v4 v5 v6 μ.1 = some r → jR B SA d m_R_alike 37 L [] μ (some (.int (jb r))) μ := by
  intro n
  induction n with
  | zero =>
    intro L v0 v1 v2 v3 v4 v5 v6 μ r hl0 hl1 hl2 hl3 hl4 hl5 hl6 h
    unfold g_R_alike_37 at h
    cases h
  | succ n ih =>
    intro L v0 v1 v2 v3 v4 v5 v6 μ r hl0 hl1 hl2 hl3 hl4 hl5 hl6 h
    unfold g_R_alike_37 at h
    refine jr_iload jf_253_37 hl6 ?_
    refine jr_iload jf_253_39 hl5 ?_
    replace h := ite_or h; rcases h with ⟨hc, h⟩ | ⟨hc, h⟩
    · refine jr_if2_ge_t jf_253_41 hc ?_
      refine jr_iinc jf_253_110 jc_i_1 jml_253 (by decide) hl3 ?_
      refine jr_goto jf_253_113 ?_
      exact i4 _ _ _ _ _ _ _ (jg1_ne rfl hl0) (jg1_ne rfl hl1) (jg1_pre rfl hl2) jg1_same h
    · refine jr_if2_ge_f jf_253_41 hc ?_
      refine jr_iconst jf_253_44 jc_i_0 ?_
      refine jr_aload_n jf_253_45 rfl hl0 ?_
      replace h := obd_of h; obtain ⟨x1, hx1, h⟩ := h
      refine jr_getA jf_253_46 hx1 ?_
      refine jr_bipush jf_253_49 jc_b_64 ?_
      refine jr_iload_n jf_253_51 rfl hl3 ?_
      refine jr_imul jf_253_52 ?_
      refine jr_aload_n jf_253_53 rfl hl0 ?_
      replace h := obd_of h; obtain ⟨x2, hx2, h⟩ := h
      refine jr_getA jf_253_54 hx2 ?_
      refine jr_iload_n jf_253_57 rfl hl3 ?_
      replace h := obd_of h; obtain ⟨a3, rfl, h⟩ := h
      replace h := obd_of h; obtain ⟨x4, hx4, h⟩ := h
      refine jr_iaload jf_253_58 hx4 ?_
      refine jr_iload jf_253_59 hl6 ?_
      refine jr_iadd jf_253_61 ?_
      refine jr_iload jf_253_62 hl5 ?_
      replace h := obd_of h; obtain ⟨x5, hx5, h⟩ := h
      refine jr_irem jf_253_64 hx5 ?_
      refine jr_iadd jf_253_65 ?_
      replace h := obd_of h; obtain ⟨a6, rfl, h⟩ := h
      replace h := obd_of h; obtain ⟨x7, hx7, h⟩ := h
      refine jr_daload jf_253_66 hx7 ?_
      replace h := obd_of h; obtain ⟨x8, hx8, h⟩ := h
      refine jr_S3_2 jf_253_67 (by omega) (r_R_bitsOf (by omega) _ _ _ _ hx8) (Nat.le_of_ble_eq_true rfl) jml_235 (Nat.le_of_ble_eq_true rfl) ?_
      refine jr_iconst jf_253_70 jc_i_0 ?_
      refine jr_aload_n jf_253_71 rfl hl0 ?_
      replace h := obd_of h; obtain ⟨x9, hx9, h⟩ := h
      refine jr_getA jf_253_72 hx9 ?_
      refine jr_bipush jf_253_75 jc_b_64 ?_
      refine jr_iload jf_253_77 hl4 ?_
      refine jr_imul jf_253_79 ?_
      refine jr_aload_n jf_253_80 rfl hl0 ?_
      replace h := obd_of h; obtain ⟨x10, hx10, h⟩ := h
      refine jr_getA jf_253_81 hx10 ?_
      refine jr_iload jf_253_84 hl4 ?_
      replace h := obd_of h; obtain ⟨a11, rfl, h⟩ := h
      replace h := obd_of h; obtain ⟨x12, hx12, h⟩ := h
      refine jr_iaload jf_253_86 hx12 ?_
      refine jr_iload jf_253_87 hl6 ?_
      refine jr_iadd jf_253_89 ?_
      refine jr_iload jf_253_90 hl5 ?_
      replace h := obd_of h; obtain ⟨x13, hx13, h⟩ := h
      refine jr_irem jf_253_92 hx13 ?_
      refine jr_iadd jf_253_93 ?_
      replace h := obd_of h; obtain ⟨a14, rfl, h⟩ := h
      replace h := obd_of h; obtain ⟨x15, hx15, h⟩ := h
      refine jr_daload jf_253_94 hx15 ?_
      replace h := obd_of h; obtain ⟨x16, hx16, h⟩ := h
      refine jr_S3_2 jf_253_95 (by omega) (r_R_bitsOf (by omega) _ _ _ _ hx16) (Nat.le_of_ble_eq_true rfl) jml_235 (Nat.le_of_ble_eq_true rfl) ?_
      refine jr_lcmp jf_253_98 ?_
      replace h := ite_or h; rcases h with ⟨hc, h⟩ | ⟨hc, h⟩
      · refine jr_ifl_eq_t jf_253_99 hc ?_
        refine jr_iinc jf_253_104 jc_i_1 jml_253 (by decide) hl6 ?_
        refine jr_goto jf_253_107 ?_
        exact ih _ _ _ _ _ _ _ _ _ _ (jg1_ne rfl hl0) (jg1_ne rfl hl1) (jg1_ne rfl hl2) (jg1_ne rfl hl3) (jg1_ne rfl hl4) (jg1_pre rfl hl5) jg1_same h
      · refine jr_ifl_eq_f jf_253_99 hc ?_
        refine jr_iconst jf_253_102 jc_i_0 ?_
        obtain rfl := Option.some.inj h
        exact jr_retZ (x := false) jf_253_103 jmt_253
set_option maxRecDepth 10000 in
set_option maxHeartbeats 4000000 in
theorem r_R_alike_277 {N B : Nat} {SA : Nat → Nat} {d : Nat} (hd : 3 ≤ d) {k118 : Nat → Int32 → Int32 → Int32 → (Nat → Option JCell) → Option Bool} (i118 : ∀ (L : JLoc) (v0 : Nat) (v1 : Int32) (v2 : Int32) (v3 : Int32) (μ : JMem) (r : Bool), jget L 0 = .ref v0 → jget L 1 = .int v1 → jget L 2 = .int v2 → jget L 3 = .int v3 → k118 v0 v1 v2 v3 μ.1 = some r → jR B SA d m_R_alike 118 L [] μ (some (.int (jb r))) μ) {k207 : Nat → Int32 → Int32 → Int32 → Int32 → Int32 → Bool → Int32 → Int32 → (Nat → Option JCell) → Option Bool} (i207 : ∀ (L : JLoc) (v0 : Nat) (v1 : Int32) (v2 : Int32) (v3 : Int32) (v4 : Int32) (v5 : Int32) (v6 : Bool) (v7 : Int32) (v8 : Int32) (μ : JMem) (r : Bool), jget L 0 = .ref v0 → jget L 1 = .int v1 → jget L 2 = .int v2 → jget L 3 = .int v3 → jget L 4 = .int v4 → jget L 5 = .int v5 → jget L 6 = .int (jb v6) → jget L 7 = .int v7 → jget L 8 = .int v8 → k207 v0 v1 v2 v3 v4 v5 v6 v7 v8 μ.1 = some r → jR B SA d m_R_alike 207 L [] μ (some (.int (jb r))) μ) : ∀ (L : JLoc) (v0 : Nat) (v1 : Int32) (v2 : Int32) (v3 : Int32) (v4 : Int32) (v5 : Int32) (v6 : Bool) (v7 : Int32) (v8 : Int32) (v9 : UInt64) (s0 : Int32) (s1 : Int32) (s2 : Option Nat) (μ : JMem) (r : Bool), jget L 0 = .ref v0 → jget L 1 = .int v1 → jget L 2 = .int v2 → jget L 3 = .int v3 → jget L 4 = .int v4 → jget L 5 = .int v5 → jget L 6 = .int (jb v6) → jget L 7 = .int v7 → jget L 8 = .int v8 → jget L 9 = .double v9 → g_R_alike_277 N k118 k207 v0 v1 v2 v3 v4 v5 v6 v7 v8 v9 s0 s1 s2 μ.1 = some r → jR B SA d m_R_alike 277 L [.int s0, .int s1, rv s2] μ (some (.int (jb r))) μ := by
  intro L v0 v1 v2 v3 v4 v5 v6 v7 v8 v9 s0 s1 s2 μ r hl0 hl1 hl2 hl3 hl4 hl5 hl6 hl7 hl8 hl9 h
  unfold g_R_alike_277 at h
  refine jr_iadd jf_253_277 ?_
  replace h := obd_of h; obtain ⟨a1, rfl, h⟩ := h
  replace h := obd_of h; obtain ⟨x2, hx2, h⟩ := h
  refine jr_daload jf_253_278 hx2 ?_
  refine jr_dstore jf_253_279 jml_253 (by decide) ?_
  refine jr_iconst jf_253_281 jc_i_0 ?_
  refine jr_dload jf_253_282 (jg2_ne rfl hl9) ?_
  replace h := obd_of h; obtain ⟨x3, hx3, h⟩ := h
  refine jr_S3_2 jf_253_284 (by omega) (r_R_bitsOf (by omega) _ _ _ _ hx3) (Nat.le_of_ble_eq_true rfl) jml_235 (Nat.le_of_ble_eq_true rfl) ?_
  refine jr_iconst jf_253_287 jc_i_0 ?_
  refine jr_dload jf_253_288 jg2_same ?_
  replace h := obd_of h; obtain ⟨x4, hx4, h⟩ := h
  refine jr_S3_2 jf_253_290 (by omega) (r_R_bitsOf (by omega) _ _ _ _ hx4) (Nat.le_of_ble_eq_true rfl) jml_235 (Nat.le_of_ble_eq_true rfl) ?_
  refine jr_lcmp jf_253_293 ?_
  replace h := ite_or h; rcases h with ⟨hc, h⟩ | ⟨hc, h⟩
  · refine jr_ifl_eq_t jf_253_294 hc ?_
    refine jr_iinc jf_253_299 jc_i_1 jml_253 (by decide) (jg2_ne rfl hl8) ?_
    refine jr_goto jf_253_302 ?_
    exact i207 _ _ _ _ _ _ _ _ _ _ _ _ (jg1_ne rfl (jg2_ne rfl hl0)) (jg1_ne rfl (jg2_ne rfl hl1)) (jg1_ne rfl (jg2_ne rfl hl2)) (jg1_ne rfl (jg2_ne rfl hl3)) (jg1_ne rfl (jg2_ne rfl hl4)) (jg1_ne rfl (jg2_ne rfl hl5)) (jg1_ne rfl (jg2_ne rfl hl6)) (jg1_pre rfl (jg2_ne rfl hl7)) jg1_same h
  · refine jr_ifl_eq_f jf_253_294 hc ?_
    refine jr_iconst jf_253_297 jc_i_0 ?_
    obtain rfl := Option.some.inj h
    exact jr_retZ (x := false) jf_253_298 jmt_253
set_option maxRecDepth 10000 in
set_option maxHeartbeats 4000000 in
theorem r_R_alike_240 {N B : Nat} {SA : Nat → Nat} {d : Nat} (hd : 3 ≤ d) {k118 : Nat → Int32 → Int32 → Int32 → (Nat → Option JCell) → Option Bool} (i118 : ∀ (L : JLoc) (v0 : Nat) (v1 : Int32) (v2 : Int32) (v3 : Int32) (μ : JMem) (r : Bool), jget L 0 = .ref v0 → jget L 1 = .int v1 → jget L 2 = .int v2 → jget L 3 = .int v3 → k118 v0 v1 v2 v3 μ.1 = some r → jR B SA d m_R_alike 118 L [] μ (some (.int (jb r))) μ) {k207 : Nat → Int32 → Int32 → Int32 → Int32 → Int32 → Bool → Int32 → Int32 → (Nat → Option JCell) → Option Bool} (i207 : ∀ (L : JLoc) (v0 : Nat) (v1 : Int32) (v2 : Int32) (v3 : Int32) (v4 : Int32) (v5 : Int32) (v6 : Bool) (v7 : Int32) (v8 : Int32) (μ : JMem) (r : Bool), jget L 0 = .ref v0 → jget L 1 = .int v1 → jget L 2 = .int v2 → jget L 3 = .int v3 → jget L 4 = .int v4 → jget L 5 = .int v5 → jget L 6 = .int (jb v6) → jget L 7 = .int v7 → jget L 8 = .int v8 → k207 v0 v1 v2 v3 v4 v5 v6 v7 v8 μ.1 = some r → jR B SA d m_R_alike 207 L [] μ (some (.int (jb r))) μ) : ∀ (L : JLoc) (v0 : Nat) (v1 : Int32) (v2 : Int32) (v3 : Int32) (v4 : Int32) (v5 : Int32) (v6 : Bool) (v7 : Int32) (v8 : Int32) (s0 : Int32) (s1 : Int32) (s2 : Nat) (μ : JMem) (r : Bool), jget L 0 = .ref v0 → jget L 1 = .int v1 → jget L 2 = .int v2 → jget L 3 = .int v3 → jget L 4 = .int v4 → jget L 5 = .int v5 → jget L 6 = .int (jb v6) → jget L 7 = .int v7 → jget L 8 = .int v8 → g_R_alike_240 N k118 k207 v0 v1 v2 v3 v4 v5 v6 v7 v8 s0 s1 s2 μ.1 = some r → jR B SA d m_R_alike 240 L [.int s0, .int s1, .ref s2] μ (some (.int (jb r))) μ := by
  intro L v0 v1 v2 v3 v4 v5 v6 v7 v8 s0 s1 s2 μ r hl0 hl1 hl2 hl3 hl4 hl5 hl6 hl7 hl8 h
  unfold g_R_alike_240 at h
  replace h := jgd_of h; obtain ⟨hb1, h⟩ := h
  replace h := obd_of h; obtain ⟨x2, hx2, h⟩ := h
  refine jr_V6_2 jf_253_240 hb1 (by omega) (r_R_st (by omega) _ _ _ _ _ hx2) (Nat.le_of_ble_eq_true rfl) jml_225 (Nat.le_of_ble_eq_true rfl) ?_
  refine jr_dstore jf_253_243 jml_253 (by decide) ?_
  refine jr_aload_n jf_253_245 rfl (jg2_ne rfl hl0) ?_
  replace h := obd_of h; obtain ⟨x3, hx3, h⟩ := h
  refine jr_getA jf_253_246 hx3 ?_
  refine jr_bipush jf_253_249 jc_b_64 ?_
  refine jr_iload jf_253_251 (jg2_ne rfl hl5) ?_
  refine jr_imul jf_253_253 ?_
  refine jr_iload jf_253_254 (jg2_ne rfl hl6) ?_
  replace h := ite_or h; rcases h with ⟨hc, h⟩ | ⟨hc, h⟩
  · refine jr_ifz_eq_f jf_253_256 hc ?_
    refine jr_aload_n jf_253_259 rfl (jg2_ne rfl hl0) ?_
    replace h := obd_of h; obtain ⟨x4, hx4, h⟩ := h
    refine jr_getA jf_253_260 hx4 ?_
    refine jr_iload jf_253_263 (jg2_ne rfl hl5) ?_
    replace h := obd_of h; obtain ⟨a5, rfl, h⟩ := h
    replace h := obd_of h; obtain ⟨x6, hx6, h⟩ := h
    refine jr_iaload jf_253_265 hx6 ?_
    refine jr_iload jf_253_266 (jg2_pre rfl hl8) ?_
    refine jr_iadd jf_253_268 ?_
    refine jr_iload jf_253_269 (jg2_ne rfl hl7) ?_
    replace h := obd_of h; obtain ⟨x7, hx7, h⟩ := h
    refine jr_irem jf_253_271 hx7 ?_
    refine jr_goto jf_253_272 ?_
    exact r_R_alike_277 hd i118 i207 _ _ _ _ _ _ _ _ _ _ _ _ _ _ _ _ (jg2_ne rfl hl0) (jg2_ne rfl hl1) (jg2_ne rfl hl2) (jg2_ne rfl hl3) (jg2_ne rfl hl4) (jg2_ne rfl hl5) (jg2_ne rfl hl6) (jg2_ne rfl hl7) (jg2_pre rfl hl8) jg2_same h
  · refine jr_ifz_eq_t jf_253_256 hc ?_
    refine jr_iload jf_253_275 (jg2_pre rfl hl8) ?_
    exact r_R_alike_277 hd i118 i207 _ _ _ _ _ _ _ _ _ _ _ _ _ _ _ _ (jg2_ne rfl hl0) (jg2_ne rfl hl1) (jg2_ne rfl hl2) (jg2_ne rfl hl3) (jg2_ne rfl hl4) (jg2_ne rfl hl5) (jg2_ne rfl hl6) (jg2_ne rfl hl7) (jg2_pre rfl hl8) jg2_same h
set_option maxRecDepth 10000 in
set_option maxHeartbeats 4000000 in
theorem r_R_alike_207 {N B : Nat} {SA : Nat → Nat} {d : Nat} (hd : 3 ≤ d) {k118 : Nat → Int32 → Int32 → Int32 → (Nat → Option JCell) → Option Bool} (i118 : ∀ (L : JLoc) (v0 : Nat) (v1 : Int32) (v2 : Int32) (v3 : Int32) (μ : JMem) (r : Bool), jget L 0 = .ref v0 → jget L 1 = .int v1 → jget L 2 = .int v2 → jget L 3 = .int v3 → k118 v0 v1 v2 v3 μ.1 = some r → jR B SA d m_R_alike 118 L [] μ (some (.int (jb r))) μ) : ∀ (n : Nat), ∀ (L : JLoc) (v0 : Nat) (v1 : Int32) (v2 : Int32) (v3 : Int32) (v4 : Int32) (v5 : Int32) (v6 : Bool) (v7 : Int32) (v8 : Int32) (μ : JMem) (r : Bool), jget L 0 = .ref v0 → jget L 1 = .int v1 → jget L 2 = .int v2 → jget L 3 = .int v3 → jget L 4 = .int v4 → jget L 5 = .int v5 → jget L 6 = .int (jb v6) → jget L 7 = .int v7 → jget L 8 = .int v8 → g_R_alike_207 N k118 n v0 v1 v2 v3 v4 v5 v6 v7 v8 μ.1 = some r → jR B SA d m_R_alike 207 L [] μ (some (.int (jb r))) μ := by
  intro n
  induction n with
  | zero =>
    intro L v0 v1 v2 v3 v4 v5 v6 v7 v8 μ r hl0 hl1 hl2 hl3 hl4 hl5 hl6 hl7 hl8 h
    unfold g_R_alike_207 at h
    cases h
  | succ n ih =>
    intro L v0 v1 v2 v3 v4 v5 v6 v7 v8 μ r hl0 hl1 hl2 hl3 hl4 hl5 hl6 hl7 hl8 h
    unfold g_R_alike_207 at h
    refine jr_iload jf_253_207 hl8 ?_
    refine jr_iload jf_253_209 hl7 ?_
    replace h := ite_or h; rcases h with ⟨hc, h⟩ | ⟨hc, h⟩
    · refine jr_if2_ge_t jf_253_211 hc ?_
      refine jr_iinc jf_253_305 jc_i_1 jml_253 (by decide) hl3 ?_
      refine jr_goto jf_253_308 ?_
      exact i118 _ _ _ _ _ _ _ (jg1_ne rfl hl0) (jg1_ne rfl hl1) (jg1_pre rfl hl2) jg1_same h
    · refine jr_if2_ge_f jf_253_211 hc ?_
      refine jr_aload_n jf_253_214 rfl hl0 ?_
      refine jr_iload jf_253_215 hl4 ?_
      refine jr_iload jf_253_217 hl6 ?_
      replace h := ite_or h; rcases h with ⟨hc, h⟩ | ⟨hc, h⟩
      · refine jr_ifz_eq_f jf_253_219 hc ?_
        refine jr_aload_n jf_253_222 rfl hl0 ?_
        replace h := obd_of h; obtain ⟨x1, hx1, h⟩ := h
        refine jr_getA jf_253_223 hx1 ?_
        refine jr_iload jf_253_226 hl4 ?_
        replace h := obd_of h; obtain ⟨a2, rfl, h⟩ := h
        replace h := obd_of h; obtain ⟨x3, hx3, h⟩ := h
        refine jr_iaload jf_253_228 hx3 ?_
        refine jr_iload jf_253_229 hl8 ?_
        refine jr_iadd jf_253_231 ?_
        refine jr_iload jf_253_232 hl7 ?_
        replace h := obd_of h; obtain ⟨x4, hx4, h⟩ := h
        refine jr_irem jf_253_234 hx4 ?_
        refine jr_goto jf_253_235 ?_
        exact r_R_alike_240 hd i118 ih _ _ _ _ _ _ _ _ _ _ _ _ _ _ _ hl0 hl1 hl2 hl3 hl4 hl5 hl6 hl7 hl8 h
      · refine jr_ifz_eq_t jf_253_219 hc ?_
        refine jr_iload jf_253_238 hl8 ?_
        exact r_R_alike_240 hd i118 ih _ _ _ _ _ _ _ _ _ _ _ _ _ _ _ hl0 hl1 hl2 hl3 hl4 hl5 hl6 hl7 hl8 h
set_option maxRecDepth 10000 in
set_option maxHeartbeats 4000000 in
theorem r_R_alike_202 {N B : Nat} {SA : Nat → Nat} {d : Nat} (hd : 3 ≤ d) {k118 : Nat → Int32 → Int32 → Int32 → (Nat → Option JCell) → Option Bool} (i118 : ∀ (L : JLoc) (v0 : Nat) (v1 : Int32) (v2 : Int32) (v3 : Int32) (μ : JMem) (r : Bool), jget L 0 = .ref v0 → jget L 1 = .int v1 → jget L 2 = .int v2 → jget L 3 = .int v3 → k118 v0 v1 v2 v3 μ.1 = some r → jR B SA d m_R_alike 118 L [] μ (some (.int (jb r))) μ) : ∀ (L : JLoc) (v0 : Nat) (v1 : Int32) (v2 : Int32) (v3 : Int32) (v4 : Int32) (v5 : Int32) (v6 : Bool) (s0 : Int32) (μ : JMem) (r : Bool), jget L 0 = .ref v0 → jget L 1 = .int v1 → jget L 2 = .int v2 → jget L 3 = .int v3 → jget L 4 = .int v4 → jget L 5 = .int v5 → jget L 6 = .int (jb v6) → g_R_alike_202 N k118 v0 v1 v2 v3 v4 v5 v6 s0 μ.1 = some r → jR B SA d m_R_alike 202 L [.int s0] μ (some (.int (jb r))) μ := by
  intro L v0 v1 v2 v3 v4 v5 v6 s0 μ r hl0 hl1 hl2 hl3 hl4 hl5 hl6 h
  unfold g_R_alike_202 at h
  refine jr_istore jf_253_202 jml_253 (by decide) ?_
  refine jr_iconst jf_253_204 jc_i_0 ?_
  refine jr_istore jf_253_205 jml_253 (by decide) ?_
  exact r_R_alike_207 hd i118 _ _ _ _ _ _ _ _ _ _ _ _ _ (jg1_ne rfl (jg1_ne rfl hl0)) (jg1_ne rfl (jg1_ne rfl hl1)) (jg1_ne rfl (jg1_ne rfl hl2)) (jg1_ne rfl (jg1_ne rfl hl3)) (jg1_ne rfl (jg1_ne rfl hl4)) (jg1_ne rfl (jg1_ne rfl hl5)) (jg1_ne rfl (jg1_pre rfl hl6)) (jg1_pre rfl jg1_same) jg1_same h
set_option maxRecDepth 10000 in
set_option maxHeartbeats 4000000 in
theorem r_R_alike_118 {N B : Nat} {SA : Nat → Nat} {d : Nat} (hd : 3 ≤ d) : ∀ (n : Nat), ∀ (L : JLoc) (v0 : Nat) (v1 : Int32) (v2 : Int32) (v3 : Int32) (μ : JMem) (r : Bool), jget L 0 = .ref v0 → jget L 1 = .int v1 → jget L 2 = .int v2 → jget L 3 = .int v3 → g_R_alike_118 N n v0 v1 v2 v3 μ.1 = some r → jR B SA d m_R_alike 118 L [] μ (some (.int (jb r))) μ := by
  intro n
  induction n with
  | zero =>
    intro L v0 v1 v2 v3 μ r hl0 hl1 hl2 hl3 h
    unfold g_R_alike_118 at h
    cases h
  | succ n ih =>
    intro L v0 v1 v2 v3 μ r hl0 hl1 hl2 hl3 h
    unfold g_R_alike_118 at h
    refine jr_iload_n jf_253_118 rfl hl3 ?_
    refine jr_aload_n jf_253_119 rfl hl0 ?_
    replace h := obd_of h; obtain ⟨x1, hx1, h⟩ := h
    refine jr_getA jf_253_120 hx1 ?_
    refine jr_iload_n jf_253_123 rfl hl2 ?_
    replace h := obd_of h; obtain ⟨a2, rfl, h⟩ := h
    replace h := obd_of h; obtain ⟨x3, hx3, h⟩ := h
    refine jr_iaload jf_253_124 hx3 ?_
    replace h := ite_or h; rcases h with ⟨hc, h⟩ | ⟨hc, h⟩
    · refine jr_if2_ge_t jf_253_125 hc ?_
      refine jr_iconst jf_253_311 jc_i_1 ?_
      obtain rfl := Option.some.inj h
      exact jr_retZ (x := true) jf_253_312 jmt_253
    · refine jr_if2_ge_f jf_253_125 hc ?_
      refine jr_aload_n jf_253_128 rfl hl0 ?_
      replace h := obd_of h; obtain ⟨x4, hx4, h⟩ := h
      refine jr_getA jf_253_129 hx4 ?_
      refine jr_bipush jf_253_132 jc_b_10 ?_
      refine jr_iload_n jf_253_134 rfl hl2 ?_
      refine jr_imul jf_253_135 ?_
      refine jr_iload_n jf_253_136 rfl hl3 ?_
      refine jr_iadd jf_253_137 ?_
      replace h := obd_of h; obtain ⟨a5, rfl, h⟩ := h
      replace h := obd_of h; obtain ⟨x6, hx6, h⟩ := h
      refine jr_iaload jf_253_138 hx6 ?_
      refine jr_istore jf_253_139 jml_253 (by decide) ?_
      refine jr_bipush jf_253_141 jc_b_60 ?_
      refine jr_iload_n jf_253_143 rfl (jg1_ne rfl hl1) ?_
      refine jr_imul jf_253_144 ?_
      refine jr_iload jf_253_145 jg1_same ?_
      refine jr_iadd jf_253_147 ?_
      refine jr_istore jf_253_148 jml_253 (by decide) ?_
      refine jr_aload_n jf_253_150 rfl (jg1_ne rfl (jg1_ne rfl hl0)) ?_
      replace h := obd_of h; obtain ⟨x7, hx7, h⟩ := h
      refine jr_getA jf_253_151 hx7 ?_
      refine jr_iload jf_253_154 (jg1_pre rfl jg1_same) ?_
      replace h := obd_of h; obtain ⟨a8, rfl, h⟩ := h
      replace h := obd_of h; obtain ⟨x9, hx9, h⟩ := h
      refine jr_laload jf_253_156 hx9 ?_
      refine jr_aload_n jf_253_157 rfl (jg1_ne rfl (jg1_ne rfl hl0)) ?_
      replace h := obd_of h; obtain ⟨x10, hx10, h⟩ := h
      refine jr_getA jf_253_158 hx10 ?_
      refine jr_iload jf_253_161 jg1_same ?_
      replace h := obd_of h; obtain ⟨a11, rfl, h⟩ := h
      replace h := obd_of h; obtain ⟨x12, hx12, h⟩ := h
      refine jr_laload jf_253_163 hx12 ?_
      refine jr_lcmp jf_253_164 ?_
      replace h := ite_or h; rcases h with ⟨hc, h⟩ | ⟨hc, h⟩
      · refine jr_ifl_eq_t jf_253_165 hc ?_
        refine jr_aload_n jf_253_170 rfl (jg1_ne rfl (jg1_ne rfl hl0)) ?_
        replace h := obd_of h; obtain ⟨x13, hx13, h⟩ := h
        refine jr_getA jf_253_171 hx13 ?_
        refine jr_iload jf_253_174 (jg1_pre rfl jg1_same) ?_
        replace h := obd_of h; obtain ⟨a14, rfl, h⟩ := h
        replace h := obd_of h; obtain ⟨x15, hx15, h⟩ := h
        refine jr_iaload jf_253_176 hx15 ?_
        refine jr_bipush jf_253_177 jc_b_6 ?_
        refine jr_bipush jf_253_179 jc_b_8 ?_
        refine jr_S3_3 jf_253_181 (by omega) (r_R_in (by omega) _ _ _ _ _ rfl) (Nat.le_of_ble_eq_true rfl) jml_187 (Nat.le_of_ble_eq_true rfl) ?_
        refine jr_istore jf_253_184 jml_253 (by decide) ?_
        replace h := jlet_of h
        refine jr_iload jf_253_186 jg1_same ?_
        replace h := ite_or h; rcases h with ⟨hc, h⟩ | ⟨hc, h⟩
        · refine jr_ifz_eq_f jf_253_188 hc ?_
          refine jr_aload_n jf_253_191 rfl (jg1_ne rfl (jg1_ne rfl (jg1_ne rfl hl0))) ?_
          replace h := obd_of h; obtain ⟨x17, hx17, h⟩ := h
          refine jr_getA jf_253_192 hx17 ?_
          refine jr_iload jf_253_195 (jg1_ne rfl (jg1_pre rfl jg1_same)) ?_
          replace h := obd_of h; obtain ⟨a18, rfl, h⟩ := h
          replace h := obd_of h; obtain ⟨x19, hx19, h⟩ := h
          refine jr_iaload jf_253_197 hx19 ?_
          refine jr_goto jf_253_198 ?_
          exact r_R_alike_202 hd ih _ _ _ _ _ _ _ _ _ _ _ (jg1_ne rfl (jg1_ne rfl (jg1_ne rfl hl0))) (jg1_ne rfl (jg1_ne rfl (jg1_ne rfl hl1))) (jg1_ne rfl (jg1_ne rfl (jg1_ne rfl hl2))) (jg1_ne rfl (jg1_ne rfl (jg1_pre rfl hl3))) (jg1_ne rfl (jg1_pre rfl jg1_same)) (jg1_pre rfl jg1_same) jg1_same h
        · refine jr_ifz_eq_t jf_253_188 hc ?_
          refine jr_iconst jf_253_201 jc_i_4 ?_
          exact r_R_alike_202 hd ih _ _ _ _ _ _ _ _ _ _ _ (jg1_ne rfl (jg1_ne rfl (jg1_ne rfl hl0))) (jg1_ne rfl (jg1_ne rfl (jg1_ne rfl hl1))) (jg1_ne rfl (jg1_ne rfl (jg1_ne rfl hl2))) (jg1_ne rfl (jg1_ne rfl (jg1_pre rfl hl3))) (jg1_ne rfl (jg1_pre rfl jg1_same)) (jg1_pre rfl jg1_same) jg1_same h
      · refine jr_ifl_eq_f jf_253_165 hc ?_
        refine jr_iconst jf_253_168 jc_i_0 ?_
        obtain rfl := Option.some.inj h
        exact jr_retZ (x := false) jf_253_169 jmt_253
set_option maxRecDepth 10000 in
set_option maxHeartbeats 4000000 in
theorem r_R_alike_4 {N B : Nat} {SA : Nat → Nat} {d : Nat} (hd : 3 ≤ d) : ∀ (n : Nat), ∀ (L : JLoc) (v0 : Nat) (v1 : Int32) (v2 : Int32) (v3 : Int32) (μ : JMem) (r : Bool), jget L 0 = .ref v0 → jget L 1 = .int v1 → jget L 2 = .int v2 → jget L 3 = .int v3 → g_R_alike_4 N n v0 v1 v2 v3 μ.1 = some r → jR B SA d m_R_alike 4 L [] μ (some (.int (jb r))) μ := by
  intro n
  induction n with
  | zero =>
    intro L v0 v1 v2 v3 μ r hl0 hl1 hl2 hl3 h
    unfold g_R_alike_4 at h
    cases h
  | succ n ih =>
    intro L v0 v1 v2 v3 μ r hl0 hl1 hl2 hl3 h
    unfold g_R_alike_4 at h
    refine jr_iload_n jf_253_4 rfl hl3 ?_
    refine jr_iconst jf_253_5 jc_i_3 ?_
    refine jr_iload_n jf_253_6 rfl hl2 ?_
    refine jr_imul jf_253_7 ?_
    refine jr_aload_n jf_253_8 rfl hl0 ?_
    replace h := obd_of h; obtain ⟨x1, hx1, h⟩ := h
    refine jr_getA jf_253_9 hx1 ?_
    refine jr_iload_n jf_253_12 rfl hl2 ?_
    replace h := obd_of h; obtain ⟨a2, rfl, h⟩ := h
    replace h := obd_of h; obtain ⟨x3, hx3, h⟩ := h
    refine jr_iaload jf_253_13 hx3 ?_
    refine jr_iadd jf_253_14 ?_
    replace h := ite_or h; rcases h with ⟨hc, h⟩ | ⟨hc, h⟩
    · refine jr_if2_ge_t jf_253_15 hc ?_
      refine jr_iconst jf_253_116 jc_i_0 ?_
      refine jr_istore_n jf_253_117 rfl jml_253 (by decide) ?_
      exact r_R_alike_118 hd _ _ _ _ _ _ _ _ (jg1_ne rfl hl0) (jg1_ne rfl hl1) (jg1_pre rfl hl2) jg1_same h
    · refine jr_if2_ge_f jf_253_15 hc ?_
      refine jr_bipush jf_253_18 jc_b_60 ?_
      refine jr_iload_n jf_253_20 rfl hl1 ?_
      refine jr_imul jf_253_21 ?_
      refine jr_iload_n jf_253_22 rfl hl3 ?_
      refine jr_iadd jf_253_23 ?_
      refine jr_istore jf_253_24 jml_253 (by decide) ?_
      refine jr_aload_n jf_253_26 rfl (jg1_ne rfl hl0) ?_
      replace h := obd_of h; obtain ⟨x4, hx4, h⟩ := h
      refine jr_getA jf_253_27 hx4 ?_
      refine jr_iload_n jf_253_30 rfl (jg1_pre rfl hl3) ?_
      replace h := obd_of h; obtain ⟨a5, rfl, h⟩ := h
      replace h := obd_of h; obtain ⟨x6, hx6, h⟩ := h
      refine jr_iaload jf_253_31 hx6 ?_
      refine jr_istore jf_253_32 jml_253 (by decide) ?_
      refine jr_iconst jf_253_34 jc_i_0 ?_
      refine jr_istore jf_253_35 jml_253 (by decide) ?_
      exact r_R_alike_37 hd ih _ _ _ _ _ _ _ _ _ _ _ (jg1_ne rfl (jg1_ne rfl (jg1_ne rfl hl0))) (jg1_ne rfl (jg1_ne rfl (jg1_ne rfl hl1))) (jg1_ne rfl (jg1_ne rfl (jg1_ne rfl hl2))) (jg1_ne rfl (jg1_ne rfl (jg1_pre rfl hl3))) (jg1_ne rfl (jg1_pre rfl jg1_same)) (jg1_pre rfl jg1_same) jg1_same h
set_option maxRecDepth 10000 in
set_option maxHeartbeats 4000000 in
theorem r_R_alike_e {N B : Nat} {SA : Nat → Nat} {d : Nat} (hd : 3 ≤ d) : ∀ (L : JLoc) (v0 : Nat) (v1 : Int32) (v2 : Int32) (μ : JMem) (r : Bool), jget L 0 = .ref v0 → jget L 1 = .int v1 → jget L 2 = .int v2 → g_R_alike N v0 v1 v2 μ.1 = some r → jR B SA d m_R_alike 0 L [] μ (some (.int (jb r))) μ := by
  intro L v0 v1 v2 μ r hl0 hl1 hl2 h
  unfold g_R_alike at h
  refine jr_iconst jf_253_0 jc_i_3 ?_
  refine jr_iload_n jf_253_1 rfl hl2 ?_
  refine jr_imul jf_253_2 ?_
  refine jr_istore_n jf_253_3 rfl jml_253 (by decide) ?_
  exact r_R_alike_4 hd _ _ _ _ _ _ _ _ (jg1_ne rfl hl0) (jg1_ne rfl hl1) (jg1_pre rfl hl2) jg1_same h
set_option maxRecDepth 10000 in
set_option maxHeartbeats 4000000 in
theorem r_R_alike {N B : Nat} {SA : Nat → Nat} {d : Nat} (hd : 3 ≤ d) : ∀ (v0 : Nat) (v1 : Int32) (v2 : Int32) (μ : JMem) (r : Bool), g_R_alike N v0 v1 v2 μ.1 = some r → jR B SA d m_R_alike 0 (lv_args 0 [.ref v0, .int v1, .int v2]) [] μ (some (.int (jb r))) μ := by
  intro v0 v1 v2 μ r h
  exact r_R_alike_e hd (lv_args 0 _) _ _ _ _ _ (by simp [lv_args, jget, rv_cat, cat_int, cat_long, cat_double, cat_float, cat_ref]) (by simp [lv_args, jget, rv_cat, cat_int, cat_long, cat_double, cat_float, cat_ref]) (by simp [lv_args, jget, rv_cat, cat_int, cat_long, cat_double, cat_float, cat_ref]) h
/-! FilterBenchModel.same(I)Z -/
set_option maxRecDepth 10000 in
set_option maxHeartbeats 4000000 in
theorem r_R_same_12 {N B : Nat} {SA : Nat → Nat} {d : Nat} (hd : 4 ≤ d) : ∀ (n : Nat), ∀ (L : JLoc) (v0 : Nat) (v1 : Int32) (v2 : Int32) (μ : JMem) (r : Bool) (μ9 : JMem), jget L 0 = .ref v0 → jget L 1 = .int v1 → jget L 2 = .int v2 → g_R_same_12 N B n v0 v1 v2 μ = some (r, μ9) → jR B SA d m_R_same 12 L [] μ (some (.int (jb r))) μ9 := by
  intro n
  induction n with
  | zero =>
    intro L v0 v1 v2 μ r μ9 hl0 hl1 hl2 h
    unfold g_R_same_12 at h
    cases h
  | succ n ih =>
    intro L v0 v1 v2 μ r μ9 hl0 hl1 hl2 h
    unfold g_R_same_12 at h
    refine jr_iload_n jf_252_12 rfl hl2 ?_
    refine jr_aload_n jf_252_13 rfl hl0 ?_
    replace h := obd_of h; obtain ⟨x1, hx1, h⟩ := h
    refine jr_getI jf_252_14 hx1 ?_
    replace h := ite_or h; rcases h with ⟨hc, h⟩ | ⟨hc, h⟩
    · refine jr_if2_ge_t jf_252_17 hc ?_
      refine jr_iconst jf_252_42 jc_i_1 ?_
      obtain ⟨rfl, rfl⟩ := Prod.mk.inj (Option.some.inj h)
      exact jr_retZ (x := true) jf_252_43 jmt_252
    · refine jr_if2_ge_f jf_252_17 hc ?_
      refine jr_aload_n jf_252_20 rfl hl0 ?_
      refine jr_iload_n jf_252_21 rfl hl1 ?_
      refine jr_aload_n jf_252_22 rfl hl0 ?_
      replace h := obd_of h; obtain ⟨x2, hx2, h⟩ := h
      refine jr_getA jf_252_23 hx2 ?_
      refine jr_iload_n jf_252_26 rfl hl2 ?_
      replace h := obd_of h; obtain ⟨a3, rfl, h⟩ := h
      replace h := obd_of h; obtain ⟨x4, hx4, h⟩ := h
      refine jr_iaload jf_252_27 hx4 ?_
      replace h := jgd_of h; obtain ⟨hb5, h⟩ := h
      replace h := obd_of h; obtain ⟨x6, hx6, h⟩ := h
      refine jr_V6_2 jf_252_28 hb5 (by omega) (r_R_alike (by omega) _ _ _ _ _ hx6) (Nat.le_of_ble_eq_true rfl) jml_253 (Nat.le_of_ble_eq_true rfl) ?_
      replace h := ite_or h; rcases h with ⟨hc, h⟩ | ⟨hc, h⟩
      · refine jr_ifz_ne_t jf_252_31 hc ?_
        refine jr_iinc jf_252_36 jc_i_1 jml_252 (by decide) hl2 ?_
        refine jr_goto jf_252_39 ?_
        exact ih _ _ _ _ _ _ _ (jg1_ne rfl hl0) (jg1_pre rfl hl1) jg1_same h
      · refine jr_ifz_ne_f jf_252_31 hc ?_
        refine jr_iconst jf_252_34 jc_i_0 ?_
        obtain ⟨rfl, rfl⟩ := Prod.mk.inj (Option.some.inj h)
        exact jr_retZ (x := false) jf_252_35 jmt_252
set_option maxRecDepth 10000 in
set_option maxHeartbeats 4000000 in
theorem r_R_same_e {N B : Nat} {SA : Nat → Nat} {d : Nat} (hd : 4 ≤ d) : ∀ (L : JLoc) (v0 : Nat) (v1 : Int32) (μ : JMem) (r : Bool) (μ9 : JMem), jget L 0 = .ref v0 → jget L 1 = .int v1 → g_R_same N B v0 v1 μ = some (r, μ9) → jR B SA d m_R_same 0 L [] μ (some (.int (jb r))) μ9 := by
  intro L v0 v1 μ r μ9 hl0 hl1 h
  unfold g_R_same at h
  refine jr_aload_n jf_252_0 rfl hl0 ?_
  refine jr_iload_n jf_252_1 rfl hl1 ?_
  replace h := jgd_of h; obtain ⟨hb1, h⟩ := h
  replace h := jbd2_of h; obtain ⟨x2, μ3, hx2, h⟩ := h
  refine jr_V6_1 jf_252_2 hb1 (by omega) (r_R_isKept (by omega) _ _ _ _ _ hx2) (Nat.le_of_ble_eq_true rfl) jml_249 (Nat.le_of_ble_eq_true rfl) ?_
  replace h := ite_or h; rcases h with ⟨hc, h⟩ | ⟨hc, h⟩
  · refine jr_ifz_ne_t jf_252_5 hc ?_
    refine jr_iconst jf_252_10 jc_i_0 ?_
    refine jr_istore_n jf_252_11 rfl jml_252 (by decide) ?_
    exact r_R_same_12 hd _ _ _ _ _ _ _ _ (jg1_ne rfl hl0) (jg1_pre rfl hl1) jg1_same h
  · refine jr_ifz_ne_f jf_252_5 hc ?_
    refine jr_iconst jf_252_8 jc_i_0 ?_
    obtain ⟨rfl, rfl⟩ := Prod.mk.inj (Option.some.inj h)
    exact jr_retZ (x := false) jf_252_9 jmt_252
set_option maxRecDepth 10000 in
set_option maxHeartbeats 4000000 in
theorem r_R_same {N B : Nat} {SA : Nat → Nat} {d : Nat} (hd : 4 ≤ d) : ∀ (v0 : Nat) (v1 : Int32) (μ : JMem) (r : Bool) (μ9 : JMem), g_R_same N B v0 v1 μ = some (r, μ9) → jR B SA d m_R_same 0 (lv_args 0 [.ref v0, .int v1]) [] μ (some (.int (jb r))) μ9 := by
  intro v0 v1 μ r μ9 h
  exact r_R_same_e hd (lv_args 0 _) _ _ _ _ _ (by simp [lv_args, jget, rv_cat, cat_int, cat_long, cat_double, cat_float, cat_ref]) (by simp [lv_args, jget, rv_cat, cat_int, cat_long, cat_double, cat_float, cat_ref]) h
/-! FilterBenchModel.against(DD)I -/
set_option maxRecDepth 10000 in
set_option maxHeartbeats 4000000 in
theorem r_R_against_e {B : Nat} {SA : Nat → Nat} {d : Nat} (hd : 0 ≤ d) : ∀ (L : JLoc) (v0 : UInt64) (v2 : UInt64) (μ : JMem) (r : Int32), jget L 0 = .double v0 → jget L 2 = .double v2 → g_R_against v0 v2 = some r → jR B SA d m_R_against 0 L [] μ (some (.int r)) μ := by
  intro L v0 v2 μ r hl0 hl2 h
  unfold g_R_against at h
  refine jr_dconst1 jf_256_0 ?_
  refine jr_dload_n jf_256_1 rfl hl2 ?_
  replace h := obd_of h; obtain ⟨x1, hx1, h⟩ := h
  refine jr_dadd jf_256_2 hx1 ?_
  refine jr_dstore jf_256_3 jml_256 (by decide) ?_
  refine jr_dload_n jf_256_5 rfl (jg2_ne rfl hl0) ?_
  refine jr_dload jf_256_6 jg2_same ?_
  refine jr_dcmp jf_256_8 ?_
  replace h := ite_or h; rcases h with ⟨hc, h⟩ | ⟨hc, h⟩
  · refine jr_if_eq_t jf_256_9 hc ?_
    refine jr_dload jf_256_25 jg2_same ?_
    refine jr_dconst1 jf_256_27 ?_
    replace h := obd_of h; obtain ⟨x2, hx2, h⟩ := h
    refine jr_dsub jf_256_28 hx2 ?_
    refine jr_dstore jf_256_29 jml_256 (by decide) ?_
    refine jr_dconst1 jf_256_31 ?_
    refine jr_dload jf_256_32 (jg2_ne rfl jg2_same) ?_
    refine jr_dload jf_256_34 jg2_same ?_
    replace h := obd_of h; obtain ⟨x3, hx3, h⟩ := h
    refine jr_dsub jf_256_36 hx3 ?_
    replace h := obd_of h; obtain ⟨x4, hx4, h⟩ := h
    refine jr_dsub jf_256_37 hx4 ?_
    refine jr_dload_n jf_256_38 rfl (jg2_ne rfl (jg2_ne rfl hl2)) ?_
    refine jr_dload jf_256_39 jg2_same ?_
    replace h := obd_of h; obtain ⟨x5, hx5, h⟩ := h
    refine jr_dsub jf_256_41 hx5 ?_
    replace h := obd_of h; obtain ⟨x6, hx6, h⟩ := h
    refine jr_dadd jf_256_42 hx6 ?_
    refine jr_dstore jf_256_43 jml_256 (by decide) ?_
    refine jr_dload jf_256_45 jg2_same ?_
    refine jr_dconst0 jf_256_47 ?_
    refine jr_dcmp jf_256_48 ?_
    replace h := ite_or h; rcases h with ⟨hc, h⟩ | ⟨hc, h⟩
    · refine jr_if_le_t jf_256_49 hc ?_
      refine jr_dload jf_256_56 jg2_same ?_
      refine jr_dconst0 jf_256_58 ?_
      refine jr_dcmp jf_256_59 ?_
      replace h := ite_or h; rcases h with ⟨hc, h⟩ | ⟨hc, h⟩
      · refine jr_if_ge_t jf_256_60 hc ?_
        refine jr_iconst jf_256_67 jc_i_0 ?_
        obtain rfl := Option.some.inj h
        exact jr_retI jf_256_68 jmt_256
      · refine jr_if_ge_f jf_256_60 hc ?_
        refine jr_iconst jf_256_63 jc_i_1 ?_
        refine jr_goto jf_256_64 ?_
        obtain rfl := Option.some.inj h
        exact jr_retI jf_256_68 jmt_256
    · refine jr_if_le_f jf_256_49 hc ?_
      refine jr_iconst jf_256_52 jc_i_m1 ?_
      refine jr_goto jf_256_53 ?_
      obtain rfl := Option.some.inj h
      exact jr_retI jf_256_68 jmt_256
  · refine jr_if_eq_f jf_256_9 hc ?_
    refine jr_dload_n jf_256_12 rfl (jg2_ne rfl hl0) ?_
    refine jr_dload jf_256_13 jg2_same ?_
    refine jr_dcmp jf_256_15 ?_
    replace h := ite_or h; rcases h with ⟨hc, h⟩ | ⟨hc, h⟩
    · refine jr_if_ge_t jf_256_16 hc ?_
      refine jr_iconst jf_256_23 jc_i_1 ?_
      obtain rfl := Option.some.inj h
      exact jr_retI jf_256_24 jmt_256
    · refine jr_if_ge_f jf_256_16 hc ?_
      refine jr_iconst jf_256_19 jc_i_m1 ?_
      refine jr_goto jf_256_20 ?_
      obtain rfl := Option.some.inj h
      exact jr_retI jf_256_24 jmt_256
set_option maxRecDepth 10000 in
set_option maxHeartbeats 4000000 in
theorem r_R_against {B : Nat} {SA : Nat → Nat} {d : Nat} (hd : 0 ≤ d) : ∀ (v0 : UInt64) (v2 : UInt64) (μ : JMem) (r : Int32), g_R_against v0 v2 = some r → jR B SA d m_R_against 0 (lv_args 0 [.double v0, .double v2]) [] μ (some (.int r)) μ := by
  intro v0 v2 μ r h
  exact r_R_against_e hd (lv_args 0 _) _ _ _ _ (by simp [lv_args, jget, rv_cat, cat_int, cat_long, cat_double, cat_float, cat_ref]) (by simp [lv_args, jget, rv_cat, cat_int, cat_long, cat_double, cat_float, cat_ref]) h
/-! FilterBenchModel.isFinite(D)Z -/
set_option maxRecDepth 10000 in
set_option maxHeartbeats 4000000 in
theorem r_R_isFinite_e {B : Nat} {SA : Nat → Nat} {d : Nat} (hd : 0 ≤ d) : ∀ (L : JLoc) (v0 : UInt64) (μ : JMem) (r : Bool), jget L 0 = .double v0 → g_R_isFinite v0 = r → jR B SA d m_R_isFinite 0 L [] μ (some (.int (jb r))) μ := by
  intro L v0 μ r hl0 h
  unfold g_R_isFinite at h
  refine jr_dload_n jf_255_0 rfl hl0 ?_
  refine jr_ldc2d jf_255_1 ?_
  refine jr_dcmp jf_255_4 ?_
  replace h := ite_or h; rcases h with ⟨hc, h⟩ | ⟨hc, h⟩
  · refine jr_if_le_t jf_255_5 hc ?_
    refine jr_iconst jf_255_20 jc_i_0 ?_
    subst h
    exact jr_retZ (x := false) jf_255_21 jmt_255
  · refine jr_if_le_f jf_255_5 hc ?_
    refine jr_dload_n jf_255_8 rfl hl0 ?_
    refine jr_ldc2d jf_255_9 ?_
    refine jr_dcmp jf_255_12 ?_
    replace h := ite_or h; rcases h with ⟨hc, h⟩ | ⟨hc, h⟩
    · refine jr_if_ge_t jf_255_13 hc ?_
      refine jr_iconst jf_255_20 jc_i_0 ?_
      subst h
      exact jr_retZ (x := false) jf_255_21 jmt_255
    · refine jr_if_ge_f jf_255_13 hc ?_
      refine jr_iconst jf_255_16 jc_i_1 ?_
      refine jr_goto jf_255_17 ?_
      subst h
      exact jr_retZ (x := true) jf_255_21 jmt_255
set_option maxRecDepth 10000 in
set_option maxHeartbeats 4000000 in
theorem r_R_isFinite {B : Nat} {SA : Nat → Nat} {d : Nat} (hd : 0 ≤ d) : ∀ (v0 : UInt64) (μ : JMem) (r : Bool), g_R_isFinite v0 = r → jR B SA d m_R_isFinite 0 (lv_args 0 [.double v0]) [] μ (some (.int (jb r))) μ := by
  intro v0 μ r h
  exact r_R_isFinite_e hd (lv_args 0 _) _ _ _ (by simp [lv_args, jget, rv_cat, cat_int, cat_long, cat_double, cat_float, cat_ref]) h
/-! FilterBenchModel.poles(I)I -/
set_option maxRecDepth 10000 in
set_option maxHeartbeats 4000000 in
theorem r_R_poles_112 {B : Nat} {SA : Nat → Nat} {d : Nat} (hd : 2 ≤ d) : ∀ (L : JLoc) (v0 : Nat) (v2 : UInt64) (v4 : UInt64) (s0 : UInt64) (μ : JMem) (r : Int32), jget L 0 = .ref v0 → jget L 2 = .double v2 → jget L 4 = .double v4 → g_R_poles_112 v0 v2 v4 s0 μ.1 = some r → jR B SA d m_R_poles 112 L [.double s0] μ (some (.int r)) μ := by
  intro L v0 v2 v4 s0 μ r hl0 hl2 hl4 h
  unfold g_R_poles_112 at h
  refine jr_dstore jf_254_112 jml_254 (by decide) ?_
  refine jr_dload jf_254_114 (jg2_ne rfl hl4) ?_
  refine jr_S3_1 jf_254_116 (by omega) (r_R_isFinite (by omega) _ _ _ rfl) (Nat.le_of_ble_eq_true rfl) jml_255 (Nat.le_of_ble_eq_true rfl) ?_
  replace h := ite_or h; rcases h with ⟨hc, h⟩ | ⟨hc, h⟩
  · refine jr_ifz_eq_f jf_254_119 hc ?_
    refine jr_dload jf_254_122 jg2_same ?_
    refine jr_S3_1 jf_254_124 (by omega) (r_R_isFinite (by omega) _ _ _ rfl) (Nat.le_of_ble_eq_true rfl) jml_255 (Nat.le_of_ble_eq_true rfl) ?_
    replace h := ite_or h; rcases h with ⟨hc, h⟩ | ⟨hc, h⟩
    · refine jr_ifz_ne_t jf_254_127 hc ?_
      refine jr_aload_n jf_254_132 rfl (jg2_ne rfl hl0) ?_
      refine jr_iconst jf_254_133 jc_i_0 ?_
      refine jr_dload jf_254_134 (jg2_ne rfl hl4) ?_
      replace h := jgd_of h; obtain ⟨hb1, h⟩ := h
      replace h := obd_of h; obtain ⟨x2, hx2, h⟩ := h
      refine jr_V6_2 jf_254_136 hb1 (by omega) (r_R_sizeOf (by omega) _ _ _ _ _ hx2) (Nat.le_of_ble_eq_true rfl) jml_231 (Nat.le_of_ble_eq_true rfl) ?_
      refine jr_dload_n jf_254_139 rfl (jg2_ne rfl hl2) ?_
      replace h := obd_of h; obtain ⟨x3, hx3, h⟩ := h
      refine jr_ddiv jf_254_140 hx3 ?_
      refine jr_dstore jf_254_141 jml_254 (by decide) ?_
      refine jr_dload jf_254_143 (jg2_ne rfl jg2_same) ?_
      refine jr_dload_n jf_254_145 rfl (jg2_ne rfl (jg2_ne rfl hl2)) ?_
      replace h := obd_of h; obtain ⟨x4, hx4, h⟩ := h
      refine jr_ddiv jf_254_146 hx4 ?_
      refine jr_dstore jf_254_147 jml_254 (by decide) ?_
      refine jr_dload jf_254_149 jg2_same ?_
      refine jr_dconst1 jf_254_151 ?_
      refine jr_dcmp jf_254_152 ?_
      replace h := ite_or h; rcases h with ⟨hc, h⟩ | ⟨hc, h⟩
      · refine jr_if_gt_t jf_254_153 hc ?_
        refine jr_iconst jf_254_165 jc_i_0 ?_
        obtain rfl := Option.some.inj h
        exact jr_retI jf_254_166 jmt_254
      · refine jr_if_gt_f jf_254_153 hc ?_
        refine jr_dload jf_254_156 jg2_same ?_
        refine jr_ldc2d jf_254_158 ?_
        refine jr_dcmp jf_254_161 ?_
        replace h := ite_or h; rcases h with ⟨hc, h⟩ | ⟨hc, h⟩
        · refine jr_if_ge_t jf_254_162 hc ?_
          refine jr_dload jf_254_167 (jg2_ne rfl jg2_same) ?_
          refine jr_dload jf_254_169 jg2_same ?_
          replace h := obd_of h; obtain ⟨x5, hx5, h⟩ := h
          refine jr_S3_2 jf_254_171 (by omega) (r_R_against (by omega) _ _ _ _ hx5) (Nat.le_of_ble_eq_true rfl) jml_256 (Nat.le_of_ble_eq_true rfl) ?_
          refine jr_istore jf_254_174 jml_254 (by decide) ?_
          refine jr_iload jf_254_176 jg1_same ?_
          replace h := ite_or h; rcases h with ⟨hc, h⟩ | ⟨hc, h⟩
          · refine jr_if_le_t jf_254_178 hc ?_
            refine jr_iload jf_254_183 jg1_same ?_
            replace h := ite_or h; rcases h with ⟨hc, h⟩ | ⟨hc, h⟩
            · refine jr_if_ge_t jf_254_185 hc ?_
              refine jr_iconst jf_254_208 jc_i_2 ?_
              obtain rfl := Option.some.inj h
              exact jr_retI jf_254_209 jmt_254
            · refine jr_if_ge_f jf_254_185 hc ?_
              refine jr_dload jf_254_188 (jg1_ne rfl jg2_same) ?_
              refine jr_dconst1 jf_254_190 ?_
              refine jr_dcmp jf_254_191 ?_
              replace h := ite_or h; rcases h with ⟨hc, h⟩ | ⟨hc, h⟩
              · refine jr_if_ge_t jf_254_192 hc ?_
                refine jr_iconst jf_254_208 jc_i_2 ?_
                obtain rfl := Option.some.inj h
                exact jr_retI jf_254_209 jmt_254
              · refine jr_if_ge_f jf_254_192 hc ?_
                refine jr_dload jf_254_195 (jg1_ne rfl jg2_same) ?_
                refine jr_ldc2d jf_254_197 ?_
                refine jr_dcmp jf_254_200 ?_
                replace h := ite_or h; rcases h with ⟨hc, h⟩ | ⟨hc, h⟩
                · refine jr_if_le_t jf_254_201 hc ?_
                  refine jr_iconst jf_254_208 jc_i_2 ?_
                  obtain rfl := Option.some.inj h
                  exact jr_retI jf_254_209 jmt_254
                · refine jr_if_le_f jf_254_201 hc ?_
                  refine jr_iconst jf_254_204 jc_i_1 ?_
                  refine jr_goto jf_254_205 ?_
                  obtain rfl := Option.some.inj h
                  exact jr_retI jf_254_209 jmt_254
          · refine jr_if_le_f jf_254_178 hc ?_
            refine jr_iconst jf_254_181 jc_i_0 ?_
            obtain rfl := Option.some.inj h
            exact jr_retI jf_254_182 jmt_254
        · refine jr_if_ge_f jf_254_162 hc ?_
          refine jr_iconst jf_254_165 jc_i_0 ?_
          obtain rfl := Option.some.inj h
          exact jr_retI jf_254_166 jmt_254
    · refine jr_ifz_ne_f jf_254_127 hc ?_
      refine jr_iconst jf_254_130 jc_i_0 ?_
      obtain rfl := Option.some.inj h
      exact jr_retI jf_254_131 jmt_254
  · refine jr_ifz_eq_t jf_254_119 hc ?_
    refine jr_iconst jf_254_130 jc_i_0 ?_
    obtain rfl := Option.some.inj h
    exact jr_retI jf_254_131 jmt_254
set_option maxRecDepth 10000 in
set_option maxHeartbeats 4000000 in
theorem r_R_poles_86 {B : Nat} {SA : Nat → Nat} {d : Nat} (hd : 2 ≤ d) : ∀ (L : JLoc) (v0 : Nat) (v1 : Int32) (v2 : UInt64) (s0 : UInt64) (μ : JMem) (r : Int32), jget L 0 = .ref v0 → jget L 1 = .int v1 → jget L 2 = .double v2 → g_R_poles_86 v0 v1 v2 s0 μ.1 = some r → jR B SA d m_R_poles 86 L [.double s0] μ (some (.int r)) μ := by
  intro L v0 v1 v2 s0 μ r hl0 hl1 hl2 h
  unfold g_R_poles_86 at h
  refine jr_dstore jf_254_86 jml_254 (by decide) ?_
  refine jr_aload_n jf_254_88 rfl (jg2_ne rfl hl0) ?_
  replace h := obd_of h; obtain ⟨x1, hx1, h⟩ := h
  refine jr_getA jf_254_89 hx1 ?_
  refine jr_iload_n jf_254_92 rfl (jg2_ne rfl hl1) ?_
  replace h := obd_of h; obtain ⟨a2, rfl, h⟩ := h
  replace h := obd_of h; obtain ⟨x3, hx3, h⟩ := h
  refine jr_iaload jf_254_93 hx3 ?_
  refine jr_iconst jf_254_94 jc_i_2 ?_
  refine jr_iconst jf_254_95 jc_i_4 ?_
  refine jr_S3_3 jf_254_96 (by omega) (r_R_in (by omega) _ _ _ _ _ rfl) (Nat.le_of_ble_eq_true rfl) jml_187 (Nat.le_of_ble_eq_true rfl) ?_
  replace h := ite_or h; rcases h with ⟨hc, h⟩ | ⟨hc, h⟩
  · refine jr_ifz_eq_f jf_254_99 hc ?_
    refine jr_aload_n jf_254_102 rfl (jg2_ne rfl hl0) ?_
    refine jr_iload_n jf_254_103 rfl (jg2_ne rfl hl1) ?_
    refine jr_iconst jf_254_104 jc_i_4 ?_
    replace h := jgd_of h; obtain ⟨hb4, h⟩ := h
    replace h := obd_of h; obtain ⟨x5, hx5, h⟩ := h
    refine jr_V6_2 jf_254_105 hb4 (by omega) (r_R_c (by omega) _ _ _ _ _ hx5) (Nat.le_of_ble_eq_true rfl) jml_216 (Nat.le_of_ble_eq_true rfl) ?_
    refine jr_goto jf_254_108 ?_
    exact r_R_poles_112 hd _ _ _ _ _ _ _ (jg2_ne rfl hl0) (jg2_ne rfl hl2) jg2_same h
  · refine jr_ifz_eq_t jf_254_99 hc ?_
    refine jr_dconst0 jf_254_111 ?_
    exact r_R_poles_112 hd _ _ _ _ _ _ _ (jg2_ne rfl hl0) (jg2_ne rfl hl2) jg2_same h
set_option maxRecDepth 10000 in
set_option maxHeartbeats 4000000 in
theorem r_R_poles_41 {B : Nat} {SA : Nat → Nat} {d : Nat} (hd : 2 ≤ d) : ∀ (L : JLoc) (v0 : Nat) (v1 : Int32) (s0 : UInt64) (μ : JMem) (r : Int32), jget L 0 = .ref v0 → jget L 1 = .int v1 → g_R_poles_41 v0 v1 s0 μ.1 = some r → jR B SA d m_R_poles 41 L [.double s0] μ (some (.int r)) μ := by
  intro L v0 v1 s0 μ r hl0 hl1 h
  unfold g_R_poles_41 at h
  refine jr_dstore_n jf_254_41 rfl jml_254 (by decide) ?_
  refine jr_aload_n jf_254_42 rfl (jg2_ne rfl hl0) ?_
  replace h := obd_of h; obtain ⟨x1, hx1, h⟩ := h
  refine jr_getA jf_254_43 hx1 ?_
  refine jr_iload_n jf_254_46 rfl (jg2_pre rfl hl1) ?_
  replace h := obd_of h; obtain ⟨a2, rfl, h⟩ := h
  replace h := obd_of h; obtain ⟨x3, hx3, h⟩ := h
  refine jr_iaload jf_254_47 hx3 ?_
  refine jr_iconst jf_254_48 jc_i_1 ?_
  replace h := ite_or h; rcases h with ⟨hc, h⟩ | ⟨hc, h⟩
  · refine jr_if2_ne_f jf_254_49 hc ?_
    refine jr_aload_n jf_254_52 rfl (jg2_ne rfl hl0) ?_
    refine jr_iload_n jf_254_53 rfl (jg2_pre rfl hl1) ?_
    refine jr_iconst jf_254_54 jc_i_1 ?_
    replace h := jgd_of h; obtain ⟨hb4, h⟩ := h
    replace h := obd_of h; obtain ⟨x5, hx5, h⟩ := h
    refine jr_V6_2 jf_254_55 hb4 (by omega) (r_R_c (by omega) _ _ _ _ _ hx5) (Nat.le_of_ble_eq_true rfl) jml_216 (Nat.le_of_ble_eq_true rfl) ?_
    refine jr_goto jf_254_58 ?_
    exact r_R_poles_86 hd _ _ _ _ _ _ _ (jg2_ne rfl hl0) (jg2_pre rfl hl1) jg2_same h
  · refine jr_if2_ne_t jf_254_49 hc ?_
    refine jr_aload_n jf_254_61 rfl (jg2_ne rfl hl0) ?_
    replace h := obd_of h; obtain ⟨x6, hx6, h⟩ := h
    refine jr_getA jf_254_62 hx6 ?_
    refine jr_iload_n jf_254_65 rfl (jg2_pre rfl hl1) ?_
    replace h := obd_of h; obtain ⟨a7, rfl, h⟩ := h
    replace h := obd_of h; obtain ⟨x8, hx8, h⟩ := h
    refine jr_iaload jf_254_66 hx8 ?_
    refine jr_iconst jf_254_67 jc_i_5 ?_
    replace h := ite_or h; rcases h with ⟨hc, h⟩ | ⟨hc, h⟩
    · refine jr_if2_ne_f jf_254_68 hc ?_
      refine jr_aload_n jf_254_71 rfl (jg2_ne rfl hl0) ?_
      refine jr_iload_n jf_254_72 rfl (jg2_pre rfl hl1) ?_
      refine jr_iconst jf_254_73 jc_i_0 ?_
      replace h := jgd_of h; obtain ⟨hb9, h⟩ := h
      replace h := obd_of h; obtain ⟨x10, hx10, h⟩ := h
      refine jr_V6_2 jf_254_74 hb9 (by omega) (r_R_c (by omega) _ _ _ _ _ hx10) (Nat.le_of_ble_eq_true rfl) jml_216 (Nat.le_of_ble_eq_true rfl) ?_
      refine jr_goto jf_254_77 ?_
      exact r_R_poles_86 hd _ _ _ _ _ _ _ (jg2_ne rfl hl0) (jg2_pre rfl hl1) jg2_same h
    · refine jr_if2_ne_t jf_254_68 hc ?_
      refine jr_aload_n jf_254_80 rfl (jg2_ne rfl hl0) ?_
      refine jr_iload_n jf_254_81 rfl (jg2_pre rfl hl1) ?_
      refine jr_iconst jf_254_82 jc_i_3 ?_
      replace h := jgd_of h; obtain ⟨hb11, h⟩ := h
      replace h := obd_of h; obtain ⟨x12, hx12, h⟩ := h
      refine jr_V6_2 jf_254_83 hb11 (by omega) (r_R_c (by omega) _ _ _ _ _ hx12) (Nat.le_of_ble_eq_true rfl) jml_216 (Nat.le_of_ble_eq_true rfl) ?_
      exact r_R_poles_86 hd _ _ _ _ _ _ _ (jg2_ne rfl hl0) (jg2_pre rfl hl1) jg2_same h
set_option maxRecDepth 10000 in
set_option maxHeartbeats 4000000 in
theorem r_R_poles_e {B : Nat} {SA : Nat → Nat} {d : Nat} (hd : 2 ≤ d) : ∀ (L : JLoc) (v0 : Nat) (v1 : Int32) (μ : JMem) (r : Int32), jget L 0 = .ref v0 → jget L 1 = .int v1 → g_R_poles v0 v1 μ.1 = some r → jR B SA d m_R_poles 0 L [] μ (some (.int r)) μ := by
  intro L v0 v1 μ r hl0 hl1 h
  unfold g_R_poles at h
  refine jr_aload_n jf_254_0 rfl hl0 ?_
  refine jr_iload_n jf_254_1 rfl hl1 ?_
  replace h := jgd_of h; obtain ⟨hb1, h⟩ := h
  replace h := obd_of h; obtain ⟨x2, hx2, h⟩ := h
  refine jr_V6_1 jf_254_2 hb1 (by omega) (r_R_isSection (by omega) _ _ _ _ hx2) (Nat.le_of_ble_eq_true rfl) jml_193 (Nat.le_of_ble_eq_true rfl) ?_
  replace h := ite_or h; rcases h with ⟨hc, h⟩ | ⟨hc, h⟩
  · refine jr_ifz_eq_f jf_254_5 hc ?_
    refine jr_aload_n jf_254_8 rfl hl0 ?_
    replace h := obd_of h; obtain ⟨x3, hx3, h⟩ := h
    refine jr_getA jf_254_9 hx3 ?_
    refine jr_iload_n jf_254_12 rfl hl1 ?_
    replace h := obd_of h; obtain ⟨a4, rfl, h⟩ := h
    replace h := obd_of h; obtain ⟨x5, hx5, h⟩ := h
    refine jr_iaload jf_254_13 hx5 ?_
    refine jr_iconst jf_254_14 jc_i_1 ?_
    refine jr_iconst jf_254_15 jc_i_5 ?_
    refine jr_S3_3 jf_254_16 (by omega) (r_R_in (by omega) _ _ _ _ _ rfl) (Nat.le_of_ble_eq_true rfl) jml_187 (Nat.le_of_ble_eq_true rfl) ?_
    replace h := ite_or h; rcases h with ⟨hc, h⟩ | ⟨hc, h⟩
    · refine jr_ifz_ne_t jf_254_19 hc ?_
      refine jr_aload_n jf_254_24 rfl hl0 ?_
      replace h := obd_of h; obtain ⟨x6, hx6, h⟩ := h
      refine jr_getA jf_254_25 hx6 ?_
      refine jr_iload_n jf_254_28 rfl hl1 ?_
      replace h := obd_of h; obtain ⟨a7, rfl, h⟩ := h
      replace h := obd_of h; obtain ⟨x8, hx8, h⟩ := h
      refine jr_iaload jf_254_29 hx8 ?_
      refine jr_iconst jf_254_30 jc_i_2 ?_
      replace h := ite_or h; rcases h with ⟨hc, h⟩ | ⟨hc, h⟩
      · refine jr_if2_ne_f jf_254_31 hc ?_
        refine jr_ldc2d jf_254_34 ?_
        refine jr_goto jf_254_37 ?_
        exact r_R_poles_41 hd _ _ _ _ _ _ hl0 hl1 h
      · refine jr_if2_ne_t jf_254_31 hc ?_
        refine jr_dconst1 jf_254_40 ?_
        exact r_R_poles_41 hd _ _ _ _ _ _ hl0 hl1 h
    · refine jr_ifz_ne_f jf_254_19 hc ?_
      refine jr_iconst jf_254_22 jc_i_m1 ?_
      obtain rfl := Option.some.inj h
      exact jr_retI jf_254_23 jmt_254
  · refine jr_ifz_eq_t jf_254_5 hc ?_
    refine jr_iconst jf_254_22 jc_i_m1 ?_
    obtain rfl := Option.some.inj h
    exact jr_retI jf_254_23 jmt_254
set_option maxRecDepth 10000 in
set_option maxHeartbeats 4000000 in
theorem r_R_poles {B : Nat} {SA : Nat → Nat} {d : Nat} (hd : 2 ≤ d) : ∀ (v0 : Nat) (v1 : Int32) (μ : JMem) (r : Int32), g_R_poles v0 v1 μ.1 = some r → jR B SA d m_R_poles 0 (lv_args 0 [.ref v0, .int v1]) [] μ (some (.int r)) μ := by
  intro v0 v1 μ r h
  exact r_R_poles_e hd (lv_args 0 _) _ _ _ _ (by simp [lv_args, jget, rv_cat, cat_int, cat_long, cat_double, cat_float, cat_ref]) (by simp [lv_args, jget, rv_cat, cat_int, cat_long, cat_double, cat_float, cat_ref]) h
/-! FilterBenchModel.finds(I)V -/
set_option maxRecDepth 10000 in
set_option maxHeartbeats 4000000 in
theorem r_R_finds_98 {N B : Nat} {SA : Nat → Nat} {d : Nat} (hd : 1 ≤ d) {k7 : Nat → Int32 → Int32 → JMem → Option JMem} (i7 : ∀ (L : JLoc) (v0 : Nat) (v1 : Int32) (v2 : Int32) (μ : JMem) (μ9 : JMem), jget L 0 = .ref v0 → jget L 1 = .int v1 → jget L 2 = .int v2 → k7 v0 v1 v2 μ = some μ9 → jR B SA d m_R_finds 7 L [] μ none μ9) : ∀ (L : JLoc) (v0 : Nat) (v1 : Int32) (v2 : Int32) (s0 : Int32) (s1 : Int32) (s2 : Option Nat) (μ : JMem) (μ9 : JMem), jget L 0 = .ref v0 → jget L 1 = .int v1 → jget L 2 = .int v2 → g_R_finds_98 N B k7 v0 v1 v2 s0 s1 s2 μ = some μ9 → jR B SA d m_R_finds 98 L [.int s0, .int s1, rv s2] μ none μ9 := by
  intro L v0 v1 v2 s0 s1 s2 μ μ9 hl0 hl1 hl2 h
  unfold g_R_finds_98 at h
  replace h := obd_of h; obtain ⟨a1, rfl, h⟩ := h
  replace h := obd_of h; obtain ⟨μ2, hμ2, h⟩ := h
  refine jr_iastore jf_259_98 hμ2 ?_
  refine jr_aload_n jf_259_99 rfl hl0 ?_
  replace h := obd_of h; obtain ⟨x3, hx3, h⟩ := h
  refine jr_getA jf_259_100 hx3 ?_
  refine jr_iload_n jf_259_103 rfl hl2 ?_
  refine jr_iconst jf_259_104 jc_i_0 ?_
  replace h := obd_of h; obtain ⟨a4, rfl, h⟩ := h
  replace h := obd_of h; obtain ⟨μ5, hμ5, h⟩ := h
  refine jr_iastore jf_259_105 hμ5 ?_
  refine jr_iinc jf_259_106 jc_i_1 jml_259 (by decide) hl2 ?_
  refine jr_goto jf_259_109 ?_
  exact i7 _ _ _ _ _ _ (jg1_ne rfl hl0) (jg1_pre rfl hl1) jg1_same h
set_option maxRecDepth 10000 in
set_option maxHeartbeats 4000000 in
theorem r_R_finds_56 {N B : Nat} {SA : Nat → Nat} {d : Nat} (hd : 1 ≤ d) {k7 : Nat → Int32 → Int32 → JMem → Option JMem} (i7 : ∀ (L : JLoc) (v0 : Nat) (v1 : Int32) (v2 : Int32) (μ : JMem) (μ9 : JMem), jget L 0 = .ref v0 → jget L 1 = .int v1 → jget L 2 = .int v2 → k7 v0 v1 v2 μ = some μ9 → jR B SA d m_R_finds 7 L [] μ none μ9) : ∀ (L : JLoc) (v0 : Nat) (v1 : Int32) (v2 : Int32) (s0 : Int64) (μ : JMem) (μ9 : JMem), jget L 0 = .ref v0 → jget L 1 = .int v1 → jget L 2 = .int v2 → g_R_finds_56 N B k7 v0 v1 v2 s0 μ = some μ9 → jR B SA d m_R_finds 56 L [.long s0] μ none μ9 := by
  intro L v0 v1 v2 s0 μ μ9 hl0 hl1 hl2 h
  unfold g_R_finds_56 at h
  refine jr_lstore jf_259_56 jml_259 (by decide) ?_
  refine jr_aload_n jf_259_58 rfl (jg2_ne rfl hl0) ?_
  replace h := obd_of h; obtain ⟨x1, hx1, h⟩ := h
  refine jr_getA jf_259_59 hx1 ?_
  refine jr_iload_n jf_259_62 rfl (jg2_ne rfl hl2) ?_
  refine jr_iconst jf_259_63 jc_i_2 ?_
  refine jr_lload jf_259_64 jg2_same ?_
  refine jr_S3_2 jf_259_66 (by omega) (r_R_isValue (by omega) _ _ _ _ rfl) (by simp only [jcats_cons, jcats_nil, cat_int, cat_long, cat_double, cat_float, cat_ref, rv_cat]; decide) jml_195 (Nat.le_of_ble_eq_true rfl) ?_
  replace h := ite_or h; rcases h with ⟨hc, h⟩ | ⟨hc, h⟩
  · refine jr_ifz_eq_f jf_259_69 hc ?_
    refine jr_lload jf_259_72 jg2_same ?_
    refine jr_l2i jf_259_74 ?_
    refine jr_ldc_w jf_259_75 ?_
    refine jr_iadd jf_259_78 ?_
    refine jr_goto jf_259_79 ?_
    exact r_R_finds_98 hd i7 _ _ _ _ _ _ _ _ _ (jg2_ne rfl hl0) (jg2_ne rfl hl1) (jg2_ne rfl hl2) h
  · refine jr_ifz_eq_t jf_259_69 hc ?_
    refine jr_lload jf_259_82 jg2_same ?_
    refine jr_aload_n jf_259_84 rfl (jg2_ne rfl hl0) ?_
    replace h := obd_of h; obtain ⟨x2, hx2, h⟩ := h
    refine jr_getA jf_259_85 hx2 ?_
    refine jr_iload_n jf_259_88 rfl (jg2_ne rfl hl1) ?_
    replace h := obd_of h; obtain ⟨a3, rfl, h⟩ := h
    replace h := obd_of h; obtain ⟨x4, hx4, h⟩ := h
    refine jr_iaload jf_259_89 hx4 ?_
    refine jr_S3_2 jf_259_90 (by omega) (r_R_cut (by omega) _ _ _ _ rfl) (by simp only [jcats_cons, jcats_nil, cat_int, cat_long, cat_double, cat_float, cat_ref, rv_cat]; decide) jml_222 (Nat.le_of_ble_eq_true rfl) ?_
    refine jr_d2i jf_259_93 ?_
    refine jr_ldc_w jf_259_94 ?_
    refine jr_iadd jf_259_97 ?_
    exact r_R_finds_98 hd i7 _ _ _ _ _ _ _ _ _ (jg2_ne rfl hl0) (jg2_ne rfl hl1) (jg2_ne rfl hl2) h
set_option maxRecDepth 10000 in
set_option maxHeartbeats 4000000 in
theorem r_R_finds_238 {N B : Nat} {SA : Nat → Nat} {d : Nat} (hd : 1 ≤ d) {k114 : Nat → Int32 → JMem → Option JMem} (i114 : ∀ (L : JLoc) (v0 : Nat) (v2 : Int32) (μ : JMem) (μ9 : JMem), jget L 0 = .ref v0 → jget L 2 = .int v2 → k114 v0 v2 μ = some μ9 → jR B SA d m_R_finds 114 L [] μ none μ9) {k194 : Nat → Int32 → Int32 → Int32 → Int32 → Int32 → Int32 → Bool → JMem → Option JMem} (i194 : ∀ (L : JLoc) (v0 : Nat) (v2 : Int32) (v3 : Int32) (v4 : Int32) (v5 : Int32) (v6 : Int32) (v7 : Int32) (v8 : Bool) (μ : JMem) (μ9 : JMem), jget L 0 = .ref v0 → jget L 2 = .int v2 → jget L 3 = .int v3 → jget L 4 = .int v4 → jget L 5 = .int v5 → jget L 6 = .int v6 → jget L 7 = .int v7 → jget L 8 = .int (jb v8) → k194 v0 v2 v3 v4 v5 v6 v7 v8 μ = some μ9 → jR B SA d m_R_finds 194 L [] μ none μ9) : ∀ (L : JLoc) (v0 : Nat) (v2 : Int32) (v3 : Int32) (v4 : Int32) (v5 : Int32) (v6 : Int32) (v7 : Int32) (s0 : Bool) (μ : JMem) (μ9 : JMem), jget L 0 = .ref v0 → jget L 2 = .int v2 → jget L 3 = .int v3 → jget L 4 = .int v4 → jget L 5 = .int v5 → jget L 6 = .int v6 → jget L 7 = .int v7 → g_R_finds_238 N B k114 k194 v0 v2 v3 v4 v5 v6 v7 s0 μ = some μ9 → jR B SA d m_R_finds 238 L [.int (jb s0)] μ none μ9 := by
  intro L v0 v2 v3 v4 v5 v6 v7 s0 μ μ9 hl0 hl2 hl3 hl4 hl5 hl6 hl7 h
  unfold g_R_finds_238 at h
  refine jr_istore jf_259_238 jml_259 (by decide) ?_
  refine jr_goto jf_259_240 ?_
  exact i194 _ _ _ _ _ _ _ _ _ _ _ (jg1_ne rfl hl0) (jg1_ne rfl hl2) (jg1_ne rfl hl3) (jg1_ne rfl hl4) (jg1_ne rfl hl5) (jg1_ne rfl hl6) (jg1_pre rfl hl7) jg1_same h
set_option maxRecDepth 10000 in
set_option maxHeartbeats 4000000 in
theorem r_R_finds_213 {N B : Nat} {SA : Nat → Nat} {d : Nat} (hd : 1 ≤ d) {k114 : Nat → Int32 → JMem → Option JMem} (i114 : ∀ (L : JLoc) (v0 : Nat) (v2 : Int32) (μ : JMem) (μ9 : JMem), jget L 0 = .ref v0 → jget L 2 = .int v2 → k114 v0 v2 μ = some μ9 → jR B SA d m_R_finds 114 L [] μ none μ9) {k194 : Nat → Int32 → Int32 → Int32 → Int32 → Int32 → Int32 → Bool → JMem → Option JMem} (i194 : ∀ (L : JLoc) (v0 : Nat) (v2 : Int32) (v3 : Int32) (v4 : Int32) (v5 : Int32) (v6 : Int32) (v7 : Int32) (v8 : Bool) (μ : JMem) (μ9 : JMem), jget L 0 = .ref v0 → jget L 2 = .int v2 → jget L 3 = .int v3 → jget L 4 = .int v4 → jget L 5 = .int v5 → jget L 6 = .int v6 → jget L 7 = .int v7 → jget L 8 = .int (jb v8) → k194 v0 v2 v3 v4 v5 v6 v7 v8 μ = some μ9 → jR B SA d m_R_finds 194 L [] μ none μ9) : ∀ (L : JLoc) (v0 : Nat) (v2 : Int32) (v3 : Int32) (v4 : Int32) (v5 : Int32) (v7 : Int32) (s0 : Int32) (μ : JMem) (μ9 : JMem), jget L 0 = .ref v0 → jget L 2 = .int v2 → jget L 3 = .int v3 → jget L 4 = .int v4 → jget L 5 = .int v5 → jget L 7 = .int v7 → g_R_finds_213 N B k114 k194 v0 v2 v3 v4 v5 v7 s0 μ = some μ9 → jR B SA d m_R_finds 213 L [.int s0] μ none μ9 := by
  intro L v0 v2 v3 v4 v5 v7 s0 μ μ9 hl0 hl2 hl3 hl4 hl5 hl7 h
  unfold g_R_finds_213 at h
  refine jr_istore jf_259_213 jml_259 (by decide) ?_
  refine jr_iinc jf_259_215 jc_i_1 jml_259 (by decide) (jg1_pre rfl hl5) ?_
  refine jr_aload_n jf_259_218 rfl (jg1_ne rfl (jg1_ne rfl hl0)) ?_
  replace h := obd_of h; obtain ⟨x1, hx1, h⟩ := h
  refine jr_getA jf_259_219 hx1 ?_
  refine jr_iload jf_259_222 (jg1_ne rfl (jg1_ne rfl hl7)) ?_
  replace h := obd_of h; obtain ⟨a2, rfl, h⟩ := h
  replace h := obd_of h; obtain ⟨x3, hx3, h⟩ := h
  refine jr_iaload jf_259_224 hx3 ?_
  refine jr_istore jf_259_225 jml_259 (by decide) ?_
  refine jr_iload jf_259_227 jg1_same ?_
  refine jr_iload_n jf_259_229 rfl (jg1_ne rfl (jg1_ne rfl (jg1_ne rfl hl3))) ?_
  replace h := ite_or h; rcases h with ⟨hc, h⟩ | ⟨hc, h⟩
  · refine jr_if2_eq_t jf_259_230 hc ?_
    refine jr_iconst jf_259_237 jc_i_0 ?_
    exact r_R_finds_238 hd i114 i194 _ _ _ _ _ _ _ _ false _ _ (jg1_ne rfl (jg1_ne rfl (jg1_ne rfl hl0))) (jg1_ne rfl (jg1_ne rfl (jg1_ne rfl hl2))) (jg1_ne rfl (jg1_ne rfl (jg1_ne rfl hl3))) (jg1_ne rfl (jg1_pre rfl (jg1_ne rfl hl4))) (jg1_ne rfl jg1_same) (jg1_pre rfl (jg1_ne rfl jg1_same)) jg1_same h
  · refine jr_if2_eq_f jf_259_230 hc ?_
    refine jr_iconst jf_259_233 jc_i_1 ?_
    refine jr_goto jf_259_234 ?_
    exact r_R_finds_238 hd i114 i194 _ _ _ _ _ _ _ _ true _ _ (jg1_ne rfl (jg1_ne rfl (jg1_ne rfl hl0))) (jg1_ne rfl (jg1_ne rfl (jg1_ne rfl hl2))) (jg1_ne rfl (jg1_ne rfl (jg1_ne rfl hl3))) (jg1_ne rfl (jg1_pre rfl (jg1_ne rfl hl4))) (jg1_ne rfl jg1_same) (jg1_pre rfl (jg1_ne rfl jg1_same)) jg1_same h
set_option maxRecDepth 10000 in
set_option maxHeartbeats 4000000 in
theorem r_R_finds_277 {N B : Nat} {SA : Nat → Nat} {d : Nat} (hd : 1 ≤ d) {k114 : Nat → Int32 → JMem → Option JMem} (i114 : ∀ (L : JLoc) (v0 : Nat) (v2 : Int32) (μ : JMem) (μ9 : JMem), jget L 0 = .ref v0 → jget L 2 = .int v2 → k114 v0 v2 μ = some μ9 → jR B SA d m_R_finds 114 L [] μ none μ9) : ∀ (n : Nat), ∀ (L : JLoc) (v0 : Nat) (v2 : Int32) (v3 : Int32) (v4 : Int32) (μ : JMem) (μ9 : JMem), jget L 0 = .ref v0 → jget L 2 = .int v2 → jget L 3 = .int v3 → jget L 4 = .int v4 → g_R_finds_277 N B k114 n v0 v2 v3 v4 μ = some μ9 → jR B SA d m_R_finds 277 L [] μ none μ9 := by
  intro n
  induction n with
  | zero =>
    intro L v0 v2 v3 v4 μ μ9 hl0 hl2 hl3 hl4 h
    unfold g_R_finds_277 at h
    cases h
  | succ n ih =>
    intro L v0 v2 v3 v4 μ μ9 hl0 hl2 hl3 hl4 h
    unfold g_R_finds_277 at h
    refine jr_aload_n jf_259_277 rfl hl0 ?_
    replace h := obd_of h; obtain ⟨x1, hx1, h⟩ := h
    refine jr_getA jf_259_278 hx1 ?_
    refine jr_iload_n jf_259_281 rfl hl3 ?_
    replace h := obd_of h; obtain ⟨a2, rfl, h⟩ := h
    replace h := obd_of h; obtain ⟨x3, hx3, h⟩ := h
    refine jr_iaload jf_259_282 hx3 ?_
    refine jr_iconst jf_259_283 jc_i_m1 ?_
    refine jr_iload_n jf_259_284 rfl hl2 ?_
    refine jr_isub jf_259_285 ?_
    replace h := ite_or h; rcases h with ⟨hc, h⟩ | ⟨hc, h⟩
    · refine jr_if2_ne_f jf_259_286 hc ?_
      refine jr_aload_n jf_259_289 rfl hl0 ?_
      replace h := obd_of h; obtain ⟨x4, hx4, h⟩ := h
      refine jr_getA jf_259_290 hx4 ?_
      refine jr_iload_n jf_259_293 rfl hl3 ?_
      refine jr_iload jf_259_294 hl4 ?_
      replace h := obd_of h; obtain ⟨a5, rfl, h⟩ := h
      replace h := obd_of h; obtain ⟨μ6, hμ6, h⟩ := h
      refine jr_iastore jf_259_296 hμ6 ?_
      refine jr_aload_n jf_259_297 rfl hl0 ?_
      replace h := obd_of h; obtain ⟨x7, hx7, h⟩ := h
      refine jr_getA jf_259_298 hx7 ?_
      refine jr_iload jf_259_301 hl4 ?_
      refine jr_iconst jf_259_303 jc_i_1 ?_
      refine jr_isub jf_259_304 ?_
      refine jr_dup2_1 jf_259_305 rfl (rv_cat _) ?_
      replace h := obd_of h; obtain ⟨a8, rfl, h⟩ := h
      replace h := obd_of h; obtain ⟨x9, hx9, h⟩ := h
      refine jr_iaload jf_259_306 hx9 ?_
      refine jr_iconst jf_259_307 jc_i_1 ?_
      refine jr_iadd jf_259_308 ?_
      replace h := obd_of h; obtain ⟨μ10, hμ10, h⟩ := h
      refine jr_iastore jf_259_309 hμ10 ?_
      refine jr_aload_n jf_259_310 rfl hl0 ?_
      replace h := obd_of h; obtain ⟨x11, hx11, h⟩ := h
      refine jr_getA jf_259_311 hx11 ?_
      refine jr_iload_n jf_259_314 rfl hl3 ?_
      replace h := obd_of h; obtain ⟨a12, rfl, h⟩ := h
      replace h := obd_of h; obtain ⟨x13, hx13, h⟩ := h
      refine jr_iaload jf_259_315 hx13 ?_
      refine jr_istore_n jf_259_316 rfl jml_259 (by decide) ?_
      refine jr_goto jf_259_317 ?_
      exact ih _ _ _ _ _ _ _ (jg1_ne rfl hl0) (jg1_pre rfl hl2) jg1_same (jg1_ne rfl hl4) h
    · refine jr_if2_ne_t jf_259_286 hc ?_
      refine jr_iinc jf_259_320 jc_i_1 jml_259 (by decide) hl2 ?_
      refine jr_goto jf_259_323 ?_
      exact i114 _ _ _ _ _ (jg1_ne rfl hl0) jg1_same h
set_option maxRecDepth 10000 in
set_option maxHeartbeats 4000000 in
theorem r_R_finds_275 {N B : Nat} {SA : Nat → Nat} {d : Nat} (hd : 1 ≤ d) {k114 : Nat → Int32 → JMem → Option JMem} (i114 : ∀ (L : JLoc) (v0 : Nat) (v2 : Int32) (μ : JMem) (μ9 : JMem), jget L 0 = .ref v0 → jget L 2 = .int v2 → k114 v0 v2 μ = some μ9 → jR B SA d m_R_finds 114 L [] μ none μ9) : ∀ (L : JLoc) (v0 : Nat) (v2 : Int32) (v4 : Int32) (μ : JMem) (μ9 : JMem), jget L 0 = .ref v0 → jget L 2 = .int v2 → jget L 4 = .int v4 → g_R_finds_275 N B k114 v0 v2 v4 μ = some μ9 → jR B SA d m_R_finds 275 L [] μ none μ9 := by
  intro L v0 v2 v4 μ μ9 hl0 hl2 hl4 h
  unfold g_R_finds_275 at h
  refine jr_iload_n jf_259_275 rfl hl2 ?_
  refine jr_istore_n jf_259_276 rfl jml_259 (by decide) ?_
  exact r_R_finds_277 hd i114 _ _ _ _ _ _ _ _ (jg1_ne rfl hl0) (jg1_pre rfl hl2) jg1_same (jg1_ne rfl hl4) h
set_option maxRecDepth 10000 in
set_option maxHeartbeats 4000000 in
theorem r_R_finds_194 {N B : Nat} {SA : Nat → Nat} {d : Nat} (hd : 1 ≤ d) {k114 : Nat → Int32 → JMem → Option JMem} (i114 : ∀ (L : JLoc) (v0 : Nat) (v2 : Int32) (μ : JMem) (μ9 : JMem), jget L 0 = .ref v0 → jget L 2 = .int v2 → k114 v0 v2 μ = some μ9 → jR B SA d m_R_finds 114 L [] μ none μ9) : ∀ (n : Nat), ∀ (L : JLoc) (v0 : Nat) (v2 : Int32) (v3 : Int32) (v4 : Int32) (v5 : Int32) (v6 : Int32) (v7 : Int32) (v8 : Bool) (μ : JMem) (μ9 : JMem), jget L 0 = .ref v0 → jget L 2 = .int v2 → jget L 3 = .int v3 → jget L 4 = .int v4 → jget L 5 = .int v5 → jget L 6 = .int v6 → jget L 7 = .int v7 → jget L 8 = .int (jb v8) → g_R_finds_194 N B k114 n v0 v2 v3 v4 v5 v6 v7 v8 μ = some μ9 → jR B SA d m_R_finds 194 L [] μ none μ9 := by
  intro n
  induction n with
  | zero =>
    intro L v0 v2 v3 v4 v5 v6 v7 v8 μ μ9 hl0 hl2 hl3 hl4 hl5 hl6 hl7 hl8 h
    unfold g_R_finds_194 at h
    cases h
  | succ n ih =>
    intro L v0 v2 v3 v4 v5 v6 v7 v8 μ μ9 hl0 hl2 hl3 hl4 hl5 hl6 hl7 hl8 h
    unfold g_R_finds_194 at h
    refine jr_iload jf_259_194 hl8 ?_
    replace h := ite_or h; rcases h with ⟨hc, h⟩ | ⟨hc, h⟩
    · refine jr_ifz_eq_f jf_259_196 hc ?_
      refine jr_iload jf_259_199 hl7 ?_
      refine jr_iload jf_259_201 hl6 ?_
      replace h := ite_or h; rcases h with ⟨hc, h⟩ | ⟨hc, h⟩
      · refine jr_if2_ge_t jf_259_203 hc ?_
        refine jr_iload jf_259_211 hl6 ?_
        exact r_R_finds_213 hd i114 ih _ _ _ _ _ _ _ _ _ _ hl0 hl2 hl3 hl4 hl5 hl7 h
      · refine jr_if2_ge_f jf_259_203 hc ?_
        refine jr_iload jf_259_206 hl7 ?_
        refine jr_goto jf_259_208 ?_
        exact r_R_finds_213 hd i114 ih _ _ _ _ _ _ _ _ _ _ hl0 hl2 hl3 hl4 hl5 hl7 h
    · refine jr_ifz_eq_t jf_259_196 hc ?_
      refine jr_aload_n jf_259_243 rfl hl0 ?_
      replace h := obd_of h; obtain ⟨x1, hx1, h⟩ := h
      refine jr_getA jf_259_244 hx1 ?_
      refine jr_iload jf_259_247 hl4 ?_
      refine jr_iconst jf_259_249 jc_i_1 ?_
      refine jr_isub jf_259_250 ?_
      refine jr_iload jf_259_251 hl6 ?_
      replace h := obd_of h; obtain ⟨a2, rfl, h⟩ := h
      replace h := obd_of h; obtain ⟨μ3, hμ3, h⟩ := h
      refine jr_iastore jf_259_253 hμ3 ?_
      refine jr_aload_n jf_259_254 rfl hl0 ?_
      replace h := obd_of h; obtain ⟨x4, hx4, h⟩ := h
      refine jr_getA jf_259_255 hx4 ?_
      refine jr_iload jf_259_258 hl4 ?_
      refine jr_iconst jf_259_260 jc_i_1 ?_
      refine jr_isub jf_259_261 ?_
      refine jr_iload jf_259_262 hl5 ?_
      replace h := obd_of h; obtain ⟨a5, rfl, h⟩ := h
      replace h := obd_of h; obtain ⟨μ6, hμ6, h⟩ := h
      refine jr_iastore jf_259_264 hμ6 ?_
      refine jr_aload_n jf_259_265 rfl hl0 ?_
      replace h := obd_of h; obtain ⟨x7, hx7, h⟩ := h
      refine jr_getA jf_259_266 hx7 ?_
      refine jr_iload jf_259_269 hl4 ?_
      refine jr_iconst jf_259_271 jc_i_1 ?_
      refine jr_isub jf_259_272 ?_
      refine jr_iconst jf_259_273 jc_i_0 ?_
      replace h := obd_of h; obtain ⟨a8, rfl, h⟩ := h
      replace h := obd_of h; obtain ⟨μ9, hμ9, h⟩ := h
      refine jr_iastore jf_259_274 hμ9 ?_
      exact r_R_finds_275 hd i114 _ _ _ _ _ _ hl0 hl2 hl4 h
set_option maxRecDepth 10000 in
set_option maxHeartbeats 4000000 in
theorem r_R_finds_122 {N B : Nat} {SA : Nat → Nat} {d : Nat} (hd : 1 ≤ d) {k114 : Nat → Int32 → JMem → Option JMem} (i114 : ∀ (L : JLoc) (v0 : Nat) (v2 : Int32) (μ : JMem) (μ9 : JMem), jget L 0 = .ref v0 → jget L 2 = .int v2 → k114 v0 v2 μ = some μ9 → jR B SA d m_R_finds 114 L [] μ none μ9) : ∀ (n : Nat), ∀ (L : JLoc) (v0 : Nat) (v2 : Int32) (v3 : Int32) (μ : JMem) (μ9 : JMem), jget L 0 = .ref v0 → jget L 2 = .int v2 → jget L 3 = .int v3 → g_R_finds_122 N B k114 n v0 v2 v3 μ = some μ9 → jR B SA d m_R_finds 122 L [] μ none μ9 := by
  intro n
  induction n with
  | zero =>
    intro L v0 v2 v3 μ μ9 hl0 hl2 hl3 h
    unfold g_R_finds_122 at h
    cases h
  | succ n ih =>
    intro L v0 v2 v3 μ μ9 hl0 hl2 hl3 h
    unfold g_R_finds_122 at h
    refine jr_aload_n jf_259_122 rfl hl0 ?_
    replace h := obd_of h; obtain ⟨x1, hx1, h⟩ := h
    refine jr_getA jf_259_123 hx1 ?_
    refine jr_iload_n jf_259_126 rfl hl3 ?_
    replace h := obd_of h; obtain ⟨a2, rfl, h⟩ := h
    replace h := obd_of h; obtain ⟨x3, hx3, h⟩ := h
    refine jr_iaload jf_259_127 hx3 ?_
    replace h := ite_or h; rcases h with ⟨hc, h⟩ | ⟨hc, h⟩
    · refine jr_if_ne_f jf_259_128 hc ?_
      refine jr_aload_n jf_259_131 rfl hl0 ?_
      replace h := obd_of h; obtain ⟨x4, hx4, h⟩ := h
      refine jr_getA jf_259_132 hx4 ?_
      refine jr_iload_n jf_259_135 rfl hl3 ?_
      refine jr_iconst jf_259_136 jc_i_m1 ?_
      refine jr_iload_n jf_259_137 rfl hl2 ?_
      refine jr_isub jf_259_138 ?_
      replace h := obd_of h; obtain ⟨a5, rfl, h⟩ := h
      replace h := obd_of h; obtain ⟨μ6, hμ6, h⟩ := h
      refine jr_iastore jf_259_139 hμ6 ?_
      refine jr_aload_n jf_259_140 rfl hl0 ?_
      replace h := obd_of h; obtain ⟨x7, hx7, h⟩ := h
      refine jr_getA jf_259_141 hx7 ?_
      refine jr_iload_n jf_259_144 rfl hl3 ?_
      replace h := obd_of h; obtain ⟨a8, rfl, h⟩ := h
      replace h := obd_of h; obtain ⟨x9, hx9, h⟩ := h
      refine jr_iaload jf_259_145 hx9 ?_
      refine jr_istore_n jf_259_146 rfl jml_259 (by decide) ?_
      refine jr_goto jf_259_147 ?_
      exact ih _ _ _ _ _ _ (jg1_ne rfl hl0) (jg1_pre rfl hl2) jg1_same h
    · refine jr_if_ne_t jf_259_128 hc ?_
      refine jr_aload_n jf_259_150 rfl hl0 ?_
      replace h := obd_of h; obtain ⟨x10, hx10, h⟩ := h
      refine jr_getA jf_259_151 hx10 ?_
      refine jr_iload_n jf_259_154 rfl hl3 ?_
      replace h := obd_of h; obtain ⟨a11, rfl, h⟩ := h
      replace h := obd_of h; obtain ⟨x12, hx12, h⟩ := h
      refine jr_iaload jf_259_155 hx12 ?_
      refine jr_istore jf_259_156 jml_259 (by decide) ?_
      refine jr_iload jf_259_158 jg1_same ?_
      refine jr_iconst jf_259_160 jc_i_m1 ?_
      refine jr_iload_n jf_259_161 rfl (jg1_ne rfl hl2) ?_
      refine jr_isub jf_259_162 ?_
      replace h := ite_or h; rcases h with ⟨hc, h⟩ | ⟨hc, h⟩
      · refine jr_if2_ne_f jf_259_163 hc ?_
        refine jr_aload_n jf_259_166 rfl (jg1_ne rfl hl0) ?_
        refine jr_dup jf_259_167 rfl ?_
        replace h := obd_of h; obtain ⟨x13, hx13, h⟩ := h
        refine jr_getI jf_259_168 hx13 ?_
        refine jr_iconst jf_259_171 jc_i_1 ?_
        refine jr_iadd jf_259_172 ?_
        replace h := obd_of h; obtain ⟨μ14, hμ14, h⟩ := h
        refine jr_putI jf_259_173 rfl hμ14 ?_
        refine jr_aload_n jf_259_176 rfl (jg1_ne rfl hl0) ?_
        replace h := obd_of h; obtain ⟨x15, hx15, h⟩ := h
        refine jr_getI jf_259_177 hx15 ?_
        refine jr_istore jf_259_180 jml_259 (by decide) ?_
        refine jr_iconst jf_259_182 jc_i_0 ?_
        refine jr_istore jf_259_183 jml_259 (by decide) ?_
        refine jr_iload_n jf_259_185 rfl (jg1_ne rfl (jg1_pre rfl (jg1_pre rfl hl3))) ?_
        refine jr_istore jf_259_186 jml_259 (by decide) ?_
        refine jr_iload_n jf_259_188 rfl (jg1_ne rfl (jg1_ne rfl (jg1_pre rfl (jg1_pre rfl hl3)))) ?_
        refine jr_istore jf_259_189 jml_259 (by decide) ?_
        refine jr_iconst jf_259_191 jc_i_1 ?_
        refine jr_istore jf_259_192 jml_259 (by decide) ?_
        exact r_R_finds_194 hd i114 _ _ _ _ _ _ _ _ _ true _ _ (jg1_ne rfl (jg1_ne rfl (jg1_ne rfl (jg1_ne rfl (jg1_ne rfl (jg1_ne rfl hl0)))))) (jg1_ne rfl (jg1_ne rfl (jg1_ne rfl (jg1_ne rfl (jg1_ne rfl (jg1_ne rfl hl2)))))) (jg1_ne rfl (jg1_ne rfl (jg1_ne rfl (jg1_ne rfl (jg1_pre rfl (jg1_pre rfl hl3)))))) (jg1_ne rfl (jg1_ne rfl (jg1_ne rfl (jg1_pre rfl jg1_same)))) (jg1_ne rfl (jg1_ne rfl (jg1_pre rfl jg1_same))) (jg1_ne rfl (jg1_pre rfl jg1_same)) (jg1_pre rfl jg1_same) jg1_same h
      · refine jr_if2_ne_t jf_259_163 hc ?_
        exact r_R_finds_275 hd i114 _ _ _ _ _ _ (jg1_ne rfl hl0) (jg1_ne rfl hl2) jg1_same h
set_option maxRecDepth 10000 in
set_option maxHeartbeats 4000000 in
theorem r_R_finds_114 {N B : Nat} {SA : Nat → Nat} {d : Nat} (hd : 1 ≤ d) : ∀ (n : Nat), ∀ (L : JLoc) (v0 : Nat) (v2 : Int32) (μ : JMem) (μ9 : JMem), jget L 0 = .ref v0 → jget L 2 = .int v2 → g_R_finds_114 N B n v0 v2 μ = some μ9 → jR B SA d m_R_finds 114 L [] μ none μ9 := by
  intro n
  induction n with
  | zero =>
    intro L v0 v2 μ μ9 hl0 hl2 h
    unfold g_R_finds_114 at h
    cases h
  | succ n ih =>
    intro L v0 v2 μ μ9 hl0 hl2 h
    unfold g_R_finds_114 at h
    refine jr_iload_n jf_259_114 rfl hl2 ?_
    refine jr_ldc jf_259_115 ?_
    replace h := ite_or h; rcases h with ⟨hc, h⟩ | ⟨hc, h⟩
    · refine jr_if2_ge_t jf_259_117 hc ?_
      obtain rfl := Option.some.inj h
      exact jr_return jf_259_326 jmt_259
    · refine jr_if2_ge_f jf_259_117 hc ?_
      refine jr_iload_n jf_259_120 rfl hl2 ?_
      refine jr_istore_n jf_259_121 rfl jml_259 (by decide) ?_
      exact r_R_finds_122 hd ih _ _ _ _ _ _ _ (jg1_ne rfl hl0) (jg1_pre rfl hl2) jg1_same h
set_option maxRecDepth 10000 in
set_option maxHeartbeats 4000000 in
theorem r_R_finds_7 {N B : Nat} {SA : Nat → Nat} {d : Nat} (hd : 1 ≤ d) : ∀ (n : Nat), ∀ (L : JLoc) (v0 : Nat) (v1 : Int32) (v2 : Int32) (μ : JMem) (μ9 : JMem), jget L 0 = .ref v0 → jget L 1 = .int v1 → jget L 2 = .int v2 → g_R_finds_7 N B n v0 v1 v2 μ = some μ9 → jR B SA d m_R_finds 7 L [] μ none μ9 := by
  intro n
  induction n with
  | zero =>
    intro L v0 v1 v2 μ μ9 hl0 hl1 hl2 h
    unfold g_R_finds_7 at h
    cases h
  | succ n ih =>
    intro L v0 v1 v2 μ μ9 hl0 hl1 hl2 h
    unfold g_R_finds_7 at h
    refine jr_iload_n jf_259_7 rfl hl2 ?_
    refine jr_ldc jf_259_8 ?_
    replace h := ite_or h; rcases h with ⟨hc, h⟩ | ⟨hc, h⟩
    · refine jr_if2_ge_t jf_259_10 hc ?_
      refine jr_iconst jf_259_112 jc_i_0 ?_
      refine jr_istore_n jf_259_113 rfl jml_259 (by decide) ?_
      exact r_R_finds_114 hd _ _ _ _ _ _ (jg1_ne rfl hl0) jg1_same h
    · refine jr_if2_ge_f jf_259_10 hc ?_
      refine jr_aload_n jf_259_13 rfl hl0 ?_
      refine jr_iload_n jf_259_14 rfl hl1 ?_
      refine jr_iconst jf_259_15 jc_i_1 ?_
      replace h := jgd_of h; obtain ⟨hb1, h⟩ := h
      replace h := obd_of h; obtain ⟨x2, hx2, h⟩ := h
      refine jr_V6_2 jf_259_16 hb1 (by omega) (r_R_c (by omega) _ _ _ _ _ hx2) (Nat.le_of_ble_eq_true rfl) jml_216 (Nat.le_of_ble_eq_true rfl) ?_
      refine jr_d2l jf_259_19 ?_
      refine jr_iload_n jf_259_20 rfl hl2 ?_
      refine jr_ldc_w jf_259_21 ?_
      refine jr_isub jf_259_24 ?_
      refine jr_i2l jf_259_25 ?_
      refine jr_lmul jf_259_26 ?_
      refine jr_lstore_n jf_259_27 rfl jml_259 (by decide) ?_
      replace h := jlet_of h
      refine jr_aload_n jf_259_28 rfl (jg2_ne rfl hl0) ?_
      replace h := obd_of h; obtain ⟨x4, hx4, h⟩ := h
      refine jr_getA jf_259_29 hx4 ?_
      refine jr_iload_n jf_259_32 rfl (jg2_ne rfl hl1) ?_
      replace h := obd_of h; obtain ⟨a5, rfl, h⟩ := h
      replace h := obd_of h; obtain ⟨x6, hx6, h⟩ := h
      refine jr_iaload jf_259_33 hx6 ?_
      replace h := ite_or h; rcases h with ⟨hc, h⟩ | ⟨hc, h⟩
      · refine jr_if_ne_f jf_259_34 hc ?_
        refine jr_lload_n jf_259_37 rfl jg2_same ?_
        refine jr_ldc2l jf_259_38 ?_
        refine jr_ladd jf_259_41 ?_
        refine jr_ldc2l jf_259_42 ?_
        replace h := obd_of h; obtain ⟨x7, hx7, h⟩ := h
        refine jr_S3_2 jf_259_45 (by omega) (r_R_floor (by omega) _ _ _ _ hx7) (Nat.le_of_ble_eq_true rfl) jml_199 (Nat.le_of_ble_eq_true rfl) ?_
        refine jr_goto jf_259_48 ?_
        exact r_R_finds_56 hd ih _ _ _ _ _ _ _ (jg2_ne rfl hl0) (jg2_ne rfl hl1) (jg2_pre rfl hl2) h
      · refine jr_if_ne_t jf_259_34 hc ?_
        refine jr_lload_n jf_259_51 rfl jg2_same ?_
        refine jr_ldc2l jf_259_52 ?_
        refine jr_ldiv jf_259_55 (by simp only [jdivL]; exact if_neg (by decide)) ?_
        exact r_R_finds_56 hd ih _ _ _ _ _ _ _ (jg2_ne rfl hl0) (jg2_ne rfl hl1) (jg2_pre rfl hl2) h
set_option maxRecDepth 10000 in
set_option maxHeartbeats 4000000 in
theorem r_R_finds_e {N B : Nat} {SA : Nat → Nat} {d : Nat} (hd : 1 ≤ d) : ∀ (L : JLoc) (v0 : Nat) (v1 : Int32) (μ : JMem) (μ9 : JMem), jget L 0 = .ref v0 → jget L 1 = .int v1 → g_R_finds N B v0 v1 μ = some μ9 → jR B SA d m_R_finds 0 L [] μ none μ9 := by
  intro L v0 v1 μ μ9 hl0 hl1 h
  unfold g_R_finds at h
  refine jr_aload_n jf_259_0 rfl hl0 ?_
  refine jr_iconst jf_259_1 jc_i_0 ?_
  replace h := obd_of h; obtain ⟨μ1, hμ1, h⟩ := h
  refine jr_putI jf_259_2 rfl hμ1 ?_
  refine jr_iconst jf_259_5 jc_i_0 ?_
  refine jr_istore_n jf_259_6 rfl jml_259 (by decide) ?_
  exact r_R_finds_7 hd _ _ _ _ _ _ _ (jg1_ne rfl hl0) (jg1_pre rfl hl1) jg1_same h
set_option maxRecDepth 10000 in
set_option maxHeartbeats 4000000 in
theorem r_R_finds {N B : Nat} {SA : Nat → Nat} {d : Nat} (hd : 1 ≤ d) : ∀ (v0 : Nat) (v1 : Int32) (μ : JMem) (μ9 : JMem), g_R_finds N B v0 v1 μ = some μ9 → jR B SA d m_R_finds 0 (lv_args 0 [.ref v0, .int v1]) [] μ none μ9 := by
  intro v0 v1 μ μ9 h
  exact r_R_finds_e hd (lv_args 0 _) _ _ _ _ (by simp [lv_args, jget, rv_cat, cat_int, cat_long, cat_double, cat_float, cat_ref]) (by simp [lv_args, jget, rv_cat, cat_int, cat_long, cat_double, cat_float, cat_ref]) h
/-! FilterBenchModel.isDead(I)Z -/
set_option maxRecDepth 10000 in
set_option maxHeartbeats 4000000 in
theorem r_R_isDead_e {B : Nat} {SA : Nat → Nat} {d : Nat} (hd : 2 ≤ d) : ∀ (L : JLoc) (v0 : Nat) (v1 : Int32) (μ : JMem) (r : Bool), jget L 0 = .ref v0 → jget L 1 = .int v1 → g_R_isDead v0 v1 μ.1 = some r → jR B SA d m_R_isDead 0 L [] μ (some (.int (jb r))) μ := by
  intro L v0 v1 μ r hl0 hl1 h
  unfold g_R_isDead at h
  refine jr_aload_n jf_258_0 rfl hl0 ?_
  refine jr_iload_n jf_258_1 rfl hl1 ?_
  replace h := jgd_of h; obtain ⟨hb1, h⟩ := h
  replace h := obd_of h; obtain ⟨x2, hx2, h⟩ := h
  refine jr_V6_1 jf_258_2 hb1 (by omega) (r_R_isSection (by omega) _ _ _ _ hx2) (Nat.le_of_ble_eq_true rfl) jml_193 (Nat.le_of_ble_eq_true rfl) ?_
  replace h := ite_or h; rcases h with ⟨hc, h⟩ | ⟨hc, h⟩
  · refine jr_ifz_eq_f jf_258_5 hc ?_
    refine jr_aload_n jf_258_8 rfl hl0 ?_
    replace h := obd_of h; obtain ⟨x3, hx3, h⟩ := h
    refine jr_getA jf_258_9 hx3 ?_
    refine jr_iload_n jf_258_12 rfl hl1 ?_
    replace h := obd_of h; obtain ⟨a4, rfl, h⟩ := h
    replace h := obd_of h; obtain ⟨x5, hx5, h⟩ := h
    refine jr_iaload jf_258_13 hx5 ?_
    refine jr_iconst jf_258_14 jc_i_1 ?_
    replace h := ite_or h; rcases h with ⟨hc, h⟩ | ⟨hc, h⟩
    · refine jr_if2_ne_f jf_258_15 hc ?_
      refine jr_aload_n jf_258_18 rfl hl0 ?_
      replace h := obd_of h; obtain ⟨x6, hx6, h⟩ := h
      refine jr_getA jf_258_19 hx6 ?_
      refine jr_iload_n jf_258_22 rfl hl1 ?_
      replace h := obd_of h; obtain ⟨a7, rfl, h⟩ := h
      replace h := obd_of h; obtain ⟨x8, hx8, h⟩ := h
      refine jr_iaload jf_258_23 hx8 ?_
      refine jr_iconst jf_258_24 jc_i_2 ?_
      replace h := ite_or h; rcases h with ⟨hc, h⟩ | ⟨hc, h⟩
      · refine jr_if2_ne_f jf_258_25 hc ?_
        refine jr_aload_n jf_258_28 rfl hl0 ?_
        replace h := obd_of h; obtain ⟨x9, hx9, h⟩ := h
        refine jr_getA jf_258_29 hx9 ?_
        refine jr_iload_n jf_258_32 rfl hl1 ?_
        replace h := obd_of h; obtain ⟨a10, rfl, h⟩ := h
        replace h := obd_of h; obtain ⟨x11, hx11, h⟩ := h
        refine jr_iaload jf_258_33 hx11 ?_
        refine jr_iconst jf_258_34 jc_i_2 ?_
        replace h := ite_or h; rcases h with ⟨hc, h⟩ | ⟨hc, h⟩
        · refine jr_if2_ge_t jf_258_35 hc ?_
          refine jr_iconst jf_258_42 jc_i_0 ?_
          obtain rfl := Option.some.inj h
          exact jr_retZ (x := false) jf_258_43 jmt_258
        · refine jr_if2_ge_f jf_258_35 hc ?_
          refine jr_iconst jf_258_38 jc_i_1 ?_
          refine jr_goto jf_258_39 ?_
          obtain rfl := Option.some.inj h
          exact jr_retZ (x := true) jf_258_43 jmt_258
      · refine jr_if2_ne_t jf_258_25 hc ?_
        refine jr_iconst jf_258_42 jc_i_0 ?_
        obtain rfl := Option.some.inj h
        exact jr_retZ (x := false) jf_258_43 jmt_258
    · refine jr_if2_ne_t jf_258_15 hc ?_
      refine jr_iconst jf_258_42 jc_i_0 ?_
      obtain rfl := Option.some.inj h
      exact jr_retZ (x := false) jf_258_43 jmt_258
  · refine jr_ifz_eq_t jf_258_5 hc ?_
    refine jr_iconst jf_258_42 jc_i_0 ?_
    obtain rfl := Option.some.inj h
    exact jr_retZ (x := false) jf_258_43 jmt_258
set_option maxRecDepth 10000 in
set_option maxHeartbeats 4000000 in
theorem r_R_isDead {B : Nat} {SA : Nat → Nat} {d : Nat} (hd : 2 ≤ d) : ∀ (v0 : Nat) (v1 : Int32) (μ : JMem) (r : Bool), g_R_isDead v0 v1 μ.1 = some r → jR B SA d m_R_isDead 0 (lv_args 0 [.ref v0, .int v1]) [] μ (some (.int (jb r))) μ := by
  intro v0 v1 μ r h
  exact r_R_isDead_e hd (lv_args 0 _) _ _ _ _ (by simp [lv_args, jget, rv_cat, cat_int, cat_long, cat_double, cat_float, cat_ref]) (by simp [lv_args, jget, rv_cat, cat_int, cat_long, cat_double, cat_float, cat_ref]) h
/-! FilterBenchModel.cycles(I)I -/
set_option maxRecDepth 10000 in
set_option maxHeartbeats 4000000 in
theorem r_R_cycles_e {N B : Nat} {SA : Nat → Nat} {d : Nat} (hd : 3 ≤ d) : ∀ (L : JLoc) (v0 : Nat) (v1 : Int32) (μ : JMem) (r : Int32) (μ9 : JMem), jget L 0 = .ref v0 → jget L 1 = .int v1 → g_R_cycles N B v0 v1 μ = some (r, μ9) → jR B SA d m_R_cycles 0 L [] μ (some (.int r)) μ9 := by
  intro L v0 v1 μ r μ9 hl0 hl1 h
  unfold g_R_cycles at h
  refine jr_aload_n jf_257_0 rfl hl0 ?_
  refine jr_iload_n jf_257_1 rfl hl1 ?_
  replace h := jgd_of h; obtain ⟨hb1, h⟩ := h
  replace h := obd_of h; obtain ⟨x2, hx2, h⟩ := h
  refine jr_V6_1 jf_257_2 hb1 (by omega) (r_R_isDead (by omega) _ _ _ _ hx2) (Nat.le_of_ble_eq_true rfl) jml_258 (Nat.le_of_ble_eq_true rfl) ?_
  replace h := ite_or h; rcases h with ⟨hc, h⟩ | ⟨hc, h⟩
  · refine jr_ifz_ne_t jf_257_5 hc ?_
    refine jr_aload_n jf_257_10 rfl hl0 ?_
    refine jr_iload_n jf_257_11 rfl hl1 ?_
    replace h := jgd_of h; obtain ⟨hb3, h⟩ := h
    replace h := obd_of h; obtain ⟨μ4, hμ4, h⟩ := h
    refine jr_V6v_1 jf_257_12 hb3 (by omega) (r_R_finds (by omega) _ _ _ _ hμ4) (Nat.le_of_ble_eq_true rfl) jml_259 (Nat.le_of_ble_eq_true rfl) ?_
    refine jr_aload_n jf_257_15 rfl hl0 ?_
    replace h := obd_of h; obtain ⟨x5, hx5, h⟩ := h
    refine jr_getI jf_257_16 hx5 ?_
    obtain ⟨rfl, rfl⟩ := Prod.mk.inj (Option.some.inj h)
    exact jr_retI jf_257_19 jmt_257
  · refine jr_ifz_ne_f jf_257_5 hc ?_
    refine jr_iconst jf_257_8 jc_i_m1 ?_
    obtain ⟨rfl, rfl⟩ := Prod.mk.inj (Option.some.inj h)
    exact jr_retI jf_257_9 jmt_257
set_option maxRecDepth 10000 in
set_option maxHeartbeats 4000000 in
theorem r_R_cycles {N B : Nat} {SA : Nat → Nat} {d : Nat} (hd : 3 ≤ d) : ∀ (v0 : Nat) (v1 : Int32) (μ : JMem) (r : Int32) (μ9 : JMem), g_R_cycles N B v0 v1 μ = some (r, μ9) → jR B SA d m_R_cycles 0 (lv_args 0 [.ref v0, .int v1]) [] μ (some (.int r)) μ9 := by
  intro v0 v1 μ r μ9 h
  exact r_R_cycles_e hd (lv_args 0 _) _ _ _ _ _ (by simp [lv_args, jget, rv_cat, cat_int, cat_long, cat_double, cat_float, cat_ref]) (by simp [lv_args, jget, rv_cat, cat_int, cat_long, cat_double, cat_float, cat_ref]) h
/-! FilterBenchModel.cycle(III)I -/
set_option maxRecDepth 10000 in
set_option maxHeartbeats 4000000 in
theorem r_R_cycle_94 {N B : Nat} {SA : Nat → Nat} {d : Nat} (hd : 3 ≤ d) {k40 : Nat → Int32 → Int32 → Int32 → Int32 → JMem → Option (Int32 × JMem)} (i40 : ∀ (L : JLoc) (v0 : Nat) (v3 : Int32) (v4 : Int32) (v5 : Int32) (v6 : Int32) (μ : JMem) (r : Int32) (μ9 : JMem), jget L 0 = .ref v0 → jget L 3 = .int v3 → jget L 4 = .int v4 → jget L 5 = .int v5 → jget L 6 = .int v6 → k40 v0 v3 v4 v5 v6 μ = some (r, μ9) → jR B SA d m_R_cycle 40 L [] μ (some (.int r)) μ9) : ∀ (L : JLoc) (v0 : Nat) (v3 : Int32) (v4 : Int32) (v5 : Int32) (v6 : Int32) (μ : JMem) (r : Int32) (μ9 : JMem), jget L 0 = .ref v0 → jget L 3 = .int v3 → jget L 4 = .int v4 → jget L 5 = .int v5 → jget L 6 = .int v6 → g_R_cycle_94 N B k40 v0 v3 v4 v5 v6 μ = some (r, μ9) → jR B SA d m_R_cycle 94 L [] μ (some (.int r)) μ9 := by
  intro L v0 v3 v4 v5 v6 μ r μ9 hl0 hl3 hl4 hl5 hl6 h
  unfold g_R_cycle_94 at h
  refine jr_iinc jf_260_94 jc_i_1 jml_260 (by decide) hl6 ?_
  refine jr_goto jf_260_97 ?_
  exact i40 _ _ _ _ _ _ _ _ _ (jg1_ne rfl hl0) (jg1_ne rfl hl3) (jg1_ne rfl hl4) (jg1_pre rfl hl5) jg1_same h
set_option maxRecDepth 10000 in
set_option maxHeartbeats 4000000 in
theorem r_R_cycle_91 {N B : Nat} {SA : Nat → Nat} {d : Nat} (hd : 3 ≤ d) {k40 : Nat → Int32 → Int32 → Int32 → Int32 → JMem → Option (Int32 × JMem)} (i40 : ∀ (L : JLoc) (v0 : Nat) (v3 : Int32) (v4 : Int32) (v5 : Int32) (v6 : Int32) (μ : JMem) (r : Int32) (μ9 : JMem), jget L 0 = .ref v0 → jget L 3 = .int v3 → jget L 4 = .int v4 → jget L 5 = .int v5 → jget L 6 = .int v6 → k40 v0 v3 v4 v5 v6 μ = some (r, μ9) → jR B SA d m_R_cycle 40 L [] μ (some (.int r)) μ9) : ∀ (L : JLoc) (v0 : Nat) (v3 : Int32) (v4 : Int32) (v5 : Int32) (v6 : Int32) (μ : JMem) (r : Int32) (μ9 : JMem), jget L 0 = .ref v0 → jget L 3 = .int v3 → jget L 4 = .int v4 → jget L 5 = .int v5 → jget L 6 = .int v6 → g_R_cycle_91 N B k40 v0 v3 v4 v5 v6 μ = some (r, μ9) → jR B SA d m_R_cycle 91 L [] μ (some (.int r)) μ9 := by
  intro L v0 v3 v4 v5 v6 μ r μ9 hl0 hl3 hl4 hl5 hl6 h
  unfold g_R_cycle_91 at h
  refine jr_iinc jf_260_91 jc_i_m1 jml_260 (by decide) hl5 ?_
  exact r_R_cycle_94 hd i40 _ _ _ _ _ _ _ _ _ (jg1_ne rfl hl0) (jg1_ne rfl hl3) (jg1_pre rfl hl4) jg1_same (jg1_ne rfl hl6) h
set_option maxRecDepth 10000 in
set_option maxHeartbeats 4000000 in
theorem r_R_cycle_100 {N B : Nat} {SA : Nat → Nat} {d : Nat} (hd : 3 ≤ d) : ∀ (L : JLoc) (v0 : Nat) (v3 : Int32) (v4 : Int32) (μ : JMem) (r : Int32) (μ9 : JMem), jget L 0 = .ref v0 → jget L 3 = .int v3 → jget L 4 = .int v4 → g_R_cycle_100 N B v0 v3 v4 μ = some (r, μ9) → jR B SA d m_R_cycle 100 L [] μ (some (.int r)) μ9 := by
  intro L v0 v3 v4 μ r μ9 hl0 hl3 hl4 h
  unfold g_R_cycle_100 at h
  refine jr_iload_n jf_260_100 rfl hl3 ?_
  replace h := ite_or h; rcases h with ⟨hc, h⟩ | ⟨hc, h⟩
  · refine jr_if_ne_f jf_260_101 hc ?_
    refine jr_aload_n jf_260_104 rfl hl0 ?_
    replace h := obd_of h; obtain ⟨x1, hx1, h⟩ := h
    refine jr_getA jf_260_105 hx1 ?_
    refine jr_iload jf_260_108 hl4 ?_
    replace h := obd_of h; obtain ⟨a2, rfl, h⟩ := h
    replace h := obd_of h; obtain ⟨x3, hx3, h⟩ := h
    refine jr_iaload jf_260_110 hx3 ?_
    refine jr_ldc_w jf_260_111 ?_
    refine jr_isub jf_260_114 ?_
    refine jr_goto jf_260_115 ?_
    obtain ⟨rfl, rfl⟩ := Prod.mk.inj (Option.some.inj h)
    exact jr_retI jf_260_149 jmt_260
  · refine jr_if_ne_t jf_260_101 hc ?_
    refine jr_iload_n jf_260_118 rfl hl3 ?_
    refine jr_iconst jf_260_119 jc_i_1 ?_
    replace h := ite_or h; rcases h with ⟨hc, h⟩ | ⟨hc, h⟩
    · refine jr_if2_ne_f jf_260_120 hc ?_
      refine jr_aload_n jf_260_123 rfl hl0 ?_
      replace h := obd_of h; obtain ⟨x4, hx4, h⟩ := h
      refine jr_getA jf_260_124 hx4 ?_
      refine jr_iload jf_260_127 hl4 ?_
      replace h := obd_of h; obtain ⟨a5, rfl, h⟩ := h
      replace h := obd_of h; obtain ⟨x6, hx6, h⟩ := h
      refine jr_iaload jf_260_129 hx6 ?_
      refine jr_goto jf_260_130 ?_
      obtain ⟨rfl, rfl⟩ := Prod.mk.inj (Option.some.inj h)
      exact jr_retI jf_260_149 jmt_260
    · refine jr_if2_ne_t jf_260_120 hc ?_
      refine jr_iload_n jf_260_133 rfl hl3 ?_
      refine jr_iconst jf_260_134 jc_i_2 ?_
      replace h := ite_or h; rcases h with ⟨hc, h⟩ | ⟨hc, h⟩
      · refine jr_if2_ne_f jf_260_135 hc ?_
        refine jr_aload_n jf_260_138 rfl hl0 ?_
        replace h := obd_of h; obtain ⟨x7, hx7, h⟩ := h
        refine jr_getA jf_260_139 hx7 ?_
        refine jr_iload jf_260_142 hl4 ?_
        replace h := obd_of h; obtain ⟨a8, rfl, h⟩ := h
        replace h := obd_of h; obtain ⟨x9, hx9, h⟩ := h
        refine jr_iaload jf_260_144 hx9 ?_
        refine jr_goto jf_260_145 ?_
        obtain ⟨rfl, rfl⟩ := Prod.mk.inj (Option.some.inj h)
        exact jr_retI jf_260_149 jmt_260
      · refine jr_if2_ne_t jf_260_135 hc ?_
        refine jr_iconst jf_260_148 jc_i_0 ?_
        obtain ⟨rfl, rfl⟩ := Prod.mk.inj (Option.some.inj h)
        exact jr_retI jf_260_149 jmt_260
set_option maxRecDepth 10000 in
set_option maxHeartbeats 4000000 in
theorem r_R_cycle_40 {N B : Nat} {SA : Nat → Nat} {d : Nat} (hd : 3 ≤ d) : ∀ (n : Nat), ∀ (L : JLoc) (v0 : Nat) (v3 : Int32) (v4 : Int32) (v5 : Int32) (v6 : Int32) (μ : JMem) (r : Int32) (μ9 : JMem), jget L 0 = .ref v0 → jget L 3 = .int v3 → jget L 4 = .int v4 → jget L 5 = .int v5 → jget L 6 = .int v6 → g_R_cycle_40 N B n v0 v3 v4 v5 v6 μ = some (r, μ9) → jR B SA d m_R_cycle 40 L [] μ (some (.int r)) μ9 := by
  intro n
  induction n with
  | zero =>
    intro L v0 v3 v4 v5 v6 μ r μ9 hl0 hl3 hl4 hl5 hl6 h
    unfold g_R_cycle_40 at h
    cases h
  | succ n ih =>
    intro L v0 v3 v4 v5 v6 μ r μ9 hl0 hl3 hl4 hl5 hl6 h
    unfold g_R_cycle_40 at h
    refine jr_iload jf_260_40 hl6 ?_
    refine jr_ldc jf_260_42 ?_
    replace h := ite_or h; rcases h with ⟨hc, h⟩ | ⟨hc, h⟩
    · refine jr_if2_ge_t jf_260_44 hc ?_
      exact r_R_cycle_100 hd _ _ _ _ _ _ _ hl0 hl3 hl4 h
    · refine jr_if2_ge_f jf_260_44 hc ?_
      refine jr_iload jf_260_47 hl4 ?_
      refine jr_iconst jf_260_49 jc_i_m1 ?_
      replace h := ite_or h; rcases h with ⟨hc, h⟩ | ⟨hc, h⟩
      · refine jr_if2_ne_f jf_260_50 hc ?_
        refine jr_aload_n jf_260_53 rfl hl0 ?_
        replace h := obd_of h; obtain ⟨x1, hx1, h⟩ := h
        refine jr_getA jf_260_54 hx1 ?_
        refine jr_aload_n jf_260_57 rfl hl0 ?_
        replace h := obd_of h; obtain ⟨x2, hx2, h⟩ := h
        refine jr_getA jf_260_58 hx2 ?_
        refine jr_iload jf_260_61 hl6 ?_
        replace h := obd_of h; obtain ⟨a3, rfl, h⟩ := h
        replace h := obd_of h; obtain ⟨x4, hx4, h⟩ := h
        refine jr_iaload jf_260_63 hx4 ?_
        refine jr_iconst jf_260_64 jc_i_1 ?_
        refine jr_isub jf_260_65 ?_
        replace h := obd_of h; obtain ⟨a5, rfl, h⟩ := h
        replace h := obd_of h; obtain ⟨x6, hx6, h⟩ := h
        refine jr_iaload jf_260_66 hx6 ?_
        refine jr_iload jf_260_67 hl6 ?_
        replace h := ite_or h; rcases h with ⟨hc, h⟩ | ⟨hc, h⟩
        · refine jr_if2_eq_t jf_260_69 hc ?_
          refine jr_iload jf_260_75 hl5 ?_
          replace h := ite_or h; rcases h with ⟨hc, h⟩ | ⟨hc, h⟩
          · refine jr_if_ne_f jf_260_77 hc ?_
            refine jr_aload_n jf_260_80 rfl hl0 ?_
            replace h := obd_of h; obtain ⟨x7, hx7, h⟩ := h
            refine jr_getA jf_260_81 hx7 ?_
            refine jr_iload jf_260_84 hl6 ?_
            replace h := obd_of h; obtain ⟨a8, rfl, h⟩ := h
            replace h := obd_of h; obtain ⟨x9, hx9, h⟩ := h
            refine jr_iaload jf_260_86 hx9 ?_
            refine jr_iconst jf_260_87 jc_i_1 ?_
            refine jr_isub jf_260_88 ?_
            refine jr_istore jf_260_89 jml_260 (by decide) ?_
            exact r_R_cycle_91 hd ih _ _ _ _ _ _ _ _ _ (jg1_ne rfl hl0) (jg1_pre rfl hl3) jg1_same (jg1_ne rfl hl5) (jg1_ne rfl hl6) h
          · refine jr_if_ne_t jf_260_77 hc ?_
            exact r_R_cycle_91 hd ih _ _ _ _ _ _ _ _ _ hl0 hl3 hl4 hl5 hl6 h
        · refine jr_if2_eq_f jf_260_69 hc ?_
          refine jr_goto jf_260_72 ?_
          exact r_R_cycle_94 hd ih _ _ _ _ _ _ _ _ _ hl0 hl3 hl4 hl5 hl6 h
      · refine jr_if2_ne_t jf_260_50 hc ?_
        exact r_R_cycle_100 hd _ _ _ _ _ _ _ hl0 hl3 hl4 h
set_option maxRecDepth 10000 in
set_option maxHeartbeats 4000000 in
theorem r_R_cycle_e {N B : Nat} {SA : Nat → Nat} {d : Nat} (hd : 3 ≤ d) : ∀ (L : JLoc) (v0 : Nat) (v1 : Int32) (v2 : Int32) (v3 : Int32) (μ : JMem) (r : Int32) (μ9 : JMem), jget L 0 = .ref v0 → jget L 1 = .int v1 → jget L 2 = .int v2 → jget L 3 = .int v3 → g_R_cycle N B v0 v1 v2 v3 μ = some (r, μ9) → jR B SA d m_R_cycle 0 L [] μ (some (.int r)) μ9 := by
  intro L v0 v1 v2 v3 μ r μ9 hl0 hl1 hl2 hl3 h
  unfold g_R_cycle at h
  refine jr_aload_n jf_260_0 rfl hl0 ?_
  refine jr_iload_n jf_260_1 rfl hl1 ?_
  replace h := jgd_of h; obtain ⟨hb1, h⟩ := h
  replace h := obd_of h; obtain ⟨x2, hx2, h⟩ := h
  refine jr_V6_1 jf_260_2 hb1 (by omega) (r_R_isDead (by omega) _ _ _ _ hx2) (Nat.le_of_ble_eq_true rfl) jml_258 (Nat.le_of_ble_eq_true rfl) ?_
  replace h := ite_or h; rcases h with ⟨hc, h⟩ | ⟨hc, h⟩
  · refine jr_ifz_ne_t jf_260_5 hc ?_
    refine jr_aload_n jf_260_10 rfl hl0 ?_
    refine jr_iload_n jf_260_11 rfl hl1 ?_
    replace h := jgd_of h; obtain ⟨hb3, h⟩ := h
    replace h := obd_of h; obtain ⟨μ4, hμ4, h⟩ := h
    refine jr_V6v_1 jf_260_12 hb3 (by omega) (r_R_finds (by omega) _ _ _ _ hμ4) (Nat.le_of_ble_eq_true rfl) jml_259 (Nat.le_of_ble_eq_true rfl) ?_
    refine jr_iload_n jf_260_15 rfl hl2 ?_
    refine jr_iconst jf_260_16 jc_i_0 ?_
    refine jr_aload_n jf_260_17 rfl hl0 ?_
    replace h := obd_of h; obtain ⟨x5, hx5, h⟩ := h
    refine jr_getI jf_260_18 hx5 ?_
    refine jr_iconst jf_260_21 jc_i_1 ?_
    refine jr_isub jf_260_22 ?_
    refine jr_S3_3 jf_260_23 (by omega) (r_R_in (by omega) _ _ _ _ _ rfl) (Nat.le_of_ble_eq_true rfl) jml_187 (Nat.le_of_ble_eq_true rfl) ?_
    replace h := ite_or h; rcases h with ⟨hc, h⟩ | ⟨hc, h⟩
    · refine jr_ifz_ne_t jf_260_26 hc ?_
      refine jr_iconst jf_260_31 jc_i_m1 ?_
      refine jr_istore jf_260_32 jml_260 (by decide) ?_
      refine jr_iload_n jf_260_34 rfl (jg1_ne rfl hl2) ?_
      refine jr_istore jf_260_35 jml_260 (by decide) ?_
      refine jr_iconst jf_260_37 jc_i_0 ?_
      refine jr_istore jf_260_38 jml_260 (by decide) ?_
      exact r_R_cycle_40 hd _ _ _ _ _ _ _ _ _ _ (jg1_ne rfl (jg1_ne rfl (jg1_ne rfl hl0))) (jg1_ne rfl (jg1_ne rfl (jg1_pre rfl hl3))) (jg1_ne rfl (jg1_pre rfl jg1_same)) (jg1_pre rfl jg1_same) jg1_same h
    · refine jr_ifz_ne_f jf_260_26 hc ?_
      refine jr_iconst jf_260_29 jc_i_0 ?_
      obtain ⟨rfl, rfl⟩ := Prod.mk.inj (Option.some.inj h)
      exact jr_retI jf_260_30 jmt_260
  · refine jr_ifz_ne_f jf_260_5 hc ?_
    refine jr_iconst jf_260_8 jc_i_0 ?_
    obtain ⟨rfl, rfl⟩ := Prod.mk.inj (Option.some.inj h)
    exact jr_retI jf_260_9 jmt_260
set_option maxRecDepth 10000 in
set_option maxHeartbeats 4000000 in
theorem r_R_cycle {N B : Nat} {SA : Nat → Nat} {d : Nat} (hd : 3 ≤ d) : ∀ (v0 : Nat) (v1 : Int32) (v2 : Int32) (v3 : Int32) (μ : JMem) (r : Int32) (μ9 : JMem), g_R_cycle N B v0 v1 v2 v3 μ = some (r, μ9) → jR B SA d m_R_cycle 0 (lv_args 0 [.ref v0, .int v1, .int v2, .int v3]) [] μ (some (.int r)) μ9 := by
  intro v0 v1 v2 v3 μ r μ9 h
  exact r_R_cycle_e hd (lv_args 0 _) _ _ _ _ _ _ _ (by simp [lv_args, jget, rv_cat, cat_int, cat_long, cat_double, cat_float, cat_ref]) (by simp [lv_args, jget, rv_cat, cat_int, cat_long, cat_double, cat_float, cat_ref]) (by simp [lv_args, jget, rv_cat, cat_int, cat_long, cat_double, cat_float, cat_ref]) (by simp [lv_args, jget, rv_cat, cat_int, cat_long, cat_double, cat_float, cat_ref]) h
/-! FilterBenchModel.turned(DIIZ)D -/
set_option maxRecDepth 10000 in
set_option maxHeartbeats 4000000 in
theorem r_R_turned_172 {B : Nat} {SA : Nat → Nat} {d : Nat} (hd : 0 ≤ d) : ∀ (L : JLoc) (v9 : UInt64) (μ : JMem) (r : UInt64), jget L 9 = .double v9 → g_R_turned_172 v9 = some r → jR B SA d m_R_turned 172 L [] μ (some (.double r)) μ := by
  intro L v9 μ r hl9 h
  unfold g_R_turned_172 at h
  refine jr_dload jf_263_172 hl9 ?_
  refine jr_ldc2d jf_263_174 ?_
  refine jr_dcmp jf_263_177 ?_
  replace h := ite_or h; rcases h with ⟨hc, h⟩ | ⟨hc, h⟩
  · refine jr_if_lt_t jf_263_178 hc ?_
    refine jr_ldc2d jf_263_197 ?_
    obtain rfl := Option.some.inj h
    exact jr_retD jf_263_200 jmt_263
  · refine jr_if_lt_f jf_263_178 hc ?_
    refine jr_dload jf_263_181 hl9 ?_
    refine jr_ldc2d jf_263_183 ?_
    refine jr_dcmp jf_263_186 ?_
    replace h := ite_or h; rcases h with ⟨hc, h⟩ | ⟨hc, h⟩
    · refine jr_if_gt_t jf_263_187 hc ?_
      refine jr_ldc2d jf_263_197 ?_
      obtain rfl := Option.some.inj h
      exact jr_retD jf_263_200 jmt_263
    · refine jr_if_gt_f jf_263_187 hc ?_
      refine jr_dload jf_263_190 hl9 ?_
      refine jr_dconst0 jf_263_192 ?_
      replace h := obd_of h; obtain ⟨x1, hx1, h⟩ := h
      refine jr_dadd jf_263_193 hx1 ?_
      refine jr_goto jf_263_194 ?_
      obtain rfl := Option.some.inj h
      exact jr_retD jf_263_200 jmt_263
set_option maxRecDepth 10000 in
set_option maxHeartbeats 4000000 in
theorem r_R_turned_166 {B : Nat} {SA : Nat → Nat} {d : Nat} (hd : 0 ≤ d) : ∀ (L : JLoc) (v9 : UInt64) (μ : JMem) (r : UInt64), jget L 9 = .double v9 → g_R_turned_166 v9 = some r → jR B SA d m_R_turned 166 L [] μ (some (.double r)) μ := by
  intro L v9 μ r hl9 h
  unfold g_R_turned_166 at h
  refine jr_dload jf_263_166 hl9 ?_
  refine jr_dconst1 jf_263_168 ?_
  replace h := obd_of h; obtain ⟨x1, hx1, h⟩ := h
  refine jr_dadd jf_263_169 hx1 ?_
  refine jr_dstore jf_263_170 jml_263 (by decide) ?_
  exact r_R_turned_172 hd _ _ _ _ jg2_same h
set_option maxRecDepth 10000 in
set_option maxHeartbeats 4000000 in
theorem r_R_turned_141 {B : Nat} {SA : Nat → Nat} {d : Nat} (hd : 0 ≤ d) : ∀ (L : JLoc) (v9 : UInt64) (v11 : UInt64) (s0 : Bool) (μ : JMem) (r : UInt64), jget L 9 = .double v9 → jget L 11 = .double v11 → g_R_turned_141 v9 v11 s0 = some r → jR B SA d m_R_turned 141 L [.int (jb s0)] μ (some (.double r)) μ := by
  intro L v9 v11 s0 μ r hl9 hl11 h
  unfold g_R_turned_141 at h
  refine jr_istore jf_263_141 jml_263 (by decide) ?_
  refine jr_dload jf_263_143 (jg1_ne rfl hl11) ?_
  refine jr_ldc2d jf_263_145 ?_
  refine jr_dcmp jf_263_148 ?_
  replace h := ite_or h; rcases h with ⟨hc, h⟩ | ⟨hc, h⟩
  · refine jr_if_gt_t jf_263_149 hc ?_
    exact r_R_turned_166 hd _ _ _ _ (jg1_ne rfl hl9) h
  · refine jr_if_gt_f jf_263_149 hc ?_
    refine jr_dload jf_263_152 (jg1_ne rfl hl11) ?_
    refine jr_ldc2d jf_263_154 ?_
    refine jr_dcmp jf_263_157 ?_
    replace h := ite_or h; rcases h with ⟨hc, h⟩ | ⟨hc, h⟩
    · refine jr_if_ne_f jf_263_158 hc ?_
      refine jr_iload jf_263_161 jg1_same ?_
      replace h := ite_or h; rcases h with ⟨hc, h⟩ | ⟨hc, h⟩
      · refine jr_ifz_eq_f jf_263_163 hc ?_
        exact r_R_turned_166 hd _ _ _ _ (jg1_ne rfl hl9) h
      · refine jr_ifz_eq_t jf_263_163 hc ?_
        exact r_R_turned_172 hd _ _ _ _ (jg1_ne rfl hl9) h
    · refine jr_if_ne_t jf_263_158 hc ?_
      exact r_R_turned_172 hd _ _ _ _ (jg1_ne rfl hl9) h
set_option maxRecDepth 10000 in
set_option maxHeartbeats 4000000 in
theorem r_R_turned_119 {B : Nat} {SA : Nat → Nat} {d : Nat} (hd : 0 ≤ d) : ∀ (L : JLoc) (v7 : UInt64) (v9 : UInt64) (μ : JMem) (r : UInt64), jget L 7 = .double v7 → jget L 9 = .double v9 → g_R_turned_119 v7 v9 = some r → jR B SA d m_R_turned 119 L [] μ (some (.double r)) μ := by
  intro L v7 v9 μ r hl7 hl9 h
  unfold g_R_turned_119 at h
  refine jr_dload jf_263_119 hl7 ?_
  refine jr_dload jf_263_121 hl9 ?_
  replace h := obd_of h; obtain ⟨x1, hx1, h⟩ := h
  refine jr_dsub jf_263_123 hx1 ?_
  refine jr_dstore jf_263_124 jml_263 (by decide) ?_
  refine jr_dload jf_263_126 (jg2_ne rfl hl9) ?_
  refine jr_d2l jf_263_128 ?_
  refine jr_lconst1 jf_263_129 ?_
  refine jr_land jf_263_130 ?_
  refine jr_lconst1 jf_263_131 ?_
  refine jr_lcmp jf_263_132 ?_
  replace h := ite_or h; rcases h with ⟨hc, h⟩ | ⟨hc, h⟩
  · refine jr_ifl_ne_f jf_263_133 hc ?_
    refine jr_iconst jf_263_136 jc_i_1 ?_
    refine jr_goto jf_263_137 ?_
    exact r_R_turned_141 hd _ _ _ true _ _ (jg2_ne rfl hl9) jg2_same h
  · refine jr_ifl_ne_t jf_263_133 hc ?_
    refine jr_iconst jf_263_140 jc_i_0 ?_
    exact r_R_turned_141 hd _ _ _ false _ _ (jg2_ne rfl hl9) jg2_same h
set_option maxRecDepth 10000 in
set_option maxHeartbeats 4000000 in
theorem r_R_turned_75 {B : Nat} {SA : Nat → Nat} {d : Nat} (hd : 0 ≤ d) : ∀ (L : JLoc) (s0 : UInt64) (μ : JMem) (r : UInt64), g_R_turned_75 s0 = some r → jR B SA d m_R_turned 75 L [.double s0] μ (some (.double r)) μ := by
  intro L s0 μ r h
  unfold g_R_turned_75 at h
  refine jr_dstore jf_263_75 jml_263 (by decide) ?_
  refine jr_dload jf_263_77 jg2_same ?_
  refine jr_ldc2d jf_263_79 ?_
  refine jr_dcmp jf_263_82 ?_
  replace h := ite_or h; rcases h with ⟨hc, h⟩ | ⟨hc, h⟩
  · refine jr_if_le_t jf_263_83 hc ?_
    refine jr_ldc2d jf_263_95 ?_
    obtain rfl := Option.some.inj h
    exact jr_retD jf_263_98 jmt_263
  · refine jr_if_le_f jf_263_83 hc ?_
    refine jr_dload jf_263_86 jg2_same ?_
    refine jr_ldc2d jf_263_88 ?_
    refine jr_dcmp jf_263_91 ?_
    replace h := ite_or h; rcases h with ⟨hc, h⟩ | ⟨hc, h⟩
    · refine jr_if_lt_t jf_263_92 hc ?_
      refine jr_dload jf_263_99 jg2_same ?_
      refine jr_d2l jf_263_101 ?_
      refine jr_l2d jf_263_102 ?_
      refine jr_dstore jf_263_103 jml_263 (by decide) ?_
      refine jr_dload jf_263_105 jg2_same ?_
      refine jr_dload jf_263_107 (jg2_ne rfl jg2_same) ?_
      refine jr_dcmp jf_263_109 ?_
      replace h := ite_or h; rcases h with ⟨hc, h⟩ | ⟨hc, h⟩
      · refine jr_if_le_t jf_263_110 hc ?_
        exact r_R_turned_119 hd _ _ _ _ _ (jg2_ne rfl jg2_same) jg2_same h
      · refine jr_if_le_f jf_263_110 hc ?_
        refine jr_dload jf_263_113 jg2_same ?_
        refine jr_dconst1 jf_263_115 ?_
        replace h := obd_of h; obtain ⟨x1, hx1, h⟩ := h
        refine jr_dsub jf_263_116 hx1 ?_
        refine jr_dstore jf_263_117 jml_263 (by decide) ?_
        exact r_R_turned_119 hd _ _ _ _ _ (jg2_ne rfl (jg2_ne rfl jg2_same)) jg2_same h
    · refine jr_if_lt_f jf_263_92 hc ?_
      refine jr_ldc2d jf_263_95 ?_
      obtain rfl := Option.some.inj h
      exact jr_retD jf_263_98 jmt_263
set_option maxRecDepth 10000 in
set_option maxHeartbeats 4000000 in
theorem r_R_turned_40 {B : Nat} {SA : Nat → Nat} {d : Nat} (hd : 0 ≤ d) : ∀ (L : JLoc) (v3 : Int32) (v4 : Bool) (s0 : UInt64) (μ : JMem) (r : UInt64), jget L 3 = .int v3 → jget L 4 = .int (jb v4) → g_R_turned_40 v3 v4 s0 = some r → jR B SA d m_R_turned 40 L [.double s0] μ (some (.double r)) μ := by
  intro L v3 v4 s0 μ r hl3 hl4 h
  unfold g_R_turned_40 at h
  refine jr_dstore jf_263_40 jml_263 (by decide) ?_
  refine jr_iload_n jf_263_42 rfl (jg2_ne rfl hl3) ?_
  replace h := ite_or h; rcases h with ⟨hc, h⟩ | ⟨hc, h⟩
  · refine jr_if_ne_f jf_263_43 hc ?_
    refine jr_dload jf_263_46 jg2_same ?_
    obtain rfl := Option.some.inj h
    exact jr_retD jf_263_48 jmt_263
  · refine jr_if_ne_t jf_263_43 hc ?_
    refine jr_iload_n jf_263_49 rfl (jg2_ne rfl hl3) ?_
    refine jr_iconst jf_263_50 jc_i_1 ?_
    replace h := ite_or h; rcases h with ⟨hc, h⟩ | ⟨hc, h⟩
    · refine jr_if2_ne_f jf_263_51 hc ?_
      refine jr_dload jf_263_54 jg2_same ?_
      replace h := obd_of h; obtain ⟨x1, hx1, h⟩ := h
      refine jr_d2f jf_263_56 hx1 ?_
      replace h := obd_of h; obtain ⟨x2, hx2, h⟩ := h
      refine jr_f2d jf_263_57 hx2 ?_
      obtain rfl := Option.some.inj h
      exact jr_retD jf_263_58 jmt_263
    · refine jr_if2_ne_t jf_263_51 hc ?_
      refine jr_iload jf_263_59 (jg2_pre rfl hl4) ?_
      replace h := ite_or h; rcases h with ⟨hc, h⟩ | ⟨hc, h⟩
      · refine jr_ifz_eq_f jf_263_61 hc ?_
        refine jr_dload jf_263_64 jg2_same ?_
        refine jr_goto jf_263_66 ?_
        exact r_R_turned_75 hd _ _ _ _ h
      · refine jr_ifz_eq_t jf_263_61 hc ?_
        refine jr_ldc2d jf_263_69 ?_
        refine jr_dload jf_263_72 jg2_same ?_
        replace h := obd_of h; obtain ⟨x3, hx3, h⟩ := h
        refine jr_dmul jf_263_74 hx3 ?_
        exact r_R_turned_75 hd _ _ _ _ h
set_option maxRecDepth 10000 in
set_option maxHeartbeats 4000000 in
theorem r_R_turned_39 {B : Nat} {SA : Nat → Nat} {d : Nat} (hd : 0 ≤ d) : ∀ (L : JLoc) (v0 : UInt64) (v3 : Int32) (v4 : Bool) (μ : JMem) (r : UInt64), jget L 0 = .double v0 → jget L 3 = .int v3 → jget L 4 = .int (jb v4) → g_R_turned_39 v0 v3 v4 = some r → jR B SA d m_R_turned 39 L [] μ (some (.double r)) μ := by
  intro L v0 v3 v4 μ r hl0 hl3 hl4 h
  unfold g_R_turned_39 at h
  refine jr_dload_n jf_263_39 rfl hl0 ?_
  exact r_R_turned_40 hd _ _ _ _ _ _ hl3 hl4 h
set_option maxRecDepth 10000 in
set_option maxHeartbeats 4000000 in
theorem r_R_turned_e {B : Nat} {SA : Nat → Nat} {d : Nat} (hd : 0 ≤ d) : ∀ (L : JLoc) (v0 : UInt64) (v2 : Int32) (v3 : Int32) (v4 : Bool) (μ : JMem) (r : UInt64), jget L 0 = .double v0 → jget L 2 = .int v2 → jget L 3 = .int v3 → jget L 4 = .int (jb v4) → g_R_turned v0 v2 v3 v4 = some r → jR B SA d m_R_turned 0 L [] μ (some (.double r)) μ := by
  intro L v0 v2 v3 v4 μ r hl0 hl2 hl3 hl4 h
  unfold g_R_turned at h
  refine jr_dload_n jf_263_0 rfl hl0 ?_
  refine jr_dload_n jf_263_1 rfl hl0 ?_
  refine jr_dcmp jf_263_2 ?_
  replace h := ite_or h; rcases h with ⟨hc, h⟩ | ⟨hc, h⟩
  · refine jr_if_eq_t jf_263_3 hc ?_
    refine jr_iload_n jf_263_21 rfl hl2 ?_
    refine jr_iconst jf_263_22 jc_i_2 ?_
    replace h := ite_or h; rcases h with ⟨hc, h⟩ | ⟨hc, h⟩
    · refine jr_if2_ne_f jf_263_23 hc ?_
      refine jr_iload jf_263_26 hl4 ?_
      replace h := ite_or h; rcases h with ⟨hc, h⟩ | ⟨hc, h⟩
      · refine jr_ifz_ne_t jf_263_28 hc ?_
        exact r_R_turned_39 hd _ _ _ _ _ _ hl0 hl3 hl4 h
      · refine jr_ifz_ne_f jf_263_28 hc ?_
        refine jr_dload_n jf_263_31 rfl hl0 ?_
        refine jr_ldc2d jf_263_32 ?_
        replace h := obd_of h; obtain ⟨x1, hx1, h⟩ := h
        refine jr_ddiv jf_263_35 hx1 ?_
        refine jr_goto jf_263_36 ?_
        exact r_R_turned_40 hd _ _ _ _ _ _ hl3 hl4 h
    · refine jr_if2_ne_t jf_263_23 hc ?_
      exact r_R_turned_39 hd _ _ _ _ _ _ hl0 hl3 hl4 h
  · refine jr_if_eq_f jf_263_3 hc ?_
    refine jr_iload_n jf_263_6 rfl hl3 ?_
    refine jr_iconst jf_263_7 jc_i_2 ?_
    replace h := ite_or h; rcases h with ⟨hc, h⟩ | ⟨hc, h⟩
    · refine jr_if2_ne_f jf_263_8 hc ?_
      refine jr_ldc2d jf_263_11 ?_
      refine jr_goto jf_263_14 ?_
      obtain rfl := Option.some.inj h
      exact jr_retD jf_263_20 jmt_263
    · refine jr_if2_ne_t jf_263_8 hc ?_
      refine jr_ldc2d jf_263_17 ?_
      obtain rfl := Option.some.inj h
      exact jr_retD jf_263_20 jmt_263
set_option maxRecDepth 10000 in
set_option maxHeartbeats 4000000 in
theorem r_R_turned {B : Nat} {SA : Nat → Nat} {d : Nat} (hd : 0 ≤ d) : ∀ (v0 : UInt64) (v2 : Int32) (v3 : Int32) (v4 : Bool) (μ : JMem) (r : UInt64), g_R_turned v0 v2 v3 v4 = some r → jR B SA d m_R_turned 0 (lv_args 0 [.double v0, .int v2, .int v3, .int (jb v4)]) [] μ (some (.double r)) μ := by
  intro v0 v2 v3 v4 μ r h
  exact r_R_turned_e hd (lv_args 0 _) _ _ _ _ _ _ (by simp [lv_args, jget, rv_cat, cat_int, cat_long, cat_double, cat_float, cat_ref]) (by simp [lv_args, jget, rv_cat, cat_int, cat_long, cat_double, cat_float, cat_ref]) (by simp [lv_args, jget, rv_cat, cat_int, cat_long, cat_double, cat_float, cat_ref]) (by simp [lv_args, jget, rv_cat, cat_int, cat_long, cat_double, cat_float, cat_ref]) h
/-! FilterBenchModel.gathers(III)I -/
set_option maxRecDepth 10000 in
set_option maxHeartbeats 4000000 in
theorem r_R_gathers_55 {N B : Nat} {SA : Nat → Nat} {d : Nat} (hd : 1 ≤ d) : ∀ (n : Nat), ∀ (L : JLoc) (v0 : Nat) (v1 : Int32) (v2 : Int32) (v3 : Int32) (v4 : Int32) (v5 : Int32) (μ : JMem) (r : Int32) (μ9 : JMem), jget L 0 = .ref v0 → jget L 1 = .int v1 → jget L 2 = .int v2 → jget L 3 = .int v3 → jget L 4 = .int v4 → jget L 5 = .int v5 → g_R_gathers_55 N B n v0 v1 v2 v3 v4 v5 μ = some (r, μ9) → jR B SA d m_R_gathers 55 L [] μ (some (.int r)) μ9 := by
  intro n
  induction n with
  | zero =>
    intro L v0 v1 v2 v3 v4 v5 μ r μ9 hl0 hl1 hl2 hl3 hl4 hl5 h
    unfold g_R_gathers_55 at h
    cases h
  | succ n ih =>
    intro L v0 v1 v2 v3 v4 v5 μ r μ9 hl0 hl1 hl2 hl3 hl4 hl5 h
    unfold g_R_gathers_55 at h
    refine jr_iload jf_265_55 hl5 ?_
    refine jr_iconst jf_265_57 jc_i_3 ?_
    refine jr_iload_n jf_265_58 rfl hl1 ?_
    refine jr_imul jf_265_59 ?_
    refine jr_aload_n jf_265_60 rfl hl0 ?_
    replace h := obd_of h; obtain ⟨x1, hx1, h⟩ := h
    refine jr_getA jf_265_61 hx1 ?_
    refine jr_iload_n jf_265_64 rfl hl1 ?_
    replace h := obd_of h; obtain ⟨a2, rfl, h⟩ := h
    replace h := obd_of h; obtain ⟨x3, hx3, h⟩ := h
    refine jr_iaload jf_265_65 hx3 ?_
    refine jr_iadd jf_265_66 ?_
    replace h := ite_or h; rcases h with ⟨hc, h⟩ | ⟨hc, h⟩
    · refine jr_if2_ge_t jf_265_67 hc ?_
      refine jr_iload jf_265_117 hl4 ?_
      obtain ⟨rfl, rfl⟩ := Prod.mk.inj (Option.some.inj h)
      exact jr_retI jf_265_119 jmt_265
    · refine jr_if2_ge_f jf_265_67 hc ?_
      refine jr_aload_n jf_265_70 rfl hl0 ?_
      refine jr_iload jf_265_71 hl4 ?_
      refine jr_aload_n jf_265_73 rfl hl0 ?_
      replace h := obd_of h; obtain ⟨x4, hx4, h⟩ := h
      refine jr_getA jf_265_74 hx4 ?_
      refine jr_iload jf_265_77 hl5 ?_
      replace h := obd_of h; obtain ⟨a5, rfl, h⟩ := h
      replace h := obd_of h; obtain ⟨x6, hx6, h⟩ := h
      refine jr_iaload jf_265_79 hx6 ?_
      refine jr_aload_n jf_265_80 rfl hl0 ?_
      replace h := obd_of h; obtain ⟨x7, hx7, h⟩ := h
      refine jr_getA jf_265_81 hx7 ?_
      refine jr_iload jf_265_84 hl5 ?_
      replace h := obd_of h; obtain ⟨a8, rfl, h⟩ := h
      replace h := obd_of h; obtain ⟨x9, hx9, h⟩ := h
      refine jr_iaload jf_265_86 hx9 ?_
      refine jr_aload_n jf_265_87 rfl hl0 ?_
      replace h := obd_of h; obtain ⟨x10, hx10, h⟩ := h
      refine jr_getA jf_265_88 hx10 ?_
      refine jr_iload jf_265_91 hl5 ?_
      replace h := obd_of h; obtain ⟨a11, rfl, h⟩ := h
      replace h := obd_of h; obtain ⟨x12, hx12, h⟩ := h
      refine jr_iaload jf_265_93 hx12 ?_
      refine jr_aload_n jf_265_94 rfl hl0 ?_
      replace h := obd_of h; obtain ⟨x13, hx13, h⟩ := h
      refine jr_getA jf_265_95 hx13 ?_
      refine jr_iload jf_265_98 hl5 ?_
      replace h := obd_of h; obtain ⟨a14, rfl, h⟩ := h
      replace h := obd_of h; obtain ⟨x15, hx15, h⟩ := h
      refine jr_daload jf_265_100 hx15 ?_
      refine jr_iload_n jf_265_101 rfl hl2 ?_
      refine jr_iload_n jf_265_102 rfl hl3 ?_
      refine jr_iconst jf_265_103 jc_i_0 ?_
      replace h := obd_of h; obtain ⟨x16, hx16, h⟩ := h
      refine jr_S3_4 jf_265_104 (by omega) (r_R_turned (by omega) _ _ _ _ _ _ hx16) (Nat.le_of_ble_eq_true rfl) jml_263 (Nat.le_of_ble_eq_true rfl) ?_
      replace h := jgd_of h; obtain ⟨hb17, h⟩ := h
      replace h := jbd2_of h; obtain ⟨x18, μ19, hx18, h⟩ := h
      refine jr_V6_5 jf_265_107 hb17 (by omega) (r_R_newLoop (by omega) _ _ _ _ _ _ _ _ _ hx18) (Nat.le_of_ble_eq_true rfl) jml_209 (Nat.le_of_ble_eq_true rfl) ?_
      refine jr_pop jf_265_110 rfl ?_
      refine jr_iinc jf_265_111 jc_i_1 jml_265 (by decide) hl5 ?_
      refine jr_goto jf_265_114 ?_
      exact ih _ _ _ _ _ _ _ _ _ _ (jg1_ne rfl hl0) (jg1_ne rfl hl1) (jg1_ne rfl hl2) (jg1_ne rfl hl3) (jg1_pre rfl hl4) jg1_same h
set_option maxRecDepth 10000 in
set_option maxHeartbeats 4000000 in
theorem r_R_gathers_9 {N B : Nat} {SA : Nat → Nat} {d : Nat} (hd : 1 ≤ d) : ∀ (n : Nat), ∀ (L : JLoc) (v0 : Nat) (v1 : Int32) (v2 : Int32) (v3 : Int32) (v4 : Int32) (v5 : Int32) (μ : JMem) (r : Int32) (μ9 : JMem), jget L 0 = .ref v0 → jget L 1 = .int v1 → jget L 2 = .int v2 → jget L 3 = .int v3 → jget L 4 = .int v4 → jget L 5 = .int v5 → g_R_gathers_9 N B n v0 v1 v2 v3 v4 v5 μ = some (r, μ9) → jR B SA d m_R_gathers 9 L [] μ (some (.int r)) μ9 := by
  intro n
  induction n with
  | zero =>
    intro L v0 v1 v2 v3 v4 v5 μ r μ9 hl0 hl1 hl2 hl3 hl4 hl5 h
    unfold g_R_gathers_9 at h
    cases h
  | succ n ih =>
    intro L v0 v1 v2 v3 v4 v5 μ r μ9 hl0 hl1 hl2 hl3 hl4 hl5 h
    unfold g_R_gathers_9 at h
    refine jr_iload jf_265_9 hl5 ?_
    refine jr_aload_n jf_265_11 rfl hl0 ?_
    replace h := obd_of h; obtain ⟨x1, hx1, h⟩ := h
    refine jr_getA jf_265_12 hx1 ?_
    refine jr_iload_n jf_265_15 rfl hl1 ?_
    replace h := obd_of h; obtain ⟨a2, rfl, h⟩ := h
    replace h := obd_of h; obtain ⟨x3, hx3, h⟩ := h
    refine jr_iaload jf_265_16 hx3 ?_
    replace h := ite_or h; rcases h with ⟨hc, h⟩ | ⟨hc, h⟩
    · refine jr_if2_ge_t jf_265_17 hc ?_
      refine jr_iconst jf_265_50 jc_i_3 ?_
      refine jr_iload_n jf_265_51 rfl hl1 ?_
      refine jr_imul jf_265_52 ?_
      refine jr_istore jf_265_53 jml_265 (by decide) ?_
      exact r_R_gathers_55 hd _ _ _ _ _ _ _ _ _ _ _ (jg1_ne rfl hl0) (jg1_ne rfl hl1) (jg1_ne rfl hl2) (jg1_ne rfl hl3) (jg1_pre rfl hl4) jg1_same h
    · refine jr_if2_ge_f jf_265_17 hc ?_
      refine jr_aload_n jf_265_20 rfl hl0 ?_
      refine jr_iload jf_265_21 hl4 ?_
      refine jr_aload_n jf_265_23 rfl hl0 ?_
      replace h := obd_of h; obtain ⟨x4, hx4, h⟩ := h
      refine jr_getA jf_265_24 hx4 ?_
      refine jr_aload_n jf_265_27 rfl hl0 ?_
      replace h := obd_of h; obtain ⟨x5, hx5, h⟩ := h
      refine jr_getA jf_265_28 hx5 ?_
      refine jr_bipush jf_265_31 jc_b_10 ?_
      refine jr_iload_n jf_265_33 rfl hl1 ?_
      refine jr_imul jf_265_34 ?_
      refine jr_iload jf_265_35 hl5 ?_
      refine jr_iadd jf_265_37 ?_
      replace h := obd_of h; obtain ⟨a6, rfl, h⟩ := h
      replace h := obd_of h; obtain ⟨x7, hx7, h⟩ := h
      refine jr_iaload jf_265_38 hx7 ?_
      replace h := obd_of h; obtain ⟨a8, rfl, h⟩ := h
      replace h := obd_of h; obtain ⟨x9, hx9, h⟩ := h
      refine jr_iaload jf_265_39 hx9 ?_
      replace h := jgd_of h; obtain ⟨hb10, h⟩ := h
      replace h := jbd2_of h; obtain ⟨x11, μ12, hx11, h⟩ := h
      refine jr_V6_2 jf_265_40 hb10 (by omega) (r_R_join (by omega) _ _ _ _ _ _ hx11) (Nat.le_of_ble_eq_true rfl) jml_207 (Nat.le_of_ble_eq_true rfl) ?_
      refine jr_pop jf_265_43 rfl ?_
      refine jr_iinc jf_265_44 jc_i_1 jml_265 (by decide) hl5 ?_
      refine jr_goto jf_265_47 ?_
      exact ih _ _ _ _ _ _ _ _ _ _ (jg1_ne rfl hl0) (jg1_ne rfl hl1) (jg1_ne rfl hl2) (jg1_ne rfl hl3) (jg1_pre rfl hl4) jg1_same h
set_option maxRecDepth 10000 in
set_option maxHeartbeats 4000000 in
theorem r_R_gathers_e {N B : Nat} {SA : Nat → Nat} {d : Nat} (hd : 1 ≤ d) : ∀ (L : JLoc) (v0 : Nat) (v1 : Int32) (v2 : Int32) (v3 : Int32) (μ : JMem) (r : Int32) (μ9 : JMem), jget L 0 = .ref v0 → jget L 1 = .int v1 → jget L 2 = .int v2 → jget L 3 = .int v3 → g_R_gathers N B v0 v1 v2 v3 μ = some (r, μ9) → jR B SA d m_R_gathers 0 L [] μ (some (.int r)) μ9 := by
  intro L v0 v1 v2 v3 μ r μ9 hl0 hl1 hl2 hl3 h
  unfold g_R_gathers at h
  refine jr_aload_n jf_265_0 rfl hl0 ?_
  replace h := jgd_of h; obtain ⟨hb1, h⟩ := h
  replace h := jbd2_of h; obtain ⟨x2, μ3, hx2, h⟩ := h
  refine jr_V6_0 jf_265_1 hb1 (by omega) (r_R_newChain (by omega) _ _ _ _ hx2) (Nat.le_of_ble_eq_true rfl) jml_202 (Nat.le_of_ble_eq_true rfl) ?_
  refine jr_istore jf_265_4 jml_265 (by decide) ?_
  refine jr_iconst jf_265_6 jc_i_0 ?_
  refine jr_istore jf_265_7 jml_265 (by decide) ?_
  exact r_R_gathers_9 hd _ _ _ _ _ _ _ _ _ _ _ (jg1_ne rfl (jg1_ne rfl hl0)) (jg1_ne rfl (jg1_ne rfl hl1)) (jg1_ne rfl (jg1_ne rfl hl2)) (jg1_ne rfl (jg1_pre rfl hl3)) (jg1_pre rfl jg1_same) jg1_same h
set_option maxRecDepth 10000 in
set_option maxHeartbeats 4000000 in
theorem r_R_gathers {N B : Nat} {SA : Nat → Nat} {d : Nat} (hd : 1 ≤ d) : ∀ (v0 : Nat) (v1 : Int32) (v2 : Int32) (v3 : Int32) (μ : JMem) (r : Int32) (μ9 : JMem), g_R_gathers N B v0 v1 v2 v3 μ = some (r, μ9) → jR B SA d m_R_gathers 0 (lv_args 0 [.ref v0, .int v1, .int v2, .int v3]) [] μ (some (.int r)) μ9 := by
  intro v0 v1 v2 v3 μ r μ9 h
  exact r_R_gathers_e hd (lv_args 0 _) _ _ _ _ _ _ _ (by simp [lv_args, jget, rv_cat, cat_int, cat_long, cat_double, cat_float, cat_ref]) (by simp [lv_args, jget, rv_cat, cat_int, cat_long, cat_double, cat_float, cat_ref]) (by simp [lv_args, jget, rv_cat, cat_int, cat_long, cat_double, cat_float, cat_ref]) (by simp [lv_args, jget, rv_cat, cat_int, cat_long, cat_double, cat_float, cat_ref]) h
/-! FilterBenchModel.anew(II)I -/
set_option maxRecDepth 10000 in
set_option maxHeartbeats 4000000 in
theorem r_R_anew_295 {N B : Nat} {SA : Nat → Nat} {d : Nat} (hd : 2 ≤ d) {k47 : Nat → Int32 → Int32 → Int32 → Int32 → JMem → Option (Int32 × JMem)} (i47 : ∀ (L : JLoc) (v0 : Nat) (v1 : Int32) (v2 : Int32) (v3 : Int32) (v4 : Int32) (μ : JMem) (r : Int32) (μ9 : JMem), jget L 0 = .ref v0 → jget L 1 = .int v1 → jget L 2 = .int v2 → jget L 3 = .int v3 → jget L 4 = .int v4 → k47 v0 v1 v2 v3 v4 μ = some (r, μ9) → jR B SA d m_R_anew 47 L [] μ (some (.int r)) μ9) : ∀ (L : JLoc) (v0 : Nat) (v1 : Int32) (v2 : Int32) (v3 : Int32) (v4 : Int32) (v7 : Int32) (v8 : Int32) (μ : JMem) (r : Int32) (μ9 : JMem), jget L 0 = .ref v0 → jget L 1 = .int v1 → jget L 2 = .int v2 → jget L 3 = .int v3 → jget L 4 = .int v4 → jget L 7 = .int v7 → jget L 8 = .int v8 → g_R_anew_295 N B k47 v0 v1 v2 v3 v4 v7 v8 μ = some (r, μ9) → jR B SA d m_R_anew 295 L [] μ (some (.int r)) μ9 := by
  intro L v0 v1 v2 v3 v4 v7 v8 μ r μ9 hl0 hl1 hl2 hl3 hl4 hl7 hl8 h
  unfold g_R_anew_295 at h
  refine jr_aload_n jf_264_295 rfl hl0 ?_
  replace h := obd_of h; obtain ⟨x1, hx1, h⟩ := h
  refine jr_getA jf_264_296 hx1 ?_
  refine jr_iload jf_264_299 hl7 ?_
  refine jr_iload jf_264_301 hl8 ?_
  replace h := obd_of h; obtain ⟨a2, rfl, h⟩ := h
  replace h := obd_of h; obtain ⟨μ3, hμ3, h⟩ := h
  refine jr_iastore jf_264_303 hμ3 ?_
  refine jr_aload_n jf_264_304 rfl hl0 ?_
  replace h := obd_of h; obtain ⟨x4, hx4, h⟩ := h
  refine jr_getA jf_264_305 hx4 ?_
  refine jr_iload jf_264_308 hl4 ?_
  refine jr_iconst jf_264_310 jc_i_1 ?_
  refine jr_isub jf_264_311 ?_
  refine jr_dup2_1 jf_264_312 rfl (rv_cat _) ?_
  replace h := obd_of h; obtain ⟨a5, rfl, h⟩ := h
  replace h := obd_of h; obtain ⟨x6, hx6, h⟩ := h
  refine jr_iaload jf_264_313 hx6 ?_
  refine jr_iconst jf_264_314 jc_i_1 ?_
  refine jr_iadd jf_264_315 ?_
  replace h := obd_of h; obtain ⟨μ7, hμ7, h⟩ := h
  refine jr_iastore jf_264_316 hμ7 ?_
  refine jr_aload_n jf_264_317 rfl hl0 ?_
  replace h := obd_of h; obtain ⟨x8, hx8, h⟩ := h
  refine jr_getA jf_264_318 hx8 ?_
  refine jr_iload jf_264_321 hl7 ?_
  replace h := obd_of h; obtain ⟨a9, rfl, h⟩ := h
  replace h := obd_of h; obtain ⟨x10, hx10, h⟩ := h
  refine jr_iaload jf_264_323 hx10 ?_
  refine jr_iconst jf_264_324 jc_i_m1 ?_
  replace h := ite_or h; rcases h with ⟨hc, h⟩ | ⟨hc, h⟩
  · refine jr_if2_ne_f jf_264_325 hc ?_
    refine jr_goto jf_264_328 ?_
    exact i47 _ _ _ _ _ _ _ _ _ hl0 hl1 hl2 hl3 hl4 h
  · refine jr_if2_ne_t jf_264_325 hc ?_
    refine jr_aload_n jf_264_331 rfl hl0 ?_
    replace h := obd_of h; obtain ⟨x11, hx11, h⟩ := h
    refine jr_getA jf_264_332 hx11 ?_
    refine jr_iload jf_264_335 hl8 ?_
    refine jr_aload_n jf_264_337 rfl hl0 ?_
    replace h := obd_of h; obtain ⟨x12, hx12, h⟩ := h
    refine jr_getA jf_264_338 hx12 ?_
    refine jr_aload_n jf_264_341 rfl hl0 ?_
    replace h := obd_of h; obtain ⟨x13, hx13, h⟩ := h
    refine jr_getA jf_264_342 hx13 ?_
    refine jr_iload jf_264_345 hl7 ?_
    replace h := obd_of h; obtain ⟨a14, rfl, h⟩ := h
    replace h := obd_of h; obtain ⟨x15, hx15, h⟩ := h
    refine jr_iaload jf_264_347 hx15 ?_
    replace h := obd_of h; obtain ⟨a16, rfl, h⟩ := h
    replace h := obd_of h; obtain ⟨x17, hx17, h⟩ := h
    refine jr_iaload jf_264_348 hx17 ?_
    replace h := obd_of h; obtain ⟨a18, rfl, h⟩ := h
    replace h := obd_of h; obtain ⟨μ19, hμ19, h⟩ := h
    refine jr_iastore jf_264_349 hμ19 ?_
    refine jr_aload_n jf_264_350 rfl hl0 ?_
    replace h := obd_of h; obtain ⟨x20, hx20, h⟩ := h
    refine jr_getA jf_264_351 hx20 ?_
    refine jr_aload_n jf_264_354 rfl hl0 ?_
    replace h := obd_of h; obtain ⟨x21, hx21, h⟩ := h
    refine jr_getA jf_264_355 hx21 ?_
    refine jr_iload jf_264_358 hl8 ?_
    replace h := obd_of h; obtain ⟨a22, rfl, h⟩ := h
    replace h := obd_of h; obtain ⟨x23, hx23, h⟩ := h
    refine jr_iaload jf_264_360 hx23 ?_
    refine jr_iload jf_264_361 hl8 ?_
    replace h := obd_of h; obtain ⟨a24, rfl, h⟩ := h
    replace h := obd_of h; obtain ⟨μ25, hμ25, h⟩ := h
    refine jr_iastore jf_264_363 hμ25 ?_
    refine jr_goto jf_264_364 ?_
    exact i47 _ _ _ _ _ _ _ _ _ hl0 hl1 hl2 hl3 hl4 h
set_option maxRecDepth 10000 in
set_option maxHeartbeats 4000000 in
theorem r_R_anew_201 {N B : Nat} {SA : Nat → Nat} {d : Nat} (hd : 2 ≤ d) {k47 : Nat → Int32 → Int32 → Int32 → Int32 → JMem → Option (Int32 × JMem)} (i47 : ∀ (L : JLoc) (v0 : Nat) (v1 : Int32) (v2 : Int32) (v3 : Int32) (v4 : Int32) (μ : JMem) (r : Int32) (μ9 : JMem), jget L 0 = .ref v0 → jget L 1 = .int v1 → jget L 2 = .int v2 → jget L 3 = .int v3 → jget L 4 = .int v4 → k47 v0 v1 v2 v3 v4 μ = some (r, μ9) → jR B SA d m_R_anew 47 L [] μ (some (.int r)) μ9) : ∀ (n : Nat), ∀ (L : JLoc) (v0 : Nat) (v1 : Int32) (v2 : Int32) (v3 : Int32) (v4 : Int32) (v7 : Int32) (v8 : Int32) (v9 : Int32) (μ : JMem) (r : Int32) (μ9 : JMem), jget L 0 = .ref v0 → jget L 1 = .int v1 → jget L 2 = .int v2 → jget L 3 = .int v3 → jget L 4 = .int v4 → jget L 7 = .int v7 → jget L 8 = .int v8 → jget L 9 = .int v9 → g_R_anew_201 N B k47 n v0 v1 v2 v3 v4 v7 v8 v9 μ = some (r, μ9) → jR B SA d m_R_anew 201 L [] μ (some (.int r)) μ9 := by
  intro n
  induction n with
  | zero =>
    intro L v0 v1 v2 v3 v4 v7 v8 v9 μ r μ9 hl0 hl1 hl2 hl3 hl4 hl7 hl8 hl9 h
    unfold g_R_anew_201 at h
    cases h
  | succ n ih =>
    intro L v0 v1 v2 v3 v4 v7 v8 v9 μ r μ9 hl0 hl1 hl2 hl3 hl4 hl7 hl8 hl9 h
    unfold g_R_anew_201 at h
    refine jr_iload jf_264_201 hl9 ?_
    refine jr_aload_n jf_264_203 rfl hl0 ?_
    replace h := obd_of h; obtain ⟨x1, hx1, h⟩ := h
    refine jr_getA jf_264_204 hx1 ?_
    refine jr_iload jf_264_207 hl7 ?_
    replace h := obd_of h; obtain ⟨a2, rfl, h⟩ := h
    replace h := obd_of h; obtain ⟨x3, hx3, h⟩ := h
    refine jr_iaload jf_264_209 hx3 ?_
    refine jr_S3_1 jf_264_210 (by omega) (r_R_coefficientsOf (by omega) _ _ _ rfl) (Nat.le_of_ble_eq_true rfl) jml_194 (Nat.le_of_ble_eq_true rfl) ?_
    replace h := ite_or h; rcases h with ⟨hc, h⟩ | ⟨hc, h⟩
    · refine jr_if2_ge_t jf_264_213 hc ?_
      refine jr_iload_n jf_264_257 rfl hl3 ?_
      refine jr_iconst jf_264_258 jc_i_2 ?_
      replace h := ite_or h; rcases h with ⟨hc, h⟩ | ⟨hc, h⟩
      · refine jr_if2_ne_f jf_264_259 hc ?_
        refine jr_iload_n jf_264_262 rfl hl2 ?_
        refine jr_iconst jf_264_263 jc_i_2 ?_
        replace h := ite_or h; rcases h with ⟨hc, h⟩ | ⟨hc, h⟩
        · refine jr_if2_ne_f jf_264_264 hc ?_
          refine jr_aload_n jf_264_267 rfl hl0 ?_
          replace h := obd_of h; obtain ⟨x4, hx4, h⟩ := h
          refine jr_getA jf_264_268 hx4 ?_
          refine jr_iload jf_264_271 hl8 ?_
          refine jr_aload_n jf_264_273 rfl hl0 ?_
          replace h := obd_of h; obtain ⟨x5, hx5, h⟩ := h
          refine jr_getA jf_264_274 hx5 ?_
          refine jr_iload jf_264_277 hl7 ?_
          replace h := obd_of h; obtain ⟨a6, rfl, h⟩ := h
          replace h := obd_of h; obtain ⟨x7, hx7, h⟩ := h
          refine jr_iaload jf_264_279 hx7 ?_
          replace h := obd_of h; obtain ⟨a8, rfl, h⟩ := h
          replace h := obd_of h; obtain ⟨μ9, hμ9, h⟩ := h
          refine jr_iastore jf_264_280 hμ9 ?_
          refine jr_aload_n jf_264_281 rfl hl0 ?_
          replace h := obd_of h; obtain ⟨x10, hx10, h⟩ := h
          refine jr_getA jf_264_282 hx10 ?_
          refine jr_iload jf_264_285 hl8 ?_
          refine jr_aload_n jf_264_287 rfl hl0 ?_
          replace h := obd_of h; obtain ⟨x11, hx11, h⟩ := h
          refine jr_getA jf_264_288 hx11 ?_
          refine jr_iload jf_264_291 hl7 ?_
          replace h := obd_of h; obtain ⟨a12, rfl, h⟩ := h
          replace h := obd_of h; obtain ⟨x13, hx13, h⟩ := h
          refine jr_iaload jf_264_293 hx13 ?_
          replace h := obd_of h; obtain ⟨a14, rfl, h⟩ := h
          replace h := obd_of h; obtain ⟨μ15, hμ15, h⟩ := h
          refine jr_iastore jf_264_294 hμ15 ?_
          exact r_R_anew_295 hd i47 _ _ _ _ _ _ _ _ _ _ _ hl0 hl1 hl2 hl3 hl4 hl7 hl8 h
        · refine jr_if2_ne_t jf_264_264 hc ?_
          exact r_R_anew_295 hd i47 _ _ _ _ _ _ _ _ _ _ _ hl0 hl1 hl2 hl3 hl4 hl7 hl8 h
      · refine jr_if2_ne_t jf_264_259 hc ?_
        exact r_R_anew_295 hd i47 _ _ _ _ _ _ _ _ _ _ _ hl0 hl1 hl2 hl3 hl4 hl7 hl8 h
    · refine jr_if2_ge_f jf_264_213 hc ?_
      refine jr_aload_n jf_264_216 rfl hl0 ?_
      replace h := obd_of h; obtain ⟨x16, hx16, h⟩ := h
      refine jr_getA jf_264_217 hx16 ?_
      refine jr_iconst jf_264_220 jc_i_5 ?_
      refine jr_iload jf_264_221 hl8 ?_
      refine jr_imul jf_264_223 ?_
      refine jr_iload jf_264_224 hl9 ?_
      refine jr_iadd jf_264_226 ?_
      refine jr_aload_n jf_264_227 rfl hl0 ?_
      refine jr_iload jf_264_228 hl7 ?_
      refine jr_iload jf_264_230 hl9 ?_
      replace h := jgd_of h; obtain ⟨hb17, h⟩ := h
      replace h := obd_of h; obtain ⟨x18, hx18, h⟩ := h
      refine jr_V6_2 jf_264_232 hb17 (by omega) (r_R_c (by omega) _ _ _ _ _ hx18) (by simp only [jcats_cons, jcats_nil, cat_int, cat_long, cat_double, cat_float, cat_ref, rv_cat]; decide) jml_216 (Nat.le_of_ble_eq_true rfl) ?_
      refine jr_iload_n jf_264_235 rfl hl3 ?_
      refine jr_iload_n jf_264_236 rfl hl2 ?_
      refine jr_aload_n jf_264_237 rfl hl0 ?_
      replace h := obd_of h; obtain ⟨x19, hx19, h⟩ := h
      refine jr_getA jf_264_238 hx19 ?_
      refine jr_iload jf_264_241 hl7 ?_
      replace h := obd_of h; obtain ⟨a20, rfl, h⟩ := h
      replace h := obd_of h; obtain ⟨x21, hx21, h⟩ := h
      refine jr_iaload jf_264_243 hx21 ?_
      refine jr_S3_1 jf_264_244 (by omega) (r_R_isPlain (by omega) _ _ _ rfl) (by simp only [jcats_cons, jcats_nil, cat_int, cat_long, cat_double, cat_float, cat_ref, rv_cat]; decide) jml_198 (Nat.le_of_ble_eq_true rfl) ?_
      replace h := obd_of h; obtain ⟨x22, hx22, h⟩ := h
      refine jr_S3_4 jf_264_247 (by omega) (r_R_turned (by omega) _ _ _ _ _ _ hx22) (by simp only [jcats_cons, jcats_nil, cat_int, cat_long, cat_double, cat_float, cat_ref, rv_cat]; decide) jml_263 (Nat.le_of_ble_eq_true rfl) ?_
      replace h := obd_of h; obtain ⟨a23, rfl, h⟩ := h
      replace h := obd_of h; obtain ⟨μ24, hμ24, h⟩ := h
      refine jr_dastore jf_264_250 hμ24 ?_
      refine jr_iinc jf_264_251 jc_i_1 jml_264 (by decide) hl9 ?_
      refine jr_goto jf_264_254 ?_
      exact ih _ _ _ _ _ _ _ _ _ _ _ _ (jg1_ne rfl hl0) (jg1_ne rfl hl1) (jg1_ne rfl hl2) (jg1_ne rfl hl3) (jg1_ne rfl hl4) (jg1_ne rfl hl7) (jg1_pre rfl hl8) jg1_same h
set_option maxRecDepth 10000 in
set_option maxHeartbeats 4000000 in
theorem r_R_anew_177 {N B : Nat} {SA : Nat → Nat} {d : Nat} (hd : 2 ≤ d) {k47 : Nat → Int32 → Int32 → Int32 → Int32 → JMem → Option (Int32 × JMem)} (i47 : ∀ (L : JLoc) (v0 : Nat) (v1 : Int32) (v2 : Int32) (v3 : Int32) (v4 : Int32) (μ : JMem) (r : Int32) (μ9 : JMem), jget L 0 = .ref v0 → jget L 1 = .int v1 → jget L 2 = .int v2 → jget L 3 = .int v3 → jget L 4 = .int v4 → k47 v0 v1 v2 v3 v4 μ = some (r, μ9) → jR B SA d m_R_anew 47 L [] μ (some (.int r)) μ9) : ∀ (L : JLoc) (v0 : Nat) (v1 : Int32) (v2 : Int32) (v3 : Int32) (v4 : Int32) (v7 : Int32) (μ : JMem) (r : Int32) (μ9 : JMem), jget L 0 = .ref v0 → jget L 1 = .int v1 → jget L 2 = .int v2 → jget L 3 = .int v3 → jget L 4 = .int v4 → jget L 7 = .int v7 → g_R_anew_177 N B k47 v0 v1 v2 v3 v4 v7 μ = some (r, μ9) → jR B SA d m_R_anew 177 L [] μ (some (.int r)) μ9 := by
  intro L v0 v1 v2 v3 v4 v7 μ r μ9 hl0 hl1 hl2 hl3 hl4 hl7 h
  unfold g_R_anew_177 at h
  refine jr_aload_n jf_264_177 rfl hl0 ?_
  refine jr_aload_n jf_264_178 rfl hl0 ?_
  replace h := obd_of h; obtain ⟨x1, hx1, h⟩ := h
  refine jr_getA jf_264_179 hx1 ?_
  refine jr_iload jf_264_182 hl7 ?_
  replace h := obd_of h; obtain ⟨a2, rfl, h⟩ := h
  replace h := obd_of h; obtain ⟨x3, hx3, h⟩ := h
  refine jr_iaload jf_264_184 hx3 ?_
  refine jr_iload_n jf_264_185 rfl hl2 ?_
  refine jr_aload_n jf_264_186 rfl hl0 ?_
  replace h := obd_of h; obtain ⟨x4, hx4, h⟩ := h
  refine jr_getA jf_264_187 hx4 ?_
  refine jr_iload jf_264_190 hl7 ?_
  replace h := obd_of h; obtain ⟨a5, rfl, h⟩ := h
  replace h := obd_of h; obtain ⟨x6, hx6, h⟩ := h
  refine jr_iaload jf_264_192 hx6 ?_
  replace h := jgd_of h; obtain ⟨hb7, h⟩ := h
  replace h := jbd2_of h; obtain ⟨x8, μ9, hx8, h⟩ := h
  refine jr_V6_3 jf_264_193 hb7 (by omega) (r_R_newSection (by omega) _ _ _ _ _ _ _ hx8) (Nat.le_of_ble_eq_true rfl) jml_189 (Nat.le_of_ble_eq_true rfl) ?_
  refine jr_istore jf_264_196 jml_264 (by decide) ?_
  refine jr_iconst jf_264_198 jc_i_0 ?_
  refine jr_istore jf_264_199 jml_264 (by decide) ?_
  exact r_R_anew_201 hd i47 _ _ _ _ _ _ _ _ _ _ _ _ _ (jg1_ne rfl (jg1_ne rfl hl0)) (jg1_ne rfl (jg1_ne rfl hl1)) (jg1_ne rfl (jg1_ne rfl hl2)) (jg1_ne rfl (jg1_ne rfl hl3)) (jg1_ne rfl (jg1_ne rfl hl4)) (jg1_ne rfl (jg1_pre rfl hl7)) (jg1_pre rfl jg1_same) jg1_same h
set_option maxRecDepth 10000 in
set_option maxHeartbeats 4000000 in
theorem r_R_anew_47 {N B : Nat} {SA : Nat → Nat} {d : Nat} (hd : 2 ≤ d) : ∀ (n : Nat), ∀ (L : JLoc) (v0 : Nat) (v1 : Int32) (v2 : Int32) (v3 : Int32) (v4 : Int32) (μ : JMem) (r : Int32) (μ9 : JMem), jget L 0 = .ref v0 → jget L 1 = .int v1 → jget L 2 = .int v2 → jget L 3 = .int v3 → jget L 4 = .int v4 → g_R_anew_47 N B n v0 v1 v2 v3 v4 μ = some (r, μ9) → jR B SA d m_R_anew 47 L [] μ (some (.int r)) μ9 := by
  intro n
  induction n with
  | zero =>
    intro L v0 v1 v2 v3 v4 μ r μ9 hl0 hl1 hl2 hl3 hl4 h
    unfold g_R_anew_47 at h
    cases h
  | succ n ih =>
    intro L v0 v1 v2 v3 v4 μ r μ9 hl0 hl1 hl2 hl3 hl4 h
    unfold g_R_anew_47 at h
    refine jr_iload jf_264_47 hl4 ?_
    replace h := ite_or h; rcases h with ⟨hc, h⟩ | ⟨hc, h⟩
    · refine jr_if_le_t jf_264_49 hc ?_
      refine jr_aload_n jf_264_367 rfl hl0 ?_
      replace h := obd_of h; obtain ⟨x1, hx1, h⟩ := h
      refine jr_getA jf_264_368 hx1 ?_
      refine jr_iload_n jf_264_371 rfl hl1 ?_
      replace h := obd_of h; obtain ⟨a2, rfl, h⟩ := h
      replace h := obd_of h; obtain ⟨x3, hx3, h⟩ := h
      refine jr_iaload jf_264_372 hx3 ?_
      obtain ⟨rfl, rfl⟩ := Prod.mk.inj (Option.some.inj h)
      exact jr_retI jf_264_373 jmt_264
    · refine jr_if_le_f jf_264_49 hc ?_
      refine jr_aload_n jf_264_52 rfl hl0 ?_
      replace h := obd_of h; obtain ⟨x4, hx4, h⟩ := h
      refine jr_getA jf_264_53 hx4 ?_
      refine jr_iload jf_264_56 hl4 ?_
      refine jr_iconst jf_264_58 jc_i_1 ?_
      refine jr_isub jf_264_59 ?_
      replace h := obd_of h; obtain ⟨a5, rfl, h⟩ := h
      replace h := obd_of h; obtain ⟨x6, hx6, h⟩ := h
      refine jr_iaload jf_264_60 hx6 ?_
      refine jr_istore jf_264_61 jml_264 (by decide) ?_
      refine jr_aload_n jf_264_63 rfl (jg1_ne rfl hl0) ?_
      replace h := obd_of h; obtain ⟨x7, hx7, h⟩ := h
      refine jr_getA jf_264_64 hx7 ?_
      refine jr_iload jf_264_67 (jg1_pre rfl hl4) ?_
      refine jr_iconst jf_264_69 jc_i_1 ?_
      refine jr_isub jf_264_70 ?_
      replace h := obd_of h; obtain ⟨a8, rfl, h⟩ := h
      replace h := obd_of h; obtain ⟨x9, hx9, h⟩ := h
      refine jr_iaload jf_264_71 hx9 ?_
      refine jr_istore jf_264_72 jml_264 (by decide) ?_
      refine jr_iload jf_264_74 jg1_same ?_
      refine jr_aload_n jf_264_76 rfl (jg1_ne rfl (jg1_ne rfl hl0)) ?_
      replace h := obd_of h; obtain ⟨x10, hx10, h⟩ := h
      refine jr_getA jf_264_77 hx10 ?_
      refine jr_iload jf_264_80 (jg1_pre rfl jg1_same) ?_
      replace h := obd_of h; obtain ⟨a11, rfl, h⟩ := h
      replace h := obd_of h; obtain ⟨x12, hx12, h⟩ := h
      refine jr_iaload jf_264_82 hx12 ?_
      replace h := ite_or h; rcases h with ⟨hc, h⟩ | ⟨hc, h⟩
      · refine jr_if2_ne_f jf_264_83 hc ?_
        refine jr_aload_n jf_264_86 rfl (jg1_ne rfl (jg1_ne rfl hl0)) ?_
        replace h := obd_of h; obtain ⟨x13, hx13, h⟩ := h
        refine jr_getA jf_264_87 hx13 ?_
        refine jr_iload jf_264_90 (jg1_pre rfl jg1_same) ?_
        refine jr_aload_n jf_264_92 rfl (jg1_ne rfl (jg1_ne rfl hl0)) ?_
        refine jr_iload jf_264_93 (jg1_pre rfl jg1_same) ?_
        refine jr_iload_n jf_264_95 rfl (jg1_ne rfl (jg1_ne rfl hl3)) ?_
        refine jr_iload_n jf_264_96 rfl (jg1_ne rfl (jg1_ne rfl hl2)) ?_
        replace h := jgd_of h; obtain ⟨hb14, h⟩ := h
        replace h := jbd2_of h; obtain ⟨x15, μ16, hx15, h⟩ := h
        refine jr_V6_3 jf_264_97 hb14 (by omega) (r_R_gathers (by omega) _ _ _ _ _ _ _ hx15) (by simp only [jcats_cons, jcats_nil, cat_int, cat_long, cat_double, cat_float, cat_ref, rv_cat]; decide) jml_265 (Nat.le_of_ble_eq_true rfl) ?_
        replace h := obd_of h; obtain ⟨a17, rfl, h⟩ := h
        replace h := obd_of h; obtain ⟨μ18, hμ18, h⟩ := h
        refine jr_iastore jf_264_100 hμ18 ?_
        refine jr_iinc jf_264_101 jc_i_m1 jml_264 (by decide) (jg1_ne rfl (jg1_pre rfl hl4)) ?_
        refine jr_goto jf_264_104 ?_
        exact ih _ _ _ _ _ _ _ _ _ (jg1_ne rfl (jg1_ne rfl (jg1_ne rfl hl0))) (jg1_ne rfl (jg1_ne rfl (jg1_ne rfl hl1))) (jg1_ne rfl (jg1_ne rfl (jg1_ne rfl hl2))) (jg1_pre rfl (jg1_ne rfl (jg1_ne rfl hl3))) jg1_same h
      · refine jr_if2_ne_t jf_264_83 hc ?_
        refine jr_aload_n jf_264_107 rfl (jg1_ne rfl (jg1_ne rfl hl0)) ?_
        replace h := obd_of h; obtain ⟨x19, hx19, h⟩ := h
        refine jr_getA jf_264_108 hx19 ?_
        refine jr_bipush jf_264_111 jc_b_10 ?_
        refine jr_iload jf_264_113 (jg1_pre rfl jg1_same) ?_
        refine jr_imul jf_264_115 ?_
        refine jr_iload jf_264_116 jg1_same ?_
        refine jr_iadd jf_264_118 ?_
        replace h := obd_of h; obtain ⟨a20, rfl, h⟩ := h
        replace h := obd_of h; obtain ⟨x21, hx21, h⟩ := h
        refine jr_iaload jf_264_119 hx21 ?_
        refine jr_istore jf_264_120 jml_264 (by decide) ?_
        refine jr_aload_n jf_264_122 rfl (jg1_ne rfl (jg1_ne rfl (jg1_ne rfl hl0))) ?_
        replace h := obd_of h; obtain ⟨x22, hx22, h⟩ := h
        refine jr_getA jf_264_123 hx22 ?_
        refine jr_iload jf_264_126 jg1_same ?_
        replace h := obd_of h; obtain ⟨a23, rfl, h⟩ := h
        replace h := obd_of h; obtain ⟨x24, hx24, h⟩ := h
        refine jr_iaload jf_264_128 hx24 ?_
        refine jr_iconst jf_264_129 jc_i_m1 ?_
        replace h := ite_or h; rcases h with ⟨hc, h⟩ | ⟨hc, h⟩
        · refine jr_if2_eq_t jf_264_130 hc ?_
          exact r_R_anew_177 hd ih _ _ _ _ _ _ _ _ _ _ (jg1_ne rfl (jg1_ne rfl (jg1_ne rfl hl0))) (jg1_ne rfl (jg1_ne rfl (jg1_ne rfl hl1))) (jg1_ne rfl (jg1_ne rfl (jg1_ne rfl hl2))) (jg1_ne rfl (jg1_ne rfl (jg1_ne rfl hl3))) (jg1_ne rfl (jg1_ne rfl (jg1_pre rfl hl4))) jg1_same h
        · refine jr_if2_eq_f jf_264_130 hc ?_
          refine jr_aload_n jf_264_133 rfl (jg1_ne rfl (jg1_ne rfl (jg1_ne rfl hl0))) ?_
          replace h := obd_of h; obtain ⟨x25, hx25, h⟩ := h
          refine jr_getA jf_264_134 hx25 ?_
          refine jr_aload_n jf_264_137 rfl (jg1_ne rfl (jg1_ne rfl (jg1_ne rfl hl0))) ?_
          replace h := obd_of h; obtain ⟨x26, hx26, h⟩ := h
          refine jr_getA jf_264_138 hx26 ?_
          refine jr_iload jf_264_141 jg1_same ?_
          replace h := obd_of h; obtain ⟨a27, rfl, h⟩ := h
          replace h := obd_of h; obtain ⟨x28, hx28, h⟩ := h
          refine jr_iaload jf_264_143 hx28 ?_
          replace h := obd_of h; obtain ⟨a29, rfl, h⟩ := h
          replace h := obd_of h; obtain ⟨x30, hx30, h⟩ := h
          refine jr_iaload jf_264_144 hx30 ?_
          refine jr_iconst jf_264_145 jc_i_m1 ?_
          replace h := ite_or h; rcases h with ⟨hc, h⟩ | ⟨hc, h⟩
          · refine jr_if2_ne_f jf_264_146 hc ?_
            refine jr_aload_n jf_264_149 rfl (jg1_ne rfl (jg1_ne rfl (jg1_ne rfl hl0))) ?_
            replace h := obd_of h; obtain ⟨x31, hx31, h⟩ := h
            refine jr_getA jf_264_150 hx31 ?_
            refine jr_iload jf_264_153 (jg1_ne rfl (jg1_ne rfl (jg1_pre rfl hl4))) ?_
            refine jr_aload_n jf_264_155 rfl (jg1_ne rfl (jg1_ne rfl (jg1_ne rfl hl0))) ?_
            replace h := obd_of h; obtain ⟨x32, hx32, h⟩ := h
            refine jr_getA jf_264_156 hx32 ?_
            refine jr_iload jf_264_159 jg1_same ?_
            replace h := obd_of h; obtain ⟨a33, rfl, h⟩ := h
            replace h := obd_of h; obtain ⟨x34, hx34, h⟩ := h
            refine jr_iaload jf_264_161 hx34 ?_
            replace h := obd_of h; obtain ⟨a35, rfl, h⟩ := h
            replace h := obd_of h; obtain ⟨μ36, hμ36, h⟩ := h
            refine jr_iastore jf_264_162 hμ36 ?_
            refine jr_aload_n jf_264_163 rfl (jg1_ne rfl (jg1_ne rfl (jg1_ne rfl hl0))) ?_
            replace h := obd_of h; obtain ⟨x37, hx37, h⟩ := h
            refine jr_getA jf_264_164 hx37 ?_
            refine jr_iload jf_264_167 (jg1_ne rfl (jg1_ne rfl (jg1_pre rfl hl4))) ?_
            refine jr_iconst jf_264_169 jc_i_0 ?_
            replace h := obd_of h; obtain ⟨a38, rfl, h⟩ := h
            replace h := obd_of h; obtain ⟨μ39, hμ39, h⟩ := h
            refine jr_iastore jf_264_170 hμ39 ?_
            refine jr_iinc jf_264_171 jc_i_1 jml_264 (by decide) (jg1_ne rfl (jg1_ne rfl (jg1_pre rfl hl4))) ?_
            refine jr_goto jf_264_174 ?_
            exact ih _ _ _ _ _ _ _ _ _ (jg1_ne rfl (jg1_ne rfl (jg1_ne rfl (jg1_ne rfl hl0)))) (jg1_ne rfl (jg1_ne rfl (jg1_ne rfl (jg1_ne rfl hl1)))) (jg1_ne rfl (jg1_ne rfl (jg1_ne rfl (jg1_ne rfl hl2)))) (jg1_pre rfl (jg1_ne rfl (jg1_ne rfl (jg1_ne rfl hl3)))) jg1_same h
          · refine jr_if2_ne_t jf_264_146 hc ?_
            exact r_R_anew_177 hd ih _ _ _ _ _ _ _ _ _ _ (jg1_ne rfl (jg1_ne rfl (jg1_ne rfl hl0))) (jg1_ne rfl (jg1_ne rfl (jg1_ne rfl hl1))) (jg1_ne rfl (jg1_ne rfl (jg1_ne rfl hl2))) (jg1_ne rfl (jg1_ne rfl (jg1_ne rfl hl3))) (jg1_ne rfl (jg1_ne rfl (jg1_pre rfl hl4))) jg1_same h
set_option maxRecDepth 10000 in
set_option maxHeartbeats 4000000 in
theorem r_R_anew_9 {N B : Nat} {SA : Nat → Nat} {d : Nat} (hd : 2 ≤ d) : ∀ (n : Nat), ∀ (L : JLoc) (v0 : Nat) (v1 : Int32) (v2 : Int32) (v3 : Int32) (v4 : Int32) (μ : JMem) (r : Int32) (μ9 : JMem), jget L 0 = .ref v0 → jget L 1 = .int v1 → jget L 2 = .int v2 → jget L 3 = .int v3 → jget L 4 = .int v4 → g_R_anew_9 N B n v0 v1 v2 v3 v4 μ = some (r, μ9) → jR B SA d m_R_anew 9 L [] μ (some (.int r)) μ9 := by
  intro n
  induction n with
  | zero =>
    intro L v0 v1 v2 v3 v4 μ r μ9 hl0 hl1 hl2 hl3 hl4 h
    unfold g_R_anew_9 at h
    cases h
  | succ n ih =>
    intro L v0 v1 v2 v3 v4 μ r μ9 hl0 hl1 hl2 hl3 hl4 h
    unfold g_R_anew_9 at h
    refine jr_iload jf_264_9 hl4 ?_
    refine jr_bipush jf_264_11 jc_b_20 ?_
    replace h := ite_or h; rcases h with ⟨hc, h⟩ | ⟨hc, h⟩
    · refine jr_if2_ge_t jf_264_13 hc ?_
      refine jr_iconst jf_264_30 jc_i_1 ?_
      refine jr_istore jf_264_31 jml_264 (by decide) ?_
      refine jr_aload_n jf_264_33 rfl (jg1_ne rfl hl0) ?_
      replace h := obd_of h; obtain ⟨x1, hx1, h⟩ := h
      refine jr_getA jf_264_34 hx1 ?_
      refine jr_iconst jf_264_37 jc_i_0 ?_
      refine jr_iload_n jf_264_38 rfl (jg1_ne rfl hl1) ?_
      replace h := obd_of h; obtain ⟨a2, rfl, h⟩ := h
      replace h := obd_of h; obtain ⟨μ3, hμ3, h⟩ := h
      refine jr_iastore jf_264_39 hμ3 ?_
      refine jr_aload_n jf_264_40 rfl (jg1_ne rfl hl0) ?_
      replace h := obd_of h; obtain ⟨x4, hx4, h⟩ := h
      refine jr_getA jf_264_41 hx4 ?_
      refine jr_iconst jf_264_44 jc_i_0 ?_
      refine jr_iconst jf_264_45 jc_i_0 ?_
      replace h := obd_of h; obtain ⟨a5, rfl, h⟩ := h
      replace h := obd_of h; obtain ⟨μ6, hμ6, h⟩ := h
      refine jr_iastore jf_264_46 hμ6 ?_
      exact r_R_anew_47 hd _ _ _ _ _ _ _ _ _ _ (jg1_ne rfl hl0) (jg1_ne rfl hl1) (jg1_ne rfl hl2) (jg1_pre rfl hl3) jg1_same h
    · refine jr_if2_ge_f jf_264_13 hc ?_
      refine jr_aload_n jf_264_16 rfl hl0 ?_
      replace h := obd_of h; obtain ⟨x7, hx7, h⟩ := h
      refine jr_getA jf_264_17 hx7 ?_
      refine jr_iload jf_264_20 hl4 ?_
      refine jr_iconst jf_264_22 jc_i_m1 ?_
      replace h := obd_of h; obtain ⟨a8, rfl, h⟩ := h
      replace h := obd_of h; obtain ⟨μ9, hμ9, h⟩ := h
      refine jr_iastore jf_264_23 hμ9 ?_
      refine jr_iinc jf_264_24 jc_i_1 jml_264 (by decide) hl4 ?_
      refine jr_goto jf_264_27 ?_
      exact ih _ _ _ _ _ _ _ _ _ (jg1_ne rfl hl0) (jg1_ne rfl hl1) (jg1_ne rfl hl2) (jg1_pre rfl hl3) jg1_same h
set_option maxRecDepth 10000 in
set_option maxHeartbeats 4000000 in
theorem r_R_anew_e {N B : Nat} {SA : Nat → Nat} {d : Nat} (hd : 2 ≤ d) : ∀ (L : JLoc) (v0 : Nat) (v1 : Int32) (v2 : Int32) (μ : JMem) (r : Int32) (μ9 : JMem), jget L 0 = .ref v0 → jget L 1 = .int v1 → jget L 2 = .int v2 → g_R_anew N B v0 v1 v2 μ = some (r, μ9) → jR B SA d m_R_anew 0 L [] μ (some (.int r)) μ9 := by
  intro L v0 v1 v2 μ r μ9 hl0 hl1 hl2 h
  unfold g_R_anew at h
  refine jr_aload_n jf_264_0 rfl hl0 ?_
  refine jr_iload_n jf_264_1 rfl hl1 ?_
  replace h := jgd_of h; obtain ⟨hb1, h⟩ := h
  replace h := obd_of h; obtain ⟨x2, hx2, h⟩ := h
  refine jr_V6_1 jf_264_2 hb1 (by omega) (r_R_sortOf (by omega) _ _ _ _ hx2) (Nat.le_of_ble_eq_true rfl) jml_205 (Nat.le_of_ble_eq_true rfl) ?_
  refine jr_istore_n jf_264_5 rfl jml_264 (by decide) ?_
  refine jr_iconst jf_264_6 jc_i_0 ?_
  refine jr_istore jf_264_7 jml_264 (by decide) ?_
  exact r_R_anew_9 hd _ _ _ _ _ _ _ _ _ _ (jg1_ne rfl (jg1_ne rfl hl0)) (jg1_ne rfl (jg1_ne rfl hl1)) (jg1_ne rfl (jg1_pre rfl hl2)) (jg1_pre rfl jg1_same) jg1_same h
set_option maxRecDepth 10000 in
set_option maxHeartbeats 4000000 in
theorem r_R_anew {N B : Nat} {SA : Nat → Nat} {d : Nat} (hd : 2 ≤ d) : ∀ (v0 : Nat) (v1 : Int32) (v2 : Int32) (μ : JMem) (r : Int32) (μ9 : JMem), g_R_anew N B v0 v1 v2 μ = some (r, μ9) → jR B SA d m_R_anew 0 (lv_args 0 [.ref v0, .int v1, .int v2]) [] μ (some (.int r)) μ9 := by
  intro v0 v1 v2 μ r μ9 h
  exact r_R_anew_e hd (lv_args 0 _) _ _ _ _ _ _ (by simp [lv_args, jget, rv_cat, cat_int, cat_long, cat_double, cat_float, cat_ref]) (by simp [lv_args, jget, rv_cat, cat_int, cat_long, cat_double, cat_float, cat_ref]) (by simp [lv_args, jget, rv_cat, cat_int, cat_long, cat_double, cat_float, cat_ref]) h
/-! FilterBenchModel.asks(II)V -/
set_option maxRecDepth 10000 in
set_option maxHeartbeats 4000000 in
theorem r_R_asks_74 {N B : Nat} {SA : Nat → Nat} {d : Nat} (hd : 1 ≤ d) {k21 : Nat → Int32 → Int32 → Int32 → Int32 → JMem → Option JMem} (i21 : ∀ (L : JLoc) (v0 : Nat) (v1 : Int32) (v2 : Int32) (v3 : Int32) (v4 : Int32) (μ : JMem) (μ9 : JMem), jget L 0 = .ref v0 → jget L 1 = .int v1 → jget L 2 = .int v2 → jget L 3 = .int v3 → jget L 4 = .int v4 → k21 v0 v1 v2 v3 v4 μ = some μ9 → jR B SA d m_R_asks 21 L [] μ none μ9) : ∀ (L : JLoc) (v0 : Nat) (v1 : Int32) (v2 : Int32) (v3 : Int32) (v4 : Int32) (s0 : Bool) (s1 : Nat) (μ : JMem) (μ9 : JMem), jget L 0 = .ref v0 → jget L 1 = .int v1 → jget L 2 = .int v2 → jget L 3 = .int v3 → jget L 4 = .int v4 → g_R_asks_74 N B k21 v0 v1 v2 v3 v4 s0 s1 μ = some μ9 → jR B SA d m_R_asks 74 L [.int (jb s0), .ref s1] μ none μ9 := by
  intro L v0 v1 v2 v3 v4 s0 s1 μ μ9 hl0 hl1 hl2 hl3 hl4 h
  unfold g_R_asks_74 at h
  replace h := obd_of h; obtain ⟨μ1, hμ1, h⟩ := h
  refine jr_putZ jf_262_74 rfl hμ1 ?_
  refine jr_iinc jf_262_77 jc_i_1 jml_262 (by decide) hl4 ?_
  refine jr_goto jf_262_80 ?_
  exact i21 _ _ _ _ _ _ _ _ (jg1_ne rfl hl0) (jg1_ne rfl hl1) (jg1_ne rfl hl2) (jg1_pre rfl hl3) jg1_same h
set_option maxRecDepth 10000 in
set_option maxHeartbeats 4000000 in
theorem r_R_asks_69 {N B : Nat} {SA : Nat → Nat} {d : Nat} (hd : 1 ≤ d) {k21 : Nat → Int32 → Int32 → Int32 → Int32 → JMem → Option JMem} (i21 : ∀ (L : JLoc) (v0 : Nat) (v1 : Int32) (v2 : Int32) (v3 : Int32) (v4 : Int32) (μ : JMem) (μ9 : JMem), jget L 0 = .ref v0 → jget L 1 = .int v1 → jget L 2 = .int v2 → jget L 3 = .int v3 → jget L 4 = .int v4 → k21 v0 v1 v2 v3 v4 μ = some μ9 → jR B SA d m_R_asks 21 L [] μ none μ9) : ∀ (L : JLoc) (v0 : Nat) (v1 : Int32) (v2 : Int32) (v3 : Int32) (v4 : Int32) (s0 : Nat) (μ : JMem) (μ9 : JMem), jget L 0 = .ref v0 → jget L 1 = .int v1 → jget L 2 = .int v2 → jget L 3 = .int v3 → jget L 4 = .int v4 → g_R_asks_69 N B k21 v0 v1 v2 v3 v4 s0 μ = some μ9 → jR B SA d m_R_asks 69 L [.ref s0] μ none μ9 := by
  intro L v0 v1 v2 v3 v4 s0 μ μ9 hl0 hl1 hl2 hl3 hl4 h
  unfold g_R_asks_69 at h
  refine jr_iconst jf_262_69 jc_i_1 ?_
  refine jr_goto jf_262_70 ?_
  exact r_R_asks_74 hd i21 _ _ _ _ _ _ true _ _ _ hl0 hl1 hl2 hl3 hl4 h
set_option maxRecDepth 10000 in
set_option maxHeartbeats 4000000 in
theorem r_R_asks_73 {N B : Nat} {SA : Nat → Nat} {d : Nat} (hd : 1 ≤ d) {k21 : Nat → Int32 → Int32 → Int32 → Int32 → JMem → Option JMem} (i21 : ∀ (L : JLoc) (v0 : Nat) (v1 : Int32) (v2 : Int32) (v3 : Int32) (v4 : Int32) (μ : JMem) (μ9 : JMem), jget L 0 = .ref v0 → jget L 1 = .int v1 → jget L 2 = .int v2 → jget L 3 = .int v3 → jget L 4 = .int v4 → k21 v0 v1 v2 v3 v4 μ = some μ9 → jR B SA d m_R_asks 21 L [] μ none μ9) : ∀ (L : JLoc) (v0 : Nat) (v1 : Int32) (v2 : Int32) (v3 : Int32) (v4 : Int32) (s0 : Nat) (μ : JMem) (μ9 : JMem), jget L 0 = .ref v0 → jget L 1 = .int v1 → jget L 2 = .int v2 → jget L 3 = .int v3 → jget L 4 = .int v4 → g_R_asks_73 N B k21 v0 v1 v2 v3 v4 s0 μ = some μ9 → jR B SA d m_R_asks 73 L [.ref s0] μ none μ9 := by
  intro L v0 v1 v2 v3 v4 s0 μ μ9 hl0 hl1 hl2 hl3 hl4 h
  unfold g_R_asks_73 at h
  refine jr_iconst jf_262_73 jc_i_0 ?_
  exact r_R_asks_74 hd i21 _ _ _ _ _ _ false _ _ _ hl0 hl1 hl2 hl3 hl4 h
set_option maxRecDepth 10000 in
set_option maxHeartbeats 4000000 in
theorem r_R_asks_187 {N B : Nat} {SA : Nat → Nat} {d : Nat} (hd : 1 ≤ d) {k86 : Nat → Int32 → Int32 → Int32 → Int32 → JMem → Option JMem} (i86 : ∀ (L : JLoc) (v0 : Nat) (v1 : Int32) (v2 : Int32) (v3 : Int32) (v4 : Int32) (μ : JMem) (μ9 : JMem), jget L 0 = .ref v0 → jget L 1 = .int v1 → jget L 2 = .int v2 → jget L 3 = .int v3 → jget L 4 = .int v4 → k86 v0 v1 v2 v3 v4 μ = some μ9 → jR B SA d m_R_asks 86 L [] μ none μ9) {k124 : Nat → Int32 → Int32 → Int32 → Int32 → Int32 → Int32 → JMem → Option JMem} (i124 : ∀ (L : JLoc) (v0 : Nat) (v1 : Int32) (v2 : Int32) (v3 : Int32) (v4 : Int32) (v5 : Int32) (v6 : Int32) (μ : JMem) (μ9 : JMem), jget L 0 = .ref v0 → jget L 1 = .int v1 → jget L 2 = .int v2 → jget L 3 = .int v3 → jget L 4 = .int v4 → jget L 5 = .int v5 → jget L 6 = .int v6 → k124 v0 v1 v2 v3 v4 v5 v6 μ = some μ9 → jR B SA d m_R_asks 124 L [] μ none μ9) : ∀ (L : JLoc) (v0 : Nat) (v1 : Int32) (v2 : Int32) (v3 : Int32) (v4 : Int32) (v5 : Int32) (v6 : Int32) (s0 : Bool) (s1 : Nat) (μ : JMem) (μ9 : JMem), jget L 0 = .ref v0 → jget L 1 = .int v1 → jget L 2 = .int v2 → jget L 3 = .int v3 → jget L 4 = .int v4 → jget L 5 = .int v5 → jget L 6 = .int v6 → g_R_asks_187 N B k86 k124 v0 v1 v2 v3 v4 v5 v6 s0 s1 μ = some μ9 → jR B SA d m_R_asks 187 L [.int (jb s0), .ref s1] μ none μ9 := by
  intro L v0 v1 v2 v3 v4 v5 v6 s0 s1 μ μ9 hl0 hl1 hl2 hl3 hl4 hl5 hl6 h
  unfold g_R_asks_187 at h
  replace h := obd_of h; obtain ⟨μ1, hμ1, h⟩ := h
  refine jr_putZ jf_262_187 rfl hμ1 ?_
  refine jr_iinc jf_262_190 jc_i_1 jml_262 (by decide) hl6 ?_
  refine jr_goto jf_262_193 ?_
  exact i124 _ _ _ _ _ _ _ _ _ _ (jg1_ne rfl hl0) (jg1_ne rfl hl1) (jg1_ne rfl hl2) (jg1_ne rfl hl3) (jg1_ne rfl hl4) (jg1_pre rfl hl5) jg1_same h
set_option maxRecDepth 10000 in
set_option maxHeartbeats 4000000 in
theorem r_R_asks_182 {N B : Nat} {SA : Nat → Nat} {d : Nat} (hd : 1 ≤ d) {k86 : Nat → Int32 → Int32 → Int32 → Int32 → JMem → Option JMem} (i86 : ∀ (L : JLoc) (v0 : Nat) (v1 : Int32) (v2 : Int32) (v3 : Int32) (v4 : Int32) (μ : JMem) (μ9 : JMem), jget L 0 = .ref v0 → jget L 1 = .int v1 → jget L 2 = .int v2 → jget L 3 = .int v3 → jget L 4 = .int v4 → k86 v0 v1 v2 v3 v4 μ = some μ9 → jR B SA d m_R_asks 86 L [] μ none μ9) {k124 : Nat → Int32 → Int32 → Int32 → Int32 → Int32 → Int32 → JMem → Option JMem} (i124 : ∀ (L : JLoc) (v0 : Nat) (v1 : Int32) (v2 : Int32) (v3 : Int32) (v4 : Int32) (v5 : Int32) (v6 : Int32) (μ : JMem) (μ9 : JMem), jget L 0 = .ref v0 → jget L 1 = .int v1 → jget L 2 = .int v2 → jget L 3 = .int v3 → jget L 4 = .int v4 → jget L 5 = .int v5 → jget L 6 = .int v6 → k124 v0 v1 v2 v3 v4 v5 v6 μ = some μ9 → jR B SA d m_R_asks 124 L [] μ none μ9) : ∀ (L : JLoc) (v0 : Nat) (v1 : Int32) (v2 : Int32) (v3 : Int32) (v4 : Int32) (v5 : Int32) (v6 : Int32) (s0 : Nat) (μ : JMem) (μ9 : JMem), jget L 0 = .ref v0 → jget L 1 = .int v1 → jget L 2 = .int v2 → jget L 3 = .int v3 → jget L 4 = .int v4 → jget L 5 = .int v5 → jget L 6 = .int v6 → g_R_asks_182 N B k86 k124 v0 v1 v2 v3 v4 v5 v6 s0 μ = some μ9 → jR B SA d m_R_asks 182 L [.ref s0] μ none μ9 := by
  intro L v0 v1 v2 v3 v4 v5 v6 s0 μ μ9 hl0 hl1 hl2 hl3 hl4 hl5 hl6 h
  unfold g_R_asks_182 at h
  refine jr_iconst jf_262_182 jc_i_1 ?_
  refine jr_goto jf_262_183 ?_
  exact r_R_asks_187 hd i86 i124 _ _ _ _ _ _ _ _ true _ _ _ hl0 hl1 hl2 hl3 hl4 hl5 hl6 h
set_option maxRecDepth 10000 in
set_option maxHeartbeats 4000000 in
theorem r_R_asks_186 {N B : Nat} {SA : Nat → Nat} {d : Nat} (hd : 1 ≤ d) {k86 : Nat → Int32 → Int32 → Int32 → Int32 → JMem → Option JMem} (i86 : ∀ (L : JLoc) (v0 : Nat) (v1 : Int32) (v2 : Int32) (v3 : Int32) (v4 : Int32) (μ : JMem) (μ9 : JMem), jget L 0 = .ref v0 → jget L 1 = .int v1 → jget L 2 = .int v2 → jget L 3 = .int v3 → jget L 4 = .int v4 → k86 v0 v1 v2 v3 v4 μ = some μ9 → jR B SA d m_R_asks 86 L [] μ none μ9) {k124 : Nat → Int32 → Int32 → Int32 → Int32 → Int32 → Int32 → JMem → Option JMem} (i124 : ∀ (L : JLoc) (v0 : Nat) (v1 : Int32) (v2 : Int32) (v3 : Int32) (v4 : Int32) (v5 : Int32) (v6 : Int32) (μ : JMem) (μ9 : JMem), jget L 0 = .ref v0 → jget L 1 = .int v1 → jget L 2 = .int v2 → jget L 3 = .int v3 → jget L 4 = .int v4 → jget L 5 = .int v5 → jget L 6 = .int v6 → k124 v0 v1 v2 v3 v4 v5 v6 μ = some μ9 → jR B SA d m_R_asks 124 L [] μ none μ9) : ∀ (L : JLoc) (v0 : Nat) (v1 : Int32) (v2 : Int32) (v3 : Int32) (v4 : Int32) (v5 : Int32) (v6 : Int32) (s0 : Nat) (μ : JMem) (μ9 : JMem), jget L 0 = .ref v0 → jget L 1 = .int v1 → jget L 2 = .int v2 → jget L 3 = .int v3 → jget L 4 = .int v4 → jget L 5 = .int v5 → jget L 6 = .int v6 → g_R_asks_186 N B k86 k124 v0 v1 v2 v3 v4 v5 v6 s0 μ = some μ9 → jR B SA d m_R_asks 186 L [.ref s0] μ none μ9 := by
  intro L v0 v1 v2 v3 v4 v5 v6 s0 μ μ9 hl0 hl1 hl2 hl3 hl4 hl5 hl6 h
  unfold g_R_asks_186 at h
  refine jr_iconst jf_262_186 jc_i_0 ?_
  exact r_R_asks_187 hd i86 i124 _ _ _ _ _ _ _ _ false _ _ _ hl0 hl1 hl2 hl3 hl4 hl5 hl6 h
set_option maxRecDepth 10000 in
set_option maxHeartbeats 4000000 in
theorem r_R_asks_124 {N B : Nat} {SA : Nat → Nat} {d : Nat} (hd : 1 ≤ d) {k86 : Nat → Int32 → Int32 → Int32 → Int32 → JMem → Option JMem} (i86 : ∀ (L : JLoc) (v0 : Nat) (v1 : Int32) (v2 : Int32) (v3 : Int32) (v4 : Int32) (μ : JMem) (μ9 : JMem), jget L 0 = .ref v0 → jget L 1 = .int v1 → jget L 2 = .int v2 → jget L 3 = .int v3 → jget L 4 = .int v4 → k86 v0 v1 v2 v3 v4 μ = some μ9 → jR B SA d m_R_asks 86 L [] μ none μ9) : ∀ (n : Nat), ∀ (L : JLoc) (v0 : Nat) (v1 : Int32) (v2 : Int32) (v3 : Int32) (v4 : Int32) (v5 : Int32) (v6 : Int32) (μ : JMem) (μ9 : JMem), jget L 0 = .ref v0 → jget L 1 = .int v1 → jget L 2 = .int v2 → jget L 3 = .int v3 → jget L 4 = .int v4 → jget L 5 = .int v5 → jget L 6 = .int v6 → g_R_asks_124 N B k86 n v0 v1 v2 v3 v4 v5 v6 μ = some μ9 → jR B SA d m_R_asks 124 L [] μ none μ9 := by
  intro n
  induction n with
  | zero =>
    intro L v0 v1 v2 v3 v4 v5 v6 μ μ9 hl0 hl1 hl2 hl3 hl4 hl5 hl6 h
    unfold g_R_asks_124 at h
    cases h
  | succ n ih =>
    intro L v0 v1 v2 v3 v4 v5 v6 μ μ9 hl0 hl1 hl2 hl3 hl4 hl5 hl6 h
    unfold g_R_asks_124 at h
    refine jr_iload jf_262_124 hl6 ?_
    refine jr_aload_n jf_262_126 rfl hl0 ?_
    replace h := obd_of h; obtain ⟨x1, hx1, h⟩ := h
    refine jr_getA jf_262_127 hx1 ?_
    refine jr_iload jf_262_130 hl5 ?_
    replace h := obd_of h; obtain ⟨a2, rfl, h⟩ := h
    replace h := obd_of h; obtain ⟨x3, hx3, h⟩ := h
    refine jr_iaload jf_262_132 hx3 ?_
    refine jr_S3_1 jf_262_133 (by omega) (r_R_coefficientsOf (by omega) _ _ _ rfl) (Nat.le_of_ble_eq_true rfl) jml_194 (Nat.le_of_ble_eq_true rfl) ?_
    replace h := ite_or h; rcases h with ⟨hc, h⟩ | ⟨hc, h⟩
    · refine jr_if2_ge_t jf_262_136 hc ?_
      refine jr_iinc jf_262_196 jc_i_1 jml_262 (by decide) hl4 ?_
      refine jr_goto jf_262_199 ?_
      exact i86 _ _ _ _ _ _ _ _ (jg1_ne rfl hl0) (jg1_ne rfl hl1) (jg1_ne rfl hl2) (jg1_pre rfl hl3) jg1_same h
    · refine jr_if2_ge_f jf_262_136 hc ?_
      refine jr_aload_n jf_262_139 rfl hl0 ?_
      refine jr_aload_n jf_262_140 rfl hl0 ?_
      replace h := obd_of h; obtain ⟨x4, hx4, h⟩ := h
      refine jr_getZ jf_262_141 hx4 ?_
      replace h := ite_or h; rcases h with ⟨hc, h⟩ | ⟨hc, h⟩
      · refine jr_ifz_eq_f jf_262_144 hc ?_
        refine jr_iload_n jf_262_147 rfl hl2 ?_
        refine jr_iconst jf_262_148 jc_i_2 ?_
        replace h := ite_or h; rcases h with ⟨hc, h⟩ | ⟨hc, h⟩
        · refine jr_if2_ne_f jf_262_149 hc ?_
          refine jr_aload_n jf_262_152 rfl hl0 ?_
          refine jr_iload jf_262_153 hl5 ?_
          refine jr_iload jf_262_155 hl6 ?_
          replace h := jgd_of h; obtain ⟨hb5, h⟩ := h
          replace h := obd_of h; obtain ⟨x6, hx6, h⟩ := h
          refine jr_V6_2 jf_262_157 hb5 (by omega) (r_R_c (by omega) _ _ _ _ _ hx6) (Nat.le_of_ble_eq_true rfl) jml_216 (Nat.le_of_ble_eq_true rfl) ?_
          refine jr_iload_n jf_262_160 rfl hl3 ?_
          refine jr_iload_n jf_262_161 rfl hl2 ?_
          refine jr_aload_n jf_262_162 rfl hl0 ?_
          replace h := obd_of h; obtain ⟨x7, hx7, h⟩ := h
          refine jr_getA jf_262_163 hx7 ?_
          refine jr_iload jf_262_166 hl5 ?_
          replace h := obd_of h; obtain ⟨a8, rfl, h⟩ := h
          replace h := obd_of h; obtain ⟨x9, hx9, h⟩ := h
          refine jr_iaload jf_262_168 hx9 ?_
          refine jr_S3_1 jf_262_169 (by omega) (r_R_isPlain (by omega) _ _ _ rfl) (Nat.le_of_ble_eq_true rfl) jml_198 (Nat.le_of_ble_eq_true rfl) ?_
          replace h := obd_of h; obtain ⟨x10, hx10, h⟩ := h
          refine jr_S3_4 jf_262_172 (by omega) (r_R_turned (by omega) _ _ _ _ _ _ hx10) (Nat.le_of_ble_eq_true rfl) jml_263 (Nat.le_of_ble_eq_true rfl) ?_
          refine jr_ldc2d jf_262_175 ?_
          refine jr_dcmp jf_262_178 ?_
          replace h := ite_or h; rcases h with ⟨hc, h⟩ | ⟨hc, h⟩
          · refine jr_if_eq_t jf_262_179 hc ?_
            exact r_R_asks_186 hd i86 ih _ _ _ _ _ _ _ _ _ _ _ hl0 hl1 hl2 hl3 hl4 hl5 hl6 h
          · refine jr_if_eq_f jf_262_179 hc ?_
            exact r_R_asks_182 hd i86 ih _ _ _ _ _ _ _ _ _ _ _ hl0 hl1 hl2 hl3 hl4 hl5 hl6 h
        · refine jr_if2_ne_t jf_262_149 hc ?_
          exact r_R_asks_182 hd i86 ih _ _ _ _ _ _ _ _ _ _ _ hl0 hl1 hl2 hl3 hl4 hl5 hl6 h
      · refine jr_ifz_eq_t jf_262_144 hc ?_
        exact r_R_asks_186 hd i86 ih _ _ _ _ _ _ _ _ _ _ _ hl0 hl1 hl2 hl3 hl4 hl5 hl6 h
set_option maxRecDepth 10000 in
set_option maxHeartbeats 4000000 in
theorem r_R_asks_86 {N B : Nat} {SA : Nat → Nat} {d : Nat} (hd : 1 ≤ d) : ∀ (n : Nat), ∀ (L : JLoc) (v0 : Nat) (v1 : Int32) (v2 : Int32) (v3 : Int32) (v4 : Int32) (μ : JMem) (μ9 : JMem), jget L 0 = .ref v0 → jget L 1 = .int v1 → jget L 2 = .int v2 → jget L 3 = .int v3 → jget L 4 = .int v4 → g_R_asks_86 N B n v0 v1 v2 v3 v4 μ = some μ9 → jR B SA d m_R_asks 86 L [] μ none μ9 := by
  intro n
  induction n with
  | zero =>
    intro L v0 v1 v2 v3 v4 μ μ9 hl0 hl1 hl2 hl3 hl4 h
    unfold g_R_asks_86 at h
    cases h
  | succ n ih =>
    intro L v0 v1 v2 v3 v4 μ μ9 hl0 hl1 hl2 hl3 hl4 h
    unfold g_R_asks_86 at h
    refine jr_iload jf_262_86 hl4 ?_
    refine jr_aload_n jf_262_88 rfl hl0 ?_
    replace h := obd_of h; obtain ⟨x1, hx1, h⟩ := h
    refine jr_getA jf_262_89 hx1 ?_
    refine jr_iload_n jf_262_92 rfl hl1 ?_
    replace h := obd_of h; obtain ⟨a2, rfl, h⟩ := h
    replace h := obd_of h; obtain ⟨x3, hx3, h⟩ := h
    refine jr_iaload jf_262_93 hx3 ?_
    replace h := ite_or h; rcases h with ⟨hc, h⟩ | ⟨hc, h⟩
    · refine jr_if2_ge_t jf_262_94 hc ?_
      obtain rfl := Option.some.inj h
      exact jr_return jf_262_202 jmt_262
    · refine jr_if2_ge_f jf_262_94 hc ?_
      refine jr_aload_n jf_262_97 rfl hl0 ?_
      replace h := obd_of h; obtain ⟨x4, hx4, h⟩ := h
      refine jr_getA jf_262_98 hx4 ?_
      refine jr_bipush jf_262_101 jc_b_10 ?_
      refine jr_iload_n jf_262_103 rfl hl1 ?_
      refine jr_imul jf_262_104 ?_
      refine jr_iload jf_262_105 hl4 ?_
      refine jr_iadd jf_262_107 ?_
      replace h := obd_of h; obtain ⟨a5, rfl, h⟩ := h
      replace h := obd_of h; obtain ⟨x6, hx6, h⟩ := h
      refine jr_iaload jf_262_108 hx6 ?_
      refine jr_istore jf_262_109 jml_262 (by decide) ?_
      refine jr_aload_n jf_262_111 rfl (jg1_ne rfl hl0) ?_
      refine jr_dup jf_262_112 rfl ?_
      replace h := obd_of h; obtain ⟨x7, hx7, h⟩ := h
      refine jr_getI jf_262_113 hx7 ?_
      refine jr_iconst jf_262_116 jc_i_1 ?_
      refine jr_iadd jf_262_117 ?_
      replace h := obd_of h; obtain ⟨μ8, hμ8, h⟩ := h
      refine jr_putI jf_262_118 rfl hμ8 ?_
      refine jr_iconst jf_262_121 jc_i_0 ?_
      refine jr_istore jf_262_122 jml_262 (by decide) ?_
      exact r_R_asks_124 hd ih _ _ _ _ _ _ _ _ _ _ _ (jg1_ne rfl (jg1_ne rfl hl0)) (jg1_ne rfl (jg1_ne rfl hl1)) (jg1_ne rfl (jg1_ne rfl hl2)) (jg1_ne rfl (jg1_ne rfl hl3)) (jg1_ne rfl (jg1_pre rfl hl4)) (jg1_pre rfl jg1_same) jg1_same h
set_option maxRecDepth 10000 in
set_option maxHeartbeats 4000000 in
theorem r_R_asks_21 {N B : Nat} {SA : Nat → Nat} {d : Nat} (hd : 1 ≤ d) : ∀ (n : Nat), ∀ (L : JLoc) (v0 : Nat) (v1 : Int32) (v2 : Int32) (v3 : Int32) (v4 : Int32) (μ : JMem) (μ9 : JMem), jget L 0 = .ref v0 → jget L 1 = .int v1 → jget L 2 = .int v2 → jget L 3 = .int v3 → jget L 4 = .int v4 → g_R_asks_21 N B n v0 v1 v2 v3 v4 μ = some μ9 → jR B SA d m_R_asks 21 L [] μ none μ9 := by
  intro n
  induction n with
  | zero =>
    intro L v0 v1 v2 v3 v4 μ μ9 hl0 hl1 hl2 hl3 hl4 h
    unfold g_R_asks_21 at h
    cases h
  | succ n ih =>
    intro L v0 v1 v2 v3 v4 μ μ9 hl0 hl1 hl2 hl3 hl4 h
    unfold g_R_asks_21 at h
    refine jr_iload jf_262_21 hl4 ?_
    refine jr_iconst jf_262_23 jc_i_3 ?_
    refine jr_iload_n jf_262_24 rfl hl1 ?_
    refine jr_imul jf_262_25 ?_
    refine jr_aload_n jf_262_26 rfl hl0 ?_
    replace h := obd_of h; obtain ⟨x1, hx1, h⟩ := h
    refine jr_getA jf_262_27 hx1 ?_
    refine jr_iload_n jf_262_30 rfl hl1 ?_
    replace h := obd_of h; obtain ⟨a2, rfl, h⟩ := h
    replace h := obd_of h; obtain ⟨x3, hx3, h⟩ := h
    refine jr_iaload jf_262_31 hx3 ?_
    refine jr_iadd jf_262_32 ?_
    replace h := ite_or h; rcases h with ⟨hc, h⟩ | ⟨hc, h⟩
    · refine jr_if2_ge_t jf_262_33 hc ?_
      refine jr_iconst jf_262_83 jc_i_0 ?_
      refine jr_istore jf_262_84 jml_262 (by decide) ?_
      exact r_R_asks_86 hd _ _ _ _ _ _ _ _ _ (jg1_ne rfl hl0) (jg1_ne rfl hl1) (jg1_ne rfl hl2) (jg1_pre rfl hl3) jg1_same h
    · refine jr_if2_ge_f jf_262_33 hc ?_
      refine jr_aload_n jf_262_36 rfl hl0 ?_
      refine jr_aload_n jf_262_37 rfl hl0 ?_
      replace h := obd_of h; obtain ⟨x4, hx4, h⟩ := h
      refine jr_getZ jf_262_38 hx4 ?_
      replace h := ite_or h; rcases h with ⟨hc, h⟩ | ⟨hc, h⟩
      · refine jr_ifz_eq_f jf_262_41 hc ?_
        refine jr_iload_n jf_262_44 rfl hl2 ?_
        refine jr_iconst jf_262_45 jc_i_2 ?_
        replace h := ite_or h; rcases h with ⟨hc, h⟩ | ⟨hc, h⟩
        · refine jr_if2_ne_f jf_262_46 hc ?_
          refine jr_aload_n jf_262_49 rfl hl0 ?_
          replace h := obd_of h; obtain ⟨x5, hx5, h⟩ := h
          refine jr_getA jf_262_50 hx5 ?_
          refine jr_iload jf_262_53 hl4 ?_
          replace h := obd_of h; obtain ⟨a6, rfl, h⟩ := h
          replace h := obd_of h; obtain ⟨x7, hx7, h⟩ := h
          refine jr_daload jf_262_55 hx7 ?_
          refine jr_iload_n jf_262_56 rfl hl3 ?_
          refine jr_iload_n jf_262_57 rfl hl2 ?_
          refine jr_iconst jf_262_58 jc_i_0 ?_
          replace h := obd_of h; obtain ⟨x8, hx8, h⟩ := h
          refine jr_S3_4 jf_262_59 (by omega) (r_R_turned (by omega) _ _ _ _ _ _ hx8) (Nat.le_of_ble_eq_true rfl) jml_263 (Nat.le_of_ble_eq_true rfl) ?_
          refine jr_ldc2d jf_262_62 ?_
          refine jr_dcmp jf_262_65 ?_
          replace h := ite_or h; rcases h with ⟨hc, h⟩ | ⟨hc, h⟩
          · refine jr_if_eq_t jf_262_66 hc ?_
            exact r_R_asks_73 hd ih _ _ _ _ _ _ _ _ _ hl0 hl1 hl2 hl3 hl4 h
          · refine jr_if_eq_f jf_262_66 hc ?_
            exact r_R_asks_69 hd ih _ _ _ _ _ _ _ _ _ hl0 hl1 hl2 hl3 hl4 h
        · refine jr_if2_ne_t jf_262_46 hc ?_
          exact r_R_asks_69 hd ih _ _ _ _ _ _ _ _ _ hl0 hl1 hl2 hl3 hl4 h
      · refine jr_ifz_eq_t jf_262_41 hc ?_
        exact r_R_asks_73 hd ih _ _ _ _ _ _ _ _ _ hl0 hl1 hl2 hl3 hl4 h
set_option maxRecDepth 10000 in
set_option maxHeartbeats 4000000 in
theorem r_R_asks_e {N B : Nat} {SA : Nat → Nat} {d : Nat} (hd : 1 ≤ d) : ∀ (L : JLoc) (v0 : Nat) (v1 : Int32) (v2 : Int32) (μ : JMem) (μ9 : JMem), jget L 0 = .ref v0 → jget L 1 = .int v1 → jget L 2 = .int v2 → g_R_asks N B v0 v1 v2 μ = some μ9 → jR B SA d m_R_asks 0 L [] μ none μ9 := by
  intro L v0 v1 v2 μ μ9 hl0 hl1 hl2 h
  unfold g_R_asks at h
  refine jr_aload_n jf_262_0 rfl hl0 ?_
  refine jr_dup jf_262_1 rfl ?_
  replace h := obd_of h; obtain ⟨x1, hx1, h⟩ := h
  refine jr_getI jf_262_2 hx1 ?_
  refine jr_iconst jf_262_5 jc_i_1 ?_
  refine jr_iadd jf_262_6 ?_
  replace h := obd_of h; obtain ⟨μ2, hμ2, h⟩ := h
  refine jr_putI jf_262_7 rfl hμ2 ?_
  refine jr_aload_n jf_262_10 rfl hl0 ?_
  refine jr_iload_n jf_262_11 rfl hl1 ?_
  replace h := jgd_of h; obtain ⟨hb3, h⟩ := h
  replace h := obd_of h; obtain ⟨x4, hx4, h⟩ := h
  refine jr_V6_1 jf_262_12 hb3 (by omega) (r_R_sortOf (by omega) _ _ _ _ hx4) (Nat.le_of_ble_eq_true rfl) jml_205 (Nat.le_of_ble_eq_true rfl) ?_
  refine jr_istore_n jf_262_15 rfl jml_262 (by decide) ?_
  refine jr_iconst jf_262_16 jc_i_3 ?_
  refine jr_iload_n jf_262_17 rfl (jg1_ne rfl hl1) ?_
  refine jr_imul jf_262_18 ?_
  refine jr_istore jf_262_19 jml_262 (by decide) ?_
  exact r_R_asks_21 hd _ _ _ _ _ _ _ _ _ (jg1_ne rfl (jg1_ne rfl hl0)) (jg1_ne rfl (jg1_ne rfl hl1)) (jg1_ne rfl (jg1_pre rfl hl2)) (jg1_pre rfl jg1_same) jg1_same h
set_option maxRecDepth 10000 in
set_option maxHeartbeats 4000000 in
theorem r_R_asks {N B : Nat} {SA : Nat → Nat} {d : Nat} (hd : 1 ≤ d) : ∀ (v0 : Nat) (v1 : Int32) (v2 : Int32) (μ : JMem) (μ9 : JMem), g_R_asks N B v0 v1 v2 μ = some μ9 → jR B SA d m_R_asks 0 (lv_args 0 [.ref v0, .int v1, .int v2]) [] μ none μ9 := by
  intro v0 v1 v2 μ μ9 h
  exact r_R_asks_e hd (lv_args 0 _) _ _ _ _ _ (by simp [lv_args, jget, rv_cat, cat_int, cat_long, cat_double, cat_float, cat_ref]) (by simp [lv_args, jget, rv_cat, cat_int, cat_long, cat_double, cat_float, cat_ref]) (by simp [lv_args, jget, rv_cat, cat_int, cat_long, cat_double, cat_float, cat_ref]) h
/-! FilterBenchModel.convert(II)I -/
set_option maxRecDepth 10000 in
set_option maxHeartbeats 4000000 in
theorem r_R_convert_41 {N B : Nat} {SA : Nat → Nat} {d : Nat} (hd : 3 ≤ d) : ∀ (n : Nat), ∀ (L : JLoc) (v0 : Nat) (v1 : Int32) (v2 : Int32) (v3 : Int32) (μ : JMem) (r : Int32) (μ9 : JMem), jget L 0 = .ref v0 → jget L 1 = .int v1 → jget L 2 = .int v2 → jget L 3 = .int v3 → g_R_convert_41 N B n v0 v1 v2 v3 μ = some (r, μ9) → jR B SA d m_R_convert 41 L [] μ (some (.int r)) μ9 := by
  intro n
  induction n with
  | zero =>
    intro L v0 v1 v2 v3 μ r μ9 hl0 hl1 hl2 hl3 h
    unfold g_R_convert_41 at h
    cases h
  | succ n ih =>
    intro L v0 v1 v2 v3 μ r μ9 hl0 hl1 hl2 hl3 h
    unfold g_R_convert_41 at h
    refine jr_iload_n jf_261_41 rfl hl3 ?_
    refine jr_aload_n jf_261_42 rfl hl0 ?_
    replace h := obd_of h; obtain ⟨x1, hx1, h⟩ := h
    refine jr_getI jf_261_43 hx1 ?_
    replace h := ite_or h; rcases h with ⟨hc, h⟩ | ⟨hc, h⟩
    · refine jr_if2_ge_t jf_261_46 hc ?_
      refine jr_aload_n jf_261_66 rfl hl0 ?_
      replace h := obd_of h; obtain ⟨x2, hx2, h⟩ := h
      refine jr_getZ jf_261_67 hx2 ?_
      replace h := ite_or h; rcases h with ⟨hc, h⟩ | ⟨hc, h⟩
      · refine jr_ifz_eq_f jf_261_70 hc ?_
        refine jr_aload_n jf_261_73 rfl hl0 ?_
        replace h := obd_of h; obtain ⟨x3, hx3, h⟩ := h
        refine jr_getI jf_261_74 hx3 ?_
        refine jr_aload_n jf_261_77 rfl hl0 ?_
        replace h := obd_of h; obtain ⟨x4, hx4, h⟩ := h
        refine jr_getI jf_261_78 hx4 ?_
        refine jr_iadd jf_261_81 ?_
        refine jr_bipush jf_261_82 jc_b_60 ?_
        replace h := ite_or h; rcases h with ⟨hc, h⟩ | ⟨hc, h⟩
        · refine jr_if2_gt_t jf_261_84 hc ?_
          refine jr_iconst jf_261_101 jc_i_m1 ?_
          obtain ⟨rfl, rfl⟩ := Prod.mk.inj (Option.some.inj h)
          exact jr_retI jf_261_102 jmt_261
        · refine jr_if2_gt_f jf_261_84 hc ?_
          refine jr_aload_n jf_261_87 rfl hl0 ?_
          replace h := obd_of h; obtain ⟨x5, hx5, h⟩ := h
          refine jr_getI jf_261_88 hx5 ?_
          refine jr_aload_n jf_261_91 rfl hl0 ?_
          replace h := obd_of h; obtain ⟨x6, hx6, h⟩ := h
          refine jr_getI jf_261_92 hx6 ?_
          refine jr_iadd jf_261_95 ?_
          refine jr_bipush jf_261_96 jc_b_20 ?_
          replace h := ite_or h; rcases h with ⟨hc, h⟩ | ⟨hc, h⟩
          · refine jr_if2_le_t jf_261_98 hc ?_
            refine jr_aload_n jf_261_103 rfl hl0 ?_
            refine jr_iload_n jf_261_104 rfl hl1 ?_
            refine jr_iload_n jf_261_105 rfl hl2 ?_
            replace h := jgd_of h; obtain ⟨hb7, h⟩ := h
            replace h := jbd2_of h; obtain ⟨x8, μ9, hx8, h⟩ := h
            refine jr_V6_2 jf_261_106 hb7 (by omega) (r_R_anew (by omega) _ _ _ _ _ _ hx8) (Nat.le_of_ble_eq_true rfl) jml_264 (Nat.le_of_ble_eq_true rfl) ?_
            obtain ⟨rfl, rfl⟩ := Prod.mk.inj (Option.some.inj h)
            exact jr_retI jf_261_109 jmt_261
          · refine jr_if2_le_f jf_261_98 hc ?_
            refine jr_iconst jf_261_101 jc_i_m1 ?_
            obtain ⟨rfl, rfl⟩ := Prod.mk.inj (Option.some.inj h)
            exact jr_retI jf_261_102 jmt_261
      · refine jr_ifz_eq_t jf_261_70 hc ?_
        refine jr_iconst jf_261_101 jc_i_m1 ?_
        obtain ⟨rfl, rfl⟩ := Prod.mk.inj (Option.some.inj h)
        exact jr_retI jf_261_102 jmt_261
    · refine jr_if2_ge_f jf_261_46 hc ?_
      refine jr_aload_n jf_261_49 rfl hl0 ?_
      refine jr_aload_n jf_261_50 rfl hl0 ?_
      replace h := obd_of h; obtain ⟨x10, hx10, h⟩ := h
      refine jr_getA jf_261_51 hx10 ?_
      refine jr_iload_n jf_261_54 rfl hl3 ?_
      replace h := obd_of h; obtain ⟨a11, rfl, h⟩ := h
      replace h := obd_of h; obtain ⟨x12, hx12, h⟩ := h
      refine jr_iaload jf_261_55 hx12 ?_
      refine jr_iload_n jf_261_56 rfl hl2 ?_
      replace h := jgd_of h; obtain ⟨hb13, h⟩ := h
      replace h := obd_of h; obtain ⟨μ14, hμ14, h⟩ := h
      refine jr_V6v_2 jf_261_57 hb13 (by omega) (r_R_asks (by omega) _ _ _ _ _ hμ14) (Nat.le_of_ble_eq_true rfl) jml_262 (Nat.le_of_ble_eq_true rfl) ?_
      refine jr_iinc jf_261_60 jc_i_1 jml_261 (by decide) hl3 ?_
      refine jr_goto jf_261_63 ?_
      exact ih _ _ _ _ _ _ _ _ (jg1_ne rfl hl0) (jg1_ne rfl hl1) (jg1_pre rfl hl2) jg1_same h
set_option maxRecDepth 10000 in
set_option maxHeartbeats 4000000 in
theorem r_R_convert_e {N B : Nat} {SA : Nat → Nat} {d : Nat} (hd : 3 ≤ d) : ∀ (L : JLoc) (v0 : Nat) (v1 : Int32) (v2 : Int32) (μ : JMem) (r : Int32) (μ9 : JMem), jget L 0 = .ref v0 → jget L 1 = .int v1 → jget L 2 = .int v2 → g_R_convert N B v0 v1 v2 μ = some (r, μ9) → jR B SA d m_R_convert 0 L [] μ (some (.int r)) μ9 := by
  intro L v0 v1 v2 μ r μ9 hl0 hl1 hl2 h
  unfold g_R_convert at h
  refine jr_aload_n jf_261_0 rfl hl0 ?_
  refine jr_iload_n jf_261_1 rfl hl1 ?_
  replace h := jgd_of h; obtain ⟨hb1, h⟩ := h
  replace h := obd_of h; obtain ⟨x2, hx2, h⟩ := h
  refine jr_V6_1 jf_261_2 hb1 (by omega) (r_R_isFed (by omega) _ _ _ _ hx2) (Nat.le_of_ble_eq_true rfl) jml_212 (Nat.le_of_ble_eq_true rfl) ?_
  replace h := ite_or h; rcases h with ⟨hc, h⟩ | ⟨hc, h⟩
  · refine jr_ifz_eq_f jf_261_5 hc ?_
    refine jr_iload_n jf_261_8 rfl hl2 ?_
    refine jr_iconst jf_261_9 jc_i_0 ?_
    refine jr_iconst jf_261_10 jc_i_2 ?_
    refine jr_S3_3 jf_261_11 (by omega) (r_R_in (by omega) _ _ _ _ _ rfl) (Nat.le_of_ble_eq_true rfl) jml_187 (Nat.le_of_ble_eq_true rfl) ?_
    replace h := ite_or h; rcases h with ⟨hc, h⟩ | ⟨hc, h⟩
    · refine jr_ifz_ne_t jf_261_14 hc ?_
      refine jr_aload_n jf_261_19 rfl hl0 ?_
      refine jr_iconst jf_261_20 jc_i_0 ?_
      replace h := obd_of h; obtain ⟨μ3, hμ3, h⟩ := h
      refine jr_putI jf_261_21 rfl hμ3 ?_
      refine jr_aload_n jf_261_24 rfl hl0 ?_
      refine jr_iconst jf_261_25 jc_i_0 ?_
      replace h := obd_of h; obtain ⟨μ4, hμ4, h⟩ := h
      refine jr_putI jf_261_26 rfl hμ4 ?_
      refine jr_aload_n jf_261_29 rfl hl0 ?_
      refine jr_iconst jf_261_30 jc_i_1 ?_
      replace h := obd_of h; obtain ⟨μ5, hμ5, h⟩ := h
      refine jr_putZ (x := true) jf_261_31 rfl hμ5 ?_
      refine jr_aload_n jf_261_34 rfl hl0 ?_
      refine jr_iload_n jf_261_35 rfl hl1 ?_
      replace h := jgd_of h; obtain ⟨hb6, h⟩ := h
      replace h := obd_of h; obtain ⟨μ7, hμ7, h⟩ := h
      refine jr_V6v_1 jf_261_36 hb6 (by omega) (r_R_trees (by omega) _ _ _ _ hμ7) (Nat.le_of_ble_eq_true rfl) jml_244 (Nat.le_of_ble_eq_true rfl) ?_
      refine jr_iconst jf_261_39 jc_i_0 ?_
      refine jr_istore_n jf_261_40 rfl jml_261 (by decide) ?_
      exact r_R_convert_41 hd _ _ _ _ _ _ _ _ _ (jg1_ne rfl hl0) (jg1_ne rfl hl1) (jg1_pre rfl hl2) jg1_same h
    · refine jr_ifz_ne_f jf_261_14 hc ?_
      refine jr_iconst jf_261_17 jc_i_m1 ?_
      obtain ⟨rfl, rfl⟩ := Prod.mk.inj (Option.some.inj h)
      exact jr_retI jf_261_18 jmt_261
  · refine jr_ifz_eq_t jf_261_5 hc ?_
    refine jr_iconst jf_261_17 jc_i_m1 ?_
    obtain ⟨rfl, rfl⟩ := Prod.mk.inj (Option.some.inj h)
    exact jr_retI jf_261_18 jmt_261
set_option maxRecDepth 10000 in
set_option maxHeartbeats 4000000 in
theorem r_R_convert {N B : Nat} {SA : Nat → Nat} {d : Nat} (hd : 3 ≤ d) : ∀ (v0 : Nat) (v1 : Int32) (v2 : Int32) (μ : JMem) (r : Int32) (μ9 : JMem), g_R_convert N B v0 v1 v2 μ = some (r, μ9) → jR B SA d m_R_convert 0 (lv_args 0 [.ref v0, .int v1, .int v2]) [] μ (some (.int r)) μ9 := by
  intro v0 v1 v2 μ r μ9 h
  exact r_R_convert_e hd (lv_args 0 _) _ _ _ _ _ _ (by simp [lv_args, jget, rv_cat, cat_int, cat_long, cat_double, cat_float, cat_ref]) (by simp [lv_args, jget, rv_cat, cat_int, cat_long, cat_double, cat_float, cat_ref]) (by simp [lv_args, jget, rv_cat, cat_int, cat_long, cat_double, cat_float, cat_ref]) h
/-! FilterBenchModel.measure(II)J -/
set_option maxRecDepth 10000 in
set_option maxHeartbeats 4000000 in
theorem r_R_measure_204 {N B : Nat} {SA : Nat → Nat} {d : Nat} (hd : 3 ≤ d) {k64 : Nat → Int32 → Int32 → UInt64 → Int64 → Int32 → Int64 → Int64 → Int32 → (Nat → Option JCell) → Option Int64} (i64 : ∀ (L : JLoc) (v0 : Nat) (v1 : Int32) (v2 : Int32) (v4 : UInt64) (v6 : Int64) (v8 : Int32) (v9 : Int64) (v11 : Int64) (v13 : Int32) (μ : JMem) (r : Int64), jget L 0 = .ref v0 → jget L 1 = .int v1 → jget L 2 = .int v2 → jget L 4 = .double v4 → jget L 6 = .long v6 → jget L 8 = .int v8 → jget L 9 = .long v9 → jget L 11 = .long v11 → jget L 13 = .int v13 → k64 v0 v1 v2 v4 v6 v8 v9 v11 v13 μ.1 = some r → jR B SA d m_R_measure 64 L [] μ (some (.long r)) μ) : ∀ (L : JLoc) (v0 : Nat) (v1 : Int32) (v2 : Int32) (v4 : UInt64) (v6 : Int64) (v8 : Int32) (v9 : Int64) (v11 : Int64) (v13 : Int32) (μ : JMem) (r : Int64), jget L 0 = .ref v0 → jget L 1 = .int v1 → jget L 2 = .int v2 → jget L 4 = .double v4 → jget L 6 = .long v6 → jget L 8 = .int v8 → jget L 9 = .long v9 → jget L 11 = .long v11 → jget L 13 = .int v13 → g_R_measure_204 N k64 v0 v1 v2 v4 v6 v8 v9 v11 v13 μ.1 = some r → jR B SA d m_R_measure 204 L [] μ (some (.long r)) μ := by
  intro L v0 v1 v2 v4 v6 v8 v9 v11 v13 μ r hl0 hl1 hl2 hl4 hl6 hl8 hl9 hl11 hl13 h
  unfold g_R_measure_204 at h
  refine jr_iinc jf_266_204 jc_i_1 jml_266 (by decide) hl13 ?_
  refine jr_goto jf_266_207 ?_
  exact i64 _ _ _ _ _ _ _ _ _ _ _ _ (jg1_ne rfl hl0) (jg1_ne rfl hl1) (jg1_ne rfl hl2) (jg1_ne rfl hl4) (jg1_ne rfl hl6) (jg1_ne rfl hl8) (jg1_ne rfl hl9) (jg1_ne rfl hl11) jg1_same h
set_option maxRecDepth 10000 in
set_option maxHeartbeats 4000000 in
theorem r_R_measure_200 {N B : Nat} {SA : Nat → Nat} {d : Nat} (hd : 3 ≤ d) {k64 : Nat → Int32 → Int32 → UInt64 → Int64 → Int32 → Int64 → Int64 → Int32 → (Nat → Option JCell) → Option Int64} (i64 : ∀ (L : JLoc) (v0 : Nat) (v1 : Int32) (v2 : Int32) (v4 : UInt64) (v6 : Int64) (v8 : Int32) (v9 : Int64) (v11 : Int64) (v13 : Int32) (μ : JMem) (r : Int64), jget L 0 = .ref v0 → jget L 1 = .int v1 → jget L 2 = .int v2 → jget L 4 = .double v4 → jget L 6 = .long v6 → jget L 8 = .int v8 → jget L 9 = .long v9 → jget L 11 = .long v11 → jget L 13 = .int v13 → k64 v0 v1 v2 v4 v6 v8 v9 v11 v13 μ.1 = some r → jR B SA d m_R_measure 64 L [] μ (some (.long r)) μ) : ∀ (L : JLoc) (v0 : Nat) (v1 : Int32) (v2 : Int32) (v4 : UInt64) (v6 : Int64) (v9 : Int64) (v11 : Int64) (v13 : Int32) (v18 : Int32) (μ : JMem) (r : Int64), jget L 0 = .ref v0 → jget L 1 = .int v1 → jget L 2 = .int v2 → jget L 4 = .double v4 → jget L 6 = .long v6 → jget L 9 = .long v9 → jget L 11 = .long v11 → jget L 13 = .int v13 → jget L 18 = .int v18 → g_R_measure_200 N k64 v0 v1 v2 v4 v6 v9 v11 v13 v18 μ.1 = some r → jR B SA d m_R_measure 200 L [] μ (some (.long r)) μ := by
  intro L v0 v1 v2 v4 v6 v9 v11 v13 v18 μ r hl0 hl1 hl2 hl4 hl6 hl9 hl11 hl13 hl18 h
  unfold g_R_measure_200 at h
  refine jr_iload jf_266_200 hl18 ?_
  refine jr_istore jf_266_202 jml_266 (by decide) ?_
  exact r_R_measure_204 hd i64 _ _ _ _ _ _ _ _ _ _ _ _ (jg1_ne rfl hl0) (jg1_ne rfl hl1) (jg1_ne rfl hl2) (jg1_ne rfl hl4) (jg1_ne rfl hl6) jg1_same (jg1_ne rfl hl9) (jg1_ne rfl hl11) (jg1_ne rfl hl13) h
set_option maxRecDepth 10000 in
set_option maxHeartbeats 4000000 in
theorem r_R_measure_176 {N B : Nat} {SA : Nat → Nat} {d : Nat} (hd : 3 ≤ d) {k64 : Nat → Int32 → Int32 → UInt64 → Int64 → Int32 → Int64 → Int64 → Int32 → (Nat → Option JCell) → Option Int64} (i64 : ∀ (L : JLoc) (v0 : Nat) (v1 : Int32) (v2 : Int32) (v4 : UInt64) (v6 : Int64) (v8 : Int32) (v9 : Int64) (v11 : Int64) (v13 : Int32) (μ : JMem) (r : Int64), jget L 0 = .ref v0 → jget L 1 = .int v1 → jget L 2 = .int v2 → jget L 4 = .double v4 → jget L 6 = .long v6 → jget L 8 = .int v8 → jget L 9 = .long v9 → jget L 11 = .long v11 → jget L 13 = .int v13 → k64 v0 v1 v2 v4 v6 v8 v9 v11 v13 μ.1 = some r → jR B SA d m_R_measure 64 L [] μ (some (.long r)) μ) : ∀ (L : JLoc) (v0 : Nat) (v1 : Int32) (v2 : Int32) (v4 : UInt64) (v6 : Int64) (v8 : Int32) (v9 : Int64) (v11 : Int64) (v13 : Int32) (s0 : Int32) (μ : JMem) (r : Int64), jget L 0 = .ref v0 → jget L 1 = .int v1 → jget L 2 = .int v2 → jget L 4 = .double v4 → jget L 6 = .long v6 → jget L 8 = .int v8 → jget L 9 = .long v9 → jget L 11 = .long v11 → jget L 13 = .int v13 → g_R_measure_176 N k64 v0 v1 v2 v4 v6 v8 v9 v11 v13 s0 μ.1 = some r → jR B SA d m_R_measure 176 L [.int s0] μ (some (.long r)) μ := by
  intro L v0 v1 v2 v4 v6 v8 v9 v11 v13 s0 μ r hl0 hl1 hl2 hl4 hl6 hl8 hl9 hl11 hl13 h
  unfold g_R_measure_176 at h
  refine jr_istore jf_266_176 jml_266 (by decide) ?_
  refine jr_iload jf_266_178 jg1_same ?_
  replace h := ite_or h; rcases h with ⟨hc, h⟩ | ⟨hc, h⟩
  · refine jr_if_ne_f jf_266_180 hc ?_
    refine jr_goto jf_266_183 ?_
    exact r_R_measure_204 hd i64 _ _ _ _ _ _ _ _ _ _ _ _ (jg1_ne rfl hl0) (jg1_ne rfl hl1) (jg1_ne rfl hl2) (jg1_ne rfl hl4) (jg1_ne rfl hl6) (jg1_ne rfl hl8) (jg1_ne rfl hl9) (jg1_ne rfl hl11) (jg1_ne rfl hl13) h
  · refine jr_if_ne_t jf_266_180 hc ?_
    refine jr_iload jf_266_186 (jg1_ne rfl hl8) ?_
    refine jr_iload jf_266_188 jg1_same ?_
    refine jr_ineg jf_266_190 ?_
    replace h := ite_or h; rcases h with ⟨hc, h⟩ | ⟨hc, h⟩
    · refine jr_if2_ne_f jf_266_191 hc ?_
      refine jr_lload jf_266_194 (jg1_ne rfl hl6) ?_
      refine jr_lconst1 jf_266_196 ?_
      refine jr_ladd jf_266_197 ?_
      refine jr_lstore jf_266_198 jml_266 (by decide) ?_
      exact r_R_measure_200 hd i64 _ _ _ _ _ _ _ _ _ _ _ _ (jg2_ne rfl (jg1_ne rfl hl0)) (jg2_ne rfl (jg1_ne rfl hl1)) (jg2_ne rfl (jg1_ne rfl hl2)) (jg2_ne rfl (jg1_ne rfl hl4)) jg2_same (jg2_ne rfl (jg1_ne rfl hl9)) (jg2_ne rfl (jg1_ne rfl hl11)) (jg2_ne rfl (jg1_ne rfl hl13)) (jg2_ne rfl jg1_same) h
    · refine jr_if2_ne_t jf_266_191 hc ?_
      exact r_R_measure_200 hd i64 _ _ _ _ _ _ _ _ _ _ _ _ (jg1_ne rfl hl0) (jg1_ne rfl hl1) (jg1_ne rfl hl2) (jg1_ne rfl hl4) (jg1_ne rfl hl6) (jg1_ne rfl hl9) (jg1_ne rfl hl11) (jg1_ne rfl hl13) jg1_same h
set_option maxRecDepth 10000 in
set_option maxHeartbeats 4000000 in
theorem r_R_measure_151 {N B : Nat} {SA : Nat → Nat} {d : Nat} (hd : 3 ≤ d) {k64 : Nat → Int32 → Int32 → UInt64 → Int64 → Int32 → Int64 → Int64 → Int32 → (Nat → Option JCell) → Option Int64} (i64 : ∀ (L : JLoc) (v0 : Nat) (v1 : Int32) (v2 : Int32) (v4 : UInt64) (v6 : Int64) (v8 : Int32) (v9 : Int64) (v11 : Int64) (v13 : Int32) (μ : JMem) (r : Int64), jget L 0 = .ref v0 → jget L 1 = .int v1 → jget L 2 = .int v2 → jget L 4 = .double v4 → jget L 6 = .long v6 → jget L 8 = .int v8 → jget L 9 = .long v9 → jget L 11 = .long v11 → jget L 13 = .int v13 → k64 v0 v1 v2 v4 v6 v8 v9 v11 v13 μ.1 = some r → jR B SA d m_R_measure 64 L [] μ (some (.long r)) μ) : ∀ (L : JLoc) (v0 : Nat) (v1 : Int32) (v2 : Int32) (v4 : UInt64) (v6 : Int64) (v8 : Int32) (v9 : Int64) (v13 : Int32) (v14 : UInt64) (s0 : Int64) (μ : JMem) (r : Int64), jget L 0 = .ref v0 → jget L 1 = .int v1 → jget L 2 = .int v2 → jget L 4 = .double v4 → jget L 6 = .long v6 → jget L 8 = .int v8 → jget L 9 = .long v9 → jget L 13 = .int v13 → jget L 14 = .double v14 → g_R_measure_151 N k64 v0 v1 v2 v4 v6 v8 v9 v13 v14 s0 μ.1 = some r → jR B SA d m_R_measure 151 L [.long s0] μ (some (.long r)) μ := by
  intro L v0 v1 v2 v4 v6 v8 v9 v13 v14 s0 μ r hl0 hl1 hl2 hl4 hl6 hl8 hl9 hl13 hl14 h
  unfold g_R_measure_151 at h
  refine jr_lstore jf_266_151 jml_266 (by decide) ?_
  refine jr_dload jf_266_153 (jg2_ne rfl hl14) ?_
  refine jr_dconst0 jf_266_155 ?_
  refine jr_dcmp jf_266_156 ?_
  replace h := ite_or h; rcases h with ⟨hc, h⟩ | ⟨hc, h⟩
  · refine jr_if_le_t jf_266_157 hc ?_
    refine jr_dload jf_266_164 (jg2_ne rfl hl14) ?_
    refine jr_dconst0 jf_266_166 ?_
    refine jr_dcmp jf_266_167 ?_
    replace h := ite_or h; rcases h with ⟨hc, h⟩ | ⟨hc, h⟩
    · refine jr_if_ge_t jf_266_168 hc ?_
      refine jr_iconst jf_266_175 jc_i_0 ?_
      exact r_R_measure_176 hd i64 _ _ _ _ _ _ _ _ _ _ _ _ _ (jg2_ne rfl hl0) (jg2_ne rfl hl1) (jg2_ne rfl hl2) (jg2_ne rfl hl4) (jg2_ne rfl hl6) (jg2_ne rfl hl8) (jg2_ne rfl hl9) jg2_same (jg2_ne rfl hl13) h
    · refine jr_if_ge_f jf_266_168 hc ?_
      refine jr_iconst jf_266_171 jc_i_m1 ?_
      refine jr_goto jf_266_172 ?_
      exact r_R_measure_176 hd i64 _ _ _ _ _ _ _ _ _ _ _ _ _ (jg2_ne rfl hl0) (jg2_ne rfl hl1) (jg2_ne rfl hl2) (jg2_ne rfl hl4) (jg2_ne rfl hl6) (jg2_ne rfl hl8) (jg2_ne rfl hl9) jg2_same (jg2_ne rfl hl13) h
  · refine jr_if_le_f jf_266_157 hc ?_
    refine jr_iconst jf_266_160 jc_i_1 ?_
    refine jr_goto jf_266_161 ?_
    exact r_R_measure_176 hd i64 _ _ _ _ _ _ _ _ _ _ _ _ _ (jg2_ne rfl hl0) (jg2_ne rfl hl1) (jg2_ne rfl hl2) (jg2_ne rfl hl4) (jg2_ne rfl hl6) (jg2_ne rfl hl8) (jg2_ne rfl hl9) jg2_same (jg2_ne rfl hl13) h
set_option maxRecDepth 10000 in
set_option maxHeartbeats 4000000 in
theorem r_R_measure_134 {N B : Nat} {SA : Nat → Nat} {d : Nat} (hd : 3 ≤ d) {k64 : Nat → Int32 → Int32 → UInt64 → Int64 → Int32 → Int64 → Int64 → Int32 → (Nat → Option JCell) → Option Int64} (i64 : ∀ (L : JLoc) (v0 : Nat) (v1 : Int32) (v2 : Int32) (v4 : UInt64) (v6 : Int64) (v8 : Int32) (v9 : Int64) (v11 : Int64) (v13 : Int32) (μ : JMem) (r : Int64), jget L 0 = .ref v0 → jget L 1 = .int v1 → jget L 2 = .int v2 → jget L 4 = .double v4 → jget L 6 = .long v6 → jget L 8 = .int v8 → jget L 9 = .long v9 → jget L 11 = .long v11 → jget L 13 = .int v13 → k64 v0 v1 v2 v4 v6 v8 v9 v11 v13 μ.1 = some r → jR B SA d m_R_measure 64 L [] μ (some (.long r)) μ) : ∀ (L : JLoc) (v0 : Nat) (v1 : Int32) (v2 : Int32) (v4 : UInt64) (v6 : Int64) (v8 : Int32) (v11 : Int64) (v13 : Int32) (v14 : UInt64) (s0 : Int64) (μ : JMem) (r : Int64), jget L 0 = .ref v0 → jget L 1 = .int v1 → jget L 2 = .int v2 → jget L 4 = .double v4 → jget L 6 = .long v6 → jget L 8 = .int v8 → jget L 11 = .long v11 → jget L 13 = .int v13 → jget L 14 = .double v14 → g_R_measure_134 N k64 v0 v1 v2 v4 v6 v8 v11 v13 v14 s0 μ.1 = some r → jR B SA d m_R_measure 134 L [.long s0] μ (some (.long r)) μ := by
  intro L v0 v1 v2 v4 v6 v8 v11 v13 v14 s0 μ r hl0 hl1 hl2 hl4 hl6 hl8 hl11 hl13 hl14 h
  unfold g_R_measure_134 at h
  refine jr_lstore jf_266_134 jml_266 (by decide) ?_
  refine jr_lload jf_266_136 jg2_same ?_
  refine jr_lload jf_266_138 (jg2_ne rfl hl11) ?_
  refine jr_lcmp jf_266_140 ?_
  replace h := ite_or h; rcases h with ⟨hc, h⟩ | ⟨hc, h⟩
  · refine jr_ifl_le_t jf_266_141 hc ?_
    refine jr_lload jf_266_149 (jg2_ne rfl hl11) ?_
    exact r_R_measure_151 hd i64 _ _ _ _ _ _ _ _ _ _ _ _ _ (jg2_ne rfl hl0) (jg2_ne rfl hl1) (jg2_ne rfl hl2) (jg2_ne rfl hl4) (jg2_ne rfl hl6) (jg2_pre rfl hl8) jg2_same (jg2_ne rfl hl13) (jg2_ne rfl hl14) h
  · refine jr_ifl_le_f jf_266_141 hc ?_
    refine jr_lload jf_266_144 jg2_same ?_
    refine jr_goto jf_266_146 ?_
    exact r_R_measure_151 hd i64 _ _ _ _ _ _ _ _ _ _ _ _ _ (jg2_ne rfl hl0) (jg2_ne rfl hl1) (jg2_ne rfl hl2) (jg2_ne rfl hl4) (jg2_ne rfl hl6) (jg2_pre rfl hl8) jg2_same (jg2_ne rfl hl13) (jg2_ne rfl hl14) h
set_option maxRecDepth 10000 in
set_option maxHeartbeats 4000000 in
theorem r_R_measure_119 {N B : Nat} {SA : Nat → Nat} {d : Nat} (hd : 3 ≤ d) {k64 : Nat → Int32 → Int32 → UInt64 → Int64 → Int32 → Int64 → Int64 → Int32 → (Nat → Option JCell) → Option Int64} (i64 : ∀ (L : JLoc) (v0 : Nat) (v1 : Int32) (v2 : Int32) (v4 : UInt64) (v6 : Int64) (v8 : Int32) (v9 : Int64) (v11 : Int64) (v13 : Int32) (μ : JMem) (r : Int64), jget L 0 = .ref v0 → jget L 1 = .int v1 → jget L 2 = .int v2 → jget L 4 = .double v4 → jget L 6 = .long v6 → jget L 8 = .int v8 → jget L 9 = .long v9 → jget L 11 = .long v11 → jget L 13 = .int v13 → k64 v0 v1 v2 v4 v6 v8 v9 v11 v13 μ.1 = some r → jR B SA d m_R_measure 64 L [] μ (some (.long r)) μ) : ∀ (L : JLoc) (v0 : Nat) (v1 : Int32) (v2 : Int32) (v4 : UInt64) (v6 : Int64) (v8 : Int32) (v9 : Int64) (v11 : Int64) (v13 : Int32) (v14 : UInt64) (μ : JMem) (r : Int64), jget L 0 = .ref v0 → jget L 1 = .int v1 → jget L 2 = .int v2 → jget L 4 = .double v4 → jget L 6 = .long v6 → jget L 8 = .int v8 → jget L 9 = .long v9 → jget L 11 = .long v11 → jget L 13 = .int v13 → jget L 14 = .double v14 → g_R_measure_119 N k64 v0 v1 v2 v4 v6 v8 v9 v11 v13 v14 μ.1 = some r → jR B SA d m_R_measure 119 L [] μ (some (.long r)) μ := by
  intro L v0 v1 v2 v4 v6 v8 v9 v11 v13 v14 μ r hl0 hl1 hl2 hl4 hl6 hl8 hl9 hl11 hl13 hl14 h
  unfold g_R_measure_119 at h
  refine jr_dload jf_266_119 hl14 ?_
  refine jr_dconst0 jf_266_121 ?_
  refine jr_dcmp jf_266_122 ?_
  replace h := ite_or h; rcases h with ⟨hc, h⟩ | ⟨hc, h⟩
  · refine jr_if_ne_f jf_266_123 hc ?_
    refine jr_lload jf_266_126 hl9 ?_
    refine jr_lconst1 jf_266_128 ?_
    refine jr_ladd jf_266_129 ?_
    refine jr_goto jf_266_130 ?_
    exact r_R_measure_134 hd i64 _ _ _ _ _ _ _ _ _ _ _ _ _ hl0 hl1 hl2 hl4 hl6 hl8 hl11 hl13 hl14 h
  · refine jr_if_ne_t jf_266_123 hc ?_
    refine jr_lconst0 jf_266_133 ?_
    exact r_R_measure_134 hd i64 _ _ _ _ _ _ _ _ _ _ _ _ _ hl0 hl1 hl2 hl4 hl6 hl8 hl11 hl13 hl14 h
set_option maxRecDepth 10000 in
set_option maxHeartbeats 4000000 in
theorem r_R_measure_64 {N B : Nat} {SA : Nat → Nat} {d : Nat} (hd : 3 ≤ d) : ∀ (n : Nat), ∀ (L : JLoc) (v0 : Nat) (v1 : Int32) (v2 : Int32) (v4 : UInt64) (v6 : Int64) (v8 : Int32) (v9 : Int64) (v11 : Int64) (v13 : Int32) (μ : JMem) (r : Int64), jget L 0 = .ref v0 → jget L 1 = .int v1 → jget L 2 = .int v2 → jget L 4 = .double v4 → jget L 6 = .long v6 → jget L 8 = .int v8 → jget L 9 = .long v9 → jget L 11 = .long v11 → jget L 13 = .int v13 → g_R_measure_64 N n v0 v1 v2 v4 v6 v8 v9 v11 v13 μ.1 = some r → jR B SA d m_R_measure 64 L [] μ (some (.long r)) μ := by
  intro n
  induction n with
  | zero =>
    intro L v0 v1 v2 v4 v6 v8 v9 v11 v13 μ r hl0 hl1 hl2 hl4 hl6 hl8 hl9 hl11 hl13 h
    unfold g_R_measure_64 at h
    cases h
  | succ n ih =>
    intro L v0 v1 v2 v4 v6 v8 v9 v11 v13 μ r hl0 hl1 hl2 hl4 hl6 hl8 hl9 hl11 hl13 h
    unfold g_R_measure_64 at h
    refine jr_iload jf_266_64 hl13 ?_
    refine jr_aload_n jf_266_66 rfl hl0 ?_
    replace h := obd_of h; obtain ⟨x1, hx1, h⟩ := h
    refine jr_getA jf_266_67 hx1 ?_
    refine jr_iload_n jf_266_70 rfl hl1 ?_
    replace h := obd_of h; obtain ⟨a2, rfl, h⟩ := h
    replace h := obd_of h; obtain ⟨x3, hx3, h⟩ := h
    refine jr_iaload jf_266_71 hx3 ?_
    replace h := ite_or h; rcases h with ⟨hc, h⟩ | ⟨hc, h⟩
    · refine jr_if2_ge_t jf_266_72 hc ?_
      refine jr_iload_n jf_266_210 rfl hl2 ?_
      replace h := ite_or h; rcases h with ⟨hc, h⟩ | ⟨hc, h⟩
      · refine jr_if_ne_f jf_266_211 hc ?_
        refine jr_aload_n jf_266_214 rfl hl0 ?_
        replace h := obd_of h; obtain ⟨x4, hx4, h⟩ := h
        refine jr_getA jf_266_215 hx4 ?_
        refine jr_iload_n jf_266_218 rfl hl1 ?_
        replace h := obd_of h; obtain ⟨a5, rfl, h⟩ := h
        replace h := obd_of h; obtain ⟨x6, hx6, h⟩ := h
        refine jr_iaload jf_266_219 hx6 ?_
        replace h := ite_or h; rcases h with ⟨hc, h⟩ | ⟨hc, h⟩
        · refine jr_if_ne_f jf_266_220 hc ?_
          refine jr_lconst0 jf_266_223 ?_
          refine jr_goto jf_266_224 ?_
          obtain rfl := Option.some.inj h
          exact jr_retJ jf_266_252 jmt_266
        · refine jr_if_ne_t jf_266_220 hc ?_
          refine jr_aload_n jf_266_227 rfl hl0 ?_
          refine jr_iload_n jf_266_228 rfl hl1 ?_
          replace h := jgd_of h; obtain ⟨hb7, h⟩ := h
          replace h := obd_of h; obtain ⟨x8, hx8, h⟩ := h
          refine jr_V6_1 jf_266_229 hb7 (by omega) (r_R_sortOf (by omega) _ _ _ _ hx8) (Nat.le_of_ble_eq_true rfl) jml_205 (Nat.le_of_ble_eq_true rfl) ?_
          refine jr_dload jf_266_232 hl4 ?_
          replace h := obd_of h; obtain ⟨x9, hx9, h⟩ := h
          refine jr_S3_2 jf_266_234 (by omega) (r_R_bitsOf (by omega) _ _ _ _ hx9) (Nat.le_of_ble_eq_true rfl) jml_235 (Nat.le_of_ble_eq_true rfl) ?_
          refine jr_goto jf_266_237 ?_
          obtain rfl := Option.some.inj h
          exact jr_retJ jf_266_252 jmt_266
      · refine jr_if_ne_t jf_266_211 hc ?_
        refine jr_iload_n jf_266_240 rfl hl2 ?_
        refine jr_iconst jf_266_241 jc_i_1 ?_
        replace h := ite_or h; rcases h with ⟨hc, h⟩ | ⟨hc, h⟩
        · refine jr_if2_ne_f jf_266_242 hc ?_
          refine jr_lload jf_266_245 hl6 ?_
          refine jr_goto jf_266_247 ?_
          obtain rfl := Option.some.inj h
          exact jr_retJ jf_266_252 jmt_266
        · refine jr_if2_ne_t jf_266_242 hc ?_
          refine jr_lload jf_266_250 hl11 ?_
          obtain rfl := Option.some.inj h
          exact jr_retJ jf_266_252 jmt_266
    · refine jr_if2_ge_f jf_266_72 hc ?_
      refine jr_aload_n jf_266_75 rfl hl0 ?_
      replace h := obd_of h; obtain ⟨x10, hx10, h⟩ := h
      refine jr_getA jf_266_76 hx10 ?_
      refine jr_sipush jf_266_79 jc_s_400 ?_
      refine jr_iload_n jf_266_82 rfl hl1 ?_
      refine jr_imul jf_266_83 ?_
      refine jr_iload jf_266_84 hl13 ?_
      refine jr_sipush jf_266_86 jc_s_400 ?_
      refine jr_irem jf_266_89 (by simp only [jremI]; exact if_neg (by decide)) ?_
      refine jr_iadd jf_266_90 ?_
      replace h := obd_of h; obtain ⟨a11, rfl, h⟩ := h
      replace h := obd_of h; obtain ⟨x12, hx12, h⟩ := h
      refine jr_daload jf_266_91 hx12 ?_
      refine jr_dstore jf_266_92 jml_266 (by decide) ?_
      refine jr_aload_n jf_266_94 rfl (jg2_ne rfl hl0) ?_
      refine jr_aload_n jf_266_95 rfl (jg2_ne rfl hl0) ?_
      refine jr_iload_n jf_266_96 rfl (jg2_ne rfl hl1) ?_
      replace h := jgd_of h; obtain ⟨hb13, h⟩ := h
      replace h := obd_of h; obtain ⟨x14, hx14, h⟩ := h
      refine jr_V6_1 jf_266_97 hb13 (by omega) (r_R_sortOf (by omega) _ _ _ _ hx14) (Nat.le_of_ble_eq_true rfl) jml_205 (Nat.le_of_ble_eq_true rfl) ?_
      refine jr_dload jf_266_100 jg2_same ?_
      replace h := jgd_of h; obtain ⟨hb15, h⟩ := h
      replace h := obd_of h; obtain ⟨x16, hx16, h⟩ := h
      refine jr_V6_2 jf_266_102 hb15 (by omega) (r_R_sizeOf (by omega) _ _ _ _ _ hx16) (Nat.le_of_ble_eq_true rfl) jml_231 (Nat.le_of_ble_eq_true rfl) ?_
      refine jr_dstore jf_266_105 jml_266 (by decide) ?_
      refine jr_dload jf_266_107 jg2_same ?_
      refine jr_dload jf_266_109 (jg2_ne rfl (jg2_ne rfl hl4)) ?_
      refine jr_dcmp jf_266_111 ?_
      replace h := ite_or h; rcases h with ⟨hc, h⟩ | ⟨hc, h⟩
      · refine jr_if_le_t jf_266_112 hc ?_
        exact r_R_measure_119 hd ih _ _ _ _ _ _ _ _ _ _ _ _ _ (jg2_ne rfl (jg2_ne rfl hl0)) (jg2_ne rfl (jg2_ne rfl hl1)) (jg2_ne rfl (jg2_ne rfl hl2)) (jg2_ne rfl (jg2_ne rfl hl4)) (jg2_ne rfl (jg2_ne rfl hl6)) (jg2_ne rfl (jg2_ne rfl hl8)) (jg2_ne rfl (jg2_ne rfl hl9)) (jg2_ne rfl (jg2_ne rfl hl11)) (jg2_ne rfl (jg2_pre rfl hl13)) (jg2_ne rfl jg2_same) h
      · refine jr_if_le_f jf_266_112 hc ?_
        refine jr_dload jf_266_115 jg2_same ?_
        refine jr_dstore jf_266_117 jml_266 (by decide) ?_
        exact r_R_measure_119 hd ih _ _ _ _ _ _ _ _ _ _ _ _ _ (jg2_ne rfl (jg2_ne rfl (jg2_ne rfl hl0))) (jg2_ne rfl (jg2_ne rfl (jg2_ne rfl hl1))) (jg2_ne rfl (jg2_ne rfl (jg2_ne rfl hl2))) jg2_same (jg2_ne rfl (jg2_ne rfl (jg2_ne rfl hl6))) (jg2_ne rfl (jg2_ne rfl (jg2_ne rfl hl8))) (jg2_ne rfl (jg2_ne rfl (jg2_ne rfl hl9))) (jg2_ne rfl (jg2_ne rfl (jg2_ne rfl hl11))) (jg2_ne rfl (jg2_ne rfl (jg2_pre rfl hl13))) (jg2_ne rfl (jg2_ne rfl jg2_same)) h
set_option maxRecDepth 10000 in
set_option maxHeartbeats 4000000 in
theorem r_R_measure_45 {N B : Nat} {SA : Nat → Nat} {d : Nat} (hd : 3 ≤ d) : ∀ (L : JLoc) (v0 : Nat) (v1 : Int32) (v2 : Int32) (s0 : Int32) (μ : JMem) (r : Int64), jget L 0 = .ref v0 → jget L 1 = .int v1 → jget L 2 = .int v2 → g_R_measure_45 N v0 v1 v2 s0 μ.1 = some r → jR B SA d m_R_measure 45 L [.int s0] μ (some (.long r)) μ := by
  intro L v0 v1 v2 s0 μ r hl0 hl1 hl2 h
  unfold g_R_measure_45 at h
  refine jr_istore_n jf_266_45 rfl jml_266 (by decide) ?_
  refine jr_dconst0 jf_266_46 ?_
  refine jr_dstore jf_266_47 jml_266 (by decide) ?_
  refine jr_lconst0 jf_266_49 ?_
  refine jr_lstore jf_266_50 jml_266 (by decide) ?_
  refine jr_iconst jf_266_52 jc_i_0 ?_
  refine jr_istore jf_266_53 jml_266 (by decide) ?_
  refine jr_lconst0 jf_266_55 ?_
  refine jr_lstore jf_266_56 jml_266 (by decide) ?_
  refine jr_lconst0 jf_266_58 ?_
  refine jr_lstore jf_266_59 jml_266 (by decide) ?_
  refine jr_iload_n jf_266_61 rfl (jg2_ne rfl (jg2_ne rfl (jg1_ne rfl (jg2_ne rfl (jg2_pre rfl jg1_same))))) ?_
  refine jr_istore jf_266_62 jml_266 (by decide) ?_
  exact r_R_measure_64 hd _ _ _ _ _ _ _ _ _ _ _ _ _ (jg1_ne rfl (jg2_ne rfl (jg2_ne rfl (jg1_ne rfl (jg2_ne rfl (jg2_ne rfl (jg1_ne rfl hl0))))))) (jg1_ne rfl (jg2_ne rfl (jg2_ne rfl (jg1_ne rfl (jg2_ne rfl (jg2_ne rfl (jg1_ne rfl hl1))))))) (jg1_ne rfl (jg2_ne rfl (jg2_ne rfl (jg1_ne rfl (jg2_ne rfl (jg2_ne rfl (jg1_pre rfl hl2))))))) (jg1_ne rfl (jg2_ne rfl (jg2_ne rfl (jg1_ne rfl (jg2_ne rfl jg2_same))))) (jg1_ne rfl (jg2_ne rfl (jg2_ne rfl (jg1_ne rfl jg2_same)))) (jg1_ne rfl (jg2_ne rfl (jg2_pre rfl jg1_same))) (jg1_ne rfl (jg2_ne rfl jg2_same)) (jg1_ne rfl jg2_same) jg1_same h
set_option maxRecDepth 10000 in
set_option maxHeartbeats 4000000 in
theorem r_R_measure_e {N B : Nat} {SA : Nat → Nat} {d : Nat} (hd : 3 ≤ d) : ∀ (L : JLoc) (v0 : Nat) (v1 : Int32) (v2 : Int32) (μ : JMem) (r : Int64), jget L 0 = .ref v0 → jget L 1 = .int v1 → jget L 2 = .int v2 → g_R_measure N v0 v1 v2 μ.1 = some r → jR B SA d m_R_measure 0 L [] μ (some (.long r)) μ := by
  intro L v0 v1 v2 μ r hl0 hl1 hl2 h
  unfold g_R_measure at h
  refine jr_aload_n jf_266_0 rfl hl0 ?_
  refine jr_iload_n jf_266_1 rfl hl1 ?_
  replace h := jgd_of h; obtain ⟨hb1, h⟩ := h
  replace h := obd_of h; obtain ⟨x2, hx2, h⟩ := h
  refine jr_V6_1 jf_266_2 hb1 (by omega) (r_R_isChain (by omega) _ _ _ _ hx2) (Nat.le_of_ble_eq_true rfl) jml_204 (Nat.le_of_ble_eq_true rfl) ?_
  replace h := ite_or h; rcases h with ⟨hc, h⟩ | ⟨hc, h⟩
  · refine jr_ifz_eq_f jf_266_5 hc ?_
    refine jr_iload_n jf_266_8 rfl hl2 ?_
    refine jr_iconst jf_266_9 jc_i_0 ?_
    refine jr_iconst jf_266_10 jc_i_2 ?_
    refine jr_S3_3 jf_266_11 (by omega) (r_R_in (by omega) _ _ _ _ _ rfl) (Nat.le_of_ble_eq_true rfl) jml_187 (Nat.le_of_ble_eq_true rfl) ?_
    replace h := ite_or h; rcases h with ⟨hc, h⟩ | ⟨hc, h⟩
    · refine jr_ifz_ne_t jf_266_14 hc ?_
      refine jr_aload_n jf_266_19 rfl hl0 ?_
      replace h := obd_of h; obtain ⟨x3, hx3, h⟩ := h
      refine jr_getA jf_266_20 hx3 ?_
      refine jr_iload_n jf_266_23 rfl hl1 ?_
      replace h := obd_of h; obtain ⟨a4, rfl, h⟩ := h
      replace h := obd_of h; obtain ⟨x5, hx5, h⟩ := h
      refine jr_iaload jf_266_24 hx5 ?_
      refine jr_sipush jf_266_25 jc_s_400 ?_
      replace h := ite_or h; rcases h with ⟨hc, h⟩ | ⟨hc, h⟩
      · refine jr_if2_le_t jf_266_28 hc ?_
        refine jr_iconst jf_266_44 jc_i_0 ?_
        exact r_R_measure_45 hd _ _ _ _ _ _ _ hl0 hl1 hl2 h
      · refine jr_if2_le_f jf_266_28 hc ?_
        refine jr_aload_n jf_266_31 rfl hl0 ?_
        replace h := obd_of h; obtain ⟨x6, hx6, h⟩ := h
        refine jr_getA jf_266_32 hx6 ?_
        refine jr_iload_n jf_266_35 rfl hl1 ?_
        replace h := obd_of h; obtain ⟨a7, rfl, h⟩ := h
        replace h := obd_of h; obtain ⟨x8, hx8, h⟩ := h
        refine jr_iaload jf_266_36 hx8 ?_
        refine jr_sipush jf_266_37 jc_s_400 ?_
        refine jr_isub jf_266_40 ?_
        refine jr_goto jf_266_41 ?_
        exact r_R_measure_45 hd _ _ _ _ _ _ _ hl0 hl1 hl2 h
    · refine jr_ifz_ne_f jf_266_14 hc ?_
      refine jr_lconst0 jf_266_17 ?_
      obtain rfl := Option.some.inj h
      exact jr_retJ jf_266_18 jmt_266
  · refine jr_ifz_eq_t jf_266_5 hc ?_
    refine jr_lconst0 jf_266_17 ?_
    obtain rfl := Option.some.inj h
    exact jr_retJ jf_266_18 jmt_266
set_option maxRecDepth 10000 in
set_option maxHeartbeats 4000000 in
theorem r_R_measure {N B : Nat} {SA : Nat → Nat} {d : Nat} (hd : 3 ≤ d) : ∀ (v0 : Nat) (v1 : Int32) (v2 : Int32) (μ : JMem) (r : Int64), g_R_measure N v0 v1 v2 μ.1 = some r → jR B SA d m_R_measure 0 (lv_args 0 [.ref v0, .int v1, .int v2]) [] μ (some (.long r)) μ := by
  intro v0 v1 v2 μ r h
  exact r_R_measure_e hd (lv_args 0 _) _ _ _ _ _ (by simp [lv_args, jget, rv_cat, cat_int, cat_long, cat_double, cat_float, cat_ref]) (by simp [lv_args, jget, rv_cat, cat_int, cat_long, cat_double, cat_float, cat_ref]) (by simp [lv_args, jget, rv_cat, cat_int, cat_long, cat_double, cat_float, cat_ref]) h
/-! FilterBenchModel.count(I)I -/
set_option maxRecDepth 10000 in
set_option maxHeartbeats 4000000 in
theorem r_R_count_e {B : Nat} {SA : Nat → Nat} {d : Nat} (hd : 0 ≤ d) : ∀ (L : JLoc) (v0 : Nat) (v1 : Int32) (μ : JMem) (r : Int32), jget L 0 = .ref v0 → jget L 1 = .int v1 → g_R_count v0 v1 μ.1 = some r → jR B SA d m_R_count 0 L [] μ (some (.int r)) μ := by
  intro L v0 v1 μ r hl0 hl1 h
  unfold g_R_count at h
  refine jr_iload_n jf_267_0 rfl hl1 ?_
  replace h := ite_or h; rcases h with ⟨hc, h⟩ | ⟨hc, h⟩
  · refine jr_if_ne_f jf_267_1 hc ?_
    refine jr_aload_n jf_267_4 rfl hl0 ?_
    replace h := obd_of h; obtain ⟨x1, hx1, h⟩ := h
    refine jr_getI jf_267_5 hx1 ?_
    refine jr_goto jf_267_8 ?_
    obtain rfl := Option.some.inj h
    exact jr_retI jf_267_36 jmt_267
  · refine jr_if_ne_t jf_267_1 hc ?_
    refine jr_iload_n jf_267_11 rfl hl1 ?_
    refine jr_iconst jf_267_12 jc_i_1 ?_
    replace h := ite_or h; rcases h with ⟨hc, h⟩ | ⟨hc, h⟩
    · refine jr_if2_ne_f jf_267_13 hc ?_
      refine jr_aload_n jf_267_16 rfl hl0 ?_
      replace h := obd_of h; obtain ⟨x2, hx2, h⟩ := h
      refine jr_getI jf_267_17 hx2 ?_
      refine jr_goto jf_267_20 ?_
      obtain rfl := Option.some.inj h
      exact jr_retI jf_267_36 jmt_267
    · refine jr_if2_ne_t jf_267_13 hc ?_
      refine jr_iload_n jf_267_23 rfl hl1 ?_
      refine jr_iconst jf_267_24 jc_i_2 ?_
      replace h := ite_or h; rcases h with ⟨hc, h⟩ | ⟨hc, h⟩
      · refine jr_if2_ne_f jf_267_25 hc ?_
        refine jr_aload_n jf_267_28 rfl hl0 ?_
        replace h := obd_of h; obtain ⟨x3, hx3, h⟩ := h
        refine jr_getI jf_267_29 hx3 ?_
        refine jr_goto jf_267_32 ?_
        obtain rfl := Option.some.inj h
        exact jr_retI jf_267_36 jmt_267
      · refine jr_if2_ne_t jf_267_25 hc ?_
        refine jr_iconst jf_267_35 jc_i_m1 ?_
        obtain rfl := Option.some.inj h
        exact jr_retI jf_267_36 jmt_267
set_option maxRecDepth 10000 in
set_option maxHeartbeats 4000000 in
theorem r_R_count {B : Nat} {SA : Nat → Nat} {d : Nat} (hd : 0 ≤ d) : ∀ (v0 : Nat) (v1 : Int32) (μ : JMem) (r : Int32), g_R_count v0 v1 μ.1 = some r → jR B SA d m_R_count 0 (lv_args 0 [.ref v0, .int v1]) [] μ (some (.int r)) μ := by
  intro v0 v1 μ r h
  exact r_R_count_e hd (lv_args 0 _) _ _ _ _ (by simp [lv_args, jget, rv_cat, cat_int, cat_long, cat_double, cat_float, cat_ref]) (by simp [lv_args, jget, rv_cat, cat_int, cat_long, cat_double, cat_float, cat_ref]) h
/-! FilterBenchModel.chain(II)I -/
set_option maxRecDepth 10000 in
set_option maxHeartbeats 4000000 in
theorem r_R_chain_2_e {B : Nat} {SA : Nat → Nat} {d : Nat} (hd : 2 ≤ d) : ∀ (L : JLoc) (v0 : Nat) (v1 : Int32) (v2 : Int32) (μ : JMem) (r : Int32), jget L 0 = .ref v0 → jget L 1 = .int v1 → jget L 2 = .int v2 → g_R_chain_2 v0 v1 v2 μ.1 = some r → jR B SA d m_R_chain_2 0 L [] μ (some (.int r)) μ := by
  intro L v0 v1 v2 μ r hl0 hl1 hl2 h
  unfold g_R_chain_2 at h
  refine jr_aload_n jf_268_0 rfl hl0 ?_
  refine jr_iload_n jf_268_1 rfl hl1 ?_
  replace h := jgd_of h; obtain ⟨hb1, h⟩ := h
  replace h := obd_of h; obtain ⟨x2, hx2, h⟩ := h
  refine jr_V6_1 jf_268_2 hb1 (by omega) (r_R_isChain (by omega) _ _ _ _ hx2) (Nat.le_of_ble_eq_true rfl) jml_204 (Nat.le_of_ble_eq_true rfl) ?_
  replace h := ite_or h; rcases h with ⟨hc, h⟩ | ⟨hc, h⟩
  · refine jr_ifz_ne_t jf_268_5 hc ?_
    refine jr_iload_n jf_268_10 rfl hl2 ?_
    refine jr_switch jf_268_11 ?_
    replace h := ite_or h; rcases h with ⟨hc, h⟩ | ⟨hc, h⟩
    · refine jsw_hit (by decide) hc ?_
      refine jr_aload_n jf_268_44 rfl hl0 ?_
      replace h := obd_of h; obtain ⟨x3, hx3, h⟩ := h
      refine jr_getA jf_268_45 hx3 ?_
      refine jr_iload_n jf_268_48 rfl hl1 ?_
      replace h := obd_of h; obtain ⟨a4, rfl, h⟩ := h
      replace h := obd_of h; obtain ⟨x5, hx5, h⟩ := h
      refine jr_iaload jf_268_49 hx5 ?_
      obtain rfl := Option.some.inj h
      exact jr_retI jf_268_50 jmt_268
    · refine jsw_miss (by decide) hc (by decide : (0 : Int) + 1 = 1) ?_
      replace h := ite_or h; rcases h with ⟨hc, h⟩ | ⟨hc, h⟩
      · refine jsw_hit (by decide) hc ?_
        refine jr_aload_n jf_268_51 rfl hl0 ?_
        replace h := obd_of h; obtain ⟨x6, hx6, h⟩ := h
        refine jr_getA jf_268_52 hx6 ?_
        refine jr_iload_n jf_268_55 rfl hl1 ?_
        replace h := obd_of h; obtain ⟨a7, rfl, h⟩ := h
        replace h := obd_of h; obtain ⟨x8, hx8, h⟩ := h
        refine jr_iaload jf_268_56 hx8 ?_
        obtain rfl := Option.some.inj h
        exact jr_retI jf_268_57 jmt_268
      · refine jsw_miss (by decide) hc (by decide : (1 : Int) + 1 = 2) ?_
        replace h := ite_or h; rcases h with ⟨hc, h⟩ | ⟨hc, h⟩
        · refine jsw_hit (by decide) hc ?_
          refine jr_aload_n jf_268_58 rfl hl0 ?_
          replace h := obd_of h; obtain ⟨x9, hx9, h⟩ := h
          refine jr_getA jf_268_59 hx9 ?_
          refine jr_iload_n jf_268_62 rfl hl1 ?_
          replace h := obd_of h; obtain ⟨a10, rfl, h⟩ := h
          replace h := obd_of h; obtain ⟨x11, hx11, h⟩ := h
          refine jr_iaload jf_268_63 hx11 ?_
          obtain rfl := Option.some.inj h
          exact jr_retI jf_268_64 jmt_268
        · refine jsw_miss (by decide) hc (by decide : (2 : Int) + 1 = 3) ?_
          replace h := ite_or h; rcases h with ⟨hc, h⟩ | ⟨hc, h⟩
          · refine jsw_hit (by decide) hc ?_
            refine jr_aload_n jf_268_65 rfl hl0 ?_
            replace h := obd_of h; obtain ⟨x12, hx12, h⟩ := h
            refine jr_getA jf_268_66 hx12 ?_
            refine jr_iload_n jf_268_69 rfl hl1 ?_
            replace h := obd_of h; obtain ⟨a13, rfl, h⟩ := h
            replace h := obd_of h; obtain ⟨x14, hx14, h⟩ := h
            refine jr_iaload jf_268_70 hx14 ?_
            obtain rfl := Option.some.inj h
            exact jr_retI jf_268_71 jmt_268
          · refine jsw_miss (by decide) hc (by decide : (3 : Int) + 1 = 4) ?_
            replace h := ite_or h; rcases h with ⟨hc, h⟩ | ⟨hc, h⟩
            · refine jsw_hit (by decide) hc ?_
              refine jr_aload_n jf_268_72 rfl hl0 ?_
              refine jr_iload_n jf_268_73 rfl hl1 ?_
              replace h := jgd_of h; obtain ⟨hb15, h⟩ := h
              replace h := obd_of h; obtain ⟨x16, hx16, h⟩ := h
              refine jr_V6_1 jf_268_74 hb15 (by omega) (r_R_sortOf (by omega) _ _ _ _ hx16) (Nat.le_of_ble_eq_true rfl) jml_205 (Nat.le_of_ble_eq_true rfl) ?_
              obtain rfl := Option.some.inj h
              exact jr_retI jf_268_77 jmt_268
            · refine jsw_miss (by decide) hc (by decide : (4 : Int) + 1 = 5) ?_
              refine jsw_end ?_
              refine jr_iconst jf_268_78 jc_i_m1 ?_
              obtain rfl := Option.some.inj h
              exact jr_retI jf_268_79 jmt_268
  · refine jr_ifz_ne_f jf_268_5 hc ?_
    refine jr_iconst jf_268_8 jc_i_m1 ?_
    obtain rfl := Option.some.inj h
    exact jr_retI jf_268_9 jmt_268
set_option maxRecDepth 10000 in
set_option maxHeartbeats 4000000 in
theorem r_R_chain_2 {B : Nat} {SA : Nat → Nat} {d : Nat} (hd : 2 ≤ d) : ∀ (v0 : Nat) (v1 : Int32) (v2 : Int32) (μ : JMem) (r : Int32), g_R_chain_2 v0 v1 v2 μ.1 = some r → jR B SA d m_R_chain_2 0 (lv_args 0 [.ref v0, .int v1, .int v2]) [] μ (some (.int r)) μ := by
  intro v0 v1 v2 μ r h
  exact r_R_chain_2_e hd (lv_args 0 _) _ _ _ _ _ (by simp [lv_args, jget, rv_cat, cat_int, cat_long, cat_double, cat_float, cat_ref]) (by simp [lv_args, jget, rv_cat, cat_int, cat_long, cat_double, cat_float, cat_ref]) (by simp [lv_args, jget, rv_cat, cat_int, cat_long, cat_double, cat_float, cat_ref]) h
/-! FilterBenchLaw.law([I)Z -/
set_option maxRecDepth 10000 in
set_option maxHeartbeats 4000000 in
theorem r_L_law_1079 {N M B : Nat} {SA : Nat → Nat} {d : Nat} (hd : M + 8 ≤ d) {k18 : Option Nat → Nat → Nat → Int32 → JMem → Option (Bool × JMem)} (i18 : ∀ (L : JLoc) (v0 : Option Nat) (v1 : Nat) (v2 : Nat) (v3 : Int32) (μ : JMem) (r : Bool) (μ9 : JMem), jget L 0 = rv v0 → jget L 1 = .ref v1 → jget L 2 = .ref v2 → jget L 3 = .int v3 → k18 v0 v1 v2 v3 μ = some (r, μ9) → jR B SA d m_L_law 18 L [] μ (some (.int (jb r))) μ9) : ∀ (L : JLoc) (v0 : Nat) (v1 : Nat) (v2 : Nat) (v3 : Int32) (μ : JMem) (r : Bool) (μ9 : JMem), jget L 0 = .ref v0 → jget L 1 = .ref v1 → jget L 2 = .ref v2 → jget L 3 = .int v3 → g_L_law_1079 N M B SA k18 v0 v1 v2 v3 μ = some (r, μ9) → jR B SA d m_L_law 1079 L [] μ (some (.int (jb r))) μ9 := by
  intro L v0 v1 v2 v3 μ r μ9 hl0 hl1 hl2 hl3 h
  unfold g_L_law_1079 at h
  refine jr_iinc jf_269_1079 jc_i_7 jml_269 (by decide) hl3 ?_
  refine jr_goto jf_269_1082 ?_
  exact i18 _ (some _) _ _ _ _ _ _ (jg1_ne rfl hl0) (jg1_ne rfl hl1) (jg1_pre (by first | rfl | exact rv_cat _) hl2) jg1_same h
set_option maxRecDepth 10000 in
set_option maxHeartbeats 4000000 in
theorem r_L_law_18 {N M B : Nat} {SA : Nat → Nat} {d : Nat} (hd : M + 8 ≤ d) : ∀ (n : Nat), ∀ (L : JLoc) (v0 : Option Nat) (v1 : Nat) (v2 : Nat) (v3 : Int32) (μ : JMem) (r : Bool) (μ9 : JMem), jget L 0 = rv v0 → jget L 1 = .ref v1 → jget L 2 = .ref v2 → jget L 3 = .int v3 → g_L_law_18 N M B SA n v0 v1 v2 v3 μ = some (r, μ9) → jR B SA d m_L_law 18 L [] μ (some (.int (jb r))) μ9 := by
  intro n
  induction n with
  | zero =>
    intro L v0 v1 v2 v3 μ r μ9 hl0 hl1 hl2 hl3 h
    unfold g_L_law_18 at h
    cases h
  | succ n ih =>
    intro L v0 v1 v2 v3 μ r μ9 hl0 hl1 hl2 hl3 h
    unfold g_L_law_18 at h
    refine jr_iload_n jf_269_18 rfl hl3 ?_
    refine jr_aload_n_A jf_269_19 rfl hl0 ?_
    replace h := obd_of h; obtain ⟨a1, rfl, h⟩ := h
    replace h := obd_of h; obtain ⟨x2, hx2, h⟩ := h
    refine jr_arraylength jf_269_20 hx2 ?_
    refine jr_bipush jf_269_21 jc_b_7 ?_
    refine jr_isub jf_269_23 ?_
    replace h := ite_or h; rcases h with ⟨hc, h⟩ | ⟨hc, h⟩
    · refine jr_if2_gt_t jf_269_24 hc ?_
      refine jr_iconst jf_269_1085 jc_i_1 ?_
      obtain ⟨rfl, rfl⟩ := Prod.mk.inj (Option.some.inj h)
      exact jr_retZ (x := true) jf_269_1086 jmt_269
    · refine jr_if2_gt_f jf_269_24 hc ?_
      refine jr_aload_n jf_269_27 rfl hl0 ?_
      refine jr_iload_n jf_269_28 rfl hl3 ?_
      replace h := obd_of h; obtain ⟨x3, hx3, h⟩ := h
      refine jr_iaload jf_269_29 hx3 ?_
      refine jr_bipush jf_269_30 jc_b_31 ?_
      refine jr_iand jf_269_32 ?_
      refine jr_switch jf_269_33 ?_
      replace h := ite_or h; rcases h with ⟨hc, h⟩ | ⟨hc, h⟩
      · refine jsw_hit (by decide) hc ?_
        refine jr_aload_n jf_269_148 rfl hl1 ?_
        refine jr_aload_n jf_269_149 rfl hl0 ?_
        refine jr_iload_n jf_269_150 rfl hl3 ?_
        refine jr_iconst jf_269_151 jc_i_1 ?_
        refine jr_iadd jf_269_152 ?_
        replace h := obd_of h; obtain ⟨x4, hx4, h⟩ := h
        refine jr_iaload jf_269_153 hx4 ?_
        refine jr_aload_n jf_269_154 rfl hl0 ?_
        refine jr_iload_n jf_269_155 rfl hl3 ?_
        refine jr_iconst jf_269_156 jc_i_2 ?_
        refine jr_iadd jf_269_157 ?_
        replace h := obd_of h; obtain ⟨x5, hx5, h⟩ := h
        refine jr_iaload jf_269_158 hx5 ?_
        refine jr_aload_n jf_269_159 rfl hl0 ?_
        refine jr_iload_n jf_269_160 rfl hl3 ?_
        refine jr_iconst jf_269_161 jc_i_3 ?_
        refine jr_iadd jf_269_162 ?_
        replace h := obd_of h; obtain ⟨x6, hx6, h⟩ := h
        refine jr_iaload jf_269_163 hx6 ?_
        replace h := jgd_of h; obtain ⟨hb7, h⟩ := h
        replace h := jbd2_of h; obtain ⟨x8, μ9, hx8, h⟩ := h
        refine jr_V6_3 jf_269_164 hb7 (by omega) (r_B_section (by omega) _ _ _ _ _ _ _ hx8) (Nat.le_of_ble_eq_true rfl) jml_5 (Nat.le_of_ble_eq_true rfl) ?_
        refine jr_aload_n jf_269_167 rfl hl2 ?_
        refine jr_aload_n jf_269_168 rfl hl0 ?_
        refine jr_iload_n jf_269_169 rfl hl3 ?_
        refine jr_iconst jf_269_170 jc_i_1 ?_
        refine jr_iadd jf_269_171 ?_
        replace h := obd_of h; obtain ⟨x10, hx10, h⟩ := h
        refine jr_iaload jf_269_172 hx10 ?_
        refine jr_aload_n jf_269_173 rfl hl0 ?_
        refine jr_iload_n jf_269_174 rfl hl3 ?_
        refine jr_iconst jf_269_175 jc_i_2 ?_
        refine jr_iadd jf_269_176 ?_
        replace h := obd_of h; obtain ⟨x11, hx11, h⟩ := h
        refine jr_iaload jf_269_177 hx11 ?_
        refine jr_aload_n jf_269_178 rfl hl0 ?_
        refine jr_iload_n jf_269_179 rfl hl3 ?_
        refine jr_iconst jf_269_180 jc_i_3 ?_
        refine jr_iadd jf_269_181 ?_
        replace h := obd_of h; obtain ⟨x12, hx12, h⟩ := h
        refine jr_iaload jf_269_182 hx12 ?_
        replace h := jgd_of h; obtain ⟨hb13, h⟩ := h
        replace h := jbd2_of h; obtain ⟨x14, μ15, hx14, h⟩ := h
        refine jr_V6_3 jf_269_183 hb13 (by omega) (r_R_section (by omega) _ _ _ _ _ _ _ hx14) (Nat.le_of_ble_eq_true rfl) jml_186 (Nat.le_of_ble_eq_true rfl) ?_
        replace h := ite_or h; rcases h with ⟨hc, h⟩ | ⟨hc, h⟩
        · refine jr_if2_eq_t jf_269_186 hc ?_
          exact r_L_law_1079 hd ih _ _ _ _ _ _ _ _ hl0 hl1 hl2 hl3 h
        · refine jr_if2_eq_f jf_269_186 hc ?_
          refine jr_iconst jf_269_189 jc_i_0 ?_
          obtain ⟨rfl, rfl⟩ := Prod.mk.inj (Option.some.inj h)
          exact jr_retZ (x := false) jf_269_190 jmt_269
      · refine jsw_miss (by decide) hc (by decide : (0 : Int) + 1 = 1) ?_
        replace h := ite_or h; rcases h with ⟨hc, h⟩ | ⟨hc, h⟩
        · refine jsw_hit (by decide) hc ?_
          refine jr_aload_n jf_269_191 rfl hl1 ?_
          refine jr_aload_n jf_269_192 rfl hl0 ?_
          refine jr_iload_n jf_269_193 rfl hl3 ?_
          refine jr_iconst jf_269_194 jc_i_1 ?_
          refine jr_iadd jf_269_195 ?_
          replace h := obd_of h; obtain ⟨x16, hx16, h⟩ := h
          refine jr_iaload jf_269_196 hx16 ?_
          refine jr_aload_n jf_269_197 rfl hl0 ?_
          refine jr_iload_n jf_269_198 rfl hl3 ?_
          refine jr_iconst jf_269_199 jc_i_2 ?_
          refine jr_iadd jf_269_200 ?_
          replace h := obd_of h; obtain ⟨x17, hx17, h⟩ := h
          refine jr_iaload jf_269_201 hx17 ?_
          refine jr_aload_n jf_269_202 rfl hl0 ?_
          refine jr_iload_n jf_269_203 rfl hl3 ?_
          refine jr_iconst jf_269_204 jc_i_3 ?_
          refine jr_iadd jf_269_205 ?_
          replace h := obd_of h; obtain ⟨x18, hx18, h⟩ := h
          refine jr_iaload jf_269_206 hx18 ?_
          refine jr_i2l jf_269_207 ?_
          refine jr_bipush jf_269_208 jc_b_32 ?_
          refine jr_lshl jf_269_210 ?_
          refine jr_aload_n jf_269_211 rfl hl0 ?_
          refine jr_iload_n jf_269_212 rfl hl3 ?_
          refine jr_iconst jf_269_213 jc_i_4 ?_
          refine jr_iadd jf_269_214 ?_
          replace h := obd_of h; obtain ⟨x19, hx19, h⟩ := h
          refine jr_iaload jf_269_215 hx19 ?_
          refine jr_i2l jf_269_216 ?_
          refine jr_ldc2l jf_269_217 ?_
          refine jr_land jf_269_220 ?_
          refine jr_lor jf_269_221 ?_
          replace h := jgd_of h; obtain ⟨hb20, h⟩ := h
          replace h := jbd2_of h; obtain ⟨x21, μ22, hx21, h⟩ := h
          refine jr_V6_3 jf_269_222 hb20 (by omega) (r_B_coefficient (by omega) _ _ _ _ _ _ _ hx21) (Nat.le_of_ble_eq_true rfl) jml_12 (Nat.le_of_ble_eq_true rfl) ?_
          refine jr_aload_n jf_269_225 rfl hl2 ?_
          refine jr_aload_n jf_269_226 rfl hl0 ?_
          refine jr_iload_n jf_269_227 rfl hl3 ?_
          refine jr_iconst jf_269_228 jc_i_1 ?_
          refine jr_iadd jf_269_229 ?_
          replace h := obd_of h; obtain ⟨x23, hx23, h⟩ := h
          refine jr_iaload jf_269_230 hx23 ?_
          refine jr_aload_n jf_269_231 rfl hl0 ?_
          refine jr_iload_n jf_269_232 rfl hl3 ?_
          refine jr_iconst jf_269_233 jc_i_2 ?_
          refine jr_iadd jf_269_234 ?_
          replace h := obd_of h; obtain ⟨x24, hx24, h⟩ := h
          refine jr_iaload jf_269_235 hx24 ?_
          refine jr_aload_n jf_269_236 rfl hl0 ?_
          refine jr_iload_n jf_269_237 rfl hl3 ?_
          refine jr_iconst jf_269_238 jc_i_3 ?_
          refine jr_iadd jf_269_239 ?_
          replace h := obd_of h; obtain ⟨x25, hx25, h⟩ := h
          refine jr_iaload jf_269_240 hx25 ?_
          refine jr_i2l jf_269_241 ?_
          refine jr_bipush jf_269_242 jc_b_32 ?_
          refine jr_lshl jf_269_244 ?_
          refine jr_aload_n jf_269_245 rfl hl0 ?_
          refine jr_iload_n jf_269_246 rfl hl3 ?_
          refine jr_iconst jf_269_247 jc_i_4 ?_
          refine jr_iadd jf_269_248 ?_
          replace h := obd_of h; obtain ⟨x26, hx26, h⟩ := h
          refine jr_iaload jf_269_249 hx26 ?_
          refine jr_i2l jf_269_250 ?_
          refine jr_ldc2l jf_269_251 ?_
          refine jr_land jf_269_254 ?_
          refine jr_lor jf_269_255 ?_
          replace h := jgd_of h; obtain ⟨hb27, h⟩ := h
          replace h := jbd2_of h; obtain ⟨x28, μ29, hx28, h⟩ := h
          refine jr_V6_3 jf_269_256 hb27 (by omega) (r_R_coefficient (by omega) _ _ _ _ _ _ _ hx28) (Nat.le_of_ble_eq_true rfl) jml_191 (Nat.le_of_ble_eq_true rfl) ?_
          replace h := ite_or h; rcases h with ⟨hc, h⟩ | ⟨hc, h⟩
          · refine jr_if2z_eq_t jf_269_259 hc ?_
            exact r_L_law_1079 hd ih _ _ _ _ _ _ _ _ hl0 hl1 hl2 hl3 h
          · refine jr_if2z_eq_f jf_269_259 hc ?_
            refine jr_iconst jf_269_262 jc_i_0 ?_
            obtain ⟨rfl, rfl⟩ := Prod.mk.inj (Option.some.inj h)
            exact jr_retZ (x := false) jf_269_263 jmt_269
        · refine jsw_miss (by decide) hc (by decide : (1 : Int) + 1 = 2) ?_
          replace h := ite_or h; rcases h with ⟨hc, h⟩ | ⟨hc, h⟩
          · refine jsw_hit (by decide) hc ?_
            refine jr_aload_n jf_269_264 rfl hl1 ?_
            refine jr_aload_n jf_269_265 rfl hl0 ?_
            refine jr_iload_n jf_269_266 rfl hl3 ?_
            refine jr_iconst jf_269_267 jc_i_1 ?_
            refine jr_iadd jf_269_268 ?_
            replace h := obd_of h; obtain ⟨x30, hx30, h⟩ := h
            refine jr_iaload jf_269_269 hx30 ?_
            refine jr_aload_n jf_269_270 rfl hl0 ?_
            refine jr_iload_n jf_269_271 rfl hl3 ?_
            refine jr_iconst jf_269_272 jc_i_2 ?_
            refine jr_iadd jf_269_273 ?_
            replace h := obd_of h; obtain ⟨x31, hx31, h⟩ := h
            refine jr_iaload jf_269_274 hx31 ?_
            refine jr_aload_n jf_269_275 rfl hl0 ?_
            refine jr_iload_n jf_269_276 rfl hl3 ?_
            refine jr_iconst jf_269_277 jc_i_3 ?_
            refine jr_iadd jf_269_278 ?_
            replace h := obd_of h; obtain ⟨x32, hx32, h⟩ := h
            refine jr_iaload jf_269_279 hx32 ?_
            refine jr_aload_n jf_269_280 rfl hl0 ?_
            refine jr_iload_n jf_269_281 rfl hl3 ?_
            refine jr_iconst jf_269_282 jc_i_4 ?_
            refine jr_iadd jf_269_283 ?_
            replace h := obd_of h; obtain ⟨x33, hx33, h⟩ := h
            refine jr_iaload jf_269_284 hx33 ?_
            replace h := jgd_of h; obtain ⟨hb34, h⟩ := h
            replace h := jbd2_of h; obtain ⟨x35, μ36, hx35, h⟩ := h
            refine jr_V6_4 jf_269_285 hb34 (by omega) (r_B_ratio (by omega) _ _ _ _ _ _ _ _ hx35) (Nat.le_of_ble_eq_true rfl) jml_21 (Nat.le_of_ble_eq_true rfl) ?_
            refine jr_aload_n jf_269_288 rfl hl2 ?_
            refine jr_aload_n jf_269_289 rfl hl0 ?_
            refine jr_iload_n jf_269_290 rfl hl3 ?_
            refine jr_iconst jf_269_291 jc_i_1 ?_
            refine jr_iadd jf_269_292 ?_
            replace h := obd_of h; obtain ⟨x37, hx37, h⟩ := h
            refine jr_iaload jf_269_293 hx37 ?_
            refine jr_aload_n jf_269_294 rfl hl0 ?_
            refine jr_iload_n jf_269_295 rfl hl3 ?_
            refine jr_iconst jf_269_296 jc_i_2 ?_
            refine jr_iadd jf_269_297 ?_
            replace h := obd_of h; obtain ⟨x38, hx38, h⟩ := h
            refine jr_iaload jf_269_298 hx38 ?_
            refine jr_aload_n jf_269_299 rfl hl0 ?_
            refine jr_iload_n jf_269_300 rfl hl3 ?_
            refine jr_iconst jf_269_301 jc_i_3 ?_
            refine jr_iadd jf_269_302 ?_
            replace h := obd_of h; obtain ⟨x39, hx39, h⟩ := h
            refine jr_iaload jf_269_303 hx39 ?_
            refine jr_aload_n jf_269_304 rfl hl0 ?_
            refine jr_iload_n jf_269_305 rfl hl3 ?_
            refine jr_iconst jf_269_306 jc_i_4 ?_
            refine jr_iadd jf_269_307 ?_
            replace h := obd_of h; obtain ⟨x40, hx40, h⟩ := h
            refine jr_iaload jf_269_308 hx40 ?_
            replace h := jgd_of h; obtain ⟨hb41, h⟩ := h
            replace h := jbd2_of h; obtain ⟨x42, μ43, hx42, h⟩ := h
            refine jr_V6_4 jf_269_309 hb41 (by omega) (r_R_ratio (by omega) _ _ _ _ _ _ _ _ hx42) (Nat.le_of_ble_eq_true rfl) jml_197 (Nat.le_of_ble_eq_true rfl) ?_
            replace h := ite_or h; rcases h with ⟨hc, h⟩ | ⟨hc, h⟩
            · refine jr_if2z_eq_t jf_269_312 hc ?_
              exact r_L_law_1079 hd ih _ _ _ _ _ _ _ _ hl0 hl1 hl2 hl3 h
            · refine jr_if2z_eq_f jf_269_312 hc ?_
              refine jr_iconst jf_269_315 jc_i_0 ?_
              obtain ⟨rfl, rfl⟩ := Prod.mk.inj (Option.some.inj h)
              exact jr_retZ (x := false) jf_269_316 jmt_269
          · refine jsw_miss (by decide) hc (by decide : (2 : Int) + 1 = 3) ?_
            replace h := ite_or h; rcases h with ⟨hc, h⟩ | ⟨hc, h⟩
            · refine jsw_hit (by decide) hc ?_
              refine jr_aload_n jf_269_317 rfl hl1 ?_
              refine jr_aload_n jf_269_318 rfl hl0 ?_
              refine jr_iload_n jf_269_319 rfl hl3 ?_
              refine jr_iconst jf_269_320 jc_i_1 ?_
              refine jr_iadd jf_269_321 ?_
              replace h := obd_of h; obtain ⟨x44, hx44, h⟩ := h
              refine jr_iaload jf_269_322 hx44 ?_
              refine jr_aload_n jf_269_323 rfl hl0 ?_
              refine jr_iload_n jf_269_324 rfl hl3 ?_
              refine jr_iconst jf_269_325 jc_i_2 ?_
              refine jr_iadd jf_269_326 ?_
              replace h := obd_of h; obtain ⟨x45, hx45, h⟩ := h
              refine jr_iaload jf_269_327 hx45 ?_
              refine jr_aload_n jf_269_328 rfl hl0 ?_
              refine jr_iload_n jf_269_329 rfl hl3 ?_
              refine jr_iconst jf_269_330 jc_i_3 ?_
              refine jr_iadd jf_269_331 ?_
              replace h := obd_of h; obtain ⟨x46, hx46, h⟩ := h
              refine jr_iaload jf_269_332 hx46 ?_
              replace h := jgd_of h; obtain ⟨hb47, h⟩ := h
              replace h := jbd2_of h; obtain ⟨x48, μ49, hx48, h⟩ := h
              refine jr_V6_3 jf_269_333 hb47 (by omega) (r_B_rule (by omega) _ _ _ _ _ _ _ hx48) (Nat.le_of_ble_eq_true rfl) jml_36 (Nat.le_of_ble_eq_true rfl) ?_
              refine jr_aload_n jf_269_336 rfl hl2 ?_
              refine jr_aload_n jf_269_337 rfl hl0 ?_
              refine jr_iload_n jf_269_338 rfl hl3 ?_
              refine jr_iconst jf_269_339 jc_i_1 ?_
              refine jr_iadd jf_269_340 ?_
              replace h := obd_of h; obtain ⟨x50, hx50, h⟩ := h
              refine jr_iaload jf_269_341 hx50 ?_
              refine jr_aload_n jf_269_342 rfl hl0 ?_
              refine jr_iload_n jf_269_343 rfl hl3 ?_
              refine jr_iconst jf_269_344 jc_i_2 ?_
              refine jr_iadd jf_269_345 ?_
              replace h := obd_of h; obtain ⟨x51, hx51, h⟩ := h
              refine jr_iaload jf_269_346 hx51 ?_
              refine jr_aload_n jf_269_347 rfl hl0 ?_
              refine jr_iload_n jf_269_348 rfl hl3 ?_
              refine jr_iconst jf_269_349 jc_i_3 ?_
              refine jr_iadd jf_269_350 ?_
              replace h := obd_of h; obtain ⟨x52, hx52, h⟩ := h
              refine jr_iaload jf_269_351 hx52 ?_
              replace h := jgd_of h; obtain ⟨hb53, h⟩ := h
              replace h := jbd2_of h; obtain ⟨x54, μ55, hx54, h⟩ := h
              refine jr_V6_3 jf_269_352 hb53 (by omega) (r_R_rule (by omega) _ _ _ _ _ _ _ hx54) (Nat.le_of_ble_eq_true rfl) jml_200 (Nat.le_of_ble_eq_true rfl) ?_
              replace h := ite_or h; rcases h with ⟨hc, h⟩ | ⟨hc, h⟩
              · refine jr_if2z_eq_t jf_269_355 hc ?_
                exact r_L_law_1079 hd ih _ _ _ _ _ _ _ _ hl0 hl1 hl2 hl3 h
              · refine jr_if2z_eq_f jf_269_355 hc ?_
                refine jr_iconst jf_269_358 jc_i_0 ?_
                obtain ⟨rfl, rfl⟩ := Prod.mk.inj (Option.some.inj h)
                exact jr_retZ (x := false) jf_269_359 jmt_269
            · refine jsw_miss (by decide) hc (by decide : (3 : Int) + 1 = 4) ?_
              replace h := ite_or h; rcases h with ⟨hc, h⟩ | ⟨hc, h⟩
              · refine jsw_hit (by decide) hc ?_
                refine jr_aload_n jf_269_360 rfl hl1 ?_
                replace h := jgd_of h; obtain ⟨hb56, h⟩ := h
                replace h := jbd2_of h; obtain ⟨x57, μ58, hx57, h⟩ := h
                refine jr_V6_0 jf_269_361 hb56 (by omega) (r_B_chain (by omega) _ _ _ _ hx57) (Nat.le_of_ble_eq_true rfl) jml_44 (Nat.le_of_ble_eq_true rfl) ?_
                refine jr_aload_n jf_269_364 rfl hl2 ?_
                replace h := jgd_of h; obtain ⟨hb59, h⟩ := h
                replace h := jbd2_of h; obtain ⟨x60, μ61, hx60, h⟩ := h
                refine jr_V6_0 jf_269_365 hb59 (by omega) (r_R_chain (by omega) _ _ _ _ hx60) (Nat.le_of_ble_eq_true rfl) jml_201 (Nat.le_of_ble_eq_true rfl) ?_
                replace h := ite_or h; rcases h with ⟨hc, h⟩ | ⟨hc, h⟩
                · refine jr_if2_eq_t jf_269_368 hc ?_
                  exact r_L_law_1079 hd ih _ _ _ _ _ _ _ _ hl0 hl1 hl2 hl3 h
                · refine jr_if2_eq_f jf_269_368 hc ?_
                  refine jr_iconst jf_269_371 jc_i_0 ?_
                  obtain ⟨rfl, rfl⟩ := Prod.mk.inj (Option.some.inj h)
                  exact jr_retZ (x := false) jf_269_372 jmt_269
              · refine jsw_miss (by decide) hc (by decide : (4 : Int) + 1 = 5) ?_
                replace h := ite_or h; rcases h with ⟨hc, h⟩ | ⟨hc, h⟩
                · refine jsw_hit (by decide) hc ?_
                  refine jr_aload_n jf_269_373 rfl hl1 ?_
                  refine jr_aload_n jf_269_374 rfl hl0 ?_
                  refine jr_iload_n jf_269_375 rfl hl3 ?_
                  refine jr_iconst jf_269_376 jc_i_1 ?_
                  refine jr_iadd jf_269_377 ?_
                  replace h := obd_of h; obtain ⟨x62, hx62, h⟩ := h
                  refine jr_iaload jf_269_378 hx62 ?_
                  refine jr_aload_n jf_269_379 rfl hl0 ?_
                  refine jr_iload_n jf_269_380 rfl hl3 ?_
                  refine jr_iconst jf_269_381 jc_i_2 ?_
                  refine jr_iadd jf_269_382 ?_
                  replace h := obd_of h; obtain ⟨x63, hx63, h⟩ := h
                  refine jr_iaload jf_269_383 hx63 ?_
                  replace h := jgd_of h; obtain ⟨hb64, h⟩ := h
                  replace h := jbd2_of h; obtain ⟨x65, μ66, hx65, h⟩ := h
                  refine jr_V6_2 jf_269_384 hb64 (by omega) (r_B_add (by omega) _ _ _ _ _ _ hx65) (Nat.le_of_ble_eq_true rfl) jml_47 (Nat.le_of_ble_eq_true rfl) ?_
                  refine jr_aload_n jf_269_387 rfl hl2 ?_
                  refine jr_aload_n jf_269_388 rfl hl0 ?_
                  refine jr_iload_n jf_269_389 rfl hl3 ?_
                  refine jr_iconst jf_269_390 jc_i_1 ?_
                  refine jr_iadd jf_269_391 ?_
                  replace h := obd_of h; obtain ⟨x67, hx67, h⟩ := h
                  refine jr_iaload jf_269_392 hx67 ?_
                  refine jr_aload_n jf_269_393 rfl hl0 ?_
                  refine jr_iload_n jf_269_394 rfl hl3 ?_
                  refine jr_iconst jf_269_395 jc_i_2 ?_
                  refine jr_iadd jf_269_396 ?_
                  replace h := obd_of h; obtain ⟨x68, hx68, h⟩ := h
                  refine jr_iaload jf_269_397 hx68 ?_
                  replace h := jgd_of h; obtain ⟨hb69, h⟩ := h
                  replace h := jbd2_of h; obtain ⟨x70, μ71, hx70, h⟩ := h
                  refine jr_V6_2 jf_269_398 hb69 (by omega) (r_R_add (by omega) _ _ _ _ _ _ hx70) (Nat.le_of_ble_eq_true rfl) jml_203 (Nat.le_of_ble_eq_true rfl) ?_
                  replace h := ite_or h; rcases h with ⟨hc, h⟩ | ⟨hc, h⟩
                  · refine jr_if2_eq_t jf_269_401 hc ?_
                    exact r_L_law_1079 hd ih _ _ _ _ _ _ _ _ hl0 hl1 hl2 hl3 h
                  · refine jr_if2_eq_f jf_269_401 hc ?_
                    refine jr_iconst jf_269_404 jc_i_0 ?_
                    obtain ⟨rfl, rfl⟩ := Prod.mk.inj (Option.some.inj h)
                    exact jr_retZ (x := false) jf_269_405 jmt_269
                · refine jsw_miss (by decide) hc (by decide : (5 : Int) + 1 = 6) ?_
                  replace h := ite_or h; rcases h with ⟨hc, h⟩ | ⟨hc, h⟩
                  · refine jsw_hit (by decide) hc ?_
                    refine jr_aload_n jf_269_406 rfl hl1 ?_
                    refine jr_aload_n jf_269_407 rfl hl0 ?_
                    refine jr_iload_n jf_269_408 rfl hl3 ?_
                    refine jr_iconst jf_269_409 jc_i_1 ?_
                    refine jr_iadd jf_269_410 ?_
                    replace h := obd_of h; obtain ⟨x72, hx72, h⟩ := h
                    refine jr_iaload jf_269_411 hx72 ?_
                    refine jr_aload_n jf_269_412 rfl hl0 ?_
                    refine jr_iload_n jf_269_413 rfl hl3 ?_
                    refine jr_iconst jf_269_414 jc_i_2 ?_
                    refine jr_iadd jf_269_415 ?_
                    replace h := obd_of h; obtain ⟨x73, hx73, h⟩ := h
                    refine jr_iaload jf_269_416 hx73 ?_
                    refine jr_aload_n jf_269_417 rfl hl0 ?_
                    refine jr_iload_n jf_269_418 rfl hl3 ?_
                    refine jr_iconst jf_269_419 jc_i_3 ?_
                    refine jr_iadd jf_269_420 ?_
                    replace h := obd_of h; obtain ⟨x74, hx74, h⟩ := h
                    refine jr_iaload jf_269_421 hx74 ?_
                    refine jr_aload_n jf_269_422 rfl hl0 ?_
                    refine jr_iload_n jf_269_423 rfl hl3 ?_
                    refine jr_iconst jf_269_424 jc_i_4 ?_
                    refine jr_iadd jf_269_425 ?_
                    replace h := obd_of h; obtain ⟨x75, hx75, h⟩ := h
                    refine jr_iaload jf_269_426 hx75 ?_
                    refine jr_aload_n jf_269_427 rfl hl0 ?_
                    refine jr_iload_n jf_269_428 rfl hl3 ?_
                    refine jr_iconst jf_269_429 jc_i_5 ?_
                    refine jr_iadd jf_269_430 ?_
                    replace h := obd_of h; obtain ⟨x76, hx76, h⟩ := h
                    refine jr_iaload jf_269_431 hx76 ?_
                    refine jr_i2l jf_269_432 ?_
                    refine jr_bipush jf_269_433 jc_b_32 ?_
                    refine jr_lshl jf_269_435 ?_
                    refine jr_aload_n jf_269_436 rfl hl0 ?_
                    refine jr_iload_n jf_269_437 rfl hl3 ?_
                    refine jr_bipush jf_269_438 jc_b_6 ?_
                    refine jr_iadd jf_269_440 ?_
                    replace h := obd_of h; obtain ⟨x77, hx77, h⟩ := h
                    refine jr_iaload jf_269_441 hx77 ?_
                    refine jr_i2l jf_269_442 ?_
                    refine jr_ldc2l jf_269_443 ?_
                    refine jr_land jf_269_446 ?_
                    refine jr_lor jf_269_447 ?_
                    replace h := jgd_of h; obtain ⟨hb78, h⟩ := h
                    replace h := jbd2_of h; obtain ⟨x79, μ80, hx79, h⟩ := h
                    refine jr_V6_5 jf_269_448 hb78 (by omega) (r_B_loop (by omega) _ _ _ _ _ _ _ _ _ hx79) (Nat.le_of_ble_eq_true rfl) jml_54 (Nat.le_of_ble_eq_true rfl) ?_
                    refine jr_aload_n jf_269_451 rfl hl2 ?_
                    refine jr_aload_n jf_269_452 rfl hl0 ?_
                    refine jr_iload_n jf_269_453 rfl hl3 ?_
                    refine jr_iconst jf_269_454 jc_i_1 ?_
                    refine jr_iadd jf_269_455 ?_
                    replace h := obd_of h; obtain ⟨x81, hx81, h⟩ := h
                    refine jr_iaload jf_269_456 hx81 ?_
                    refine jr_aload_n jf_269_457 rfl hl0 ?_
                    refine jr_iload_n jf_269_458 rfl hl3 ?_
                    refine jr_iconst jf_269_459 jc_i_2 ?_
                    refine jr_iadd jf_269_460 ?_
                    replace h := obd_of h; obtain ⟨x82, hx82, h⟩ := h
                    refine jr_iaload jf_269_461 hx82 ?_
                    refine jr_aload_n jf_269_462 rfl hl0 ?_
                    refine jr_iload_n jf_269_463 rfl hl3 ?_
                    refine jr_iconst jf_269_464 jc_i_3 ?_
                    refine jr_iadd jf_269_465 ?_
                    replace h := obd_of h; obtain ⟨x83, hx83, h⟩ := h
                    refine jr_iaload jf_269_466 hx83 ?_
                    refine jr_aload_n jf_269_467 rfl hl0 ?_
                    refine jr_iload_n jf_269_468 rfl hl3 ?_
                    refine jr_iconst jf_269_469 jc_i_4 ?_
                    refine jr_iadd jf_269_470 ?_
                    replace h := obd_of h; obtain ⟨x84, hx84, h⟩ := h
                    refine jr_iaload jf_269_471 hx84 ?_
                    refine jr_aload_n jf_269_472 rfl hl0 ?_
                    refine jr_iload_n jf_269_473 rfl hl3 ?_
                    refine jr_iconst jf_269_474 jc_i_5 ?_
                    refine jr_iadd jf_269_475 ?_
                    replace h := obd_of h; obtain ⟨x85, hx85, h⟩ := h
                    refine jr_iaload jf_269_476 hx85 ?_
                    refine jr_i2l jf_269_477 ?_
                    refine jr_bipush jf_269_478 jc_b_32 ?_
                    refine jr_lshl jf_269_480 ?_
                    refine jr_aload_n jf_269_481 rfl hl0 ?_
                    refine jr_iload_n jf_269_482 rfl hl3 ?_
                    refine jr_bipush jf_269_483 jc_b_6 ?_
                    refine jr_iadd jf_269_485 ?_
                    replace h := obd_of h; obtain ⟨x86, hx86, h⟩ := h
                    refine jr_iaload jf_269_486 hx86 ?_
                    refine jr_i2l jf_269_487 ?_
                    refine jr_ldc2l jf_269_488 ?_
                    refine jr_land jf_269_491 ?_
                    refine jr_lor jf_269_492 ?_
                    replace h := jgd_of h; obtain ⟨hb87, h⟩ := h
                    replace h := jbd2_of h; obtain ⟨x88, μ89, hx88, h⟩ := h
                    refine jr_V6_5 jf_269_493 hb87 (by omega) (r_R_loop (by omega) _ _ _ _ _ _ _ _ _ hx88) (Nat.le_of_ble_eq_true rfl) jml_208 (Nat.le_of_ble_eq_true rfl) ?_
                    replace h := ite_or h; rcases h with ⟨hc, h⟩ | ⟨hc, h⟩
                    · refine jr_if2_eq_t jf_269_496 hc ?_
                      exact r_L_law_1079 hd ih _ _ _ _ _ _ _ _ hl0 hl1 hl2 hl3 h
                    · refine jr_if2_eq_f jf_269_496 hc ?_
                      refine jr_iconst jf_269_499 jc_i_0 ?_
                      obtain ⟨rfl, rfl⟩ := Prod.mk.inj (Option.some.inj h)
                      exact jr_retZ (x := false) jf_269_500 jmt_269
                  · refine jsw_miss (by decide) hc (by decide : (6 : Int) + 1 = 7) ?_
                    replace h := ite_or h; rcases h with ⟨hc, h⟩ | ⟨hc, h⟩
                    · refine jsw_hit (by decide) hc ?_
                      refine jr_aload_n jf_269_501 rfl hl1 ?_
                      refine jr_aload_n jf_269_502 rfl hl0 ?_
                      refine jr_iload_n jf_269_503 rfl hl3 ?_
                      refine jr_iconst jf_269_504 jc_i_1 ?_
                      refine jr_iadd jf_269_505 ?_
                      replace h := obd_of h; obtain ⟨x90, hx90, h⟩ := h
                      refine jr_iaload jf_269_506 hx90 ?_
                      refine jr_aload_n jf_269_507 rfl hl0 ?_
                      refine jr_iload_n jf_269_508 rfl hl3 ?_
                      refine jr_iconst jf_269_509 jc_i_2 ?_
                      refine jr_iadd jf_269_510 ?_
                      replace h := obd_of h; obtain ⟨x91, hx91, h⟩ := h
                      refine jr_iaload jf_269_511 hx91 ?_
                      replace h := jgd_of h; obtain ⟨hb92, h⟩ := h
                      replace h := jbd2_of h; obtain ⟨x93, μ94, hx93, h⟩ := h
                      refine jr_V6_2 jf_269_512 hb92 (by omega) (r_B_within (by omega) _ _ _ _ _ _ hx93) (Nat.le_of_ble_eq_true rfl) jml_59 (Nat.le_of_ble_eq_true rfl) ?_
                      refine jr_aload_n jf_269_515 rfl hl2 ?_
                      refine jr_aload_n jf_269_516 rfl hl0 ?_
                      refine jr_iload_n jf_269_517 rfl hl3 ?_
                      refine jr_iconst jf_269_518 jc_i_1 ?_
                      refine jr_iadd jf_269_519 ?_
                      replace h := obd_of h; obtain ⟨x95, hx95, h⟩ := h
                      refine jr_iaload jf_269_520 hx95 ?_
                      refine jr_aload_n jf_269_521 rfl hl0 ?_
                      refine jr_iload_n jf_269_522 rfl hl3 ?_
                      refine jr_iconst jf_269_523 jc_i_2 ?_
                      refine jr_iadd jf_269_524 ?_
                      replace h := obd_of h; obtain ⟨x96, hx96, h⟩ := h
                      refine jr_iaload jf_269_525 hx96 ?_
                      replace h := jgd_of h; obtain ⟨hb97, h⟩ := h
                      replace h := jbd2_of h; obtain ⟨x98, μ99, hx98, h⟩ := h
                      refine jr_V6_2 jf_269_526 hb97 (by omega) (r_R_within (by omega) _ _ _ _ _ _ hx98) (Nat.le_of_ble_eq_true rfl) jml_210 (Nat.le_of_ble_eq_true rfl) ?_
                      replace h := ite_or h; rcases h with ⟨hc, h⟩ | ⟨hc, h⟩
                      · refine jr_if2z_eq_t jf_269_529 hc ?_
                        exact r_L_law_1079 hd ih _ _ _ _ _ _ _ _ hl0 hl1 hl2 hl3 h
                      · refine jr_if2z_eq_f jf_269_529 hc ?_
                        refine jr_iconst jf_269_532 jc_i_0 ?_
                        obtain ⟨rfl, rfl⟩ := Prod.mk.inj (Option.some.inj h)
                        exact jr_retZ (x := false) jf_269_533 jmt_269
                    · refine jsw_miss (by decide) hc (by decide : (7 : Int) + 1 = 8) ?_
                      replace h := ite_or h; rcases h with ⟨hc, h⟩ | ⟨hc, h⟩
                      · refine jsw_hit (by decide) hc ?_
                        refine jr_aload_n jf_269_534 rfl hl1 ?_
                        refine jr_aload_n jf_269_535 rfl hl0 ?_
                        refine jr_iload_n jf_269_536 rfl hl3 ?_
                        refine jr_iconst jf_269_537 jc_i_1 ?_
                        refine jr_iadd jf_269_538 ?_
                        replace h := obd_of h; obtain ⟨x100, hx100, h⟩ := h
                        refine jr_iaload jf_269_539 hx100 ?_
                        refine jr_aload_n jf_269_540 rfl hl0 ?_
                        refine jr_iload_n jf_269_541 rfl hl3 ?_
                        refine jr_iconst jf_269_542 jc_i_2 ?_
                        refine jr_iadd jf_269_543 ?_
                        replace h := obd_of h; obtain ⟨x101, hx101, h⟩ := h
                        refine jr_iaload jf_269_544 hx101 ?_
                        refine jr_i2l jf_269_545 ?_
                        refine jr_bipush jf_269_546 jc_b_32 ?_
                        refine jr_lshl jf_269_548 ?_
                        refine jr_aload_n jf_269_549 rfl hl0 ?_
                        refine jr_iload_n jf_269_550 rfl hl3 ?_
                        refine jr_iconst jf_269_551 jc_i_3 ?_
                        refine jr_iadd jf_269_552 ?_
                        replace h := obd_of h; obtain ⟨x102, hx102, h⟩ := h
                        refine jr_iaload jf_269_553 hx102 ?_
                        refine jr_i2l jf_269_554 ?_
                        refine jr_ldc2l jf_269_555 ?_
                        refine jr_land jf_269_558 ?_
                        refine jr_lor jf_269_559 ?_
                        replace h := jgd_of h; obtain ⟨hb103, h⟩ := h
                        replace h := jbd2_of h; obtain ⟨x104, μ105, hx104, h⟩ := h
                        refine jr_V6_2 jf_269_560 hb103 (by omega) (r_B_feed (by omega) _ _ _ _ _ _ hx104) (Nat.le_of_ble_eq_true rfl) jml_62 (Nat.le_of_ble_eq_true rfl) ?_
                        refine jr_aload_n jf_269_563 rfl hl2 ?_
                        refine jr_aload_n jf_269_564 rfl hl0 ?_
                        refine jr_iload_n jf_269_565 rfl hl3 ?_
                        refine jr_iconst jf_269_566 jc_i_1 ?_
                        refine jr_iadd jf_269_567 ?_
                        replace h := obd_of h; obtain ⟨x106, hx106, h⟩ := h
                        refine jr_iaload jf_269_568 hx106 ?_
                        refine jr_aload_n jf_269_569 rfl hl0 ?_
                        refine jr_iload_n jf_269_570 rfl hl3 ?_
                        refine jr_iconst jf_269_571 jc_i_2 ?_
                        refine jr_iadd jf_269_572 ?_
                        replace h := obd_of h; obtain ⟨x107, hx107, h⟩ := h
                        refine jr_iaload jf_269_573 hx107 ?_
                        refine jr_i2l jf_269_574 ?_
                        refine jr_bipush jf_269_575 jc_b_32 ?_
                        refine jr_lshl jf_269_577 ?_
                        refine jr_aload_n jf_269_578 rfl hl0 ?_
                        refine jr_iload_n jf_269_579 rfl hl3 ?_
                        refine jr_iconst jf_269_580 jc_i_3 ?_
                        refine jr_iadd jf_269_581 ?_
                        replace h := obd_of h; obtain ⟨x108, hx108, h⟩ := h
                        refine jr_iaload jf_269_582 hx108 ?_
                        refine jr_i2l jf_269_583 ?_
                        refine jr_ldc2l jf_269_584 ?_
                        refine jr_land jf_269_587 ?_
                        refine jr_lor jf_269_588 ?_
                        replace h := jgd_of h; obtain ⟨hb109, h⟩ := h
                        replace h := jbd2_of h; obtain ⟨x110, μ111, hx110, h⟩ := h
                        refine jr_V6_2 jf_269_589 hb109 (by omega) (r_R_feed (by omega) _ _ _ _ _ _ hx110) (Nat.le_of_ble_eq_true rfl) jml_211 (Nat.le_of_ble_eq_true rfl) ?_
                        replace h := ite_or h; rcases h with ⟨hc, h⟩ | ⟨hc, h⟩
                        · refine jr_if2_eq_t jf_269_592 hc ?_
                          exact r_L_law_1079 hd ih _ _ _ _ _ _ _ _ hl0 hl1 hl2 hl3 h
                        · refine jr_if2_eq_f jf_269_592 hc ?_
                          refine jr_iconst jf_269_595 jc_i_0 ?_
                          obtain ⟨rfl, rfl⟩ := Prod.mk.inj (Option.some.inj h)
                          exact jr_retZ (x := false) jf_269_596 jmt_269
                      · refine jsw_miss (by decide) hc (by decide : (8 : Int) + 1 = 9) ?_
                        replace h := ite_or h; rcases h with ⟨hc, h⟩ | ⟨hc, h⟩
                        · refine jsw_hit (by decide) hc ?_
                          refine jr_aload_n jf_269_597 rfl hl1 ?_
                          refine jr_aload_n jf_269_598 rfl hl0 ?_
                          refine jr_iload_n jf_269_599 rfl hl3 ?_
                          refine jr_iconst jf_269_600 jc_i_1 ?_
                          refine jr_iadd jf_269_601 ?_
                          replace h := obd_of h; obtain ⟨x112, hx112, h⟩ := h
                          refine jr_iaload jf_269_602 hx112 ?_
                          refine jr_aload_n jf_269_603 rfl hl0 ?_
                          refine jr_iload_n jf_269_604 rfl hl3 ?_
                          refine jr_iconst jf_269_605 jc_i_2 ?_
                          refine jr_iadd jf_269_606 ?_
                          replace h := obd_of h; obtain ⟨x113, hx113, h⟩ := h
                          refine jr_iaload jf_269_607 hx113 ?_
                          refine jr_aload_n jf_269_608 rfl hl0 ?_
                          refine jr_iload_n jf_269_609 rfl hl3 ?_
                          refine jr_iconst jf_269_610 jc_i_3 ?_
                          refine jr_iadd jf_269_611 ?_
                          replace h := obd_of h; obtain ⟨x114, hx114, h⟩ := h
                          refine jr_iaload jf_269_612 hx114 ?_
                          replace h := jgd_of h; obtain ⟨hb115, h⟩ := h
                          replace h := jbd2_of h; obtain ⟨x116, μ117, hx116, h⟩ := h
                          refine jr_V6_3 jf_269_613 hb115 (by omega) (r_B_run (by omega) _ _ _ _ _ _ _ hx116) (Nat.le_of_ble_eq_true rfl) jml_114 (Nat.le_of_ble_eq_true rfl) ?_
                          refine jr_aload_n jf_269_616 rfl hl2 ?_
                          refine jr_aload_n jf_269_617 rfl hl0 ?_
                          refine jr_iload_n jf_269_618 rfl hl3 ?_
                          refine jr_iconst jf_269_619 jc_i_1 ?_
                          refine jr_iadd jf_269_620 ?_
                          replace h := obd_of h; obtain ⟨x118, hx118, h⟩ := h
                          refine jr_iaload jf_269_621 hx118 ?_
                          refine jr_aload_n jf_269_622 rfl hl0 ?_
                          refine jr_iload_n jf_269_623 rfl hl3 ?_
                          refine jr_iconst jf_269_624 jc_i_2 ?_
                          refine jr_iadd jf_269_625 ?_
                          replace h := obd_of h; obtain ⟨x119, hx119, h⟩ := h
                          refine jr_iaload jf_269_626 hx119 ?_
                          refine jr_aload_n jf_269_627 rfl hl0 ?_
                          refine jr_iload_n jf_269_628 rfl hl3 ?_
                          refine jr_iconst jf_269_629 jc_i_3 ?_
                          refine jr_iadd jf_269_630 ?_
                          replace h := obd_of h; obtain ⟨x120, hx120, h⟩ := h
                          refine jr_iaload jf_269_631 hx120 ?_
                          replace h := jgd_of h; obtain ⟨hb121, h⟩ := h
                          replace h := jbd2_of h; obtain ⟨x122, μ123, hx122, h⟩ := h
                          refine jr_V6_3 jf_269_632 hb121 (by omega) (r_R_run (by omega) _ _ _ _ _ _ _ hx122) (Nat.le_of_ble_eq_true rfl) jml_232 (Nat.le_of_ble_eq_true rfl) ?_
                          replace h := ite_or h; rcases h with ⟨hc, h⟩ | ⟨hc, h⟩
                          · refine jr_if2_eq_t jf_269_635 hc ?_
                            exact r_L_law_1079 hd ih _ _ _ _ _ _ _ _ hl0 hl1 hl2 hl3 h
                          · refine jr_if2_eq_f jf_269_635 hc ?_
                            refine jr_iconst jf_269_638 jc_i_0 ?_
                            obtain ⟨rfl, rfl⟩ := Prod.mk.inj (Option.some.inj h)
                            exact jr_retZ (x := false) jf_269_639 jmt_269
                        · refine jsw_miss (by decide) hc (by decide : (9 : Int) + 1 = 10) ?_
                          replace h := ite_or h; rcases h with ⟨hc, h⟩ | ⟨hc, h⟩
                          · refine jsw_hit (by decide) hc ?_
                            refine jr_aload_n jf_269_640 rfl hl1 ?_
                            refine jr_aload_n jf_269_641 rfl hl0 ?_
                            refine jr_iload_n jf_269_642 rfl hl3 ?_
                            refine jr_iconst jf_269_643 jc_i_1 ?_
                            refine jr_iadd jf_269_644 ?_
                            replace h := obd_of h; obtain ⟨x124, hx124, h⟩ := h
                            refine jr_iaload jf_269_645 hx124 ?_
                            refine jr_aload_n jf_269_646 rfl hl0 ?_
                            refine jr_iload_n jf_269_647 rfl hl3 ?_
                            refine jr_iconst jf_269_648 jc_i_2 ?_
                            refine jr_iadd jf_269_649 ?_
                            replace h := obd_of h; obtain ⟨x125, hx125, h⟩ := h
                            refine jr_iaload jf_269_650 hx125 ?_
                            replace h := jgd_of h; obtain ⟨hb126, h⟩ := h
                            replace h := obd_of h; obtain ⟨x127, hx127, h⟩ := h
                            refine jr_V6_2 jf_269_651 hb126 (by omega) (r_B_output (by omega) _ _ _ _ _ hx127) (Nat.le_of_ble_eq_true rfl) jml_118 (Nat.le_of_ble_eq_true rfl) ?_
                            refine jr_aload_n jf_269_654 rfl hl2 ?_
                            refine jr_aload_n jf_269_655 rfl hl0 ?_
                            refine jr_iload_n jf_269_656 rfl hl3 ?_
                            refine jr_iconst jf_269_657 jc_i_1 ?_
                            refine jr_iadd jf_269_658 ?_
                            replace h := obd_of h; obtain ⟨x128, hx128, h⟩ := h
                            refine jr_iaload jf_269_659 hx128 ?_
                            refine jr_aload_n jf_269_660 rfl hl0 ?_
                            refine jr_iload_n jf_269_661 rfl hl3 ?_
                            refine jr_iconst jf_269_662 jc_i_2 ?_
                            refine jr_iadd jf_269_663 ?_
                            replace h := obd_of h; obtain ⟨x129, hx129, h⟩ := h
                            refine jr_iaload jf_269_664 hx129 ?_
                            replace h := jgd_of h; obtain ⟨hb130, h⟩ := h
                            replace h := obd_of h; obtain ⟨x131, hx131, h⟩ := h
                            refine jr_V6_2 jf_269_665 hb130 (by omega) (r_R_output (by omega) _ _ _ _ _ hx131) (Nat.le_of_ble_eq_true rfl) jml_233 (Nat.le_of_ble_eq_true rfl) ?_
                            refine jr_lcmp jf_269_668 ?_
                            replace h := ite_or h; rcases h with ⟨hc, h⟩ | ⟨hc, h⟩
                            · refine jr_ifl_eq_t jf_269_669 hc ?_
                              exact r_L_law_1079 hd ih _ _ _ _ _ _ _ _ hl0 hl1 hl2 hl3 h
                            · refine jr_ifl_eq_f jf_269_669 hc ?_
                              refine jr_iconst jf_269_672 jc_i_0 ?_
                              obtain ⟨rfl, rfl⟩ := Prod.mk.inj (Option.some.inj h)
                              exact jr_retZ (x := false) jf_269_673 jmt_269
                          · refine jsw_miss (by decide) hc (by decide : (10 : Int) + 1 = 11) ?_
                            replace h := ite_or h; rcases h with ⟨hc, h⟩ | ⟨hc, h⟩
                            · refine jsw_hit (by decide) hc ?_
                              refine jr_aload_n jf_269_674 rfl hl1 ?_
                              refine jr_aload_n jf_269_675 rfl hl0 ?_
                              refine jr_iload_n jf_269_676 rfl hl3 ?_
                              refine jr_iconst jf_269_677 jc_i_1 ?_
                              refine jr_iadd jf_269_678 ?_
                              replace h := obd_of h; obtain ⟨x132, hx132, h⟩ := h
                              refine jr_iaload jf_269_679 hx132 ?_
                              refine jr_aload_n jf_269_680 rfl hl0 ?_
                              refine jr_iload_n jf_269_681 rfl hl3 ?_
                              refine jr_iconst jf_269_682 jc_i_2 ?_
                              refine jr_iadd jf_269_683 ?_
                              replace h := obd_of h; obtain ⟨x133, hx133, h⟩ := h
                              refine jr_iaload jf_269_684 hx133 ?_
                              replace h := jgd_of h; obtain ⟨hb134, h⟩ := h
                              replace h := obd_of h; obtain ⟨x135, hx135, h⟩ := h
                              refine jr_V6_2 jf_269_685 hb134 (by omega) (r_B_state (by omega) _ _ _ _ _ hx135) (Nat.le_of_ble_eq_true rfl) jml_37 (Nat.le_of_ble_eq_true rfl) ?_
                              refine jr_aload_n jf_269_688 rfl hl2 ?_
                              refine jr_aload_n jf_269_689 rfl hl0 ?_
                              refine jr_iload_n jf_269_690 rfl hl3 ?_
                              refine jr_iconst jf_269_691 jc_i_1 ?_
                              refine jr_iadd jf_269_692 ?_
                              replace h := obd_of h; obtain ⟨x136, hx136, h⟩ := h
                              refine jr_iaload jf_269_693 hx136 ?_
                              refine jr_aload_n jf_269_694 rfl hl0 ?_
                              refine jr_iload_n jf_269_695 rfl hl3 ?_
                              refine jr_iconst jf_269_696 jc_i_2 ?_
                              refine jr_iadd jf_269_697 ?_
                              replace h := obd_of h; obtain ⟨x137, hx137, h⟩ := h
                              refine jr_iaload jf_269_698 hx137 ?_
                              replace h := jgd_of h; obtain ⟨hb138, h⟩ := h
                              replace h := obd_of h; obtain ⟨x139, hx139, h⟩ := h
                              refine jr_V6_2 jf_269_699 hb138 (by omega) (r_R_state (by omega) _ _ _ _ _ hx139) (Nat.le_of_ble_eq_true rfl) jml_240 (Nat.le_of_ble_eq_true rfl) ?_
                              refine jr_lcmp jf_269_702 ?_
                              replace h := ite_or h; rcases h with ⟨hc, h⟩ | ⟨hc, h⟩
                              · refine jr_ifl_eq_t jf_269_703 hc ?_
                                exact r_L_law_1079 hd ih _ _ _ _ _ _ _ _ hl0 hl1 hl2 hl3 h
                              · refine jr_ifl_eq_f jf_269_703 hc ?_
                                refine jr_iconst jf_269_706 jc_i_0 ?_
                                obtain ⟨rfl, rfl⟩ := Prod.mk.inj (Option.some.inj h)
                                exact jr_retZ (x := false) jf_269_707 jmt_269
                            · refine jsw_miss (by decide) hc (by decide : (11 : Int) + 1 = 12) ?_
                              replace h := ite_or h; rcases h with ⟨hc, h⟩ | ⟨hc, h⟩
                              · refine jsw_hit (by decide) hc ?_
                                refine jr_aload_n jf_269_708 rfl hl1 ?_
                                refine jr_aload_n jf_269_709 rfl hl0 ?_
                                refine jr_iload_n jf_269_710 rfl hl3 ?_
                                refine jr_iconst jf_269_711 jc_i_1 ?_
                                refine jr_iadd jf_269_712 ?_
                                replace h := obd_of h; obtain ⟨x140, hx140, h⟩ := h
                                refine jr_iaload jf_269_713 hx140 ?_
                                refine jr_aload_n jf_269_714 rfl hl0 ?_
                                refine jr_iload_n jf_269_715 rfl hl3 ?_
                                refine jr_iconst jf_269_716 jc_i_2 ?_
                                refine jr_iadd jf_269_717 ?_
                                replace h := obd_of h; obtain ⟨x141, hx141, h⟩ := h
                                refine jr_iaload jf_269_718 hx141 ?_
                                replace h := jgd_of h; obtain ⟨hb142, h⟩ := h
                                replace h := obd_of h; obtain ⟨x143, hx143, h⟩ := h
                                refine jr_V6_2 jf_269_719 hb142 (by omega) (r_B_about (by omega) _ _ _ _ _ hx143) (Nat.le_of_ble_eq_true rfl) jml_40 (Nat.le_of_ble_eq_true rfl) ?_
                                refine jr_aload_n jf_269_722 rfl hl2 ?_
                                refine jr_aload_n jf_269_723 rfl hl0 ?_
                                refine jr_iload_n jf_269_724 rfl hl3 ?_
                                refine jr_iconst jf_269_725 jc_i_1 ?_
                                refine jr_iadd jf_269_726 ?_
                                replace h := obd_of h; obtain ⟨x144, hx144, h⟩ := h
                                refine jr_iaload jf_269_727 hx144 ?_
                                refine jr_aload_n jf_269_728 rfl hl0 ?_
                                refine jr_iload_n jf_269_729 rfl hl3 ?_
                                refine jr_iconst jf_269_730 jc_i_2 ?_
                                refine jr_iadd jf_269_731 ?_
                                replace h := obd_of h; obtain ⟨x145, hx145, h⟩ := h
                                refine jr_iaload jf_269_732 hx145 ?_
                                replace h := jgd_of h; obtain ⟨hb146, h⟩ := h
                                replace h := obd_of h; obtain ⟨x147, hx147, h⟩ := h
                                refine jr_V6_2 jf_269_733 hb146 (by omega) (r_R_about (by omega) _ _ _ _ _ hx147) (Nat.le_of_ble_eq_true rfl) jml_241 (Nat.le_of_ble_eq_true rfl) ?_
                                replace h := ite_or h; rcases h with ⟨hc, h⟩ | ⟨hc, h⟩
                                · refine jr_if2_eq_t jf_269_736 hc ?_
                                  exact r_L_law_1079 hd ih _ _ _ _ _ _ _ _ hl0 hl1 hl2 hl3 h
                                · refine jr_if2_eq_f jf_269_736 hc ?_
                                  refine jr_iconst jf_269_739 jc_i_0 ?_
                                  obtain ⟨rfl, rfl⟩ := Prod.mk.inj (Option.some.inj h)
                                  exact jr_retZ (x := false) jf_269_740 jmt_269
                              · refine jsw_miss (by decide) hc (by decide : (12 : Int) + 1 = 13) ?_
                                replace h := ite_or h; rcases h with ⟨hc, h⟩ | ⟨hc, h⟩
                                · refine jsw_hit (by decide) hc ?_
                                  refine jr_aload_n jf_269_741 rfl hl1 ?_
                                  refine jr_aload_n jf_269_742 rfl hl0 ?_
                                  refine jr_iload_n jf_269_743 rfl hl3 ?_
                                  refine jr_iconst jf_269_744 jc_i_1 ?_
                                  refine jr_iadd jf_269_745 ?_
                                  replace h := obd_of h; obtain ⟨x148, hx148, h⟩ := h
                                  refine jr_iaload jf_269_746 hx148 ?_
                                  refine jr_aload_n jf_269_747 rfl hl0 ?_
                                  refine jr_iload_n jf_269_748 rfl hl3 ?_
                                  refine jr_iconst jf_269_749 jc_i_2 ?_
                                  refine jr_iadd jf_269_750 ?_
                                  replace h := obd_of h; obtain ⟨x149, hx149, h⟩ := h
                                  refine jr_iaload jf_269_751 hx149 ?_
                                  replace h := jgd_of h; obtain ⟨hb150, h⟩ := h
                                  replace h := obd_of h; obtain ⟨x151, hx151, h⟩ := h
                                  refine jr_V6_2 jf_269_752 hb150 (by omega) (r_B_told (by omega) _ _ _ _ _ hx151) (Nat.le_of_ble_eq_true rfl) jml_42 (Nat.le_of_ble_eq_true rfl) ?_
                                  refine jr_aload_n jf_269_755 rfl hl2 ?_
                                  refine jr_aload_n jf_269_756 rfl hl0 ?_
                                  refine jr_iload_n jf_269_757 rfl hl3 ?_
                                  refine jr_iconst jf_269_758 jc_i_1 ?_
                                  refine jr_iadd jf_269_759 ?_
                                  replace h := obd_of h; obtain ⟨x152, hx152, h⟩ := h
                                  refine jr_iaload jf_269_760 hx152 ?_
                                  refine jr_aload_n jf_269_761 rfl hl0 ?_
                                  refine jr_iload_n jf_269_762 rfl hl3 ?_
                                  refine jr_iconst jf_269_763 jc_i_2 ?_
                                  refine jr_iadd jf_269_764 ?_
                                  replace h := obd_of h; obtain ⟨x153, hx153, h⟩ := h
                                  refine jr_iaload jf_269_765 hx153 ?_
                                  replace h := jgd_of h; obtain ⟨hb154, h⟩ := h
                                  replace h := obd_of h; obtain ⟨x155, hx155, h⟩ := h
                                  refine jr_V6_2 jf_269_766 hb154 (by omega) (r_R_told (by omega) _ _ _ _ _ hx155) (Nat.le_of_ble_eq_true rfl) jml_242 (Nat.le_of_ble_eq_true rfl) ?_
                                  refine jr_lcmp jf_269_769 ?_
                                  replace h := ite_or h; rcases h with ⟨hc, h⟩ | ⟨hc, h⟩
                                  · refine jr_ifl_eq_t jf_269_770 hc ?_
                                    exact r_L_law_1079 hd ih _ _ _ _ _ _ _ _ hl0 hl1 hl2 hl3 h
                                  · refine jr_ifl_eq_f jf_269_770 hc ?_
                                    refine jr_iconst jf_269_773 jc_i_0 ?_
                                    obtain ⟨rfl, rfl⟩ := Prod.mk.inj (Option.some.inj h)
                                    exact jr_retZ (x := false) jf_269_774 jmt_269
                                · refine jsw_miss (by decide) hc (by decide : (13 : Int) + 1 = 14) ?_
                                  replace h := ite_or h; rcases h with ⟨hc, h⟩ | ⟨hc, h⟩
                                  · refine jsw_hit (by decide) hc ?_
                                    refine jr_aload_n jf_269_775 rfl hl1 ?_
                                    refine jr_aload_n jf_269_776 rfl hl0 ?_
                                    refine jr_iload_n jf_269_777 rfl hl3 ?_
                                    refine jr_iconst jf_269_778 jc_i_1 ?_
                                    refine jr_iadd jf_269_779 ?_
                                    replace h := obd_of h; obtain ⟨x156, hx156, h⟩ := h
                                    refine jr_iaload jf_269_780 hx156 ?_
                                    replace h := jgd_of h; obtain ⟨hb157, h⟩ := h
                                    replace h := jbd2_of h; obtain ⟨x158, μ159, hx158, h⟩ := h
                                    refine jr_V6_1 jf_269_781 hb157 (by omega) (r_B_reset (by omega) _ _ _ _ _ hx158) (Nat.le_of_ble_eq_true rfl) jml_125 (Nat.le_of_ble_eq_true rfl) ?_
                                    refine jr_aload_n jf_269_784 rfl hl2 ?_
                                    refine jr_aload_n jf_269_785 rfl hl0 ?_
                                    refine jr_iload_n jf_269_786 rfl hl3 ?_
                                    refine jr_iconst jf_269_787 jc_i_1 ?_
                                    refine jr_iadd jf_269_788 ?_
                                    replace h := obd_of h; obtain ⟨x160, hx160, h⟩ := h
                                    refine jr_iaload jf_269_789 hx160 ?_
                                    replace h := jgd_of h; obtain ⟨hb161, h⟩ := h
                                    replace h := jbd2_of h; obtain ⟨x162, μ163, hx162, h⟩ := h
                                    refine jr_V6_1 jf_269_790 hb161 (by omega) (r_R_reset (by omega) _ _ _ _ _ hx162) (Nat.le_of_ble_eq_true rfl) jml_243 (Nat.le_of_ble_eq_true rfl) ?_
                                    replace h := ite_or h; rcases h with ⟨hc, h⟩ | ⟨hc, h⟩
                                    · refine jr_if2z_eq_t jf_269_793 hc ?_
                                      exact r_L_law_1079 hd ih _ _ _ _ _ _ _ _ hl0 hl1 hl2 hl3 h
                                    · refine jr_if2z_eq_f jf_269_793 hc ?_
                                      refine jr_iconst jf_269_796 jc_i_0 ?_
                                      obtain ⟨rfl, rfl⟩ := Prod.mk.inj (Option.some.inj h)
                                      exact jr_retZ (x := false) jf_269_797 jmt_269
                                  · refine jsw_miss (by decide) hc (by decide : (14 : Int) + 1 = 15) ?_
                                    replace h := ite_or h; rcases h with ⟨hc, h⟩ | ⟨hc, h⟩
                                    · refine jsw_hit (by decide) hc ?_
                                      refine jr_aload_n jf_269_798 rfl hl1 ?_
                                      refine jr_aload_n jf_269_799 rfl hl0 ?_
                                      refine jr_iload_n jf_269_800 rfl hl3 ?_
                                      refine jr_iconst jf_269_801 jc_i_1 ?_
                                      refine jr_iadd jf_269_802 ?_
                                      replace h := obd_of h; obtain ⟨x164, hx164, h⟩ := h
                                      refine jr_iaload jf_269_803 hx164 ?_
                                      replace h := jgd_of h; obtain ⟨hb165, h⟩ := h
                                      replace h := jbd2_of h; obtain ⟨x166, μ167, hx166, h⟩ := h
                                      refine jr_V6_1 jf_269_804 hb165 (by omega) (r_B_keep (by omega) _ _ _ _ _ hx166) (Nat.le_of_ble_eq_true rfl) jml_133 (Nat.le_of_ble_eq_true rfl) ?_
                                      refine jr_aload_n jf_269_807 rfl hl2 ?_
                                      refine jr_aload_n jf_269_808 rfl hl0 ?_
                                      refine jr_iload_n jf_269_809 rfl hl3 ?_
                                      refine jr_iconst jf_269_810 jc_i_1 ?_
                                      refine jr_iadd jf_269_811 ?_
                                      replace h := obd_of h; obtain ⟨x168, hx168, h⟩ := h
                                      refine jr_iaload jf_269_812 hx168 ?_
                                      replace h := jgd_of h; obtain ⟨hb169, h⟩ := h
                                      replace h := jbd2_of h; obtain ⟨x170, μ171, hx170, h⟩ := h
                                      refine jr_V6_1 jf_269_813 hb169 (by omega) (r_R_keep (by omega) _ _ _ _ _ hx170) (Nat.le_of_ble_eq_true rfl) jml_246 (Nat.le_of_ble_eq_true rfl) ?_
                                      replace h := ite_or h; rcases h with ⟨hc, h⟩ | ⟨hc, h⟩
                                      · refine jr_if2_eq_t jf_269_816 hc ?_
                                        exact r_L_law_1079 hd ih _ _ _ _ _ _ _ _ hl0 hl1 hl2 hl3 h
                                      · refine jr_if2_eq_f jf_269_816 hc ?_
                                        refine jr_iconst jf_269_819 jc_i_0 ?_
                                        obtain ⟨rfl, rfl⟩ := Prod.mk.inj (Option.some.inj h)
                                        exact jr_retZ (x := false) jf_269_820 jmt_269
                                    · refine jsw_miss (by decide) hc (by decide : (15 : Int) + 1 = 16) ?_
                                      replace h := ite_or h; rcases h with ⟨hc, h⟩ | ⟨hc, h⟩
                                      · refine jsw_hit (by decide) hc ?_
                                        refine jr_aload_n jf_269_821 rfl hl1 ?_
                                        refine jr_aload_n jf_269_822 rfl hl0 ?_
                                        refine jr_iload_n jf_269_823 rfl hl3 ?_
                                        refine jr_iconst jf_269_824 jc_i_1 ?_
                                        refine jr_iadd jf_269_825 ?_
                                        replace h := obd_of h; obtain ⟨x172, hx172, h⟩ := h
                                        refine jr_iaload jf_269_826 hx172 ?_
                                        replace h := jgd_of h; obtain ⟨hb173, h⟩ := h
                                        replace h := jbd2_of h; obtain ⟨x174, μ175, hx174, h⟩ := h
                                        refine jr_V6_1 jf_269_827 hb173 (by omega) (r_B_back (by omega) _ _ _ _ _ hx174) (Nat.le_of_ble_eq_true rfl) jml_139 (Nat.le_of_ble_eq_true rfl) ?_
                                        refine jr_aload_n jf_269_830 rfl hl2 ?_
                                        refine jr_aload_n jf_269_831 rfl hl0 ?_
                                        refine jr_iload_n jf_269_832 rfl hl3 ?_
                                        refine jr_iconst jf_269_833 jc_i_1 ?_
                                        refine jr_iadd jf_269_834 ?_
                                        replace h := obd_of h; obtain ⟨x176, hx176, h⟩ := h
                                        refine jr_iaload jf_269_835 hx176 ?_
                                        replace h := jgd_of h; obtain ⟨hb177, h⟩ := h
                                        replace h := jbd2_of h; obtain ⟨x178, μ179, hx178, h⟩ := h
                                        refine jr_V6_1 jf_269_836 hb177 (by omega) (r_R_back (by omega) _ _ _ _ _ hx178) (Nat.le_of_ble_eq_true rfl) jml_248 (Nat.le_of_ble_eq_true rfl) ?_
                                        replace h := ite_or h; rcases h with ⟨hc, h⟩ | ⟨hc, h⟩
                                        · refine jr_if2z_eq_t jf_269_839 hc ?_
                                          exact r_L_law_1079 hd ih _ _ _ _ _ _ _ _ hl0 hl1 hl2 hl3 h
                                        · refine jr_if2z_eq_f jf_269_839 hc ?_
                                          refine jr_iconst jf_269_842 jc_i_0 ?_
                                          obtain ⟨rfl, rfl⟩ := Prod.mk.inj (Option.some.inj h)
                                          exact jr_retZ (x := false) jf_269_843 jmt_269
                                      · refine jsw_miss (by decide) hc (by decide : (16 : Int) + 1 = 17) ?_
                                        replace h := ite_or h; rcases h with ⟨hc, h⟩ | ⟨hc, h⟩
                                        · refine jsw_hit (by decide) hc ?_
                                          refine jr_aload_n jf_269_844 rfl hl1 ?_
                                          refine jr_aload_n jf_269_845 rfl hl0 ?_
                                          refine jr_iload_n jf_269_846 rfl hl3 ?_
                                          refine jr_iconst jf_269_847 jc_i_1 ?_
                                          refine jr_iadd jf_269_848 ?_
                                          replace h := obd_of h; obtain ⟨x180, hx180, h⟩ := h
                                          refine jr_iaload jf_269_849 hx180 ?_
                                          replace h := jgd_of h; obtain ⟨hb181, h⟩ := h
                                          replace h := jbd2_of h; obtain ⟨x182, μ183, hx182, h⟩ := h
                                          refine jr_V6_1 jf_269_850 hb181 (by omega) (r_B_same (by omega) _ _ _ _ _ hx182) (Nat.le_of_ble_eq_true rfl) jml_146 (Nat.le_of_ble_eq_true rfl) ?_
                                          refine jr_aload_n jf_269_853 rfl hl2 ?_
                                          refine jr_aload_n jf_269_854 rfl hl0 ?_
                                          refine jr_iload_n jf_269_855 rfl hl3 ?_
                                          refine jr_iconst jf_269_856 jc_i_1 ?_
                                          refine jr_iadd jf_269_857 ?_
                                          replace h := obd_of h; obtain ⟨x184, hx184, h⟩ := h
                                          refine jr_iaload jf_269_858 hx184 ?_
                                          replace h := jgd_of h; obtain ⟨hb185, h⟩ := h
                                          replace h := jbd2_of h; obtain ⟨x186, μ187, hx186, h⟩ := h
                                          refine jr_V6_1 jf_269_859 hb185 (by omega) (r_R_same (by omega) _ _ _ _ _ hx186) (Nat.le_of_ble_eq_true rfl) jml_252 (Nat.le_of_ble_eq_true rfl) ?_
                                          replace h := ite_or h; rcases h with ⟨hc, h⟩ | ⟨hc, h⟩
                                          · refine jr_if2z_eq_t jf_269_862 hc ?_
                                            exact r_L_law_1079 hd ih _ _ _ _ _ _ _ _ hl0 hl1 hl2 hl3 h
                                          · refine jr_if2z_eq_f jf_269_862 hc ?_
                                            refine jr_iconst jf_269_865 jc_i_0 ?_
                                            obtain ⟨rfl, rfl⟩ := Prod.mk.inj (Option.some.inj h)
                                            exact jr_retZ (x := false) jf_269_866 jmt_269
                                        · refine jsw_miss (by decide) hc (by decide : (17 : Int) + 1 = 18) ?_
                                          replace h := ite_or h; rcases h with ⟨hc, h⟩ | ⟨hc, h⟩
                                          · refine jsw_hit (by decide) hc ?_
                                            refine jr_aload_n jf_269_867 rfl hl1 ?_
                                            refine jr_aload_n jf_269_868 rfl hl0 ?_
                                            refine jr_iload_n jf_269_869 rfl hl3 ?_
                                            refine jr_iconst jf_269_870 jc_i_1 ?_
                                            refine jr_iadd jf_269_871 ?_
                                            replace h := obd_of h; obtain ⟨x188, hx188, h⟩ := h
                                            refine jr_iaload jf_269_872 hx188 ?_
                                            replace h := jgd_of h; obtain ⟨hb189, h⟩ := h
                                            replace h := obd_of h; obtain ⟨x190, hx190, h⟩ := h
                                            refine jr_V6_1 jf_269_873 hb189 (by omega) (r_B_poles (by omega) _ _ _ _ hx190) (Nat.le_of_ble_eq_true rfl) jml_149 (Nat.le_of_ble_eq_true rfl) ?_
                                            refine jr_aload_n jf_269_876 rfl hl2 ?_
                                            refine jr_aload_n jf_269_877 rfl hl0 ?_
                                            refine jr_iload_n jf_269_878 rfl hl3 ?_
                                            refine jr_iconst jf_269_879 jc_i_1 ?_
                                            refine jr_iadd jf_269_880 ?_
                                            replace h := obd_of h; obtain ⟨x191, hx191, h⟩ := h
                                            refine jr_iaload jf_269_881 hx191 ?_
                                            replace h := jgd_of h; obtain ⟨hb192, h⟩ := h
                                            replace h := obd_of h; obtain ⟨x193, hx193, h⟩ := h
                                            refine jr_V6_1 jf_269_882 hb192 (by omega) (r_R_poles (by omega) _ _ _ _ hx193) (Nat.le_of_ble_eq_true rfl) jml_254 (Nat.le_of_ble_eq_true rfl) ?_
                                            replace h := ite_or h; rcases h with ⟨hc, h⟩ | ⟨hc, h⟩
                                            · refine jr_if2_eq_t jf_269_885 hc ?_
                                              exact r_L_law_1079 hd ih _ _ _ _ _ _ _ _ hl0 hl1 hl2 hl3 h
                                            · refine jr_if2_eq_f jf_269_885 hc ?_
                                              refine jr_iconst jf_269_888 jc_i_0 ?_
                                              obtain ⟨rfl, rfl⟩ := Prod.mk.inj (Option.some.inj h)
                                              exact jr_retZ (x := false) jf_269_889 jmt_269
                                          · refine jsw_miss (by decide) hc (by decide : (18 : Int) + 1 = 19) ?_
                                            replace h := ite_or h; rcases h with ⟨hc, h⟩ | ⟨hc, h⟩
                                            · refine jsw_hit (by decide) hc ?_
                                              refine jr_aload_n jf_269_890 rfl hl1 ?_
                                              refine jr_aload_n jf_269_891 rfl hl0 ?_
                                              refine jr_iload_n jf_269_892 rfl hl3 ?_
                                              refine jr_iconst jf_269_893 jc_i_1 ?_
                                              refine jr_iadd jf_269_894 ?_
                                              replace h := obd_of h; obtain ⟨x194, hx194, h⟩ := h
                                              refine jr_iaload jf_269_895 hx194 ?_
                                              replace h := jgd_of h; obtain ⟨hb195, h⟩ := h
                                              replace h := jbd2_of h; obtain ⟨x196, μ197, hx196, h⟩ := h
                                              refine jr_V6_1 jf_269_896 hb195 (by omega) (r_B_cycles (by omega) _ _ _ _ _ hx196) (Nat.le_of_ble_eq_true rfl) jml_158 (Nat.le_of_ble_eq_true rfl) ?_
                                              refine jr_aload_n jf_269_899 rfl hl2 ?_
                                              refine jr_aload_n jf_269_900 rfl hl0 ?_
                                              refine jr_iload_n jf_269_901 rfl hl3 ?_
                                              refine jr_iconst jf_269_902 jc_i_1 ?_
                                              refine jr_iadd jf_269_903 ?_
                                              replace h := obd_of h; obtain ⟨x198, hx198, h⟩ := h
                                              refine jr_iaload jf_269_904 hx198 ?_
                                              replace h := jgd_of h; obtain ⟨hb199, h⟩ := h
                                              replace h := jbd2_of h; obtain ⟨x200, μ201, hx200, h⟩ := h
                                              refine jr_V6_1 jf_269_905 hb199 (by omega) (r_R_cycles (by omega) _ _ _ _ _ hx200) (Nat.le_of_ble_eq_true rfl) jml_257 (Nat.le_of_ble_eq_true rfl) ?_
                                              replace h := ite_or h; rcases h with ⟨hc, h⟩ | ⟨hc, h⟩
                                              · refine jr_if2_eq_t jf_269_908 hc ?_
                                                exact r_L_law_1079 hd ih _ _ _ _ _ _ _ _ hl0 hl1 hl2 hl3 h
                                              · refine jr_if2_eq_f jf_269_908 hc ?_
                                                refine jr_iconst jf_269_911 jc_i_0 ?_
                                                obtain ⟨rfl, rfl⟩ := Prod.mk.inj (Option.some.inj h)
                                                exact jr_retZ (x := false) jf_269_912 jmt_269
                                            · refine jsw_miss (by decide) hc (by decide : (19 : Int) + 1 = 20) ?_
                                              replace h := ite_or h; rcases h with ⟨hc, h⟩ | ⟨hc, h⟩
                                              · refine jsw_hit (by decide) hc ?_
                                                refine jr_aload_n jf_269_913 rfl hl1 ?_
                                                refine jr_aload_n jf_269_914 rfl hl0 ?_
                                                refine jr_iload_n jf_269_915 rfl hl3 ?_
                                                refine jr_iconst jf_269_916 jc_i_1 ?_
                                                refine jr_iadd jf_269_917 ?_
                                                replace h := obd_of h; obtain ⟨x202, hx202, h⟩ := h
                                                refine jr_iaload jf_269_918 hx202 ?_
                                                refine jr_aload_n jf_269_919 rfl hl0 ?_
                                                refine jr_iload_n jf_269_920 rfl hl3 ?_
                                                refine jr_iconst jf_269_921 jc_i_2 ?_
                                                refine jr_iadd jf_269_922 ?_
                                                replace h := obd_of h; obtain ⟨x203, hx203, h⟩ := h
                                                refine jr_iaload jf_269_923 hx203 ?_
                                                refine jr_aload_n jf_269_924 rfl hl0 ?_
                                                refine jr_iload_n jf_269_925 rfl hl3 ?_
                                                refine jr_iconst jf_269_926 jc_i_3 ?_
                                                refine jr_iadd jf_269_927 ?_
                                                replace h := obd_of h; obtain ⟨x204, hx204, h⟩ := h
                                                refine jr_iaload jf_269_928 hx204 ?_
                                                replace h := jgd_of h; obtain ⟨hb205, h⟩ := h
                                                replace h := jbd2_of h; obtain ⟨x206, μ207, hx206, h⟩ := h
                                                refine jr_V6_3 jf_269_929 hb205 (by omega) (r_B_cycle (by omega) _ _ _ _ _ _ _ hx206) (Nat.le_of_ble_eq_true rfl) jml_171 (Nat.le_of_ble_eq_true rfl) ?_
                                                refine jr_aload_n jf_269_932 rfl hl2 ?_
                                                refine jr_aload_n jf_269_933 rfl hl0 ?_
                                                refine jr_iload_n jf_269_934 rfl hl3 ?_
                                                refine jr_iconst jf_269_935 jc_i_1 ?_
                                                refine jr_iadd jf_269_936 ?_
                                                replace h := obd_of h; obtain ⟨x208, hx208, h⟩ := h
                                                refine jr_iaload jf_269_937 hx208 ?_
                                                refine jr_aload_n jf_269_938 rfl hl0 ?_
                                                refine jr_iload_n jf_269_939 rfl hl3 ?_
                                                refine jr_iconst jf_269_940 jc_i_2 ?_
                                                refine jr_iadd jf_269_941 ?_
                                                replace h := obd_of h; obtain ⟨x209, hx209, h⟩ := h
                                                refine jr_iaload jf_269_942 hx209 ?_
                                                refine jr_aload_n jf_269_943 rfl hl0 ?_
                                                refine jr_iload_n jf_269_944 rfl hl3 ?_
                                                refine jr_iconst jf_269_945 jc_i_3 ?_
                                                refine jr_iadd jf_269_946 ?_
                                                replace h := obd_of h; obtain ⟨x210, hx210, h⟩ := h
                                                refine jr_iaload jf_269_947 hx210 ?_
                                                replace h := jgd_of h; obtain ⟨hb211, h⟩ := h
                                                replace h := jbd2_of h; obtain ⟨x212, μ213, hx212, h⟩ := h
                                                refine jr_V6_3 jf_269_948 hb211 (by omega) (r_R_cycle (by omega) _ _ _ _ _ _ _ hx212) (Nat.le_of_ble_eq_true rfl) jml_260 (Nat.le_of_ble_eq_true rfl) ?_
                                                replace h := ite_or h; rcases h with ⟨hc, h⟩ | ⟨hc, h⟩
                                                · refine jr_if2_eq_t jf_269_951 hc ?_
                                                  exact r_L_law_1079 hd ih _ _ _ _ _ _ _ _ hl0 hl1 hl2 hl3 h
                                                · refine jr_if2_eq_f jf_269_951 hc ?_
                                                  refine jr_iconst jf_269_954 jc_i_0 ?_
                                                  obtain ⟨rfl, rfl⟩ := Prod.mk.inj (Option.some.inj h)
                                                  exact jr_retZ (x := false) jf_269_955 jmt_269
                                              · refine jsw_miss (by decide) hc (by decide : (20 : Int) + 1 = 21) ?_
                                                replace h := ite_or h; rcases h with ⟨hc, h⟩ | ⟨hc, h⟩
                                                · refine jsw_hit (by decide) hc ?_
                                                  refine jr_aload_n jf_269_956 rfl hl1 ?_
                                                  refine jr_aload_n jf_269_957 rfl hl0 ?_
                                                  refine jr_iload_n jf_269_958 rfl hl3 ?_
                                                  refine jr_iconst jf_269_959 jc_i_1 ?_
                                                  refine jr_iadd jf_269_960 ?_
                                                  replace h := obd_of h; obtain ⟨x214, hx214, h⟩ := h
                                                  refine jr_iaload jf_269_961 hx214 ?_
                                                  refine jr_aload_n jf_269_962 rfl hl0 ?_
                                                  refine jr_iload_n jf_269_963 rfl hl3 ?_
                                                  refine jr_iconst jf_269_964 jc_i_2 ?_
                                                  refine jr_iadd jf_269_965 ?_
                                                  replace h := obd_of h; obtain ⟨x215, hx215, h⟩ := h
                                                  refine jr_iaload jf_269_966 hx215 ?_
                                                  replace h := jgd_of h; obtain ⟨hb216, h⟩ := h
                                                  replace h := jbd2_of h; obtain ⟨x217, μ218, hx217, h⟩ := h
                                                  refine jr_V6_2 jf_269_967 hb216 (by omega) (r_B_convert (by omega) _ _ _ _ _ _ hx217) (Nat.le_of_ble_eq_true rfl) jml_175 (Nat.le_of_ble_eq_true rfl) ?_
                                                  refine jr_aload_n jf_269_970 rfl hl2 ?_
                                                  refine jr_aload_n jf_269_971 rfl hl0 ?_
                                                  refine jr_iload_n jf_269_972 rfl hl3 ?_
                                                  refine jr_iconst jf_269_973 jc_i_1 ?_
                                                  refine jr_iadd jf_269_974 ?_
                                                  replace h := obd_of h; obtain ⟨x219, hx219, h⟩ := h
                                                  refine jr_iaload jf_269_975 hx219 ?_
                                                  refine jr_aload_n jf_269_976 rfl hl0 ?_
                                                  refine jr_iload_n jf_269_977 rfl hl3 ?_
                                                  refine jr_iconst jf_269_978 jc_i_2 ?_
                                                  refine jr_iadd jf_269_979 ?_
                                                  replace h := obd_of h; obtain ⟨x220, hx220, h⟩ := h
                                                  refine jr_iaload jf_269_980 hx220 ?_
                                                  replace h := jgd_of h; obtain ⟨hb221, h⟩ := h
                                                  replace h := jbd2_of h; obtain ⟨x222, μ223, hx222, h⟩ := h
                                                  refine jr_V6_2 jf_269_981 hb221 (by omega) (r_R_convert (by omega) _ _ _ _ _ _ hx222) (Nat.le_of_ble_eq_true rfl) jml_261 (Nat.le_of_ble_eq_true rfl) ?_
                                                  replace h := ite_or h; rcases h with ⟨hc, h⟩ | ⟨hc, h⟩
                                                  · refine jr_if2_eq_t jf_269_984 hc ?_
                                                    exact r_L_law_1079 hd ih _ _ _ _ _ _ _ _ hl0 hl1 hl2 hl3 h
                                                  · refine jr_if2_eq_f jf_269_984 hc ?_
                                                    refine jr_iconst jf_269_987 jc_i_0 ?_
                                                    obtain ⟨rfl, rfl⟩ := Prod.mk.inj (Option.some.inj h)
                                                    exact jr_retZ (x := false) jf_269_988 jmt_269
                                                · refine jsw_miss (by decide) hc (by decide : (21 : Int) + 1 = 22) ?_
                                                  replace h := ite_or h; rcases h with ⟨hc, h⟩ | ⟨hc, h⟩
                                                  · refine jsw_hit (by decide) hc ?_
                                                    refine jr_aload_n jf_269_989 rfl hl1 ?_
                                                    refine jr_aload_n jf_269_990 rfl hl0 ?_
                                                    refine jr_iload_n jf_269_991 rfl hl3 ?_
                                                    refine jr_iconst jf_269_992 jc_i_1 ?_
                                                    refine jr_iadd jf_269_993 ?_
                                                    replace h := obd_of h; obtain ⟨x224, hx224, h⟩ := h
                                                    refine jr_iaload jf_269_994 hx224 ?_
                                                    refine jr_aload_n jf_269_995 rfl hl0 ?_
                                                    refine jr_iload_n jf_269_996 rfl hl3 ?_
                                                    refine jr_iconst jf_269_997 jc_i_2 ?_
                                                    refine jr_iadd jf_269_998 ?_
                                                    replace h := obd_of h; obtain ⟨x225, hx225, h⟩ := h
                                                    refine jr_iaload jf_269_999 hx225 ?_
                                                    replace h := jgd_of h; obtain ⟨hb226, h⟩ := h
                                                    replace h := obd_of h; obtain ⟨x227, hx227, h⟩ := h
                                                    refine jr_V6_2 jf_269_1000 hb226 (by omega) (r_B_measure (by omega) _ _ _ _ _ hx227) (Nat.le_of_ble_eq_true rfl) jml_120 (Nat.le_of_ble_eq_true rfl) ?_
                                                    refine jr_aload_n jf_269_1003 rfl hl2 ?_
                                                    refine jr_aload_n jf_269_1004 rfl hl0 ?_
                                                    refine jr_iload_n jf_269_1005 rfl hl3 ?_
                                                    refine jr_iconst jf_269_1006 jc_i_1 ?_
                                                    refine jr_iadd jf_269_1007 ?_
                                                    replace h := obd_of h; obtain ⟨x228, hx228, h⟩ := h
                                                    refine jr_iaload jf_269_1008 hx228 ?_
                                                    refine jr_aload_n jf_269_1009 rfl hl0 ?_
                                                    refine jr_iload_n jf_269_1010 rfl hl3 ?_
                                                    refine jr_iconst jf_269_1011 jc_i_2 ?_
                                                    refine jr_iadd jf_269_1012 ?_
                                                    replace h := obd_of h; obtain ⟨x229, hx229, h⟩ := h
                                                    refine jr_iaload jf_269_1013 hx229 ?_
                                                    replace h := jgd_of h; obtain ⟨hb230, h⟩ := h
                                                    replace h := obd_of h; obtain ⟨x231, hx231, h⟩ := h
                                                    refine jr_V6_2 jf_269_1014 hb230 (by omega) (r_R_measure (by omega) _ _ _ _ _ hx231) (Nat.le_of_ble_eq_true rfl) jml_266 (Nat.le_of_ble_eq_true rfl) ?_
                                                    refine jr_lcmp jf_269_1017 ?_
                                                    replace h := ite_or h; rcases h with ⟨hc, h⟩ | ⟨hc, h⟩
                                                    · refine jr_ifl_eq_t jf_269_1018 hc ?_
                                                      exact r_L_law_1079 hd ih _ _ _ _ _ _ _ _ hl0 hl1 hl2 hl3 h
                                                    · refine jr_ifl_eq_f jf_269_1018 hc ?_
                                                      refine jr_iconst jf_269_1021 jc_i_0 ?_
                                                      obtain ⟨rfl, rfl⟩ := Prod.mk.inj (Option.some.inj h)
                                                      exact jr_retZ (x := false) jf_269_1022 jmt_269
                                                  · refine jsw_miss (by decide) hc (by decide : (22 : Int) + 1 = 23) ?_
                                                    replace h := ite_or h; rcases h with ⟨hc, h⟩ | ⟨hc, h⟩
                                                    · refine jsw_hit (by decide) hc ?_
                                                      refine jr_aload_n jf_269_1023 rfl hl1 ?_
                                                      refine jr_aload_n jf_269_1024 rfl hl0 ?_
                                                      refine jr_iload_n jf_269_1025 rfl hl3 ?_
                                                      refine jr_iconst jf_269_1026 jc_i_1 ?_
                                                      refine jr_iadd jf_269_1027 ?_
                                                      replace h := obd_of h; obtain ⟨x232, hx232, h⟩ := h
                                                      refine jr_iaload jf_269_1028 hx232 ?_
                                                      replace h := jgd_of h; obtain ⟨hb233, h⟩ := h
                                                      replace h := obd_of h; obtain ⟨x234, hx234, h⟩ := h
                                                      refine jr_V6_1 jf_269_1029 hb233 (by omega) (r_B_count (by omega) _ _ _ _ hx234) (Nat.le_of_ble_eq_true rfl) jml_61 (Nat.le_of_ble_eq_true rfl) ?_
                                                      refine jr_aload_n jf_269_1032 rfl hl2 ?_
                                                      refine jr_aload_n jf_269_1033 rfl hl0 ?_
                                                      refine jr_iload_n jf_269_1034 rfl hl3 ?_
                                                      refine jr_iconst jf_269_1035 jc_i_1 ?_
                                                      refine jr_iadd jf_269_1036 ?_
                                                      replace h := obd_of h; obtain ⟨x235, hx235, h⟩ := h
                                                      refine jr_iaload jf_269_1037 hx235 ?_
                                                      replace h := jgd_of h; obtain ⟨hb236, h⟩ := h
                                                      replace h := obd_of h; obtain ⟨x237, hx237, h⟩ := h
                                                      refine jr_V6_1 jf_269_1038 hb236 (by omega) (r_R_count (by omega) _ _ _ _ hx237) (Nat.le_of_ble_eq_true rfl) jml_267 (Nat.le_of_ble_eq_true rfl) ?_
                                                      replace h := ite_or h; rcases h with ⟨hc, h⟩ | ⟨hc, h⟩
                                                      · refine jr_if2_eq_t jf_269_1041 hc ?_
                                                        exact r_L_law_1079 hd ih _ _ _ _ _ _ _ _ hl0 hl1 hl2 hl3 h
                                                      · refine jr_if2_eq_f jf_269_1041 hc ?_
                                                        refine jr_iconst jf_269_1044 jc_i_0 ?_
                                                        obtain ⟨rfl, rfl⟩ := Prod.mk.inj (Option.some.inj h)
                                                        exact jr_retZ (x := false) jf_269_1045 jmt_269
                                                    · refine jsw_miss (by decide) hc (by decide : (23 : Int) + 1 = 24) ?_
                                                      replace h := ite_or h; rcases h with ⟨hc, h⟩ | ⟨hc, h⟩
                                                      · refine jsw_hit (by decide) hc ?_
                                                        refine jr_aload_n jf_269_1046 rfl hl1 ?_
                                                        refine jr_aload_n jf_269_1047 rfl hl0 ?_
                                                        refine jr_iload_n jf_269_1048 rfl hl3 ?_
                                                        refine jr_iconst jf_269_1049 jc_i_1 ?_
                                                        refine jr_iadd jf_269_1050 ?_
                                                        replace h := obd_of h; obtain ⟨x238, hx238, h⟩ := h
                                                        refine jr_iaload jf_269_1051 hx238 ?_
                                                        refine jr_aload_n jf_269_1052 rfl hl0 ?_
                                                        refine jr_iload_n jf_269_1053 rfl hl3 ?_
                                                        refine jr_iconst jf_269_1054 jc_i_2 ?_
                                                        refine jr_iadd jf_269_1055 ?_
                                                        replace h := obd_of h; obtain ⟨x239, hx239, h⟩ := h
                                                        refine jr_iaload jf_269_1056 hx239 ?_
                                                        replace h := jgd_of h; obtain ⟨hb240, h⟩ := h
                                                        replace h := obd_of h; obtain ⟨x241, hx241, h⟩ := h
                                                        refine jr_V6_2 jf_269_1057 hb240 (by omega) (r_B_chain_2 (by omega) _ _ _ _ _ hx241) (Nat.le_of_ble_eq_true rfl) jml_60 (Nat.le_of_ble_eq_true rfl) ?_
                                                        refine jr_aload_n jf_269_1060 rfl hl2 ?_
                                                        refine jr_aload_n jf_269_1061 rfl hl0 ?_
                                                        refine jr_iload_n jf_269_1062 rfl hl3 ?_
                                                        refine jr_iconst jf_269_1063 jc_i_1 ?_
                                                        refine jr_iadd jf_269_1064 ?_
                                                        replace h := obd_of h; obtain ⟨x242, hx242, h⟩ := h
                                                        refine jr_iaload jf_269_1065 hx242 ?_
                                                        refine jr_aload_n jf_269_1066 rfl hl0 ?_
                                                        refine jr_iload_n jf_269_1067 rfl hl3 ?_
                                                        refine jr_iconst jf_269_1068 jc_i_2 ?_
                                                        refine jr_iadd jf_269_1069 ?_
                                                        replace h := obd_of h; obtain ⟨x243, hx243, h⟩ := h
                                                        refine jr_iaload jf_269_1070 hx243 ?_
                                                        replace h := jgd_of h; obtain ⟨hb244, h⟩ := h
                                                        replace h := obd_of h; obtain ⟨x245, hx245, h⟩ := h
                                                        refine jr_V6_2 jf_269_1071 hb244 (by omega) (r_R_chain_2 (by omega) _ _ _ _ _ hx245) (Nat.le_of_ble_eq_true rfl) jml_268 (Nat.le_of_ble_eq_true rfl) ?_
                                                        replace h := ite_or h; rcases h with ⟨hc, h⟩ | ⟨hc, h⟩
                                                        · refine jr_if2_eq_t jf_269_1074 hc ?_
                                                          exact r_L_law_1079 hd ih _ _ _ _ _ _ _ _ hl0 hl1 hl2 hl3 h
                                                        · refine jr_if2_eq_f jf_269_1074 hc ?_
                                                          refine jr_iconst jf_269_1077 jc_i_0 ?_
                                                          obtain ⟨rfl, rfl⟩ := Prod.mk.inj (Option.some.inj h)
                                                          exact jr_retZ (x := false) jf_269_1078 jmt_269
                                                      · refine jsw_miss (by decide) hc (by decide : (24 : Int) + 1 = 25) ?_
                                                        refine jsw_end ?_
                                                        exact r_L_law_1079 hd ih _ _ _ _ _ _ _ _ hl0 hl1 hl2 hl3 h
set_option maxRecDepth 10000 in
set_option maxHeartbeats 4000000 in
theorem r_L_law_e {N M B : Nat} {SA : Nat → Nat} {d : Nat} (hd : M + 8 ≤ d) : ∀ (L : JLoc) (v0 : Option Nat) (μ : JMem) (r : Bool) (μ9 : JMem), jget L 0 = rv v0 → g_L_law N M B SA v0 μ = some (r, μ9) → jR B SA d m_L_law 0 L [] μ (some (.int (jb r))) μ9 := by
  intro L v0 μ r μ9 hl0 h
  unfold g_L_law at h
  replace h := jnew_of h
  refine jr_new jf_269_0 ?_
  refine jr_dup jf_269_3 rfl ?_
  replace h := obd_of h; obtain ⟨μ3, hμ3, h⟩ := h
  refine jr_P1v_0 jf_269_4 (by omega) (r_B_init (by omega) _ _ _ hμ3) (Nat.le_of_ble_eq_true rfl) jml_0 (Nat.le_of_ble_eq_true rfl) ?_
  refine jr_astore_n jf_269_7 rfl jml_269 (by decide) ?_
  replace h := jnew_of h
  refine jr_new jf_269_8 ?_
  refine jr_dup jf_269_11 rfl ?_
  replace h := obd_of h; obtain ⟨μ6, hμ6, h⟩ := h
  refine jr_P1v_0 jf_269_12 (by omega) (r_R_init (by omega) _ _ _ hμ6) (Nat.le_of_ble_eq_true rfl) jml_185 (Nat.le_of_ble_eq_true rfl) ?_
  refine jr_astore_n jf_269_15 rfl jml_269 (by decide) ?_
  refine jr_iconst jf_269_16 jc_i_0 ?_
  refine jr_istore_n jf_269_17 rfl jml_269 (by decide) ?_
  exact r_L_law_18 hd _ _ _ _ _ _ _ _ _ (jg1_ne rfl (jg1_ne rfl (jg1_pre (by first | rfl | exact rv_cat _) hl0))) (jg1_ne rfl (jg1_pre (by first | rfl | exact rv_cat _) jg1_same)) (jg1_pre (by first | rfl | exact rv_cat _) jg1_same) jg1_same h
set_option maxRecDepth 10000 in
set_option maxHeartbeats 4000000 in
theorem r_L_law {N M B : Nat} {SA : Nat → Nat} {d : Nat} (hd : M + 8 ≤ d) : ∀ (v0 : Option Nat) (μ : JMem) (r : Bool) (μ9 : JMem), g_L_law N M B SA v0 μ = some (r, μ9) → jR B SA d m_L_law 0 (lv_args 0 [rv v0]) [] μ (some (.int (jb r))) μ9 := by
  intro v0 μ r μ9 h
  exact r_L_law_e hd (lv_args 0 _) _ _ _ _ (by simp [lv_args, jget, rv_cat, cat_int, cat_long, cat_double, cat_float, cat_ref]) h
