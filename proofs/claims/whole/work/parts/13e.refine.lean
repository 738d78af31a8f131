/-! the machine refines the functions (printed by wip/whole/dec.py) -/
/-! FilterBenchModel.isPlain(I)Z -/
set_option maxRecDepth 10000 in
set_option maxHeartbeats 4000000 in
theorem r_R_isPlain_12 {B : Nat} {SA : Nat → Nat} {d : Nat} (hd : 0 ≤ d) : ∀ (L : JLoc) (μ : JMem) (r : Bool), g_R_isPlain_12 = r → jR B SA d m_R_isPlain 12 L [] μ (some (.int (jb r))) μ := by
  intro L μ r h
  unfold g_R_isPlain_12 at h
  refine jr_iconst jf_200_12 jc_i_1 ?_
  refine jr_goto jf_200_13 ?_
  subst h
  exact jr_retZ (x := true) jf_200_17 jmt_200
set_option maxRecDepth 10000 in
set_option maxHeartbeats 4000000 in
theorem r_R_isPlain_e {B : Nat} {SA : Nat → Nat} {d : Nat} (hd : 0 ≤ d) : ∀ (L : JLoc) (v0 : Int32) (μ : JMem) (r : Bool), jget L 0 = .int v0 → g_R_isPlain v0 = r → jR B SA d m_R_isPlain 0 L [] μ (some (.int (jb r))) μ := by
  intro L v0 μ r hl0 h
  unfold g_R_isPlain at h
  refine jr_iload_n jf_200_0 rfl hl0 ?_
  refine jr_bipush jf_200_1 jc_b_9 ?_
  replace h := ite_or h; rcases h with ⟨hc, h⟩ | ⟨hc, h⟩
  · refine jr_if2_eq_t jf_200_3 hc ?_
    exact r_R_isPlain_12 hd _  _ _ h
  · refine jr_if2_eq_f jf_200_3 hc ?_
    refine jr_iload_n jf_200_6 rfl hl0 ?_
    refine jr_bipush jf_200_7 jc_b_10 ?_
    replace h := ite_or h; rcases h with ⟨hc, h⟩ | ⟨hc, h⟩
    · refine jr_if2_ne_f jf_200_9 hc ?_
      exact r_R_isPlain_12 hd _  _ _ h
    · refine jr_if2_ne_t jf_200_9 hc ?_
      refine jr_iconst jf_200_16 jc_i_0 ?_
      subst h
      exact jr_retZ (x := false) jf_200_17 jmt_200
set_option maxRecDepth 10000 in
set_option maxHeartbeats 4000000 in
theorem r_R_isPlain {B : Nat} {SA : Nat → Nat} {d : Nat} (hd : 0 ≤ d) : ∀ (v0 : Int32) (μ : JMem) (r : Bool), g_R_isPlain v0 = r → jR B SA d m_R_isPlain 0 (lv_args 0 [.int v0]) [] μ (some (.int (jb r))) μ := by
  intro v0 μ r h
  exact r_R_isPlain_e hd (lv_args 0 _) _ _ _ (by simp [lv_args, jget, rv_cat, cat_int, cat_long, cat_double, cat_float, cat_ref]) h
/-! FilterBenchModel.ratio(IIII)Z -/
set_option maxRecDepth 10000 in
set_option maxHeartbeats 4000000 in
theorem r_R_ratio_167 {B : Nat} {SA : Nat → Nat} {d : Nat} (hd : 3 ≤ d) : ∀ (L : JLoc) (v0 : Nat) (v1 : Int32) (v2 : Int32) (v5 : UInt64) (μ : JMem) (r : Bool) (μ9 : JMem), jget L 0 = .ref v0 → jget L 1 = .int v1 → jget L 2 = .int v2 → jget L 5 = .double v5 → g_R_ratio_167 B v0 v1 v2 v5 μ = some (r, μ9) → jR B SA d m_R_ratio 167 L [] μ (some (.int (jb r))) μ9 := by
  intro L v0 v1 v2 v5 μ r μ9 hl0 hl1 hl2 hl5 h
  unfold g_R_ratio_167 at h
  refine jr_aload_n jf_199_167 rfl hl0 ?_
  replace h := obd_of h; obtain ⟨x1, hx1, h⟩ := h
  refine jr_getA jf_199_168 hx1 ?_
  refine jr_iconst jf_199_171 jc_i_5 ?_
  refine jr_iload_n jf_199_172 rfl hl1 ?_
  refine jr_imul jf_199_173 ?_
  refine jr_iload_n jf_199_174 rfl hl2 ?_
  refine jr_iadd jf_199_175 ?_
  refine jr_dload jf_199_176 hl5 ?_
  replace h := obd_of h; obtain ⟨a2, rfl, h⟩ := h
  replace h := obd_of h; obtain ⟨μ3, hμ3, h⟩ := h
  refine jr_dastore jf_199_178 hμ3 ?_
  refine jr_iconst jf_199_179 jc_i_1 ?_
  obtain ⟨rfl, rfl⟩ := Prod.mk.inj (Option.some.inj h)
  exact jr_retZ (x := true) jf_199_180 jmt_199
set_option maxRecDepth 10000 in
set_option maxHeartbeats 4000000 in
theorem r_R_ratio_151 {B : Nat} {SA : Nat → Nat} {d : Nat} (hd : 3 ≤ d) : ∀ (L : JLoc) (v0 : Nat) (v1 : Int32) (v2 : Int32) (v11 : Int64) (μ : JMem) (r : Bool) (μ9 : JMem), jget L 0 = .ref v0 → jget L 1 = .int v1 → jget L 2 = .int v2 → jget L 11 = .long v11 → g_R_ratio_151 B v0 v1 v2 v11 μ = some (r, μ9) → jR B SA d m_R_ratio 151 L [] μ (some (.int (jb r))) μ9 := by
  intro L v0 v1 v2 v11 μ r μ9 hl0 hl1 hl2 hl11 h
  unfold g_R_ratio_151 at h
  refine jr_iconst jf_199_151 jc_i_2 ?_
  refine jr_lload jf_199_152 hl11 ?_
  refine jr_S3_2 jf_199_154 (by omega) (r_R_isValue (by omega) _ _ _ _ rfl) (Nat.le_of_ble_eq_true rfl) jml_197 (Nat.le_of_ble_eq_true rfl) ?_
  replace h := ite_or h; rcases h with ⟨hc, h⟩ | ⟨hc, h⟩
  · refine jr_ifz_ne_t jf_199_157 hc ?_
    refine jr_lload jf_199_162 hl11 ?_
    refine jr_l2d jf_199_164 ?_
    refine jr_dstore jf_199_165 jml_199 (by decide) ?_
    exact r_R_ratio_167 hd _ _ _ _ _ _ _ _ (jg2_ne rfl hl0) (jg2_ne rfl hl1) (jg2_ne rfl hl2) jg2_same h
  · refine jr_ifz_ne_f jf_199_157 hc ?_
    refine jr_iconst jf_199_160 jc_i_0 ?_
    obtain ⟨rfl, rfl⟩ := Prod.mk.inj (Option.some.inj h)
    exact jr_retZ (x := false) jf_199_161 jmt_199
set_option maxRecDepth 10000 in
set_option maxHeartbeats 4000000 in
theorem r_R_ratio_145 {B : Nat} {SA : Nat → Nat} {d : Nat} (hd : 3 ≤ d) : ∀ (L : JLoc) (v0 : Nat) (v1 : Int32) (v2 : Int32) (v11 : Int64) (μ : JMem) (r : Bool) (μ9 : JMem), jget L 0 = .ref v0 → jget L 1 = .int v1 → jget L 2 = .int v2 → jget L 11 = .long v11 → g_R_ratio_145 B v0 v1 v2 v11 μ = some (r, μ9) → jR B SA d m_R_ratio 145 L [] μ (some (.int (jb r))) μ9 := by
  intro L v0 v1 v2 v11 μ r μ9 hl0 hl1 hl2 hl11 h
  unfold g_R_ratio_145 at h
  refine jr_lload jf_199_145 hl11 ?_
  refine jr_lconst1 jf_199_147 ?_
  refine jr_ladd jf_199_148 ?_
  refine jr_lstore jf_199_149 jml_199 (by decide) ?_
  exact r_R_ratio_151 hd _ _ _ _ _ _ _ _ (jg2_ne rfl hl0) (jg2_ne rfl hl1) (jg2_ne rfl hl2) jg2_same h
set_option maxRecDepth 10000 in
set_option maxHeartbeats 4000000 in
theorem r_R_ratio_97 {B : Nat} {SA : Nat → Nat} {d : Nat} (hd : 3 ≤ d) : ∀ (L : JLoc) (v0 : Nat) (v1 : Int32) (v2 : Int32) (v7 : Int64) (v9 : Int64) (μ : JMem) (r : Bool) (μ9 : JMem), jget L 0 = .ref v0 → jget L 1 = .int v1 → jget L 2 = .int v2 → jget L 7 = .long v7 → jget L 9 = .long v9 → g_R_ratio_97 B v0 v1 v2 v7 v9 μ = some (r, μ9) → jR B SA d m_R_ratio 97 L [] μ (some (.int (jb r))) μ9 := by
  intro L v0 v1 v2 v7 v9 μ r μ9 hl0 hl1 hl2 hl7 hl9 h
  unfold g_R_ratio_97 at h
  refine jr_lload jf_199_97 hl7 ?_
  refine jr_lload jf_199_99 hl9 ?_
  replace h := obd_of h; obtain ⟨x1, hx1, h⟩ := h
  refine jr_S3_2 jf_199_101 (by omega) (r_R_floor (by omega) _ _ _ _ hx1) (Nat.le_of_ble_eq_true rfl) jml_201 (Nat.le_of_ble_eq_true rfl) ?_
  refine jr_lstore jf_199_104 jml_199 (by decide) ?_
  refine jr_ldc2l jf_199_106 ?_
  refine jr_lload jf_199_109 (jg2_ne rfl hl7) ?_
  refine jr_lload jf_199_111 jg2_same ?_
  refine jr_lload jf_199_113 (jg2_ne rfl hl9) ?_
  refine jr_lmul jf_199_115 ?_
  refine jr_lsub jf_199_116 ?_
  refine jr_lmul jf_199_117 ?_
  refine jr_lstore jf_199_118 jml_199 (by decide) ?_
  replace h := jlet_of h
  refine jr_lload jf_199_120 jg2_same ?_
  refine jr_lload jf_199_122 (jg2_ne rfl (jg2_ne rfl hl9)) ?_
  refine jr_lcmp jf_199_124 ?_
  replace h := ite_or h; rcases h with ⟨hc, h⟩ | ⟨hc, h⟩
  · refine jr_ifl_gt_t jf_199_125 hc ?_
    exact r_R_ratio_145 hd _ _ _ _ _ _ _ _ (jg2_ne rfl (jg2_ne rfl hl0)) (jg2_ne rfl (jg2_ne rfl hl1)) (jg2_ne rfl (jg2_ne rfl hl2)) (jg2_ne rfl jg2_same) h
  · refine jr_ifl_gt_f jf_199_125 hc ?_
    refine jr_lload jf_199_128 jg2_same ?_
    refine jr_lload jf_199_130 (jg2_ne rfl (jg2_ne rfl hl9)) ?_
    refine jr_lcmp jf_199_132 ?_
    replace h := ite_or h; rcases h with ⟨hc, h⟩ | ⟨hc, h⟩
    · refine jr_ifl_ne_f jf_199_133 hc ?_
      refine jr_lload jf_199_136 (jg2_ne rfl jg2_same) ?_
      refine jr_lconst1 jf_199_138 ?_
      refine jr_land jf_199_139 ?_
      refine jr_lconst1 jf_199_140 ?_
      refine jr_lcmp jf_199_141 ?_
      replace h := ite_or h; rcases h with ⟨hc, h⟩ | ⟨hc, h⟩
      · refine jr_ifl_ne_f jf_199_142 hc ?_
        exact r_R_ratio_145 hd _ _ _ _ _ _ _ _ (jg2_ne rfl (jg2_ne rfl hl0)) (jg2_ne rfl (jg2_ne rfl hl1)) (jg2_ne rfl (jg2_ne rfl hl2)) (jg2_ne rfl jg2_same) h
      · refine jr_ifl_ne_t jf_199_142 hc ?_
        exact r_R_ratio_151 hd _ _ _ _ _ _ _ _ (jg2_ne rfl (jg2_ne rfl hl0)) (jg2_ne rfl (jg2_ne rfl hl1)) (jg2_ne rfl (jg2_ne rfl hl2)) (jg2_ne rfl jg2_same) h
    · refine jr_ifl_ne_t jf_199_133 hc ?_
      exact r_R_ratio_151 hd _ _ _ _ _ _ _ _ (jg2_ne rfl (jg2_ne rfl hl0)) (jg2_ne rfl (jg2_ne rfl hl1)) (jg2_ne rfl (jg2_ne rfl hl2)) (jg2_ne rfl jg2_same) h
set_option maxRecDepth 10000 in
set_option maxHeartbeats 4000000 in
theorem r_R_ratio_73 {B : Nat} {SA : Nat → Nat} {d : Nat} (hd : 3 ≤ d) : ∀ (L : JLoc) (v0 : Nat) (v1 : Int32) (v2 : Int32) (v4 : Int32) (s0 : Int64) (μ : JMem) (r : Bool) (μ9 : JMem), jget L 0 = .ref v0 → jget L 1 = .int v1 → jget L 2 = .int v2 → jget L 4 = .int v4 → g_R_ratio_73 B v0 v1 v2 v4 s0 μ = some (r, μ9) → jR B SA d m_R_ratio 73 L [.long s0] μ (some (.int (jb r))) μ9 := by
  intro L v0 v1 v2 v4 s0 μ r μ9 hl0 hl1 hl2 hl4 h
  unfold g_R_ratio_73 at h
  refine jr_lstore jf_199_73 jml_199 (by decide) ?_
  refine jr_iload jf_199_75 (jg2_ne rfl hl4) ?_
  refine jr_i2l jf_199_77 ?_
  refine jr_lstore jf_199_78 jml_199 (by decide) ?_
  refine jr_lload jf_199_80 jg2_same ?_
  refine jr_lconst0 jf_199_82 ?_
  refine jr_lcmp jf_199_83 ?_
  replace h := ite_or h; rcases h with ⟨hc, h⟩ | ⟨hc, h⟩
  · refine jr_ifl_ge_t jf_199_84 hc ?_
    exact r_R_ratio_97 hd _ _ _ _ _ _ _ _ _ (jg2_ne rfl (jg2_ne rfl hl0)) (jg2_ne rfl (jg2_ne rfl hl1)) (jg2_ne rfl (jg2_ne rfl hl2)) (jg2_ne rfl jg2_same) jg2_same h
  · refine jr_ifl_ge_f jf_199_84 hc ?_
    refine jr_lload jf_199_87 (jg2_ne rfl jg2_same) ?_
    refine jr_lneg jf_199_89 ?_
    refine jr_lstore jf_199_90 jml_199 (by decide) ?_
    refine jr_lload jf_199_92 (jg2_ne rfl jg2_same) ?_
    refine jr_lneg jf_199_94 ?_
    refine jr_lstore jf_199_95 jml_199 (by decide) ?_
    exact r_R_ratio_97 hd _ _ _ _ _ _ _ _ _ (jg2_ne rfl (jg2_ne rfl (jg2_ne rfl (jg2_ne rfl hl0)))) (jg2_ne rfl (jg2_ne rfl (jg2_ne rfl (jg2_ne rfl hl1)))) (jg2_ne rfl (jg2_ne rfl (jg2_ne rfl (jg2_ne rfl hl2)))) (jg2_ne rfl jg2_same) jg2_same h
set_option maxRecDepth 10000 in
set_option maxHeartbeats 4000000 in
theorem r_R_ratio_40 {B : Nat} {SA : Nat → Nat} {d : Nat} (hd : 3 ≤ d) : ∀ (L : JLoc) (v0 : Nat) (v1 : Int32) (v2 : Int32) (v3 : Int32) (v4 : Int32) (v5 : UInt64) (μ : JMem) (r : Bool) (μ9 : JMem), jget L 0 = .ref v0 → jget L 1 = .int v1 → jget L 2 = .int v2 → jget L 3 = .int v3 → jget L 4 = .int v4 → jget L 5 = .double v5 → g_R_ratio_40 B v0 v1 v2 v3 v4 v5 μ = some (r, μ9) → jR B SA d m_R_ratio 40 L [] μ (some (.int (jb r))) μ9 := by
  intro L v0 v1 v2 v3 v4 v5 μ r μ9 hl0 hl1 hl2 hl3 hl4 hl5 h
  unfold g_R_ratio_40 at h
  refine jr_aload_n jf_199_40 rfl hl0 ?_
  replace h := obd_of h; obtain ⟨x1, hx1, h⟩ := h
  refine jr_getA jf_199_41 hx1 ?_
  refine jr_iload_n jf_199_44 rfl hl1 ?_
  replace h := obd_of h; obtain ⟨a2, rfl, h⟩ := h
  replace h := obd_of h; obtain ⟨x3, hx3, h⟩ := h
  refine jr_iaload jf_199_45 hx3 ?_
  refine jr_iconst jf_199_46 jc_i_2 ?_
  replace h := ite_or h; rcases h with ⟨hc, h⟩ | ⟨hc, h⟩
  · refine jr_if2_ne_f jf_199_47 hc ?_
    refine jr_aload_n jf_199_50 rfl hl0 ?_
    replace h := obd_of h; obtain ⟨x4, hx4, h⟩ := h
    refine jr_getA jf_199_51 hx4 ?_
    refine jr_iload_n jf_199_54 rfl hl1 ?_
    replace h := obd_of h; obtain ⟨a5, rfl, h⟩ := h
    replace h := obd_of h; obtain ⟨x6, hx6, h⟩ := h
    refine jr_iaload jf_199_55 hx6 ?_
    refine jr_S3_1 jf_199_56 (by omega) (r_R_isPlain (by omega) _ _ _ rfl) (Nat.le_of_ble_eq_true rfl) jml_200 (Nat.le_of_ble_eq_true rfl) ?_
    replace h := ite_or h; rcases h with ⟨hc, h⟩ | ⟨hc, h⟩
    · refine jr_ifz_eq_f jf_199_59 hc ?_
      refine jr_iload_n jf_199_62 rfl hl3 ?_
      refine jr_i2l jf_199_63 ?_
      refine jr_goto jf_199_64 ?_
      exact r_R_ratio_73 hd _ _ _ _ _ _ _ _ _ hl0 hl1 hl2 hl4 h
    · refine jr_ifz_eq_t jf_199_59 hc ?_
      refine jr_ldc2l jf_199_67 ?_
      refine jr_iload_n jf_199_70 rfl hl3 ?_
      refine jr_i2l jf_199_71 ?_
      refine jr_lmul jf_199_72 ?_
      exact r_R_ratio_73 hd _ _ _ _ _ _ _ _ _ hl0 hl1 hl2 hl4 h
  · refine jr_if2_ne_t jf_199_47 hc ?_
    exact r_R_ratio_167 hd _ _ _ _ _ _ _ _ hl0 hl1 hl2 hl5 h
set_option maxRecDepth 10000 in
set_option maxHeartbeats 4000000 in
theorem r_R_ratio_e {B : Nat} {SA : Nat → Nat} {d : Nat} (hd : 3 ≤ d) : ∀ (L : JLoc) (v0 : Nat) (v1 : Int32) (v2 : Int32) (v3 : Int32) (v4 : Int32) (μ : JMem) (r : Bool) (μ9 : JMem), jget L 0 = .ref v0 → jget L 1 = .int v1 → jget L 2 = .int v2 → jget L 3 = .int v3 → jget L 4 = .int v4 → g_R_ratio B v0 v1 v2 v3 v4 μ = some (r, μ9) → jR B SA d m_R_ratio 0 L [] μ (some (.int (jb r))) μ9 := by
  intro L v0 v1 v2 v3 v4 μ r μ9 hl0 hl1 hl2 hl3 hl4 h
  unfold g_R_ratio at h
  refine jr_aload_n jf_199_0 rfl hl0 ?_
  refine jr_iload_n jf_199_1 rfl hl1 ?_
  refine jr_iload_n jf_199_2 rfl hl2 ?_
  replace h := jgd_of h; obtain ⟨hb1, h⟩ := h
  replace h := obd_of h; obtain ⟨x2, hx2, h⟩ := h
  refine jr_V6_2 jf_199_3 hb1 (by omega) (r_R_isCoefficient (by omega) _ _ _ _ _ hx2) (Nat.le_of_ble_eq_true rfl) jml_194 (Nat.le_of_ble_eq_true rfl) ?_
  replace h := ite_or h; rcases h with ⟨hc, h⟩ | ⟨hc, h⟩
  · refine jr_ifz_eq_f jf_199_6 hc ?_
    refine jr_iload jf_199_9 hl4 ?_
    replace h := ite_or h; rcases h with ⟨hc, h⟩ | ⟨hc, h⟩
    · refine jr_if_ne_f jf_199_11 hc ?_
      refine jr_iconst jf_199_14 jc_i_0 ?_
      obtain ⟨rfl, rfl⟩ := Prod.mk.inj (Option.some.inj h)
      exact jr_retZ (x := false) jf_199_15 jmt_199
    · refine jr_if_ne_t jf_199_11 hc ?_
      refine jr_iload_n jf_199_16 rfl hl3 ?_
      refine jr_i2d jf_199_17 ?_
      refine jr_iload jf_199_18 hl4 ?_
      refine jr_i2d jf_199_20 ?_
      replace h := obd_of h; obtain ⟨x3, hx3, h⟩ := h
      refine jr_ddiv jf_199_21 hx3 ?_
      refine jr_dstore jf_199_22 jml_199 (by decide) ?_
      refine jr_aload_n jf_199_24 rfl (jg2_ne rfl hl0) ?_
      replace h := obd_of h; obtain ⟨x4, hx4, h⟩ := h
      refine jr_getA jf_199_25 hx4 ?_
      refine jr_iload_n jf_199_28 rfl (jg2_ne rfl hl1) ?_
      replace h := obd_of h; obtain ⟨a5, rfl, h⟩ := h
      replace h := obd_of h; obtain ⟨x6, hx6, h⟩ := h
      refine jr_iaload jf_199_29 hx6 ?_
      refine jr_iconst jf_199_30 jc_i_1 ?_
      replace h := ite_or h; rcases h with ⟨hc, h⟩ | ⟨hc, h⟩
      · refine jr_if2_ne_f jf_199_31 hc ?_
        refine jr_dload jf_199_34 jg2_same ?_
        replace h := obd_of h; obtain ⟨x7, hx7, h⟩ := h
        refine jr_d2f jf_199_36 hx7 ?_
        replace h := obd_of h; obtain ⟨x8, hx8, h⟩ := h
        refine jr_f2d jf_199_37 hx8 ?_
        refine jr_dstore jf_199_38 jml_199 (by decide) ?_
        exact r_R_ratio_40 hd _ _ _ _ _ _ _ _ _ _ (jg2_ne rfl (jg2_ne rfl hl0)) (jg2_ne rfl (jg2_ne rfl hl1)) (jg2_ne rfl (jg2_ne rfl hl2)) (jg2_ne rfl (jg2_ne rfl hl3)) (jg2_pre rfl (jg2_pre rfl hl4)) jg2_same h
      · refine jr_if2_ne_t jf_199_31 hc ?_
        exact r_R_ratio_40 hd _ _ _ _ _ _ _ _ _ _ (jg2_ne rfl hl0) (jg2_ne rfl hl1) (jg2_ne rfl hl2) (jg2_ne rfl hl3) (jg2_pre rfl hl4) jg2_same h
  · refine jr_ifz_eq_t jf_199_6 hc ?_
    refine jr_iconst jf_199_14 jc_i_0 ?_
    obtain ⟨rfl, rfl⟩ := Prod.mk.inj (Option.some.inj h)
    exact jr_retZ (x := false) jf_199_15 jmt_199
set_option maxRecDepth 10000 in
set_option maxHeartbeats 4000000 in
theorem r_R_ratio {B : Nat} {SA : Nat → Nat} {d : Nat} (hd : 3 ≤ d) : ∀ (v0 : Nat) (v1 : Int32) (v2 : Int32) (v3 : Int32) (v4 : Int32) (μ : JMem) (r : Bool) (μ9 : JMem), g_R_ratio B v0 v1 v2 v3 v4 μ = some (r, μ9) → jR B SA d m_R_ratio 0 (lv_args 0 [.ref v0, .int v1, .int v2, .int v3, .int v4]) [] μ (some (.int (jb r))) μ9 := by
  intro v0 v1 v2 v3 v4 μ r μ9 h
  exact r_R_ratio_e hd (lv_args 0 _) _ _ _ _ _ _ _ _ (by simp [lv_args, jget, rv_cat, cat_int, cat_long, cat_double, cat_float, cat_ref]) (by simp [lv_args, jget, rv_cat, cat_int, cat_long, cat_double, cat_float, cat_ref]) (by simp [lv_args, jget, rv_cat, cat_int, cat_long, cat_double, cat_float, cat_ref]) (by simp [lv_args, jget, rv_cat, cat_int, cat_long, cat_double, cat_float, cat_ref]) (by simp [lv_args, jget, rv_cat, cat_int, cat_long, cat_double, cat_float, cat_ref]) h
/-! FilterBenchModel.rule(III)Z -/
set_option maxRecDepth 10000 in
set_option maxHeartbeats 4000000 in
theorem r_R_rule_e {B : Nat} {SA : Nat → Nat} {d : Nat} (hd : 2 ≤ d) : ∀ (L : JLoc) (v0 : Nat) (v1 : Int32) (v2 : Int32) (v3 : Int32) (μ : JMem) (r : Bool) (μ9 : JMem), jget L 0 = .ref v0 → jget L 1 = .int v1 → jget L 2 = .int v2 → jget L 3 = .int v3 → g_R_rule B v0 v1 v2 v3 μ = some (r, μ9) → jR B SA d m_R_rule 0 L [] μ (some (.int (jb r))) μ9 := by
  intro L v0 v1 v2 v3 μ r μ9 hl0 hl1 hl2 hl3 h
  unfold g_R_rule at h
  refine jr_aload_n jf_202_0 rfl hl0 ?_
  refine jr_iload_n jf_202_1 rfl hl1 ?_
  replace h := jgd_of h; obtain ⟨hb1, h⟩ := h
  replace h := obd_of h; obtain ⟨x2, hx2, h⟩ := h
  refine jr_V6_1 jf_202_2 hb1 (by omega) (r_R_isSection (by omega) _ _ _ _ hx2) (Nat.le_of_ble_eq_true rfl) jml_195 (Nat.le_of_ble_eq_true rfl) ?_
  replace h := ite_or h; rcases h with ⟨hc, h⟩ | ⟨hc, h⟩
  · refine jr_ifz_eq_f jf_202_5 hc ?_
    refine jr_aload_n jf_202_8 rfl hl0 ?_
    replace h := obd_of h; obtain ⟨x3, hx3, h⟩ := h
    refine jr_getA jf_202_9 hx3 ?_
    refine jr_iload_n jf_202_12 rfl hl1 ?_
    replace h := obd_of h; obtain ⟨a4, rfl, h⟩ := h
    replace h := obd_of h; obtain ⟨x5, hx5, h⟩ := h
    refine jr_iaload jf_202_13 hx5 ?_
    refine jr_iconst jf_202_14 jc_i_2 ?_
    replace h := ite_or h; rcases h with ⟨hc, h⟩ | ⟨hc, h⟩
    · refine jr_if2_ne_f jf_202_15 hc ?_
      refine jr_iload_n jf_202_18 rfl hl2 ?_
      refine jr_iconst jf_202_19 jc_i_0 ?_
      refine jr_iconst jf_202_20 jc_i_2 ?_
      refine jr_S3_3 jf_202_21 (by omega) (r_R_in (by omega) _ _ _ _ _ rfl) (Nat.le_of_ble_eq_true rfl) jml_189 (Nat.le_of_ble_eq_true rfl) ?_
      replace h := ite_or h; rcases h with ⟨hc, h⟩ | ⟨hc, h⟩
      · refine jr_ifz_eq_f jf_202_24 hc ?_
        refine jr_iload_n jf_202_27 rfl hl3 ?_
        refine jr_iconst jf_202_28 jc_i_0 ?_
        refine jr_iconst jf_202_29 jc_i_1 ?_
        refine jr_S3_3 jf_202_30 (by omega) (r_R_in (by omega) _ _ _ _ _ rfl) (Nat.le_of_ble_eq_true rfl) jml_189 (Nat.le_of_ble_eq_true rfl) ?_
        replace h := ite_or h; rcases h with ⟨hc, h⟩ | ⟨hc, h⟩
        · refine jr_ifz_ne_t jf_202_33 hc ?_
          refine jr_aload_n jf_202_38 rfl hl0 ?_
          replace h := obd_of h; obtain ⟨x6, hx6, h⟩ := h
          refine jr_getA jf_202_39 hx6 ?_
          refine jr_iload_n jf_202_42 rfl hl1 ?_
          refine jr_iload_n jf_202_43 rfl hl2 ?_
          replace h := obd_of h; obtain ⟨a7, rfl, h⟩ := h
          replace h := obd_of h; obtain ⟨μ8, hμ8, h⟩ := h
          refine jr_iastore jf_202_44 hμ8 ?_
          refine jr_aload_n jf_202_45 rfl hl0 ?_
          replace h := obd_of h; obtain ⟨x9, hx9, h⟩ := h
          refine jr_getA jf_202_46 hx9 ?_
          refine jr_iload_n jf_202_49 rfl hl1 ?_
          refine jr_iload_n jf_202_50 rfl hl3 ?_
          replace h := obd_of h; obtain ⟨a10, rfl, h⟩ := h
          replace h := obd_of h; obtain ⟨μ11, hμ11, h⟩ := h
          refine jr_iastore jf_202_51 hμ11 ?_
          refine jr_iconst jf_202_52 jc_i_1 ?_
          obtain ⟨rfl, rfl⟩ := Prod.mk.inj (Option.some.inj h)
          exact jr_retZ (x := true) jf_202_53 jmt_202
        · refine jr_ifz_ne_f jf_202_33 hc ?_
          refine jr_iconst jf_202_36 jc_i_0 ?_
          obtain ⟨rfl, rfl⟩ := Prod.mk.inj (Option.some.inj h)
          exact jr_retZ (x := false) jf_202_37 jmt_202
      · refine jr_ifz_eq_t jf_202_24 hc ?_
        refine jr_iconst jf_202_36 jc_i_0 ?_
        obtain ⟨rfl, rfl⟩ := Prod.mk.inj (Option.some.inj h)
        exact jr_retZ (x := false) jf_202_37 jmt_202
    · refine jr_if2_ne_t jf_202_15 hc ?_
      refine jr_iconst jf_202_36 jc_i_0 ?_
      obtain ⟨rfl, rfl⟩ := Prod.mk.inj (Option.some.inj h)
      exact jr_retZ (x := false) jf_202_37 jmt_202
  · refine jr_ifz_eq_t jf_202_5 hc ?_
    refine jr_iconst jf_202_36 jc_i_0 ?_
    obtain ⟨rfl, rfl⟩ := Prod.mk.inj (Option.some.inj h)
    exact jr_retZ (x := false) jf_202_37 jmt_202
set_option maxRecDepth 10000 in
set_option maxHeartbeats 4000000 in
theorem r_R_rule {B : Nat} {SA : Nat → Nat} {d : Nat} (hd : 2 ≤ d) : ∀ (v0 : Nat) (v1 : Int32) (v2 : Int32) (v3 : Int32) (μ : JMem) (r : Bool) (μ9 : JMem), g_R_rule B v0 v1 v2 v3 μ = some (r, μ9) → jR B SA d m_R_rule 0 (lv_args 0 [.ref v0, .int v1, .int v2, .int v3]) [] μ (some (.int (jb r))) μ9 := by
  intro v0 v1 v2 v3 μ r μ9 h
  exact r_R_rule_e hd (lv_args 0 _) _ _ _ _ _ _ _ (by simp [lv_args, jget, rv_cat, cat_int, cat_long, cat_double, cat_float, cat_ref]) (by simp [lv_args, jget, rv_cat, cat_int, cat_long, cat_double, cat_float, cat_ref]) (by simp [lv_args, jget, rv_cat, cat_int, cat_long, cat_double, cat_float, cat_ref]) (by simp [lv_args, jget, rv_cat, cat_int, cat_long, cat_double, cat_float, cat_ref]) h
/-! FilterBenchModel.newChain()I -/
set_option maxRecDepth 10000 in
set_option maxHeartbeats 4000000 in
theorem r_R_newChain_e {B : Nat} {SA : Nat → Nat} {d : Nat} (hd : 0 ≤ d) : ∀ (L : JLoc) (v0 : Nat) (μ : JMem) (r : Int32) (μ9 : JMem), jget L 0 = .ref v0 → g_R_newChain B v0 μ = some (r, μ9) → jR B SA d m_R_newChain 0 L [] μ (some (.int r)) μ9 := by
  intro L v0 μ r μ9 hl0 h
  unfold g_R_newChain at h
  refine jr_aload_n jf_204_0 rfl hl0 ?_
  replace h := obd_of h; obtain ⟨x1, hx1, h⟩ := h
  refine jr_getI jf_204_1 hx1 ?_
  refine jr_istore_n jf_204_4 rfl jml_204 (by decide) ?_
  refine jr_aload_n jf_204_5 rfl (jg1_pre (by first | rfl | exact rv_cat _) hl0) ?_
  replace h := obd_of h; obtain ⟨x2, hx2, h⟩ := h
  refine jr_getA jf_204_6 hx2 ?_
  refine jr_iload_n jf_204_9 rfl jg1_same ?_
  refine jr_iconst jf_204_10 jc_i_0 ?_
  replace h := obd_of h; obtain ⟨a3, rfl, h⟩ := h
  replace h := obd_of h; obtain ⟨μ4, hμ4, h⟩ := h
  refine jr_iastore jf_204_11 hμ4 ?_
  refine jr_aload_n jf_204_12 rfl (jg1_pre (by first | rfl | exact rv_cat _) hl0) ?_
  replace h := obd_of h; obtain ⟨x5, hx5, h⟩ := h
  refine jr_getA jf_204_13 hx5 ?_
  refine jr_iload_n jf_204_16 rfl jg1_same ?_
  refine jr_iconst jf_204_17 jc_i_m1 ?_
  replace h := obd_of h; obtain ⟨a6, rfl, h⟩ := h
  replace h := obd_of h; obtain ⟨μ7, hμ7, h⟩ := h
  refine jr_iastore jf_204_18 hμ7 ?_
  refine jr_aload_n jf_204_19 rfl (jg1_pre (by first | rfl | exact rv_cat _) hl0) ?_
  replace h := obd_of h; obtain ⟨x8, hx8, h⟩ := h
  refine jr_getA jf_204_20 hx8 ?_
  refine jr_iload_n jf_204_23 rfl jg1_same ?_
  refine jr_iconst jf_204_24 jc_i_0 ?_
  replace h := obd_of h; obtain ⟨a9, rfl, h⟩ := h
  replace h := obd_of h; obtain ⟨μ10, hμ10, h⟩ := h
  refine jr_iastore jf_204_25 hμ10 ?_
  refine jr_aload_n jf_204_26 rfl (jg1_pre (by first | rfl | exact rv_cat _) hl0) ?_
  replace h := obd_of h; obtain ⟨x11, hx11, h⟩ := h
  refine jr_getA jf_204_27 hx11 ?_
  refine jr_iload_n jf_204_30 rfl jg1_same ?_
  refine jr_iconst jf_204_31 jc_i_0 ?_
  replace h := obd_of h; obtain ⟨a12, rfl, h⟩ := h
  replace h := obd_of h; obtain ⟨μ13, hμ13, h⟩ := h
  refine jr_iastore jf_204_32 hμ13 ?_
  refine jr_aload_n jf_204_33 rfl (jg1_pre (by first | rfl | exact rv_cat _) hl0) ?_
  refine jr_dup jf_204_34 rfl ?_
  replace h := obd_of h; obtain ⟨x14, hx14, h⟩ := h
  refine jr_getI jf_204_35 hx14 ?_
  refine jr_iconst jf_204_38 jc_i_1 ?_
  refine jr_iadd jf_204_39 ?_
  replace h := obd_of h; obtain ⟨μ15, hμ15, h⟩ := h
  refine jr_putI jf_204_40 rfl hμ15 ?_
  refine jr_iload_n jf_204_43 rfl jg1_same ?_
  obtain ⟨rfl, rfl⟩ := Prod.mk.inj (Option.some.inj h)
  exact jr_retI jf_204_44 jmt_204
set_option maxRecDepth 10000 in
set_option maxHeartbeats 4000000 in
theorem r_R_newChain {B : Nat} {SA : Nat → Nat} {d : Nat} (hd : 0 ≤ d) : ∀ (v0 : Nat) (μ : JMem) (r : Int32) (μ9 : JMem), g_R_newChain B v0 μ = some (r, μ9) → jR B SA d m_R_newChain 0 (lv_args 0 [.ref v0]) [] μ (some (.int r)) μ9 := by
  intro v0 μ r μ9 h
  exact r_R_newChain_e hd (lv_args 0 _) _ _ _ _ (by simp [lv_args, jget, rv_cat, cat_int, cat_long, cat_double, cat_float, cat_ref]) h
/-! FilterBenchModel.chain()I -/
set_option maxRecDepth 10000 in
set_option maxHeartbeats 4000000 in
theorem r_R_chain_e {B : Nat} {SA : Nat → Nat} {d : Nat} (hd : 1 ≤ d) : ∀ (L : JLoc) (v0 : Nat) (μ : JMem) (r : Int32) (μ9 : JMem), jget L 0 = .ref v0 → g_R_chain B v0 μ = some (r, μ9) → jR B SA d m_R_chain 0 L [] μ (some (.int r)) μ9 := by
  intro L v0 μ r μ9 hl0 h
  unfold g_R_chain at h
  refine jr_aload_n jf_203_0 rfl hl0 ?_
  replace h := obd_of h; obtain ⟨x1, hx1, h⟩ := h
  refine jr_getI jf_203_1 hx1 ?_
  refine jr_bipush jf_203_4 jc_b_20 ?_
  replace h := ite_or h; rcases h with ⟨hc, h⟩ | ⟨hc, h⟩
  · refine jr_if2_ne_f jf_203_6 hc ?_
    refine jr_iconst jf_203_9 jc_i_m1 ?_
    obtain ⟨rfl, rfl⟩ := Prod.mk.inj (Option.some.inj h)
    exact jr_retI jf_203_10 jmt_203
  · refine jr_if2_ne_t jf_203_6 hc ?_
    refine jr_aload_n jf_203_11 rfl hl0 ?_
    replace h := jgd_of h; obtain ⟨hb2, h⟩ := h
    replace h := jbd2_of h; obtain ⟨x3, μ4, hx3, h⟩ := h
    refine jr_V6_0 jf_203_12 hb2 (by omega) (r_R_newChain (by omega) _ _ _ _ hx3) (Nat.le_of_ble_eq_true rfl) jml_204 (Nat.le_of_ble_eq_true rfl) ?_
    obtain ⟨rfl, rfl⟩ := Prod.mk.inj (Option.some.inj h)
    exact jr_retI jf_203_15 jmt_203
set_option maxRecDepth 10000 in
set_option maxHeartbeats 4000000 in
theorem r_R_chain {B : Nat} {SA : Nat → Nat} {d : Nat} (hd : 1 ≤ d) : ∀ (v0 : Nat) (μ : JMem) (r : Int32) (μ9 : JMem), g_R_chain B v0 μ = some (r, μ9) → jR B SA d m_R_chain 0 (lv_args 0 [.ref v0]) [] μ (some (.int r)) μ9 := by
  intro v0 μ r μ9 h
  exact r_R_chain_e hd (lv_args 0 _) _ _ _ _ (by simp [lv_args, jget, rv_cat, cat_int, cat_long, cat_double, cat_float, cat_ref]) h
/-! FilterBenchModel.countOf(III)I -/
set_option maxRecDepth 10000 in
set_option maxHeartbeats 4000000 in
theorem r_R_countOf_45 {N B : Nat} {SA : Nat → Nat} {d : Nat} (hd : 1 ≤ d) {k6 : Nat → Int32 → Int32 → Int32 → Int32 → Int32 → (Nat → Option JCell) → Option Int32} (i6 : ∀ (L : JLoc) (v0 : Nat) (v1 : Int32) (v2 : Int32) (v3 : Int32) (v4 : Int32) (v5 : Int32) (μ : JMem) (r : Int32), jget L 0 = .ref v0 → jget L 1 = .int v1 → jget L 2 = .int v2 → jget L 3 = .int v3 → jget L 4 = .int v4 → jget L 5 = .int v5 → k6 v0 v1 v2 v3 v4 v5 μ.1 = some r → jR B SA d m_R_countOf 6 L [] μ (some (.int r)) μ) : ∀ (L : JLoc) (v0 : Nat) (v1 : Int32) (v2 : Int32) (v3 : Int32) (v4 : Int32) (v5 : Int32) (μ : JMem) (r : Int32), jget L 0 = .ref v0 → jget L 1 = .int v1 → jget L 2 = .int v2 → jget L 3 = .int v3 → jget L 4 = .int v4 → jget L 5 = .int v5 → g_R_countOf_45 N k6 v0 v1 v2 v3 v4 v5 μ.1 = some r → jR B SA d m_R_countOf 45 L [] μ (some (.int r)) μ := by
  intro L v0 v1 v2 v3 v4 v5 μ r hl0 hl1 hl2 hl3 hl4 hl5 h
  unfold g_R_countOf_45 at h
  refine jr_iinc jf_208_45 jc_i_1 jml_208 (by decide) hl5 ?_
  refine jr_goto jf_208_48 ?_
  exact i6 _ _ _ _ _ _ _ _ _ (jg1_ne rfl hl0) (jg1_ne rfl hl1) (jg1_ne rfl hl2) (jg1_ne rfl hl3) (jg1_pre rfl hl4) jg1_same h
set_option maxRecDepth 10000 in
set_option maxHeartbeats 4000000 in
theorem r_R_countOf_6 {N B : Nat} {SA : Nat → Nat} {d : Nat} (hd : 1 ≤ d) : ∀ (n : Nat), ∀ (L : JLoc) (v0 : Nat) (v1 : Int32) (v2 : Int32) (v3 : Int32) (v4 : Int32) (v5 : Int32) (μ : JMem) (r : Int32), jget L 0 = .ref v0 → jget L 1 = .int v1 → jget L 2 = .int v2 → jget L 3 = .int v3 → jget L 4 = .int v4 → jget L 5 = .int v5 → g_R_countOf_6 N n v0 v1 v2 v3 v4 v5 μ.1 = some r → jR B SA d m_R_countOf 6 L [] μ (some (.int r)) μ := by
  intro n
  induction n with
  | zero =>
    intro L v0 v1 v2 v3 v4 v5 μ r hl0 hl1 hl2 hl3 hl4 hl5 h
    unfold g_R_countOf_6 at h
    cases h
  | succ n ih =>
    intro L v0 v1 v2 v3 v4 v5 μ r hl0 hl1 hl2 hl3 hl4 hl5 h
    unfold g_R_countOf_6 at h
    refine jr_iload jf_208_6 hl5 ?_
    refine jr_aload_n jf_208_8 rfl hl0 ?_
    replace h := obd_of h; obtain ⟨x1, hx1, h⟩ := h
    refine jr_getA jf_208_9 hx1 ?_
    refine jr_iload_n jf_208_12 rfl hl1 ?_
    replace h := obd_of h; obtain ⟨a2, rfl, h⟩ := h
    replace h := obd_of h; obtain ⟨x3, hx3, h⟩ := h
    refine jr_iaload jf_208_13 hx3 ?_
    replace h := ite_or h; rcases h with ⟨hc, h⟩ | ⟨hc, h⟩
    · refine jr_if2_ge_t jf_208_14 hc ?_
      refine jr_iload jf_208_51 hl4 ?_
      obtain rfl := Option.some.inj h
      exact jr_retI jf_208_53 jmt_208
    · refine jr_if2_ge_f jf_208_14 hc ?_
      refine jr_aload_n jf_208_17 rfl hl0 ?_
      replace h := obd_of h; obtain ⟨x4, hx4, h⟩ := h
      refine jr_getA jf_208_18 hx4 ?_
      refine jr_aload_n jf_208_21 rfl hl0 ?_
      replace h := obd_of h; obtain ⟨x5, hx5, h⟩ := h
      refine jr_getA jf_208_22 hx5 ?_
      refine jr_bipush jf_208_25 jc_b_10 ?_
      refine jr_iload_n jf_208_27 rfl hl1 ?_
      refine jr_imul jf_208_28 ?_
      refine jr_iload jf_208_29 hl5 ?_
      refine jr_iadd jf_208_31 ?_
      replace h := obd_of h; obtain ⟨a6, rfl, h⟩ := h
      replace h := obd_of h; obtain ⟨x7, hx7, h⟩ := h
      refine jr_iaload jf_208_32 hx7 ?_
      replace h := obd_of h; obtain ⟨a8, rfl, h⟩ := h
      replace h := obd_of h; obtain ⟨x9, hx9, h⟩ := h
      refine jr_iaload jf_208_33 hx9 ?_
      refine jr_iload_n jf_208_34 rfl hl2 ?_
      refine jr_iload_n jf_208_35 rfl hl3 ?_
      refine jr_S3_3 jf_208_36 (by omega) (r_R_in (by omega) _ _ _ _ _ rfl) (Nat.le_of_ble_eq_true rfl) jml_189 (Nat.le_of_ble_eq_true rfl) ?_
      replace h := ite_or h; rcases h with ⟨hc, h⟩ | ⟨hc, h⟩
      · refine jr_ifz_eq_f jf_208_39 hc ?_
        refine jr_iinc jf_208_42 jc_i_1 jml_208 (by decide) hl4 ?_
        exact r_R_countOf_45 hd ih _ _ _ _ _ _ _ _ _ (jg1_ne rfl hl0) (jg1_ne rfl hl1) (jg1_ne rfl hl2) (jg1_pre rfl hl3) jg1_same (jg1_ne rfl hl5) h
      · refine jr_ifz_eq_t jf_208_39 hc ?_
        exact r_R_countOf_45 hd ih _ _ _ _ _ _ _ _ _ hl0 hl1 hl2 hl3 hl4 hl5 h
set_option maxRecDepth 10000 in
set_option maxHeartbeats 4000000 in
theorem r_R_countOf_e {N B : Nat} {SA : Nat → Nat} {d : Nat} (hd : 1 ≤ d) : ∀ (L : JLoc) (v0 : Nat) (v1 : Int32) (v2 : Int32) (v3 : Int32) (μ : JMem) (r : Int32), jget L 0 = .ref v0 → jget L 1 = .int v1 → jget L 2 = .int v2 → jget L 3 = .int v3 → g_R_countOf N v0 v1 v2 v3 μ.1 = some r → jR B SA d m_R_countOf 0 L [] μ (some (.int r)) μ := by
  intro L v0 v1 v2 v3 μ r hl0 hl1 hl2 hl3 h
  unfold g_R_countOf at h
  refine jr_iconst jf_208_0 jc_i_0 ?_
  refine jr_istore jf_208_1 jml_208 (by decide) ?_
  refine jr_iconst jf_208_3 jc_i_0 ?_
  refine jr_istore jf_208_4 jml_208 (by decide) ?_
  exact r_R_countOf_6 hd _ _ _ _ _ _ _ _ _ _ (jg1_ne rfl (jg1_ne rfl hl0)) (jg1_ne rfl (jg1_ne rfl hl1)) (jg1_ne rfl (jg1_ne rfl hl2)) (jg1_ne rfl (jg1_pre rfl hl3)) (jg1_pre rfl jg1_same) jg1_same h
set_option maxRecDepth 10000 in
set_option maxHeartbeats 4000000 in
theorem r_R_countOf {N B : Nat} {SA : Nat → Nat} {d : Nat} (hd : 1 ≤ d) : ∀ (v0 : Nat) (v1 : Int32) (v2 : Int32) (v3 : Int32) (μ : JMem) (r : Int32), g_R_countOf N v0 v1 v2 v3 μ.1 = some r → jR B SA d m_R_countOf 0 (lv_args 0 [.ref v0, .int v1, .int v2, .int v3]) [] μ (some (.int r)) μ := by
  intro v0 v1 v2 v3 μ r h
  exact r_R_countOf_e hd (lv_args 0 _) _ _ _ _ _ _ (by simp [lv_args, jget, rv_cat, cat_int, cat_long, cat_double, cat_float, cat_ref]) (by simp [lv_args, jget, rv_cat, cat_int, cat_long, cat_double, cat_float, cat_ref]) (by simp [lv_args, jget, rv_cat, cat_int, cat_long, cat_double, cat_float, cat_ref]) (by simp [lv_args, jget, rv_cat, cat_int, cat_long, cat_double, cat_float, cat_ref]) h
/-! FilterBenchModel.isChain(I)Z -/
set_option maxRecDepth 10000 in
set_option maxHeartbeats 4000000 in
theorem r_R_isChain_e {B : Nat} {SA : Nat → Nat} {d : Nat} (hd : 1 ≤ d) : ∀ (L : JLoc) (v0 : Nat) (v1 : Int32) (μ : JMem) (r : Bool), jget L 0 = .ref v0 → jget L 1 = .int v1 → g_R_isChain v0 v1 μ.1 = some r → jR B SA d m_R_isChain 0 L [] μ (some (.int (jb r))) μ := by
  intro L v0 v1 μ r hl0 hl1 h
  unfold g_R_isChain at h
  refine jr_iload_n jf_206_0 rfl hl1 ?_
  refine jr_iconst jf_206_1 jc_i_0 ?_
  refine jr_aload_n jf_206_2 rfl hl0 ?_
  replace h := obd_of h; obtain ⟨x1, hx1, h⟩ := h
  refine jr_getI jf_206_3 hx1 ?_
  refine jr_iconst jf_206_6 jc_i_1 ?_
  refine jr_isub jf_206_7 ?_
  refine jr_S3_3 jf_206_8 (by omega) (r_R_in (by omega) _ _ _ _ _ rfl) (Nat.le_of_ble_eq_true rfl) jml_189 (Nat.le_of_ble_eq_true rfl) ?_
  obtain rfl := Option.some.inj h
  exact jr_retZ jf_206_11 jmt_206
set_option maxRecDepth 10000 in
set_option maxHeartbeats 4000000 in
theorem r_R_isChain {B : Nat} {SA : Nat → Nat} {d : Nat} (hd : 1 ≤ d) : ∀ (v0 : Nat) (v1 : Int32) (μ : JMem) (r : Bool), g_R_isChain v0 v1 μ.1 = some r → jR B SA d m_R_isChain 0 (lv_args 0 [.ref v0, .int v1]) [] μ (some (.int (jb r))) μ := by
  intro v0 v1 μ r h
  exact r_R_isChain_e hd (lv_args 0 _) _ _ _ _ (by simp [lv_args, jget, rv_cat, cat_int, cat_long, cat_double, cat_float, cat_ref]) (by simp [lv_args, jget, rv_cat, cat_int, cat_long, cat_double, cat_float, cat_ref]) h
/-! FilterBenchModel.join(II)I -/
set_option maxRecDepth 10000 in
set_option maxHeartbeats 4000000 in
theorem r_R_join_e {B : Nat} {SA : Nat → Nat} {d : Nat} (hd : 0 ≤ d) : ∀ (L : JLoc) (v0 : Nat) (v1 : Int32) (v2 : Int32) (μ : JMem) (r : Int32) (μ9 : JMem), jget L 0 = .ref v0 → jget L 1 = .int v1 → jget L 2 = .int v2 → g_R_join B v0 v1 v2 μ = some (r, μ9) → jR B SA d m_R_join 0 L [] μ (some (.int r)) μ9 := by
  intro L v0 v1 v2 μ r μ9 hl0 hl1 hl2 h
  unfold g_R_join at h
  refine jr_aload_n jf_209_0 rfl hl0 ?_
  replace h := obd_of h; obtain ⟨x1, hx1, h⟩ := h
  refine jr_getA jf_209_1 hx1 ?_
  refine jr_iload_n jf_209_4 rfl hl1 ?_
  replace h := obd_of h; obtain ⟨a2, rfl, h⟩ := h
  replace h := obd_of h; obtain ⟨x3, hx3, h⟩ := h
  refine jr_iaload jf_209_5 hx3 ?_
  refine jr_istore_n jf_209_6 rfl jml_209 (by decide) ?_
  refine jr_aload_n jf_209_7 rfl (jg1_ne rfl hl0) ?_
  replace h := obd_of h; obtain ⟨x4, hx4, h⟩ := h
  refine jr_getA jf_209_8 hx4 ?_
  refine jr_bipush jf_209_11 jc_b_10 ?_
  refine jr_iload_n jf_209_13 rfl (jg1_ne rfl hl1) ?_
  refine jr_imul jf_209_14 ?_
  refine jr_iload_n jf_209_15 rfl jg1_same ?_
  refine jr_iadd jf_209_16 ?_
  refine jr_iload_n jf_209_17 rfl (jg1_pre rfl hl2) ?_
  replace h := obd_of h; obtain ⟨a5, rfl, h⟩ := h
  replace h := obd_of h; obtain ⟨μ6, hμ6, h⟩ := h
  refine jr_iastore jf_209_18 hμ6 ?_
  refine jr_aload_n jf_209_19 rfl (jg1_ne rfl hl0) ?_
  replace h := obd_of h; obtain ⟨x7, hx7, h⟩ := h
  refine jr_getA jf_209_20 hx7 ?_
  refine jr_iload_n jf_209_23 rfl (jg1_pre rfl hl2) ?_
  refine jr_iload_n jf_209_24 rfl (jg1_ne rfl hl1) ?_
  replace h := obd_of h; obtain ⟨a8, rfl, h⟩ := h
  replace h := obd_of h; obtain ⟨μ9, hμ9, h⟩ := h
  refine jr_iastore jf_209_25 hμ9 ?_
  refine jr_aload_n jf_209_26 rfl (jg1_ne rfl hl0) ?_
  replace h := obd_of h; obtain ⟨x10, hx10, h⟩ := h
  refine jr_getA jf_209_27 hx10 ?_
  refine jr_iload_n jf_209_30 rfl (jg1_pre rfl hl2) ?_
  refine jr_iload_n jf_209_31 rfl jg1_same ?_
  replace h := obd_of h; obtain ⟨a11, rfl, h⟩ := h
  replace h := obd_of h; obtain ⟨μ12, hμ12, h⟩ := h
  refine jr_iastore jf_209_32 hμ12 ?_
  refine jr_aload_n jf_209_33 rfl (jg1_ne rfl hl0) ?_
  replace h := obd_of h; obtain ⟨x13, hx13, h⟩ := h
  refine jr_getA jf_209_34 hx13 ?_
  refine jr_iload_n jf_209_37 rfl (jg1_ne rfl hl1) ?_
  refine jr_dup2_1 jf_209_38 rfl (rv_cat _) ?_
  replace h := obd_of h; obtain ⟨a14, rfl, h⟩ := h
  replace h := obd_of h; obtain ⟨x15, hx15, h⟩ := h
  refine jr_iaload jf_209_39 hx15 ?_
  refine jr_iconst jf_209_40 jc_i_1 ?_
  refine jr_iadd jf_209_41 ?_
  replace h := obd_of h; obtain ⟨μ16, hμ16, h⟩ := h
  refine jr_iastore jf_209_42 hμ16 ?_
  refine jr_iload_n jf_209_43 rfl jg1_same ?_
  obtain ⟨rfl, rfl⟩ := Prod.mk.inj (Option.some.inj h)
  exact jr_retI jf_209_44 jmt_209
set_option maxRecDepth 10000 in
set_option maxHeartbeats 4000000 in
theorem r_R_join {B : Nat} {SA : Nat → Nat} {d : Nat} (hd : 0 ≤ d) : ∀ (v0 : Nat) (v1 : Int32) (v2 : Int32) (μ : JMem) (r : Int32) (μ9 : JMem), g_R_join B v0 v1 v2 μ = some (r, μ9) → jR B SA d m_R_join 0 (lv_args 0 [.ref v0, .int v1, .int v2]) [] μ (some (.int r)) μ9 := by
  intro v0 v1 v2 μ r μ9 h
  exact r_R_join_e hd (lv_args 0 _) _ _ _ _ _ _ (by simp [lv_args, jget, rv_cat, cat_int, cat_long, cat_double, cat_float, cat_ref]) (by simp [lv_args, jget, rv_cat, cat_int, cat_long, cat_double, cat_float, cat_ref]) (by simp [lv_args, jget, rv_cat, cat_int, cat_long, cat_double, cat_float, cat_ref]) h
/-! FilterBenchModel.sortOf(I)I -/
set_option maxRecDepth 10000 in
set_option maxHeartbeats 4000000 in
theorem r_R_sortOf_e {B : Nat} {SA : Nat → Nat} {d : Nat} (hd : 0 ≤ d) : ∀ (L : JLoc) (v0 : Nat) (v1 : Int32) (μ : JMem) (r : Int32), jget L 0 = .ref v0 → jget L 1 = .int v1 → g_R_sortOf v0 v1 μ.1 = some r → jR B SA d m_R_sortOf 0 L [] μ (some (.int r)) μ := by
  intro L v0 v1 μ r hl0 hl1 h
  unfold g_R_sortOf at h
  refine jr_aload_n jf_207_0 rfl hl0 ?_
  replace h := obd_of h; obtain ⟨x1, hx1, h⟩ := h
  refine jr_getA jf_207_1 hx1 ?_
  refine jr_iload_n jf_207_4 rfl hl1 ?_
  replace h := obd_of h; obtain ⟨a2, rfl, h⟩ := h
  replace h := obd_of h; obtain ⟨x3, hx3, h⟩ := h
  refine jr_iaload jf_207_5 hx3 ?_
  replace h := ite_or h; rcases h with ⟨hc, h⟩ | ⟨hc, h⟩
  · refine jr_if_ne_f jf_207_6 hc ?_
    refine jr_iconst jf_207_9 jc_i_m1 ?_
    refine jr_goto jf_207_10 ?_
    obtain rfl := Option.some.inj h
    exact jr_retI jf_207_27 jmt_207
  · refine jr_if_ne_t jf_207_6 hc ?_
    refine jr_aload_n jf_207_13 rfl hl0 ?_
    replace h := obd_of h; obtain ⟨x4, hx4, h⟩ := h
    refine jr_getA jf_207_14 hx4 ?_
    refine jr_aload_n jf_207_17 rfl hl0 ?_
    replace h := obd_of h; obtain ⟨x5, hx5, h⟩ := h
    refine jr_getA jf_207_18 hx5 ?_
    refine jr_bipush jf_207_21 jc_b_10 ?_
    refine jr_iload_n jf_207_23 rfl hl1 ?_
    refine jr_imul jf_207_24 ?_
    replace h := obd_of h; obtain ⟨a6, rfl, h⟩ := h
    replace h := obd_of h; obtain ⟨x7, hx7, h⟩ := h
    refine jr_iaload jf_207_25 hx7 ?_
    replace h := obd_of h; obtain ⟨a8, rfl, h⟩ := h
    replace h := obd_of h; obtain ⟨x9, hx9, h⟩ := h
    refine jr_iaload jf_207_26 hx9 ?_
    obtain rfl := Option.some.inj h
    exact jr_retI jf_207_27 jmt_207
set_option maxRecDepth 10000 in
set_option maxHeartbeats 4000000 in
theorem r_R_sortOf {B : Nat} {SA : Nat → Nat} {d : Nat} (hd : 0 ≤ d) : ∀ (v0 : Nat) (v1 : Int32) (μ : JMem) (r : Int32), g_R_sortOf v0 v1 μ.1 = some r → jR B SA d m_R_sortOf 0 (lv_args 0 [.ref v0, .int v1]) [] μ (some (.int r)) μ := by
  intro v0 v1 μ r h
  exact r_R_sortOf_e hd (lv_args 0 _) _ _ _ _ (by simp [lv_args, jget, rv_cat, cat_int, cat_long, cat_double, cat_float, cat_ref]) (by simp [lv_args, jget, rv_cat, cat_int, cat_long, cat_double, cat_float, cat_ref]) h
/-! FilterBenchModel.add(II)I -/
set_option maxRecDepth 10000 in
set_option maxHeartbeats 4000000 in
theorem r_R_add_105 {N B : Nat} {SA : Nat → Nat} {d : Nat} (hd : 2 ≤ d) : ∀ (L : JLoc) (v0 : Nat) (v1 : Int32) (v2 : Int32) (μ : JMem) (r : Int32) (μ9 : JMem), jget L 0 = .ref v0 → jget L 1 = .int v1 → jget L 2 = .int v2 → g_R_add_105 N B v0 v1 v2 μ = some (r, μ9) → jR B SA d m_R_add 105 L [] μ (some (.int r)) μ9 := by
  intro L v0 v1 v2 μ r μ9 hl0 hl1 hl2 h
  unfold g_R_add_105 at h
  refine jr_aload_n jf_205_105 rfl hl0 ?_
  refine jr_iload_n jf_205_106 rfl hl1 ?_
  refine jr_iload_n jf_205_107 rfl hl2 ?_
  replace h := jgd_of h; obtain ⟨hb1, h⟩ := h
  replace h := jbd2_of h; obtain ⟨x2, μ3, hx2, h⟩ := h
  refine jr_V6_2 jf_205_108 hb1 (by omega) (r_R_join (by omega) _ _ _ _ _ _ hx2) (Nat.le_of_ble_eq_true rfl) jml_209 (Nat.le_of_ble_eq_true rfl) ?_
  obtain ⟨rfl, rfl⟩ := Prod.mk.inj (Option.some.inj h)
  exact jr_retI jf_205_111 jmt_205
set_option maxRecDepth 10000 in
set_option maxHeartbeats 4000000 in
theorem r_R_add_74 {N B : Nat} {SA : Nat → Nat} {d : Nat} (hd : 2 ≤ d) : ∀ (L : JLoc) (v0 : Nat) (v1 : Int32) (v2 : Int32) (μ : JMem) (r : Int32) (μ9 : JMem), jget L 0 = .ref v0 → jget L 1 = .int v1 → jget L 2 = .int v2 → g_R_add_74 N B v0 v1 v2 μ = some (r, μ9) → jR B SA d m_R_add 74 L [] μ (some (.int r)) μ9 := by
  intro L v0 v1 v2 μ r μ9 hl0 hl1 hl2 h
  unfold g_R_add_74 at h
  refine jr_aload_n jf_205_74 rfl hl0 ?_
  replace h := obd_of h; obtain ⟨x1, hx1, h⟩ := h
  refine jr_getA jf_205_75 hx1 ?_
  refine jr_iload_n jf_205_78 rfl hl2 ?_
  replace h := obd_of h; obtain ⟨a2, rfl, h⟩ := h
  replace h := obd_of h; obtain ⟨x3, hx3, h⟩ := h
  refine jr_iaload jf_205_79 hx3 ?_
  refine jr_bipush jf_205_80 jc_b_13 ?_
  refine jr_bipush jf_205_82 jc_b_14 ?_
  refine jr_S3_3 jf_205_84 (by omega) (r_R_in (by omega) _ _ _ _ _ rfl) (Nat.le_of_ble_eq_true rfl) jml_189 (Nat.le_of_ble_eq_true rfl) ?_
  replace h := ite_or h; rcases h with ⟨hc, h⟩ | ⟨hc, h⟩
  · refine jr_ifz_eq_f jf_205_87 hc ?_
    refine jr_aload_n jf_205_90 rfl hl0 ?_
    refine jr_iload_n jf_205_91 rfl hl1 ?_
    refine jr_bipush jf_205_92 jc_b_13 ?_
    refine jr_bipush jf_205_94 jc_b_14 ?_
    replace h := jgd_of h; obtain ⟨hb4, h⟩ := h
    replace h := obd_of h; obtain ⟨x5, hx5, h⟩ := h
    refine jr_V6_3 jf_205_96 hb4 (by omega) (r_R_countOf (by omega) _ _ _ _ _ _ hx5) (Nat.le_of_ble_eq_true rfl) jml_208 (Nat.le_of_ble_eq_true rfl) ?_
    refine jr_iconst jf_205_99 jc_i_2 ?_
    replace h := ite_or h; rcases h with ⟨hc, h⟩ | ⟨hc, h⟩
    · refine jr_if2_ne_f jf_205_100 hc ?_
      refine jr_iconst jf_205_103 jc_i_m1 ?_
      obtain ⟨rfl, rfl⟩ := Prod.mk.inj (Option.some.inj h)
      exact jr_retI jf_205_104 jmt_205
    · refine jr_if2_ne_t jf_205_100 hc ?_
      exact r_R_add_105 hd _ _ _ _ _ _ _ hl0 hl1 hl2 h
  · refine jr_ifz_eq_t jf_205_87 hc ?_
    exact r_R_add_105 hd _ _ _ _ _ _ _ hl0 hl1 hl2 h
set_option maxRecDepth 10000 in
set_option maxHeartbeats 4000000 in
theorem r_R_add_e {N B : Nat} {SA : Nat → Nat} {d : Nat} (hd : 2 ≤ d) : ∀ (L : JLoc) (v0 : Nat) (v1 : Int32) (v2 : Int32) (μ : JMem) (r : Int32) (μ9 : JMem), jget L 0 = .ref v0 → jget L 1 = .int v1 → jget L 2 = .int v2 → g_R_add N B v0 v1 v2 μ = some (r, μ9) → jR B SA d m_R_add 0 L [] μ (some (.int r)) μ9 := by
  intro L v0 v1 v2 μ r μ9 hl0 hl1 hl2 h
  unfold g_R_add at h
  refine jr_aload_n jf_205_0 rfl hl0 ?_
  refine jr_iload_n jf_205_1 rfl hl1 ?_
  replace h := jgd_of h; obtain ⟨hb1, h⟩ := h
  replace h := obd_of h; obtain ⟨x2, hx2, h⟩ := h
  refine jr_V6_1 jf_205_2 hb1 (by omega) (r_R_isChain (by omega) _ _ _ _ hx2) (Nat.le_of_ble_eq_true rfl) jml_206 (Nat.le_of_ble_eq_true rfl) ?_
  replace h := ite_or h; rcases h with ⟨hc, h⟩ | ⟨hc, h⟩
  · refine jr_ifz_eq_f jf_205_5 hc ?_
    refine jr_aload_n jf_205_8 rfl hl0 ?_
    refine jr_iload_n jf_205_9 rfl hl2 ?_
    replace h := jgd_of h; obtain ⟨hb3, h⟩ := h
    replace h := obd_of h; obtain ⟨x4, hx4, h⟩ := h
    refine jr_V6_1 jf_205_10 hb3 (by omega) (r_R_isSection (by omega) _ _ _ _ hx4) (Nat.le_of_ble_eq_true rfl) jml_195 (Nat.le_of_ble_eq_true rfl) ?_
    replace h := ite_or h; rcases h with ⟨hc, h⟩ | ⟨hc, h⟩
    · refine jr_ifz_eq_f jf_205_13 hc ?_
      refine jr_aload_n jf_205_16 rfl hl0 ?_
      replace h := obd_of h; obtain ⟨x5, hx5, h⟩ := h
      refine jr_getA jf_205_17 hx5 ?_
      refine jr_iload_n jf_205_20 rfl hl2 ?_
      replace h := obd_of h; obtain ⟨a6, rfl, h⟩ := h
      replace h := obd_of h; obtain ⟨x7, hx7, h⟩ := h
      refine jr_iaload jf_205_21 hx7 ?_
      refine jr_iconst jf_205_22 jc_i_m1 ?_
      replace h := ite_or h; rcases h with ⟨hc, h⟩ | ⟨hc, h⟩
      · refine jr_if2_ne_f jf_205_23 hc ?_
        refine jr_aload_n jf_205_26 rfl hl0 ?_
        replace h := obd_of h; obtain ⟨x8, hx8, h⟩ := h
        refine jr_getA jf_205_27 hx8 ?_
        refine jr_iload_n jf_205_30 rfl hl1 ?_
        replace h := obd_of h; obtain ⟨a9, rfl, h⟩ := h
        replace h := obd_of h; obtain ⟨x10, hx10, h⟩ := h
        refine jr_iaload jf_205_31 hx10 ?_
        refine jr_iconst jf_205_32 jc_i_m1 ?_
        replace h := ite_or h; rcases h with ⟨hc, h⟩ | ⟨hc, h⟩
        · refine jr_if2_ne_f jf_205_33 hc ?_
          refine jr_aload_n jf_205_36 rfl hl0 ?_
          replace h := obd_of h; obtain ⟨x11, hx11, h⟩ := h
          refine jr_getA jf_205_37 hx11 ?_
          refine jr_iload_n jf_205_40 rfl hl1 ?_
          replace h := obd_of h; obtain ⟨a12, rfl, h⟩ := h
          replace h := obd_of h; obtain ⟨x13, hx13, h⟩ := h
          refine jr_iaload jf_205_41 hx13 ?_
          refine jr_bipush jf_205_42 jc_b_10 ?_
          replace h := ite_or h; rcases h with ⟨hc, h⟩ | ⟨hc, h⟩
          · refine jr_if2_ne_f jf_205_44 hc ?_
            refine jr_iconst jf_205_47 jc_i_m1 ?_
            obtain ⟨rfl, rfl⟩ := Prod.mk.inj (Option.some.inj h)
            exact jr_retI jf_205_48 jmt_205
          · refine jr_if2_ne_t jf_205_44 hc ?_
            refine jr_aload_n jf_205_49 rfl hl0 ?_
            replace h := obd_of h; obtain ⟨x14, hx14, h⟩ := h
            refine jr_getA jf_205_50 hx14 ?_
            refine jr_iload_n jf_205_53 rfl hl1 ?_
            replace h := obd_of h; obtain ⟨a15, rfl, h⟩ := h
            replace h := obd_of h; obtain ⟨x16, hx16, h⟩ := h
            refine jr_iaload jf_205_54 hx16 ?_
            replace h := ite_or h; rcases h with ⟨hc, h⟩ | ⟨hc, h⟩
            · refine jr_if_le_t jf_205_55 hc ?_
              exact r_R_add_74 hd _ _ _ _ _ _ _ hl0 hl1 hl2 h
            · refine jr_if_le_f jf_205_55 hc ?_
              refine jr_aload_n jf_205_58 rfl hl0 ?_
              replace h := obd_of h; obtain ⟨x17, hx17, h⟩ := h
              refine jr_getA jf_205_59 hx17 ?_
              refine jr_iload_n jf_205_62 rfl hl2 ?_
              replace h := obd_of h; obtain ⟨a18, rfl, h⟩ := h
              replace h := obd_of h; obtain ⟨x19, hx19, h⟩ := h
              refine jr_iaload jf_205_63 hx19 ?_
              refine jr_aload_n jf_205_64 rfl hl0 ?_
              refine jr_iload_n jf_205_65 rfl hl1 ?_
              replace h := jgd_of h; obtain ⟨hb20, h⟩ := h
              replace h := obd_of h; obtain ⟨x21, hx21, h⟩ := h
              refine jr_V6_1 jf_205_66 hb20 (by omega) (r_R_sortOf (by omega) _ _ _ _ hx21) (Nat.le_of_ble_eq_true rfl) jml_207 (Nat.le_of_ble_eq_true rfl) ?_
              replace h := ite_or h; rcases h with ⟨hc, h⟩ | ⟨hc, h⟩
              · refine jr_if2_eq_t jf_205_69 hc ?_
                exact r_R_add_74 hd _ _ _ _ _ _ _ hl0 hl1 hl2 h
              · refine jr_if2_eq_f jf_205_69 hc ?_
                refine jr_iconst jf_205_72 jc_i_m1 ?_
                obtain ⟨rfl, rfl⟩ := Prod.mk.inj (Option.some.inj h)
                exact jr_retI jf_205_73 jmt_205
        · refine jr_if2_ne_t jf_205_33 hc ?_
          refine jr_iconst jf_205_47 jc_i_m1 ?_
          obtain ⟨rfl, rfl⟩ := Prod.mk.inj (Option.some.inj h)
          exact jr_retI jf_205_48 jmt_205
      · refine jr_if2_ne_t jf_205_23 hc ?_
        refine jr_iconst jf_205_47 jc_i_m1 ?_
        obtain ⟨rfl, rfl⟩ := Prod.mk.inj (Option.some.inj h)
        exact jr_retI jf_205_48 jmt_205
    · refine jr_ifz_eq_t jf_205_13 hc ?_
      refine jr_iconst jf_205_47 jc_i_m1 ?_
      obtain ⟨rfl, rfl⟩ := Prod.mk.inj (Option.some.inj h)
      exact jr_retI jf_205_48 jmt_205
  · refine jr_ifz_eq_t jf_205_5 hc ?_
    refine jr_iconst jf_205_47 jc_i_m1 ?_
    obtain ⟨rfl, rfl⟩ := Prod.mk.inj (Option.some.inj h)
    exact jr_retI jf_205_48 jmt_205
set_option maxRecDepth 10000 in
set_option maxHeartbeats 4000000 in
theorem r_R_add {N B : Nat} {SA : Nat → Nat} {d : Nat} (hd : 2 ≤ d) : ∀ (v0 : Nat) (v1 : Int32) (v2 : Int32) (μ : JMem) (r : Int32) (μ9 : JMem), g_R_add N B v0 v1 v2 μ = some (r, μ9) → jR B SA d m_R_add 0 (lv_args 0 [.ref v0, .int v1, .int v2]) [] μ (some (.int r)) μ9 := by
  intro v0 v1 v2 μ r μ9 h
  exact r_R_add_e hd (lv_args 0 _) _ _ _ _ _ _ (by simp [lv_args, jget, rv_cat, cat_int, cat_long, cat_double, cat_float, cat_ref]) (by simp [lv_args, jget, rv_cat, cat_int, cat_long, cat_double, cat_float, cat_ref]) (by simp [lv_args, jget, rv_cat, cat_int, cat_long, cat_double, cat_float, cat_ref]) h
/-! FilterBenchModel.newLoop(IIIID)I -/
set_option maxRecDepth 10000 in
set_option maxHeartbeats 4000000 in
theorem r_R_newLoop_49 {N B : Nat} {SA : Nat → Nat} {d : Nat} (hd : 0 ≤ d) : ∀ (n : Nat), ∀ (L : JLoc) (v0 : Nat) (v1 : Int32) (v7 : Int32) (v8 : Int32) (μ : JMem) (r : Int32) (μ9 : JMem), jget L 0 = .ref v0 → jget L 1 = .int v1 → jget L 7 = .int v7 → jget L 8 = .int v8 → g_R_newLoop_49 N B n v0 v1 v7 v8 μ = some (r, μ9) → jR B SA d m_R_newLoop 49 L [] μ (some (.int r)) μ9 := by
  intro n
  induction n with
  | zero =>
    intro L v0 v1 v7 v8 μ r μ9 hl0 hl1 hl7 hl8 h
    unfold g_R_newLoop_49 at h
    cases h
  | succ n ih =>
    intro L v0 v1 v7 v8 μ r μ9 hl0 hl1 hl7 hl8 h
    unfold g_R_newLoop_49 at h
    refine jr_iload jf_211_49 hl8 ?_
    refine jr_bipush jf_211_51 jc_b_64 ?_
    replace h := ite_or h; rcases h with ⟨hc, h⟩ | ⟨hc, h⟩
    · refine jr_if2_ge_t jf_211_53 hc ?_
      refine jr_aload_n jf_211_76 rfl hl0 ?_
      replace h := obd_of h; obtain ⟨x1, hx1, h⟩ := h
      refine jr_getA jf_211_77 hx1 ?_
      refine jr_iload jf_211_80 hl7 ?_
      refine jr_iconst jf_211_82 jc_i_0 ?_
      replace h := obd_of h; obtain ⟨a2, rfl, h⟩ := h
      replace h := obd_of h; obtain ⟨μ3, hμ3, h⟩ := h
      refine jr_iastore jf_211_83 hμ3 ?_
      refine jr_aload_n jf_211_84 rfl hl0 ?_
      replace h := obd_of h; obtain ⟨x4, hx4, h⟩ := h
      refine jr_getA jf_211_85 hx4 ?_
      refine jr_iload_n jf_211_88 rfl hl1 ?_
      refine jr_dup2_1 jf_211_89 rfl (rv_cat _) ?_
      replace h := obd_of h; obtain ⟨a5, rfl, h⟩ := h
      replace h := obd_of h; obtain ⟨x6, hx6, h⟩ := h
      refine jr_iaload jf_211_90 hx6 ?_
      refine jr_iconst jf_211_91 jc_i_1 ?_
      refine jr_iadd jf_211_92 ?_
      replace h := obd_of h; obtain ⟨μ7, hμ7, h⟩ := h
      refine jr_iastore jf_211_93 hμ7 ?_
      refine jr_aload_n jf_211_94 rfl hl0 ?_
      replace h := obd_of h; obtain ⟨x8, hx8, h⟩ := h
      refine jr_getA jf_211_95 hx8 ?_
      refine jr_iload_n jf_211_98 rfl hl1 ?_
      replace h := obd_of h; obtain ⟨a9, rfl, h⟩ := h
      replace h := obd_of h; obtain ⟨x10, hx10, h⟩ := h
      refine jr_iaload jf_211_99 hx10 ?_
      obtain ⟨rfl, rfl⟩ := Prod.mk.inj (Option.some.inj h)
      exact jr_retI jf_211_100 jmt_211
    · refine jr_if2_ge_f jf_211_53 hc ?_
      refine jr_aload_n jf_211_56 rfl hl0 ?_
      replace h := obd_of h; obtain ⟨x11, hx11, h⟩ := h
      refine jr_getA jf_211_57 hx11 ?_
      refine jr_bipush jf_211_60 jc_b_64 ?_
      refine jr_iload jf_211_62 hl7 ?_
      refine jr_imul jf_211_64 ?_
      refine jr_iload jf_211_65 hl8 ?_
      refine jr_iadd jf_211_67 ?_
      refine jr_dconst0 jf_211_68 ?_
      replace h := obd_of h; obtain ⟨a12, rfl, h⟩ := h
      replace h := obd_of h; obtain ⟨μ13, hμ13, h⟩ := h
      refine jr_dastore jf_211_69 hμ13 ?_
      refine jr_iinc jf_211_70 jc_i_1 jml_211 (by decide) hl8 ?_
      refine jr_goto jf_211_73 ?_
      exact ih _ _ _ _ _ _ _ _ (jg1_ne rfl hl0) (jg1_ne rfl hl1) (jg1_pre rfl hl7) jg1_same h
set_option maxRecDepth 10000 in
set_option maxHeartbeats 4000000 in
theorem r_R_newLoop_e {N B : Nat} {SA : Nat → Nat} {d : Nat} (hd : 0 ≤ d) : ∀ (L : JLoc) (v0 : Nat) (v1 : Int32) (v2 : Int32) (v3 : Int32) (v4 : Int32) (v5 : UInt64) (μ : JMem) (r : Int32) (μ9 : JMem), jget L 0 = .ref v0 → jget L 1 = .int v1 → jget L 2 = .int v2 → jget L 3 = .int v3 → jget L 4 = .int v4 → jget L 5 = .double v5 → g_R_newLoop N B v0 v1 v2 v3 v4 v5 μ = some (r, μ9) → jR B SA d m_R_newLoop 0 L [] μ (some (.int r)) μ9 := by
  intro L v0 v1 v2 v3 v4 v5 μ r μ9 hl0 hl1 hl2 hl3 hl4 hl5 h
  unfold g_R_newLoop at h
  refine jr_iconst jf_211_0 jc_i_3 ?_
  refine jr_iload_n jf_211_1 rfl hl1 ?_
  refine jr_imul jf_211_2 ?_
  refine jr_aload_n jf_211_3 rfl hl0 ?_
  replace h := obd_of h; obtain ⟨x1, hx1, h⟩ := h
  refine jr_getA jf_211_4 hx1 ?_
  refine jr_iload_n jf_211_7 rfl hl1 ?_
  replace h := obd_of h; obtain ⟨a2, rfl, h⟩ := h
  replace h := obd_of h; obtain ⟨x3, hx3, h⟩ := h
  refine jr_iaload jf_211_8 hx3 ?_
  refine jr_iadd jf_211_9 ?_
  refine jr_istore jf_211_10 jml_211 (by decide) ?_
  refine jr_aload_n jf_211_12 rfl (jg1_ne rfl hl0) ?_
  replace h := obd_of h; obtain ⟨x4, hx4, h⟩ := h
  refine jr_getA jf_211_13 hx4 ?_
  refine jr_iload jf_211_16 jg1_same ?_
  refine jr_iload_n jf_211_18 rfl (jg1_ne rfl hl3) ?_
  replace h := obd_of h; obtain ⟨a5, rfl, h⟩ := h
  replace h := obd_of h; obtain ⟨μ6, hμ6, h⟩ := h
  refine jr_iastore jf_211_19 hμ6 ?_
  refine jr_aload_n jf_211_20 rfl (jg1_ne rfl hl0) ?_
  replace h := obd_of h; obtain ⟨x7, hx7, h⟩ := h
  refine jr_getA jf_211_21 hx7 ?_
  refine jr_iload jf_211_24 jg1_same ?_
  refine jr_iload_n jf_211_26 rfl (jg1_ne rfl hl2) ?_
  replace h := obd_of h; obtain ⟨a8, rfl, h⟩ := h
  replace h := obd_of h; obtain ⟨μ9, hμ9, h⟩ := h
  refine jr_iastore jf_211_27 hμ9 ?_
  refine jr_aload_n jf_211_28 rfl (jg1_ne rfl hl0) ?_
  replace h := obd_of h; obtain ⟨x10, hx10, h⟩ := h
  refine jr_getA jf_211_29 hx10 ?_
  refine jr_iload jf_211_32 jg1_same ?_
  refine jr_iload jf_211_34 (jg1_ne rfl hl4) ?_
  replace h := obd_of h; obtain ⟨a11, rfl, h⟩ := h
  replace h := obd_of h; obtain ⟨μ12, hμ12, h⟩ := h
  refine jr_iastore jf_211_36 hμ12 ?_
  refine jr_aload_n jf_211_37 rfl (jg1_ne rfl hl0) ?_
  replace h := obd_of h; obtain ⟨x13, hx13, h⟩ := h
  refine jr_getA jf_211_38 hx13 ?_
  refine jr_iload jf_211_41 jg1_same ?_
  refine jr_dload jf_211_43 (jg1_ne rfl hl5) ?_
  replace h := obd_of h; obtain ⟨a14, rfl, h⟩ := h
  replace h := obd_of h; obtain ⟨μ15, hμ15, h⟩ := h
  refine jr_dastore jf_211_45 hμ15 ?_
  refine jr_iconst jf_211_46 jc_i_0 ?_
  refine jr_istore jf_211_47 jml_211 (by decide) ?_
  exact r_R_newLoop_49 hd _ _ _ _ _ _ _ _ _ (jg1_ne rfl (jg1_ne rfl hl0)) (jg1_ne rfl (jg1_ne rfl hl1)) (jg1_pre rfl jg1_same) jg1_same h
set_option maxRecDepth 10000 in
set_option maxHeartbeats 4000000 in
theorem r_R_newLoop {N B : Nat} {SA : Nat → Nat} {d : Nat} (hd : 0 ≤ d) : ∀ (v0 : Nat) (v1 : Int32) (v2 : Int32) (v3 : Int32) (v4 : Int32) (v5 : UInt64) (μ : JMem) (r : Int32) (μ9 : JMem), g_R_newLoop N B v0 v1 v2 v3 v4 v5 μ = some (r, μ9) → jR B SA d m_R_newLoop 0 (lv_args 0 [.ref v0, .int v1, .int v2, .int v3, .int v4, .double v5]) [] μ (some (.int r)) μ9 := by
  intro v0 v1 v2 v3 v4 v5 μ r μ9 h
  exact r_R_newLoop_e hd (lv_args 0 _) _ _ _ _ _ _ _ _ _ (by simp [lv_args, jget, rv_cat, cat_int, cat_long, cat_double, cat_float, cat_ref]) (by simp [lv_args, jget, rv_cat, cat_int, cat_long, cat_double, cat_float, cat_ref]) (by simp [lv_args, jget, rv_cat, cat_int, cat_long, cat_double, cat_float, cat_ref]) (by simp [lv_args, jget, rv_cat, cat_int, cat_long, cat_double, cat_float, cat_ref]) (by simp [lv_args, jget, rv_cat, cat_int, cat_long, cat_double, cat_float, cat_ref]) (by simp [lv_args, jget, rv_cat, cat_int, cat_long, cat_double, cat_float, cat_ref]) h
/-! FilterBenchModel.loop(IIIIJ)I -/
set_option maxRecDepth 10000 in
set_option maxHeartbeats 4000000 in
theorem r_R_loop_63 {N B : Nat} {SA : Nat → Nat} {d : Nat} (hd : 2 ≤ d) : ∀ (n : Nat), ∀ (L : JLoc) (v0 : Nat) (v1 : Int32) (v2 : Int32) (v3 : Int32) (v4 : Int32) (v5 : Int64) (v7 : Int32) (μ : JMem) (r : Int32) (μ9 : JMem), jget L 0 = .ref v0 → jget L 1 = .int v1 → jget L 2 = .int v2 → jget L 3 = .int v3 → jget L 4 = .int v4 → jget L 5 = .long v5 → jget L 7 = .int v7 → g_R_loop_63 N B n v0 v1 v2 v3 v4 v5 v7 μ = some (r, μ9) → jR B SA d m_R_loop 63 L [] μ (some (.int r)) μ9 := by
  intro n
  induction n with
  | zero =>
    intro L v0 v1 v2 v3 v4 v5 v7 μ r μ9 hl0 hl1 hl2 hl3 hl4 hl5 hl7 h
    unfold g_R_loop_63 at h
    cases h
  | succ n ih =>
    intro L v0 v1 v2 v3 v4 v5 v7 μ r μ9 hl0 hl1 hl2 hl3 hl4 hl5 hl7 h
    unfold g_R_loop_63 at h
    refine jr_iload jf_210_63 hl7 ?_
    refine jr_iload_n jf_210_65 rfl hl3 ?_
    replace h := ite_or h; rcases h with ⟨hc, h⟩ | ⟨hc, h⟩
    · refine jr_if2_gt_t jf_210_66 hc ?_
      refine jr_aload_n jf_210_104 rfl hl0 ?_
      refine jr_iload_n jf_210_105 rfl hl1 ?_
      replace h := jgd_of h; obtain ⟨hb1, h⟩ := h
      replace h := obd_of h; obtain ⟨x2, hx2, h⟩ := h
      refine jr_V6_1 jf_210_106 hb1 (by omega) (r_R_sortOf (by omega) _ _ _ _ hx2) (Nat.le_of_ble_eq_true rfl) jml_207 (Nat.le_of_ble_eq_true rfl) ?_
      refine jr_lload jf_210_109 hl5 ?_
      refine jr_S3_2 jf_210_111 (by omega) (r_R_isValue (by omega) _ _ _ _ rfl) (Nat.le_of_ble_eq_true rfl) jml_197 (Nat.le_of_ble_eq_true rfl) ?_
      replace h := ite_or h; rcases h with ⟨hc, h⟩ | ⟨hc, h⟩
      · refine jr_ifz_ne_t jf_210_114 hc ?_
        refine jr_aload_n jf_210_119 rfl hl0 ?_
        refine jr_iload_n jf_210_120 rfl hl1 ?_
        refine jr_iload_n jf_210_121 rfl hl2 ?_
        refine jr_iload_n jf_210_122 rfl hl3 ?_
        refine jr_iload jf_210_123 hl4 ?_
        refine jr_aload_n jf_210_125 rfl hl0 ?_
        refine jr_iload_n jf_210_126 rfl hl1 ?_
        replace h := jgd_of h; obtain ⟨hb3, h⟩ := h
        replace h := obd_of h; obtain ⟨x4, hx4, h⟩ := h
        refine jr_V6_1 jf_210_127 hb3 (by omega) (r_R_sortOf (by omega) _ _ _ _ hx4) (Nat.le_of_ble_eq_true rfl) jml_207 (Nat.le_of_ble_eq_true rfl) ?_
        refine jr_lload jf_210_130 hl5 ?_
        replace h := obd_of h; obtain ⟨x5, hx5, h⟩ := h
        refine jr_S3_2 jf_210_132 (by omega) (r_R_valueOf (by omega) _ _ _ _ hx5) (Nat.le_of_ble_eq_true rfl) jml_198 (Nat.le_of_ble_eq_true rfl) ?_
        replace h := jgd_of h; obtain ⟨hb6, h⟩ := h
        replace h := jbd2_of h; obtain ⟨x7, μ8, hx7, h⟩ := h
        refine jr_V6_5 jf_210_135 hb6 (by omega) (r_R_newLoop (by omega) _ _ _ _ _ _ _ _ _ hx7) (Nat.le_of_ble_eq_true rfl) jml_211 (Nat.le_of_ble_eq_true rfl) ?_
        obtain ⟨rfl, rfl⟩ := Prod.mk.inj (Option.some.inj h)
        exact jr_retI jf_210_138 jmt_210
      · refine jr_ifz_ne_f jf_210_114 hc ?_
        refine jr_iconst jf_210_117 jc_i_m1 ?_
        obtain ⟨rfl, rfl⟩ := Prod.mk.inj (Option.some.inj h)
        exact jr_retI jf_210_118 jmt_210
    · refine jr_if2_gt_f jf_210_66 hc ?_
      refine jr_aload_n jf_210_69 rfl hl0 ?_
      replace h := obd_of h; obtain ⟨x9, hx9, h⟩ := h
      refine jr_getA jf_210_70 hx9 ?_
      refine jr_aload_n jf_210_73 rfl hl0 ?_
      replace h := obd_of h; obtain ⟨x10, hx10, h⟩ := h
      refine jr_getA jf_210_74 hx10 ?_
      refine jr_bipush jf_210_77 jc_b_10 ?_
      refine jr_iload_n jf_210_79 rfl hl1 ?_
      refine jr_imul jf_210_80 ?_
      refine jr_iload jf_210_81 hl7 ?_
      refine jr_iadd jf_210_83 ?_
      replace h := obd_of h; obtain ⟨a11, rfl, h⟩ := h
      replace h := obd_of h; obtain ⟨x12, hx12, h⟩ := h
      refine jr_iaload jf_210_84 hx12 ?_
      replace h := obd_of h; obtain ⟨a13, rfl, h⟩ := h
      replace h := obd_of h; obtain ⟨x14, hx14, h⟩ := h
      refine jr_iaload jf_210_85 hx14 ?_
      refine jr_bipush jf_210_86 jc_b_12 ?_
      refine jr_bipush jf_210_88 jc_b_14 ?_
      refine jr_S3_3 jf_210_90 (by omega) (r_R_in (by omega) _ _ _ _ _ rfl) (Nat.le_of_ble_eq_true rfl) jml_189 (Nat.le_of_ble_eq_true rfl) ?_
      replace h := ite_or h; rcases h with ⟨hc, h⟩ | ⟨hc, h⟩
      · refine jr_ifz_eq_f jf_210_93 hc ?_
        refine jr_iconst jf_210_96 jc_i_m1 ?_
        obtain ⟨rfl, rfl⟩ := Prod.mk.inj (Option.some.inj h)
        exact jr_retI jf_210_97 jmt_210
      · refine jr_ifz_eq_t jf_210_93 hc ?_
        refine jr_iinc jf_210_98 jc_i_1 jml_210 (by decide) hl7 ?_
        refine jr_goto jf_210_101 ?_
        exact ih _ _ _ _ _ _ _ _ _ _ _ (jg1_ne rfl hl0) (jg1_ne rfl hl1) (jg1_ne rfl hl2) (jg1_ne rfl hl3) (jg1_ne rfl hl4) (jg1_ne rfl hl5) jg1_same h
set_option maxRecDepth 10000 in
set_option maxHeartbeats 4000000 in
theorem r_R_loop_e {N B : Nat} {SA : Nat → Nat} {d : Nat} (hd : 2 ≤ d) : ∀ (L : JLoc) (v0 : Nat) (v1 : Int32) (v2 : Int32) (v3 : Int32) (v4 : Int32) (v5 : Int64) (μ : JMem) (r : Int32) (μ9 : JMem), jget L 0 = .ref v0 → jget L 1 = .int v1 → jget L 2 = .int v2 → jget L 3 = .int v3 → jget L 4 = .int v4 → jget L 5 = .long v5 → g_R_loop N B v0 v1 v2 v3 v4 v5 μ = some (r, μ9) → jR B SA d m_R_loop 0 L [] μ (some (.int r)) μ9 := by
  intro L v0 v1 v2 v3 v4 v5 μ r μ9 hl0 hl1 hl2 hl3 hl4 hl5 h
  unfold g_R_loop at h
  refine jr_aload_n jf_210_0 rfl hl0 ?_
  refine jr_iload_n jf_210_1 rfl hl1 ?_
  replace h := jgd_of h; obtain ⟨hb1, h⟩ := h
  replace h := obd_of h; obtain ⟨x2, hx2, h⟩ := h
  refine jr_V6_1 jf_210_2 hb1 (by omega) (r_R_isChain (by omega) _ _ _ _ hx2) (Nat.le_of_ble_eq_true rfl) jml_206 (Nat.le_of_ble_eq_true rfl) ?_
  replace h := ite_or h; rcases h with ⟨hc, h⟩ | ⟨hc, h⟩
  · refine jr_ifz_eq_f jf_210_5 hc ?_
    refine jr_aload_n jf_210_8 rfl hl0 ?_
    replace h := obd_of h; obtain ⟨x3, hx3, h⟩ := h
    refine jr_getA jf_210_9 hx3 ?_
    refine jr_iload_n jf_210_12 rfl hl1 ?_
    replace h := obd_of h; obtain ⟨a4, rfl, h⟩ := h
    replace h := obd_of h; obtain ⟨x5, hx5, h⟩ := h
    refine jr_iaload jf_210_13 hx5 ?_
    refine jr_iconst jf_210_14 jc_i_m1 ?_
    replace h := ite_or h; rcases h with ⟨hc, h⟩ | ⟨hc, h⟩
    · refine jr_if2_ne_f jf_210_15 hc ?_
      refine jr_aload_n jf_210_18 rfl hl0 ?_
      replace h := obd_of h; obtain ⟨x6, hx6, h⟩ := h
      refine jr_getA jf_210_19 hx6 ?_
      refine jr_iload_n jf_210_22 rfl hl1 ?_
      replace h := obd_of h; obtain ⟨a7, rfl, h⟩ := h
      replace h := obd_of h; obtain ⟨x8, hx8, h⟩ := h
      refine jr_iaload jf_210_23 hx8 ?_
      refine jr_iconst jf_210_24 jc_i_3 ?_
      replace h := ite_or h; rcases h with ⟨hc, h⟩ | ⟨hc, h⟩
      · refine jr_if2_eq_t jf_210_25 hc ?_
        refine jr_iconst jf_210_58 jc_i_m1 ?_
        obtain ⟨rfl, rfl⟩ := Prod.mk.inj (Option.some.inj h)
        exact jr_retI jf_210_59 jmt_210
      · refine jr_if2_eq_f jf_210_25 hc ?_
        refine jr_iload_n jf_210_28 rfl hl2 ?_
        replace h := ite_or h; rcases h with ⟨hc, h⟩ | ⟨hc, h⟩
        · refine jr_if_lt_t jf_210_29 hc ?_
          refine jr_iconst jf_210_58 jc_i_m1 ?_
          obtain ⟨rfl, rfl⟩ := Prod.mk.inj (Option.some.inj h)
          exact jr_retI jf_210_59 jmt_210
        · refine jr_if_lt_f jf_210_29 hc ?_
          refine jr_iload_n jf_210_32 rfl hl3 ?_
          refine jr_iload_n jf_210_33 rfl hl2 ?_
          replace h := ite_or h; rcases h with ⟨hc, h⟩ | ⟨hc, h⟩
          · refine jr_if2_lt_t jf_210_34 hc ?_
            refine jr_iconst jf_210_58 jc_i_m1 ?_
            obtain ⟨rfl, rfl⟩ := Prod.mk.inj (Option.some.inj h)
            exact jr_retI jf_210_59 jmt_210
          · refine jr_if2_lt_f jf_210_34 hc ?_
            refine jr_iload_n jf_210_37 rfl hl3 ?_
            refine jr_aload_n jf_210_38 rfl hl0 ?_
            replace h := obd_of h; obtain ⟨x9, hx9, h⟩ := h
            refine jr_getA jf_210_39 hx9 ?_
            refine jr_iload_n jf_210_42 rfl hl1 ?_
            replace h := obd_of h; obtain ⟨a10, rfl, h⟩ := h
            replace h := obd_of h; obtain ⟨x11, hx11, h⟩ := h
            refine jr_iaload jf_210_43 hx11 ?_
            replace h := ite_or h; rcases h with ⟨hc, h⟩ | ⟨hc, h⟩
            · refine jr_if2_ge_t jf_210_44 hc ?_
              refine jr_iconst jf_210_58 jc_i_m1 ?_
              obtain ⟨rfl, rfl⟩ := Prod.mk.inj (Option.some.inj h)
              exact jr_retI jf_210_59 jmt_210
            · refine jr_if2_ge_f jf_210_44 hc ?_
              refine jr_iload jf_210_47 hl4 ?_
              refine jr_iconst jf_210_49 jc_i_1 ?_
              refine jr_bipush jf_210_50 jc_b_64 ?_
              refine jr_S3_3 jf_210_52 (by omega) (r_R_in (by omega) _ _ _ _ _ rfl) (Nat.le_of_ble_eq_true rfl) jml_189 (Nat.le_of_ble_eq_true rfl) ?_
              replace h := ite_or h; rcases h with ⟨hc, h⟩ | ⟨hc, h⟩
              · refine jr_ifz_ne_t jf_210_55 hc ?_
                refine jr_iload_n jf_210_60 rfl hl2 ?_
                refine jr_istore jf_210_61 jml_210 (by decide) ?_
                exact r_R_loop_63 hd _ _ _ _ _ _ _ _ _ _ _ _ (jg1_ne rfl hl0) (jg1_ne rfl hl1) (jg1_ne rfl hl2) (jg1_ne rfl hl3) (jg1_ne rfl hl4) (jg1_ne rfl hl5) jg1_same h
              · refine jr_ifz_ne_f jf_210_55 hc ?_
                refine jr_iconst jf_210_58 jc_i_m1 ?_
                obtain ⟨rfl, rfl⟩ := Prod.mk.inj (Option.some.inj h)
                exact jr_retI jf_210_59 jmt_210
    · refine jr_if2_ne_t jf_210_15 hc ?_
      refine jr_iconst jf_210_58 jc_i_m1 ?_
      obtain ⟨rfl, rfl⟩ := Prod.mk.inj (Option.some.inj h)
      exact jr_retI jf_210_59 jmt_210
  · refine jr_ifz_eq_t jf_210_5 hc ?_
    refine jr_iconst jf_210_58 jc_i_m1 ?_
    obtain ⟨rfl, rfl⟩ := Prod.mk.inj (Option.some.inj h)
    exact jr_retI jf_210_59 jmt_210
set_option maxRecDepth 10000 in
set_option maxHeartbeats 4000000 in
theorem r_R_loop {N B : Nat} {SA : Nat → Nat} {d : Nat} (hd : 2 ≤ d) : ∀ (v0 : Nat) (v1 : Int32) (v2 : Int32) (v3 : Int32) (v4 : Int32) (v5 : Int64) (μ : JMem) (r : Int32) (μ9 : JMem), g_R_loop N B v0 v1 v2 v3 v4 v5 μ = some (r, μ9) → jR B SA d m_R_loop 0 (lv_args 0 [.ref v0, .int v1, .int v2, .int v3, .int v4, .long v5]) [] μ (some (.int r)) μ9 := by
  intro v0 v1 v2 v3 v4 v5 μ r μ9 h
  exact r_R_loop_e hd (lv_args 0 _) _ _ _ _ _ _ _ _ _ (by simp [lv_args, jget, rv_cat, cat_int, cat_long, cat_double, cat_float, cat_ref]) (by simp [lv_args, jget, rv_cat, cat_int, cat_long, cat_double, cat_float, cat_ref]) (by simp [lv_args, jget, rv_cat, cat_int, cat_long, cat_double, cat_float, cat_ref]) (by simp [lv_args, jget, rv_cat, cat_int, cat_long, cat_double, cat_float, cat_ref]) (by simp [lv_args, jget, rv_cat, cat_int, cat_long, cat_double, cat_float, cat_ref]) (by simp [lv_args, jget, rv_cat, cat_int, cat_long, cat_double, cat_float, cat_ref]) h
/-! FilterBenchModel.within(II)Z -/
set_option maxRecDepth 10000 in
set_option maxHeartbeats 4000000 in
theorem r_R_within_e {N B : Nat} {SA : Nat → Nat} {d : Nat} (hd : 2 ≤ d) : ∀ (L : JLoc) (v0 : Nat) (v1 : Int32) (v2 : Int32) (μ : JMem) (r : Bool) (μ9 : JMem), jget L 0 = .ref v0 → jget L 1 = .int v1 → jget L 2 = .int v2 → g_R_within N B v0 v1 v2 μ = some (r, μ9) → jR B SA d m_R_within 0 L [] μ (some (.int (jb r))) μ9 := by
  intro L v0 v1 v2 μ r μ9 hl0 hl1 hl2 h
  unfold g_R_within at h
  refine jr_aload_n jf_212_0 rfl hl0 ?_
  refine jr_iload_n jf_212_1 rfl hl1 ?_
  replace h := jgd_of h; obtain ⟨hb1, h⟩ := h
  replace h := obd_of h; obtain ⟨x2, hx2, h⟩ := h
  refine jr_V6_1 jf_212_2 hb1 (by omega) (r_R_isSection (by omega) _ _ _ _ hx2) (Nat.le_of_ble_eq_true rfl) jml_195 (Nat.le_of_ble_eq_true rfl) ?_
  replace h := ite_or h; rcases h with ⟨hc, h⟩ | ⟨hc, h⟩
  · refine jr_ifz_eq_f jf_212_5 hc ?_
    refine jr_aload_n jf_212_8 rfl hl0 ?_
    refine jr_iload_n jf_212_9 rfl hl2 ?_
    replace h := jgd_of h; obtain ⟨hb3, h⟩ := h
    replace h := obd_of h; obtain ⟨x4, hx4, h⟩ := h
    refine jr_V6_1 jf_212_10 hb3 (by omega) (r_R_isChain (by omega) _ _ _ _ hx4) (Nat.le_of_ble_eq_true rfl) jml_206 (Nat.le_of_ble_eq_true rfl) ?_
    replace h := ite_or h; rcases h with ⟨hc, h⟩ | ⟨hc, h⟩
    · refine jr_ifz_eq_f jf_212_13 hc ?_
      refine jr_aload_n jf_212_16 rfl hl0 ?_
      replace h := obd_of h; obtain ⟨x5, hx5, h⟩ := h
      refine jr_getA jf_212_17 hx5 ?_
      refine jr_iload_n jf_212_20 rfl hl1 ?_
      replace h := obd_of h; obtain ⟨a6, rfl, h⟩ := h
      replace h := obd_of h; obtain ⟨x7, hx7, h⟩ := h
      refine jr_iaload jf_212_21 hx7 ?_
      refine jr_bipush jf_212_22 jc_b_15 ?_
      replace h := ite_or h; rcases h with ⟨hc, h⟩ | ⟨hc, h⟩
      · refine jr_if2_ne_f jf_212_24 hc ?_
        refine jr_aload_n jf_212_27 rfl hl0 ?_
        replace h := obd_of h; obtain ⟨x8, hx8, h⟩ := h
        refine jr_getA jf_212_28 hx8 ?_
        refine jr_iload_n jf_212_31 rfl hl1 ?_
        replace h := obd_of h; obtain ⟨a9, rfl, h⟩ := h
        replace h := obd_of h; obtain ⟨x10, hx10, h⟩ := h
        refine jr_iaload jf_212_32 hx10 ?_
        refine jr_iload_n jf_212_33 rfl hl2 ?_
        replace h := ite_or h; rcases h with ⟨hc, h⟩ | ⟨hc, h⟩
        · refine jr_if2_le_t jf_212_34 hc ?_
          refine jr_iconst jf_212_47 jc_i_0 ?_
          obtain ⟨rfl, rfl⟩ := Prod.mk.inj (Option.some.inj h)
          exact jr_retZ (x := false) jf_212_48 jmt_212
        · refine jr_if2_le_f jf_212_34 hc ?_
          refine jr_aload_n jf_212_37 rfl hl0 ?_
          replace h := obd_of h; obtain ⟨x11, hx11, h⟩ := h
          refine jr_getA jf_212_38 hx11 ?_
          refine jr_iload_n jf_212_41 rfl hl1 ?_
          replace h := obd_of h; obtain ⟨a12, rfl, h⟩ := h
          replace h := obd_of h; obtain ⟨x13, hx13, h⟩ := h
          refine jr_iaload jf_212_42 hx13 ?_
          refine jr_iconst jf_212_43 jc_i_m1 ?_
          replace h := ite_or h; rcases h with ⟨hc, h⟩ | ⟨hc, h⟩
          · refine jr_if2_eq_t jf_212_44 hc ?_
            refine jr_aload_n jf_212_49 rfl hl0 ?_
            replace h := obd_of h; obtain ⟨x14, hx14, h⟩ := h
            refine jr_getA jf_212_50 hx14 ?_
            refine jr_iload_n jf_212_53 rfl hl2 ?_
            replace h := obd_of h; obtain ⟨a15, rfl, h⟩ := h
            replace h := obd_of h; obtain ⟨x16, hx16, h⟩ := h
            refine jr_iaload jf_212_54 hx16 ?_
            refine jr_iconst jf_212_55 jc_i_m1 ?_
            replace h := ite_or h; rcases h with ⟨hc, h⟩ | ⟨hc, h⟩
            · refine jr_if2_ne_f jf_212_56 hc ?_
              refine jr_aload_n jf_212_59 rfl hl0 ?_
              replace h := obd_of h; obtain ⟨x17, hx17, h⟩ := h
              refine jr_getA jf_212_60 hx17 ?_
              refine jr_iload_n jf_212_63 rfl hl2 ?_
              replace h := obd_of h; obtain ⟨a18, rfl, h⟩ := h
              replace h := obd_of h; obtain ⟨x19, hx19, h⟩ := h
              refine jr_iaload jf_212_64 hx19 ?_
              replace h := ite_or h; rcases h with ⟨hc, h⟩ | ⟨hc, h⟩
              · refine jr_if_eq_t jf_212_65 hc ?_
                refine jr_iconst jf_212_94 jc_i_0 ?_
                obtain ⟨rfl, rfl⟩ := Prod.mk.inj (Option.some.inj h)
                exact jr_retZ (x := false) jf_212_95 jmt_212
              · refine jr_if_eq_f jf_212_65 hc ?_
                refine jr_aload_n jf_212_68 rfl hl0 ?_
                refine jr_iload_n jf_212_69 rfl hl2 ?_
                replace h := jgd_of h; obtain ⟨hb20, h⟩ := h
                replace h := obd_of h; obtain ⟨x21, hx21, h⟩ := h
                refine jr_V6_1 jf_212_70 hb20 (by omega) (r_R_sortOf (by omega) _ _ _ _ hx21) (Nat.le_of_ble_eq_true rfl) jml_207 (Nat.le_of_ble_eq_true rfl) ?_
                refine jr_aload_n jf_212_73 rfl hl0 ?_
                replace h := obd_of h; obtain ⟨x22, hx22, h⟩ := h
                refine jr_getA jf_212_74 hx22 ?_
                refine jr_iload_n jf_212_77 rfl hl1 ?_
                replace h := obd_of h; obtain ⟨a23, rfl, h⟩ := h
                replace h := obd_of h; obtain ⟨x24, hx24, h⟩ := h
                refine jr_iaload jf_212_78 hx24 ?_
                replace h := ite_or h; rcases h with ⟨hc, h⟩ | ⟨hc, h⟩
                · refine jr_if2_ne_f jf_212_79 hc ?_
                  refine jr_aload_n jf_212_82 rfl hl0 ?_
                  refine jr_iload_n jf_212_83 rfl hl2 ?_
                  refine jr_bipush jf_212_84 jc_b_12 ?_
                  refine jr_bipush jf_212_86 jc_b_14 ?_
                  replace h := jgd_of h; obtain ⟨hb25, h⟩ := h
                  replace h := obd_of h; obtain ⟨x26, hx26, h⟩ := h
                  refine jr_V6_3 jf_212_88 hb25 (by omega) (r_R_countOf (by omega) _ _ _ _ _ _ hx26) (Nat.le_of_ble_eq_true rfl) jml_208 (Nat.le_of_ble_eq_true rfl) ?_
                  replace h := ite_or h; rcases h with ⟨hc, h⟩ | ⟨hc, h⟩
                  · refine jr_if_le_t jf_212_91 hc ?_
                    refine jr_aload_n jf_212_96 rfl hl0 ?_
                    replace h := obd_of h; obtain ⟨x27, hx27, h⟩ := h
                    refine jr_getA jf_212_97 hx27 ?_
                    refine jr_iload_n jf_212_100 rfl hl1 ?_
                    refine jr_iload_n jf_212_101 rfl hl2 ?_
                    replace h := obd_of h; obtain ⟨a28, rfl, h⟩ := h
                    replace h := obd_of h; obtain ⟨μ29, hμ29, h⟩ := h
                    refine jr_iastore jf_212_102 hμ29 ?_
                    refine jr_aload_n jf_212_103 rfl hl0 ?_
                    replace h := obd_of h; obtain ⟨x30, hx30, h⟩ := h
                    refine jr_getA jf_212_104 hx30 ?_
                    refine jr_iload_n jf_212_107 rfl hl2 ?_
                    refine jr_iload_n jf_212_108 rfl hl1 ?_
                    replace h := obd_of h; obtain ⟨a31, rfl, h⟩ := h
                    replace h := obd_of h; obtain ⟨μ32, hμ32, h⟩ := h
                    refine jr_iastore jf_212_109 hμ32 ?_
                    refine jr_iconst jf_212_110 jc_i_1 ?_
                    obtain ⟨rfl, rfl⟩ := Prod.mk.inj (Option.some.inj h)
                    exact jr_retZ (x := true) jf_212_111 jmt_212
                  · refine jr_if_le_f jf_212_91 hc ?_
                    refine jr_iconst jf_212_94 jc_i_0 ?_
                    obtain ⟨rfl, rfl⟩ := Prod.mk.inj (Option.some.inj h)
                    exact jr_retZ (x := false) jf_212_95 jmt_212
                · refine jr_if2_ne_t jf_212_79 hc ?_
                  refine jr_iconst jf_212_94 jc_i_0 ?_
                  obtain ⟨rfl, rfl⟩ := Prod.mk.inj (Option.some.inj h)
                  exact jr_retZ (x := false) jf_212_95 jmt_212
            · refine jr_if2_ne_t jf_212_56 hc ?_
              refine jr_iconst jf_212_94 jc_i_0 ?_
              obtain ⟨rfl, rfl⟩ := Prod.mk.inj (Option.some.inj h)
              exact jr_retZ (x := false) jf_212_95 jmt_212
          · refine jr_if2_eq_f jf_212_44 hc ?_
            refine jr_iconst jf_212_47 jc_i_0 ?_
            obtain ⟨rfl, rfl⟩ := Prod.mk.inj (Option.some.inj h)
            exact jr_retZ (x := false) jf_212_48 jmt_212
      · refine jr_if2_ne_t jf_212_24 hc ?_
        refine jr_iconst jf_212_47 jc_i_0 ?_
        obtain ⟨rfl, rfl⟩ := Prod.mk.inj (Option.some.inj h)
        exact jr_retZ (x := false) jf_212_48 jmt_212
    · refine jr_ifz_eq_t jf_212_13 hc ?_
      refine jr_iconst jf_212_47 jc_i_0 ?_
      obtain ⟨rfl, rfl⟩ := Prod.mk.inj (Option.some.inj h)
      exact jr_retZ (x := false) jf_212_48 jmt_212
  · refine jr_ifz_eq_t jf_212_5 hc ?_
    refine jr_iconst jf_212_47 jc_i_0 ?_
    obtain ⟨rfl, rfl⟩ := Prod.mk.inj (Option.some.inj h)
    exact jr_retZ (x := false) jf_212_48 jmt_212
set_option maxRecDepth 10000 in
set_option maxHeartbeats 4000000 in
theorem r_R_within {N B : Nat} {SA : Nat → Nat} {d : Nat} (hd : 2 ≤ d) : ∀ (v0 : Nat) (v1 : Int32) (v2 : Int32) (μ : JMem) (r : Bool) (μ9 : JMem), g_R_within N B v0 v1 v2 μ = some (r, μ9) → jR B SA d m_R_within 0 (lv_args 0 [.ref v0, .int v1, .int v2]) [] μ (some (.int (jb r))) μ9 := by
  intro v0 v1 v2 μ r μ9 h
  exact r_R_within_e hd (lv_args 0 _) _ _ _ _ _ _ (by simp [lv_args, jget, rv_cat, cat_int, cat_long, cat_double, cat_float, cat_ref]) (by simp [lv_args, jget, rv_cat, cat_int, cat_long, cat_double, cat_float, cat_ref]) (by simp [lv_args, jget, rv_cat, cat_int, cat_long, cat_double, cat_float, cat_ref]) h
/-! FilterBenchModel.begins(I)V -/
set_option maxRecDepth 10000 in
set_option maxHeartbeats 4000000 in
theorem r_R_begins_e {B : Nat} {SA : Nat → Nat} {d : Nat} (hd : 0 ≤ d) : ∀ (L : JLoc) (v0 : Nat) (v1 : Int32) (μ : JMem) (μ9 : JMem), jget L 0 = .ref v0 → jget L 1 = .int v1 → g_R_begins B v0 v1 μ = some μ9 → jR B SA d m_R_begins 0 L [] μ none μ9 := by
  intro L v0 v1 μ μ9 hl0 hl1 h
  unfold g_R_begins at h
  refine jr_aload_n jf_217_0 rfl hl0 ?_
  refine jr_iload_n jf_217_1 rfl hl1 ?_
  replace h := obd_of h; obtain ⟨μ1, hμ1, h⟩ := h
  refine jr_putI jf_217_2 rfl hμ1 ?_
  refine jr_aload_n jf_217_5 rfl hl0 ?_
  refine jr_iconst jf_217_6 jc_i_0 ?_
  replace h := obd_of h; obtain ⟨μ2, hμ2, h⟩ := h
  refine jr_putI jf_217_7 rfl hμ2 ?_
  refine jr_aload_n jf_217_10 rfl hl0 ?_
  refine jr_dconst0 jf_217_11 ?_
  replace h := obd_of h; obtain ⟨μ3, hμ3, h⟩ := h
  refine jr_putD jf_217_12 rfl hμ3 ?_
  refine jr_aload_n jf_217_15 rfl hl0 ?_
  refine jr_lconst0 jf_217_16 ?_
  replace h := obd_of h; obtain ⟨μ4, hμ4, h⟩ := h
  refine jr_putJ jf_217_17 rfl hμ4 ?_
  obtain rfl := Option.some.inj h
  exact jr_return jf_217_20 jmt_217
set_option maxRecDepth 10000 in
set_option maxHeartbeats 4000000 in
theorem r_R_begins {B : Nat} {SA : Nat → Nat} {d : Nat} (hd : 0 ≤ d) : ∀ (v0 : Nat) (v1 : Int32) (μ : JMem) (μ9 : JMem), g_R_begins B v0 v1 μ = some μ9 → jR B SA d m_R_begins 0 (lv_args 0 [.ref v0, .int v1]) [] μ none μ9 := by
  intro v0 v1 μ μ9 h
  exact r_R_begins_e hd (lv_args 0 _) _ _ _ _ (by simp [lv_args, jget, rv_cat, cat_int, cat_long, cat_double, cat_float, cat_ref]) (by simp [lv_args, jget, rv_cat, cat_int, cat_long, cat_double, cat_float, cat_ref]) h
/-! FilterBenchModel.cut(JI)D -/
set_option maxRecDepth 10000 in
set_option maxHeartbeats 4000000 in
theorem r_R_cut_e {B : Nat} {SA : Nat → Nat} {d : Nat} (hd : 0 ≤ d) : ∀ (L : JLoc) (v0 : Int64) (v2 : Int32) (μ : JMem) (r : UInt64), jget L 0 = .long v0 → jget L 2 = .int v2 → g_R_cut v0 v2 = r → jR B SA d m_R_cut 0 L [] μ (some (.double r)) μ := by
  intro L v0 v2 μ r hl0 hl2 h
  unfold g_R_cut at h
  refine jr_iload_n jf_224_0 rfl hl2 ?_
  refine jr_iconst jf_224_1 jc_i_1 ?_
  replace h := ite_or h; rcases h with ⟨hc, h⟩ | ⟨hc, h⟩
  · refine jr_if2_ne_f jf_224_2 hc ?_
    refine jr_lload_n jf_224_5 rfl hl0 ?_
    refine jr_l2i jf_224_6 ?_
    refine jr_i2s jf_224_7 ?_
    refine jr_i2d jf_224_8 ?_
    subst h
    exact jr_retD jf_224_9 jmt_224
  · refine jr_if2_ne_t jf_224_2 hc ?_
    refine jr_lload_n jf_224_10 rfl hl0 ?_
    refine jr_ldc2l jf_224_11 ?_
    refine jr_lcmp jf_224_14 ?_
    replace h := ite_or h; rcases h with ⟨hc, h⟩ | ⟨hc, h⟩
    · refine jr_ifl_le_t jf_224_15 hc ?_
      refine jr_lload_n jf_224_24 rfl hl0 ?_
      refine jr_ldc2l jf_224_25 ?_
      refine jr_lcmp jf_224_28 ?_
      replace h := ite_or h; rcases h with ⟨hc, h⟩ | ⟨hc, h⟩
      · refine jr_ifl_ge_t jf_224_29 hc ?_
        refine jr_lload_n jf_224_38 rfl hl0 ?_
        refine jr_l2d jf_224_39 ?_
        subst h
        exact jr_retD jf_224_40 jmt_224
      · refine jr_ifl_ge_f jf_224_29 hc ?_
        refine jr_ldc2d jf_224_32 ?_
        refine jr_goto jf_224_35 ?_
        subst h
        exact jr_retD jf_224_40 jmt_224
    · refine jr_ifl_le_f jf_224_15 hc ?_
      refine jr_ldc2d jf_224_18 ?_
      refine jr_goto jf_224_21 ?_
      subst h
      exact jr_retD jf_224_40 jmt_224
set_option maxRecDepth 10000 in
set_option maxHeartbeats 4000000 in
theorem r_R_cut {B : Nat} {SA : Nat → Nat} {d : Nat} (hd : 0 ≤ d) : ∀ (v0 : Int64) (v2 : Int32) (μ : JMem) (r : UInt64), g_R_cut v0 v2 = r → jR B SA d m_R_cut 0 (lv_args 0 [.long v0, .int v2]) [] μ (some (.double r)) μ := by
  intro v0 v2 μ r h
  exact r_R_cut_e hd (lv_args 0 _) _ _ _ _ (by simp [lv_args, jget, rv_cat, cat_int, cat_long, cat_double, cat_float, cat_ref]) (by simp [lv_args, jget, rv_cat, cat_int, cat_long, cat_double, cat_float, cat_ref]) h
/-! FilterBenchModel.comes()D -/
set_option maxRecDepth 10000 in
set_option maxHeartbeats 4000000 in
theorem r_R_comes_105 {B : Nat} {SA : Nat → Nat} {d : Nat} (hd : 1 ≤ d) : ∀ (L : JLoc) (v0 : Nat) (v1 : Int32) (v2 : Int64) (μ : JMem) (r : UInt64) (μ9 : JMem), jget L 0 = .ref v0 → jget L 1 = .int v1 → jget L 2 = .long v2 → g_R_comes_105 B v0 v1 v2 μ = some (r, μ9) → jR B SA d m_R_comes 105 L [] μ (some (.double r)) μ9 := by
  intro L v0 v1 v2 μ r μ9 hl0 hl1 hl2 h
  unfold g_R_comes_105 at h
  refine jr_iconst jf_223_105 jc_i_2 ?_
  refine jr_lload_n jf_223_106 rfl hl2 ?_
  refine jr_S3_2 jf_223_107 (by omega) (r_R_isValue (by omega) _ _ _ _ rfl) (Nat.le_of_ble_eq_true rfl) jml_197 (Nat.le_of_ble_eq_true rfl) ?_
  replace h := ite_or h; rcases h with ⟨hc, h⟩ | ⟨hc, h⟩
  · refine jr_ifz_eq_f jf_223_110 hc ?_
    refine jr_lload_n jf_223_113 rfl hl2 ?_
    refine jr_l2d jf_223_114 ?_
    obtain ⟨rfl, rfl⟩ := Prod.mk.inj (Option.some.inj h)
    exact jr_retD jf_223_115 jmt_223
  · refine jr_ifz_eq_t jf_223_110 hc ?_
    refine jr_aload_n jf_223_116 rfl hl0 ?_
    replace h := obd_of h; obtain ⟨x1, hx1, h⟩ := h
    refine jr_getA jf_223_117 hx1 ?_
    refine jr_iload_n jf_223_120 rfl hl1 ?_
    refine jr_dup2_1 jf_223_121 rfl (rv_cat _) ?_
    replace h := obd_of h; obtain ⟨a2, rfl, h⟩ := h
    replace h := obd_of h; obtain ⟨x3, hx3, h⟩ := h
    refine jr_iaload jf_223_122 hx3 ?_
    refine jr_iconst jf_223_123 jc_i_1 ?_
    refine jr_iadd jf_223_124 ?_
    replace h := obd_of h; obtain ⟨μ4, hμ4, h⟩ := h
    refine jr_iastore jf_223_125 hμ4 ?_
    refine jr_lload_n jf_223_126 rfl hl2 ?_
    refine jr_aload_n jf_223_127 rfl hl0 ?_
    replace h := obd_of h; obtain ⟨x5, hx5, h⟩ := h
    refine jr_getA jf_223_128 hx5 ?_
    refine jr_iload_n jf_223_131 rfl hl1 ?_
    replace h := obd_of h; obtain ⟨a6, rfl, h⟩ := h
    replace h := obd_of h; obtain ⟨x7, hx7, h⟩ := h
    refine jr_iaload jf_223_132 hx7 ?_
    refine jr_S3_2 jf_223_133 (by omega) (r_R_cut (by omega) _ _ _ _ rfl) (Nat.le_of_ble_eq_true rfl) jml_224 (Nat.le_of_ble_eq_true rfl) ?_
    obtain ⟨rfl, rfl⟩ := Prod.mk.inj (Option.some.inj h)
    exact jr_retD jf_223_136 jmt_223
set_option maxRecDepth 10000 in
set_option maxHeartbeats 4000000 in
theorem r_R_comes_e {B : Nat} {SA : Nat → Nat} {d : Nat} (hd : 1 ≤ d) : ∀ (L : JLoc) (v0 : Nat) (μ : JMem) (r : UInt64) (μ9 : JMem), jget L 0 = .ref v0 → g_R_comes B v0 μ = some (r, μ9) → jR B SA d m_R_comes 0 L [] μ (some (.double r)) μ9 := by
  intro L v0 μ r μ9 hl0 h
  unfold g_R_comes at h
  refine jr_aload_n jf_223_0 rfl hl0 ?_
  replace h := obd_of h; obtain ⟨x1, hx1, h⟩ := h
  refine jr_getI jf_223_1 hx1 ?_
  refine jr_istore_n jf_223_4 rfl jml_223 (by decide) ?_
  refine jr_aload_n jf_223_5 rfl (jg1_pre (by first | rfl | exact rv_cat _) hl0) ?_
  replace h := obd_of h; obtain ⟨x2, hx2, h⟩ := h
  refine jr_getA jf_223_6 hx2 ?_
  refine jr_iload_n jf_223_9 rfl jg1_same ?_
  replace h := obd_of h; obtain ⟨a3, rfl, h⟩ := h
  replace h := obd_of h; obtain ⟨x4, hx4, h⟩ := h
  refine jr_iaload jf_223_10 hx4 ?_
  refine jr_iconst jf_223_11 jc_i_2 ?_
  replace h := ite_or h; rcases h with ⟨hc, h⟩ | ⟨hc, h⟩
  · refine jr_if2_eq_t jf_223_12 hc ?_
    refine jr_lconst0 jf_223_20 ?_
    refine jr_lstore_n jf_223_21 rfl jml_223 (by decide) ?_
    refine jr_aload_n jf_223_22 rfl (jg2_ne rfl (jg1_pre (by first | rfl | exact rv_cat _) hl0)) ?_
    replace h := obd_of h; obtain ⟨x5, hx5, h⟩ := h
    refine jr_getA jf_223_23 hx5 ?_
    refine jr_iload_n jf_223_26 rfl (jg2_pre rfl jg1_same) ?_
    replace h := obd_of h; obtain ⟨a6, rfl, h⟩ := h
    replace h := obd_of h; obtain ⟨x7, hx7, h⟩ := h
    refine jr_iaload jf_223_27 hx7 ?_
    replace h := ite_or h; rcases h with ⟨hc, h⟩ | ⟨hc, h⟩
    · refine jr_if_ne_f jf_223_28 hc ?_
      refine jr_aload_n jf_223_31 rfl (jg2_ne rfl (jg1_pre (by first | rfl | exact rv_cat _) hl0)) ?_
      replace h := obd_of h; obtain ⟨x8, hx8, h⟩ := h
      refine jr_getJ jf_223_32 hx8 ?_
      refine jr_ldc2l jf_223_35 ?_
      refine jr_ladd jf_223_38 ?_
      refine jr_ldc2l jf_223_39 ?_
      replace h := obd_of h; obtain ⟨x9, hx9, h⟩ := h
      refine jr_S3_2 jf_223_42 (by omega) (r_R_floor (by omega) _ _ _ _ hx9) (Nat.le_of_ble_eq_true rfl) jml_201 (Nat.le_of_ble_eq_true rfl) ?_
      refine jr_lstore_n jf_223_45 rfl jml_223 (by decide) ?_
      refine jr_goto jf_223_46 ?_
      exact r_R_comes_105 hd _ _ _ _ _ _ _ (jg2_ne rfl (jg2_ne rfl (jg1_pre (by first | rfl | exact rv_cat _) hl0))) (jg2_pre rfl (jg2_pre rfl jg1_same)) jg2_same h
    · refine jr_if_ne_t jf_223_28 hc ?_
      refine jr_aload_n jf_223_49 rfl (jg2_ne rfl (jg1_pre (by first | rfl | exact rv_cat _) hl0)) ?_
      replace h := obd_of h; obtain ⟨x10, hx10, h⟩ := h
      refine jr_getA jf_223_50 hx10 ?_
      refine jr_iload_n jf_223_53 rfl (jg2_pre rfl jg1_same) ?_
      replace h := obd_of h; obtain ⟨a11, rfl, h⟩ := h
      replace h := obd_of h; obtain ⟨x12, hx12, h⟩ := h
      refine jr_iaload jf_223_54 hx12 ?_
      refine jr_iconst jf_223_55 jc_i_1 ?_
      replace h := ite_or h; rcases h with ⟨hc, h⟩ | ⟨hc, h⟩
      · refine jr_if2_ne_f jf_223_56 hc ?_
        refine jr_aload_n jf_223_59 rfl (jg2_ne rfl (jg1_pre (by first | rfl | exact rv_cat _) hl0)) ?_
        replace h := obd_of h; obtain ⟨x13, hx13, h⟩ := h
        refine jr_getJ jf_223_60 hx13 ?_
        refine jr_ldc2l jf_223_63 ?_
        refine jr_ldiv jf_223_66 (by simp only [jdivL]; exact if_neg (by decide)) ?_
        refine jr_lstore_n jf_223_67 rfl jml_223 (by decide) ?_
        refine jr_goto jf_223_68 ?_
        exact r_R_comes_105 hd _ _ _ _ _ _ _ (jg2_ne rfl (jg2_ne rfl (jg1_pre (by first | rfl | exact rv_cat _) hl0))) (jg2_pre rfl (jg2_pre rfl jg1_same)) jg2_same h
      · refine jr_if2_ne_t jf_223_56 hc ?_
        refine jr_aload_n jf_223_71 rfl (jg2_ne rfl (jg1_pre (by first | rfl | exact rv_cat _) hl0)) ?_
        replace h := obd_of h; obtain ⟨x14, hx14, h⟩ := h
        refine jr_getJ jf_223_72 hx14 ?_
        refine jr_aload_n jf_223_75 rfl (jg2_ne rfl (jg1_pre (by first | rfl | exact rv_cat _) hl0)) ?_
        replace h := obd_of h; obtain ⟨x15, hx15, h⟩ := h
        refine jr_getA jf_223_76 hx15 ?_
        refine jr_iload_n jf_223_79 rfl (jg2_pre rfl jg1_same) ?_
        replace h := obd_of h; obtain ⟨a16, rfl, h⟩ := h
        replace h := obd_of h; obtain ⟨x17, hx17, h⟩ := h
        refine jr_laload jf_223_80 hx17 ?_
        refine jr_ladd jf_223_81 ?_
        refine jr_lstore jf_223_82 jml_223 (by decide) ?_
        refine jr_lload jf_223_84 jg2_same ?_
        refine jr_ldc2l jf_223_86 ?_
        refine jr_ldiv jf_223_89 (by simp only [jdivL]; exact if_neg (by decide)) ?_
        refine jr_lstore_n jf_223_90 rfl jml_223 (by decide) ?_
        replace h := jlet_of h
        refine jr_aload_n jf_223_91 rfl (jg2_ne rfl (jg2_ne rfl (jg2_ne rfl (jg1_pre (by first | rfl | exact rv_cat _) hl0)))) ?_
        replace h := obd_of h; obtain ⟨x19, hx19, h⟩ := h
        refine jr_getA jf_223_92 hx19 ?_
        refine jr_iload_n jf_223_95 rfl (jg2_pre rfl (jg2_ne rfl (jg2_pre rfl jg1_same))) ?_
        refine jr_lload jf_223_96 (jg2_ne rfl jg2_same) ?_
        refine jr_ldc2l jf_223_98 ?_
        refine jr_lload_n jf_223_101 rfl jg2_same ?_
        refine jr_lmul jf_223_102 ?_
        refine jr_lsub jf_223_103 ?_
        replace h := obd_of h; obtain ⟨a20, rfl, h⟩ := h
        replace h := obd_of h; obtain ⟨μ21, hμ21, h⟩ := h
        refine jr_lastore jf_223_104 hμ21 ?_
        exact r_R_comes_105 hd _ _ _ _ _ _ _ (jg2_ne rfl (jg2_ne rfl (jg2_ne rfl (jg1_pre (by first | rfl | exact rv_cat _) hl0)))) (jg2_pre rfl (jg2_ne rfl (jg2_pre rfl jg1_same))) jg2_same h
  · refine jr_if2_eq_f jf_223_12 hc ?_
    refine jr_aload_n jf_223_15 rfl (jg1_pre (by first | rfl | exact rv_cat _) hl0) ?_
    replace h := obd_of h; obtain ⟨x22, hx22, h⟩ := h
    refine jr_getD jf_223_16 hx22 ?_
    obtain ⟨rfl, rfl⟩ := Prod.mk.inj (Option.some.inj h)
    exact jr_retD jf_223_19 jmt_223
set_option maxRecDepth 10000 in
set_option maxHeartbeats 4000000 in
theorem r_R_comes {B : Nat} {SA : Nat → Nat} {d : Nat} (hd : 1 ≤ d) : ∀ (v0 : Nat) (μ : JMem) (r : UInt64) (μ9 : JMem), g_R_comes B v0 μ = some (r, μ9) → jR B SA d m_R_comes 0 (lv_args 0 [.ref v0]) [] μ (some (.double r)) μ9 := by
  intro v0 μ r μ9 h
  exact r_R_comes_e hd (lv_args 0 _) _ _ _ _ (by simp [lv_args, jget, rv_cat, cat_int, cat_long, cat_double, cat_float, cat_ref]) h
/-! FilterBenchModel.c(II)D -/
set_option maxRecDepth 10000 in
set_option maxHeartbeats 4000000 in
theorem r_R_c_e {B : Nat} {SA : Nat → Nat} {d : Nat} (hd : 0 ≤ d) : ∀ (L : JLoc) (v0 : Nat) (v1 : Int32) (v2 : Int32) (μ : JMem) (r : UInt64), jget L 0 = .ref v0 → jget L 1 = .int v1 → jget L 2 = .int v2 → g_R_c v0 v1 v2 μ.1 = some r → jR B SA d m_R_c 0 L [] μ (some (.double r)) μ := by
  intro L v0 v1 v2 μ r hl0 hl1 hl2 h
  unfold g_R_c at h
  refine jr_aload_n jf_218_0 rfl hl0 ?_
  replace h := obd_of h; obtain ⟨x1, hx1, h⟩ := h
  refine jr_getA jf_218_1 hx1 ?_
  refine jr_iconst jf_218_4 jc_i_5 ?_
  refine jr_iload_n jf_218_5 rfl hl1 ?_
  refine jr_imul jf_218_6 ?_
  refine jr_iload_n jf_218_7 rfl hl2 ?_
  refine jr_iadd jf_218_8 ?_
  replace h := obd_of h; obtain ⟨a2, rfl, h⟩ := h
  replace h := obd_of h; obtain ⟨x3, hx3, h⟩ := h
  refine jr_daload jf_218_9 hx3 ?_
  obtain rfl := Option.some.inj h
  exact jr_retD jf_218_10 jmt_218
set_option maxRecDepth 10000 in
set_option maxHeartbeats 4000000 in
theorem r_R_c {B : Nat} {SA : Nat → Nat} {d : Nat} (hd : 0 ≤ d) : ∀ (v0 : Nat) (v1 : Int32) (v2 : Int32) (μ : JMem) (r : UInt64), g_R_c v0 v1 v2 μ.1 = some r → jR B SA d m_R_c 0 (lv_args 0 [.ref v0, .int v1, .int v2]) [] μ (some (.double r)) μ := by
  intro v0 v1 v2 μ r h
  exact r_R_c_e hd (lv_args 0 _) _ _ _ _ _ (by simp [lv_args, jget, rv_cat, cat_int, cat_long, cat_double, cat_float, cat_ref]) (by simp [lv_args, jget, rv_cat, cat_int, cat_long, cat_double, cat_float, cat_ref]) (by simp [lv_args, jget, rv_cat, cat_int, cat_long, cat_double, cat_float, cat_ref]) h
/-! FilterBenchModel.leaves()V -/
set_option maxRecDepth 10000 in
set_option maxHeartbeats 4000000 in
theorem r_R_leaves_84 {N B : Nat} {SA : Nat → Nat} {d : Nat} (hd : 0 ≤ d) {k7 : Nat → Int32 → JMem → Option JMem} (i7 : ∀ (L : JLoc) (v0 : Nat) (v1 : Int32) (μ : JMem) (μ9 : JMem), jget L 0 = .ref v0 → jget L 1 = .int v1 → k7 v0 v1 μ = some μ9 → jR B SA d m_R_leaves 7 L [] μ none μ9) : ∀ (L : JLoc) (v0 : Nat) (v1 : Int32) (μ : JMem) (μ9 : JMem), jget L 0 = .ref v0 → jget L 1 = .int v1 → g_R_leaves_84 N B k7 v0 v1 μ = some μ9 → jR B SA d m_R_leaves 84 L [] μ none μ9 := by
  intro L v0 v1 μ μ9 hl0 hl1 h
  unfold g_R_leaves_84 at h
  refine jr_iinc jf_225_84 jc_i_1 jml_225 (by decide) hl1 ?_
  refine jr_goto jf_225_87 ?_
  exact i7 _ _ _ _ _ (jg1_pre (by first | rfl | exact rv_cat _) hl0) jg1_same h
set_option maxRecDepth 10000 in
set_option maxHeartbeats 4000000 in
theorem r_R_leaves_7 {N B : Nat} {SA : Nat → Nat} {d : Nat} (hd : 0 ≤ d) : ∀ (n : Nat), ∀ (L : JLoc) (v0 : Nat) (v1 : Int32) (μ : JMem) (μ9 : JMem), jget L 0 = .ref v0 → jget L 1 = .int v1 → g_R_leaves_7 N B n v0 v1 μ = some μ9 → jR B SA d m_R_leaves 7 L [] μ none μ9 := by
  intro n
  induction n with
  | zero =>
    intro L v0 v1 μ μ9 hl0 hl1 h
    unfold g_R_leaves_7 at h
    cases h
  | succ n ih =>
    intro L v0 v1 μ μ9 hl0 hl1 h
    unfold g_R_leaves_7 at h
    refine jr_iload_n jf_225_7 rfl hl1 ?_
    refine jr_iconst jf_225_8 jc_i_3 ?_
    refine jr_aload_n jf_225_9 rfl hl0 ?_
    replace h := obd_of h; obtain ⟨x1, hx1, h⟩ := h
    refine jr_getI jf_225_10 hx1 ?_
    refine jr_imul jf_225_13 ?_
    refine jr_aload_n jf_225_14 rfl hl0 ?_
    replace h := obd_of h; obtain ⟨x2, hx2, h⟩ := h
    refine jr_getA jf_225_15 hx2 ?_
    refine jr_aload_n jf_225_18 rfl hl0 ?_
    replace h := obd_of h; obtain ⟨x3, hx3, h⟩ := h
    refine jr_getI jf_225_19 hx3 ?_
    replace h := obd_of h; obtain ⟨a4, rfl, h⟩ := h
    replace h := obd_of h; obtain ⟨x5, hx5, h⟩ := h
    refine jr_iaload jf_225_22 hx5 ?_
    refine jr_iadd jf_225_23 ?_
    replace h := ite_or h; rcases h with ⟨hc, h⟩ | ⟨hc, h⟩
    · refine jr_if2_ge_t jf_225_24 hc ?_
      refine jr_aload_n jf_225_90 rfl hl0 ?_
      refine jr_dup jf_225_91 rfl ?_
      replace h := obd_of h; obtain ⟨x6, hx6, h⟩ := h
      refine jr_getI jf_225_92 hx6 ?_
      refine jr_iconst jf_225_95 jc_i_1 ?_
      refine jr_iadd jf_225_96 ?_
      replace h := obd_of h; obtain ⟨μ7, hμ7, h⟩ := h
      refine jr_putI jf_225_97 rfl hμ7 ?_
      obtain rfl := Option.some.inj h
      exact jr_return jf_225_100 jmt_225
    · refine jr_if2_ge_f jf_225_24 hc ?_
      refine jr_aload_n jf_225_27 rfl hl0 ?_
      replace h := obd_of h; obtain ⟨x8, hx8, h⟩ := h
      refine jr_getA jf_225_28 hx8 ?_
      refine jr_iload_n jf_225_31 rfl hl1 ?_
      replace h := obd_of h; obtain ⟨a9, rfl, h⟩ := h
      replace h := obd_of h; obtain ⟨x10, hx10, h⟩ := h
      refine jr_iaload jf_225_32 hx10 ?_
      refine jr_aload_n jf_225_33 rfl hl0 ?_
      replace h := obd_of h; obtain ⟨x11, hx11, h⟩ := h
      refine jr_getI jf_225_34 hx11 ?_
      replace h := ite_or h; rcases h with ⟨hc, h⟩ | ⟨hc, h⟩
      · refine jr_if2_eq_t jf_225_37 hc ?_
        refine jr_aload_n jf_225_43 rfl hl0 ?_
        replace h := obd_of h; obtain ⟨x12, hx12, h⟩ := h
        refine jr_getA jf_225_44 hx12 ?_
        refine jr_bipush jf_225_47 jc_b_64 ?_
        refine jr_iload_n jf_225_49 rfl hl1 ?_
        refine jr_imul jf_225_50 ?_
        refine jr_aload_n jf_225_51 rfl hl0 ?_
        replace h := obd_of h; obtain ⟨x13, hx13, h⟩ := h
        refine jr_getA jf_225_52 hx13 ?_
        refine jr_iload_n jf_225_55 rfl hl1 ?_
        replace h := obd_of h; obtain ⟨a14, rfl, h⟩ := h
        replace h := obd_of h; obtain ⟨x15, hx15, h⟩ := h
        refine jr_iaload jf_225_56 hx15 ?_
        refine jr_iadd jf_225_57 ?_
        refine jr_aload_n jf_225_58 rfl hl0 ?_
        replace h := obd_of h; obtain ⟨x16, hx16, h⟩ := h
        refine jr_getD jf_225_59 hx16 ?_
        replace h := obd_of h; obtain ⟨a17, rfl, h⟩ := h
        replace h := obd_of h; obtain ⟨μ18, hμ18, h⟩ := h
        refine jr_dastore jf_225_62 hμ18 ?_
        refine jr_aload_n jf_225_63 rfl hl0 ?_
        replace h := obd_of h; obtain ⟨x19, hx19, h⟩ := h
        refine jr_getA jf_225_64 hx19 ?_
        refine jr_iload_n jf_225_67 rfl hl1 ?_
        refine jr_aload_n jf_225_68 rfl hl0 ?_
        replace h := obd_of h; obtain ⟨x20, hx20, h⟩ := h
        refine jr_getA jf_225_69 hx20 ?_
        refine jr_iload_n jf_225_72 rfl hl1 ?_
        replace h := obd_of h; obtain ⟨a21, rfl, h⟩ := h
        replace h := obd_of h; obtain ⟨x22, hx22, h⟩ := h
        refine jr_iaload jf_225_73 hx22 ?_
        refine jr_iconst jf_225_74 jc_i_1 ?_
        refine jr_iadd jf_225_75 ?_
        refine jr_aload_n jf_225_76 rfl hl0 ?_
        replace h := obd_of h; obtain ⟨x23, hx23, h⟩ := h
        refine jr_getA jf_225_77 hx23 ?_
        refine jr_iload_n jf_225_80 rfl hl1 ?_
        replace h := obd_of h; obtain ⟨a24, rfl, h⟩ := h
        replace h := obd_of h; obtain ⟨x25, hx25, h⟩ := h
        refine jr_iaload jf_225_81 hx25 ?_
        replace h := obd_of h; obtain ⟨x26, hx26, h⟩ := h
        refine jr_irem jf_225_82 hx26 ?_
        replace h := obd_of h; obtain ⟨a27, rfl, h⟩ := h
        replace h := obd_of h; obtain ⟨μ28, hμ28, h⟩ := h
        refine jr_iastore jf_225_83 hμ28 ?_
        exact r_R_leaves_84 hd ih _ _ _ _ _ hl0 hl1 h
      · refine jr_if2_eq_f jf_225_37 hc ?_
        refine jr_goto jf_225_40 ?_
        exact r_R_leaves_84 hd ih _ _ _ _ _ hl0 hl1 h
set_option maxRecDepth 10000 in
set_option maxHeartbeats 4000000 in
theorem r_R_leaves_e {N B : Nat} {SA : Nat → Nat} {d : Nat} (hd : 0 ≤ d) : ∀ (L : JLoc) (v0 : Nat) (μ : JMem) (μ9 : JMem), jget L 0 = .ref v0 → g_R_leaves N B v0 μ = some μ9 → jR B SA d m_R_leaves 0 L [] μ none μ9 := by
  intro L v0 μ μ9 hl0 h
  unfold g_R_leaves at h
  refine jr_iconst jf_225_0 jc_i_3 ?_
  refine jr_aload_n jf_225_1 rfl hl0 ?_
  replace h := obd_of h; obtain ⟨x1, hx1, h⟩ := h
  refine jr_getI jf_225_2 hx1 ?_
  refine jr_imul jf_225_5 ?_
  refine jr_istore_n jf_225_6 rfl jml_225 (by decide) ?_
  exact r_R_leaves_7 hd _ _ _ _ _ _ (jg1_pre (by first | rfl | exact rv_cat _) hl0) jg1_same h
set_option maxRecDepth 10000 in
set_option maxHeartbeats 4000000 in
theorem r_R_leaves {N B : Nat} {SA : Nat → Nat} {d : Nat} (hd : 0 ≤ d) : ∀ (v0 : Nat) (μ : JMem) (μ9 : JMem), g_R_leaves N B v0 μ = some μ9 → jR B SA d m_R_leaves 0 (lv_args 0 [.ref v0]) [] μ none μ9 := by
  intro v0 μ μ9 h
  exact r_R_leaves_e hd (lv_args 0 _) _ _ _ (by simp [lv_args, jget, rv_cat, cat_int, cat_long, cat_double, cat_float, cat_ref]) h
/-! FilterBenchModel.isEndless(D)Z -/
set_option maxRecDepth 10000 in
set_option maxHeartbeats 4000000 in
theorem r_R_isEndless_16 {B : Nat} {SA : Nat → Nat} {d : Nat} (hd : 0 ≤ d) : ∀ (L : JLoc) (μ : JMem) (r : Bool), g_R_isEndless_16 = r → jR B SA d m_R_isEndless 16 L [] μ (some (.int (jb r))) μ := by
  intro L μ r h
  unfold g_R_isEndless_16 at h
  refine jr_iconst jf_221_16 jc_i_1 ?_
  refine jr_goto jf_221_17 ?_
  subst h
  exact jr_retZ (x := true) jf_221_21 jmt_221
set_option maxRecDepth 10000 in
set_option maxHeartbeats 4000000 in
theorem r_R_isEndless_e {B : Nat} {SA : Nat → Nat} {d : Nat} (hd : 0 ≤ d) : ∀ (L : JLoc) (v0 : UInt64) (μ : JMem) (r : Bool), jget L 0 = .double v0 → g_R_isEndless v0 = r → jR B SA d m_R_isEndless 0 L [] μ (some (.int (jb r))) μ := by
  intro L v0 μ r hl0 h
  unfold g_R_isEndless at h
  refine jr_dload_n jf_221_0 rfl hl0 ?_
  refine jr_ldc2d jf_221_1 ?_
  refine jr_dcmp jf_221_4 ?_
  replace h := ite_or h; rcases h with ⟨hc, h⟩ | ⟨hc, h⟩
  · refine jr_if_eq_t jf_221_5 hc ?_
    exact r_R_isEndless_16 hd _  _ _ h
  · refine jr_if_eq_f jf_221_5 hc ?_
    refine jr_dload_n jf_221_8 rfl hl0 ?_
    refine jr_ldc2d jf_221_9 ?_
    refine jr_dcmp jf_221_12 ?_
    replace h := ite_or h; rcases h with ⟨hc, h⟩ | ⟨hc, h⟩
    · refine jr_if_ne_f jf_221_13 hc ?_
      exact r_R_isEndless_16 hd _  _ _ h
    · refine jr_if_ne_t jf_221_13 hc ?_
      refine jr_iconst jf_221_20 jc_i_0 ?_
      subst h
      exact jr_retZ (x := false) jf_221_21 jmt_221
set_option maxRecDepth 10000 in
set_option maxHeartbeats 4000000 in
theorem r_R_isEndless {B : Nat} {SA : Nat → Nat} {d : Nat} (hd : 0 ≤ d) : ∀ (v0 : UInt64) (μ : JMem) (r : Bool), g_R_isEndless v0 = r → jR B SA d m_R_isEndless 0 (lv_args 0 [.double v0]) [] μ (some (.int (jb r))) μ := by
  intro v0 μ r h
  exact r_R_isEndless_e hd (lv_args 0 _) _ _ _ (by simp [lv_args, jget, rv_cat, cat_int, cat_long, cat_double, cat_float, cat_ref]) h
/-! FilterBenchModel.joins(DZ)V -/
set_option maxRecDepth 10000 in
set_option maxHeartbeats 4000000 in
theorem r_R_joins_156 {B : Nat} {SA : Nat → Nat} {d : Nat} (hd : 1 ≤ d) : ∀ (L : JLoc) (v0 : Nat) (μ : JMem) (μ9 : JMem), jget L 0 = .ref v0 → g_R_joins_156 B v0 μ = some μ9 → jR B SA d m_R_joins 156 L [] μ none μ9 := by
  intro L v0 μ μ9 hl0 h
  unfold g_R_joins_156 at h
  refine jr_aload_n jf_222_156 rfl hl0 ?_
  refine jr_dup jf_222_157 rfl ?_
  replace h := obd_of h; obtain ⟨x1, hx1, h⟩ := h
  refine jr_getI jf_222_158 hx1 ?_
  refine jr_iconst jf_222_161 jc_i_1 ?_
  refine jr_iadd jf_222_162 ?_
  replace h := obd_of h; obtain ⟨μ2, hμ2, h⟩ := h
  refine jr_putI jf_222_163 rfl hμ2 ?_
  obtain rfl := Option.some.inj h
  exact jr_return jf_222_166 jmt_222
set_option maxRecDepth 10000 in
set_option maxHeartbeats 4000000 in
theorem r_R_joins_33 {B : Nat} {SA : Nat → Nat} {d : Nat} (hd : 1 ≤ d) : ∀ (L : JLoc) (v0 : Nat) (μ : JMem) (μ9 : JMem), jget L 0 = .ref v0 → g_R_joins_33 B v0 μ = some μ9 → jR B SA d m_R_joins 33 L [] μ none μ9 := by
  intro L v0 μ μ9 hl0 h
  unfold g_R_joins_33 at h
  refine jr_aload_n jf_222_33 rfl hl0 ?_
  refine jr_ldc2d jf_222_34 ?_
  replace h := obd_of h; obtain ⟨μ1, hμ1, h⟩ := h
  refine jr_putD jf_222_37 rfl hμ1 ?_
  refine jr_goto jf_222_40 ?_
  exact r_R_joins_156 hd _ _ _ _ hl0 h
set_option maxRecDepth 10000 in
set_option maxHeartbeats 4000000 in
theorem r_R_joins_127 {B : Nat} {SA : Nat → Nat} {d : Nat} (hd : 1 ≤ d) : ∀ (L : JLoc) (v0 : Nat) (s0 : UInt64) (s1 : Nat) (μ : JMem) (μ9 : JMem), jget L 0 = .ref v0 → g_R_joins_127 B v0 s0 s1 μ = some μ9 → jR B SA d m_R_joins 127 L [.double s0, .ref s1] μ none μ9 := by
  intro L v0 s0 s1 μ μ9 hl0 h
  unfold g_R_joins_127 at h
  replace h := obd_of h; obtain ⟨μ1, hμ1, h⟩ := h
  refine jr_putD jf_222_127 rfl hμ1 ?_
  refine jr_goto jf_222_130 ?_
  exact r_R_joins_156 hd _ _ _ _ hl0 h
set_option maxRecDepth 10000 in
set_option maxHeartbeats 4000000 in
theorem r_R_joins_153 {B : Nat} {SA : Nat → Nat} {d : Nat} (hd : 1 ≤ d) : ∀ (L : JLoc) (v0 : Nat) (s0 : UInt64) (s1 : Nat) (μ : JMem) (μ9 : JMem), jget L 0 = .ref v0 → g_R_joins_153 B v0 s0 s1 μ = some μ9 → jR B SA d m_R_joins 153 L [.double s0, .ref s1] μ none μ9 := by
  intro L v0 s0 s1 μ μ9 hl0 h
  unfold g_R_joins_153 at h
  replace h := obd_of h; obtain ⟨μ1, hμ1, h⟩ := h
  refine jr_putD jf_222_153 rfl hμ1 ?_
  exact r_R_joins_156 hd _ _ _ _ hl0 h
set_option maxRecDepth 10000 in
set_option maxHeartbeats 4000000 in
theorem r_R_joins_88 {B : Nat} {SA : Nat → Nat} {d : Nat} (hd : 1 ≤ d) : ∀ (L : JLoc) (v0 : Nat) (v1 : UInt64) (v3 : Bool) (μ : JMem) (μ9 : JMem), jget L 0 = .ref v0 → jget L 1 = .double v1 → jget L 3 = .int (jb v3) → g_R_joins_88 B v0 v1 v3 μ = some μ9 → jR B SA d m_R_joins 88 L [] μ none μ9 := by
  intro L v0 v1 v3 μ μ9 hl0 hl1 hl3 h
  unfold g_R_joins_88 at h
  refine jr_aload_n jf_222_88 rfl hl0 ?_
  replace h := obd_of h; obtain ⟨x1, hx1, h⟩ := h
  refine jr_getA jf_222_89 hx1 ?_
  refine jr_aload_n jf_222_92 rfl hl0 ?_
  replace h := obd_of h; obtain ⟨x2, hx2, h⟩ := h
  refine jr_getI jf_222_93 hx2 ?_
  replace h := obd_of h; obtain ⟨a3, rfl, h⟩ := h
  replace h := obd_of h; obtain ⟨x4, hx4, h⟩ := h
  refine jr_iaload jf_222_96 hx4 ?_
  refine jr_iconst jf_222_97 jc_i_1 ?_
  replace h := ite_or h; rcases h with ⟨hc, h⟩ | ⟨hc, h⟩
  · refine jr_if2_ne_f jf_222_98 hc ?_
    refine jr_aload_n jf_222_101 rfl hl0 ?_
    refine jr_iload_n jf_222_102 rfl hl3 ?_
    replace h := ite_or h; rcases h with ⟨hc, h⟩ | ⟨hc, h⟩
    · refine jr_ifz_eq_f jf_222_103 hc ?_
      refine jr_aload_n jf_222_106 rfl hl0 ?_
      replace h := obd_of h; obtain ⟨x5, hx5, h⟩ := h
      refine jr_getD jf_222_107 hx5 ?_
      replace h := obd_of h; obtain ⟨x6, hx6, h⟩ := h
      refine jr_d2f jf_222_110 hx6 ?_
      refine jr_dload_n jf_222_111 rfl hl1 ?_
      replace h := obd_of h; obtain ⟨x7, hx7, h⟩ := h
      refine jr_d2f jf_222_112 hx7 ?_
      replace h := obd_of h; obtain ⟨x8, hx8, h⟩ := h
      refine jr_fsub jf_222_113 hx8 ?_
      replace h := obd_of h; obtain ⟨x9, hx9, h⟩ := h
      refine jr_f2d jf_222_114 hx9 ?_
      refine jr_goto jf_222_115 ?_
      exact r_R_joins_127 hd _ _ _ _ _ _ hl0 h
    · refine jr_ifz_eq_t jf_222_103 hc ?_
      refine jr_aload_n jf_222_118 rfl hl0 ?_
      replace h := obd_of h; obtain ⟨x10, hx10, h⟩ := h
      refine jr_getD jf_222_119 hx10 ?_
      replace h := obd_of h; obtain ⟨x11, hx11, h⟩ := h
      refine jr_d2f jf_222_122 hx11 ?_
      refine jr_dload_n jf_222_123 rfl hl1 ?_
      replace h := obd_of h; obtain ⟨x12, hx12, h⟩ := h
      refine jr_d2f jf_222_124 hx12 ?_
      replace h := obd_of h; obtain ⟨x13, hx13, h⟩ := h
      refine jr_fadd jf_222_125 hx13 ?_
      replace h := obd_of h; obtain ⟨x14, hx14, h⟩ := h
      refine jr_f2d jf_222_126 hx14 ?_
      exact r_R_joins_127 hd _ _ _ _ _ _ hl0 h
  · refine jr_if2_ne_t jf_222_98 hc ?_
    refine jr_aload_n jf_222_133 rfl hl0 ?_
    refine jr_iload_n jf_222_134 rfl hl3 ?_
    replace h := ite_or h; rcases h with ⟨hc, h⟩ | ⟨hc, h⟩
    · refine jr_ifz_eq_f jf_222_135 hc ?_
      refine jr_aload_n jf_222_138 rfl hl0 ?_
      replace h := obd_of h; obtain ⟨x15, hx15, h⟩ := h
      refine jr_getD jf_222_139 hx15 ?_
      refine jr_dload_n jf_222_142 rfl hl1 ?_
      replace h := obd_of h; obtain ⟨x16, hx16, h⟩ := h
      refine jr_dsub jf_222_143 hx16 ?_
      refine jr_goto jf_222_144 ?_
      exact r_R_joins_153 hd _ _ _ _ _ _ hl0 h
    · refine jr_ifz_eq_t jf_222_135 hc ?_
      refine jr_aload_n jf_222_147 rfl hl0 ?_
      replace h := obd_of h; obtain ⟨x17, hx17, h⟩ := h
      refine jr_getD jf_222_148 hx17 ?_
      refine jr_dload_n jf_222_151 rfl hl1 ?_
      replace h := obd_of h; obtain ⟨x18, hx18, h⟩ := h
      refine jr_dadd jf_222_152 hx18 ?_
      exact r_R_joins_153 hd _ _ _ _ _ _ hl0 h
set_option maxRecDepth 10000 in
set_option maxHeartbeats 4000000 in
theorem r_R_joins_74 {B : Nat} {SA : Nat → Nat} {d : Nat} (hd : 1 ≤ d) : ∀ (L : JLoc) (v0 : Nat) (v1 : UInt64) (v3 : Bool) (s0 : Bool) (μ : JMem) (μ9 : JMem), jget L 0 = .ref v0 → jget L 1 = .double v1 → jget L 3 = .int (jb v3) → g_R_joins_74 B v0 v1 v3 s0 μ = some μ9 → jR B SA d m_R_joins 74 L [.int (jb s0)] μ none μ9 := by
  intro L v0 v1 v3 s0 μ μ9 hl0 hl1 hl3 h
  unfold g_R_joins_74 at h
  refine jr_iload_n jf_222_74 rfl hl3 ?_
  replace h := ite_or h; rcases h with ⟨hc, h⟩ | ⟨hc, h⟩
  · refine jr_if2z_ne_f jf_222_75 hc ?_
    refine jr_aload_n jf_222_78 rfl hl0 ?_
    refine jr_ldc2d jf_222_79 ?_
    replace h := obd_of h; obtain ⟨μ1, hμ1, h⟩ := h
    refine jr_putD jf_222_82 rfl hμ1 ?_
    refine jr_goto jf_222_85 ?_
    exact r_R_joins_156 hd _ _ _ _ hl0 h
  · refine jr_if2z_ne_t jf_222_75 hc ?_
    exact r_R_joins_88 hd _ _ _ _ _ _ hl0 hl1 hl3 h
set_option maxRecDepth 10000 in
set_option maxHeartbeats 4000000 in
theorem r_R_joins_e {B : Nat} {SA : Nat → Nat} {d : Nat} (hd : 1 ≤ d) : ∀ (L : JLoc) (v0 : Nat) (v1 : UInt64) (v3 : Bool) (μ : JMem) (μ9 : JMem), jget L 0 = .ref v0 → jget L 1 = .double v1 → jget L 3 = .int (jb v3) → g_R_joins B v0 v1 v3 μ = some μ9 → jR B SA d m_R_joins 0 L [] μ none μ9 := by
  intro L v0 v1 v3 μ μ9 hl0 hl1 hl3 h
  unfold g_R_joins at h
  refine jr_aload_n jf_222_0 rfl hl0 ?_
  replace h := obd_of h; obtain ⟨x1, hx1, h⟩ := h
  refine jr_getI jf_222_1 hx1 ?_
  replace h := ite_or h; rcases h with ⟨hc, h⟩ | ⟨hc, h⟩
  · refine jr_if_ne_f jf_222_4 hc ?_
    refine jr_aload_n jf_222_7 rfl hl0 ?_
    refine jr_dload_n jf_222_8 rfl hl1 ?_
    replace h := obd_of h; obtain ⟨μ2, hμ2, h⟩ := h
    refine jr_putD jf_222_9 rfl hμ2 ?_
    refine jr_goto jf_222_12 ?_
    exact r_R_joins_156 hd _ _ _ _ hl0 h
  · refine jr_if_ne_t jf_222_4 hc ?_
    refine jr_aload_n jf_222_15 rfl hl0 ?_
    replace h := obd_of h; obtain ⟨x3, hx3, h⟩ := h
    refine jr_getD jf_222_16 hx3 ?_
    refine jr_aload_n jf_222_19 rfl hl0 ?_
    replace h := obd_of h; obtain ⟨x4, hx4, h⟩ := h
    refine jr_getD jf_222_20 hx4 ?_
    refine jr_dcmp jf_222_23 ?_
    replace h := ite_or h; rcases h with ⟨hc, h⟩ | ⟨hc, h⟩
    · refine jr_if_ne_f jf_222_24 hc ?_
      refine jr_dload_n jf_222_27 rfl hl1 ?_
      refine jr_dload_n jf_222_28 rfl hl1 ?_
      refine jr_dcmp jf_222_29 ?_
      replace h := ite_or h; rcases h with ⟨hc, h⟩ | ⟨hc, h⟩
      · refine jr_if_eq_t jf_222_30 hc ?_
        refine jr_aload_n jf_222_43 rfl hl0 ?_
        replace h := obd_of h; obtain ⟨x5, hx5, h⟩ := h
        refine jr_getD jf_222_44 hx5 ?_
        refine jr_S3_1 jf_222_47 (by omega) (r_R_isEndless (by omega) _ _ _ rfl) (Nat.le_of_ble_eq_true rfl) jml_221 (Nat.le_of_ble_eq_true rfl) ?_
        replace h := ite_or h; rcases h with ⟨hc, h⟩ | ⟨hc, h⟩
        · refine jr_ifz_eq_f jf_222_50 hc ?_
          refine jr_dload_n jf_222_53 rfl hl1 ?_
          refine jr_S3_1 jf_222_54 (by omega) (r_R_isEndless (by omega) _ _ _ rfl) (Nat.le_of_ble_eq_true rfl) jml_221 (Nat.le_of_ble_eq_true rfl) ?_
          replace h := ite_or h; rcases h with ⟨hc, h⟩ | ⟨hc, h⟩
          · refine jr_ifz_eq_f jf_222_57 hc ?_
            refine jr_aload_n jf_222_60 rfl hl0 ?_
            replace h := obd_of h; obtain ⟨x6, hx6, h⟩ := h
            refine jr_getD jf_222_61 hx6 ?_
            refine jr_dload_n jf_222_64 rfl hl1 ?_
            refine jr_dcmp jf_222_65 ?_
            replace h := ite_or h; rcases h with ⟨hc, h⟩ | ⟨hc, h⟩
            · refine jr_if_ne_f jf_222_66 hc ?_
              refine jr_iconst jf_222_69 jc_i_1 ?_
              refine jr_goto jf_222_70 ?_
              exact r_R_joins_74 hd _ _ _ _ true _ _ hl0 hl1 hl3 h
            · refine jr_if_ne_t jf_222_66 hc ?_
              refine jr_iconst jf_222_73 jc_i_0 ?_
              exact r_R_joins_74 hd _ _ _ _ false _ _ hl0 hl1 hl3 h
          · refine jr_ifz_eq_t jf_222_57 hc ?_
            exact r_R_joins_88 hd _ _ _ _ _ _ hl0 hl1 hl3 h
        · refine jr_ifz_eq_t jf_222_50 hc ?_
          exact r_R_joins_88 hd _ _ _ _ _ _ hl0 hl1 hl3 h
      · refine jr_if_eq_f jf_222_30 hc ?_
        exact r_R_joins_33 hd _ _ _ _ hl0 h
    · refine jr_if_ne_t jf_222_24 hc ?_
      exact r_R_joins_33 hd _ _ _ _ hl0 h
set_option maxRecDepth 10000 in
set_option maxHeartbeats 4000000 in
theorem r_R_joins {B : Nat} {SA : Nat → Nat} {d : Nat} (hd : 1 ≤ d) : ∀ (v0 : Nat) (v1 : UInt64) (v3 : Bool) (μ : JMem) (μ9 : JMem), g_R_joins B v0 v1 v3 μ = some μ9 → jR B SA d m_R_joins 0 (lv_args 0 [.ref v0, .double v1, .int (jb v3)]) [] μ none μ9 := by
  intro v0 v1 v3 μ μ9 h
  exact r_R_joins_e hd (lv_args 0 _) _ _ _ _ _ (by simp [lv_args, jget, rv_cat, cat_int, cat_long, cat_double, cat_float, cat_ref]) (by simp [lv_args, jget, rv_cat, cat_int, cat_long, cat_double, cat_float, cat_ref]) (by simp [lv_args, jget, rv_cat, cat_int, cat_long, cat_double, cat_float, cat_ref]) h
/-! FilterBenchModel.product(DD)D -/
set_option maxRecDepth 10000 in
set_option maxHeartbeats 4000000 in
theorem r_R_product_46 {B : Nat} {SA : Nat → Nat} {d : Nat} (hd : 1 ≤ d) : ∀ (L : JLoc) (v0 : Nat) (v1 : UInt64) (v3 : UInt64) (μ : JMem) (r : UInt64), jget L 0 = .ref v0 → jget L 1 = .double v1 → jget L 3 = .double v3 → g_R_product_46 v0 v1 v3 μ.1 = some r → jR B SA d m_R_product 46 L [] μ (some (.double r)) μ := by
  intro L v0 v1 v3 μ r hl0 hl1 hl3 h
  unfold g_R_product_46 at h
  refine jr_aload_n jf_220_46 rfl hl0 ?_
  replace h := obd_of h; obtain ⟨x1, hx1, h⟩ := h
  refine jr_getA jf_220_47 hx1 ?_
  refine jr_aload_n jf_220_50 rfl hl0 ?_
  replace h := obd_of h; obtain ⟨x2, hx2, h⟩ := h
  refine jr_getI jf_220_51 hx2 ?_
  replace h := obd_of h; obtain ⟨a3, rfl, h⟩ := h
  replace h := obd_of h; obtain ⟨x4, hx4, h⟩ := h
  refine jr_iaload jf_220_54 hx4 ?_
  refine jr_iconst jf_220_55 jc_i_1 ?_
  replace h := ite_or h; rcases h with ⟨hc, h⟩ | ⟨hc, h⟩
  · refine jr_if2_ne_f jf_220_56 hc ?_
    refine jr_dload_n jf_220_59 rfl hl1 ?_
    replace h := obd_of h; obtain ⟨x5, hx5, h⟩ := h
    refine jr_d2f jf_220_60 hx5 ?_
    refine jr_dload_n jf_220_61 rfl hl3 ?_
    replace h := obd_of h; obtain ⟨x6, hx6, h⟩ := h
    refine jr_d2f jf_220_62 hx6 ?_
    replace h := obd_of h; obtain ⟨x7, hx7, h⟩ := h
    refine jr_fmul jf_220_63 hx7 ?_
    replace h := obd_of h; obtain ⟨x8, hx8, h⟩ := h
    refine jr_f2d jf_220_64 hx8 ?_
    obtain rfl := Option.some.inj h
    exact jr_retD jf_220_65 jmt_220
  · refine jr_if2_ne_t jf_220_56 hc ?_
    refine jr_dload_n jf_220_66 rfl hl1 ?_
    refine jr_dload_n jf_220_67 rfl hl3 ?_
    replace h := obd_of h; obtain ⟨x9, hx9, h⟩ := h
    refine jr_dmul jf_220_68 hx9 ?_
    obtain rfl := Option.some.inj h
    exact jr_retD jf_220_69 jmt_220
set_option maxRecDepth 10000 in
set_option maxHeartbeats 4000000 in
theorem r_R_product_29 {B : Nat} {SA : Nat → Nat} {d : Nat} (hd : 1 ≤ d) : ∀ (L : JLoc) (v0 : Nat) (v1 : UInt64) (v3 : UInt64) (μ : JMem) (r : UInt64), jget L 0 = .ref v0 → jget L 1 = .double v1 → jget L 3 = .double v3 → g_R_product_29 v0 v1 v3 μ.1 = some r → jR B SA d m_R_product 29 L [] μ (some (.double r)) μ := by
  intro L v0 v1 v3 μ r hl0 hl1 hl3 h
  unfold g_R_product_29 at h
  refine jr_dload_n jf_220_29 rfl hl1 ?_
  refine jr_dconst0 jf_220_30 ?_
  refine jr_dcmp jf_220_31 ?_
  replace h := ite_or h; rcases h with ⟨hc, h⟩ | ⟨hc, h⟩
  · refine jr_if_ne_f jf_220_32 hc ?_
    refine jr_dload_n jf_220_35 rfl hl3 ?_
    refine jr_S3_1 jf_220_36 (by omega) (r_R_isEndless (by omega) _ _ _ rfl) (Nat.le_of_ble_eq_true rfl) jml_221 (Nat.le_of_ble_eq_true rfl) ?_
    replace h := ite_or h; rcases h with ⟨hc, h⟩ | ⟨hc, h⟩
    · refine jr_ifz_eq_f jf_220_39 hc ?_
      refine jr_ldc2d jf_220_42 ?_
      obtain rfl := Option.some.inj h
      exact jr_retD jf_220_45 jmt_220
    · refine jr_ifz_eq_t jf_220_39 hc ?_
      exact r_R_product_46 hd _ _ _ _ _ _ hl0 hl1 hl3 h
  · refine jr_if_ne_t jf_220_32 hc ?_
    exact r_R_product_46 hd _ _ _ _ _ _ hl0 hl1 hl3 h
set_option maxRecDepth 10000 in
set_option maxHeartbeats 4000000 in
theorem r_R_product_e {B : Nat} {SA : Nat → Nat} {d : Nat} (hd : 1 ≤ d) : ∀ (L : JLoc) (v0 : Nat) (v1 : UInt64) (v3 : UInt64) (μ : JMem) (r : UInt64), jget L 0 = .ref v0 → jget L 1 = .double v1 → jget L 3 = .double v3 → g_R_product v0 v1 v3 μ.1 = some r → jR B SA d m_R_product 0 L [] μ (some (.double r)) μ := by
  intro L v0 v1 v3 μ r hl0 hl1 hl3 h
  unfold g_R_product at h
  refine jr_dload_n jf_220_0 rfl hl1 ?_
  refine jr_dload_n jf_220_1 rfl hl1 ?_
  refine jr_dcmp jf_220_2 ?_
  replace h := ite_or h; rcases h with ⟨hc, h⟩ | ⟨hc, h⟩
  · refine jr_if_ne_f jf_220_3 hc ?_
    refine jr_dload_n jf_220_6 rfl hl3 ?_
    refine jr_dload_n jf_220_7 rfl hl3 ?_
    refine jr_dcmp jf_220_8 ?_
    replace h := ite_or h; rcases h with ⟨hc, h⟩ | ⟨hc, h⟩
    · refine jr_if_eq_t jf_220_9 hc ?_
      refine jr_dload_n jf_220_16 rfl hl1 ?_
      refine jr_S3_1 jf_220_17 (by omega) (r_R_isEndless (by omega) _ _ _ rfl) (Nat.le_of_ble_eq_true rfl) jml_221 (Nat.le_of_ble_eq_true rfl) ?_
      replace h := ite_or h; rcases h with ⟨hc, h⟩ | ⟨hc, h⟩
      · refine jr_ifz_eq_f jf_220_20 hc ?_
        refine jr_dload_n jf_220_23 rfl hl3 ?_
        refine jr_dconst0 jf_220_24 ?_
        refine jr_dcmp jf_220_25 ?_
        replace h := ite_or h; rcases h with ⟨hc, h⟩ | ⟨hc, h⟩
        · refine jr_if_eq_t jf_220_26 hc ?_
          refine jr_ldc2d jf_220_42 ?_
          obtain rfl := Option.some.inj h
          exact jr_retD jf_220_45 jmt_220
        · refine jr_if_eq_f jf_220_26 hc ?_
          exact r_R_product_29 hd _ _ _ _ _ _ hl0 hl1 hl3 h
      · refine jr_ifz_eq_t jf_220_20 hc ?_
        exact r_R_product_29 hd _ _ _ _ _ _ hl0 hl1 hl3 h
    · refine jr_if_eq_f jf_220_9 hc ?_
      refine jr_ldc2d jf_220_12 ?_
      obtain rfl := Option.some.inj h
      exact jr_retD jf_220_15 jmt_220
  · refine jr_if_ne_t jf_220_3 hc ?_
    refine jr_ldc2d jf_220_12 ?_
    obtain rfl := Option.some.inj h
    exact jr_retD jf_220_15 jmt_220
set_option maxRecDepth 10000 in
set_option maxHeartbeats 4000000 in
theorem r_R_product {B : Nat} {SA : Nat → Nat} {d : Nat} (hd : 1 ≤ d) : ∀ (v0 : Nat) (v1 : UInt64) (v3 : UInt64) (μ : JMem) (r : UInt64), g_R_product v0 v1 v3 μ.1 = some r → jR B SA d m_R_product 0 (lv_args 0 [.ref v0, .double v1, .double v3]) [] μ (some (.double r)) μ := by
  intro v0 v1 v3 μ r h
  exact r_R_product_e hd (lv_args 0 _) _ _ _ _ _ (by simp [lv_args, jget, rv_cat, cat_int, cat_long, cat_double, cat_float, cat_ref]) (by simp [lv_args, jget, rv_cat, cat_int, cat_long, cat_double, cat_float, cat_ref]) (by simp [lv_args, jget, rv_cat, cat_int, cat_long, cat_double, cat_float, cat_ref]) h
/-! FilterBenchModel.term(DDZ)V -/
set_option maxRecDepth 10000 in
set_option maxHeartbeats 4000000 in
theorem r_R_term_38 {B : Nat} {SA : Nat → Nat} {d : Nat} (hd : 2 ≤ d) : ∀ (L : JLoc) (s0 : Int64) (s1 : Int64) (s2 : Nat) (μ : JMem) (μ9 : JMem), g_R_term_38 B s0 s1 s2 μ = some μ9 → jR B SA d m_R_term 38 L [.long s0, .long s1, .ref s2] μ none μ9 := by
  intro L s0 s1 s2 μ μ9 h
  unfold g_R_term_38 at h
  refine jr_ladd jf_219_38 ?_
  replace h := obd_of h; obtain ⟨μ1, hμ1, h⟩ := h
  refine jr_putJ jf_219_39 rfl hμ1 ?_
  refine jr_goto jf_219_42 ?_
  obtain rfl := Option.some.inj h
  exact jr_return jf_219_57 jmt_219
set_option maxRecDepth 10000 in
set_option maxHeartbeats 4000000 in
theorem r_R_term_e {B : Nat} {SA : Nat → Nat} {d : Nat} (hd : 2 ≤ d) : ∀ (L : JLoc) (v0 : Nat) (v1 : UInt64) (v3 : UInt64) (v5 : Bool) (μ : JMem) (μ9 : JMem), jget L 0 = .ref v0 → jget L 1 = .double v1 → jget L 3 = .double v3 → jget L 5 = .int (jb v5) → g_R_term B v0 v1 v3 v5 μ = some μ9 → jR B SA d m_R_term 0 L [] μ none μ9 := by
  intro L v0 v1 v3 v5 μ μ9 hl0 hl1 hl3 hl5 h
  unfold g_R_term at h
  refine jr_aload_n jf_219_0 rfl hl0 ?_
  replace h := obd_of h; obtain ⟨x1, hx1, h⟩ := h
  refine jr_getA jf_219_1 hx1 ?_
  refine jr_aload_n jf_219_4 rfl hl0 ?_
  replace h := obd_of h; obtain ⟨x2, hx2, h⟩ := h
  refine jr_getI jf_219_5 hx2 ?_
  replace h := obd_of h; obtain ⟨a3, rfl, h⟩ := h
  replace h := obd_of h; obtain ⟨x4, hx4, h⟩ := h
  refine jr_iaload jf_219_8 hx4 ?_
  refine jr_iconst jf_219_9 jc_i_2 ?_
  replace h := ite_or h; rcases h with ⟨hc, h⟩ | ⟨hc, h⟩
  · refine jr_if2_ne_f jf_219_10 hc ?_
    refine jr_dload_n jf_219_13 rfl hl1 ?_
    refine jr_d2l jf_219_14 ?_
    refine jr_dload_n jf_219_15 rfl hl3 ?_
    refine jr_d2l jf_219_16 ?_
    refine jr_lmul jf_219_17 ?_
    refine jr_lstore jf_219_18 jml_219 (by decide) ?_
    refine jr_aload_n jf_219_20 rfl (jg2_ne rfl hl0) ?_
    refine jr_dup jf_219_21 rfl ?_
    replace h := obd_of h; obtain ⟨x5, hx5, h⟩ := h
    refine jr_getJ jf_219_22 hx5 ?_
    refine jr_iload jf_219_25 (jg2_pre rfl hl5) ?_
    replace h := ite_or h; rcases h with ⟨hc, h⟩ | ⟨hc, h⟩
    · refine jr_ifz_eq_f jf_219_27 hc ?_
      refine jr_lload jf_219_30 jg2_same ?_
      refine jr_lneg jf_219_32 ?_
      refine jr_goto jf_219_33 ?_
      exact r_R_term_38 hd _ _ _ _ _ _ h
    · refine jr_ifz_eq_t jf_219_27 hc ?_
      refine jr_lload jf_219_36 jg2_same ?_
      exact r_R_term_38 hd _ _ _ _ _ _ h
  · refine jr_if2_ne_t jf_219_10 hc ?_
    refine jr_aload_n jf_219_45 rfl hl0 ?_
    refine jr_aload_n jf_219_46 rfl hl0 ?_
    refine jr_dload_n jf_219_47 rfl hl1 ?_
    refine jr_dload_n jf_219_48 rfl hl3 ?_
    replace h := jgd_of h; obtain ⟨hb6, h⟩ := h
    replace h := obd_of h; obtain ⟨x7, hx7, h⟩ := h
    refine jr_V6_2 jf_219_49 hb6 (by omega) (r_R_product (by omega) _ _ _ _ _ hx7) (Nat.le_of_ble_eq_true rfl) jml_220 (Nat.le_of_ble_eq_true rfl) ?_
    refine jr_iload jf_219_52 hl5 ?_
    replace h := jgd_of h; obtain ⟨hb8, h⟩ := h
    replace h := obd_of h; obtain ⟨μ9, hμ9, h⟩ := h
    refine jr_V6v_2 jf_219_54 hb8 (by omega) (r_R_joins (by omega) _ _ _ _ _ hμ9) (Nat.le_of_ble_eq_true rfl) jml_222 (Nat.le_of_ble_eq_true rfl) ?_
    obtain rfl := Option.some.inj h
    exact jr_return jf_219_57 jmt_219
set_option maxRecDepth 10000 in
set_option maxHeartbeats 4000000 in
theorem r_R_term {B : Nat} {SA : Nat → Nat} {d : Nat} (hd : 2 ≤ d) : ∀ (v0 : Nat) (v1 : UInt64) (v3 : UInt64) (v5 : Bool) (μ : JMem) (μ9 : JMem), g_R_term B v0 v1 v3 v5 μ = some μ9 → jR B SA d m_R_term 0 (lv_args 0 [.ref v0, .double v1, .double v3, .int (jb v5)]) [] μ none μ9 := by
  intro v0 v1 v3 v5 μ μ9 h
  exact r_R_term_e hd (lv_args 0 _) _ _ _ _ _ _ (by simp [lv_args, jget, rv_cat, cat_int, cat_long, cat_double, cat_float, cat_ref]) (by simp [lv_args, jget, rv_cat, cat_int, cat_long, cat_double, cat_float, cat_ref]) (by simp [lv_args, jget, rv_cat, cat_int, cat_long, cat_double, cat_float, cat_ref]) (by simp [lv_args, jget, rv_cat, cat_int, cat_long, cat_double, cat_float, cat_ref]) h
/-! FilterBenchModel.goesOn()Z -/
set_option maxRecDepth 10000 in
set_option maxHeartbeats 4000000 in
theorem r_R_goesOn_175 {N B : Nat} {SA : Nat → Nat} {d : Nat} (hd : 3 ≤ d) : ∀ (L : JLoc) (v0 : Nat) (s0 : UInt64) (s1 : Nat) (μ : JMem) (r : Bool) (μ9 : JMem), jget L 0 = .ref v0 → g_R_goesOn_175 N B v0 s0 s1 μ = some (r, μ9) → jR B SA d m_R_goesOn 175 L [.double s0, .ref s1] μ (some (.int (jb r))) μ9 := by
  intro L v0 s0 s1 μ r μ9 hl0 h
  unfold g_R_goesOn_175 at h
  replace h := obd_of h; obtain ⟨μ1, hμ1, h⟩ := h
  refine jr_putD jf_216_175 rfl hμ1 ?_
  refine jr_aload_n jf_216_178 rfl hl0 ?_
  refine jr_dup jf_216_179 rfl ?_
  replace h := obd_of h; obtain ⟨x2, hx2, h⟩ := h
  refine jr_getI jf_216_180 hx2 ?_
  refine jr_iconst jf_216_183 jc_i_1 ?_
  refine jr_iadd jf_216_184 ?_
  replace h := obd_of h; obtain ⟨μ3, hμ3, h⟩ := h
  refine jr_putI jf_216_185 rfl hμ3 ?_
  refine jr_iconst jf_216_188 jc_i_1 ?_
  obtain ⟨rfl, rfl⟩ := Prod.mk.inj (Option.some.inj h)
  exact jr_retZ (x := true) jf_216_189 jmt_216
set_option maxRecDepth 10000 in
set_option maxHeartbeats 4000000 in
theorem r_R_goesOn_153 {N B : Nat} {SA : Nat → Nat} {d : Nat} (hd : 3 ≤ d) : ∀ (L : JLoc) (v0 : Nat) (v1 : Int32) (v2 : Int32) (μ : JMem) (r : Bool) (μ9 : JMem), jget L 0 = .ref v0 → jget L 1 = .int v1 → jget L 2 = .int v2 → g_R_goesOn_153 N B v0 v1 v2 μ = some (r, μ9) → jR B SA d m_R_goesOn 153 L [] μ (some (.int (jb r))) μ9 := by
  intro L v0 v1 v2 μ r μ9 hl0 hl1 hl2 h
  unfold g_R_goesOn_153 at h
  refine jr_aload_n jf_216_153 rfl hl0 ?_
  refine jr_aload_n jf_216_154 rfl hl0 ?_
  replace h := obd_of h; obtain ⟨x1, hx1, h⟩ := h
  refine jr_getA jf_216_155 hx1 ?_
  refine jr_iload_n jf_216_158 rfl hl2 ?_
  replace h := obd_of h; obtain ⟨a2, rfl, h⟩ := h
  replace h := obd_of h; obtain ⟨x3, hx3, h⟩ := h
  refine jr_iaload jf_216_159 hx3 ?_
  refine jr_bipush jf_216_160 jc_b_14 ?_
  replace h := ite_or h; rcases h with ⟨hc, h⟩ | ⟨hc, h⟩
  · refine jr_if2_ne_f jf_216_162 hc ?_
    refine jr_aload_n jf_216_165 rfl hl0 ?_
    replace h := obd_of h; obtain ⟨x4, hx4, h⟩ := h
    refine jr_getA jf_216_166 hx4 ?_
    refine jr_iload_n jf_216_169 rfl hl1 ?_
    replace h := obd_of h; obtain ⟨a5, rfl, h⟩ := h
    replace h := obd_of h; obtain ⟨x6, hx6, h⟩ := h
    refine jr_daload jf_216_170 hx6 ?_
    refine jr_goto jf_216_171 ?_
    exact r_R_goesOn_175 hd _ _ _ _ _ _ _ hl0 h
  · refine jr_if2_ne_t jf_216_162 hc ?_
    refine jr_dconst0 jf_216_174 ?_
    exact r_R_goesOn_175 hd _ _ _ _ _ _ _ hl0 h
set_option maxRecDepth 10000 in
set_option maxHeartbeats 4000000 in
theorem r_R_goesOn_e {N B : Nat} {SA : Nat → Nat} {d : Nat} (hd : 3 ≤ d) : ∀ (L : JLoc) (v0 : Nat) (μ : JMem) (r : Bool) (μ9 : JMem), jget L 0 = .ref v0 → g_R_goesOn N B v0 μ = some (r, μ9) → jR B SA d m_R_goesOn 0 L [] μ (some (.int (jb r))) μ9 := by
  intro L v0 μ r μ9 hl0 h
  unfold g_R_goesOn at h
  refine jr_aload_n jf_216_0 rfl hl0 ?_
  replace h := obd_of h; obtain ⟨x1, hx1, h⟩ := h
  refine jr_getI jf_216_1 hx1 ?_
  replace h := ite_or h; rcases h with ⟨hc, h⟩ | ⟨hc, h⟩
  · refine jr_if_ne_f jf_216_4 hc ?_
    refine jr_iconst jf_216_7 jc_i_0 ?_
    obtain ⟨rfl, rfl⟩ := Prod.mk.inj (Option.some.inj h)
    exact jr_retZ (x := false) jf_216_8 jmt_216
  · refine jr_if_ne_t jf_216_4 hc ?_
    refine jr_aload_n jf_216_9 rfl hl0 ?_
    replace h := obd_of h; obtain ⟨x2, hx2, h⟩ := h
    refine jr_getI jf_216_10 hx2 ?_
    refine jr_iconst jf_216_13 jc_i_1 ?_
    refine jr_isub jf_216_14 ?_
    refine jr_istore_n jf_216_15 rfl jml_216 (by decide) ?_
    refine jr_aload_n jf_216_16 rfl (jg1_pre (by first | rfl | exact rv_cat _) hl0) ?_
    refine jr_aload_n jf_216_17 rfl (jg1_pre (by first | rfl | exact rv_cat _) hl0) ?_
    replace h := obd_of h; obtain ⟨x3, hx3, h⟩ := h
    refine jr_getA jf_216_18 hx3 ?_
    refine jr_iload_n jf_216_21 rfl jg1_same ?_
    replace h := obd_of h; obtain ⟨a4, rfl, h⟩ := h
    replace h := obd_of h; obtain ⟨x5, hx5, h⟩ := h
    refine jr_iaload jf_216_22 hx5 ?_
    replace h := obd_of h; obtain ⟨μ6, hμ6, h⟩ := h
    refine jr_putI jf_216_23 rfl hμ6 ?_
    refine jr_aload_n jf_216_26 rfl (jg1_pre (by first | rfl | exact rv_cat _) hl0) ?_
    refine jr_aload_n jf_216_27 rfl (jg1_pre (by first | rfl | exact rv_cat _) hl0) ?_
    replace h := obd_of h; obtain ⟨x7, hx7, h⟩ := h
    refine jr_getA jf_216_28 hx7 ?_
    refine jr_iload_n jf_216_31 rfl jg1_same ?_
    replace h := obd_of h; obtain ⟨a8, rfl, h⟩ := h
    replace h := obd_of h; obtain ⟨x9, hx9, h⟩ := h
    refine jr_iaload jf_216_32 hx9 ?_
    replace h := obd_of h; obtain ⟨μ10, hμ10, h⟩ := h
    refine jr_putI jf_216_33 rfl hμ10 ?_
    refine jr_aload_n jf_216_36 rfl (jg1_pre (by first | rfl | exact rv_cat _) hl0) ?_
    replace h := obd_of h; obtain ⟨x11, hx11, h⟩ := h
    refine jr_getA jf_216_37 hx11 ?_
    refine jr_bipush jf_216_40 jc_b_10 ?_
    refine jr_aload_n jf_216_42 rfl (jg1_pre (by first | rfl | exact rv_cat _) hl0) ?_
    replace h := obd_of h; obtain ⟨x12, hx12, h⟩ := h
    refine jr_getI jf_216_43 hx12 ?_
    refine jr_imul jf_216_46 ?_
    refine jr_aload_n jf_216_47 rfl (jg1_pre (by first | rfl | exact rv_cat _) hl0) ?_
    replace h := obd_of h; obtain ⟨x13, hx13, h⟩ := h
    refine jr_getI jf_216_48 hx13 ?_
    refine jr_iadd jf_216_51 ?_
    replace h := obd_of h; obtain ⟨a14, rfl, h⟩ := h
    replace h := obd_of h; obtain ⟨x15, hx15, h⟩ := h
    refine jr_iaload jf_216_52 hx15 ?_
    refine jr_istore_n jf_216_53 rfl jml_216 (by decide) ?_
    refine jr_aload_n jf_216_54 rfl (jg1_ne rfl (jg1_pre (by first | rfl | exact rv_cat _) hl0)) ?_
    replace h := obd_of h; obtain ⟨x16, hx16, h⟩ := h
    refine jr_getA jf_216_55 hx16 ?_
    refine jr_iload_n jf_216_58 rfl (jg1_pre rfl jg1_same) ?_
    replace h := obd_of h; obtain ⟨a17, rfl, h⟩ := h
    replace h := obd_of h; obtain ⟨x18, hx18, h⟩ := h
    refine jr_iaload jf_216_59 hx18 ?_
    replace h := ite_or h; rcases h with ⟨hc, h⟩ | ⟨hc, h⟩
    · refine jr_if_ge_t jf_216_60 hc ?_
      refine jr_aload_n jf_216_124 rfl (jg1_ne rfl (jg1_pre (by first | rfl | exact rv_cat _) hl0)) ?_
      replace h := obd_of h; obtain ⟨x19, hx19, h⟩ := h
      refine jr_getA jf_216_125 hx19 ?_
      refine jr_iload_n jf_216_128 rfl (jg1_pre rfl jg1_same) ?_
      refine jr_dup2_1 jf_216_129 rfl (rv_cat _) ?_
      replace h := obd_of h; obtain ⟨a20, rfl, h⟩ := h
      replace h := obd_of h; obtain ⟨x21, hx21, h⟩ := h
      refine jr_iaload jf_216_130 hx21 ?_
      refine jr_iconst jf_216_131 jc_i_1 ?_
      refine jr_isub jf_216_132 ?_
      replace h := obd_of h; obtain ⟨μ22, hμ22, h⟩ := h
      refine jr_iastore jf_216_133 hμ22 ?_
      refine jr_aload_n jf_216_134 rfl (jg1_ne rfl (jg1_pre (by first | rfl | exact rv_cat _) hl0)) ?_
      replace h := obd_of h; obtain ⟨x23, hx23, h⟩ := h
      refine jr_getA jf_216_135 hx23 ?_
      refine jr_iload_n jf_216_138 rfl (jg1_pre rfl jg1_same) ?_
      replace h := obd_of h; obtain ⟨a24, rfl, h⟩ := h
      replace h := obd_of h; obtain ⟨x25, hx25, h⟩ := h
      refine jr_iaload jf_216_139 hx25 ?_
      replace h := ite_or h; rcases h with ⟨hc, h⟩ | ⟨hc, h⟩
      · refine jr_if_ne_f jf_216_140 hc ?_
        refine jr_aload_n jf_216_143 rfl (jg1_ne rfl (jg1_pre (by first | rfl | exact rv_cat _) hl0)) ?_
        refine jr_dup jf_216_144 rfl ?_
        replace h := obd_of h; obtain ⟨x26, hx26, h⟩ := h
        refine jr_getI jf_216_145 hx26 ?_
        refine jr_iconst jf_216_148 jc_i_1 ?_
        refine jr_isub jf_216_149 ?_
        replace h := obd_of h; obtain ⟨μ27, hμ27, h⟩ := h
        refine jr_putI jf_216_150 rfl hμ27 ?_
        exact r_R_goesOn_153 hd _ _ _ _ _ _ _ (jg1_ne rfl (jg1_pre (by first | rfl | exact rv_cat _) hl0)) (jg1_pre rfl jg1_same) jg1_same h
      · refine jr_if_ne_t jf_216_140 hc ?_
        exact r_R_goesOn_153 hd _ _ _ _ _ _ _ (jg1_ne rfl (jg1_pre (by first | rfl | exact rv_cat _) hl0)) (jg1_pre rfl jg1_same) jg1_same h
    · refine jr_if_ge_f jf_216_60 hc ?_
      refine jr_aload_n jf_216_63 rfl (jg1_ne rfl (jg1_pre (by first | rfl | exact rv_cat _) hl0)) ?_
      refine jr_dup jf_216_64 rfl ?_
      replace h := obd_of h; obtain ⟨x28, hx28, h⟩ := h
      refine jr_getI jf_216_65 hx28 ?_
      refine jr_iconst jf_216_68 jc_i_1 ?_
      refine jr_isub jf_216_69 ?_
      replace h := obd_of h; obtain ⟨μ29, hμ29, h⟩ := h
      refine jr_putI jf_216_70 rfl hμ29 ?_
      refine jr_aload_n jf_216_73 rfl (jg1_ne rfl (jg1_pre (by first | rfl | exact rv_cat _) hl0)) ?_
      refine jr_iload_n jf_216_74 rfl jg1_same ?_
      replace h := jgd_of h; obtain ⟨hb30, h⟩ := h
      replace h := obd_of h; obtain ⟨μ31, hμ31, h⟩ := h
      refine jr_V6v_1 jf_216_75 hb30 (by omega) (r_R_begins (by omega) _ _ _ _ hμ31) (Nat.le_of_ble_eq_true rfl) jml_217 (Nat.le_of_ble_eq_true rfl) ?_
      refine jr_aload_n jf_216_78 rfl (jg1_ne rfl (jg1_pre (by first | rfl | exact rv_cat _) hl0)) ?_
      refine jr_aload_n jf_216_79 rfl (jg1_ne rfl (jg1_pre (by first | rfl | exact rv_cat _) hl0)) ?_
      refine jr_iload_n jf_216_80 rfl jg1_same ?_
      refine jr_iconst jf_216_81 jc_i_0 ?_
      replace h := jgd_of h; obtain ⟨hb32, h⟩ := h
      replace h := obd_of h; obtain ⟨x33, hx33, h⟩ := h
      refine jr_V6_2 jf_216_82 hb32 (by omega) (r_R_c (by omega) _ _ _ _ _ hx33) (Nat.le_of_ble_eq_true rfl) jml_218 (Nat.le_of_ble_eq_true rfl) ?_
      refine jr_aload_n jf_216_85 rfl (jg1_ne rfl (jg1_pre (by first | rfl | exact rv_cat _) hl0)) ?_
      replace h := obd_of h; obtain ⟨x34, hx34, h⟩ := h
      refine jr_getA jf_216_86 hx34 ?_
      refine jr_iload_n jf_216_89 rfl (jg1_pre rfl jg1_same) ?_
      replace h := obd_of h; obtain ⟨a35, rfl, h⟩ := h
      replace h := obd_of h; obtain ⟨x36, hx36, h⟩ := h
      refine jr_daload jf_216_90 hx36 ?_
      refine jr_iconst jf_216_91 jc_i_0 ?_
      replace h := jgd_of h; obtain ⟨hb37, h⟩ := h
      replace h := obd_of h; obtain ⟨μ38, hμ38, h⟩ := h
      refine jr_V6v_3 jf_216_92 hb37 (by omega) (r_R_term (by omega) _ _ _ _ _ _ hμ38) (Nat.le_of_ble_eq_true rfl) jml_219 (Nat.le_of_ble_eq_true rfl) ?_
      refine jr_aload_n jf_216_95 rfl (jg1_ne rfl (jg1_pre (by first | rfl | exact rv_cat _) hl0)) ?_
      refine jr_aload_n jf_216_96 rfl (jg1_ne rfl (jg1_pre (by first | rfl | exact rv_cat _) hl0)) ?_
      refine jr_iload_n jf_216_97 rfl jg1_same ?_
      refine jr_iconst jf_216_98 jc_i_1 ?_
      replace h := jgd_of h; obtain ⟨hb39, h⟩ := h
      replace h := obd_of h; obtain ⟨x40, hx40, h⟩ := h
      refine jr_V6_2 jf_216_99 hb39 (by omega) (r_R_c (by omega) _ _ _ _ _ hx40) (Nat.le_of_ble_eq_true rfl) jml_218 (Nat.le_of_ble_eq_true rfl) ?_
      refine jr_aload_n jf_216_102 rfl (jg1_ne rfl (jg1_pre (by first | rfl | exact rv_cat _) hl0)) ?_
      replace h := obd_of h; obtain ⟨x41, hx41, h⟩ := h
      refine jr_getD jf_216_103 hx41 ?_
      refine jr_iconst jf_216_106 jc_i_0 ?_
      replace h := jgd_of h; obtain ⟨hb42, h⟩ := h
      replace h := obd_of h; obtain ⟨μ43, hμ43, h⟩ := h
      refine jr_V6v_3 jf_216_107 hb42 (by omega) (r_R_term (by omega) _ _ _ _ _ _ hμ43) (Nat.le_of_ble_eq_true rfl) jml_219 (Nat.le_of_ble_eq_true rfl) ?_
      refine jr_aload_n jf_216_110 rfl (jg1_ne rfl (jg1_pre (by first | rfl | exact rv_cat _) hl0)) ?_
      refine jr_aload_n jf_216_111 rfl (jg1_ne rfl (jg1_pre (by first | rfl | exact rv_cat _) hl0)) ?_
      replace h := jgd_of h; obtain ⟨hb44, h⟩ := h
      replace h := jbd2_of h; obtain ⟨x45, μ46, hx45, h⟩ := h
      refine jr_V6_0 jf_216_112 hb44 (by omega) (r_R_comes (by omega) _ _ _ _ hx45) (Nat.le_of_ble_eq_true rfl) jml_223 (Nat.le_of_ble_eq_true rfl) ?_
      replace h := obd_of h; obtain ⟨μ47, hμ47, h⟩ := h
      refine jr_putD jf_216_115 rfl hμ47 ?_
      refine jr_aload_n jf_216_118 rfl (jg1_ne rfl (jg1_pre (by first | rfl | exact rv_cat _) hl0)) ?_
      replace h := jgd_of h; obtain ⟨hb48, h⟩ := h
      replace h := obd_of h; obtain ⟨μ49, hμ49, h⟩ := h
      refine jr_V6v_0 jf_216_119 hb48 (by omega) (r_R_leaves (by omega) _ _ _ hμ49) (Nat.le_of_ble_eq_true rfl) jml_225 (Nat.le_of_ble_eq_true rfl) ?_
      refine jr_iconst jf_216_122 jc_i_1 ?_
      obtain ⟨rfl, rfl⟩ := Prod.mk.inj (Option.some.inj h)
      exact jr_retZ (x := true) jf_216_123 jmt_216
set_option maxRecDepth 10000 in
set_option maxHeartbeats 4000000 in
theorem r_R_goesOn {N B : Nat} {SA : Nat → Nat} {d : Nat} (hd : 3 ≤ d) : ∀ (v0 : Nat) (μ : JMem) (r : Bool) (μ9 : JMem), g_R_goesOn N B v0 μ = some (r, μ9) → jR B SA d m_R_goesOn 0 (lv_args 0 [.ref v0]) [] μ (some (.int (jb r))) μ9 := by
  intro v0 μ r μ9 h
  exact r_R_goesOn_e hd (lv_args 0 _) _ _ _ _ (by simp [lv_args, jget, rv_cat, cat_int, cat_long, cat_double, cat_float, cat_ref]) h
/-! FilterBenchModel.st(II)D -/
set_option maxRecDepth 10000 in
set_option maxHeartbeats 4000000 in
theorem r_R_st_e {B : Nat} {SA : Nat → Nat} {d : Nat} (hd : 0 ≤ d) : ∀ (L : JLoc) (v0 : Nat) (v1 : Int32) (v2 : Int32) (μ : JMem) (r : UInt64), jget L 0 = .ref v0 → jget L 1 = .int v1 → jget L 2 = .int v2 → g_R_st v0 v1 v2 μ.1 = some r → jR B SA d m_R_st 0 L [] μ (some (.double r)) μ := by
  intro L v0 v1 v2 μ r hl0 hl1 hl2 h
  unfold g_R_st at h
  refine jr_aload_n jf_227_0 rfl hl0 ?_
  replace h := obd_of h; obtain ⟨x1, hx1, h⟩ := h
  refine jr_getA jf_227_1 hx1 ?_
  refine jr_bipush jf_227_4 jc_b_64 ?_
  refine jr_iload_n jf_227_6 rfl hl1 ?_
  refine jr_imul jf_227_7 ?_
  refine jr_iload_n jf_227_8 rfl hl2 ?_
  refine jr_iadd jf_227_9 ?_
  replace h := obd_of h; obtain ⟨a2, rfl, h⟩ := h
  replace h := obd_of h; obtain ⟨x3, hx3, h⟩ := h
  refine jr_daload jf_227_10 hx3 ?_
  obtain rfl := Option.some.inj h
  exact jr_retD jf_227_11 jmt_227
set_option maxRecDepth 10000 in
set_option maxHeartbeats 4000000 in
theorem r_R_st {B : Nat} {SA : Nat → Nat} {d : Nat} (hd : 0 ≤ d) : ∀ (v0 : Nat) (v1 : Int32) (v2 : Int32) (μ : JMem) (r : UInt64), g_R_st v0 v1 v2 μ.1 = some r → jR B SA d m_R_st 0 (lv_args 0 [.ref v0, .int v1, .int v2]) [] μ (some (.double r)) μ := by
  intro v0 v1 v2 μ r h
  exact r_R_st_e hd (lv_args 0 _) _ _ _ _ _ (by simp [lv_args, jget, rv_cat, cat_int, cat_long, cat_double, cat_float, cat_ref]) (by simp [lv_args, jget, rv_cat, cat_int, cat_long, cat_double, cat_float, cat_ref]) (by simp [lv_args, jget, rv_cat, cat_int, cat_long, cat_double, cat_float, cat_ref]) h
/-! FilterBenchModel.st(IID)V -/
set_option maxRecDepth 10000 in
set_option maxHeartbeats 4000000 in
theorem r_R_st_2_e {B : Nat} {SA : Nat → Nat} {d : Nat} (hd : 0 ≤ d) : ∀ (L : JLoc) (v0 : Nat) (v1 : Int32) (v2 : Int32) (v3 : UInt64) (μ : JMem) (μ9 : JMem), jget L 0 = .ref v0 → jget L 1 = .int v1 → jget L 2 = .int v2 → jget L 3 = .double v3 → g_R_st_2 B v0 v1 v2 v3 μ = some μ9 → jR B SA d m_R_st_2 0 L [] μ none μ9 := by
  intro L v0 v1 v2 v3 μ μ9 hl0 hl1 hl2 hl3 h
  unfold g_R_st_2 at h
  refine jr_aload_n jf_228_0 rfl hl0 ?_
  replace h := obd_of h; obtain ⟨x1, hx1, h⟩ := h
  refine jr_getA jf_228_1 hx1 ?_
  refine jr_bipush jf_228_4 jc_b_64 ?_
  refine jr_iload_n jf_228_6 rfl hl1 ?_
  refine jr_imul jf_228_7 ?_
  refine jr_iload_n jf_228_8 rfl hl2 ?_
  refine jr_iadd jf_228_9 ?_
  refine jr_dload_n jf_228_10 rfl hl3 ?_
  replace h := obd_of h; obtain ⟨a2, rfl, h⟩ := h
  replace h := obd_of h; obtain ⟨μ3, hμ3, h⟩ := h
  refine jr_dastore jf_228_11 hμ3 ?_
  obtain rfl := Option.some.inj h
  exact jr_return jf_228_12 jmt_228
set_option maxRecDepth 10000 in
set_option maxHeartbeats 4000000 in
theorem r_R_st_2 {B : Nat} {SA : Nat → Nat} {d : Nat} (hd : 0 ≤ d) : ∀ (v0 : Nat) (v1 : Int32) (v2 : Int32) (v3 : UInt64) (μ : JMem) (μ9 : JMem), g_R_st_2 B v0 v1 v2 v3 μ = some μ9 → jR B SA d m_R_st_2 0 (lv_args 0 [.ref v0, .int v1, .int v2, .double v3]) [] μ none μ9 := by
  intro v0 v1 v2 v3 μ μ9 h
  exact r_R_st_2_e hd (lv_args 0 _) _ _ _ _ _ _ (by simp [lv_args, jget, rv_cat, cat_int, cat_long, cat_double, cat_float, cat_ref]) (by simp [lv_args, jget, rv_cat, cat_int, cat_long, cat_double, cat_float, cat_ref]) (by simp [lv_args, jget, rv_cat, cat_int, cat_long, cat_double, cat_float, cat_ref]) (by simp [lv_args, jget, rv_cat, cat_int, cat_long, cat_double, cat_float, cat_ref]) h
/-! FilterBenchModel.term(DZ)V -/
set_option maxRecDepth 10000 in
set_option maxHeartbeats 4000000 in
theorem r_R_term_2_38 {B : Nat} {SA : Nat → Nat} {d : Nat} (hd : 2 ≤ d) : ∀ (L : JLoc) (s0 : Int64) (s1 : Int64) (s2 : Nat) (μ : JMem) (μ9 : JMem), g_R_term_2_38 B s0 s1 s2 μ = some μ9 → jR B SA d m_R_term_2 38 L [.long s0, .long s1, .ref s2] μ none μ9 := by
  intro L s0 s1 s2 μ μ9 h
  unfold g_R_term_2_38 at h
  refine jr_ladd jf_226_38 ?_
  replace h := obd_of h; obtain ⟨μ1, hμ1, h⟩ := h
  refine jr_putJ jf_226_39 rfl hμ1 ?_
  refine jr_goto jf_226_42 ?_
  obtain rfl := Option.some.inj h
  exact jr_return jf_226_51 jmt_226
set_option maxRecDepth 10000 in
set_option maxHeartbeats 4000000 in
theorem r_R_term_2_e {B : Nat} {SA : Nat → Nat} {d : Nat} (hd : 2 ≤ d) : ∀ (L : JLoc) (v0 : Nat) (v1 : UInt64) (v3 : Bool) (μ : JMem) (μ9 : JMem), jget L 0 = .ref v0 → jget L 1 = .double v1 → jget L 3 = .int (jb v3) → g_R_term_2 B v0 v1 v3 μ = some μ9 → jR B SA d m_R_term_2 0 L [] μ none μ9 := by
  intro L v0 v1 v3 μ μ9 hl0 hl1 hl3 h
  unfold g_R_term_2 at h
  refine jr_aload_n jf_226_0 rfl hl0 ?_
  replace h := obd_of h; obtain ⟨x1, hx1, h⟩ := h
  refine jr_getA jf_226_1 hx1 ?_
  refine jr_aload_n jf_226_4 rfl hl0 ?_
  replace h := obd_of h; obtain ⟨x2, hx2, h⟩ := h
  refine jr_getI jf_226_5 hx2 ?_
  replace h := obd_of h; obtain ⟨a3, rfl, h⟩ := h
  replace h := obd_of h; obtain ⟨x4, hx4, h⟩ := h
  refine jr_iaload jf_226_8 hx4 ?_
  refine jr_iconst jf_226_9 jc_i_2 ?_
  replace h := ite_or h; rcases h with ⟨hc, h⟩ | ⟨hc, h⟩
  · refine jr_if2_ne_f jf_226_10 hc ?_
    refine jr_ldc2l jf_226_13 ?_
    refine jr_dload_n jf_226_16 rfl hl1 ?_
    refine jr_d2l jf_226_17 ?_
    refine jr_lmul jf_226_18 ?_
    refine jr_lstore jf_226_19 jml_226 (by decide) ?_
    replace h := jlet_of h
    refine jr_aload_n jf_226_21 rfl (jg2_ne rfl hl0) ?_
    refine jr_dup jf_226_22 rfl ?_
    replace h := obd_of h; obtain ⟨x6, hx6, h⟩ := h
    refine jr_getJ jf_226_23 hx6 ?_
    refine jr_iload_n jf_226_26 rfl (jg2_pre rfl hl3) ?_
    replace h := ite_or h; rcases h with ⟨hc, h⟩ | ⟨hc, h⟩
    · refine jr_ifz_eq_f jf_226_27 hc ?_
      refine jr_lload jf_226_30 jg2_same ?_
      refine jr_lneg jf_226_32 ?_
      refine jr_goto jf_226_33 ?_
      exact r_R_term_2_38 hd _ _ _ _ _ _ h
    · refine jr_ifz_eq_t jf_226_27 hc ?_
      refine jr_lload jf_226_36 jg2_same ?_
      exact r_R_term_2_38 hd _ _ _ _ _ _ h
  · refine jr_if2_ne_t jf_226_10 hc ?_
    refine jr_aload_n jf_226_45 rfl hl0 ?_
    refine jr_dload_n jf_226_46 rfl hl1 ?_
    refine jr_iload_n jf_226_47 rfl hl3 ?_
    replace h := jgd_of h; obtain ⟨hb7, h⟩ := h
    replace h := obd_of h; obtain ⟨μ8, hμ8, h⟩ := h
    refine jr_V6v_2 jf_226_48 hb7 (by omega) (r_R_joins (by omega) _ _ _ _ _ hμ8) (Nat.le_of_ble_eq_true rfl) jml_222 (Nat.le_of_ble_eq_true rfl) ?_
    obtain rfl := Option.some.inj h
    exact jr_return jf_226_51 jmt_226
set_option maxRecDepth 10000 in
set_option maxHeartbeats 4000000 in
theorem r_R_term_2 {B : Nat} {SA : Nat → Nat} {d : Nat} (hd : 2 ≤ d) : ∀ (v0 : Nat) (v1 : UInt64) (v3 : Bool) (μ : JMem) (μ9 : JMem), g_R_term_2 B v0 v1 v3 μ = some μ9 → jR B SA d m_R_term_2 0 (lv_args 0 [.ref v0, .double v1, .int (jb v3)]) [] μ none μ9 := by
  intro v0 v1 v3 μ μ9 h
  exact r_R_term_2_e hd (lv_args 0 _) _ _ _ _ _ (by simp [lv_args, jget, rv_cat, cat_int, cat_long, cat_double, cat_float, cat_ref]) (by simp [lv_args, jget, rv_cat, cat_int, cat_long, cat_double, cat_float, cat_ref]) (by simp [lv_args, jget, rv_cat, cat_int, cat_long, cat_double, cat_float, cat_ref]) h
/-! FilterBenchModel.waits(I)V -/
set_option maxRecDepth 10000 in
set_option maxHeartbeats 4000000 in
theorem r_R_waits_e {B : Nat} {SA : Nat → Nat} {d : Nat} (hd : 0 ≤ d) : ∀ (L : JLoc) (v0 : Nat) (v1 : Int32) (μ : JMem) (μ9 : JMem), jget L 0 = .ref v0 → jget L 1 = .int v1 → g_R_waits B v0 v1 μ = some μ9 → jR B SA d m_R_waits 0 L [] μ none μ9 := by
  intro L v0 v1 μ μ9 hl0 hl1 h
  unfold g_R_waits at h
  refine jr_aload_n jf_229_0 rfl hl0 ?_
  replace h := obd_of h; obtain ⟨x1, hx1, h⟩ := h
  refine jr_getA jf_229_1 hx1 ?_
  refine jr_aload_n jf_229_4 rfl hl0 ?_
  replace h := obd_of h; obtain ⟨x2, hx2, h⟩ := h
  refine jr_getI jf_229_5 hx2 ?_
  refine jr_aload_n jf_229_8 rfl hl0 ?_
  replace h := obd_of h; obtain ⟨x3, hx3, h⟩ := h
  refine jr_getI jf_229_9 hx3 ?_
  replace h := obd_of h; obtain ⟨a4, rfl, h⟩ := h
  replace h := obd_of h; obtain ⟨μ5, hμ5, h⟩ := h
  refine jr_iastore jf_229_12 hμ5 ?_
  refine jr_aload_n jf_229_13 rfl hl0 ?_
  replace h := obd_of h; obtain ⟨x6, hx6, h⟩ := h
  refine jr_getA jf_229_14 hx6 ?_
  refine jr_aload_n jf_229_17 rfl hl0 ?_
  replace h := obd_of h; obtain ⟨x7, hx7, h⟩ := h
  refine jr_getI jf_229_18 hx7 ?_
  refine jr_aload_n jf_229_21 rfl hl0 ?_
  replace h := obd_of h; obtain ⟨x8, hx8, h⟩ := h
  refine jr_getI jf_229_22 hx8 ?_
  replace h := obd_of h; obtain ⟨a9, rfl, h⟩ := h
  replace h := obd_of h; obtain ⟨μ10, hμ10, h⟩ := h
  refine jr_iastore jf_229_25 hμ10 ?_
  refine jr_aload_n jf_229_26 rfl hl0 ?_
  replace h := obd_of h; obtain ⟨x11, hx11, h⟩ := h
  refine jr_getA jf_229_27 hx11 ?_
  refine jr_aload_n jf_229_30 rfl hl0 ?_
  replace h := obd_of h; obtain ⟨x12, hx12, h⟩ := h
  refine jr_getI jf_229_31 hx12 ?_
  refine jr_iload_n jf_229_34 rfl hl1 ?_
  replace h := obd_of h; obtain ⟨a13, rfl, h⟩ := h
  replace h := obd_of h; obtain ⟨μ14, hμ14, h⟩ := h
  refine jr_iastore jf_229_35 hμ14 ?_
  refine jr_aload_n jf_229_36 rfl hl0 ?_
  replace h := obd_of h; obtain ⟨x15, hx15, h⟩ := h
  refine jr_getA jf_229_37 hx15 ?_
  refine jr_aload_n jf_229_40 rfl hl0 ?_
  replace h := obd_of h; obtain ⟨x16, hx16, h⟩ := h
  refine jr_getI jf_229_41 hx16 ?_
  refine jr_aload_n jf_229_44 rfl hl0 ?_
  replace h := obd_of h; obtain ⟨x17, hx17, h⟩ := h
  refine jr_getD jf_229_45 hx17 ?_
  replace h := obd_of h; obtain ⟨a18, rfl, h⟩ := h
  replace h := obd_of h; obtain ⟨μ19, hμ19, h⟩ := h
  refine jr_dastore jf_229_48 hμ19 ?_
  refine jr_aload_n jf_229_49 rfl hl0 ?_
  refine jr_dup jf_229_50 rfl ?_
  replace h := obd_of h; obtain ⟨x20, hx20, h⟩ := h
  refine jr_getI jf_229_51 hx20 ?_
  refine jr_iconst jf_229_54 jc_i_1 ?_
  refine jr_iadd jf_229_55 ?_
  replace h := obd_of h; obtain ⟨μ21, hμ21, h⟩ := h
  refine jr_putI jf_229_56 rfl hμ21 ?_
  obtain rfl := Option.some.inj h
  exact jr_return jf_229_59 jmt_229
set_option maxRecDepth 10000 in
set_option maxHeartbeats 4000000 in
theorem r_R_waits {B : Nat} {SA : Nat → Nat} {d : Nat} (hd : 0 ≤ d) : ∀ (v0 : Nat) (v1 : Int32) (μ : JMem) (μ9 : JMem), g_R_waits B v0 v1 μ = some μ9 → jR B SA d m_R_waits 0 (lv_args 0 [.ref v0, .int v1]) [] μ none μ9 := by
  intro v0 v1 μ μ9 h
  exact r_R_waits_e hd (lv_args 0 _) _ _ _ _ (by simp [lv_args, jget, rv_cat, cat_int, cat_long, cat_double, cat_float, cat_ref]) (by simp [lv_args, jget, rv_cat, cat_int, cat_long, cat_double, cat_float, cat_ref]) h
/-! FilterBenchModel.rings(ID)D -/
set_option maxRecDepth 10000 in
set_option maxHeartbeats 4000000 in
theorem r_R_rings_e {B : Nat} {SA : Nat → Nat} {d : Nat} (hd : 0 ≤ d) : ∀ (L : JLoc) (v0 : Nat) (v1 : Int32) (v2 : UInt64) (μ : JMem) (r : UInt64) (μ9 : JMem), jget L 0 = .ref v0 → jget L 1 = .int v1 → jget L 2 = .double v2 → g_R_rings B v0 v1 v2 μ = some (r, μ9) → jR B SA d m_R_rings 0 L [] μ (some (.double r)) μ9 := by
  intro L v0 v1 v2 μ r μ9 hl0 hl1 hl2 h
  unfold g_R_rings at h
  refine jr_aload_n jf_231_0 rfl hl0 ?_
  replace h := obd_of h; obtain ⟨x1, hx1, h⟩ := h
  refine jr_getA jf_231_1 hx1 ?_
  refine jr_iload_n jf_231_4 rfl hl1 ?_
  replace h := obd_of h; obtain ⟨a2, rfl, h⟩ := h
  replace h := obd_of h; obtain ⟨x3, hx3, h⟩ := h
  refine jr_iaload jf_231_5 hx3 ?_
  refine jr_istore jf_231_6 jml_231 (by decide) ?_
  refine jr_bipush jf_231_8 jc_b_64 ?_
  refine jr_iload_n jf_231_10 rfl (jg1_ne rfl hl1) ?_
  refine jr_imul jf_231_11 ?_
  refine jr_aload_n jf_231_12 rfl (jg1_ne rfl hl0) ?_
  replace h := obd_of h; obtain ⟨x4, hx4, h⟩ := h
  refine jr_getA jf_231_13 hx4 ?_
  refine jr_iload_n jf_231_16 rfl (jg1_ne rfl hl1) ?_
  replace h := obd_of h; obtain ⟨a5, rfl, h⟩ := h
  replace h := obd_of h; obtain ⟨x6, hx6, h⟩ := h
  refine jr_iaload jf_231_17 hx6 ?_
  refine jr_iadd jf_231_18 ?_
  refine jr_istore jf_231_19 jml_231 (by decide) ?_
  refine jr_aload_n jf_231_21 rfl (jg1_ne rfl (jg1_ne rfl hl0)) ?_
  replace h := obd_of h; obtain ⟨x7, hx7, h⟩ := h
  refine jr_getA jf_231_22 hx7 ?_
  refine jr_iload jf_231_25 jg1_same ?_
  replace h := obd_of h; obtain ⟨a8, rfl, h⟩ := h
  replace h := obd_of h; obtain ⟨x9, hx9, h⟩ := h
  refine jr_daload jf_231_27 hx9 ?_
  refine jr_dstore jf_231_28 jml_231 (by decide) ?_
  refine jr_aload_n jf_231_30 rfl (jg2_ne rfl (jg1_ne rfl (jg1_ne rfl hl0))) ?_
  replace h := obd_of h; obtain ⟨x10, hx10, h⟩ := h
  refine jr_getA jf_231_31 hx10 ?_
  refine jr_iload jf_231_34 (jg2_pre rfl jg1_same) ?_
  refine jr_dload_n jf_231_36 rfl (jg2_ne rfl (jg1_ne rfl (jg1_ne rfl hl2))) ?_
  replace h := obd_of h; obtain ⟨a11, rfl, h⟩ := h
  replace h := obd_of h; obtain ⟨μ12, hμ12, h⟩ := h
  refine jr_dastore jf_231_37 hμ12 ?_
  refine jr_aload_n jf_231_38 rfl (jg2_ne rfl (jg1_ne rfl (jg1_ne rfl hl0))) ?_
  replace h := obd_of h; obtain ⟨x13, hx13, h⟩ := h
  refine jr_getA jf_231_39 hx13 ?_
  refine jr_iload_n jf_231_42 rfl (jg2_ne rfl (jg1_ne rfl (jg1_ne rfl hl1))) ?_
  refine jr_aload_n jf_231_43 rfl (jg2_ne rfl (jg1_ne rfl (jg1_ne rfl hl0))) ?_
  replace h := obd_of h; obtain ⟨x14, hx14, h⟩ := h
  refine jr_getA jf_231_44 hx14 ?_
  refine jr_iload_n jf_231_47 rfl (jg2_ne rfl (jg1_ne rfl (jg1_ne rfl hl1))) ?_
  replace h := obd_of h; obtain ⟨a15, rfl, h⟩ := h
  replace h := obd_of h; obtain ⟨x16, hx16, h⟩ := h
  refine jr_iaload jf_231_48 hx16 ?_
  refine jr_iconst jf_231_49 jc_i_1 ?_
  refine jr_iadd jf_231_50 ?_
  refine jr_iload jf_231_51 (jg2_ne rfl (jg1_pre rfl jg1_same)) ?_
  replace h := obd_of h; obtain ⟨x17, hx17, h⟩ := h
  refine jr_irem jf_231_53 hx17 ?_
  replace h := obd_of h; obtain ⟨a18, rfl, h⟩ := h
  replace h := obd_of h; obtain ⟨μ19, hμ19, h⟩ := h
  refine jr_iastore jf_231_54 hμ19 ?_
  refine jr_dload jf_231_55 jg2_same ?_
  obtain ⟨rfl, rfl⟩ := Prod.mk.inj (Option.some.inj h)
  exact jr_retD jf_231_57 jmt_231
set_option maxRecDepth 10000 in
set_option maxHeartbeats 4000000 in
theorem r_R_rings {B : Nat} {SA : Nat → Nat} {d : Nat} (hd : 0 ≤ d) : ∀ (v0 : Nat) (v1 : Int32) (v2 : UInt64) (μ : JMem) (r : UInt64) (μ9 : JMem), g_R_rings B v0 v1 v2 μ = some (r, μ9) → jR B SA d m_R_rings 0 (lv_args 0 [.ref v0, .int v1, .double v2]) [] μ (some (.double r)) μ9 := by
  intro v0 v1 v2 μ r μ9 h
  exact r_R_rings_e hd (lv_args 0 _) _ _ _ _ _ _ (by simp [lv_args, jget, rv_cat, cat_int, cat_long, cat_double, cat_float, cat_ref]) (by simp [lv_args, jget, rv_cat, cat_int, cat_long, cat_double, cat_float, cat_ref]) (by simp [lv_args, jget, rv_cat, cat_int, cat_long, cat_double, cat_float, cat_ref]) h
/-! FilterBenchModel.sizeOf(ID)D -/
set_option maxRecDepth 10000 in
set_option maxHeartbeats 4000000 in
theorem r_R_sizeOf_19 {B : Nat} {SA : Nat → Nat} {d : Nat} (hd : 1 ≤ d) : ∀ (L : JLoc) (s0 : Int64) (μ : JMem) (r : UInt64), g_R_sizeOf_19 s0 = some r → jR B SA d m_R_sizeOf 19 L [.long s0] μ (some (.double r)) μ := by
  intro L s0 μ r h
  unfold g_R_sizeOf_19 at h
  refine jr_iconst jf_233_19 jc_i_0 ?_
  refine jr_S3_2 jf_233_20 (by omega) (r_R_cut (by omega) _ _ _ _ rfl) (Nat.le_of_ble_eq_true rfl) jml_224 (Nat.le_of_ble_eq_true rfl) ?_
  obtain rfl := Option.some.inj h
  exact jr_retD jf_233_23 jmt_233
set_option maxRecDepth 10000 in
set_option maxHeartbeats 4000000 in
theorem r_R_sizeOf_e {B : Nat} {SA : Nat → Nat} {d : Nat} (hd : 1 ≤ d) : ∀ (L : JLoc) (v1 : Int32) (v2 : UInt64) (μ : JMem) (r : UInt64), jget L 1 = .int v1 → jget L 2 = .double v2 → g_R_sizeOf_e v1 v2 = some r → jR B SA d m_R_sizeOf 0 L [] μ (some (.double r)) μ := by
  intro L v1 v2 μ r hl1 hl2 h
  unfold g_R_sizeOf_e at h
  refine jr_iload_n jf_233_0 rfl hl1 ?_
  refine jr_iconst jf_233_1 jc_i_2 ?_
  replace h := ite_or h; rcases h with ⟨hc, h⟩ | ⟨hc, h⟩
  · refine jr_if2_ne_f jf_233_2 hc ?_
    refine jr_dload_n jf_233_5 rfl hl2 ?_
    refine jr_dconst0 jf_233_6 ?_
    refine jr_dcmp jf_233_7 ?_
    replace h := ite_or h; rcases h with ⟨hc, h⟩ | ⟨hc, h⟩
    · refine jr_if_ge_t jf_233_8 hc ?_
      refine jr_dload_n jf_233_17 rfl hl2 ?_
      refine jr_d2l jf_233_18 ?_
      exact r_R_sizeOf_19 hd _ _ _ _ h
    · refine jr_if_ge_f jf_233_8 hc ?_
      refine jr_dload_n jf_233_11 rfl hl2 ?_
      refine jr_d2l jf_233_12 ?_
      refine jr_lneg jf_233_13 ?_
      refine jr_goto jf_233_14 ?_
      exact r_R_sizeOf_19 hd _ _ _ _ h
  · refine jr_if2_ne_t jf_233_2 hc ?_
    refine jr_dload_n jf_233_24 rfl hl2 ?_
    refine jr_dconst0 jf_233_25 ?_
    refine jr_dcmp jf_233_26 ?_
    replace h := ite_or h; rcases h with ⟨hc, h⟩ | ⟨hc, h⟩
    · refine jr_if_gt_t jf_233_27 hc ?_
      refine jr_dload_n jf_233_36 rfl hl2 ?_
      obtain rfl := Option.some.inj h
      exact jr_retD jf_233_37 jmt_233
    · refine jr_if_gt_f jf_233_27 hc ?_
      refine jr_dconst0 jf_233_30 ?_
      refine jr_dload_n jf_233_31 rfl hl2 ?_
      replace h := obd_of h; obtain ⟨x1, hx1, h⟩ := h
      refine jr_dsub jf_233_32 hx1 ?_
      refine jr_goto jf_233_33 ?_
      obtain rfl := Option.some.inj h
      exact jr_retD jf_233_37 jmt_233
set_option maxRecDepth 10000 in
set_option maxHeartbeats 4000000 in
theorem r_R_sizeOf {B : Nat} {SA : Nat → Nat} {d : Nat} (hd : 1 ≤ d) : ∀ (v0 : Nat) (v1 : Int32) (v2 : UInt64) (μ : JMem) (r : UInt64), g_R_sizeOf v0 v1 v2 = some r → jR B SA d m_R_sizeOf 0 (lv_args 0 [.ref v0, .int v1, .double v2]) [] μ (some (.double r)) μ := by
  intro v0 v1 v2 μ r h
  exact r_R_sizeOf_e hd (lv_args 0 _) _ _ _ _ (by simp [lv_args, jget, rv_cat, cat_int, cat_long, cat_double, cat_float, cat_ref]) (by simp [lv_args, jget, rv_cat, cat_int, cat_long, cat_double, cat_float, cat_ref]) h
/-! FilterBenchModel.shapes(ID)D -/
set_option maxRecDepth 10000 in
set_option maxHeartbeats 4000000 in
theorem r_R_shapes_78 {B : Nat} {SA : Nat → Nat} {d : Nat} (hd : 3 ≤ d) : ∀ (L : JLoc) (v0 : Nat) (v1 : Int32) (v2 : UInt64) (v4 : UInt64) (s0 : UInt64) (μ : JMem) (r : UInt64) (μ9 : JMem), jget L 0 = .ref v0 → jget L 1 = .int v1 → jget L 2 = .double v2 → jget L 4 = .double v4 → g_R_shapes_78 B v0 v1 v2 v4 s0 μ = some (r, μ9) → jR B SA d m_R_shapes 78 L [.double s0] μ (some (.double r)) μ9 := by
  intro L v0 v1 v2 v4 s0 μ r μ9 hl0 hl1 hl2 hl4 h
  unfold g_R_shapes_78 at h
  refine jr_dstore jf_232_78 jml_232 (by decide) ?_
  refine jr_dload_n jf_232_80 rfl (jg2_ne rfl hl2) ?_
  refine jr_dload jf_232_81 (jg2_ne rfl hl4) ?_
  refine jr_dcmp jf_232_83 ?_
  replace h := ite_or h; rcases h with ⟨hc, h⟩ | ⟨hc, h⟩
  · refine jr_if_le_t jf_232_84 hc ?_
    refine jr_dload_n jf_232_100 rfl (jg2_ne rfl hl2) ?_
    refine jr_dload jf_232_101 jg2_same ?_
    refine jr_dcmp jf_232_103 ?_
    replace h := ite_or h; rcases h with ⟨hc, h⟩ | ⟨hc, h⟩
    · refine jr_if_ge_t jf_232_104 hc ?_
      refine jr_dload_n jf_232_120 rfl (jg2_ne rfl hl2) ?_
      obtain ⟨rfl, rfl⟩ := Prod.mk.inj (Option.some.inj h)
      exact jr_retD jf_232_121 jmt_232
    · refine jr_if_ge_f jf_232_104 hc ?_
      refine jr_aload_n jf_232_107 rfl (jg2_ne rfl hl0) ?_
      replace h := obd_of h; obtain ⟨x1, hx1, h⟩ := h
      refine jr_getA jf_232_108 hx1 ?_
      refine jr_iload_n jf_232_111 rfl (jg2_ne rfl hl1) ?_
      refine jr_dup2_1 jf_232_112 rfl (rv_cat _) ?_
      replace h := obd_of h; obtain ⟨a2, rfl, h⟩ := h
      replace h := obd_of h; obtain ⟨x3, hx3, h⟩ := h
      refine jr_iaload jf_232_113 hx3 ?_
      refine jr_iconst jf_232_114 jc_i_1 ?_
      refine jr_iadd jf_232_115 ?_
      replace h := obd_of h; obtain ⟨μ4, hμ4, h⟩ := h
      refine jr_iastore jf_232_116 hμ4 ?_
      refine jr_dload jf_232_117 jg2_same ?_
      obtain ⟨rfl, rfl⟩ := Prod.mk.inj (Option.some.inj h)
      exact jr_retD jf_232_119 jmt_232
  · refine jr_if_le_f jf_232_84 hc ?_
    refine jr_aload_n jf_232_87 rfl (jg2_ne rfl hl0) ?_
    replace h := obd_of h; obtain ⟨x5, hx5, h⟩ := h
    refine jr_getA jf_232_88 hx5 ?_
    refine jr_iload_n jf_232_91 rfl (jg2_ne rfl hl1) ?_
    refine jr_dup2_1 jf_232_92 rfl (rv_cat _) ?_
    replace h := obd_of h; obtain ⟨a6, rfl, h⟩ := h
    replace h := obd_of h; obtain ⟨x7, hx7, h⟩ := h
    refine jr_iaload jf_232_93 hx7 ?_
    refine jr_iconst jf_232_94 jc_i_1 ?_
    refine jr_iadd jf_232_95 ?_
    replace h := obd_of h; obtain ⟨μ8, hμ8, h⟩ := h
    refine jr_iastore jf_232_96 hμ8 ?_
    refine jr_dload jf_232_97 (jg2_ne rfl hl4) ?_
    obtain ⟨rfl, rfl⟩ := Prod.mk.inj (Option.some.inj h)
    exact jr_retD jf_232_99 jmt_232
set_option maxRecDepth 10000 in
set_option maxHeartbeats 4000000 in
theorem r_R_shapes_202 {B : Nat} {SA : Nat → Nat} {d : Nat} (hd : 3 ≤ d) : ∀ (L : JLoc) (v0 : Nat) (v1 : Int32) (v6 : UInt64) (μ : JMem) (r : UInt64) (μ9 : JMem), jget L 0 = .ref v0 → jget L 1 = .int v1 → jget L 6 = .double v6 → g_R_shapes_202 B v0 v1 v6 μ = some (r, μ9) → jR B SA d m_R_shapes 202 L [] μ (some (.double r)) μ9 := by
  intro L v0 v1 v6 μ r μ9 hl0 hl1 hl6 h
  unfold g_R_shapes_202 at h
  refine jr_aload_n jf_232_202 rfl hl0 ?_
  refine jr_iload_n jf_232_203 rfl hl1 ?_
  refine jr_iconst jf_232_204 jc_i_0 ?_
  refine jr_dload jf_232_205 hl6 ?_
  replace h := jgd_of h; obtain ⟨hb1, h⟩ := h
  replace h := obd_of h; obtain ⟨μ2, hμ2, h⟩ := h
  refine jr_V6v_3 jf_232_207 hb1 (by omega) (r_R_st_2 (by omega) _ _ _ _ _ _ hμ2) (Nat.le_of_ble_eq_true rfl) jml_228 (Nat.le_of_ble_eq_true rfl) ?_
  refine jr_dload jf_232_210 hl6 ?_
  obtain ⟨rfl, rfl⟩ := Prod.mk.inj (Option.some.inj h)
  exact jr_retD jf_232_212 jmt_232
set_option maxRecDepth 10000 in
set_option maxHeartbeats 4000000 in
theorem r_R_shapes_e {B : Nat} {SA : Nat → Nat} {d : Nat} (hd : 3 ≤ d) : ∀ (L : JLoc) (v0 : Nat) (v1 : Int32) (v2 : UInt64) (μ : JMem) (r : UInt64) (μ9 : JMem), jget L 0 = .ref v0 → jget L 1 = .int v1 → jget L 2 = .double v2 → g_R_shapes B v0 v1 v2 μ = some (r, μ9) → jR B SA d m_R_shapes 0 L [] μ (some (.double r)) μ9 := by
  intro L v0 v1 v2 μ r μ9 hl0 hl1 hl2 h
  unfold g_R_shapes at h
  refine jr_aload_n jf_232_0 rfl hl0 ?_
  refine jr_iload_n jf_232_1 rfl hl1 ?_
  refine jr_iconst jf_232_2 jc_i_0 ?_
  replace h := jgd_of h; obtain ⟨hb1, h⟩ := h
  replace h := obd_of h; obtain ⟨x2, hx2, h⟩ := h
  refine jr_V6_2 jf_232_3 hb1 (by omega) (r_R_c (by omega) _ _ _ _ _ hx2) (Nat.le_of_ble_eq_true rfl) jml_218 (Nat.le_of_ble_eq_true rfl) ?_
  refine jr_dstore jf_232_6 jml_232 (by decide) ?_
  refine jr_aload_n jf_232_8 rfl (jg2_ne rfl hl0) ?_
  replace h := obd_of h; obtain ⟨x3, hx3, h⟩ := h
  refine jr_getA jf_232_9 hx3 ?_
  refine jr_iload_n jf_232_12 rfl (jg2_ne rfl hl1) ?_
  replace h := obd_of h; obtain ⟨a4, rfl, h⟩ := h
  replace h := obd_of h; obtain ⟨x5, hx5, h⟩ := h
  refine jr_iaload jf_232_13 hx5 ?_
  refine jr_switch jf_232_14 ?_
  replace h := ite_or h; rcases h with ⟨hc, h⟩ | ⟨hc, h⟩
  · refine jsw_hit (by decide) hc ?_
    refine jr_aload_n jf_232_40 rfl (jg2_ne rfl hl0) ?_
    replace h := obd_of h; obtain ⟨x6, hx6, h⟩ := h
    refine jr_getA jf_232_41 hx6 ?_
    refine jr_iload_n jf_232_44 rfl (jg2_ne rfl hl1) ?_
    replace h := obd_of h; obtain ⟨a7, rfl, h⟩ := h
    replace h := obd_of h; obtain ⟨x8, hx8, h⟩ := h
    refine jr_iaload jf_232_45 hx8 ?_
    refine jr_iconst jf_232_46 jc_i_2 ?_
    replace h := ite_or h; rcases h with ⟨hc, h⟩ | ⟨hc, h⟩
    · refine jr_if2_ne_f jf_232_47 hc ?_
      refine jr_dload jf_232_50 jg2_same ?_
      refine jr_d2l jf_232_52 ?_
      refine jr_lneg jf_232_53 ?_
      refine jr_iconst jf_232_54 jc_i_0 ?_
      refine jr_S3_2 jf_232_55 (by omega) (r_R_cut (by omega) _ _ _ _ rfl) (Nat.le_of_ble_eq_true rfl) jml_224 (Nat.le_of_ble_eq_true rfl) ?_
      refine jr_goto jf_232_58 ?_
      exact r_R_shapes_78 hd _ _ _ _ _ _ _ _ _ (jg2_ne rfl hl0) (jg2_ne rfl hl1) (jg2_ne rfl hl2) jg2_same h
    · refine jr_if2_ne_t jf_232_47 hc ?_
      refine jr_dload jf_232_61 jg2_same ?_
      refine jr_dload jf_232_63 jg2_same ?_
      refine jr_dcmp jf_232_65 ?_
      replace h := ite_or h; rcases h with ⟨hc, h⟩ | ⟨hc, h⟩
      · refine jr_if_eq_t jf_232_66 hc ?_
        refine jr_dload jf_232_75 jg2_same ?_
        refine jr_dneg jf_232_77 ?_
        exact r_R_shapes_78 hd _ _ _ _ _ _ _ _ _ (jg2_ne rfl hl0) (jg2_ne rfl hl1) (jg2_ne rfl hl2) jg2_same h
      · refine jr_if_eq_f jf_232_66 hc ?_
        refine jr_ldc2d jf_232_69 ?_
        refine jr_goto jf_232_72 ?_
        exact r_R_shapes_78 hd _ _ _ _ _ _ _ _ _ (jg2_ne rfl hl0) (jg2_ne rfl hl1) (jg2_ne rfl hl2) jg2_same h
  · refine jsw_miss (by decide) hc (by decide : (9 : Int) + 1 = 10) ?_
    replace h := ite_or h; rcases h with ⟨hc, h⟩ | ⟨hc, h⟩
    · refine jsw_hit (by decide) hc ?_
      refine jr_aload_n jf_232_122 rfl (jg2_ne rfl hl0) ?_
      refine jr_aload_n jf_232_123 rfl (jg2_ne rfl hl0) ?_
      replace h := obd_of h; obtain ⟨x9, hx9, h⟩ := h
      refine jr_getA jf_232_124 hx9 ?_
      refine jr_iload_n jf_232_127 rfl (jg2_ne rfl hl1) ?_
      replace h := obd_of h; obtain ⟨a10, rfl, h⟩ := h
      replace h := obd_of h; obtain ⟨x11, hx11, h⟩ := h
      refine jr_iaload jf_232_128 hx11 ?_
      refine jr_dload_n jf_232_129 rfl (jg2_ne rfl hl2) ?_
      replace h := jgd_of h; obtain ⟨hb12, h⟩ := h
      replace h := obd_of h; obtain ⟨x13, hx13, h⟩ := h
      refine jr_V6_2 jf_232_130 hb12 (by omega) (r_R_sizeOf (by omega) _ _ _ _ _ hx13) (Nat.le_of_ble_eq_true rfl) jml_233 (Nat.le_of_ble_eq_true rfl) ?_
      refine jr_dload jf_232_133 jg2_same ?_
      refine jr_dcmp jf_232_135 ?_
      replace h := ite_or h; rcases h with ⟨hc, h⟩ | ⟨hc, h⟩
      · refine jr_if_le_t jf_232_136 hc ?_
        refine jr_aload_n jf_232_141 rfl (jg2_ne rfl hl0) ?_
        replace h := obd_of h; obtain ⟨x14, hx14, h⟩ := h
        refine jr_getA jf_232_142 hx14 ?_
        refine jr_iload_n jf_232_145 rfl (jg2_ne rfl hl1) ?_
        refine jr_dup2_1 jf_232_146 rfl (rv_cat _) ?_
        replace h := obd_of h; obtain ⟨a15, rfl, h⟩ := h
        replace h := obd_of h; obtain ⟨x16, hx16, h⟩ := h
        refine jr_iaload jf_232_147 hx16 ?_
        refine jr_iconst jf_232_148 jc_i_1 ?_
        refine jr_iadd jf_232_149 ?_
        replace h := obd_of h; obtain ⟨μ17, hμ17, h⟩ := h
        refine jr_iastore jf_232_150 hμ17 ?_
        refine jr_dconst0 jf_232_151 ?_
        obtain ⟨rfl, rfl⟩ := Prod.mk.inj (Option.some.inj h)
        exact jr_retD jf_232_152 jmt_232
      · refine jr_if_le_f jf_232_136 hc ?_
        refine jr_dload_n jf_232_139 rfl (jg2_ne rfl hl2) ?_
        obtain ⟨rfl, rfl⟩ := Prod.mk.inj (Option.some.inj h)
        exact jr_retD jf_232_140 jmt_232
    · refine jsw_miss (by decide) hc (by decide : (10 : Int) + 1 = 11) ?_
      replace h := ite_or h; rcases h with ⟨hc, h⟩ | ⟨hc, h⟩
      · refine jsw_hit (by decide) hc ?_
        refine jr_aload_n jf_232_153 rfl (jg2_ne rfl hl0) ?_
        refine jr_aload_n jf_232_154 rfl (jg2_ne rfl hl0) ?_
        replace h := obd_of h; obtain ⟨x18, hx18, h⟩ := h
        refine jr_getA jf_232_155 hx18 ?_
        refine jr_iload_n jf_232_158 rfl (jg2_ne rfl hl1) ?_
        replace h := obd_of h; obtain ⟨a19, rfl, h⟩ := h
        replace h := obd_of h; obtain ⟨x20, hx20, h⟩ := h
        refine jr_iaload jf_232_159 hx20 ?_
        refine jr_dload_n jf_232_160 rfl (jg2_ne rfl hl2) ?_
        replace h := jgd_of h; obtain ⟨hb21, h⟩ := h
        replace h := obd_of h; obtain ⟨x22, hx22, h⟩ := h
        refine jr_V6_2 jf_232_161 hb21 (by omega) (r_R_sizeOf (by omega) _ _ _ _ _ hx22) (Nat.le_of_ble_eq_true rfl) jml_233 (Nat.le_of_ble_eq_true rfl) ?_
        refine jr_dstore jf_232_164 jml_232 (by decide) ?_
        refine jr_dload jf_232_166 jg2_same ?_
        refine jr_aload_n jf_232_168 rfl (jg2_ne rfl (jg2_ne rfl hl0)) ?_
        refine jr_iload_n jf_232_169 rfl (jg2_ne rfl (jg2_ne rfl hl1)) ?_
        refine jr_iconst jf_232_170 jc_i_0 ?_
        replace h := jgd_of h; obtain ⟨hb23, h⟩ := h
        replace h := obd_of h; obtain ⟨x24, hx24, h⟩ := h
        refine jr_V6_2 jf_232_171 hb23 (by omega) (r_R_st (by omega) _ _ _ _ _ hx24) (Nat.le_of_ble_eq_true rfl) jml_227 (Nat.le_of_ble_eq_true rfl) ?_
        refine jr_dcmp jf_232_174 ?_
        replace h := ite_or h; rcases h with ⟨hc, h⟩ | ⟨hc, h⟩
        · refine jr_if_gt_t jf_232_175 hc ?_
          exact r_R_shapes_202 hd _ _ _ _ _ _ _ (jg2_ne rfl (jg2_ne rfl hl0)) (jg2_ne rfl (jg2_ne rfl hl1)) jg2_same h
        · refine jr_if_gt_f jf_232_175 hc ?_
          refine jr_aload_n jf_232_178 rfl (jg2_ne rfl (jg2_ne rfl hl0)) ?_
          refine jr_iload_n jf_232_179 rfl (jg2_ne rfl (jg2_ne rfl hl1)) ?_
          replace h := jgd_of h; obtain ⟨hb25, h⟩ := h
          replace h := obd_of h; obtain ⟨μ26, hμ26, h⟩ := h
          refine jr_V6v_1 jf_232_180 hb25 (by omega) (r_R_begins (by omega) _ _ _ _ hμ26) (Nat.le_of_ble_eq_true rfl) jml_217 (Nat.le_of_ble_eq_true rfl) ?_
          refine jr_aload_n jf_232_183 rfl (jg2_ne rfl (jg2_ne rfl hl0)) ?_
          refine jr_dload jf_232_184 (jg2_ne rfl jg2_same) ?_
          refine jr_aload_n jf_232_186 rfl (jg2_ne rfl (jg2_ne rfl hl0)) ?_
          refine jr_iload_n jf_232_187 rfl (jg2_ne rfl (jg2_ne rfl hl1)) ?_
          refine jr_iconst jf_232_188 jc_i_0 ?_
          replace h := jgd_of h; obtain ⟨hb27, h⟩ := h
          replace h := obd_of h; obtain ⟨x28, hx28, h⟩ := h
          refine jr_V6_2 jf_232_189 hb27 (by omega) (r_R_st (by omega) _ _ _ _ _ hx28) (Nat.le_of_ble_eq_true rfl) jml_227 (Nat.le_of_ble_eq_true rfl) ?_
          refine jr_iconst jf_232_192 jc_i_0 ?_
          replace h := jgd_of h; obtain ⟨hb29, h⟩ := h
          replace h := obd_of h; obtain ⟨μ30, hμ30, h⟩ := h
          refine jr_V6v_3 jf_232_193 hb29 (by omega) (r_R_term (by omega) _ _ _ _ _ _ hμ30) (Nat.le_of_ble_eq_true rfl) jml_219 (Nat.le_of_ble_eq_true rfl) ?_
          refine jr_aload_n jf_232_196 rfl (jg2_ne rfl (jg2_ne rfl hl0)) ?_
          replace h := jgd_of h; obtain ⟨hb31, h⟩ := h
          replace h := jbd2_of h; obtain ⟨x32, μ33, hx32, h⟩ := h
          refine jr_V6_0 jf_232_197 hb31 (by omega) (r_R_comes (by omega) _ _ _ _ hx32) (Nat.le_of_ble_eq_true rfl) jml_223 (Nat.le_of_ble_eq_true rfl) ?_
          refine jr_dstore jf_232_200 jml_232 (by decide) ?_
          exact r_R_shapes_202 hd _ _ _ _ _ _ _ (jg2_ne rfl (jg2_ne rfl (jg2_ne rfl hl0))) (jg2_ne rfl (jg2_ne rfl (jg2_ne rfl hl1))) jg2_same h
      · refine jsw_miss (by decide) hc (by decide : (11 : Int) + 1 = 12) ?_
        refine jsw_end ?_
        refine jr_aload_n jf_232_213 rfl (jg2_ne rfl hl0) ?_
        refine jr_iload_n jf_232_214 rfl (jg2_ne rfl hl1) ?_
        replace h := jgd_of h; obtain ⟨hb34, h⟩ := h
        replace h := obd_of h; obtain ⟨μ35, hμ35, h⟩ := h
        refine jr_V6v_1 jf_232_215 hb34 (by omega) (r_R_begins (by omega) _ _ _ _ hμ35) (Nat.le_of_ble_eq_true rfl) jml_217 (Nat.le_of_ble_eq_true rfl) ?_
        refine jr_aload_n jf_232_218 rfl (jg2_ne rfl hl0) ?_
        refine jr_dload jf_232_219 jg2_same ?_
        refine jr_dload_n jf_232_221 rfl (jg2_ne rfl hl2) ?_
        refine jr_iconst jf_232_222 jc_i_0 ?_
        replace h := jgd_of h; obtain ⟨hb36, h⟩ := h
        replace h := obd_of h; obtain ⟨μ37, hμ37, h⟩ := h
        refine jr_V6v_3 jf_232_223 hb36 (by omega) (r_R_term (by omega) _ _ _ _ _ _ hμ37) (Nat.le_of_ble_eq_true rfl) jml_219 (Nat.le_of_ble_eq_true rfl) ?_
        refine jr_aload_n jf_232_226 rfl (jg2_ne rfl hl0) ?_
        refine jr_aload_n jf_232_227 rfl (jg2_ne rfl hl0) ?_
        refine jr_iload_n jf_232_228 rfl (jg2_ne rfl hl1) ?_
        refine jr_iconst jf_232_229 jc_i_1 ?_
        replace h := jgd_of h; obtain ⟨hb38, h⟩ := h
        replace h := obd_of h; obtain ⟨x39, hx39, h⟩ := h
        refine jr_V6_2 jf_232_230 hb38 (by omega) (r_R_c (by omega) _ _ _ _ _ hx39) (Nat.le_of_ble_eq_true rfl) jml_218 (Nat.le_of_ble_eq_true rfl) ?_
        refine jr_dconst0 jf_232_233 ?_
        refine jr_iconst jf_232_234 jc_i_0 ?_
        replace h := jgd_of h; obtain ⟨hb40, h⟩ := h
        replace h := obd_of h; obtain ⟨μ41, hμ41, h⟩ := h
        refine jr_V6v_3 jf_232_235 hb40 (by omega) (r_R_term (by omega) _ _ _ _ _ _ hμ41) (Nat.le_of_ble_eq_true rfl) jml_219 (Nat.le_of_ble_eq_true rfl) ?_
        refine jr_aload_n jf_232_238 rfl (jg2_ne rfl hl0) ?_
        replace h := jgd_of h; obtain ⟨hb42, h⟩ := h
        replace h := jbd2_of h; obtain ⟨x43, μ44, hx43, h⟩ := h
        refine jr_V6_0 jf_232_239 hb42 (by omega) (r_R_comes (by omega) _ _ _ _ hx43) (Nat.le_of_ble_eq_true rfl) jml_223 (Nat.le_of_ble_eq_true rfl) ?_
        obtain ⟨rfl, rfl⟩ := Prod.mk.inj (Option.some.inj h)
        exact jr_retD jf_232_242 jmt_232
set_option maxRecDepth 10000 in
set_option maxHeartbeats 4000000 in
theorem r_R_shapes {B : Nat} {SA : Nat → Nat} {d : Nat} (hd : 3 ≤ d) : ∀ (v0 : Nat) (v1 : Int32) (v2 : UInt64) (μ : JMem) (r : UInt64) (μ9 : JMem), g_R_shapes B v0 v1 v2 μ = some (r, μ9) → jR B SA d m_R_shapes 0 (lv_args 0 [.ref v0, .int v1, .double v2]) [] μ (some (.double r)) μ9 := by
  intro v0 v1 v2 μ r μ9 h
  exact r_R_shapes_e hd (lv_args 0 _) _ _ _ _ _ _ (by simp [lv_args, jget, rv_cat, cat_int, cat_long, cat_double, cat_float, cat_ref]) (by simp [lv_args, jget, rv_cat, cat_int, cat_long, cat_double, cat_float, cat_ref]) (by simp [lv_args, jget, rv_cat, cat_int, cat_long, cat_double, cat_float, cat_ref]) h
/-! FilterBenchModel.works(ID)D -/
set_option maxRecDepth 10000 in
set_option maxHeartbeats 4000000 in
theorem r_R_works_620 {N B : Nat} {SA : Nat → Nat} {d : Nat} (hd : 4 ≤ d) : ∀ (n : Nat), ∀ (L : JLoc) (v0 : Nat) (v1 : Int32) (v4 : Int32) (μ : JMem) (r : UInt64) (μ9 : JMem), jget L 0 = .ref v0 → jget L 1 = .int v1 → jget L 4 = .int v4 → g_R_works_620 N B n v0 v1 v4 μ = some (r, μ9) → jR B SA d m_R_works 620 L [] μ (some (.double r)) μ9 := by
  intro n
  induction n with
  | zero =>
    intro L v0 v1 v4 μ r μ9 hl0 hl1 hl4 h
    unfold g_R_works_620 at h
    cases h
  | succ n ih =>
    intro L v0 v1 v4 μ r μ9 hl0 hl1 hl4 h
    unfold g_R_works_620 at h
    refine jr_iload jf_230_620 hl4 ?_
    refine jr_aload_n jf_230_622 rfl hl0 ?_
    replace h := obd_of h; obtain ⟨x1, hx1, h⟩ := h
    refine jr_getA jf_230_623 hx1 ?_
    refine jr_iload_n jf_230_626 rfl hl1 ?_
    replace h := obd_of h; obtain ⟨a2, rfl, h⟩ := h
    replace h := obd_of h; obtain ⟨x3, hx3, h⟩ := h
    refine jr_iaload jf_230_627 hx3 ?_
    replace h := ite_or h; rcases h with ⟨hc, h⟩ | ⟨hc, h⟩
    · refine jr_if2_ge_t jf_230_628 hc ?_
      refine jr_aload_n jf_230_663 rfl hl0 ?_
      replace h := jgd_of h; obtain ⟨hb4, h⟩ := h
      replace h := jbd2_of h; obtain ⟨x5, μ6, hx5, h⟩ := h
      refine jr_V6_0 jf_230_664 hb4 (by omega) (r_R_comes (by omega) _ _ _ _ hx5) (Nat.le_of_ble_eq_true rfl) jml_223 (Nat.le_of_ble_eq_true rfl) ?_
      refine jr_dstore jf_230_667 jml_230 (by decide) ?_
      refine jr_aload_n jf_230_669 rfl (jg2_ne rfl hl0) ?_
      refine jr_iload_n jf_230_670 rfl (jg2_ne rfl hl1) ?_
      replace h := jgd_of h; obtain ⟨hb7, h⟩ := h
      replace h := obd_of h; obtain ⟨μ8, hμ8, h⟩ := h
      refine jr_V6v_1 jf_230_671 hb7 (by omega) (r_R_begins (by omega) _ _ _ _ hμ8) (Nat.le_of_ble_eq_true rfl) jml_217 (Nat.le_of_ble_eq_true rfl) ?_
      refine jr_aload_n jf_230_674 rfl (jg2_ne rfl hl0) ?_
      refine jr_aload_n jf_230_675 rfl (jg2_ne rfl hl0) ?_
      refine jr_iload_n jf_230_676 rfl (jg2_ne rfl hl1) ?_
      refine jr_iconst jf_230_677 jc_i_0 ?_
      replace h := jgd_of h; obtain ⟨hb9, h⟩ := h
      replace h := obd_of h; obtain ⟨x10, hx10, h⟩ := h
      refine jr_V6_2 jf_230_678 hb9 (by omega) (r_R_c (by omega) _ _ _ _ _ hx10) (Nat.le_of_ble_eq_true rfl) jml_218 (Nat.le_of_ble_eq_true rfl) ?_
      refine jr_dload jf_230_681 jg2_same ?_
      refine jr_iconst jf_230_683 jc_i_0 ?_
      replace h := jgd_of h; obtain ⟨hb11, h⟩ := h
      replace h := obd_of h; obtain ⟨μ12, hμ12, h⟩ := h
      refine jr_V6v_3 jf_230_684 hb11 (by omega) (r_R_term (by omega) _ _ _ _ _ _ hμ12) (Nat.le_of_ble_eq_true rfl) jml_219 (Nat.le_of_ble_eq_true rfl) ?_
      refine jr_aload_n jf_230_687 rfl (jg2_ne rfl hl0) ?_
      replace h := jgd_of h; obtain ⟨hb13, h⟩ := h
      replace h := jbd2_of h; obtain ⟨x14, μ15, hx14, h⟩ := h
      refine jr_V6_0 jf_230_688 hb13 (by omega) (r_R_comes (by omega) _ _ _ _ hx14) (Nat.le_of_ble_eq_true rfl) jml_223 (Nat.le_of_ble_eq_true rfl) ?_
      obtain ⟨rfl, rfl⟩ := Prod.mk.inj (Option.some.inj h)
      exact jr_retD jf_230_691 jmt_230
    · refine jr_if2_ge_f jf_230_628 hc ?_
      refine jr_aload_n jf_230_631 rfl hl0 ?_
      refine jr_aload_n jf_230_632 rfl hl0 ?_
      refine jr_iload_n jf_230_633 rfl hl1 ?_
      refine jr_aload_n jf_230_634 rfl hl0 ?_
      replace h := obd_of h; obtain ⟨x16, hx16, h⟩ := h
      refine jr_getA jf_230_635 hx16 ?_
      refine jr_iload_n jf_230_638 rfl hl1 ?_
      replace h := obd_of h; obtain ⟨a17, rfl, h⟩ := h
      replace h := obd_of h; obtain ⟨x18, hx18, h⟩ := h
      refine jr_iaload jf_230_639 hx18 ?_
      refine jr_iload jf_230_640 hl4 ?_
      refine jr_iadd jf_230_642 ?_
      refine jr_aload_n jf_230_643 rfl hl0 ?_
      replace h := obd_of h; obtain ⟨x19, hx19, h⟩ := h
      refine jr_getA jf_230_644 hx19 ?_
      refine jr_iload_n jf_230_647 rfl hl1 ?_
      replace h := obd_of h; obtain ⟨a20, rfl, h⟩ := h
      replace h := obd_of h; obtain ⟨x21, hx21, h⟩ := h
      refine jr_iaload jf_230_648 hx21 ?_
      replace h := obd_of h; obtain ⟨x22, hx22, h⟩ := h
      refine jr_irem jf_230_649 hx22 ?_
      replace h := jgd_of h; obtain ⟨hb23, h⟩ := h
      replace h := obd_of h; obtain ⟨x24, hx24, h⟩ := h
      refine jr_V6_2 jf_230_650 hb23 (by omega) (r_R_st (by omega) _ _ _ _ _ hx24) (Nat.le_of_ble_eq_true rfl) jml_227 (Nat.le_of_ble_eq_true rfl) ?_
      refine jr_iconst jf_230_653 jc_i_0 ?_
      replace h := jgd_of h; obtain ⟨hb25, h⟩ := h
      replace h := obd_of h; obtain ⟨μ26, hμ26, h⟩ := h
      refine jr_V6v_2 jf_230_654 hb25 (by omega) (r_R_term_2 (by omega) _ _ _ _ _ hμ26) (Nat.le_of_ble_eq_true rfl) jml_226 (Nat.le_of_ble_eq_true rfl) ?_
      refine jr_iinc jf_230_657 jc_i_1 jml_230 (by decide) hl4 ?_
      refine jr_goto jf_230_660 ?_
      exact ih _ _ _ _ _ _ _ (jg1_ne rfl hl0) (jg1_ne rfl hl1) jg1_same h
set_option maxRecDepth 10000 in
set_option maxHeartbeats 4000000 in
theorem r_R_works_e {N B : Nat} {SA : Nat → Nat} {d : Nat} (hd : 4 ≤ d) : ∀ (L : JLoc) (v0 : Nat) (v1 : Int32) (v2 : UInt64) (μ : JMem) (r : UInt64) (μ9 : JMem), jget L 0 = .ref v0 → jget L 1 = .int v1 → jget L 2 = .double v2 → g_R_works N B v0 v1 v2 μ = some (r, μ9) → jR B SA d m_R_works 0 L [] μ (some (.double r)) μ9 := by
  intro L v0 v1 v2 μ r μ9 hl0 hl1 hl2 h
  unfold g_R_works at h
  refine jr_aload_n jf_230_0 rfl hl0 ?_
  replace h := obd_of h; obtain ⟨x1, hx1, h⟩ := h
  refine jr_getA jf_230_1 hx1 ?_
  refine jr_iload_n jf_230_4 rfl hl1 ?_
  replace h := obd_of h; obtain ⟨a2, rfl, h⟩ := h
  replace h := obd_of h; obtain ⟨x3, hx3, h⟩ := h
  refine jr_iaload jf_230_5 hx3 ?_
  refine jr_switch jf_230_6 ?_
  replace h := ite_or h; rcases h with ⟨hc, h⟩ | ⟨hc, h⟩
  · refine jsw_hit (by decide) hc ?_
    refine jr_aload_n jf_230_56 rfl hl0 ?_
    refine jr_iload_n jf_230_57 rfl hl1 ?_
    replace h := jgd_of h; obtain ⟨hb4, h⟩ := h
    replace h := obd_of h; obtain ⟨μ5, hμ5, h⟩ := h
    refine jr_V6v_1 jf_230_58 hb4 (by omega) (r_R_begins (by omega) _ _ _ _ hμ5) (Nat.le_of_ble_eq_true rfl) jml_217 (Nat.le_of_ble_eq_true rfl) ?_
    refine jr_aload_n jf_230_61 rfl hl0 ?_
    refine jr_aload_n jf_230_62 rfl hl0 ?_
    refine jr_iload_n jf_230_63 rfl hl1 ?_
    refine jr_iconst jf_230_64 jc_i_0 ?_
    replace h := jgd_of h; obtain ⟨hb6, h⟩ := h
    replace h := obd_of h; obtain ⟨x7, hx7, h⟩ := h
    refine jr_V6_2 jf_230_65 hb6 (by omega) (r_R_c (by omega) _ _ _ _ _ hx7) (Nat.le_of_ble_eq_true rfl) jml_218 (Nat.le_of_ble_eq_true rfl) ?_
    refine jr_dload_n jf_230_68 rfl hl2 ?_
    refine jr_iconst jf_230_69 jc_i_0 ?_
    replace h := jgd_of h; obtain ⟨hb8, h⟩ := h
    replace h := obd_of h; obtain ⟨μ9, hμ9, h⟩ := h
    refine jr_V6v_3 jf_230_70 hb8 (by omega) (r_R_term (by omega) _ _ _ _ _ _ hμ9) (Nat.le_of_ble_eq_true rfl) jml_219 (Nat.le_of_ble_eq_true rfl) ?_
    refine jr_aload_n jf_230_73 rfl hl0 ?_
    replace h := jgd_of h; obtain ⟨hb10, h⟩ := h
    replace h := jbd2_of h; obtain ⟨x11, μ12, hx11, h⟩ := h
    refine jr_V6_0 jf_230_74 hb10 (by omega) (r_R_comes (by omega) _ _ _ _ hx11) (Nat.le_of_ble_eq_true rfl) jml_223 (Nat.le_of_ble_eq_true rfl) ?_
    obtain ⟨rfl, rfl⟩ := Prod.mk.inj (Option.some.inj h)
    exact jr_retD jf_230_77 jmt_230
  · refine jsw_miss (by decide) hc (by decide : (0 : Int) + 1 = 1) ?_
    replace h := ite_or h; rcases h with ⟨hc, h⟩ | ⟨hc, h⟩
    · refine jsw_hit (by decide) hc ?_
      refine jr_aload_n jf_230_78 rfl hl0 ?_
      refine jr_iload_n jf_230_79 rfl hl1 ?_
      replace h := jgd_of h; obtain ⟨hb13, h⟩ := h
      replace h := obd_of h; obtain ⟨μ14, hμ14, h⟩ := h
      refine jr_V6v_1 jf_230_80 hb13 (by omega) (r_R_begins (by omega) _ _ _ _ hμ14) (Nat.le_of_ble_eq_true rfl) jml_217 (Nat.le_of_ble_eq_true rfl) ?_
      refine jr_aload_n jf_230_83 rfl hl0 ?_
      refine jr_aload_n jf_230_84 rfl hl0 ?_
      refine jr_iload_n jf_230_85 rfl hl1 ?_
      refine jr_iconst jf_230_86 jc_i_0 ?_
      replace h := jgd_of h; obtain ⟨hb15, h⟩ := h
      replace h := obd_of h; obtain ⟨x16, hx16, h⟩ := h
      refine jr_V6_2 jf_230_87 hb15 (by omega) (r_R_c (by omega) _ _ _ _ _ hx16) (Nat.le_of_ble_eq_true rfl) jml_218 (Nat.le_of_ble_eq_true rfl) ?_
      refine jr_dload_n jf_230_90 rfl hl2 ?_
      refine jr_iconst jf_230_91 jc_i_0 ?_
      replace h := jgd_of h; obtain ⟨hb17, h⟩ := h
      replace h := obd_of h; obtain ⟨μ18, hμ18, h⟩ := h
      refine jr_V6v_3 jf_230_92 hb17 (by omega) (r_R_term (by omega) _ _ _ _ _ _ hμ18) (Nat.le_of_ble_eq_true rfl) jml_219 (Nat.le_of_ble_eq_true rfl) ?_
      refine jr_aload_n jf_230_95 rfl hl0 ?_
      refine jr_aload_n jf_230_96 rfl hl0 ?_
      refine jr_iload_n jf_230_97 rfl hl1 ?_
      refine jr_iconst jf_230_98 jc_i_1 ?_
      replace h := jgd_of h; obtain ⟨hb19, h⟩ := h
      replace h := obd_of h; obtain ⟨x20, hx20, h⟩ := h
      refine jr_V6_2 jf_230_99 hb19 (by omega) (r_R_c (by omega) _ _ _ _ _ hx20) (Nat.le_of_ble_eq_true rfl) jml_218 (Nat.le_of_ble_eq_true rfl) ?_
      refine jr_aload_n jf_230_102 rfl hl0 ?_
      refine jr_iload_n jf_230_103 rfl hl1 ?_
      refine jr_iconst jf_230_104 jc_i_0 ?_
      replace h := jgd_of h; obtain ⟨hb21, h⟩ := h
      replace h := obd_of h; obtain ⟨x22, hx22, h⟩ := h
      refine jr_V6_2 jf_230_105 hb21 (by omega) (r_R_st (by omega) _ _ _ _ _ hx22) (Nat.le_of_ble_eq_true rfl) jml_227 (Nat.le_of_ble_eq_true rfl) ?_
      refine jr_iconst jf_230_108 jc_i_0 ?_
      replace h := jgd_of h; obtain ⟨hb23, h⟩ := h
      replace h := obd_of h; obtain ⟨μ24, hμ24, h⟩ := h
      refine jr_V6v_3 jf_230_109 hb23 (by omega) (r_R_term (by omega) _ _ _ _ _ _ hμ24) (Nat.le_of_ble_eq_true rfl) jml_219 (Nat.le_of_ble_eq_true rfl) ?_
      refine jr_aload_n jf_230_112 rfl hl0 ?_
      replace h := jgd_of h; obtain ⟨hb25, h⟩ := h
      replace h := jbd2_of h; obtain ⟨x26, μ27, hx26, h⟩ := h
      refine jr_V6_0 jf_230_113 hb25 (by omega) (r_R_comes (by omega) _ _ _ _ hx26) (Nat.le_of_ble_eq_true rfl) jml_223 (Nat.le_of_ble_eq_true rfl) ?_
      refine jr_dstore jf_230_116 jml_230 (by decide) ?_
      refine jr_aload_n jf_230_118 rfl (jg2_ne rfl hl0) ?_
      refine jr_iload_n jf_230_119 rfl (jg2_ne rfl hl1) ?_
      refine jr_iconst jf_230_120 jc_i_0 ?_
      refine jr_dload jf_230_121 jg2_same ?_
      replace h := jgd_of h; obtain ⟨hb28, h⟩ := h
      replace h := obd_of h; obtain ⟨μ29, hμ29, h⟩ := h
      refine jr_V6v_3 jf_230_123 hb28 (by omega) (r_R_st_2 (by omega) _ _ _ _ _ _ hμ29) (Nat.le_of_ble_eq_true rfl) jml_228 (Nat.le_of_ble_eq_true rfl) ?_
      refine jr_dload jf_230_126 jg2_same ?_
      obtain ⟨rfl, rfl⟩ := Prod.mk.inj (Option.some.inj h)
      exact jr_retD jf_230_128 jmt_230
    · refine jsw_miss (by decide) hc (by decide : (1 : Int) + 1 = 2) ?_
      replace h := ite_or h; rcases h with ⟨hc, h⟩ | ⟨hc, h⟩
      · refine jsw_hit (by decide) hc ?_
        refine jr_aload_n jf_230_129 rfl hl0 ?_
        refine jr_iload_n jf_230_130 rfl hl1 ?_
        replace h := jgd_of h; obtain ⟨hb30, h⟩ := h
        replace h := obd_of h; obtain ⟨μ31, hμ31, h⟩ := h
        refine jr_V6v_1 jf_230_131 hb30 (by omega) (r_R_begins (by omega) _ _ _ _ hμ31) (Nat.le_of_ble_eq_true rfl) jml_217 (Nat.le_of_ble_eq_true rfl) ?_
        refine jr_aload_n jf_230_134 rfl hl0 ?_
        refine jr_aload_n jf_230_135 rfl hl0 ?_
        refine jr_iload_n jf_230_136 rfl hl1 ?_
        refine jr_iconst jf_230_137 jc_i_0 ?_
        replace h := jgd_of h; obtain ⟨hb32, h⟩ := h
        replace h := obd_of h; obtain ⟨x33, hx33, h⟩ := h
        refine jr_V6_2 jf_230_138 hb32 (by omega) (r_R_c (by omega) _ _ _ _ _ hx33) (Nat.le_of_ble_eq_true rfl) jml_218 (Nat.le_of_ble_eq_true rfl) ?_
        refine jr_dload_n jf_230_141 rfl hl2 ?_
        refine jr_iconst jf_230_142 jc_i_0 ?_
        replace h := jgd_of h; obtain ⟨hb34, h⟩ := h
        replace h := obd_of h; obtain ⟨μ35, hμ35, h⟩ := h
        refine jr_V6v_3 jf_230_143 hb34 (by omega) (r_R_term (by omega) _ _ _ _ _ _ hμ35) (Nat.le_of_ble_eq_true rfl) jml_219 (Nat.le_of_ble_eq_true rfl) ?_
        refine jr_aload_n jf_230_146 rfl hl0 ?_
        refine jr_aload_n jf_230_147 rfl hl0 ?_
        refine jr_iload_n jf_230_148 rfl hl1 ?_
        refine jr_iconst jf_230_149 jc_i_1 ?_
        replace h := jgd_of h; obtain ⟨hb36, h⟩ := h
        replace h := obd_of h; obtain ⟨x37, hx37, h⟩ := h
        refine jr_V6_2 jf_230_150 hb36 (by omega) (r_R_c (by omega) _ _ _ _ _ hx37) (Nat.le_of_ble_eq_true rfl) jml_218 (Nat.le_of_ble_eq_true rfl) ?_
        refine jr_aload_n jf_230_153 rfl hl0 ?_
        refine jr_iload_n jf_230_154 rfl hl1 ?_
        refine jr_iconst jf_230_155 jc_i_0 ?_
        replace h := jgd_of h; obtain ⟨hb38, h⟩ := h
        replace h := obd_of h; obtain ⟨x39, hx39, h⟩ := h
        refine jr_V6_2 jf_230_156 hb38 (by omega) (r_R_st (by omega) _ _ _ _ _ hx39) (Nat.le_of_ble_eq_true rfl) jml_227 (Nat.le_of_ble_eq_true rfl) ?_
        refine jr_iconst jf_230_159 jc_i_0 ?_
        replace h := jgd_of h; obtain ⟨hb40, h⟩ := h
        replace h := obd_of h; obtain ⟨μ41, hμ41, h⟩ := h
        refine jr_V6v_3 jf_230_160 hb40 (by omega) (r_R_term (by omega) _ _ _ _ _ _ hμ41) (Nat.le_of_ble_eq_true rfl) jml_219 (Nat.le_of_ble_eq_true rfl) ?_
        refine jr_aload_n jf_230_163 rfl hl0 ?_
        refine jr_aload_n jf_230_164 rfl hl0 ?_
        refine jr_iload_n jf_230_165 rfl hl1 ?_
        refine jr_iconst jf_230_166 jc_i_2 ?_
        replace h := jgd_of h; obtain ⟨hb42, h⟩ := h
        replace h := obd_of h; obtain ⟨x43, hx43, h⟩ := h
        refine jr_V6_2 jf_230_167 hb42 (by omega) (r_R_c (by omega) _ _ _ _ _ hx43) (Nat.le_of_ble_eq_true rfl) jml_218 (Nat.le_of_ble_eq_true rfl) ?_
        refine jr_aload_n jf_230_170 rfl hl0 ?_
        refine jr_iload_n jf_230_171 rfl hl1 ?_
        refine jr_iconst jf_230_172 jc_i_1 ?_
        replace h := jgd_of h; obtain ⟨hb44, h⟩ := h
        replace h := obd_of h; obtain ⟨x45, hx45, h⟩ := h
        refine jr_V6_2 jf_230_173 hb44 (by omega) (r_R_st (by omega) _ _ _ _ _ hx45) (Nat.le_of_ble_eq_true rfl) jml_227 (Nat.le_of_ble_eq_true rfl) ?_
        refine jr_iconst jf_230_176 jc_i_0 ?_
        replace h := jgd_of h; obtain ⟨hb46, h⟩ := h
        replace h := obd_of h; obtain ⟨μ47, hμ47, h⟩ := h
        refine jr_V6v_3 jf_230_177 hb46 (by omega) (r_R_term (by omega) _ _ _ _ _ _ hμ47) (Nat.le_of_ble_eq_true rfl) jml_219 (Nat.le_of_ble_eq_true rfl) ?_
        refine jr_aload_n jf_230_180 rfl hl0 ?_
        refine jr_aload_n jf_230_181 rfl hl0 ?_
        refine jr_iload_n jf_230_182 rfl hl1 ?_
        refine jr_iconst jf_230_183 jc_i_3 ?_
        replace h := jgd_of h; obtain ⟨hb48, h⟩ := h
        replace h := obd_of h; obtain ⟨x49, hx49, h⟩ := h
        refine jr_V6_2 jf_230_184 hb48 (by omega) (r_R_c (by omega) _ _ _ _ _ hx49) (Nat.le_of_ble_eq_true rfl) jml_218 (Nat.le_of_ble_eq_true rfl) ?_
        refine jr_aload_n jf_230_187 rfl hl0 ?_
        refine jr_iload_n jf_230_188 rfl hl1 ?_
        refine jr_iconst jf_230_189 jc_i_2 ?_
        replace h := jgd_of h; obtain ⟨hb50, h⟩ := h
        replace h := obd_of h; obtain ⟨x51, hx51, h⟩ := h
        refine jr_V6_2 jf_230_190 hb50 (by omega) (r_R_st (by omega) _ _ _ _ _ hx51) (Nat.le_of_ble_eq_true rfl) jml_227 (Nat.le_of_ble_eq_true rfl) ?_
        refine jr_iconst jf_230_193 jc_i_1 ?_
        replace h := jgd_of h; obtain ⟨hb52, h⟩ := h
        replace h := obd_of h; obtain ⟨μ53, hμ53, h⟩ := h
        refine jr_V6v_3 jf_230_194 hb52 (by omega) (r_R_term (by omega) _ _ _ _ _ _ hμ53) (Nat.le_of_ble_eq_true rfl) jml_219 (Nat.le_of_ble_eq_true rfl) ?_
        refine jr_aload_n jf_230_197 rfl hl0 ?_
        refine jr_aload_n jf_230_198 rfl hl0 ?_
        refine jr_iload_n jf_230_199 rfl hl1 ?_
        refine jr_iconst jf_230_200 jc_i_4 ?_
        replace h := jgd_of h; obtain ⟨hb54, h⟩ := h
        replace h := obd_of h; obtain ⟨x55, hx55, h⟩ := h
        refine jr_V6_2 jf_230_201 hb54 (by omega) (r_R_c (by omega) _ _ _ _ _ hx55) (Nat.le_of_ble_eq_true rfl) jml_218 (Nat.le_of_ble_eq_true rfl) ?_
        refine jr_aload_n jf_230_204 rfl hl0 ?_
        refine jr_iload_n jf_230_205 rfl hl1 ?_
        refine jr_iconst jf_230_206 jc_i_3 ?_
        replace h := jgd_of h; obtain ⟨hb56, h⟩ := h
        replace h := obd_of h; obtain ⟨x57, hx57, h⟩ := h
        refine jr_V6_2 jf_230_207 hb56 (by omega) (r_R_st (by omega) _ _ _ _ _ hx57) (Nat.le_of_ble_eq_true rfl) jml_227 (Nat.le_of_ble_eq_true rfl) ?_
        refine jr_iconst jf_230_210 jc_i_1 ?_
        replace h := jgd_of h; obtain ⟨hb58, h⟩ := h
        replace h := obd_of h; obtain ⟨μ59, hμ59, h⟩ := h
        refine jr_V6v_3 jf_230_211 hb58 (by omega) (r_R_term (by omega) _ _ _ _ _ _ hμ59) (Nat.le_of_ble_eq_true rfl) jml_219 (Nat.le_of_ble_eq_true rfl) ?_
        refine jr_aload_n jf_230_214 rfl hl0 ?_
        replace h := jgd_of h; obtain ⟨hb60, h⟩ := h
        replace h := jbd2_of h; obtain ⟨x61, μ62, hx61, h⟩ := h
        refine jr_V6_0 jf_230_215 hb60 (by omega) (r_R_comes (by omega) _ _ _ _ hx61) (Nat.le_of_ble_eq_true rfl) jml_223 (Nat.le_of_ble_eq_true rfl) ?_
        refine jr_dstore jf_230_218 jml_230 (by decide) ?_
        refine jr_aload_n jf_230_220 rfl (jg2_ne rfl hl0) ?_
        refine jr_iload_n jf_230_221 rfl (jg2_ne rfl hl1) ?_
        refine jr_iconst jf_230_222 jc_i_1 ?_
        refine jr_aload_n jf_230_223 rfl (jg2_ne rfl hl0) ?_
        refine jr_iload_n jf_230_224 rfl (jg2_ne rfl hl1) ?_
        refine jr_iconst jf_230_225 jc_i_0 ?_
        replace h := jgd_of h; obtain ⟨hb63, h⟩ := h
        replace h := obd_of h; obtain ⟨x64, hx64, h⟩ := h
        refine jr_V6_2 jf_230_226 hb63 (by omega) (r_R_st (by omega) _ _ _ _ _ hx64) (Nat.le_of_ble_eq_true rfl) jml_227 (Nat.le_of_ble_eq_true rfl) ?_
        replace h := jgd_of h; obtain ⟨hb65, h⟩ := h
        replace h := obd_of h; obtain ⟨μ66, hμ66, h⟩ := h
        refine jr_V6v_3 jf_230_229 hb65 (by omega) (r_R_st_2 (by omega) _ _ _ _ _ _ hμ66) (Nat.le_of_ble_eq_true rfl) jml_228 (Nat.le_of_ble_eq_true rfl) ?_
        refine jr_aload_n jf_230_232 rfl (jg2_ne rfl hl0) ?_
        refine jr_iload_n jf_230_233 rfl (jg2_ne rfl hl1) ?_
        refine jr_iconst jf_230_234 jc_i_0 ?_
        refine jr_dload_n jf_230_235 rfl (jg2_ne rfl hl2) ?_
        replace h := jgd_of h; obtain ⟨hb67, h⟩ := h
        replace h := obd_of h; obtain ⟨μ68, hμ68, h⟩ := h
        refine jr_V6v_3 jf_230_236 hb67 (by omega) (r_R_st_2 (by omega) _ _ _ _ _ _ hμ68) (Nat.le_of_ble_eq_true rfl) jml_228 (Nat.le_of_ble_eq_true rfl) ?_
        refine jr_aload_n jf_230_239 rfl (jg2_ne rfl hl0) ?_
        refine jr_iload_n jf_230_240 rfl (jg2_ne rfl hl1) ?_
        refine jr_iconst jf_230_241 jc_i_3 ?_
        refine jr_aload_n jf_230_242 rfl (jg2_ne rfl hl0) ?_
        refine jr_iload_n jf_230_243 rfl (jg2_ne rfl hl1) ?_
        refine jr_iconst jf_230_244 jc_i_2 ?_
        replace h := jgd_of h; obtain ⟨hb69, h⟩ := h
        replace h := obd_of h; obtain ⟨x70, hx70, h⟩ := h
        refine jr_V6_2 jf_230_245 hb69 (by omega) (r_R_st (by omega) _ _ _ _ _ hx70) (Nat.le_of_ble_eq_true rfl) jml_227 (Nat.le_of_ble_eq_true rfl) ?_
        replace h := jgd_of h; obtain ⟨hb71, h⟩ := h
        replace h := obd_of h; obtain ⟨μ72, hμ72, h⟩ := h
        refine jr_V6v_3 jf_230_248 hb71 (by omega) (r_R_st_2 (by omega) _ _ _ _ _ _ hμ72) (Nat.le_of_ble_eq_true rfl) jml_228 (Nat.le_of_ble_eq_true rfl) ?_
        refine jr_aload_n jf_230_251 rfl (jg2_ne rfl hl0) ?_
        refine jr_iload_n jf_230_252 rfl (jg2_ne rfl hl1) ?_
        refine jr_iconst jf_230_253 jc_i_2 ?_
        refine jr_dload jf_230_254 jg2_same ?_
        replace h := jgd_of h; obtain ⟨hb73, h⟩ := h
        replace h := obd_of h; obtain ⟨μ74, hμ74, h⟩ := h
        refine jr_V6v_3 jf_230_256 hb73 (by omega) (r_R_st_2 (by omega) _ _ _ _ _ _ hμ74) (Nat.le_of_ble_eq_true rfl) jml_228 (Nat.le_of_ble_eq_true rfl) ?_
        refine jr_dload jf_230_259 jg2_same ?_
        obtain ⟨rfl, rfl⟩ := Prod.mk.inj (Option.some.inj h)
        exact jr_retD jf_230_261 jmt_230
      · refine jsw_miss (by decide) hc (by decide : (2 : Int) + 1 = 3) ?_
        replace h := ite_or h; rcases h with ⟨hc, h⟩ | ⟨hc, h⟩
        · refine jsw_hit (by decide) hc ?_
          refine jr_aload_n jf_230_262 rfl hl0 ?_
          refine jr_iload_n jf_230_263 rfl hl1 ?_
          replace h := jgd_of h; obtain ⟨hb75, h⟩ := h
          replace h := obd_of h; obtain ⟨μ76, hμ76, h⟩ := h
          refine jr_V6v_1 jf_230_264 hb75 (by omega) (r_R_begins (by omega) _ _ _ _ hμ76) (Nat.le_of_ble_eq_true rfl) jml_217 (Nat.le_of_ble_eq_true rfl) ?_
          refine jr_aload_n jf_230_267 rfl hl0 ?_
          refine jr_dload_n jf_230_268 rfl hl2 ?_
          refine jr_iconst jf_230_269 jc_i_0 ?_
          replace h := jgd_of h; obtain ⟨hb77, h⟩ := h
          replace h := obd_of h; obtain ⟨μ78, hμ78, h⟩ := h
          refine jr_V6v_2 jf_230_270 hb77 (by omega) (r_R_term_2 (by omega) _ _ _ _ _ hμ78) (Nat.le_of_ble_eq_true rfl) jml_226 (Nat.le_of_ble_eq_true rfl) ?_
          refine jr_aload_n jf_230_273 rfl hl0 ?_
          refine jr_aload_n jf_230_274 rfl hl0 ?_
          refine jr_iload_n jf_230_275 rfl hl1 ?_
          refine jr_iconst jf_230_276 jc_i_3 ?_
          replace h := jgd_of h; obtain ⟨hb79, h⟩ := h
          replace h := obd_of h; obtain ⟨x80, hx80, h⟩ := h
          refine jr_V6_2 jf_230_277 hb79 (by omega) (r_R_c (by omega) _ _ _ _ _ hx80) (Nat.le_of_ble_eq_true rfl) jml_218 (Nat.le_of_ble_eq_true rfl) ?_
          refine jr_aload_n jf_230_280 rfl hl0 ?_
          refine jr_iload_n jf_230_281 rfl hl1 ?_
          refine jr_iconst jf_230_282 jc_i_0 ?_
          replace h := jgd_of h; obtain ⟨hb81, h⟩ := h
          replace h := obd_of h; obtain ⟨x82, hx82, h⟩ := h
          refine jr_V6_2 jf_230_283 hb81 (by omega) (r_R_st (by omega) _ _ _ _ _ hx82) (Nat.le_of_ble_eq_true rfl) jml_227 (Nat.le_of_ble_eq_true rfl) ?_
          refine jr_iconst jf_230_286 jc_i_1 ?_
          replace h := jgd_of h; obtain ⟨hb83, h⟩ := h
          replace h := obd_of h; obtain ⟨μ84, hμ84, h⟩ := h
          refine jr_V6v_3 jf_230_287 hb83 (by omega) (r_R_term (by omega) _ _ _ _ _ _ hμ84) (Nat.le_of_ble_eq_true rfl) jml_219 (Nat.le_of_ble_eq_true rfl) ?_
          refine jr_aload_n jf_230_290 rfl hl0 ?_
          refine jr_aload_n jf_230_291 rfl hl0 ?_
          refine jr_iload_n jf_230_292 rfl hl1 ?_
          refine jr_iconst jf_230_293 jc_i_4 ?_
          replace h := jgd_of h; obtain ⟨hb85, h⟩ := h
          replace h := obd_of h; obtain ⟨x86, hx86, h⟩ := h
          refine jr_V6_2 jf_230_294 hb85 (by omega) (r_R_c (by omega) _ _ _ _ _ hx86) (Nat.le_of_ble_eq_true rfl) jml_218 (Nat.le_of_ble_eq_true rfl) ?_
          refine jr_aload_n jf_230_297 rfl hl0 ?_
          refine jr_iload_n jf_230_298 rfl hl1 ?_
          refine jr_iconst jf_230_299 jc_i_1 ?_
          replace h := jgd_of h; obtain ⟨hb87, h⟩ := h
          replace h := obd_of h; obtain ⟨x88, hx88, h⟩ := h
          refine jr_V6_2 jf_230_300 hb87 (by omega) (r_R_st (by omega) _ _ _ _ _ hx88) (Nat.le_of_ble_eq_true rfl) jml_227 (Nat.le_of_ble_eq_true rfl) ?_
          refine jr_iconst jf_230_303 jc_i_1 ?_
          replace h := jgd_of h; obtain ⟨hb89, h⟩ := h
          replace h := obd_of h; obtain ⟨μ90, hμ90, h⟩ := h
          refine jr_V6v_3 jf_230_304 hb89 (by omega) (r_R_term (by omega) _ _ _ _ _ _ hμ90) (Nat.le_of_ble_eq_true rfl) jml_219 (Nat.le_of_ble_eq_true rfl) ?_
          refine jr_aload_n jf_230_307 rfl hl0 ?_
          replace h := jgd_of h; obtain ⟨hb91, h⟩ := h
          replace h := jbd2_of h; obtain ⟨x92, μ93, hx92, h⟩ := h
          refine jr_V6_0 jf_230_308 hb91 (by omega) (r_R_comes (by omega) _ _ _ _ hx92) (Nat.le_of_ble_eq_true rfl) jml_223 (Nat.le_of_ble_eq_true rfl) ?_
          refine jr_dstore jf_230_311 jml_230 (by decide) ?_
          refine jr_aload_n jf_230_313 rfl (jg2_ne rfl hl0) ?_
          refine jr_iload_n jf_230_314 rfl (jg2_ne rfl hl1) ?_
          replace h := jgd_of h; obtain ⟨hb94, h⟩ := h
          replace h := obd_of h; obtain ⟨μ95, hμ95, h⟩ := h
          refine jr_V6v_1 jf_230_315 hb94 (by omega) (r_R_begins (by omega) _ _ _ _ hμ95) (Nat.le_of_ble_eq_true rfl) jml_217 (Nat.le_of_ble_eq_true rfl) ?_
          refine jr_aload_n jf_230_318 rfl (jg2_ne rfl hl0) ?_
          refine jr_aload_n jf_230_319 rfl (jg2_ne rfl hl0) ?_
          refine jr_iload_n jf_230_320 rfl (jg2_ne rfl hl1) ?_
          refine jr_iconst jf_230_321 jc_i_0 ?_
          replace h := jgd_of h; obtain ⟨hb96, h⟩ := h
          replace h := obd_of h; obtain ⟨x97, hx97, h⟩ := h
          refine jr_V6_2 jf_230_322 hb96 (by omega) (r_R_c (by omega) _ _ _ _ _ hx97) (Nat.le_of_ble_eq_true rfl) jml_218 (Nat.le_of_ble_eq_true rfl) ?_
          refine jr_dload jf_230_325 jg2_same ?_
          refine jr_iconst jf_230_327 jc_i_0 ?_
          replace h := jgd_of h; obtain ⟨hb98, h⟩ := h
          replace h := obd_of h; obtain ⟨μ99, hμ99, h⟩ := h
          refine jr_V6v_3 jf_230_328 hb98 (by omega) (r_R_term (by omega) _ _ _ _ _ _ hμ99) (Nat.le_of_ble_eq_true rfl) jml_219 (Nat.le_of_ble_eq_true rfl) ?_
          refine jr_aload_n jf_230_331 rfl (jg2_ne rfl hl0) ?_
          refine jr_aload_n jf_230_332 rfl (jg2_ne rfl hl0) ?_
          refine jr_iload_n jf_230_333 rfl (jg2_ne rfl hl1) ?_
          refine jr_iconst jf_230_334 jc_i_1 ?_
          replace h := jgd_of h; obtain ⟨hb100, h⟩ := h
          replace h := obd_of h; obtain ⟨x101, hx101, h⟩ := h
          refine jr_V6_2 jf_230_335 hb100 (by omega) (r_R_c (by omega) _ _ _ _ _ hx101) (Nat.le_of_ble_eq_true rfl) jml_218 (Nat.le_of_ble_eq_true rfl) ?_
          refine jr_aload_n jf_230_338 rfl (jg2_ne rfl hl0) ?_
          refine jr_iload_n jf_230_339 rfl (jg2_ne rfl hl1) ?_
          refine jr_iconst jf_230_340 jc_i_0 ?_
          replace h := jgd_of h; obtain ⟨hb102, h⟩ := h
          replace h := obd_of h; obtain ⟨x103, hx103, h⟩ := h
          refine jr_V6_2 jf_230_341 hb102 (by omega) (r_R_st (by omega) _ _ _ _ _ hx103) (Nat.le_of_ble_eq_true rfl) jml_227 (Nat.le_of_ble_eq_true rfl) ?_
          refine jr_iconst jf_230_344 jc_i_0 ?_
          replace h := jgd_of h; obtain ⟨hb104, h⟩ := h
          replace h := obd_of h; obtain ⟨μ105, hμ105, h⟩ := h
          refine jr_V6v_3 jf_230_345 hb104 (by omega) (r_R_term (by omega) _ _ _ _ _ _ hμ105) (Nat.le_of_ble_eq_true rfl) jml_219 (Nat.le_of_ble_eq_true rfl) ?_
          refine jr_aload_n jf_230_348 rfl (jg2_ne rfl hl0) ?_
          refine jr_aload_n jf_230_349 rfl (jg2_ne rfl hl0) ?_
          refine jr_iload_n jf_230_350 rfl (jg2_ne rfl hl1) ?_
          refine jr_iconst jf_230_351 jc_i_2 ?_
          replace h := jgd_of h; obtain ⟨hb106, h⟩ := h
          replace h := obd_of h; obtain ⟨x107, hx107, h⟩ := h
          refine jr_V6_2 jf_230_352 hb106 (by omega) (r_R_c (by omega) _ _ _ _ _ hx107) (Nat.le_of_ble_eq_true rfl) jml_218 (Nat.le_of_ble_eq_true rfl) ?_
          refine jr_aload_n jf_230_355 rfl (jg2_ne rfl hl0) ?_
          refine jr_iload_n jf_230_356 rfl (jg2_ne rfl hl1) ?_
          refine jr_iconst jf_230_357 jc_i_1 ?_
          replace h := jgd_of h; obtain ⟨hb108, h⟩ := h
          replace h := obd_of h; obtain ⟨x109, hx109, h⟩ := h
          refine jr_V6_2 jf_230_358 hb108 (by omega) (r_R_st (by omega) _ _ _ _ _ hx109) (Nat.le_of_ble_eq_true rfl) jml_227 (Nat.le_of_ble_eq_true rfl) ?_
          refine jr_iconst jf_230_361 jc_i_0 ?_
          replace h := jgd_of h; obtain ⟨hb110, h⟩ := h
          replace h := obd_of h; obtain ⟨μ111, hμ111, h⟩ := h
          refine jr_V6v_3 jf_230_362 hb110 (by omega) (r_R_term (by omega) _ _ _ _ _ _ hμ111) (Nat.le_of_ble_eq_true rfl) jml_219 (Nat.le_of_ble_eq_true rfl) ?_
          refine jr_aload_n jf_230_365 rfl (jg2_ne rfl hl0) ?_
          replace h := jgd_of h; obtain ⟨hb112, h⟩ := h
          replace h := jbd2_of h; obtain ⟨x113, μ114, hx113, h⟩ := h
          refine jr_V6_0 jf_230_366 hb112 (by omega) (r_R_comes (by omega) _ _ _ _ hx113) (Nat.le_of_ble_eq_true rfl) jml_223 (Nat.le_of_ble_eq_true rfl) ?_
          refine jr_dstore jf_230_369 jml_230 (by decide) ?_
          refine jr_aload_n jf_230_371 rfl (jg2_ne rfl (jg2_ne rfl hl0)) ?_
          refine jr_iload_n jf_230_372 rfl (jg2_ne rfl (jg2_ne rfl hl1)) ?_
          refine jr_iconst jf_230_373 jc_i_1 ?_
          refine jr_aload_n jf_230_374 rfl (jg2_ne rfl (jg2_ne rfl hl0)) ?_
          refine jr_iload_n jf_230_375 rfl (jg2_ne rfl (jg2_ne rfl hl1)) ?_
          refine jr_iconst jf_230_376 jc_i_0 ?_
          replace h := jgd_of h; obtain ⟨hb115, h⟩ := h
          replace h := obd_of h; obtain ⟨x116, hx116, h⟩ := h
          refine jr_V6_2 jf_230_377 hb115 (by omega) (r_R_st (by omega) _ _ _ _ _ hx116) (Nat.le_of_ble_eq_true rfl) jml_227 (Nat.le_of_ble_eq_true rfl) ?_
          replace h := jgd_of h; obtain ⟨hb117, h⟩ := h
          replace h := obd_of h; obtain ⟨μ118, hμ118, h⟩ := h
          refine jr_V6v_3 jf_230_380 hb117 (by omega) (r_R_st_2 (by omega) _ _ _ _ _ _ hμ118) (Nat.le_of_ble_eq_true rfl) jml_228 (Nat.le_of_ble_eq_true rfl) ?_
          refine jr_aload_n jf_230_383 rfl (jg2_ne rfl (jg2_ne rfl hl0)) ?_
          refine jr_iload_n jf_230_384 rfl (jg2_ne rfl (jg2_ne rfl hl1)) ?_
          refine jr_iconst jf_230_385 jc_i_0 ?_
          refine jr_dload jf_230_386 (jg2_ne rfl jg2_same) ?_
          replace h := jgd_of h; obtain ⟨hb119, h⟩ := h
          replace h := obd_of h; obtain ⟨μ120, hμ120, h⟩ := h
          refine jr_V6v_3 jf_230_388 hb119 (by omega) (r_R_st_2 (by omega) _ _ _ _ _ _ hμ120) (Nat.le_of_ble_eq_true rfl) jml_228 (Nat.le_of_ble_eq_true rfl) ?_
          refine jr_dload jf_230_391 jg2_same ?_
          obtain ⟨rfl, rfl⟩ := Prod.mk.inj (Option.some.inj h)
          exact jr_retD jf_230_393 jmt_230
        · refine jsw_miss (by decide) hc (by decide : (3 : Int) + 1 = 4) ?_
          replace h := ite_or h; rcases h with ⟨hc, h⟩ | ⟨hc, h⟩
          · refine jsw_hit (by decide) hc ?_
            refine jr_aload_n jf_230_394 rfl hl0 ?_
            refine jr_iload_n jf_230_395 rfl hl1 ?_
            replace h := jgd_of h; obtain ⟨hb121, h⟩ := h
            replace h := obd_of h; obtain ⟨μ122, hμ122, h⟩ := h
            refine jr_V6v_1 jf_230_396 hb121 (by omega) (r_R_begins (by omega) _ _ _ _ hμ122) (Nat.le_of_ble_eq_true rfl) jml_217 (Nat.le_of_ble_eq_true rfl) ?_
            refine jr_aload_n jf_230_399 rfl hl0 ?_
            refine jr_aload_n jf_230_400 rfl hl0 ?_
            refine jr_iload_n jf_230_401 rfl hl1 ?_
            refine jr_iconst jf_230_402 jc_i_0 ?_
            replace h := jgd_of h; obtain ⟨hb123, h⟩ := h
            replace h := obd_of h; obtain ⟨x124, hx124, h⟩ := h
            refine jr_V6_2 jf_230_403 hb123 (by omega) (r_R_c (by omega) _ _ _ _ _ hx124) (Nat.le_of_ble_eq_true rfl) jml_218 (Nat.le_of_ble_eq_true rfl) ?_
            refine jr_dload_n jf_230_406 rfl hl2 ?_
            refine jr_iconst jf_230_407 jc_i_0 ?_
            replace h := jgd_of h; obtain ⟨hb125, h⟩ := h
            replace h := obd_of h; obtain ⟨μ126, hμ126, h⟩ := h
            refine jr_V6v_3 jf_230_408 hb125 (by omega) (r_R_term (by omega) _ _ _ _ _ _ hμ126) (Nat.le_of_ble_eq_true rfl) jml_219 (Nat.le_of_ble_eq_true rfl) ?_
            refine jr_aload_n jf_230_411 rfl hl0 ?_
            refine jr_aload_n jf_230_412 rfl hl0 ?_
            refine jr_iload_n jf_230_413 rfl hl1 ?_
            refine jr_iconst jf_230_414 jc_i_0 ?_
            replace h := jgd_of h; obtain ⟨hb127, h⟩ := h
            replace h := obd_of h; obtain ⟨x128, hx128, h⟩ := h
            refine jr_V6_2 jf_230_415 hb127 (by omega) (r_R_st (by omega) _ _ _ _ _ hx128) (Nat.le_of_ble_eq_true rfl) jml_227 (Nat.le_of_ble_eq_true rfl) ?_
            refine jr_iconst jf_230_418 jc_i_0 ?_
            replace h := jgd_of h; obtain ⟨hb129, h⟩ := h
            replace h := obd_of h; obtain ⟨μ130, hμ130, h⟩ := h
            refine jr_V6v_2 jf_230_419 hb129 (by omega) (r_R_term_2 (by omega) _ _ _ _ _ hμ130) (Nat.le_of_ble_eq_true rfl) jml_226 (Nat.le_of_ble_eq_true rfl) ?_
            refine jr_aload_n jf_230_422 rfl hl0 ?_
            replace h := jgd_of h; obtain ⟨hb131, h⟩ := h
            replace h := jbd2_of h; obtain ⟨x132, μ133, hx132, h⟩ := h
            refine jr_V6_0 jf_230_423 hb131 (by omega) (r_R_comes (by omega) _ _ _ _ hx132) (Nat.le_of_ble_eq_true rfl) jml_223 (Nat.le_of_ble_eq_true rfl) ?_
            refine jr_dstore jf_230_426 jml_230 (by decide) ?_
            refine jr_aload_n jf_230_428 rfl (jg2_ne rfl hl0) ?_
            refine jr_iload_n jf_230_429 rfl (jg2_ne rfl hl1) ?_
            replace h := jgd_of h; obtain ⟨hb134, h⟩ := h
            replace h := obd_of h; obtain ⟨μ135, hμ135, h⟩ := h
            refine jr_V6v_1 jf_230_430 hb134 (by omega) (r_R_begins (by omega) _ _ _ _ hμ135) (Nat.le_of_ble_eq_true rfl) jml_217 (Nat.le_of_ble_eq_true rfl) ?_
            refine jr_aload_n jf_230_433 rfl (jg2_ne rfl hl0) ?_
            refine jr_aload_n jf_230_434 rfl (jg2_ne rfl hl0) ?_
            refine jr_iload_n jf_230_435 rfl (jg2_ne rfl hl1) ?_
            refine jr_iconst jf_230_436 jc_i_1 ?_
            replace h := jgd_of h; obtain ⟨hb136, h⟩ := h
            replace h := obd_of h; obtain ⟨x137, hx137, h⟩ := h
            refine jr_V6_2 jf_230_437 hb136 (by omega) (r_R_c (by omega) _ _ _ _ _ hx137) (Nat.le_of_ble_eq_true rfl) jml_218 (Nat.le_of_ble_eq_true rfl) ?_
            refine jr_dload_n jf_230_440 rfl (jg2_ne rfl hl2) ?_
            refine jr_iconst jf_230_441 jc_i_0 ?_
            replace h := jgd_of h; obtain ⟨hb138, h⟩ := h
            replace h := obd_of h; obtain ⟨μ139, hμ139, h⟩ := h
            refine jr_V6v_3 jf_230_442 hb138 (by omega) (r_R_term (by omega) _ _ _ _ _ _ hμ139) (Nat.le_of_ble_eq_true rfl) jml_219 (Nat.le_of_ble_eq_true rfl) ?_
            refine jr_aload_n jf_230_445 rfl (jg2_ne rfl hl0) ?_
            refine jr_aload_n jf_230_446 rfl (jg2_ne rfl hl0) ?_
            refine jr_iload_n jf_230_447 rfl (jg2_ne rfl hl1) ?_
            refine jr_iconst jf_230_448 jc_i_3 ?_
            replace h := jgd_of h; obtain ⟨hb140, h⟩ := h
            replace h := obd_of h; obtain ⟨x141, hx141, h⟩ := h
            refine jr_V6_2 jf_230_449 hb140 (by omega) (r_R_c (by omega) _ _ _ _ _ hx141) (Nat.le_of_ble_eq_true rfl) jml_218 (Nat.le_of_ble_eq_true rfl) ?_
            refine jr_dload jf_230_452 jg2_same ?_
            refine jr_iconst jf_230_454 jc_i_1 ?_
            replace h := jgd_of h; obtain ⟨hb142, h⟩ := h
            replace h := obd_of h; obtain ⟨μ143, hμ143, h⟩ := h
            refine jr_V6v_3 jf_230_455 hb142 (by omega) (r_R_term (by omega) _ _ _ _ _ _ hμ143) (Nat.le_of_ble_eq_true rfl) jml_219 (Nat.le_of_ble_eq_true rfl) ?_
            refine jr_aload_n jf_230_458 rfl (jg2_ne rfl hl0) ?_
            refine jr_aload_n jf_230_459 rfl (jg2_ne rfl hl0) ?_
            refine jr_iload_n jf_230_460 rfl (jg2_ne rfl hl1) ?_
            refine jr_iconst jf_230_461 jc_i_1 ?_
            replace h := jgd_of h; obtain ⟨hb144, h⟩ := h
            replace h := obd_of h; obtain ⟨x145, hx145, h⟩ := h
            refine jr_V6_2 jf_230_462 hb144 (by omega) (r_R_st (by omega) _ _ _ _ _ hx145) (Nat.le_of_ble_eq_true rfl) jml_227 (Nat.le_of_ble_eq_true rfl) ?_
            refine jr_iconst jf_230_465 jc_i_0 ?_
            replace h := jgd_of h; obtain ⟨hb146, h⟩ := h
            replace h := obd_of h; obtain ⟨μ147, hμ147, h⟩ := h
            refine jr_V6v_2 jf_230_466 hb146 (by omega) (r_R_term_2 (by omega) _ _ _ _ _ hμ147) (Nat.le_of_ble_eq_true rfl) jml_226 (Nat.le_of_ble_eq_true rfl) ?_
            refine jr_aload_n jf_230_469 rfl (jg2_ne rfl hl0) ?_
            refine jr_iload_n jf_230_470 rfl (jg2_ne rfl hl1) ?_
            refine jr_iconst jf_230_471 jc_i_0 ?_
            refine jr_aload_n jf_230_472 rfl (jg2_ne rfl hl0) ?_
            replace h := jgd_of h; obtain ⟨hb148, h⟩ := h
            replace h := jbd2_of h; obtain ⟨x149, μ150, hx149, h⟩ := h
            refine jr_V6_0 jf_230_473 hb148 (by omega) (r_R_comes (by omega) _ _ _ _ hx149) (Nat.le_of_ble_eq_true rfl) jml_223 (Nat.le_of_ble_eq_true rfl) ?_
            replace h := jgd_of h; obtain ⟨hb151, h⟩ := h
            replace h := obd_of h; obtain ⟨μ152, hμ152, h⟩ := h
            refine jr_V6v_3 jf_230_476 hb151 (by omega) (r_R_st_2 (by omega) _ _ _ _ _ _ hμ152) (Nat.le_of_ble_eq_true rfl) jml_228 (Nat.le_of_ble_eq_true rfl) ?_
            refine jr_aload_n jf_230_479 rfl (jg2_ne rfl hl0) ?_
            refine jr_iload_n jf_230_480 rfl (jg2_ne rfl hl1) ?_
            replace h := jgd_of h; obtain ⟨hb153, h⟩ := h
            replace h := obd_of h; obtain ⟨μ154, hμ154, h⟩ := h
            refine jr_V6v_1 jf_230_481 hb153 (by omega) (r_R_begins (by omega) _ _ _ _ hμ154) (Nat.le_of_ble_eq_true rfl) jml_217 (Nat.le_of_ble_eq_true rfl) ?_
            refine jr_aload_n jf_230_484 rfl (jg2_ne rfl hl0) ?_
            refine jr_aload_n jf_230_485 rfl (jg2_ne rfl hl0) ?_
            refine jr_iload_n jf_230_486 rfl (jg2_ne rfl hl1) ?_
            refine jr_iconst jf_230_487 jc_i_2 ?_
            replace h := jgd_of h; obtain ⟨hb155, h⟩ := h
            replace h := obd_of h; obtain ⟨x156, hx156, h⟩ := h
            refine jr_V6_2 jf_230_488 hb155 (by omega) (r_R_c (by omega) _ _ _ _ _ hx156) (Nat.le_of_ble_eq_true rfl) jml_218 (Nat.le_of_ble_eq_true rfl) ?_
            refine jr_dload_n jf_230_491 rfl (jg2_ne rfl hl2) ?_
            refine jr_iconst jf_230_492 jc_i_0 ?_
            replace h := jgd_of h; obtain ⟨hb157, h⟩ := h
            replace h := obd_of h; obtain ⟨μ158, hμ158, h⟩ := h
            refine jr_V6v_3 jf_230_493 hb157 (by omega) (r_R_term (by omega) _ _ _ _ _ _ hμ158) (Nat.le_of_ble_eq_true rfl) jml_219 (Nat.le_of_ble_eq_true rfl) ?_
            refine jr_aload_n jf_230_496 rfl (jg2_ne rfl hl0) ?_
            refine jr_aload_n jf_230_497 rfl (jg2_ne rfl hl0) ?_
            refine jr_iload_n jf_230_498 rfl (jg2_ne rfl hl1) ?_
            refine jr_iconst jf_230_499 jc_i_4 ?_
            replace h := jgd_of h; obtain ⟨hb159, h⟩ := h
            replace h := obd_of h; obtain ⟨x160, hx160, h⟩ := h
            refine jr_V6_2 jf_230_500 hb159 (by omega) (r_R_c (by omega) _ _ _ _ _ hx160) (Nat.le_of_ble_eq_true rfl) jml_218 (Nat.le_of_ble_eq_true rfl) ?_
            refine jr_dload jf_230_503 jg2_same ?_
            refine jr_iconst jf_230_505 jc_i_1 ?_
            replace h := jgd_of h; obtain ⟨hb161, h⟩ := h
            replace h := obd_of h; obtain ⟨μ162, hμ162, h⟩ := h
            refine jr_V6v_3 jf_230_506 hb161 (by omega) (r_R_term (by omega) _ _ _ _ _ _ hμ162) (Nat.le_of_ble_eq_true rfl) jml_219 (Nat.le_of_ble_eq_true rfl) ?_
            refine jr_aload_n jf_230_509 rfl (jg2_ne rfl hl0) ?_
            refine jr_iload_n jf_230_510 rfl (jg2_ne rfl hl1) ?_
            refine jr_iconst jf_230_511 jc_i_1 ?_
            refine jr_aload_n jf_230_512 rfl (jg2_ne rfl hl0) ?_
            replace h := jgd_of h; obtain ⟨hb163, h⟩ := h
            replace h := jbd2_of h; obtain ⟨x164, μ165, hx164, h⟩ := h
            refine jr_V6_0 jf_230_513 hb163 (by omega) (r_R_comes (by omega) _ _ _ _ hx164) (Nat.le_of_ble_eq_true rfl) jml_223 (Nat.le_of_ble_eq_true rfl) ?_
            replace h := jgd_of h; obtain ⟨hb166, h⟩ := h
            replace h := obd_of h; obtain ⟨μ167, hμ167, h⟩ := h
            refine jr_V6v_3 jf_230_516 hb166 (by omega) (r_R_st_2 (by omega) _ _ _ _ _ _ hμ167) (Nat.le_of_ble_eq_true rfl) jml_228 (Nat.le_of_ble_eq_true rfl) ?_
            refine jr_dload jf_230_519 jg2_same ?_
            obtain ⟨rfl, rfl⟩ := Prod.mk.inj (Option.some.inj h)
            exact jr_retD jf_230_521 jmt_230
          · refine jsw_miss (by decide) hc (by decide : (4 : Int) + 1 = 5) ?_
            replace h := ite_or h; rcases h with ⟨hc, h⟩ | ⟨hc, h⟩
            · refine jsw_hit (by decide) hc ?_
              refine jr_aload_n jf_230_522 rfl hl0 ?_
              refine jr_iload_n jf_230_523 rfl hl1 ?_
              replace h := jgd_of h; obtain ⟨hb168, h⟩ := h
              replace h := obd_of h; obtain ⟨μ169, hμ169, h⟩ := h
              refine jr_V6v_1 jf_230_524 hb168 (by omega) (r_R_begins (by omega) _ _ _ _ hμ169) (Nat.le_of_ble_eq_true rfl) jml_217 (Nat.le_of_ble_eq_true rfl) ?_
              refine jr_aload_n jf_230_527 rfl hl0 ?_
              refine jr_dload_n jf_230_528 rfl hl2 ?_
              refine jr_iconst jf_230_529 jc_i_0 ?_
              replace h := jgd_of h; obtain ⟨hb170, h⟩ := h
              replace h := obd_of h; obtain ⟨μ171, hμ171, h⟩ := h
              refine jr_V6v_2 jf_230_530 hb170 (by omega) (r_R_term_2 (by omega) _ _ _ _ _ hμ171) (Nat.le_of_ble_eq_true rfl) jml_226 (Nat.le_of_ble_eq_true rfl) ?_
              refine jr_aload_n jf_230_533 rfl hl0 ?_
              refine jr_aload_n jf_230_534 rfl hl0 ?_
              refine jr_iload_n jf_230_535 rfl hl1 ?_
              refine jr_iconst jf_230_536 jc_i_0 ?_
              replace h := jgd_of h; obtain ⟨hb172, h⟩ := h
              replace h := obd_of h; obtain ⟨x173, hx173, h⟩ := h
              refine jr_V6_2 jf_230_537 hb172 (by omega) (r_R_c (by omega) _ _ _ _ _ hx173) (Nat.le_of_ble_eq_true rfl) jml_218 (Nat.le_of_ble_eq_true rfl) ?_
              refine jr_aload_n jf_230_540 rfl hl0 ?_
              refine jr_iload_n jf_230_541 rfl hl1 ?_
              refine jr_iconst jf_230_542 jc_i_0 ?_
              replace h := jgd_of h; obtain ⟨hb174, h⟩ := h
              replace h := obd_of h; obtain ⟨x175, hx175, h⟩ := h
              refine jr_V6_2 jf_230_543 hb174 (by omega) (r_R_st (by omega) _ _ _ _ _ hx175) (Nat.le_of_ble_eq_true rfl) jml_227 (Nat.le_of_ble_eq_true rfl) ?_
              refine jr_iconst jf_230_546 jc_i_1 ?_
              replace h := jgd_of h; obtain ⟨hb176, h⟩ := h
              replace h := obd_of h; obtain ⟨μ177, hμ177, h⟩ := h
              refine jr_V6v_3 jf_230_547 hb176 (by omega) (r_R_term (by omega) _ _ _ _ _ _ hμ177) (Nat.le_of_ble_eq_true rfl) jml_219 (Nat.le_of_ble_eq_true rfl) ?_
              refine jr_aload_n jf_230_550 rfl hl0 ?_
              replace h := jgd_of h; obtain ⟨hb178, h⟩ := h
              replace h := jbd2_of h; obtain ⟨x179, μ180, hx179, h⟩ := h
              refine jr_V6_0 jf_230_551 hb178 (by omega) (r_R_comes (by omega) _ _ _ _ hx179) (Nat.le_of_ble_eq_true rfl) jml_223 (Nat.le_of_ble_eq_true rfl) ?_
              refine jr_dstore jf_230_554 jml_230 (by decide) ?_
              refine jr_aload_n jf_230_556 rfl (jg2_ne rfl hl0) ?_
              refine jr_iload_n jf_230_557 rfl (jg2_ne rfl hl1) ?_
              replace h := jgd_of h; obtain ⟨hb181, h⟩ := h
              replace h := obd_of h; obtain ⟨μ182, hμ182, h⟩ := h
              refine jr_V6v_1 jf_230_558 hb181 (by omega) (r_R_begins (by omega) _ _ _ _ hμ182) (Nat.le_of_ble_eq_true rfl) jml_217 (Nat.le_of_ble_eq_true rfl) ?_
              refine jr_aload_n jf_230_561 rfl (jg2_ne rfl hl0) ?_
              refine jr_aload_n jf_230_562 rfl (jg2_ne rfl hl0) ?_
              refine jr_iload_n jf_230_563 rfl (jg2_ne rfl hl1) ?_
              refine jr_iconst jf_230_564 jc_i_0 ?_
              replace h := jgd_of h; obtain ⟨hb183, h⟩ := h
              replace h := obd_of h; obtain ⟨x184, hx184, h⟩ := h
              refine jr_V6_2 jf_230_565 hb183 (by omega) (r_R_c (by omega) _ _ _ _ _ hx184) (Nat.le_of_ble_eq_true rfl) jml_218 (Nat.le_of_ble_eq_true rfl) ?_
              refine jr_dload jf_230_568 jg2_same ?_
              refine jr_iconst jf_230_570 jc_i_0 ?_
              replace h := jgd_of h; obtain ⟨hb185, h⟩ := h
              replace h := obd_of h; obtain ⟨μ186, hμ186, h⟩ := h
              refine jr_V6v_3 jf_230_571 hb185 (by omega) (r_R_term (by omega) _ _ _ _ _ _ hμ186) (Nat.le_of_ble_eq_true rfl) jml_219 (Nat.le_of_ble_eq_true rfl) ?_
              refine jr_aload_n jf_230_574 rfl (jg2_ne rfl hl0) ?_
              refine jr_aload_n jf_230_575 rfl (jg2_ne rfl hl0) ?_
              refine jr_iload_n jf_230_576 rfl (jg2_ne rfl hl1) ?_
              refine jr_iconst jf_230_577 jc_i_0 ?_
              replace h := jgd_of h; obtain ⟨hb187, h⟩ := h
              replace h := obd_of h; obtain ⟨x188, hx188, h⟩ := h
              refine jr_V6_2 jf_230_578 hb187 (by omega) (r_R_st (by omega) _ _ _ _ _ hx188) (Nat.le_of_ble_eq_true rfl) jml_227 (Nat.le_of_ble_eq_true rfl) ?_
              refine jr_iconst jf_230_581 jc_i_0 ?_
              replace h := jgd_of h; obtain ⟨hb189, h⟩ := h
              replace h := obd_of h; obtain ⟨μ190, hμ190, h⟩ := h
              refine jr_V6v_2 jf_230_582 hb189 (by omega) (r_R_term_2 (by omega) _ _ _ _ _ hμ190) (Nat.le_of_ble_eq_true rfl) jml_226 (Nat.le_of_ble_eq_true rfl) ?_
              refine jr_aload_n jf_230_585 rfl (jg2_ne rfl hl0) ?_
              refine jr_iload_n jf_230_586 rfl (jg2_ne rfl hl1) ?_
              refine jr_iconst jf_230_587 jc_i_0 ?_
              refine jr_dload jf_230_588 jg2_same ?_
              replace h := jgd_of h; obtain ⟨hb191, h⟩ := h
              replace h := obd_of h; obtain ⟨μ192, hμ192, h⟩ := h
              refine jr_V6v_3 jf_230_590 hb191 (by omega) (r_R_st_2 (by omega) _ _ _ _ _ _ hμ192) (Nat.le_of_ble_eq_true rfl) jml_228 (Nat.le_of_ble_eq_true rfl) ?_
              refine jr_aload_n jf_230_593 rfl (jg2_ne rfl hl0) ?_
              replace h := jgd_of h; obtain ⟨hb193, h⟩ := h
              replace h := jbd2_of h; obtain ⟨x194, μ195, hx194, h⟩ := h
              refine jr_V6_0 jf_230_594 hb193 (by omega) (r_R_comes (by omega) _ _ _ _ hx194) (Nat.le_of_ble_eq_true rfl) jml_223 (Nat.le_of_ble_eq_true rfl) ?_
              obtain ⟨rfl, rfl⟩ := Prod.mk.inj (Option.some.inj h)
              exact jr_retD jf_230_597 jmt_230
            · refine jsw_miss (by decide) hc (by decide : (5 : Int) + 1 = 6) ?_
              replace h := ite_or h; rcases h with ⟨hc, h⟩ | ⟨hc, h⟩
              · refine jsw_hit (by decide) hc ?_
                refine jr_aload_n jf_230_598 rfl hl0 ?_
                refine jr_iload_n jf_230_599 rfl hl1 ?_
                refine jr_dload_n jf_230_600 rfl hl2 ?_
                replace h := jgd_of h; obtain ⟨hb196, h⟩ := h
                replace h := jbd2_of h; obtain ⟨x197, μ198, hx197, h⟩ := h
                refine jr_V6_2 jf_230_601 hb196 (by omega) (r_R_rings (by omega) _ _ _ _ _ _ hx197) (Nat.le_of_ble_eq_true rfl) jml_231 (Nat.le_of_ble_eq_true rfl) ?_
                obtain ⟨rfl, rfl⟩ := Prod.mk.inj (Option.some.inj h)
                exact jr_retD jf_230_604 jmt_230
              · refine jsw_miss (by decide) hc (by decide : (6 : Int) + 1 = 7) ?_
                replace h := ite_or h; rcases h with ⟨hc, h⟩ | ⟨hc, h⟩
                · refine jsw_hit (by decide) hc ?_
                  refine jr_aload_n jf_230_605 rfl hl0 ?_
                  refine jr_iload_n jf_230_606 rfl hl1 ?_
                  refine jr_dload_n jf_230_607 rfl hl2 ?_
                  replace h := jgd_of h; obtain ⟨hb199, h⟩ := h
                  replace h := jbd2_of h; obtain ⟨x200, μ201, hx200, h⟩ := h
                  refine jr_V6_2 jf_230_608 hb199 (by omega) (r_R_rings (by omega) _ _ _ _ _ _ hx200) (Nat.le_of_ble_eq_true rfl) jml_231 (Nat.le_of_ble_eq_true rfl) ?_
                  refine jr_pop2 jf_230_611 rfl ?_
                  refine jr_aload_n jf_230_612 rfl hl0 ?_
                  refine jr_iload_n jf_230_613 rfl hl1 ?_
                  replace h := jgd_of h; obtain ⟨hb202, h⟩ := h
                  replace h := obd_of h; obtain ⟨μ203, hμ203, h⟩ := h
                  refine jr_V6v_1 jf_230_614 hb202 (by omega) (r_R_begins (by omega) _ _ _ _ hμ203) (Nat.le_of_ble_eq_true rfl) jml_217 (Nat.le_of_ble_eq_true rfl) ?_
                  refine jr_iconst jf_230_617 jc_i_0 ?_
                  refine jr_istore jf_230_618 jml_230 (by decide) ?_
                  exact r_R_works_620 hd _ _ _ _ _ _ _ _ (jg1_ne rfl hl0) (jg1_ne rfl hl1) jg1_same h
                · refine jsw_miss (by decide) hc (by decide : (7 : Int) + 1 = 8) ?_
                  replace h := ite_or h; rcases h with ⟨hc, h⟩ | ⟨hc, h⟩
                  · refine jsw_hit (by decide) hc ?_
                    refine jr_aload_n jf_230_692 rfl hl0 ?_
                    refine jr_iload_n jf_230_693 rfl hl1 ?_
                    replace h := jgd_of h; obtain ⟨hb204, h⟩ := h
                    replace h := obd_of h; obtain ⟨μ205, hμ205, h⟩ := h
                    refine jr_V6v_1 jf_230_694 hb204 (by omega) (r_R_begins (by omega) _ _ _ _ hμ205) (Nat.le_of_ble_eq_true rfl) jml_217 (Nat.le_of_ble_eq_true rfl) ?_
                    refine jr_aload_n jf_230_697 rfl hl0 ?_
                    refine jr_dload_n jf_230_698 rfl hl2 ?_
                    refine jr_iconst jf_230_699 jc_i_0 ?_
                    replace h := jgd_of h; obtain ⟨hb206, h⟩ := h
                    replace h := obd_of h; obtain ⟨μ207, hμ207, h⟩ := h
                    refine jr_V6v_2 jf_230_700 hb206 (by omega) (r_R_term_2 (by omega) _ _ _ _ _ hμ207) (Nat.le_of_ble_eq_true rfl) jml_226 (Nat.le_of_ble_eq_true rfl) ?_
                    refine jr_aload_n jf_230_703 rfl hl0 ?_
                    refine jr_aload_n jf_230_704 rfl hl0 ?_
                    refine jr_iload_n jf_230_705 rfl hl1 ?_
                    refine jr_iconst jf_230_706 jc_i_0 ?_
                    replace h := jgd_of h; obtain ⟨hb208, h⟩ := h
                    replace h := obd_of h; obtain ⟨x209, hx209, h⟩ := h
                    refine jr_V6_2 jf_230_707 hb208 (by omega) (r_R_c (by omega) _ _ _ _ _ hx209) (Nat.le_of_ble_eq_true rfl) jml_218 (Nat.le_of_ble_eq_true rfl) ?_
                    refine jr_aload_n jf_230_710 rfl hl0 ?_
                    refine jr_iload_n jf_230_711 rfl hl1 ?_
                    refine jr_aload_n jf_230_712 rfl hl0 ?_
                    replace h := obd_of h; obtain ⟨x210, hx210, h⟩ := h
                    refine jr_getA jf_230_713 hx210 ?_
                    refine jr_iload_n jf_230_716 rfl hl1 ?_
                    replace h := obd_of h; obtain ⟨a211, rfl, h⟩ := h
                    replace h := obd_of h; obtain ⟨x212, hx212, h⟩ := h
                    refine jr_iaload jf_230_717 hx212 ?_
                    replace h := jgd_of h; obtain ⟨hb213, h⟩ := h
                    replace h := obd_of h; obtain ⟨x214, hx214, h⟩ := h
                    refine jr_V6_2 jf_230_718 hb213 (by omega) (r_R_st (by omega) _ _ _ _ _ hx214) (Nat.le_of_ble_eq_true rfl) jml_227 (Nat.le_of_ble_eq_true rfl) ?_
                    refine jr_iconst jf_230_721 jc_i_0 ?_
                    replace h := jgd_of h; obtain ⟨hb215, h⟩ := h
                    replace h := obd_of h; obtain ⟨μ216, hμ216, h⟩ := h
                    refine jr_V6v_3 jf_230_722 hb215 (by omega) (r_R_term (by omega) _ _ _ _ _ _ hμ216) (Nat.le_of_ble_eq_true rfl) jml_219 (Nat.le_of_ble_eq_true rfl) ?_
                    refine jr_aload_n jf_230_725 rfl hl0 ?_
                    replace h := jgd_of h; obtain ⟨hb217, h⟩ := h
                    replace h := jbd2_of h; obtain ⟨x218, μ219, hx218, h⟩ := h
                    refine jr_V6_0 jf_230_726 hb217 (by omega) (r_R_comes (by omega) _ _ _ _ hx218) (Nat.le_of_ble_eq_true rfl) jml_223 (Nat.le_of_ble_eq_true rfl) ?_
                    refine jr_dstore jf_230_729 jml_230 (by decide) ?_
                    refine jr_aload_n jf_230_731 rfl (jg2_ne rfl hl0) ?_
                    refine jr_iload_n jf_230_732 rfl (jg2_ne rfl hl1) ?_
                    refine jr_dload jf_230_733 jg2_same ?_
                    replace h := jgd_of h; obtain ⟨hb220, h⟩ := h
                    replace h := jbd2_of h; obtain ⟨x221, μ222, hx221, h⟩ := h
                    refine jr_V6_2 jf_230_735 hb220 (by omega) (r_R_rings (by omega) _ _ _ _ _ _ hx221) (Nat.le_of_ble_eq_true rfl) jml_231 (Nat.le_of_ble_eq_true rfl) ?_
                    refine jr_pop2 jf_230_738 rfl ?_
                    refine jr_dload jf_230_739 jg2_same ?_
                    obtain ⟨rfl, rfl⟩ := Prod.mk.inj (Option.some.inj h)
                    exact jr_retD jf_230_741 jmt_230
                  · refine jsw_miss (by decide) hc (by decide : (8 : Int) + 1 = 9) ?_
                    refine jsw_end ?_
                    refine jr_aload_n jf_230_742 rfl hl0 ?_
                    refine jr_iload_n jf_230_743 rfl hl1 ?_
                    refine jr_dload_n jf_230_744 rfl hl2 ?_
                    replace h := jgd_of h; obtain ⟨hb223, h⟩ := h
                    replace h := jbd2_of h; obtain ⟨x224, μ225, hx224, h⟩ := h
                    refine jr_V6_2 jf_230_745 hb223 (by omega) (r_R_shapes (by omega) _ _ _ _ _ _ hx224) (Nat.le_of_ble_eq_true rfl) jml_232 (Nat.le_of_ble_eq_true rfl) ?_
                    obtain ⟨rfl, rfl⟩ := Prod.mk.inj (Option.some.inj h)
                    exact jr_retD jf_230_748 jmt_230
set_option maxRecDepth 10000 in
set_option maxHeartbeats 4000000 in
theorem r_R_works {N B : Nat} {SA : Nat → Nat} {d : Nat} (hd : 4 ≤ d) : ∀ (v0 : Nat) (v1 : Int32) (v2 : UInt64) (μ : JMem) (r : UInt64) (μ9 : JMem), g_R_works N B v0 v1 v2 μ = some (r, μ9) → jR B SA d m_R_works 0 (lv_args 0 [.ref v0, .int v1, .double v2]) [] μ (some (.double r)) μ9 := by
  intro v0 v1 v2 μ r μ9 h
  exact r_R_works_e hd (lv_args 0 _) _ _ _ _ _ _ (by simp [lv_args, jget, rv_cat, cat_int, cat_long, cat_double, cat_float, cat_ref]) (by simp [lv_args, jget, rv_cat, cat_int, cat_long, cat_double, cat_float, cat_ref]) (by simp [lv_args, jget, rv_cat, cat_int, cat_long, cat_double, cat_float, cat_ref]) h
/-! FilterBenchModel.goes(ID)I -/
set_option maxRecDepth 10000 in
set_option maxHeartbeats 4000000 in
theorem r_R_goes_113 {N B : Nat} {SA : Nat → Nat} {d : Nat} (hd : 5 ≤ d) {k26 : Nat → Int32 → Int32 → Bool → JMem → Option (Int32 × JMem)} (i26 : ∀ (L : JLoc) (v0 : Nat) (v1 : Int32) (v4 : Int32) (v5 : Bool) (μ : JMem) (r : Int32) (μ9 : JMem), jget L 0 = .ref v0 → jget L 1 = .int v1 → jget L 4 = .int v4 → jget L 5 = .int (jb v5) → k26 v0 v1 v4 v5 μ = some (r, μ9) → jR B SA d m_R_goes 26 L [] μ (some (.int r)) μ9) : ∀ (L : JLoc) (v0 : Nat) (v1 : Int32) (v4 : Int32) (μ : JMem) (r : Int32) (μ9 : JMem), jget L 0 = .ref v0 → jget L 1 = .int v1 → jget L 4 = .int v4 → g_R_goes_113 N B k26 v0 v1 v4 μ = some (r, μ9) → jR B SA d m_R_goes 113 L [] μ (some (.int r)) μ9 := by
  intro L v0 v1 v4 μ r μ9 hl0 hl1 hl4 h
  unfold g_R_goes_113 at h
  refine jr_aload_n jf_215_113 rfl hl0 ?_
  replace h := jgd_of h; obtain ⟨hb1, h⟩ := h
  replace h := jbd2_of h; obtain ⟨x2, μ3, hx2, h⟩ := h
  refine jr_V6_0 jf_215_114 hb1 (by omega) (r_R_goesOn (by omega) _ _ _ _ hx2) (Nat.le_of_ble_eq_true rfl) jml_216 (Nat.le_of_ble_eq_true rfl) ?_
  refine jr_istore jf_215_117 jml_215 (by decide) ?_
  refine jr_goto jf_215_119 ?_
  exact i26 _ _ _ _ _ _ _ _ (jg1_ne rfl hl0) (jg1_ne rfl hl1) (jg1_pre rfl hl4) jg1_same h
set_option maxRecDepth 10000 in
set_option maxHeartbeats 4000000 in
theorem r_R_goes_240 {N B : Nat} {SA : Nat → Nat} {d : Nat} (hd : 5 ≤ d) {k26 : Nat → Int32 → Int32 → Bool → JMem → Option (Int32 × JMem)} (i26 : ∀ (L : JLoc) (v0 : Nat) (v1 : Int32) (v4 : Int32) (v5 : Bool) (μ : JMem) (r : Int32) (μ9 : JMem), jget L 0 = .ref v0 → jget L 1 = .int v1 → jget L 4 = .int v4 → jget L 5 = .int (jb v5) → k26 v0 v1 v4 v5 μ = some (r, μ9) → jR B SA d m_R_goes 26 L [] μ (some (.int r)) μ9) {k149 : Nat → Int32 → Int32 → Bool → Int32 → Int32 → JMem → Option (Int32 × JMem)} (i149 : ∀ (L : JLoc) (v0 : Nat) (v1 : Int32) (v4 : Int32) (v5 : Bool) (v6 : Int32) (v7 : Int32) (μ : JMem) (r : Int32) (μ9 : JMem), jget L 0 = .ref v0 → jget L 1 = .int v1 → jget L 4 = .int v4 → jget L 5 = .int (jb v5) → jget L 6 = .int v6 → jget L 7 = .int v7 → k149 v0 v1 v4 v5 v6 v7 μ = some (r, μ9) → jR B SA d m_R_goes 149 L [] μ (some (.int r)) μ9) : ∀ (L : JLoc) (v0 : Nat) (v1 : Int32) (v4 : Int32) (v5 : Bool) (v6 : Int32) (v7 : Int32) (μ : JMem) (r : Int32) (μ9 : JMem), jget L 0 = .ref v0 → jget L 1 = .int v1 → jget L 4 = .int v4 → jget L 5 = .int (jb v5) → jget L 6 = .int v6 → jget L 7 = .int v7 → g_R_goes_240 N B k26 k149 v0 v1 v4 v5 v6 v7 μ = some (r, μ9) → jR B SA d m_R_goes 240 L [] μ (some (.int r)) μ9 := by
  intro L v0 v1 v4 v5 v6 v7 μ r μ9 hl0 hl1 hl4 hl5 hl6 hl7 h
  unfold g_R_goes_240 at h
  refine jr_iinc jf_215_240 jc_i_1 jml_215 (by decide) hl7 ?_
  refine jr_goto jf_215_243 ?_
  exact i149 _ _ _ _ _ _ _ _ _ _ (jg1_ne rfl hl0) (jg1_ne rfl hl1) (jg1_ne rfl hl4) (jg1_ne rfl hl5) (jg1_pre rfl hl6) jg1_same h
set_option maxRecDepth 10000 in
set_option maxHeartbeats 4000000 in
theorem r_R_goes_430 {N B : Nat} {SA : Nat → Nat} {d : Nat} (hd : 5 ≤ d) {k26 : Nat → Int32 → Int32 → Bool → JMem → Option (Int32 × JMem)} (i26 : ∀ (L : JLoc) (v0 : Nat) (v1 : Int32) (v4 : Int32) (v5 : Bool) (μ : JMem) (r : Int32) (μ9 : JMem), jget L 0 = .ref v0 → jget L 1 = .int v1 → jget L 4 = .int v4 → jget L 5 = .int (jb v5) → k26 v0 v1 v4 v5 μ = some (r, μ9) → jR B SA d m_R_goes 26 L [] μ (some (.int r)) μ9) : ∀ (L : JLoc) (v0 : Nat) (v1 : Int32) (v4 : Int32) (v5 : Bool) (μ : JMem) (r : Int32) (μ9 : JMem), jget L 0 = .ref v0 → jget L 1 = .int v1 → jget L 4 = .int v4 → jget L 5 = .int (jb v5) → g_R_goes_430 N B k26 v0 v1 v4 v5 μ = some (r, μ9) → jR B SA d m_R_goes 430 L [] μ (some (.int r)) μ9 := by
  intro L v0 v1 v4 v5 μ r μ9 hl0 hl1 hl4 hl5 h
  unfold g_R_goes_430 at h
  refine jr_goto jf_215_430 ?_
  exact i26 _ _ _ _ _ _ _ _ hl0 hl1 hl4 hl5 h
set_option maxRecDepth 10000 in
set_option maxHeartbeats 4000000 in
theorem r_R_goes_312 {N B : Nat} {SA : Nat → Nat} {d : Nat} (hd : 5 ≤ d) {k26 : Nat → Int32 → Int32 → Bool → JMem → Option (Int32 × JMem)} (i26 : ∀ (L : JLoc) (v0 : Nat) (v1 : Int32) (v4 : Int32) (v5 : Bool) (μ : JMem) (r : Int32) (μ9 : JMem), jget L 0 = .ref v0 → jget L 1 = .int v1 → jget L 4 = .int v4 → jget L 5 = .int (jb v5) → k26 v0 v1 v4 v5 μ = some (r, μ9) → jR B SA d m_R_goes 26 L [] μ (some (.int r)) μ9) : ∀ (L : JLoc) (v0 : Nat) (v1 : Int32) (v4 : Int32) (v5 : Bool) (μ : JMem) (r : Int32) (μ9 : JMem), jget L 0 = .ref v0 → jget L 1 = .int v1 → jget L 4 = .int v4 → jget L 5 = .int (jb v5) → g_R_goes_312 N B k26 v0 v1 v4 v5 μ = some (r, μ9) → jR B SA d m_R_goes 312 L [] μ (some (.int r)) μ9 := by
  intro L v0 v1 v4 v5 μ r μ9 hl0 hl1 hl4 hl5 h
  unfold g_R_goes_312 at h
  refine jr_goto jf_215_312 ?_
  exact r_R_goes_430 hd i26 _ _ _ _ _ _ _ _ hl0 hl1 hl4 hl5 h
set_option maxRecDepth 10000 in
set_option maxHeartbeats 4000000 in
theorem r_R_goes_339 {N B : Nat} {SA : Nat → Nat} {d : Nat} (hd : 5 ≤ d) {k26 : Nat → Int32 → Int32 → Bool → JMem → Option (Int32 × JMem)} (i26 : ∀ (L : JLoc) (v0 : Nat) (v1 : Int32) (v4 : Int32) (v5 : Bool) (μ : JMem) (r : Int32) (μ9 : JMem), jget L 0 = .ref v0 → jget L 1 = .int v1 → jget L 4 = .int v4 → jget L 5 = .int (jb v5) → k26 v0 v1 v4 v5 μ = some (r, μ9) → jR B SA d m_R_goes 26 L [] μ (some (.int r)) μ9) : ∀ (L : JLoc) (v0 : Nat) (v1 : Int32) (v4 : Int32) (v5 : Bool) (v6 : Int32) (μ : JMem) (r : Int32) (μ9 : JMem), jget L 0 = .ref v0 → jget L 1 = .int v1 → jget L 4 = .int v4 → jget L 5 = .int (jb v5) → jget L 6 = .int v6 → g_R_goes_339 N B k26 v0 v1 v4 v5 v6 μ = some (r, μ9) → jR B SA d m_R_goes 339 L [] μ (some (.int r)) μ9 := by
  intro L v0 v1 v4 v5 v6 μ r μ9 hl0 hl1 hl4 hl5 hl6 h
  unfold g_R_goes_339 at h
  refine jr_aload_n jf_215_339 rfl hl0 ?_
  refine jr_aload_n jf_215_340 rfl hl0 ?_
  replace h := obd_of h; obtain ⟨x1, hx1, h⟩ := h
  refine jr_getA jf_215_341 hx1 ?_
  refine jr_iload jf_215_344 hl6 ?_
  replace h := obd_of h; obtain ⟨a2, rfl, h⟩ := h
  replace h := obd_of h; obtain ⟨x3, hx3, h⟩ := h
  refine jr_iaload jf_215_346 hx3 ?_
  refine jr_iconst jf_215_347 jc_i_1 ?_
  refine jr_isub jf_215_348 ?_
  replace h := jgd_of h; obtain ⟨hb4, h⟩ := h
  replace h := obd_of h; obtain ⟨μ5, hμ5, h⟩ := h
  refine jr_V6v_1 jf_215_349 hb4 (by omega) (r_R_waits (by omega) _ _ _ _ hμ5) (Nat.le_of_ble_eq_true rfl) jml_229 (Nat.le_of_ble_eq_true rfl) ?_
  refine jr_aload_n jf_215_352 rfl hl0 ?_
  refine jr_dup jf_215_353 rfl ?_
  replace h := obd_of h; obtain ⟨x6, hx6, h⟩ := h
  refine jr_getI jf_215_354 hx6 ?_
  refine jr_iconst jf_215_357 jc_i_1 ?_
  refine jr_iadd jf_215_358 ?_
  replace h := obd_of h; obtain ⟨μ7, hμ7, h⟩ := h
  refine jr_putI jf_215_359 rfl hμ7 ?_
  refine jr_goto jf_215_362 ?_
  exact r_R_goes_430 hd i26 _ _ _ _ _ _ _ _ hl0 hl1 hl4 hl5 h
set_option maxRecDepth 10000 in
set_option maxHeartbeats 4000000 in
theorem r_R_goes_412 {N B : Nat} {SA : Nat → Nat} {d : Nat} (hd : 5 ≤ d) {k26 : Nat → Int32 → Int32 → Bool → JMem → Option (Int32 × JMem)} (i26 : ∀ (L : JLoc) (v0 : Nat) (v1 : Int32) (v4 : Int32) (v5 : Bool) (μ : JMem) (r : Int32) (μ9 : JMem), jget L 0 = .ref v0 → jget L 1 = .int v1 → jget L 4 = .int v4 → jget L 5 = .int (jb v5) → k26 v0 v1 v4 v5 μ = some (r, μ9) → jR B SA d m_R_goes 26 L [] μ (some (.int r)) μ9) : ∀ (L : JLoc) (v0 : Nat) (v1 : Int32) (v4 : Int32) (v5 : Bool) (v6 : Int32) (μ : JMem) (r : Int32) (μ9 : JMem), jget L 0 = .ref v0 → jget L 1 = .int v1 → jget L 4 = .int v4 → jget L 5 = .int (jb v5) → jget L 6 = .int v6 → g_R_goes_412 N B k26 v0 v1 v4 v5 v6 μ = some (r, μ9) → jR B SA d m_R_goes 412 L [] μ (some (.int r)) μ9 := by
  intro L v0 v1 v4 v5 v6 μ r μ9 hl0 hl1 hl4 hl5 hl6 h
  unfold g_R_goes_412 at h
  refine jr_aload_n jf_215_412 rfl hl0 ?_
  refine jr_aload_n jf_215_413 rfl hl0 ?_
  refine jr_iload jf_215_414 hl6 ?_
  refine jr_aload_n jf_215_416 rfl hl0 ?_
  replace h := obd_of h; obtain ⟨x1, hx1, h⟩ := h
  refine jr_getD jf_215_417 hx1 ?_
  replace h := jgd_of h; obtain ⟨hb2, h⟩ := h
  replace h := jbd2_of h; obtain ⟨x3, μ4, hx3, h⟩ := h
  refine jr_V6_2 jf_215_420 hb2 (by omega) (r_R_works (by omega) _ _ _ _ _ _ hx3) (Nat.le_of_ble_eq_true rfl) jml_230 (Nat.le_of_ble_eq_true rfl) ?_
  replace h := obd_of h; obtain ⟨μ5, hμ5, h⟩ := h
  refine jr_putD jf_215_423 rfl hμ5 ?_
  refine jr_aload_n jf_215_426 rfl hl0 ?_
  replace h := jgd_of h; obtain ⟨hb6, h⟩ := h
  replace h := obd_of h; obtain ⟨μ7, hμ7, h⟩ := h
  refine jr_V6v_0 jf_215_427 hb6 (by omega) (r_R_leaves (by omega) _ _ _ hμ7) (Nat.le_of_ble_eq_true rfl) jml_225 (Nat.le_of_ble_eq_true rfl) ?_
  exact r_R_goes_430 hd i26 _ _ _ _ _ _ _ _ hl0 hl1 hl4 hl5 h
set_option maxRecDepth 10000 in
set_option maxHeartbeats 4000000 in
theorem r_R_goes_149 {N B : Nat} {SA : Nat → Nat} {d : Nat} (hd : 5 ≤ d) {k26 : Nat → Int32 → Int32 → Bool → JMem → Option (Int32 × JMem)} (i26 : ∀ (L : JLoc) (v0 : Nat) (v1 : Int32) (v4 : Int32) (v5 : Bool) (μ : JMem) (r : Int32) (μ9 : JMem), jget L 0 = .ref v0 → jget L 1 = .int v1 → jget L 4 = .int v4 → jget L 5 = .int (jb v5) → k26 v0 v1 v4 v5 μ = some (r, μ9) → jR B SA d m_R_goes 26 L [] μ (some (.int r)) μ9) : ∀ (n : Nat), ∀ (L : JLoc) (v0 : Nat) (v1 : Int32) (v4 : Int32) (v5 : Bool) (v6 : Int32) (v7 : Int32) (μ : JMem) (r : Int32) (μ9 : JMem), jget L 0 = .ref v0 → jget L 1 = .int v1 → jget L 4 = .int v4 → jget L 5 = .int (jb v5) → jget L 6 = .int v6 → jget L 7 = .int v7 → g_R_goes_149 N B k26 n v0 v1 v4 v5 v6 v7 μ = some (r, μ9) → jR B SA d m_R_goes 149 L [] μ (some (.int r)) μ9 := by
  intro n
  induction n with
  | zero =>
    intro L v0 v1 v4 v5 v6 v7 μ r μ9 hl0 hl1 hl4 hl5 hl6 hl7 h
    unfold g_R_goes_149 at h
    cases h
  | succ n ih =>
    intro L v0 v1 v4 v5 v6 v7 μ r μ9 hl0 hl1 hl4 hl5 hl6 hl7 h
    unfold g_R_goes_149 at h
    refine jr_iload jf_215_149 hl7 ?_
    refine jr_iconst jf_215_151 jc_i_3 ?_
    refine jr_aload_n jf_215_152 rfl hl0 ?_
    replace h := obd_of h; obtain ⟨x1, hx1, h⟩ := h
    refine jr_getI jf_215_153 hx1 ?_
    refine jr_imul jf_215_156 ?_
    refine jr_aload_n jf_215_157 rfl hl0 ?_
    replace h := obd_of h; obtain ⟨x2, hx2, h⟩ := h
    refine jr_getA jf_215_158 hx2 ?_
    refine jr_aload_n jf_215_161 rfl hl0 ?_
    replace h := obd_of h; obtain ⟨x3, hx3, h⟩ := h
    refine jr_getI jf_215_162 hx3 ?_
    replace h := obd_of h; obtain ⟨a4, rfl, h⟩ := h
    replace h := obd_of h; obtain ⟨x5, hx5, h⟩ := h
    refine jr_iaload jf_215_165 hx5 ?_
    refine jr_iadd jf_215_166 ?_
    replace h := ite_or h; rcases h with ⟨hc, h⟩ | ⟨hc, h⟩
    · refine jr_if2_ge_t jf_215_167 hc ?_
      refine jr_aload_n jf_215_246 rfl hl0 ?_
      replace h := obd_of h; obtain ⟨x6, hx6, h⟩ := h
      refine jr_getA jf_215_247 hx6 ?_
      refine jr_iload jf_215_250 hl6 ?_
      replace h := obd_of h; obtain ⟨a7, rfl, h⟩ := h
      replace h := obd_of h; obtain ⟨x8, hx8, h⟩ := h
      refine jr_iaload jf_215_252 hx8 ?_
      refine jr_bipush jf_215_253 jc_b_12 ?_
      replace h := ite_or h; rcases h with ⟨hc, h⟩ | ⟨hc, h⟩
      · refine jr_if2_ne_f jf_215_255 hc ?_
        refine jr_aload_n jf_215_258 rfl hl0 ?_
        refine jr_iload jf_215_259 hl6 ?_
        refine jr_iconst jf_215_261 jc_i_0 ?_
        replace h := jgd_of h; obtain ⟨hb9, h⟩ := h
        replace h := obd_of h; obtain ⟨x10, hx10, h⟩ := h
        refine jr_V6_2 jf_215_262 hb9 (by omega) (r_R_st (by omega) _ _ _ _ _ hx10) (Nat.le_of_ble_eq_true rfl) jml_227 (Nat.le_of_ble_eq_true rfl) ?_
        refine jr_d2i jf_215_265 ?_
        refine jr_istore jf_215_266 jml_215 (by decide) ?_
        refine jr_aload_n jf_215_268 rfl (jg1_ne rfl hl0) ?_
        refine jr_iload jf_215_269 (jg1_pre rfl hl6) ?_
        refine jr_iconst jf_215_271 jc_i_0 ?_
        refine jr_iload jf_215_272 jg1_same ?_
        refine jr_iconst jf_215_274 jc_i_1 ?_
        refine jr_iadd jf_215_275 ?_
        refine jr_aload_n jf_215_276 rfl (jg1_ne rfl hl0) ?_
        replace h := obd_of h; obtain ⟨x11, hx11, h⟩ := h
        refine jr_getA jf_215_277 hx11 ?_
        refine jr_iload jf_215_280 (jg1_pre rfl hl6) ?_
        replace h := obd_of h; obtain ⟨a12, rfl, h⟩ := h
        replace h := obd_of h; obtain ⟨x13, hx13, h⟩ := h
        refine jr_iaload jf_215_282 hx13 ?_
        replace h := obd_of h; obtain ⟨x14, hx14, h⟩ := h
        refine jr_irem jf_215_283 hx14 ?_
        refine jr_i2d jf_215_284 ?_
        replace h := jgd_of h; obtain ⟨hb15, h⟩ := h
        replace h := obd_of h; obtain ⟨μ16, hμ16, h⟩ := h
        refine jr_V6v_3 jf_215_285 hb15 (by omega) (r_R_st_2 (by omega) _ _ _ _ _ _ hμ16) (Nat.le_of_ble_eq_true rfl) jml_228 (Nat.le_of_ble_eq_true rfl) ?_
        refine jr_iload jf_215_288 jg1_same ?_
        replace h := ite_or h; rcases h with ⟨hc, h⟩ | ⟨hc, h⟩
        · refine jr_if_le_t jf_215_290 hc ?_
          refine jr_aload_n jf_215_302 rfl (jg1_ne rfl hl0) ?_
          refine jr_dup jf_215_303 rfl ?_
          replace h := obd_of h; obtain ⟨x17, hx17, h⟩ := h
          refine jr_getI jf_215_304 hx17 ?_
          refine jr_iconst jf_215_307 jc_i_1 ?_
          refine jr_iadd jf_215_308 ?_
          replace h := obd_of h; obtain ⟨μ18, hμ18, h⟩ := h
          refine jr_putI jf_215_309 rfl hμ18 ?_
          exact r_R_goes_312 hd i26 _ _ _ _ _ _ _ _ (jg1_ne rfl hl0) (jg1_ne rfl hl1) (jg1_ne rfl hl4) (jg1_ne rfl hl5) h
        · refine jr_if_le_f jf_215_290 hc ?_
          refine jr_aload_n jf_215_293 rfl (jg1_ne rfl hl0) ?_
          replace h := jgd_of h; obtain ⟨hb19, h⟩ := h
          replace h := jbd2_of h; obtain ⟨x20, μ21, hx20, h⟩ := h
          refine jr_V6_0 jf_215_294 hb19 (by omega) (r_R_goesOn (by omega) _ _ _ _ hx20) (Nat.le_of_ble_eq_true rfl) jml_216 (Nat.le_of_ble_eq_true rfl) ?_
          refine jr_istore jf_215_297 jml_215 (by decide) ?_
          refine jr_goto jf_215_299 ?_
          exact r_R_goes_312 hd i26 _ _ _ _ _ _ _ _ (jg1_ne rfl (jg1_ne rfl hl0)) (jg1_ne rfl (jg1_ne rfl hl1)) (jg1_pre rfl (jg1_ne rfl hl4)) jg1_same h
      · refine jr_if2_ne_t jf_215_255 hc ?_
        refine jr_aload_n jf_215_315 rfl hl0 ?_
        replace h := obd_of h; obtain ⟨x22, hx22, h⟩ := h
        refine jr_getA jf_215_316 hx22 ?_
        refine jr_iload jf_215_319 hl6 ?_
        replace h := obd_of h; obtain ⟨a23, rfl, h⟩ := h
        replace h := obd_of h; obtain ⟨x24, hx24, h⟩ := h
        refine jr_iaload jf_215_321 hx24 ?_
        refine jr_bipush jf_215_322 jc_b_13 ?_
        replace h := ite_or h; rcases h with ⟨hc, h⟩ | ⟨hc, h⟩
        · refine jr_if2_eq_t jf_215_324 hc ?_
          exact r_R_goes_339 hd i26 _ _ _ _ _ _ _ _ _ hl0 hl1 hl4 hl5 hl6 h
        · refine jr_if2_eq_f jf_215_324 hc ?_
          refine jr_aload_n jf_215_327 rfl hl0 ?_
          replace h := obd_of h; obtain ⟨x25, hx25, h⟩ := h
          refine jr_getA jf_215_328 hx25 ?_
          refine jr_iload jf_215_331 hl6 ?_
          replace h := obd_of h; obtain ⟨a26, rfl, h⟩ := h
          replace h := obd_of h; obtain ⟨x27, hx27, h⟩ := h
          refine jr_iaload jf_215_333 hx27 ?_
          refine jr_bipush jf_215_334 jc_b_14 ?_
          replace h := ite_or h; rcases h with ⟨hc, h⟩ | ⟨hc, h⟩
          · refine jr_if2_ne_f jf_215_336 hc ?_
            exact r_R_goes_339 hd i26 _ _ _ _ _ _ _ _ _ hl0 hl1 hl4 hl5 hl6 h
          · refine jr_if2_ne_t jf_215_336 hc ?_
            refine jr_aload_n jf_215_365 rfl hl0 ?_
            replace h := obd_of h; obtain ⟨x28, hx28, h⟩ := h
            refine jr_getA jf_215_366 hx28 ?_
            refine jr_iload jf_215_369 hl6 ?_
            replace h := obd_of h; obtain ⟨a29, rfl, h⟩ := h
            replace h := obd_of h; obtain ⟨x30, hx30, h⟩ := h
            refine jr_iaload jf_215_371 hx30 ?_
            refine jr_bipush jf_215_372 jc_b_15 ?_
            replace h := ite_or h; rcases h with ⟨hc, h⟩ | ⟨hc, h⟩
            · refine jr_if2_ne_f jf_215_374 hc ?_
              refine jr_aload_n jf_215_377 rfl hl0 ?_
              replace h := obd_of h; obtain ⟨x31, hx31, h⟩ := h
              refine jr_getA jf_215_378 hx31 ?_
              refine jr_iload jf_215_381 hl6 ?_
              replace h := obd_of h; obtain ⟨a32, rfl, h⟩ := h
              replace h := obd_of h; obtain ⟨x33, hx33, h⟩ := h
              refine jr_iaload jf_215_383 hx33 ?_
              refine jr_iconst jf_215_384 jc_i_m1 ?_
              replace h := ite_or h; rcases h with ⟨hc, h⟩ | ⟨hc, h⟩
              · refine jr_if2_eq_t jf_215_385 hc ?_
                exact r_R_goes_412 hd i26 _ _ _ _ _ _ _ _ _ hl0 hl1 hl4 hl5 hl6 h
              · refine jr_if2_eq_f jf_215_385 hc ?_
                refine jr_aload_n jf_215_388 rfl hl0 ?_
                refine jr_iconst jf_215_389 jc_i_m1 ?_
                replace h := jgd_of h; obtain ⟨hb34, h⟩ := h
                replace h := obd_of h; obtain ⟨μ35, hμ35, h⟩ := h
                refine jr_V6v_1 jf_215_390 hb34 (by omega) (r_R_waits (by omega) _ _ _ _ hμ35) (Nat.le_of_ble_eq_true rfl) jml_229 (Nat.le_of_ble_eq_true rfl) ?_
                refine jr_aload_n jf_215_393 rfl hl0 ?_
                refine jr_aload_n jf_215_394 rfl hl0 ?_
                replace h := obd_of h; obtain ⟨x36, hx36, h⟩ := h
                refine jr_getA jf_215_395 hx36 ?_
                refine jr_iload jf_215_398 hl6 ?_
                replace h := obd_of h; obtain ⟨a37, rfl, h⟩ := h
                replace h := obd_of h; obtain ⟨x38, hx38, h⟩ := h
                refine jr_iaload jf_215_400 hx38 ?_
                replace h := obd_of h; obtain ⟨μ39, hμ39, h⟩ := h
                refine jr_putI jf_215_401 rfl hμ39 ?_
                refine jr_aload_n jf_215_404 rfl hl0 ?_
                refine jr_iconst jf_215_405 jc_i_0 ?_
                replace h := obd_of h; obtain ⟨μ40, hμ40, h⟩ := h
                refine jr_putI jf_215_406 rfl hμ40 ?_
                refine jr_goto jf_215_409 ?_
                exact r_R_goes_430 hd i26 _ _ _ _ _ _ _ _ hl0 hl1 hl4 hl5 h
            · refine jr_if2_ne_t jf_215_374 hc ?_
              exact r_R_goes_412 hd i26 _ _ _ _ _ _ _ _ _ hl0 hl1 hl4 hl5 hl6 h
    · refine jr_if2_ge_f jf_215_167 hc ?_
      refine jr_aload_n jf_215_170 rfl hl0 ?_
      replace h := obd_of h; obtain ⟨x41, hx41, h⟩ := h
      refine jr_getA jf_215_171 hx41 ?_
      refine jr_iload jf_215_174 hl7 ?_
      replace h := obd_of h; obtain ⟨a42, rfl, h⟩ := h
      replace h := obd_of h; obtain ⟨x43, hx43, h⟩ := h
      refine jr_iaload jf_215_176 hx43 ?_
      refine jr_aload_n jf_215_177 rfl hl0 ?_
      replace h := obd_of h; obtain ⟨x44, hx44, h⟩ := h
      refine jr_getI jf_215_178 hx44 ?_
      replace h := ite_or h; rcases h with ⟨hc, h⟩ | ⟨hc, h⟩
      · refine jr_if2_eq_t jf_215_181 hc ?_
        refine jr_aload_n jf_215_187 rfl hl0 ?_
        refine jr_iload jf_215_188 hl6 ?_
        replace h := jgd_of h; obtain ⟨hb45, h⟩ := h
        replace h := obd_of h; obtain ⟨μ46, hμ46, h⟩ := h
        refine jr_V6v_1 jf_215_190 hb45 (by omega) (r_R_begins (by omega) _ _ _ _ hμ46) (Nat.le_of_ble_eq_true rfl) jml_217 (Nat.le_of_ble_eq_true rfl) ?_
        refine jr_aload_n jf_215_193 rfl hl0 ?_
        refine jr_aload_n jf_215_194 rfl hl0 ?_
        replace h := obd_of h; obtain ⟨x47, hx47, h⟩ := h
        refine jr_getD jf_215_195 hx47 ?_
        refine jr_iconst jf_215_198 jc_i_0 ?_
        replace h := jgd_of h; obtain ⟨hb48, h⟩ := h
        replace h := obd_of h; obtain ⟨μ49, hμ49, h⟩ := h
        refine jr_V6v_2 jf_215_199 hb48 (by omega) (r_R_term_2 (by omega) _ _ _ _ _ hμ49) (Nat.le_of_ble_eq_true rfl) jml_226 (Nat.le_of_ble_eq_true rfl) ?_
        refine jr_aload_n jf_215_202 rfl hl0 ?_
        refine jr_aload_n jf_215_203 rfl hl0 ?_
        replace h := obd_of h; obtain ⟨x50, hx50, h⟩ := h
        refine jr_getA jf_215_204 hx50 ?_
        refine jr_iload jf_215_207 hl7 ?_
        replace h := obd_of h; obtain ⟨a51, rfl, h⟩ := h
        replace h := obd_of h; obtain ⟨x52, hx52, h⟩ := h
        refine jr_daload jf_215_209 hx52 ?_
        refine jr_aload_n jf_215_210 rfl hl0 ?_
        replace h := obd_of h; obtain ⟨x53, hx53, h⟩ := h
        refine jr_getA jf_215_211 hx53 ?_
        refine jr_bipush jf_215_214 jc_b_64 ?_
        refine jr_iload jf_215_216 hl7 ?_
        refine jr_imul jf_215_218 ?_
        refine jr_aload_n jf_215_219 rfl hl0 ?_
        replace h := obd_of h; obtain ⟨x54, hx54, h⟩ := h
        refine jr_getA jf_215_220 hx54 ?_
        refine jr_iload jf_215_223 hl7 ?_
        replace h := obd_of h; obtain ⟨a55, rfl, h⟩ := h
        replace h := obd_of h; obtain ⟨x56, hx56, h⟩ := h
        refine jr_iaload jf_215_225 hx56 ?_
        refine jr_iadd jf_215_226 ?_
        replace h := obd_of h; obtain ⟨a57, rfl, h⟩ := h
        replace h := obd_of h; obtain ⟨x58, hx58, h⟩ := h
        refine jr_daload jf_215_227 hx58 ?_
        refine jr_iconst jf_215_228 jc_i_0 ?_
        replace h := jgd_of h; obtain ⟨hb59, h⟩ := h
        replace h := obd_of h; obtain ⟨μ60, hμ60, h⟩ := h
        refine jr_V6v_3 jf_215_229 hb59 (by omega) (r_R_term (by omega) _ _ _ _ _ _ hμ60) (Nat.le_of_ble_eq_true rfl) jml_219 (Nat.le_of_ble_eq_true rfl) ?_
        refine jr_aload_n jf_215_232 rfl hl0 ?_
        refine jr_aload_n jf_215_233 rfl hl0 ?_
        replace h := jgd_of h; obtain ⟨hb61, h⟩ := h
        replace h := jbd2_of h; obtain ⟨x62, μ63, hx62, h⟩ := h
        refine jr_V6_0 jf_215_234 hb61 (by omega) (r_R_comes (by omega) _ _ _ _ hx62) (Nat.le_of_ble_eq_true rfl) jml_223 (Nat.le_of_ble_eq_true rfl) ?_
        replace h := obd_of h; obtain ⟨μ64, hμ64, h⟩ := h
        refine jr_putD jf_215_237 rfl hμ64 ?_
        exact r_R_goes_240 hd i26 ih _ _ _ _ _ _ _ _ _ _ hl0 hl1 hl4 hl5 hl6 hl7 h
      · refine jr_if2_eq_f jf_215_181 hc ?_
        refine jr_goto jf_215_184 ?_
        exact r_R_goes_240 hd i26 ih _ _ _ _ _ _ _ _ _ _ hl0 hl1 hl4 hl5 hl6 hl7 h
set_option maxRecDepth 10000 in
set_option maxHeartbeats 4000000 in
theorem r_R_goes_26 {N B : Nat} {SA : Nat → Nat} {d : Nat} (hd : 5 ≤ d) : ∀ (n : Nat), ∀ (L : JLoc) (v0 : Nat) (v1 : Int32) (v4 : Int32) (v5 : Bool) (μ : JMem) (r : Int32) (μ9 : JMem), jget L 0 = .ref v0 → jget L 1 = .int v1 → jget L 4 = .int v4 → jget L 5 = .int (jb v5) → g_R_goes_26 N B n v0 v1 v4 v5 μ = some (r, μ9) → jR B SA d m_R_goes 26 L [] μ (some (.int r)) μ9 := by
  intro n
  induction n with
  | zero =>
    intro L v0 v1 v4 v5 μ r μ9 hl0 hl1 hl4 hl5 h
    unfold g_R_goes_26 at h
    cases h
  | succ n ih =>
    intro L v0 v1 v4 v5 μ r μ9 hl0 hl1 hl4 hl5 h
    unfold g_R_goes_26 at h
    refine jr_iload jf_215_26 hl5 ?_
    replace h := ite_or h; rcases h with ⟨hc, h⟩ | ⟨hc, h⟩
    · refine jr_ifz_eq_f jf_215_28 hc ?_
      refine jr_aload_n jf_215_31 rfl hl0 ?_
      replace h := obd_of h; obtain ⟨x1, hx1, h⟩ := h
      refine jr_getI jf_215_32 hx1 ?_
      refine jr_aload_n jf_215_35 rfl hl0 ?_
      replace h := obd_of h; obtain ⟨x2, hx2, h⟩ := h
      refine jr_getA jf_215_36 hx2 ?_
      refine jr_aload_n jf_215_39 rfl hl0 ?_
      replace h := obd_of h; obtain ⟨x3, hx3, h⟩ := h
      refine jr_getI jf_215_40 hx3 ?_
      replace h := obd_of h; obtain ⟨a4, rfl, h⟩ := h
      replace h := obd_of h; obtain ⟨x5, hx5, h⟩ := h
      refine jr_iaload jf_215_43 hx5 ?_
      replace h := ite_or h; rcases h with ⟨hc, h⟩ | ⟨hc, h⟩
      · refine jr_if2_ne_f jf_215_44 hc ?_
        refine jr_aload_n jf_215_47 rfl hl0 ?_
        replace h := obd_of h; obtain ⟨x6, hx6, h⟩ := h
        refine jr_getA jf_215_48 hx6 ?_
        refine jr_sipush jf_215_51 jc_s_400 ?_
        refine jr_aload_n jf_215_54 rfl hl0 ?_
        replace h := obd_of h; obtain ⟨x7, hx7, h⟩ := h
        refine jr_getI jf_215_55 hx7 ?_
        refine jr_imul jf_215_58 ?_
        refine jr_aload_n jf_215_59 rfl hl0 ?_
        replace h := obd_of h; obtain ⟨x8, hx8, h⟩ := h
        refine jr_getA jf_215_60 hx8 ?_
        refine jr_aload_n jf_215_63 rfl hl0 ?_
        replace h := obd_of h; obtain ⟨x9, hx9, h⟩ := h
        refine jr_getI jf_215_64 hx9 ?_
        replace h := obd_of h; obtain ⟨a10, rfl, h⟩ := h
        replace h := obd_of h; obtain ⟨x11, hx11, h⟩ := h
        refine jr_iaload jf_215_67 hx11 ?_
        refine jr_ldc jf_215_68 ?_
        refine jr_iand jf_215_70 ?_
        refine jr_sipush jf_215_71 jc_s_400 ?_
        refine jr_irem jf_215_74 (by simp only [jremI]; exact if_neg (by decide)) ?_
        refine jr_iadd jf_215_75 ?_
        refine jr_aload_n jf_215_76 rfl hl0 ?_
        replace h := obd_of h; obtain ⟨x12, hx12, h⟩ := h
        refine jr_getD jf_215_77 hx12 ?_
        replace h := obd_of h; obtain ⟨a13, rfl, h⟩ := h
        replace h := obd_of h; obtain ⟨μ14, hμ14, h⟩ := h
        refine jr_dastore jf_215_80 hμ14 ?_
        refine jr_aload_n jf_215_81 rfl hl0 ?_
        replace h := obd_of h; obtain ⟨x15, hx15, h⟩ := h
        refine jr_getA jf_215_82 hx15 ?_
        refine jr_aload_n jf_215_85 rfl hl0 ?_
        replace h := obd_of h; obtain ⟨x16, hx16, h⟩ := h
        refine jr_getI jf_215_86 hx16 ?_
        refine jr_dup2_1 jf_215_89 rfl (rv_cat _) ?_
        replace h := obd_of h; obtain ⟨a17, rfl, h⟩ := h
        replace h := obd_of h; obtain ⟨x18, hx18, h⟩ := h
        refine jr_iaload jf_215_90 hx18 ?_
        refine jr_iconst jf_215_91 jc_i_1 ?_
        refine jr_iadd jf_215_92 ?_
        replace h := obd_of h; obtain ⟨μ19, hμ19, h⟩ := h
        refine jr_iastore jf_215_93 hμ19 ?_
        refine jr_aload_n jf_215_94 rfl hl0 ?_
        refine jr_aload_n jf_215_95 rfl hl0 ?_
        replace h := obd_of h; obtain ⟨x20, hx20, h⟩ := h
        refine jr_getD jf_215_96 hx20 ?_
        replace h := obd_of h; obtain ⟨μ21, hμ21, h⟩ := h
        refine jr_putD jf_215_99 rfl hμ21 ?_
        refine jr_aload_n jf_215_102 rfl hl0 ?_
        replace h := obd_of h; obtain ⟨x22, hx22, h⟩ := h
        refine jr_getI jf_215_103 hx22 ?_
        refine jr_iload_n jf_215_106 rfl hl1 ?_
        replace h := ite_or h; rcases h with ⟨hc, h⟩ | ⟨hc, h⟩
        · refine jr_if2_ne_f jf_215_107 hc ?_
          refine jr_iinc jf_215_110 jc_i_1 jml_215 (by decide) hl4 ?_
          exact r_R_goes_113 hd ih _ _ _ _ _ _ _ (jg1_ne rfl hl0) (jg1_ne rfl hl1) jg1_same h
        · refine jr_if2_ne_t jf_215_107 hc ?_
          exact r_R_goes_113 hd ih _ _ _ _ _ _ _ hl0 hl1 hl4 h
      · refine jr_if2_ne_t jf_215_44 hc ?_
        refine jr_aload_n jf_215_122 rfl hl0 ?_
        replace h := obd_of h; obtain ⟨x23, hx23, h⟩ := h
        refine jr_getA jf_215_123 hx23 ?_
        refine jr_bipush jf_215_126 jc_b_10 ?_
        refine jr_aload_n jf_215_128 rfl hl0 ?_
        replace h := obd_of h; obtain ⟨x24, hx24, h⟩ := h
        refine jr_getI jf_215_129 hx24 ?_
        refine jr_imul jf_215_132 ?_
        refine jr_aload_n jf_215_133 rfl hl0 ?_
        replace h := obd_of h; obtain ⟨x25, hx25, h⟩ := h
        refine jr_getI jf_215_134 hx25 ?_
        refine jr_iadd jf_215_137 ?_
        replace h := obd_of h; obtain ⟨a26, rfl, h⟩ := h
        replace h := obd_of h; obtain ⟨x27, hx27, h⟩ := h
        refine jr_iaload jf_215_138 hx27 ?_
        refine jr_istore jf_215_139 jml_215 (by decide) ?_
        refine jr_iconst jf_215_141 jc_i_3 ?_
        refine jr_aload_n jf_215_142 rfl (jg1_ne rfl hl0) ?_
        replace h := obd_of h; obtain ⟨x28, hx28, h⟩ := h
        refine jr_getI jf_215_143 hx28 ?_
        refine jr_imul jf_215_146 ?_
        refine jr_istore jf_215_147 jml_215 (by decide) ?_
        exact r_R_goes_149 hd ih _ _ _ _ _ _ _ _ _ _ _ (jg1_ne rfl (jg1_ne rfl hl0)) (jg1_ne rfl (jg1_ne rfl hl1)) (jg1_ne rfl (jg1_ne rfl hl4)) (jg1_ne rfl (jg1_pre rfl hl5)) (jg1_pre rfl jg1_same) jg1_same h
    · refine jr_ifz_eq_t jf_215_28 hc ?_
      refine jr_iload jf_215_433 hl4 ?_
      obtain ⟨rfl, rfl⟩ := Prod.mk.inj (Option.some.inj h)
      exact jr_retI jf_215_435 jmt_215
set_option maxRecDepth 10000 in
set_option maxHeartbeats 4000000 in
theorem r_R_goes_e {N B : Nat} {SA : Nat → Nat} {d : Nat} (hd : 5 ≤ d) : ∀ (L : JLoc) (v0 : Nat) (v1 : Int32) (v2 : UInt64) (μ : JMem) (r : Int32) (μ9 : JMem), jget L 0 = .ref v0 → jget L 1 = .int v1 → jget L 2 = .double v2 → g_R_goes N B v0 v1 v2 μ = some (r, μ9) → jR B SA d m_R_goes 0 L [] μ (some (.int r)) μ9 := by
  intro L v0 v1 v2 μ r μ9 hl0 hl1 hl2 h
  unfold g_R_goes at h
  refine jr_iconst jf_215_0 jc_i_0 ?_
  refine jr_istore jf_215_1 jml_215 (by decide) ?_
  refine jr_aload_n jf_215_3 rfl (jg1_ne rfl hl0) ?_
  refine jr_iconst jf_215_4 jc_i_0 ?_
  replace h := obd_of h; obtain ⟨μ1, hμ1, h⟩ := h
  refine jr_putI jf_215_5 rfl hμ1 ?_
  refine jr_aload_n jf_215_8 rfl (jg1_ne rfl hl0) ?_
  refine jr_iload_n jf_215_9 rfl (jg1_ne rfl hl1) ?_
  replace h := obd_of h; obtain ⟨μ2, hμ2, h⟩ := h
  refine jr_putI jf_215_10 rfl hμ2 ?_
  refine jr_aload_n jf_215_13 rfl (jg1_ne rfl hl0) ?_
  refine jr_iconst jf_215_14 jc_i_0 ?_
  replace h := obd_of h; obtain ⟨μ3, hμ3, h⟩ := h
  refine jr_putI jf_215_15 rfl hμ3 ?_
  refine jr_aload_n jf_215_18 rfl (jg1_ne rfl hl0) ?_
  refine jr_dload_n jf_215_19 rfl (jg1_ne rfl hl2) ?_
  replace h := obd_of h; obtain ⟨μ4, hμ4, h⟩ := h
  refine jr_putD jf_215_20 rfl hμ4 ?_
  refine jr_iconst jf_215_23 jc_i_1 ?_
  refine jr_istore jf_215_24 jml_215 (by decide) ?_
  exact r_R_goes_26 hd _ _ _ _ _ true _ _ _ (jg1_ne rfl (jg1_ne rfl hl0)) (jg1_ne rfl (jg1_ne rfl hl1)) (jg1_pre rfl jg1_same) jg1_same h
set_option maxRecDepth 10000 in
set_option maxHeartbeats 4000000 in
theorem r_R_goes {N B : Nat} {SA : Nat → Nat} {d : Nat} (hd : 5 ≤ d) : ∀ (v0 : Nat) (v1 : Int32) (v2 : UInt64) (μ : JMem) (r : Int32) (μ9 : JMem), g_R_goes N B v0 v1 v2 μ = some (r, μ9) → jR B SA d m_R_goes 0 (lv_args 0 [.ref v0, .int v1, .double v2]) [] μ (some (.int r)) μ9 := by
  intro v0 v1 v2 μ r μ9 h
  exact r_R_goes_e hd (lv_args 0 _) _ _ _ _ _ _ (by simp [lv_args, jget, rv_cat, cat_int, cat_long, cat_double, cat_float, cat_ref]) (by simp [lv_args, jget, rv_cat, cat_int, cat_long, cat_double, cat_float, cat_ref]) (by simp [lv_args, jget, rv_cat, cat_int, cat_long, cat_double, cat_float, cat_ref]) h
/-! FilterBenchModel.isFed(I)Z -/
set_option maxRecDepth 10000 in
set_option maxHeartbeats 4000000 in
theorem r_R_isFed_e {B : Nat} {SA : Nat → Nat} {d : Nat} (hd : 2 ≤ d) : ∀ (L : JLoc) (v0 : Nat) (v1 : Int32) (μ : JMem) (r : Bool), jget L 0 = .ref v0 → jget L 1 = .int v1 → g_R_isFed v0 v1 μ.1 = some r → jR B SA d m_R_isFed 0 L [] μ (some (.int (jb r))) μ := by
  intro L v0 v1 μ r hl0 hl1 h
  unfold g_R_isFed at h
  refine jr_aload_n jf_214_0 rfl hl0 ?_
  refine jr_iload_n jf_214_1 rfl hl1 ?_
  replace h := jgd_of h; obtain ⟨hb1, h⟩ := h
  replace h := obd_of h; obtain ⟨x2, hx2, h⟩ := h
  refine jr_V6_1 jf_214_2 hb1 (by omega) (r_R_isChain (by omega) _ _ _ _ hx2) (Nat.le_of_ble_eq_true rfl) jml_206 (Nat.le_of_ble_eq_true rfl) ?_
  replace h := ite_or h; rcases h with ⟨hc, h⟩ | ⟨hc, h⟩
  · refine jr_ifz_eq_f jf_214_5 hc ?_
    refine jr_aload_n jf_214_8 rfl hl0 ?_
    replace h := obd_of h; obtain ⟨x3, hx3, h⟩ := h
    refine jr_getA jf_214_9 hx3 ?_
    refine jr_iload_n jf_214_12 rfl hl1 ?_
    replace h := obd_of h; obtain ⟨a4, rfl, h⟩ := h
    replace h := obd_of h; obtain ⟨x5, hx5, h⟩ := h
    refine jr_iaload jf_214_13 hx5 ?_
    replace h := ite_or h; rcases h with ⟨hc, h⟩ | ⟨hc, h⟩
    · refine jr_if_le_t jf_214_14 hc ?_
      refine jr_iconst jf_214_31 jc_i_0 ?_
      obtain rfl := Option.some.inj h
      exact jr_retZ (x := false) jf_214_32 jmt_214
    · refine jr_if_le_f jf_214_14 hc ?_
      refine jr_aload_n jf_214_17 rfl hl0 ?_
      replace h := obd_of h; obtain ⟨x6, hx6, h⟩ := h
      refine jr_getA jf_214_18 hx6 ?_
      refine jr_iload_n jf_214_21 rfl hl1 ?_
      replace h := obd_of h; obtain ⟨a7, rfl, h⟩ := h
      replace h := obd_of h; obtain ⟨x8, hx8, h⟩ := h
      refine jr_iaload jf_214_22 hx8 ?_
      refine jr_iconst jf_214_23 jc_i_m1 ?_
      replace h := ite_or h; rcases h with ⟨hc, h⟩ | ⟨hc, h⟩
      · refine jr_if2_ne_f jf_214_24 hc ?_
        refine jr_iconst jf_214_27 jc_i_1 ?_
        refine jr_goto jf_214_28 ?_
        obtain rfl := Option.some.inj h
        exact jr_retZ (x := true) jf_214_32 jmt_214
      · refine jr_if2_ne_t jf_214_24 hc ?_
        refine jr_iconst jf_214_31 jc_i_0 ?_
        obtain rfl := Option.some.inj h
        exact jr_retZ (x := false) jf_214_32 jmt_214
  · refine jr_ifz_eq_t jf_214_5 hc ?_
    refine jr_iconst jf_214_31 jc_i_0 ?_
    obtain rfl := Option.some.inj h
    exact jr_retZ (x := false) jf_214_32 jmt_214
set_option maxRecDepth 10000 in
set_option maxHeartbeats 4000000 in
theorem r_R_isFed {B : Nat} {SA : Nat → Nat} {d : Nat} (hd : 2 ≤ d) : ∀ (v0 : Nat) (v1 : Int32) (μ : JMem) (r : Bool), g_R_isFed v0 v1 μ.1 = some r → jR B SA d m_R_isFed 0 (lv_args 0 [.ref v0, .int v1]) [] μ (some (.int (jb r))) μ := by
  intro v0 v1 μ r h
  exact r_R_isFed_e hd (lv_args 0 _) _ _ _ _ (by simp [lv_args, jget, rv_cat, cat_int, cat_long, cat_double, cat_float, cat_ref]) (by simp [lv_args, jget, rv_cat, cat_int, cat_long, cat_double, cat_float, cat_ref]) h
/-! FilterBenchModel.feed(IJ)I -/
set_option maxRecDepth 10000 in
set_option maxHeartbeats 4000000 in
theorem r_R_feed_e {N B : Nat} {SA : Nat → Nat} {d : Nat} (hd : 6 ≤ d) : ∀ (L : JLoc) (v0 : Nat) (v1 : Int32) (v2 : Int64) (μ : JMem) (r : Int32) (μ9 : JMem), jget L 0 = .ref v0 → jget L 1 = .int v1 → jget L 2 = .long v2 → g_R_feed N B v0 v1 v2 μ = some (r, μ9) → jR B SA d m_R_feed 0 L [] μ (some (.int r)) μ9 := by
  intro L v0 v1 v2 μ r μ9 hl0 hl1 hl2 h
  unfold g_R_feed at h
  refine jr_aload_n jf_213_0 rfl hl0 ?_
  refine jr_iload_n jf_213_1 rfl hl1 ?_
  replace h := jgd_of h; obtain ⟨hb1, h⟩ := h
  replace h := obd_of h; obtain ⟨x2, hx2, h⟩ := h
  refine jr_V6_1 jf_213_2 hb1 (by omega) (r_R_isFed (by omega) _ _ _ _ hx2) (Nat.le_of_ble_eq_true rfl) jml_214 (Nat.le_of_ble_eq_true rfl) ?_
  replace h := ite_or h; rcases h with ⟨hc, h⟩ | ⟨hc, h⟩
  · refine jr_ifz_eq_f jf_213_5 hc ?_
    refine jr_aload_n jf_213_8 rfl hl0 ?_
    refine jr_iload_n jf_213_9 rfl hl1 ?_
    replace h := jgd_of h; obtain ⟨hb3, h⟩ := h
    replace h := obd_of h; obtain ⟨x4, hx4, h⟩ := h
    refine jr_V6_1 jf_213_10 hb3 (by omega) (r_R_sortOf (by omega) _ _ _ _ hx4) (Nat.le_of_ble_eq_true rfl) jml_207 (Nat.le_of_ble_eq_true rfl) ?_
    refine jr_lload_n jf_213_13 rfl hl2 ?_
    refine jr_S3_2 jf_213_14 (by omega) (r_R_isValue (by omega) _ _ _ _ rfl) (Nat.le_of_ble_eq_true rfl) jml_197 (Nat.le_of_ble_eq_true rfl) ?_
    replace h := ite_or h; rcases h with ⟨hc, h⟩ | ⟨hc, h⟩
    · refine jr_ifz_ne_t jf_213_17 hc ?_
      refine jr_aload_n jf_213_22 rfl hl0 ?_
      refine jr_iload_n jf_213_23 rfl hl1 ?_
      refine jr_aload_n jf_213_24 rfl hl0 ?_
      refine jr_iload_n jf_213_25 rfl hl1 ?_
      replace h := jgd_of h; obtain ⟨hb5, h⟩ := h
      replace h := obd_of h; obtain ⟨x6, hx6, h⟩ := h
      refine jr_V6_1 jf_213_26 hb5 (by omega) (r_R_sortOf (by omega) _ _ _ _ hx6) (Nat.le_of_ble_eq_true rfl) jml_207 (Nat.le_of_ble_eq_true rfl) ?_
      refine jr_lload_n jf_213_29 rfl hl2 ?_
      replace h := obd_of h; obtain ⟨x7, hx7, h⟩ := h
      refine jr_S3_2 jf_213_30 (by omega) (r_R_valueOf (by omega) _ _ _ _ hx7) (Nat.le_of_ble_eq_true rfl) jml_198 (Nat.le_of_ble_eq_true rfl) ?_
      replace h := jgd_of h; obtain ⟨hb8, h⟩ := h
      replace h := jbd2_of h; obtain ⟨x9, μ10, hx9, h⟩ := h
      refine jr_V6_2 jf_213_33 hb8 (by omega) (r_R_goes (by omega) _ _ _ _ _ _ hx9) (Nat.le_of_ble_eq_true rfl) jml_215 (Nat.le_of_ble_eq_true rfl) ?_
      obtain ⟨rfl, rfl⟩ := Prod.mk.inj (Option.some.inj h)
      exact jr_retI jf_213_36 jmt_213
    · refine jr_ifz_ne_f jf_213_17 hc ?_
      refine jr_iconst jf_213_20 jc_i_m1 ?_
      obtain ⟨rfl, rfl⟩ := Prod.mk.inj (Option.some.inj h)
      exact jr_retI jf_213_21 jmt_213
  · refine jr_ifz_eq_t jf_213_5 hc ?_
    refine jr_iconst jf_213_20 jc_i_m1 ?_
    obtain ⟨rfl, rfl⟩ := Prod.mk.inj (Option.some.inj h)
    exact jr_retI jf_213_21 jmt_213
set_option maxRecDepth 10000 in
set_option maxHeartbeats 4000000 in
theorem r_R_feed {N B : Nat} {SA : Nat → Nat} {d : Nat} (hd : 6 ≤ d) : ∀ (v0 : Nat) (v1 : Int32) (v2 : Int64) (μ : JMem) (r : Int32) (μ9 : JMem), g_R_feed N B v0 v1 v2 μ = some (r, μ9) → jR B SA d m_R_feed 0 (lv_args 0 [.ref v0, .int v1, .long v2]) [] μ (some (.int r)) μ9 := by
  intro v0 v1 v2 μ r μ9 h
  exact r_R_feed_e hd (lv_args 0 _) _ _ _ _ _ _ (by simp [lv_args, jget, rv_cat, cat_int, cat_long, cat_double, cat_float, cat_ref]) (by simp [lv_args, jget, rv_cat, cat_int, cat_long, cat_double, cat_float, cat_ref]) (by simp [lv_args, jget, rv_cat, cat_int, cat_long, cat_double, cat_float, cat_ref]) h
/-! FilterBenchModel.run(III)I -/
set_option maxRecDepth 10000 in
set_option maxHeartbeats 4000000 in
theorem r_R_run_65 {N B : Nat} {SA : Nat → Nat} {d : Nat} (hd : 6 ≤ d) {k29 : Nat → Int32 → Int32 → Int32 → Int32 → Int32 → JMem → Option (Int32 × JMem)} (i29 : ∀ (L : JLoc) (v0 : Nat) (v1 : Int32) (v2 : Int32) (v4 : Int32) (v5 : Int32) (v6 : Int32) (μ : JMem) (r : Int32) (μ9 : JMem), jget L 0 = .ref v0 → jget L 1 = .int v1 → jget L 2 = .int v2 → jget L 4 = .int v4 → jget L 5 = .int v5 → jget L 6 = .int v6 → k29 v0 v1 v2 v4 v5 v6 μ = some (r, μ9) → jR B SA d m_R_run 29 L [] μ (some (.int r)) μ9) : ∀ (L : JLoc) (v0 : Nat) (v1 : Int32) (v2 : Int32) (v5 : Int32) (v6 : Int32) (s0 : UInt64) (s1 : Int32) (s2 : Nat) (s3 : Int32) (μ : JMem) (r : Int32) (μ9 : JMem), jget L 0 = .ref v0 → jget L 1 = .int v1 → jget L 2 = .int v2 → jget L 5 = .int v5 → jget L 6 = .int v6 → g_R_run_65 N B k29 v0 v1 v2 v5 v6 s0 s1 s2 s3 μ = some (r, μ9) → jR B SA d m_R_run 65 L [.double s0, .int s1, .ref s2, .int s3] μ (some (.int r)) μ9 := by
  intro L v0 v1 v2 v5 v6 s0 s1 s2 s3 μ r μ9 hl0 hl1 hl2 hl5 hl6 h
  unfold g_R_run_65 at h
  replace h := jgd_of h; obtain ⟨hb1, h⟩ := h
  replace h := jbd2_of h; obtain ⟨x2, μ3, hx2, h⟩ := h
  refine jr_V6_2 jf_234_65 hb1 (by omega) (r_R_goes (by omega) _ _ _ _ _ _ hx2) (Nat.le_of_ble_eq_true rfl) jml_215 (Nat.le_of_ble_eq_true rfl) ?_
  refine jr_iadd jf_234_68 ?_
  refine jr_istore jf_234_69 jml_234 (by decide) ?_
  refine jr_iload jf_234_71 (jg1_ne rfl hl5) ?_
  refine jr_ldc_w jf_234_73 ?_
  refine jr_imul jf_234_76 ?_
  refine jr_sipush jf_234_77 jc_s_12345 ?_
  refine jr_iadd jf_234_80 ?_
  refine jr_istore jf_234_81 jml_234 (by decide) ?_
  replace h := jlet_of h
  refine jr_iinc jf_234_83 jc_i_1 jml_234 (by decide) (jg1_ne rfl (jg1_ne rfl hl6)) ?_
  refine jr_goto jf_234_86 ?_
  exact i29 _ _ _ _ _ _ _ _ _ _ (jg1_ne rfl (jg1_ne rfl (jg1_ne rfl hl0))) (jg1_ne rfl (jg1_ne rfl (jg1_ne rfl hl1))) (jg1_ne rfl (jg1_ne rfl (jg1_ne rfl hl2))) (jg1_ne rfl (jg1_pre rfl jg1_same)) (jg1_pre rfl jg1_same) jg1_same h
set_option maxRecDepth 10000 in
set_option maxHeartbeats 4000000 in
theorem r_R_run_29 {N B : Nat} {SA : Nat → Nat} {d : Nat} (hd : 6 ≤ d) : ∀ (n : Nat), ∀ (L : JLoc) (v0 : Nat) (v1 : Int32) (v2 : Int32) (v4 : Int32) (v5 : Int32) (v6 : Int32) (μ : JMem) (r : Int32) (μ9 : JMem), jget L 0 = .ref v0 → jget L 1 = .int v1 → jget L 2 = .int v2 → jget L 4 = .int v4 → jget L 5 = .int v5 → jget L 6 = .int v6 → g_R_run_29 N B n v0 v1 v2 v4 v5 v6 μ = some (r, μ9) → jR B SA d m_R_run 29 L [] μ (some (.int r)) μ9 := by
  intro n
  induction n with
  | zero =>
    intro L v0 v1 v2 v4 v5 v6 μ r μ9 hl0 hl1 hl2 hl4 hl5 hl6 h
    unfold g_R_run_29 at h
    cases h
  | succ n ih =>
    intro L v0 v1 v2 v4 v5 v6 μ r μ9 hl0 hl1 hl2 hl4 hl5 hl6 h
    unfold g_R_run_29 at h
    refine jr_iload jf_234_29 hl6 ?_
    refine jr_iload_n jf_234_31 rfl hl2 ?_
    replace h := ite_or h; rcases h with ⟨hc, h⟩ | ⟨hc, h⟩
    · refine jr_if2_ge_t jf_234_32 hc ?_
      refine jr_iload jf_234_89 hl4 ?_
      obtain ⟨rfl, rfl⟩ := Prod.mk.inj (Option.some.inj h)
      exact jr_retI jf_234_91 jmt_234
    · refine jr_if2_ge_f jf_234_32 hc ?_
      refine jr_iload jf_234_35 hl5 ?_
      refine jr_i2s jf_234_37 ?_
      refine jr_i2d jf_234_38 ?_
      refine jr_dstore jf_234_39 jml_234 (by decide) ?_
      replace h := jlet_of h
      refine jr_iload jf_234_41 (jg2_ne rfl hl4) ?_
      refine jr_aload_n jf_234_43 rfl (jg2_ne rfl hl0) ?_
      refine jr_iload_n jf_234_44 rfl (jg2_ne rfl hl1) ?_
      refine jr_aload_n jf_234_45 rfl (jg2_ne rfl hl0) ?_
      refine jr_iload_n jf_234_46 rfl (jg2_ne rfl hl1) ?_
      replace h := jgd_of h; obtain ⟨hb2, h⟩ := h
      replace h := obd_of h; obtain ⟨x3, hx3, h⟩ := h
      refine jr_V6_1 jf_234_47 hb2 (by omega) (r_R_sortOf (by omega) _ _ _ _ hx3) (Nat.le_of_ble_eq_true rfl) jml_207 (Nat.le_of_ble_eq_true rfl) ?_
      refine jr_iconst jf_234_50 jc_i_2 ?_
      replace h := ite_or h; rcases h with ⟨hc, h⟩ | ⟨hc, h⟩
      · refine jr_if2_ne_f jf_234_51 hc ?_
        refine jr_dload jf_234_54 jg2_same ?_
        refine jr_goto jf_234_56 ?_
        exact r_R_run_65 hd ih _ _ _ _ _ _ _ _ _ _ _ _ _ (jg2_ne rfl hl0) (jg2_ne rfl hl1) (jg2_ne rfl hl2) (jg2_ne rfl hl5) (jg2_pre rfl hl6) h
      · refine jr_if2_ne_t jf_234_51 hc ?_
        refine jr_dload jf_234_59 jg2_same ?_
        refine jr_ldc2d jf_234_61 ?_
        replace h := obd_of h; obtain ⟨x4, hx4, h⟩ := h
        refine jr_ddiv jf_234_64 hx4 ?_
        exact r_R_run_65 hd ih _ _ _ _ _ _ _ _ _ _ _ _ _ (jg2_ne rfl hl0) (jg2_ne rfl hl1) (jg2_ne rfl hl2) (jg2_ne rfl hl5) (jg2_pre rfl hl6) h
set_option maxRecDepth 10000 in
set_option maxHeartbeats 4000000 in
theorem r_R_run_e {N B : Nat} {SA : Nat → Nat} {d : Nat} (hd : 6 ≤ d) : ∀ (L : JLoc) (v0 : Nat) (v1 : Int32) (v2 : Int32) (v3 : Int32) (μ : JMem) (r : Int32) (μ9 : JMem), jget L 0 = .ref v0 → jget L 1 = .int v1 → jget L 2 = .int v2 → jget L 3 = .int v3 → g_R_run N B v0 v1 v2 v3 μ = some (r, μ9) → jR B SA d m_R_run 0 L [] μ (some (.int r)) μ9 := by
  intro L v0 v1 v2 v3 μ r μ9 hl0 hl1 hl2 hl3 h
  unfold g_R_run at h
  refine jr_aload_n jf_234_0 rfl hl0 ?_
  refine jr_iload_n jf_234_1 rfl hl1 ?_
  replace h := jgd_of h; obtain ⟨hb1, h⟩ := h
  replace h := obd_of h; obtain ⟨x2, hx2, h⟩ := h
  refine jr_V6_1 jf_234_2 hb1 (by omega) (r_R_isFed (by omega) _ _ _ _ hx2) (Nat.le_of_ble_eq_true rfl) jml_214 (Nat.le_of_ble_eq_true rfl) ?_
  replace h := ite_or h; rcases h with ⟨hc, h⟩ | ⟨hc, h⟩
  · refine jr_ifz_eq_f jf_234_5 hc ?_
    refine jr_iload_n jf_234_8 rfl hl2 ?_
    refine jr_iconst jf_234_9 jc_i_1 ?_
    refine jr_bipush jf_234_10 jc_b_100 ?_
    refine jr_S3_3 jf_234_12 (by omega) (r_R_in (by omega) _ _ _ _ _ rfl) (Nat.le_of_ble_eq_true rfl) jml_189 (Nat.le_of_ble_eq_true rfl) ?_
    replace h := ite_or h; rcases h with ⟨hc, h⟩ | ⟨hc, h⟩
    · refine jr_ifz_ne_t jf_234_15 hc ?_
      refine jr_iconst jf_234_20 jc_i_0 ?_
      refine jr_istore jf_234_21 jml_234 (by decide) ?_
      refine jr_iload_n jf_234_23 rfl (jg1_pre rfl hl3) ?_
      refine jr_istore jf_234_24 jml_234 (by decide) ?_
      refine jr_iconst jf_234_26 jc_i_0 ?_
      refine jr_istore jf_234_27 jml_234 (by decide) ?_
      exact r_R_run_29 hd _ _ _ _ _ _ _ _ _ _ _ (jg1_ne rfl (jg1_ne rfl (jg1_ne rfl hl0))) (jg1_ne rfl (jg1_ne rfl (jg1_ne rfl hl1))) (jg1_ne rfl (jg1_ne rfl (jg1_ne rfl hl2))) (jg1_ne rfl (jg1_pre rfl jg1_same)) (jg1_pre rfl jg1_same) jg1_same h
    · refine jr_ifz_ne_f jf_234_15 hc ?_
      refine jr_iconst jf_234_18 jc_i_m1 ?_
      obtain ⟨rfl, rfl⟩ := Prod.mk.inj (Option.some.inj h)
      exact jr_retI jf_234_19 jmt_234
  · refine jr_ifz_eq_t jf_234_5 hc ?_
    refine jr_iconst jf_234_18 jc_i_m1 ?_
    obtain ⟨rfl, rfl⟩ := Prod.mk.inj (Option.some.inj h)
    exact jr_retI jf_234_19 jmt_234
set_option maxRecDepth 10000 in
set_option maxHeartbeats 4000000 in
theorem r_R_run {N B : Nat} {SA : Nat → Nat} {d : Nat} (hd : 6 ≤ d) : ∀ (v0 : Nat) (v1 : Int32) (v2 : Int32) (v3 : Int32) (μ : JMem) (r : Int32) (μ9 : JMem), g_R_run N B v0 v1 v2 v3 μ = some (r, μ9) → jR B SA d m_R_run 0 (lv_args 0 [.ref v0, .int v1, .int v2, .int v3]) [] μ (some (.int r)) μ9 := by
  intro v0 v1 v2 v3 μ r μ9 h
  exact r_R_run_e hd (lv_args 0 _) _ _ _ _ _ _ _ (by simp [lv_args, jget, rv_cat, cat_int, cat_long, cat_double, cat_float, cat_ref]) (by simp [lv_args, jget, rv_cat, cat_int, cat_long, cat_double, cat_float, cat_ref]) (by simp [lv_args, jget, rv_cat, cat_int, cat_long, cat_double, cat_float, cat_ref]) (by simp [lv_args, jget, rv_cat, cat_int, cat_long, cat_double, cat_float, cat_ref]) h
/-! java/lang/Double.isNaN(D)Z -/
set_option maxRecDepth 10000 in
set_option maxHeartbeats 4000000 in
theorem r_JDouble_isNaN_e {B : Nat} {SA : Nat → Nat} {d : Nat} (hd : 0 ≤ d) : ∀ (L : JLoc) (v0 : UInt64) (μ : JMem) (r : Bool), jget L 0 = .double v0 → g_JDouble_isNaN v0 = r → jR B SA d m_JDouble_isNaN 0 L [] μ (some (.int (jb r))) μ := by
  intro L v0 μ r hl0 h
  unfold g_JDouble_isNaN at h
  refine jr_dload_n jf_239_0 rfl hl0 ?_
  refine jr_dload_n jf_239_1 rfl hl0 ?_
  refine jr_dcmp jf_239_2 ?_
  replace h := ite_or h; rcases h with ⟨hc, h⟩ | ⟨hc, h⟩
  · refine jr_if_eq_t jf_239_3 hc ?_
    refine jr_iconst jf_239_10 jc_i_0 ?_
    subst h
    exact jr_retZ (x := false) jf_239_11 jmt_239
  · refine jr_if_eq_f jf_239_3 hc ?_
    refine jr_iconst jf_239_6 jc_i_1 ?_
    refine jr_goto jf_239_7 ?_
    subst h
    exact jr_retZ (x := true) jf_239_11 jmt_239
set_option maxRecDepth 10000 in
set_option maxHeartbeats 4000000 in
theorem r_JDouble_isNaN {B : Nat} {SA : Nat → Nat} {d : Nat} (hd : 0 ≤ d) : ∀ (v0 : UInt64) (μ : JMem) (r : Bool), g_JDouble_isNaN v0 = r → jR B SA d m_JDouble_isNaN 0 (lv_args 0 [.double v0]) [] μ (some (.int (jb r))) μ := by
  intro v0 μ r h
  exact r_JDouble_isNaN_e hd (lv_args 0 _) _ _ _ (by simp [lv_args, jget, rv_cat, cat_int, cat_long, cat_double, cat_float, cat_ref]) h
/-! java/lang/Double.doubleToLongBits(D)J -/
set_option maxRecDepth 10000 in
set_option maxHeartbeats 4000000 in
theorem r_JDouble_doubleToLongBits_e {B : Nat} {SA : Nat → Nat} {d : Nat} (hd : 1 ≤ d) : ∀ (L : JLoc) (v0 : UInt64) (μ : JMem) (r : Int64), jget L 0 = .double v0 → g_JDouble_doubleToLongBits v0 = r → jR B SA d m_JDouble_doubleToLongBits 0 L [] μ (some (.long r)) μ := by
  intro L v0 μ r hl0 h
  unfold g_JDouble_doubleToLongBits at h
  refine jr_dload_n jf_238_0 rfl hl0 ?_
  refine jr_S3_1 jf_238_1 (by omega) (r_JDouble_isNaN (by omega) _ _ _ rfl) (Nat.le_of_ble_eq_true rfl) jml_239 (Nat.le_of_ble_eq_true rfl) ?_
  replace h := ite_or h; rcases h with ⟨hc, h⟩ | ⟨hc, h⟩
  · refine jr_ifz_ne_t jf_238_4 hc ?_
    refine jr_ldc2l jf_238_12 ?_
    subst h
    exact jr_retJ jf_238_15 jmt_238
  · refine jr_ifz_ne_f jf_238_4 hc ?_
    refine jr_dload_n jf_238_7 rfl hl0 ?_
    refine jr_d2ln jf_238_8 (by omega) (Nat.le_of_ble_eq_true rfl) ?_
    subst h
    exact jr_retJ jf_238_11 jmt_238
set_option maxRecDepth 10000 in
set_option maxHeartbeats 4000000 in
theorem r_JDouble_doubleToLongBits {B : Nat} {SA : Nat → Nat} {d : Nat} (hd : 1 ≤ d) : ∀ (v0 : UInt64) (μ : JMem) (r : Int64), g_JDouble_doubleToLongBits v0 = r → jR B SA d m_JDouble_doubleToLongBits 0 (lv_args 0 [.double v0]) [] μ (some (.long r)) μ := by
  intro v0 μ r h
  exact r_JDouble_doubleToLongBits_e hd (lv_args 0 _) _ _ _ (by simp [lv_args, jget, rv_cat, cat_int, cat_long, cat_double, cat_float, cat_ref]) h
/-! java/lang/Float.isNaN(F)Z -/
set_option maxRecDepth 10000 in
set_option maxHeartbeats 4000000 in
theorem r_JFloat_isNaN_e {B : Nat} {SA : Nat → Nat} {d : Nat} (hd : 0 ≤ d) : ∀ (L : JLoc) (v0 : UInt32) (μ : JMem) (r : Bool), jget L 0 = .float v0 → g_JFloat_isNaN v0 = r → jR B SA d m_JFloat_isNaN 0 L [] μ (some (.int (jb r))) μ := by
  intro L v0 μ r hl0 h
  unfold g_JFloat_isNaN at h
  refine jr_fload_n jf_241_0 rfl hl0 ?_
  refine jr_fload_n jf_241_1 rfl hl0 ?_
  refine jr_fcmp jf_241_2 ?_
  replace h := ite_or h; rcases h with ⟨hc, h⟩ | ⟨hc, h⟩
  · refine jr_if_eq_t jf_241_3 hc ?_
    refine jr_iconst jf_241_10 jc_i_0 ?_
    subst h
    exact jr_retZ (x := false) jf_241_11 jmt_241
  · refine jr_if_eq_f jf_241_3 hc ?_
    refine jr_iconst jf_241_6 jc_i_1 ?_
    refine jr_goto jf_241_7 ?_
    subst h
    exact jr_retZ (x := true) jf_241_11 jmt_241
set_option maxRecDepth 10000 in
set_option maxHeartbeats 4000000 in
theorem r_JFloat_isNaN {B : Nat} {SA : Nat → Nat} {d : Nat} (hd : 0 ≤ d) : ∀ (v0 : UInt32) (μ : JMem) (r : Bool), g_JFloat_isNaN v0 = r → jR B SA d m_JFloat_isNaN 0 (lv_args 0 [.float v0]) [] μ (some (.int (jb r))) μ := by
  intro v0 μ r h
  exact r_JFloat_isNaN_e hd (lv_args 0 _) _ _ _ (by simp [lv_args, jget, rv_cat, cat_int, cat_long, cat_double, cat_float, cat_ref]) h
/-! java/lang/Float.floatToIntBits(F)I -/
set_option maxRecDepth 10000 in
set_option maxHeartbeats 4000000 in
theorem r_JFloat_floatToIntBits_e {B : Nat} {SA : Nat → Nat} {d : Nat} (hd : 1 ≤ d) : ∀ (L : JLoc) (v0 : UInt32) (μ : JMem) (r : Int32), jget L 0 = .float v0 → g_JFloat_floatToIntBits v0 = r → jR B SA d m_JFloat_floatToIntBits 0 L [] μ (some (.int r)) μ := by
  intro L v0 μ r hl0 h
  unfold g_JFloat_floatToIntBits at h
  refine jr_fload_n jf_240_0 rfl hl0 ?_
  refine jr_S3_1 jf_240_1 (by omega) (r_JFloat_isNaN (by omega) _ _ _ rfl) (Nat.le_of_ble_eq_true rfl) jml_241 (Nat.le_of_ble_eq_true rfl) ?_
  replace h := ite_or h; rcases h with ⟨hc, h⟩ | ⟨hc, h⟩
  · refine jr_ifz_ne_t jf_240_4 hc ?_
    refine jr_ldc jf_240_12 ?_
    subst h
    exact jr_retI jf_240_14 jmt_240
  · refine jr_ifz_ne_f jf_240_4 hc ?_
    refine jr_fload_n jf_240_7 rfl hl0 ?_
    refine jr_f2in jf_240_8 (by omega) (Nat.le_of_ble_eq_true rfl) ?_
    subst h
    exact jr_retI jf_240_11 jmt_240
set_option maxRecDepth 10000 in
set_option maxHeartbeats 4000000 in
theorem r_JFloat_floatToIntBits {B : Nat} {SA : Nat → Nat} {d : Nat} (hd : 1 ≤ d) : ∀ (v0 : UInt32) (μ : JMem) (r : Int32), g_JFloat_floatToIntBits v0 = r → jR B SA d m_JFloat_floatToIntBits 0 (lv_args 0 [.float v0]) [] μ (some (.int r)) μ := by
  intro v0 μ r h
  exact r_JFloat_floatToIntBits_e hd (lv_args 0 _) _ _ _ (by simp [lv_args, jget, rv_cat, cat_int, cat_long, cat_double, cat_float, cat_ref]) h
/-! FilterBenchModel.bitsOf(ID)J -/
set_option maxRecDepth 10000 in
set_option maxHeartbeats 4000000 in
theorem r_R_bitsOf_e {B : Nat} {SA : Nat → Nat} {d : Nat} (hd : 2 ≤ d) : ∀ (L : JLoc) (v0 : Int32) (v1 : UInt64) (μ : JMem) (r : Int64), jget L 0 = .int v0 → jget L 1 = .double v1 → g_R_bitsOf v0 v1 = some r → jR B SA d m_R_bitsOf 0 L [] μ (some (.long r)) μ := by
  intro L v0 v1 μ r hl0 hl1 h
  unfold g_R_bitsOf at h
  refine jr_dload_n jf_237_0 rfl hl1 ?_
  refine jr_dload_n jf_237_1 rfl hl1 ?_
  refine jr_dcmp jf_237_2 ?_
  replace h := ite_or h; rcases h with ⟨hc, h⟩ | ⟨hc, h⟩
  · refine jr_if_eq_t jf_237_3 hc ?_
    refine jr_iload_n jf_237_20 rfl hl0 ?_
    replace h := ite_or h; rcases h with ⟨hc, h⟩ | ⟨hc, h⟩
    · refine jr_if_ne_f jf_237_21 hc ?_
      refine jr_dload_n jf_237_24 rfl hl1 ?_
      refine jr_S3_1 jf_237_25 (by omega) (r_JDouble_doubleToLongBits (by omega) _ _ _ rfl) (Nat.le_of_ble_eq_true rfl) jml_238 (Nat.le_of_ble_eq_true rfl) ?_
      obtain rfl := Option.some.inj h
      exact jr_retJ jf_237_28 jmt_237
    · refine jr_if_ne_t jf_237_21 hc ?_
      refine jr_iload_n jf_237_29 rfl hl0 ?_
      refine jr_iconst jf_237_30 jc_i_1 ?_
      replace h := ite_or h; rcases h with ⟨hc, h⟩ | ⟨hc, h⟩
      · refine jr_if2_ne_f jf_237_31 hc ?_
        refine jr_dload_n jf_237_34 rfl hl1 ?_
        replace h := obd_of h; obtain ⟨x1, hx1, h⟩ := h
        refine jr_d2f jf_237_35 hx1 ?_
        refine jr_S3_1 jf_237_36 (by omega) (r_JFloat_floatToIntBits (by omega) _ _ _ rfl) (Nat.le_of_ble_eq_true rfl) jml_240 (Nat.le_of_ble_eq_true rfl) ?_
        refine jr_i2l jf_237_39 ?_
        obtain rfl := Option.some.inj h
        exact jr_retJ jf_237_40 jmt_237
      · refine jr_if2_ne_t jf_237_31 hc ?_
        refine jr_dload_n jf_237_41 rfl hl1 ?_
        refine jr_d2l jf_237_42 ?_
        obtain rfl := Option.some.inj h
        exact jr_retJ jf_237_43 jmt_237
  · refine jr_if_eq_f jf_237_3 hc ?_
    refine jr_iload_n jf_237_6 rfl hl0 ?_
    replace h := ite_or h; rcases h with ⟨hc, h⟩ | ⟨hc, h⟩
    · refine jr_if_ne_f jf_237_7 hc ?_
      refine jr_ldc2l jf_237_10 ?_
      refine jr_goto jf_237_13 ?_
      obtain rfl := Option.some.inj h
      exact jr_retJ jf_237_19 jmt_237
    · refine jr_if_ne_t jf_237_7 hc ?_
      refine jr_ldc2l jf_237_16 ?_
      obtain rfl := Option.some.inj h
      exact jr_retJ jf_237_19 jmt_237
set_option maxRecDepth 10000 in
set_option maxHeartbeats 4000000 in
theorem r_R_bitsOf {B : Nat} {SA : Nat → Nat} {d : Nat} (hd : 2 ≤ d) : ∀ (v0 : Int32) (v1 : UInt64) (μ : JMem) (r : Int64), g_R_bitsOf v0 v1 = some r → jR B SA d m_R_bitsOf 0 (lv_args 0 [.int v0, .double v1]) [] μ (some (.long r)) μ := by
  intro v0 v1 μ r h
  exact r_R_bitsOf_e hd (lv_args 0 _) _ _ _ _ (by simp [lv_args, jget, rv_cat, cat_int, cat_long, cat_double, cat_float, cat_ref]) (by simp [lv_args, jget, rv_cat, cat_int, cat_long, cat_double, cat_float, cat_ref]) h
/-! FilterBenchModel.isKeptOut(II)Z -/
set_option maxRecDepth 10000 in
set_option maxHeartbeats 4000000 in
theorem r_R_isKeptOut_e {B : Nat} {SA : Nat → Nat} {d : Nat} (hd : 0 ≤ d) : ∀ (L : JLoc) (v0 : Nat) (v1 : Int32) (v2 : Int32) (μ : JMem) (r : Bool), jget L 0 = .ref v0 → jget L 1 = .int v1 → jget L 2 = .int v2 → g_R_isKeptOut v0 v1 v2 μ.1 = some r → jR B SA d m_R_isKeptOut 0 L [] μ (some (.int (jb r))) μ := by
  intro L v0 v1 v2 μ r hl0 hl1 hl2 h
  unfold g_R_isKeptOut at h
  refine jr_iload_n jf_236_0 rfl hl2 ?_
  replace h := ite_or h; rcases h with ⟨hc, h⟩ | ⟨hc, h⟩
  · refine jr_if_lt_t jf_236_1 hc ?_
    refine jr_iconst jf_236_32 jc_i_0 ?_
    obtain rfl := Option.some.inj h
    exact jr_retZ (x := false) jf_236_33 jmt_236
  · refine jr_if_lt_f jf_236_1 hc ?_
    refine jr_iload_n jf_236_4 rfl hl2 ?_
    refine jr_aload_n jf_236_5 rfl hl0 ?_
    replace h := obd_of h; obtain ⟨x1, hx1, h⟩ := h
    refine jr_getA jf_236_6 hx1 ?_
    refine jr_iload_n jf_236_9 rfl hl1 ?_
    replace h := obd_of h; obtain ⟨a2, rfl, h⟩ := h
    replace h := obd_of h; obtain ⟨x3, hx3, h⟩ := h
    refine jr_iaload jf_236_10 hx3 ?_
    replace h := ite_or h; rcases h with ⟨hc, h⟩ | ⟨hc, h⟩
    · refine jr_if2_ge_t jf_236_11 hc ?_
      refine jr_iconst jf_236_32 jc_i_0 ?_
      obtain rfl := Option.some.inj h
      exact jr_retZ (x := false) jf_236_33 jmt_236
    · refine jr_if2_ge_f jf_236_11 hc ?_
      refine jr_iload_n jf_236_14 rfl hl2 ?_
      refine jr_aload_n jf_236_15 rfl hl0 ?_
      replace h := obd_of h; obtain ⟨x4, hx4, h⟩ := h
      refine jr_getA jf_236_16 hx4 ?_
      refine jr_iload_n jf_236_19 rfl hl1 ?_
      replace h := obd_of h; obtain ⟨a5, rfl, h⟩ := h
      replace h := obd_of h; obtain ⟨x6, hx6, h⟩ := h
      refine jr_iaload jf_236_20 hx6 ?_
      refine jr_sipush jf_236_21 jc_s_400 ?_
      refine jr_isub jf_236_24 ?_
      replace h := ite_or h; rcases h with ⟨hc, h⟩ | ⟨hc, h⟩
      · refine jr_if2_lt_t jf_236_25 hc ?_
        refine jr_iconst jf_236_32 jc_i_0 ?_
        obtain rfl := Option.some.inj h
        exact jr_retZ (x := false) jf_236_33 jmt_236
      · refine jr_if2_lt_f jf_236_25 hc ?_
        refine jr_iconst jf_236_28 jc_i_1 ?_
        refine jr_goto jf_236_29 ?_
        obtain rfl := Option.some.inj h
        exact jr_retZ (x := true) jf_236_33 jmt_236
set_option maxRecDepth 10000 in
set_option maxHeartbeats 4000000 in
theorem r_R_isKeptOut {B : Nat} {SA : Nat → Nat} {d : Nat} (hd : 0 ≤ d) : ∀ (v0 : Nat) (v1 : Int32) (v2 : Int32) (μ : JMem) (r : Bool), g_R_isKeptOut v0 v1 v2 μ.1 = some r → jR B SA d m_R_isKeptOut 0 (lv_args 0 [.ref v0, .int v1, .int v2]) [] μ (some (.int (jb r))) μ := by
  intro v0 v1 v2 μ r h
  exact r_R_isKeptOut_e hd (lv_args 0 _) _ _ _ _ _ (by simp [lv_args, jget, rv_cat, cat_int, cat_long, cat_double, cat_float, cat_ref]) (by simp [lv_args, jget, rv_cat, cat_int, cat_long, cat_double, cat_float, cat_ref]) (by simp [lv_args, jget, rv_cat, cat_int, cat_long, cat_double, cat_float, cat_ref]) h
/-! FilterBenchModel.output(II)J -/
set_option maxRecDepth 10000 in
set_option maxHeartbeats 4000000 in
theorem r_R_output_e {B : Nat} {SA : Nat → Nat} {d : Nat} (hd : 3 ≤ d) : ∀ (L : JLoc) (v0 : Nat) (v1 : Int32) (v2 : Int32) (μ : JMem) (r : Int64), jget L 0 = .ref v0 → jget L 1 = .int v1 → jget L 2 = .int v2 → g_R_output v0 v1 v2 μ.1 = some r → jR B SA d m_R_output 0 L [] μ (some (.long r)) μ := by
  intro L v0 v1 v2 μ r hl0 hl1 hl2 h
  unfold g_R_output at h
  refine jr_aload_n jf_235_0 rfl hl0 ?_
  refine jr_iload_n jf_235_1 rfl hl1 ?_
  replace h := jgd_of h; obtain ⟨hb1, h⟩ := h
  replace h := obd_of h; obtain ⟨x2, hx2, h⟩ := h
  refine jr_V6_1 jf_235_2 hb1 (by omega) (r_R_isChain (by omega) _ _ _ _ hx2) (Nat.le_of_ble_eq_true rfl) jml_206 (Nat.le_of_ble_eq_true rfl) ?_
  replace h := ite_or h; rcases h with ⟨hc, h⟩ | ⟨hc, h⟩
  · refine jr_ifz_eq_f jf_235_5 hc ?_
    refine jr_aload_n jf_235_8 rfl hl0 ?_
    refine jr_iload_n jf_235_9 rfl hl1 ?_
    refine jr_iload_n jf_235_10 rfl hl2 ?_
    replace h := jgd_of h; obtain ⟨hb3, h⟩ := h
    replace h := obd_of h; obtain ⟨x4, hx4, h⟩ := h
    refine jr_V6_2 jf_235_11 hb3 (by omega) (r_R_isKeptOut (by omega) _ _ _ _ _ hx4) (Nat.le_of_ble_eq_true rfl) jml_236 (Nat.le_of_ble_eq_true rfl) ?_
    replace h := ite_or h; rcases h with ⟨hc, h⟩ | ⟨hc, h⟩
    · refine jr_ifz_ne_t jf_235_14 hc ?_
      refine jr_aload_n jf_235_19 rfl hl0 ?_
      refine jr_iload_n jf_235_20 rfl hl1 ?_
      replace h := jgd_of h; obtain ⟨hb5, h⟩ := h
      replace h := obd_of h; obtain ⟨x6, hx6, h⟩ := h
      refine jr_V6_1 jf_235_21 hb5 (by omega) (r_R_sortOf (by omega) _ _ _ _ hx6) (Nat.le_of_ble_eq_true rfl) jml_207 (Nat.le_of_ble_eq_true rfl) ?_
      refine jr_aload_n jf_235_24 rfl hl0 ?_
      replace h := obd_of h; obtain ⟨x7, hx7, h⟩ := h
      refine jr_getA jf_235_25 hx7 ?_
      refine jr_sipush jf_235_28 jc_s_400 ?_
      refine jr_iload_n jf_235_31 rfl hl1 ?_
      refine jr_imul jf_235_32 ?_
      refine jr_iload_n jf_235_33 rfl hl2 ?_
      refine jr_sipush jf_235_34 jc_s_400 ?_
      refine jr_irem jf_235_37 (by simp only [jremI]; exact if_neg (by decide)) ?_
      refine jr_iadd jf_235_38 ?_
      replace h := obd_of h; obtain ⟨a8, rfl, h⟩ := h
      replace h := obd_of h; obtain ⟨x9, hx9, h⟩ := h
      refine jr_daload jf_235_39 hx9 ?_
      replace h := obd_of h; obtain ⟨x10, hx10, h⟩ := h
      refine jr_S3_2 jf_235_40 (by omega) (r_R_bitsOf (by omega) _ _ _ _ hx10) (Nat.le_of_ble_eq_true rfl) jml_237 (Nat.le_of_ble_eq_true rfl) ?_
      obtain rfl := Option.some.inj h
      exact jr_retJ jf_235_43 jmt_235
    · refine jr_ifz_ne_f jf_235_14 hc ?_
      refine jr_lconst0 jf_235_17 ?_
      obtain rfl := Option.some.inj h
      exact jr_retJ jf_235_18 jmt_235
  · refine jr_ifz_eq_t jf_235_5 hc ?_
    refine jr_lconst0 jf_235_17 ?_
    obtain rfl := Option.some.inj h
    exact jr_retJ jf_235_18 jmt_235
set_option maxRecDepth 10000 in
set_option maxHeartbeats 4000000 in
theorem r_R_output {B : Nat} {SA : Nat → Nat} {d : Nat} (hd : 3 ≤ d) : ∀ (v0 : Nat) (v1 : Int32) (v2 : Int32) (μ : JMem) (r : Int64), g_R_output v0 v1 v2 μ.1 = some r → jR B SA d m_R_output 0 (lv_args 0 [.ref v0, .int v1, .int v2]) [] μ (some (.long r)) μ := by
  intro v0 v1 v2 μ r h
  exact r_R_output_e hd (lv_args 0 _) _ _ _ _ _ (by simp [lv_args, jget, rv_cat, cat_int, cat_long, cat_double, cat_float, cat_ref]) (by simp [lv_args, jget, rv_cat, cat_int, cat_long, cat_double, cat_float, cat_ref]) (by simp [lv_args, jget, rv_cat, cat_int, cat_long, cat_double, cat_float, cat_ref]) h
/-! FilterBenchModel.state(II)J -/
set_option maxRecDepth 10000 in
set_option maxHeartbeats 4000000 in
theorem r_R_state_175 {B : Nat} {SA : Nat → Nat} {d : Nat} (hd : 3 ≤ d) : ∀ (L : JLoc) (v0 : Nat) (v1 : Int32) (v2 : Int32) (v3 : Int32) (μ : JMem) (r : Int64), jget L 0 = .ref v0 → jget L 1 = .int v1 → jget L 2 = .int v2 → jget L 3 = .int v3 → g_R_state_175 v0 v1 v2 v3 μ.1 = some r → jR B SA d m_R_state 175 L [] μ (some (.long r)) μ := by
  intro L v0 v1 v2 v3 μ r hl0 hl1 hl2 hl3 h
  unfold g_R_state_175 at h
  refine jr_iload_n jf_242_175 rfl hl2 ?_
  refine jr_iconst jf_242_176 jc_i_0 ?_
  refine jr_iload_n jf_242_177 rfl hl3 ?_
  refine jr_iconst jf_242_178 jc_i_1 ?_
  refine jr_isub jf_242_179 ?_
  refine jr_S3_3 jf_242_180 (by omega) (r_R_in (by omega) _ _ _ _ _ rfl) (Nat.le_of_ble_eq_true rfl) jml_189 (Nat.le_of_ble_eq_true rfl) ?_
  replace h := ite_or h; rcases h with ⟨hc, h⟩ | ⟨hc, h⟩
  · refine jr_ifz_eq_f jf_242_183 hc ?_
    refine jr_aload_n jf_242_186 rfl hl0 ?_
    replace h := obd_of h; obtain ⟨x1, hx1, h⟩ := h
    refine jr_getA jf_242_187 hx1 ?_
    refine jr_iload_n jf_242_190 rfl hl1 ?_
    replace h := obd_of h; obtain ⟨a2, rfl, h⟩ := h
    replace h := obd_of h; obtain ⟨x3, hx3, h⟩ := h
    refine jr_iaload jf_242_191 hx3 ?_
    refine jr_aload_n jf_242_192 rfl hl0 ?_
    refine jr_iload_n jf_242_193 rfl hl1 ?_
    refine jr_iload_n jf_242_194 rfl hl2 ?_
    replace h := jgd_of h; obtain ⟨hb4, h⟩ := h
    replace h := obd_of h; obtain ⟨x5, hx5, h⟩ := h
    refine jr_V6_2 jf_242_195 hb4 (by omega) (r_R_st (by omega) _ _ _ _ _ hx5) (Nat.le_of_ble_eq_true rfl) jml_227 (Nat.le_of_ble_eq_true rfl) ?_
    replace h := obd_of h; obtain ⟨x6, hx6, h⟩ := h
    refine jr_S3_2 jf_242_198 (by omega) (r_R_bitsOf (by omega) _ _ _ _ hx6) (Nat.le_of_ble_eq_true rfl) jml_237 (Nat.le_of_ble_eq_true rfl) ?_
    refine jr_goto jf_242_201 ?_
    obtain rfl := Option.some.inj h
    exact jr_retJ jf_242_205 jmt_242
  · refine jr_ifz_eq_t jf_242_183 hc ?_
    refine jr_lconst0 jf_242_204 ?_
    obtain rfl := Option.some.inj h
    exact jr_retJ jf_242_205 jmt_242
set_option maxRecDepth 10000 in
set_option maxHeartbeats 4000000 in
theorem r_R_state_92 {B : Nat} {SA : Nat → Nat} {d : Nat} (hd : 3 ≤ d) : ∀ (L : JLoc) (v0 : Nat) (v1 : Int32) (v2 : Int32) (μ : JMem) (r : Int64), jget L 0 = .ref v0 → jget L 1 = .int v1 → jget L 2 = .int v2 → g_R_state_92 v0 v1 v2 μ.1 = some r → jR B SA d m_R_state 92 L [] μ (some (.long r)) μ := by
  intro L v0 v1 v2 μ r hl0 hl1 hl2 h
  unfold g_R_state_92 at h
  refine jr_iconst jf_242_92 jc_i_1 ?_
  refine jr_istore_n jf_242_93 rfl jml_242 (by decide) ?_
  refine jr_goto jf_242_94 ?_
  exact r_R_state_175 hd _ _ _ _ _ _ _ (jg1_ne rfl hl0) (jg1_ne rfl hl1) (jg1_pre rfl hl2) jg1_same h
set_option maxRecDepth 10000 in
set_option maxHeartbeats 4000000 in
theorem r_R_state_102 {B : Nat} {SA : Nat → Nat} {d : Nat} (hd : 3 ≤ d) : ∀ (L : JLoc) (v0 : Nat) (v1 : Int32) (v2 : Int32) (μ : JMem) (r : Int64), jget L 0 = .ref v0 → jget L 1 = .int v1 → jget L 2 = .int v2 → g_R_state_102 v0 v1 v2 μ.1 = some r → jR B SA d m_R_state 102 L [] μ (some (.long r)) μ := by
  intro L v0 v1 v2 μ r hl0 hl1 hl2 h
  unfold g_R_state_102 at h
  refine jr_iconst jf_242_102 jc_i_2 ?_
  refine jr_istore_n jf_242_103 rfl jml_242 (by decide) ?_
  refine jr_goto jf_242_104 ?_
  exact r_R_state_175 hd _ _ _ _ _ _ _ (jg1_ne rfl hl0) (jg1_ne rfl hl1) (jg1_pre rfl hl2) jg1_same h
set_option maxRecDepth 10000 in
set_option maxHeartbeats 4000000 in
theorem r_R_state_107 {B : Nat} {SA : Nat → Nat} {d : Nat} (hd : 3 ≤ d) : ∀ (L : JLoc) (v0 : Nat) (v1 : Int32) (v2 : Int32) (μ : JMem) (r : Int64), jget L 0 = .ref v0 → jget L 1 = .int v1 → jget L 2 = .int v2 → g_R_state_107 v0 v1 v2 μ.1 = some r → jR B SA d m_R_state 107 L [] μ (some (.long r)) μ := by
  intro L v0 v1 v2 μ r hl0 hl1 hl2 h
  unfold g_R_state_107 at h
  refine jr_iload_n jf_242_107 rfl hl2 ?_
  refine jr_iconst jf_242_108 jc_i_0 ?_
  refine jr_aload_n jf_242_109 rfl hl0 ?_
  replace h := obd_of h; obtain ⟨x1, hx1, h⟩ := h
  refine jr_getA jf_242_110 hx1 ?_
  refine jr_iload_n jf_242_113 rfl hl1 ?_
  replace h := obd_of h; obtain ⟨a2, rfl, h⟩ := h
  replace h := obd_of h; obtain ⟨x3, hx3, h⟩ := h
  refine jr_iaload jf_242_114 hx3 ?_
  refine jr_iconst jf_242_115 jc_i_1 ?_
  refine jr_isub jf_242_116 ?_
  refine jr_S3_3 jf_242_117 (by omega) (r_R_in (by omega) _ _ _ _ _ rfl) (Nat.le_of_ble_eq_true rfl) jml_189 (Nat.le_of_ble_eq_true rfl) ?_
  replace h := ite_or h; rcases h with ⟨hc, h⟩ | ⟨hc, h⟩
  · refine jr_ifz_eq_f jf_242_120 hc ?_
    refine jr_aload_n jf_242_123 rfl hl0 ?_
    replace h := obd_of h; obtain ⟨x4, hx4, h⟩ := h
    refine jr_getA jf_242_124 hx4 ?_
    refine jr_iload_n jf_242_127 rfl hl1 ?_
    replace h := obd_of h; obtain ⟨a5, rfl, h⟩ := h
    replace h := obd_of h; obtain ⟨x6, hx6, h⟩ := h
    refine jr_iaload jf_242_128 hx6 ?_
    refine jr_aload_n jf_242_129 rfl hl0 ?_
    refine jr_iload_n jf_242_130 rfl hl1 ?_
    refine jr_aload_n jf_242_131 rfl hl0 ?_
    replace h := obd_of h; obtain ⟨x7, hx7, h⟩ := h
    refine jr_getA jf_242_132 hx7 ?_
    refine jr_iload_n jf_242_135 rfl hl1 ?_
    replace h := obd_of h; obtain ⟨a8, rfl, h⟩ := h
    replace h := obd_of h; obtain ⟨x9, hx9, h⟩ := h
    refine jr_iaload jf_242_136 hx9 ?_
    refine jr_iload_n jf_242_137 rfl hl2 ?_
    refine jr_iadd jf_242_138 ?_
    refine jr_aload_n jf_242_139 rfl hl0 ?_
    replace h := obd_of h; obtain ⟨x10, hx10, h⟩ := h
    refine jr_getA jf_242_140 hx10 ?_
    refine jr_iload_n jf_242_143 rfl hl1 ?_
    replace h := obd_of h; obtain ⟨a11, rfl, h⟩ := h
    replace h := obd_of h; obtain ⟨x12, hx12, h⟩ := h
    refine jr_iaload jf_242_144 hx12 ?_
    replace h := obd_of h; obtain ⟨x13, hx13, h⟩ := h
    refine jr_irem jf_242_145 hx13 ?_
    replace h := jgd_of h; obtain ⟨hb14, h⟩ := h
    replace h := obd_of h; obtain ⟨x15, hx15, h⟩ := h
    refine jr_V6_2 jf_242_146 hb14 (by omega) (r_R_st (by omega) _ _ _ _ _ hx15) (Nat.le_of_ble_eq_true rfl) jml_227 (Nat.le_of_ble_eq_true rfl) ?_
    replace h := obd_of h; obtain ⟨x16, hx16, h⟩ := h
    refine jr_S3_2 jf_242_149 (by omega) (r_R_bitsOf (by omega) _ _ _ _ hx16) (Nat.le_of_ble_eq_true rfl) jml_237 (Nat.le_of_ble_eq_true rfl) ?_
    refine jr_goto jf_242_152 ?_
    obtain rfl := Option.some.inj h
    exact jr_retJ jf_242_156 jmt_242
  · refine jr_ifz_eq_t jf_242_120 hc ?_
    refine jr_lconst0 jf_242_155 ?_
    obtain rfl := Option.some.inj h
    exact jr_retJ jf_242_156 jmt_242
set_option maxRecDepth 10000 in
set_option maxHeartbeats 4000000 in
theorem r_R_state_173 {B : Nat} {SA : Nat → Nat} {d : Nat} (hd : 3 ≤ d) : ∀ (L : JLoc) (v0 : Nat) (v1 : Int32) (v2 : Int32) (μ : JMem) (r : Int64), jget L 0 = .ref v0 → jget L 1 = .int v1 → jget L 2 = .int v2 → g_R_state_173 v0 v1 v2 μ.1 = some r → jR B SA d m_R_state 173 L [] μ (some (.long r)) μ := by
  intro L v0 v1 v2 μ r hl0 hl1 hl2 h
  unfold g_R_state_173 at h
  refine jr_iconst jf_242_173 jc_i_0 ?_
  refine jr_istore_n jf_242_174 rfl jml_242 (by decide) ?_
  exact r_R_state_175 hd _ _ _ _ _ _ _ (jg1_ne rfl hl0) (jg1_ne rfl hl1) (jg1_pre rfl hl2) jg1_same h
set_option maxRecDepth 10000 in
set_option maxHeartbeats 4000000 in
theorem r_R_state_e {B : Nat} {SA : Nat → Nat} {d : Nat} (hd : 3 ≤ d) : ∀ (L : JLoc) (v0 : Nat) (v1 : Int32) (v2 : Int32) (μ : JMem) (r : Int64), jget L 0 = .ref v0 → jget L 1 = .int v1 → jget L 2 = .int v2 → g_R_state v0 v1 v2 μ.1 = some r → jR B SA d m_R_state 0 L [] μ (some (.long r)) μ := by
  intro L v0 v1 v2 μ r hl0 hl1 hl2 h
  unfold g_R_state at h
  refine jr_aload_n jf_242_0 rfl hl0 ?_
  refine jr_iload_n jf_242_1 rfl hl1 ?_
  replace h := jgd_of h; obtain ⟨hb1, h⟩ := h
  replace h := obd_of h; obtain ⟨x2, hx2, h⟩ := h
  refine jr_V6_1 jf_242_2 hb1 (by omega) (r_R_isSection (by omega) _ _ _ _ hx2) (Nat.le_of_ble_eq_true rfl) jml_195 (Nat.le_of_ble_eq_true rfl) ?_
  replace h := ite_or h; rcases h with ⟨hc, h⟩ | ⟨hc, h⟩
  · refine jr_ifz_ne_t jf_242_5 hc ?_
    refine jr_iload_n jf_242_10 rfl hl2 ?_
    refine jr_bipush jf_242_11 jc_b_100 ?_
    replace h := ite_or h; rcases h with ⟨hc, h⟩ | ⟨hc, h⟩
    · refine jr_if2_ne_f jf_242_13 hc ?_
      refine jr_aload_n jf_242_16 rfl hl0 ?_
      replace h := obd_of h; obtain ⟨x3, hx3, h⟩ := h
      refine jr_getA jf_242_17 hx3 ?_
      refine jr_iload_n jf_242_20 rfl hl1 ?_
      replace h := obd_of h; obtain ⟨a4, rfl, h⟩ := h
      replace h := obd_of h; obtain ⟨x5, hx5, h⟩ := h
      refine jr_laload jf_242_21 hx5 ?_
      obtain rfl := Option.some.inj h
      exact jr_retJ jf_242_22 jmt_242
    · refine jr_if2_ne_t jf_242_13 hc ?_
      refine jr_iconst jf_242_23 jc_i_0 ?_
      refine jr_istore_n jf_242_24 rfl jml_242 (by decide) ?_
      refine jr_aload_n jf_242_25 rfl (jg1_ne rfl hl0) ?_
      replace h := obd_of h; obtain ⟨x6, hx6, h⟩ := h
      refine jr_getA jf_242_26 hx6 ?_
      refine jr_iload_n jf_242_29 rfl (jg1_ne rfl hl1) ?_
      replace h := obd_of h; obtain ⟨a7, rfl, h⟩ := h
      replace h := obd_of h; obtain ⟨x8, hx8, h⟩ := h
      refine jr_iaload jf_242_30 hx8 ?_
      refine jr_switch jf_242_31 ?_
      replace h := ite_or h; rcases h with ⟨hc, h⟩ | ⟨hc, h⟩
      · refine jsw_hit (by decide) hc ?_
        exact r_R_state_92 hd _ _ _ _ _ _ (jg1_ne rfl hl0) (jg1_ne rfl hl1) (jg1_pre rfl hl2) h
      · refine jsw_miss (by decide) hc (by decide : (1 : Int) + 1 = 2) ?_
        replace h := ite_or h; rcases h with ⟨hc, h⟩ | ⟨hc, h⟩
        · refine jsw_hit (by decide) hc ?_
          refine jr_iconst jf_242_97 jc_i_4 ?_
          refine jr_istore_n jf_242_98 rfl jml_242 (by decide) ?_
          refine jr_goto jf_242_99 ?_
          exact r_R_state_175 hd _ _ _ _ _ _ _ (jg1_ne rfl (jg1_ne rfl hl0)) (jg1_ne rfl (jg1_ne rfl hl1)) (jg1_pre rfl (jg1_pre rfl hl2)) jg1_same h
        · refine jsw_miss (by decide) hc (by decide : (2 : Int) + 1 = 3) ?_
          replace h := ite_or h; rcases h with ⟨hc, h⟩ | ⟨hc, h⟩
          · refine jsw_hit (by decide) hc ?_
            exact r_R_state_102 hd _ _ _ _ _ _ (jg1_ne rfl hl0) (jg1_ne rfl hl1) (jg1_pre rfl hl2) h
          · refine jsw_miss (by decide) hc (by decide : (3 : Int) + 1 = 4) ?_
            replace h := ite_or h; rcases h with ⟨hc, h⟩ | ⟨hc, h⟩
            · refine jsw_hit (by decide) hc ?_
              exact r_R_state_102 hd _ _ _ _ _ _ (jg1_ne rfl hl0) (jg1_ne rfl hl1) (jg1_pre rfl hl2) h
            · refine jsw_miss (by decide) hc (by decide : (4 : Int) + 1 = 5) ?_
              replace h := ite_or h; rcases h with ⟨hc, h⟩ | ⟨hc, h⟩
              · refine jsw_hit (by decide) hc ?_
                exact r_R_state_92 hd _ _ _ _ _ _ (jg1_ne rfl hl0) (jg1_ne rfl hl1) (jg1_pre rfl hl2) h
              · refine jsw_miss (by decide) hc (by decide : (5 : Int) + 1 = 6) ?_
                replace h := ite_or h; rcases h with ⟨hc, h⟩ | ⟨hc, h⟩
                · refine jsw_hit (by decide) hc ?_
                  exact r_R_state_107 hd _ _ _ _ _ _ (jg1_ne rfl hl0) (jg1_ne rfl hl1) (jg1_pre rfl hl2) h
                · refine jsw_miss (by decide) hc (by decide : (6 : Int) + 1 = 7) ?_
                  replace h := ite_or h; rcases h with ⟨hc, h⟩ | ⟨hc, h⟩
                  · refine jsw_hit (by decide) hc ?_
                    exact r_R_state_107 hd _ _ _ _ _ _ (jg1_ne rfl hl0) (jg1_ne rfl hl1) (jg1_pre rfl hl2) h
                  · refine jsw_miss (by decide) hc (by decide : (7 : Int) + 1 = 8) ?_
                    replace h := ite_or h; rcases h with ⟨hc, h⟩ | ⟨hc, h⟩
                    · refine jsw_hit (by decide) hc ?_
                      exact r_R_state_107 hd _ _ _ _ _ _ (jg1_ne rfl hl0) (jg1_ne rfl hl1) (jg1_pre rfl hl2) h
                    · refine jsw_miss (by decide) hc (by decide : (8 : Int) + 1 = 9) ?_
                      replace h := ite_or h; rcases h with ⟨hc, h⟩ | ⟨hc, h⟩
                      · refine jsw_hit (by decide) hc ?_
                        exact r_R_state_173 hd _ _ _ _ _ _ (jg1_ne rfl hl0) (jg1_ne rfl hl1) (jg1_pre rfl hl2) h
                      · refine jsw_miss (by decide) hc (by decide : (9 : Int) + 1 = 10) ?_
                        replace h := ite_or h; rcases h with ⟨hc, h⟩ | ⟨hc, h⟩
                        · refine jsw_hit (by decide) hc ?_
                          exact r_R_state_173 hd _ _ _ _ _ _ (jg1_ne rfl hl0) (jg1_ne rfl hl1) (jg1_pre rfl hl2) h
                        · refine jsw_miss (by decide) hc (by decide : (10 : Int) + 1 = 11) ?_
                          replace h := ite_or h; rcases h with ⟨hc, h⟩ | ⟨hc, h⟩
                          · refine jsw_hit (by decide) hc ?_
                            exact r_R_state_92 hd _ _ _ _ _ _ (jg1_ne rfl hl0) (jg1_ne rfl hl1) (jg1_pre rfl hl2) h
                          · refine jsw_miss (by decide) hc (by decide : (11 : Int) + 1 = 12) ?_
                            replace h := ite_or h; rcases h with ⟨hc, h⟩ | ⟨hc, h⟩
                            · refine jsw_hit (by decide) hc ?_
                              refine jr_iload_n jf_242_157 rfl (jg1_pre rfl hl2) ?_
                              replace h := ite_or h; rcases h with ⟨hc, h⟩ | ⟨hc, h⟩
                              · refine jr_if_ne_f jf_242_158 hc ?_
                                refine jr_aload_n jf_242_161 rfl (jg1_ne rfl hl0) ?_
                                refine jr_iload_n jf_242_162 rfl (jg1_ne rfl hl1) ?_
                                refine jr_iconst jf_242_163 jc_i_0 ?_
                                replace h := jgd_of h; obtain ⟨hb9, h⟩ := h
                                replace h := obd_of h; obtain ⟨x10, hx10, h⟩ := h
                                refine jr_V6_2 jf_242_164 hb9 (by omega) (r_R_st (by omega) _ _ _ _ _ hx10) (Nat.le_of_ble_eq_true rfl) jml_227 (Nat.le_of_ble_eq_true rfl) ?_
                                refine jr_d2l jf_242_167 ?_
                                refine jr_goto jf_242_168 ?_
                                obtain rfl := Option.some.inj h
                                exact jr_retJ jf_242_172 jmt_242
                              · refine jr_if_ne_t jf_242_158 hc ?_
                                refine jr_lconst0 jf_242_171 ?_
                                obtain rfl := Option.some.inj h
                                exact jr_retJ jf_242_172 jmt_242
                            · refine jsw_miss (by decide) hc (by decide : (12 : Int) + 1 = 13) ?_
                              refine jsw_end ?_
                              exact r_R_state_173 hd _ _ _ _ _ _ (jg1_ne rfl hl0) (jg1_ne rfl hl1) (jg1_pre rfl hl2) h
  · refine jr_ifz_ne_f jf_242_5 hc ?_
    refine jr_lconst0 jf_242_8 ?_
    obtain rfl := Option.some.inj h
    exact jr_retJ jf_242_9 jmt_242
set_option maxRecDepth 10000 in
set_option maxHeartbeats 4000000 in
theorem r_R_state {B : Nat} {SA : Nat → Nat} {d : Nat} (hd : 3 ≤ d) : ∀ (v0 : Nat) (v1 : Int32) (v2 : Int32) (μ : JMem) (r : Int64), g_R_state v0 v1 v2 μ.1 = some r → jR B SA d m_R_state 0 (lv_args 0 [.ref v0, .int v1, .int v2]) [] μ (some (.long r)) μ := by
  intro v0 v1 v2 μ r h
  exact r_R_state_e hd (lv_args 0 _) _ _ _ _ _ (by simp [lv_args, jget, rv_cat, cat_int, cat_long, cat_double, cat_float, cat_ref]) (by simp [lv_args, jget, rv_cat, cat_int, cat_long, cat_double, cat_float, cat_ref]) (by simp [lv_args, jget, rv_cat, cat_int, cat_long, cat_double, cat_float, cat_ref]) h
