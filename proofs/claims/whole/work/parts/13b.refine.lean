/-! the machine refines the functions (printed by wip/whole/dec.py) -/
/-! FilterBench$Real.term(J)J -/
set_option maxRecDepth 10000 in
set_option maxHeartbeats 4000000 in
theorem r_Real_term_e {B : Nat} {SA : Nat → Nat} {d : Nat} (hd : 0 ≤ d) : ∀ (L : JLoc) (v1 : Int64) (μ : JMem) (r : Int64), jget L 1 = .long v1 → g_Real_term_e v1 = r → jR B SA d m_Real_term 0 L [] μ (some (.long r)) μ := by
  intro L v1 μ r hl1 h
  unfold g_Real_term_e at h
  refine jr_lload_n jf_72_0 rfl hl1 ?_
  subst h
  exact jr_retJ jf_72_1 jmt_72
set_option maxRecDepth 10000 in
set_option maxHeartbeats 4000000 in
theorem r_Real_term {B : Nat} {SA : Nat → Nat} {d : Nat} (hd : 0 ≤ d) : ∀ (v0 : Nat) (v1 : Int64) (μ : JMem) (r : Int64), g_Real_term v0 v1 = r → jR B SA d m_Real_term 0 (lv_args 0 [.ref v0, .long v1]) [] μ (some (.long r)) μ := by
  intro v0 v1 μ r h
  exact r_Real_term_e hd (lv_args 0 _) _ _ _ (by simp [lv_args, jget, rv_cat, cat_int, cat_long, cat_double, cat_float, cat_ref]) h
/-! FilterBench$Row.put(IJ)V -/
set_option maxRecDepth 10000 in
set_option maxHeartbeats 4000000 in
theorem r_Row_put_e {B : Nat} {SA : Nat → Nat} {d : Nat} (hd : 1 ≤ d) : ∀ (L : JLoc) (v0 : Nat) (v1 : Int32) (v2 : Int64) (μ : JMem) (μ9 : JMem), jget L 0 = .ref v0 → jget L 1 = .int v1 → jget L 2 = .long v2 → g_Row_put B v0 v1 v2 μ = some μ9 → jR B SA d m_Row_put 0 L [] μ none μ9 := by
  intro L v0 v1 v2 μ μ9 hl0 hl1 hl2 h
  unfold g_Row_put at h
  refine jr_iload_n jf_66_0 rfl hl1 ?_
  replace h := ite_or h; rcases h with ⟨hc, h⟩ | ⟨hc, h⟩
  · refine jr_if_lt_t jf_66_1 hc ?_
    obtain rfl := Option.some.inj h
    exact jr_return jf_66_24 jmt_66
  · refine jr_if_lt_f jf_66_1 hc ?_
    refine jr_iload_n jf_66_4 rfl hl1 ?_
    refine jr_aload_n jf_66_5 rfl hl0 ?_
    replace h := obd_of h; obtain ⟨x1, hx1, h⟩ := h
    refine jr_getA jf_66_6 hx1 ?_
    replace h := obd_of h; obtain ⟨a2, rfl, h⟩ := h
    replace h := obd_of h; obtain ⟨x3, hx3, h⟩ := h
    refine jr_arraylength jf_66_9 hx3 ?_
    replace h := ite_or h; rcases h with ⟨hc, h⟩ | ⟨hc, h⟩
    · refine jr_if2_ge_t jf_66_10 hc ?_
      obtain rfl := Option.some.inj h
      exact jr_return jf_66_24 jmt_66
    · refine jr_if2_ge_f jf_66_10 hc ?_
      refine jr_aload_n jf_66_13 rfl hl0 ?_
      replace h := obd_of h; obtain ⟨x4, hx4, h⟩ := h
      refine jr_getA jf_66_14 hx4 ?_
      refine jr_aload_n jf_66_17 rfl hl0 ?_
      refine jr_iload_n jf_66_18 rfl hl1 ?_
      replace h := jgd_of h; obtain ⟨hb5, h⟩ := h
      replace h := obd_of h; obtain ⟨x6, hx6, h⟩ := h
      refine jr_V6_1 jf_66_19 hb5 (by omega) (r_Row_index (by omega) _ _ _ _ hx6) (by simp only [jcats_cons, jcats_nil, cat_int, cat_long, cat_double, cat_float, cat_ref, rv_cat]; decide) jml_39 (Nat.le_of_ble_eq_true rfl) ?_
      refine jr_lload_n jf_66_22 rfl hl2 ?_
      replace h := obd_of h; obtain ⟨a7, rfl, h⟩ := h
      replace h := obd_of h; obtain ⟨μ8, hμ8, h⟩ := h
      refine jr_lastore jf_66_23 hμ8 ?_
      obtain rfl := Option.some.inj h
      exact jr_return jf_66_24 jmt_66
set_option maxRecDepth 10000 in
set_option maxHeartbeats 4000000 in
theorem r_Row_put {B : Nat} {SA : Nat → Nat} {d : Nat} (hd : 1 ≤ d) : ∀ (v0 : Nat) (v1 : Int32) (v2 : Int64) (μ : JMem) (μ9 : JMem), g_Row_put B v0 v1 v2 μ = some μ9 → jR B SA d m_Row_put 0 (lv_args 0 [.ref v0, .int v1, .long v2]) [] μ none μ9 := by
  intro v0 v1 v2 μ μ9 h
  exact r_Row_put_e hd (lv_args 0 _) _ _ _ _ _ (by simp [lv_args, jget, rv_cat, cat_int, cat_long, cat_double, cat_float, cat_ref]) (by simp [lv_args, jget, rv_cat, cat_int, cat_long, cat_double, cat_float, cat_ref]) (by simp [lv_args, jget, rv_cat, cat_int, cat_long, cat_double, cat_float, cat_ref]) h
/-! FilterBench$Shorts.isShort(J)Z -/
set_option maxRecDepth 10000 in
set_option maxHeartbeats 4000000 in
theorem r_Shorts_isShort_e {B : Nat} {SA : Nat → Nat} {d : Nat} (hd : 0 ≤ d) : ∀ (L : JLoc) (v0 : Int64) (μ : JMem) (r : Bool), jget L 0 = .long v0 → g_Shorts_isShort v0 = r → jR B SA d m_Shorts_isShort 0 L [] μ (some (.int (jb r))) μ := by
  intro L v0 μ r hl0 h
  unfold g_Shorts_isShort at h
  refine jr_lload_n jf_81_0 rfl hl0 ?_
  refine jr_ldc2l jf_81_1 ?_
  refine jr_lcmp jf_81_4 ?_
  replace h := ite_or h; rcases h with ⟨hc, h⟩ | ⟨hc, h⟩
  · refine jr_ifl_lt_t jf_81_5 hc ?_
    refine jr_iconst jf_81_20 jc_i_0 ?_
    subst h
    exact jr_retZ (x := false) jf_81_21 jmt_81
  · refine jr_ifl_lt_f jf_81_5 hc ?_
    refine jr_lload_n jf_81_8 rfl hl0 ?_
    refine jr_ldc2l jf_81_9 ?_
    refine jr_lcmp jf_81_12 ?_
    replace h := ite_or h; rcases h with ⟨hc, h⟩ | ⟨hc, h⟩
    · refine jr_ifl_gt_t jf_81_13 hc ?_
      refine jr_iconst jf_81_20 jc_i_0 ?_
      subst h
      exact jr_retZ (x := false) jf_81_21 jmt_81
    · refine jr_ifl_gt_f jf_81_13 hc ?_
      refine jr_iconst jf_81_16 jc_i_1 ?_
      refine jr_goto jf_81_17 ?_
      subst h
      exact jr_retZ (x := true) jf_81_21 jmt_81
set_option maxRecDepth 10000 in
set_option maxHeartbeats 4000000 in
theorem r_Shorts_isShort {B : Nat} {SA : Nat → Nat} {d : Nat} (hd : 0 ≤ d) : ∀ (v0 : Int64) (μ : JMem) (r : Bool), g_Shorts_isShort v0 = r → jR B SA d m_Shorts_isShort 0 (lv_args 0 [.long v0]) [] μ (some (.int (jb r))) μ := by
  intro v0 μ r h
  exact r_Shorts_isShort_e hd (lv_args 0 _) _ _ _ (by simp [lv_args, jget, rv_cat, cat_int, cat_long, cat_double, cat_float, cat_ref]) h
/-! FilterBench$Shorts.cut(J)J -/
set_option maxRecDepth 10000 in
set_option maxHeartbeats 4000000 in
theorem r_Shorts_cut_e {B : Nat} {SA : Nat → Nat} {d : Nat} (hd : 0 ≤ d) : ∀ (L : JLoc) (v0 : Int64) (μ : JMem) (r : Int64), jget L 0 = .long v0 → g_Shorts_cut v0 = r → jR B SA d m_Shorts_cut 0 L [] μ (some (.long r)) μ := by
  intro L v0 μ r hl0 h
  unfold g_Shorts_cut at h
  refine jr_lload_n jf_83_0 rfl hl0 ?_
  refine jr_ldc2l jf_83_1 ?_
  refine jr_lcmp jf_83_4 ?_
  replace h := ite_or h; rcases h with ⟨hc, h⟩ | ⟨hc, h⟩
  · refine jr_ifl_le_t jf_83_5 hc ?_
    refine jr_lload_n jf_83_14 rfl hl0 ?_
    refine jr_ldc2l jf_83_15 ?_
    refine jr_lcmp jf_83_18 ?_
    replace h := ite_or h; rcases h with ⟨hc, h⟩ | ⟨hc, h⟩
    · refine jr_ifl_ge_t jf_83_19 hc ?_
      refine jr_lload_n jf_83_28 rfl hl0 ?_
      subst h
      exact jr_retJ jf_83_29 jmt_83
    · refine jr_ifl_ge_f jf_83_19 hc ?_
      refine jr_ldc2l jf_83_22 ?_
      refine jr_goto jf_83_25 ?_
      subst h
      exact jr_retJ jf_83_29 jmt_83
  · refine jr_ifl_le_f jf_83_5 hc ?_
    refine jr_ldc2l jf_83_8 ?_
    refine jr_goto jf_83_11 ?_
    subst h
    exact jr_retJ jf_83_29 jmt_83
set_option maxRecDepth 10000 in
set_option maxHeartbeats 4000000 in
theorem r_Shorts_cut {B : Nat} {SA : Nat → Nat} {d : Nat} (hd : 0 ≤ d) : ∀ (v0 : Int64) (μ : JMem) (r : Int64), g_Shorts_cut v0 = r → jR B SA d m_Shorts_cut 0 (lv_args 0 [.long v0]) [] μ (some (.long r)) μ := by
  intro v0 μ r h
  exact r_Shorts_cut_e hd (lv_args 0 _) _ _ _ (by simp [lv_args, jget, rv_cat, cat_int, cat_long, cat_double, cat_float, cat_ref]) h
/-! FilterBench$Shorts.limited(JI)J -/
set_option maxRecDepth 10000 in
set_option maxHeartbeats 4000000 in
theorem r_Shorts_limited_e {B : Nat} {SA : Nat → Nat} {d : Nat} (hd : 1 ≤ d) : ∀ (L : JLoc) (v0 : Int64) (v2 : Int32) (μ : JMem) (r : Int64), jget L 0 = .long v0 → jget L 2 = .int v2 → g_Shorts_limited v0 v2 = r → jR B SA d m_Shorts_limited 0 L [] μ (some (.long r)) μ := by
  intro L v0 v2 μ r hl0 hl2 h
  unfold g_Shorts_limited at h
  refine jr_iload_n jf_82_0 rfl hl2 ?_
  replace h := ite_or h; rcases h with ⟨hc, h⟩ | ⟨hc, h⟩
  · refine jr_if_ne_f jf_82_1 hc ?_
    refine jr_lload_n jf_82_4 rfl hl0 ?_
    refine jr_S3_1 jf_82_5 (by omega) (r_Shorts_cut (by omega) _ _ _ rfl) (Nat.le_of_ble_eq_true rfl) jml_83 (Nat.le_of_ble_eq_true rfl) ?_
    refine jr_goto jf_82_8 ?_
    subst h
    exact jr_retJ jf_82_15 jmt_82
  · refine jr_if_ne_t jf_82_1 hc ?_
    refine jr_lload_n jf_82_11 rfl hl0 ?_
    refine jr_l2i jf_82_12 ?_
    refine jr_i2s jf_82_13 ?_
    refine jr_i2l jf_82_14 ?_
    subst h
    exact jr_retJ jf_82_15 jmt_82
set_option maxRecDepth 10000 in
set_option maxHeartbeats 4000000 in
theorem r_Shorts_limited {B : Nat} {SA : Nat → Nat} {d : Nat} (hd : 1 ≤ d) : ∀ (v0 : Int64) (v2 : Int32) (μ : JMem) (r : Int64), g_Shorts_limited v0 v2 = r → jR B SA d m_Shorts_limited 0 (lv_args 0 [.long v0, .int v2]) [] μ (some (.long r)) μ := by
  intro v0 v2 μ r h
  exact r_Shorts_limited_e hd (lv_args 0 _) _ _ _ _ (by simp [lv_args, jget, rv_cat, cat_int, cat_long, cat_double, cat_float, cat_ref]) (by simp [lv_args, jget, rv_cat, cat_int, cat_long, cat_double, cat_float, cat_ref]) h
/-! FilterBench$Shorts.rounded(JI)J -/
set_option maxRecDepth 10000 in
set_option maxHeartbeats 4000000 in
theorem r_Shorts_rounded_e {B : Nat} {SA : Nat → Nat} {d : Nat} (hd : 0 ≤ d) : ∀ (L : JLoc) (v0 : Int64) (v2 : Int32) (μ : JMem) (r : Int64), jget L 0 = .long v0 → jget L 2 = .int v2 → g_Shorts_rounded v0 v2 = r → jR B SA d m_Shorts_rounded 0 L [] μ (some (.long r)) μ := by
  intro L v0 v2 μ r hl0 hl2 h
  unfold g_Shorts_rounded at h
  refine jr_iload_n jf_80_0 rfl hl2 ?_
  replace h := ite_or h; rcases h with ⟨hc, h⟩ | ⟨hc, h⟩
  · refine jr_if_ne_f jf_80_1 hc ?_
    refine jr_lload_n jf_80_4 rfl hl0 ?_
    refine jr_ldc2l jf_80_5 ?_
    refine jr_ladd jf_80_8 ?_
    refine jr_bipush jf_80_9 jc_b_14 ?_
    refine jr_lshr jf_80_11 ?_
    refine jr_goto jf_80_12 ?_
    subst h
    exact jr_retJ jf_80_20 jmt_80
  · refine jr_if_ne_t jf_80_1 hc ?_
    refine jr_lload_n jf_80_15 rfl hl0 ?_
    refine jr_ldc2l jf_80_16 ?_
    refine jr_ldiv jf_80_19 (by simp only [jdivL]; exact if_neg (by decide)) ?_
    subst h
    exact jr_retJ jf_80_20 jmt_80
set_option maxRecDepth 10000 in
set_option maxHeartbeats 4000000 in
theorem r_Shorts_rounded {B : Nat} {SA : Nat → Nat} {d : Nat} (hd : 0 ≤ d) : ∀ (v0 : Int64) (v2 : Int32) (μ : JMem) (r : Int64), g_Shorts_rounded v0 v2 = r → jR B SA d m_Shorts_rounded 0 (lv_args 0 [.long v0, .int v2]) [] μ (some (.long r)) μ := by
  intro v0 v2 μ r h
  exact r_Shorts_rounded_e hd (lv_args 0 _) _ _ _ _ (by simp [lv_args, jget, rv_cat, cat_int, cat_long, cat_double, cat_float, cat_ref]) (by simp [lv_args, jget, rv_cat, cat_int, cat_long, cat_double, cat_float, cat_ref]) h
/-! FilterBench$Section.settled(J)J -/
set_option maxRecDepth 10000 in
set_option maxHeartbeats 4000000 in
theorem r_Section_settled_67 {B : Nat} {SA : Nat → Nat} {d : Nat} (hd : 2 ≤ d) : ∀ (L : JLoc) (v0 : Nat) (v5 : Int64) (μ : JMem) (r : Int64) (μ9 : JMem), jget L 0 = .ref v0 → jget L 5 = .long v5 → g_Section_settled_67 B v0 v5 μ = some (r, μ9) → jR B SA d m_Section_settled 67 L [] μ (some (.long r)) μ9 := by
  intro L v0 v5 μ r μ9 hl0 hl5 h
  unfold g_Section_settled_67 at h
  refine jr_lload jf_79_67 hl5 ?_
  refine jr_S3_1 jf_79_69 (by omega) (r_Shorts_isShort (by omega) _ _ _ rfl) (Nat.le_of_ble_eq_true rfl) jml_81 (Nat.le_of_ble_eq_true rfl) ?_
  replace h := ite_or h; rcases h with ⟨hc, h⟩ | ⟨hc, h⟩
  · refine jr_ifz_eq_f jf_79_72 hc ?_
    refine jr_lload jf_79_75 hl5 ?_
    obtain ⟨rfl, rfl⟩ := Prod.mk.inj (Option.some.inj h)
    exact jr_retJ jf_79_77 jmt_79
  · refine jr_ifz_eq_t jf_79_72 hc ?_
    refine jr_aload_n jf_79_78 rfl hl0 ?_
    refine jr_dup jf_79_79 rfl ?_
    replace h := obd_of h; obtain ⟨x1, hx1, h⟩ := h
    refine jr_getI jf_79_80 hx1 ?_
    refine jr_iconst jf_79_83 jc_i_1 ?_
    refine jr_iadd jf_79_84 ?_
    replace h := obd_of h; obtain ⟨μ2, hμ2, h⟩ := h
    refine jr_putI jf_79_85 rfl hμ2 ?_
    refine jr_lload jf_79_88 hl5 ?_
    refine jr_aload_n jf_79_90 rfl hl0 ?_
    replace h := obd_of h; obtain ⟨x3, hx3, h⟩ := h
    refine jr_getI jf_79_91 hx3 ?_
    refine jr_S3_2 jf_79_94 (by omega) (r_Shorts_limited (by omega) _ _ _ _ rfl) (Nat.le_of_ble_eq_true rfl) jml_82 (Nat.le_of_ble_eq_true rfl) ?_
    obtain ⟨rfl, rfl⟩ := Prod.mk.inj (Option.some.inj h)
    exact jr_retJ jf_79_97 jmt_79
set_option maxRecDepth 10000 in
set_option maxHeartbeats 4000000 in
theorem r_Section_settled_32 {B : Nat} {SA : Nat → Nat} {d : Nat} (hd : 2 ≤ d) : ∀ (L : JLoc) (v0 : Nat) (s0 : Int64) (μ : JMem) (r : Int64) (μ9 : JMem), jget L 0 = .ref v0 → g_Section_settled_32 B v0 s0 μ = some (r, μ9) → jR B SA d m_Section_settled 32 L [.long s0] μ (some (.long r)) μ9 := by
  intro L v0 s0 μ r μ9 hl0 h
  unfold g_Section_settled_32 at h
  refine jr_lstore_n jf_79_32 rfl jml_79 (by decide) ?_
  refine jr_lload_n jf_79_33 rfl jg2_same ?_
  refine jr_aload_n jf_79_34 rfl (jg2_ne rfl hl0) ?_
  replace h := obd_of h; obtain ⟨x1, hx1, h⟩ := h
  refine jr_getI jf_79_35 hx1 ?_
  refine jr_S3_2 jf_79_38 (by omega) (r_Shorts_rounded (by omega) _ _ _ _ rfl) (Nat.le_of_ble_eq_true rfl) jml_80 (Nat.le_of_ble_eq_true rfl) ?_
  refine jr_lstore jf_79_41 jml_79 (by decide) ?_
  refine jr_aload_n jf_79_43 rfl (jg2_ne rfl (jg2_ne rfl hl0)) ?_
  replace h := obd_of h; obtain ⟨x2, hx2, h⟩ := h
  refine jr_getI jf_79_44 hx2 ?_
  refine jr_iconst jf_79_47 jc_i_2 ?_
  replace h := ite_or h; rcases h with ⟨hc, h⟩ | ⟨hc, h⟩
  · refine jr_if2_ne_f jf_79_48 hc ?_
    refine jr_aload_n jf_79_51 rfl (jg2_ne rfl (jg2_ne rfl hl0)) ?_
    replace h := obd_of h; obtain ⟨x3, hx3, h⟩ := h
    refine jr_getA jf_79_52 hx3 ?_
    refine jr_iconst jf_79_55 jc_i_0 ?_
    refine jr_lload_n jf_79_56 rfl (jg2_ne rfl jg2_same) ?_
    refine jr_lload jf_79_57 jg2_same ?_
    refine jr_ldc2l jf_79_59 ?_
    refine jr_lmul jf_79_62 ?_
    refine jr_lsub jf_79_63 ?_
    replace h := obd_of h; obtain ⟨a4, rfl, h⟩ := h
    replace h := jgd_of h; obtain ⟨hb5, h⟩ := h
    replace h := obd_of h; obtain ⟨μ6, hμ6, h⟩ := h
    refine jr_V6v_2 jf_79_64 hb5 (by omega) (r_Row_put (by omega) _ _ _ _ _ hμ6) (Nat.le_of_ble_eq_true rfl) jml_66 (Nat.le_of_ble_eq_true rfl) ?_
    exact r_Section_settled_67 hd _ _ _ _ _ _ (jg2_ne rfl (jg2_ne rfl hl0)) jg2_same h
  · refine jr_if2_ne_t jf_79_48 hc ?_
    exact r_Section_settled_67 hd _ _ _ _ _ _ (jg2_ne rfl (jg2_ne rfl hl0)) jg2_same h
set_option maxRecDepth 10000 in
set_option maxHeartbeats 4000000 in
theorem r_Section_settled_e {B : Nat} {SA : Nat → Nat} {d : Nat} (hd : 2 ≤ d) : ∀ (L : JLoc) (v0 : Nat) (v1 : Int64) (μ : JMem) (r : Int64) (μ9 : JMem), jget L 0 = .ref v0 → jget L 1 = .long v1 → g_Section_settled B v0 v1 μ = some (r, μ9) → jR B SA d m_Section_settled 0 L [] μ (some (.long r)) μ9 := by
  intro L v0 v1 μ r μ9 hl0 hl1 h
  unfold g_Section_settled at h
  refine jr_aload_n jf_79_0 rfl hl0 ?_
  replace h := obd_of h; obtain ⟨x1, hx1, h⟩ := h
  refine jr_getI jf_79_1 hx1 ?_
  refine jr_iconst jf_79_4 jc_i_2 ?_
  replace h := ite_or h; rcases h with ⟨hc, h⟩ | ⟨hc, h⟩
  · refine jr_if2_eq_t jf_79_5 hc ?_
    refine jr_aload_n jf_79_10 rfl hl0 ?_
    replace h := obd_of h; obtain ⟨x2, hx2, h⟩ := h
    refine jr_getI jf_79_11 hx2 ?_
    refine jr_iconst jf_79_14 jc_i_2 ?_
    replace h := ite_or h; rcases h with ⟨hc, h⟩ | ⟨hc, h⟩
    · refine jr_if2_ne_f jf_79_15 hc ?_
      refine jr_lload_n jf_79_18 rfl hl1 ?_
      refine jr_aload_n jf_79_19 rfl hl0 ?_
      replace h := obd_of h; obtain ⟨x3, hx3, h⟩ := h
      refine jr_getA jf_79_20 hx3 ?_
      refine jr_iconst jf_79_23 jc_i_0 ?_
      replace h := obd_of h; obtain ⟨a4, rfl, h⟩ := h
      replace h := jgd_of h; obtain ⟨hb5, h⟩ := h
      replace h := obd_of h; obtain ⟨x6, hx6, h⟩ := h
      refine jr_V6_1 jf_79_24 hb5 (by omega) (r_Row_at (by omega) _ _ _ _ hx6) (Nat.le_of_ble_eq_true rfl) jml_38 (Nat.le_of_ble_eq_true rfl) ?_
      refine jr_ladd jf_79_27 ?_
      refine jr_goto jf_79_28 ?_
      exact r_Section_settled_32 hd _ _ _ _ _ _ hl0 h
    · refine jr_if2_ne_t jf_79_15 hc ?_
      refine jr_lload_n jf_79_31 rfl hl1 ?_
      exact r_Section_settled_32 hd _ _ _ _ _ _ hl0 h
  · refine jr_if2_eq_f jf_79_5 hc ?_
    refine jr_lload_n jf_79_8 rfl hl1 ?_
    obtain ⟨rfl, rfl⟩ := Prod.mk.inj (Option.some.inj h)
    exact jr_retJ jf_79_9 jmt_79
set_option maxRecDepth 10000 in
set_option maxHeartbeats 4000000 in
theorem r_Section_settled {B : Nat} {SA : Nat → Nat} {d : Nat} (hd : 2 ≤ d) : ∀ (v0 : Nat) (v1 : Int64) (μ : JMem) (r : Int64) (μ9 : JMem), g_Section_settled B v0 v1 μ = some (r, μ9) → jR B SA d m_Section_settled 0 (lv_args 0 [.ref v0, .long v1]) [] μ (some (.long r)) μ9 := by
  intro v0 v1 μ r μ9 h
  exact r_Section_settled_e hd (lv_args 0 _) _ _ _ _ _ (by simp [lv_args, jget, rv_cat, cat_int, cat_long, cat_double, cat_float, cat_ref]) (by simp [lv_args, jget, rv_cat, cat_int, cat_long, cat_double, cat_float, cat_ref]) h
/-! FilterBench$Shorts.plus(JJ)J -/
set_option maxRecDepth 10000 in
set_option maxHeartbeats 4000000 in
theorem r_Shorts_plus_e {B : Nat} {SA : Nat → Nat} {d : Nat} (hd : 0 ≤ d) : ∀ (L : JLoc) (v1 : Int64) (v3 : Int64) (μ : JMem) (r : Int64), jget L 1 = .long v1 → jget L 3 = .long v3 → g_Shorts_plus_e v1 v3 = r → jR B SA d m_Shorts_plus 0 L [] μ (some (.long r)) μ := by
  intro L v1 v3 μ r hl1 hl3 h
  unfold g_Shorts_plus_e at h
  refine jr_lload_n jf_78_0 rfl hl1 ?_
  refine jr_lload_n jf_78_1 rfl hl3 ?_
  refine jr_ladd jf_78_2 ?_
  subst h
  exact jr_retJ jf_78_3 jmt_78
set_option maxRecDepth 10000 in
set_option maxHeartbeats 4000000 in
theorem r_Shorts_plus {B : Nat} {SA : Nat → Nat} {d : Nat} (hd : 0 ≤ d) : ∀ (v0 : Nat) (v1 : Int64) (v3 : Int64) (μ : JMem) (r : Int64), g_Shorts_plus v0 v1 v3 = r → jR B SA d m_Shorts_plus 0 (lv_args 0 [.ref v0, .long v1, .long v3]) [] μ (some (.long r)) μ := by
  intro v0 v1 v3 μ r h
  exact r_Shorts_plus_e hd (lv_args 0 _) _ _ _ _ (by simp [lv_args, jget, rv_cat, cat_int, cat_long, cat_double, cat_float, cat_ref]) (by simp [lv_args, jget, rv_cat, cat_int, cat_long, cat_double, cat_float, cat_ref]) h
/-! FilterBench$Shorts.product(JJ)J -/
set_option maxRecDepth 10000 in
set_option maxHeartbeats 4000000 in
theorem r_Shorts_product_e {B : Nat} {SA : Nat → Nat} {d : Nat} (hd : 0 ≤ d) : ∀ (L : JLoc) (v1 : Int64) (v3 : Int64) (μ : JMem) (r : Int64), jget L 1 = .long v1 → jget L 3 = .long v3 → g_Shorts_product_e v1 v3 = r → jR B SA d m_Shorts_product 0 L [] μ (some (.long r)) μ := by
  intro L v1 v3 μ r hl1 hl3 h
  unfold g_Shorts_product_e at h
  refine jr_lload_n jf_71_0 rfl hl1 ?_
  refine jr_lload_n jf_71_1 rfl hl3 ?_
  refine jr_lmul jf_71_2 ?_
  subst h
  exact jr_retJ jf_71_3 jmt_71
set_option maxRecDepth 10000 in
set_option maxHeartbeats 4000000 in
theorem r_Shorts_product {B : Nat} {SA : Nat → Nat} {d : Nat} (hd : 0 ≤ d) : ∀ (v0 : Nat) (v1 : Int64) (v3 : Int64) (μ : JMem) (r : Int64), g_Shorts_product v0 v1 v3 = r → jR B SA d m_Shorts_product 0 (lv_args 0 [.ref v0, .long v1, .long v3]) [] μ (some (.long r)) μ := by
  intro v0 v1 v3 μ r h
  exact r_Shorts_product_e hd (lv_args 0 _) _ _ _ _ (by simp [lv_args, jget, rv_cat, cat_int, cat_long, cat_double, cat_float, cat_ref]) (by simp [lv_args, jget, rv_cat, cat_int, cat_long, cat_double, cat_float, cat_ref]) h
/-! FilterBench$Shorts.term(J)J -/
set_option maxRecDepth 10000 in
set_option maxHeartbeats 4000000 in
theorem r_Shorts_term_e {B : Nat} {SA : Nat → Nat} {d : Nat} (hd : 0 ≤ d) : ∀ (L : JLoc) (v1 : Int64) (μ : JMem) (r : Int64), jget L 1 = .long v1 → g_Shorts_term_e v1 = r → jR B SA d m_Shorts_term 0 L [] μ (some (.long r)) μ := by
  intro L v1 μ r hl1 h
  unfold g_Shorts_term_e at h
  refine jr_lload_n jf_73_0 rfl hl1 ?_
  refine jr_ldc2l jf_73_1 ?_
  refine jr_lmul jf_73_4 ?_
  subst h
  exact jr_retJ jf_73_5 jmt_73
set_option maxRecDepth 10000 in
set_option maxHeartbeats 4000000 in
theorem r_Shorts_term {B : Nat} {SA : Nat → Nat} {d : Nat} (hd : 0 ≤ d) : ∀ (v0 : Nat) (v1 : Int64) (μ : JMem) (r : Int64), g_Shorts_term v0 v1 = r → jR B SA d m_Shorts_term 0 (lv_args 0 [.ref v0, .long v1]) [] μ (some (.long r)) μ := by
  intro v0 v1 μ r h
  exact r_Shorts_term_e hd (lv_args 0 _) _ _ _ (by simp [lv_args, jget, rv_cat, cat_int, cat_long, cat_double, cat_float, cat_ref]) h
/-! FilterBench$Chain.looped(ILFilterBench$Section;J)J -/
set_option maxRecDepth 10000 in
set_option maxHeartbeats 4000000 in
theorem r_Chain_looped_84 {N B : Nat} {SA : Nat → Nat} {d : Nat} (hd : 4 ≤ d) {k6 : Nat → Int32 → Option Nat → Int64 → Int32 → JMem → Option (Int64 × JMem)} (i6 : ∀ (L : JLoc) (v0 : Nat) (v1 : Int32) (v2 : Option Nat) (v5 : Int64) (v7 : Int32) (μ : JMem) (r : Int64) (μ9 : JMem), jget L 0 = .ref v0 → jget L 1 = .int v1 → jget L 2 = rv v2 → jget L 5 = .long v5 → jget L 7 = .int v7 → k6 v0 v1 v2 v5 v7 μ = some (r, μ9) → jR B SA d m_Chain_looped 6 L [] μ (some (.long r)) μ9) : ∀ (L : JLoc) (v0 : Nat) (v1 : Int32) (v2 : Option Nat) (v5 : Int64) (v7 : Int32) (μ : JMem) (r : Int64) (μ9 : JMem), jget L 0 = .ref v0 → jget L 1 = .int v1 → jget L 2 = rv v2 → jget L 5 = .long v5 → jget L 7 = .int v7 → g_Chain_looped_84 N B k6 v0 v1 v2 v5 v7 μ = some (r, μ9) → jR B SA d m_Chain_looped 84 L [] μ (some (.long r)) μ9 := by
  intro L v0 v1 v2 v5 v7 μ r μ9 hl0 hl1 hl2 hl5 hl7 h
  unfold g_Chain_looped_84 at h
  refine jr_iinc jf_67_84 jc_i_1 jml_67 (by decide) hl7 ?_
  refine jr_goto jf_67_87 ?_
  exact i6 _ _ _ _ _ _ _ _ _ (jg1_ne rfl hl0) (jg1_ne rfl hl1) (jg1_ne rfl hl2) (jg1_ne rfl hl5) jg1_same h
set_option maxRecDepth 10000 in
set_option maxHeartbeats 4000000 in
theorem r_Chain_looped_6 {N B : Nat} {SA : Nat → Nat} {d : Nat} (hd : 4 ≤ d) : ∀ (n : Nat), ∀ (L : JLoc) (v0 : Nat) (v1 : Int32) (v2 : Option Nat) (v5 : Int64) (v7 : Int32) (μ : JMem) (r : Int64) (μ9 : JMem), jget L 0 = .ref v0 → jget L 1 = .int v1 → jget L 2 = rv v2 → jget L 5 = .long v5 → jget L 7 = .int v7 → g_Chain_looped_6 N B n v0 v1 v2 v5 v7 μ = some (r, μ9) → jR B SA d m_Chain_looped 6 L [] μ (some (.long r)) μ9 := by
  intro n
  induction n with
  | zero =>
    intro L v0 v1 v2 v5 v7 μ r μ9 hl0 hl1 hl2 hl5 hl7 h
    unfold g_Chain_looped_6 at h
    cases h
  | succ n ih =>
    intro L v0 v1 v2 v5 v7 μ r μ9 hl0 hl1 hl2 hl5 hl7 h
    unfold g_Chain_looped_6 at h
    refine jr_iload jf_67_6 hl7 ?_
    refine jr_aload_n jf_67_8 rfl hl0 ?_
    replace h := obd_of h; obtain ⟨x1, hx1, h⟩ := h
    refine jr_getI jf_67_9 hx1 ?_
    replace h := ite_or h; rcases h with ⟨hc, h⟩ | ⟨hc, h⟩
    · refine jr_if2_ge_t jf_67_12 hc ?_
      refine jr_lload jf_67_90 hl5 ?_
      obtain ⟨rfl, rfl⟩ := Prod.mk.inj (Option.some.inj h)
      exact jr_retJ jf_67_92 jmt_67
    · refine jr_if2_ge_f jf_67_12 hc ?_
      refine jr_aload_n jf_67_15 rfl hl0 ?_
      refine jr_iload jf_67_16 hl7 ?_
      replace h := jgd_of h; obtain ⟨hb2, h⟩ := h
      replace h := obd_of h; obtain ⟨x3, hx3, h⟩ := h
      refine jr_V6_1 jf_67_18 hb2 (by omega) (r_Chain_loopAt (by omega) _ _ _ _ hx3) (Nat.le_of_ble_eq_true rfl) jml_68 (Nat.le_of_ble_eq_true rfl) ?_
      refine jr_astore_A jf_67_21 jml_67 (by decide) ?_
      refine jr_aload_A jf_67_23 jg1_same ?_
      replace h := jon_or h; rcases h with ⟨rfl, h⟩ | ⟨a4, rfl, h⟩
      · refine jr_ifnull_n jf_67_25 ?_
        exact r_Chain_looped_84 hd ih _ _ _ _ _ _ _ _ _ (jg1_ne rfl hl0) (jg1_ne rfl hl1) (jg1_ne rfl hl2) (jg1_ne rfl hl5) (jg1_pre rfl hl7) h
      · refine jr_ifnull_s jf_67_25 ?_
        refine jr_aload jf_67_28 jg1_same ?_
        replace h := obd_of h; obtain ⟨x5, hx5, h⟩ := h
        refine jr_getI jf_67_30 hx5 ?_
        refine jr_iload_n jf_67_33 rfl (jg1_ne rfl hl1) ?_
        replace h := ite_or h; rcases h with ⟨hc, h⟩ | ⟨hc, h⟩
        · refine jr_if2_ne_f jf_67_34 hc ?_
          refine jr_aload_n_A jf_67_37 rfl (jg1_ne rfl hl2) ?_
          replace h := obd_of h; obtain ⟨a6, rfl, h⟩ := h
          replace h := obd_of h; obtain ⟨x7, hx7, h⟩ := h
          refine jr_getA jf_67_38 hx7 ?_
          refine jr_aload jf_67_41 jg1_same ?_
          replace h := obd_of h; obtain ⟨x8, hx8, h⟩ := h
          refine jr_getJ jf_67_43 hx8 ?_
          refine jr_aload jf_67_46 jg1_same ?_
          replace h := obd_of h; obtain ⟨x9, hx9, h⟩ := h
          refine jr_getA jf_67_48 hx9 ?_
          refine jr_iconst jf_67_51 jc_i_0 ?_
          replace h := obd_of h; obtain ⟨a10, rfl, h⟩ := h
          replace h := jgd_of h; obtain ⟨hb11, h⟩ := h
          replace h := obd_of h; obtain ⟨x12, hx12, h⟩ := h
          refine jr_V6_1 jf_67_52 hb11 (by omega) (r_Row_at (by omega) _ _ _ _ hx12) (by simp only [jcats_cons, jcats_nil, cat_int, cat_long, cat_double, cat_float, cat_ref, rv_cat]; decide) jml_38 (Nat.le_of_ble_eq_true rfl) ?_
          replace h := obd_of h; obtain ⟨a13, rfl, h⟩ := h
          replace h := obd_of h; obtain ⟨x14, hx14, h⟩ := h
          rcases ite_or hx14 with ⟨hb, hx⟩ | ⟨hb0, hx⟩
          · refine jr_V8a_2 jf_67_55 hb (by omega) (r_Real_product (by omega) _ _ _ _ _ hx) (Nat.le_of_ble_eq_true rfl) jml_69 (Nat.le_of_ble_eq_true rfl) ?_
            refine jr_lstore jf_67_58 jml_67 (by decide) ?_
            refine jr_aload_n jf_67_60 rfl (jg2_ne rfl (jg1_ne rfl hl2)) ?_
            refine jr_aload_n jf_67_61 rfl (jg2_ne rfl (jg1_ne rfl hl2)) ?_
            replace h := obd_of h; obtain ⟨x15, hx15, h⟩ := h
            refine jr_getA jf_67_62 hx15 ?_
            refine jr_aload_n jf_67_65 rfl (jg2_ne rfl (jg1_ne rfl hl2)) ?_
            replace h := obd_of h; obtain ⟨x16, hx16, h⟩ := h
            refine jr_getA jf_67_66 hx16 ?_
            refine jr_lload jf_67_69 (jg2_ne rfl (jg1_ne rfl hl5)) ?_
            replace h := obd_of h; obtain ⟨a17, rfl, h⟩ := h
            replace h := obd_of h; obtain ⟨x18, hx18, h⟩ := h
            rcases ite_or hx18 with ⟨hb, hx⟩ | ⟨hb0, hx⟩
            · obtain hx := Option.some.inj hx
              refine jr_V8a_1 jf_67_71 hb (by omega) (r_Real_term (by omega) _ _ _ _ hx) (by simp only [jcats_cons, jcats_nil, cat_int, cat_long, cat_double, cat_float, cat_ref, rv_cat]; decide) jml_72 (Nat.le_of_ble_eq_true rfl) ?_
              refine jr_lload jf_67_74 jg2_same ?_
              replace h := obd_of h; obtain ⟨a19, rfl, h⟩ := h
              replace h := obd_of h; obtain ⟨x20, hx20, h⟩ := h
              rcases ite_or hx20 with ⟨hb, hx⟩ | ⟨hb0, hx⟩
              · refine jr_V8a_2 jf_67_76 hb (by omega) (r_Real_plus (by omega) _ _ _ _ _ hx) (Nat.le_of_ble_eq_true rfl) jml_74 (Nat.le_of_ble_eq_true rfl) ?_
                replace h := jgd_of h; obtain ⟨hb21, h⟩ := h
                replace h := jbd2_of h; obtain ⟨x22, μ23, hx22, h⟩ := h
                refine jr_V6_1 jf_67_79 hb21 (by omega) (r_Section_settled (by omega) _ _ _ _ _ hx22) (Nat.le_of_ble_eq_true rfl) jml_79 (Nat.le_of_ble_eq_true rfl) ?_
                refine jr_lstore jf_67_82 jml_67 (by decide) ?_
                exact r_Chain_looped_84 hd ih _ _ _ (some _) _ _ _ _ _ (jg2_ne rfl (jg2_ne rfl (jg1_ne rfl hl0))) (jg2_ne rfl (jg2_ne rfl (jg1_ne rfl hl1))) (jg2_ne rfl (jg2_ne rfl (jg1_ne rfl hl2))) jg2_same (jg2_ne rfl (jg2_ne rfl (jg1_pre rfl hl7))) h
              · obtain ⟨hb, hx⟩ := jgd_of hx
                obtain hx := Option.some.inj hx
                refine jr_V8b_2 jf_67_76 hb0 hb (by omega) (r_Shorts_plus (by omega) _ _ _ _ _ hx) (Nat.le_of_ble_eq_true rfl) jml_78 (Nat.le_of_ble_eq_true rfl) ?_
                replace h := jgd_of h; obtain ⟨hb21, h⟩ := h
                replace h := jbd2_of h; obtain ⟨x22, μ23, hx22, h⟩ := h
                refine jr_V6_1 jf_67_79 hb21 (by omega) (r_Section_settled (by omega) _ _ _ _ _ hx22) (Nat.le_of_ble_eq_true rfl) jml_79 (Nat.le_of_ble_eq_true rfl) ?_
                refine jr_lstore jf_67_82 jml_67 (by decide) ?_
                exact r_Chain_looped_84 hd ih _ _ _ (some _) _ _ _ _ _ (jg2_ne rfl (jg2_ne rfl (jg1_ne rfl hl0))) (jg2_ne rfl (jg2_ne rfl (jg1_ne rfl hl1))) (jg2_ne rfl (jg2_ne rfl (jg1_ne rfl hl2))) jg2_same (jg2_ne rfl (jg2_ne rfl (jg1_pre rfl hl7))) h
            · obtain ⟨hb, hx⟩ := jgd_of hx
              obtain hx := Option.some.inj hx
              refine jr_V8b_1 jf_67_71 hb0 hb (by omega) (r_Shorts_term (by omega) _ _ _ _ hx) (by simp only [jcats_cons, jcats_nil, cat_int, cat_long, cat_double, cat_float, cat_ref, rv_cat]; decide) jml_73 (Nat.le_of_ble_eq_true rfl) ?_
              refine jr_lload jf_67_74 jg2_same ?_
              replace h := obd_of h; obtain ⟨a19, rfl, h⟩ := h
              replace h := obd_of h; obtain ⟨x20, hx20, h⟩ := h
              rcases ite_or hx20 with ⟨hb, hx⟩ | ⟨hb0, hx⟩
              · refine jr_V8a_2 jf_67_76 hb (by omega) (r_Real_plus (by omega) _ _ _ _ _ hx) (Nat.le_of_ble_eq_true rfl) jml_74 (Nat.le_of_ble_eq_true rfl) ?_
                replace h := jgd_of h; obtain ⟨hb21, h⟩ := h
                replace h := jbd2_of h; obtain ⟨x22, μ23, hx22, h⟩ := h
                refine jr_V6_1 jf_67_79 hb21 (by omega) (r_Section_settled (by omega) _ _ _ _ _ hx22) (Nat.le_of_ble_eq_true rfl) jml_79 (Nat.le_of_ble_eq_true rfl) ?_
                refine jr_lstore jf_67_82 jml_67 (by decide) ?_
                exact r_Chain_looped_84 hd ih _ _ _ (some _) _ _ _ _ _ (jg2_ne rfl (jg2_ne rfl (jg1_ne rfl hl0))) (jg2_ne rfl (jg2_ne rfl (jg1_ne rfl hl1))) (jg2_ne rfl (jg2_ne rfl (jg1_ne rfl hl2))) jg2_same (jg2_ne rfl (jg2_ne rfl (jg1_pre rfl hl7))) h
              · obtain ⟨hb, hx⟩ := jgd_of hx
                obtain hx := Option.some.inj hx
                refine jr_V8b_2 jf_67_76 hb0 hb (by omega) (r_Shorts_plus (by omega) _ _ _ _ _ hx) (Nat.le_of_ble_eq_true rfl) jml_78 (Nat.le_of_ble_eq_true rfl) ?_
                replace h := jgd_of h; obtain ⟨hb21, h⟩ := h
                replace h := jbd2_of h; obtain ⟨x22, μ23, hx22, h⟩ := h
                refine jr_V6_1 jf_67_79 hb21 (by omega) (r_Section_settled (by omega) _ _ _ _ _ hx22) (Nat.le_of_ble_eq_true rfl) jml_79 (Nat.le_of_ble_eq_true rfl) ?_
                refine jr_lstore jf_67_82 jml_67 (by decide) ?_
                exact r_Chain_looped_84 hd ih _ _ _ (some _) _ _ _ _ _ (jg2_ne rfl (jg2_ne rfl (jg1_ne rfl hl0))) (jg2_ne rfl (jg2_ne rfl (jg1_ne rfl hl1))) (jg2_ne rfl (jg2_ne rfl (jg1_ne rfl hl2))) jg2_same (jg2_ne rfl (jg2_ne rfl (jg1_pre rfl hl7))) h
          · obtain ⟨hb, hx⟩ := jgd_of hx
            obtain hx := Option.some.inj hx
            refine jr_V8b_2 jf_67_55 hb0 hb (by omega) (r_Shorts_product (by omega) _ _ _ _ _ hx) (Nat.le_of_ble_eq_true rfl) jml_71 (Nat.le_of_ble_eq_true rfl) ?_
            refine jr_lstore jf_67_58 jml_67 (by decide) ?_
            refine jr_aload_n jf_67_60 rfl (jg2_ne rfl (jg1_ne rfl hl2)) ?_
            refine jr_aload_n jf_67_61 rfl (jg2_ne rfl (jg1_ne rfl hl2)) ?_
            replace h := obd_of h; obtain ⟨x15, hx15, h⟩ := h
            refine jr_getA jf_67_62 hx15 ?_
            refine jr_aload_n jf_67_65 rfl (jg2_ne rfl (jg1_ne rfl hl2)) ?_
            replace h := obd_of h; obtain ⟨x16, hx16, h⟩ := h
            refine jr_getA jf_67_66 hx16 ?_
            refine jr_lload jf_67_69 (jg2_ne rfl (jg1_ne rfl hl5)) ?_
            replace h := obd_of h; obtain ⟨a17, rfl, h⟩ := h
            replace h := obd_of h; obtain ⟨x18, hx18, h⟩ := h
            rcases ite_or hx18 with ⟨hb, hx⟩ | ⟨hb0, hx⟩
            · obtain hx := Option.some.inj hx
              refine jr_V8a_1 jf_67_71 hb (by omega) (r_Real_term (by omega) _ _ _ _ hx) (by simp only [jcats_cons, jcats_nil, cat_int, cat_long, cat_double, cat_float, cat_ref, rv_cat]; decide) jml_72 (Nat.le_of_ble_eq_true rfl) ?_
              refine jr_lload jf_67_74 jg2_same ?_
              replace h := obd_of h; obtain ⟨a19, rfl, h⟩ := h
              replace h := obd_of h; obtain ⟨x20, hx20, h⟩ := h
              rcases ite_or hx20 with ⟨hb, hx⟩ | ⟨hb0, hx⟩
              · refine jr_V8a_2 jf_67_76 hb (by omega) (r_Real_plus (by omega) _ _ _ _ _ hx) (Nat.le_of_ble_eq_true rfl) jml_74 (Nat.le_of_ble_eq_true rfl) ?_
                replace h := jgd_of h; obtain ⟨hb21, h⟩ := h
                replace h := jbd2_of h; obtain ⟨x22, μ23, hx22, h⟩ := h
                refine jr_V6_1 jf_67_79 hb21 (by omega) (r_Section_settled (by omega) _ _ _ _ _ hx22) (Nat.le_of_ble_eq_true rfl) jml_79 (Nat.le_of_ble_eq_true rfl) ?_
                refine jr_lstore jf_67_82 jml_67 (by decide) ?_
                exact r_Chain_looped_84 hd ih _ _ _ (some _) _ _ _ _ _ (jg2_ne rfl (jg2_ne rfl (jg1_ne rfl hl0))) (jg2_ne rfl (jg2_ne rfl (jg1_ne rfl hl1))) (jg2_ne rfl (jg2_ne rfl (jg1_ne rfl hl2))) jg2_same (jg2_ne rfl (jg2_ne rfl (jg1_pre rfl hl7))) h
              · obtain ⟨hb, hx⟩ := jgd_of hx
                obtain hx := Option.some.inj hx
                refine jr_V8b_2 jf_67_76 hb0 hb (by omega) (r_Shorts_plus (by omega) _ _ _ _ _ hx) (Nat.le_of_ble_eq_true rfl) jml_78 (Nat.le_of_ble_eq_true rfl) ?_
                replace h := jgd_of h; obtain ⟨hb21, h⟩ := h
                replace h := jbd2_of h; obtain ⟨x22, μ23, hx22, h⟩ := h
                refine jr_V6_1 jf_67_79 hb21 (by omega) (r_Section_settled (by omega) _ _ _ _ _ hx22) (Nat.le_of_ble_eq_true rfl) jml_79 (Nat.le_of_ble_eq_true rfl) ?_
                refine jr_lstore jf_67_82 jml_67 (by decide) ?_
                exact r_Chain_looped_84 hd ih _ _ _ (some _) _ _ _ _ _ (jg2_ne rfl (jg2_ne rfl (jg1_ne rfl hl0))) (jg2_ne rfl (jg2_ne rfl (jg1_ne rfl hl1))) (jg2_ne rfl (jg2_ne rfl (jg1_ne rfl hl2))) jg2_same (jg2_ne rfl (jg2_ne rfl (jg1_pre rfl hl7))) h
            · obtain ⟨hb, hx⟩ := jgd_of hx
              obtain hx := Option.some.inj hx
              refine jr_V8b_1 jf_67_71 hb0 hb (by omega) (r_Shorts_term (by omega) _ _ _ _ hx) (by simp only [jcats_cons, jcats_nil, cat_int, cat_long, cat_double, cat_float, cat_ref, rv_cat]; decide) jml_73 (Nat.le_of_ble_eq_true rfl) ?_
              refine jr_lload jf_67_74 jg2_same ?_
              replace h := obd_of h; obtain ⟨a19, rfl, h⟩ := h
              replace h := obd_of h; obtain ⟨x20, hx20, h⟩ := h
              rcases ite_or hx20 with ⟨hb, hx⟩ | ⟨hb0, hx⟩
              · refine jr_V8a_2 jf_67_76 hb (by omega) (r_Real_plus (by omega) _ _ _ _ _ hx) (Nat.le_of_ble_eq_true rfl) jml_74 (Nat.le_of_ble_eq_true rfl) ?_
                replace h := jgd_of h; obtain ⟨hb21, h⟩ := h
                replace h := jbd2_of h; obtain ⟨x22, μ23, hx22, h⟩ := h
                refine jr_V6_1 jf_67_79 hb21 (by omega) (r_Section_settled (by omega) _ _ _ _ _ hx22) (Nat.le_of_ble_eq_true rfl) jml_79 (Nat.le_of_ble_eq_true rfl) ?_
                refine jr_lstore jf_67_82 jml_67 (by decide) ?_
                exact r_Chain_looped_84 hd ih _ _ _ (some _) _ _ _ _ _ (jg2_ne rfl (jg2_ne rfl (jg1_ne rfl hl0))) (jg2_ne rfl (jg2_ne rfl (jg1_ne rfl hl1))) (jg2_ne rfl (jg2_ne rfl (jg1_ne rfl hl2))) jg2_same (jg2_ne rfl (jg2_ne rfl (jg1_pre rfl hl7))) h
              · obtain ⟨hb, hx⟩ := jgd_of hx
                obtain hx := Option.some.inj hx
                refine jr_V8b_2 jf_67_76 hb0 hb (by omega) (r_Shorts_plus (by omega) _ _ _ _ _ hx) (Nat.le_of_ble_eq_true rfl) jml_78 (Nat.le_of_ble_eq_true rfl) ?_
                replace h := jgd_of h; obtain ⟨hb21, h⟩ := h
                replace h := jbd2_of h; obtain ⟨x22, μ23, hx22, h⟩ := h
                refine jr_V6_1 jf_67_79 hb21 (by omega) (r_Section_settled (by omega) _ _ _ _ _ hx22) (Nat.le_of_ble_eq_true rfl) jml_79 (Nat.le_of_ble_eq_true rfl) ?_
                refine jr_lstore jf_67_82 jml_67 (by decide) ?_
                exact r_Chain_looped_84 hd ih _ _ _ (some _) _ _ _ _ _ (jg2_ne rfl (jg2_ne rfl (jg1_ne rfl hl0))) (jg2_ne rfl (jg2_ne rfl (jg1_ne rfl hl1))) (jg2_ne rfl (jg2_ne rfl (jg1_ne rfl hl2))) jg2_same (jg2_ne rfl (jg2_ne rfl (jg1_pre rfl hl7))) h
        · refine jr_if2_ne_t jf_67_34 hc ?_
          exact r_Chain_looped_84 hd ih _ _ _ _ _ _ _ _ _ (jg1_ne rfl hl0) (jg1_ne rfl hl1) (jg1_ne rfl hl2) (jg1_ne rfl hl5) (jg1_pre rfl hl7) h
set_option maxRecDepth 10000 in
set_option maxHeartbeats 4000000 in
theorem r_Chain_looped_e {N B : Nat} {SA : Nat → Nat} {d : Nat} (hd : 4 ≤ d) : ∀ (L : JLoc) (v0 : Nat) (v1 : Int32) (v2 : Option Nat) (v3 : Int64) (μ : JMem) (r : Int64) (μ9 : JMem), jget L 0 = .ref v0 → jget L 1 = .int v1 → jget L 2 = rv v2 → jget L 3 = .long v3 → g_Chain_looped N B v0 v1 v2 v3 μ = some (r, μ9) → jR B SA d m_Chain_looped 0 L [] μ (some (.long r)) μ9 := by
  intro L v0 v1 v2 v3 μ r μ9 hl0 hl1 hl2 hl3 h
  unfold g_Chain_looped at h
  refine jr_lload_n jf_67_0 rfl hl3 ?_
  refine jr_lstore jf_67_1 jml_67 (by decide) ?_
  refine jr_iconst jf_67_3 jc_i_0 ?_
  refine jr_istore jf_67_4 jml_67 (by decide) ?_
  exact r_Chain_looped_6 hd _ _ _ _ _ _ _ _ _ _ (jg1_ne rfl (jg2_ne rfl hl0)) (jg1_ne rfl (jg2_ne rfl hl1)) (jg1_ne rfl (jg2_ne rfl hl2)) (jg1_ne rfl jg2_same) jg1_same h
set_option maxRecDepth 10000 in
set_option maxHeartbeats 4000000 in
theorem r_Chain_looped {N B : Nat} {SA : Nat → Nat} {d : Nat} (hd : 4 ≤ d) : ∀ (v0 : Nat) (v1 : Int32) (v2 : Option Nat) (v3 : Int64) (μ : JMem) (r : Int64) (μ9 : JMem), g_Chain_looped N B v0 v1 v2 v3 μ = some (r, μ9) → jR B SA d m_Chain_looped 0 (lv_args 0 [.ref v0, .int v1, rv v2, .long v3]) [] μ (some (.long r)) μ9 := by
  intro v0 v1 v2 v3 μ r μ9 h
  exact r_Chain_looped_e hd (lv_args 0 _) _ _ _ _ _ _ _ (by simp [lv_args, jget, rv_cat, cat_int, cat_long, cat_double, cat_float, cat_ref]) (by simp [lv_args, jget, rv_cat, cat_int, cat_long, cat_double, cat_float, cat_ref]) (by simp [lv_args, jget, rv_cat, cat_int, cat_long, cat_double, cat_float, cat_ref]) (by simp [lv_args, jget, rv_cat, cat_int, cat_long, cat_double, cat_float, cat_ref]) h
/-! FilterBench$Chain.madeBefore(I)J -/
set_option maxRecDepth 10000 in
set_option maxHeartbeats 4000000 in
theorem r_Chain_madeBefore_52 {B : Nat} {SA : Nat → Nat} {d : Nat} (hd : 0 ≤ d) : ∀ (L : JLoc) (μ : JMem) (r : Int64), g_Chain_madeBefore_52 μ.1 = some r → jR B SA d m_Chain_madeBefore 52 L [] μ (some (.long r)) μ := by
  intro L μ r h
  unfold g_Chain_madeBefore_52 at h
  refine jr_lconst0 jf_85_52 ?_
  refine jr_goto jf_85_53 ?_
  obtain rfl := Option.some.inj h
  exact jr_retJ jf_85_62 jmt_85
set_option maxRecDepth 10000 in
set_option maxHeartbeats 4000000 in
theorem r_Chain_madeBefore_38 {B : Nat} {SA : Nat → Nat} {d : Nat} (hd : 0 ≤ d) : ∀ (L : JLoc) (v0 : Nat) (s0 : Int32) (μ : JMem) (r : Int64), jget L 0 = .ref v0 → g_Chain_madeBefore_38 v0 s0 μ.1 = some r → jR B SA d m_Chain_madeBefore 38 L [.int s0] μ (some (.long r)) μ := by
  intro L v0 s0 μ r hl0 h
  unfold g_Chain_madeBefore_38 at h
  refine jr_istore_n jf_85_38 rfl jml_85 (by decide) ?_
  refine jr_iload_n jf_85_39 rfl jg1_same ?_
  replace h := ite_or h; rcases h with ⟨hc, h⟩ | ⟨hc, h⟩
  · refine jr_if_lt_t jf_85_40 hc ?_
    exact r_Chain_madeBefore_52 hd _  _ _ h
  · refine jr_if_lt_f jf_85_40 hc ?_
    refine jr_iload_n jf_85_43 rfl jg1_same ?_
    refine jr_aload_n jf_85_44 rfl (jg1_ne rfl hl0) ?_
    replace h := obd_of h; obtain ⟨x1, hx1, h⟩ := h
    refine jr_getA jf_85_45 hx1 ?_
    replace h := obd_of h; obtain ⟨a2, rfl, h⟩ := h
    replace h := obd_of h; obtain ⟨x3, hx3, h⟩ := h
    refine jr_arraylength jf_85_48 hx3 ?_
    replace h := ite_or h; rcases h with ⟨hc, h⟩ | ⟨hc, h⟩
    · refine jr_if2_lt_t jf_85_49 hc ?_
      refine jr_aload_n jf_85_56 rfl (jg1_ne rfl hl0) ?_
      replace h := obd_of h; obtain ⟨x4, hx4, h⟩ := h
      refine jr_getA jf_85_57 hx4 ?_
      refine jr_iload_n jf_85_60 rfl jg1_same ?_
      replace h := obd_of h; obtain ⟨a5, rfl, h⟩ := h
      replace h := obd_of h; obtain ⟨x6, hx6, h⟩ := h
      refine jr_laload jf_85_61 hx6 ?_
      obtain rfl := Option.some.inj h
      exact jr_retJ jf_85_62 jmt_85
    · refine jr_if2_lt_f jf_85_49 hc ?_
      exact r_Chain_madeBefore_52 hd _  _ _ h
set_option maxRecDepth 10000 in
set_option maxHeartbeats 4000000 in
theorem r_Chain_madeBefore_e {B : Nat} {SA : Nat → Nat} {d : Nat} (hd : 0 ≤ d) : ∀ (L : JLoc) (v0 : Nat) (v1 : Int32) (μ : JMem) (r : Int64), jget L 0 = .ref v0 → jget L 1 = .int v1 → g_Chain_madeBefore v0 v1 μ.1 = some r → jR B SA d m_Chain_madeBefore 0 L [] μ (some (.long r)) μ := by
  intro L v0 v1 μ r hl0 hl1 h
  unfold g_Chain_madeBefore at h
  refine jr_iload_n jf_85_0 rfl hl1 ?_
  replace h := ite_or h; rcases h with ⟨hc, h⟩ | ⟨hc, h⟩
  · refine jr_if_lt_t jf_85_1 hc ?_
    refine jr_lconst0 jf_85_12 ?_
    obtain rfl := Option.some.inj h
    exact jr_retJ jf_85_13 jmt_85
  · refine jr_if_lt_f jf_85_1 hc ?_
    refine jr_iload_n jf_85_4 rfl hl1 ?_
    refine jr_aload_n jf_85_5 rfl hl0 ?_
    replace h := obd_of h; obtain ⟨x1, hx1, h⟩ := h
    refine jr_getI jf_85_6 hx1 ?_
    replace h := ite_or h; rcases h with ⟨hc, h⟩ | ⟨hc, h⟩
    · refine jr_if2_lt_t jf_85_9 hc ?_
      refine jr_aload_n jf_85_14 rfl hl0 ?_
      replace h := obd_of h; obtain ⟨x2, hx2, h⟩ := h
      refine jr_getI jf_85_15 hx2 ?_
      refine jr_iconst jf_85_18 jc_i_1 ?_
      refine jr_isub jf_85_19 ?_
      refine jr_iload_n jf_85_20 rfl hl1 ?_
      refine jr_isub jf_85_21 ?_
      refine jr_istore_n jf_85_22 rfl jml_85 (by decide) ?_
      refine jr_iload_n jf_85_23 rfl jg1_same ?_
      replace h := ite_or h; rcases h with ⟨hc, h⟩ | ⟨hc, h⟩
      · refine jr_if_ge_t jf_85_24 hc ?_
        refine jr_iload_n jf_85_37 rfl jg1_same ?_
        exact r_Chain_madeBefore_38 hd _ _ _ _ _ (jg1_ne rfl hl0) h
      · refine jr_if_ge_f jf_85_24 hc ?_
        refine jr_iload_n jf_85_27 rfl jg1_same ?_
        refine jr_aload_n jf_85_28 rfl (jg1_ne rfl hl0) ?_
        replace h := obd_of h; obtain ⟨x3, hx3, h⟩ := h
        refine jr_getA jf_85_29 hx3 ?_
        replace h := obd_of h; obtain ⟨a4, rfl, h⟩ := h
        replace h := obd_of h; obtain ⟨x5, hx5, h⟩ := h
        refine jr_arraylength jf_85_32 hx5 ?_
        refine jr_iadd jf_85_33 ?_
        refine jr_goto jf_85_34 ?_
        exact r_Chain_madeBefore_38 hd _ _ _ _ _ (jg1_ne rfl hl0) h
    · refine jr_if2_lt_f jf_85_9 hc ?_
      refine jr_lconst0 jf_85_12 ?_
      obtain rfl := Option.some.inj h
      exact jr_retJ jf_85_13 jmt_85
set_option maxRecDepth 10000 in
set_option maxHeartbeats 4000000 in
theorem r_Chain_madeBefore {B : Nat} {SA : Nat → Nat} {d : Nat} (hd : 0 ≤ d) : ∀ (v0 : Nat) (v1 : Int32) (μ : JMem) (r : Int64), g_Chain_madeBefore v0 v1 μ.1 = some r → jR B SA d m_Chain_madeBefore 0 (lv_args 0 [.ref v0, .int v1]) [] μ (some (.long r)) μ := by
  intro v0 v1 μ r h
  exact r_Chain_madeBefore_e hd (lv_args 0 _) _ _ _ _ (by simp [lv_args, jget, rv_cat, cat_int, cat_long, cat_double, cat_float, cat_ref]) (by simp [lv_args, jget, rv_cat, cat_int, cat_long, cat_double, cat_float, cat_ref]) h
/-! FilterBench$Chain.madeLast()J -/
set_option maxRecDepth 10000 in
set_option maxHeartbeats 4000000 in
theorem r_Chain_madeLast_e {B : Nat} {SA : Nat → Nat} {d : Nat} (hd : 1 ≤ d) : ∀ (L : JLoc) (v0 : Nat) (μ : JMem) (r : Int64), jget L 0 = .ref v0 → g_Chain_madeLast v0 μ.1 = some r → jR B SA d m_Chain_madeLast 0 L [] μ (some (.long r)) μ := by
  intro L v0 μ r hl0 h
  unfold g_Chain_madeLast at h
  refine jr_aload_n jf_84_0 rfl hl0 ?_
  refine jr_iconst jf_84_1 jc_i_0 ?_
  replace h := jgd_of h; obtain ⟨hb1, h⟩ := h
  replace h := obd_of h; obtain ⟨x2, hx2, h⟩ := h
  refine jr_V6_1 jf_84_2 hb1 (by omega) (r_Chain_madeBefore (by omega) _ _ _ _ hx2) (Nat.le_of_ble_eq_true rfl) jml_85 (Nat.le_of_ble_eq_true rfl) ?_
  obtain rfl := Option.some.inj h
  exact jr_retJ jf_84_5 jmt_84
set_option maxRecDepth 10000 in
set_option maxHeartbeats 4000000 in
theorem r_Chain_madeLast {B : Nat} {SA : Nat → Nat} {d : Nat} (hd : 1 ≤ d) : ∀ (v0 : Nat) (μ : JMem) (r : Int64), g_Chain_madeLast v0 μ.1 = some r → jR B SA d m_Chain_madeLast 0 (lv_args 0 [.ref v0]) [] μ (some (.long r)) μ := by
  intro v0 μ r h
  exact r_Chain_madeLast_e hd (lv_args 0 _) _ _ _ (by simp [lv_args, jget, rv_cat, cat_int, cat_long, cat_double, cat_float, cat_ref]) h
/-! FilterBench$Row.push(J)V -/
set_option maxRecDepth 10000 in
set_option maxHeartbeats 4000000 in
theorem r_Row_push_31 {B : Nat} {SA : Nat → Nat} {d : Nat} (hd : 2 ≤ d) : ∀ (L : JLoc) (s0 : Int32) (s1 : Nat) (μ : JMem) (μ9 : JMem), g_Row_push_31 B s0 s1 μ = some μ9 → jR B SA d m_Row_push 31 L [.int s0, .ref s1] μ none μ9 := by
  intro L s0 s1 μ μ9 h
  unfold g_Row_push_31 at h
  replace h := obd_of h; obtain ⟨μ1, hμ1, h⟩ := h
  refine jr_putI jf_98_31 rfl hμ1 ?_
  obtain rfl := Option.some.inj h
  exact jr_return jf_98_34 jmt_98
set_option maxRecDepth 10000 in
set_option maxHeartbeats 4000000 in
theorem r_Row_push_e {B : Nat} {SA : Nat → Nat} {d : Nat} (hd : 2 ≤ d) : ∀ (L : JLoc) (v0 : Nat) (v1 : Int64) (μ : JMem) (μ9 : JMem), jget L 0 = .ref v0 → jget L 1 = .long v1 → g_Row_push B v0 v1 μ = some μ9 → jR B SA d m_Row_push 0 L [] μ none μ9 := by
  intro L v0 v1 μ μ9 hl0 hl1 h
  unfold g_Row_push at h
  refine jr_aload_n jf_98_0 rfl hl0 ?_
  refine jr_iconst jf_98_1 jc_i_0 ?_
  refine jr_lload_n jf_98_2 rfl hl1 ?_
  replace h := jgd_of h; obtain ⟨hb1, h⟩ := h
  replace h := obd_of h; obtain ⟨μ2, hμ2, h⟩ := h
  refine jr_V6v_2 jf_98_3 hb1 (by omega) (r_Row_put (by omega) _ _ _ _ _ hμ2) (Nat.le_of_ble_eq_true rfl) jml_66 (Nat.le_of_ble_eq_true rfl) ?_
  refine jr_aload_n jf_98_6 rfl hl0 ?_
  refine jr_aload_n jf_98_7 rfl hl0 ?_
  replace h := obd_of h; obtain ⟨x3, hx3, h⟩ := h
  refine jr_getI jf_98_8 hx3 ?_
  refine jr_iconst jf_98_11 jc_i_1 ?_
  refine jr_iadd jf_98_12 ?_
  refine jr_aload_n jf_98_13 rfl hl0 ?_
  replace h := obd_of h; obtain ⟨x4, hx4, h⟩ := h
  refine jr_getA jf_98_14 hx4 ?_
  replace h := obd_of h; obtain ⟨a5, rfl, h⟩ := h
  replace h := obd_of h; obtain ⟨x6, hx6, h⟩ := h
  refine jr_arraylength jf_98_17 hx6 ?_
  replace h := ite_or h; rcases h with ⟨hc, h⟩ | ⟨hc, h⟩
  · refine jr_if2_lt_t jf_98_18 hc ?_
    refine jr_aload_n jf_98_25 rfl hl0 ?_
    replace h := obd_of h; obtain ⟨x7, hx7, h⟩ := h
    refine jr_getI jf_98_26 hx7 ?_
    refine jr_iconst jf_98_29 jc_i_1 ?_
    refine jr_iadd jf_98_30 ?_
    exact r_Row_push_31 hd _ _ _ _ _ h
  · refine jr_if2_lt_f jf_98_18 hc ?_
    refine jr_iconst jf_98_21 jc_i_0 ?_
    refine jr_goto jf_98_22 ?_
    exact r_Row_push_31 hd _ _ _ _ _ h
set_option maxRecDepth 10000 in
set_option maxHeartbeats 4000000 in
theorem r_Row_push {B : Nat} {SA : Nat → Nat} {d : Nat} (hd : 2 ≤ d) : ∀ (v0 : Nat) (v1 : Int64) (μ : JMem) (μ9 : JMem), g_Row_push B v0 v1 μ = some μ9 → jR B SA d m_Row_push 0 (lv_args 0 [.ref v0, .long v1]) [] μ none μ9 := by
  intro v0 v1 μ μ9 h
  exact r_Row_push_e hd (lv_args 0 _) _ _ _ _ (by simp [lv_args, jget, rv_cat, cat_int, cat_long, cat_double, cat_float, cat_ref]) (by simp [lv_args, jget, rv_cat, cat_int, cat_long, cat_double, cat_float, cat_ref]) h
/-! FilterBench$Chain.note(IJ)V -/
set_option maxRecDepth 10000 in
set_option maxHeartbeats 4000000 in
theorem r_Chain_note_43 {N B : Nat} {SA : Nat → Nat} {d : Nat} (hd : 3 ≤ d) {k3 : Nat → Int32 → Int64 → Int32 → JMem → Option JMem} (i3 : ∀ (L : JLoc) (v0 : Nat) (v1 : Int32) (v2 : Int64) (v4 : Int32) (μ : JMem) (μ9 : JMem), jget L 0 = .ref v0 → jget L 1 = .int v1 → jget L 2 = .long v2 → jget L 4 = .int v4 → k3 v0 v1 v2 v4 μ = some μ9 → jR B SA d m_Chain_note 3 L [] μ none μ9) : ∀ (L : JLoc) (v0 : Nat) (v1 : Int32) (v2 : Int64) (v4 : Int32) (μ : JMem) (μ9 : JMem), jget L 0 = .ref v0 → jget L 1 = .int v1 → jget L 2 = .long v2 → jget L 4 = .int v4 → g_Chain_note_43 N B k3 v0 v1 v2 v4 μ = some μ9 → jR B SA d m_Chain_note 43 L [] μ none μ9 := by
  intro L v0 v1 v2 v4 μ μ9 hl0 hl1 hl2 hl4 h
  unfold g_Chain_note_43 at h
  refine jr_iinc jf_112_43 jc_i_1 jml_112 (by decide) hl4 ?_
  refine jr_goto jf_112_46 ?_
  exact i3 _ _ _ _ _ _ _ (jg1_ne rfl hl0) (jg1_ne rfl hl1) (jg1_ne rfl hl2) jg1_same h
set_option maxRecDepth 10000 in
set_option maxHeartbeats 4000000 in
theorem r_Chain_note_3 {N B : Nat} {SA : Nat → Nat} {d : Nat} (hd : 3 ≤ d) : ∀ (n : Nat), ∀ (L : JLoc) (v0 : Nat) (v1 : Int32) (v2 : Int64) (v4 : Int32) (μ : JMem) (μ9 : JMem), jget L 0 = .ref v0 → jget L 1 = .int v1 → jget L 2 = .long v2 → jget L 4 = .int v4 → g_Chain_note_3 N B n v0 v1 v2 v4 μ = some μ9 → jR B SA d m_Chain_note 3 L [] μ none μ9 := by
  intro n
  induction n with
  | zero =>
    intro L v0 v1 v2 v4 μ μ9 hl0 hl1 hl2 hl4 h
    unfold g_Chain_note_3 at h
    cases h
  | succ n ih =>
    intro L v0 v1 v2 v4 μ μ9 hl0 hl1 hl2 hl4 h
    unfold g_Chain_note_3 at h
    refine jr_iload jf_112_3 hl4 ?_
    refine jr_aload_n jf_112_5 rfl hl0 ?_
    replace h := obd_of h; obtain ⟨x1, hx1, h⟩ := h
    refine jr_getI jf_112_6 hx1 ?_
    replace h := ite_or h; rcases h with ⟨hc, h⟩ | ⟨hc, h⟩
    · refine jr_if2_ge_t jf_112_9 hc ?_
      obtain rfl := Option.some.inj h
      exact jr_return jf_112_49 jmt_112
    · refine jr_if2_ge_f jf_112_9 hc ?_
      refine jr_aload_n jf_112_12 rfl hl0 ?_
      refine jr_iload jf_112_13 hl4 ?_
      replace h := jgd_of h; obtain ⟨hb2, h⟩ := h
      replace h := obd_of h; obtain ⟨x3, hx3, h⟩ := h
      refine jr_V6_1 jf_112_15 hb2 (by omega) (r_Chain_loopAt (by omega) _ _ _ _ hx3) (Nat.le_of_ble_eq_true rfl) jml_68 (Nat.le_of_ble_eq_true rfl) ?_
      refine jr_astore_A jf_112_18 jml_112 (by decide) ?_
      refine jr_aload_A jf_112_20 jg1_same ?_
      replace h := jon_or h; rcases h with ⟨rfl, h⟩ | ⟨a4, rfl, h⟩
      · refine jr_ifnull_n jf_112_22 ?_
        exact r_Chain_note_43 hd ih _ _ _ _ _ _ _ (jg1_ne rfl hl0) (jg1_ne rfl hl1) (jg1_ne rfl hl2) (jg1_pre rfl hl4) h
      · refine jr_ifnull_s jf_112_22 ?_
        refine jr_aload jf_112_25 jg1_same ?_
        replace h := obd_of h; obtain ⟨x5, hx5, h⟩ := h
        refine jr_getI jf_112_27 hx5 ?_
        refine jr_iload_n jf_112_30 rfl (jg1_ne rfl hl1) ?_
        replace h := ite_or h; rcases h with ⟨hc, h⟩ | ⟨hc, h⟩
        · refine jr_if2_ne_f jf_112_31 hc ?_
          refine jr_aload jf_112_34 jg1_same ?_
          replace h := obd_of h; obtain ⟨x6, hx6, h⟩ := h
          refine jr_getA jf_112_36 hx6 ?_
          refine jr_lload_n jf_112_39 rfl (jg1_ne rfl hl2) ?_
          replace h := obd_of h; obtain ⟨a7, rfl, h⟩ := h
          replace h := jgd_of h; obtain ⟨hb8, h⟩ := h
          replace h := obd_of h; obtain ⟨μ9, hμ9, h⟩ := h
          refine jr_V6v_1 jf_112_40 hb8 (by omega) (r_Row_push (by omega) _ _ _ _ hμ9) (Nat.le_of_ble_eq_true rfl) jml_98 (Nat.le_of_ble_eq_true rfl) ?_
          exact r_Chain_note_43 hd ih _ _ _ _ _ _ _ (jg1_ne rfl hl0) (jg1_ne rfl hl1) (jg1_ne rfl hl2) (jg1_pre rfl hl4) h
        · refine jr_if2_ne_t jf_112_31 hc ?_
          exact r_Chain_note_43 hd ih _ _ _ _ _ _ _ (jg1_ne rfl hl0) (jg1_ne rfl hl1) (jg1_ne rfl hl2) (jg1_pre rfl hl4) h
set_option maxRecDepth 10000 in
set_option maxHeartbeats 4000000 in
theorem r_Chain_note_e {N B : Nat} {SA : Nat → Nat} {d : Nat} (hd : 3 ≤ d) : ∀ (L : JLoc) (v0 : Nat) (v1 : Int32) (v2 : Int64) (μ : JMem) (μ9 : JMem), jget L 0 = .ref v0 → jget L 1 = .int v1 → jget L 2 = .long v2 → g_Chain_note N B v0 v1 v2 μ = some μ9 → jR B SA d m_Chain_note 0 L [] μ none μ9 := by
  intro L v0 v1 v2 μ μ9 hl0 hl1 hl2 h
  unfold g_Chain_note at h
  refine jr_iconst jf_112_0 jc_i_0 ?_
  refine jr_istore jf_112_1 jml_112 (by decide) ?_
  exact r_Chain_note_3 hd _ _ _ _ _ _ _ _ (jg1_ne rfl hl0) (jg1_ne rfl hl1) (jg1_ne rfl hl2) jg1_same h
set_option maxRecDepth 10000 in
set_option maxHeartbeats 4000000 in
theorem r_Chain_note {N B : Nat} {SA : Nat → Nat} {d : Nat} (hd : 3 ≤ d) : ∀ (v0 : Nat) (v1 : Int32) (v2 : Int64) (μ : JMem) (μ9 : JMem), g_Chain_note N B v0 v1 v2 μ = some μ9 → jR B SA d m_Chain_note 0 (lv_args 0 [.ref v0, .int v1, .long v2]) [] μ none μ9 := by
  intro v0 v1 v2 μ μ9 h
  exact r_Chain_note_e hd (lv_args 0 _) _ _ _ _ _ (by simp [lv_args, jget, rv_cat, cat_int, cat_long, cat_double, cat_float, cat_ref]) (by simp [lv_args, jget, rv_cat, cat_int, cat_long, cat_double, cat_float, cat_ref]) (by simp [lv_args, jget, rv_cat, cat_int, cat_long, cat_double, cat_float, cat_ref]) h
/-! FilterBench$Section.letsThrough()Z -/
set_option maxRecDepth 10000 in
set_option maxHeartbeats 4000000 in
theorem r_Section_letsThrough_33 {B : Nat} {SA : Nat → Nat} {d : Nat} (hd : 2 ≤ d) : ∀ (L : JLoc) (v1 : Int64) (s0 : Int64) (s2 : Option Nat) (μ : JMem) (r : Bool) (μ9 : JMem), jget L 1 = .long v1 → g_Section_letsThrough_33 B v1 s0 s2 μ = some (r, μ9) → jR B SA d m_Section_letsThrough 33 L [.long s0, .int (0), rv s2] μ (some (.int (jb r))) μ9 := by
  intro L v1 s0 s2 μ r μ9 hl1 h
  unfold g_Section_letsThrough_33 at h
  replace h := obd_of h; obtain ⟨a1, rfl, h⟩ := h
  replace h := jgd_of h; obtain ⟨hb2, h⟩ := h
  replace h := obd_of h; obtain ⟨μ3, hμ3, h⟩ := h
  refine jr_V6v_2 jf_65_33 hb2 (by omega) (r_Row_put (by omega) _ _ _ _ _ hμ3) (Nat.le_of_ble_eq_true rfl) jml_66 (Nat.le_of_ble_eq_true rfl) ?_
  refine jr_lload_n jf_65_36 rfl hl1 ?_
  refine jr_lconst0 jf_65_37 ?_
  refine jr_lcmp jf_65_38 ?_
  replace h := ite_or h; rcases h with ⟨hc, h⟩ | ⟨hc, h⟩
  · refine jr_ifl_ne_f jf_65_39 hc ?_
    refine jr_iconst jf_65_42 jc_i_1 ?_
    refine jr_goto jf_65_43 ?_
    obtain ⟨rfl, rfl⟩ := Prod.mk.inj (Option.some.inj h)
    exact jr_retZ (x := true) jf_65_47 jmt_65
  · refine jr_ifl_ne_t jf_65_39 hc ?_
    refine jr_iconst jf_65_46 jc_i_0 ?_
    obtain ⟨rfl, rfl⟩ := Prod.mk.inj (Option.some.inj h)
    exact jr_retZ (x := false) jf_65_47 jmt_65
set_option maxRecDepth 10000 in
set_option maxHeartbeats 4000000 in
theorem r_Section_letsThrough_e {B : Nat} {SA : Nat → Nat} {d : Nat} (hd : 2 ≤ d) : ∀ (L : JLoc) (v0 : Nat) (μ : JMem) (r : Bool) (μ9 : JMem), jget L 0 = .ref v0 → g_Section_letsThrough B v0 μ = some (r, μ9) → jR B SA d m_Section_letsThrough 0 L [] μ (some (.int (jb r))) μ9 := by
  intro L v0 μ r μ9 hl0 h
  unfold g_Section_letsThrough at h
  refine jr_aload_n jf_65_0 rfl hl0 ?_
  replace h := obd_of h; obtain ⟨x1, hx1, h⟩ := h
  refine jr_getA jf_65_1 hx1 ?_
  refine jr_iconst jf_65_4 jc_i_0 ?_
  replace h := obd_of h; obtain ⟨a2, rfl, h⟩ := h
  replace h := jgd_of h; obtain ⟨hb3, h⟩ := h
  replace h := obd_of h; obtain ⟨x4, hx4, h⟩ := h
  refine jr_V6_1 jf_65_5 hb3 (by omega) (r_Row_at (by omega) _ _ _ _ hx4) (Nat.le_of_ble_eq_true rfl) jml_38 (Nat.le_of_ble_eq_true rfl) ?_
  refine jr_lstore_n jf_65_8 rfl jml_65 (by decide) ?_
  refine jr_aload_n jf_65_9 rfl (jg2_pre (by first | rfl | exact rv_cat _) hl0) ?_
  replace h := obd_of h; obtain ⟨x5, hx5, h⟩ := h
  refine jr_getA jf_65_10 hx5 ?_
  refine jr_iconst jf_65_13 jc_i_0 ?_
  refine jr_lload_n jf_65_14 rfl jg2_same ?_
  refine jr_lconst1 jf_65_15 ?_
  refine jr_ladd jf_65_16 ?_
  refine jr_aload_n jf_65_17 rfl (jg2_pre (by first | rfl | exact rv_cat _) hl0) ?_
  replace h := obd_of h; obtain ⟨x6, hx6, h⟩ := h
  refine jr_getI jf_65_18 hx6 ?_
  refine jr_i2l jf_65_21 ?_
  refine jr_lcmp jf_65_22 ?_
  replace h := ite_or h; rcases h with ⟨hc, h⟩ | ⟨hc, h⟩
  · refine jr_ifl_lt_t jf_65_23 hc ?_
    refine jr_lload_n jf_65_30 rfl jg2_same ?_
    refine jr_lconst1 jf_65_31 ?_
    refine jr_ladd jf_65_32 ?_
    exact r_Section_letsThrough_33 hd _ _ _ _ _ _ _ jg2_same h
  · refine jr_ifl_lt_f jf_65_23 hc ?_
    refine jr_lconst0 jf_65_26 ?_
    refine jr_goto jf_65_27 ?_
    exact r_Section_letsThrough_33 hd _ _ _ _ _ _ _ jg2_same h
set_option maxRecDepth 10000 in
set_option maxHeartbeats 4000000 in
theorem r_Section_letsThrough {B : Nat} {SA : Nat → Nat} {d : Nat} (hd : 2 ≤ d) : ∀ (v0 : Nat) (μ : JMem) (r : Bool) (μ9 : JMem), g_Section_letsThrough B v0 μ = some (r, μ9) → jR B SA d m_Section_letsThrough 0 (lv_args 0 [.ref v0]) [] μ (some (.int (jb r))) μ9 := by
  intro v0 μ r μ9 h
  exact r_Section_letsThrough_e hd (lv_args 0 _) _ _ _ _ (by simp [lv_args, jget, rv_cat, cat_int, cat_long, cat_double, cat_float, cat_ref]) h
/-! java/lang/Long.compare(JJ)I -/
set_option maxRecDepth 10000 in
set_option maxHeartbeats 4000000 in
theorem r_JLong_compare_e {B : Nat} {SA : Nat → Nat} {d : Nat} (hd : 0 ≤ d) : ∀ (L : JLoc) (v0 : Int64) (v2 : Int64) (μ : JMem) (r : Int32), jget L 0 = .long v0 → jget L 2 = .long v2 → g_JLong_compare v0 v2 = r → jR B SA d m_JLong_compare 0 L [] μ (some (.int r)) μ := by
  intro L v0 v2 μ r hl0 hl2 h
  unfold g_JLong_compare at h
  refine jr_lload_n jf_106_0 rfl hl0 ?_
  refine jr_lload_n jf_106_1 rfl hl2 ?_
  refine jr_lcmp jf_106_2 ?_
  replace h := ite_or h; rcases h with ⟨hc, h⟩ | ⟨hc, h⟩
  · refine jr_ifl_ge_t jf_106_3 hc ?_
    refine jr_lload_n jf_106_10 rfl hl0 ?_
    refine jr_lload_n jf_106_11 rfl hl2 ?_
    refine jr_lcmp jf_106_12 ?_
    replace h := ite_or h; rcases h with ⟨hc, h⟩ | ⟨hc, h⟩
    · refine jr_ifl_ne_f jf_106_13 hc ?_
      refine jr_iconst jf_106_16 jc_i_0 ?_
      refine jr_goto jf_106_17 ?_
      subst h
      exact jr_retI jf_106_21 jmt_106
    · refine jr_ifl_ne_t jf_106_13 hc ?_
      refine jr_iconst jf_106_20 jc_i_1 ?_
      subst h
      exact jr_retI jf_106_21 jmt_106
  · refine jr_ifl_ge_f jf_106_3 hc ?_
    refine jr_iconst jf_106_6 jc_i_m1 ?_
    refine jr_goto jf_106_7 ?_
    subst h
    exact jr_retI jf_106_21 jmt_106
set_option maxRecDepth 10000 in
set_option maxHeartbeats 4000000 in
theorem r_JLong_compare {B : Nat} {SA : Nat → Nat} {d : Nat} (hd : 0 ≤ d) : ∀ (v0 : Int64) (v2 : Int64) (μ : JMem) (r : Int32), g_JLong_compare v0 v2 = r → jR B SA d m_JLong_compare 0 (lv_args 0 [.long v0, .long v2]) [] μ (some (.int r)) μ := by
  intro v0 v2 μ r h
  exact r_JLong_compare_e hd (lv_args 0 _) _ _ _ _ (by simp [lv_args, jget, rv_cat, cat_int, cat_long, cat_double, cat_float, cat_ref]) (by simp [lv_args, jget, rv_cat, cat_int, cat_long, cat_double, cat_float, cat_ref]) h
/-! FilterBench$Real.compared(JJ)I -/
set_option maxRecDepth 10000 in
set_option maxHeartbeats 4000000 in
theorem r_Real_compared_32 {B : Nat} {SA : Nat → Nat} {d : Nat} (hd : 1 ≤ d) : ∀ (L : JLoc) (s0 : Int64) (s1 : Int64) (μ : JMem) (r : Int32), g_Real_compared_32 s0 s1 μ.1 = some r → jR B SA d m_Real_compared 32 L [.long s0, .long s1] μ (some (.int r)) μ := by
  intro L s0 s1 μ r h
  unfold g_Real_compared_32 at h
  refine jr_S3_2 jf_105_32 (by omega) (r_JLong_compare (by omega) _ _ _ _ rfl) (Nat.le_of_ble_eq_true rfl) jml_106 (Nat.le_of_ble_eq_true rfl) ?_
  obtain rfl := Option.some.inj h
  exact jr_retI jf_105_35 jmt_105
set_option maxRecDepth 10000 in
set_option maxHeartbeats 4000000 in
theorem r_Real_compared_16 {B : Nat} {SA : Nat → Nat} {d : Nat} (hd : 1 ≤ d) : ∀ (L : JLoc) (v0 : Nat) (v3 : Int64) (s0 : Int64) (μ : JMem) (r : Int32), jget L 0 = .ref v0 → jget L 3 = .long v3 → g_Real_compared_16 v0 v3 s0 μ.1 = some r → jR B SA d m_Real_compared 16 L [.long s0] μ (some (.int r)) μ := by
  intro L v0 v3 s0 μ r hl0 hl3 h
  unfold g_Real_compared_16 at h
  refine jr_lload_n jf_105_16 rfl hl3 ?_
  refine jr_lconst0 jf_105_17 ?_
  refine jr_lcmp jf_105_18 ?_
  replace h := ite_or h; rcases h with ⟨hc, h⟩ | ⟨hc, h⟩
  · refine jr_ifl_ge_t jf_105_19 hc ?_
    refine jr_lload_n jf_105_31 rfl hl3 ?_
    exact r_Real_compared_32 hd _ _ _ _ _ h
  · refine jr_ifl_ge_f jf_105_19 hc ?_
    refine jr_aload_n jf_105_22 rfl hl0 ?_
    refine jr_lload_n jf_105_23 rfl hl3 ?_
    replace h := jgd_of h; obtain ⟨hb1, h⟩ := h
    replace h := obd_of h; obtain ⟨x2, hx2, h⟩ := h
    refine jr_V6_1 jf_105_24 hb1 (by omega) (r_Real_sizeOf (by omega) _ _ _ _ hx2) (Nat.le_of_ble_eq_true rfl) jml_31 (Nat.le_of_ble_eq_true rfl) ?_
    refine jr_lneg jf_105_27 ?_
    refine jr_goto jf_105_28 ?_
    exact r_Real_compared_32 hd _ _ _ _ _ h
set_option maxRecDepth 10000 in
set_option maxHeartbeats 4000000 in
theorem r_Real_compared_e {B : Nat} {SA : Nat → Nat} {d : Nat} (hd : 1 ≤ d) : ∀ (L : JLoc) (v0 : Nat) (v1 : Int64) (v3 : Int64) (μ : JMem) (r : Int32), jget L 0 = .ref v0 → jget L 1 = .long v1 → jget L 3 = .long v3 → g_Real_compared v0 v1 v3 μ.1 = some r → jR B SA d m_Real_compared 0 L [] μ (some (.int r)) μ := by
  intro L v0 v1 v3 μ r hl0 hl1 hl3 h
  unfold g_Real_compared at h
  refine jr_lload_n jf_105_0 rfl hl1 ?_
  refine jr_lconst0 jf_105_1 ?_
  refine jr_lcmp jf_105_2 ?_
  replace h := ite_or h; rcases h with ⟨hc, h⟩ | ⟨hc, h⟩
  · refine jr_ifl_ge_t jf_105_3 hc ?_
    refine jr_lload_n jf_105_15 rfl hl1 ?_
    exact r_Real_compared_16 hd _ _ _ _ _ _ hl0 hl3 h
  · refine jr_ifl_ge_f jf_105_3 hc ?_
    refine jr_aload_n jf_105_6 rfl hl0 ?_
    refine jr_lload_n jf_105_7 rfl hl1 ?_
    replace h := jgd_of h; obtain ⟨hb1, h⟩ := h
    replace h := obd_of h; obtain ⟨x2, hx2, h⟩ := h
    refine jr_V6_1 jf_105_8 hb1 (by omega) (r_Real_sizeOf (by omega) _ _ _ _ hx2) (Nat.le_of_ble_eq_true rfl) jml_31 (Nat.le_of_ble_eq_true rfl) ?_
    refine jr_lneg jf_105_11 ?_
    refine jr_goto jf_105_12 ?_
    exact r_Real_compared_16 hd _ _ _ _ _ _ hl0 hl3 h
set_option maxRecDepth 10000 in
set_option maxHeartbeats 4000000 in
theorem r_Real_compared {B : Nat} {SA : Nat → Nat} {d : Nat} (hd : 1 ≤ d) : ∀ (v0 : Nat) (v1 : Int64) (v3 : Int64) (μ : JMem) (r : Int32), g_Real_compared v0 v1 v3 μ.1 = some r → jR B SA d m_Real_compared 0 (lv_args 0 [.ref v0, .long v1, .long v3]) [] μ (some (.int r)) μ := by
  intro v0 v1 v3 μ r h
  exact r_Real_compared_e hd (lv_args 0 _) _ _ _ _ _ (by simp [lv_args, jget, rv_cat, cat_int, cat_long, cat_double, cat_float, cat_ref]) (by simp [lv_args, jget, rv_cat, cat_int, cat_long, cat_double, cat_float, cat_ref]) (by simp [lv_args, jget, rv_cat, cat_int, cat_long, cat_double, cat_float, cat_ref]) h
/-! FilterBench$Shorts.compared(JJ)I -/
set_option maxRecDepth 10000 in
set_option maxHeartbeats 4000000 in
theorem r_Shorts_compared_e {B : Nat} {SA : Nat → Nat} {d : Nat} (hd : 1 ≤ d) : ∀ (L : JLoc) (v1 : Int64) (v3 : Int64) (μ : JMem) (r : Int32), jget L 1 = .long v1 → jget L 3 = .long v3 → g_Shorts_compared_e v1 v3 = r → jR B SA d m_Shorts_compared 0 L [] μ (some (.int r)) μ := by
  intro L v1 v3 μ r hl1 hl3 h
  unfold g_Shorts_compared_e at h
  refine jr_lload_n jf_107_0 rfl hl1 ?_
  refine jr_lload_n jf_107_1 rfl hl3 ?_
  refine jr_S3_2 jf_107_2 (by omega) (r_JLong_compare (by omega) _ _ _ _ rfl) (Nat.le_of_ble_eq_true rfl) jml_106 (Nat.le_of_ble_eq_true rfl) ?_
  subst h
  exact jr_retI jf_107_5 jmt_107
set_option maxRecDepth 10000 in
set_option maxHeartbeats 4000000 in
theorem r_Shorts_compared {B : Nat} {SA : Nat → Nat} {d : Nat} (hd : 1 ≤ d) : ∀ (v0 : Nat) (v1 : Int64) (v3 : Int64) (μ : JMem) (r : Int32), g_Shorts_compared v0 v1 v3 = r → jR B SA d m_Shorts_compared 0 (lv_args 0 [.ref v0, .long v1, .long v3]) [] μ (some (.int r)) μ := by
  intro v0 v1 v3 μ r h
  exact r_Shorts_compared_e hd (lv_args 0 _) _ _ _ _ (by simp [lv_args, jget, rv_cat, cat_int, cat_long, cat_double, cat_float, cat_ref]) (by simp [lv_args, jget, rv_cat, cat_int, cat_long, cat_double, cat_float, cat_ref]) h
/-! FilterBench$Shorts.isNumber(J)Z -/
set_option maxRecDepth 10000 in
set_option maxHeartbeats 4000000 in
theorem r_Shorts_isNumber_e {B : Nat} {SA : Nat → Nat} {d : Nat} (hd : 0 ≤ d) : ∀ (L : JLoc) (μ : JMem) (r : Bool), g_Shorts_isNumber_e = r → jR B SA d m_Shorts_isNumber 0 L [] μ (some (.int (jb r))) μ := by
  intro L μ r h
  unfold g_Shorts_isNumber_e at h
  refine jr_iconst jf_104_0 jc_i_1 ?_
  subst h
  exact jr_retZ (x := true) jf_104_1 jmt_104
set_option maxRecDepth 10000 in
set_option maxHeartbeats 4000000 in
theorem r_Shorts_isNumber {B : Nat} {SA : Nat → Nat} {d : Nat} (hd : 0 ≤ d) : ∀ (v0 : Nat) (v1 : Int64) (μ : JMem) (r : Bool), g_Shorts_isNumber v0 v1 = r → jR B SA d m_Shorts_isNumber 0 (lv_args 0 [.ref v0, .long v1]) [] μ (some (.int (jb r))) μ := by
  intro v0 v1 μ r h
  exact r_Shorts_isNumber_e hd (lv_args 0 _)  _ _  h
/-! FilterBench$Numbers.above(JJ)Z -/
set_option maxRecDepth 10000 in
set_option maxHeartbeats 4000000 in
theorem r_Numbers_above_e {B : Nat} {SA : Nat → Nat} {d : Nat} (hd : 2 ≤ d) : ∀ (L : JLoc) (v0 : Nat) (v1 : Int64) (v3 : Int64) (μ : JMem) (r : Bool), jget L 0 = .ref v0 → jget L 1 = .long v1 → jget L 3 = .long v3 → g_Numbers_above v0 v1 v3 μ.1 = some r → jR B SA d m_Numbers_above 0 L [] μ (some (.int (jb r))) μ := by
  intro L v0 v1 v3 μ r hl0 hl1 hl3 h
  unfold g_Numbers_above at h
  refine jr_aload_n jf_103_0 rfl hl0 ?_
  refine jr_lload_n jf_103_1 rfl hl1 ?_
  replace h := obd_of h; obtain ⟨x1, hx1, h⟩ := h
  rcases ite_or hx1 with ⟨hb, hx⟩ | ⟨hb0, hx⟩
  · refine jr_V8a_1 jf_103_2 hb (by omega) (r_Real_isNumber (by omega) _ _ _ _ hx) (Nat.le_of_ble_eq_true rfl) jml_18 (Nat.le_of_ble_eq_true rfl) ?_
    replace h := ite_or h; rcases h with ⟨hc, h⟩ | ⟨hc, h⟩
    · refine jr_ifz_eq_f jf_103_5 hc ?_
      refine jr_aload_n jf_103_8 rfl hl0 ?_
      refine jr_lload_n jf_103_9 rfl hl3 ?_
      replace h := obd_of h; obtain ⟨x2, hx2, h⟩ := h
      rcases ite_or hx2 with ⟨hb, hx⟩ | ⟨hb0, hx⟩
      · refine jr_V8a_1 jf_103_10 hb (by omega) (r_Real_isNumber (by omega) _ _ _ _ hx) (Nat.le_of_ble_eq_true rfl) jml_18 (Nat.le_of_ble_eq_true rfl) ?_
        replace h := ite_or h; rcases h with ⟨hc, h⟩ | ⟨hc, h⟩
        · refine jr_ifz_eq_f jf_103_13 hc ?_
          refine jr_aload_n jf_103_16 rfl hl0 ?_
          refine jr_lload_n jf_103_17 rfl hl1 ?_
          refine jr_lload_n jf_103_18 rfl hl3 ?_
          replace h := obd_of h; obtain ⟨x3, hx3, h⟩ := h
          rcases ite_or hx3 with ⟨hb, hx⟩ | ⟨hb0, hx⟩
          · refine jr_V8a_2 jf_103_19 hb (by omega) (r_Real_compared (by omega) _ _ _ _ _ hx) (Nat.le_of_ble_eq_true rfl) jml_105 (Nat.le_of_ble_eq_true rfl) ?_
            replace h := ite_or h; rcases h with ⟨hc, h⟩ | ⟨hc, h⟩
            · refine jr_if_le_t jf_103_22 hc ?_
              refine jr_iconst jf_103_29 jc_i_0 ?_
              obtain rfl := Option.some.inj h
              exact jr_retZ (x := false) jf_103_30 jmt_103
            · refine jr_if_le_f jf_103_22 hc ?_
              refine jr_iconst jf_103_25 jc_i_1 ?_
              refine jr_goto jf_103_26 ?_
              obtain rfl := Option.some.inj h
              exact jr_retZ (x := true) jf_103_30 jmt_103
          · obtain ⟨hb, hx⟩ := jgd_of hx
            obtain hx := Option.some.inj hx
            refine jr_V8b_2 jf_103_19 hb0 hb (by omega) (r_Shorts_compared (by omega) _ _ _ _ _ hx) (Nat.le_of_ble_eq_true rfl) jml_107 (Nat.le_of_ble_eq_true rfl) ?_
            replace h := ite_or h; rcases h with ⟨hc, h⟩ | ⟨hc, h⟩
            · refine jr_if_le_t jf_103_22 hc ?_
              refine jr_iconst jf_103_29 jc_i_0 ?_
              obtain rfl := Option.some.inj h
              exact jr_retZ (x := false) jf_103_30 jmt_103
            · refine jr_if_le_f jf_103_22 hc ?_
              refine jr_iconst jf_103_25 jc_i_1 ?_
              refine jr_goto jf_103_26 ?_
              obtain rfl := Option.some.inj h
              exact jr_retZ (x := true) jf_103_30 jmt_103
        · refine jr_ifz_eq_t jf_103_13 hc ?_
          refine jr_iconst jf_103_29 jc_i_0 ?_
          obtain rfl := Option.some.inj h
          exact jr_retZ (x := false) jf_103_30 jmt_103
      · obtain ⟨hb, hx⟩ := jgd_of hx
        obtain hx := Option.some.inj hx
        refine jr_V8b_1 jf_103_10 hb0 hb (by omega) (r_Shorts_isNumber (by omega) _ _ _ _ hx) (Nat.le_of_ble_eq_true rfl) jml_104 (Nat.le_of_ble_eq_true rfl) ?_
        replace h := ite_or h; rcases h with ⟨hc, h⟩ | ⟨hc, h⟩
        · refine jr_ifz_eq_f jf_103_13 hc ?_
          refine jr_aload_n jf_103_16 rfl hl0 ?_
          refine jr_lload_n jf_103_17 rfl hl1 ?_
          refine jr_lload_n jf_103_18 rfl hl3 ?_
          replace h := obd_of h; obtain ⟨x3, hx3, h⟩ := h
          rcases ite_or hx3 with ⟨hb, hx⟩ | ⟨hb0, hx⟩
          · refine jr_V8a_2 jf_103_19 hb (by omega) (r_Real_compared (by omega) _ _ _ _ _ hx) (Nat.le_of_ble_eq_true rfl) jml_105 (Nat.le_of_ble_eq_true rfl) ?_
            replace h := ite_or h; rcases h with ⟨hc, h⟩ | ⟨hc, h⟩
            · refine jr_if_le_t jf_103_22 hc ?_
              refine jr_iconst jf_103_29 jc_i_0 ?_
              obtain rfl := Option.some.inj h
              exact jr_retZ (x := false) jf_103_30 jmt_103
            · refine jr_if_le_f jf_103_22 hc ?_
              refine jr_iconst jf_103_25 jc_i_1 ?_
              refine jr_goto jf_103_26 ?_
              obtain rfl := Option.some.inj h
              exact jr_retZ (x := true) jf_103_30 jmt_103
          · obtain ⟨hb, hx⟩ := jgd_of hx
            obtain hx := Option.some.inj hx
            refine jr_V8b_2 jf_103_19 hb0 hb (by omega) (r_Shorts_compared (by omega) _ _ _ _ _ hx) (Nat.le_of_ble_eq_true rfl) jml_107 (Nat.le_of_ble_eq_true rfl) ?_
            replace h := ite_or h; rcases h with ⟨hc, h⟩ | ⟨hc, h⟩
            · refine jr_if_le_t jf_103_22 hc ?_
              refine jr_iconst jf_103_29 jc_i_0 ?_
              obtain rfl := Option.some.inj h
              exact jr_retZ (x := false) jf_103_30 jmt_103
            · refine jr_if_le_f jf_103_22 hc ?_
              refine jr_iconst jf_103_25 jc_i_1 ?_
              refine jr_goto jf_103_26 ?_
              obtain rfl := Option.some.inj h
              exact jr_retZ (x := true) jf_103_30 jmt_103
        · refine jr_ifz_eq_t jf_103_13 hc ?_
          refine jr_iconst jf_103_29 jc_i_0 ?_
          obtain rfl := Option.some.inj h
          exact jr_retZ (x := false) jf_103_30 jmt_103
    · refine jr_ifz_eq_t jf_103_5 hc ?_
      refine jr_iconst jf_103_29 jc_i_0 ?_
      obtain rfl := Option.some.inj h
      exact jr_retZ (x := false) jf_103_30 jmt_103
  · obtain ⟨hb, hx⟩ := jgd_of hx
    obtain hx := Option.some.inj hx
    refine jr_V8b_1 jf_103_2 hb0 hb (by omega) (r_Shorts_isNumber (by omega) _ _ _ _ hx) (Nat.le_of_ble_eq_true rfl) jml_104 (Nat.le_of_ble_eq_true rfl) ?_
    replace h := ite_or h; rcases h with ⟨hc, h⟩ | ⟨hc, h⟩
    · refine jr_ifz_eq_f jf_103_5 hc ?_
      refine jr_aload_n jf_103_8 rfl hl0 ?_
      refine jr_lload_n jf_103_9 rfl hl3 ?_
      replace h := obd_of h; obtain ⟨x2, hx2, h⟩ := h
      rcases ite_or hx2 with ⟨hb, hx⟩ | ⟨hb0, hx⟩
      · refine jr_V8a_1 jf_103_10 hb (by omega) (r_Real_isNumber (by omega) _ _ _ _ hx) (Nat.le_of_ble_eq_true rfl) jml_18 (Nat.le_of_ble_eq_true rfl) ?_
        replace h := ite_or h; rcases h with ⟨hc, h⟩ | ⟨hc, h⟩
        · refine jr_ifz_eq_f jf_103_13 hc ?_
          refine jr_aload_n jf_103_16 rfl hl0 ?_
          refine jr_lload_n jf_103_17 rfl hl1 ?_
          refine jr_lload_n jf_103_18 rfl hl3 ?_
          replace h := obd_of h; obtain ⟨x3, hx3, h⟩ := h
          rcases ite_or hx3 with ⟨hb, hx⟩ | ⟨hb0, hx⟩
          · refine jr_V8a_2 jf_103_19 hb (by omega) (r_Real_compared (by omega) _ _ _ _ _ hx) (Nat.le_of_ble_eq_true rfl) jml_105 (Nat.le_of_ble_eq_true rfl) ?_
            replace h := ite_or h; rcases h with ⟨hc, h⟩ | ⟨hc, h⟩
            · refine jr_if_le_t jf_103_22 hc ?_
              refine jr_iconst jf_103_29 jc_i_0 ?_
              obtain rfl := Option.some.inj h
              exact jr_retZ (x := false) jf_103_30 jmt_103
            · refine jr_if_le_f jf_103_22 hc ?_
              refine jr_iconst jf_103_25 jc_i_1 ?_
              refine jr_goto jf_103_26 ?_
              obtain rfl := Option.some.inj h
              exact jr_retZ (x := true) jf_103_30 jmt_103
          · obtain ⟨hb, hx⟩ := jgd_of hx
            obtain hx := Option.some.inj hx
            refine jr_V8b_2 jf_103_19 hb0 hb (by omega) (r_Shorts_compared (by omega) _ _ _ _ _ hx) (Nat.le_of_ble_eq_true rfl) jml_107 (Nat.le_of_ble_eq_true rfl) ?_
            replace h := ite_or h; rcases h with ⟨hc, h⟩ | ⟨hc, h⟩
            · refine jr_if_le_t jf_103_22 hc ?_
              refine jr_iconst jf_103_29 jc_i_0 ?_
              obtain rfl := Option.some.inj h
              exact jr_retZ (x := false) jf_103_30 jmt_103
            · refine jr_if_le_f jf_103_22 hc ?_
              refine jr_iconst jf_103_25 jc_i_1 ?_
              refine jr_goto jf_103_26 ?_
              obtain rfl := Option.some.inj h
              exact jr_retZ (x := true) jf_103_30 jmt_103
        · refine jr_ifz_eq_t jf_103_13 hc ?_
          refine jr_iconst jf_103_29 jc_i_0 ?_
          obtain rfl := Option.some.inj h
          exact jr_retZ (x := false) jf_103_30 jmt_103
      · obtain ⟨hb, hx⟩ := jgd_of hx
        obtain hx := Option.some.inj hx
        refine jr_V8b_1 jf_103_10 hb0 hb (by omega) (r_Shorts_isNumber (by omega) _ _ _ _ hx) (Nat.le_of_ble_eq_true rfl) jml_104 (Nat.le_of_ble_eq_true rfl) ?_
        replace h := ite_or h; rcases h with ⟨hc, h⟩ | ⟨hc, h⟩
        · refine jr_ifz_eq_f jf_103_13 hc ?_
          refine jr_aload_n jf_103_16 rfl hl0 ?_
          refine jr_lload_n jf_103_17 rfl hl1 ?_
          refine jr_lload_n jf_103_18 rfl hl3 ?_
          replace h := obd_of h; obtain ⟨x3, hx3, h⟩ := h
          rcases ite_or hx3 with ⟨hb, hx⟩ | ⟨hb0, hx⟩
          · refine jr_V8a_2 jf_103_19 hb (by omega) (r_Real_compared (by omega) _ _ _ _ _ hx) (Nat.le_of_ble_eq_true rfl) jml_105 (Nat.le_of_ble_eq_true rfl) ?_
            replace h := ite_or h; rcases h with ⟨hc, h⟩ | ⟨hc, h⟩
            · refine jr_if_le_t jf_103_22 hc ?_
              refine jr_iconst jf_103_29 jc_i_0 ?_
              obtain rfl := Option.some.inj h
              exact jr_retZ (x := false) jf_103_30 jmt_103
            · refine jr_if_le_f jf_103_22 hc ?_
              refine jr_iconst jf_103_25 jc_i_1 ?_
              refine jr_goto jf_103_26 ?_
              obtain rfl := Option.some.inj h
              exact jr_retZ (x := true) jf_103_30 jmt_103
          · obtain ⟨hb, hx⟩ := jgd_of hx
            obtain hx := Option.some.inj hx
            refine jr_V8b_2 jf_103_19 hb0 hb (by omega) (r_Shorts_compared (by omega) _ _ _ _ _ hx) (Nat.le_of_ble_eq_true rfl) jml_107 (Nat.le_of_ble_eq_true rfl) ?_
            replace h := ite_or h; rcases h with ⟨hc, h⟩ | ⟨hc, h⟩
            · refine jr_if_le_t jf_103_22 hc ?_
              refine jr_iconst jf_103_29 jc_i_0 ?_
              obtain rfl := Option.some.inj h
              exact jr_retZ (x := false) jf_103_30 jmt_103
            · refine jr_if_le_f jf_103_22 hc ?_
              refine jr_iconst jf_103_25 jc_i_1 ?_
              refine jr_goto jf_103_26 ?_
              obtain rfl := Option.some.inj h
              exact jr_retZ (x := true) jf_103_30 jmt_103
        · refine jr_ifz_eq_t jf_103_13 hc ?_
          refine jr_iconst jf_103_29 jc_i_0 ?_
          obtain rfl := Option.some.inj h
          exact jr_retZ (x := false) jf_103_30 jmt_103
    · refine jr_ifz_eq_t jf_103_5 hc ?_
      refine jr_iconst jf_103_29 jc_i_0 ?_
      obtain rfl := Option.some.inj h
      exact jr_retZ (x := false) jf_103_30 jmt_103
set_option maxRecDepth 10000 in
set_option maxHeartbeats 4000000 in
theorem r_Numbers_above {B : Nat} {SA : Nat → Nat} {d : Nat} (hd : 2 ≤ d) : ∀ (v0 : Nat) (v1 : Int64) (v3 : Int64) (μ : JMem) (r : Bool), g_Numbers_above v0 v1 v3 μ.1 = some r → jR B SA d m_Numbers_above 0 (lv_args 0 [.ref v0, .long v1, .long v3]) [] μ (some (.int (jb r))) μ := by
  intro v0 v1 v3 μ r h
  exact r_Numbers_above_e hd (lv_args 0 _) _ _ _ _ _ (by simp [lv_args, jget, rv_cat, cat_int, cat_long, cat_double, cat_float, cat_ref]) (by simp [lv_args, jget, rv_cat, cat_int, cat_long, cat_double, cat_float, cat_ref]) (by simp [lv_args, jget, rv_cat, cat_int, cat_long, cat_double, cat_float, cat_ref]) h
/-! FilterBench$Real.negative(J)J -/
set_option maxRecDepth 10000 in
set_option maxHeartbeats 4000000 in
theorem r_Real_negative_e {B : Nat} {SA : Nat → Nat} {d : Nat} (hd : 1 ≤ d) : ∀ (L : JLoc) (v0 : Nat) (v1 : Int64) (μ : JMem) (r : Int64), jget L 0 = .ref v0 → jget L 1 = .long v1 → g_Real_negative v0 v1 μ.1 = some r → jR B SA d m_Real_negative 0 L [] μ (some (.long r)) μ := by
  intro L v0 v1 μ r hl0 hl1 h
  unfold g_Real_negative at h
  refine jr_aload_n jf_92_0 rfl hl0 ?_
  refine jr_lload_n jf_92_1 rfl hl1 ?_
  replace h := jgd_of h; obtain ⟨hb1, h⟩ := h
  replace h := obd_of h; obtain ⟨x2, hx2, h⟩ := h
  refine jr_V6_1 jf_92_2 hb1 (by omega) (r_Real_isNumber (by omega) _ _ _ _ hx2) (Nat.le_of_ble_eq_true rfl) jml_18 (Nat.le_of_ble_eq_true rfl) ?_
  replace h := ite_or h; rcases h with ⟨hc, h⟩ | ⟨hc, h⟩
  · refine jr_ifz_eq_f jf_92_5 hc ?_
    refine jr_lload_n jf_92_8 rfl hl1 ?_
    refine jr_aload_n jf_92_9 rfl hl0 ?_
    replace h := obd_of h; obtain ⟨x3, hx3, h⟩ := h
    refine jr_getJ jf_92_10 hx3 ?_
    refine jr_lxor jf_92_13 ?_
    refine jr_goto jf_92_14 ?_
    obtain rfl := Option.some.inj h
    exact jr_retJ jf_92_21 jmt_92
  · refine jr_ifz_eq_t jf_92_5 hc ?_
    refine jr_aload_n jf_92_17 rfl hl0 ?_
    replace h := obd_of h; obtain ⟨x4, hx4, h⟩ := h
    refine jr_getJ jf_92_18 hx4 ?_
    obtain rfl := Option.some.inj h
    exact jr_retJ jf_92_21 jmt_92
set_option maxRecDepth 10000 in
set_option maxHeartbeats 4000000 in
theorem r_Real_negative {B : Nat} {SA : Nat → Nat} {d : Nat} (hd : 1 ≤ d) : ∀ (v0 : Nat) (v1 : Int64) (μ : JMem) (r : Int64), g_Real_negative v0 v1 μ.1 = some r → jR B SA d m_Real_negative 0 (lv_args 0 [.ref v0, .long v1]) [] μ (some (.long r)) μ := by
  intro v0 v1 μ r h
  exact r_Real_negative_e hd (lv_args 0 _) _ _ _ _ (by simp [lv_args, jget, rv_cat, cat_int, cat_long, cat_double, cat_float, cat_ref]) (by simp [lv_args, jget, rv_cat, cat_int, cat_long, cat_double, cat_float, cat_ref]) h
/-! FilterBench$Shorts.negative(J)J -/
set_option maxRecDepth 10000 in
set_option maxHeartbeats 4000000 in
theorem r_Shorts_negative_e {B : Nat} {SA : Nat → Nat} {d : Nat} (hd : 1 ≤ d) : ∀ (L : JLoc) (v1 : Int64) (μ : JMem) (r : Int64), jget L 1 = .long v1 → g_Shorts_negative_e v1 = r → jR B SA d m_Shorts_negative 0 L [] μ (some (.long r)) μ := by
  intro L v1 μ r hl1 h
  unfold g_Shorts_negative_e at h
  refine jr_lload_n jf_108_0 rfl hl1 ?_
  refine jr_lneg jf_108_1 ?_
  refine jr_S3_1 jf_108_2 (by omega) (r_Shorts_cut (by omega) _ _ _ rfl) (Nat.le_of_ble_eq_true rfl) jml_83 (Nat.le_of_ble_eq_true rfl) ?_
  subst h
  exact jr_retJ jf_108_5 jmt_108
set_option maxRecDepth 10000 in
set_option maxHeartbeats 4000000 in
theorem r_Shorts_negative {B : Nat} {SA : Nat → Nat} {d : Nat} (hd : 1 ≤ d) : ∀ (v0 : Nat) (v1 : Int64) (μ : JMem) (r : Int64), g_Shorts_negative v0 v1 = r → jR B SA d m_Shorts_negative 0 (lv_args 0 [.ref v0, .long v1]) [] μ (some (.long r)) μ := by
  intro v0 v1 μ r h
  exact r_Shorts_negative_e hd (lv_args 0 _) _ _ _ (by simp [lv_args, jget, rv_cat, cat_int, cat_long, cat_double, cat_float, cat_ref]) h
/-! FilterBench$Section.clipped(J)J -/
set_option maxRecDepth 10000 in
set_option maxHeartbeats 4000000 in
theorem r_Section_clipped_e {B : Nat} {SA : Nat → Nat} {d : Nat} (hd : 3 ≤ d) : ∀ (L : JLoc) (v0 : Nat) (v1 : Int64) (μ : JMem) (r : Int64) (μ9 : JMem), jget L 0 = .ref v0 → jget L 1 = .long v1 → g_Section_clipped B v0 v1 μ = some (r, μ9) → jR B SA d m_Section_clipped 0 L [] μ (some (.long r)) μ9 := by
  intro L v0 v1 μ r μ9 hl0 hl1 h
  unfold g_Section_clipped at h
  refine jr_aload_n jf_102_0 rfl hl0 ?_
  refine jr_iconst jf_102_1 jc_i_0 ?_
  replace h := jgd_of h; obtain ⟨hb1, h⟩ := h
  replace h := obd_of h; obtain ⟨x2, hx2, h⟩ := h
  refine jr_V6_1 jf_102_2 hb1 (by omega) (r_Section_factor (by omega) _ _ _ _ hx2) (Nat.le_of_ble_eq_true rfl) jml_43 (Nat.le_of_ble_eq_true rfl) ?_
  refine jr_lstore_n jf_102_5 rfl jml_102 (by decide) ?_
  refine jr_aload_n jf_102_6 rfl (jg2_ne rfl hl0) ?_
  replace h := obd_of h; obtain ⟨x3, hx3, h⟩ := h
  refine jr_getA jf_102_7 hx3 ?_
  refine jr_lload_n jf_102_10 rfl (jg2_ne rfl hl1) ?_
  refine jr_lload_n jf_102_11 rfl jg2_same ?_
  replace h := obd_of h; obtain ⟨a4, rfl, h⟩ := h
  replace h := obd_of h; obtain ⟨x5, hx5, h⟩ := h
  rcases ite_or hx5 with ⟨hb, hx⟩ | ⟨hb0, hx⟩
  · refine jr_V9a_2 jf_102_12 hb (by omega) (r_Numbers_above (by omega) _ _ _ _ _ hx) (Nat.le_of_ble_eq_true rfl) jml_103 (Nat.le_of_ble_eq_true rfl) ?_
    replace h := ite_or h; rcases h with ⟨hc, h⟩ | ⟨hc, h⟩
    · refine jr_ifz_eq_f jf_102_15 hc ?_
      refine jr_aload_n jf_102_18 rfl (jg2_ne rfl hl0) ?_
      refine jr_dup jf_102_19 rfl ?_
      replace h := obd_of h; obtain ⟨x6, hx6, h⟩ := h
      refine jr_getI jf_102_20 hx6 ?_
      refine jr_iconst jf_102_23 jc_i_1 ?_
      refine jr_iadd jf_102_24 ?_
      replace h := obd_of h; obtain ⟨μ7, hμ7, h⟩ := h
      refine jr_putI jf_102_25 rfl hμ7 ?_
      refine jr_lload_n jf_102_28 rfl jg2_same ?_
      obtain ⟨rfl, rfl⟩ := Prod.mk.inj (Option.some.inj h)
      exact jr_retJ jf_102_29 jmt_102
    · refine jr_ifz_eq_t jf_102_15 hc ?_
      refine jr_aload_n jf_102_30 rfl (jg2_ne rfl hl0) ?_
      replace h := obd_of h; obtain ⟨x8, hx8, h⟩ := h
      refine jr_getA jf_102_31 hx8 ?_
      refine jr_lload_n jf_102_34 rfl jg2_same ?_
      replace h := obd_of h; obtain ⟨a9, rfl, h⟩ := h
      replace h := obd_of h; obtain ⟨x10, hx10, h⟩ := h
      rcases ite_or hx10 with ⟨hb, hx⟩ | ⟨hb0, hx⟩
      · refine jr_V8a_1 jf_102_35 hb (by omega) (r_Real_negative (by omega) _ _ _ _ hx) (Nat.le_of_ble_eq_true rfl) jml_92 (Nat.le_of_ble_eq_true rfl) ?_
        refine jr_lstore jf_102_38 jml_102 (by decide) ?_
        refine jr_aload_n jf_102_40 rfl (jg2_ne rfl (jg2_ne rfl hl0)) ?_
        replace h := obd_of h; obtain ⟨x11, hx11, h⟩ := h
        refine jr_getA jf_102_41 hx11 ?_
        refine jr_lload jf_102_44 jg2_same ?_
        refine jr_lload_n jf_102_46 rfl (jg2_ne rfl (jg2_ne rfl hl1)) ?_
        replace h := obd_of h; obtain ⟨a12, rfl, h⟩ := h
        replace h := obd_of h; obtain ⟨x13, hx13, h⟩ := h
        rcases ite_or hx13 with ⟨hb, hx⟩ | ⟨hb0, hx⟩
        · refine jr_V9a_2 jf_102_47 hb (by omega) (r_Numbers_above (by omega) _ _ _ _ _ hx) (Nat.le_of_ble_eq_true rfl) jml_103 (Nat.le_of_ble_eq_true rfl) ?_
          replace h := ite_or h; rcases h with ⟨hc, h⟩ | ⟨hc, h⟩
          · refine jr_ifz_eq_f jf_102_50 hc ?_
            refine jr_aload_n jf_102_53 rfl (jg2_ne rfl (jg2_ne rfl hl0)) ?_
            refine jr_dup jf_102_54 rfl ?_
            replace h := obd_of h; obtain ⟨x14, hx14, h⟩ := h
            refine jr_getI jf_102_55 hx14 ?_
            refine jr_iconst jf_102_58 jc_i_1 ?_
            refine jr_iadd jf_102_59 ?_
            replace h := obd_of h; obtain ⟨μ15, hμ15, h⟩ := h
            refine jr_putI jf_102_60 rfl hμ15 ?_
            refine jr_lload jf_102_63 jg2_same ?_
            obtain ⟨rfl, rfl⟩ := Prod.mk.inj (Option.some.inj h)
            exact jr_retJ jf_102_65 jmt_102
          · refine jr_ifz_eq_t jf_102_50 hc ?_
            refine jr_lload_n jf_102_66 rfl (jg2_ne rfl (jg2_ne rfl hl1)) ?_
            obtain ⟨rfl, rfl⟩ := Prod.mk.inj (Option.some.inj h)
            exact jr_retJ jf_102_67 jmt_102
        · obtain ⟨hb, hx⟩ := jgd_of hx
          refine jr_V9b_2 jf_102_47 hb0 hb (by omega) (r_Numbers_above (by omega) _ _ _ _ _ hx) (Nat.le_of_ble_eq_true rfl) jml_103 (Nat.le_of_ble_eq_true rfl) ?_
          replace h := ite_or h; rcases h with ⟨hc, h⟩ | ⟨hc, h⟩
          · refine jr_ifz_eq_f jf_102_50 hc ?_
            refine jr_aload_n jf_102_53 rfl (jg2_ne rfl (jg2_ne rfl hl0)) ?_
            refine jr_dup jf_102_54 rfl ?_
            replace h := obd_of h; obtain ⟨x14, hx14, h⟩ := h
            refine jr_getI jf_102_55 hx14 ?_
            refine jr_iconst jf_102_58 jc_i_1 ?_
            refine jr_iadd jf_102_59 ?_
            replace h := obd_of h; obtain ⟨μ15, hμ15, h⟩ := h
            refine jr_putI jf_102_60 rfl hμ15 ?_
            refine jr_lload jf_102_63 jg2_same ?_
            obtain ⟨rfl, rfl⟩ := Prod.mk.inj (Option.some.inj h)
            exact jr_retJ jf_102_65 jmt_102
          · refine jr_ifz_eq_t jf_102_50 hc ?_
            refine jr_lload_n jf_102_66 rfl (jg2_ne rfl (jg2_ne rfl hl1)) ?_
            obtain ⟨rfl, rfl⟩ := Prod.mk.inj (Option.some.inj h)
            exact jr_retJ jf_102_67 jmt_102
      · obtain ⟨hb, hx⟩ := jgd_of hx
        obtain hx := Option.some.inj hx
        refine jr_V8b_1 jf_102_35 hb0 hb (by omega) (r_Shorts_negative (by omega) _ _ _ _ hx) (Nat.le_of_ble_eq_true rfl) jml_108 (Nat.le_of_ble_eq_true rfl) ?_
        refine jr_lstore jf_102_38 jml_102 (by decide) ?_
        refine jr_aload_n jf_102_40 rfl (jg2_ne rfl (jg2_ne rfl hl0)) ?_
        replace h := obd_of h; obtain ⟨x11, hx11, h⟩ := h
        refine jr_getA jf_102_41 hx11 ?_
        refine jr_lload jf_102_44 jg2_same ?_
        refine jr_lload_n jf_102_46 rfl (jg2_ne rfl (jg2_ne rfl hl1)) ?_
        replace h := obd_of h; obtain ⟨a12, rfl, h⟩ := h
        replace h := obd_of h; obtain ⟨x13, hx13, h⟩ := h
        rcases ite_or hx13 with ⟨hb, hx⟩ | ⟨hb0, hx⟩
        · refine jr_V9a_2 jf_102_47 hb (by omega) (r_Numbers_above (by omega) _ _ _ _ _ hx) (Nat.le_of_ble_eq_true rfl) jml_103 (Nat.le_of_ble_eq_true rfl) ?_
          replace h := ite_or h; rcases h with ⟨hc, h⟩ | ⟨hc, h⟩
          · refine jr_ifz_eq_f jf_102_50 hc ?_
            refine jr_aload_n jf_102_53 rfl (jg2_ne rfl (jg2_ne rfl hl0)) ?_
            refine jr_dup jf_102_54 rfl ?_
            replace h := obd_of h; obtain ⟨x14, hx14, h⟩ := h
            refine jr_getI jf_102_55 hx14 ?_
            refine jr_iconst jf_102_58 jc_i_1 ?_
            refine jr_iadd jf_102_59 ?_
            replace h := obd_of h; obtain ⟨μ15, hμ15, h⟩ := h
            refine jr_putI jf_102_60 rfl hμ15 ?_
            refine jr_lload jf_102_63 jg2_same ?_
            obtain ⟨rfl, rfl⟩ := Prod.mk.inj (Option.some.inj h)
            exact jr_retJ jf_102_65 jmt_102
          · refine jr_ifz_eq_t jf_102_50 hc ?_
            refine jr_lload_n jf_102_66 rfl (jg2_ne rfl (jg2_ne rfl hl1)) ?_
            obtain ⟨rfl, rfl⟩ := Prod.mk.inj (Option.some.inj h)
            exact jr_retJ jf_102_67 jmt_102
        · obtain ⟨hb, hx⟩ := jgd_of hx
          refine jr_V9b_2 jf_102_47 hb0 hb (by omega) (r_Numbers_above (by omega) _ _ _ _ _ hx) (Nat.le_of_ble_eq_true rfl) jml_103 (Nat.le_of_ble_eq_true rfl) ?_
          replace h := ite_or h; rcases h with ⟨hc, h⟩ | ⟨hc, h⟩
          · refine jr_ifz_eq_f jf_102_50 hc ?_
            refine jr_aload_n jf_102_53 rfl (jg2_ne rfl (jg2_ne rfl hl0)) ?_
            refine jr_dup jf_102_54 rfl ?_
            replace h := obd_of h; obtain ⟨x14, hx14, h⟩ := h
            refine jr_getI jf_102_55 hx14 ?_
            refine jr_iconst jf_102_58 jc_i_1 ?_
            refine jr_iadd jf_102_59 ?_
            replace h := obd_of h; obtain ⟨μ15, hμ15, h⟩ := h
            refine jr_putI jf_102_60 rfl hμ15 ?_
            refine jr_lload jf_102_63 jg2_same ?_
            obtain ⟨rfl, rfl⟩ := Prod.mk.inj (Option.some.inj h)
            exact jr_retJ jf_102_65 jmt_102
          · refine jr_ifz_eq_t jf_102_50 hc ?_
            refine jr_lload_n jf_102_66 rfl (jg2_ne rfl (jg2_ne rfl hl1)) ?_
            obtain ⟨rfl, rfl⟩ := Prod.mk.inj (Option.some.inj h)
            exact jr_retJ jf_102_67 jmt_102
  · obtain ⟨hb, hx⟩ := jgd_of hx
    refine jr_V9b_2 jf_102_12 hb0 hb (by omega) (r_Numbers_above (by omega) _ _ _ _ _ hx) (Nat.le_of_ble_eq_true rfl) jml_103 (Nat.le_of_ble_eq_true rfl) ?_
    replace h := ite_or h; rcases h with ⟨hc, h⟩ | ⟨hc, h⟩
    · refine jr_ifz_eq_f jf_102_15 hc ?_
      refine jr_aload_n jf_102_18 rfl (jg2_ne rfl hl0) ?_
      refine jr_dup jf_102_19 rfl ?_
      replace h := obd_of h; obtain ⟨x6, hx6, h⟩ := h
      refine jr_getI jf_102_20 hx6 ?_
      refine jr_iconst jf_102_23 jc_i_1 ?_
      refine jr_iadd jf_102_24 ?_
      replace h := obd_of h; obtain ⟨μ7, hμ7, h⟩ := h
      refine jr_putI jf_102_25 rfl hμ7 ?_
      refine jr_lload_n jf_102_28 rfl jg2_same ?_
      obtain ⟨rfl, rfl⟩ := Prod.mk.inj (Option.some.inj h)
      exact jr_retJ jf_102_29 jmt_102
    · refine jr_ifz_eq_t jf_102_15 hc ?_
      refine jr_aload_n jf_102_30 rfl (jg2_ne rfl hl0) ?_
      replace h := obd_of h; obtain ⟨x8, hx8, h⟩ := h
      refine jr_getA jf_102_31 hx8 ?_
      refine jr_lload_n jf_102_34 rfl jg2_same ?_
      replace h := obd_of h; obtain ⟨a9, rfl, h⟩ := h
      replace h := obd_of h; obtain ⟨x10, hx10, h⟩ := h
      rcases ite_or hx10 with ⟨hb, hx⟩ | ⟨hb0, hx⟩
      · refine jr_V8a_1 jf_102_35 hb (by omega) (r_Real_negative (by omega) _ _ _ _ hx) (Nat.le_of_ble_eq_true rfl) jml_92 (Nat.le_of_ble_eq_true rfl) ?_
        refine jr_lstore jf_102_38 jml_102 (by decide) ?_
        refine jr_aload_n jf_102_40 rfl (jg2_ne rfl (jg2_ne rfl hl0)) ?_
        replace h := obd_of h; obtain ⟨x11, hx11, h⟩ := h
        refine jr_getA jf_102_41 hx11 ?_
        refine jr_lload jf_102_44 jg2_same ?_
        refine jr_lload_n jf_102_46 rfl (jg2_ne rfl (jg2_ne rfl hl1)) ?_
        replace h := obd_of h; obtain ⟨a12, rfl, h⟩ := h
        replace h := obd_of h; obtain ⟨x13, hx13, h⟩ := h
        rcases ite_or hx13 with ⟨hb, hx⟩ | ⟨hb0, hx⟩
        · refine jr_V9a_2 jf_102_47 hb (by omega) (r_Numbers_above (by omega) _ _ _ _ _ hx) (Nat.le_of_ble_eq_true rfl) jml_103 (Nat.le_of_ble_eq_true rfl) ?_
          replace h := ite_or h; rcases h with ⟨hc, h⟩ | ⟨hc, h⟩
          · refine jr_ifz_eq_f jf_102_50 hc ?_
            refine jr_aload_n jf_102_53 rfl (jg2_ne rfl (jg2_ne rfl hl0)) ?_
            refine jr_dup jf_102_54 rfl ?_
            replace h := obd_of h; obtain ⟨x14, hx14, h⟩ := h
            refine jr_getI jf_102_55 hx14 ?_
            refine jr_iconst jf_102_58 jc_i_1 ?_
            refine jr_iadd jf_102_59 ?_
            replace h := obd_of h; obtain ⟨μ15, hμ15, h⟩ := h
            refine jr_putI jf_102_60 rfl hμ15 ?_
            refine jr_lload jf_102_63 jg2_same ?_
            obtain ⟨rfl, rfl⟩ := Prod.mk.inj (Option.some.inj h)
            exact jr_retJ jf_102_65 jmt_102
          · refine jr_ifz_eq_t jf_102_50 hc ?_
            refine jr_lload_n jf_102_66 rfl (jg2_ne rfl (jg2_ne rfl hl1)) ?_
            obtain ⟨rfl, rfl⟩ := Prod.mk.inj (Option.some.inj h)
            exact jr_retJ jf_102_67 jmt_102
        · obtain ⟨hb, hx⟩ := jgd_of hx
          refine jr_V9b_2 jf_102_47 hb0 hb (by omega) (r_Numbers_above (by omega) _ _ _ _ _ hx) (Nat.le_of_ble_eq_true rfl) jml_103 (Nat.le_of_ble_eq_true rfl) ?_
          replace h := ite_or h; rcases h with ⟨hc, h⟩ | ⟨hc, h⟩
          · refine jr_ifz_eq_f jf_102_50 hc ?_
            refine jr_aload_n jf_102_53 rfl (jg2_ne rfl (jg2_ne rfl hl0)) ?_
            refine jr_dup jf_102_54 rfl ?_
            replace h := obd_of h; obtain ⟨x14, hx14, h⟩ := h
            refine jr_getI jf_102_55 hx14 ?_
            refine jr_iconst jf_102_58 jc_i_1 ?_
            refine jr_iadd jf_102_59 ?_
            replace h := obd_of h; obtain ⟨μ15, hμ15, h⟩ := h
            refine jr_putI jf_102_60 rfl hμ15 ?_
            refine jr_lload jf_102_63 jg2_same ?_
            obtain ⟨rfl, rfl⟩ := Prod.mk.inj (Option.some.inj h)
            exact jr_retJ jf_102_65 jmt_102
          · refine jr_ifz_eq_t jf_102_50 hc ?_
            refine jr_lload_n jf_102_66 rfl (jg2_ne rfl (jg2_ne rfl hl1)) ?_
            obtain ⟨rfl, rfl⟩ := Prod.mk.inj (Option.some.inj h)
            exact jr_retJ jf_102_67 jmt_102
      · obtain ⟨hb, hx⟩ := jgd_of hx
        obtain hx := Option.some.inj hx
        refine jr_V8b_1 jf_102_35 hb0 hb (by omega) (r_Shorts_negative (by omega) _ _ _ _ hx) (Nat.le_of_ble_eq_true rfl) jml_108 (Nat.le_of_ble_eq_true rfl) ?_
        refine jr_lstore jf_102_38 jml_102 (by decide) ?_
        refine jr_aload_n jf_102_40 rfl (jg2_ne rfl (jg2_ne rfl hl0)) ?_
        replace h := obd_of h; obtain ⟨x11, hx11, h⟩ := h
        refine jr_getA jf_102_41 hx11 ?_
        refine jr_lload jf_102_44 jg2_same ?_
        refine jr_lload_n jf_102_46 rfl (jg2_ne rfl (jg2_ne rfl hl1)) ?_
        replace h := obd_of h; obtain ⟨a12, rfl, h⟩ := h
        replace h := obd_of h; obtain ⟨x13, hx13, h⟩ := h
        rcases ite_or hx13 with ⟨hb, hx⟩ | ⟨hb0, hx⟩
        · refine jr_V9a_2 jf_102_47 hb (by omega) (r_Numbers_above (by omega) _ _ _ _ _ hx) (Nat.le_of_ble_eq_true rfl) jml_103 (Nat.le_of_ble_eq_true rfl) ?_
          replace h := ite_or h; rcases h with ⟨hc, h⟩ | ⟨hc, h⟩
          · refine jr_ifz_eq_f jf_102_50 hc ?_
            refine jr_aload_n jf_102_53 rfl (jg2_ne rfl (jg2_ne rfl hl0)) ?_
            refine jr_dup jf_102_54 rfl ?_
            replace h := obd_of h; obtain ⟨x14, hx14, h⟩ := h
            refine jr_getI jf_102_55 hx14 ?_
            refine jr_iconst jf_102_58 jc_i_1 ?_
            refine jr_iadd jf_102_59 ?_
            replace h := obd_of h; obtain ⟨μ15, hμ15, h⟩ := h
            refine jr_putI jf_102_60 rfl hμ15 ?_
            refine jr_lload jf_102_63 jg2_same ?_
            obtain ⟨rfl, rfl⟩ := Prod.mk.inj (Option.some.inj h)
            exact jr_retJ jf_102_65 jmt_102
          · refine jr_ifz_eq_t jf_102_50 hc ?_
            refine jr_lload_n jf_102_66 rfl (jg2_ne rfl (jg2_ne rfl hl1)) ?_
            obtain ⟨rfl, rfl⟩ := Prod.mk.inj (Option.some.inj h)
            exact jr_retJ jf_102_67 jmt_102
        · obtain ⟨hb, hx⟩ := jgd_of hx
          refine jr_V9b_2 jf_102_47 hb0 hb (by omega) (r_Numbers_above (by omega) _ _ _ _ _ hx) (Nat.le_of_ble_eq_true rfl) jml_103 (Nat.le_of_ble_eq_true rfl) ?_
          replace h := ite_or h; rcases h with ⟨hc, h⟩ | ⟨hc, h⟩
          · refine jr_ifz_eq_f jf_102_50 hc ?_
            refine jr_aload_n jf_102_53 rfl (jg2_ne rfl (jg2_ne rfl hl0)) ?_
            refine jr_dup jf_102_54 rfl ?_
            replace h := obd_of h; obtain ⟨x14, hx14, h⟩ := h
            refine jr_getI jf_102_55 hx14 ?_
            refine jr_iconst jf_102_58 jc_i_1 ?_
            refine jr_iadd jf_102_59 ?_
            replace h := obd_of h; obtain ⟨μ15, hμ15, h⟩ := h
            refine jr_putI jf_102_60 rfl hμ15 ?_
            refine jr_lload jf_102_63 jg2_same ?_
            obtain ⟨rfl, rfl⟩ := Prod.mk.inj (Option.some.inj h)
            exact jr_retJ jf_102_65 jmt_102
          · refine jr_ifz_eq_t jf_102_50 hc ?_
            refine jr_lload_n jf_102_66 rfl (jg2_ne rfl (jg2_ne rfl hl1)) ?_
            obtain ⟨rfl, rfl⟩ := Prod.mk.inj (Option.some.inj h)
            exact jr_retJ jf_102_67 jmt_102
set_option maxRecDepth 10000 in
set_option maxHeartbeats 4000000 in
theorem r_Section_clipped {B : Nat} {SA : Nat → Nat} {d : Nat} (hd : 3 ≤ d) : ∀ (v0 : Nat) (v1 : Int64) (μ : JMem) (r : Int64) (μ9 : JMem), g_Section_clipped B v0 v1 μ = some (r, μ9) → jR B SA d m_Section_clipped 0 (lv_args 0 [.ref v0, .long v1]) [] μ (some (.long r)) μ9 := by
  intro v0 v1 μ r μ9 h
  exact r_Section_clipped_e hd (lv_args 0 _) _ _ _ _ _ (by simp [lv_args, jget, rv_cat, cat_int, cat_long, cat_double, cat_float, cat_ref]) (by simp [lv_args, jget, rv_cat, cat_int, cat_long, cat_double, cat_float, cat_ref]) h
/-! FilterBench$Section.times(IJ)J -/
set_option maxRecDepth 10000 in
set_option maxHeartbeats 4000000 in
theorem r_Section_times_e {B : Nat} {SA : Nat → Nat} {d : Nat} (hd : 3 ≤ d) : ∀ (L : JLoc) (v0 : Nat) (v1 : Int32) (v2 : Int64) (μ : JMem) (r : Int64), jget L 0 = .ref v0 → jget L 1 = .int v1 → jget L 2 = .long v2 → g_Section_times v0 v1 v2 μ.1 = some r → jR B SA d m_Section_times 0 L [] μ (some (.long r)) μ := by
  intro L v0 v1 v2 μ r hl0 hl1 hl2 h
  unfold g_Section_times at h
  refine jr_aload_n jf_87_0 rfl hl0 ?_
  replace h := obd_of h; obtain ⟨x1, hx1, h⟩ := h
  refine jr_getA jf_87_1 hx1 ?_
  refine jr_aload_n jf_87_4 rfl hl0 ?_
  refine jr_iload_n jf_87_5 rfl hl1 ?_
  replace h := jgd_of h; obtain ⟨hb2, h⟩ := h
  replace h := obd_of h; obtain ⟨x3, hx3, h⟩ := h
  refine jr_V6_1 jf_87_6 hb2 (by omega) (r_Section_factor (by omega) _ _ _ _ hx3) (by simp only [jcats_cons, jcats_nil, cat_int, cat_long, cat_double, cat_float, cat_ref, rv_cat]; decide) jml_43 (Nat.le_of_ble_eq_true rfl) ?_
  refine jr_lload_n jf_87_9 rfl hl2 ?_
  replace h := obd_of h; obtain ⟨a4, rfl, h⟩ := h
  replace h := obd_of h; obtain ⟨x5, hx5, h⟩ := h
  rcases ite_or hx5 with ⟨hb, hx⟩ | ⟨hb0, hx⟩
  · refine jr_V8a_2 jf_87_10 hb (by omega) (r_Real_product (by omega) _ _ _ _ _ hx) (Nat.le_of_ble_eq_true rfl) jml_69 (Nat.le_of_ble_eq_true rfl) ?_
    obtain rfl := Option.some.inj h
    exact jr_retJ jf_87_13 jmt_87
  · obtain ⟨hb, hx⟩ := jgd_of hx
    obtain hx := Option.some.inj hx
    refine jr_V8b_2 jf_87_10 hb0 hb (by omega) (r_Shorts_product (by omega) _ _ _ _ _ hx) (Nat.le_of_ble_eq_true rfl) jml_71 (Nat.le_of_ble_eq_true rfl) ?_
    obtain rfl := Option.some.inj h
    exact jr_retJ jf_87_13 jmt_87
set_option maxRecDepth 10000 in
set_option maxHeartbeats 4000000 in
theorem r_Section_times {B : Nat} {SA : Nat → Nat} {d : Nat} (hd : 3 ≤ d) : ∀ (v0 : Nat) (v1 : Int32) (v2 : Int64) (μ : JMem) (r : Int64), g_Section_times v0 v1 v2 μ.1 = some r → jR B SA d m_Section_times 0 (lv_args 0 [.ref v0, .int v1, .long v2]) [] μ (some (.long r)) μ := by
  intro v0 v1 v2 μ r h
  exact r_Section_times_e hd (lv_args 0 _) _ _ _ _ _ (by simp [lv_args, jget, rv_cat, cat_int, cat_long, cat_double, cat_float, cat_ref]) (by simp [lv_args, jget, rv_cat, cat_int, cat_long, cat_double, cat_float, cat_ref]) (by simp [lv_args, jget, rv_cat, cat_int, cat_long, cat_double, cat_float, cat_ref]) h
/-! FilterBench$Section.comb(J)J -/
set_option maxRecDepth 10000 in
set_option maxHeartbeats 4000000 in
theorem r_Section_comb_e {B : Nat} {SA : Nat → Nat} {d : Nat} (hd : 4 ≤ d) : ∀ (L : JLoc) (v0 : Nat) (v1 : Int64) (μ : JMem) (r : Int64) (μ9 : JMem), jget L 0 = .ref v0 → jget L 1 = .long v1 → g_Section_comb B v0 v1 μ = some (r, μ9) → jR B SA d m_Section_comb 0 L [] μ (some (.long r)) μ9 := by
  intro L v0 v1 μ r μ9 hl0 hl1 h
  unfold g_Section_comb at h
  refine jr_aload_n jf_101_0 rfl hl0 ?_
  refine jr_aload_n jf_101_1 rfl hl0 ?_
  replace h := obd_of h; obtain ⟨x1, hx1, h⟩ := h
  refine jr_getA jf_101_2 hx1 ?_
  refine jr_aload_n jf_101_5 rfl hl0 ?_
  replace h := obd_of h; obtain ⟨x2, hx2, h⟩ := h
  refine jr_getA jf_101_6 hx2 ?_
  refine jr_lload_n jf_101_9 rfl hl1 ?_
  replace h := obd_of h; obtain ⟨a3, rfl, h⟩ := h
  replace h := obd_of h; obtain ⟨x4, hx4, h⟩ := h
  rcases ite_or hx4 with ⟨hb, hx⟩ | ⟨hb0, hx⟩
  · obtain hx := Option.some.inj hx
    refine jr_V8a_1 jf_101_10 hb (by omega) (r_Real_term (by omega) _ _ _ _ hx) (by simp only [jcats_cons, jcats_nil, cat_int, cat_long, cat_double, cat_float, cat_ref, rv_cat]; decide) jml_72 (Nat.le_of_ble_eq_true rfl) ?_
    refine jr_aload_n jf_101_13 rfl hl0 ?_
    refine jr_iconst jf_101_14 jc_i_0 ?_
    refine jr_aload_n jf_101_15 rfl hl0 ?_
    replace h := obd_of h; obtain ⟨x5, hx5, h⟩ := h
    refine jr_getA jf_101_16 hx5 ?_
    refine jr_iconst jf_101_19 jc_i_0 ?_
    replace h := obd_of h; obtain ⟨a6, rfl, h⟩ := h
    replace h := jgd_of h; obtain ⟨hb7, h⟩ := h
    replace h := obd_of h; obtain ⟨x8, hx8, h⟩ := h
    refine jr_V6_1 jf_101_20 hb7 (by omega) (r_Row_at (by omega) _ _ _ _ hx8) (by simp only [jcats_cons, jcats_nil, cat_int, cat_long, cat_double, cat_float, cat_ref, rv_cat]; decide) jml_38 (Nat.le_of_ble_eq_true rfl) ?_
    replace h := jgd_of h; obtain ⟨hb9, h⟩ := h
    replace h := obd_of h; obtain ⟨x10, hx10, h⟩ := h
    refine jr_V6_2 jf_101_23 hb9 (by omega) (r_Section_times (by omega) _ _ _ _ _ hx10) (by simp only [jcats_cons, jcats_nil, cat_int, cat_long, cat_double, cat_float, cat_ref, rv_cat]; decide) jml_87 (Nat.le_of_ble_eq_true rfl) ?_
    replace h := obd_of h; obtain ⟨a11, rfl, h⟩ := h
    replace h := obd_of h; obtain ⟨x12, hx12, h⟩ := h
    rcases ite_or hx12 with ⟨hb, hx⟩ | ⟨hb0, hx⟩
    · refine jr_V8a_2 jf_101_26 hb (by omega) (r_Real_plus (by omega) _ _ _ _ _ hx) (Nat.le_of_ble_eq_true rfl) jml_74 (Nat.le_of_ble_eq_true rfl) ?_
      replace h := jgd_of h; obtain ⟨hb13, h⟩ := h
      replace h := jbd2_of h; obtain ⟨x14, μ15, hx14, h⟩ := h
      refine jr_V6_1 jf_101_29 hb13 (by omega) (r_Section_settled (by omega) _ _ _ _ _ hx14) (Nat.le_of_ble_eq_true rfl) jml_79 (Nat.le_of_ble_eq_true rfl) ?_
      refine jr_lstore_n jf_101_32 rfl jml_101 (by decide) ?_
      refine jr_aload_n jf_101_33 rfl (jg2_ne rfl hl0) ?_
      replace h := obd_of h; obtain ⟨x16, hx16, h⟩ := h
      refine jr_getA jf_101_34 hx16 ?_
      refine jr_lload_n jf_101_37 rfl jg2_same ?_
      replace h := obd_of h; obtain ⟨a17, rfl, h⟩ := h
      replace h := jgd_of h; obtain ⟨hb18, h⟩ := h
      replace h := obd_of h; obtain ⟨μ19, hμ19, h⟩ := h
      refine jr_V6v_1 jf_101_38 hb18 (by omega) (r_Row_push (by omega) _ _ _ _ hμ19) (Nat.le_of_ble_eq_true rfl) jml_98 (Nat.le_of_ble_eq_true rfl) ?_
      refine jr_lload_n jf_101_41 rfl jg2_same ?_
      obtain ⟨rfl, rfl⟩ := Prod.mk.inj (Option.some.inj h)
      exact jr_retJ jf_101_42 jmt_101
    · obtain ⟨hb, hx⟩ := jgd_of hx
      obtain hx := Option.some.inj hx
      refine jr_V8b_2 jf_101_26 hb0 hb (by omega) (r_Shorts_plus (by omega) _ _ _ _ _ hx) (Nat.le_of_ble_eq_true rfl) jml_78 (Nat.le_of_ble_eq_true rfl) ?_
      replace h := jgd_of h; obtain ⟨hb13, h⟩ := h
      replace h := jbd2_of h; obtain ⟨x14, μ15, hx14, h⟩ := h
      refine jr_V6_1 jf_101_29 hb13 (by omega) (r_Section_settled (by omega) _ _ _ _ _ hx14) (Nat.le_of_ble_eq_true rfl) jml_79 (Nat.le_of_ble_eq_true rfl) ?_
      refine jr_lstore_n jf_101_32 rfl jml_101 (by decide) ?_
      refine jr_aload_n jf_101_33 rfl (jg2_ne rfl hl0) ?_
      replace h := obd_of h; obtain ⟨x16, hx16, h⟩ := h
      refine jr_getA jf_101_34 hx16 ?_
      refine jr_lload_n jf_101_37 rfl jg2_same ?_
      replace h := obd_of h; obtain ⟨a17, rfl, h⟩ := h
      replace h := jgd_of h; obtain ⟨hb18, h⟩ := h
      replace h := obd_of h; obtain ⟨μ19, hμ19, h⟩ := h
      refine jr_V6v_1 jf_101_38 hb18 (by omega) (r_Row_push (by omega) _ _ _ _ hμ19) (Nat.le_of_ble_eq_true rfl) jml_98 (Nat.le_of_ble_eq_true rfl) ?_
      refine jr_lload_n jf_101_41 rfl jg2_same ?_
      obtain ⟨rfl, rfl⟩ := Prod.mk.inj (Option.some.inj h)
      exact jr_retJ jf_101_42 jmt_101
  · obtain ⟨hb, hx⟩ := jgd_of hx
    obtain hx := Option.some.inj hx
    refine jr_V8b_1 jf_101_10 hb0 hb (by omega) (r_Shorts_term (by omega) _ _ _ _ hx) (by simp only [jcats_cons, jcats_nil, cat_int, cat_long, cat_double, cat_float, cat_ref, rv_cat]; decide) jml_73 (Nat.le_of_ble_eq_true rfl) ?_
    refine jr_aload_n jf_101_13 rfl hl0 ?_
    refine jr_iconst jf_101_14 jc_i_0 ?_
    refine jr_aload_n jf_101_15 rfl hl0 ?_
    replace h := obd_of h; obtain ⟨x5, hx5, h⟩ := h
    refine jr_getA jf_101_16 hx5 ?_
    refine jr_iconst jf_101_19 jc_i_0 ?_
    replace h := obd_of h; obtain ⟨a6, rfl, h⟩ := h
    replace h := jgd_of h; obtain ⟨hb7, h⟩ := h
    replace h := obd_of h; obtain ⟨x8, hx8, h⟩ := h
    refine jr_V6_1 jf_101_20 hb7 (by omega) (r_Row_at (by omega) _ _ _ _ hx8) (by simp only [jcats_cons, jcats_nil, cat_int, cat_long, cat_double, cat_float, cat_ref, rv_cat]; decide) jml_38 (Nat.le_of_ble_eq_true rfl) ?_
    replace h := jgd_of h; obtain ⟨hb9, h⟩ := h
    replace h := obd_of h; obtain ⟨x10, hx10, h⟩ := h
    refine jr_V6_2 jf_101_23 hb9 (by omega) (r_Section_times (by omega) _ _ _ _ _ hx10) (by simp only [jcats_cons, jcats_nil, cat_int, cat_long, cat_double, cat_float, cat_ref, rv_cat]; decide) jml_87 (Nat.le_of_ble_eq_true rfl) ?_
    replace h := obd_of h; obtain ⟨a11, rfl, h⟩ := h
    replace h := obd_of h; obtain ⟨x12, hx12, h⟩ := h
    rcases ite_or hx12 with ⟨hb, hx⟩ | ⟨hb0, hx⟩
    · refine jr_V8a_2 jf_101_26 hb (by omega) (r_Real_plus (by omega) _ _ _ _ _ hx) (Nat.le_of_ble_eq_true rfl) jml_74 (Nat.le_of_ble_eq_true rfl) ?_
      replace h := jgd_of h; obtain ⟨hb13, h⟩ := h
      replace h := jbd2_of h; obtain ⟨x14, μ15, hx14, h⟩ := h
      refine jr_V6_1 jf_101_29 hb13 (by omega) (r_Section_settled (by omega) _ _ _ _ _ hx14) (Nat.le_of_ble_eq_true rfl) jml_79 (Nat.le_of_ble_eq_true rfl) ?_
      refine jr_lstore_n jf_101_32 rfl jml_101 (by decide) ?_
      refine jr_aload_n jf_101_33 rfl (jg2_ne rfl hl0) ?_
      replace h := obd_of h; obtain ⟨x16, hx16, h⟩ := h
      refine jr_getA jf_101_34 hx16 ?_
      refine jr_lload_n jf_101_37 rfl jg2_same ?_
      replace h := obd_of h; obtain ⟨a17, rfl, h⟩ := h
      replace h := jgd_of h; obtain ⟨hb18, h⟩ := h
      replace h := obd_of h; obtain ⟨μ19, hμ19, h⟩ := h
      refine jr_V6v_1 jf_101_38 hb18 (by omega) (r_Row_push (by omega) _ _ _ _ hμ19) (Nat.le_of_ble_eq_true rfl) jml_98 (Nat.le_of_ble_eq_true rfl) ?_
      refine jr_lload_n jf_101_41 rfl jg2_same ?_
      obtain ⟨rfl, rfl⟩ := Prod.mk.inj (Option.some.inj h)
      exact jr_retJ jf_101_42 jmt_101
    · obtain ⟨hb, hx⟩ := jgd_of hx
      obtain hx := Option.some.inj hx
      refine jr_V8b_2 jf_101_26 hb0 hb (by omega) (r_Shorts_plus (by omega) _ _ _ _ _ hx) (Nat.le_of_ble_eq_true rfl) jml_78 (Nat.le_of_ble_eq_true rfl) ?_
      replace h := jgd_of h; obtain ⟨hb13, h⟩ := h
      replace h := jbd2_of h; obtain ⟨x14, μ15, hx14, h⟩ := h
      refine jr_V6_1 jf_101_29 hb13 (by omega) (r_Section_settled (by omega) _ _ _ _ _ hx14) (Nat.le_of_ble_eq_true rfl) jml_79 (Nat.le_of_ble_eq_true rfl) ?_
      refine jr_lstore_n jf_101_32 rfl jml_101 (by decide) ?_
      refine jr_aload_n jf_101_33 rfl (jg2_ne rfl hl0) ?_
      replace h := obd_of h; obtain ⟨x16, hx16, h⟩ := h
      refine jr_getA jf_101_34 hx16 ?_
      refine jr_lload_n jf_101_37 rfl jg2_same ?_
      replace h := obd_of h; obtain ⟨a17, rfl, h⟩ := h
      replace h := jgd_of h; obtain ⟨hb18, h⟩ := h
      replace h := obd_of h; obtain ⟨μ19, hμ19, h⟩ := h
      refine jr_V6v_1 jf_101_38 hb18 (by omega) (r_Row_push (by omega) _ _ _ _ hμ19) (Nat.le_of_ble_eq_true rfl) jml_98 (Nat.le_of_ble_eq_true rfl) ?_
      refine jr_lload_n jf_101_41 rfl jg2_same ?_
      obtain ⟨rfl, rfl⟩ := Prod.mk.inj (Option.some.inj h)
      exact jr_retJ jf_101_42 jmt_101
set_option maxRecDepth 10000 in
set_option maxHeartbeats 4000000 in
theorem r_Section_comb {B : Nat} {SA : Nat → Nat} {d : Nat} (hd : 4 ≤ d) : ∀ (v0 : Nat) (v1 : Int64) (μ : JMem) (r : Int64) (μ9 : JMem), g_Section_comb B v0 v1 μ = some (r, μ9) → jR B SA d m_Section_comb 0 (lv_args 0 [.ref v0, .long v1]) [] μ (some (.long r)) μ9 := by
  intro v0 v1 μ r μ9 h
  exact r_Section_comb_e hd (lv_args 0 _) _ _ _ _ _ (by simp [lv_args, jget, rv_cat, cat_int, cat_long, cat_double, cat_float, cat_ref]) (by simp [lv_args, jget, rv_cat, cat_int, cat_long, cat_double, cat_float, cat_ref]) h
/-! FilterBench$Shorts.sizeOf(J)J -/
set_option maxRecDepth 10000 in
set_option maxHeartbeats 4000000 in
theorem r_Shorts_sizeOf_e {B : Nat} {SA : Nat → Nat} {d : Nat} (hd : 2 ≤ d) : ∀ (L : JLoc) (v0 : Nat) (v1 : Int64) (μ : JMem) (r : Int64), jget L 0 = .ref v0 → jget L 1 = .long v1 → g_Shorts_sizeOf v0 v1 μ.1 = some r → jR B SA d m_Shorts_sizeOf 0 L [] μ (some (.long r)) μ := by
  intro L v0 v1 μ r hl0 hl1 h
  unfold g_Shorts_sizeOf at h
  refine jr_lload_n jf_110_0 rfl hl1 ?_
  refine jr_lconst0 jf_110_1 ?_
  refine jr_lcmp jf_110_2 ?_
  replace h := ite_or h; rcases h with ⟨hc, h⟩ | ⟨hc, h⟩
  · refine jr_ifl_ge_t jf_110_3 hc ?_
    refine jr_lload_n jf_110_14 rfl hl1 ?_
    obtain rfl := Option.some.inj h
    exact jr_retJ jf_110_15 jmt_110
  · refine jr_ifl_ge_f jf_110_3 hc ?_
    refine jr_aload_n jf_110_6 rfl hl0 ?_
    refine jr_lload_n jf_110_7 rfl hl1 ?_
    replace h := jgd_of h; obtain ⟨hb1, h⟩ := h
    refine jr_V6_1 jf_110_8 hb1 (by omega) (r_Shorts_negative (by omega) _ _ _ _ rfl) (Nat.le_of_ble_eq_true rfl) jml_108 (Nat.le_of_ble_eq_true rfl) ?_
    refine jr_goto jf_110_11 ?_
    obtain rfl := Option.some.inj h
    exact jr_retJ jf_110_15 jmt_110
set_option maxRecDepth 10000 in
set_option maxHeartbeats 4000000 in
theorem r_Shorts_sizeOf {B : Nat} {SA : Nat → Nat} {d : Nat} (hd : 2 ≤ d) : ∀ (v0 : Nat) (v1 : Int64) (μ : JMem) (r : Int64), g_Shorts_sizeOf v0 v1 μ.1 = some r → jR B SA d m_Shorts_sizeOf 0 (lv_args 0 [.ref v0, .long v1]) [] μ (some (.long r)) μ := by
  intro v0 v1 μ r h
  exact r_Shorts_sizeOf_e hd (lv_args 0 _) _ _ _ _ (by simp [lv_args, jget, rv_cat, cat_int, cat_long, cat_double, cat_float, cat_ref]) (by simp [lv_args, jget, rv_cat, cat_int, cat_long, cat_double, cat_float, cat_ref]) h
/-! FilterBench$Section.deadened(J)J -/
set_option maxRecDepth 10000 in
set_option maxHeartbeats 4000000 in
theorem r_Section_deadened_e {B : Nat} {SA : Nat → Nat} {d : Nat} (hd : 3 ≤ d) : ∀ (L : JLoc) (v0 : Nat) (v1 : Int64) (μ : JMem) (r : Int64) (μ9 : JMem), jget L 0 = .ref v0 → jget L 1 = .long v1 → g_Section_deadened B v0 v1 μ = some (r, μ9) → jR B SA d m_Section_deadened 0 L [] μ (some (.long r)) μ9 := by
  intro L v0 v1 μ r μ9 hl0 hl1 h
  unfold g_Section_deadened at h
  refine jr_aload_n jf_109_0 rfl hl0 ?_
  refine jr_iconst jf_109_1 jc_i_0 ?_
  replace h := jgd_of h; obtain ⟨hb1, h⟩ := h
  replace h := obd_of h; obtain ⟨x2, hx2, h⟩ := h
  refine jr_V6_1 jf_109_2 hb1 (by omega) (r_Section_factor (by omega) _ _ _ _ hx2) (Nat.le_of_ble_eq_true rfl) jml_43 (Nat.le_of_ble_eq_true rfl) ?_
  refine jr_lstore_n jf_109_5 rfl jml_109 (by decide) ?_
  refine jr_aload_n jf_109_6 rfl (jg2_ne rfl hl0) ?_
  replace h := obd_of h; obtain ⟨x3, hx3, h⟩ := h
  refine jr_getA jf_109_7 hx3 ?_
  refine jr_lload_n jf_109_10 rfl (jg2_ne rfl hl1) ?_
  replace h := obd_of h; obtain ⟨a4, rfl, h⟩ := h
  replace h := obd_of h; obtain ⟨x5, hx5, h⟩ := h
  rcases ite_or hx5 with ⟨hb, hx⟩ | ⟨hb0, hx⟩
  · refine jr_V8a_1 jf_109_11 hb (by omega) (r_Real_isNumber (by omega) _ _ _ _ hx) (Nat.le_of_ble_eq_true rfl) jml_18 (Nat.le_of_ble_eq_true rfl) ?_
    replace h := ite_or h; rcases h with ⟨hc, h⟩ | ⟨hc, h⟩
    · refine jr_ifz_eq_f jf_109_14 hc ?_
      refine jr_aload_n jf_109_17 rfl (jg2_ne rfl hl0) ?_
      replace h := obd_of h; obtain ⟨x6, hx6, h⟩ := h
      refine jr_getA jf_109_18 hx6 ?_
      refine jr_lload_n jf_109_21 rfl jg2_same ?_
      replace h := obd_of h; obtain ⟨a7, rfl, h⟩ := h
      replace h := obd_of h; obtain ⟨x8, hx8, h⟩ := h
      rcases ite_or hx8 with ⟨hb, hx⟩ | ⟨hb0, hx⟩
      · refine jr_V8a_1 jf_109_22 hb (by omega) (r_Real_isNumber (by omega) _ _ _ _ hx) (Nat.le_of_ble_eq_true rfl) jml_18 (Nat.le_of_ble_eq_true rfl) ?_
        replace h := ite_or h; rcases h with ⟨hc, h⟩ | ⟨hc, h⟩
        · refine jr_ifz_eq_f jf_109_25 hc ?_
          refine jr_aload_n jf_109_28 rfl (jg2_ne rfl hl0) ?_
          replace h := obd_of h; obtain ⟨x9, hx9, h⟩ := h
          refine jr_getA jf_109_29 hx9 ?_
          refine jr_aload_n jf_109_32 rfl (jg2_ne rfl hl0) ?_
          replace h := obd_of h; obtain ⟨x10, hx10, h⟩ := h
          refine jr_getA jf_109_33 hx10 ?_
          refine jr_lload_n jf_109_36 rfl (jg2_ne rfl hl1) ?_
          replace h := obd_of h; obtain ⟨a11, rfl, h⟩ := h
          replace h := obd_of h; obtain ⟨x12, hx12, h⟩ := h
          rcases ite_or hx12 with ⟨hb, hx⟩ | ⟨hb0, hx⟩
          · refine jr_V8a_1 jf_109_37 hb (by omega) (r_Real_sizeOf (by omega) _ _ _ _ hx) (by simp only [jcats_cons, jcats_nil, cat_int, cat_long, cat_double, cat_float, cat_ref, rv_cat]; decide) jml_31 (Nat.le_of_ble_eq_true rfl) ?_
            refine jr_lload_n jf_109_40 rfl jg2_same ?_
            replace h := obd_of h; obtain ⟨a13, rfl, h⟩ := h
            replace h := obd_of h; obtain ⟨x14, hx14, h⟩ := h
            rcases ite_or hx14 with ⟨hb, hx⟩ | ⟨hb0, hx⟩
            · refine jr_V9a_2 jf_109_41 hb (by omega) (r_Numbers_above (by omega) _ _ _ _ _ hx) (Nat.le_of_ble_eq_true rfl) jml_103 (Nat.le_of_ble_eq_true rfl) ?_
              replace h := ite_or h; rcases h with ⟨hc, h⟩ | ⟨hc, h⟩
              · refine jr_ifz_eq_f jf_109_44 hc ?_
                refine jr_lload_n jf_109_47 rfl (jg2_ne rfl hl1) ?_
                obtain ⟨rfl, rfl⟩ := Prod.mk.inj (Option.some.inj h)
                exact jr_retJ jf_109_48 jmt_109
              · refine jr_ifz_eq_t jf_109_44 hc ?_
                refine jr_aload_n jf_109_49 rfl (jg2_ne rfl hl0) ?_
                refine jr_dup jf_109_50 rfl ?_
                replace h := obd_of h; obtain ⟨x15, hx15, h⟩ := h
                refine jr_getI jf_109_51 hx15 ?_
                refine jr_iconst jf_109_54 jc_i_1 ?_
                refine jr_iadd jf_109_55 ?_
                replace h := obd_of h; obtain ⟨μ16, hμ16, h⟩ := h
                refine jr_putI jf_109_56 rfl hμ16 ?_
                refine jr_lconst0 jf_109_59 ?_
                obtain ⟨rfl, rfl⟩ := Prod.mk.inj (Option.some.inj h)
                exact jr_retJ jf_109_60 jmt_109
            · obtain ⟨hb, hx⟩ := jgd_of hx
              refine jr_V9b_2 jf_109_41 hb0 hb (by omega) (r_Numbers_above (by omega) _ _ _ _ _ hx) (Nat.le_of_ble_eq_true rfl) jml_103 (Nat.le_of_ble_eq_true rfl) ?_
              replace h := ite_or h; rcases h with ⟨hc, h⟩ | ⟨hc, h⟩
              · refine jr_ifz_eq_f jf_109_44 hc ?_
                refine jr_lload_n jf_109_47 rfl (jg2_ne rfl hl1) ?_
                obtain ⟨rfl, rfl⟩ := Prod.mk.inj (Option.some.inj h)
                exact jr_retJ jf_109_48 jmt_109
              · refine jr_ifz_eq_t jf_109_44 hc ?_
                refine jr_aload_n jf_109_49 rfl (jg2_ne rfl hl0) ?_
                refine jr_dup jf_109_50 rfl ?_
                replace h := obd_of h; obtain ⟨x15, hx15, h⟩ := h
                refine jr_getI jf_109_51 hx15 ?_
                refine jr_iconst jf_109_54 jc_i_1 ?_
                refine jr_iadd jf_109_55 ?_
                replace h := obd_of h; obtain ⟨μ16, hμ16, h⟩ := h
                refine jr_putI jf_109_56 rfl hμ16 ?_
                refine jr_lconst0 jf_109_59 ?_
                obtain ⟨rfl, rfl⟩ := Prod.mk.inj (Option.some.inj h)
                exact jr_retJ jf_109_60 jmt_109
          · obtain ⟨hb, hx⟩ := jgd_of hx
            refine jr_V8b_1 jf_109_37 hb0 hb (by omega) (r_Shorts_sizeOf (by omega) _ _ _ _ hx) (by simp only [jcats_cons, jcats_nil, cat_int, cat_long, cat_double, cat_float, cat_ref, rv_cat]; decide) jml_110 (Nat.le_of_ble_eq_true rfl) ?_
            refine jr_lload_n jf_109_40 rfl jg2_same ?_
            replace h := obd_of h; obtain ⟨a13, rfl, h⟩ := h
            replace h := obd_of h; obtain ⟨x14, hx14, h⟩ := h
            rcases ite_or hx14 with ⟨hb, hx⟩ | ⟨hb0, hx⟩
            · refine jr_V9a_2 jf_109_41 hb (by omega) (r_Numbers_above (by omega) _ _ _ _ _ hx) (Nat.le_of_ble_eq_true rfl) jml_103 (Nat.le_of_ble_eq_true rfl) ?_
              replace h := ite_or h; rcases h with ⟨hc, h⟩ | ⟨hc, h⟩
              · refine jr_ifz_eq_f jf_109_44 hc ?_
                refine jr_lload_n jf_109_47 rfl (jg2_ne rfl hl1) ?_
                obtain ⟨rfl, rfl⟩ := Prod.mk.inj (Option.some.inj h)
                exact jr_retJ jf_109_48 jmt_109
              · refine jr_ifz_eq_t jf_109_44 hc ?_
                refine jr_aload_n jf_109_49 rfl (jg2_ne rfl hl0) ?_
                refine jr_dup jf_109_50 rfl ?_
                replace h := obd_of h; obtain ⟨x15, hx15, h⟩ := h
                refine jr_getI jf_109_51 hx15 ?_
                refine jr_iconst jf_109_54 jc_i_1 ?_
                refine jr_iadd jf_109_55 ?_
                replace h := obd_of h; obtain ⟨μ16, hμ16, h⟩ := h
                refine jr_putI jf_109_56 rfl hμ16 ?_
                refine jr_lconst0 jf_109_59 ?_
                obtain ⟨rfl, rfl⟩ := Prod.mk.inj (Option.some.inj h)
                exact jr_retJ jf_109_60 jmt_109
            · obtain ⟨hb, hx⟩ := jgd_of hx
              refine jr_V9b_2 jf_109_41 hb0 hb (by omega) (r_Numbers_above (by omega) _ _ _ _ _ hx) (Nat.le_of_ble_eq_true rfl) jml_103 (Nat.le_of_ble_eq_true rfl) ?_
              replace h := ite_or h; rcases h with ⟨hc, h⟩ | ⟨hc, h⟩
              · refine jr_ifz_eq_f jf_109_44 hc ?_
                refine jr_lload_n jf_109_47 rfl (jg2_ne rfl hl1) ?_
                obtain ⟨rfl, rfl⟩ := Prod.mk.inj (Option.some.inj h)
                exact jr_retJ jf_109_48 jmt_109
              · refine jr_ifz_eq_t jf_109_44 hc ?_
                refine jr_aload_n jf_109_49 rfl (jg2_ne rfl hl0) ?_
                refine jr_dup jf_109_50 rfl ?_
                replace h := obd_of h; obtain ⟨x15, hx15, h⟩ := h
                refine jr_getI jf_109_51 hx15 ?_
                refine jr_iconst jf_109_54 jc_i_1 ?_
                refine jr_iadd jf_109_55 ?_
                replace h := obd_of h; obtain ⟨μ16, hμ16, h⟩ := h
                refine jr_putI jf_109_56 rfl hμ16 ?_
                refine jr_lconst0 jf_109_59 ?_
                obtain ⟨rfl, rfl⟩ := Prod.mk.inj (Option.some.inj h)
                exact jr_retJ jf_109_60 jmt_109
        · refine jr_ifz_eq_t jf_109_25 hc ?_
          refine jr_lload_n jf_109_47 rfl (jg2_ne rfl hl1) ?_
          obtain ⟨rfl, rfl⟩ := Prod.mk.inj (Option.some.inj h)
          exact jr_retJ jf_109_48 jmt_109
      · obtain ⟨hb, hx⟩ := jgd_of hx
        obtain hx := Option.some.inj hx
        refine jr_V8b_1 jf_109_22 hb0 hb (by omega) (r_Shorts_isNumber (by omega) _ _ _ _ hx) (Nat.le_of_ble_eq_true rfl) jml_104 (Nat.le_of_ble_eq_true rfl) ?_
        replace h := ite_or h; rcases h with ⟨hc, h⟩ | ⟨hc, h⟩
        · refine jr_ifz_eq_f jf_109_25 hc ?_
          refine jr_aload_n jf_109_28 rfl (jg2_ne rfl hl0) ?_
          replace h := obd_of h; obtain ⟨x9, hx9, h⟩ := h
          refine jr_getA jf_109_29 hx9 ?_
          refine jr_aload_n jf_109_32 rfl (jg2_ne rfl hl0) ?_
          replace h := obd_of h; obtain ⟨x10, hx10, h⟩ := h
          refine jr_getA jf_109_33 hx10 ?_
          refine jr_lload_n jf_109_36 rfl (jg2_ne rfl hl1) ?_
          replace h := obd_of h; obtain ⟨a11, rfl, h⟩ := h
          replace h := obd_of h; obtain ⟨x12, hx12, h⟩ := h
          rcases ite_or hx12 with ⟨hb, hx⟩ | ⟨hb0, hx⟩
          · refine jr_V8a_1 jf_109_37 hb (by omega) (r_Real_sizeOf (by omega) _ _ _ _ hx) (by simp only [jcats_cons, jcats_nil, cat_int, cat_long, cat_double, cat_float, cat_ref, rv_cat]; decide) jml_31 (Nat.le_of_ble_eq_true rfl) ?_
            refine jr_lload_n jf_109_40 rfl jg2_same ?_
            replace h := obd_of h; obtain ⟨a13, rfl, h⟩ := h
            replace h := obd_of h; obtain ⟨x14, hx14, h⟩ := h
            rcases ite_or hx14 with ⟨hb, hx⟩ | ⟨hb0, hx⟩
            · refine jr_V9a_2 jf_109_41 hb (by omega) (r_Numbers_above (by omega) _ _ _ _ _ hx) (Nat.le_of_ble_eq_true rfl) jml_103 (Nat.le_of_ble_eq_true rfl) ?_
              replace h := ite_or h; rcases h with ⟨hc, h⟩ | ⟨hc, h⟩
              · refine jr_ifz_eq_f jf_109_44 hc ?_
                refine jr_lload_n jf_109_47 rfl (jg2_ne rfl hl1) ?_
                obtain ⟨rfl, rfl⟩ := Prod.mk.inj (Option.some.inj h)
                exact jr_retJ jf_109_48 jmt_109
              · refine jr_ifz_eq_t jf_109_44 hc ?_
                refine jr_aload_n jf_109_49 rfl (jg2_ne rfl hl0) ?_
                refine jr_dup jf_109_50 rfl ?_
                replace h := obd_of h; obtain ⟨x15, hx15, h⟩ := h
                refine jr_getI jf_109_51 hx15 ?_
                refine jr_iconst jf_109_54 jc_i_1 ?_
                refine jr_iadd jf_109_55 ?_
                replace h := obd_of h; obtain ⟨μ16, hμ16, h⟩ := h
                refine jr_putI jf_109_56 rfl hμ16 ?_
                refine jr_lconst0 jf_109_59 ?_
                obtain ⟨rfl, rfl⟩ := Prod.mk.inj (Option.some.inj h)
                exact jr_retJ jf_109_60 jmt_109
            · obtain ⟨hb, hx⟩ := jgd_of hx
              refine jr_V9b_2 jf_109_41 hb0 hb (by omega) (r_Numbers_above (by omega) _ _ _ _ _ hx) (Nat.le_of_ble_eq_true rfl) jml_103 (Nat.le_of_ble_eq_true rfl) ?_
              replace h := ite_or h; rcases h with ⟨hc, h⟩ | ⟨hc, h⟩
              · refine jr_ifz_eq_f jf_109_44 hc ?_
                refine jr_lload_n jf_109_47 rfl (jg2_ne rfl hl1) ?_
                obtain ⟨rfl, rfl⟩ := Prod.mk.inj (Option.some.inj h)
                exact jr_retJ jf_109_48 jmt_109
              · refine jr_ifz_eq_t jf_109_44 hc ?_
                refine jr_aload_n jf_109_49 rfl (jg2_ne rfl hl0) ?_
                refine jr_dup jf_109_50 rfl ?_
                replace h := obd_of h; obtain ⟨x15, hx15, h⟩ := h
                refine jr_getI jf_109_51 hx15 ?_
                refine jr_iconst jf_109_54 jc_i_1 ?_
                refine jr_iadd jf_109_55 ?_
                replace h := obd_of h; obtain ⟨μ16, hμ16, h⟩ := h
                refine jr_putI jf_109_56 rfl hμ16 ?_
                refine jr_lconst0 jf_109_59 ?_
                obtain ⟨rfl, rfl⟩ := Prod.mk.inj (Option.some.inj h)
                exact jr_retJ jf_109_60 jmt_109
          · obtain ⟨hb, hx⟩ := jgd_of hx
            refine jr_V8b_1 jf_109_37 hb0 hb (by omega) (r_Shorts_sizeOf (by omega) _ _ _ _ hx) (by simp only [jcats_cons, jcats_nil, cat_int, cat_long, cat_double, cat_float, cat_ref, rv_cat]; decide) jml_110 (Nat.le_of_ble_eq_true rfl) ?_
            refine jr_lload_n jf_109_40 rfl jg2_same ?_
            replace h := obd_of h; obtain ⟨a13, rfl, h⟩ := h
            replace h := obd_of h; obtain ⟨x14, hx14, h⟩ := h
            rcases ite_or hx14 with ⟨hb, hx⟩ | ⟨hb0, hx⟩
            · refine jr_V9a_2 jf_109_41 hb (by omega) (r_Numbers_above (by omega) _ _ _ _ _ hx) (Nat.le_of_ble_eq_true rfl) jml_103 (Nat.le_of_ble_eq_true rfl) ?_
              replace h := ite_or h; rcases h with ⟨hc, h⟩ | ⟨hc, h⟩
              · refine jr_ifz_eq_f jf_109_44 hc ?_
                refine jr_lload_n jf_109_47 rfl (jg2_ne rfl hl1) ?_
                obtain ⟨rfl, rfl⟩ := Prod.mk.inj (Option.some.inj h)
                exact jr_retJ jf_109_48 jmt_109
              · refine jr_ifz_eq_t jf_109_44 hc ?_
                refine jr_aload_n jf_109_49 rfl (jg2_ne rfl hl0) ?_
                refine jr_dup jf_109_50 rfl ?_
                replace h := obd_of h; obtain ⟨x15, hx15, h⟩ := h
                refine jr_getI jf_109_51 hx15 ?_
                refine jr_iconst jf_109_54 jc_i_1 ?_
                refine jr_iadd jf_109_55 ?_
                replace h := obd_of h; obtain ⟨μ16, hμ16, h⟩ := h
                refine jr_putI jf_109_56 rfl hμ16 ?_
                refine jr_lconst0 jf_109_59 ?_
                obtain ⟨rfl, rfl⟩ := Prod.mk.inj (Option.some.inj h)
                exact jr_retJ jf_109_60 jmt_109
            · obtain ⟨hb, hx⟩ := jgd_of hx
              refine jr_V9b_2 jf_109_41 hb0 hb (by omega) (r_Numbers_above (by omega) _ _ _ _ _ hx) (Nat.le_of_ble_eq_true rfl) jml_103 (Nat.le_of_ble_eq_true rfl) ?_
              replace h := ite_or h; rcases h with ⟨hc, h⟩ | ⟨hc, h⟩
              · refine jr_ifz_eq_f jf_109_44 hc ?_
                refine jr_lload_n jf_109_47 rfl (jg2_ne rfl hl1) ?_
                obtain ⟨rfl, rfl⟩ := Prod.mk.inj (Option.some.inj h)
                exact jr_retJ jf_109_48 jmt_109
              · refine jr_ifz_eq_t jf_109_44 hc ?_
                refine jr_aload_n jf_109_49 rfl (jg2_ne rfl hl0) ?_
                refine jr_dup jf_109_50 rfl ?_
                replace h := obd_of h; obtain ⟨x15, hx15, h⟩ := h
                refine jr_getI jf_109_51 hx15 ?_
                refine jr_iconst jf_109_54 jc_i_1 ?_
                refine jr_iadd jf_109_55 ?_
                replace h := obd_of h; obtain ⟨μ16, hμ16, h⟩ := h
                refine jr_putI jf_109_56 rfl hμ16 ?_
                refine jr_lconst0 jf_109_59 ?_
                obtain ⟨rfl, rfl⟩ := Prod.mk.inj (Option.some.inj h)
                exact jr_retJ jf_109_60 jmt_109
        · refine jr_ifz_eq_t jf_109_25 hc ?_
          refine jr_lload_n jf_109_47 rfl (jg2_ne rfl hl1) ?_
          obtain ⟨rfl, rfl⟩ := Prod.mk.inj (Option.some.inj h)
          exact jr_retJ jf_109_48 jmt_109
    · refine jr_ifz_eq_t jf_109_14 hc ?_
      refine jr_lload_n jf_109_47 rfl (jg2_ne rfl hl1) ?_
      obtain ⟨rfl, rfl⟩ := Prod.mk.inj (Option.some.inj h)
      exact jr_retJ jf_109_48 jmt_109
  · obtain ⟨hb, hx⟩ := jgd_of hx
    obtain hx := Option.some.inj hx
    refine jr_V8b_1 jf_109_11 hb0 hb (by omega) (r_Shorts_isNumber (by omega) _ _ _ _ hx) (Nat.le_of_ble_eq_true rfl) jml_104 (Nat.le_of_ble_eq_true rfl) ?_
    replace h := ite_or h; rcases h with ⟨hc, h⟩ | ⟨hc, h⟩
    · refine jr_ifz_eq_f jf_109_14 hc ?_
      refine jr_aload_n jf_109_17 rfl (jg2_ne rfl hl0) ?_
      replace h := obd_of h; obtain ⟨x6, hx6, h⟩ := h
      refine jr_getA jf_109_18 hx6 ?_
      refine jr_lload_n jf_109_21 rfl jg2_same ?_
      replace h := obd_of h; obtain ⟨a7, rfl, h⟩ := h
      replace h := obd_of h; obtain ⟨x8, hx8, h⟩ := h
      rcases ite_or hx8 with ⟨hb, hx⟩ | ⟨hb0, hx⟩
      · refine jr_V8a_1 jf_109_22 hb (by omega) (r_Real_isNumber (by omega) _ _ _ _ hx) (Nat.le_of_ble_eq_true rfl) jml_18 (Nat.le_of_ble_eq_true rfl) ?_
        replace h := ite_or h; rcases h with ⟨hc, h⟩ | ⟨hc, h⟩
        · refine jr_ifz_eq_f jf_109_25 hc ?_
          refine jr_aload_n jf_109_28 rfl (jg2_ne rfl hl0) ?_
          replace h := obd_of h; obtain ⟨x9, hx9, h⟩ := h
          refine jr_getA jf_109_29 hx9 ?_
          refine jr_aload_n jf_109_32 rfl (jg2_ne rfl hl0) ?_
          replace h := obd_of h; obtain ⟨x10, hx10, h⟩ := h
          refine jr_getA jf_109_33 hx10 ?_
          refine jr_lload_n jf_109_36 rfl (jg2_ne rfl hl1) ?_
          replace h := obd_of h; obtain ⟨a11, rfl, h⟩ := h
          replace h := obd_of h; obtain ⟨x12, hx12, h⟩ := h
          rcases ite_or hx12 with ⟨hb, hx⟩ | ⟨hb0, hx⟩
          · refine jr_V8a_1 jf_109_37 hb (by omega) (r_Real_sizeOf (by omega) _ _ _ _ hx) (by simp only [jcats_cons, jcats_nil, cat_int, cat_long, cat_double, cat_float, cat_ref, rv_cat]; decide) jml_31 (Nat.le_of_ble_eq_true rfl) ?_
            refine jr_lload_n jf_109_40 rfl jg2_same ?_
            replace h := obd_of h; obtain ⟨a13, rfl, h⟩ := h
            replace h := obd_of h; obtain ⟨x14, hx14, h⟩ := h
            rcases ite_or hx14 with ⟨hb, hx⟩ | ⟨hb0, hx⟩
            · refine jr_V9a_2 jf_109_41 hb (by omega) (r_Numbers_above (by omega) _ _ _ _ _ hx) (Nat.le_of_ble_eq_true rfl) jml_103 (Nat.le_of_ble_eq_true rfl) ?_
              replace h := ite_or h; rcases h with ⟨hc, h⟩ | ⟨hc, h⟩
              · refine jr_ifz_eq_f jf_109_44 hc ?_
                refine jr_lload_n jf_109_47 rfl (jg2_ne rfl hl1) ?_
                obtain ⟨rfl, rfl⟩ := Prod.mk.inj (Option.some.inj h)
                exact jr_retJ jf_109_48 jmt_109
              · refine jr_ifz_eq_t jf_109_44 hc ?_
                refine jr_aload_n jf_109_49 rfl (jg2_ne rfl hl0) ?_
                refine jr_dup jf_109_50 rfl ?_
                replace h := obd_of h; obtain ⟨x15, hx15, h⟩ := h
                refine jr_getI jf_109_51 hx15 ?_
                refine jr_iconst jf_109_54 jc_i_1 ?_
                refine jr_iadd jf_109_55 ?_
                replace h := obd_of h; obtain ⟨μ16, hμ16, h⟩ := h
                refine jr_putI jf_109_56 rfl hμ16 ?_
                refine jr_lconst0 jf_109_59 ?_
                obtain ⟨rfl, rfl⟩ := Prod.mk.inj (Option.some.inj h)
                exact jr_retJ jf_109_60 jmt_109
            · obtain ⟨hb, hx⟩ := jgd_of hx
              refine jr_V9b_2 jf_109_41 hb0 hb (by omega) (r_Numbers_above (by omega) _ _ _ _ _ hx) (Nat.le_of_ble_eq_true rfl) jml_103 (Nat.le_of_ble_eq_true rfl) ?_
              replace h := ite_or h; rcases h with ⟨hc, h⟩ | ⟨hc, h⟩
              · refine jr_ifz_eq_f jf_109_44 hc ?_
                refine jr_lload_n jf_109_47 rfl (jg2_ne rfl hl1) ?_
                obtain ⟨rfl, rfl⟩ := Prod.mk.inj (Option.some.inj h)
                exact jr_retJ jf_109_48 jmt_109
              · refine jr_ifz_eq_t jf_109_44 hc ?_
                refine jr_aload_n jf_109_49 rfl (jg2_ne rfl hl0) ?_
                refine jr_dup jf_109_50 rfl ?_
                replace h := obd_of h; obtain ⟨x15, hx15, h⟩ := h
                refine jr_getI jf_109_51 hx15 ?_
                refine jr_iconst jf_109_54 jc_i_1 ?_
                refine jr_iadd jf_109_55 ?_
                replace h := obd_of h; obtain ⟨μ16, hμ16, h⟩ := h
                refine jr_putI jf_109_56 rfl hμ16 ?_
                refine jr_lconst0 jf_109_59 ?_
                obtain ⟨rfl, rfl⟩ := Prod.mk.inj (Option.some.inj h)
                exact jr_retJ jf_109_60 jmt_109
          · obtain ⟨hb, hx⟩ := jgd_of hx
            refine jr_V8b_1 jf_109_37 hb0 hb (by omega) (r_Shorts_sizeOf (by omega) _ _ _ _ hx) (by simp only [jcats_cons, jcats_nil, cat_int, cat_long, cat_double, cat_float, cat_ref, rv_cat]; decide) jml_110 (Nat.le_of_ble_eq_true rfl) ?_
            refine jr_lload_n jf_109_40 rfl jg2_same ?_
            replace h := obd_of h; obtain ⟨a13, rfl, h⟩ := h
            replace h := obd_of h; obtain ⟨x14, hx14, h⟩ := h
            rcases ite_or hx14 with ⟨hb, hx⟩ | ⟨hb0, hx⟩
            · refine jr_V9a_2 jf_109_41 hb (by omega) (r_Numbers_above (by omega) _ _ _ _ _ hx) (Nat.le_of_ble_eq_true rfl) jml_103 (Nat.le_of_ble_eq_true rfl) ?_
              replace h := ite_or h; rcases h with ⟨hc, h⟩ | ⟨hc, h⟩
              · refine jr_ifz_eq_f jf_109_44 hc ?_
                refine jr_lload_n jf_109_47 rfl (jg2_ne rfl hl1) ?_
                obtain ⟨rfl, rfl⟩ := Prod.mk.inj (Option.some.inj h)
                exact jr_retJ jf_109_48 jmt_109
              · refine jr_ifz_eq_t jf_109_44 hc ?_
                refine jr_aload_n jf_109_49 rfl (jg2_ne rfl hl0) ?_
                refine jr_dup jf_109_50 rfl ?_
                replace h := obd_of h; obtain ⟨x15, hx15, h⟩ := h
                refine jr_getI jf_109_51 hx15 ?_
                refine jr_iconst jf_109_54 jc_i_1 ?_
                refine jr_iadd jf_109_55 ?_
                replace h := obd_of h; obtain ⟨μ16, hμ16, h⟩ := h
                refine jr_putI jf_109_56 rfl hμ16 ?_
                refine jr_lconst0 jf_109_59 ?_
                obtain ⟨rfl, rfl⟩ := Prod.mk.inj (Option.some.inj h)
                exact jr_retJ jf_109_60 jmt_109
            · obtain ⟨hb, hx⟩ := jgd_of hx
              refine jr_V9b_2 jf_109_41 hb0 hb (by omega) (r_Numbers_above (by omega) _ _ _ _ _ hx) (Nat.le_of_ble_eq_true rfl) jml_103 (Nat.le_of_ble_eq_true rfl) ?_
              replace h := ite_or h; rcases h with ⟨hc, h⟩ | ⟨hc, h⟩
              · refine jr_ifz_eq_f jf_109_44 hc ?_
                refine jr_lload_n jf_109_47 rfl (jg2_ne rfl hl1) ?_
                obtain ⟨rfl, rfl⟩ := Prod.mk.inj (Option.some.inj h)
                exact jr_retJ jf_109_48 jmt_109
              · refine jr_ifz_eq_t jf_109_44 hc ?_
                refine jr_aload_n jf_109_49 rfl (jg2_ne rfl hl0) ?_
                refine jr_dup jf_109_50 rfl ?_
                replace h := obd_of h; obtain ⟨x15, hx15, h⟩ := h
                refine jr_getI jf_109_51 hx15 ?_
                refine jr_iconst jf_109_54 jc_i_1 ?_
                refine jr_iadd jf_109_55 ?_
                replace h := obd_of h; obtain ⟨μ16, hμ16, h⟩ := h
                refine jr_putI jf_109_56 rfl hμ16 ?_
                refine jr_lconst0 jf_109_59 ?_
                obtain ⟨rfl, rfl⟩ := Prod.mk.inj (Option.some.inj h)
                exact jr_retJ jf_109_60 jmt_109
        · refine jr_ifz_eq_t jf_109_25 hc ?_
          refine jr_lload_n jf_109_47 rfl (jg2_ne rfl hl1) ?_
          obtain ⟨rfl, rfl⟩ := Prod.mk.inj (Option.some.inj h)
          exact jr_retJ jf_109_48 jmt_109
      · obtain ⟨hb, hx⟩ := jgd_of hx
        obtain hx := Option.some.inj hx
        refine jr_V8b_1 jf_109_22 hb0 hb (by omega) (r_Shorts_isNumber (by omega) _ _ _ _ hx) (Nat.le_of_ble_eq_true rfl) jml_104 (Nat.le_of_ble_eq_true rfl) ?_
        replace h := ite_or h; rcases h with ⟨hc, h⟩ | ⟨hc, h⟩
        · refine jr_ifz_eq_f jf_109_25 hc ?_
          refine jr_aload_n jf_109_28 rfl (jg2_ne rfl hl0) ?_
          replace h := obd_of h; obtain ⟨x9, hx9, h⟩ := h
          refine jr_getA jf_109_29 hx9 ?_
          refine jr_aload_n jf_109_32 rfl (jg2_ne rfl hl0) ?_
          replace h := obd_of h; obtain ⟨x10, hx10, h⟩ := h
          refine jr_getA jf_109_33 hx10 ?_
          refine jr_lload_n jf_109_36 rfl (jg2_ne rfl hl1) ?_
          replace h := obd_of h; obtain ⟨a11, rfl, h⟩ := h
          replace h := obd_of h; obtain ⟨x12, hx12, h⟩ := h
          rcases ite_or hx12 with ⟨hb, hx⟩ | ⟨hb0, hx⟩
          · refine jr_V8a_1 jf_109_37 hb (by omega) (r_Real_sizeOf (by omega) _ _ _ _ hx) (by simp only [jcats_cons, jcats_nil, cat_int, cat_long, cat_double, cat_float, cat_ref, rv_cat]; decide) jml_31 (Nat.le_of_ble_eq_true rfl) ?_
            refine jr_lload_n jf_109_40 rfl jg2_same ?_
            replace h := obd_of h; obtain ⟨a13, rfl, h⟩ := h
            replace h := obd_of h; obtain ⟨x14, hx14, h⟩ := h
            rcases ite_or hx14 with ⟨hb, hx⟩ | ⟨hb0, hx⟩
            · refine jr_V9a_2 jf_109_41 hb (by omega) (r_Numbers_above (by omega) _ _ _ _ _ hx) (Nat.le_of_ble_eq_true rfl) jml_103 (Nat.le_of_ble_eq_true rfl) ?_
              replace h := ite_or h; rcases h with ⟨hc, h⟩ | ⟨hc, h⟩
              · refine jr_ifz_eq_f jf_109_44 hc ?_
                refine jr_lload_n jf_109_47 rfl (jg2_ne rfl hl1) ?_
                obtain ⟨rfl, rfl⟩ := Prod.mk.inj (Option.some.inj h)
                exact jr_retJ jf_109_48 jmt_109
              · refine jr_ifz_eq_t jf_109_44 hc ?_
                refine jr_aload_n jf_109_49 rfl (jg2_ne rfl hl0) ?_
                refine jr_dup jf_109_50 rfl ?_
                replace h := obd_of h; obtain ⟨x15, hx15, h⟩ := h
                refine jr_getI jf_109_51 hx15 ?_
                refine jr_iconst jf_109_54 jc_i_1 ?_
                refine jr_iadd jf_109_55 ?_
                replace h := obd_of h; obtain ⟨μ16, hμ16, h⟩ := h
                refine jr_putI jf_109_56 rfl hμ16 ?_
                refine jr_lconst0 jf_109_59 ?_
                obtain ⟨rfl, rfl⟩ := Prod.mk.inj (Option.some.inj h)
                exact jr_retJ jf_109_60 jmt_109
            · obtain ⟨hb, hx⟩ := jgd_of hx
              refine jr_V9b_2 jf_109_41 hb0 hb (by omega) (r_Numbers_above (by omega) _ _ _ _ _ hx) (Nat.le_of_ble_eq_true rfl) jml_103 (Nat.le_of_ble_eq_true rfl) ?_
              replace h := ite_or h; rcases h with ⟨hc, h⟩ | ⟨hc, h⟩
              · refine jr_ifz_eq_f jf_109_44 hc ?_
                refine jr_lload_n jf_109_47 rfl (jg2_ne rfl hl1) ?_
                obtain ⟨rfl, rfl⟩ := Prod.mk.inj (Option.some.inj h)
                exact jr_retJ jf_109_48 jmt_109
              · refine jr_ifz_eq_t jf_109_44 hc ?_
                refine jr_aload_n jf_109_49 rfl (jg2_ne rfl hl0) ?_
                refine jr_dup jf_109_50 rfl ?_
                replace h := obd_of h; obtain ⟨x15, hx15, h⟩ := h
                refine jr_getI jf_109_51 hx15 ?_
                refine jr_iconst jf_109_54 jc_i_1 ?_
                refine jr_iadd jf_109_55 ?_
                replace h := obd_of h; obtain ⟨μ16, hμ16, h⟩ := h
                refine jr_putI jf_109_56 rfl hμ16 ?_
                refine jr_lconst0 jf_109_59 ?_
                obtain ⟨rfl, rfl⟩ := Prod.mk.inj (Option.some.inj h)
                exact jr_retJ jf_109_60 jmt_109
          · obtain ⟨hb, hx⟩ := jgd_of hx
            refine jr_V8b_1 jf_109_37 hb0 hb (by omega) (r_Shorts_sizeOf (by omega) _ _ _ _ hx) (by simp only [jcats_cons, jcats_nil, cat_int, cat_long, cat_double, cat_float, cat_ref, rv_cat]; decide) jml_110 (Nat.le_of_ble_eq_true rfl) ?_
            refine jr_lload_n jf_109_40 rfl jg2_same ?_
            replace h := obd_of h; obtain ⟨a13, rfl, h⟩ := h
            replace h := obd_of h; obtain ⟨x14, hx14, h⟩ := h
            rcases ite_or hx14 with ⟨hb, hx⟩ | ⟨hb0, hx⟩
            · refine jr_V9a_2 jf_109_41 hb (by omega) (r_Numbers_above (by omega) _ _ _ _ _ hx) (Nat.le_of_ble_eq_true rfl) jml_103 (Nat.le_of_ble_eq_true rfl) ?_
              replace h := ite_or h; rcases h with ⟨hc, h⟩ | ⟨hc, h⟩
              · refine jr_ifz_eq_f jf_109_44 hc ?_
                refine jr_lload_n jf_109_47 rfl (jg2_ne rfl hl1) ?_
                obtain ⟨rfl, rfl⟩ := Prod.mk.inj (Option.some.inj h)
                exact jr_retJ jf_109_48 jmt_109
              · refine jr_ifz_eq_t jf_109_44 hc ?_
                refine jr_aload_n jf_109_49 rfl (jg2_ne rfl hl0) ?_
                refine jr_dup jf_109_50 rfl ?_
                replace h := obd_of h; obtain ⟨x15, hx15, h⟩ := h
                refine jr_getI jf_109_51 hx15 ?_
                refine jr_iconst jf_109_54 jc_i_1 ?_
                refine jr_iadd jf_109_55 ?_
                replace h := obd_of h; obtain ⟨μ16, hμ16, h⟩ := h
                refine jr_putI jf_109_56 rfl hμ16 ?_
                refine jr_lconst0 jf_109_59 ?_
                obtain ⟨rfl, rfl⟩ := Prod.mk.inj (Option.some.inj h)
                exact jr_retJ jf_109_60 jmt_109
            · obtain ⟨hb, hx⟩ := jgd_of hx
              refine jr_V9b_2 jf_109_41 hb0 hb (by omega) (r_Numbers_above (by omega) _ _ _ _ _ hx) (Nat.le_of_ble_eq_true rfl) jml_103 (Nat.le_of_ble_eq_true rfl) ?_
              replace h := ite_or h; rcases h with ⟨hc, h⟩ | ⟨hc, h⟩
              · refine jr_ifz_eq_f jf_109_44 hc ?_
                refine jr_lload_n jf_109_47 rfl (jg2_ne rfl hl1) ?_
                obtain ⟨rfl, rfl⟩ := Prod.mk.inj (Option.some.inj h)
                exact jr_retJ jf_109_48 jmt_109
              · refine jr_ifz_eq_t jf_109_44 hc ?_
                refine jr_aload_n jf_109_49 rfl (jg2_ne rfl hl0) ?_
                refine jr_dup jf_109_50 rfl ?_
                replace h := obd_of h; obtain ⟨x15, hx15, h⟩ := h
                refine jr_getI jf_109_51 hx15 ?_
                refine jr_iconst jf_109_54 jc_i_1 ?_
                refine jr_iadd jf_109_55 ?_
                replace h := obd_of h; obtain ⟨μ16, hμ16, h⟩ := h
                refine jr_putI jf_109_56 rfl hμ16 ?_
                refine jr_lconst0 jf_109_59 ?_
                obtain ⟨rfl, rfl⟩ := Prod.mk.inj (Option.some.inj h)
                exact jr_retJ jf_109_60 jmt_109
        · refine jr_ifz_eq_t jf_109_25 hc ?_
          refine jr_lload_n jf_109_47 rfl (jg2_ne rfl hl1) ?_
          obtain ⟨rfl, rfl⟩ := Prod.mk.inj (Option.some.inj h)
          exact jr_retJ jf_109_48 jmt_109
    · refine jr_ifz_eq_t jf_109_14 hc ?_
      refine jr_lload_n jf_109_47 rfl (jg2_ne rfl hl1) ?_
      obtain ⟨rfl, rfl⟩ := Prod.mk.inj (Option.some.inj h)
      exact jr_retJ jf_109_48 jmt_109
set_option maxRecDepth 10000 in
set_option maxHeartbeats 4000000 in
theorem r_Section_deadened {B : Nat} {SA : Nat → Nat} {d : Nat} (hd : 3 ≤ d) : ∀ (v0 : Nat) (v1 : Int64) (μ : JMem) (r : Int64) (μ9 : JMem), g_Section_deadened B v0 v1 μ = some (r, μ9) → jR B SA d m_Section_deadened 0 (lv_args 0 [.ref v0, .long v1]) [] μ (some (.long r)) μ9 := by
  intro v0 v1 μ r μ9 h
  exact r_Section_deadened_e hd (lv_args 0 _) _ _ _ _ _ (by simp [lv_args, jget, rv_cat, cat_int, cat_long, cat_double, cat_float, cat_ref]) (by simp [lv_args, jget, rv_cat, cat_int, cat_long, cat_double, cat_float, cat_ref]) h
/-! FilterBench$Section.delayed(J)J -/
set_option maxRecDepth 10000 in
set_option maxHeartbeats 4000000 in
theorem r_Section_delayed_e {B : Nat} {SA : Nat → Nat} {d : Nat} (hd : 3 ≤ d) : ∀ (L : JLoc) (v0 : Nat) (v1 : Int64) (μ : JMem) (r : Int64) (μ9 : JMem), jget L 0 = .ref v0 → jget L 1 = .long v1 → g_Section_delayed B v0 v1 μ = some (r, μ9) → jR B SA d m_Section_delayed 0 L [] μ (some (.long r)) μ9 := by
  intro L v0 v1 μ r μ9 hl0 hl1 h
  unfold g_Section_delayed at h
  refine jr_aload_n jf_97_0 rfl hl0 ?_
  replace h := obd_of h; obtain ⟨x1, hx1, h⟩ := h
  refine jr_getA jf_97_1 hx1 ?_
  refine jr_iconst jf_97_4 jc_i_0 ?_
  replace h := obd_of h; obtain ⟨a2, rfl, h⟩ := h
  replace h := jgd_of h; obtain ⟨hb3, h⟩ := h
  replace h := obd_of h; obtain ⟨x4, hx4, h⟩ := h
  refine jr_V6_1 jf_97_5 hb3 (by omega) (r_Row_at (by omega) _ _ _ _ hx4) (Nat.le_of_ble_eq_true rfl) jml_38 (Nat.le_of_ble_eq_true rfl) ?_
  refine jr_lstore_n jf_97_8 rfl jml_97 (by decide) ?_
  refine jr_aload_n jf_97_9 rfl (jg2_ne rfl hl0) ?_
  replace h := obd_of h; obtain ⟨x5, hx5, h⟩ := h
  refine jr_getA jf_97_10 hx5 ?_
  refine jr_lload_n jf_97_13 rfl (jg2_ne rfl hl1) ?_
  replace h := obd_of h; obtain ⟨a6, rfl, h⟩ := h
  replace h := jgd_of h; obtain ⟨hb7, h⟩ := h
  replace h := obd_of h; obtain ⟨μ8, hμ8, h⟩ := h
  refine jr_V6v_1 jf_97_14 hb7 (by omega) (r_Row_push (by omega) _ _ _ _ hμ8) (Nat.le_of_ble_eq_true rfl) jml_98 (Nat.le_of_ble_eq_true rfl) ?_
  refine jr_lload_n jf_97_17 rfl jg2_same ?_
  obtain ⟨rfl, rfl⟩ := Prod.mk.inj (Option.some.inj h)
  exact jr_retJ jf_97_18 jmt_97
set_option maxRecDepth 10000 in
set_option maxHeartbeats 4000000 in
theorem r_Section_delayed {B : Nat} {SA : Nat → Nat} {d : Nat} (hd : 3 ≤ d) : ∀ (v0 : Nat) (v1 : Int64) (μ : JMem) (r : Int64) (μ9 : JMem), g_Section_delayed B v0 v1 μ = some (r, μ9) → jR B SA d m_Section_delayed 0 (lv_args 0 [.ref v0, .long v1]) [] μ (some (.long r)) μ9 := by
  intro v0 v1 μ r μ9 h
  exact r_Section_delayed_e hd (lv_args 0 _) _ _ _ _ _ (by simp [lv_args, jget, rv_cat, cat_int, cat_long, cat_double, cat_float, cat_ref]) (by simp [lv_args, jget, rv_cat, cat_int, cat_long, cat_double, cat_float, cat_ref]) h
/-! FilterBench$Real.opposite(J)J -/
set_option maxRecDepth 10000 in
set_option maxHeartbeats 4000000 in
theorem r_Real_opposite_e {B : Nat} {SA : Nat → Nat} {d : Nat} (hd : 2 ≤ d) : ∀ (L : JLoc) (v0 : Nat) (v1 : Int64) (μ : JMem) (r : Int64), jget L 0 = .ref v0 → jget L 1 = .long v1 → g_Real_opposite v0 v1 μ.1 = some r → jR B SA d m_Real_opposite 0 L [] μ (some (.long r)) μ := by
  intro L v0 v1 μ r hl0 hl1 h
  unfold g_Real_opposite at h
  refine jr_aload_n jf_91_0 rfl hl0 ?_
  refine jr_lload_n jf_91_1 rfl hl1 ?_
  replace h := jgd_of h; obtain ⟨hb1, h⟩ := h
  replace h := obd_of h; obtain ⟨x2, hx2, h⟩ := h
  refine jr_V6_1 jf_91_2 hb1 (by omega) (r_Real_negative (by omega) _ _ _ _ hx2) (Nat.le_of_ble_eq_true rfl) jml_92 (Nat.le_of_ble_eq_true rfl) ?_
  obtain rfl := Option.some.inj h
  exact jr_retJ jf_91_5 jmt_91
set_option maxRecDepth 10000 in
set_option maxHeartbeats 4000000 in
theorem r_Real_opposite {B : Nat} {SA : Nat → Nat} {d : Nat} (hd : 2 ≤ d) : ∀ (v0 : Nat) (v1 : Int64) (μ : JMem) (r : Int64), g_Real_opposite v0 v1 μ.1 = some r → jR B SA d m_Real_opposite 0 (lv_args 0 [.ref v0, .long v1]) [] μ (some (.long r)) μ := by
  intro v0 v1 μ r h
  exact r_Real_opposite_e hd (lv_args 0 _) _ _ _ _ (by simp [lv_args, jget, rv_cat, cat_int, cat_long, cat_double, cat_float, cat_ref]) (by simp [lv_args, jget, rv_cat, cat_int, cat_long, cat_double, cat_float, cat_ref]) h
/-! FilterBench$Shorts.opposite(J)J -/
set_option maxRecDepth 10000 in
set_option maxHeartbeats 4000000 in
theorem r_Shorts_opposite_e {B : Nat} {SA : Nat → Nat} {d : Nat} (hd : 0 ≤ d) : ∀ (L : JLoc) (v1 : Int64) (μ : JMem) (r : Int64), jget L 1 = .long v1 → g_Shorts_opposite_e v1 = r → jR B SA d m_Shorts_opposite 0 L [] μ (some (.long r)) μ := by
  intro L v1 μ r hl1 h
  unfold g_Shorts_opposite_e at h
  refine jr_lload_n jf_93_0 rfl hl1 ?_
  refine jr_lneg jf_93_1 ?_
  subst h
  exact jr_retJ jf_93_2 jmt_93
set_option maxRecDepth 10000 in
set_option maxHeartbeats 4000000 in
theorem r_Shorts_opposite {B : Nat} {SA : Nat → Nat} {d : Nat} (hd : 0 ≤ d) : ∀ (v0 : Nat) (v1 : Int64) (μ : JMem) (r : Int64), g_Shorts_opposite v0 v1 = r → jR B SA d m_Shorts_opposite 0 (lv_args 0 [.ref v0, .long v1]) [] μ (some (.long r)) μ := by
  intro v0 v1 μ r h
  exact r_Shorts_opposite_e hd (lv_args 0 _) _ _ _ (by simp [lv_args, jget, rv_cat, cat_int, cat_long, cat_double, cat_float, cat_ref]) h
/-! FilterBench$Section.lessTimes(IJ)J -/
set_option maxRecDepth 10000 in
set_option maxHeartbeats 4000000 in
theorem r_Section_lessTimes_e {B : Nat} {SA : Nat → Nat} {d : Nat} (hd : 3 ≤ d) : ∀ (L : JLoc) (v0 : Nat) (v1 : Int32) (v2 : Int64) (μ : JMem) (r : Int64), jget L 0 = .ref v0 → jget L 1 = .int v1 → jget L 2 = .long v2 → g_Section_lessTimes v0 v1 v2 μ.1 = some r → jR B SA d m_Section_lessTimes 0 L [] μ (some (.long r)) μ := by
  intro L v0 v1 v2 μ r hl0 hl1 hl2 h
  unfold g_Section_lessTimes at h
  refine jr_aload_n jf_90_0 rfl hl0 ?_
  replace h := obd_of h; obtain ⟨x1, hx1, h⟩ := h
  refine jr_getA jf_90_1 hx1 ?_
  refine jr_aload_n jf_90_4 rfl hl0 ?_
  replace h := obd_of h; obtain ⟨x2, hx2, h⟩ := h
  refine jr_getA jf_90_5 hx2 ?_
  refine jr_aload_n jf_90_8 rfl hl0 ?_
  refine jr_iload_n jf_90_9 rfl hl1 ?_
  replace h := jgd_of h; obtain ⟨hb3, h⟩ := h
  replace h := obd_of h; obtain ⟨x4, hx4, h⟩ := h
  refine jr_V6_1 jf_90_10 hb3 (by omega) (r_Section_factor (by omega) _ _ _ _ hx4) (by simp only [jcats_cons, jcats_nil, cat_int, cat_long, cat_double, cat_float, cat_ref, rv_cat]; decide) jml_43 (Nat.le_of_ble_eq_true rfl) ?_
  refine jr_lload_n jf_90_13 rfl hl2 ?_
  replace h := obd_of h; obtain ⟨a5, rfl, h⟩ := h
  replace h := obd_of h; obtain ⟨x6, hx6, h⟩ := h
  rcases ite_or hx6 with ⟨hb, hx⟩ | ⟨hb0, hx⟩
  · refine jr_V8a_2 jf_90_14 hb (by omega) (r_Real_product (by omega) _ _ _ _ _ hx) (by simp only [jcats_cons, jcats_nil, cat_int, cat_long, cat_double, cat_float, cat_ref, rv_cat]; decide) jml_69 (Nat.le_of_ble_eq_true rfl) ?_
    replace h := obd_of h; obtain ⟨a7, rfl, h⟩ := h
    replace h := obd_of h; obtain ⟨x8, hx8, h⟩ := h
    rcases ite_or hx8 with ⟨hb, hx⟩ | ⟨hb0, hx⟩
    · refine jr_V8a_1 jf_90_17 hb (by omega) (r_Real_opposite (by omega) _ _ _ _ hx) (Nat.le_of_ble_eq_true rfl) jml_91 (Nat.le_of_ble_eq_true rfl) ?_
      obtain rfl := Option.some.inj h
      exact jr_retJ jf_90_20 jmt_90
    · obtain ⟨hb, hx⟩ := jgd_of hx
      obtain hx := Option.some.inj hx
      refine jr_V8b_1 jf_90_17 hb0 hb (by omega) (r_Shorts_opposite (by omega) _ _ _ _ hx) (Nat.le_of_ble_eq_true rfl) jml_93 (Nat.le_of_ble_eq_true rfl) ?_
      obtain rfl := Option.some.inj h
      exact jr_retJ jf_90_20 jmt_90
  · obtain ⟨hb, hx⟩ := jgd_of hx
    obtain hx := Option.some.inj hx
    refine jr_V8b_2 jf_90_14 hb0 hb (by omega) (r_Shorts_product (by omega) _ _ _ _ _ hx) (by simp only [jcats_cons, jcats_nil, cat_int, cat_long, cat_double, cat_float, cat_ref, rv_cat]; decide) jml_71 (Nat.le_of_ble_eq_true rfl) ?_
    replace h := obd_of h; obtain ⟨a7, rfl, h⟩ := h
    replace h := obd_of h; obtain ⟨x8, hx8, h⟩ := h
    rcases ite_or hx8 with ⟨hb, hx⟩ | ⟨hb0, hx⟩
    · refine jr_V8a_1 jf_90_17 hb (by omega) (r_Real_opposite (by omega) _ _ _ _ hx) (Nat.le_of_ble_eq_true rfl) jml_91 (Nat.le_of_ble_eq_true rfl) ?_
      obtain rfl := Option.some.inj h
      exact jr_retJ jf_90_20 jmt_90
    · obtain ⟨hb, hx⟩ := jgd_of hx
      obtain hx := Option.some.inj hx
      refine jr_V8b_1 jf_90_17 hb0 hb (by omega) (r_Shorts_opposite (by omega) _ _ _ _ hx) (Nat.le_of_ble_eq_true rfl) jml_93 (Nat.le_of_ble_eq_true rfl) ?_
      obtain rfl := Option.some.inj h
      exact jr_retJ jf_90_20 jmt_90
set_option maxRecDepth 10000 in
set_option maxHeartbeats 4000000 in
theorem r_Section_lessTimes {B : Nat} {SA : Nat → Nat} {d : Nat} (hd : 3 ≤ d) : ∀ (v0 : Nat) (v1 : Int32) (v2 : Int64) (μ : JMem) (r : Int64), g_Section_lessTimes v0 v1 v2 μ.1 = some r → jR B SA d m_Section_lessTimes 0 (lv_args 0 [.ref v0, .int v1, .long v2]) [] μ (some (.long r)) μ := by
  intro v0 v1 v2 μ r h
  exact r_Section_lessTimes_e hd (lv_args 0 _) _ _ _ _ _ (by simp [lv_args, jget, rv_cat, cat_int, cat_long, cat_double, cat_float, cat_ref]) (by simp [lv_args, jget, rv_cat, cat_int, cat_long, cat_double, cat_float, cat_ref]) (by simp [lv_args, jget, rv_cat, cat_int, cat_long, cat_double, cat_float, cat_ref]) h
/-! FilterBench$Section.direct(J)J -/
set_option maxRecDepth 10000 in
set_option maxHeartbeats 4000000 in
theorem r_Section_direct_e {B : Nat} {SA : Nat → Nat} {d : Nat} (hd : 4 ≤ d) : ∀ (L : JLoc) (v0 : Nat) (v1 : Int64) (μ : JMem) (r : Int64) (μ9 : JMem), jget L 0 = .ref v0 → jget L 1 = .long v1 → g_Section_direct B v0 v1 μ = some (r, μ9) → jR B SA d m_Section_direct 0 L [] μ (some (.long r)) μ9 := by
  intro L v0 v1 μ r μ9 hl0 hl1 h
  unfold g_Section_direct at h
  refine jr_aload_n jf_89_0 rfl hl0 ?_
  replace h := obd_of h; obtain ⟨x1, hx1, h⟩ := h
  refine jr_getA jf_89_1 hx1 ?_
  refine jr_aload_n jf_89_4 rfl hl0 ?_
  refine jr_iconst jf_89_5 jc_i_0 ?_
  refine jr_lload_n jf_89_6 rfl hl1 ?_
  replace h := jgd_of h; obtain ⟨hb2, h⟩ := h
  replace h := obd_of h; obtain ⟨x3, hx3, h⟩ := h
  refine jr_V6_2 jf_89_7 hb2 (by omega) (r_Section_times (by omega) _ _ _ _ _ hx3) (by simp only [jcats_cons, jcats_nil, cat_int, cat_long, cat_double, cat_float, cat_ref, rv_cat]; decide) jml_87 (Nat.le_of_ble_eq_true rfl) ?_
  refine jr_aload_n jf_89_10 rfl hl0 ?_
  refine jr_iconst jf_89_11 jc_i_1 ?_
  refine jr_aload_n jf_89_12 rfl hl0 ?_
  replace h := obd_of h; obtain ⟨x4, hx4, h⟩ := h
  refine jr_getA jf_89_13 hx4 ?_
  refine jr_iconst jf_89_16 jc_i_0 ?_
  replace h := obd_of h; obtain ⟨a5, rfl, h⟩ := h
  replace h := jgd_of h; obtain ⟨hb6, h⟩ := h
  replace h := obd_of h; obtain ⟨x7, hx7, h⟩ := h
  refine jr_V6_1 jf_89_17 hb6 (by omega) (r_Row_at (by omega) _ _ _ _ hx7) (by simp only [jcats_cons, jcats_nil, cat_int, cat_long, cat_double, cat_float, cat_ref, rv_cat]; decide) jml_38 (Nat.le_of_ble_eq_true rfl) ?_
  replace h := jgd_of h; obtain ⟨hb8, h⟩ := h
  replace h := obd_of h; obtain ⟨x9, hx9, h⟩ := h
  refine jr_V6_2 jf_89_20 hb8 (by omega) (r_Section_times (by omega) _ _ _ _ _ hx9) (by simp only [jcats_cons, jcats_nil, cat_int, cat_long, cat_double, cat_float, cat_ref, rv_cat]; decide) jml_87 (Nat.le_of_ble_eq_true rfl) ?_
  replace h := obd_of h; obtain ⟨a10, rfl, h⟩ := h
  replace h := obd_of h; obtain ⟨x11, hx11, h⟩ := h
  rcases ite_or hx11 with ⟨hb, hx⟩ | ⟨hb0, hx⟩
  · refine jr_V8a_2 jf_89_23 hb (by omega) (r_Real_plus (by omega) _ _ _ _ _ hx) (Nat.le_of_ble_eq_true rfl) jml_74 (Nat.le_of_ble_eq_true rfl) ?_
    refine jr_lstore_n jf_89_26 rfl jml_89 (by decide) ?_
    refine jr_aload_n jf_89_27 rfl (jg2_ne rfl hl0) ?_
    replace h := obd_of h; obtain ⟨x12, hx12, h⟩ := h
    refine jr_getA jf_89_28 hx12 ?_
    refine jr_lload_n jf_89_31 rfl jg2_same ?_
    refine jr_aload_n jf_89_32 rfl (jg2_ne rfl hl0) ?_
    refine jr_iconst jf_89_33 jc_i_2 ?_
    refine jr_aload_n jf_89_34 rfl (jg2_ne rfl hl0) ?_
    replace h := obd_of h; obtain ⟨x13, hx13, h⟩ := h
    refine jr_getA jf_89_35 hx13 ?_
    refine jr_iconst jf_89_38 jc_i_1 ?_
    replace h := obd_of h; obtain ⟨a14, rfl, h⟩ := h
    replace h := jgd_of h; obtain ⟨hb15, h⟩ := h
    replace h := obd_of h; obtain ⟨x16, hx16, h⟩ := h
    refine jr_V6_1 jf_89_39 hb15 (by omega) (r_Row_at (by omega) _ _ _ _ hx16) (by simp only [jcats_cons, jcats_nil, cat_int, cat_long, cat_double, cat_float, cat_ref, rv_cat]; decide) jml_38 (Nat.le_of_ble_eq_true rfl) ?_
    replace h := jgd_of h; obtain ⟨hb17, h⟩ := h
    replace h := obd_of h; obtain ⟨x18, hx18, h⟩ := h
    refine jr_V6_2 jf_89_42 hb17 (by omega) (r_Section_times (by omega) _ _ _ _ _ hx18) (by simp only [jcats_cons, jcats_nil, cat_int, cat_long, cat_double, cat_float, cat_ref, rv_cat]; decide) jml_87 (Nat.le_of_ble_eq_true rfl) ?_
    replace h := obd_of h; obtain ⟨a19, rfl, h⟩ := h
    replace h := obd_of h; obtain ⟨x20, hx20, h⟩ := h
    rcases ite_or hx20 with ⟨hb, hx⟩ | ⟨hb0, hx⟩
    · refine jr_V8a_2 jf_89_45 hb (by omega) (r_Real_plus (by omega) _ _ _ _ _ hx) (Nat.le_of_ble_eq_true rfl) jml_74 (Nat.le_of_ble_eq_true rfl) ?_
      refine jr_lstore_n jf_89_48 rfl jml_89 (by decide) ?_
      refine jr_aload_n jf_89_49 rfl (jg2_ne rfl (jg2_ne rfl hl0)) ?_
      replace h := obd_of h; obtain ⟨x21, hx21, h⟩ := h
      refine jr_getA jf_89_50 hx21 ?_
      refine jr_lload_n jf_89_53 rfl jg2_same ?_
      refine jr_aload_n jf_89_54 rfl (jg2_ne rfl (jg2_ne rfl hl0)) ?_
      refine jr_iconst jf_89_55 jc_i_3 ?_
      refine jr_aload_n jf_89_56 rfl (jg2_ne rfl (jg2_ne rfl hl0)) ?_
      replace h := obd_of h; obtain ⟨x22, hx22, h⟩ := h
      refine jr_getA jf_89_57 hx22 ?_
      refine jr_iconst jf_89_60 jc_i_2 ?_
      replace h := obd_of h; obtain ⟨a23, rfl, h⟩ := h
      replace h := jgd_of h; obtain ⟨hb24, h⟩ := h
      replace h := obd_of h; obtain ⟨x25, hx25, h⟩ := h
      refine jr_V6_1 jf_89_61 hb24 (by omega) (r_Row_at (by omega) _ _ _ _ hx25) (by simp only [jcats_cons, jcats_nil, cat_int, cat_long, cat_double, cat_float, cat_ref, rv_cat]; decide) jml_38 (Nat.le_of_ble_eq_true rfl) ?_
      replace h := jgd_of h; obtain ⟨hb26, h⟩ := h
      replace h := obd_of h; obtain ⟨x27, hx27, h⟩ := h
      refine jr_V6_2 jf_89_64 hb26 (by omega) (r_Section_lessTimes (by omega) _ _ _ _ _ hx27) (by simp only [jcats_cons, jcats_nil, cat_int, cat_long, cat_double, cat_float, cat_ref, rv_cat]; decide) jml_90 (Nat.le_of_ble_eq_true rfl) ?_
      replace h := obd_of h; obtain ⟨a28, rfl, h⟩ := h
      replace h := obd_of h; obtain ⟨x29, hx29, h⟩ := h
      rcases ite_or hx29 with ⟨hb, hx⟩ | ⟨hb0, hx⟩
      · refine jr_V8a_2 jf_89_67 hb (by omega) (r_Real_plus (by omega) _ _ _ _ _ hx) (Nat.le_of_ble_eq_true rfl) jml_74 (Nat.le_of_ble_eq_true rfl) ?_
        refine jr_lstore_n jf_89_70 rfl jml_89 (by decide) ?_
        refine jr_aload_n jf_89_71 rfl (jg2_ne rfl (jg2_ne rfl (jg2_ne rfl hl0))) ?_
        refine jr_aload_n jf_89_72 rfl (jg2_ne rfl (jg2_ne rfl (jg2_ne rfl hl0))) ?_
        replace h := obd_of h; obtain ⟨x30, hx30, h⟩ := h
        refine jr_getA jf_89_73 hx30 ?_
        refine jr_lload_n jf_89_76 rfl jg2_same ?_
        refine jr_aload_n jf_89_77 rfl (jg2_ne rfl (jg2_ne rfl (jg2_ne rfl hl0))) ?_
        refine jr_iconst jf_89_78 jc_i_4 ?_
        refine jr_aload_n jf_89_79 rfl (jg2_ne rfl (jg2_ne rfl (jg2_ne rfl hl0))) ?_
        replace h := obd_of h; obtain ⟨x31, hx31, h⟩ := h
        refine jr_getA jf_89_80 hx31 ?_
        refine jr_iconst jf_89_83 jc_i_3 ?_
        replace h := obd_of h; obtain ⟨a32, rfl, h⟩ := h
        replace h := jgd_of h; obtain ⟨hb33, h⟩ := h
        replace h := obd_of h; obtain ⟨x34, hx34, h⟩ := h
        refine jr_V6_1 jf_89_84 hb33 (by omega) (r_Row_at (by omega) _ _ _ _ hx34) (by simp only [jcats_cons, jcats_nil, cat_int, cat_long, cat_double, cat_float, cat_ref, rv_cat]; decide) jml_38 (Nat.le_of_ble_eq_true rfl) ?_
        replace h := jgd_of h; obtain ⟨hb35, h⟩ := h
        replace h := obd_of h; obtain ⟨x36, hx36, h⟩ := h
        refine jr_V6_2 jf_89_87 hb35 (by omega) (r_Section_lessTimes (by omega) _ _ _ _ _ hx36) (by simp only [jcats_cons, jcats_nil, cat_int, cat_long, cat_double, cat_float, cat_ref, rv_cat]; decide) jml_90 (Nat.le_of_ble_eq_true rfl) ?_
        replace h := obd_of h; obtain ⟨a37, rfl, h⟩ := h
        replace h := obd_of h; obtain ⟨x38, hx38, h⟩ := h
        rcases ite_or hx38 with ⟨hb, hx⟩ | ⟨hb0, hx⟩
        · refine jr_V8a_2 jf_89_90 hb (by omega) (r_Real_plus (by omega) _ _ _ _ _ hx) (Nat.le_of_ble_eq_true rfl) jml_74 (Nat.le_of_ble_eq_true rfl) ?_
          replace h := jgd_of h; obtain ⟨hb39, h⟩ := h
          replace h := jbd2_of h; obtain ⟨x40, μ41, hx40, h⟩ := h
          refine jr_V6_1 jf_89_93 hb39 (by omega) (r_Section_settled (by omega) _ _ _ _ _ hx40) (Nat.le_of_ble_eq_true rfl) jml_79 (Nat.le_of_ble_eq_true rfl) ?_
          refine jr_lstore jf_89_96 jml_89 (by decide) ?_
          refine jr_aload_n jf_89_98 rfl (jg2_ne rfl (jg2_ne rfl (jg2_ne rfl (jg2_ne rfl hl0)))) ?_
          replace h := obd_of h; obtain ⟨x42, hx42, h⟩ := h
          refine jr_getA jf_89_99 hx42 ?_
          refine jr_iconst jf_89_102 jc_i_1 ?_
          refine jr_aload_n jf_89_103 rfl (jg2_ne rfl (jg2_ne rfl (jg2_ne rfl (jg2_ne rfl hl0)))) ?_
          replace h := obd_of h; obtain ⟨x43, hx43, h⟩ := h
          refine jr_getA jf_89_104 hx43 ?_
          refine jr_iconst jf_89_107 jc_i_0 ?_
          replace h := obd_of h; obtain ⟨a44, rfl, h⟩ := h
          replace h := jgd_of h; obtain ⟨hb45, h⟩ := h
          replace h := obd_of h; obtain ⟨x46, hx46, h⟩ := h
          refine jr_V6_1 jf_89_108 hb45 (by omega) (r_Row_at (by omega) _ _ _ _ hx46) (by simp only [jcats_cons, jcats_nil, cat_int, cat_long, cat_double, cat_float, cat_ref, rv_cat]; decide) jml_38 (Nat.le_of_ble_eq_true rfl) ?_
          replace h := obd_of h; obtain ⟨a47, rfl, h⟩ := h
          replace h := jgd_of h; obtain ⟨hb48, h⟩ := h
          replace h := obd_of h; obtain ⟨μ49, hμ49, h⟩ := h
          refine jr_V6v_2 jf_89_111 hb48 (by omega) (r_Row_put (by omega) _ _ _ _ _ hμ49) (Nat.le_of_ble_eq_true rfl) jml_66 (Nat.le_of_ble_eq_true rfl) ?_
          refine jr_aload_n jf_89_114 rfl (jg2_ne rfl (jg2_ne rfl (jg2_ne rfl (jg2_ne rfl hl0)))) ?_
          replace h := obd_of h; obtain ⟨x50, hx50, h⟩ := h
          refine jr_getA jf_89_115 hx50 ?_
          refine jr_iconst jf_89_118 jc_i_0 ?_
          refine jr_lload_n jf_89_119 rfl (jg2_ne rfl (jg2_ne rfl (jg2_ne rfl (jg2_ne rfl hl1)))) ?_
          replace h := obd_of h; obtain ⟨a51, rfl, h⟩ := h
          replace h := jgd_of h; obtain ⟨hb52, h⟩ := h
          replace h := obd_of h; obtain ⟨μ53, hμ53, h⟩ := h
          refine jr_V6v_2 jf_89_120 hb52 (by omega) (r_Row_put (by omega) _ _ _ _ _ hμ53) (Nat.le_of_ble_eq_true rfl) jml_66 (Nat.le_of_ble_eq_true rfl) ?_
          refine jr_aload_n jf_89_123 rfl (jg2_ne rfl (jg2_ne rfl (jg2_ne rfl (jg2_ne rfl hl0)))) ?_
          replace h := obd_of h; obtain ⟨x54, hx54, h⟩ := h
          refine jr_getA jf_89_124 hx54 ?_
          refine jr_iconst jf_89_127 jc_i_3 ?_
          refine jr_aload_n jf_89_128 rfl (jg2_ne rfl (jg2_ne rfl (jg2_ne rfl (jg2_ne rfl hl0)))) ?_
          replace h := obd_of h; obtain ⟨x55, hx55, h⟩ := h
          refine jr_getA jf_89_129 hx55 ?_
          refine jr_iconst jf_89_132 jc_i_2 ?_
          replace h := obd_of h; obtain ⟨a56, rfl, h⟩ := h
          replace h := jgd_of h; obtain ⟨hb57, h⟩ := h
          replace h := obd_of h; obtain ⟨x58, hx58, h⟩ := h
          refine jr_V6_1 jf_89_133 hb57 (by omega) (r_Row_at (by omega) _ _ _ _ hx58) (by simp only [jcats_cons, jcats_nil, cat_int, cat_long, cat_double, cat_float, cat_ref, rv_cat]; decide) jml_38 (Nat.le_of_ble_eq_true rfl) ?_
          replace h := obd_of h; obtain ⟨a59, rfl, h⟩ := h
          replace h := jgd_of h; obtain ⟨hb60, h⟩ := h
          replace h := obd_of h; obtain ⟨μ61, hμ61, h⟩ := h
          refine jr_V6v_2 jf_89_136 hb60 (by omega) (r_Row_put (by omega) _ _ _ _ _ hμ61) (Nat.le_of_ble_eq_true rfl) jml_66 (Nat.le_of_ble_eq_true rfl) ?_
          refine jr_aload_n jf_89_139 rfl (jg2_ne rfl (jg2_ne rfl (jg2_ne rfl (jg2_ne rfl hl0)))) ?_
          replace h := obd_of h; obtain ⟨x62, hx62, h⟩ := h
          refine jr_getA jf_89_140 hx62 ?_
          refine jr_iconst jf_89_143 jc_i_2 ?_
          refine jr_lload jf_89_144 jg2_same ?_
          replace h := obd_of h; obtain ⟨a63, rfl, h⟩ := h
          replace h := jgd_of h; obtain ⟨hb64, h⟩ := h
          replace h := obd_of h; obtain ⟨μ65, hμ65, h⟩ := h
          refine jr_V6v_2 jf_89_146 hb64 (by omega) (r_Row_put (by omega) _ _ _ _ _ hμ65) (Nat.le_of_ble_eq_true rfl) jml_66 (Nat.le_of_ble_eq_true rfl) ?_
          refine jr_lload jf_89_149 jg2_same ?_
          obtain ⟨rfl, rfl⟩ := Prod.mk.inj (Option.some.inj h)
          exact jr_retJ jf_89_151 jmt_89
        · obtain ⟨hb, hx⟩ := jgd_of hx
          obtain hx := Option.some.inj hx
          refine jr_V8b_2 jf_89_90 hb0 hb (by omega) (r_Shorts_plus (by omega) _ _ _ _ _ hx) (Nat.le_of_ble_eq_true rfl) jml_78 (Nat.le_of_ble_eq_true rfl) ?_
          replace h := jgd_of h; obtain ⟨hb39, h⟩ := h
          replace h := jbd2_of h; obtain ⟨x40, μ41, hx40, h⟩ := h
          refine jr_V6_1 jf_89_93 hb39 (by omega) (r_Section_settled (by omega) _ _ _ _ _ hx40) (Nat.le_of_ble_eq_true rfl) jml_79 (Nat.le_of_ble_eq_true rfl) ?_
          refine jr_lstore jf_89_96 jml_89 (by decide) ?_
          refine jr_aload_n jf_89_98 rfl (jg2_ne rfl (jg2_ne rfl (jg2_ne rfl (jg2_ne rfl hl0)))) ?_
          replace h := obd_of h; obtain ⟨x42, hx42, h⟩ := h
          refine jr_getA jf_89_99 hx42 ?_
          refine jr_iconst jf_89_102 jc_i_1 ?_
          refine jr_aload_n jf_89_103 rfl (jg2_ne rfl (jg2_ne rfl (jg2_ne rfl (jg2_ne rfl hl0)))) ?_
          replace h := obd_of h; obtain ⟨x43, hx43, h⟩ := h
          refine jr_getA jf_89_104 hx43 ?_
          refine jr_iconst jf_89_107 jc_i_0 ?_
          replace h := obd_of h; obtain ⟨a44, rfl, h⟩ := h
          replace h := jgd_of h; obtain ⟨hb45, h⟩ := h
          replace h := obd_of h; obtain ⟨x46, hx46, h⟩ := h
          refine jr_V6_1 jf_89_108 hb45 (by omega) (r_Row_at (by omega) _ _ _ _ hx46) (by simp only [jcats_cons, jcats_nil, cat_int, cat_long, cat_double, cat_float, cat_ref, rv_cat]; decide) jml_38 (Nat.le_of_ble_eq_true rfl) ?_
          replace h := obd_of h; obtain ⟨a47, rfl, h⟩ := h
          replace h := jgd_of h; obtain ⟨hb48, h⟩ := h
          replace h := obd_of h; obtain ⟨μ49, hμ49, h⟩ := h
          refine jr_V6v_2 jf_89_111 hb48 (by omega) (r_Row_put (by omega) _ _ _ _ _ hμ49) (Nat.le_of_ble_eq_true rfl) jml_66 (Nat.le_of_ble_eq_true rfl) ?_
          refine jr_aload_n jf_89_114 rfl (jg2_ne rfl (jg2_ne rfl (jg2_ne rfl (jg2_ne rfl hl0)))) ?_
          replace h := obd_of h; obtain ⟨x50, hx50, h⟩ := h
          refine jr_getA jf_89_115 hx50 ?_
          refine jr_iconst jf_89_118 jc_i_0 ?_
          refine jr_lload_n jf_89_119 rfl (jg2_ne rfl (jg2_ne rfl (jg2_ne rfl (jg2_ne rfl hl1)))) ?_
          replace h := obd_of h; obtain ⟨a51, rfl, h⟩ := h
          replace h := jgd_of h; obtain ⟨hb52, h⟩ := h
          replace h := obd_of h; obtain ⟨μ53, hμ53, h⟩ := h
          refine jr_V6v_2 jf_89_120 hb52 (by omega) (r_Row_put (by omega) _ _ _ _ _ hμ53) (Nat.le_of_ble_eq_true rfl) jml_66 (Nat.le_of_ble_eq_true rfl) ?_
          refine jr_aload_n jf_89_123 rfl (jg2_ne rfl (jg2_ne rfl (jg2_ne rfl (jg2_ne rfl hl0)))) ?_
          replace h := obd_of h; obtain ⟨x54, hx54, h⟩ := h
          refine jr_getA jf_89_124 hx54 ?_
          refine jr_iconst jf_89_127 jc_i_3 ?_
          refine jr_aload_n jf_89_128 rfl (jg2_ne rfl (jg2_ne rfl (jg2_ne rfl (jg2_ne rfl hl0)))) ?_
          replace h := obd_of h; obtain ⟨x55, hx55, h⟩ := h
          refine jr_getA jf_89_129 hx55 ?_
          refine jr_iconst jf_89_132 jc_i_2 ?_
          replace h := obd_of h; obtain ⟨a56, rfl, h⟩ := h
          replace h := jgd_of h; obtain ⟨hb57, h⟩ := h
          replace h := obd_of h; obtain ⟨x58, hx58, h⟩ := h
          refine jr_V6_1 jf_89_133 hb57 (by omega) (r_Row_at (by omega) _ _ _ _ hx58) (by simp only [jcats_cons, jcats_nil, cat_int, cat_long, cat_double, cat_float, cat_ref, rv_cat]; decide) jml_38 (Nat.le_of_ble_eq_true rfl) ?_
          replace h := obd_of h; obtain ⟨a59, rfl, h⟩ := h
          replace h := jgd_of h; obtain ⟨hb60, h⟩ := h
          replace h := obd_of h; obtain ⟨μ61, hμ61, h⟩ := h
          refine jr_V6v_2 jf_89_136 hb60 (by omega) (r_Row_put (by omega) _ _ _ _ _ hμ61) (Nat.le_of_ble_eq_true rfl) jml_66 (Nat.le_of_ble_eq_true rfl) ?_
          refine jr_aload_n jf_89_139 rfl (jg2_ne rfl (jg2_ne rfl (jg2_ne rfl (jg2_ne rfl hl0)))) ?_
          replace h := obd_of h; obtain ⟨x62, hx62, h⟩ := h
          refine jr_getA jf_89_140 hx62 ?_
          refine jr_iconst jf_89_143 jc_i_2 ?_
          refine jr_lload jf_89_144 jg2_same ?_
          replace h := obd_of h; obtain ⟨a63, rfl, h⟩ := h
          replace h := jgd_of h; obtain ⟨hb64, h⟩ := h
          replace h := obd_of h; obtain ⟨μ65, hμ65, h⟩ := h
          refine jr_V6v_2 jf_89_146 hb64 (by omega) (r_Row_put (by omega) _ _ _ _ _ hμ65) (Nat.le_of_ble_eq_true rfl) jml_66 (Nat.le_of_ble_eq_true rfl) ?_
          refine jr_lload jf_89_149 jg2_same ?_
          obtain ⟨rfl, rfl⟩ := Prod.mk.inj (Option.some.inj h)
          exact jr_retJ jf_89_151 jmt_89
      · obtain ⟨hb, hx⟩ := jgd_of hx
        obtain hx := Option.some.inj hx
        refine jr_V8b_2 jf_89_67 hb0 hb (by omega) (r_Shorts_plus (by omega) _ _ _ _ _ hx) (Nat.le_of_ble_eq_true rfl) jml_78 (Nat.le_of_ble_eq_true rfl) ?_
        refine jr_lstore_n jf_89_70 rfl jml_89 (by decide) ?_
        refine jr_aload_n jf_89_71 rfl (jg2_ne rfl (jg2_ne rfl (jg2_ne rfl hl0))) ?_
        refine jr_aload_n jf_89_72 rfl (jg2_ne rfl (jg2_ne rfl (jg2_ne rfl hl0))) ?_
        replace h := obd_of h; obtain ⟨x30, hx30, h⟩ := h
        refine jr_getA jf_89_73 hx30 ?_
        refine jr_lload_n jf_89_76 rfl jg2_same ?_
        refine jr_aload_n jf_89_77 rfl (jg2_ne rfl (jg2_ne rfl (jg2_ne rfl hl0))) ?_
        refine jr_iconst jf_89_78 jc_i_4 ?_
        refine jr_aload_n jf_89_79 rfl (jg2_ne rfl (jg2_ne rfl (jg2_ne rfl hl0))) ?_
        replace h := obd_of h; obtain ⟨x31, hx31, h⟩ := h
        refine jr_getA jf_89_80 hx31 ?_
        refine jr_iconst jf_89_83 jc_i_3 ?_
        replace h := obd_of h; obtain ⟨a32, rfl, h⟩ := h
        replace h := jgd_of h; obtain ⟨hb33, h⟩ := h
        replace h := obd_of h; obtain ⟨x34, hx34, h⟩ := h
        refine jr_V6_1 jf_89_84 hb33 (by omega) (r_Row_at (by omega) _ _ _ _ hx34) (by simp only [jcats_cons, jcats_nil, cat_int, cat_long, cat_double, cat_float, cat_ref, rv_cat]; decide) jml_38 (Nat.le_of_ble_eq_true rfl) ?_
        replace h := jgd_of h; obtain ⟨hb35, h⟩ := h
        replace h := obd_of h; obtain ⟨x36, hx36, h⟩ := h
        refine jr_V6_2 jf_89_87 hb35 (by omega) (r_Section_lessTimes (by omega) _ _ _ _ _ hx36) (by simp only [jcats_cons, jcats_nil, cat_int, cat_long, cat_double, cat_float, cat_ref, rv_cat]; decide) jml_90 (Nat.le_of_ble_eq_true rfl) ?_
        replace h := obd_of h; obtain ⟨a37, rfl, h⟩ := h
        replace h := obd_of h; obtain ⟨x38, hx38, h⟩ := h
        rcases ite_or hx38 with ⟨hb, hx⟩ | ⟨hb0, hx⟩
        · refine jr_V8a_2 jf_89_90 hb (by omega) (r_Real_plus (by omega) _ _ _ _ _ hx) (Nat.le_of_ble_eq_true rfl) jml_74 (Nat.le_of_ble_eq_true rfl) ?_
          replace h := jgd_of h; obtain ⟨hb39, h⟩ := h
          replace h := jbd2_of h; obtain ⟨x40, μ41, hx40, h⟩ := h
          refine jr_V6_1 jf_89_93 hb39 (by omega) (r_Section_settled (by omega) _ _ _ _ _ hx40) (Nat.le_of_ble_eq_true rfl) jml_79 (Nat.le_of_ble_eq_true rfl) ?_
          refine jr_lstore jf_89_96 jml_89 (by decide) ?_
          refine jr_aload_n jf_89_98 rfl (jg2_ne rfl (jg2_ne rfl (jg2_ne rfl (jg2_ne rfl hl0)))) ?_
          replace h := obd_of h; obtain ⟨x42, hx42, h⟩ := h
          refine jr_getA jf_89_99 hx42 ?_
          refine jr_iconst jf_89_102 jc_i_1 ?_
          refine jr_aload_n jf_89_103 rfl (jg2_ne rfl (jg2_ne rfl (jg2_ne rfl (jg2_ne rfl hl0)))) ?_
          replace h := obd_of h; obtain ⟨x43, hx43, h⟩ := h
          refine jr_getA jf_89_104 hx43 ?_
          refine jr_iconst jf_89_107 jc_i_0 ?_
          replace h := obd_of h; obtain ⟨a44, rfl, h⟩ := h
          replace h := jgd_of h; obtain ⟨hb45, h⟩ := h
          replace h := obd_of h; obtain ⟨x46, hx46, h⟩ := h
          refine jr_V6_1 jf_89_108 hb45 (by omega) (r_Row_at (by omega) _ _ _ _ hx46) (by simp only [jcats_cons, jcats_nil, cat_int, cat_long, cat_double, cat_float, cat_ref, rv_cat]; decide) jml_38 (Nat.le_of_ble_eq_true rfl) ?_
          replace h := obd_of h; obtain ⟨a47, rfl, h⟩ := h
          replace h := jgd_of h; obtain ⟨hb48, h⟩ := h
          replace h := obd_of h; obtain ⟨μ49, hμ49, h⟩ := h
          refine jr_V6v_2 jf_89_111 hb48 (by omega) (r_Row_put (by omega) _ _ _ _ _ hμ49) (Nat.le_of_ble_eq_true rfl) jml_66 (Nat.le_of_ble_eq_true rfl) ?_
          refine jr_aload_n jf_89_114 rfl (jg2_ne rfl (jg2_ne rfl (jg2_ne rfl (jg2_ne rfl hl0)))) ?_
          replace h := obd_of h; obtain ⟨x50, hx50, h⟩ := h
          refine jr_getA jf_89_115 hx50 ?_
          refine jr_iconst jf_89_118 jc_i_0 ?_
          refine jr_lload_n jf_89_119 rfl (jg2_ne rfl (jg2_ne rfl (jg2_ne rfl (jg2_ne rfl hl1)))) ?_
          replace h := obd_of h; obtain ⟨a51, rfl, h⟩ := h
          replace h := jgd_of h; obtain ⟨hb52, h⟩ := h
          replace h := obd_of h; obtain ⟨μ53, hμ53, h⟩ := h
          refine jr_V6v_2 jf_89_120 hb52 (by omega) (r_Row_put (by omega) _ _ _ _ _ hμ53) (Nat.le_of_ble_eq_true rfl) jml_66 (Nat.le_of_ble_eq_true rfl) ?_
          refine jr_aload_n jf_89_123 rfl (jg2_ne rfl (jg2_ne rfl (jg2_ne rfl (jg2_ne rfl hl0)))) ?_
          replace h := obd_of h; obtain ⟨x54, hx54, h⟩ := h
          refine jr_getA jf_89_124 hx54 ?_
          refine jr_iconst jf_89_127 jc_i_3 ?_
          refine jr_aload_n jf_89_128 rfl (jg2_ne rfl (jg2_ne rfl (jg2_ne rfl (jg2_ne rfl hl0)))) ?_
          replace h := obd_of h; obtain ⟨x55, hx55, h⟩ := h
          refine jr_getA jf_89_129 hx55 ?_
          refine jr_iconst jf_89_132 jc_i_2 ?_
          replace h := obd_of h; obtain ⟨a56, rfl, h⟩ := h
          replace h := jgd_of h; obtain ⟨hb57, h⟩ := h
          replace h := obd_of h; obtain ⟨x58, hx58, h⟩ := h
          refine jr_V6_1 jf_89_133 hb57 (by omega) (r_Row_at (by omega) _ _ _ _ hx58) (by simp only [jcats_cons, jcats_nil, cat_int, cat_long, cat_double, cat_float, cat_ref, rv_cat]; decide) jml_38 (Nat.le_of_ble_eq_true rfl) ?_
          replace h := obd_of h; obtain ⟨a59, rfl, h⟩ := h
          replace h := jgd_of h; obtain ⟨hb60, h⟩ := h
          replace h := obd_of h; obtain ⟨μ61, hμ61, h⟩ := h
          refine jr_V6v_2 jf_89_136 hb60 (by omega) (r_Row_put (by omega) _ _ _ _ _ hμ61) (Nat.le_of_ble_eq_true rfl) jml_66 (Nat.le_of_ble_eq_true rfl) ?_
          refine jr_aload_n jf_89_139 rfl (jg2_ne rfl (jg2_ne rfl (jg2_ne rfl (jg2_ne rfl hl0)))) ?_
          replace h := obd_of h; obtain ⟨x62, hx62, h⟩ := h
          refine jr_getA jf_89_140 hx62 ?_
          refine jr_iconst jf_89_143 jc_i_2 ?_
          refine jr_lload jf_89_144 jg2_same ?_
          replace h := obd_of h; obtain ⟨a63, rfl, h⟩ := h
          replace h := jgd_of h; obtain ⟨hb64, h⟩ := h
          replace h := obd_of h; obtain ⟨μ65, hμ65, h⟩ := h
          refine jr_V6v_2 jf_89_146 hb64 (by omega) (r_Row_put (by omega) _ _ _ _ _ hμ65) (Nat.le_of_ble_eq_true rfl) jml_66 (Nat.le_of_ble_eq_true rfl) ?_
          refine jr_lload jf_89_149 jg2_same ?_
          obtain ⟨rfl, rfl⟩ := Prod.mk.inj (Option.some.inj h)
          exact jr_retJ jf_89_151 jmt_89
        · obtain ⟨hb, hx⟩ := jgd_of hx
          obtain hx := Option.some.inj hx
          refine jr_V8b_2 jf_89_90 hb0 hb (by omega) (r_Shorts_plus (by omega) _ _ _ _ _ hx) (Nat.le_of_ble_eq_true rfl) jml_78 (Nat.le_of_ble_eq_true rfl) ?_
          replace h := jgd_of h; obtain ⟨hb39, h⟩ := h
          replace h := jbd2_of h; obtain ⟨x40, μ41, hx40, h⟩ := h
          refine jr_V6_1 jf_89_93 hb39 (by omega) (r_Section_settled (by omega) _ _ _ _ _ hx40) (Nat.le_of_ble_eq_true rfl) jml_79 (Nat.le_of_ble_eq_true rfl) ?_
          refine jr_lstore jf_89_96 jml_89 (by decide) ?_
          refine jr_aload_n jf_89_98 rfl (jg2_ne rfl (jg2_ne rfl (jg2_ne rfl (jg2_ne rfl hl0)))) ?_
          replace h := obd_of h; obtain ⟨x42, hx42, h⟩ := h
          refine jr_getA jf_89_99 hx42 ?_
          refine jr_iconst jf_89_102 jc_i_1 ?_
          refine jr_aload_n jf_89_103 rfl (jg2_ne rfl (jg2_ne rfl (jg2_ne rfl (jg2_ne rfl hl0)))) ?_
          replace h := obd_of h; obtain ⟨x43, hx43, h⟩ := h
          refine jr_getA jf_89_104 hx43 ?_
          refine jr_iconst jf_89_107 jc_i_0 ?_
          replace h := obd_of h; obtain ⟨a44, rfl, h⟩ := h
          replace h := jgd_of h; obtain ⟨hb45, h⟩ := h
          replace h := obd_of h; obtain ⟨x46, hx46, h⟩ := h
          refine jr_V6_1 jf_89_108 hb45 (by omega) (r_Row_at (by omega) _ _ _ _ hx46) (by simp only [jcats_cons, jcats_nil, cat_int, cat_long, cat_double, cat_float, cat_ref, rv_cat]; decide) jml_38 (Nat.le_of_ble_eq_true rfl) ?_
          replace h := obd_of h; obtain ⟨a47, rfl, h⟩ := h
          replace h := jgd_of h; obtain ⟨hb48, h⟩ := h
          replace h := obd_of h; obtain ⟨μ49, hμ49, h⟩ := h
          refine jr_V6v_2 jf_89_111 hb48 (by omega) (r_Row_put (by omega) _ _ _ _ _ hμ49) (Nat.le_of_ble_eq_true rfl) jml_66 (Nat.le_of_ble_eq_true rfl) ?_
          refine jr_aload_n jf_89_114 rfl (jg2_ne rfl (jg2_ne rfl (jg2_ne rfl (jg2_ne rfl hl0)))) ?_
          replace h := obd_of h; obtain ⟨x50, hx50, h⟩ := h
          refine jr_getA jf_89_115 hx50 ?_
          refine jr_iconst jf_89_118 jc_i_0 ?_
          refine jr_lload_n jf_89_119 rfl (jg2_ne rfl (jg2_ne rfl (jg2_ne rfl (jg2_ne rfl hl1)))) ?_
          replace h := obd_of h; obtain ⟨a51, rfl, h⟩ := h
          replace h := jgd_of h; obtain ⟨hb52, h⟩ := h
          replace h := obd_of h; obtain ⟨μ53, hμ53, h⟩ := h
          refine jr_V6v_2 jf_89_120 hb52 (by omega) (r_Row_put (by omega) _ _ _ _ _ hμ53) (Nat.le_of_ble_eq_true rfl) jml_66 (Nat.le_of_ble_eq_true rfl) ?_
          refine jr_aload_n jf_89_123 rfl (jg2_ne rfl (jg2_ne rfl (jg2_ne rfl (jg2_ne rfl hl0)))) ?_
          replace h := obd_of h; obtain ⟨x54, hx54, h⟩ := h
          refine jr_getA jf_89_124 hx54 ?_
          refine jr_iconst jf_89_127 jc_i_3 ?_
          refine jr_aload_n jf_89_128 rfl (jg2_ne rfl (jg2_ne rfl (jg2_ne rfl (jg2_ne rfl hl0)))) ?_
          replace h := obd_of h; obtain ⟨x55, hx55, h⟩ := h
          refine jr_getA jf_89_129 hx55 ?_
          refine jr_iconst jf_89_132 jc_i_2 ?_
          replace h := obd_of h; obtain ⟨a56, rfl, h⟩ := h
          replace h := jgd_of h; obtain ⟨hb57, h⟩ := h
          replace h := obd_of h; obtain ⟨x58, hx58, h⟩ := h
          refine jr_V6_1 jf_89_133 hb57 (by omega) (r_Row_at (by omega) _ _ _ _ hx58) (by simp only [jcats_cons, jcats_nil, cat_int, cat_long, cat_double, cat_float, cat_ref, rv_cat]; decide) jml_38 (Nat.le_of_ble_eq_true rfl) ?_
          replace h := obd_of h; obtain ⟨a59, rfl, h⟩ := h
          replace h := jgd_of h; obtain ⟨hb60, h⟩ := h
          replace h := obd_of h; obtain ⟨μ61, hμ61, h⟩ := h
          refine jr_V6v_2 jf_89_136 hb60 (by omega) (r_Row_put (by omega) _ _ _ _ _ hμ61) (Nat.le_of_ble_eq_true rfl) jml_66 (Nat.le_of_ble_eq_true rfl) ?_
          refine jr_aload_n jf_89_139 rfl (jg2_ne rfl (jg2_ne rfl (jg2_ne rfl (jg2_ne rfl hl0)))) ?_
          replace h := obd_of h; obtain ⟨x62, hx62, h⟩ := h
          refine jr_getA jf_89_140 hx62 ?_
          refine jr_iconst jf_89_143 jc_i_2 ?_
          refine jr_lload jf_89_144 jg2_same ?_
          replace h := obd_of h; obtain ⟨a63, rfl, h⟩ := h
          replace h := jgd_of h; obtain ⟨hb64, h⟩ := h
          replace h := obd_of h; obtain ⟨μ65, hμ65, h⟩ := h
          refine jr_V6v_2 jf_89_146 hb64 (by omega) (r_Row_put (by omega) _ _ _ _ _ hμ65) (Nat.le_of_ble_eq_true rfl) jml_66 (Nat.le_of_ble_eq_true rfl) ?_
          refine jr_lload jf_89_149 jg2_same ?_
          obtain ⟨rfl, rfl⟩ := Prod.mk.inj (Option.some.inj h)
          exact jr_retJ jf_89_151 jmt_89
    · obtain ⟨hb, hx⟩ := jgd_of hx
      obtain hx := Option.some.inj hx
      refine jr_V8b_2 jf_89_45 hb0 hb (by omega) (r_Shorts_plus (by omega) _ _ _ _ _ hx) (Nat.le_of_ble_eq_true rfl) jml_78 (Nat.le_of_ble_eq_true rfl) ?_
      refine jr_lstore_n jf_89_48 rfl jml_89 (by decide) ?_
      refine jr_aload_n jf_89_49 rfl (jg2_ne rfl (jg2_ne rfl hl0)) ?_
      replace h := obd_of h; obtain ⟨x21, hx21, h⟩ := h
      refine jr_getA jf_89_50 hx21 ?_
      refine jr_lload_n jf_89_53 rfl jg2_same ?_
      refine jr_aload_n jf_89_54 rfl (jg2_ne rfl (jg2_ne rfl hl0)) ?_
      refine jr_iconst jf_89_55 jc_i_3 ?_
      refine jr_aload_n jf_89_56 rfl (jg2_ne rfl (jg2_ne rfl hl0)) ?_
      replace h := obd_of h; obtain ⟨x22, hx22, h⟩ := h
      refine jr_getA jf_89_57 hx22 ?_
      refine jr_iconst jf_89_60 jc_i_2 ?_
      replace h := obd_of h; obtain ⟨a23, rfl, h⟩ := h
      replace h := jgd_of h; obtain ⟨hb24, h⟩ := h
      replace h := obd_of h; obtain ⟨x25, hx25, h⟩ := h
      refine jr_V6_1 jf_89_61 hb24 (by omega) (r_Row_at (by omega) _ _ _ _ hx25) (by simp only [jcats_cons, jcats_nil, cat_int, cat_long, cat_double, cat_float, cat_ref, rv_cat]; decide) jml_38 (Nat.le_of_ble_eq_true rfl) ?_
      replace h := jgd_of h; obtain ⟨hb26, h⟩ := h
      replace h := obd_of h; obtain ⟨x27, hx27, h⟩ := h
      refine jr_V6_2 jf_89_64 hb26 (by omega) (r_Section_lessTimes (by omega) _ _ _ _ _ hx27) (by simp only [jcats_cons, jcats_nil, cat_int, cat_long, cat_double, cat_float, cat_ref, rv_cat]; decide) jml_90 (Nat.le_of_ble_eq_true rfl) ?_
      replace h := obd_of h; obtain ⟨a28, rfl, h⟩ := h
      replace h := obd_of h; obtain ⟨x29, hx29, h⟩ := h
      rcases ite_or hx29 with ⟨hb, hx⟩ | ⟨hb0, hx⟩
      · refine jr_V8a_2 jf_89_67 hb (by omega) (r_Real_plus (by omega) _ _ _ _ _ hx) (Nat.le_of_ble_eq_true rfl) jml_74 (Nat.le_of_ble_eq_true rfl) ?_
        refine jr_lstore_n jf_89_70 rfl jml_89 (by decide) ?_
        refine jr_aload_n jf_89_71 rfl (jg2_ne rfl (jg2_ne rfl (jg2_ne rfl hl0))) ?_
        refine jr_aload_n jf_89_72 rfl (jg2_ne rfl (jg2_ne rfl (jg2_ne rfl hl0))) ?_
        replace h := obd_of h; obtain ⟨x30, hx30, h⟩ := h
        refine jr_getA jf_89_73 hx30 ?_
        refine jr_lload_n jf_89_76 rfl jg2_same ?_
        refine jr_aload_n jf_89_77 rfl (jg2_ne rfl (jg2_ne rfl (jg2_ne rfl hl0))) ?_
        refine jr_iconst jf_89_78 jc_i_4 ?_
        refine jr_aload_n jf_89_79 rfl (jg2_ne rfl (jg2_ne rfl (jg2_ne rfl hl0))) ?_
        replace h := obd_of h; obtain ⟨x31, hx31, h⟩ := h
        refine jr_getA jf_89_80 hx31 ?_
        refine jr_iconst jf_89_83 jc_i_3 ?_
        replace h := obd_of h; obtain ⟨a32, rfl, h⟩ := h
        replace h := jgd_of h; obtain ⟨hb33, h⟩ := h
        replace h := obd_of h; obtain ⟨x34, hx34, h⟩ := h
        refine jr_V6_1 jf_89_84 hb33 (by omega) (r_Row_at (by omega) _ _ _ _ hx34) (by simp only [jcats_cons, jcats_nil, cat_int, cat_long, cat_double, cat_float, cat_ref, rv_cat]; decide) jml_38 (Nat.le_of_ble_eq_true rfl) ?_
        replace h := jgd_of h; obtain ⟨hb35, h⟩ := h
        replace h := obd_of h; obtain ⟨x36, hx36, h⟩ := h
        refine jr_V6_2 jf_89_87 hb35 (by omega) (r_Section_lessTimes (by omega) _ _ _ _ _ hx36) (by simp only [jcats_cons, jcats_nil, cat_int, cat_long, cat_double, cat_float, cat_ref, rv_cat]; decide) jml_90 (Nat.le_of_ble_eq_true rfl) ?_
        replace h := obd_of h; obtain ⟨a37, rfl, h⟩ := h
        replace h := obd_of h; obtain ⟨x38, hx38, h⟩ := h
        rcases ite_or hx38 with ⟨hb, hx⟩ | ⟨hb0, hx⟩
        · refine jr_V8a_2 jf_89_90 hb (by omega) (r_Real_plus (by omega) _ _ _ _ _ hx) (Nat.le_of_ble_eq_true rfl) jml_74 (Nat.le_of_ble_eq_true rfl) ?_
          replace h := jgd_of h; obtain ⟨hb39, h⟩ := h
          replace h := jbd2_of h; obtain ⟨x40, μ41, hx40, h⟩ := h
          refine jr_V6_1 jf_89_93 hb39 (by omega) (r_Section_settled (by omega) _ _ _ _ _ hx40) (Nat.le_of_ble_eq_true rfl) jml_79 (Nat.le_of_ble_eq_true rfl) ?_
          refine jr_lstore jf_89_96 jml_89 (by decide) ?_
          refine jr_aload_n jf_89_98 rfl (jg2_ne rfl (jg2_ne rfl (jg2_ne rfl (jg2_ne rfl hl0)))) ?_
          replace h := obd_of h; obtain ⟨x42, hx42, h⟩ := h
          refine jr_getA jf_89_99 hx42 ?_
          refine jr_iconst jf_89_102 jc_i_1 ?_
          refine jr_aload_n jf_89_103 rfl (jg2_ne rfl (jg2_ne rfl (jg2_ne rfl (jg2_ne rfl hl0)))) ?_
          replace h := obd_of h; obtain ⟨x43, hx43, h⟩ := h
          refine jr_getA jf_89_104 hx43 ?_
          refine jr_iconst jf_89_107 jc_i_0 ?_
          replace h := obd_of h; obtain ⟨a44, rfl, h⟩ := h
          replace h := jgd_of h; obtain ⟨hb45, h⟩ := h
          replace h := obd_of h; obtain ⟨x46, hx46, h⟩ := h
          refine jr_V6_1 jf_89_108 hb45 (by omega) (r_Row_at (by omega) _ _ _ _ hx46) (by simp only [jcats_cons, jcats_nil, cat_int, cat_long, cat_double, cat_float, cat_ref, rv_cat]; decide) jml_38 (Nat.le_of_ble_eq_true rfl) ?_
          replace h := obd_of h; obtain ⟨a47, rfl, h⟩ := h
          replace h := jgd_of h; obtain ⟨hb48, h⟩ := h
          replace h := obd_of h; obtain ⟨μ49, hμ49, h⟩ := h
          refine jr_V6v_2 jf_89_111 hb48 (by omega) (r_Row_put (by omega) _ _ _ _ _ hμ49) (Nat.le_of_ble_eq_true rfl) jml_66 (Nat.le_of_ble_eq_true rfl) ?_
          refine jr_aload_n jf_89_114 rfl (jg2_ne rfl (jg2_ne rfl (jg2_ne rfl (jg2_ne rfl hl0)))) ?_
          replace h := obd_of h; obtain ⟨x50, hx50, h⟩ := h
          refine jr_getA jf_89_115 hx50 ?_
          refine jr_iconst jf_89_118 jc_i_0 ?_
          refine jr_lload_n jf_89_119 rfl (jg2_ne rfl (jg2_ne rfl (jg2_ne rfl (jg2_ne rfl hl1)))) ?_
          replace h := obd_of h; obtain ⟨a51, rfl, h⟩ := h
          replace h := jgd_of h; obtain ⟨hb52, h⟩ := h
          replace h := obd_of h; obtain ⟨μ53, hμ53, h⟩ := h
          refine jr_V6v_2 jf_89_120 hb52 (by omega) (r_Row_put (by omega) _ _ _ _ _ hμ53) (Nat.le_of_ble_eq_true rfl) jml_66 (Nat.le_of_ble_eq_true rfl) ?_
          refine jr_aload_n jf_89_123 rfl (jg2_ne rfl (jg2_ne rfl (jg2_ne rfl (jg2_ne rfl hl0)))) ?_
          replace h := obd_of h; obtain ⟨x54, hx54, h⟩ := h
          refine jr_getA jf_89_124 hx54 ?_
          refine jr_iconst jf_89_127 jc_i_3 ?_
          refine jr_aload_n jf_89_128 rfl (jg2_ne rfl (jg2_ne rfl (jg2_ne rfl (jg2_ne rfl hl0)))) ?_
          replace h := obd_of h; obtain ⟨x55, hx55, h⟩ := h
          refine jr_getA jf_89_129 hx55 ?_
          refine jr_iconst jf_89_132 jc_i_2 ?_
          replace h := obd_of h; obtain ⟨a56, rfl, h⟩ := h
          replace h := jgd_of h; obtain ⟨hb57, h⟩ := h
          replace h := obd_of h; obtain ⟨x58, hx58, h⟩ := h
          refine jr_V6_1 jf_89_133 hb57 (by omega) (r_Row_at (by omega) _ _ _ _ hx58) (by simp only [jcats_cons, jcats_nil, cat_int, cat_long, cat_double, cat_float, cat_ref, rv_cat]; decide) jml_38 (Nat.le_of_ble_eq_true rfl) ?_
          replace h := obd_of h; obtain ⟨a59, rfl, h⟩ := h
          replace h := jgd_of h; obtain ⟨hb60, h⟩ := h
          replace h := obd_of h; obtain ⟨μ61, hμ61, h⟩ := h
          refine jr_V6v_2 jf_89_136 hb60 (by omega) (r_Row_put (by omega) _ _ _ _ _ hμ61) (Nat.le_of_ble_eq_true rfl) jml_66 (Nat.le_of_ble_eq_true rfl) ?_
          refine jr_aload_n jf_89_139 rfl (jg2_ne rfl (jg2_ne rfl (jg2_ne rfl (jg2_ne rfl hl0)))) ?_
          replace h := obd_of h; obtain ⟨x62, hx62, h⟩ := h
          refine jr_getA jf_89_140 hx62 ?_
          refine jr_iconst jf_89_143 jc_i_2 ?_
          refine jr_lload jf_89_144 jg2_same ?_
          replace h := obd_of h; obtain ⟨a63, rfl, h⟩ := h
          replace h := jgd_of h; obtain ⟨hb64, h⟩ := h
          replace h := obd_of h; obtain ⟨μ65, hμ65, h⟩ := h
          refine jr_V6v_2 jf_89_146 hb64 (by omega) (r_Row_put (by omega) _ _ _ _ _ hμ65) (Nat.le_of_ble_eq_true rfl) jml_66 (Nat.le_of_ble_eq_true rfl) ?_
          refine jr_lload jf_89_149 jg2_same ?_
          obtain ⟨rfl, rfl⟩ := Prod.mk.inj (Option.some.inj h)
          exact jr_retJ jf_89_151 jmt_89
        · obtain ⟨hb, hx⟩ := jgd_of hx
          obtain hx := Option.some.inj hx
          refine jr_V8b_2 jf_89_90 hb0 hb (by omega) (r_Shorts_plus (by omega) _ _ _ _ _ hx) (Nat.le_of_ble_eq_true rfl) jml_78 (Nat.le_of_ble_eq_true rfl) ?_
          replace h := jgd_of h; obtain ⟨hb39, h⟩ := h
          replace h := jbd2_of h; obtain ⟨x40, μ41, hx40, h⟩ := h
          refine jr_V6_1 jf_89_93 hb39 (by omega) (r_Section_settled (by omega) _ _ _ _ _ hx40) (Nat.le_of_ble_eq_true rfl) jml_79 (Nat.le_of_ble_eq_true rfl) ?_
          refine jr_lstore jf_89_96 jml_89 (by decide) ?_
          refine jr_aload_n jf_89_98 rfl (jg2_ne rfl (jg2_ne rfl (jg2_ne rfl (jg2_ne rfl hl0)))) ?_
          replace h := obd_of h; obtain ⟨x42, hx42, h⟩ := h
          refine jr_getA jf_89_99 hx42 ?_
          refine jr_iconst jf_89_102 jc_i_1 ?_
          refine jr_aload_n jf_89_103 rfl (jg2_ne rfl (jg2_ne rfl (jg2_ne rfl (jg2_ne rfl hl0)))) ?_
          replace h := obd_of h; obtain ⟨x43, hx43, h⟩ := h
          refine jr_getA jf_89_104 hx43 ?_
          refine jr_iconst jf_89_107 jc_i_0 ?_
          replace h := obd_of h; obtain ⟨a44, rfl, h⟩ := h
          replace h := jgd_of h; obtain ⟨hb45, h⟩ := h
          replace h := obd_of h; obtain ⟨x46, hx46, h⟩ := h
          refine jr_V6_1 jf_89_108 hb45 (by omega) (r_Row_at (by omega) _ _ _ _ hx46) (by simp only [jcats_cons, jcats_nil, cat_int, cat_long, cat_double, cat_float, cat_ref, rv_cat]; decide) jml_38 (Nat.le_of_ble_eq_true rfl) ?_
          replace h := obd_of h; obtain ⟨a47, rfl, h⟩ := h
          replace h := jgd_of h; obtain ⟨hb48, h⟩ := h
          replace h := obd_of h; obtain ⟨μ49, hμ49, h⟩ := h
          refine jr_V6v_2 jf_89_111 hb48 (by omega) (r_Row_put (by omega) _ _ _ _ _ hμ49) (Nat.le_of_ble_eq_true rfl) jml_66 (Nat.le_of_ble_eq_true rfl) ?_
          refine jr_aload_n jf_89_114 rfl (jg2_ne rfl (jg2_ne rfl (jg2_ne rfl (jg2_ne rfl hl0)))) ?_
          replace h := obd_of h; obtain ⟨x50, hx50, h⟩ := h
          refine jr_getA jf_89_115 hx50 ?_
          refine jr_iconst jf_89_118 jc_i_0 ?_
          refine jr_lload_n jf_89_119 rfl (jg2_ne rfl (jg2_ne rfl (jg2_ne rfl (jg2_ne rfl hl1)))) ?_
          replace h := obd_of h; obtain ⟨a51, rfl, h⟩ := h
          replace h := jgd_of h; obtain ⟨hb52, h⟩ := h
          replace h := obd_of h; obtain ⟨μ53, hμ53, h⟩ := h
          refine jr_V6v_2 jf_89_120 hb52 (by omega) (r_Row_put (by omega) _ _ _ _ _ hμ53) (Nat.le_of_ble_eq_true rfl) jml_66 (Nat.le_of_ble_eq_true rfl) ?_
          refine jr_aload_n jf_89_123 rfl (jg2_ne rfl (jg2_ne rfl (jg2_ne rfl (jg2_ne rfl hl0)))) ?_
          replace h := obd_of h; obtain ⟨x54, hx54, h⟩ := h
          refine jr_getA jf_89_124 hx54 ?_
          refine jr_iconst jf_89_127 jc_i_3 ?_
          refine jr_aload_n jf_89_128 rfl (jg2_ne rfl (jg2_ne rfl (jg2_ne rfl (jg2_ne rfl hl0)))) ?_
          replace h := obd_of h; obtain ⟨x55, hx55, h⟩ := h
          refine jr_getA jf_89_129 hx55 ?_
          refine jr_iconst jf_89_132 jc_i_2 ?_
          replace h := obd_of h; obtain ⟨a56, rfl, h⟩ := h
          replace h := jgd_of h; obtain ⟨hb57, h⟩ := h
          replace h := obd_of h; obtain ⟨x58, hx58, h⟩ := h
          refine jr_V6_1 jf_89_133 hb57 (by omega) (r_Row_at (by omega) _ _ _ _ hx58) (by simp only [jcats_cons, jcats_nil, cat_int, cat_long, cat_double, cat_float, cat_ref, rv_cat]; decide) jml_38 (Nat.le_of_ble_eq_true rfl) ?_
          replace h := obd_of h; obtain ⟨a59, rfl, h⟩ := h
          replace h := jgd_of h; obtain ⟨hb60, h⟩ := h
          replace h := obd_of h; obtain ⟨μ61, hμ61, h⟩ := h
          refine jr_V6v_2 jf_89_136 hb60 (by omega) (r_Row_put (by omega) _ _ _ _ _ hμ61) (Nat.le_of_ble_eq_true rfl) jml_66 (Nat.le_of_ble_eq_true rfl) ?_
          refine jr_aload_n jf_89_139 rfl (jg2_ne rfl (jg2_ne rfl (jg2_ne rfl (jg2_ne rfl hl0)))) ?_
          replace h := obd_of h; obtain ⟨x62, hx62, h⟩ := h
          refine jr_getA jf_89_140 hx62 ?_
          refine jr_iconst jf_89_143 jc_i_2 ?_
          refine jr_lload jf_89_144 jg2_same ?_
          replace h := obd_of h; obtain ⟨a63, rfl, h⟩ := h
          replace h := jgd_of h; obtain ⟨hb64, h⟩ := h
          replace h := obd_of h; obtain ⟨μ65, hμ65, h⟩ := h
          refine jr_V6v_2 jf_89_146 hb64 (by omega) (r_Row_put (by omega) _ _ _ _ _ hμ65) (Nat.le_of_ble_eq_true rfl) jml_66 (Nat.le_of_ble_eq_true rfl) ?_
          refine jr_lload jf_89_149 jg2_same ?_
          obtain ⟨rfl, rfl⟩ := Prod.mk.inj (Option.some.inj h)
          exact jr_retJ jf_89_151 jmt_89
      · obtain ⟨hb, hx⟩ := jgd_of hx
        obtain hx := Option.some.inj hx
        refine jr_V8b_2 jf_89_67 hb0 hb (by omega) (r_Shorts_plus (by omega) _ _ _ _ _ hx) (Nat.le_of_ble_eq_true rfl) jml_78 (Nat.le_of_ble_eq_true rfl) ?_
        refine jr_lstore_n jf_89_70 rfl jml_89 (by decide) ?_
        refine jr_aload_n jf_89_71 rfl (jg2_ne rfl (jg2_ne rfl (jg2_ne rfl hl0))) ?_
        refine jr_aload_n jf_89_72 rfl (jg2_ne rfl (jg2_ne rfl (jg2_ne rfl hl0))) ?_
        replace h := obd_of h; obtain ⟨x30, hx30, h⟩ := h
        refine jr_getA jf_89_73 hx30 ?_
        refine jr_lload_n jf_89_76 rfl jg2_same ?_
        refine jr_aload_n jf_89_77 rfl (jg2_ne rfl (jg2_ne rfl (jg2_ne rfl hl0))) ?_
        refine jr_iconst jf_89_78 jc_i_4 ?_
        refine jr_aload_n jf_89_79 rfl (jg2_ne rfl (jg2_ne rfl (jg2_ne rfl hl0))) ?_
        replace h := obd_of h; obtain ⟨x31, hx31, h⟩ := h
        refine jr_getA jf_89_80 hx31 ?_
        refine jr_iconst jf_89_83 jc_i_3 ?_
        replace h := obd_of h; obtain ⟨a32, rfl, h⟩ := h
        replace h := jgd_of h; obtain ⟨hb33, h⟩ := h
        replace h := obd_of h; obtain ⟨x34, hx34, h⟩ := h
        refine jr_V6_1 jf_89_84 hb33 (by omega) (r_Row_at (by omega) _ _ _ _ hx34) (by simp only [jcats_cons, jcats_nil, cat_int, cat_long, cat_double, cat_float, cat_ref, rv_cat]; decide) jml_38 (Nat.le_of_ble_eq_true rfl) ?_
        replace h := jgd_of h; obtain ⟨hb35, h⟩ := h
        replace h := obd_of h; obtain ⟨x36, hx36, h⟩ := h
        refine jr_V6_2 jf_89_87 hb35 (by omega) (r_Section_lessTimes (by omega) _ _ _ _ _ hx36) (by simp only [jcats_cons, jcats_nil, cat_int, cat_long, cat_double, cat_float, cat_ref, rv_cat]; decide) jml_90 (Nat.le_of_ble_eq_true rfl) ?_
        replace h := obd_of h; obtain ⟨a37, rfl, h⟩ := h
        replace h := obd_of h; obtain ⟨x38, hx38, h⟩ := h
        rcases ite_or hx38 with ⟨hb, hx⟩ | ⟨hb0, hx⟩
        · refine jr_V8a_2 jf_89_90 hb (by omega) (r_Real_plus (by omega) _ _ _ _ _ hx) (Nat.le_of_ble_eq_true rfl) jml_74 (Nat.le_of_ble_eq_true rfl) ?_
          replace h := jgd_of h; obtain ⟨hb39, h⟩ := h
          replace h := jbd2_of h; obtain ⟨x40, μ41, hx40, h⟩ := h
          refine jr_V6_1 jf_89_93 hb39 (by omega) (r_Section_settled (by omega) _ _ _ _ _ hx40) (Nat.le_of_ble_eq_true rfl) jml_79 (Nat.le_of_ble_eq_true rfl) ?_
          refine jr_lstore jf_89_96 jml_89 (by decide) ?_
          refine jr_aload_n jf_89_98 rfl (jg2_ne rfl (jg2_ne rfl (jg2_ne rfl (jg2_ne rfl hl0)))) ?_
          replace h := obd_of h; obtain ⟨x42, hx42, h⟩ := h
          refine jr_getA jf_89_99 hx42 ?_
          refine jr_iconst jf_89_102 jc_i_1 ?_
          refine jr_aload_n jf_89_103 rfl (jg2_ne rfl (jg2_ne rfl (jg2_ne rfl (jg2_ne rfl hl0)))) ?_
          replace h := obd_of h; obtain ⟨x43, hx43, h⟩ := h
          refine jr_getA jf_89_104 hx43 ?_
          refine jr_iconst jf_89_107 jc_i_0 ?_
          replace h := obd_of h; obtain ⟨a44, rfl, h⟩ := h
          replace h := jgd_of h; obtain ⟨hb45, h⟩ := h
          replace h := obd_of h; obtain ⟨x46, hx46, h⟩ := h
          refine jr_V6_1 jf_89_108 hb45 (by omega) (r_Row_at (by omega) _ _ _ _ hx46) (by simp only [jcats_cons, jcats_nil, cat_int, cat_long, cat_double, cat_float, cat_ref, rv_cat]; decide) jml_38 (Nat.le_of_ble_eq_true rfl) ?_
          replace h := obd_of h; obtain ⟨a47, rfl, h⟩ := h
          replace h := jgd_of h; obtain ⟨hb48, h⟩ := h
          replace h := obd_of h; obtain ⟨μ49, hμ49, h⟩ := h
          refine jr_V6v_2 jf_89_111 hb48 (by omega) (r_Row_put (by omega) _ _ _ _ _ hμ49) (Nat.le_of_ble_eq_true rfl) jml_66 (Nat.le_of_ble_eq_true rfl) ?_
          refine jr_aload_n jf_89_114 rfl (jg2_ne rfl (jg2_ne rfl (jg2_ne rfl (jg2_ne rfl hl0)))) ?_
          replace h := obd_of h; obtain ⟨x50, hx50, h⟩ := h
          refine jr_getA jf_89_115 hx50 ?_
          refine jr_iconst jf_89_118 jc_i_0 ?_
          refine jr_lload_n jf_89_119 rfl (jg2_ne rfl (jg2_ne rfl (jg2_ne rfl (jg2_ne rfl hl1)))) ?_
          replace h := obd_of h; obtain ⟨a51, rfl, h⟩ := h
          replace h := jgd_of h; obtain ⟨hb52, h⟩ := h
          replace h := obd_of h; obtain ⟨μ53, hμ53, h⟩ := h
          refine jr_V6v_2 jf_89_120 hb52 (by omega) (r_Row_put (by omega) _ _ _ _ _ hμ53) (Nat.le_of_ble_eq_true rfl) jml_66 (Nat.le_of_ble_eq_true rfl) ?_
          refine jr_aload_n jf_89_123 rfl (jg2_ne rfl (jg2_ne rfl (jg2_ne rfl (jg2_ne rfl hl0)))) ?_
          replace h := obd_of h; obtain ⟨x54, hx54, h⟩ := h
          refine jr_getA jf_89_124 hx54 ?_
          refine jr_iconst jf_89_127 jc_i_3 ?_
          refine jr_aload_n jf_89_128 rfl (jg2_ne rfl (jg2_ne rfl (jg2_ne rfl (jg2_ne rfl hl0)))) ?_
          replace h := obd_of h; obtain ⟨x55, hx55, h⟩ := h
          refine jr_getA jf_89_129 hx55 ?_
          refine jr_iconst jf_89_132 jc_i_2 ?_
          replace h := obd_of h; obtain ⟨a56, rfl, h⟩ := h
          replace h := jgd_of h; obtain ⟨hb57, h⟩ := h
          replace h := obd_of h; obtain ⟨x58, hx58, h⟩ := h
          refine jr_V6_1 jf_89_133 hb57 (by omega) (r_Row_at (by omega) _ _ _ _ hx58) (by simp only [jcats_cons, jcats_nil, cat_int, cat_long, cat_double, cat_float, cat_ref, rv_cat]; decide) jml_38 (Nat.le_of_ble_eq_true rfl) ?_
          replace h := obd_of h; obtain ⟨a59, rfl, h⟩ := h
          replace h := jgd_of h; obtain ⟨hb60, h⟩ := h
          replace h := obd_of h; obtain ⟨μ61, hμ61, h⟩ := h
          refine jr_V6v_2 jf_89_136 hb60 (by omega) (r_Row_put (by omega) _ _ _ _ _ hμ61) (Nat.le_of_ble_eq_true rfl) jml_66 (Nat.le_of_ble_eq_true rfl) ?_
          refine jr_aload_n jf_89_139 rfl (jg2_ne rfl (jg2_ne rfl (jg2_ne rfl (jg2_ne rfl hl0)))) ?_
          replace h := obd_of h; obtain ⟨x62, hx62, h⟩ := h
          refine jr_getA jf_89_140 hx62 ?_
          refine jr_iconst jf_89_143 jc_i_2 ?_
          refine jr_lload jf_89_144 jg2_same ?_
          replace h := obd_of h; obtain ⟨a63, rfl, h⟩ := h
          replace h := jgd_of h; obtain ⟨hb64, h⟩ := h
          replace h := obd_of h; obtain ⟨μ65, hμ65, h⟩ := h
          refine jr_V6v_2 jf_89_146 hb64 (by omega) (r_Row_put (by omega) _ _ _ _ _ hμ65) (Nat.le_of_ble_eq_true rfl) jml_66 (Nat.le_of_ble_eq_true rfl) ?_
          refine jr_lload jf_89_149 jg2_same ?_
          obtain ⟨rfl, rfl⟩ := Prod.mk.inj (Option.some.inj h)
          exact jr_retJ jf_89_151 jmt_89
        · obtain ⟨hb, hx⟩ := jgd_of hx
          obtain hx := Option.some.inj hx
          refine jr_V8b_2 jf_89_90 hb0 hb (by omega) (r_Shorts_plus (by omega) _ _ _ _ _ hx) (Nat.le_of_ble_eq_true rfl) jml_78 (Nat.le_of_ble_eq_true rfl) ?_
          replace h := jgd_of h; obtain ⟨hb39, h⟩ := h
          replace h := jbd2_of h; obtain ⟨x40, μ41, hx40, h⟩ := h
          refine jr_V6_1 jf_89_93 hb39 (by omega) (r_Section_settled (by omega) _ _ _ _ _ hx40) (Nat.le_of_ble_eq_true rfl) jml_79 (Nat.le_of_ble_eq_true rfl) ?_
          refine jr_lstore jf_89_96 jml_89 (by decide) ?_
          refine jr_aload_n jf_89_98 rfl (jg2_ne rfl (jg2_ne rfl (jg2_ne rfl (jg2_ne rfl hl0)))) ?_
          replace h := obd_of h; obtain ⟨x42, hx42, h⟩ := h
          refine jr_getA jf_89_99 hx42 ?_
          refine jr_iconst jf_89_102 jc_i_1 ?_
          refine jr_aload_n jf_89_103 rfl (jg2_ne rfl (jg2_ne rfl (jg2_ne rfl (jg2_ne rfl hl0)))) ?_
          replace h := obd_of h; obtain ⟨x43, hx43, h⟩ := h
          refine jr_getA jf_89_104 hx43 ?_
          refine jr_iconst jf_89_107 jc_i_0 ?_
          replace h := obd_of h; obtain ⟨a44, rfl, h⟩ := h
          replace h := jgd_of h; obtain ⟨hb45, h⟩ := h
          replace h := obd_of h; obtain ⟨x46, hx46, h⟩ := h
          refine jr_V6_1 jf_89_108 hb45 (by omega) (r_Row_at (by omega) _ _ _ _ hx46) (by simp only [jcats_cons, jcats_nil, cat_int, cat_long, cat_double, cat_float, cat_ref, rv_cat]; decide) jml_38 (Nat.le_of_ble_eq_true rfl) ?_
          replace h := obd_of h; obtain ⟨a47, rfl, h⟩ := h
          replace h := jgd_of h; obtain ⟨hb48, h⟩ := h
          replace h := obd_of h; obtain ⟨μ49, hμ49, h⟩ := h
          refine jr_V6v_2 jf_89_111 hb48 (by omega) (r_Row_put (by omega) _ _ _ _ _ hμ49) (Nat.le_of_ble_eq_true rfl) jml_66 (Nat.le_of_ble_eq_true rfl) ?_
          refine jr_aload_n jf_89_114 rfl (jg2_ne rfl (jg2_ne rfl (jg2_ne rfl (jg2_ne rfl hl0)))) ?_
          replace h := obd_of h; obtain ⟨x50, hx50, h⟩ := h
          refine jr_getA jf_89_115 hx50 ?_
          refine jr_iconst jf_89_118 jc_i_0 ?_
          refine jr_lload_n jf_89_119 rfl (jg2_ne rfl (jg2_ne rfl (jg2_ne rfl (jg2_ne rfl hl1)))) ?_
          replace h := obd_of h; obtain ⟨a51, rfl, h⟩ := h
          replace h := jgd_of h; obtain ⟨hb52, h⟩ := h
          replace h := obd_of h; obtain ⟨μ53, hμ53, h⟩ := h
          refine jr_V6v_2 jf_89_120 hb52 (by omega) (r_Row_put (by omega) _ _ _ _ _ hμ53) (Nat.le_of_ble_eq_true rfl) jml_66 (Nat.le_of_ble_eq_true rfl) ?_
          refine jr_aload_n jf_89_123 rfl (jg2_ne rfl (jg2_ne rfl (jg2_ne rfl (jg2_ne rfl hl0)))) ?_
          replace h := obd_of h; obtain ⟨x54, hx54, h⟩ := h
          refine jr_getA jf_89_124 hx54 ?_
          refine jr_iconst jf_89_127 jc_i_3 ?_
          refine jr_aload_n jf_89_128 rfl (jg2_ne rfl (jg2_ne rfl (jg2_ne rfl (jg2_ne rfl hl0)))) ?_
          replace h := obd_of h; obtain ⟨x55, hx55, h⟩ := h
          refine jr_getA jf_89_129 hx55 ?_
          refine jr_iconst jf_89_132 jc_i_2 ?_
          replace h := obd_of h; obtain ⟨a56, rfl, h⟩ := h
          replace h := jgd_of h; obtain ⟨hb57, h⟩ := h
          replace h := obd_of h; obtain ⟨x58, hx58, h⟩ := h
          refine jr_V6_1 jf_89_133 hb57 (by omega) (r_Row_at (by omega) _ _ _ _ hx58) (by simp only [jcats_cons, jcats_nil, cat_int, cat_long, cat_double, cat_float, cat_ref, rv_cat]; decide) jml_38 (Nat.le_of_ble_eq_true rfl) ?_
          replace h := obd_of h; obtain ⟨a59, rfl, h⟩ := h
          replace h := jgd_of h; obtain ⟨hb60, h⟩ := h
          replace h := obd_of h; obtain ⟨μ61, hμ61, h⟩ := h
          refine jr_V6v_2 jf_89_136 hb60 (by omega) (r_Row_put (by omega) _ _ _ _ _ hμ61) (Nat.le_of_ble_eq_true rfl) jml_66 (Nat.le_of_ble_eq_true rfl) ?_
          refine jr_aload_n jf_89_139 rfl (jg2_ne rfl (jg2_ne rfl (jg2_ne rfl (jg2_ne rfl hl0)))) ?_
          replace h := obd_of h; obtain ⟨x62, hx62, h⟩ := h
          refine jr_getA jf_89_140 hx62 ?_
          refine jr_iconst jf_89_143 jc_i_2 ?_
          refine jr_lload jf_89_144 jg2_same ?_
          replace h := obd_of h; obtain ⟨a63, rfl, h⟩ := h
          replace h := jgd_of h; obtain ⟨hb64, h⟩ := h
          replace h := obd_of h; obtain ⟨μ65, hμ65, h⟩ := h
          refine jr_V6v_2 jf_89_146 hb64 (by omega) (r_Row_put (by omega) _ _ _ _ _ hμ65) (Nat.le_of_ble_eq_true rfl) jml_66 (Nat.le_of_ble_eq_true rfl) ?_
          refine jr_lload jf_89_149 jg2_same ?_
          obtain ⟨rfl, rfl⟩ := Prod.mk.inj (Option.some.inj h)
          exact jr_retJ jf_89_151 jmt_89
  · obtain ⟨hb, hx⟩ := jgd_of hx
    obtain hx := Option.some.inj hx
    refine jr_V8b_2 jf_89_23 hb0 hb (by omega) (r_Shorts_plus (by omega) _ _ _ _ _ hx) (Nat.le_of_ble_eq_true rfl) jml_78 (Nat.le_of_ble_eq_true rfl) ?_
    refine jr_lstore_n jf_89_26 rfl jml_89 (by decide) ?_
    refine jr_aload_n jf_89_27 rfl (jg2_ne rfl hl0) ?_
    replace h := obd_of h; obtain ⟨x12, hx12, h⟩ := h
    refine jr_getA jf_89_28 hx12 ?_
    refine jr_lload_n jf_89_31 rfl jg2_same ?_
    refine jr_aload_n jf_89_32 rfl (jg2_ne rfl hl0) ?_
    refine jr_iconst jf_89_33 jc_i_2 ?_
    refine jr_aload_n jf_89_34 rfl (jg2_ne rfl hl0) ?_
    replace h := obd_of h; obtain ⟨x13, hx13, h⟩ := h
    refine jr_getA jf_89_35 hx13 ?_
    refine jr_iconst jf_89_38 jc_i_1 ?_
    replace h := obd_of h; obtain ⟨a14, rfl, h⟩ := h
    replace h := jgd_of h; obtain ⟨hb15, h⟩ := h
    replace h := obd_of h; obtain ⟨x16, hx16, h⟩ := h
    refine jr_V6_1 jf_89_39 hb15 (by omega) (r_Row_at (by omega) _ _ _ _ hx16) (by simp only [jcats_cons, jcats_nil, cat_int, cat_long, cat_double, cat_float, cat_ref, rv_cat]; decide) jml_38 (Nat.le_of_ble_eq_true rfl) ?_
    replace h := jgd_of h; obtain ⟨hb17, h⟩ := h
    replace h := obd_of h; obtain ⟨x18, hx18, h⟩ := h
    refine jr_V6_2 jf_89_42 hb17 (by omega) (r_Section_times (by omega) _ _ _ _ _ hx18) (by simp only [jcats_cons, jcats_nil, cat_int, cat_long, cat_double, cat_float, cat_ref, rv_cat]; decide) jml_87 (Nat.le_of_ble_eq_true rfl) ?_
    replace h := obd_of h; obtain ⟨a19, rfl, h⟩ := h
    replace h := obd_of h; obtain ⟨x20, hx20, h⟩ := h
    rcases ite_or hx20 with ⟨hb, hx⟩ | ⟨hb0, hx⟩
    · refine jr_V8a_2 jf_89_45 hb (by omega) (r_Real_plus (by omega) _ _ _ _ _ hx) (Nat.le_of_ble_eq_true rfl) jml_74 (Nat.le_of_ble_eq_true rfl) ?_
      refine jr_lstore_n jf_89_48 rfl jml_89 (by decide) ?_
      refine jr_aload_n jf_89_49 rfl (jg2_ne rfl (jg2_ne rfl hl0)) ?_
      replace h := obd_of h; obtain ⟨x21, hx21, h⟩ := h
      refine jr_getA jf_89_50 hx21 ?_
      refine jr_lload_n jf_89_53 rfl jg2_same ?_
      refine jr_aload_n jf_89_54 rfl (jg2_ne rfl (jg2_ne rfl hl0)) ?_
      refine jr_iconst jf_89_55 jc_i_3 ?_
      refine jr_aload_n jf_89_56 rfl (jg2_ne rfl (jg2_ne rfl hl0)) ?_
      replace h := obd_of h; obtain ⟨x22, hx22, h⟩ := h
      refine jr_getA jf_89_57 hx22 ?_
      refine jr_iconst jf_89_60 jc_i_2 ?_
      replace h := obd_of h; obtain ⟨a23, rfl, h⟩ := h
      replace h := jgd_of h; obtain ⟨hb24, h⟩ := h
      replace h := obd_of h; obtain ⟨x25, hx25, h⟩ := h
      refine jr_V6_1 jf_89_61 hb24 (by omega) (r_Row_at (by omega) _ _ _ _ hx25) (by simp only [jcats_cons, jcats_nil, cat_int, cat_long, cat_double, cat_float, cat_ref, rv_cat]; decide) jml_38 (Nat.le_of_ble_eq_true rfl) ?_
      replace h := jgd_of h; obtain ⟨hb26, h⟩ := h
      replace h := obd_of h; obtain ⟨x27, hx27, h⟩ := h
      refine jr_V6_2 jf_89_64 hb26 (by omega) (r_Section_lessTimes (by omega) _ _ _ _ _ hx27) (by simp only [jcats_cons, jcats_nil, cat_int, cat_long, cat_double, cat_float, cat_ref, rv_cat]; decide) jml_90 (Nat.le_of_ble_eq_true rfl) ?_
      replace h := obd_of h; obtain ⟨a28, rfl, h⟩ := h
      replace h := obd_of h; obtain ⟨x29, hx29, h⟩ := h
      rcases ite_or hx29 with ⟨hb, hx⟩ | ⟨hb0, hx⟩
      · refine jr_V8a_2 jf_89_67 hb (by omega) (r_Real_plus (by omega) _ _ _ _ _ hx) (Nat.le_of_ble_eq_true rfl) jml_74 (Nat.le_of_ble_eq_true rfl) ?_
        refine jr_lstore_n jf_89_70 rfl jml_89 (by decide) ?_
        refine jr_aload_n jf_89_71 rfl (jg2_ne rfl (jg2_ne rfl (jg2_ne rfl hl0))) ?_
        refine jr_aload_n jf_89_72 rfl (jg2_ne rfl (jg2_ne rfl (jg2_ne rfl hl0))) ?_
        replace h := obd_of h; obtain ⟨x30, hx30, h⟩ := h
        refine jr_getA jf_89_73 hx30 ?_
        refine jr_lload_n jf_89_76 rfl jg2_same ?_
        refine jr_aload_n jf_89_77 rfl (jg2_ne rfl (jg2_ne rfl (jg2_ne rfl hl0))) ?_
        refine jr_iconst jf_89_78 jc_i_4 ?_
        refine jr_aload_n jf_89_79 rfl (jg2_ne rfl (jg2_ne rfl (jg2_ne rfl hl0))) ?_
        replace h := obd_of h; obtain ⟨x31, hx31, h⟩ := h
        refine jr_getA jf_89_80 hx31 ?_
        refine jr_iconst jf_89_83 jc_i_3 ?_
        replace h := obd_of h; obtain ⟨a32, rfl, h⟩ := h
        replace h := jgd_of h; obtain ⟨hb33, h⟩ := h
        replace h := obd_of h; obtain ⟨x34, hx34, h⟩ := h
        refine jr_V6_1 jf_89_84 hb33 (by omega) (r_Row_at (by omega) _ _ _ _ hx34) (by simp only [jcats_cons, jcats_nil, cat_int, cat_long, cat_double, cat_float, cat_ref, rv_cat]; decide) jml_38 (Nat.le_of_ble_eq_true rfl) ?_
        replace h := jgd_of h; obtain ⟨hb35, h⟩ := h
        replace h := obd_of h; obtain ⟨x36, hx36, h⟩ := h
        refine jr_V6_2 jf_89_87 hb35 (by omega) (r_Section_lessTimes (by omega) _ _ _ _ _ hx36) (by simp only [jcats_cons, jcats_nil, cat_int, cat_long, cat_double, cat_float, cat_ref, rv_cat]; decide) jml_90 (Nat.le_of_ble_eq_true rfl) ?_
        replace h := obd_of h; obtain ⟨a37, rfl, h⟩ := h
        replace h := obd_of h; obtain ⟨x38, hx38, h⟩ := h
        rcases ite_or hx38 with ⟨hb, hx⟩ | ⟨hb0, hx⟩
        · refine jr_V8a_2 jf_89_90 hb (by omega) (r_Real_plus (by omega) _ _ _ _ _ hx) (Nat.le_of_ble_eq_true rfl) jml_74 (Nat.le_of_ble_eq_true rfl) ?_
          replace h := jgd_of h; obtain ⟨hb39, h⟩ := h
          replace h := jbd2_of h; obtain ⟨x40, μ41, hx40, h⟩ := h
          refine jr_V6_1 jf_89_93 hb39 (by omega) (r_Section_settled (by omega) _ _ _ _ _ hx40) (Nat.le_of_ble_eq_true rfl) jml_79 (Nat.le_of_ble_eq_true rfl) ?_
          refine jr_lstore jf_89_96 jml_89 (by decide) ?_
          refine jr_aload_n jf_89_98 rfl (jg2_ne rfl (jg2_ne rfl (jg2_ne rfl (jg2_ne rfl hl0)))) ?_
          replace h := obd_of h; obtain ⟨x42, hx42, h⟩ := h
          refine jr_getA jf_89_99 hx42 ?_
          refine jr_iconst jf_89_102 jc_i_1 ?_
          refine jr_aload_n jf_89_103 rfl (jg2_ne rfl (jg2_ne rfl (jg2_ne rfl (jg2_ne rfl hl0)))) ?_
          replace h := obd_of h; obtain ⟨x43, hx43, h⟩ := h
          refine jr_getA jf_89_104 hx43 ?_
          refine jr_iconst jf_89_107 jc_i_0 ?_
          replace h := obd_of h; obtain ⟨a44, rfl, h⟩ := h
          replace h := jgd_of h; obtain ⟨hb45, h⟩ := h
          replace h := obd_of h; obtain ⟨x46, hx46, h⟩ := h
          refine jr_V6_1 jf_89_108 hb45 (by omega) (r_Row_at (by omega) _ _ _ _ hx46) (by simp only [jcats_cons, jcats_nil, cat_int, cat_long, cat_double, cat_float, cat_ref, rv_cat]; decide) jml_38 (Nat.le_of_ble_eq_true rfl) ?_
          replace h := obd_of h; obtain ⟨a47, rfl, h⟩ := h
          replace h := jgd_of h; obtain ⟨hb48, h⟩ := h
          replace h := obd_of h; obtain ⟨μ49, hμ49, h⟩ := h
          refine jr_V6v_2 jf_89_111 hb48 (by omega) (r_Row_put (by omega) _ _ _ _ _ hμ49) (Nat.le_of_ble_eq_true rfl) jml_66 (Nat.le_of_ble_eq_true rfl) ?_
          refine jr_aload_n jf_89_114 rfl (jg2_ne rfl (jg2_ne rfl (jg2_ne rfl (jg2_ne rfl hl0)))) ?_
          replace h := obd_of h; obtain ⟨x50, hx50, h⟩ := h
          refine jr_getA jf_89_115 hx50 ?_
          refine jr_iconst jf_89_118 jc_i_0 ?_
          refine jr_lload_n jf_89_119 rfl (jg2_ne rfl (jg2_ne rfl (jg2_ne rfl (jg2_ne rfl hl1)))) ?_
          replace h := obd_of h; obtain ⟨a51, rfl, h⟩ := h
          replace h := jgd_of h; obtain ⟨hb52, h⟩ := h
          replace h := obd_of h; obtain ⟨μ53, hμ53, h⟩ := h
          refine jr_V6v_2 jf_89_120 hb52 (by omega) (r_Row_put (by omega) _ _ _ _ _ hμ53) (Nat.le_of_ble_eq_true rfl) jml_66 (Nat.le_of_ble_eq_true rfl) ?_
          refine jr_aload_n jf_89_123 rfl (jg2_ne rfl (jg2_ne rfl (jg2_ne rfl (jg2_ne rfl hl0)))) ?_
          replace h := obd_of h; obtain ⟨x54, hx54, h⟩ := h
          refine jr_getA jf_89_124 hx54 ?_
          refine jr_iconst jf_89_127 jc_i_3 ?_
          refine jr_aload_n jf_89_128 rfl (jg2_ne rfl (jg2_ne rfl (jg2_ne rfl (jg2_ne rfl hl0)))) ?_
          replace h := obd_of h; obtain ⟨x55, hx55, h⟩ := h
          refine jr_getA jf_89_129 hx55 ?_
          refine jr_iconst jf_89_132 jc_i_2 ?_
          replace h := obd_of h; obtain ⟨a56, rfl, h⟩ := h
          replace h := jgd_of h; obtain ⟨hb57, h⟩ := h
          replace h := obd_of h; obtain ⟨x58, hx58, h⟩ := h
          refine jr_V6_1 jf_89_133 hb57 (by omega) (r_Row_at (by omega) _ _ _ _ hx58) (by simp only [jcats_cons, jcats_nil, cat_int, cat_long, cat_double, cat_float, cat_ref, rv_cat]; decide) jml_38 (Nat.le_of_ble_eq_true rfl) ?_
          replace h := obd_of h; obtain ⟨a59, rfl, h⟩ := h
          replace h := jgd_of h; obtain ⟨hb60, h⟩ := h
          replace h := obd_of h; obtain ⟨μ61, hμ61, h⟩ := h
          refine jr_V6v_2 jf_89_136 hb60 (by omega) (r_Row_put (by omega) _ _ _ _ _ hμ61) (Nat.le_of_ble_eq_true rfl) jml_66 (Nat.le_of_ble_eq_true rfl) ?_
          refine jr_aload_n jf_89_139 rfl (jg2_ne rfl (jg2_ne rfl (jg2_ne rfl (jg2_ne rfl hl0)))) ?_
          replace h := obd_of h; obtain ⟨x62, hx62, h⟩ := h
          refine jr_getA jf_89_140 hx62 ?_
          refine jr_iconst jf_89_143 jc_i_2 ?_
          refine jr_lload jf_89_144 jg2_same ?_
          replace h := obd_of h; obtain ⟨a63, rfl, h⟩ := h
          replace h := jgd_of h; obtain ⟨hb64, h⟩ := h
          replace h := obd_of h; obtain ⟨μ65, hμ65, h⟩ := h
          refine jr_V6v_2 jf_89_146 hb64 (by omega) (r_Row_put (by omega) _ _ _ _ _ hμ65) (Nat.le_of_ble_eq_true rfl) jml_66 (Nat.le_of_ble_eq_true rfl) ?_
          refine jr_lload jf_89_149 jg2_same ?_
          obtain ⟨rfl, rfl⟩ := Prod.mk.inj (Option.some.inj h)
          exact jr_retJ jf_89_151 jmt_89
        · obtain ⟨hb, hx⟩ := jgd_of hx
          obtain hx := Option.some.inj hx
          refine jr_V8b_2 jf_89_90 hb0 hb (by omega) (r_Shorts_plus (by omega) _ _ _ _ _ hx) (Nat.le_of_ble_eq_true rfl) jml_78 (Nat.le_of_ble_eq_true rfl) ?_
          replace h := jgd_of h; obtain ⟨hb39, h⟩ := h
          replace h := jbd2_of h; obtain ⟨x40, μ41, hx40, h⟩ := h
          refine jr_V6_1 jf_89_93 hb39 (by omega) (r_Section_settled (by omega) _ _ _ _ _ hx40) (Nat.le_of_ble_eq_true rfl) jml_79 (Nat.le_of_ble_eq_true rfl) ?_
          refine jr_lstore jf_89_96 jml_89 (by decide) ?_
          refine jr_aload_n jf_89_98 rfl (jg2_ne rfl (jg2_ne rfl (jg2_ne rfl (jg2_ne rfl hl0)))) ?_
          replace h := obd_of h; obtain ⟨x42, hx42, h⟩ := h
          refine jr_getA jf_89_99 hx42 ?_
          refine jr_iconst jf_89_102 jc_i_1 ?_
          refine jr_aload_n jf_89_103 rfl (jg2_ne rfl (jg2_ne rfl (jg2_ne rfl (jg2_ne rfl hl0)))) ?_
          replace h := obd_of h; obtain ⟨x43, hx43, h⟩ := h
          refine jr_getA jf_89_104 hx43 ?_
          refine jr_iconst jf_89_107 jc_i_0 ?_
          replace h := obd_of h; obtain ⟨a44, rfl, h⟩ := h
          replace h := jgd_of h; obtain ⟨hb45, h⟩ := h
          replace h := obd_of h; obtain ⟨x46, hx46, h⟩ := h
          refine jr_V6_1 jf_89_108 hb45 (by omega) (r_Row_at (by omega) _ _ _ _ hx46) (by simp only [jcats_cons, jcats_nil, cat_int, cat_long, cat_double, cat_float, cat_ref, rv_cat]; decide) jml_38 (Nat.le_of_ble_eq_true rfl) ?_
          replace h := obd_of h; obtain ⟨a47, rfl, h⟩ := h
          replace h := jgd_of h; obtain ⟨hb48, h⟩ := h
          replace h := obd_of h; obtain ⟨μ49, hμ49, h⟩ := h
          refine jr_V6v_2 jf_89_111 hb48 (by omega) (r_Row_put (by omega) _ _ _ _ _ hμ49) (Nat.le_of_ble_eq_true rfl) jml_66 (Nat.le_of_ble_eq_true rfl) ?_
          refine jr_aload_n jf_89_114 rfl (jg2_ne rfl (jg2_ne rfl (jg2_ne rfl (jg2_ne rfl hl0)))) ?_
          replace h := obd_of h; obtain ⟨x50, hx50, h⟩ := h
          refine jr_getA jf_89_115 hx50 ?_
          refine jr_iconst jf_89_118 jc_i_0 ?_
          refine jr_lload_n jf_89_119 rfl (jg2_ne rfl (jg2_ne rfl (jg2_ne rfl (jg2_ne rfl hl1)))) ?_
          replace h := obd_of h; obtain ⟨a51, rfl, h⟩ := h
          replace h := jgd_of h; obtain ⟨hb52, h⟩ := h
          replace h := obd_of h; obtain ⟨μ53, hμ53, h⟩ := h
          refine jr_V6v_2 jf_89_120 hb52 (by omega) (r_Row_put (by omega) _ _ _ _ _ hμ53) (Nat.le_of_ble_eq_true rfl) jml_66 (Nat.le_of_ble_eq_true rfl) ?_
          refine jr_aload_n jf_89_123 rfl (jg2_ne rfl (jg2_ne rfl (jg2_ne rfl (jg2_ne rfl hl0)))) ?_
          replace h := obd_of h; obtain ⟨x54, hx54, h⟩ := h
          refine jr_getA jf_89_124 hx54 ?_
          refine jr_iconst jf_89_127 jc_i_3 ?_
          refine jr_aload_n jf_89_128 rfl (jg2_ne rfl (jg2_ne rfl (jg2_ne rfl (jg2_ne rfl hl0)))) ?_
          replace h := obd_of h; obtain ⟨x55, hx55, h⟩ := h
          refine jr_getA jf_89_129 hx55 ?_
          refine jr_iconst jf_89_132 jc_i_2 ?_
          replace h := obd_of h; obtain ⟨a56, rfl, h⟩ := h
          replace h := jgd_of h; obtain ⟨hb57, h⟩ := h
          replace h := obd_of h; obtain ⟨x58, hx58, h⟩ := h
          refine jr_V6_1 jf_89_133 hb57 (by omega) (r_Row_at (by omega) _ _ _ _ hx58) (by simp only [jcats_cons, jcats_nil, cat_int, cat_long, cat_double, cat_float, cat_ref, rv_cat]; decide) jml_38 (Nat.le_of_ble_eq_true rfl) ?_
          replace h := obd_of h; obtain ⟨a59, rfl, h⟩ := h
          replace h := jgd_of h; obtain ⟨hb60, h⟩ := h
          replace h := obd_of h; obtain ⟨μ61, hμ61, h⟩ := h
          refine jr_V6v_2 jf_89_136 hb60 (by omega) (r_Row_put (by omega) _ _ _ _ _ hμ61) (Nat.le_of_ble_eq_true rfl) jml_66 (Nat.le_of_ble_eq_true rfl) ?_
          refine jr_aload_n jf_89_139 rfl (jg2_ne rfl (jg2_ne rfl (jg2_ne rfl (jg2_ne rfl hl0)))) ?_
          replace h := obd_of h; obtain ⟨x62, hx62, h⟩ := h
          refine jr_getA jf_89_140 hx62 ?_
          refine jr_iconst jf_89_143 jc_i_2 ?_
          refine jr_lload jf_89_144 jg2_same ?_
          replace h := obd_of h; obtain ⟨a63, rfl, h⟩ := h
          replace h := jgd_of h; obtain ⟨hb64, h⟩ := h
          replace h := obd_of h; obtain ⟨μ65, hμ65, h⟩ := h
          refine jr_V6v_2 jf_89_146 hb64 (by omega) (r_Row_put (by omega) _ _ _ _ _ hμ65) (Nat.le_of_ble_eq_true rfl) jml_66 (Nat.le_of_ble_eq_true rfl) ?_
          refine jr_lload jf_89_149 jg2_same ?_
          obtain ⟨rfl, rfl⟩ := Prod.mk.inj (Option.some.inj h)
          exact jr_retJ jf_89_151 jmt_89
      · obtain ⟨hb, hx⟩ := jgd_of hx
        obtain hx := Option.some.inj hx
        refine jr_V8b_2 jf_89_67 hb0 hb (by omega) (r_Shorts_plus (by omega) _ _ _ _ _ hx) (Nat.le_of_ble_eq_true rfl) jml_78 (Nat.le_of_ble_eq_true rfl) ?_
        refine jr_lstore_n jf_89_70 rfl jml_89 (by decide) ?_
        refine jr_aload_n jf_89_71 rfl (jg2_ne rfl (jg2_ne rfl (jg2_ne rfl hl0))) ?_
        refine jr_aload_n jf_89_72 rfl (jg2_ne rfl (jg2_ne rfl (jg2_ne rfl hl0))) ?_
        replace h := obd_of h; obtain ⟨x30, hx30, h⟩ := h
        refine jr_getA jf_89_73 hx30 ?_
        refine jr_lload_n jf_89_76 rfl jg2_same ?_
        refine jr_aload_n jf_89_77 rfl (jg2_ne rfl (jg2_ne rfl (jg2_ne rfl hl0))) ?_
        refine jr_iconst jf_89_78 jc_i_4 ?_
        refine jr_aload_n jf_89_79 rfl (jg2_ne rfl (jg2_ne rfl (jg2_ne rfl hl0))) ?_
        replace h := obd_of h; obtain ⟨x31, hx31, h⟩ := h
        refine jr_getA jf_89_80 hx31 ?_
        refine jr_iconst jf_89_83 jc_i_3 ?_
        replace h := obd_of h; obtain ⟨a32, rfl, h⟩ := h
        replace h := jgd_of h; obtain ⟨hb33, h⟩ := h
        replace h := obd_of h; obtain ⟨x34, hx34, h⟩ := h
        refine jr_V6_1 jf_89_84 hb33 (by omega) (r_Row_at (by omega) _ _ _ _ hx34) (by simp only [jcats_cons, jcats_nil, cat_int, cat_long, cat_double, cat_float, cat_ref, rv_cat]; decide) jml_38 (Nat.le_of_ble_eq_true rfl) ?_
        replace h := jgd_of h; obtain ⟨hb35, h⟩ := h
        replace h := obd_of h; obtain ⟨x36, hx36, h⟩ := h
        refine jr_V6_2 jf_89_87 hb35 (by omega) (r_Section_lessTimes (by omega) _ _ _ _ _ hx36) (by simp only [jcats_cons, jcats_nil, cat_int, cat_long, cat_double, cat_float, cat_ref, rv_cat]; decide) jml_90 (Nat.le_of_ble_eq_true rfl) ?_
        replace h := obd_of h; obtain ⟨a37, rfl, h⟩ := h
        replace h := obd_of h; obtain ⟨x38, hx38, h⟩ := h
        rcases ite_or hx38 with ⟨hb, hx⟩ | ⟨hb0, hx⟩
        · refine jr_V8a_2 jf_89_90 hb (by omega) (r_Real_plus (by omega) _ _ _ _ _ hx) (Nat.le_of_ble_eq_true rfl) jml_74 (Nat.le_of_ble_eq_true rfl) ?_
          replace h := jgd_of h; obtain ⟨hb39, h⟩ := h
          replace h := jbd2_of h; obtain ⟨x40, μ41, hx40, h⟩ := h
          refine jr_V6_1 jf_89_93 hb39 (by omega) (r_Section_settled (by omega) _ _ _ _ _ hx40) (Nat.le_of_ble_eq_true rfl) jml_79 (Nat.le_of_ble_eq_true rfl) ?_
          refine jr_lstore jf_89_96 jml_89 (by decide) ?_
          refine jr_aload_n jf_89_98 rfl (jg2_ne rfl (jg2_ne rfl (jg2_ne rfl (jg2_ne rfl hl0)))) ?_
          replace h := obd_of h; obtain ⟨x42, hx42, h⟩ := h
          refine jr_getA jf_89_99 hx42 ?_
          refine jr_iconst jf_89_102 jc_i_1 ?_
          refine jr_aload_n jf_89_103 rfl (jg2_ne rfl (jg2_ne rfl (jg2_ne rfl (jg2_ne rfl hl0)))) ?_
          replace h := obd_of h; obtain ⟨x43, hx43, h⟩ := h
          refine jr_getA jf_89_104 hx43 ?_
          refine jr_iconst jf_89_107 jc_i_0 ?_
          replace h := obd_of h; obtain ⟨a44, rfl, h⟩ := h
          replace h := jgd_of h; obtain ⟨hb45, h⟩ := h
          replace h := obd_of h; obtain ⟨x46, hx46, h⟩ := h
          refine jr_V6_1 jf_89_108 hb45 (by omega) (r_Row_at (by omega) _ _ _ _ hx46) (by simp only [jcats_cons, jcats_nil, cat_int, cat_long, cat_double, cat_float, cat_ref, rv_cat]; decide) jml_38 (Nat.le_of_ble_eq_true rfl) ?_
          replace h := obd_of h; obtain ⟨a47, rfl, h⟩ := h
          replace h := jgd_of h; obtain ⟨hb48, h⟩ := h
          replace h := obd_of h; obtain ⟨μ49, hμ49, h⟩ := h
          refine jr_V6v_2 jf_89_111 hb48 (by omega) (r_Row_put (by omega) _ _ _ _ _ hμ49) (Nat.le_of_ble_eq_true rfl) jml_66 (Nat.le_of_ble_eq_true rfl) ?_
          refine jr_aload_n jf_89_114 rfl (jg2_ne rfl (jg2_ne rfl (jg2_ne rfl (jg2_ne rfl hl0)))) ?_
          replace h := obd_of h; obtain ⟨x50, hx50, h⟩ := h
          refine jr_getA jf_89_115 hx50 ?_
          refine jr_iconst jf_89_118 jc_i_0 ?_
          refine jr_lload_n jf_89_119 rfl (jg2_ne rfl (jg2_ne rfl (jg2_ne rfl (jg2_ne rfl hl1)))) ?_
          replace h := obd_of h; obtain ⟨a51, rfl, h⟩ := h
          replace h := jgd_of h; obtain ⟨hb52, h⟩ := h
          replace h := obd_of h; obtain ⟨μ53, hμ53, h⟩ := h
          refine jr_V6v_2 jf_89_120 hb52 (by omega) (r_Row_put (by omega) _ _ _ _ _ hμ53) (Nat.le_of_ble_eq_true rfl) jml_66 (Nat.le_of_ble_eq_true rfl) ?_
          refine jr_aload_n jf_89_123 rfl (jg2_ne rfl (jg2_ne rfl (jg2_ne rfl (jg2_ne rfl hl0)))) ?_
          replace h := obd_of h; obtain ⟨x54, hx54, h⟩ := h
          refine jr_getA jf_89_124 hx54 ?_
          refine jr_iconst jf_89_127 jc_i_3 ?_
          refine jr_aload_n jf_89_128 rfl (jg2_ne rfl (jg2_ne rfl (jg2_ne rfl (jg2_ne rfl hl0)))) ?_
          replace h := obd_of h; obtain ⟨x55, hx55, h⟩ := h
          refine jr_getA jf_89_129 hx55 ?_
          refine jr_iconst jf_89_132 jc_i_2 ?_
          replace h := obd_of h; obtain ⟨a56, rfl, h⟩ := h
          replace h := jgd_of h; obtain ⟨hb57, h⟩ := h
          replace h := obd_of h; obtain ⟨x58, hx58, h⟩ := h
          refine jr_V6_1 jf_89_133 hb57 (by omega) (r_Row_at (by omega) _ _ _ _ hx58) (by simp only [jcats_cons, jcats_nil, cat_int, cat_long, cat_double, cat_float, cat_ref, rv_cat]; decide) jml_38 (Nat.le_of_ble_eq_true rfl) ?_
          replace h := obd_of h; obtain ⟨a59, rfl, h⟩ := h
          replace h := jgd_of h; obtain ⟨hb60, h⟩ := h
          replace h := obd_of h; obtain ⟨μ61, hμ61, h⟩ := h
          refine jr_V6v_2 jf_89_136 hb60 (by omega) (r_Row_put (by omega) _ _ _ _ _ hμ61) (Nat.le_of_ble_eq_true rfl) jml_66 (Nat.le_of_ble_eq_true rfl) ?_
          refine jr_aload_n jf_89_139 rfl (jg2_ne rfl (jg2_ne rfl (jg2_ne rfl (jg2_ne rfl hl0)))) ?_
          replace h := obd_of h; obtain ⟨x62, hx62, h⟩ := h
          refine jr_getA jf_89_140 hx62 ?_
          refine jr_iconst jf_89_143 jc_i_2 ?_
          refine jr_lload jf_89_144 jg2_same ?_
          replace h := obd_of h; obtain ⟨a63, rfl, h⟩ := h
          replace h := jgd_of h; obtain ⟨hb64, h⟩ := h
          replace h := obd_of h; obtain ⟨μ65, hμ65, h⟩ := h
          refine jr_V6v_2 jf_89_146 hb64 (by omega) (r_Row_put (by omega) _ _ _ _ _ hμ65) (Nat.le_of_ble_eq_true rfl) jml_66 (Nat.le_of_ble_eq_true rfl) ?_
          refine jr_lload jf_89_149 jg2_same ?_
          obtain ⟨rfl, rfl⟩ := Prod.mk.inj (Option.some.inj h)
          exact jr_retJ jf_89_151 jmt_89
        · obtain ⟨hb, hx⟩ := jgd_of hx
          obtain hx := Option.some.inj hx
          refine jr_V8b_2 jf_89_90 hb0 hb (by omega) (r_Shorts_plus (by omega) _ _ _ _ _ hx) (Nat.le_of_ble_eq_true rfl) jml_78 (Nat.le_of_ble_eq_true rfl) ?_
          replace h := jgd_of h; obtain ⟨hb39, h⟩ := h
          replace h := jbd2_of h; obtain ⟨x40, μ41, hx40, h⟩ := h
          refine jr_V6_1 jf_89_93 hb39 (by omega) (r_Section_settled (by omega) _ _ _ _ _ hx40) (Nat.le_of_ble_eq_true rfl) jml_79 (Nat.le_of_ble_eq_true rfl) ?_
          refine jr_lstore jf_89_96 jml_89 (by decide) ?_
          refine jr_aload_n jf_89_98 rfl (jg2_ne rfl (jg2_ne rfl (jg2_ne rfl (jg2_ne rfl hl0)))) ?_
          replace h := obd_of h; obtain ⟨x42, hx42, h⟩ := h
          refine jr_getA jf_89_99 hx42 ?_
          refine jr_iconst jf_89_102 jc_i_1 ?_
          refine jr_aload_n jf_89_103 rfl (jg2_ne rfl (jg2_ne rfl (jg2_ne rfl (jg2_ne rfl hl0)))) ?_
          replace h := obd_of h; obtain ⟨x43, hx43, h⟩ := h
          refine jr_getA jf_89_104 hx43 ?_
          refine jr_iconst jf_89_107 jc_i_0 ?_
          replace h := obd_of h; obtain ⟨a44, rfl, h⟩ := h
          replace h := jgd_of h; obtain ⟨hb45, h⟩ := h
          replace h := obd_of h; obtain ⟨x46, hx46, h⟩ := h
          refine jr_V6_1 jf_89_108 hb45 (by omega) (r_Row_at (by omega) _ _ _ _ hx46) (by simp only [jcats_cons, jcats_nil, cat_int, cat_long, cat_double, cat_float, cat_ref, rv_cat]; decide) jml_38 (Nat.le_of_ble_eq_true rfl) ?_
          replace h := obd_of h; obtain ⟨a47, rfl, h⟩ := h
          replace h := jgd_of h; obtain ⟨hb48, h⟩ := h
          replace h := obd_of h; obtain ⟨μ49, hμ49, h⟩ := h
          refine jr_V6v_2 jf_89_111 hb48 (by omega) (r_Row_put (by omega) _ _ _ _ _ hμ49) (Nat.le_of_ble_eq_true rfl) jml_66 (Nat.le_of_ble_eq_true rfl) ?_
          refine jr_aload_n jf_89_114 rfl (jg2_ne rfl (jg2_ne rfl (jg2_ne rfl (jg2_ne rfl hl0)))) ?_
          replace h := obd_of h; obtain ⟨x50, hx50, h⟩ := h
          refine jr_getA jf_89_115 hx50 ?_
          refine jr_iconst jf_89_118 jc_i_0 ?_
          refine jr_lload_n jf_89_119 rfl (jg2_ne rfl (jg2_ne rfl (jg2_ne rfl (jg2_ne rfl hl1)))) ?_
          replace h := obd_of h; obtain ⟨a51, rfl, h⟩ := h
          replace h := jgd_of h; obtain ⟨hb52, h⟩ := h
          replace h := obd_of h; obtain ⟨μ53, hμ53, h⟩ := h
          refine jr_V6v_2 jf_89_120 hb52 (by omega) (r_Row_put (by omega) _ _ _ _ _ hμ53) (Nat.le_of_ble_eq_true rfl) jml_66 (Nat.le_of_ble_eq_true rfl) ?_
          refine jr_aload_n jf_89_123 rfl (jg2_ne rfl (jg2_ne rfl (jg2_ne rfl (jg2_ne rfl hl0)))) ?_
          replace h := obd_of h; obtain ⟨x54, hx54, h⟩ := h
          refine jr_getA jf_89_124 hx54 ?_
          refine jr_iconst jf_89_127 jc_i_3 ?_
          refine jr_aload_n jf_89_128 rfl (jg2_ne rfl (jg2_ne rfl (jg2_ne rfl (jg2_ne rfl hl0)))) ?_
          replace h := obd_of h; obtain ⟨x55, hx55, h⟩ := h
          refine jr_getA jf_89_129 hx55 ?_
          refine jr_iconst jf_89_132 jc_i_2 ?_
          replace h := obd_of h; obtain ⟨a56, rfl, h⟩ := h
          replace h := jgd_of h; obtain ⟨hb57, h⟩ := h
          replace h := obd_of h; obtain ⟨x58, hx58, h⟩ := h
          refine jr_V6_1 jf_89_133 hb57 (by omega) (r_Row_at (by omega) _ _ _ _ hx58) (by simp only [jcats_cons, jcats_nil, cat_int, cat_long, cat_double, cat_float, cat_ref, rv_cat]; decide) jml_38 (Nat.le_of_ble_eq_true rfl) ?_
          replace h := obd_of h; obtain ⟨a59, rfl, h⟩ := h
          replace h := jgd_of h; obtain ⟨hb60, h⟩ := h
          replace h := obd_of h; obtain ⟨μ61, hμ61, h⟩ := h
          refine jr_V6v_2 jf_89_136 hb60 (by omega) (r_Row_put (by omega) _ _ _ _ _ hμ61) (Nat.le_of_ble_eq_true rfl) jml_66 (Nat.le_of_ble_eq_true rfl) ?_
          refine jr_aload_n jf_89_139 rfl (jg2_ne rfl (jg2_ne rfl (jg2_ne rfl (jg2_ne rfl hl0)))) ?_
          replace h := obd_of h; obtain ⟨x62, hx62, h⟩ := h
          refine jr_getA jf_89_140 hx62 ?_
          refine jr_iconst jf_89_143 jc_i_2 ?_
          refine jr_lload jf_89_144 jg2_same ?_
          replace h := obd_of h; obtain ⟨a63, rfl, h⟩ := h
          replace h := jgd_of h; obtain ⟨hb64, h⟩ := h
          replace h := obd_of h; obtain ⟨μ65, hμ65, h⟩ := h
          refine jr_V6v_2 jf_89_146 hb64 (by omega) (r_Row_put (by omega) _ _ _ _ _ hμ65) (Nat.le_of_ble_eq_true rfl) jml_66 (Nat.le_of_ble_eq_true rfl) ?_
          refine jr_lload jf_89_149 jg2_same ?_
          obtain ⟨rfl, rfl⟩ := Prod.mk.inj (Option.some.inj h)
          exact jr_retJ jf_89_151 jmt_89
    · obtain ⟨hb, hx⟩ := jgd_of hx
      obtain hx := Option.some.inj hx
      refine jr_V8b_2 jf_89_45 hb0 hb (by omega) (r_Shorts_plus (by omega) _ _ _ _ _ hx) (Nat.le_of_ble_eq_true rfl) jml_78 (Nat.le_of_ble_eq_true rfl) ?_
      refine jr_lstore_n jf_89_48 rfl jml_89 (by decide) ?_
      refine jr_aload_n jf_89_49 rfl (jg2_ne rfl (jg2_ne rfl hl0)) ?_
      replace h := obd_of h; obtain ⟨x21, hx21, h⟩ := h
      refine jr_getA jf_89_50 hx21 ?_
      refine jr_lload_n jf_89_53 rfl jg2_same ?_
      refine jr_aload_n jf_89_54 rfl (jg2_ne rfl (jg2_ne rfl hl0)) ?_
      refine jr_iconst jf_89_55 jc_i_3 ?_
      refine jr_aload_n jf_89_56 rfl (jg2_ne rfl (jg2_ne rfl hl0)) ?_
      replace h := obd_of h; obtain ⟨x22, hx22, h⟩ := h
      refine jr_getA jf_89_57 hx22 ?_
      refine jr_iconst jf_89_60 jc_i_2 ?_
      replace h := obd_of h; obtain ⟨a23, rfl, h⟩ := h
      replace h := jgd_of h; obtain ⟨hb24, h⟩ := h
      replace h := obd_of h; obtain ⟨x25, hx25, h⟩ := h
      refine jr_V6_1 jf_89_61 hb24 (by omega) (r_Row_at (by omega) _ _ _ _ hx25) (by simp only [jcats_cons, jcats_nil, cat_int, cat_long, cat_double, cat_float, cat_ref, rv_cat]; decide) jml_38 (Nat.le_of_ble_eq_true rfl) ?_
      replace h := jgd_of h; obtain ⟨hb26, h⟩ := h
      replace h := obd_of h; obtain ⟨x27, hx27, h⟩ := h
      refine jr_V6_2 jf_89_64 hb26 (by omega) (r_Section_lessTimes (by omega) _ _ _ _ _ hx27) (by simp only [jcats_cons, jcats_nil, cat_int, cat_long, cat_double, cat_float, cat_ref, rv_cat]; decide) jml_90 (Nat.le_of_ble_eq_true rfl) ?_
      replace h := obd_of h; obtain ⟨a28, rfl, h⟩ := h
      replace h := obd_of h; obtain ⟨x29, hx29, h⟩ := h
      rcases ite_or hx29 with ⟨hb, hx⟩ | ⟨hb0, hx⟩
      · refine jr_V8a_2 jf_89_67 hb (by omega) (r_Real_plus (by omega) _ _ _ _ _ hx) (Nat.le_of_ble_eq_true rfl) jml_74 (Nat.le_of_ble_eq_true rfl) ?_
        refine jr_lstore_n jf_89_70 rfl jml_89 (by decide) ?_
        refine jr_aload_n jf_89_71 rfl (jg2_ne rfl (jg2_ne rfl (jg2_ne rfl hl0))) ?_
        refine jr_aload_n jf_89_72 rfl (jg2_ne rfl (jg2_ne rfl (jg2_ne rfl hl0))) ?_
        replace h := obd_of h; obtain ⟨x30, hx30, h⟩ := h
        refine jr_getA jf_89_73 hx30 ?_
        refine jr_lload_n jf_89_76 rfl jg2_same ?_
        refine jr_aload_n jf_89_77 rfl (jg2_ne rfl (jg2_ne rfl (jg2_ne rfl hl0))) ?_
        refine jr_iconst jf_89_78 jc_i_4 ?_
        refine jr_aload_n jf_89_79 rfl (jg2_ne rfl (jg2_ne rfl (jg2_ne rfl hl0))) ?_
        replace h := obd_of h; obtain ⟨x31, hx31, h⟩ := h
        refine jr_getA jf_89_80 hx31 ?_
        refine jr_iconst jf_89_83 jc_i_3 ?_
        replace h := obd_of h; obtain ⟨a32, rfl, h⟩ := h
        replace h := jgd_of h; obtain ⟨hb33, h⟩ := h
        replace h := obd_of h; obtain ⟨x34, hx34, h⟩ := h
        refine jr_V6_1 jf_89_84 hb33 (by omega) (r_Row_at (by omega) _ _ _ _ hx34) (by simp only [jcats_cons, jcats_nil, cat_int, cat_long, cat_double, cat_float, cat_ref, rv_cat]; decide) jml_38 (Nat.le_of_ble_eq_true rfl) ?_
        replace h := jgd_of h; obtain ⟨hb35, h⟩ := h
        replace h := obd_of h; obtain ⟨x36, hx36, h⟩ := h
        refine jr_V6_2 jf_89_87 hb35 (by omega) (r_Section_lessTimes (by omega) _ _ _ _ _ hx36) (by simp only [jcats_cons, jcats_nil, cat_int, cat_long, cat_double, cat_float, cat_ref, rv_cat]; decide) jml_90 (Nat.le_of_ble_eq_true rfl) ?_
        replace h := obd_of h; obtain ⟨a37, rfl, h⟩ := h
        replace h := obd_of h; obtain ⟨x38, hx38, h⟩ := h
        rcases ite_or hx38 with ⟨hb, hx⟩ | ⟨hb0, hx⟩
        · refine jr_V8a_2 jf_89_90 hb (by omega) (r_Real_plus (by omega) _ _ _ _ _ hx) (Nat.le_of_ble_eq_true rfl) jml_74 (Nat.le_of_ble_eq_true rfl) ?_
          replace h := jgd_of h; obtain ⟨hb39, h⟩ := h
          replace h := jbd2_of h; obtain ⟨x40, μ41, hx40, h⟩ := h
          refine jr_V6_1 jf_89_93 hb39 (by omega) (r_Section_settled (by omega) _ _ _ _ _ hx40) (Nat.le_of_ble_eq_true rfl) jml_79 (Nat.le_of_ble_eq_true rfl) ?_
          refine jr_lstore jf_89_96 jml_89 (by decide) ?_
          refine jr_aload_n jf_89_98 rfl (jg2_ne rfl (jg2_ne rfl (jg2_ne rfl (jg2_ne rfl hl0)))) ?_
          replace h := obd_of h; obtain ⟨x42, hx42, h⟩ := h
          refine jr_getA jf_89_99 hx42 ?_
          refine jr_iconst jf_89_102 jc_i_1 ?_
          refine jr_aload_n jf_89_103 rfl (jg2_ne rfl (jg2_ne rfl (jg2_ne rfl (jg2_ne rfl hl0)))) ?_
          replace h := obd_of h; obtain ⟨x43, hx43, h⟩ := h
          refine jr_getA jf_89_104 hx43 ?_
          refine jr_iconst jf_89_107 jc_i_0 ?_
          replace h := obd_of h; obtain ⟨a44, rfl, h⟩ := h
          replace h := jgd_of h; obtain ⟨hb45, h⟩ := h
          replace h := obd_of h; obtain ⟨x46, hx46, h⟩ := h
          refine jr_V6_1 jf_89_108 hb45 (by omega) (r_Row_at (by omega) _ _ _ _ hx46) (by simp only [jcats_cons, jcats_nil, cat_int, cat_long, cat_double, cat_float, cat_ref, rv_cat]; decide) jml_38 (Nat.le_of_ble_eq_true rfl) ?_
          replace h := obd_of h; obtain ⟨a47, rfl, h⟩ := h
          replace h := jgd_of h; obtain ⟨hb48, h⟩ := h
          replace h := obd_of h; obtain ⟨μ49, hμ49, h⟩ := h
          refine jr_V6v_2 jf_89_111 hb48 (by omega) (r_Row_put (by omega) _ _ _ _ _ hμ49) (Nat.le_of_ble_eq_true rfl) jml_66 (Nat.le_of_ble_eq_true rfl) ?_
          refine jr_aload_n jf_89_114 rfl (jg2_ne rfl (jg2_ne rfl (jg2_ne rfl (jg2_ne rfl hl0)))) ?_
          replace h := obd_of h; obtain ⟨x50, hx50, h⟩ := h
          refine jr_getA jf_89_115 hx50 ?_
          refine jr_iconst jf_89_118 jc_i_0 ?_
          refine jr_lload_n jf_89_119 rfl (jg2_ne rfl (jg2_ne rfl (jg2_ne rfl (jg2_ne rfl hl1)))) ?_
          replace h := obd_of h; obtain ⟨a51, rfl, h⟩ := h
          replace h := jgd_of h; obtain ⟨hb52, h⟩ := h
          replace h := obd_of h; obtain ⟨μ53, hμ53, h⟩ := h
          refine jr_V6v_2 jf_89_120 hb52 (by omega) (r_Row_put (by omega) _ _ _ _ _ hμ53) (Nat.le_of_ble_eq_true rfl) jml_66 (Nat.le_of_ble_eq_true rfl) ?_
          refine jr_aload_n jf_89_123 rfl (jg2_ne rfl (jg2_ne rfl (jg2_ne rfl (jg2_ne rfl hl0)))) ?_
          replace h := obd_of h; obtain ⟨x54, hx54, h⟩ := h
          refine jr_getA jf_89_124 hx54 ?_
          refine jr_iconst jf_89_127 jc_i_3 ?_
          refine jr_aload_n jf_89_128 rfl (jg2_ne rfl (jg2_ne rfl (jg2_ne rfl (jg2_ne rfl hl0)))) ?_
          replace h := obd_of h; obtain ⟨x55, hx55, h⟩ := h
          refine jr_getA jf_89_129 hx55 ?_
          refine jr_iconst jf_89_132 jc_i_2 ?_
          replace h := obd_of h; obtain ⟨a56, rfl, h⟩ := h
          replace h := jgd_of h; obtain ⟨hb57, h⟩ := h
          replace h := obd_of h; obtain ⟨x58, hx58, h⟩ := h
          refine jr_V6_1 jf_89_133 hb57 (by omega) (r_Row_at (by omega) _ _ _ _ hx58) (by simp only [jcats_cons, jcats_nil, cat_int, cat_long, cat_double, cat_float, cat_ref, rv_cat]; decide) jml_38 (Nat.le_of_ble_eq_true rfl) ?_
          replace h := obd_of h; obtain ⟨a59, rfl, h⟩ := h
          replace h := jgd_of h; obtain ⟨hb60, h⟩ := h
          replace h := obd_of h; obtain ⟨μ61, hμ61, h⟩ := h
          refine jr_V6v_2 jf_89_136 hb60 (by omega) (r_Row_put (by omega) _ _ _ _ _ hμ61) (Nat.le_of_ble_eq_true rfl) jml_66 (Nat.le_of_ble_eq_true rfl) ?_
          refine jr_aload_n jf_89_139 rfl (jg2_ne rfl (jg2_ne rfl (jg2_ne rfl (jg2_ne rfl hl0)))) ?_
          replace h := obd_of h; obtain ⟨x62, hx62, h⟩ := h
          refine jr_getA jf_89_140 hx62 ?_
          refine jr_iconst jf_89_143 jc_i_2 ?_
          refine jr_lload jf_89_144 jg2_same ?_
          replace h := obd_of h; obtain ⟨a63, rfl, h⟩ := h
          replace h := jgd_of h; obtain ⟨hb64, h⟩ := h
          replace h := obd_of h; obtain ⟨μ65, hμ65, h⟩ := h
          refine jr_V6v_2 jf_89_146 hb64 (by omega) (r_Row_put (by omega) _ _ _ _ _ hμ65) (Nat.le_of_ble_eq_true rfl) jml_66 (Nat.le_of_ble_eq_true rfl) ?_
          refine jr_lload jf_89_149 jg2_same ?_
          obtain ⟨rfl, rfl⟩ := Prod.mk.inj (Option.some.inj h)
          exact jr_retJ jf_89_151 jmt_89
        · obtain ⟨hb, hx⟩ := jgd_of hx
          obtain hx := Option.some.inj hx
          refine jr_V8b_2 jf_89_90 hb0 hb (by omega) (r_Shorts_plus (by omega) _ _ _ _ _ hx) (Nat.le_of_ble_eq_true rfl) jml_78 (Nat.le_of_ble_eq_true rfl) ?_
          replace h := jgd_of h; obtain ⟨hb39, h⟩ := h
          replace h := jbd2_of h; obtain ⟨x40, μ41, hx40, h⟩ := h
          refine jr_V6_1 jf_89_93 hb39 (by omega) (r_Section_settled (by omega) _ _ _ _ _ hx40) (Nat.le_of_ble_eq_true rfl) jml_79 (Nat.le_of_ble_eq_true rfl) ?_
          refine jr_lstore jf_89_96 jml_89 (by decide) ?_
          refine jr_aload_n jf_89_98 rfl (jg2_ne rfl (jg2_ne rfl (jg2_ne rfl (jg2_ne rfl hl0)))) ?_
          replace h := obd_of h; obtain ⟨x42, hx42, h⟩ := h
          refine jr_getA jf_89_99 hx42 ?_
          refine jr_iconst jf_89_102 jc_i_1 ?_
          refine jr_aload_n jf_89_103 rfl (jg2_ne rfl (jg2_ne rfl (jg2_ne rfl (jg2_ne rfl hl0)))) ?_
          replace h := obd_of h; obtain ⟨x43, hx43, h⟩ := h
          refine jr_getA jf_89_104 hx43 ?_
          refine jr_iconst jf_89_107 jc_i_0 ?_
          replace h := obd_of h; obtain ⟨a44, rfl, h⟩ := h
          replace h := jgd_of h; obtain ⟨hb45, h⟩ := h
          replace h := obd_of h; obtain ⟨x46, hx46, h⟩ := h
          refine jr_V6_1 jf_89_108 hb45 (by omega) (r_Row_at (by omega) _ _ _ _ hx46) (by simp only [jcats_cons, jcats_nil, cat_int, cat_long, cat_double, cat_float, cat_ref, rv_cat]; decide) jml_38 (Nat.le_of_ble_eq_true rfl) ?_
          replace h := obd_of h; obtain ⟨a47, rfl, h⟩ := h
          replace h := jgd_of h; obtain ⟨hb48, h⟩ := h
          replace h := obd_of h; obtain ⟨μ49, hμ49, h⟩ := h
          refine jr_V6v_2 jf_89_111 hb48 (by omega) (r_Row_put (by omega) _ _ _ _ _ hμ49) (Nat.le_of_ble_eq_true rfl) jml_66 (Nat.le_of_ble_eq_true rfl) ?_
          refine jr_aload_n jf_89_114 rfl (jg2_ne rfl (jg2_ne rfl (jg2_ne rfl (jg2_ne rfl hl0)))) ?_
          replace h := obd_of h; obtain ⟨x50, hx50, h⟩ := h
          refine jr_getA jf_89_115 hx50 ?_
          refine jr_iconst jf_89_118 jc_i_0 ?_
          refine jr_lload_n jf_89_119 rfl (jg2_ne rfl (jg2_ne rfl (jg2_ne rfl (jg2_ne rfl hl1)))) ?_
          replace h := obd_of h; obtain ⟨a51, rfl, h⟩ := h
          replace h := jgd_of h; obtain ⟨hb52, h⟩ := h
          replace h := obd_of h; obtain ⟨μ53, hμ53, h⟩ := h
          refine jr_V6v_2 jf_89_120 hb52 (by omega) (r_Row_put (by omega) _ _ _ _ _ hμ53) (Nat.le_of_ble_eq_true rfl) jml_66 (Nat.le_of_ble_eq_true rfl) ?_
          refine jr_aload_n jf_89_123 rfl (jg2_ne rfl (jg2_ne rfl (jg2_ne rfl (jg2_ne rfl hl0)))) ?_
          replace h := obd_of h; obtain ⟨x54, hx54, h⟩ := h
          refine jr_getA jf_89_124 hx54 ?_
          refine jr_iconst jf_89_127 jc_i_3 ?_
          refine jr_aload_n jf_89_128 rfl (jg2_ne rfl (jg2_ne rfl (jg2_ne rfl (jg2_ne rfl hl0)))) ?_
          replace h := obd_of h; obtain ⟨x55, hx55, h⟩ := h
          refine jr_getA jf_89_129 hx55 ?_
          refine jr_iconst jf_89_132 jc_i_2 ?_
          replace h := obd_of h; obtain ⟨a56, rfl, h⟩ := h
          replace h := jgd_of h; obtain ⟨hb57, h⟩ := h
          replace h := obd_of h; obtain ⟨x58, hx58, h⟩ := h
          refine jr_V6_1 jf_89_133 hb57 (by omega) (r_Row_at (by omega) _ _ _ _ hx58) (by simp only [jcats_cons, jcats_nil, cat_int, cat_long, cat_double, cat_float, cat_ref, rv_cat]; decide) jml_38 (Nat.le_of_ble_eq_true rfl) ?_
          replace h := obd_of h; obtain ⟨a59, rfl, h⟩ := h
          replace h := jgd_of h; obtain ⟨hb60, h⟩ := h
          replace h := obd_of h; obtain ⟨μ61, hμ61, h⟩ := h
          refine jr_V6v_2 jf_89_136 hb60 (by omega) (r_Row_put (by omega) _ _ _ _ _ hμ61) (Nat.le_of_ble_eq_true rfl) jml_66 (Nat.le_of_ble_eq_true rfl) ?_
          refine jr_aload_n jf_89_139 rfl (jg2_ne rfl (jg2_ne rfl (jg2_ne rfl (jg2_ne rfl hl0)))) ?_
          replace h := obd_of h; obtain ⟨x62, hx62, h⟩ := h
          refine jr_getA jf_89_140 hx62 ?_
          refine jr_iconst jf_89_143 jc_i_2 ?_
          refine jr_lload jf_89_144 jg2_same ?_
          replace h := obd_of h; obtain ⟨a63, rfl, h⟩ := h
          replace h := jgd_of h; obtain ⟨hb64, h⟩ := h
          replace h := obd_of h; obtain ⟨μ65, hμ65, h⟩ := h
          refine jr_V6v_2 jf_89_146 hb64 (by omega) (r_Row_put (by omega) _ _ _ _ _ hμ65) (Nat.le_of_ble_eq_true rfl) jml_66 (Nat.le_of_ble_eq_true rfl) ?_
          refine jr_lload jf_89_149 jg2_same ?_
          obtain ⟨rfl, rfl⟩ := Prod.mk.inj (Option.some.inj h)
          exact jr_retJ jf_89_151 jmt_89
      · obtain ⟨hb, hx⟩ := jgd_of hx
        obtain hx := Option.some.inj hx
        refine jr_V8b_2 jf_89_67 hb0 hb (by omega) (r_Shorts_plus (by omega) _ _ _ _ _ hx) (Nat.le_of_ble_eq_true rfl) jml_78 (Nat.le_of_ble_eq_true rfl) ?_
        refine jr_lstore_n jf_89_70 rfl jml_89 (by decide) ?_
        refine jr_aload_n jf_89_71 rfl (jg2_ne rfl (jg2_ne rfl (jg2_ne rfl hl0))) ?_
        refine jr_aload_n jf_89_72 rfl (jg2_ne rfl (jg2_ne rfl (jg2_ne rfl hl0))) ?_
        replace h := obd_of h; obtain ⟨x30, hx30, h⟩ := h
        refine jr_getA jf_89_73 hx30 ?_
        refine jr_lload_n jf_89_76 rfl jg2_same ?_
        refine jr_aload_n jf_89_77 rfl (jg2_ne rfl (jg2_ne rfl (jg2_ne rfl hl0))) ?_
        refine jr_iconst jf_89_78 jc_i_4 ?_
        refine jr_aload_n jf_89_79 rfl (jg2_ne rfl (jg2_ne rfl (jg2_ne rfl hl0))) ?_
        replace h := obd_of h; obtain ⟨x31, hx31, h⟩ := h
        refine jr_getA jf_89_80 hx31 ?_
        refine jr_iconst jf_89_83 jc_i_3 ?_
        replace h := obd_of h; obtain ⟨a32, rfl, h⟩ := h
        replace h := jgd_of h; obtain ⟨hb33, h⟩ := h
        replace h := obd_of h; obtain ⟨x34, hx34, h⟩ := h
        refine jr_V6_1 jf_89_84 hb33 (by omega) (r_Row_at (by omega) _ _ _ _ hx34) (by simp only [jcats_cons, jcats_nil, cat_int, cat_long, cat_double, cat_float, cat_ref, rv_cat]; decide) jml_38 (Nat.le_of_ble_eq_true rfl) ?_
        replace h := jgd_of h; obtain ⟨hb35, h⟩ := h
        replace h := obd_of h; obtain ⟨x36, hx36, h⟩ := h
        refine jr_V6_2 jf_89_87 hb35 (by omega) (r_Section_lessTimes (by omega) _ _ _ _ _ hx36) (by simp only [jcats_cons, jcats_nil, cat_int, cat_long, cat_double, cat_float, cat_ref, rv_cat]; decide) jml_90 (Nat.le_of_ble_eq_true rfl) ?_
        replace h := obd_of h; obtain ⟨a37, rfl, h⟩ := h
        replace h := obd_of h; obtain ⟨x38, hx38, h⟩ := h
        rcases ite_or hx38 with ⟨hb, hx⟩ | ⟨hb0, hx⟩
        · refine jr_V8a_2 jf_89_90 hb (by omega) (r_Real_plus (by omega) _ _ _ _ _ hx) (Nat.le_of_ble_eq_true rfl) jml_74 (Nat.le_of_ble_eq_true rfl) ?_
          replace h := jgd_of h; obtain ⟨hb39, h⟩ := h
          replace h := jbd2_of h; obtain ⟨x40, μ41, hx40, h⟩ := h
          refine jr_V6_1 jf_89_93 hb39 (by omega) (r_Section_settled (by omega) _ _ _ _ _ hx40) (Nat.le_of_ble_eq_true rfl) jml_79 (Nat.le_of_ble_eq_true rfl) ?_
          refine jr_lstore jf_89_96 jml_89 (by decide) ?_
          refine jr_aload_n jf_89_98 rfl (jg2_ne rfl (jg2_ne rfl (jg2_ne rfl (jg2_ne rfl hl0)))) ?_
          replace h := obd_of h; obtain ⟨x42, hx42, h⟩ := h
          refine jr_getA jf_89_99 hx42 ?_
          refine jr_iconst jf_89_102 jc_i_1 ?_
          refine jr_aload_n jf_89_103 rfl (jg2_ne rfl (jg2_ne rfl (jg2_ne rfl (jg2_ne rfl hl0)))) ?_
          replace h := obd_of h; obtain ⟨x43, hx43, h⟩ := h
          refine jr_getA jf_89_104 hx43 ?_
          refine jr_iconst jf_89_107 jc_i_0 ?_
          replace h := obd_of h; obtain ⟨a44, rfl, h⟩ := h
          replace h := jgd_of h; obtain ⟨hb45, h⟩ := h
          replace h := obd_of h; obtain ⟨x46, hx46, h⟩ := h
          refine jr_V6_1 jf_89_108 hb45 (by omega) (r_Row_at (by omega) _ _ _ _ hx46) (by simp only [jcats_cons, jcats_nil, cat_int, cat_long, cat_double, cat_float, cat_ref, rv_cat]; decide) jml_38 (Nat.le_of_ble_eq_true rfl) ?_
          replace h := obd_of h; obtain ⟨a47, rfl, h⟩ := h
          replace h := jgd_of h; obtain ⟨hb48, h⟩ := h
          replace h := obd_of h; obtain ⟨μ49, hμ49, h⟩ := h
          refine jr_V6v_2 jf_89_111 hb48 (by omega) (r_Row_put (by omega) _ _ _ _ _ hμ49) (Nat.le_of_ble_eq_true rfl) jml_66 (Nat.le_of_ble_eq_true rfl) ?_
          refine jr_aload_n jf_89_114 rfl (jg2_ne rfl (jg2_ne rfl (jg2_ne rfl (jg2_ne rfl hl0)))) ?_
          replace h := obd_of h; obtain ⟨x50, hx50, h⟩ := h
          refine jr_getA jf_89_115 hx50 ?_
          refine jr_iconst jf_89_118 jc_i_0 ?_
          refine jr_lload_n jf_89_119 rfl (jg2_ne rfl (jg2_ne rfl (jg2_ne rfl (jg2_ne rfl hl1)))) ?_
          replace h := obd_of h; obtain ⟨a51, rfl, h⟩ := h
          replace h := jgd_of h; obtain ⟨hb52, h⟩ := h
          replace h := obd_of h; obtain ⟨μ53, hμ53, h⟩ := h
          refine jr_V6v_2 jf_89_120 hb52 (by omega) (r_Row_put (by omega) _ _ _ _ _ hμ53) (Nat.le_of_ble_eq_true rfl) jml_66 (Nat.le_of_ble_eq_true rfl) ?_
          refine jr_aload_n jf_89_123 rfl (jg2_ne rfl (jg2_ne rfl (jg2_ne rfl (jg2_ne rfl hl0)))) ?_
          replace h := obd_of h; obtain ⟨x54, hx54, h⟩ := h
          refine jr_getA jf_89_124 hx54 ?_
          refine jr_iconst jf_89_127 jc_i_3 ?_
          refine jr_aload_n jf_89_128 rfl (jg2_ne rfl (jg2_ne rfl (jg2_ne rfl (jg2_ne rfl hl0)))) ?_
          replace h := obd_of h; obtain ⟨x55, hx55, h⟩ := h
          refine jr_getA jf_89_129 hx55 ?_
          refine jr_iconst jf_89_132 jc_i_2 ?_
          replace h := obd_of h; obtain ⟨a56, rfl, h⟩ := h
          replace h := jgd_of h; obtain ⟨hb57, h⟩ := h
          replace h := obd_of h; obtain ⟨x58, hx58, h⟩ := h
          refine jr_V6_1 jf_89_133 hb57 (by omega) (r_Row_at (by omega) _ _ _ _ hx58) (by simp only [jcats_cons, jcats_nil, cat_int, cat_long, cat_double, cat_float, cat_ref, rv_cat]; decide) jml_38 (Nat.le_of_ble_eq_true rfl) ?_
          replace h := obd_of h; obtain ⟨a59, rfl, h⟩ := h
          replace h := jgd_of h; obtain ⟨hb60, h⟩ := h
          replace h := obd_of h; obtain ⟨μ61, hμ61, h⟩ := h
          refine jr_V6v_2 jf_89_136 hb60 (by omega) (r_Row_put (by omega) _ _ _ _ _ hμ61) (Nat.le_of_ble_eq_true rfl) jml_66 (Nat.le_of_ble_eq_true rfl) ?_
          refine jr_aload_n jf_89_139 rfl (jg2_ne rfl (jg2_ne rfl (jg2_ne rfl (jg2_ne rfl hl0)))) ?_
          replace h := obd_of h; obtain ⟨x62, hx62, h⟩ := h
          refine jr_getA jf_89_140 hx62 ?_
          refine jr_iconst jf_89_143 jc_i_2 ?_
          refine jr_lload jf_89_144 jg2_same ?_
          replace h := obd_of h; obtain ⟨a63, rfl, h⟩ := h
          replace h := jgd_of h; obtain ⟨hb64, h⟩ := h
          replace h := obd_of h; obtain ⟨μ65, hμ65, h⟩ := h
          refine jr_V6v_2 jf_89_146 hb64 (by omega) (r_Row_put (by omega) _ _ _ _ _ hμ65) (Nat.le_of_ble_eq_true rfl) jml_66 (Nat.le_of_ble_eq_true rfl) ?_
          refine jr_lload jf_89_149 jg2_same ?_
          obtain ⟨rfl, rfl⟩ := Prod.mk.inj (Option.some.inj h)
          exact jr_retJ jf_89_151 jmt_89
        · obtain ⟨hb, hx⟩ := jgd_of hx
          obtain hx := Option.some.inj hx
          refine jr_V8b_2 jf_89_90 hb0 hb (by omega) (r_Shorts_plus (by omega) _ _ _ _ _ hx) (Nat.le_of_ble_eq_true rfl) jml_78 (Nat.le_of_ble_eq_true rfl) ?_
          replace h := jgd_of h; obtain ⟨hb39, h⟩ := h
          replace h := jbd2_of h; obtain ⟨x40, μ41, hx40, h⟩ := h
          refine jr_V6_1 jf_89_93 hb39 (by omega) (r_Section_settled (by omega) _ _ _ _ _ hx40) (Nat.le_of_ble_eq_true rfl) jml_79 (Nat.le_of_ble_eq_true rfl) ?_
          refine jr_lstore jf_89_96 jml_89 (by decide) ?_
          refine jr_aload_n jf_89_98 rfl (jg2_ne rfl (jg2_ne rfl (jg2_ne rfl (jg2_ne rfl hl0)))) ?_
          replace h := obd_of h; obtain ⟨x42, hx42, h⟩ := h
          refine jr_getA jf_89_99 hx42 ?_
          refine jr_iconst jf_89_102 jc_i_1 ?_
          refine jr_aload_n jf_89_103 rfl (jg2_ne rfl (jg2_ne rfl (jg2_ne rfl (jg2_ne rfl hl0)))) ?_
          replace h := obd_of h; obtain ⟨x43, hx43, h⟩ := h
          refine jr_getA jf_89_104 hx43 ?_
          refine jr_iconst jf_89_107 jc_i_0 ?_
          replace h := obd_of h; obtain ⟨a44, rfl, h⟩ := h
          replace h := jgd_of h; obtain ⟨hb45, h⟩ := h
          replace h := obd_of h; obtain ⟨x46, hx46, h⟩ := h
          refine jr_V6_1 jf_89_108 hb45 (by omega) (r_Row_at (by omega) _ _ _ _ hx46) (by simp only [jcats_cons, jcats_nil, cat_int, cat_long, cat_double, cat_float, cat_ref, rv_cat]; decide) jml_38 (Nat.le_of_ble_eq_true rfl) ?_
          replace h := obd_of h; obtain ⟨a47, rfl, h⟩ := h
          replace h := jgd_of h; obtain ⟨hb48, h⟩ := h
          replace h := obd_of h; obtain ⟨μ49, hμ49, h⟩ := h
          refine jr_V6v_2 jf_89_111 hb48 (by omega) (r_Row_put (by omega) _ _ _ _ _ hμ49) (Nat.le_of_ble_eq_true rfl) jml_66 (Nat.le_of_ble_eq_true rfl) ?_
          refine jr_aload_n jf_89_114 rfl (jg2_ne rfl (jg2_ne rfl (jg2_ne rfl (jg2_ne rfl hl0)))) ?_
          replace h := obd_of h; obtain ⟨x50, hx50, h⟩ := h
          refine jr_getA jf_89_115 hx50 ?_
          refine jr_iconst jf_89_118 jc_i_0 ?_
          refine jr_lload_n jf_89_119 rfl (jg2_ne rfl (jg2_ne rfl (jg2_ne rfl (jg2_ne rfl hl1)))) ?_
          replace h := obd_of h; obtain ⟨a51, rfl, h⟩ := h
          replace h := jgd_of h; obtain ⟨hb52, h⟩ := h
          replace h := obd_of h; obtain ⟨μ53, hμ53, h⟩ := h
          refine jr_V6v_2 jf_89_120 hb52 (by omega) (r_Row_put (by omega) _ _ _ _ _ hμ53) (Nat.le_of_ble_eq_true rfl) jml_66 (Nat.le_of_ble_eq_true rfl) ?_
          refine jr_aload_n jf_89_123 rfl (jg2_ne rfl (jg2_ne rfl (jg2_ne rfl (jg2_ne rfl hl0)))) ?_
          replace h := obd_of h; obtain ⟨x54, hx54, h⟩ := h
          refine jr_getA jf_89_124 hx54 ?_
          refine jr_iconst jf_89_127 jc_i_3 ?_
          refine jr_aload_n jf_89_128 rfl (jg2_ne rfl (jg2_ne rfl (jg2_ne rfl (jg2_ne rfl hl0)))) ?_
          replace h := obd_of h; obtain ⟨x55, hx55, h⟩ := h
          refine jr_getA jf_89_129 hx55 ?_
          refine jr_iconst jf_89_132 jc_i_2 ?_
          replace h := obd_of h; obtain ⟨a56, rfl, h⟩ := h
          replace h := jgd_of h; obtain ⟨hb57, h⟩ := h
          replace h := obd_of h; obtain ⟨x58, hx58, h⟩ := h
          refine jr_V6_1 jf_89_133 hb57 (by omega) (r_Row_at (by omega) _ _ _ _ hx58) (by simp only [jcats_cons, jcats_nil, cat_int, cat_long, cat_double, cat_float, cat_ref, rv_cat]; decide) jml_38 (Nat.le_of_ble_eq_true rfl) ?_
          replace h := obd_of h; obtain ⟨a59, rfl, h⟩ := h
          replace h := jgd_of h; obtain ⟨hb60, h⟩ := h
          replace h := obd_of h; obtain ⟨μ61, hμ61, h⟩ := h
          refine jr_V6v_2 jf_89_136 hb60 (by omega) (r_Row_put (by omega) _ _ _ _ _ hμ61) (Nat.le_of_ble_eq_true rfl) jml_66 (Nat.le_of_ble_eq_true rfl) ?_
          refine jr_aload_n jf_89_139 rfl (jg2_ne rfl (jg2_ne rfl (jg2_ne rfl (jg2_ne rfl hl0)))) ?_
          replace h := obd_of h; obtain ⟨x62, hx62, h⟩ := h
          refine jr_getA jf_89_140 hx62 ?_
          refine jr_iconst jf_89_143 jc_i_2 ?_
          refine jr_lload jf_89_144 jg2_same ?_
          replace h := obd_of h; obtain ⟨a63, rfl, h⟩ := h
          replace h := jgd_of h; obtain ⟨hb64, h⟩ := h
          replace h := obd_of h; obtain ⟨μ65, hμ65, h⟩ := h
          refine jr_V6v_2 jf_89_146 hb64 (by omega) (r_Row_put (by omega) _ _ _ _ _ hμ65) (Nat.le_of_ble_eq_true rfl) jml_66 (Nat.le_of_ble_eq_true rfl) ?_
          refine jr_lload jf_89_149 jg2_same ?_
          obtain ⟨rfl, rfl⟩ := Prod.mk.inj (Option.some.inj h)
          exact jr_retJ jf_89_151 jmt_89
set_option maxRecDepth 10000 in
set_option maxHeartbeats 4000000 in
theorem r_Section_direct {B : Nat} {SA : Nat → Nat} {d : Nat} (hd : 4 ≤ d) : ∀ (v0 : Nat) (v1 : Int64) (μ : JMem) (r : Int64) (μ9 : JMem), g_Section_direct B v0 v1 μ = some (r, μ9) → jR B SA d m_Section_direct 0 (lv_args 0 [.ref v0, .long v1]) [] μ (some (.long r)) μ9 := by
  intro v0 v1 μ r μ9 h
  exact r_Section_direct_e hd (lv_args 0 _) _ _ _ _ _ (by simp [lv_args, jget, rv_cat, cat_int, cat_long, cat_double, cat_float, cat_ref]) (by simp [lv_args, jget, rv_cat, cat_int, cat_long, cat_double, cat_float, cat_ref]) h
/-! FilterBench$Row.size()I -/
set_option maxRecDepth 10000 in
set_option maxHeartbeats 4000000 in
theorem r_Row_size_e {B : Nat} {SA : Nat → Nat} {d : Nat} (hd : 0 ≤ d) : ∀ (L : JLoc) (v0 : Nat) (μ : JMem) (r : Int32), jget L 0 = .ref v0 → g_Row_size v0 μ.1 = some r → jR B SA d m_Row_size 0 L [] μ (some (.int r)) μ := by
  intro L v0 μ r hl0 h
  unfold g_Row_size at h
  refine jr_aload_n jf_100_0 rfl hl0 ?_
  replace h := obd_of h; obtain ⟨x1, hx1, h⟩ := h
  refine jr_getA jf_100_1 hx1 ?_
  replace h := obd_of h; obtain ⟨a2, rfl, h⟩ := h
  replace h := obd_of h; obtain ⟨x3, hx3, h⟩ := h
  refine jr_arraylength jf_100_4 hx3 ?_
  obtain rfl := Option.some.inj h
  exact jr_retI jf_100_5 jmt_100
set_option maxRecDepth 10000 in
set_option maxHeartbeats 4000000 in
theorem r_Row_size {B : Nat} {SA : Nat → Nat} {d : Nat} (hd : 0 ≤ d) : ∀ (v0 : Nat) (μ : JMem) (r : Int32), g_Row_size v0 μ.1 = some r → jR B SA d m_Row_size 0 (lv_args 0 [.ref v0]) [] μ (some (.int r)) μ := by
  intro v0 μ r h
  exact r_Row_size_e hd (lv_args 0 _) _ _ _ (by simp [lv_args, jget, rv_cat, cat_int, cat_long, cat_double, cat_float, cat_ref]) h
/-! FilterBench$Section.mean(J)J -/
set_option maxRecDepth 10000 in
set_option maxHeartbeats 4000000 in
theorem r_Section_mean_27 {N B : Nat} {SA : Nat → Nat} {d : Nat} (hd : 4 ≤ d) : ∀ (n : Nat), ∀ (L : JLoc) (v0 : Nat) (v3 : Int64) (v5 : Int32) (μ : JMem) (r : Int64) (μ9 : JMem), jget L 0 = .ref v0 → jget L 3 = .long v3 → jget L 5 = .int v5 → g_Section_mean_27 N B n v0 v3 v5 μ = some (r, μ9) → jR B SA d m_Section_mean 27 L [] μ (some (.long r)) μ9 := by
  intro n
  induction n with
  | zero =>
    intro L v0 v3 v5 μ r μ9 hl0 hl3 hl5 h
    unfold g_Section_mean_27 at h
    cases h
  | succ n ih =>
    intro L v0 v3 v5 μ r μ9 hl0 hl3 hl5 h
    unfold g_Section_mean_27 at h
    refine jr_iload jf_99_27 hl5 ?_
    refine jr_aload_n jf_99_29 rfl hl0 ?_
    replace h := obd_of h; obtain ⟨x1, hx1, h⟩ := h
    refine jr_getA jf_99_30 hx1 ?_
    replace h := obd_of h; obtain ⟨a2, rfl, h⟩ := h
    replace h := jgd_of h; obtain ⟨hb3, h⟩ := h
    replace h := obd_of h; obtain ⟨x4, hx4, h⟩ := h
    refine jr_V6_0 jf_99_33 hb3 (by omega) (r_Row_size (by omega) _ _ _ hx4) (Nat.le_of_ble_eq_true rfl) jml_100 (Nat.le_of_ble_eq_true rfl) ?_
    replace h := ite_or h; rcases h with ⟨hc, h⟩ | ⟨hc, h⟩
    · refine jr_if2_ge_t jf_99_36 hc ?_
      refine jr_aload_n jf_99_70 rfl hl0 ?_
      refine jr_aload_n jf_99_71 rfl hl0 ?_
      refine jr_iconst jf_99_72 jc_i_0 ?_
      refine jr_aload_n jf_99_73 rfl hl0 ?_
      refine jr_lload_n jf_99_74 rfl hl3 ?_
      replace h := jgd_of h; obtain ⟨hb5, h⟩ := h
      replace h := jbd2_of h; obtain ⟨x6, μ7, hx6, h⟩ := h
      refine jr_V6_1 jf_99_75 hb5 (by omega) (r_Section_settled (by omega) _ _ _ _ _ hx6) (Nat.le_of_ble_eq_true rfl) jml_79 (Nat.le_of_ble_eq_true rfl) ?_
      replace h := jgd_of h; obtain ⟨hb8, h⟩ := h
      replace h := obd_of h; obtain ⟨x9, hx9, h⟩ := h
      refine jr_V6_2 jf_99_78 hb8 (by omega) (r_Section_times (by omega) _ _ _ _ _ hx9) (Nat.le_of_ble_eq_true rfl) jml_87 (Nat.le_of_ble_eq_true rfl) ?_
      replace h := jgd_of h; obtain ⟨hb10, h⟩ := h
      replace h := jbd2_of h; obtain ⟨x11, μ12, hx11, h⟩ := h
      refine jr_V6_1 jf_99_81 hb10 (by omega) (r_Section_settled (by omega) _ _ _ _ _ hx11) (Nat.le_of_ble_eq_true rfl) jml_79 (Nat.le_of_ble_eq_true rfl) ?_
      obtain ⟨rfl, rfl⟩ := Prod.mk.inj (Option.some.inj h)
      exact jr_retJ jf_99_84 jmt_99
    · refine jr_if2_ge_f jf_99_36 hc ?_
      refine jr_aload_n jf_99_39 rfl hl0 ?_
      replace h := obd_of h; obtain ⟨x13, hx13, h⟩ := h
      refine jr_getA jf_99_40 hx13 ?_
      refine jr_lload_n jf_99_43 rfl hl3 ?_
      refine jr_aload_n jf_99_44 rfl hl0 ?_
      replace h := obd_of h; obtain ⟨x14, hx14, h⟩ := h
      refine jr_getA jf_99_45 hx14 ?_
      refine jr_aload_n jf_99_48 rfl hl0 ?_
      replace h := obd_of h; obtain ⟨x15, hx15, h⟩ := h
      refine jr_getA jf_99_49 hx15 ?_
      refine jr_iload jf_99_52 hl5 ?_
      replace h := obd_of h; obtain ⟨a16, rfl, h⟩ := h
      replace h := jgd_of h; obtain ⟨hb17, h⟩ := h
      replace h := obd_of h; obtain ⟨x18, hx18, h⟩ := h
      refine jr_V6_1 jf_99_54 hb17 (by omega) (r_Row_at (by omega) _ _ _ _ hx18) (by simp only [jcats_cons, jcats_nil, cat_int, cat_long, cat_double, cat_float, cat_ref, rv_cat]; decide) jml_38 (Nat.le_of_ble_eq_true rfl) ?_
      replace h := obd_of h; obtain ⟨a19, rfl, h⟩ := h
      replace h := obd_of h; obtain ⟨x20, hx20, h⟩ := h
      rcases ite_or hx20 with ⟨hb, hx⟩ | ⟨hb0, hx⟩
      · obtain hx := Option.some.inj hx
        refine jr_V8a_1 jf_99_57 hb (by omega) (r_Real_term (by omega) _ _ _ _ hx) (by simp only [jcats_cons, jcats_nil, cat_int, cat_long, cat_double, cat_float, cat_ref, rv_cat]; decide) jml_72 (Nat.le_of_ble_eq_true rfl) ?_
        replace h := obd_of h; obtain ⟨a21, rfl, h⟩ := h
        replace h := obd_of h; obtain ⟨x22, hx22, h⟩ := h
        rcases ite_or hx22 with ⟨hb, hx⟩ | ⟨hb0, hx⟩
        · refine jr_V8a_2 jf_99_60 hb (by omega) (r_Real_plus (by omega) _ _ _ _ _ hx) (Nat.le_of_ble_eq_true rfl) jml_74 (Nat.le_of_ble_eq_true rfl) ?_
          refine jr_lstore_n jf_99_63 rfl jml_99 (by decide) ?_
          refine jr_iinc jf_99_64 jc_i_1 jml_99 (by decide) (jg2_ne rfl hl5) ?_
          refine jr_goto jf_99_67 ?_
          exact ih _ _ _ _ _ _ _ (jg1_ne rfl (jg2_ne rfl hl0)) (jg1_ne rfl jg2_same) jg1_same h
        · obtain ⟨hb, hx⟩ := jgd_of hx
          obtain hx := Option.some.inj hx
          refine jr_V8b_2 jf_99_60 hb0 hb (by omega) (r_Shorts_plus (by omega) _ _ _ _ _ hx) (Nat.le_of_ble_eq_true rfl) jml_78 (Nat.le_of_ble_eq_true rfl) ?_
          refine jr_lstore_n jf_99_63 rfl jml_99 (by decide) ?_
          refine jr_iinc jf_99_64 jc_i_1 jml_99 (by decide) (jg2_ne rfl hl5) ?_
          refine jr_goto jf_99_67 ?_
          exact ih _ _ _ _ _ _ _ (jg1_ne rfl (jg2_ne rfl hl0)) (jg1_ne rfl jg2_same) jg1_same h
      · obtain ⟨hb, hx⟩ := jgd_of hx
        obtain hx := Option.some.inj hx
        refine jr_V8b_1 jf_99_57 hb0 hb (by omega) (r_Shorts_term (by omega) _ _ _ _ hx) (by simp only [jcats_cons, jcats_nil, cat_int, cat_long, cat_double, cat_float, cat_ref, rv_cat]; decide) jml_73 (Nat.le_of_ble_eq_true rfl) ?_
        replace h := obd_of h; obtain ⟨a21, rfl, h⟩ := h
        replace h := obd_of h; obtain ⟨x22, hx22, h⟩ := h
        rcases ite_or hx22 with ⟨hb, hx⟩ | ⟨hb0, hx⟩
        · refine jr_V8a_2 jf_99_60 hb (by omega) (r_Real_plus (by omega) _ _ _ _ _ hx) (Nat.le_of_ble_eq_true rfl) jml_74 (Nat.le_of_ble_eq_true rfl) ?_
          refine jr_lstore_n jf_99_63 rfl jml_99 (by decide) ?_
          refine jr_iinc jf_99_64 jc_i_1 jml_99 (by decide) (jg2_ne rfl hl5) ?_
          refine jr_goto jf_99_67 ?_
          exact ih _ _ _ _ _ _ _ (jg1_ne rfl (jg2_ne rfl hl0)) (jg1_ne rfl jg2_same) jg1_same h
        · obtain ⟨hb, hx⟩ := jgd_of hx
          obtain hx := Option.some.inj hx
          refine jr_V8b_2 jf_99_60 hb0 hb (by omega) (r_Shorts_plus (by omega) _ _ _ _ _ hx) (Nat.le_of_ble_eq_true rfl) jml_78 (Nat.le_of_ble_eq_true rfl) ?_
          refine jr_lstore_n jf_99_63 rfl jml_99 (by decide) ?_
          refine jr_iinc jf_99_64 jc_i_1 jml_99 (by decide) (jg2_ne rfl hl5) ?_
          refine jr_goto jf_99_67 ?_
          exact ih _ _ _ _ _ _ _ (jg1_ne rfl (jg2_ne rfl hl0)) (jg1_ne rfl jg2_same) jg1_same h
set_option maxRecDepth 10000 in
set_option maxHeartbeats 4000000 in
theorem r_Section_mean_e {N B : Nat} {SA : Nat → Nat} {d : Nat} (hd : 4 ≤ d) : ∀ (L : JLoc) (v0 : Nat) (v1 : Int64) (μ : JMem) (r : Int64) (μ9 : JMem), jget L 0 = .ref v0 → jget L 1 = .long v1 → g_Section_mean N B v0 v1 μ = some (r, μ9) → jR B SA d m_Section_mean 0 L [] μ (some (.long r)) μ9 := by
  intro L v0 v1 μ r μ9 hl0 hl1 h
  unfold g_Section_mean at h
  refine jr_aload_n jf_99_0 rfl hl0 ?_
  replace h := obd_of h; obtain ⟨x1, hx1, h⟩ := h
  refine jr_getA jf_99_1 hx1 ?_
  refine jr_lload_n jf_99_4 rfl hl1 ?_
  replace h := obd_of h; obtain ⟨a2, rfl, h⟩ := h
  replace h := jgd_of h; obtain ⟨hb3, h⟩ := h
  replace h := obd_of h; obtain ⟨μ4, hμ4, h⟩ := h
  refine jr_V6v_1 jf_99_5 hb3 (by omega) (r_Row_push (by omega) _ _ _ _ hμ4) (Nat.le_of_ble_eq_true rfl) jml_98 (Nat.le_of_ble_eq_true rfl) ?_
  refine jr_aload_n jf_99_8 rfl hl0 ?_
  replace h := obd_of h; obtain ⟨x5, hx5, h⟩ := h
  refine jr_getA jf_99_9 hx5 ?_
  refine jr_aload_n jf_99_12 rfl hl0 ?_
  replace h := obd_of h; obtain ⟨x6, hx6, h⟩ := h
  refine jr_getA jf_99_13 hx6 ?_
  refine jr_iconst jf_99_16 jc_i_0 ?_
  replace h := obd_of h; obtain ⟨a7, rfl, h⟩ := h
  replace h := jgd_of h; obtain ⟨hb8, h⟩ := h
  replace h := obd_of h; obtain ⟨x9, hx9, h⟩ := h
  refine jr_V6_1 jf_99_17 hb8 (by omega) (r_Row_at (by omega) _ _ _ _ hx9) (by simp only [jcats_cons, jcats_nil, cat_int, cat_long, cat_double, cat_float, cat_ref, rv_cat]; decide) jml_38 (Nat.le_of_ble_eq_true rfl) ?_
  replace h := obd_of h; obtain ⟨a10, rfl, h⟩ := h
  replace h := obd_of h; obtain ⟨x11, hx11, h⟩ := h
  rcases ite_or hx11 with ⟨hb, hx⟩ | ⟨hb0, hx⟩
  · obtain hx := Option.some.inj hx
    refine jr_V8a_1 jf_99_20 hb (by omega) (r_Real_term (by omega) _ _ _ _ hx) (Nat.le_of_ble_eq_true rfl) jml_72 (Nat.le_of_ble_eq_true rfl) ?_
    refine jr_lstore_n jf_99_23 rfl jml_99 (by decide) ?_
    refine jr_iconst jf_99_24 jc_i_1 ?_
    refine jr_istore jf_99_25 jml_99 (by decide) ?_
    exact r_Section_mean_27 hd _ _ _ _ _ _ _ _ (jg1_ne rfl (jg2_ne rfl hl0)) (jg1_ne rfl jg2_same) jg1_same h
  · obtain ⟨hb, hx⟩ := jgd_of hx
    obtain hx := Option.some.inj hx
    refine jr_V8b_1 jf_99_20 hb0 hb (by omega) (r_Shorts_term (by omega) _ _ _ _ hx) (Nat.le_of_ble_eq_true rfl) jml_73 (Nat.le_of_ble_eq_true rfl) ?_
    refine jr_lstore_n jf_99_23 rfl jml_99 (by decide) ?_
    refine jr_iconst jf_99_24 jc_i_1 ?_
    refine jr_istore jf_99_25 jml_99 (by decide) ?_
    exact r_Section_mean_27 hd _ _ _ _ _ _ _ _ (jg1_ne rfl (jg2_ne rfl hl0)) (jg1_ne rfl jg2_same) jg1_same h
set_option maxRecDepth 10000 in
set_option maxHeartbeats 4000000 in
theorem r_Section_mean {N B : Nat} {SA : Nat → Nat} {d : Nat} (hd : 4 ≤ d) : ∀ (v0 : Nat) (v1 : Int64) (μ : JMem) (r : Int64) (μ9 : JMem), g_Section_mean N B v0 v1 μ = some (r, μ9) → jR B SA d m_Section_mean 0 (lv_args 0 [.ref v0, .long v1]) [] μ (some (.long r)) μ9 := by
  intro v0 v1 μ r μ9 h
  exact r_Section_mean_e hd (lv_args 0 _) _ _ _ _ _ (by simp [lv_args, jget, rv_cat, cat_int, cat_long, cat_double, cat_float, cat_ref]) (by simp [lv_args, jget, rv_cat, cat_int, cat_long, cat_double, cat_float, cat_ref]) h
/-! FilterBench$Section.pass(J)J -/
set_option maxRecDepth 10000 in
set_option maxHeartbeats 4000000 in
theorem r_Section_pass_e {B : Nat} {SA : Nat → Nat} {d : Nat} (hd : 4 ≤ d) : ∀ (L : JLoc) (v0 : Nat) (v1 : Int64) (μ : JMem) (r : Int64) (μ9 : JMem), jget L 0 = .ref v0 → jget L 1 = .long v1 → g_Section_pass B v0 v1 μ = some (r, μ9) → jR B SA d m_Section_pass 0 L [] μ (some (.long r)) μ9 := by
  intro L v0 v1 μ r μ9 hl0 hl1 h
  unfold g_Section_pass at h
  refine jr_aload_n jf_96_0 rfl hl0 ?_
  replace h := obd_of h; obtain ⟨x1, hx1, h⟩ := h
  refine jr_getA jf_96_1 hx1 ?_
  refine jr_iconst jf_96_4 jc_i_0 ?_
  replace h := obd_of h; obtain ⟨a2, rfl, h⟩ := h
  replace h := jgd_of h; obtain ⟨hb3, h⟩ := h
  replace h := obd_of h; obtain ⟨x4, hx4, h⟩ := h
  refine jr_V6_1 jf_96_5 hb3 (by omega) (r_Row_at (by omega) _ _ _ _ hx4) (Nat.le_of_ble_eq_true rfl) jml_38 (Nat.le_of_ble_eq_true rfl) ?_
  refine jr_lstore_n jf_96_8 rfl jml_96 (by decide) ?_
  refine jr_aload_n jf_96_9 rfl (jg2_ne rfl hl0) ?_
  refine jr_aload_n jf_96_10 rfl (jg2_ne rfl hl0) ?_
  replace h := obd_of h; obtain ⟨x5, hx5, h⟩ := h
  refine jr_getA jf_96_11 hx5 ?_
  refine jr_aload_n jf_96_14 rfl (jg2_ne rfl hl0) ?_
  replace h := obd_of h; obtain ⟨x6, hx6, h⟩ := h
  refine jr_getA jf_96_15 hx6 ?_
  refine jr_lload_n jf_96_18 rfl (jg2_ne rfl hl1) ?_
  replace h := obd_of h; obtain ⟨a7, rfl, h⟩ := h
  replace h := obd_of h; obtain ⟨x8, hx8, h⟩ := h
  rcases ite_or hx8 with ⟨hb, hx⟩ | ⟨hb0, hx⟩
  · obtain hx := Option.some.inj hx
    refine jr_V8a_1 jf_96_19 hb (by omega) (r_Real_term (by omega) _ _ _ _ hx) (by simp only [jcats_cons, jcats_nil, cat_int, cat_long, cat_double, cat_float, cat_ref, rv_cat]; decide) jml_72 (Nat.le_of_ble_eq_true rfl) ?_
    refine jr_aload_n jf_96_22 rfl (jg2_ne rfl hl0) ?_
    refine jr_iconst jf_96_23 jc_i_0 ?_
    refine jr_lload_n jf_96_24 rfl jg2_same ?_
    replace h := jgd_of h; obtain ⟨hb9, h⟩ := h
    replace h := obd_of h; obtain ⟨x10, hx10, h⟩ := h
    refine jr_V6_2 jf_96_25 hb9 (by omega) (r_Section_lessTimes (by omega) _ _ _ _ _ hx10) (by simp only [jcats_cons, jcats_nil, cat_int, cat_long, cat_double, cat_float, cat_ref, rv_cat]; decide) jml_90 (Nat.le_of_ble_eq_true rfl) ?_
    replace h := obd_of h; obtain ⟨a11, rfl, h⟩ := h
    replace h := obd_of h; obtain ⟨x12, hx12, h⟩ := h
    rcases ite_or hx12 with ⟨hb, hx⟩ | ⟨hb0, hx⟩
    · refine jr_V8a_2 jf_96_28 hb (by omega) (r_Real_plus (by omega) _ _ _ _ _ hx) (Nat.le_of_ble_eq_true rfl) jml_74 (Nat.le_of_ble_eq_true rfl) ?_
      replace h := jgd_of h; obtain ⟨hb13, h⟩ := h
      replace h := jbd2_of h; obtain ⟨x14, μ15, hx14, h⟩ := h
      refine jr_V6_1 jf_96_31 hb13 (by omega) (r_Section_settled (by omega) _ _ _ _ _ hx14) (Nat.le_of_ble_eq_true rfl) jml_79 (Nat.le_of_ble_eq_true rfl) ?_
      refine jr_lstore jf_96_34 jml_96 (by decide) ?_
      refine jr_aload_n jf_96_36 rfl (jg2_ne rfl (jg2_ne rfl hl0)) ?_
      refine jr_aload_n jf_96_37 rfl (jg2_ne rfl (jg2_ne rfl hl0)) ?_
      replace h := obd_of h; obtain ⟨x16, hx16, h⟩ := h
      refine jr_getA jf_96_38 hx16 ?_
      refine jr_aload_n jf_96_41 rfl (jg2_ne rfl (jg2_ne rfl hl0)) ?_
      refine jr_iconst jf_96_42 jc_i_0 ?_
      refine jr_lload jf_96_43 jg2_same ?_
      replace h := jgd_of h; obtain ⟨hb17, h⟩ := h
      replace h := obd_of h; obtain ⟨x18, hx18, h⟩ := h
      refine jr_V6_2 jf_96_45 hb17 (by omega) (r_Section_times (by omega) _ _ _ _ _ hx18) (by simp only [jcats_cons, jcats_nil, cat_int, cat_long, cat_double, cat_float, cat_ref, rv_cat]; decide) jml_87 (Nat.le_of_ble_eq_true rfl) ?_
      refine jr_aload_n jf_96_48 rfl (jg2_ne rfl (jg2_ne rfl hl0)) ?_
      replace h := obd_of h; obtain ⟨x19, hx19, h⟩ := h
      refine jr_getA jf_96_49 hx19 ?_
      refine jr_lload_n jf_96_52 rfl (jg2_ne rfl jg2_same) ?_
      replace h := obd_of h; obtain ⟨a20, rfl, h⟩ := h
      replace h := obd_of h; obtain ⟨x21, hx21, h⟩ := h
      rcases ite_or hx21 with ⟨hb, hx⟩ | ⟨hb0, hx⟩
      · obtain hx := Option.some.inj hx
        refine jr_V8a_1 jf_96_53 hb (by omega) (r_Real_term (by omega) _ _ _ _ hx) (by simp only [jcats_cons, jcats_nil, cat_int, cat_long, cat_double, cat_float, cat_ref, rv_cat]; decide) jml_72 (Nat.le_of_ble_eq_true rfl) ?_
        replace h := obd_of h; obtain ⟨a22, rfl, h⟩ := h
        replace h := obd_of h; obtain ⟨x23, hx23, h⟩ := h
        rcases ite_or hx23 with ⟨hb, hx⟩ | ⟨hb0, hx⟩
        · refine jr_V8a_2 jf_96_56 hb (by omega) (r_Real_plus (by omega) _ _ _ _ _ hx) (Nat.le_of_ble_eq_true rfl) jml_74 (Nat.le_of_ble_eq_true rfl) ?_
          replace h := jgd_of h; obtain ⟨hb24, h⟩ := h
          replace h := jbd2_of h; obtain ⟨x25, μ26, hx25, h⟩ := h
          refine jr_V6_1 jf_96_59 hb24 (by omega) (r_Section_settled (by omega) _ _ _ _ _ hx25) (Nat.le_of_ble_eq_true rfl) jml_79 (Nat.le_of_ble_eq_true rfl) ?_
          refine jr_lstore jf_96_62 jml_96 (by decide) ?_
          refine jr_aload_n jf_96_64 rfl (jg2_ne rfl (jg2_ne rfl (jg2_ne rfl hl0))) ?_
          replace h := obd_of h; obtain ⟨x27, hx27, h⟩ := h
          refine jr_getA jf_96_65 hx27 ?_
          refine jr_iconst jf_96_68 jc_i_0 ?_
          refine jr_lload jf_96_69 (jg2_ne rfl jg2_same) ?_
          replace h := obd_of h; obtain ⟨a28, rfl, h⟩ := h
          replace h := jgd_of h; obtain ⟨hb29, h⟩ := h
          replace h := obd_of h; obtain ⟨μ30, hμ30, h⟩ := h
          refine jr_V6v_2 jf_96_71 hb29 (by omega) (r_Row_put (by omega) _ _ _ _ _ hμ30) (Nat.le_of_ble_eq_true rfl) jml_66 (Nat.le_of_ble_eq_true rfl) ?_
          refine jr_lload jf_96_74 jg2_same ?_
          obtain ⟨rfl, rfl⟩ := Prod.mk.inj (Option.some.inj h)
          exact jr_retJ jf_96_76 jmt_96
        · obtain ⟨hb, hx⟩ := jgd_of hx
          obtain hx := Option.some.inj hx
          refine jr_V8b_2 jf_96_56 hb0 hb (by omega) (r_Shorts_plus (by omega) _ _ _ _ _ hx) (Nat.le_of_ble_eq_true rfl) jml_78 (Nat.le_of_ble_eq_true rfl) ?_
          replace h := jgd_of h; obtain ⟨hb24, h⟩ := h
          replace h := jbd2_of h; obtain ⟨x25, μ26, hx25, h⟩ := h
          refine jr_V6_1 jf_96_59 hb24 (by omega) (r_Section_settled (by omega) _ _ _ _ _ hx25) (Nat.le_of_ble_eq_true rfl) jml_79 (Nat.le_of_ble_eq_true rfl) ?_
          refine jr_lstore jf_96_62 jml_96 (by decide) ?_
          refine jr_aload_n jf_96_64 rfl (jg2_ne rfl (jg2_ne rfl (jg2_ne rfl hl0))) ?_
          replace h := obd_of h; obtain ⟨x27, hx27, h⟩ := h
          refine jr_getA jf_96_65 hx27 ?_
          refine jr_iconst jf_96_68 jc_i_0 ?_
          refine jr_lload jf_96_69 (jg2_ne rfl jg2_same) ?_
          replace h := obd_of h; obtain ⟨a28, rfl, h⟩ := h
          replace h := jgd_of h; obtain ⟨hb29, h⟩ := h
          replace h := obd_of h; obtain ⟨μ30, hμ30, h⟩ := h
          refine jr_V6v_2 jf_96_71 hb29 (by omega) (r_Row_put (by omega) _ _ _ _ _ hμ30) (Nat.le_of_ble_eq_true rfl) jml_66 (Nat.le_of_ble_eq_true rfl) ?_
          refine jr_lload jf_96_74 jg2_same ?_
          obtain ⟨rfl, rfl⟩ := Prod.mk.inj (Option.some.inj h)
          exact jr_retJ jf_96_76 jmt_96
      · obtain ⟨hb, hx⟩ := jgd_of hx
        obtain hx := Option.some.inj hx
        refine jr_V8b_1 jf_96_53 hb0 hb (by omega) (r_Shorts_term (by omega) _ _ _ _ hx) (by simp only [jcats_cons, jcats_nil, cat_int, cat_long, cat_double, cat_float, cat_ref, rv_cat]; decide) jml_73 (Nat.le_of_ble_eq_true rfl) ?_
        replace h := obd_of h; obtain ⟨a22, rfl, h⟩ := h
        replace h := obd_of h; obtain ⟨x23, hx23, h⟩ := h
        rcases ite_or hx23 with ⟨hb, hx⟩ | ⟨hb0, hx⟩
        · refine jr_V8a_2 jf_96_56 hb (by omega) (r_Real_plus (by omega) _ _ _ _ _ hx) (Nat.le_of_ble_eq_true rfl) jml_74 (Nat.le_of_ble_eq_true rfl) ?_
          replace h := jgd_of h; obtain ⟨hb24, h⟩ := h
          replace h := jbd2_of h; obtain ⟨x25, μ26, hx25, h⟩ := h
          refine jr_V6_1 jf_96_59 hb24 (by omega) (r_Section_settled (by omega) _ _ _ _ _ hx25) (Nat.le_of_ble_eq_true rfl) jml_79 (Nat.le_of_ble_eq_true rfl) ?_
          refine jr_lstore jf_96_62 jml_96 (by decide) ?_
          refine jr_aload_n jf_96_64 rfl (jg2_ne rfl (jg2_ne rfl (jg2_ne rfl hl0))) ?_
          replace h := obd_of h; obtain ⟨x27, hx27, h⟩ := h
          refine jr_getA jf_96_65 hx27 ?_
          refine jr_iconst jf_96_68 jc_i_0 ?_
          refine jr_lload jf_96_69 (jg2_ne rfl jg2_same) ?_
          replace h := obd_of h; obtain ⟨a28, rfl, h⟩ := h
          replace h := jgd_of h; obtain ⟨hb29, h⟩ := h
          replace h := obd_of h; obtain ⟨μ30, hμ30, h⟩ := h
          refine jr_V6v_2 jf_96_71 hb29 (by omega) (r_Row_put (by omega) _ _ _ _ _ hμ30) (Nat.le_of_ble_eq_true rfl) jml_66 (Nat.le_of_ble_eq_true rfl) ?_
          refine jr_lload jf_96_74 jg2_same ?_
          obtain ⟨rfl, rfl⟩ := Prod.mk.inj (Option.some.inj h)
          exact jr_retJ jf_96_76 jmt_96
        · obtain ⟨hb, hx⟩ := jgd_of hx
          obtain hx := Option.some.inj hx
          refine jr_V8b_2 jf_96_56 hb0 hb (by omega) (r_Shorts_plus (by omega) _ _ _ _ _ hx) (Nat.le_of_ble_eq_true rfl) jml_78 (Nat.le_of_ble_eq_true rfl) ?_
          replace h := jgd_of h; obtain ⟨hb24, h⟩ := h
          replace h := jbd2_of h; obtain ⟨x25, μ26, hx25, h⟩ := h
          refine jr_V6_1 jf_96_59 hb24 (by omega) (r_Section_settled (by omega) _ _ _ _ _ hx25) (Nat.le_of_ble_eq_true rfl) jml_79 (Nat.le_of_ble_eq_true rfl) ?_
          refine jr_lstore jf_96_62 jml_96 (by decide) ?_
          refine jr_aload_n jf_96_64 rfl (jg2_ne rfl (jg2_ne rfl (jg2_ne rfl hl0))) ?_
          replace h := obd_of h; obtain ⟨x27, hx27, h⟩ := h
          refine jr_getA jf_96_65 hx27 ?_
          refine jr_iconst jf_96_68 jc_i_0 ?_
          refine jr_lload jf_96_69 (jg2_ne rfl jg2_same) ?_
          replace h := obd_of h; obtain ⟨a28, rfl, h⟩ := h
          replace h := jgd_of h; obtain ⟨hb29, h⟩ := h
          replace h := obd_of h; obtain ⟨μ30, hμ30, h⟩ := h
          refine jr_V6v_2 jf_96_71 hb29 (by omega) (r_Row_put (by omega) _ _ _ _ _ hμ30) (Nat.le_of_ble_eq_true rfl) jml_66 (Nat.le_of_ble_eq_true rfl) ?_
          refine jr_lload jf_96_74 jg2_same ?_
          obtain ⟨rfl, rfl⟩ := Prod.mk.inj (Option.some.inj h)
          exact jr_retJ jf_96_76 jmt_96
    · obtain ⟨hb, hx⟩ := jgd_of hx
      obtain hx := Option.some.inj hx
      refine jr_V8b_2 jf_96_28 hb0 hb (by omega) (r_Shorts_plus (by omega) _ _ _ _ _ hx) (Nat.le_of_ble_eq_true rfl) jml_78 (Nat.le_of_ble_eq_true rfl) ?_
      replace h := jgd_of h; obtain ⟨hb13, h⟩ := h
      replace h := jbd2_of h; obtain ⟨x14, μ15, hx14, h⟩ := h
      refine jr_V6_1 jf_96_31 hb13 (by omega) (r_Section_settled (by omega) _ _ _ _ _ hx14) (Nat.le_of_ble_eq_true rfl) jml_79 (Nat.le_of_ble_eq_true rfl) ?_
      refine jr_lstore jf_96_34 jml_96 (by decide) ?_
      refine jr_aload_n jf_96_36 rfl (jg2_ne rfl (jg2_ne rfl hl0)) ?_
      refine jr_aload_n jf_96_37 rfl (jg2_ne rfl (jg2_ne rfl hl0)) ?_
      replace h := obd_of h; obtain ⟨x16, hx16, h⟩ := h
      refine jr_getA jf_96_38 hx16 ?_
      refine jr_aload_n jf_96_41 rfl (jg2_ne rfl (jg2_ne rfl hl0)) ?_
      refine jr_iconst jf_96_42 jc_i_0 ?_
      refine jr_lload jf_96_43 jg2_same ?_
      replace h := jgd_of h; obtain ⟨hb17, h⟩ := h
      replace h := obd_of h; obtain ⟨x18, hx18, h⟩ := h
      refine jr_V6_2 jf_96_45 hb17 (by omega) (r_Section_times (by omega) _ _ _ _ _ hx18) (by simp only [jcats_cons, jcats_nil, cat_int, cat_long, cat_double, cat_float, cat_ref, rv_cat]; decide) jml_87 (Nat.le_of_ble_eq_true rfl) ?_
      refine jr_aload_n jf_96_48 rfl (jg2_ne rfl (jg2_ne rfl hl0)) ?_
      replace h := obd_of h; obtain ⟨x19, hx19, h⟩ := h
      refine jr_getA jf_96_49 hx19 ?_
      refine jr_lload_n jf_96_52 rfl (jg2_ne rfl jg2_same) ?_
      replace h := obd_of h; obtain ⟨a20, rfl, h⟩ := h
      replace h := obd_of h; obtain ⟨x21, hx21, h⟩ := h
      rcases ite_or hx21 with ⟨hb, hx⟩ | ⟨hb0, hx⟩
      · obtain hx := Option.some.inj hx
        refine jr_V8a_1 jf_96_53 hb (by omega) (r_Real_term (by omega) _ _ _ _ hx) (by simp only [jcats_cons, jcats_nil, cat_int, cat_long, cat_double, cat_float, cat_ref, rv_cat]; decide) jml_72 (Nat.le_of_ble_eq_true rfl) ?_
        replace h := obd_of h; obtain ⟨a22, rfl, h⟩ := h
        replace h := obd_of h; obtain ⟨x23, hx23, h⟩ := h
        rcases ite_or hx23 with ⟨hb, hx⟩ | ⟨hb0, hx⟩
        · refine jr_V8a_2 jf_96_56 hb (by omega) (r_Real_plus (by omega) _ _ _ _ _ hx) (Nat.le_of_ble_eq_true rfl) jml_74 (Nat.le_of_ble_eq_true rfl) ?_
          replace h := jgd_of h; obtain ⟨hb24, h⟩ := h
          replace h := jbd2_of h; obtain ⟨x25, μ26, hx25, h⟩ := h
          refine jr_V6_1 jf_96_59 hb24 (by omega) (r_Section_settled (by omega) _ _ _ _ _ hx25) (Nat.le_of_ble_eq_true rfl) jml_79 (Nat.le_of_ble_eq_true rfl) ?_
          refine jr_lstore jf_96_62 jml_96 (by decide) ?_
          refine jr_aload_n jf_96_64 rfl (jg2_ne rfl (jg2_ne rfl (jg2_ne rfl hl0))) ?_
          replace h := obd_of h; obtain ⟨x27, hx27, h⟩ := h
          refine jr_getA jf_96_65 hx27 ?_
          refine jr_iconst jf_96_68 jc_i_0 ?_
          refine jr_lload jf_96_69 (jg2_ne rfl jg2_same) ?_
          replace h := obd_of h; obtain ⟨a28, rfl, h⟩ := h
          replace h := jgd_of h; obtain ⟨hb29, h⟩ := h
          replace h := obd_of h; obtain ⟨μ30, hμ30, h⟩ := h
          refine jr_V6v_2 jf_96_71 hb29 (by omega) (r_Row_put (by omega) _ _ _ _ _ hμ30) (Nat.le_of_ble_eq_true rfl) jml_66 (Nat.le_of_ble_eq_true rfl) ?_
          refine jr_lload jf_96_74 jg2_same ?_
          obtain ⟨rfl, rfl⟩ := Prod.mk.inj (Option.some.inj h)
          exact jr_retJ jf_96_76 jmt_96
        · obtain ⟨hb, hx⟩ := jgd_of hx
          obtain hx := Option.some.inj hx
          refine jr_V8b_2 jf_96_56 hb0 hb (by omega) (r_Shorts_plus (by omega) _ _ _ _ _ hx) (Nat.le_of_ble_eq_true rfl) jml_78 (Nat.le_of_ble_eq_true rfl) ?_
          replace h := jgd_of h; obtain ⟨hb24, h⟩ := h
          replace h := jbd2_of h; obtain ⟨x25, μ26, hx25, h⟩ := h
          refine jr_V6_1 jf_96_59 hb24 (by omega) (r_Section_settled (by omega) _ _ _ _ _ hx25) (Nat.le_of_ble_eq_true rfl) jml_79 (Nat.le_of_ble_eq_true rfl) ?_
          refine jr_lstore jf_96_62 jml_96 (by decide) ?_
          refine jr_aload_n jf_96_64 rfl (jg2_ne rfl (jg2_ne rfl (jg2_ne rfl hl0))) ?_
          replace h := obd_of h; obtain ⟨x27, hx27, h⟩ := h
          refine jr_getA jf_96_65 hx27 ?_
          refine jr_iconst jf_96_68 jc_i_0 ?_
          refine jr_lload jf_96_69 (jg2_ne rfl jg2_same) ?_
          replace h := obd_of h; obtain ⟨a28, rfl, h⟩ := h
          replace h := jgd_of h; obtain ⟨hb29, h⟩ := h
          replace h := obd_of h; obtain ⟨μ30, hμ30, h⟩ := h
          refine jr_V6v_2 jf_96_71 hb29 (by omega) (r_Row_put (by omega) _ _ _ _ _ hμ30) (Nat.le_of_ble_eq_true rfl) jml_66 (Nat.le_of_ble_eq_true rfl) ?_
          refine jr_lload jf_96_74 jg2_same ?_
          obtain ⟨rfl, rfl⟩ := Prod.mk.inj (Option.some.inj h)
          exact jr_retJ jf_96_76 jmt_96
      · obtain ⟨hb, hx⟩ := jgd_of hx
        obtain hx := Option.some.inj hx
        refine jr_V8b_1 jf_96_53 hb0 hb (by omega) (r_Shorts_term (by omega) _ _ _ _ hx) (by simp only [jcats_cons, jcats_nil, cat_int, cat_long, cat_double, cat_float, cat_ref, rv_cat]; decide) jml_73 (Nat.le_of_ble_eq_true rfl) ?_
        replace h := obd_of h; obtain ⟨a22, rfl, h⟩ := h
        replace h := obd_of h; obtain ⟨x23, hx23, h⟩ := h
        rcases ite_or hx23 with ⟨hb, hx⟩ | ⟨hb0, hx⟩
        · refine jr_V8a_2 jf_96_56 hb (by omega) (r_Real_plus (by omega) _ _ _ _ _ hx) (Nat.le_of_ble_eq_true rfl) jml_74 (Nat.le_of_ble_eq_true rfl) ?_
          replace h := jgd_of h; obtain ⟨hb24, h⟩ := h
          replace h := jbd2_of h; obtain ⟨x25, μ26, hx25, h⟩ := h
          refine jr_V6_1 jf_96_59 hb24 (by omega) (r_Section_settled (by omega) _ _ _ _ _ hx25) (Nat.le_of_ble_eq_true rfl) jml_79 (Nat.le_of_ble_eq_true rfl) ?_
          refine jr_lstore jf_96_62 jml_96 (by decide) ?_
          refine jr_aload_n jf_96_64 rfl (jg2_ne rfl (jg2_ne rfl (jg2_ne rfl hl0))) ?_
          replace h := obd_of h; obtain ⟨x27, hx27, h⟩ := h
          refine jr_getA jf_96_65 hx27 ?_
          refine jr_iconst jf_96_68 jc_i_0 ?_
          refine jr_lload jf_96_69 (jg2_ne rfl jg2_same) ?_
          replace h := obd_of h; obtain ⟨a28, rfl, h⟩ := h
          replace h := jgd_of h; obtain ⟨hb29, h⟩ := h
          replace h := obd_of h; obtain ⟨μ30, hμ30, h⟩ := h
          refine jr_V6v_2 jf_96_71 hb29 (by omega) (r_Row_put (by omega) _ _ _ _ _ hμ30) (Nat.le_of_ble_eq_true rfl) jml_66 (Nat.le_of_ble_eq_true rfl) ?_
          refine jr_lload jf_96_74 jg2_same ?_
          obtain ⟨rfl, rfl⟩ := Prod.mk.inj (Option.some.inj h)
          exact jr_retJ jf_96_76 jmt_96
        · obtain ⟨hb, hx⟩ := jgd_of hx
          obtain hx := Option.some.inj hx
          refine jr_V8b_2 jf_96_56 hb0 hb (by omega) (r_Shorts_plus (by omega) _ _ _ _ _ hx) (Nat.le_of_ble_eq_true rfl) jml_78 (Nat.le_of_ble_eq_true rfl) ?_
          replace h := jgd_of h; obtain ⟨hb24, h⟩ := h
          replace h := jbd2_of h; obtain ⟨x25, μ26, hx25, h⟩ := h
          refine jr_V6_1 jf_96_59 hb24 (by omega) (r_Section_settled (by omega) _ _ _ _ _ hx25) (Nat.le_of_ble_eq_true rfl) jml_79 (Nat.le_of_ble_eq_true rfl) ?_
          refine jr_lstore jf_96_62 jml_96 (by decide) ?_
          refine jr_aload_n jf_96_64 rfl (jg2_ne rfl (jg2_ne rfl (jg2_ne rfl hl0))) ?_
          replace h := obd_of h; obtain ⟨x27, hx27, h⟩ := h
          refine jr_getA jf_96_65 hx27 ?_
          refine jr_iconst jf_96_68 jc_i_0 ?_
          refine jr_lload jf_96_69 (jg2_ne rfl jg2_same) ?_
          replace h := obd_of h; obtain ⟨a28, rfl, h⟩ := h
          replace h := jgd_of h; obtain ⟨hb29, h⟩ := h
          replace h := obd_of h; obtain ⟨μ30, hμ30, h⟩ := h
          refine jr_V6v_2 jf_96_71 hb29 (by omega) (r_Row_put (by omega) _ _ _ _ _ hμ30) (Nat.le_of_ble_eq_true rfl) jml_66 (Nat.le_of_ble_eq_true rfl) ?_
          refine jr_lload jf_96_74 jg2_same ?_
          obtain ⟨rfl, rfl⟩ := Prod.mk.inj (Option.some.inj h)
          exact jr_retJ jf_96_76 jmt_96
  · obtain ⟨hb, hx⟩ := jgd_of hx
    obtain hx := Option.some.inj hx
    refine jr_V8b_1 jf_96_19 hb0 hb (by omega) (r_Shorts_term (by omega) _ _ _ _ hx) (by simp only [jcats_cons, jcats_nil, cat_int, cat_long, cat_double, cat_float, cat_ref, rv_cat]; decide) jml_73 (Nat.le_of_ble_eq_true rfl) ?_
    refine jr_aload_n jf_96_22 rfl (jg2_ne rfl hl0) ?_
    refine jr_iconst jf_96_23 jc_i_0 ?_
    refine jr_lload_n jf_96_24 rfl jg2_same ?_
    replace h := jgd_of h; obtain ⟨hb9, h⟩ := h
    replace h := obd_of h; obtain ⟨x10, hx10, h⟩ := h
    refine jr_V6_2 jf_96_25 hb9 (by omega) (r_Section_lessTimes (by omega) _ _ _ _ _ hx10) (by simp only [jcats_cons, jcats_nil, cat_int, cat_long, cat_double, cat_float, cat_ref, rv_cat]; decide) jml_90 (Nat.le_of_ble_eq_true rfl) ?_
    replace h := obd_of h; obtain ⟨a11, rfl, h⟩ := h
    replace h := obd_of h; obtain ⟨x12, hx12, h⟩ := h
    rcases ite_or hx12 with ⟨hb, hx⟩ | ⟨hb0, hx⟩
    · refine jr_V8a_2 jf_96_28 hb (by omega) (r_Real_plus (by omega) _ _ _ _ _ hx) (Nat.le_of_ble_eq_true rfl) jml_74 (Nat.le_of_ble_eq_true rfl) ?_
      replace h := jgd_of h; obtain ⟨hb13, h⟩ := h
      replace h := jbd2_of h; obtain ⟨x14, μ15, hx14, h⟩ := h
      refine jr_V6_1 jf_96_31 hb13 (by omega) (r_Section_settled (by omega) _ _ _ _ _ hx14) (Nat.le_of_ble_eq_true rfl) jml_79 (Nat.le_of_ble_eq_true rfl) ?_
      refine jr_lstore jf_96_34 jml_96 (by decide) ?_
      refine jr_aload_n jf_96_36 rfl (jg2_ne rfl (jg2_ne rfl hl0)) ?_
      refine jr_aload_n jf_96_37 rfl (jg2_ne rfl (jg2_ne rfl hl0)) ?_
      replace h := obd_of h; obtain ⟨x16, hx16, h⟩ := h
      refine jr_getA jf_96_38 hx16 ?_
      refine jr_aload_n jf_96_41 rfl (jg2_ne rfl (jg2_ne rfl hl0)) ?_
      refine jr_iconst jf_96_42 jc_i_0 ?_
      refine jr_lload jf_96_43 jg2_same ?_
      replace h := jgd_of h; obtain ⟨hb17, h⟩ := h
      replace h := obd_of h; obtain ⟨x18, hx18, h⟩ := h
      refine jr_V6_2 jf_96_45 hb17 (by omega) (r_Section_times (by omega) _ _ _ _ _ hx18) (by simp only [jcats_cons, jcats_nil, cat_int, cat_long, cat_double, cat_float, cat_ref, rv_cat]; decide) jml_87 (Nat.le_of_ble_eq_true rfl) ?_
      refine jr_aload_n jf_96_48 rfl (jg2_ne rfl (jg2_ne rfl hl0)) ?_
      replace h := obd_of h; obtain ⟨x19, hx19, h⟩ := h
      refine jr_getA jf_96_49 hx19 ?_
      refine jr_lload_n jf_96_52 rfl (jg2_ne rfl jg2_same) ?_
      replace h := obd_of h; obtain ⟨a20, rfl, h⟩ := h
      replace h := obd_of h; obtain ⟨x21, hx21, h⟩ := h
      rcases ite_or hx21 with ⟨hb, hx⟩ | ⟨hb0, hx⟩
      · obtain hx := Option.some.inj hx
        refine jr_V8a_1 jf_96_53 hb (by omega) (r_Real_term (by omega) _ _ _ _ hx) (by simp only [jcats_cons, jcats_nil, cat_int, cat_long, cat_double, cat_float, cat_ref, rv_cat]; decide) jml_72 (Nat.le_of_ble_eq_true rfl) ?_
        replace h := obd_of h; obtain ⟨a22, rfl, h⟩ := h
        replace h := obd_of h; obtain ⟨x23, hx23, h⟩ := h
        rcases ite_or hx23 with ⟨hb, hx⟩ | ⟨hb0, hx⟩
        · refine jr_V8a_2 jf_96_56 hb (by omega) (r_Real_plus (by omega) _ _ _ _ _ hx) (Nat.le_of_ble_eq_true rfl) jml_74 (Nat.le_of_ble_eq_true rfl) ?_
          replace h := jgd_of h; obtain ⟨hb24, h⟩ := h
          replace h := jbd2_of h; obtain ⟨x25, μ26, hx25, h⟩ := h
          refine jr_V6_1 jf_96_59 hb24 (by omega) (r_Section_settled (by omega) _ _ _ _ _ hx25) (Nat.le_of_ble_eq_true rfl) jml_79 (Nat.le_of_ble_eq_true rfl) ?_
          refine jr_lstore jf_96_62 jml_96 (by decide) ?_
          refine jr_aload_n jf_96_64 rfl (jg2_ne rfl (jg2_ne rfl (jg2_ne rfl hl0))) ?_
          replace h := obd_of h; obtain ⟨x27, hx27, h⟩ := h
          refine jr_getA jf_96_65 hx27 ?_
          refine jr_iconst jf_96_68 jc_i_0 ?_
          refine jr_lload jf_96_69 (jg2_ne rfl jg2_same) ?_
          replace h := obd_of h; obtain ⟨a28, rfl, h⟩ := h
          replace h := jgd_of h; obtain ⟨hb29, h⟩ := h
          replace h := obd_of h; obtain ⟨μ30, hμ30, h⟩ := h
          refine jr_V6v_2 jf_96_71 hb29 (by omega) (r_Row_put (by omega) _ _ _ _ _ hμ30) (Nat.le_of_ble_eq_true rfl) jml_66 (Nat.le_of_ble_eq_true rfl) ?_
          refine jr_lload jf_96_74 jg2_same ?_
          obtain ⟨rfl, rfl⟩ := Prod.mk.inj (Option.some.inj h)
          exact jr_retJ jf_96_76 jmt_96
        · obtain ⟨hb, hx⟩ := jgd_of hx
          obtain hx := Option.some.inj hx
          refine jr_V8b_2 jf_96_56 hb0 hb (by omega) (r_Shorts_plus (by omega) _ _ _ _ _ hx) (Nat.le_of_ble_eq_true rfl) jml_78 (Nat.le_of_ble_eq_true rfl) ?_
          replace h := jgd_of h; obtain ⟨hb24, h⟩ := h
          replace h := jbd2_of h; obtain ⟨x25, μ26, hx25, h⟩ := h
          refine jr_V6_1 jf_96_59 hb24 (by omega) (r_Section_settled (by omega) _ _ _ _ _ hx25) (Nat.le_of_ble_eq_true rfl) jml_79 (Nat.le_of_ble_eq_true rfl) ?_
          refine jr_lstore jf_96_62 jml_96 (by decide) ?_
          refine jr_aload_n jf_96_64 rfl (jg2_ne rfl (jg2_ne rfl (jg2_ne rfl hl0))) ?_
          replace h := obd_of h; obtain ⟨x27, hx27, h⟩ := h
          refine jr_getA jf_96_65 hx27 ?_
          refine jr_iconst jf_96_68 jc_i_0 ?_
          refine jr_lload jf_96_69 (jg2_ne rfl jg2_same) ?_
          replace h := obd_of h; obtain ⟨a28, rfl, h⟩ := h
          replace h := jgd_of h; obtain ⟨hb29, h⟩ := h
          replace h := obd_of h; obtain ⟨μ30, hμ30, h⟩ := h
          refine jr_V6v_2 jf_96_71 hb29 (by omega) (r_Row_put (by omega) _ _ _ _ _ hμ30) (Nat.le_of_ble_eq_true rfl) jml_66 (Nat.le_of_ble_eq_true rfl) ?_
          refine jr_lload jf_96_74 jg2_same ?_
          obtain ⟨rfl, rfl⟩ := Prod.mk.inj (Option.some.inj h)
          exact jr_retJ jf_96_76 jmt_96
      · obtain ⟨hb, hx⟩ := jgd_of hx
        obtain hx := Option.some.inj hx
        refine jr_V8b_1 jf_96_53 hb0 hb (by omega) (r_Shorts_term (by omega) _ _ _ _ hx) (by simp only [jcats_cons, jcats_nil, cat_int, cat_long, cat_double, cat_float, cat_ref, rv_cat]; decide) jml_73 (Nat.le_of_ble_eq_true rfl) ?_
        replace h := obd_of h; obtain ⟨a22, rfl, h⟩ := h
        replace h := obd_of h; obtain ⟨x23, hx23, h⟩ := h
        rcases ite_or hx23 with ⟨hb, hx⟩ | ⟨hb0, hx⟩
        · refine jr_V8a_2 jf_96_56 hb (by omega) (r_Real_plus (by omega) _ _ _ _ _ hx) (Nat.le_of_ble_eq_true rfl) jml_74 (Nat.le_of_ble_eq_true rfl) ?_
          replace h := jgd_of h; obtain ⟨hb24, h⟩ := h
          replace h := jbd2_of h; obtain ⟨x25, μ26, hx25, h⟩ := h
          refine jr_V6_1 jf_96_59 hb24 (by omega) (r_Section_settled (by omega) _ _ _ _ _ hx25) (Nat.le_of_ble_eq_true rfl) jml_79 (Nat.le_of_ble_eq_true rfl) ?_
          refine jr_lstore jf_96_62 jml_96 (by decide) ?_
          refine jr_aload_n jf_96_64 rfl (jg2_ne rfl (jg2_ne rfl (jg2_ne rfl hl0))) ?_
          replace h := obd_of h; obtain ⟨x27, hx27, h⟩ := h
          refine jr_getA jf_96_65 hx27 ?_
          refine jr_iconst jf_96_68 jc_i_0 ?_
          refine jr_lload jf_96_69 (jg2_ne rfl jg2_same) ?_
          replace h := obd_of h; obtain ⟨a28, rfl, h⟩ := h
          replace h := jgd_of h; obtain ⟨hb29, h⟩ := h
          replace h := obd_of h; obtain ⟨μ30, hμ30, h⟩ := h
          refine jr_V6v_2 jf_96_71 hb29 (by omega) (r_Row_put (by omega) _ _ _ _ _ hμ30) (Nat.le_of_ble_eq_true rfl) jml_66 (Nat.le_of_ble_eq_true rfl) ?_
          refine jr_lload jf_96_74 jg2_same ?_
          obtain ⟨rfl, rfl⟩ := Prod.mk.inj (Option.some.inj h)
          exact jr_retJ jf_96_76 jmt_96
        · obtain ⟨hb, hx⟩ := jgd_of hx
          obtain hx := Option.some.inj hx
          refine jr_V8b_2 jf_96_56 hb0 hb (by omega) (r_Shorts_plus (by omega) _ _ _ _ _ hx) (Nat.le_of_ble_eq_true rfl) jml_78 (Nat.le_of_ble_eq_true rfl) ?_
          replace h := jgd_of h; obtain ⟨hb24, h⟩ := h
          replace h := jbd2_of h; obtain ⟨x25, μ26, hx25, h⟩ := h
          refine jr_V6_1 jf_96_59 hb24 (by omega) (r_Section_settled (by omega) _ _ _ _ _ hx25) (Nat.le_of_ble_eq_true rfl) jml_79 (Nat.le_of_ble_eq_true rfl) ?_
          refine jr_lstore jf_96_62 jml_96 (by decide) ?_
          refine jr_aload_n jf_96_64 rfl (jg2_ne rfl (jg2_ne rfl (jg2_ne rfl hl0))) ?_
          replace h := obd_of h; obtain ⟨x27, hx27, h⟩ := h
          refine jr_getA jf_96_65 hx27 ?_
          refine jr_iconst jf_96_68 jc_i_0 ?_
          refine jr_lload jf_96_69 (jg2_ne rfl jg2_same) ?_
          replace h := obd_of h; obtain ⟨a28, rfl, h⟩ := h
          replace h := jgd_of h; obtain ⟨hb29, h⟩ := h
          replace h := obd_of h; obtain ⟨μ30, hμ30, h⟩ := h
          refine jr_V6v_2 jf_96_71 hb29 (by omega) (r_Row_put (by omega) _ _ _ _ _ hμ30) (Nat.le_of_ble_eq_true rfl) jml_66 (Nat.le_of_ble_eq_true rfl) ?_
          refine jr_lload jf_96_74 jg2_same ?_
          obtain ⟨rfl, rfl⟩ := Prod.mk.inj (Option.some.inj h)
          exact jr_retJ jf_96_76 jmt_96
    · obtain ⟨hb, hx⟩ := jgd_of hx
      obtain hx := Option.some.inj hx
      refine jr_V8b_2 jf_96_28 hb0 hb (by omega) (r_Shorts_plus (by omega) _ _ _ _ _ hx) (Nat.le_of_ble_eq_true rfl) jml_78 (Nat.le_of_ble_eq_true rfl) ?_
      replace h := jgd_of h; obtain ⟨hb13, h⟩ := h
      replace h := jbd2_of h; obtain ⟨x14, μ15, hx14, h⟩ := h
      refine jr_V6_1 jf_96_31 hb13 (by omega) (r_Section_settled (by omega) _ _ _ _ _ hx14) (Nat.le_of_ble_eq_true rfl) jml_79 (Nat.le_of_ble_eq_true rfl) ?_
      refine jr_lstore jf_96_34 jml_96 (by decide) ?_
      refine jr_aload_n jf_96_36 rfl (jg2_ne rfl (jg2_ne rfl hl0)) ?_
      refine jr_aload_n jf_96_37 rfl (jg2_ne rfl (jg2_ne rfl hl0)) ?_
      replace h := obd_of h; obtain ⟨x16, hx16, h⟩ := h
      refine jr_getA jf_96_38 hx16 ?_
      refine jr_aload_n jf_96_41 rfl (jg2_ne rfl (jg2_ne rfl hl0)) ?_
      refine jr_iconst jf_96_42 jc_i_0 ?_
      refine jr_lload jf_96_43 jg2_same ?_
      replace h := jgd_of h; obtain ⟨hb17, h⟩ := h
      replace h := obd_of h; obtain ⟨x18, hx18, h⟩ := h
      refine jr_V6_2 jf_96_45 hb17 (by omega) (r_Section_times (by omega) _ _ _ _ _ hx18) (by simp only [jcats_cons, jcats_nil, cat_int, cat_long, cat_double, cat_float, cat_ref, rv_cat]; decide) jml_87 (Nat.le_of_ble_eq_true rfl) ?_
      refine jr_aload_n jf_96_48 rfl (jg2_ne rfl (jg2_ne rfl hl0)) ?_
      replace h := obd_of h; obtain ⟨x19, hx19, h⟩ := h
      refine jr_getA jf_96_49 hx19 ?_
      refine jr_lload_n jf_96_52 rfl (jg2_ne rfl jg2_same) ?_
      replace h := obd_of h; obtain ⟨a20, rfl, h⟩ := h
      replace h := obd_of h; obtain ⟨x21, hx21, h⟩ := h
      rcases ite_or hx21 with ⟨hb, hx⟩ | ⟨hb0, hx⟩
      · obtain hx := Option.some.inj hx
        refine jr_V8a_1 jf_96_53 hb (by omega) (r_Real_term (by omega) _ _ _ _ hx) (by simp only [jcats_cons, jcats_nil, cat_int, cat_long, cat_double, cat_float, cat_ref, rv_cat]; decide) jml_72 (Nat.le_of_ble_eq_true rfl) ?_
        replace h := obd_of h; obtain ⟨a22, rfl, h⟩ := h
        replace h := obd_of h; obtain ⟨x23, hx23, h⟩ := h
        rcases ite_or hx23 with ⟨hb, hx⟩ | ⟨hb0, hx⟩
        · refine jr_V8a_2 jf_96_56 hb (by omega) (r_Real_plus (by omega) _ _ _ _ _ hx) (Nat.le_of_ble_eq_true rfl) jml_74 (Nat.le_of_ble_eq_true rfl) ?_
          replace h := jgd_of h; obtain ⟨hb24, h⟩ := h
          replace h := jbd2_of h; obtain ⟨x25, μ26, hx25, h⟩ := h
          refine jr_V6_1 jf_96_59 hb24 (by omega) (r_Section_settled (by omega) _ _ _ _ _ hx25) (Nat.le_of_ble_eq_true rfl) jml_79 (Nat.le_of_ble_eq_true rfl) ?_
          refine jr_lstore jf_96_62 jml_96 (by decide) ?_
          refine jr_aload_n jf_96_64 rfl (jg2_ne rfl (jg2_ne rfl (jg2_ne rfl hl0))) ?_
          replace h := obd_of h; obtain ⟨x27, hx27, h⟩ := h
          refine jr_getA jf_96_65 hx27 ?_
          refine jr_iconst jf_96_68 jc_i_0 ?_
          refine jr_lload jf_96_69 (jg2_ne rfl jg2_same) ?_
          replace h := obd_of h; obtain ⟨a28, rfl, h⟩ := h
          replace h := jgd_of h; obtain ⟨hb29, h⟩ := h
          replace h := obd_of h; obtain ⟨μ30, hμ30, h⟩ := h
          refine jr_V6v_2 jf_96_71 hb29 (by omega) (r_Row_put (by omega) _ _ _ _ _ hμ30) (Nat.le_of_ble_eq_true rfl) jml_66 (Nat.le_of_ble_eq_true rfl) ?_
          refine jr_lload jf_96_74 jg2_same ?_
          obtain ⟨rfl, rfl⟩ := Prod.mk.inj (Option.some.inj h)
          exact jr_retJ jf_96_76 jmt_96
        · obtain ⟨hb, hx⟩ := jgd_of hx
          obtain hx := Option.some.inj hx
          refine jr_V8b_2 jf_96_56 hb0 hb (by omega) (r_Shorts_plus (by omega) _ _ _ _ _ hx) (Nat.le_of_ble_eq_true rfl) jml_78 (Nat.le_of_ble_eq_true rfl) ?_
          replace h := jgd_of h; obtain ⟨hb24, h⟩ := h
          replace h := jbd2_of h; obtain ⟨x25, μ26, hx25, h⟩ := h
          refine jr_V6_1 jf_96_59 hb24 (by omega) (r_Section_settled (by omega) _ _ _ _ _ hx25) (Nat.le_of_ble_eq_true rfl) jml_79 (Nat.le_of_ble_eq_true rfl) ?_
          refine jr_lstore jf_96_62 jml_96 (by decide) ?_
          refine jr_aload_n jf_96_64 rfl (jg2_ne rfl (jg2_ne rfl (jg2_ne rfl hl0))) ?_
          replace h := obd_of h; obtain ⟨x27, hx27, h⟩ := h
          refine jr_getA jf_96_65 hx27 ?_
          refine jr_iconst jf_96_68 jc_i_0 ?_
          refine jr_lload jf_96_69 (jg2_ne rfl jg2_same) ?_
          replace h := obd_of h; obtain ⟨a28, rfl, h⟩ := h
          replace h := jgd_of h; obtain ⟨hb29, h⟩ := h
          replace h := obd_of h; obtain ⟨μ30, hμ30, h⟩ := h
          refine jr_V6v_2 jf_96_71 hb29 (by omega) (r_Row_put (by omega) _ _ _ _ _ hμ30) (Nat.le_of_ble_eq_true rfl) jml_66 (Nat.le_of_ble_eq_true rfl) ?_
          refine jr_lload jf_96_74 jg2_same ?_
          obtain ⟨rfl, rfl⟩ := Prod.mk.inj (Option.some.inj h)
          exact jr_retJ jf_96_76 jmt_96
      · obtain ⟨hb, hx⟩ := jgd_of hx
        obtain hx := Option.some.inj hx
        refine jr_V8b_1 jf_96_53 hb0 hb (by omega) (r_Shorts_term (by omega) _ _ _ _ hx) (by simp only [jcats_cons, jcats_nil, cat_int, cat_long, cat_double, cat_float, cat_ref, rv_cat]; decide) jml_73 (Nat.le_of_ble_eq_true rfl) ?_
        replace h := obd_of h; obtain ⟨a22, rfl, h⟩ := h
        replace h := obd_of h; obtain ⟨x23, hx23, h⟩ := h
        rcases ite_or hx23 with ⟨hb, hx⟩ | ⟨hb0, hx⟩
        · refine jr_V8a_2 jf_96_56 hb (by omega) (r_Real_plus (by omega) _ _ _ _ _ hx) (Nat.le_of_ble_eq_true rfl) jml_74 (Nat.le_of_ble_eq_true rfl) ?_
          replace h := jgd_of h; obtain ⟨hb24, h⟩ := h
          replace h := jbd2_of h; obtain ⟨x25, μ26, hx25, h⟩ := h
          refine jr_V6_1 jf_96_59 hb24 (by omega) (r_Section_settled (by omega) _ _ _ _ _ hx25) (Nat.le_of_ble_eq_true rfl) jml_79 (Nat.le_of_ble_eq_true rfl) ?_
          refine jr_lstore jf_96_62 jml_96 (by decide) ?_
          refine jr_aload_n jf_96_64 rfl (jg2_ne rfl (jg2_ne rfl (jg2_ne rfl hl0))) ?_
          replace h := obd_of h; obtain ⟨x27, hx27, h⟩ := h
          refine jr_getA jf_96_65 hx27 ?_
          refine jr_iconst jf_96_68 jc_i_0 ?_
          refine jr_lload jf_96_69 (jg2_ne rfl jg2_same) ?_
          replace h := obd_of h; obtain ⟨a28, rfl, h⟩ := h
          replace h := jgd_of h; obtain ⟨hb29, h⟩ := h
          replace h := obd_of h; obtain ⟨μ30, hμ30, h⟩ := h
          refine jr_V6v_2 jf_96_71 hb29 (by omega) (r_Row_put (by omega) _ _ _ _ _ hμ30) (Nat.le_of_ble_eq_true rfl) jml_66 (Nat.le_of_ble_eq_true rfl) ?_
          refine jr_lload jf_96_74 jg2_same ?_
          obtain ⟨rfl, rfl⟩ := Prod.mk.inj (Option.some.inj h)
          exact jr_retJ jf_96_76 jmt_96
        · obtain ⟨hb, hx⟩ := jgd_of hx
          obtain hx := Option.some.inj hx
          refine jr_V8b_2 jf_96_56 hb0 hb (by omega) (r_Shorts_plus (by omega) _ _ _ _ _ hx) (Nat.le_of_ble_eq_true rfl) jml_78 (Nat.le_of_ble_eq_true rfl) ?_
          replace h := jgd_of h; obtain ⟨hb24, h⟩ := h
          replace h := jbd2_of h; obtain ⟨x25, μ26, hx25, h⟩ := h
          refine jr_V6_1 jf_96_59 hb24 (by omega) (r_Section_settled (by omega) _ _ _ _ _ hx25) (Nat.le_of_ble_eq_true rfl) jml_79 (Nat.le_of_ble_eq_true rfl) ?_
          refine jr_lstore jf_96_62 jml_96 (by decide) ?_
          refine jr_aload_n jf_96_64 rfl (jg2_ne rfl (jg2_ne rfl (jg2_ne rfl hl0))) ?_
          replace h := obd_of h; obtain ⟨x27, hx27, h⟩ := h
          refine jr_getA jf_96_65 hx27 ?_
          refine jr_iconst jf_96_68 jc_i_0 ?_
          refine jr_lload jf_96_69 (jg2_ne rfl jg2_same) ?_
          replace h := obd_of h; obtain ⟨a28, rfl, h⟩ := h
          replace h := jgd_of h; obtain ⟨hb29, h⟩ := h
          replace h := obd_of h; obtain ⟨μ30, hμ30, h⟩ := h
          refine jr_V6v_2 jf_96_71 hb29 (by omega) (r_Row_put (by omega) _ _ _ _ _ hμ30) (Nat.le_of_ble_eq_true rfl) jml_66 (Nat.le_of_ble_eq_true rfl) ?_
          refine jr_lload jf_96_74 jg2_same ?_
          obtain ⟨rfl, rfl⟩ := Prod.mk.inj (Option.some.inj h)
          exact jr_retJ jf_96_76 jmt_96
set_option maxRecDepth 10000 in
set_option maxHeartbeats 4000000 in
theorem r_Section_pass {B : Nat} {SA : Nat → Nat} {d : Nat} (hd : 4 ≤ d) : ∀ (v0 : Nat) (v1 : Int64) (μ : JMem) (r : Int64) (μ9 : JMem), g_Section_pass B v0 v1 μ = some (r, μ9) → jR B SA d m_Section_pass 0 (lv_args 0 [.ref v0, .long v1]) [] μ (some (.long r)) μ9 := by
  intro v0 v1 μ r μ9 h
  exact r_Section_pass_e hd (lv_args 0 _) _ _ _ _ _ (by simp [lv_args, jget, rv_cat, cat_int, cat_long, cat_double, cat_float, cat_ref]) (by simp [lv_args, jget, rv_cat, cat_int, cat_long, cat_double, cat_float, cat_ref]) h
/-! FilterBench$Section.peak(J)J -/
set_option maxRecDepth 10000 in
set_option maxHeartbeats 4000000 in
theorem r_Section_peak_47 {B : Nat} {SA : Nat → Nat} {d : Nat} (hd : 4 ≤ d) : ∀ (L : JLoc) (v0 : Nat) (s0 : Int64) (μ : JMem) (r : Int64) (μ9 : JMem), jget L 0 = .ref v0 → g_Section_peak_47 B v0 s0 μ = some (r, μ9) → jR B SA d m_Section_peak 47 L [.long s0] μ (some (.long r)) μ9 := by
  intro L v0 s0 μ r μ9 hl0 h
  unfold g_Section_peak_47 at h
  refine jr_lstore jf_111_47 jml_111 (by decide) ?_
  refine jr_aload_n jf_111_49 rfl (jg2_ne rfl hl0) ?_
  replace h := obd_of h; obtain ⟨x1, hx1, h⟩ := h
  refine jr_getA jf_111_50 hx1 ?_
  refine jr_iconst jf_111_53 jc_i_0 ?_
  refine jr_lload jf_111_54 jg2_same ?_
  replace h := obd_of h; obtain ⟨a2, rfl, h⟩ := h
  replace h := jgd_of h; obtain ⟨hb3, h⟩ := h
  replace h := obd_of h; obtain ⟨μ4, hμ4, h⟩ := h
  refine jr_V6v_2 jf_111_56 hb3 (by omega) (r_Row_put (by omega) _ _ _ _ _ hμ4) (Nat.le_of_ble_eq_true rfl) jml_66 (Nat.le_of_ble_eq_true rfl) ?_
  refine jr_lload jf_111_59 jg2_same ?_
  obtain ⟨rfl, rfl⟩ := Prod.mk.inj (Option.some.inj h)
  exact jr_retJ jf_111_61 jmt_111
set_option maxRecDepth 10000 in
set_option maxHeartbeats 4000000 in
theorem r_Section_peak_e {B : Nat} {SA : Nat → Nat} {d : Nat} (hd : 4 ≤ d) : ∀ (L : JLoc) (v0 : Nat) (v1 : Int64) (μ : JMem) (r : Int64) (μ9 : JMem), jget L 0 = .ref v0 → jget L 1 = .long v1 → g_Section_peak B v0 v1 μ = some (r, μ9) → jR B SA d m_Section_peak 0 L [] μ (some (.long r)) μ9 := by
  intro L v0 v1 μ r μ9 hl0 hl1 h
  unfold g_Section_peak at h
  refine jr_aload_n jf_111_0 rfl hl0 ?_
  replace h := obd_of h; obtain ⟨x1, hx1, h⟩ := h
  refine jr_getA jf_111_1 hx1 ?_
  refine jr_lload_n jf_111_4 rfl hl1 ?_
  replace h := obd_of h; obtain ⟨a2, rfl, h⟩ := h
  replace h := obd_of h; obtain ⟨x3, hx3, h⟩ := h
  rcases ite_or hx3 with ⟨hb, hx⟩ | ⟨hb0, hx⟩
  · refine jr_V8a_1 jf_111_5 hb (by omega) (r_Real_sizeOf (by omega) _ _ _ _ hx) (Nat.le_of_ble_eq_true rfl) jml_31 (Nat.le_of_ble_eq_true rfl) ?_
    refine jr_lstore_n jf_111_8 rfl jml_111 (by decide) ?_
    refine jr_aload_n jf_111_9 rfl (jg2_ne rfl hl0) ?_
    replace h := obd_of h; obtain ⟨x4, hx4, h⟩ := h
    refine jr_getA jf_111_10 hx4 ?_
    refine jr_iconst jf_111_13 jc_i_0 ?_
    replace h := obd_of h; obtain ⟨a5, rfl, h⟩ := h
    replace h := jgd_of h; obtain ⟨hb6, h⟩ := h
    replace h := obd_of h; obtain ⟨x7, hx7, h⟩ := h
    refine jr_V6_1 jf_111_14 hb6 (by omega) (r_Row_at (by omega) _ _ _ _ hx7) (Nat.le_of_ble_eq_true rfl) jml_38 (Nat.le_of_ble_eq_true rfl) ?_
    refine jr_lstore jf_111_17 jml_111 (by decide) ?_
    refine jr_aload_n jf_111_19 rfl (jg2_ne rfl (jg2_ne rfl hl0)) ?_
    replace h := obd_of h; obtain ⟨x8, hx8, h⟩ := h
    refine jr_getA jf_111_20 hx8 ?_
    refine jr_lload_n jf_111_23 rfl (jg2_ne rfl jg2_same) ?_
    refine jr_lload jf_111_24 jg2_same ?_
    replace h := obd_of h; obtain ⟨a9, rfl, h⟩ := h
    replace h := obd_of h; obtain ⟨x10, hx10, h⟩ := h
    rcases ite_or hx10 with ⟨hb, hx⟩ | ⟨hb0, hx⟩
    · refine jr_V9a_2 jf_111_26 hb (by omega) (r_Numbers_above (by omega) _ _ _ _ _ hx) (Nat.le_of_ble_eq_true rfl) jml_103 (Nat.le_of_ble_eq_true rfl) ?_
      replace h := ite_or h; rcases h with ⟨hc, h⟩ | ⟨hc, h⟩
      · refine jr_ifz_eq_f jf_111_29 hc ?_
        refine jr_lload_n jf_111_32 rfl (jg2_ne rfl jg2_same) ?_
        refine jr_goto jf_111_33 ?_
        exact r_Section_peak_47 hd _ _ _ _ _ _ (jg2_ne rfl (jg2_ne rfl hl0)) h
      · refine jr_ifz_eq_t jf_111_29 hc ?_
        refine jr_aload_n jf_111_36 rfl (jg2_ne rfl (jg2_ne rfl hl0)) ?_
        refine jr_aload_n jf_111_37 rfl (jg2_ne rfl (jg2_ne rfl hl0)) ?_
        refine jr_iconst jf_111_38 jc_i_0 ?_
        refine jr_lload jf_111_39 jg2_same ?_
        replace h := jgd_of h; obtain ⟨hb11, h⟩ := h
        replace h := obd_of h; obtain ⟨x12, hx12, h⟩ := h
        refine jr_V6_2 jf_111_41 hb11 (by omega) (r_Section_times (by omega) _ _ _ _ _ hx12) (Nat.le_of_ble_eq_true rfl) jml_87 (Nat.le_of_ble_eq_true rfl) ?_
        replace h := jgd_of h; obtain ⟨hb13, h⟩ := h
        replace h := jbd2_of h; obtain ⟨x14, μ15, hx14, h⟩ := h
        refine jr_V6_1 jf_111_44 hb13 (by omega) (r_Section_settled (by omega) _ _ _ _ _ hx14) (Nat.le_of_ble_eq_true rfl) jml_79 (Nat.le_of_ble_eq_true rfl) ?_
        exact r_Section_peak_47 hd _ _ _ _ _ _ (jg2_ne rfl (jg2_ne rfl hl0)) h
    · obtain ⟨hb, hx⟩ := jgd_of hx
      refine jr_V9b_2 jf_111_26 hb0 hb (by omega) (r_Numbers_above (by omega) _ _ _ _ _ hx) (Nat.le_of_ble_eq_true rfl) jml_103 (Nat.le_of_ble_eq_true rfl) ?_
      replace h := ite_or h; rcases h with ⟨hc, h⟩ | ⟨hc, h⟩
      · refine jr_ifz_eq_f jf_111_29 hc ?_
        refine jr_lload_n jf_111_32 rfl (jg2_ne rfl jg2_same) ?_
        refine jr_goto jf_111_33 ?_
        exact r_Section_peak_47 hd _ _ _ _ _ _ (jg2_ne rfl (jg2_ne rfl hl0)) h
      · refine jr_ifz_eq_t jf_111_29 hc ?_
        refine jr_aload_n jf_111_36 rfl (jg2_ne rfl (jg2_ne rfl hl0)) ?_
        refine jr_aload_n jf_111_37 rfl (jg2_ne rfl (jg2_ne rfl hl0)) ?_
        refine jr_iconst jf_111_38 jc_i_0 ?_
        refine jr_lload jf_111_39 jg2_same ?_
        replace h := jgd_of h; obtain ⟨hb11, h⟩ := h
        replace h := obd_of h; obtain ⟨x12, hx12, h⟩ := h
        refine jr_V6_2 jf_111_41 hb11 (by omega) (r_Section_times (by omega) _ _ _ _ _ hx12) (Nat.le_of_ble_eq_true rfl) jml_87 (Nat.le_of_ble_eq_true rfl) ?_
        replace h := jgd_of h; obtain ⟨hb13, h⟩ := h
        replace h := jbd2_of h; obtain ⟨x14, μ15, hx14, h⟩ := h
        refine jr_V6_1 jf_111_44 hb13 (by omega) (r_Section_settled (by omega) _ _ _ _ _ hx14) (Nat.le_of_ble_eq_true rfl) jml_79 (Nat.le_of_ble_eq_true rfl) ?_
        exact r_Section_peak_47 hd _ _ _ _ _ _ (jg2_ne rfl (jg2_ne rfl hl0)) h
  · obtain ⟨hb, hx⟩ := jgd_of hx
    refine jr_V8b_1 jf_111_5 hb0 hb (by omega) (r_Shorts_sizeOf (by omega) _ _ _ _ hx) (Nat.le_of_ble_eq_true rfl) jml_110 (Nat.le_of_ble_eq_true rfl) ?_
    refine jr_lstore_n jf_111_8 rfl jml_111 (by decide) ?_
    refine jr_aload_n jf_111_9 rfl (jg2_ne rfl hl0) ?_
    replace h := obd_of h; obtain ⟨x4, hx4, h⟩ := h
    refine jr_getA jf_111_10 hx4 ?_
    refine jr_iconst jf_111_13 jc_i_0 ?_
    replace h := obd_of h; obtain ⟨a5, rfl, h⟩ := h
    replace h := jgd_of h; obtain ⟨hb6, h⟩ := h
    replace h := obd_of h; obtain ⟨x7, hx7, h⟩ := h
    refine jr_V6_1 jf_111_14 hb6 (by omega) (r_Row_at (by omega) _ _ _ _ hx7) (Nat.le_of_ble_eq_true rfl) jml_38 (Nat.le_of_ble_eq_true rfl) ?_
    refine jr_lstore jf_111_17 jml_111 (by decide) ?_
    refine jr_aload_n jf_111_19 rfl (jg2_ne rfl (jg2_ne rfl hl0)) ?_
    replace h := obd_of h; obtain ⟨x8, hx8, h⟩ := h
    refine jr_getA jf_111_20 hx8 ?_
    refine jr_lload_n jf_111_23 rfl (jg2_ne rfl jg2_same) ?_
    refine jr_lload jf_111_24 jg2_same ?_
    replace h := obd_of h; obtain ⟨a9, rfl, h⟩ := h
    replace h := obd_of h; obtain ⟨x10, hx10, h⟩ := h
    rcases ite_or hx10 with ⟨hb, hx⟩ | ⟨hb0, hx⟩
    · refine jr_V9a_2 jf_111_26 hb (by omega) (r_Numbers_above (by omega) _ _ _ _ _ hx) (Nat.le_of_ble_eq_true rfl) jml_103 (Nat.le_of_ble_eq_true rfl) ?_
      replace h := ite_or h; rcases h with ⟨hc, h⟩ | ⟨hc, h⟩
      · refine jr_ifz_eq_f jf_111_29 hc ?_
        refine jr_lload_n jf_111_32 rfl (jg2_ne rfl jg2_same) ?_
        refine jr_goto jf_111_33 ?_
        exact r_Section_peak_47 hd _ _ _ _ _ _ (jg2_ne rfl (jg2_ne rfl hl0)) h
      · refine jr_ifz_eq_t jf_111_29 hc ?_
        refine jr_aload_n jf_111_36 rfl (jg2_ne rfl (jg2_ne rfl hl0)) ?_
        refine jr_aload_n jf_111_37 rfl (jg2_ne rfl (jg2_ne rfl hl0)) ?_
        refine jr_iconst jf_111_38 jc_i_0 ?_
        refine jr_lload jf_111_39 jg2_same ?_
        replace h := jgd_of h; obtain ⟨hb11, h⟩ := h
        replace h := obd_of h; obtain ⟨x12, hx12, h⟩ := h
        refine jr_V6_2 jf_111_41 hb11 (by omega) (r_Section_times (by omega) _ _ _ _ _ hx12) (Nat.le_of_ble_eq_true rfl) jml_87 (Nat.le_of_ble_eq_true rfl) ?_
        replace h := jgd_of h; obtain ⟨hb13, h⟩ := h
        replace h := jbd2_of h; obtain ⟨x14, μ15, hx14, h⟩ := h
        refine jr_V6_1 jf_111_44 hb13 (by omega) (r_Section_settled (by omega) _ _ _ _ _ hx14) (Nat.le_of_ble_eq_true rfl) jml_79 (Nat.le_of_ble_eq_true rfl) ?_
        exact r_Section_peak_47 hd _ _ _ _ _ _ (jg2_ne rfl (jg2_ne rfl hl0)) h
    · obtain ⟨hb, hx⟩ := jgd_of hx
      refine jr_V9b_2 jf_111_26 hb0 hb (by omega) (r_Numbers_above (by omega) _ _ _ _ _ hx) (Nat.le_of_ble_eq_true rfl) jml_103 (Nat.le_of_ble_eq_true rfl) ?_
      replace h := ite_or h; rcases h with ⟨hc, h⟩ | ⟨hc, h⟩
      · refine jr_ifz_eq_f jf_111_29 hc ?_
        refine jr_lload_n jf_111_32 rfl (jg2_ne rfl jg2_same) ?_
        refine jr_goto jf_111_33 ?_
        exact r_Section_peak_47 hd _ _ _ _ _ _ (jg2_ne rfl (jg2_ne rfl hl0)) h
      · refine jr_ifz_eq_t jf_111_29 hc ?_
        refine jr_aload_n jf_111_36 rfl (jg2_ne rfl (jg2_ne rfl hl0)) ?_
        refine jr_aload_n jf_111_37 rfl (jg2_ne rfl (jg2_ne rfl hl0)) ?_
        refine jr_iconst jf_111_38 jc_i_0 ?_
        refine jr_lload jf_111_39 jg2_same ?_
        replace h := jgd_of h; obtain ⟨hb11, h⟩ := h
        replace h := obd_of h; obtain ⟨x12, hx12, h⟩ := h
        refine jr_V6_2 jf_111_41 hb11 (by omega) (r_Section_times (by omega) _ _ _ _ _ hx12) (Nat.le_of_ble_eq_true rfl) jml_87 (Nat.le_of_ble_eq_true rfl) ?_
        replace h := jgd_of h; obtain ⟨hb13, h⟩ := h
        replace h := jbd2_of h; obtain ⟨x14, μ15, hx14, h⟩ := h
        refine jr_V6_1 jf_111_44 hb13 (by omega) (r_Section_settled (by omega) _ _ _ _ _ hx14) (Nat.le_of_ble_eq_true rfl) jml_79 (Nat.le_of_ble_eq_true rfl) ?_
        exact r_Section_peak_47 hd _ _ _ _ _ _ (jg2_ne rfl (jg2_ne rfl hl0)) h
set_option maxRecDepth 10000 in
set_option maxHeartbeats 4000000 in
theorem r_Section_peak {B : Nat} {SA : Nat → Nat} {d : Nat} (hd : 4 ≤ d) : ∀ (v0 : Nat) (v1 : Int64) (μ : JMem) (r : Int64) (μ9 : JMem), g_Section_peak B v0 v1 μ = some (r, μ9) → jR B SA d m_Section_peak 0 (lv_args 0 [.ref v0, .long v1]) [] μ (some (.long r)) μ9 := by
  intro v0 v1 μ r μ9 h
  exact r_Section_peak_e hd (lv_args 0 _) _ _ _ _ _ (by simp [lv_args, jget, rv_cat, cat_int, cat_long, cat_double, cat_float, cat_ref]) (by simp [lv_args, jget, rv_cat, cat_int, cat_long, cat_double, cat_float, cat_ref]) h
/-! FilterBench$Section.pole(J)J -/
set_option maxRecDepth 10000 in
set_option maxHeartbeats 4000000 in
theorem r_Section_pole_e {B : Nat} {SA : Nat → Nat} {d : Nat} (hd : 4 ≤ d) : ∀ (L : JLoc) (v0 : Nat) (v1 : Int64) (μ : JMem) (r : Int64) (μ9 : JMem), jget L 0 = .ref v0 → jget L 1 = .long v1 → g_Section_pole B v0 v1 μ = some (r, μ9) → jR B SA d m_Section_pole 0 L [] μ (some (.long r)) μ9 := by
  intro L v0 v1 μ r μ9 hl0 hl1 h
  unfold g_Section_pole at h
  refine jr_aload_n jf_88_0 rfl hl0 ?_
  refine jr_aload_n jf_88_1 rfl hl0 ?_
  replace h := obd_of h; obtain ⟨x1, hx1, h⟩ := h
  refine jr_getA jf_88_2 hx1 ?_
  refine jr_aload_n jf_88_5 rfl hl0 ?_
  refine jr_iconst jf_88_6 jc_i_0 ?_
  refine jr_lload_n jf_88_7 rfl hl1 ?_
  replace h := jgd_of h; obtain ⟨hb2, h⟩ := h
  replace h := obd_of h; obtain ⟨x3, hx3, h⟩ := h
  refine jr_V6_2 jf_88_8 hb2 (by omega) (r_Section_times (by omega) _ _ _ _ _ hx3) (by simp only [jcats_cons, jcats_nil, cat_int, cat_long, cat_double, cat_float, cat_ref, rv_cat]; decide) jml_87 (Nat.le_of_ble_eq_true rfl) ?_
  refine jr_aload_n jf_88_11 rfl hl0 ?_
  refine jr_iconst jf_88_12 jc_i_1 ?_
  refine jr_aload_n jf_88_13 rfl hl0 ?_
  replace h := obd_of h; obtain ⟨x4, hx4, h⟩ := h
  refine jr_getA jf_88_14 hx4 ?_
  refine jr_iconst jf_88_17 jc_i_0 ?_
  replace h := obd_of h; obtain ⟨a5, rfl, h⟩ := h
  replace h := jgd_of h; obtain ⟨hb6, h⟩ := h
  replace h := obd_of h; obtain ⟨x7, hx7, h⟩ := h
  refine jr_V6_1 jf_88_18 hb6 (by omega) (r_Row_at (by omega) _ _ _ _ hx7) (by simp only [jcats_cons, jcats_nil, cat_int, cat_long, cat_double, cat_float, cat_ref, rv_cat]; decide) jml_38 (Nat.le_of_ble_eq_true rfl) ?_
  replace h := jgd_of h; obtain ⟨hb8, h⟩ := h
  replace h := obd_of h; obtain ⟨x9, hx9, h⟩ := h
  refine jr_V6_2 jf_88_21 hb8 (by omega) (r_Section_times (by omega) _ _ _ _ _ hx9) (by simp only [jcats_cons, jcats_nil, cat_int, cat_long, cat_double, cat_float, cat_ref, rv_cat]; decide) jml_87 (Nat.le_of_ble_eq_true rfl) ?_
  replace h := obd_of h; obtain ⟨a10, rfl, h⟩ := h
  replace h := obd_of h; obtain ⟨x11, hx11, h⟩ := h
  rcases ite_or hx11 with ⟨hb, hx⟩ | ⟨hb0, hx⟩
  · refine jr_V8a_2 jf_88_24 hb (by omega) (r_Real_plus (by omega) _ _ _ _ _ hx) (Nat.le_of_ble_eq_true rfl) jml_74 (Nat.le_of_ble_eq_true rfl) ?_
    replace h := jgd_of h; obtain ⟨hb12, h⟩ := h
    replace h := jbd2_of h; obtain ⟨x13, μ14, hx13, h⟩ := h
    refine jr_V6_1 jf_88_27 hb12 (by omega) (r_Section_settled (by omega) _ _ _ _ _ hx13) (Nat.le_of_ble_eq_true rfl) jml_79 (Nat.le_of_ble_eq_true rfl) ?_
    refine jr_lstore_n jf_88_30 rfl jml_88 (by decide) ?_
    refine jr_aload_n jf_88_31 rfl (jg2_ne rfl hl0) ?_
    replace h := obd_of h; obtain ⟨x15, hx15, h⟩ := h
    refine jr_getA jf_88_32 hx15 ?_
    refine jr_iconst jf_88_35 jc_i_0 ?_
    refine jr_lload_n jf_88_36 rfl jg2_same ?_
    replace h := obd_of h; obtain ⟨a16, rfl, h⟩ := h
    replace h := jgd_of h; obtain ⟨hb17, h⟩ := h
    replace h := obd_of h; obtain ⟨μ18, hμ18, h⟩ := h
    refine jr_V6v_2 jf_88_37 hb17 (by omega) (r_Row_put (by omega) _ _ _ _ _ hμ18) (Nat.le_of_ble_eq_true rfl) jml_66 (Nat.le_of_ble_eq_true rfl) ?_
    refine jr_lload_n jf_88_40 rfl jg2_same ?_
    obtain ⟨rfl, rfl⟩ := Prod.mk.inj (Option.some.inj h)
    exact jr_retJ jf_88_41 jmt_88
  · obtain ⟨hb, hx⟩ := jgd_of hx
    obtain hx := Option.some.inj hx
    refine jr_V8b_2 jf_88_24 hb0 hb (by omega) (r_Shorts_plus (by omega) _ _ _ _ _ hx) (Nat.le_of_ble_eq_true rfl) jml_78 (Nat.le_of_ble_eq_true rfl) ?_
    replace h := jgd_of h; obtain ⟨hb12, h⟩ := h
    replace h := jbd2_of h; obtain ⟨x13, μ14, hx13, h⟩ := h
    refine jr_V6_1 jf_88_27 hb12 (by omega) (r_Section_settled (by omega) _ _ _ _ _ hx13) (Nat.le_of_ble_eq_true rfl) jml_79 (Nat.le_of_ble_eq_true rfl) ?_
    refine jr_lstore_n jf_88_30 rfl jml_88 (by decide) ?_
    refine jr_aload_n jf_88_31 rfl (jg2_ne rfl hl0) ?_
    replace h := obd_of h; obtain ⟨x15, hx15, h⟩ := h
    refine jr_getA jf_88_32 hx15 ?_
    refine jr_iconst jf_88_35 jc_i_0 ?_
    refine jr_lload_n jf_88_36 rfl jg2_same ?_
    replace h := obd_of h; obtain ⟨a16, rfl, h⟩ := h
    replace h := jgd_of h; obtain ⟨hb17, h⟩ := h
    replace h := obd_of h; obtain ⟨μ18, hμ18, h⟩ := h
    refine jr_V6v_2 jf_88_37 hb17 (by omega) (r_Row_put (by omega) _ _ _ _ _ hμ18) (Nat.le_of_ble_eq_true rfl) jml_66 (Nat.le_of_ble_eq_true rfl) ?_
    refine jr_lload_n jf_88_40 rfl jg2_same ?_
    obtain ⟨rfl, rfl⟩ := Prod.mk.inj (Option.some.inj h)
    exact jr_retJ jf_88_41 jmt_88
set_option maxRecDepth 10000 in
set_option maxHeartbeats 4000000 in
theorem r_Section_pole {B : Nat} {SA : Nat → Nat} {d : Nat} (hd : 4 ≤ d) : ∀ (v0 : Nat) (v1 : Int64) (μ : JMem) (r : Int64) (μ9 : JMem), g_Section_pole B v0 v1 μ = some (r, μ9) → jR B SA d m_Section_pole 0 (lv_args 0 [.ref v0, .long v1]) [] μ (some (.long r)) μ9 := by
  intro v0 v1 μ r μ9 h
  exact r_Section_pole_e hd (lv_args 0 _) _ _ _ _ _ (by simp [lv_args, jget, rv_cat, cat_int, cat_long, cat_double, cat_float, cat_ref]) (by simp [lv_args, jget, rv_cat, cat_int, cat_long, cat_double, cat_float, cat_ref]) h
/-! FilterBench$Section.second(J)J -/
set_option maxRecDepth 10000 in
set_option maxHeartbeats 4000000 in
theorem r_Section_second_e {B : Nat} {SA : Nat → Nat} {d : Nat} (hd : 4 ≤ d) : ∀ (L : JLoc) (v0 : Nat) (v1 : Int64) (μ : JMem) (r : Int64) (μ9 : JMem), jget L 0 = .ref v0 → jget L 1 = .long v1 → g_Section_second B v0 v1 μ = some (r, μ9) → jR B SA d m_Section_second 0 L [] μ (some (.long r)) μ9 := by
  intro L v0 v1 μ r μ9 hl0 hl1 h
  unfold g_Section_second at h
  refine jr_aload_n jf_94_0 rfl hl0 ?_
  replace h := obd_of h; obtain ⟨x1, hx1, h⟩ := h
  refine jr_getA jf_94_1 hx1 ?_
  refine jr_iconst jf_94_4 jc_i_0 ?_
  replace h := obd_of h; obtain ⟨a2, rfl, h⟩ := h
  replace h := jgd_of h; obtain ⟨hb3, h⟩ := h
  replace h := obd_of h; obtain ⟨x4, hx4, h⟩ := h
  refine jr_V6_1 jf_94_5 hb3 (by omega) (r_Row_at (by omega) _ _ _ _ hx4) (Nat.le_of_ble_eq_true rfl) jml_38 (Nat.le_of_ble_eq_true rfl) ?_
  refine jr_lstore_n jf_94_8 rfl jml_94 (by decide) ?_
  refine jr_aload_n jf_94_9 rfl (jg2_ne rfl hl0) ?_
  replace h := obd_of h; obtain ⟨x5, hx5, h⟩ := h
  refine jr_getA jf_94_10 hx5 ?_
  refine jr_aload_n jf_94_13 rfl (jg2_ne rfl hl0) ?_
  replace h := obd_of h; obtain ⟨x6, hx6, h⟩ := h
  refine jr_getA jf_94_14 hx6 ?_
  refine jr_lload_n jf_94_17 rfl (jg2_ne rfl hl1) ?_
  replace h := obd_of h; obtain ⟨a7, rfl, h⟩ := h
  replace h := obd_of h; obtain ⟨x8, hx8, h⟩ := h
  rcases ite_or hx8 with ⟨hb, hx⟩ | ⟨hb0, hx⟩
  · obtain hx := Option.some.inj hx
    refine jr_V8a_1 jf_94_18 hb (by omega) (r_Real_term (by omega) _ _ _ _ hx) (by simp only [jcats_cons, jcats_nil, cat_int, cat_long, cat_double, cat_float, cat_ref, rv_cat]; decide) jml_72 (Nat.le_of_ble_eq_true rfl) ?_
    refine jr_aload_n jf_94_21 rfl (jg2_ne rfl hl0) ?_
    refine jr_iconst jf_94_22 jc_i_3 ?_
    refine jr_lload_n jf_94_23 rfl jg2_same ?_
    replace h := jgd_of h; obtain ⟨hb9, h⟩ := h
    replace h := obd_of h; obtain ⟨x10, hx10, h⟩ := h
    refine jr_V6_2 jf_94_24 hb9 (by omega) (r_Section_lessTimes (by omega) _ _ _ _ _ hx10) (by simp only [jcats_cons, jcats_nil, cat_int, cat_long, cat_double, cat_float, cat_ref, rv_cat]; decide) jml_90 (Nat.le_of_ble_eq_true rfl) ?_
    replace h := obd_of h; obtain ⟨a11, rfl, h⟩ := h
    replace h := obd_of h; obtain ⟨x12, hx12, h⟩ := h
    rcases ite_or hx12 with ⟨hb, hx⟩ | ⟨hb0, hx⟩
    · refine jr_V8a_2 jf_94_27 hb (by omega) (r_Real_plus (by omega) _ _ _ _ _ hx) (Nat.le_of_ble_eq_true rfl) jml_74 (Nat.le_of_ble_eq_true rfl) ?_
      refine jr_lstore jf_94_30 jml_94 (by decide) ?_
      refine jr_aload_n jf_94_32 rfl (jg2_ne rfl (jg2_ne rfl hl0)) ?_
      refine jr_aload_n jf_94_33 rfl (jg2_ne rfl (jg2_ne rfl hl0)) ?_
      replace h := obd_of h; obtain ⟨x13, hx13, h⟩ := h
      refine jr_getA jf_94_34 hx13 ?_
      refine jr_lload jf_94_37 jg2_same ?_
      refine jr_aload_n jf_94_39 rfl (jg2_ne rfl (jg2_ne rfl hl0)) ?_
      refine jr_iconst jf_94_40 jc_i_4 ?_
      refine jr_aload_n jf_94_41 rfl (jg2_ne rfl (jg2_ne rfl hl0)) ?_
      replace h := obd_of h; obtain ⟨x14, hx14, h⟩ := h
      refine jr_getA jf_94_42 hx14 ?_
      refine jr_iconst jf_94_45 jc_i_1 ?_
      replace h := obd_of h; obtain ⟨a15, rfl, h⟩ := h
      replace h := jgd_of h; obtain ⟨hb16, h⟩ := h
      replace h := obd_of h; obtain ⟨x17, hx17, h⟩ := h
      refine jr_V6_1 jf_94_46 hb16 (by omega) (r_Row_at (by omega) _ _ _ _ hx17) (by simp only [jcats_cons, jcats_nil, cat_int, cat_long, cat_double, cat_float, cat_ref, rv_cat]; decide) jml_38 (Nat.le_of_ble_eq_true rfl) ?_
      replace h := jgd_of h; obtain ⟨hb18, h⟩ := h
      replace h := obd_of h; obtain ⟨x19, hx19, h⟩ := h
      refine jr_V6_2 jf_94_49 hb18 (by omega) (r_Section_lessTimes (by omega) _ _ _ _ _ hx19) (by simp only [jcats_cons, jcats_nil, cat_int, cat_long, cat_double, cat_float, cat_ref, rv_cat]; decide) jml_90 (Nat.le_of_ble_eq_true rfl) ?_
      replace h := obd_of h; obtain ⟨a20, rfl, h⟩ := h
      replace h := obd_of h; obtain ⟨x21, hx21, h⟩ := h
      rcases ite_or hx21 with ⟨hb, hx⟩ | ⟨hb0, hx⟩
      · refine jr_V8a_2 jf_94_52 hb (by omega) (r_Real_plus (by omega) _ _ _ _ _ hx) (Nat.le_of_ble_eq_true rfl) jml_74 (Nat.le_of_ble_eq_true rfl) ?_
        replace h := jgd_of h; obtain ⟨hb22, h⟩ := h
        replace h := jbd2_of h; obtain ⟨x23, μ24, hx23, h⟩ := h
        refine jr_V6_1 jf_94_55 hb22 (by omega) (r_Section_settled (by omega) _ _ _ _ _ hx23) (Nat.le_of_ble_eq_true rfl) jml_79 (Nat.le_of_ble_eq_true rfl) ?_
        refine jr_lstore jf_94_58 jml_94 (by decide) ?_
        refine jr_aload_n jf_94_60 rfl (jg2_ne rfl (jg2_ne rfl (jg2_ne rfl hl0))) ?_
        replace h := obd_of h; obtain ⟨x25, hx25, h⟩ := h
        refine jr_getA jf_94_61 hx25 ?_
        refine jr_aload_n jf_94_64 rfl (jg2_ne rfl (jg2_ne rfl (jg2_ne rfl hl0))) ?_
        refine jr_iconst jf_94_65 jc_i_0 ?_
        refine jr_lload jf_94_66 jg2_same ?_
        replace h := jgd_of h; obtain ⟨hb26, h⟩ := h
        replace h := obd_of h; obtain ⟨x27, hx27, h⟩ := h
        refine jr_V6_2 jf_94_68 hb26 (by omega) (r_Section_times (by omega) _ _ _ _ _ hx27) (by simp only [jcats_cons, jcats_nil, cat_int, cat_long, cat_double, cat_float, cat_ref, rv_cat]; decide) jml_87 (Nat.le_of_ble_eq_true rfl) ?_
        refine jr_aload_n jf_94_71 rfl (jg2_ne rfl (jg2_ne rfl (jg2_ne rfl hl0))) ?_
        refine jr_iconst jf_94_72 jc_i_1 ?_
        refine jr_lload_n jf_94_73 rfl (jg2_ne rfl (jg2_ne rfl jg2_same)) ?_
        replace h := jgd_of h; obtain ⟨hb28, h⟩ := h
        replace h := obd_of h; obtain ⟨x29, hx29, h⟩ := h
        refine jr_V6_2 jf_94_74 hb28 (by omega) (r_Section_times (by omega) _ _ _ _ _ hx29) (by simp only [jcats_cons, jcats_nil, cat_int, cat_long, cat_double, cat_float, cat_ref, rv_cat]; decide) jml_87 (Nat.le_of_ble_eq_true rfl) ?_
        replace h := obd_of h; obtain ⟨a30, rfl, h⟩ := h
        replace h := obd_of h; obtain ⟨x31, hx31, h⟩ := h
        rcases ite_or hx31 with ⟨hb, hx⟩ | ⟨hb0, hx⟩
        · refine jr_V8a_2 jf_94_77 hb (by omega) (r_Real_plus (by omega) _ _ _ _ _ hx) (Nat.le_of_ble_eq_true rfl) jml_74 (Nat.le_of_ble_eq_true rfl) ?_
          refine jr_lstore jf_94_80 jml_94 (by decide) ?_
          refine jr_aload_n jf_94_82 rfl (jg2_ne rfl (jg2_ne rfl (jg2_ne rfl (jg2_ne rfl hl0)))) ?_
          refine jr_aload_n jf_94_83 rfl (jg2_ne rfl (jg2_ne rfl (jg2_ne rfl (jg2_ne rfl hl0)))) ?_
          replace h := obd_of h; obtain ⟨x32, hx32, h⟩ := h
          refine jr_getA jf_94_84 hx32 ?_
          refine jr_lload jf_94_87 jg2_same ?_
          refine jr_aload_n jf_94_89 rfl (jg2_ne rfl (jg2_ne rfl (jg2_ne rfl (jg2_ne rfl hl0)))) ?_
          refine jr_iconst jf_94_90 jc_i_2 ?_
          refine jr_aload_n jf_94_91 rfl (jg2_ne rfl (jg2_ne rfl (jg2_ne rfl (jg2_ne rfl hl0)))) ?_
          replace h := obd_of h; obtain ⟨x33, hx33, h⟩ := h
          refine jr_getA jf_94_92 hx33 ?_
          refine jr_iconst jf_94_95 jc_i_1 ?_
          replace h := obd_of h; obtain ⟨a34, rfl, h⟩ := h
          replace h := jgd_of h; obtain ⟨hb35, h⟩ := h
          replace h := obd_of h; obtain ⟨x36, hx36, h⟩ := h
          refine jr_V6_1 jf_94_96 hb35 (by omega) (r_Row_at (by omega) _ _ _ _ hx36) (by simp only [jcats_cons, jcats_nil, cat_int, cat_long, cat_double, cat_float, cat_ref, rv_cat]; decide) jml_38 (Nat.le_of_ble_eq_true rfl) ?_
          replace h := jgd_of h; obtain ⟨hb37, h⟩ := h
          replace h := obd_of h; obtain ⟨x38, hx38, h⟩ := h
          refine jr_V6_2 jf_94_99 hb37 (by omega) (r_Section_times (by omega) _ _ _ _ _ hx38) (by simp only [jcats_cons, jcats_nil, cat_int, cat_long, cat_double, cat_float, cat_ref, rv_cat]; decide) jml_87 (Nat.le_of_ble_eq_true rfl) ?_
          replace h := obd_of h; obtain ⟨a39, rfl, h⟩ := h
          replace h := obd_of h; obtain ⟨x40, hx40, h⟩ := h
          rcases ite_or hx40 with ⟨hb, hx⟩ | ⟨hb0, hx⟩
          · refine jr_V8a_2 jf_94_102 hb (by omega) (r_Real_plus (by omega) _ _ _ _ _ hx) (Nat.le_of_ble_eq_true rfl) jml_74 (Nat.le_of_ble_eq_true rfl) ?_
            replace h := jgd_of h; obtain ⟨hb41, h⟩ := h
            replace h := jbd2_of h; obtain ⟨x42, μ43, hx42, h⟩ := h
            refine jr_V6_1 jf_94_105 hb41 (by omega) (r_Section_settled (by omega) _ _ _ _ _ hx42) (Nat.le_of_ble_eq_true rfl) jml_79 (Nat.le_of_ble_eq_true rfl) ?_
            refine jr_lstore jf_94_108 jml_94 (by decide) ?_
            refine jr_aload_n jf_94_110 rfl (jg2_ne rfl (jg2_ne rfl (jg2_ne rfl (jg2_ne rfl (jg2_ne rfl hl0))))) ?_
            replace h := obd_of h; obtain ⟨x44, hx44, h⟩ := h
            refine jr_getA jf_94_111 hx44 ?_
            refine jr_iconst jf_94_114 jc_i_1 ?_
            refine jr_lload_n jf_94_115 rfl (jg2_ne rfl (jg2_ne rfl (jg2_ne rfl (jg2_ne rfl jg2_same)))) ?_
            replace h := obd_of h; obtain ⟨a45, rfl, h⟩ := h
            replace h := jgd_of h; obtain ⟨hb46, h⟩ := h
            replace h := obd_of h; obtain ⟨μ47, hμ47, h⟩ := h
            refine jr_V6v_2 jf_94_116 hb46 (by omega) (r_Row_put (by omega) _ _ _ _ _ hμ47) (Nat.le_of_ble_eq_true rfl) jml_66 (Nat.le_of_ble_eq_true rfl) ?_
            refine jr_aload_n jf_94_119 rfl (jg2_ne rfl (jg2_ne rfl (jg2_ne rfl (jg2_ne rfl (jg2_ne rfl hl0))))) ?_
            replace h := obd_of h; obtain ⟨x48, hx48, h⟩ := h
            refine jr_getA jf_94_120 hx48 ?_
            refine jr_iconst jf_94_123 jc_i_0 ?_
            refine jr_lload jf_94_124 (jg2_ne rfl (jg2_ne rfl jg2_same)) ?_
            replace h := obd_of h; obtain ⟨a49, rfl, h⟩ := h
            replace h := jgd_of h; obtain ⟨hb50, h⟩ := h
            replace h := obd_of h; obtain ⟨μ51, hμ51, h⟩ := h
            refine jr_V6v_2 jf_94_126 hb50 (by omega) (r_Row_put (by omega) _ _ _ _ _ hμ51) (Nat.le_of_ble_eq_true rfl) jml_66 (Nat.le_of_ble_eq_true rfl) ?_
            refine jr_lload jf_94_129 jg2_same ?_
            obtain ⟨rfl, rfl⟩ := Prod.mk.inj (Option.some.inj h)
            exact jr_retJ jf_94_131 jmt_94
          · obtain ⟨hb, hx⟩ := jgd_of hx
            obtain hx := Option.some.inj hx
            refine jr_V8b_2 jf_94_102 hb0 hb (by omega) (r_Shorts_plus (by omega) _ _ _ _ _ hx) (Nat.le_of_ble_eq_true rfl) jml_78 (Nat.le_of_ble_eq_true rfl) ?_
            replace h := jgd_of h; obtain ⟨hb41, h⟩ := h
            replace h := jbd2_of h; obtain ⟨x42, μ43, hx42, h⟩ := h
            refine jr_V6_1 jf_94_105 hb41 (by omega) (r_Section_settled (by omega) _ _ _ _ _ hx42) (Nat.le_of_ble_eq_true rfl) jml_79 (Nat.le_of_ble_eq_true rfl) ?_
            refine jr_lstore jf_94_108 jml_94 (by decide) ?_
            refine jr_aload_n jf_94_110 rfl (jg2_ne rfl (jg2_ne rfl (jg2_ne rfl (jg2_ne rfl (jg2_ne rfl hl0))))) ?_
            replace h := obd_of h; obtain ⟨x44, hx44, h⟩ := h
            refine jr_getA jf_94_111 hx44 ?_
            refine jr_iconst jf_94_114 jc_i_1 ?_
            refine jr_lload_n jf_94_115 rfl (jg2_ne rfl (jg2_ne rfl (jg2_ne rfl (jg2_ne rfl jg2_same)))) ?_
            replace h := obd_of h; obtain ⟨a45, rfl, h⟩ := h
            replace h := jgd_of h; obtain ⟨hb46, h⟩ := h
            replace h := obd_of h; obtain ⟨μ47, hμ47, h⟩ := h
            refine jr_V6v_2 jf_94_116 hb46 (by omega) (r_Row_put (by omega) _ _ _ _ _ hμ47) (Nat.le_of_ble_eq_true rfl) jml_66 (Nat.le_of_ble_eq_true rfl) ?_
            refine jr_aload_n jf_94_119 rfl (jg2_ne rfl (jg2_ne rfl (jg2_ne rfl (jg2_ne rfl (jg2_ne rfl hl0))))) ?_
            replace h := obd_of h; obtain ⟨x48, hx48, h⟩ := h
            refine jr_getA jf_94_120 hx48 ?_
            refine jr_iconst jf_94_123 jc_i_0 ?_
            refine jr_lload jf_94_124 (jg2_ne rfl (jg2_ne rfl jg2_same)) ?_
            replace h := obd_of h; obtain ⟨a49, rfl, h⟩ := h
            replace h := jgd_of h; obtain ⟨hb50, h⟩ := h
            replace h := obd_of h; obtain ⟨μ51, hμ51, h⟩ := h
            refine jr_V6v_2 jf_94_126 hb50 (by omega) (r_Row_put (by omega) _ _ _ _ _ hμ51) (Nat.le_of_ble_eq_true rfl) jml_66 (Nat.le_of_ble_eq_true rfl) ?_
            refine jr_lload jf_94_129 jg2_same ?_
            obtain ⟨rfl, rfl⟩ := Prod.mk.inj (Option.some.inj h)
            exact jr_retJ jf_94_131 jmt_94
        · obtain ⟨hb, hx⟩ := jgd_of hx
          obtain hx := Option.some.inj hx
          refine jr_V8b_2 jf_94_77 hb0 hb (by omega) (r_Shorts_plus (by omega) _ _ _ _ _ hx) (Nat.le_of_ble_eq_true rfl) jml_78 (Nat.le_of_ble_eq_true rfl) ?_
          refine jr_lstore jf_94_80 jml_94 (by decide) ?_
          refine jr_aload_n jf_94_82 rfl (jg2_ne rfl (jg2_ne rfl (jg2_ne rfl (jg2_ne rfl hl0)))) ?_
          refine jr_aload_n jf_94_83 rfl (jg2_ne rfl (jg2_ne rfl (jg2_ne rfl (jg2_ne rfl hl0)))) ?_
          replace h := obd_of h; obtain ⟨x32, hx32, h⟩ := h
          refine jr_getA jf_94_84 hx32 ?_
          refine jr_lload jf_94_87 jg2_same ?_
          refine jr_aload_n jf_94_89 rfl (jg2_ne rfl (jg2_ne rfl (jg2_ne rfl (jg2_ne rfl hl0)))) ?_
          refine jr_iconst jf_94_90 jc_i_2 ?_
          refine jr_aload_n jf_94_91 rfl (jg2_ne rfl (jg2_ne rfl (jg2_ne rfl (jg2_ne rfl hl0)))) ?_
          replace h := obd_of h; obtain ⟨x33, hx33, h⟩ := h
          refine jr_getA jf_94_92 hx33 ?_
          refine jr_iconst jf_94_95 jc_i_1 ?_
          replace h := obd_of h; obtain ⟨a34, rfl, h⟩ := h
          replace h := jgd_of h; obtain ⟨hb35, h⟩ := h
          replace h := obd_of h; obtain ⟨x36, hx36, h⟩ := h
          refine jr_V6_1 jf_94_96 hb35 (by omega) (r_Row_at (by omega) _ _ _ _ hx36) (by simp only [jcats_cons, jcats_nil, cat_int, cat_long, cat_double, cat_float, cat_ref, rv_cat]; decide) jml_38 (Nat.le_of_ble_eq_true rfl) ?_
          replace h := jgd_of h; obtain ⟨hb37, h⟩ := h
          replace h := obd_of h; obtain ⟨x38, hx38, h⟩ := h
          refine jr_V6_2 jf_94_99 hb37 (by omega) (r_Section_times (by omega) _ _ _ _ _ hx38) (by simp only [jcats_cons, jcats_nil, cat_int, cat_long, cat_double, cat_float, cat_ref, rv_cat]; decide) jml_87 (Nat.le_of_ble_eq_true rfl) ?_
          replace h := obd_of h; obtain ⟨a39, rfl, h⟩ := h
          replace h := obd_of h; obtain ⟨x40, hx40, h⟩ := h
          rcases ite_or hx40 with ⟨hb, hx⟩ | ⟨hb0, hx⟩
          · refine jr_V8a_2 jf_94_102 hb (by omega) (r_Real_plus (by omega) _ _ _ _ _ hx) (Nat.le_of_ble_eq_true rfl) jml_74 (Nat.le_of_ble_eq_true rfl) ?_
            replace h := jgd_of h; obtain ⟨hb41, h⟩ := h
            replace h := jbd2_of h; obtain ⟨x42, μ43, hx42, h⟩ := h
            refine jr_V6_1 jf_94_105 hb41 (by omega) (r_Section_settled (by omega) _ _ _ _ _ hx42) (Nat.le_of_ble_eq_true rfl) jml_79 (Nat.le_of_ble_eq_true rfl) ?_
            refine jr_lstore jf_94_108 jml_94 (by decide) ?_
            refine jr_aload_n jf_94_110 rfl (jg2_ne rfl (jg2_ne rfl (jg2_ne rfl (jg2_ne rfl (jg2_ne rfl hl0))))) ?_
            replace h := obd_of h; obtain ⟨x44, hx44, h⟩ := h
            refine jr_getA jf_94_111 hx44 ?_
            refine jr_iconst jf_94_114 jc_i_1 ?_
            refine jr_lload_n jf_94_115 rfl (jg2_ne rfl (jg2_ne rfl (jg2_ne rfl (jg2_ne rfl jg2_same)))) ?_
            replace h := obd_of h; obtain ⟨a45, rfl, h⟩ := h
            replace h := jgd_of h; obtain ⟨hb46, h⟩ := h
            replace h := obd_of h; obtain ⟨μ47, hμ47, h⟩ := h
            refine jr_V6v_2 jf_94_116 hb46 (by omega) (r_Row_put (by omega) _ _ _ _ _ hμ47) (Nat.le_of_ble_eq_true rfl) jml_66 (Nat.le_of_ble_eq_true rfl) ?_
            refine jr_aload_n jf_94_119 rfl (jg2_ne rfl (jg2_ne rfl (jg2_ne rfl (jg2_ne rfl (jg2_ne rfl hl0))))) ?_
            replace h := obd_of h; obtain ⟨x48, hx48, h⟩ := h
            refine jr_getA jf_94_120 hx48 ?_
            refine jr_iconst jf_94_123 jc_i_0 ?_
            refine jr_lload jf_94_124 (jg2_ne rfl (jg2_ne rfl jg2_same)) ?_
            replace h := obd_of h; obtain ⟨a49, rfl, h⟩ := h
            replace h := jgd_of h; obtain ⟨hb50, h⟩ := h
            replace h := obd_of h; obtain ⟨μ51, hμ51, h⟩ := h
            refine jr_V6v_2 jf_94_126 hb50 (by omega) (r_Row_put (by omega) _ _ _ _ _ hμ51) (Nat.le_of_ble_eq_true rfl) jml_66 (Nat.le_of_ble_eq_true rfl) ?_
            refine jr_lload jf_94_129 jg2_same ?_
            obtain ⟨rfl, rfl⟩ := Prod.mk.inj (Option.some.inj h)
            exact jr_retJ jf_94_131 jmt_94
          · obtain ⟨hb, hx⟩ := jgd_of hx
            obtain hx := Option.some.inj hx
            refine jr_V8b_2 jf_94_102 hb0 hb (by omega) (r_Shorts_plus (by omega) _ _ _ _ _ hx) (Nat.le_of_ble_eq_true rfl) jml_78 (Nat.le_of_ble_eq_true rfl) ?_
            replace h := jgd_of h; obtain ⟨hb41, h⟩ := h
            replace h := jbd2_of h; obtain ⟨x42, μ43, hx42, h⟩ := h
            refine jr_V6_1 jf_94_105 hb41 (by omega) (r_Section_settled (by omega) _ _ _ _ _ hx42) (Nat.le_of_ble_eq_true rfl) jml_79 (Nat.le_of_ble_eq_true rfl) ?_
            refine jr_lstore jf_94_108 jml_94 (by decide) ?_
            refine jr_aload_n jf_94_110 rfl (jg2_ne rfl (jg2_ne rfl (jg2_ne rfl (jg2_ne rfl (jg2_ne rfl hl0))))) ?_
            replace h := obd_of h; obtain ⟨x44, hx44, h⟩ := h
            refine jr_getA jf_94_111 hx44 ?_
            refine jr_iconst jf_94_114 jc_i_1 ?_
            refine jr_lload_n jf_94_115 rfl (jg2_ne rfl (jg2_ne rfl (jg2_ne rfl (jg2_ne rfl jg2_same)))) ?_
            replace h := obd_of h; obtain ⟨a45, rfl, h⟩ := h
            replace h := jgd_of h; obtain ⟨hb46, h⟩ := h
            replace h := obd_of h; obtain ⟨μ47, hμ47, h⟩ := h
            refine jr_V6v_2 jf_94_116 hb46 (by omega) (r_Row_put (by omega) _ _ _ _ _ hμ47) (Nat.le_of_ble_eq_true rfl) jml_66 (Nat.le_of_ble_eq_true rfl) ?_
            refine jr_aload_n jf_94_119 rfl (jg2_ne rfl (jg2_ne rfl (jg2_ne rfl (jg2_ne rfl (jg2_ne rfl hl0))))) ?_
            replace h := obd_of h; obtain ⟨x48, hx48, h⟩ := h
            refine jr_getA jf_94_120 hx48 ?_
            refine jr_iconst jf_94_123 jc_i_0 ?_
            refine jr_lload jf_94_124 (jg2_ne rfl (jg2_ne rfl jg2_same)) ?_
            replace h := obd_of h; obtain ⟨a49, rfl, h⟩ := h
            replace h := jgd_of h; obtain ⟨hb50, h⟩ := h
            replace h := obd_of h; obtain ⟨μ51, hμ51, h⟩ := h
            refine jr_V6v_2 jf_94_126 hb50 (by omega) (r_Row_put (by omega) _ _ _ _ _ hμ51) (Nat.le_of_ble_eq_true rfl) jml_66 (Nat.le_of_ble_eq_true rfl) ?_
            refine jr_lload jf_94_129 jg2_same ?_
            obtain ⟨rfl, rfl⟩ := Prod.mk.inj (Option.some.inj h)
            exact jr_retJ jf_94_131 jmt_94
      · obtain ⟨hb, hx⟩ := jgd_of hx
        obtain hx := Option.some.inj hx
        refine jr_V8b_2 jf_94_52 hb0 hb (by omega) (r_Shorts_plus (by omega) _ _ _ _ _ hx) (Nat.le_of_ble_eq_true rfl) jml_78 (Nat.le_of_ble_eq_true rfl) ?_
        replace h := jgd_of h; obtain ⟨hb22, h⟩ := h
        replace h := jbd2_of h; obtain ⟨x23, μ24, hx23, h⟩ := h
        refine jr_V6_1 jf_94_55 hb22 (by omega) (r_Section_settled (by omega) _ _ _ _ _ hx23) (Nat.le_of_ble_eq_true rfl) jml_79 (Nat.le_of_ble_eq_true rfl) ?_
        refine jr_lstore jf_94_58 jml_94 (by decide) ?_
        refine jr_aload_n jf_94_60 rfl (jg2_ne rfl (jg2_ne rfl (jg2_ne rfl hl0))) ?_
        replace h := obd_of h; obtain ⟨x25, hx25, h⟩ := h
        refine jr_getA jf_94_61 hx25 ?_
        refine jr_aload_n jf_94_64 rfl (jg2_ne rfl (jg2_ne rfl (jg2_ne rfl hl0))) ?_
        refine jr_iconst jf_94_65 jc_i_0 ?_
        refine jr_lload jf_94_66 jg2_same ?_
        replace h := jgd_of h; obtain ⟨hb26, h⟩ := h
        replace h := obd_of h; obtain ⟨x27, hx27, h⟩ := h
        refine jr_V6_2 jf_94_68 hb26 (by omega) (r_Section_times (by omega) _ _ _ _ _ hx27) (by simp only [jcats_cons, jcats_nil, cat_int, cat_long, cat_double, cat_float, cat_ref, rv_cat]; decide) jml_87 (Nat.le_of_ble_eq_true rfl) ?_
        refine jr_aload_n jf_94_71 rfl (jg2_ne rfl (jg2_ne rfl (jg2_ne rfl hl0))) ?_
        refine jr_iconst jf_94_72 jc_i_1 ?_
        refine jr_lload_n jf_94_73 rfl (jg2_ne rfl (jg2_ne rfl jg2_same)) ?_
        replace h := jgd_of h; obtain ⟨hb28, h⟩ := h
        replace h := obd_of h; obtain ⟨x29, hx29, h⟩ := h
        refine jr_V6_2 jf_94_74 hb28 (by omega) (r_Section_times (by omega) _ _ _ _ _ hx29) (by simp only [jcats_cons, jcats_nil, cat_int, cat_long, cat_double, cat_float, cat_ref, rv_cat]; decide) jml_87 (Nat.le_of_ble_eq_true rfl) ?_
        replace h := obd_of h; obtain ⟨a30, rfl, h⟩ := h
        replace h := obd_of h; obtain ⟨x31, hx31, h⟩ := h
        rcases ite_or hx31 with ⟨hb, hx⟩ | ⟨hb0, hx⟩
        · refine jr_V8a_2 jf_94_77 hb (by omega) (r_Real_plus (by omega) _ _ _ _ _ hx) (Nat.le_of_ble_eq_true rfl) jml_74 (Nat.le_of_ble_eq_true rfl) ?_
          refine jr_lstore jf_94_80 jml_94 (by decide) ?_
          refine jr_aload_n jf_94_82 rfl (jg2_ne rfl (jg2_ne rfl (jg2_ne rfl (jg2_ne rfl hl0)))) ?_
          refine jr_aload_n jf_94_83 rfl (jg2_ne rfl (jg2_ne rfl (jg2_ne rfl (jg2_ne rfl hl0)))) ?_
          replace h := obd_of h; obtain ⟨x32, hx32, h⟩ := h
          refine jr_getA jf_94_84 hx32 ?_
          refine jr_lload jf_94_87 jg2_same ?_
          refine jr_aload_n jf_94_89 rfl (jg2_ne rfl (jg2_ne rfl (jg2_ne rfl (jg2_ne rfl hl0)))) ?_
          refine jr_iconst jf_94_90 jc_i_2 ?_
          refine jr_aload_n jf_94_91 rfl (jg2_ne rfl (jg2_ne rfl (jg2_ne rfl (jg2_ne rfl hl0)))) ?_
          replace h := obd_of h; obtain ⟨x33, hx33, h⟩ := h
          refine jr_getA jf_94_92 hx33 ?_
          refine jr_iconst jf_94_95 jc_i_1 ?_
          replace h := obd_of h; obtain ⟨a34, rfl, h⟩ := h
          replace h := jgd_of h; obtain ⟨hb35, h⟩ := h
          replace h := obd_of h; obtain ⟨x36, hx36, h⟩ := h
          refine jr_V6_1 jf_94_96 hb35 (by omega) (r_Row_at (by omega) _ _ _ _ hx36) (by simp only [jcats_cons, jcats_nil, cat_int, cat_long, cat_double, cat_float, cat_ref, rv_cat]; decide) jml_38 (Nat.le_of_ble_eq_true rfl) ?_
          replace h := jgd_of h; obtain ⟨hb37, h⟩ := h
          replace h := obd_of h; obtain ⟨x38, hx38, h⟩ := h
          refine jr_V6_2 jf_94_99 hb37 (by omega) (r_Section_times (by omega) _ _ _ _ _ hx38) (by simp only [jcats_cons, jcats_nil, cat_int, cat_long, cat_double, cat_float, cat_ref, rv_cat]; decide) jml_87 (Nat.le_of_ble_eq_true rfl) ?_
          replace h := obd_of h; obtain ⟨a39, rfl, h⟩ := h
          replace h := obd_of h; obtain ⟨x40, hx40, h⟩ := h
          rcases ite_or hx40 with ⟨hb, hx⟩ | ⟨hb0, hx⟩
          · refine jr_V8a_2 jf_94_102 hb (by omega) (r_Real_plus (by omega) _ _ _ _ _ hx) (Nat.le_of_ble_eq_true rfl) jml_74 (Nat.le_of_ble_eq_true rfl) ?_
            replace h := jgd_of h; obtain ⟨hb41, h⟩ := h
            replace h := jbd2_of h; obtain ⟨x42, μ43, hx42, h⟩ := h
            refine jr_V6_1 jf_94_105 hb41 (by omega) (r_Section_settled (by omega) _ _ _ _ _ hx42) (Nat.le_of_ble_eq_true rfl) jml_79 (Nat.le_of_ble_eq_true rfl) ?_
            refine jr_lstore jf_94_108 jml_94 (by decide) ?_
            refine jr_aload_n jf_94_110 rfl (jg2_ne rfl (jg2_ne rfl (jg2_ne rfl (jg2_ne rfl (jg2_ne rfl hl0))))) ?_
            replace h := obd_of h; obtain ⟨x44, hx44, h⟩ := h
            refine jr_getA jf_94_111 hx44 ?_
            refine jr_iconst jf_94_114 jc_i_1 ?_
            refine jr_lload_n jf_94_115 rfl (jg2_ne rfl (jg2_ne rfl (jg2_ne rfl (jg2_ne rfl jg2_same)))) ?_
            replace h := obd_of h; obtain ⟨a45, rfl, h⟩ := h
            replace h := jgd_of h; obtain ⟨hb46, h⟩ := h
            replace h := obd_of h; obtain ⟨μ47, hμ47, h⟩ := h
            refine jr_V6v_2 jf_94_116 hb46 (by omega) (r_Row_put (by omega) _ _ _ _ _ hμ47) (Nat.le_of_ble_eq_true rfl) jml_66 (Nat.le_of_ble_eq_true rfl) ?_
            refine jr_aload_n jf_94_119 rfl (jg2_ne rfl (jg2_ne rfl (jg2_ne rfl (jg2_ne rfl (jg2_ne rfl hl0))))) ?_
            replace h := obd_of h; obtain ⟨x48, hx48, h⟩ := h
            refine jr_getA jf_94_120 hx48 ?_
            refine jr_iconst jf_94_123 jc_i_0 ?_
            refine jr_lload jf_94_124 (jg2_ne rfl (jg2_ne rfl jg2_same)) ?_
            replace h := obd_of h; obtain ⟨a49, rfl, h⟩ := h
            replace h := jgd_of h; obtain ⟨hb50, h⟩ := h
            replace h := obd_of h; obtain ⟨μ51, hμ51, h⟩ := h
            refine jr_V6v_2 jf_94_126 hb50 (by omega) (r_Row_put (by omega) _ _ _ _ _ hμ51) (Nat.le_of_ble_eq_true rfl) jml_66 (Nat.le_of_ble_eq_true rfl) ?_
            refine jr_lload jf_94_129 jg2_same ?_
            obtain ⟨rfl, rfl⟩ := Prod.mk.inj (Option.some.inj h)
            exact jr_retJ jf_94_131 jmt_94
          · obtain ⟨hb, hx⟩ := jgd_of hx
            obtain hx := Option.some.inj hx
            refine jr_V8b_2 jf_94_102 hb0 hb (by omega) (r_Shorts_plus (by omega) _ _ _ _ _ hx) (Nat.le_of_ble_eq_true rfl) jml_78 (Nat.le_of_ble_eq_true rfl) ?_
            replace h := jgd_of h; obtain ⟨hb41, h⟩ := h
            replace h := jbd2_of h; obtain ⟨x42, μ43, hx42, h⟩ := h
            refine jr_V6_1 jf_94_105 hb41 (by omega) (r_Section_settled (by omega) _ _ _ _ _ hx42) (Nat.le_of_ble_eq_true rfl) jml_79 (Nat.le_of_ble_eq_true rfl) ?_
            refine jr_lstore jf_94_108 jml_94 (by decide) ?_
            refine jr_aload_n jf_94_110 rfl (jg2_ne rfl (jg2_ne rfl (jg2_ne rfl (jg2_ne rfl (jg2_ne rfl hl0))))) ?_
            replace h := obd_of h; obtain ⟨x44, hx44, h⟩ := h
            refine jr_getA jf_94_111 hx44 ?_
            refine jr_iconst jf_94_114 jc_i_1 ?_
            refine jr_lload_n jf_94_115 rfl (jg2_ne rfl (jg2_ne rfl (jg2_ne rfl (jg2_ne rfl jg2_same)))) ?_
            replace h := obd_of h; obtain ⟨a45, rfl, h⟩ := h
            replace h := jgd_of h; obtain ⟨hb46, h⟩ := h
            replace h := obd_of h; obtain ⟨μ47, hμ47, h⟩ := h
            refine jr_V6v_2 jf_94_116 hb46 (by omega) (r_Row_put (by omega) _ _ _ _ _ hμ47) (Nat.le_of_ble_eq_true rfl) jml_66 (Nat.le_of_ble_eq_true rfl) ?_
            refine jr_aload_n jf_94_119 rfl (jg2_ne rfl (jg2_ne rfl (jg2_ne rfl (jg2_ne rfl (jg2_ne rfl hl0))))) ?_
            replace h := obd_of h; obtain ⟨x48, hx48, h⟩ := h
            refine jr_getA jf_94_120 hx48 ?_
            refine jr_iconst jf_94_123 jc_i_0 ?_
            refine jr_lload jf_94_124 (jg2_ne rfl (jg2_ne rfl jg2_same)) ?_
            replace h := obd_of h; obtain ⟨a49, rfl, h⟩ := h
            replace h := jgd_of h; obtain ⟨hb50, h⟩ := h
            replace h := obd_of h; obtain ⟨μ51, hμ51, h⟩ := h
            refine jr_V6v_2 jf_94_126 hb50 (by omega) (r_Row_put (by omega) _ _ _ _ _ hμ51) (Nat.le_of_ble_eq_true rfl) jml_66 (Nat.le_of_ble_eq_true rfl) ?_
            refine jr_lload jf_94_129 jg2_same ?_
            obtain ⟨rfl, rfl⟩ := Prod.mk.inj (Option.some.inj h)
            exact jr_retJ jf_94_131 jmt_94
        · obtain ⟨hb, hx⟩ := jgd_of hx
          obtain hx := Option.some.inj hx
          refine jr_V8b_2 jf_94_77 hb0 hb (by omega) (r_Shorts_plus (by omega) _ _ _ _ _ hx) (Nat.le_of_ble_eq_true rfl) jml_78 (Nat.le_of_ble_eq_true rfl) ?_
          refine jr_lstore jf_94_80 jml_94 (by decide) ?_
          refine jr_aload_n jf_94_82 rfl (jg2_ne rfl (jg2_ne rfl (jg2_ne rfl (jg2_ne rfl hl0)))) ?_
          refine jr_aload_n jf_94_83 rfl (jg2_ne rfl (jg2_ne rfl (jg2_ne rfl (jg2_ne rfl hl0)))) ?_
          replace h := obd_of h; obtain ⟨x32, hx32, h⟩ := h
          refine jr_getA jf_94_84 hx32 ?_
          refine jr_lload jf_94_87 jg2_same ?_
          refine jr_aload_n jf_94_89 rfl (jg2_ne rfl (jg2_ne rfl (jg2_ne rfl (jg2_ne rfl hl0)))) ?_
          refine jr_iconst jf_94_90 jc_i_2 ?_
          refine jr_aload_n jf_94_91 rfl (jg2_ne rfl (jg2_ne rfl (jg2_ne rfl (jg2_ne rfl hl0)))) ?_
          replace h := obd_of h; obtain ⟨x33, hx33, h⟩ := h
          refine jr_getA jf_94_92 hx33 ?_
          refine jr_iconst jf_94_95 jc_i_1 ?_
          replace h := obd_of h; obtain ⟨a34, rfl, h⟩ := h
          replace h := jgd_of h; obtain ⟨hb35, h⟩ := h
          replace h := obd_of h; obtain ⟨x36, hx36, h⟩ := h
          refine jr_V6_1 jf_94_96 hb35 (by omega) (r_Row_at (by omega) _ _ _ _ hx36) (by simp only [jcats_cons, jcats_nil, cat_int, cat_long, cat_double, cat_float, cat_ref, rv_cat]; decide) jml_38 (Nat.le_of_ble_eq_true rfl) ?_
          replace h := jgd_of h; obtain ⟨hb37, h⟩ := h
          replace h := obd_of h; obtain ⟨x38, hx38, h⟩ := h
          refine jr_V6_2 jf_94_99 hb37 (by omega) (r_Section_times (by omega) _ _ _ _ _ hx38) (by simp only [jcats_cons, jcats_nil, cat_int, cat_long, cat_double, cat_float, cat_ref, rv_cat]; decide) jml_87 (Nat.le_of_ble_eq_true rfl) ?_
          replace h := obd_of h; obtain ⟨a39, rfl, h⟩ := h
          replace h := obd_of h; obtain ⟨x40, hx40, h⟩ := h
          rcases ite_or hx40 with ⟨hb, hx⟩ | ⟨hb0, hx⟩
          · refine jr_V8a_2 jf_94_102 hb (by omega) (r_Real_plus (by omega) _ _ _ _ _ hx) (Nat.le_of_ble_eq_true rfl) jml_74 (Nat.le_of_ble_eq_true rfl) ?_
            replace h := jgd_of h; obtain ⟨hb41, h⟩ := h
            replace h := jbd2_of h; obtain ⟨x42, μ43, hx42, h⟩ := h
            refine jr_V6_1 jf_94_105 hb41 (by omega) (r_Section_settled (by omega) _ _ _ _ _ hx42) (Nat.le_of_ble_eq_true rfl) jml_79 (Nat.le_of_ble_eq_true rfl) ?_
            refine jr_lstore jf_94_108 jml_94 (by decide) ?_
            refine jr_aload_n jf_94_110 rfl (jg2_ne rfl (jg2_ne rfl (jg2_ne rfl (jg2_ne rfl (jg2_ne rfl hl0))))) ?_
            replace h := obd_of h; obtain ⟨x44, hx44, h⟩ := h
            refine jr_getA jf_94_111 hx44 ?_
            refine jr_iconst jf_94_114 jc_i_1 ?_
            refine jr_lload_n jf_94_115 rfl (jg2_ne rfl (jg2_ne rfl (jg2_ne rfl (jg2_ne rfl jg2_same)))) ?_
            replace h := obd_of h; obtain ⟨a45, rfl, h⟩ := h
            replace h := jgd_of h; obtain ⟨hb46, h⟩ := h
            replace h := obd_of h; obtain ⟨μ47, hμ47, h⟩ := h
            refine jr_V6v_2 jf_94_116 hb46 (by omega) (r_Row_put (by omega) _ _ _ _ _ hμ47) (Nat.le_of_ble_eq_true rfl) jml_66 (Nat.le_of_ble_eq_true rfl) ?_
            refine jr_aload_n jf_94_119 rfl (jg2_ne rfl (jg2_ne rfl (jg2_ne rfl (jg2_ne rfl (jg2_ne rfl hl0))))) ?_
            replace h := obd_of h; obtain ⟨x48, hx48, h⟩ := h
            refine jr_getA jf_94_120 hx48 ?_
            refine jr_iconst jf_94_123 jc_i_0 ?_
            refine jr_lload jf_94_124 (jg2_ne rfl (jg2_ne rfl jg2_same)) ?_
            replace h := obd_of h; obtain ⟨a49, rfl, h⟩ := h
            replace h := jgd_of h; obtain ⟨hb50, h⟩ := h
            replace h := obd_of h; obtain ⟨μ51, hμ51, h⟩ := h
            refine jr_V6v_2 jf_94_126 hb50 (by omega) (r_Row_put (by omega) _ _ _ _ _ hμ51) (Nat.le_of_ble_eq_true rfl) jml_66 (Nat.le_of_ble_eq_true rfl) ?_
            refine jr_lload jf_94_129 jg2_same ?_
            obtain ⟨rfl, rfl⟩ := Prod.mk.inj (Option.some.inj h)
            exact jr_retJ jf_94_131 jmt_94
          · obtain ⟨hb, hx⟩ := jgd_of hx
            obtain hx := Option.some.inj hx
            refine jr_V8b_2 jf_94_102 hb0 hb (by omega) (r_Shorts_plus (by omega) _ _ _ _ _ hx) (Nat.le_of_ble_eq_true rfl) jml_78 (Nat.le_of_ble_eq_true rfl) ?_
            replace h := jgd_of h; obtain ⟨hb41, h⟩ := h
            replace h := jbd2_of h; obtain ⟨x42, μ43, hx42, h⟩ := h
            refine jr_V6_1 jf_94_105 hb41 (by omega) (r_Section_settled (by omega) _ _ _ _ _ hx42) (Nat.le_of_ble_eq_true rfl) jml_79 (Nat.le_of_ble_eq_true rfl) ?_
            refine jr_lstore jf_94_108 jml_94 (by decide) ?_
            refine jr_aload_n jf_94_110 rfl (jg2_ne rfl (jg2_ne rfl (jg2_ne rfl (jg2_ne rfl (jg2_ne rfl hl0))))) ?_
            replace h := obd_of h; obtain ⟨x44, hx44, h⟩ := h
            refine jr_getA jf_94_111 hx44 ?_
            refine jr_iconst jf_94_114 jc_i_1 ?_
            refine jr_lload_n jf_94_115 rfl (jg2_ne rfl (jg2_ne rfl (jg2_ne rfl (jg2_ne rfl jg2_same)))) ?_
            replace h := obd_of h; obtain ⟨a45, rfl, h⟩ := h
            replace h := jgd_of h; obtain ⟨hb46, h⟩ := h
            replace h := obd_of h; obtain ⟨μ47, hμ47, h⟩ := h
            refine jr_V6v_2 jf_94_116 hb46 (by omega) (r_Row_put (by omega) _ _ _ _ _ hμ47) (Nat.le_of_ble_eq_true rfl) jml_66 (Nat.le_of_ble_eq_true rfl) ?_
            refine jr_aload_n jf_94_119 rfl (jg2_ne rfl (jg2_ne rfl (jg2_ne rfl (jg2_ne rfl (jg2_ne rfl hl0))))) ?_
            replace h := obd_of h; obtain ⟨x48, hx48, h⟩ := h
            refine jr_getA jf_94_120 hx48 ?_
            refine jr_iconst jf_94_123 jc_i_0 ?_
            refine jr_lload jf_94_124 (jg2_ne rfl (jg2_ne rfl jg2_same)) ?_
            replace h := obd_of h; obtain ⟨a49, rfl, h⟩ := h
            replace h := jgd_of h; obtain ⟨hb50, h⟩ := h
            replace h := obd_of h; obtain ⟨μ51, hμ51, h⟩ := h
            refine jr_V6v_2 jf_94_126 hb50 (by omega) (r_Row_put (by omega) _ _ _ _ _ hμ51) (Nat.le_of_ble_eq_true rfl) jml_66 (Nat.le_of_ble_eq_true rfl) ?_
            refine jr_lload jf_94_129 jg2_same ?_
            obtain ⟨rfl, rfl⟩ := Prod.mk.inj (Option.some.inj h)
            exact jr_retJ jf_94_131 jmt_94
    · obtain ⟨hb, hx⟩ := jgd_of hx
      obtain hx := Option.some.inj hx
      refine jr_V8b_2 jf_94_27 hb0 hb (by omega) (r_Shorts_plus (by omega) _ _ _ _ _ hx) (Nat.le_of_ble_eq_true rfl) jml_78 (Nat.le_of_ble_eq_true rfl) ?_
      refine jr_lstore jf_94_30 jml_94 (by decide) ?_
      refine jr_aload_n jf_94_32 rfl (jg2_ne rfl (jg2_ne rfl hl0)) ?_
      refine jr_aload_n jf_94_33 rfl (jg2_ne rfl (jg2_ne rfl hl0)) ?_
      replace h := obd_of h; obtain ⟨x13, hx13, h⟩ := h
      refine jr_getA jf_94_34 hx13 ?_
      refine jr_lload jf_94_37 jg2_same ?_
      refine jr_aload_n jf_94_39 rfl (jg2_ne rfl (jg2_ne rfl hl0)) ?_
      refine jr_iconst jf_94_40 jc_i_4 ?_
      refine jr_aload_n jf_94_41 rfl (jg2_ne rfl (jg2_ne rfl hl0)) ?_
      replace h := obd_of h; obtain ⟨x14, hx14, h⟩ := h
      refine jr_getA jf_94_42 hx14 ?_
      refine jr_iconst jf_94_45 jc_i_1 ?_
      replace h := obd_of h; obtain ⟨a15, rfl, h⟩ := h
      replace h := jgd_of h; obtain ⟨hb16, h⟩ := h
      replace h := obd_of h; obtain ⟨x17, hx17, h⟩ := h
      refine jr_V6_1 jf_94_46 hb16 (by omega) (r_Row_at (by omega) _ _ _ _ hx17) (by simp only [jcats_cons, jcats_nil, cat_int, cat_long, cat_double, cat_float, cat_ref, rv_cat]; decide) jml_38 (Nat.le_of_ble_eq_true rfl) ?_
      replace h := jgd_of h; obtain ⟨hb18, h⟩ := h
      replace h := obd_of h; obtain ⟨x19, hx19, h⟩ := h
      refine jr_V6_2 jf_94_49 hb18 (by omega) (r_Section_lessTimes (by omega) _ _ _ _ _ hx19) (by simp only [jcats_cons, jcats_nil, cat_int, cat_long, cat_double, cat_float, cat_ref, rv_cat]; decide) jml_90 (Nat.le_of_ble_eq_true rfl) ?_
      replace h := obd_of h; obtain ⟨a20, rfl, h⟩ := h
      replace h := obd_of h; obtain ⟨x21, hx21, h⟩ := h
      rcases ite_or hx21 with ⟨hb, hx⟩ | ⟨hb0, hx⟩
      · refine jr_V8a_2 jf_94_52 hb (by omega) (r_Real_plus (by omega) _ _ _ _ _ hx) (Nat.le_of_ble_eq_true rfl) jml_74 (Nat.le_of_ble_eq_true rfl) ?_
        replace h := jgd_of h; obtain ⟨hb22, h⟩ := h
        replace h := jbd2_of h; obtain ⟨x23, μ24, hx23, h⟩ := h
        refine jr_V6_1 jf_94_55 hb22 (by omega) (r_Section_settled (by omega) _ _ _ _ _ hx23) (Nat.le_of_ble_eq_true rfl) jml_79 (Nat.le_of_ble_eq_true rfl) ?_
        refine jr_lstore jf_94_58 jml_94 (by decide) ?_
        refine jr_aload_n jf_94_60 rfl (jg2_ne rfl (jg2_ne rfl (jg2_ne rfl hl0))) ?_
        replace h := obd_of h; obtain ⟨x25, hx25, h⟩ := h
        refine jr_getA jf_94_61 hx25 ?_
        refine jr_aload_n jf_94_64 rfl (jg2_ne rfl (jg2_ne rfl (jg2_ne rfl hl0))) ?_
        refine jr_iconst jf_94_65 jc_i_0 ?_
        refine jr_lload jf_94_66 jg2_same ?_
        replace h := jgd_of h; obtain ⟨hb26, h⟩ := h
        replace h := obd_of h; obtain ⟨x27, hx27, h⟩ := h
        refine jr_V6_2 jf_94_68 hb26 (by omega) (r_Section_times (by omega) _ _ _ _ _ hx27) (by simp only [jcats_cons, jcats_nil, cat_int, cat_long, cat_double, cat_float, cat_ref, rv_cat]; decide) jml_87 (Nat.le_of_ble_eq_true rfl) ?_
        refine jr_aload_n jf_94_71 rfl (jg2_ne rfl (jg2_ne rfl (jg2_ne rfl hl0))) ?_
        refine jr_iconst jf_94_72 jc_i_1 ?_
        refine jr_lload_n jf_94_73 rfl (jg2_ne rfl (jg2_ne rfl jg2_same)) ?_
        replace h := jgd_of h; obtain ⟨hb28, h⟩ := h
        replace h := obd_of h; obtain ⟨x29, hx29, h⟩ := h
        refine jr_V6_2 jf_94_74 hb28 (by omega) (r_Section_times (by omega) _ _ _ _ _ hx29) (by simp only [jcats_cons, jcats_nil, cat_int, cat_long, cat_double, cat_float, cat_ref, rv_cat]; decide) jml_87 (Nat.le_of_ble_eq_true rfl) ?_
        replace h := obd_of h; obtain ⟨a30, rfl, h⟩ := h
        replace h := obd_of h; obtain ⟨x31, hx31, h⟩ := h
        rcases ite_or hx31 with ⟨hb, hx⟩ | ⟨hb0, hx⟩
        · refine jr_V8a_2 jf_94_77 hb (by omega) (r_Real_plus (by omega) _ _ _ _ _ hx) (Nat.le_of_ble_eq_true rfl) jml_74 (Nat.le_of_ble_eq_true rfl) ?_
          refine jr_lstore jf_94_80 jml_94 (by decide) ?_
          refine jr_aload_n jf_94_82 rfl (jg2_ne rfl (jg2_ne rfl (jg2_ne rfl (jg2_ne rfl hl0)))) ?_
          refine jr_aload_n jf_94_83 rfl (jg2_ne rfl (jg2_ne rfl (jg2_ne rfl (jg2_ne rfl hl0)))) ?_
          replace h := obd_of h; obtain ⟨x32, hx32, h⟩ := h
          refine jr_getA jf_94_84 hx32 ?_
          refine jr_lload jf_94_87 jg2_same ?_
          refine jr_aload_n jf_94_89 rfl (jg2_ne rfl (jg2_ne rfl (jg2_ne rfl (jg2_ne rfl hl0)))) ?_
          refine jr_iconst jf_94_90 jc_i_2 ?_
          refine jr_aload_n jf_94_91 rfl (jg2_ne rfl (jg2_ne rfl (jg2_ne rfl (jg2_ne rfl hl0)))) ?_
          replace h := obd_of h; obtain ⟨x33, hx33, h⟩ := h
          refine jr_getA jf_94_92 hx33 ?_
          refine jr_iconst jf_94_95 jc_i_1 ?_
          replace h := obd_of h; obtain ⟨a34, rfl, h⟩ := h
          replace h := jgd_of h; obtain ⟨hb35, h⟩ := h
          replace h := obd_of h; obtain ⟨x36, hx36, h⟩ := h
          refine jr_V6_1 jf_94_96 hb35 (by omega) (r_Row_at (by omega) _ _ _ _ hx36) (by simp only [jcats_cons, jcats_nil, cat_int, cat_long, cat_double, cat_float, cat_ref, rv_cat]; decide) jml_38 (Nat.le_of_ble_eq_true rfl) ?_
          replace h := jgd_of h; obtain ⟨hb37, h⟩ := h
          replace h := obd_of h; obtain ⟨x38, hx38, h⟩ := h
          refine jr_V6_2 jf_94_99 hb37 (by omega) (r_Section_times (by omega) _ _ _ _ _ hx38) (by simp only [jcats_cons, jcats_nil, cat_int, cat_long, cat_double, cat_float, cat_ref, rv_cat]; decide) jml_87 (Nat.le_of_ble_eq_true rfl) ?_
          replace h := obd_of h; obtain ⟨a39, rfl, h⟩ := h
          replace h := obd_of h; obtain ⟨x40, hx40, h⟩ := h
          rcases ite_or hx40 with ⟨hb, hx⟩ | ⟨hb0, hx⟩
          · refine jr_V8a_2 jf_94_102 hb (by omega) (r_Real_plus (by omega) _ _ _ _ _ hx) (Nat.le_of_ble_eq_true rfl) jml_74 (Nat.le_of_ble_eq_true rfl) ?_
            replace h := jgd_of h; obtain ⟨hb41, h⟩ := h
            replace h := jbd2_of h; obtain ⟨x42, μ43, hx42, h⟩ := h
            refine jr_V6_1 jf_94_105 hb41 (by omega) (r_Section_settled (by omega) _ _ _ _ _ hx42) (Nat.le_of_ble_eq_true rfl) jml_79 (Nat.le_of_ble_eq_true rfl) ?_
            refine jr_lstore jf_94_108 jml_94 (by decide) ?_
            refine jr_aload_n jf_94_110 rfl (jg2_ne rfl (jg2_ne rfl (jg2_ne rfl (jg2_ne rfl (jg2_ne rfl hl0))))) ?_
            replace h := obd_of h; obtain ⟨x44, hx44, h⟩ := h
            refine jr_getA jf_94_111 hx44 ?_
            refine jr_iconst jf_94_114 jc_i_1 ?_
            refine jr_lload_n jf_94_115 rfl (jg2_ne rfl (jg2_ne rfl (jg2_ne rfl (jg2_ne rfl jg2_same)))) ?_
            replace h := obd_of h; obtain ⟨a45, rfl, h⟩ := h
            replace h := jgd_of h; obtain ⟨hb46, h⟩ := h
            replace h := obd_of h; obtain ⟨μ47, hμ47, h⟩ := h
            refine jr_V6v_2 jf_94_116 hb46 (by omega) (r_Row_put (by omega) _ _ _ _ _ hμ47) (Nat.le_of_ble_eq_true rfl) jml_66 (Nat.le_of_ble_eq_true rfl) ?_
            refine jr_aload_n jf_94_119 rfl (jg2_ne rfl (jg2_ne rfl (jg2_ne rfl (jg2_ne rfl (jg2_ne rfl hl0))))) ?_
            replace h := obd_of h; obtain ⟨x48, hx48, h⟩ := h
            refine jr_getA jf_94_120 hx48 ?_
            refine jr_iconst jf_94_123 jc_i_0 ?_
            refine jr_lload jf_94_124 (jg2_ne rfl (jg2_ne rfl jg2_same)) ?_
            replace h := obd_of h; obtain ⟨a49, rfl, h⟩ := h
            replace h := jgd_of h; obtain ⟨hb50, h⟩ := h
            replace h := obd_of h; obtain ⟨μ51, hμ51, h⟩ := h
            refine jr_V6v_2 jf_94_126 hb50 (by omega) (r_Row_put (by omega) _ _ _ _ _ hμ51) (Nat.le_of_ble_eq_true rfl) jml_66 (Nat.le_of_ble_eq_true rfl) ?_
            refine jr_lload jf_94_129 jg2_same ?_
            obtain ⟨rfl, rfl⟩ := Prod.mk.inj (Option.some.inj h)
            exact jr_retJ jf_94_131 jmt_94
          · obtain ⟨hb, hx⟩ := jgd_of hx
            obtain hx := Option.some.inj hx
            refine jr_V8b_2 jf_94_102 hb0 hb (by omega) (r_Shorts_plus (by omega) _ _ _ _ _ hx) (Nat.le_of_ble_eq_true rfl) jml_78 (Nat.le_of_ble_eq_true rfl) ?_
            replace h := jgd_of h; obtain ⟨hb41, h⟩ := h
            replace h := jbd2_of h; obtain ⟨x42, μ43, hx42, h⟩ := h
            refine jr_V6_1 jf_94_105 hb41 (by omega) (r_Section_settled (by omega) _ _ _ _ _ hx42) (Nat.le_of_ble_eq_true rfl) jml_79 (Nat.le_of_ble_eq_true rfl) ?_
            refine jr_lstore jf_94_108 jml_94 (by decide) ?_
            refine jr_aload_n jf_94_110 rfl (jg2_ne rfl (jg2_ne rfl (jg2_ne rfl (jg2_ne rfl (jg2_ne rfl hl0))))) ?_
            replace h := obd_of h; obtain ⟨x44, hx44, h⟩ := h
            refine jr_getA jf_94_111 hx44 ?_
            refine jr_iconst jf_94_114 jc_i_1 ?_
            refine jr_lload_n jf_94_115 rfl (jg2_ne rfl (jg2_ne rfl (jg2_ne rfl (jg2_ne rfl jg2_same)))) ?_
            replace h := obd_of h; obtain ⟨a45, rfl, h⟩ := h
            replace h := jgd_of h; obtain ⟨hb46, h⟩ := h
            replace h := obd_of h; obtain ⟨μ47, hμ47, h⟩ := h
            refine jr_V6v_2 jf_94_116 hb46 (by omega) (r_Row_put (by omega) _ _ _ _ _ hμ47) (Nat.le_of_ble_eq_true rfl) jml_66 (Nat.le_of_ble_eq_true rfl) ?_
            refine jr_aload_n jf_94_119 rfl (jg2_ne rfl (jg2_ne rfl (jg2_ne rfl (jg2_ne rfl (jg2_ne rfl hl0))))) ?_
            replace h := obd_of h; obtain ⟨x48, hx48, h⟩ := h
            refine jr_getA jf_94_120 hx48 ?_
            refine jr_iconst jf_94_123 jc_i_0 ?_
            refine jr_lload jf_94_124 (jg2_ne rfl (jg2_ne rfl jg2_same)) ?_
            replace h := obd_of h; obtain ⟨a49, rfl, h⟩ := h
            replace h := jgd_of h; obtain ⟨hb50, h⟩ := h
            replace h := obd_of h; obtain ⟨μ51, hμ51, h⟩ := h
            refine jr_V6v_2 jf_94_126 hb50 (by omega) (r_Row_put (by omega) _ _ _ _ _ hμ51) (Nat.le_of_ble_eq_true rfl) jml_66 (Nat.le_of_ble_eq_true rfl) ?_
            refine jr_lload jf_94_129 jg2_same ?_
            obtain ⟨rfl, rfl⟩ := Prod.mk.inj (Option.some.inj h)
            exact jr_retJ jf_94_131 jmt_94
        · obtain ⟨hb, hx⟩ := jgd_of hx
          obtain hx := Option.some.inj hx
          refine jr_V8b_2 jf_94_77 hb0 hb (by omega) (r_Shorts_plus (by omega) _ _ _ _ _ hx) (Nat.le_of_ble_eq_true rfl) jml_78 (Nat.le_of_ble_eq_true rfl) ?_
          refine jr_lstore jf_94_80 jml_94 (by decide) ?_
          refine jr_aload_n jf_94_82 rfl (jg2_ne rfl (jg2_ne rfl (jg2_ne rfl (jg2_ne rfl hl0)))) ?_
          refine jr_aload_n jf_94_83 rfl (jg2_ne rfl (jg2_ne rfl (jg2_ne rfl (jg2_ne rfl hl0)))) ?_
          replace h := obd_of h; obtain ⟨x32, hx32, h⟩ := h
          refine jr_getA jf_94_84 hx32 ?_
          refine jr_lload jf_94_87 jg2_same ?_
          refine jr_aload_n jf_94_89 rfl (jg2_ne rfl (jg2_ne rfl (jg2_ne rfl (jg2_ne rfl hl0)))) ?_
          refine jr_iconst jf_94_90 jc_i_2 ?_
          refine jr_aload_n jf_94_91 rfl (jg2_ne rfl (jg2_ne rfl (jg2_ne rfl (jg2_ne rfl hl0)))) ?_
          replace h := obd_of h; obtain ⟨x33, hx33, h⟩ := h
          refine jr_getA jf_94_92 hx33 ?_
          refine jr_iconst jf_94_95 jc_i_1 ?_
          replace h := obd_of h; obtain ⟨a34, rfl, h⟩ := h
          replace h := jgd_of h; obtain ⟨hb35, h⟩ := h
          replace h := obd_of h; obtain ⟨x36, hx36, h⟩ := h
          refine jr_V6_1 jf_94_96 hb35 (by omega) (r_Row_at (by omega) _ _ _ _ hx36) (by simp only [jcats_cons, jcats_nil, cat_int, cat_long, cat_double, cat_float, cat_ref, rv_cat]; decide) jml_38 (Nat.le_of_ble_eq_true rfl) ?_
          replace h := jgd_of h; obtain ⟨hb37, h⟩ := h
          replace h := obd_of h; obtain ⟨x38, hx38, h⟩ := h
          refine jr_V6_2 jf_94_99 hb37 (by omega) (r_Section_times (by omega) _ _ _ _ _ hx38) (by simp only [jcats_cons, jcats_nil, cat_int, cat_long, cat_double, cat_float, cat_ref, rv_cat]; decide) jml_87 (Nat.le_of_ble_eq_true rfl) ?_
          replace h := obd_of h; obtain ⟨a39, rfl, h⟩ := h
          replace h := obd_of h; obtain ⟨x40, hx40, h⟩ := h
          rcases ite_or hx40 with ⟨hb, hx⟩ | ⟨hb0, hx⟩
          · refine jr_V8a_2 jf_94_102 hb (by omega) (r_Real_plus (by omega) _ _ _ _ _ hx) (Nat.le_of_ble_eq_true rfl) jml_74 (Nat.le_of_ble_eq_true rfl) ?_
            replace h := jgd_of h; obtain ⟨hb41, h⟩ := h
            replace h := jbd2_of h; obtain ⟨x42, μ43, hx42, h⟩ := h
            refine jr_V6_1 jf_94_105 hb41 (by omega) (r_Section_settled (by omega) _ _ _ _ _ hx42) (Nat.le_of_ble_eq_true rfl) jml_79 (Nat.le_of_ble_eq_true rfl) ?_
            refine jr_lstore jf_94_108 jml_94 (by decide) ?_
            refine jr_aload_n jf_94_110 rfl (jg2_ne rfl (jg2_ne rfl (jg2_ne rfl (jg2_ne rfl (jg2_ne rfl hl0))))) ?_
            replace h := obd_of h; obtain ⟨x44, hx44, h⟩ := h
            refine jr_getA jf_94_111 hx44 ?_
            refine jr_iconst jf_94_114 jc_i_1 ?_
            refine jr_lload_n jf_94_115 rfl (jg2_ne rfl (jg2_ne rfl (jg2_ne rfl (jg2_ne rfl jg2_same)))) ?_
            replace h := obd_of h; obtain ⟨a45, rfl, h⟩ := h
            replace h := jgd_of h; obtain ⟨hb46, h⟩ := h
            replace h := obd_of h; obtain ⟨μ47, hμ47, h⟩ := h
            refine jr_V6v_2 jf_94_116 hb46 (by omega) (r_Row_put (by omega) _ _ _ _ _ hμ47) (Nat.le_of_ble_eq_true rfl) jml_66 (Nat.le_of_ble_eq_true rfl) ?_
            refine jr_aload_n jf_94_119 rfl (jg2_ne rfl (jg2_ne rfl (jg2_ne rfl (jg2_ne rfl (jg2_ne rfl hl0))))) ?_
            replace h := obd_of h; obtain ⟨x48, hx48, h⟩ := h
            refine jr_getA jf_94_120 hx48 ?_
            refine jr_iconst jf_94_123 jc_i_0 ?_
            refine jr_lload jf_94_124 (jg2_ne rfl (jg2_ne rfl jg2_same)) ?_
            replace h := obd_of h; obtain ⟨a49, rfl, h⟩ := h
            replace h := jgd_of h; obtain ⟨hb50, h⟩ := h
            replace h := obd_of h; obtain ⟨μ51, hμ51, h⟩ := h
            refine jr_V6v_2 jf_94_126 hb50 (by omega) (r_Row_put (by omega) _ _ _ _ _ hμ51) (Nat.le_of_ble_eq_true rfl) jml_66 (Nat.le_of_ble_eq_true rfl) ?_
            refine jr_lload jf_94_129 jg2_same ?_
            obtain ⟨rfl, rfl⟩ := Prod.mk.inj (Option.some.inj h)
            exact jr_retJ jf_94_131 jmt_94
          · obtain ⟨hb, hx⟩ := jgd_of hx
            obtain hx := Option.some.inj hx
            refine jr_V8b_2 jf_94_102 hb0 hb (by omega) (r_Shorts_plus (by omega) _ _ _ _ _ hx) (Nat.le_of_ble_eq_true rfl) jml_78 (Nat.le_of_ble_eq_true rfl) ?_
            replace h := jgd_of h; obtain ⟨hb41, h⟩ := h
            replace h := jbd2_of h; obtain ⟨x42, μ43, hx42, h⟩ := h
            refine jr_V6_1 jf_94_105 hb41 (by omega) (r_Section_settled (by omega) _ _ _ _ _ hx42) (Nat.le_of_ble_eq_true rfl) jml_79 (Nat.le_of_ble_eq_true rfl) ?_
            refine jr_lstore jf_94_108 jml_94 (by decide) ?_
            refine jr_aload_n jf_94_110 rfl (jg2_ne rfl (jg2_ne rfl (jg2_ne rfl (jg2_ne rfl (jg2_ne rfl hl0))))) ?_
            replace h := obd_of h; obtain ⟨x44, hx44, h⟩ := h
            refine jr_getA jf_94_111 hx44 ?_
            refine jr_iconst jf_94_114 jc_i_1 ?_
            refine jr_lload_n jf_94_115 rfl (jg2_ne rfl (jg2_ne rfl (jg2_ne rfl (jg2_ne rfl jg2_same)))) ?_
            replace h := obd_of h; obtain ⟨a45, rfl, h⟩ := h
            replace h := jgd_of h; obtain ⟨hb46, h⟩ := h
            replace h := obd_of h; obtain ⟨μ47, hμ47, h⟩ := h
            refine jr_V6v_2 jf_94_116 hb46 (by omega) (r_Row_put (by omega) _ _ _ _ _ hμ47) (Nat.le_of_ble_eq_true rfl) jml_66 (Nat.le_of_ble_eq_true rfl) ?_
            refine jr_aload_n jf_94_119 rfl (jg2_ne rfl (jg2_ne rfl (jg2_ne rfl (jg2_ne rfl (jg2_ne rfl hl0))))) ?_
            replace h := obd_of h; obtain ⟨x48, hx48, h⟩ := h
            refine jr_getA jf_94_120 hx48 ?_
            refine jr_iconst jf_94_123 jc_i_0 ?_
            refine jr_lload jf_94_124 (jg2_ne rfl (jg2_ne rfl jg2_same)) ?_
            replace h := obd_of h; obtain ⟨a49, rfl, h⟩ := h
            replace h := jgd_of h; obtain ⟨hb50, h⟩ := h
            replace h := obd_of h; obtain ⟨μ51, hμ51, h⟩ := h
            refine jr_V6v_2 jf_94_126 hb50 (by omega) (r_Row_put (by omega) _ _ _ _ _ hμ51) (Nat.le_of_ble_eq_true rfl) jml_66 (Nat.le_of_ble_eq_true rfl) ?_
            refine jr_lload jf_94_129 jg2_same ?_
            obtain ⟨rfl, rfl⟩ := Prod.mk.inj (Option.some.inj h)
            exact jr_retJ jf_94_131 jmt_94
      · obtain ⟨hb, hx⟩ := jgd_of hx
        obtain hx := Option.some.inj hx
        refine jr_V8b_2 jf_94_52 hb0 hb (by omega) (r_Shorts_plus (by omega) _ _ _ _ _ hx) (Nat.le_of_ble_eq_true rfl) jml_78 (Nat.le_of_ble_eq_true rfl) ?_
        replace h := jgd_of h; obtain ⟨hb22, h⟩ := h
        replace h := jbd2_of h; obtain ⟨x23, μ24, hx23, h⟩ := h
        refine jr_V6_1 jf_94_55 hb22 (by omega) (r_Section_settled (by omega) _ _ _ _ _ hx23) (Nat.le_of_ble_eq_true rfl) jml_79 (Nat.le_of_ble_eq_true rfl) ?_
        refine jr_lstore jf_94_58 jml_94 (by decide) ?_
        refine jr_aload_n jf_94_60 rfl (jg2_ne rfl (jg2_ne rfl (jg2_ne rfl hl0))) ?_
        replace h := obd_of h; obtain ⟨x25, hx25, h⟩ := h
        refine jr_getA jf_94_61 hx25 ?_
        refine jr_aload_n jf_94_64 rfl (jg2_ne rfl (jg2_ne rfl (jg2_ne rfl hl0))) ?_
        refine jr_iconst jf_94_65 jc_i_0 ?_
        refine jr_lload jf_94_66 jg2_same ?_
        replace h := jgd_of h; obtain ⟨hb26, h⟩ := h
        replace h := obd_of h; obtain ⟨x27, hx27, h⟩ := h
        refine jr_V6_2 jf_94_68 hb26 (by omega) (r_Section_times (by omega) _ _ _ _ _ hx27) (by simp only [jcats_cons, jcats_nil, cat_int, cat_long, cat_double, cat_float, cat_ref, rv_cat]; decide) jml_87 (Nat.le_of_ble_eq_true rfl) ?_
        refine jr_aload_n jf_94_71 rfl (jg2_ne rfl (jg2_ne rfl (jg2_ne rfl hl0))) ?_
        refine jr_iconst jf_94_72 jc_i_1 ?_
        refine jr_lload_n jf_94_73 rfl (jg2_ne rfl (jg2_ne rfl jg2_same)) ?_
        replace h := jgd_of h; obtain ⟨hb28, h⟩ := h
        replace h := obd_of h; obtain ⟨x29, hx29, h⟩ := h
        refine jr_V6_2 jf_94_74 hb28 (by omega) (r_Section_times (by omega) _ _ _ _ _ hx29) (by simp only [jcats_cons, jcats_nil, cat_int, cat_long, cat_double, cat_float, cat_ref, rv_cat]; decide) jml_87 (Nat.le_of_ble_eq_true rfl) ?_
        replace h := obd_of h; obtain ⟨a30, rfl, h⟩ := h
        replace h := obd_of h; obtain ⟨x31, hx31, h⟩ := h
        rcases ite_or hx31 with ⟨hb, hx⟩ | ⟨hb0, hx⟩
        · refine jr_V8a_2 jf_94_77 hb (by omega) (r_Real_plus (by omega) _ _ _ _ _ hx) (Nat.le_of_ble_eq_true rfl) jml_74 (Nat.le_of_ble_eq_true rfl) ?_
          refine jr_lstore jf_94_80 jml_94 (by decide) ?_
          refine jr_aload_n jf_94_82 rfl (jg2_ne rfl (jg2_ne rfl (jg2_ne rfl (jg2_ne rfl hl0)))) ?_
          refine jr_aload_n jf_94_83 rfl (jg2_ne rfl (jg2_ne rfl (jg2_ne rfl (jg2_ne rfl hl0)))) ?_
          replace h := obd_of h; obtain ⟨x32, hx32, h⟩ := h
          refine jr_getA jf_94_84 hx32 ?_
          refine jr_lload jf_94_87 jg2_same ?_
          refine jr_aload_n jf_94_89 rfl (jg2_ne rfl (jg2_ne rfl (jg2_ne rfl (jg2_ne rfl hl0)))) ?_
          refine jr_iconst jf_94_90 jc_i_2 ?_
          refine jr_aload_n jf_94_91 rfl (jg2_ne rfl (jg2_ne rfl (jg2_ne rfl (jg2_ne rfl hl0)))) ?_
          replace h := obd_of h; obtain ⟨x33, hx33, h⟩ := h
          refine jr_getA jf_94_92 hx33 ?_
          refine jr_iconst jf_94_95 jc_i_1 ?_
          replace h := obd_of h; obtain ⟨a34, rfl, h⟩ := h
          replace h := jgd_of h; obtain ⟨hb35, h⟩ := h
          replace h := obd_of h; obtain ⟨x36, hx36, h⟩ := h
          refine jr_V6_1 jf_94_96 hb35 (by omega) (r_Row_at (by omega) _ _ _ _ hx36) (by simp only [jcats_cons, jcats_nil, cat_int, cat_long, cat_double, cat_float, cat_ref, rv_cat]; decide) jml_38 (Nat.le_of_ble_eq_true rfl) ?_
          replace h := jgd_of h; obtain ⟨hb37, h⟩ := h
          replace h := obd_of h; obtain ⟨x38, hx38, h⟩ := h
          refine jr_V6_2 jf_94_99 hb37 (by omega) (r_Section_times (by omega) _ _ _ _ _ hx38) (by simp only [jcats_cons, jcats_nil, cat_int, cat_long, cat_double, cat_float, cat_ref, rv_cat]; decide) jml_87 (Nat.le_of_ble_eq_true rfl) ?_
          replace h := obd_of h; obtain ⟨a39, rfl, h⟩ := h
          replace h := obd_of h; obtain ⟨x40, hx40, h⟩ := h
          rcases ite_or hx40 with ⟨hb, hx⟩ | ⟨hb0, hx⟩
          · refine jr_V8a_2 jf_94_102 hb (by omega) (r_Real_plus (by omega) _ _ _ _ _ hx) (Nat.le_of_ble_eq_true rfl) jml_74 (Nat.le_of_ble_eq_true rfl) ?_
            replace h := jgd_of h; obtain ⟨hb41, h⟩ := h
            replace h := jbd2_of h; obtain ⟨x42, μ43, hx42, h⟩ := h
            refine jr_V6_1 jf_94_105 hb41 (by omega) (r_Section_settled (by omega) _ _ _ _ _ hx42) (Nat.le_of_ble_eq_true rfl) jml_79 (Nat.le_of_ble_eq_true rfl) ?_
            refine jr_lstore jf_94_108 jml_94 (by decide) ?_
            refine jr_aload_n jf_94_110 rfl (jg2_ne rfl (jg2_ne rfl (jg2_ne rfl (jg2_ne rfl (jg2_ne rfl hl0))))) ?_
            replace h := obd_of h; obtain ⟨x44, hx44, h⟩ := h
            refine jr_getA jf_94_111 hx44 ?_
            refine jr_iconst jf_94_114 jc_i_1 ?_
            refine jr_lload_n jf_94_115 rfl (jg2_ne rfl (jg2_ne rfl (jg2_ne rfl (jg2_ne rfl jg2_same)))) ?_
            replace h := obd_of h; obtain ⟨a45, rfl, h⟩ := h
            replace h := jgd_of h; obtain ⟨hb46, h⟩ := h
            replace h := obd_of h; obtain ⟨μ47, hμ47, h⟩ := h
            refine jr_V6v_2 jf_94_116 hb46 (by omega) (r_Row_put (by omega) _ _ _ _ _ hμ47) (Nat.le_of_ble_eq_true rfl) jml_66 (Nat.le_of_ble_eq_true rfl) ?_
            refine jr_aload_n jf_94_119 rfl (jg2_ne rfl (jg2_ne rfl (jg2_ne rfl (jg2_ne rfl (jg2_ne rfl hl0))))) ?_
            replace h := obd_of h; obtain ⟨x48, hx48, h⟩ := h
            refine jr_getA jf_94_120 hx48 ?_
            refine jr_iconst jf_94_123 jc_i_0 ?_
            refine jr_lload jf_94_124 (jg2_ne rfl (jg2_ne rfl jg2_same)) ?_
            replace h := obd_of h; obtain ⟨a49, rfl, h⟩ := h
            replace h := jgd_of h; obtain ⟨hb50, h⟩ := h
            replace h := obd_of h; obtain ⟨μ51, hμ51, h⟩ := h
            refine jr_V6v_2 jf_94_126 hb50 (by omega) (r_Row_put (by omega) _ _ _ _ _ hμ51) (Nat.le_of_ble_eq_true rfl) jml_66 (Nat.le_of_ble_eq_true rfl) ?_
            refine jr_lload jf_94_129 jg2_same ?_
            obtain ⟨rfl, rfl⟩ := Prod.mk.inj (Option.some.inj h)
            exact jr_retJ jf_94_131 jmt_94
          · obtain ⟨hb, hx⟩ := jgd_of hx
            obtain hx := Option.some.inj hx
            refine jr_V8b_2 jf_94_102 hb0 hb (by omega) (r_Shorts_plus (by omega) _ _ _ _ _ hx) (Nat.le_of_ble_eq_true rfl) jml_78 (Nat.le_of_ble_eq_true rfl) ?_
            replace h := jgd_of h; obtain ⟨hb41, h⟩ := h
            replace h := jbd2_of h; obtain ⟨x42, μ43, hx42, h⟩ := h
            refine jr_V6_1 jf_94_105 hb41 (by omega) (r_Section_settled (by omega) _ _ _ _ _ hx42) (Nat.le_of_ble_eq_true rfl) jml_79 (Nat.le_of_ble_eq_true rfl) ?_
            refine jr_lstore jf_94_108 jml_94 (by decide) ?_
            refine jr_aload_n jf_94_110 rfl (jg2_ne rfl (jg2_ne rfl (jg2_ne rfl (jg2_ne rfl (jg2_ne rfl hl0))))) ?_
            replace h := obd_of h; obtain ⟨x44, hx44, h⟩ := h
            refine jr_getA jf_94_111 hx44 ?_
            refine jr_iconst jf_94_114 jc_i_1 ?_
            refine jr_lload_n jf_94_115 rfl (jg2_ne rfl (jg2_ne rfl (jg2_ne rfl (jg2_ne rfl jg2_same)))) ?_
            replace h := obd_of h; obtain ⟨a45, rfl, h⟩ := h
            replace h := jgd_of h; obtain ⟨hb46, h⟩ := h
            replace h := obd_of h; obtain ⟨μ47, hμ47, h⟩ := h
            refine jr_V6v_2 jf_94_116 hb46 (by omega) (r_Row_put (by omega) _ _ _ _ _ hμ47) (Nat.le_of_ble_eq_true rfl) jml_66 (Nat.le_of_ble_eq_true rfl) ?_
            refine jr_aload_n jf_94_119 rfl (jg2_ne rfl (jg2_ne rfl (jg2_ne rfl (jg2_ne rfl (jg2_ne rfl hl0))))) ?_
            replace h := obd_of h; obtain ⟨x48, hx48, h⟩ := h
            refine jr_getA jf_94_120 hx48 ?_
            refine jr_iconst jf_94_123 jc_i_0 ?_
            refine jr_lload jf_94_124 (jg2_ne rfl (jg2_ne rfl jg2_same)) ?_
            replace h := obd_of h; obtain ⟨a49, rfl, h⟩ := h
            replace h := jgd_of h; obtain ⟨hb50, h⟩ := h
            replace h := obd_of h; obtain ⟨μ51, hμ51, h⟩ := h
            refine jr_V6v_2 jf_94_126 hb50 (by omega) (r_Row_put (by omega) _ _ _ _ _ hμ51) (Nat.le_of_ble_eq_true rfl) jml_66 (Nat.le_of_ble_eq_true rfl) ?_
            refine jr_lload jf_94_129 jg2_same ?_
            obtain ⟨rfl, rfl⟩ := Prod.mk.inj (Option.some.inj h)
            exact jr_retJ jf_94_131 jmt_94
        · obtain ⟨hb, hx⟩ := jgd_of hx
          obtain hx := Option.some.inj hx
          refine jr_V8b_2 jf_94_77 hb0 hb (by omega) (r_Shorts_plus (by omega) _ _ _ _ _ hx) (Nat.le_of_ble_eq_true rfl) jml_78 (Nat.le_of_ble_eq_true rfl) ?_
          refine jr_lstore jf_94_80 jml_94 (by decide) ?_
          refine jr_aload_n jf_94_82 rfl (jg2_ne rfl (jg2_ne rfl (jg2_ne rfl (jg2_ne rfl hl0)))) ?_
          refine jr_aload_n jf_94_83 rfl (jg2_ne rfl (jg2_ne rfl (jg2_ne rfl (jg2_ne rfl hl0)))) ?_
          replace h := obd_of h; obtain ⟨x32, hx32, h⟩ := h
          refine jr_getA jf_94_84 hx32 ?_
          refine jr_lload jf_94_87 jg2_same ?_
          refine jr_aload_n jf_94_89 rfl (jg2_ne rfl (jg2_ne rfl (jg2_ne rfl (jg2_ne rfl hl0)))) ?_
          refine jr_iconst jf_94_90 jc_i_2 ?_
          refine jr_aload_n jf_94_91 rfl (jg2_ne rfl (jg2_ne rfl (jg2_ne rfl (jg2_ne rfl hl0)))) ?_
          replace h := obd_of h; obtain ⟨x33, hx33, h⟩ := h
          refine jr_getA jf_94_92 hx33 ?_
          refine jr_iconst jf_94_95 jc_i_1 ?_
          replace h := obd_of h; obtain ⟨a34, rfl, h⟩ := h
          replace h := jgd_of h; obtain ⟨hb35, h⟩ := h
          replace h := obd_of h; obtain ⟨x36, hx36, h⟩ := h
          refine jr_V6_1 jf_94_96 hb35 (by omega) (r_Row_at (by omega) _ _ _ _ hx36) (by simp only [jcats_cons, jcats_nil, cat_int, cat_long, cat_double, cat_float, cat_ref, rv_cat]; decide) jml_38 (Nat.le_of_ble_eq_true rfl) ?_
          replace h := jgd_of h; obtain ⟨hb37, h⟩ := h
          replace h := obd_of h; obtain ⟨x38, hx38, h⟩ := h
          refine jr_V6_2 jf_94_99 hb37 (by omega) (r_Section_times (by omega) _ _ _ _ _ hx38) (by simp only [jcats_cons, jcats_nil, cat_int, cat_long, cat_double, cat_float, cat_ref, rv_cat]; decide) jml_87 (Nat.le_of_ble_eq_true rfl) ?_
          replace h := obd_of h; obtain ⟨a39, rfl, h⟩ := h
          replace h := obd_of h; obtain ⟨x40, hx40, h⟩ := h
          rcases ite_or hx40 with ⟨hb, hx⟩ | ⟨hb0, hx⟩
          · refine jr_V8a_2 jf_94_102 hb (by omega) (r_Real_plus (by omega) _ _ _ _ _ hx) (Nat.le_of_ble_eq_true rfl) jml_74 (Nat.le_of_ble_eq_true rfl) ?_
            replace h := jgd_of h; obtain ⟨hb41, h⟩ := h
            replace h := jbd2_of h; obtain ⟨x42, μ43, hx42, h⟩ := h
            refine jr_V6_1 jf_94_105 hb41 (by omega) (r_Section_settled (by omega) _ _ _ _ _ hx42) (Nat.le_of_ble_eq_true rfl) jml_79 (Nat.le_of_ble_eq_true rfl) ?_
            refine jr_lstore jf_94_108 jml_94 (by decide) ?_
            refine jr_aload_n jf_94_110 rfl (jg2_ne rfl (jg2_ne rfl (jg2_ne rfl (jg2_ne rfl (jg2_ne rfl hl0))))) ?_
            replace h := obd_of h; obtain ⟨x44, hx44, h⟩ := h
            refine jr_getA jf_94_111 hx44 ?_
            refine jr_iconst jf_94_114 jc_i_1 ?_
            refine jr_lload_n jf_94_115 rfl (jg2_ne rfl (jg2_ne rfl (jg2_ne rfl (jg2_ne rfl jg2_same)))) ?_
            replace h := obd_of h; obtain ⟨a45, rfl, h⟩ := h
            replace h := jgd_of h; obtain ⟨hb46, h⟩ := h
            replace h := obd_of h; obtain ⟨μ47, hμ47, h⟩ := h
            refine jr_V6v_2 jf_94_116 hb46 (by omega) (r_Row_put (by omega) _ _ _ _ _ hμ47) (Nat.le_of_ble_eq_true rfl) jml_66 (Nat.le_of_ble_eq_true rfl) ?_
            refine jr_aload_n jf_94_119 rfl (jg2_ne rfl (jg2_ne rfl (jg2_ne rfl (jg2_ne rfl (jg2_ne rfl hl0))))) ?_
            replace h := obd_of h; obtain ⟨x48, hx48, h⟩ := h
            refine jr_getA jf_94_120 hx48 ?_
            refine jr_iconst jf_94_123 jc_i_0 ?_
            refine jr_lload jf_94_124 (jg2_ne rfl (jg2_ne rfl jg2_same)) ?_
            replace h := obd_of h; obtain ⟨a49, rfl, h⟩ := h
            replace h := jgd_of h; obtain ⟨hb50, h⟩ := h
            replace h := obd_of h; obtain ⟨μ51, hμ51, h⟩ := h
            refine jr_V6v_2 jf_94_126 hb50 (by omega) (r_Row_put (by omega) _ _ _ _ _ hμ51) (Nat.le_of_ble_eq_true rfl) jml_66 (Nat.le_of_ble_eq_true rfl) ?_
            refine jr_lload jf_94_129 jg2_same ?_
            obtain ⟨rfl, rfl⟩ := Prod.mk.inj (Option.some.inj h)
            exact jr_retJ jf_94_131 jmt_94
          · obtain ⟨hb, hx⟩ := jgd_of hx
            obtain hx := Option.some.inj hx
            refine jr_V8b_2 jf_94_102 hb0 hb (by omega) (r_Shorts_plus (by omega) _ _ _ _ _ hx) (Nat.le_of_ble_eq_true rfl) jml_78 (Nat.le_of_ble_eq_true rfl) ?_
            replace h := jgd_of h; obtain ⟨hb41, h⟩ := h
            replace h := jbd2_of h; obtain ⟨x42, μ43, hx42, h⟩ := h
            refine jr_V6_1 jf_94_105 hb41 (by omega) (r_Section_settled (by omega) _ _ _ _ _ hx42) (Nat.le_of_ble_eq_true rfl) jml_79 (Nat.le_of_ble_eq_true rfl) ?_
            refine jr_lstore jf_94_108 jml_94 (by decide) ?_
            refine jr_aload_n jf_94_110 rfl (jg2_ne rfl (jg2_ne rfl (jg2_ne rfl (jg2_ne rfl (jg2_ne rfl hl0))))) ?_
            replace h := obd_of h; obtain ⟨x44, hx44, h⟩ := h
            refine jr_getA jf_94_111 hx44 ?_
            refine jr_iconst jf_94_114 jc_i_1 ?_
            refine jr_lload_n jf_94_115 rfl (jg2_ne rfl (jg2_ne rfl (jg2_ne rfl (jg2_ne rfl jg2_same)))) ?_
            replace h := obd_of h; obtain ⟨a45, rfl, h⟩ := h
            replace h := jgd_of h; obtain ⟨hb46, h⟩ := h
            replace h := obd_of h; obtain ⟨μ47, hμ47, h⟩ := h
            refine jr_V6v_2 jf_94_116 hb46 (by omega) (r_Row_put (by omega) _ _ _ _ _ hμ47) (Nat.le_of_ble_eq_true rfl) jml_66 (Nat.le_of_ble_eq_true rfl) ?_
            refine jr_aload_n jf_94_119 rfl (jg2_ne rfl (jg2_ne rfl (jg2_ne rfl (jg2_ne rfl (jg2_ne rfl hl0))))) ?_
            replace h := obd_of h; obtain ⟨x48, hx48, h⟩ := h
            refine jr_getA jf_94_120 hx48 ?_
            refine jr_iconst jf_94_123 jc_i_0 ?_
            refine jr_lload jf_94_124 (jg2_ne rfl (jg2_ne rfl jg2_same)) ?_
            replace h := obd_of h; obtain ⟨a49, rfl, h⟩ := h
            replace h := jgd_of h; obtain ⟨hb50, h⟩ := h
            replace h := obd_of h; obtain ⟨μ51, hμ51, h⟩ := h
            refine jr_V6v_2 jf_94_126 hb50 (by omega) (r_Row_put (by omega) _ _ _ _ _ hμ51) (Nat.le_of_ble_eq_true rfl) jml_66 (Nat.le_of_ble_eq_true rfl) ?_
            refine jr_lload jf_94_129 jg2_same ?_
            obtain ⟨rfl, rfl⟩ := Prod.mk.inj (Option.some.inj h)
            exact jr_retJ jf_94_131 jmt_94
  · obtain ⟨hb, hx⟩ := jgd_of hx
    obtain hx := Option.some.inj hx
    refine jr_V8b_1 jf_94_18 hb0 hb (by omega) (r_Shorts_term (by omega) _ _ _ _ hx) (by simp only [jcats_cons, jcats_nil, cat_int, cat_long, cat_double, cat_float, cat_ref, rv_cat]; decide) jml_73 (Nat.le_of_ble_eq_true rfl) ?_
    refine jr_aload_n jf_94_21 rfl (jg2_ne rfl hl0) ?_
    refine jr_iconst jf_94_22 jc_i_3 ?_
    refine jr_lload_n jf_94_23 rfl jg2_same ?_
    replace h := jgd_of h; obtain ⟨hb9, h⟩ := h
    replace h := obd_of h; obtain ⟨x10, hx10, h⟩ := h
    refine jr_V6_2 jf_94_24 hb9 (by omega) (r_Section_lessTimes (by omega) _ _ _ _ _ hx10) (by simp only [jcats_cons, jcats_nil, cat_int, cat_long, cat_double, cat_float, cat_ref, rv_cat]; decide) jml_90 (Nat.le_of_ble_eq_true rfl) ?_
    replace h := obd_of h; obtain ⟨a11, rfl, h⟩ := h
    replace h := obd_of h; obtain ⟨x12, hx12, h⟩ := h
    rcases ite_or hx12 with ⟨hb, hx⟩ | ⟨hb0, hx⟩
    · refine jr_V8a_2 jf_94_27 hb (by omega) (r_Real_plus (by omega) _ _ _ _ _ hx) (Nat.le_of_ble_eq_true rfl) jml_74 (Nat.le_of_ble_eq_true rfl) ?_
      refine jr_lstore jf_94_30 jml_94 (by decide) ?_
      refine jr_aload_n jf_94_32 rfl (jg2_ne rfl (jg2_ne rfl hl0)) ?_
      refine jr_aload_n jf_94_33 rfl (jg2_ne rfl (jg2_ne rfl hl0)) ?_
      replace h := obd_of h; obtain ⟨x13, hx13, h⟩ := h
      refine jr_getA jf_94_34 hx13 ?_
      refine jr_lload jf_94_37 jg2_same ?_
      refine jr_aload_n jf_94_39 rfl (jg2_ne rfl (jg2_ne rfl hl0)) ?_
      refine jr_iconst jf_94_40 jc_i_4 ?_
      refine jr_aload_n jf_94_41 rfl (jg2_ne rfl (jg2_ne rfl hl0)) ?_
      replace h := obd_of h; obtain ⟨x14, hx14, h⟩ := h
      refine jr_getA jf_94_42 hx14 ?_
      refine jr_iconst jf_94_45 jc_i_1 ?_
      replace h := obd_of h; obtain ⟨a15, rfl, h⟩ := h
      replace h := jgd_of h; obtain ⟨hb16, h⟩ := h
      replace h := obd_of h; obtain ⟨x17, hx17, h⟩ := h
      refine jr_V6_1 jf_94_46 hb16 (by omega) (r_Row_at (by omega) _ _ _ _ hx17) (by simp only [jcats_cons, jcats_nil, cat_int, cat_long, cat_double, cat_float, cat_ref, rv_cat]; decide) jml_38 (Nat.le_of_ble_eq_true rfl) ?_
      replace h := jgd_of h; obtain ⟨hb18, h⟩ := h
      replace h := obd_of h; obtain ⟨x19, hx19, h⟩ := h
      refine jr_V6_2 jf_94_49 hb18 (by omega) (r_Section_lessTimes (by omega) _ _ _ _ _ hx19) (by simp only [jcats_cons, jcats_nil, cat_int, cat_long, cat_double, cat_float, cat_ref, rv_cat]; decide) jml_90 (Nat.le_of_ble_eq_true rfl) ?_
      replace h := obd_of h; obtain ⟨a20, rfl, h⟩ := h
      replace h := obd_of h; obtain ⟨x21, hx21, h⟩ := h
      rcases ite_or hx21 with ⟨hb, hx⟩ | ⟨hb0, hx⟩
      · refine jr_V8a_2 jf_94_52 hb (by omega) (r_Real_plus (by omega) _ _ _ _ _ hx) (Nat.le_of_ble_eq_true rfl) jml_74 (Nat.le_of_ble_eq_true rfl) ?_
        replace h := jgd_of h; obtain ⟨hb22, h⟩ := h
        replace h := jbd2_of h; obtain ⟨x23, μ24, hx23, h⟩ := h
        refine jr_V6_1 jf_94_55 hb22 (by omega) (r_Section_settled (by omega) _ _ _ _ _ hx23) (Nat.le_of_ble_eq_true rfl) jml_79 (Nat.le_of_ble_eq_true rfl) ?_
        refine jr_lstore jf_94_58 jml_94 (by decide) ?_
        refine jr_aload_n jf_94_60 rfl (jg2_ne rfl (jg2_ne rfl (jg2_ne rfl hl0))) ?_
        replace h := obd_of h; obtain ⟨x25, hx25, h⟩ := h
        refine jr_getA jf_94_61 hx25 ?_
        refine jr_aload_n jf_94_64 rfl (jg2_ne rfl (jg2_ne rfl (jg2_ne rfl hl0))) ?_
        refine jr_iconst jf_94_65 jc_i_0 ?_
        refine jr_lload jf_94_66 jg2_same ?_
        replace h := jgd_of h; obtain ⟨hb26, h⟩ := h
        replace h := obd_of h; obtain ⟨x27, hx27, h⟩ := h
        refine jr_V6_2 jf_94_68 hb26 (by omega) (r_Section_times (by omega) _ _ _ _ _ hx27) (by simp only [jcats_cons, jcats_nil, cat_int, cat_long, cat_double, cat_float, cat_ref, rv_cat]; decide) jml_87 (Nat.le_of_ble_eq_true rfl) ?_
        refine jr_aload_n jf_94_71 rfl (jg2_ne rfl (jg2_ne rfl (jg2_ne rfl hl0))) ?_
        refine jr_iconst jf_94_72 jc_i_1 ?_
        refine jr_lload_n jf_94_73 rfl (jg2_ne rfl (jg2_ne rfl jg2_same)) ?_
        replace h := jgd_of h; obtain ⟨hb28, h⟩ := h
        replace h := obd_of h; obtain ⟨x29, hx29, h⟩ := h
        refine jr_V6_2 jf_94_74 hb28 (by omega) (r_Section_times (by omega) _ _ _ _ _ hx29) (by simp only [jcats_cons, jcats_nil, cat_int, cat_long, cat_double, cat_float, cat_ref, rv_cat]; decide) jml_87 (Nat.le_of_ble_eq_true rfl) ?_
        replace h := obd_of h; obtain ⟨a30, rfl, h⟩ := h
        replace h := obd_of h; obtain ⟨x31, hx31, h⟩ := h
        rcases ite_or hx31 with ⟨hb, hx⟩ | ⟨hb0, hx⟩
        · refine jr_V8a_2 jf_94_77 hb (by omega) (r_Real_plus (by omega) _ _ _ _ _ hx) (Nat.le_of_ble_eq_true rfl) jml_74 (Nat.le_of_ble_eq_true rfl) ?_
          refine jr_lstore jf_94_80 jml_94 (by decide) ?_
          refine jr_aload_n jf_94_82 rfl (jg2_ne rfl (jg2_ne rfl (jg2_ne rfl (jg2_ne rfl hl0)))) ?_
          refine jr_aload_n jf_94_83 rfl (jg2_ne rfl (jg2_ne rfl (jg2_ne rfl (jg2_ne rfl hl0)))) ?_
          replace h := obd_of h; obtain ⟨x32, hx32, h⟩ := h
          refine jr_getA jf_94_84 hx32 ?_
          refine jr_lload jf_94_87 jg2_same ?_
          refine jr_aload_n jf_94_89 rfl (jg2_ne rfl (jg2_ne rfl (jg2_ne rfl (jg2_ne rfl hl0)))) ?_
          refine jr_iconst jf_94_90 jc_i_2 ?_
          refine jr_aload_n jf_94_91 rfl (jg2_ne rfl (jg2_ne rfl (jg2_ne rfl (jg2_ne rfl hl0)))) ?_
          replace h := obd_of h; obtain ⟨x33, hx33, h⟩ := h
          refine jr_getA jf_94_92 hx33 ?_
          refine jr_iconst jf_94_95 jc_i_1 ?_
          replace h := obd_of h; obtain ⟨a34, rfl, h⟩ := h
          replace h := jgd_of h; obtain ⟨hb35, h⟩ := h
          replace h := obd_of h; obtain ⟨x36, hx36, h⟩ := h
          refine jr_V6_1 jf_94_96 hb35 (by omega) (r_Row_at (by omega) _ _ _ _ hx36) (by simp only [jcats_cons, jcats_nil, cat_int, cat_long, cat_double, cat_float, cat_ref, rv_cat]; decide) jml_38 (Nat.le_of_ble_eq_true rfl) ?_
          replace h := jgd_of h; obtain ⟨hb37, h⟩ := h
          replace h := obd_of h; obtain ⟨x38, hx38, h⟩ := h
          refine jr_V6_2 jf_94_99 hb37 (by omega) (r_Section_times (by omega) _ _ _ _ _ hx38) (by simp only [jcats_cons, jcats_nil, cat_int, cat_long, cat_double, cat_float, cat_ref, rv_cat]; decide) jml_87 (Nat.le_of_ble_eq_true rfl) ?_
          replace h := obd_of h; obtain ⟨a39, rfl, h⟩ := h
          replace h := obd_of h; obtain ⟨x40, hx40, h⟩ := h
          rcases ite_or hx40 with ⟨hb, hx⟩ | ⟨hb0, hx⟩
          · refine jr_V8a_2 jf_94_102 hb (by omega) (r_Real_plus (by omega) _ _ _ _ _ hx) (Nat.le_of_ble_eq_true rfl) jml_74 (Nat.le_of_ble_eq_true rfl) ?_
            replace h := jgd_of h; obtain ⟨hb41, h⟩ := h
            replace h := jbd2_of h; obtain ⟨x42, μ43, hx42, h⟩ := h
            refine jr_V6_1 jf_94_105 hb41 (by omega) (r_Section_settled (by omega) _ _ _ _ _ hx42) (Nat.le_of_ble_eq_true rfl) jml_79 (Nat.le_of_ble_eq_true rfl) ?_
            refine jr_lstore jf_94_108 jml_94 (by decide) ?_
            refine jr_aload_n jf_94_110 rfl (jg2_ne rfl (jg2_ne rfl (jg2_ne rfl (jg2_ne rfl (jg2_ne rfl hl0))))) ?_
            replace h := obd_of h; obtain ⟨x44, hx44, h⟩ := h
            refine jr_getA jf_94_111 hx44 ?_
            refine jr_iconst jf_94_114 jc_i_1 ?_
            refine jr_lload_n jf_94_115 rfl (jg2_ne rfl (jg2_ne rfl (jg2_ne rfl (jg2_ne rfl jg2_same)))) ?_
            replace h := obd_of h; obtain ⟨a45, rfl, h⟩ := h
            replace h := jgd_of h; obtain ⟨hb46, h⟩ := h
            replace h := obd_of h; obtain ⟨μ47, hμ47, h⟩ := h
            refine jr_V6v_2 jf_94_116 hb46 (by omega) (r_Row_put (by omega) _ _ _ _ _ hμ47) (Nat.le_of_ble_eq_true rfl) jml_66 (Nat.le_of_ble_eq_true rfl) ?_
            refine jr_aload_n jf_94_119 rfl (jg2_ne rfl (jg2_ne rfl (jg2_ne rfl (jg2_ne rfl (jg2_ne rfl hl0))))) ?_
            replace h := obd_of h; obtain ⟨x48, hx48, h⟩ := h
            refine jr_getA jf_94_120 hx48 ?_
            refine jr_iconst jf_94_123 jc_i_0 ?_
            refine jr_lload jf_94_124 (jg2_ne rfl (jg2_ne rfl jg2_same)) ?_
            replace h := obd_of h; obtain ⟨a49, rfl, h⟩ := h
            replace h := jgd_of h; obtain ⟨hb50, h⟩ := h
            replace h := obd_of h; obtain ⟨μ51, hμ51, h⟩ := h
            refine jr_V6v_2 jf_94_126 hb50 (by omega) (r_Row_put (by omega) _ _ _ _ _ hμ51) (Nat.le_of_ble_eq_true rfl) jml_66 (Nat.le_of_ble_eq_true rfl) ?_
            refine jr_lload jf_94_129 jg2_same ?_
            obtain ⟨rfl, rfl⟩ := Prod.mk.inj (Option.some.inj h)
            exact jr_retJ jf_94_131 jmt_94
          · obtain ⟨hb, hx⟩ := jgd_of hx
            obtain hx := Option.some.inj hx
            refine jr_V8b_2 jf_94_102 hb0 hb (by omega) (r_Shorts_plus (by omega) _ _ _ _ _ hx) (Nat.le_of_ble_eq_true rfl) jml_78 (Nat.le_of_ble_eq_true rfl) ?_
            replace h := jgd_of h; obtain ⟨hb41, h⟩ := h
            replace h := jbd2_of h; obtain ⟨x42, μ43, hx42, h⟩ := h
            refine jr_V6_1 jf_94_105 hb41 (by omega) (r_Section_settled (by omega) _ _ _ _ _ hx42) (Nat.le_of_ble_eq_true rfl) jml_79 (Nat.le_of_ble_eq_true rfl) ?_
            refine jr_lstore jf_94_108 jml_94 (by decide) ?_
            refine jr_aload_n jf_94_110 rfl (jg2_ne rfl (jg2_ne rfl (jg2_ne rfl (jg2_ne rfl (jg2_ne rfl hl0))))) ?_
            replace h := obd_of h; obtain ⟨x44, hx44, h⟩ := h
            refine jr_getA jf_94_111 hx44 ?_
            refine jr_iconst jf_94_114 jc_i_1 ?_
            refine jr_lload_n jf_94_115 rfl (jg2_ne rfl (jg2_ne rfl (jg2_ne rfl (jg2_ne rfl jg2_same)))) ?_
            replace h := obd_of h; obtain ⟨a45, rfl, h⟩ := h
            replace h := jgd_of h; obtain ⟨hb46, h⟩ := h
            replace h := obd_of h; obtain ⟨μ47, hμ47, h⟩ := h
            refine jr_V6v_2 jf_94_116 hb46 (by omega) (r_Row_put (by omega) _ _ _ _ _ hμ47) (Nat.le_of_ble_eq_true rfl) jml_66 (Nat.le_of_ble_eq_true rfl) ?_
            refine jr_aload_n jf_94_119 rfl (jg2_ne rfl (jg2_ne rfl (jg2_ne rfl (jg2_ne rfl (jg2_ne rfl hl0))))) ?_
            replace h := obd_of h; obtain ⟨x48, hx48, h⟩ := h
            refine jr_getA jf_94_120 hx48 ?_
            refine jr_iconst jf_94_123 jc_i_0 ?_
            refine jr_lload jf_94_124 (jg2_ne rfl (jg2_ne rfl jg2_same)) ?_
            replace h := obd_of h; obtain ⟨a49, rfl, h⟩ := h
            replace h := jgd_of h; obtain ⟨hb50, h⟩ := h
            replace h := obd_of h; obtain ⟨μ51, hμ51, h⟩ := h
            refine jr_V6v_2 jf_94_126 hb50 (by omega) (r_Row_put (by omega) _ _ _ _ _ hμ51) (Nat.le_of_ble_eq_true rfl) jml_66 (Nat.le_of_ble_eq_true rfl) ?_
            refine jr_lload jf_94_129 jg2_same ?_
            obtain ⟨rfl, rfl⟩ := Prod.mk.inj (Option.some.inj h)
            exact jr_retJ jf_94_131 jmt_94
        · obtain ⟨hb, hx⟩ := jgd_of hx
          obtain hx := Option.some.inj hx
          refine jr_V8b_2 jf_94_77 hb0 hb (by omega) (r_Shorts_plus (by omega) _ _ _ _ _ hx) (Nat.le_of_ble_eq_true rfl) jml_78 (Nat.le_of_ble_eq_true rfl) ?_
          refine jr_lstore jf_94_80 jml_94 (by decide) ?_
          refine jr_aload_n jf_94_82 rfl (jg2_ne rfl (jg2_ne rfl (jg2_ne rfl (jg2_ne rfl hl0)))) ?_
          refine jr_aload_n jf_94_83 rfl (jg2_ne rfl (jg2_ne rfl (jg2_ne rfl (jg2_ne rfl hl0)))) ?_
          replace h := obd_of h; obtain ⟨x32, hx32, h⟩ := h
          refine jr_getA jf_94_84 hx32 ?_
          refine jr_lload jf_94_87 jg2_same ?_
          refine jr_aload_n jf_94_89 rfl (jg2_ne rfl (jg2_ne rfl (jg2_ne rfl (jg2_ne rfl hl0)))) ?_
          refine jr_iconst jf_94_90 jc_i_2 ?_
          refine jr_aload_n jf_94_91 rfl (jg2_ne rfl (jg2_ne rfl (jg2_ne rfl (jg2_ne rfl hl0)))) ?_
          replace h := obd_of h; obtain ⟨x33, hx33, h⟩ := h
          refine jr_getA jf_94_92 hx33 ?_
          refine jr_iconst jf_94_95 jc_i_1 ?_
          replace h := obd_of h; obtain ⟨a34, rfl, h⟩ := h
          replace h := jgd_of h; obtain ⟨hb35, h⟩ := h
          replace h := obd_of h; obtain ⟨x36, hx36, h⟩ := h
          refine jr_V6_1 jf_94_96 hb35 (by omega) (r_Row_at (by omega) _ _ _ _ hx36) (by simp only [jcats_cons, jcats_nil, cat_int, cat_long, cat_double, cat_float, cat_ref, rv_cat]; decide) jml_38 (Nat.le_of_ble_eq_true rfl) ?_
          replace h := jgd_of h; obtain ⟨hb37, h⟩ := h
          replace h := obd_of h; obtain ⟨x38, hx38, h⟩ := h
          refine jr_V6_2 jf_94_99 hb37 (by omega) (r_Section_times (by omega) _ _ _ _ _ hx38) (by simp only [jcats_cons, jcats_nil, cat_int, cat_long, cat_double, cat_float, cat_ref, rv_cat]; decide) jml_87 (Nat.le_of_ble_eq_true rfl) ?_
          replace h := obd_of h; obtain ⟨a39, rfl, h⟩ := h
          replace h := obd_of h; obtain ⟨x40, hx40, h⟩ := h
          rcases ite_or hx40 with ⟨hb, hx⟩ | ⟨hb0, hx⟩
          · refine jr_V8a_2 jf_94_102 hb (by omega) (r_Real_plus (by omega) _ _ _ _ _ hx) (Nat.le_of_ble_eq_true rfl) jml_74 (Nat.le_of_ble_eq_true rfl) ?_
            replace h := jgd_of h; obtain ⟨hb41, h⟩ := h
            replace h := jbd2_of h; obtain ⟨x42, μ43, hx42, h⟩ := h
            refine jr_V6_1 jf_94_105 hb41 (by omega) (r_Section_settled (by omega) _ _ _ _ _ hx42) (Nat.le_of_ble_eq_true rfl) jml_79 (Nat.le_of_ble_eq_true rfl) ?_
            refine jr_lstore jf_94_108 jml_94 (by decide) ?_
            refine jr_aload_n jf_94_110 rfl (jg2_ne rfl (jg2_ne rfl (jg2_ne rfl (jg2_ne rfl (jg2_ne rfl hl0))))) ?_
            replace h := obd_of h; obtain ⟨x44, hx44, h⟩ := h
            refine jr_getA jf_94_111 hx44 ?_
            refine jr_iconst jf_94_114 jc_i_1 ?_
            refine jr_lload_n jf_94_115 rfl (jg2_ne rfl (jg2_ne rfl (jg2_ne rfl (jg2_ne rfl jg2_same)))) ?_
            replace h := obd_of h; obtain ⟨a45, rfl, h⟩ := h
            replace h := jgd_of h; obtain ⟨hb46, h⟩ := h
            replace h := obd_of h; obtain ⟨μ47, hμ47, h⟩ := h
            refine jr_V6v_2 jf_94_116 hb46 (by omega) (r_Row_put (by omega) _ _ _ _ _ hμ47) (Nat.le_of_ble_eq_true rfl) jml_66 (Nat.le_of_ble_eq_true rfl) ?_
            refine jr_aload_n jf_94_119 rfl (jg2_ne rfl (jg2_ne rfl (jg2_ne rfl (jg2_ne rfl (jg2_ne rfl hl0))))) ?_
            replace h := obd_of h; obtain ⟨x48, hx48, h⟩ := h
            refine jr_getA jf_94_120 hx48 ?_
            refine jr_iconst jf_94_123 jc_i_0 ?_
            refine jr_lload jf_94_124 (jg2_ne rfl (jg2_ne rfl jg2_same)) ?_
            replace h := obd_of h; obtain ⟨a49, rfl, h⟩ := h
            replace h := jgd_of h; obtain ⟨hb50, h⟩ := h
            replace h := obd_of h; obtain ⟨μ51, hμ51, h⟩ := h
            refine jr_V6v_2 jf_94_126 hb50 (by omega) (r_Row_put (by omega) _ _ _ _ _ hμ51) (Nat.le_of_ble_eq_true rfl) jml_66 (Nat.le_of_ble_eq_true rfl) ?_
            refine jr_lload jf_94_129 jg2_same ?_
            obtain ⟨rfl, rfl⟩ := Prod.mk.inj (Option.some.inj h)
            exact jr_retJ jf_94_131 jmt_94
          · obtain ⟨hb, hx⟩ := jgd_of hx
            obtain hx := Option.some.inj hx
            refine jr_V8b_2 jf_94_102 hb0 hb (by omega) (r_Shorts_plus (by omega) _ _ _ _ _ hx) (Nat.le_of_ble_eq_true rfl) jml_78 (Nat.le_of_ble_eq_true rfl) ?_
            replace h := jgd_of h; obtain ⟨hb41, h⟩ := h
            replace h := jbd2_of h; obtain ⟨x42, μ43, hx42, h⟩ := h
            refine jr_V6_1 jf_94_105 hb41 (by omega) (r_Section_settled (by omega) _ _ _ _ _ hx42) (Nat.le_of_ble_eq_true rfl) jml_79 (Nat.le_of_ble_eq_true rfl) ?_
            refine jr_lstore jf_94_108 jml_94 (by decide) ?_
            refine jr_aload_n jf_94_110 rfl (jg2_ne rfl (jg2_ne rfl (jg2_ne rfl (jg2_ne rfl (jg2_ne rfl hl0))))) ?_
            replace h := obd_of h; obtain ⟨x44, hx44, h⟩ := h
            refine jr_getA jf_94_111 hx44 ?_
            refine jr_iconst jf_94_114 jc_i_1 ?_
            refine jr_lload_n jf_94_115 rfl (jg2_ne rfl (jg2_ne rfl (jg2_ne rfl (jg2_ne rfl jg2_same)))) ?_
            replace h := obd_of h; obtain ⟨a45, rfl, h⟩ := h
            replace h := jgd_of h; obtain ⟨hb46, h⟩ := h
            replace h := obd_of h; obtain ⟨μ47, hμ47, h⟩ := h
            refine jr_V6v_2 jf_94_116 hb46 (by omega) (r_Row_put (by omega) _ _ _ _ _ hμ47) (Nat.le_of_ble_eq_true rfl) jml_66 (Nat.le_of_ble_eq_true rfl) ?_
            refine jr_aload_n jf_94_119 rfl (jg2_ne rfl (jg2_ne rfl (jg2_ne rfl (jg2_ne rfl (jg2_ne rfl hl0))))) ?_
            replace h := obd_of h; obtain ⟨x48, hx48, h⟩ := h
            refine jr_getA jf_94_120 hx48 ?_
            refine jr_iconst jf_94_123 jc_i_0 ?_
            refine jr_lload jf_94_124 (jg2_ne rfl (jg2_ne rfl jg2_same)) ?_
            replace h := obd_of h; obtain ⟨a49, rfl, h⟩ := h
            replace h := jgd_of h; obtain ⟨hb50, h⟩ := h
            replace h := obd_of h; obtain ⟨μ51, hμ51, h⟩ := h
            refine jr_V6v_2 jf_94_126 hb50 (by omega) (r_Row_put (by omega) _ _ _ _ _ hμ51) (Nat.le_of_ble_eq_true rfl) jml_66 (Nat.le_of_ble_eq_true rfl) ?_
            refine jr_lload jf_94_129 jg2_same ?_
            obtain ⟨rfl, rfl⟩ := Prod.mk.inj (Option.some.inj h)
            exact jr_retJ jf_94_131 jmt_94
      · obtain ⟨hb, hx⟩ := jgd_of hx
        obtain hx := Option.some.inj hx
        refine jr_V8b_2 jf_94_52 hb0 hb (by omega) (r_Shorts_plus (by omega) _ _ _ _ _ hx) (Nat.le_of_ble_eq_true rfl) jml_78 (Nat.le_of_ble_eq_true rfl) ?_
        replace h := jgd_of h; obtain ⟨hb22, h⟩ := h
        replace h := jbd2_of h; obtain ⟨x23, μ24, hx23, h⟩ := h
        refine jr_V6_1 jf_94_55 hb22 (by omega) (r_Section_settled (by omega) _ _ _ _ _ hx23) (Nat.le_of_ble_eq_true rfl) jml_79 (Nat.le_of_ble_eq_true rfl) ?_
        refine jr_lstore jf_94_58 jml_94 (by decide) ?_
        refine jr_aload_n jf_94_60 rfl (jg2_ne rfl (jg2_ne rfl (jg2_ne rfl hl0))) ?_
        replace h := obd_of h; obtain ⟨x25, hx25, h⟩ := h
        refine jr_getA jf_94_61 hx25 ?_
        refine jr_aload_n jf_94_64 rfl (jg2_ne rfl (jg2_ne rfl (jg2_ne rfl hl0))) ?_
        refine jr_iconst jf_94_65 jc_i_0 ?_
        refine jr_lload jf_94_66 jg2_same ?_
        replace h := jgd_of h; obtain ⟨hb26, h⟩ := h
        replace h := obd_of h; obtain ⟨x27, hx27, h⟩ := h
        refine jr_V6_2 jf_94_68 hb26 (by omega) (r_Section_times (by omega) _ _ _ _ _ hx27) (by simp only [jcats_cons, jcats_nil, cat_int, cat_long, cat_double, cat_float, cat_ref, rv_cat]; decide) jml_87 (Nat.le_of_ble_eq_true rfl) ?_
        refine jr_aload_n jf_94_71 rfl (jg2_ne rfl (jg2_ne rfl (jg2_ne rfl hl0))) ?_
        refine jr_iconst jf_94_72 jc_i_1 ?_
        refine jr_lload_n jf_94_73 rfl (jg2_ne rfl (jg2_ne rfl jg2_same)) ?_
        replace h := jgd_of h; obtain ⟨hb28, h⟩ := h
        replace h := obd_of h; obtain ⟨x29, hx29, h⟩ := h
        refine jr_V6_2 jf_94_74 hb28 (by omega) (r_Section_times (by omega) _ _ _ _ _ hx29) (by simp only [jcats_cons, jcats_nil, cat_int, cat_long, cat_double, cat_float, cat_ref, rv_cat]; decide) jml_87 (Nat.le_of_ble_eq_true rfl) ?_
        replace h := obd_of h; obtain ⟨a30, rfl, h⟩ := h
        replace h := obd_of h; obtain ⟨x31, hx31, h⟩ := h
        rcases ite_or hx31 with ⟨hb, hx⟩ | ⟨hb0, hx⟩
        · refine jr_V8a_2 jf_94_77 hb (by omega) (r_Real_plus (by omega) _ _ _ _ _ hx) (Nat.le_of_ble_eq_true rfl) jml_74 (Nat.le_of_ble_eq_true rfl) ?_
          refine jr_lstore jf_94_80 jml_94 (by decide) ?_
          refine jr_aload_n jf_94_82 rfl (jg2_ne rfl (jg2_ne rfl (jg2_ne rfl (jg2_ne rfl hl0)))) ?_
          refine jr_aload_n jf_94_83 rfl (jg2_ne rfl (jg2_ne rfl (jg2_ne rfl (jg2_ne rfl hl0)))) ?_
          replace h := obd_of h; obtain ⟨x32, hx32, h⟩ := h
          refine jr_getA jf_94_84 hx32 ?_
          refine jr_lload jf_94_87 jg2_same ?_
          refine jr_aload_n jf_94_89 rfl (jg2_ne rfl (jg2_ne rfl (jg2_ne rfl (jg2_ne rfl hl0)))) ?_
          refine jr_iconst jf_94_90 jc_i_2 ?_
          refine jr_aload_n jf_94_91 rfl (jg2_ne rfl (jg2_ne rfl (jg2_ne rfl (jg2_ne rfl hl0)))) ?_
          replace h := obd_of h; obtain ⟨x33, hx33, h⟩ := h
          refine jr_getA jf_94_92 hx33 ?_
          refine jr_iconst jf_94_95 jc_i_1 ?_
          replace h := obd_of h; obtain ⟨a34, rfl, h⟩ := h
          replace h := jgd_of h; obtain ⟨hb35, h⟩ := h
          replace h := obd_of h; obtain ⟨x36, hx36, h⟩ := h
          refine jr_V6_1 jf_94_96 hb35 (by omega) (r_Row_at (by omega) _ _ _ _ hx36) (by simp only [jcats_cons, jcats_nil, cat_int, cat_long, cat_double, cat_float, cat_ref, rv_cat]; decide) jml_38 (Nat.le_of_ble_eq_true rfl) ?_
          replace h := jgd_of h; obtain ⟨hb37, h⟩ := h
          replace h := obd_of h; obtain ⟨x38, hx38, h⟩ := h
          refine jr_V6_2 jf_94_99 hb37 (by omega) (r_Section_times (by omega) _ _ _ _ _ hx38) (by simp only [jcats_cons, jcats_nil, cat_int, cat_long, cat_double, cat_float, cat_ref, rv_cat]; decide) jml_87 (Nat.le_of_ble_eq_true rfl) ?_
          replace h := obd_of h; obtain ⟨a39, rfl, h⟩ := h
          replace h := obd_of h; obtain ⟨x40, hx40, h⟩ := h
          rcases ite_or hx40 with ⟨hb, hx⟩ | ⟨hb0, hx⟩
          · refine jr_V8a_2 jf_94_102 hb (by omega) (r_Real_plus (by omega) _ _ _ _ _ hx) (Nat.le_of_ble_eq_true rfl) jml_74 (Nat.le_of_ble_eq_true rfl) ?_
            replace h := jgd_of h; obtain ⟨hb41, h⟩ := h
            replace h := jbd2_of h; obtain ⟨x42, μ43, hx42, h⟩ := h
            refine jr_V6_1 jf_94_105 hb41 (by omega) (r_Section_settled (by omega) _ _ _ _ _ hx42) (Nat.le_of_ble_eq_true rfl) jml_79 (Nat.le_of_ble_eq_true rfl) ?_
            refine jr_lstore jf_94_108 jml_94 (by decide) ?_
            refine jr_aload_n jf_94_110 rfl (jg2_ne rfl (jg2_ne rfl (jg2_ne rfl (jg2_ne rfl (jg2_ne rfl hl0))))) ?_
            replace h := obd_of h; obtain ⟨x44, hx44, h⟩ := h
            refine jr_getA jf_94_111 hx44 ?_
            refine jr_iconst jf_94_114 jc_i_1 ?_
            refine jr_lload_n jf_94_115 rfl (jg2_ne rfl (jg2_ne rfl (jg2_ne rfl (jg2_ne rfl jg2_same)))) ?_
            replace h := obd_of h; obtain ⟨a45, rfl, h⟩ := h
            replace h := jgd_of h; obtain ⟨hb46, h⟩ := h
            replace h := obd_of h; obtain ⟨μ47, hμ47, h⟩ := h
            refine jr_V6v_2 jf_94_116 hb46 (by omega) (r_Row_put (by omega) _ _ _ _ _ hμ47) (Nat.le_of_ble_eq_true rfl) jml_66 (Nat.le_of_ble_eq_true rfl) ?_
            refine jr_aload_n jf_94_119 rfl (jg2_ne rfl (jg2_ne rfl (jg2_ne rfl (jg2_ne rfl (jg2_ne rfl hl0))))) ?_
            replace h := obd_of h; obtain ⟨x48, hx48, h⟩ := h
            refine jr_getA jf_94_120 hx48 ?_
            refine jr_iconst jf_94_123 jc_i_0 ?_
            refine jr_lload jf_94_124 (jg2_ne rfl (jg2_ne rfl jg2_same)) ?_
            replace h := obd_of h; obtain ⟨a49, rfl, h⟩ := h
            replace h := jgd_of h; obtain ⟨hb50, h⟩ := h
            replace h := obd_of h; obtain ⟨μ51, hμ51, h⟩ := h
            refine jr_V6v_2 jf_94_126 hb50 (by omega) (r_Row_put (by omega) _ _ _ _ _ hμ51) (Nat.le_of_ble_eq_true rfl) jml_66 (Nat.le_of_ble_eq_true rfl) ?_
            refine jr_lload jf_94_129 jg2_same ?_
            obtain ⟨rfl, rfl⟩ := Prod.mk.inj (Option.some.inj h)
            exact jr_retJ jf_94_131 jmt_94
          · obtain ⟨hb, hx⟩ := jgd_of hx
            obtain hx := Option.some.inj hx
            refine jr_V8b_2 jf_94_102 hb0 hb (by omega) (r_Shorts_plus (by omega) _ _ _ _ _ hx) (Nat.le_of_ble_eq_true rfl) jml_78 (Nat.le_of_ble_eq_true rfl) ?_
            replace h := jgd_of h; obtain ⟨hb41, h⟩ := h
            replace h := jbd2_of h; obtain ⟨x42, μ43, hx42, h⟩ := h
            refine jr_V6_1 jf_94_105 hb41 (by omega) (r_Section_settled (by omega) _ _ _ _ _ hx42) (Nat.le_of_ble_eq_true rfl) jml_79 (Nat.le_of_ble_eq_true rfl) ?_
            refine jr_lstore jf_94_108 jml_94 (by decide) ?_
            refine jr_aload_n jf_94_110 rfl (jg2_ne rfl (jg2_ne rfl (jg2_ne rfl (jg2_ne rfl (jg2_ne rfl hl0))))) ?_
            replace h := obd_of h; obtain ⟨x44, hx44, h⟩ := h
            refine jr_getA jf_94_111 hx44 ?_
            refine jr_iconst jf_94_114 jc_i_1 ?_
            refine jr_lload_n jf_94_115 rfl (jg2_ne rfl (jg2_ne rfl (jg2_ne rfl (jg2_ne rfl jg2_same)))) ?_
            replace h := obd_of h; obtain ⟨a45, rfl, h⟩ := h
            replace h := jgd_of h; obtain ⟨hb46, h⟩ := h
            replace h := obd_of h; obtain ⟨μ47, hμ47, h⟩ := h
            refine jr_V6v_2 jf_94_116 hb46 (by omega) (r_Row_put (by omega) _ _ _ _ _ hμ47) (Nat.le_of_ble_eq_true rfl) jml_66 (Nat.le_of_ble_eq_true rfl) ?_
            refine jr_aload_n jf_94_119 rfl (jg2_ne rfl (jg2_ne rfl (jg2_ne rfl (jg2_ne rfl (jg2_ne rfl hl0))))) ?_
            replace h := obd_of h; obtain ⟨x48, hx48, h⟩ := h
            refine jr_getA jf_94_120 hx48 ?_
            refine jr_iconst jf_94_123 jc_i_0 ?_
            refine jr_lload jf_94_124 (jg2_ne rfl (jg2_ne rfl jg2_same)) ?_
            replace h := obd_of h; obtain ⟨a49, rfl, h⟩ := h
            replace h := jgd_of h; obtain ⟨hb50, h⟩ := h
            replace h := obd_of h; obtain ⟨μ51, hμ51, h⟩ := h
            refine jr_V6v_2 jf_94_126 hb50 (by omega) (r_Row_put (by omega) _ _ _ _ _ hμ51) (Nat.le_of_ble_eq_true rfl) jml_66 (Nat.le_of_ble_eq_true rfl) ?_
            refine jr_lload jf_94_129 jg2_same ?_
            obtain ⟨rfl, rfl⟩ := Prod.mk.inj (Option.some.inj h)
            exact jr_retJ jf_94_131 jmt_94
        · obtain ⟨hb, hx⟩ := jgd_of hx
          obtain hx := Option.some.inj hx
          refine jr_V8b_2 jf_94_77 hb0 hb (by omega) (r_Shorts_plus (by omega) _ _ _ _ _ hx) (Nat.le_of_ble_eq_true rfl) jml_78 (Nat.le_of_ble_eq_true rfl) ?_
          refine jr_lstore jf_94_80 jml_94 (by decide) ?_
          refine jr_aload_n jf_94_82 rfl (jg2_ne rfl (jg2_ne rfl (jg2_ne rfl (jg2_ne rfl hl0)))) ?_
          refine jr_aload_n jf_94_83 rfl (jg2_ne rfl (jg2_ne rfl (jg2_ne rfl (jg2_ne rfl hl0)))) ?_
          replace h := obd_of h; obtain ⟨x32, hx32, h⟩ := h
          refine jr_getA jf_94_84 hx32 ?_
          refine jr_lload jf_94_87 jg2_same ?_
          refine jr_aload_n jf_94_89 rfl (jg2_ne rfl (jg2_ne rfl (jg2_ne rfl (jg2_ne rfl hl0)))) ?_
          refine jr_iconst jf_94_90 jc_i_2 ?_
          refine jr_aload_n jf_94_91 rfl (jg2_ne rfl (jg2_ne rfl (jg2_ne rfl (jg2_ne rfl hl0)))) ?_
          replace h := obd_of h; obtain ⟨x33, hx33, h⟩ := h
          refine jr_getA jf_94_92 hx33 ?_
          refine jr_iconst jf_94_95 jc_i_1 ?_
          replace h := obd_of h; obtain ⟨a34, rfl, h⟩ := h
          replace h := jgd_of h; obtain ⟨hb35, h⟩ := h
          replace h := obd_of h; obtain ⟨x36, hx36, h⟩ := h
          refine jr_V6_1 jf_94_96 hb35 (by omega) (r_Row_at (by omega) _ _ _ _ hx36) (by simp only [jcats_cons, jcats_nil, cat_int, cat_long, cat_double, cat_float, cat_ref, rv_cat]; decide) jml_38 (Nat.le_of_ble_eq_true rfl) ?_
          replace h := jgd_of h; obtain ⟨hb37, h⟩ := h
          replace h := obd_of h; obtain ⟨x38, hx38, h⟩ := h
          refine jr_V6_2 jf_94_99 hb37 (by omega) (r_Section_times (by omega) _ _ _ _ _ hx38) (by simp only [jcats_cons, jcats_nil, cat_int, cat_long, cat_double, cat_float, cat_ref, rv_cat]; decide) jml_87 (Nat.le_of_ble_eq_true rfl) ?_
          replace h := obd_of h; obtain ⟨a39, rfl, h⟩ := h
          replace h := obd_of h; obtain ⟨x40, hx40, h⟩ := h
          rcases ite_or hx40 with ⟨hb, hx⟩ | ⟨hb0, hx⟩
          · refine jr_V8a_2 jf_94_102 hb (by omega) (r_Real_plus (by omega) _ _ _ _ _ hx) (Nat.le_of_ble_eq_true rfl) jml_74 (Nat.le_of_ble_eq_true rfl) ?_
            replace h := jgd_of h; obtain ⟨hb41, h⟩ := h
            replace h := jbd2_of h; obtain ⟨x42, μ43, hx42, h⟩ := h
            refine jr_V6_1 jf_94_105 hb41 (by omega) (r_Section_settled (by omega) _ _ _ _ _ hx42) (Nat.le_of_ble_eq_true rfl) jml_79 (Nat.le_of_ble_eq_true rfl) ?_
            refine jr_lstore jf_94_108 jml_94 (by decide) ?_
            refine jr_aload_n jf_94_110 rfl (jg2_ne rfl (jg2_ne rfl (jg2_ne rfl (jg2_ne rfl (jg2_ne rfl hl0))))) ?_
            replace h := obd_of h; obtain ⟨x44, hx44, h⟩ := h
            refine jr_getA jf_94_111 hx44 ?_
            refine jr_iconst jf_94_114 jc_i_1 ?_
            refine jr_lload_n jf_94_115 rfl (jg2_ne rfl (jg2_ne rfl (jg2_ne rfl (jg2_ne rfl jg2_same)))) ?_
            replace h := obd_of h; obtain ⟨a45, rfl, h⟩ := h
            replace h := jgd_of h; obtain ⟨hb46, h⟩ := h
            replace h := obd_of h; obtain ⟨μ47, hμ47, h⟩ := h
            refine jr_V6v_2 jf_94_116 hb46 (by omega) (r_Row_put (by omega) _ _ _ _ _ hμ47) (Nat.le_of_ble_eq_true rfl) jml_66 (Nat.le_of_ble_eq_true rfl) ?_
            refine jr_aload_n jf_94_119 rfl (jg2_ne rfl (jg2_ne rfl (jg2_ne rfl (jg2_ne rfl (jg2_ne rfl hl0))))) ?_
            replace h := obd_of h; obtain ⟨x48, hx48, h⟩ := h
            refine jr_getA jf_94_120 hx48 ?_
            refine jr_iconst jf_94_123 jc_i_0 ?_
            refine jr_lload jf_94_124 (jg2_ne rfl (jg2_ne rfl jg2_same)) ?_
            replace h := obd_of h; obtain ⟨a49, rfl, h⟩ := h
            replace h := jgd_of h; obtain ⟨hb50, h⟩ := h
            replace h := obd_of h; obtain ⟨μ51, hμ51, h⟩ := h
            refine jr_V6v_2 jf_94_126 hb50 (by omega) (r_Row_put (by omega) _ _ _ _ _ hμ51) (Nat.le_of_ble_eq_true rfl) jml_66 (Nat.le_of_ble_eq_true rfl) ?_
            refine jr_lload jf_94_129 jg2_same ?_
            obtain ⟨rfl, rfl⟩ := Prod.mk.inj (Option.some.inj h)
            exact jr_retJ jf_94_131 jmt_94
          · obtain ⟨hb, hx⟩ := jgd_of hx
            obtain hx := Option.some.inj hx
            refine jr_V8b_2 jf_94_102 hb0 hb (by omega) (r_Shorts_plus (by omega) _ _ _ _ _ hx) (Nat.le_of_ble_eq_true rfl) jml_78 (Nat.le_of_ble_eq_true rfl) ?_
            replace h := jgd_of h; obtain ⟨hb41, h⟩ := h
            replace h := jbd2_of h; obtain ⟨x42, μ43, hx42, h⟩ := h
            refine jr_V6_1 jf_94_105 hb41 (by omega) (r_Section_settled (by omega) _ _ _ _ _ hx42) (Nat.le_of_ble_eq_true rfl) jml_79 (Nat.le_of_ble_eq_true rfl) ?_
            refine jr_lstore jf_94_108 jml_94 (by decide) ?_
            refine jr_aload_n jf_94_110 rfl (jg2_ne rfl (jg2_ne rfl (jg2_ne rfl (jg2_ne rfl (jg2_ne rfl hl0))))) ?_
            replace h := obd_of h; obtain ⟨x44, hx44, h⟩ := h
            refine jr_getA jf_94_111 hx44 ?_
            refine jr_iconst jf_94_114 jc_i_1 ?_
            refine jr_lload_n jf_94_115 rfl (jg2_ne rfl (jg2_ne rfl (jg2_ne rfl (jg2_ne rfl jg2_same)))) ?_
            replace h := obd_of h; obtain ⟨a45, rfl, h⟩ := h
            replace h := jgd_of h; obtain ⟨hb46, h⟩ := h
            replace h := obd_of h; obtain ⟨μ47, hμ47, h⟩ := h
            refine jr_V6v_2 jf_94_116 hb46 (by omega) (r_Row_put (by omega) _ _ _ _ _ hμ47) (Nat.le_of_ble_eq_true rfl) jml_66 (Nat.le_of_ble_eq_true rfl) ?_
            refine jr_aload_n jf_94_119 rfl (jg2_ne rfl (jg2_ne rfl (jg2_ne rfl (jg2_ne rfl (jg2_ne rfl hl0))))) ?_
            replace h := obd_of h; obtain ⟨x48, hx48, h⟩ := h
            refine jr_getA jf_94_120 hx48 ?_
            refine jr_iconst jf_94_123 jc_i_0 ?_
            refine jr_lload jf_94_124 (jg2_ne rfl (jg2_ne rfl jg2_same)) ?_
            replace h := obd_of h; obtain ⟨a49, rfl, h⟩ := h
            replace h := jgd_of h; obtain ⟨hb50, h⟩ := h
            replace h := obd_of h; obtain ⟨μ51, hμ51, h⟩ := h
            refine jr_V6v_2 jf_94_126 hb50 (by omega) (r_Row_put (by omega) _ _ _ _ _ hμ51) (Nat.le_of_ble_eq_true rfl) jml_66 (Nat.le_of_ble_eq_true rfl) ?_
            refine jr_lload jf_94_129 jg2_same ?_
            obtain ⟨rfl, rfl⟩ := Prod.mk.inj (Option.some.inj h)
            exact jr_retJ jf_94_131 jmt_94
    · obtain ⟨hb, hx⟩ := jgd_of hx
      obtain hx := Option.some.inj hx
      refine jr_V8b_2 jf_94_27 hb0 hb (by omega) (r_Shorts_plus (by omega) _ _ _ _ _ hx) (Nat.le_of_ble_eq_true rfl) jml_78 (Nat.le_of_ble_eq_true rfl) ?_
      refine jr_lstore jf_94_30 jml_94 (by decide) ?_
      refine jr_aload_n jf_94_32 rfl (jg2_ne rfl (jg2_ne rfl hl0)) ?_
      refine jr_aload_n jf_94_33 rfl (jg2_ne rfl (jg2_ne rfl hl0)) ?_
      replace h := obd_of h; obtain ⟨x13, hx13, h⟩ := h
      refine jr_getA jf_94_34 hx13 ?_
      refine jr_lload jf_94_37 jg2_same ?_
      refine jr_aload_n jf_94_39 rfl (jg2_ne rfl (jg2_ne rfl hl0)) ?_
      refine jr_iconst jf_94_40 jc_i_4 ?_
      refine jr_aload_n jf_94_41 rfl (jg2_ne rfl (jg2_ne rfl hl0)) ?_
      replace h := obd_of h; obtain ⟨x14, hx14, h⟩ := h
      refine jr_getA jf_94_42 hx14 ?_
      refine jr_iconst jf_94_45 jc_i_1 ?_
      replace h := obd_of h; obtain ⟨a15, rfl, h⟩ := h
      replace h := jgd_of h; obtain ⟨hb16, h⟩ := h
      replace h := obd_of h; obtain ⟨x17, hx17, h⟩ := h
      refine jr_V6_1 jf_94_46 hb16 (by omega) (r_Row_at (by omega) _ _ _ _ hx17) (by simp only [jcats_cons, jcats_nil, cat_int, cat_long, cat_double, cat_float, cat_ref, rv_cat]; decide) jml_38 (Nat.le_of_ble_eq_true rfl) ?_
      replace h := jgd_of h; obtain ⟨hb18, h⟩ := h
      replace h := obd_of h; obtain ⟨x19, hx19, h⟩ := h
      refine jr_V6_2 jf_94_49 hb18 (by omega) (r_Section_lessTimes (by omega) _ _ _ _ _ hx19) (by simp only [jcats_cons, jcats_nil, cat_int, cat_long, cat_double, cat_float, cat_ref, rv_cat]; decide) jml_90 (Nat.le_of_ble_eq_true rfl) ?_
      replace h := obd_of h; obtain ⟨a20, rfl, h⟩ := h
      replace h := obd_of h; obtain ⟨x21, hx21, h⟩ := h
      rcases ite_or hx21 with ⟨hb, hx⟩ | ⟨hb0, hx⟩
      · refine jr_V8a_2 jf_94_52 hb (by omega) (r_Real_plus (by omega) _ _ _ _ _ hx) (Nat.le_of_ble_eq_true rfl) jml_74 (Nat.le_of_ble_eq_true rfl) ?_
        replace h := jgd_of h; obtain ⟨hb22, h⟩ := h
        replace h := jbd2_of h; obtain ⟨x23, μ24, hx23, h⟩ := h
        refine jr_V6_1 jf_94_55 hb22 (by omega) (r_Section_settled (by omega) _ _ _ _ _ hx23) (Nat.le_of_ble_eq_true rfl) jml_79 (Nat.le_of_ble_eq_true rfl) ?_
        refine jr_lstore jf_94_58 jml_94 (by decide) ?_
        refine jr_aload_n jf_94_60 rfl (jg2_ne rfl (jg2_ne rfl (jg2_ne rfl hl0))) ?_
        replace h := obd_of h; obtain ⟨x25, hx25, h⟩ := h
        refine jr_getA jf_94_61 hx25 ?_
        refine jr_aload_n jf_94_64 rfl (jg2_ne rfl (jg2_ne rfl (jg2_ne rfl hl0))) ?_
        refine jr_iconst jf_94_65 jc_i_0 ?_
        refine jr_lload jf_94_66 jg2_same ?_
        replace h := jgd_of h; obtain ⟨hb26, h⟩ := h
        replace h := obd_of h; obtain ⟨x27, hx27, h⟩ := h
        refine jr_V6_2 jf_94_68 hb26 (by omega) (r_Section_times (by omega) _ _ _ _ _ hx27) (by simp only [jcats_cons, jcats_nil, cat_int, cat_long, cat_double, cat_float, cat_ref, rv_cat]; decide) jml_87 (Nat.le_of_ble_eq_true rfl) ?_
        refine jr_aload_n jf_94_71 rfl (jg2_ne rfl (jg2_ne rfl (jg2_ne rfl hl0))) ?_
        refine jr_iconst jf_94_72 jc_i_1 ?_
        refine jr_lload_n jf_94_73 rfl (jg2_ne rfl (jg2_ne rfl jg2_same)) ?_
        replace h := jgd_of h; obtain ⟨hb28, h⟩ := h
        replace h := obd_of h; obtain ⟨x29, hx29, h⟩ := h
        refine jr_V6_2 jf_94_74 hb28 (by omega) (r_Section_times (by omega) _ _ _ _ _ hx29) (by simp only [jcats_cons, jcats_nil, cat_int, cat_long, cat_double, cat_float, cat_ref, rv_cat]; decide) jml_87 (Nat.le_of_ble_eq_true rfl) ?_
        replace h := obd_of h; obtain ⟨a30, rfl, h⟩ := h
        replace h := obd_of h; obtain ⟨x31, hx31, h⟩ := h
        rcases ite_or hx31 with ⟨hb, hx⟩ | ⟨hb0, hx⟩
        · refine jr_V8a_2 jf_94_77 hb (by omega) (r_Real_plus (by omega) _ _ _ _ _ hx) (Nat.le_of_ble_eq_true rfl) jml_74 (Nat.le_of_ble_eq_true rfl) ?_
          refine jr_lstore jf_94_80 jml_94 (by decide) ?_
          refine jr_aload_n jf_94_82 rfl (jg2_ne rfl (jg2_ne rfl (jg2_ne rfl (jg2_ne rfl hl0)))) ?_
          refine jr_aload_n jf_94_83 rfl (jg2_ne rfl (jg2_ne rfl (jg2_ne rfl (jg2_ne rfl hl0)))) ?_
          replace h := obd_of h; obtain ⟨x32, hx32, h⟩ := h
          refine jr_getA jf_94_84 hx32 ?_
          refine jr_lload jf_94_87 jg2_same ?_
          refine jr_aload_n jf_94_89 rfl (jg2_ne rfl (jg2_ne rfl (jg2_ne rfl (jg2_ne rfl hl0)))) ?_
          refine jr_iconst jf_94_90 jc_i_2 ?_
          refine jr_aload_n jf_94_91 rfl (jg2_ne rfl (jg2_ne rfl (jg2_ne rfl (jg2_ne rfl hl0)))) ?_
          replace h := obd_of h; obtain ⟨x33, hx33, h⟩ := h
          refine jr_getA jf_94_92 hx33 ?_
          refine jr_iconst jf_94_95 jc_i_1 ?_
          replace h := obd_of h; obtain ⟨a34, rfl, h⟩ := h
          replace h := jgd_of h; obtain ⟨hb35, h⟩ := h
          replace h := obd_of h; obtain ⟨x36, hx36, h⟩ := h
          refine jr_V6_1 jf_94_96 hb35 (by omega) (r_Row_at (by omega) _ _ _ _ hx36) (by simp only [jcats_cons, jcats_nil, cat_int, cat_long, cat_double, cat_float, cat_ref, rv_cat]; decide) jml_38 (Nat.le_of_ble_eq_true rfl) ?_
          replace h := jgd_of h; obtain ⟨hb37, h⟩ := h
          replace h := obd_of h; obtain ⟨x38, hx38, h⟩ := h
          refine jr_V6_2 jf_94_99 hb37 (by omega) (r_Section_times (by omega) _ _ _ _ _ hx38) (by simp only [jcats_cons, jcats_nil, cat_int, cat_long, cat_double, cat_float, cat_ref, rv_cat]; decide) jml_87 (Nat.le_of_ble_eq_true rfl) ?_
          replace h := obd_of h; obtain ⟨a39, rfl, h⟩ := h
          replace h := obd_of h; obtain ⟨x40, hx40, h⟩ := h
          rcases ite_or hx40 with ⟨hb, hx⟩ | ⟨hb0, hx⟩
          · refine jr_V8a_2 jf_94_102 hb (by omega) (r_Real_plus (by omega) _ _ _ _ _ hx) (Nat.le_of_ble_eq_true rfl) jml_74 (Nat.le_of_ble_eq_true rfl) ?_
            replace h := jgd_of h; obtain ⟨hb41, h⟩ := h
            replace h := jbd2_of h; obtain ⟨x42, μ43, hx42, h⟩ := h
            refine jr_V6_1 jf_94_105 hb41 (by omega) (r_Section_settled (by omega) _ _ _ _ _ hx42) (Nat.le_of_ble_eq_true rfl) jml_79 (Nat.le_of_ble_eq_true rfl) ?_
            refine jr_lstore jf_94_108 jml_94 (by decide) ?_
            refine jr_aload_n jf_94_110 rfl (jg2_ne rfl (jg2_ne rfl (jg2_ne rfl (jg2_ne rfl (jg2_ne rfl hl0))))) ?_
            replace h := obd_of h; obtain ⟨x44, hx44, h⟩ := h
            refine jr_getA jf_94_111 hx44 ?_
            refine jr_iconst jf_94_114 jc_i_1 ?_
            refine jr_lload_n jf_94_115 rfl (jg2_ne rfl (jg2_ne rfl (jg2_ne rfl (jg2_ne rfl jg2_same)))) ?_
            replace h := obd_of h; obtain ⟨a45, rfl, h⟩ := h
            replace h := jgd_of h; obtain ⟨hb46, h⟩ := h
            replace h := obd_of h; obtain ⟨μ47, hμ47, h⟩ := h
            refine jr_V6v_2 jf_94_116 hb46 (by omega) (r_Row_put (by omega) _ _ _ _ _ hμ47) (Nat.le_of_ble_eq_true rfl) jml_66 (Nat.le_of_ble_eq_true rfl) ?_
            refine jr_aload_n jf_94_119 rfl (jg2_ne rfl (jg2_ne rfl (jg2_ne rfl (jg2_ne rfl (jg2_ne rfl hl0))))) ?_
            replace h := obd_of h; obtain ⟨x48, hx48, h⟩ := h
            refine jr_getA jf_94_120 hx48 ?_
            refine jr_iconst jf_94_123 jc_i_0 ?_
            refine jr_lload jf_94_124 (jg2_ne rfl (jg2_ne rfl jg2_same)) ?_
            replace h := obd_of h; obtain ⟨a49, rfl, h⟩ := h
            replace h := jgd_of h; obtain ⟨hb50, h⟩ := h
            replace h := obd_of h; obtain ⟨μ51, hμ51, h⟩ := h
            refine jr_V6v_2 jf_94_126 hb50 (by omega) (r_Row_put (by omega) _ _ _ _ _ hμ51) (Nat.le_of_ble_eq_true rfl) jml_66 (Nat.le_of_ble_eq_true rfl) ?_
            refine jr_lload jf_94_129 jg2_same ?_
            obtain ⟨rfl, rfl⟩ := Prod.mk.inj (Option.some.inj h)
            exact jr_retJ jf_94_131 jmt_94
          · obtain ⟨hb, hx⟩ := jgd_of hx
            obtain hx := Option.some.inj hx
            refine jr_V8b_2 jf_94_102 hb0 hb (by omega) (r_Shorts_plus (by omega) _ _ _ _ _ hx) (Nat.le_of_ble_eq_true rfl) jml_78 (Nat.le_of_ble_eq_true rfl) ?_
            replace h := jgd_of h; obtain ⟨hb41, h⟩ := h
            replace h := jbd2_of h; obtain ⟨x42, μ43, hx42, h⟩ := h
            refine jr_V6_1 jf_94_105 hb41 (by omega) (r_Section_settled (by omega) _ _ _ _ _ hx42) (Nat.le_of_ble_eq_true rfl) jml_79 (Nat.le_of_ble_eq_true rfl) ?_
            refine jr_lstore jf_94_108 jml_94 (by decide) ?_
            refine jr_aload_n jf_94_110 rfl (jg2_ne rfl (jg2_ne rfl (jg2_ne rfl (jg2_ne rfl (jg2_ne rfl hl0))))) ?_
            replace h := obd_of h; obtain ⟨x44, hx44, h⟩ := h
            refine jr_getA jf_94_111 hx44 ?_
            refine jr_iconst jf_94_114 jc_i_1 ?_
            refine jr_lload_n jf_94_115 rfl (jg2_ne rfl (jg2_ne rfl (jg2_ne rfl (jg2_ne rfl jg2_same)))) ?_
            replace h := obd_of h; obtain ⟨a45, rfl, h⟩ := h
            replace h := jgd_of h; obtain ⟨hb46, h⟩ := h
            replace h := obd_of h; obtain ⟨μ47, hμ47, h⟩ := h
            refine jr_V6v_2 jf_94_116 hb46 (by omega) (r_Row_put (by omega) _ _ _ _ _ hμ47) (Nat.le_of_ble_eq_true rfl) jml_66 (Nat.le_of_ble_eq_true rfl) ?_
            refine jr_aload_n jf_94_119 rfl (jg2_ne rfl (jg2_ne rfl (jg2_ne rfl (jg2_ne rfl (jg2_ne rfl hl0))))) ?_
            replace h := obd_of h; obtain ⟨x48, hx48, h⟩ := h
            refine jr_getA jf_94_120 hx48 ?_
            refine jr_iconst jf_94_123 jc_i_0 ?_
            refine jr_lload jf_94_124 (jg2_ne rfl (jg2_ne rfl jg2_same)) ?_
            replace h := obd_of h; obtain ⟨a49, rfl, h⟩ := h
            replace h := jgd_of h; obtain ⟨hb50, h⟩ := h
            replace h := obd_of h; obtain ⟨μ51, hμ51, h⟩ := h
            refine jr_V6v_2 jf_94_126 hb50 (by omega) (r_Row_put (by omega) _ _ _ _ _ hμ51) (Nat.le_of_ble_eq_true rfl) jml_66 (Nat.le_of_ble_eq_true rfl) ?_
            refine jr_lload jf_94_129 jg2_same ?_
            obtain ⟨rfl, rfl⟩ := Prod.mk.inj (Option.some.inj h)
            exact jr_retJ jf_94_131 jmt_94
        · obtain ⟨hb, hx⟩ := jgd_of hx
          obtain hx := Option.some.inj hx
          refine jr_V8b_2 jf_94_77 hb0 hb (by omega) (r_Shorts_plus (by omega) _ _ _ _ _ hx) (Nat.le_of_ble_eq_true rfl) jml_78 (Nat.le_of_ble_eq_true rfl) ?_
          refine jr_lstore jf_94_80 jml_94 (by decide) ?_
          refine jr_aload_n jf_94_82 rfl (jg2_ne rfl (jg2_ne rfl (jg2_ne rfl (jg2_ne rfl hl0)))) ?_
          refine jr_aload_n jf_94_83 rfl (jg2_ne rfl (jg2_ne rfl (jg2_ne rfl (jg2_ne rfl hl0)))) ?_
          replace h := obd_of h; obtain ⟨x32, hx32, h⟩ := h
          refine jr_getA jf_94_84 hx32 ?_
          refine jr_lload jf_94_87 jg2_same ?_
          refine jr_aload_n jf_94_89 rfl (jg2_ne rfl (jg2_ne rfl (jg2_ne rfl (jg2_ne rfl hl0)))) ?_
          refine jr_iconst jf_94_90 jc_i_2 ?_
          refine jr_aload_n jf_94_91 rfl (jg2_ne rfl (jg2_ne rfl (jg2_ne rfl (jg2_ne rfl hl0)))) ?_
          replace h := obd_of h; obtain ⟨x33, hx33, h⟩ := h
          refine jr_getA jf_94_92 hx33 ?_
          refine jr_iconst jf_94_95 jc_i_1 ?_
          replace h := obd_of h; obtain ⟨a34, rfl, h⟩ := h
          replace h := jgd_of h; obtain ⟨hb35, h⟩ := h
          replace h := obd_of h; obtain ⟨x36, hx36, h⟩ := h
          refine jr_V6_1 jf_94_96 hb35 (by omega) (r_Row_at (by omega) _ _ _ _ hx36) (by simp only [jcats_cons, jcats_nil, cat_int, cat_long, cat_double, cat_float, cat_ref, rv_cat]; decide) jml_38 (Nat.le_of_ble_eq_true rfl) ?_
          replace h := jgd_of h; obtain ⟨hb37, h⟩ := h
          replace h := obd_of h; obtain ⟨x38, hx38, h⟩ := h
          refine jr_V6_2 jf_94_99 hb37 (by omega) (r_Section_times (by omega) _ _ _ _ _ hx38) (by simp only [jcats_cons, jcats_nil, cat_int, cat_long, cat_double, cat_float, cat_ref, rv_cat]; decide) jml_87 (Nat.le_of_ble_eq_true rfl) ?_
          replace h := obd_of h; obtain ⟨a39, rfl, h⟩ := h
          replace h := obd_of h; obtain ⟨x40, hx40, h⟩ := h
          rcases ite_or hx40 with ⟨hb, hx⟩ | ⟨hb0, hx⟩
          · refine jr_V8a_2 jf_94_102 hb (by omega) (r_Real_plus (by omega) _ _ _ _ _ hx) (Nat.le_of_ble_eq_true rfl) jml_74 (Nat.le_of_ble_eq_true rfl) ?_
            replace h := jgd_of h; obtain ⟨hb41, h⟩ := h
            replace h := jbd2_of h; obtain ⟨x42, μ43, hx42, h⟩ := h
            refine jr_V6_1 jf_94_105 hb41 (by omega) (r_Section_settled (by omega) _ _ _ _ _ hx42) (Nat.le_of_ble_eq_true rfl) jml_79 (Nat.le_of_ble_eq_true rfl) ?_
            refine jr_lstore jf_94_108 jml_94 (by decide) ?_
            refine jr_aload_n jf_94_110 rfl (jg2_ne rfl (jg2_ne rfl (jg2_ne rfl (jg2_ne rfl (jg2_ne rfl hl0))))) ?_
            replace h := obd_of h; obtain ⟨x44, hx44, h⟩ := h
            refine jr_getA jf_94_111 hx44 ?_
            refine jr_iconst jf_94_114 jc_i_1 ?_
            refine jr_lload_n jf_94_115 rfl (jg2_ne rfl (jg2_ne rfl (jg2_ne rfl (jg2_ne rfl jg2_same)))) ?_
            replace h := obd_of h; obtain ⟨a45, rfl, h⟩ := h
            replace h := jgd_of h; obtain ⟨hb46, h⟩ := h
            replace h := obd_of h; obtain ⟨μ47, hμ47, h⟩ := h
            refine jr_V6v_2 jf_94_116 hb46 (by omega) (r_Row_put (by omega) _ _ _ _ _ hμ47) (Nat.le_of_ble_eq_true rfl) jml_66 (Nat.le_of_ble_eq_true rfl) ?_
            refine jr_aload_n jf_94_119 rfl (jg2_ne rfl (jg2_ne rfl (jg2_ne rfl (jg2_ne rfl (jg2_ne rfl hl0))))) ?_
            replace h := obd_of h; obtain ⟨x48, hx48, h⟩ := h
            refine jr_getA jf_94_120 hx48 ?_
            refine jr_iconst jf_94_123 jc_i_0 ?_
            refine jr_lload jf_94_124 (jg2_ne rfl (jg2_ne rfl jg2_same)) ?_
            replace h := obd_of h; obtain ⟨a49, rfl, h⟩ := h
            replace h := jgd_of h; obtain ⟨hb50, h⟩ := h
            replace h := obd_of h; obtain ⟨μ51, hμ51, h⟩ := h
            refine jr_V6v_2 jf_94_126 hb50 (by omega) (r_Row_put (by omega) _ _ _ _ _ hμ51) (Nat.le_of_ble_eq_true rfl) jml_66 (Nat.le_of_ble_eq_true rfl) ?_
            refine jr_lload jf_94_129 jg2_same ?_
            obtain ⟨rfl, rfl⟩ := Prod.mk.inj (Option.some.inj h)
            exact jr_retJ jf_94_131 jmt_94
          · obtain ⟨hb, hx⟩ := jgd_of hx
            obtain hx := Option.some.inj hx
            refine jr_V8b_2 jf_94_102 hb0 hb (by omega) (r_Shorts_plus (by omega) _ _ _ _ _ hx) (Nat.le_of_ble_eq_true rfl) jml_78 (Nat.le_of_ble_eq_true rfl) ?_
            replace h := jgd_of h; obtain ⟨hb41, h⟩ := h
            replace h := jbd2_of h; obtain ⟨x42, μ43, hx42, h⟩ := h
            refine jr_V6_1 jf_94_105 hb41 (by omega) (r_Section_settled (by omega) _ _ _ _ _ hx42) (Nat.le_of_ble_eq_true rfl) jml_79 (Nat.le_of_ble_eq_true rfl) ?_
            refine jr_lstore jf_94_108 jml_94 (by decide) ?_
            refine jr_aload_n jf_94_110 rfl (jg2_ne rfl (jg2_ne rfl (jg2_ne rfl (jg2_ne rfl (jg2_ne rfl hl0))))) ?_
            replace h := obd_of h; obtain ⟨x44, hx44, h⟩ := h
            refine jr_getA jf_94_111 hx44 ?_
            refine jr_iconst jf_94_114 jc_i_1 ?_
            refine jr_lload_n jf_94_115 rfl (jg2_ne rfl (jg2_ne rfl (jg2_ne rfl (jg2_ne rfl jg2_same)))) ?_
            replace h := obd_of h; obtain ⟨a45, rfl, h⟩ := h
            replace h := jgd_of h; obtain ⟨hb46, h⟩ := h
            replace h := obd_of h; obtain ⟨μ47, hμ47, h⟩ := h
            refine jr_V6v_2 jf_94_116 hb46 (by omega) (r_Row_put (by omega) _ _ _ _ _ hμ47) (Nat.le_of_ble_eq_true rfl) jml_66 (Nat.le_of_ble_eq_true rfl) ?_
            refine jr_aload_n jf_94_119 rfl (jg2_ne rfl (jg2_ne rfl (jg2_ne rfl (jg2_ne rfl (jg2_ne rfl hl0))))) ?_
            replace h := obd_of h; obtain ⟨x48, hx48, h⟩ := h
            refine jr_getA jf_94_120 hx48 ?_
            refine jr_iconst jf_94_123 jc_i_0 ?_
            refine jr_lload jf_94_124 (jg2_ne rfl (jg2_ne rfl jg2_same)) ?_
            replace h := obd_of h; obtain ⟨a49, rfl, h⟩ := h
            replace h := jgd_of h; obtain ⟨hb50, h⟩ := h
            replace h := obd_of h; obtain ⟨μ51, hμ51, h⟩ := h
            refine jr_V6v_2 jf_94_126 hb50 (by omega) (r_Row_put (by omega) _ _ _ _ _ hμ51) (Nat.le_of_ble_eq_true rfl) jml_66 (Nat.le_of_ble_eq_true rfl) ?_
            refine jr_lload jf_94_129 jg2_same ?_
            obtain ⟨rfl, rfl⟩ := Prod.mk.inj (Option.some.inj h)
            exact jr_retJ jf_94_131 jmt_94
      · obtain ⟨hb, hx⟩ := jgd_of hx
        obtain hx := Option.some.inj hx
        refine jr_V8b_2 jf_94_52 hb0 hb (by omega) (r_Shorts_plus (by omega) _ _ _ _ _ hx) (Nat.le_of_ble_eq_true rfl) jml_78 (Nat.le_of_ble_eq_true rfl) ?_
        replace h := jgd_of h; obtain ⟨hb22, h⟩ := h
        replace h := jbd2_of h; obtain ⟨x23, μ24, hx23, h⟩ := h
        refine jr_V6_1 jf_94_55 hb22 (by omega) (r_Section_settled (by omega) _ _ _ _ _ hx23) (Nat.le_of_ble_eq_true rfl) jml_79 (Nat.le_of_ble_eq_true rfl) ?_
        refine jr_lstore jf_94_58 jml_94 (by decide) ?_
        refine jr_aload_n jf_94_60 rfl (jg2_ne rfl (jg2_ne rfl (jg2_ne rfl hl0))) ?_
        replace h := obd_of h; obtain ⟨x25, hx25, h⟩ := h
        refine jr_getA jf_94_61 hx25 ?_
        refine jr_aload_n jf_94_64 rfl (jg2_ne rfl (jg2_ne rfl (jg2_ne rfl hl0))) ?_
        refine jr_iconst jf_94_65 jc_i_0 ?_
        refine jr_lload jf_94_66 jg2_same ?_
        replace h := jgd_of h; obtain ⟨hb26, h⟩ := h
        replace h := obd_of h; obtain ⟨x27, hx27, h⟩ := h
        refine jr_V6_2 jf_94_68 hb26 (by omega) (r_Section_times (by omega) _ _ _ _ _ hx27) (by simp only [jcats_cons, jcats_nil, cat_int, cat_long, cat_double, cat_float, cat_ref, rv_cat]; decide) jml_87 (Nat.le_of_ble_eq_true rfl) ?_
        refine jr_aload_n jf_94_71 rfl (jg2_ne rfl (jg2_ne rfl (jg2_ne rfl hl0))) ?_
        refine jr_iconst jf_94_72 jc_i_1 ?_
        refine jr_lload_n jf_94_73 rfl (jg2_ne rfl (jg2_ne rfl jg2_same)) ?_
        replace h := jgd_of h; obtain ⟨hb28, h⟩ := h
        replace h := obd_of h; obtain ⟨x29, hx29, h⟩ := h
        refine jr_V6_2 jf_94_74 hb28 (by omega) (r_Section_times (by omega) _ _ _ _ _ hx29) (by simp only [jcats_cons, jcats_nil, cat_int, cat_long, cat_double, cat_float, cat_ref, rv_cat]; decide) jml_87 (Nat.le_of_ble_eq_true rfl) ?_
        replace h := obd_of h; obtain ⟨a30, rfl, h⟩ := h
        replace h := obd_of h; obtain ⟨x31, hx31, h⟩ := h
        rcases ite_or hx31 with ⟨hb, hx⟩ | ⟨hb0, hx⟩
        · refine jr_V8a_2 jf_94_77 hb (by omega) (r_Real_plus (by omega) _ _ _ _ _ hx) (Nat.le_of_ble_eq_true rfl) jml_74 (Nat.le_of_ble_eq_true rfl) ?_
          refine jr_lstore jf_94_80 jml_94 (by decide) ?_
          refine jr_aload_n jf_94_82 rfl (jg2_ne rfl (jg2_ne rfl (jg2_ne rfl (jg2_ne rfl hl0)))) ?_
          refine jr_aload_n jf_94_83 rfl (jg2_ne rfl (jg2_ne rfl (jg2_ne rfl (jg2_ne rfl hl0)))) ?_
          replace h := obd_of h; obtain ⟨x32, hx32, h⟩ := h
          refine jr_getA jf_94_84 hx32 ?_
          refine jr_lload jf_94_87 jg2_same ?_
          refine jr_aload_n jf_94_89 rfl (jg2_ne rfl (jg2_ne rfl (jg2_ne rfl (jg2_ne rfl hl0)))) ?_
          refine jr_iconst jf_94_90 jc_i_2 ?_
          refine jr_aload_n jf_94_91 rfl (jg2_ne rfl (jg2_ne rfl (jg2_ne rfl (jg2_ne rfl hl0)))) ?_
          replace h := obd_of h; obtain ⟨x33, hx33, h⟩ := h
          refine jr_getA jf_94_92 hx33 ?_
          refine jr_iconst jf_94_95 jc_i_1 ?_
          replace h := obd_of h; obtain ⟨a34, rfl, h⟩ := h
          replace h := jgd_of h; obtain ⟨hb35, h⟩ := h
          replace h := obd_of h; obtain ⟨x36, hx36, h⟩ := h
          refine jr_V6_1 jf_94_96 hb35 (by omega) (r_Row_at (by omega) _ _ _ _ hx36) (by simp only [jcats_cons, jcats_nil, cat_int, cat_long, cat_double, cat_float, cat_ref, rv_cat]; decide) jml_38 (Nat.le_of_ble_eq_true rfl) ?_
          replace h := jgd_of h; obtain ⟨hb37, h⟩ := h
          replace h := obd_of h; obtain ⟨x38, hx38, h⟩ := h
          refine jr_V6_2 jf_94_99 hb37 (by omega) (r_Section_times (by omega) _ _ _ _ _ hx38) (by simp only [jcats_cons, jcats_nil, cat_int, cat_long, cat_double, cat_float, cat_ref, rv_cat]; decide) jml_87 (Nat.le_of_ble_eq_true rfl) ?_
          replace h := obd_of h; obtain ⟨a39, rfl, h⟩ := h
          replace h := obd_of h; obtain ⟨x40, hx40, h⟩ := h
          rcases ite_or hx40 with ⟨hb, hx⟩ | ⟨hb0, hx⟩
          · refine jr_V8a_2 jf_94_102 hb (by omega) (r_Real_plus (by omega) _ _ _ _ _ hx) (Nat.le_of_ble_eq_true rfl) jml_74 (Nat.le_of_ble_eq_true rfl) ?_
            replace h := jgd_of h; obtain ⟨hb41, h⟩ := h
            replace h := jbd2_of h; obtain ⟨x42, μ43, hx42, h⟩ := h
            refine jr_V6_1 jf_94_105 hb41 (by omega) (r_Section_settled (by omega) _ _ _ _ _ hx42) (Nat.le_of_ble_eq_true rfl) jml_79 (Nat.le_of_ble_eq_true rfl) ?_
            refine jr_lstore jf_94_108 jml_94 (by decide) ?_
            refine jr_aload_n jf_94_110 rfl (jg2_ne rfl (jg2_ne rfl (jg2_ne rfl (jg2_ne rfl (jg2_ne rfl hl0))))) ?_
            replace h := obd_of h; obtain ⟨x44, hx44, h⟩ := h
            refine jr_getA jf_94_111 hx44 ?_
            refine jr_iconst jf_94_114 jc_i_1 ?_
            refine jr_lload_n jf_94_115 rfl (jg2_ne rfl (jg2_ne rfl (jg2_ne rfl (jg2_ne rfl jg2_same)))) ?_
            replace h := obd_of h; obtain ⟨a45, rfl, h⟩ := h
            replace h := jgd_of h; obtain ⟨hb46, h⟩ := h
            replace h := obd_of h; obtain ⟨μ47, hμ47, h⟩ := h
            refine jr_V6v_2 jf_94_116 hb46 (by omega) (r_Row_put (by omega) _ _ _ _ _ hμ47) (Nat.le_of_ble_eq_true rfl) jml_66 (Nat.le_of_ble_eq_true rfl) ?_
            refine jr_aload_n jf_94_119 rfl (jg2_ne rfl (jg2_ne rfl (jg2_ne rfl (jg2_ne rfl (jg2_ne rfl hl0))))) ?_
            replace h := obd_of h; obtain ⟨x48, hx48, h⟩ := h
            refine jr_getA jf_94_120 hx48 ?_
            refine jr_iconst jf_94_123 jc_i_0 ?_
            refine jr_lload jf_94_124 (jg2_ne rfl (jg2_ne rfl jg2_same)) ?_
            replace h := obd_of h; obtain ⟨a49, rfl, h⟩ := h
            replace h := jgd_of h; obtain ⟨hb50, h⟩ := h
            replace h := obd_of h; obtain ⟨μ51, hμ51, h⟩ := h
            refine jr_V6v_2 jf_94_126 hb50 (by omega) (r_Row_put (by omega) _ _ _ _ _ hμ51) (Nat.le_of_ble_eq_true rfl) jml_66 (Nat.le_of_ble_eq_true rfl) ?_
            refine jr_lload jf_94_129 jg2_same ?_
            obtain ⟨rfl, rfl⟩ := Prod.mk.inj (Option.some.inj h)
            exact jr_retJ jf_94_131 jmt_94
          · obtain ⟨hb, hx⟩ := jgd_of hx
            obtain hx := Option.some.inj hx
            refine jr_V8b_2 jf_94_102 hb0 hb (by omega) (r_Shorts_plus (by omega) _ _ _ _ _ hx) (Nat.le_of_ble_eq_true rfl) jml_78 (Nat.le_of_ble_eq_true rfl) ?_
            replace h := jgd_of h; obtain ⟨hb41, h⟩ := h
            replace h := jbd2_of h; obtain ⟨x42, μ43, hx42, h⟩ := h
            refine jr_V6_1 jf_94_105 hb41 (by omega) (r_Section_settled (by omega) _ _ _ _ _ hx42) (Nat.le_of_ble_eq_true rfl) jml_79 (Nat.le_of_ble_eq_true rfl) ?_
            refine jr_lstore jf_94_108 jml_94 (by decide) ?_
            refine jr_aload_n jf_94_110 rfl (jg2_ne rfl (jg2_ne rfl (jg2_ne rfl (jg2_ne rfl (jg2_ne rfl hl0))))) ?_
            replace h := obd_of h; obtain ⟨x44, hx44, h⟩ := h
            refine jr_getA jf_94_111 hx44 ?_
            refine jr_iconst jf_94_114 jc_i_1 ?_
            refine jr_lload_n jf_94_115 rfl (jg2_ne rfl (jg2_ne rfl (jg2_ne rfl (jg2_ne rfl jg2_same)))) ?_
            replace h := obd_of h; obtain ⟨a45, rfl, h⟩ := h
            replace h := jgd_of h; obtain ⟨hb46, h⟩ := h
            replace h := obd_of h; obtain ⟨μ47, hμ47, h⟩ := h
            refine jr_V6v_2 jf_94_116 hb46 (by omega) (r_Row_put (by omega) _ _ _ _ _ hμ47) (Nat.le_of_ble_eq_true rfl) jml_66 (Nat.le_of_ble_eq_true rfl) ?_
            refine jr_aload_n jf_94_119 rfl (jg2_ne rfl (jg2_ne rfl (jg2_ne rfl (jg2_ne rfl (jg2_ne rfl hl0))))) ?_
            replace h := obd_of h; obtain ⟨x48, hx48, h⟩ := h
            refine jr_getA jf_94_120 hx48 ?_
            refine jr_iconst jf_94_123 jc_i_0 ?_
            refine jr_lload jf_94_124 (jg2_ne rfl (jg2_ne rfl jg2_same)) ?_
            replace h := obd_of h; obtain ⟨a49, rfl, h⟩ := h
            replace h := jgd_of h; obtain ⟨hb50, h⟩ := h
            replace h := obd_of h; obtain ⟨μ51, hμ51, h⟩ := h
            refine jr_V6v_2 jf_94_126 hb50 (by omega) (r_Row_put (by omega) _ _ _ _ _ hμ51) (Nat.le_of_ble_eq_true rfl) jml_66 (Nat.le_of_ble_eq_true rfl) ?_
            refine jr_lload jf_94_129 jg2_same ?_
            obtain ⟨rfl, rfl⟩ := Prod.mk.inj (Option.some.inj h)
            exact jr_retJ jf_94_131 jmt_94
        · obtain ⟨hb, hx⟩ := jgd_of hx
          obtain hx := Option.some.inj hx
          refine jr_V8b_2 jf_94_77 hb0 hb (by omega) (r_Shorts_plus (by omega) _ _ _ _ _ hx) (Nat.le_of_ble_eq_true rfl) jml_78 (Nat.le_of_ble_eq_true rfl) ?_
          refine jr_lstore jf_94_80 jml_94 (by decide) ?_
          refine jr_aload_n jf_94_82 rfl (jg2_ne rfl (jg2_ne rfl (jg2_ne rfl (jg2_ne rfl hl0)))) ?_
          refine jr_aload_n jf_94_83 rfl (jg2_ne rfl (jg2_ne rfl (jg2_ne rfl (jg2_ne rfl hl0)))) ?_
          replace h := obd_of h; obtain ⟨x32, hx32, h⟩ := h
          refine jr_getA jf_94_84 hx32 ?_
          refine jr_lload jf_94_87 jg2_same ?_
          refine jr_aload_n jf_94_89 rfl (jg2_ne rfl (jg2_ne rfl (jg2_ne rfl (jg2_ne rfl hl0)))) ?_
          refine jr_iconst jf_94_90 jc_i_2 ?_
          refine jr_aload_n jf_94_91 rfl (jg2_ne rfl (jg2_ne rfl (jg2_ne rfl (jg2_ne rfl hl0)))) ?_
          replace h := obd_of h; obtain ⟨x33, hx33, h⟩ := h
          refine jr_getA jf_94_92 hx33 ?_
          refine jr_iconst jf_94_95 jc_i_1 ?_
          replace h := obd_of h; obtain ⟨a34, rfl, h⟩ := h
          replace h := jgd_of h; obtain ⟨hb35, h⟩ := h
          replace h := obd_of h; obtain ⟨x36, hx36, h⟩ := h
          refine jr_V6_1 jf_94_96 hb35 (by omega) (r_Row_at (by omega) _ _ _ _ hx36) (by simp only [jcats_cons, jcats_nil, cat_int, cat_long, cat_double, cat_float, cat_ref, rv_cat]; decide) jml_38 (Nat.le_of_ble_eq_true rfl) ?_
          replace h := jgd_of h; obtain ⟨hb37, h⟩ := h
          replace h := obd_of h; obtain ⟨x38, hx38, h⟩ := h
          refine jr_V6_2 jf_94_99 hb37 (by omega) (r_Section_times (by omega) _ _ _ _ _ hx38) (by simp only [jcats_cons, jcats_nil, cat_int, cat_long, cat_double, cat_float, cat_ref, rv_cat]; decide) jml_87 (Nat.le_of_ble_eq_true rfl) ?_
          replace h := obd_of h; obtain ⟨a39, rfl, h⟩ := h
          replace h := obd_of h; obtain ⟨x40, hx40, h⟩ := h
          rcases ite_or hx40 with ⟨hb, hx⟩ | ⟨hb0, hx⟩
          · refine jr_V8a_2 jf_94_102 hb (by omega) (r_Real_plus (by omega) _ _ _ _ _ hx) (Nat.le_of_ble_eq_true rfl) jml_74 (Nat.le_of_ble_eq_true rfl) ?_
            replace h := jgd_of h; obtain ⟨hb41, h⟩ := h
            replace h := jbd2_of h; obtain ⟨x42, μ43, hx42, h⟩ := h
            refine jr_V6_1 jf_94_105 hb41 (by omega) (r_Section_settled (by omega) _ _ _ _ _ hx42) (Nat.le_of_ble_eq_true rfl) jml_79 (Nat.le_of_ble_eq_true rfl) ?_
            refine jr_lstore jf_94_108 jml_94 (by decide) ?_
            refine jr_aload_n jf_94_110 rfl (jg2_ne rfl (jg2_ne rfl (jg2_ne rfl (jg2_ne rfl (jg2_ne rfl hl0))))) ?_
            replace h := obd_of h; obtain ⟨x44, hx44, h⟩ := h
            refine jr_getA jf_94_111 hx44 ?_
            refine jr_iconst jf_94_114 jc_i_1 ?_
            refine jr_lload_n jf_94_115 rfl (jg2_ne rfl (jg2_ne rfl (jg2_ne rfl (jg2_ne rfl jg2_same)))) ?_
            replace h := obd_of h; obtain ⟨a45, rfl, h⟩ := h
            replace h := jgd_of h; obtain ⟨hb46, h⟩ := h
            replace h := obd_of h; obtain ⟨μ47, hμ47, h⟩ := h
            refine jr_V6v_2 jf_94_116 hb46 (by omega) (r_Row_put (by omega) _ _ _ _ _ hμ47) (Nat.le_of_ble_eq_true rfl) jml_66 (Nat.le_of_ble_eq_true rfl) ?_
            refine jr_aload_n jf_94_119 rfl (jg2_ne rfl (jg2_ne rfl (jg2_ne rfl (jg2_ne rfl (jg2_ne rfl hl0))))) ?_
            replace h := obd_of h; obtain ⟨x48, hx48, h⟩ := h
            refine jr_getA jf_94_120 hx48 ?_
            refine jr_iconst jf_94_123 jc_i_0 ?_
            refine jr_lload jf_94_124 (jg2_ne rfl (jg2_ne rfl jg2_same)) ?_
            replace h := obd_of h; obtain ⟨a49, rfl, h⟩ := h
            replace h := jgd_of h; obtain ⟨hb50, h⟩ := h
            replace h := obd_of h; obtain ⟨μ51, hμ51, h⟩ := h
            refine jr_V6v_2 jf_94_126 hb50 (by omega) (r_Row_put (by omega) _ _ _ _ _ hμ51) (Nat.le_of_ble_eq_true rfl) jml_66 (Nat.le_of_ble_eq_true rfl) ?_
            refine jr_lload jf_94_129 jg2_same ?_
            obtain ⟨rfl, rfl⟩ := Prod.mk.inj (Option.some.inj h)
            exact jr_retJ jf_94_131 jmt_94
          · obtain ⟨hb, hx⟩ := jgd_of hx
            obtain hx := Option.some.inj hx
            refine jr_V8b_2 jf_94_102 hb0 hb (by omega) (r_Shorts_plus (by omega) _ _ _ _ _ hx) (Nat.le_of_ble_eq_true rfl) jml_78 (Nat.le_of_ble_eq_true rfl) ?_
            replace h := jgd_of h; obtain ⟨hb41, h⟩ := h
            replace h := jbd2_of h; obtain ⟨x42, μ43, hx42, h⟩ := h
            refine jr_V6_1 jf_94_105 hb41 (by omega) (r_Section_settled (by omega) _ _ _ _ _ hx42) (Nat.le_of_ble_eq_true rfl) jml_79 (Nat.le_of_ble_eq_true rfl) ?_
            refine jr_lstore jf_94_108 jml_94 (by decide) ?_
            refine jr_aload_n jf_94_110 rfl (jg2_ne rfl (jg2_ne rfl (jg2_ne rfl (jg2_ne rfl (jg2_ne rfl hl0))))) ?_
            replace h := obd_of h; obtain ⟨x44, hx44, h⟩ := h
            refine jr_getA jf_94_111 hx44 ?_
            refine jr_iconst jf_94_114 jc_i_1 ?_
            refine jr_lload_n jf_94_115 rfl (jg2_ne rfl (jg2_ne rfl (jg2_ne rfl (jg2_ne rfl jg2_same)))) ?_
            replace h := obd_of h; obtain ⟨a45, rfl, h⟩ := h
            replace h := jgd_of h; obtain ⟨hb46, h⟩ := h
            replace h := obd_of h; obtain ⟨μ47, hμ47, h⟩ := h
            refine jr_V6v_2 jf_94_116 hb46 (by omega) (r_Row_put (by omega) _ _ _ _ _ hμ47) (Nat.le_of_ble_eq_true rfl) jml_66 (Nat.le_of_ble_eq_true rfl) ?_
            refine jr_aload_n jf_94_119 rfl (jg2_ne rfl (jg2_ne rfl (jg2_ne rfl (jg2_ne rfl (jg2_ne rfl hl0))))) ?_
            replace h := obd_of h; obtain ⟨x48, hx48, h⟩ := h
            refine jr_getA jf_94_120 hx48 ?_
            refine jr_iconst jf_94_123 jc_i_0 ?_
            refine jr_lload jf_94_124 (jg2_ne rfl (jg2_ne rfl jg2_same)) ?_
            replace h := obd_of h; obtain ⟨a49, rfl, h⟩ := h
            replace h := jgd_of h; obtain ⟨hb50, h⟩ := h
            replace h := obd_of h; obtain ⟨μ51, hμ51, h⟩ := h
            refine jr_V6v_2 jf_94_126 hb50 (by omega) (r_Row_put (by omega) _ _ _ _ _ hμ51) (Nat.le_of_ble_eq_true rfl) jml_66 (Nat.le_of_ble_eq_true rfl) ?_
            refine jr_lload jf_94_129 jg2_same ?_
            obtain ⟨rfl, rfl⟩ := Prod.mk.inj (Option.some.inj h)
            exact jr_retJ jf_94_131 jmt_94
set_option maxRecDepth 10000 in
set_option maxHeartbeats 4000000 in
theorem r_Section_second {B : Nat} {SA : Nat → Nat} {d : Nat} (hd : 4 ≤ d) : ∀ (v0 : Nat) (v1 : Int64) (μ : JMem) (r : Int64) (μ9 : JMem), g_Section_second B v0 v1 μ = some (r, μ9) → jR B SA d m_Section_second 0 (lv_args 0 [.ref v0, .long v1]) [] μ (some (.long r)) μ9 := by
  intro v0 v1 μ r μ9 h
  exact r_Section_second_e hd (lv_args 0 _) _ _ _ _ _ (by simp [lv_args, jget, rv_cat, cat_int, cat_long, cat_double, cat_float, cat_ref]) (by simp [lv_args, jget, rv_cat, cat_int, cat_long, cat_double, cat_float, cat_ref]) h
