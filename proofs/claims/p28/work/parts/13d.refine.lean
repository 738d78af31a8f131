/-! the machine refines the functions (printed by wip/p28/dec.py) -/
/-! FilterBench$Real.meaning(JZLFilterBench$Real;)J -/
set_option maxRecDepth 10000 in
set_option maxHeartbeats 4000000 in
theorem r_Real_meaning_e {B : Nat} {SA : Nat → Nat} {d : Nat} (hd : 3 ≤ d) : ∀ (L : JLoc) (v0 : Nat) (v1 : Int64) (v4 : Option Nat) (μ : JMem) (r : Int64), jget L 0 = .ref v0 → jget L 1 = .long v1 → jget L 4 = rv v4 → g_Real_meaning_e v0 v1 v4 μ.1 = some r → jR B SA d m_Real_meaning 0 L [] μ (some (.long r)) μ := by
  intro L v0 v1 v4 μ r hl0 hl1 hl4 h
  unfold g_Real_meaning_e at h
  refine jr_aload_A jf_133_0 hl4 ?_
  refine jr_aload_n jf_133_2 rfl hl0 ?_
  refine jr_lload_n jf_133_3 rfl hl1 ?_
  replace h := obd_of h; obtain ⟨a1, rfl, h⟩ := h
  replace h := jgd_of h; obtain ⟨hb2, h⟩ := h
  replace h := obd_of h; obtain ⟨x3, hx3, h⟩ := h
  refine jr_V6_2 jf_133_4 hb2 (by omega) (r_Real_taken (by omega) _ _ _ _ _ hx3) (Nat.le_of_ble_eq_true rfl) jml_134 (by simp only [jcats_cons, jcats_nil, cat_int, cat_long, cat_double, cat_float, cat_ref, rv_cat]; decide) ?_
  obtain rfl := Option.some.inj h
  exact jr_retJ jf_133_7 jmt_133
set_option maxRecDepth 10000 in
set_option maxHeartbeats 4000000 in
theorem r_Real_meaning {B : Nat} {SA : Nat → Nat} {d : Nat} (hd : 3 ≤ d) : ∀ (v0 : Nat) (v1 : Int64) (v3 : Bool) (v4 : Option Nat) (μ : JMem) (r : Int64), g_Real_meaning v0 v1 v3 v4 μ.1 = some r → jR B SA d m_Real_meaning 0 (lv_args 0 [.ref v0, .long v1, .int (jb v3), rv v4]) [] μ (some (.long r)) μ := by
  intro v0 v1 v3 v4 μ r h
  exact r_Real_meaning_e hd (lv_args 0 _) _ _ _ _ _ (by simp [lv_args, jget, rv_cat, cat_int, cat_long, cat_double, cat_float, cat_ref]) (by simp [lv_args, jget, rv_cat, cat_int, cat_long, cat_double, cat_float, cat_ref]) (by simp [lv_args, jget, rv_cat, cat_int, cat_long, cat_double, cat_float, cat_ref]) h
/-! FilterBench$Real.nearest(JZLFilterBench$Real;)J -/
set_option maxRecDepth 10000 in
set_option maxHeartbeats 4000000 in
theorem r_Real_nearest_e {B : Nat} {SA : Nat → Nat} {d : Nat} (hd : 3 ≤ d) : ∀ (L : JLoc) (v0 : Nat) (v1 : Int64) (v4 : Option Nat) (μ : JMem) (r : Int64), jget L 0 = .ref v0 → jget L 1 = .long v1 → jget L 4 = rv v4 → g_Real_nearest_e v0 v1 v4 μ.1 = some r → jR B SA d m_Real_nearest 0 L [] μ (some (.long r)) μ := by
  intro L v0 v1 v4 μ r hl0 hl1 hl4 h
  unfold g_Real_nearest_e at h
  refine jr_aload_n jf_138_0 rfl hl0 ?_
  refine jr_aload_A jf_138_1 hl4 ?_
  refine jr_lload_n jf_138_3 rfl hl1 ?_
  replace h := jgd_of h; obtain ⟨hb1, h⟩ := h
  replace h := obd_of h; obtain ⟨x2, hx2, h⟩ := h
  refine jr_V6_2 jf_138_4 hb1 (by omega) (r_Real_taken (by omega) _ _ _ _ _ hx2) (Nat.le_of_ble_eq_true rfl) jml_134 (by simp only [jcats_cons, jcats_nil, cat_int, cat_long, cat_double, cat_float, cat_ref, rv_cat]; decide) ?_
  obtain rfl := Option.some.inj h
  exact jr_retJ jf_138_7 jmt_138
set_option maxRecDepth 10000 in
set_option maxHeartbeats 4000000 in
theorem r_Real_nearest {B : Nat} {SA : Nat → Nat} {d : Nat} (hd : 3 ≤ d) : ∀ (v0 : Nat) (v1 : Int64) (v3 : Bool) (v4 : Option Nat) (μ : JMem) (r : Int64), g_Real_nearest v0 v1 v3 v4 μ.1 = some r → jR B SA d m_Real_nearest 0 (lv_args 0 [.ref v0, .long v1, .int (jb v3), rv v4]) [] μ (some (.long r)) μ := by
  intro v0 v1 v3 v4 μ r h
  exact r_Real_nearest_e hd (lv_args 0 _) _ _ _ _ _ (by simp [lv_args, jget, rv_cat, cat_int, cat_long, cat_double, cat_float, cat_ref]) (by simp [lv_args, jget, rv_cat, cat_int, cat_long, cat_double, cat_float, cat_ref]) (by simp [lv_args, jget, rv_cat, cat_int, cat_long, cat_double, cat_float, cat_ref]) h
/-! java/lang/Math.abs(J)J -/
set_option maxRecDepth 10000 in
set_option maxHeartbeats 4000000 in
theorem r_JMath_abs_e {B : Nat} {SA : Nat → Nat} {d : Nat} (hd : 0 ≤ d) : ∀ (L : JLoc) (v0 : Int64) (μ : JMem) (r : Int64), jget L 0 = .long v0 → g_JMath_abs v0 = r → jR B SA d m_JMath_abs 0 L [] μ (some (.long r)) μ := by
  intro L v0 μ r hl0 h
  unfold g_JMath_abs at h
  refine jr_lload_n jf_137_0 rfl hl0 ?_
  refine jr_lconst0 jf_137_1 ?_
  refine jr_lcmp jf_137_2 ?_
  replace h := ite_or h; rcases h with ⟨hc, h⟩ | ⟨hc, h⟩
  · refine jr_ifl_ge_t jf_137_3 hc ?_
    refine jr_lload_n jf_137_11 rfl hl0 ?_
    subst h
    exact jr_retJ jf_137_12 jmt_137
  · refine jr_ifl_ge_f jf_137_3 hc ?_
    refine jr_lload_n jf_137_6 rfl hl0 ?_
    refine jr_lneg jf_137_7 ?_
    refine jr_goto jf_137_8 ?_
    subst h
    exact jr_retJ jf_137_12 jmt_137
set_option maxRecDepth 10000 in
set_option maxHeartbeats 4000000 in
theorem r_JMath_abs {B : Nat} {SA : Nat → Nat} {d : Nat} (hd : 0 ≤ d) : ∀ (v0 : Int64) (μ : JMem) (r : Int64), g_JMath_abs v0 = r → jR B SA d m_JMath_abs 0 (lv_args 0 [.long v0]) [] μ (some (.long r)) μ := by
  intro v0 μ r h
  exact r_JMath_abs_e hd (lv_args 0 _) _ _ _ (by simp [lv_args, jget, rv_cat, cat_int, cat_long, cat_double, cat_float, cat_ref]) h
/-! FilterBench$Real.scaled(JI)J -/
set_option maxRecDepth 10000 in
set_option maxHeartbeats 4000000 in
theorem r_Real_scaled_22 {B : Nat} {SA : Nat → Nat} {d : Nat} (hd : 2 ≤ d) : ∀ (L : JLoc) (v1 : Int64) (v3 : Int32) (s0 : Bool) (s1 : Nat) (μ : JMem) (r : Int64), jget L 1 = .long v1 → jget L 3 = .int v3 → g_Real_scaled_22 v1 v3 s0 s1 μ.1 = some r → jR B SA d m_Real_scaled 22 L [.int (jb s0), .ref s1] μ (some (.long r)) μ := by
  intro L v1 v3 s0 s1 μ r hl1 hl3 h
  unfold g_Real_scaled_22 at h
  refine jr_iload_n jf_136_22 rfl hl3 ?_
  refine jr_lload_n jf_136_23 rfl hl1 ?_
  refine jr_S3_1 jf_136_24 (by omega) (r_JMath_abs (by omega) _ _ _ rfl) (Nat.le_of_ble_eq_true rfl) jml_137 (Nat.le_of_ble_eq_true rfl) ?_
  replace h := jgd_of h; obtain ⟨hb1, h⟩ := h
  replace h := obd_of h; obtain ⟨x2, hx2, h⟩ := h
  refine jr_V6_3 jf_136_27 hb1 (by omega) (r_Real_packed (by omega) _ _ _ _ _ _ hx2) (Nat.le_of_ble_eq_true rfl) jml_60 (Nat.le_of_ble_eq_true rfl) ?_
  obtain rfl := Option.some.inj h
  exact jr_retJ jf_136_30 jmt_136
set_option maxRecDepth 10000 in
set_option maxHeartbeats 4000000 in
theorem r_Real_scaled_e {B : Nat} {SA : Nat → Nat} {d : Nat} (hd : 2 ≤ d) : ∀ (L : JLoc) (v0 : Nat) (v1 : Int64) (v3 : Int32) (μ : JMem) (r : Int64), jget L 0 = .ref v0 → jget L 1 = .long v1 → jget L 3 = .int v3 → g_Real_scaled v0 v1 v3 μ.1 = some r → jR B SA d m_Real_scaled 0 L [] μ (some (.long r)) μ := by
  intro L v0 v1 v3 μ r hl0 hl1 hl3 h
  unfold g_Real_scaled at h
  refine jr_lload_n jf_136_0 rfl hl1 ?_
  refine jr_lconst0 jf_136_1 ?_
  refine jr_lcmp jf_136_2 ?_
  replace h := ite_or h; rcases h with ⟨hc, h⟩ | ⟨hc, h⟩
  · refine jr_ifl_ne_f jf_136_3 hc ?_
    refine jr_lconst0 jf_136_6 ?_
    refine jr_goto jf_136_7 ?_
    obtain rfl := Option.some.inj h
    exact jr_retJ jf_136_30 jmt_136
  · refine jr_ifl_ne_t jf_136_3 hc ?_
    refine jr_aload_n jf_136_10 rfl hl0 ?_
    refine jr_lload_n jf_136_11 rfl hl1 ?_
    refine jr_lconst0 jf_136_12 ?_
    refine jr_lcmp jf_136_13 ?_
    replace h := ite_or h; rcases h with ⟨hc, h⟩ | ⟨hc, h⟩
    · refine jr_ifl_ge_t jf_136_14 hc ?_
      refine jr_iconst jf_136_21 jc_i_0 ?_
      exact r_Real_scaled_22 hd _ _ _ false _ _ _ hl1 hl3 h
    · refine jr_ifl_ge_f jf_136_14 hc ?_
      refine jr_iconst jf_136_17 jc_i_1 ?_
      refine jr_goto jf_136_18 ?_
      exact r_Real_scaled_22 hd _ _ _ true _ _ _ hl1 hl3 h
set_option maxRecDepth 10000 in
set_option maxHeartbeats 4000000 in
theorem r_Real_scaled {B : Nat} {SA : Nat → Nat} {d : Nat} (hd : 2 ≤ d) : ∀ (v0 : Nat) (v1 : Int64) (v3 : Int32) (μ : JMem) (r : Int64), g_Real_scaled v0 v1 v3 μ.1 = some r → jR B SA d m_Real_scaled 0 (lv_args 0 [.ref v0, .long v1, .int v3]) [] μ (some (.long r)) μ := by
  intro v0 v1 v3 μ r h
  exact r_Real_scaled_e hd (lv_args 0 _) _ _ _ _ _ (by simp [lv_args, jget, rv_cat, cat_int, cat_long, cat_double, cat_float, cat_ref]) (by simp [lv_args, jget, rv_cat, cat_int, cat_long, cat_double, cat_float, cat_ref]) (by simp [lv_args, jget, rv_cat, cat_int, cat_long, cat_double, cat_float, cat_ref]) h
/-! FilterBench$Shorts.meaning(JZLFilterBench$Real;)J -/
set_option maxRecDepth 10000 in
set_option maxHeartbeats 4000000 in
theorem r_Shorts_meaning_13 {B : Nat} {SA : Nat → Nat} {d : Nat} (hd : 3 ≤ d) : ∀ (L : JLoc) (s0 : Int32) (s1 : Int64) (s2 : Option Nat) (μ : JMem) (r : Int64), g_Shorts_meaning_13 s0 s1 s2 μ.1 = some r → jR B SA d m_Shorts_meaning 13 L [.int s0, .long s1, rv s2] μ (some (.long r)) μ := by
  intro L s0 s1 s2 μ r h
  unfold g_Shorts_meaning_13 at h
  replace h := obd_of h; obtain ⟨a1, rfl, h⟩ := h
  replace h := jgd_of h; obtain ⟨hb2, h⟩ := h
  replace h := obd_of h; obtain ⟨x3, hx3, h⟩ := h
  refine jr_V6_2 jf_135_13 hb2 (by omega) (r_Real_scaled (by omega) _ _ _ _ _ hx3) (Nat.le_of_ble_eq_true rfl) jml_136 (Nat.le_of_ble_eq_true rfl) ?_
  obtain rfl := Option.some.inj h
  exact jr_retJ jf_135_16 jmt_135
set_option maxRecDepth 10000 in
set_option maxHeartbeats 4000000 in
theorem r_Shorts_meaning_e {B : Nat} {SA : Nat → Nat} {d : Nat} (hd : 3 ≤ d) : ∀ (L : JLoc) (v1 : Int64) (v3 : Bool) (v4 : Option Nat) (μ : JMem) (r : Int64), jget L 1 = .long v1 → jget L 3 = .int (jb v3) → jget L 4 = rv v4 → g_Shorts_meaning_e v1 v3 v4 μ.1 = some r → jR B SA d m_Shorts_meaning 0 L [] μ (some (.long r)) μ := by
  intro L v1 v3 v4 μ r hl1 hl3 hl4 h
  unfold g_Shorts_meaning_e at h
  refine jr_aload_A jf_135_0 hl4 ?_
  refine jr_lload_n jf_135_2 rfl hl1 ?_
  refine jr_iload_n jf_135_3 rfl hl3 ?_
  replace h := ite_or h; rcases h with ⟨hc, h⟩ | ⟨hc, h⟩
  · refine jr_ifz_eq_f jf_135_4 hc ?_
    refine jr_iconst jf_135_7 jc_i_0 ?_
    refine jr_goto jf_135_8 ?_
    exact r_Shorts_meaning_13 hd _ _ _ _ _ _ h
  · refine jr_ifz_eq_t jf_135_4 hc ?_
    refine jr_bipush jf_135_11 jc_b_m14 ?_
    exact r_Shorts_meaning_13 hd _ _ _ _ _ _ h
set_option maxRecDepth 10000 in
set_option maxHeartbeats 4000000 in
theorem r_Shorts_meaning {B : Nat} {SA : Nat → Nat} {d : Nat} (hd : 3 ≤ d) : ∀ (v0 : Nat) (v1 : Int64) (v3 : Bool) (v4 : Option Nat) (μ : JMem) (r : Int64), g_Shorts_meaning v0 v1 v3 v4 μ.1 = some r → jR B SA d m_Shorts_meaning 0 (lv_args 0 [.ref v0, .long v1, .int (jb v3), rv v4]) [] μ (some (.long r)) μ := by
  intro v0 v1 v3 v4 μ r h
  exact r_Shorts_meaning_e hd (lv_args 0 _) _ _ _ _ _ (by simp [lv_args, jget, rv_cat, cat_int, cat_long, cat_double, cat_float, cat_ref]) (by simp [lv_args, jget, rv_cat, cat_int, cat_long, cat_double, cat_float, cat_ref]) (by simp [lv_args, jget, rv_cat, cat_int, cat_long, cat_double, cat_float, cat_ref]) h
/-! FilterBench$Real.isFinite(J)Z -/
set_option maxRecDepth 10000 in
set_option maxHeartbeats 4000000 in
theorem r_Real_isFinite_e {B : Nat} {SA : Nat → Nat} {d : Nat} (hd : 0 ≤ d) : ∀ (L : JLoc) (v0 : Nat) (v1 : Int64) (μ : JMem) (r : Bool), jget L 0 = .ref v0 → jget L 1 = .long v1 → g_Real_isFinite v0 v1 μ.1 = some r → jR B SA d m_Real_isFinite 0 L [] μ (some (.int (jb r))) μ := by
  intro L v0 v1 μ r hl0 hl1 h
  unfold g_Real_isFinite at h
  refine jr_lload_n jf_140_0 rfl hl1 ?_
  refine jr_aload_n jf_140_1 rfl hl0 ?_
  replace h := obd_of h; obtain ⟨x1, hx1, h⟩ := h
  refine jr_getJ jf_140_2 hx1 ?_
  refine jr_ldc2l jf_140_5 ?_
  refine jr_lxor jf_140_8 ?_
  refine jr_land jf_140_9 ?_
  refine jr_aload_n jf_140_10 rfl hl0 ?_
  replace h := obd_of h; obtain ⟨x2, hx2, h⟩ := h
  refine jr_getJ jf_140_11 hx2 ?_
  refine jr_lcmp jf_140_14 ?_
  replace h := ite_or h; rcases h with ⟨hc, h⟩ | ⟨hc, h⟩
  · refine jr_ifl_ge_t jf_140_15 hc ?_
    refine jr_iconst jf_140_22 jc_i_0 ?_
    obtain rfl := Option.some.inj h
    exact jr_retZ (x := false) jf_140_23 jmt_140
  · refine jr_ifl_ge_f jf_140_15 hc ?_
    refine jr_iconst jf_140_18 jc_i_1 ?_
    refine jr_goto jf_140_19 ?_
    obtain rfl := Option.some.inj h
    exact jr_retZ (x := true) jf_140_23 jmt_140
set_option maxRecDepth 10000 in
set_option maxHeartbeats 4000000 in
theorem r_Real_isFinite {B : Nat} {SA : Nat → Nat} {d : Nat} (hd : 0 ≤ d) : ∀ (v0 : Nat) (v1 : Int64) (μ : JMem) (r : Bool), g_Real_isFinite v0 v1 μ.1 = some r → jR B SA d m_Real_isFinite 0 (lv_args 0 [.ref v0, .long v1]) [] μ (some (.int (jb r))) μ := by
  intro v0 v1 μ r h
  exact r_Real_isFinite_e hd (lv_args 0 _) _ _ _ _ (by simp [lv_args, jget, rv_cat, cat_int, cat_long, cat_double, cat_float, cat_ref]) (by simp [lv_args, jget, rv_cat, cat_int, cat_long, cat_double, cat_float, cat_ref]) h
/-! FilterBench$Shorts.nearest(JZLFilterBench$Real;)J -/
set_option maxRecDepth 10000 in
set_option maxHeartbeats 4000000 in
theorem r_Shorts_nearest_25 {B : Nat} {SA : Nat → Nat} {d : Nat} (hd : 1 ≤ d) : ∀ (L : JLoc) (v1 : Int64) (v4 : Nat) (v5 : Int64) (s0 : Int32) (s1 : Int32) (μ : JMem) (r : Int64), jget L 1 = .long v1 → jget L 4 = .ref v4 → jget L 5 = .long v5 → g_Shorts_nearest_25 v1 v4 v5 s0 s1 μ.1 = some r → jR B SA d m_Shorts_nearest 25 L [.int s0, .int s1] μ (some (.long r)) μ := by
  intro L v1 v4 v5 s0 s1 μ r hl1 hl4 hl5 h
  unfold g_Shorts_nearest_25 at h
  refine jr_iadd jf_139_25 ?_
  refine jr_istore jf_139_26 jml_139 (by decide) ?_
  refine jr_aload jf_139_28 (jg1_ne rfl hl4) ?_
  refine jr_lload_n jf_139_30 rfl (jg1_ne rfl hl1) ?_
  replace h := jgd_of h; obtain ⟨hb1, h⟩ := h
  replace h := obd_of h; obtain ⟨x2, hx2, h⟩ := h
  refine jr_V6_1 jf_139_31 hb1 (by omega) (r_Real_isFinite (by omega) _ _ _ _ hx2) (Nat.le_of_ble_eq_true rfl) jml_140 (Nat.le_of_ble_eq_true rfl) ?_
  replace h := ite_or h; rcases h with ⟨hc, h⟩ | ⟨hc, h⟩
  · refine jr_ifz_eq_f jf_139_34 hc ?_
    refine jr_iload jf_139_37 jg1_same ?_
    replace h := ite_or h; rcases h with ⟨hc, h⟩ | ⟨hc, h⟩
    · refine jr_if_lt_t jf_139_39 hc ?_
      refine jr_aload jf_139_46 (jg1_ne rfl hl4) ?_
      refine jr_lload jf_139_48 (jg1_ne rfl hl5) ?_
      replace h := jgd_of h; obtain ⟨hb3, h⟩ := h
      replace h := obd_of h; obtain ⟨x4, hx4, h⟩ := h
      refine jr_V7_1 jf_139_50 hb3 (by omega) (r_Real_mantissa (by omega) _ _ _ _ hx4) (Nat.le_of_ble_eq_true rfl) jml_56 (Nat.le_of_ble_eq_true rfl) ?_
      refine jr_iload jf_139_53 jg1_same ?_
      refine jr_ineg jf_139_55 ?_
      refine jr_S5_2 jf_139_56 (by omega) (r_Numbers_halfEven (by omega) _ _ _ _ rfl) (Nat.le_of_ble_eq_true rfl) jml_61 (Nat.le_of_ble_eq_true rfl) ?_
      refine jr_lstore jf_139_59 jml_139 (by decide) ?_
      replace h := jlet_of h
      refine jr_lload_n jf_139_61 rfl (jg2_ne rfl (jg1_ne rfl hl1)) ?_
      refine jr_lconst0 jf_139_62 ?_
      refine jr_lcmp jf_139_63 ?_
      replace h := ite_or h; rcases h with ⟨hc, h⟩ | ⟨hc, h⟩
      · refine jr_ifl_ge_t jf_139_64 hc ?_
        refine jr_lload jf_139_73 jg2_same ?_
        obtain rfl := Option.some.inj h
        exact jr_retJ jf_139_75 jmt_139
      · refine jr_ifl_ge_f jf_139_64 hc ?_
        refine jr_lload jf_139_67 jg2_same ?_
        refine jr_lneg jf_139_69 ?_
        refine jr_goto jf_139_70 ?_
        obtain rfl := Option.some.inj h
        exact jr_retJ jf_139_75 jmt_139
    · refine jr_if_lt_f jf_139_39 hc ?_
      refine jr_ldc2l jf_139_42 ?_
      obtain rfl := Option.some.inj h
      exact jr_retJ jf_139_45 jmt_139
  · refine jr_ifz_eq_t jf_139_34 hc ?_
    refine jr_ldc2l jf_139_42 ?_
    obtain rfl := Option.some.inj h
    exact jr_retJ jf_139_45 jmt_139
set_option maxRecDepth 10000 in
set_option maxHeartbeats 4000000 in
theorem r_Shorts_nearest_e {B : Nat} {SA : Nat → Nat} {d : Nat} (hd : 1 ≤ d) : ∀ (L : JLoc) (v1 : Int64) (v3 : Bool) (v4 : Option Nat) (μ : JMem) (r : Int64), jget L 1 = .long v1 → jget L 3 = .int (jb v3) → jget L 4 = rv v4 → g_Shorts_nearest_e v1 v3 v4 μ.1 = some r → jR B SA d m_Shorts_nearest 0 L [] μ (some (.long r)) μ := by
  intro L v1 v3 v4 μ r hl1 hl3 hl4 h
  unfold g_Shorts_nearest_e at h
  refine jr_aload_A jf_139_0 hl4 ?_
  refine jr_lload_n jf_139_2 rfl hl1 ?_
  replace h := obd_of h; obtain ⟨a1, rfl, h⟩ := h
  replace h := jgd_of h; obtain ⟨hb2, h⟩ := h
  replace h := obd_of h; obtain ⟨x3, hx3, h⟩ := h
  refine jr_V6_1 jf_139_3 hb2 (by omega) (r_Real_sizeOf (by omega) _ _ _ _ hx3) (Nat.le_of_ble_eq_true rfl) jml_54 (Nat.le_of_ble_eq_true rfl) ?_
  refine jr_lstore jf_139_6 jml_139 (by decide) ?_
  refine jr_aload jf_139_8 (jg2_pre (by first | rfl | exact rv_cat _) hl4) ?_
  refine jr_lload jf_139_10 jg2_same ?_
  replace h := jgd_of h; obtain ⟨hb4, h⟩ := h
  replace h := obd_of h; obtain ⟨x5, hx5, h⟩ := h
  refine jr_V7_1 jf_139_12 hb4 (by omega) (r_Real_exponent (by omega) _ _ _ _ hx5) (Nat.le_of_ble_eq_true rfl) jml_58 (Nat.le_of_ble_eq_true rfl) ?_
  refine jr_iload_n jf_139_15 rfl (jg2_ne rfl hl3) ?_
  replace h := ite_or h; rcases h with ⟨hc, h⟩ | ⟨hc, h⟩
  · refine jr_ifz_eq_f jf_139_16 hc ?_
    refine jr_iconst jf_139_19 jc_i_0 ?_
    refine jr_goto jf_139_20 ?_
    exact r_Shorts_nearest_25 hd _ _ _ _ _ _ _ _ (jg2_ne rfl hl1) (jg2_pre (by first | rfl | exact rv_cat _) hl4) jg2_same h
  · refine jr_ifz_eq_t jf_139_16 hc ?_
    refine jr_bipush jf_139_23 jc_b_14 ?_
    exact r_Shorts_nearest_25 hd _ _ _ _ _ _ _ _ (jg2_ne rfl hl1) (jg2_pre (by first | rfl | exact rv_cat _) hl4) jg2_same h
set_option maxRecDepth 10000 in
set_option maxHeartbeats 4000000 in
theorem r_Shorts_nearest {B : Nat} {SA : Nat → Nat} {d : Nat} (hd : 1 ≤ d) : ∀ (v0 : Nat) (v1 : Int64) (v3 : Bool) (v4 : Option Nat) (μ : JMem) (r : Int64), g_Shorts_nearest v0 v1 v3 v4 μ.1 = some r → jR B SA d m_Shorts_nearest 0 (lv_args 0 [.ref v0, .long v1, .int (jb v3), rv v4]) [] μ (some (.long r)) μ := by
  intro v0 v1 v3 v4 μ r h
  exact r_Shorts_nearest_e hd (lv_args 0 _) _ _ _ _ _ (by simp [lv_args, jget, rv_cat, cat_int, cat_long, cat_double, cat_float, cat_ref]) (by simp [lv_args, jget, rv_cat, cat_int, cat_long, cat_double, cat_float, cat_ref]) (by simp [lv_args, jget, rv_cat, cat_int, cat_long, cat_double, cat_float, cat_ref]) h
/-! FilterBench.translated(LFilterBench$Numbers;JZLFilterBench$Numbers;)J -/
set_option maxRecDepth 10000 in
set_option maxHeartbeats 4000000 in
theorem r_B_translated_e {B : Nat} {SA : Nat → Nat} {d : Nat} (hd : 4 ≤ d) : ∀ (L : JLoc) (v0 : Nat) (v1 : Option Nat) (v2 : Int64) (v4 : Bool) (v5 : Option Nat) (μ : JMem) (r : Int64), jget L 0 = .ref v0 → jget L 1 = rv v1 → jget L 2 = .long v2 → jget L 4 = .int (jb v4) → jget L 5 = rv v5 → g_B_translated v0 v1 v2 v4 v5 μ.1 = some r → jR B SA d m_B_translated 0 L [] μ (some (.long r)) μ := by
  intro L v0 v1 v2 v4 v5 μ r hl0 hl1 hl2 hl4 hl5 h
  unfold g_B_translated at h
  refine jr_aload_A jf_132_0 hl5 ?_
  refine jr_aload_n_A jf_132_2 rfl hl1 ?_
  refine jr_lload_n jf_132_3 rfl hl2 ?_
  refine jr_iload jf_132_4 hl4 ?_
  refine jr_aload_n jf_132_6 rfl hl0 ?_
  replace h := obd_of h; obtain ⟨x1, hx1, h⟩ := h
  refine jr_getA jf_132_7 hx1 ?_
  replace h := obd_of h; obtain ⟨a2, rfl, h⟩ := h
  replace h := obd_of h; obtain ⟨x3, hx3, h⟩ := h
  rcases ite_or hx3 with ⟨hb, hx⟩ | ⟨hb0, hx⟩
  · refine jr_V8a_3 jf_132_10 hb (by omega) (r_Real_meaning (by omega) _ _ _ _ _ _ hx) (by simp only [jcats_cons, jcats_nil, cat_int, cat_long, cat_double, cat_float, cat_ref, rv_cat]; decide) jml_133 (by simp only [jcats_cons, jcats_nil, cat_int, cat_long, cat_double, cat_float, cat_ref, rv_cat]; decide) ?_
    refine jr_iload jf_132_13 hl4 ?_
    refine jr_aload_n jf_132_15 rfl hl0 ?_
    replace h := obd_of h; obtain ⟨x4, hx4, h⟩ := h
    refine jr_getA jf_132_16 hx4 ?_
    replace h := obd_of h; obtain ⟨a5, rfl, h⟩ := h
    replace h := obd_of h; obtain ⟨x6, hx6, h⟩ := h
    rcases ite_or hx6 with ⟨hb, hx⟩ | ⟨hb0, hx⟩
    · refine jr_V8a_3 jf_132_19 hb (by omega) (r_Real_nearest (by omega) _ _ _ _ _ _ hx) (Nat.le_of_ble_eq_true rfl) jml_138 (by simp only [jcats_cons, jcats_nil, cat_int, cat_long, cat_double, cat_float, cat_ref, rv_cat]; decide) ?_
      obtain rfl := Option.some.inj h
      exact jr_retJ jf_132_22 jmt_132
    · obtain ⟨hb, hx⟩ := jgd_of hx
      refine jr_V8b_3 jf_132_19 hb0 hb (by omega) (r_Shorts_nearest (by omega) _ _ _ _ _ _ hx) (Nat.le_of_ble_eq_true rfl) jml_139 (by simp only [jcats_cons, jcats_nil, cat_int, cat_long, cat_double, cat_float, cat_ref, rv_cat]; decide) ?_
      obtain rfl := Option.some.inj h
      exact jr_retJ jf_132_22 jmt_132
  · obtain ⟨hb, hx⟩ := jgd_of hx
    refine jr_V8b_3 jf_132_10 hb0 hb (by omega) (r_Shorts_meaning (by omega) _ _ _ _ _ _ hx) (by simp only [jcats_cons, jcats_nil, cat_int, cat_long, cat_double, cat_float, cat_ref, rv_cat]; decide) jml_135 (by simp only [jcats_cons, jcats_nil, cat_int, cat_long, cat_double, cat_float, cat_ref, rv_cat]; decide) ?_
    refine jr_iload jf_132_13 hl4 ?_
    refine jr_aload_n jf_132_15 rfl hl0 ?_
    replace h := obd_of h; obtain ⟨x4, hx4, h⟩ := h
    refine jr_getA jf_132_16 hx4 ?_
    replace h := obd_of h; obtain ⟨a5, rfl, h⟩ := h
    replace h := obd_of h; obtain ⟨x6, hx6, h⟩ := h
    rcases ite_or hx6 with ⟨hb, hx⟩ | ⟨hb0, hx⟩
    · refine jr_V8a_3 jf_132_19 hb (by omega) (r_Real_nearest (by omega) _ _ _ _ _ _ hx) (Nat.le_of_ble_eq_true rfl) jml_138 (by simp only [jcats_cons, jcats_nil, cat_int, cat_long, cat_double, cat_float, cat_ref, rv_cat]; decide) ?_
      obtain rfl := Option.some.inj h
      exact jr_retJ jf_132_22 jmt_132
    · obtain ⟨hb, hx⟩ := jgd_of hx
      refine jr_V8b_3 jf_132_19 hb0 hb (by omega) (r_Shorts_nearest (by omega) _ _ _ _ _ _ hx) (Nat.le_of_ble_eq_true rfl) jml_139 (by simp only [jcats_cons, jcats_nil, cat_int, cat_long, cat_double, cat_float, cat_ref, rv_cat]; decide) ?_
      obtain rfl := Option.some.inj h
      exact jr_retJ jf_132_22 jmt_132
set_option maxRecDepth 10000 in
set_option maxHeartbeats 4000000 in
theorem r_B_translated {B : Nat} {SA : Nat → Nat} {d : Nat} (hd : 4 ≤ d) : ∀ (v0 : Nat) (v1 : Option Nat) (v2 : Int64) (v4 : Bool) (v5 : Option Nat) (μ : JMem) (r : Int64), g_B_translated v0 v1 v2 v4 v5 μ.1 = some r → jR B SA d m_B_translated 0 (lv_args 0 [.ref v0, rv v1, .long v2, .int (jb v4), rv v5]) [] μ (some (.long r)) μ := by
  intro v0 v1 v2 v4 v5 μ r h
  exact r_B_translated_e hd (lv_args 0 _) _ _ _ _ _ _ _ (by simp [lv_args, jget, rv_cat, cat_int, cat_long, cat_double, cat_float, cat_ref]) (by simp [lv_args, jget, rv_cat, cat_int, cat_long, cat_double, cat_float, cat_ref]) (by simp [lv_args, jget, rv_cat, cat_int, cat_long, cat_double, cat_float, cat_ref]) (by simp [lv_args, jget, rv_cat, cat_int, cat_long, cat_double, cat_float, cat_ref]) (by simp [lv_args, jget, rv_cat, cat_int, cat_long, cat_double, cat_float, cat_ref]) h
/-! FilterBench$Section.factorCount()I -/
set_option maxRecDepth 10000 in
set_option maxHeartbeats 4000000 in
theorem r_Section_factorCount_e {B : Nat} {SA : Nat → Nat} {d : Nat} (hd : 0 ≤ d) : ∀ (L : JLoc) (v0 : Nat) (μ : JMem) (r : Int32), jget L 0 = .ref v0 → g_Section_factorCount v0 μ.1 = some r → jR B SA d m_Section_factorCount 0 L [] μ (some (.int r)) μ := by
  intro L v0 μ r hl0 h
  unfold g_Section_factorCount at h
  refine jr_aload_n jf_130_0 rfl hl0 ?_
  replace h := obd_of h; obtain ⟨x1, hx1, h⟩ := h
  refine jr_getA jf_130_1 hx1 ?_
  replace h := obd_of h; obtain ⟨a2, rfl, h⟩ := h
  replace h := obd_of h; obtain ⟨x3, hx3, h⟩ := h
  refine jr_arraylength jf_130_4 hx3 ?_
  obtain rfl := Option.some.inj h
  exact jr_retI jf_130_5 jmt_130
set_option maxRecDepth 10000 in
set_option maxHeartbeats 4000000 in
theorem r_Section_factorCount {B : Nat} {SA : Nat → Nat} {d : Nat} (hd : 0 ≤ d) : ∀ (v0 : Nat) (μ : JMem) (r : Int32), g_Section_factorCount v0 μ.1 = some r → jR B SA d m_Section_factorCount 0 (lv_args 0 [.ref v0]) [] μ (some (.int r)) μ := by
  intro v0 μ r h
  exact r_Section_factorCount_e hd (lv_args 0 _) _ _ _ (by simp [lv_args, jget, rv_cat, cat_int, cat_long, cat_double, cat_float, cat_ref]) h
/-! FilterBench$Section.takesWhole()Z -/
set_option maxRecDepth 10000 in
set_option maxHeartbeats 4000000 in
theorem r_Section_takesWhole_18 {B : Nat} {SA : Nat → Nat} {d : Nat} (hd : 0 ≤ d) : ∀ (L : JLoc) (μ : JMem) (r : Bool), g_Section_takesWhole_18 μ.1 = some r → jR B SA d m_Section_takesWhole 18 L [] μ (some (.int (jb r))) μ := by
  intro L μ r h
  unfold g_Section_takesWhole_18 at h
  refine jr_iconst jf_131_18 jc_i_1 ?_
  refine jr_goto jf_131_19 ?_
  obtain rfl := Option.some.inj h
  exact jr_retZ (x := true) jf_131_23 jmt_131
set_option maxRecDepth 10000 in
set_option maxHeartbeats 4000000 in
theorem r_Section_takesWhole_e {B : Nat} {SA : Nat → Nat} {d : Nat} (hd : 0 ≤ d) : ∀ (L : JLoc) (v0 : Nat) (μ : JMem) (r : Bool), jget L 0 = .ref v0 → g_Section_takesWhole v0 μ.1 = some r → jR B SA d m_Section_takesWhole 0 L [] μ (some (.int (jb r))) μ := by
  intro L v0 μ r hl0 h
  unfold g_Section_takesWhole at h
  refine jr_aload_n jf_131_0 rfl hl0 ?_
  replace h := obd_of h; obtain ⟨x1, hx1, h⟩ := h
  refine jr_getI jf_131_1 hx1 ?_
  refine jr_bipush jf_131_4 jc_b_9 ?_
  replace h := ite_or h; rcases h with ⟨hc, h⟩ | ⟨hc, h⟩
  · refine jr_if2_eq_t jf_131_6 hc ?_
    exact r_Section_takesWhole_18 hd _  _ _ h
  · refine jr_if2_eq_f jf_131_6 hc ?_
    refine jr_aload_n jf_131_9 rfl hl0 ?_
    replace h := obd_of h; obtain ⟨x2, hx2, h⟩ := h
    refine jr_getI jf_131_10 hx2 ?_
    refine jr_bipush jf_131_13 jc_b_10 ?_
    replace h := ite_or h; rcases h with ⟨hc, h⟩ | ⟨hc, h⟩
    · refine jr_if2_ne_f jf_131_15 hc ?_
      exact r_Section_takesWhole_18 hd _  _ _ h
    · refine jr_if2_ne_t jf_131_15 hc ?_
      refine jr_iconst jf_131_22 jc_i_0 ?_
      obtain rfl := Option.some.inj h
      exact jr_retZ (x := false) jf_131_23 jmt_131
set_option maxRecDepth 10000 in
set_option maxHeartbeats 4000000 in
theorem r_Section_takesWhole {B : Nat} {SA : Nat → Nat} {d : Nat} (hd : 0 ≤ d) : ∀ (v0 : Nat) (μ : JMem) (r : Bool), g_Section_takesWhole v0 μ.1 = some r → jR B SA d m_Section_takesWhole 0 (lv_args 0 [.ref v0]) [] μ (some (.int (jb r))) μ := by
  intro v0 μ r h
  exact r_Section_takesWhole_e hd (lv_args 0 _) _ _ _ (by simp [lv_args, jget, rv_cat, cat_int, cat_long, cat_double, cat_float, cat_ref]) h
/-! FilterBench.canTranslate(LFilterBench$Chain;LFilterBench$Numbers;)Z -/
set_option maxRecDepth 10000 in
set_option maxHeartbeats 4000000 in
theorem r_B_canTranslate_72 {N B : Nat} {SA : Nat → Nat} {d : Nat} (hd : 5 ≤ d) {k2 : Nat → Option Nat → Option Nat → Int32 → (Nat → Option JCell) → Option Bool} (i2 : ∀ (L : JLoc) (v0 : Nat) (v1 : Option Nat) (v2 : Option Nat) (v3 : Int32) (μ : JMem) (r : Bool), jget L 0 = .ref v0 → jget L 1 = rv v1 → jget L 2 = rv v2 → jget L 3 = .int v3 → k2 v0 v1 v2 v3 μ.1 = some r → jR B SA d m_B_canTranslate 2 L [] μ (some (.int (jb r))) μ) : ∀ (L : JLoc) (v0 : Nat) (v1 : Nat) (v2 : Option Nat) (v3 : Int32) (μ : JMem) (r : Bool), jget L 0 = .ref v0 → jget L 1 = .ref v1 → jget L 2 = rv v2 → jget L 3 = .int v3 → g_B_canTranslate_72 N k2 v0 v1 v2 v3 μ.1 = some r → jR B SA d m_B_canTranslate 72 L [] μ (some (.int (jb r))) μ := by
  intro L v0 v1 v2 v3 μ r hl0 hl1 hl2 hl3 h
  unfold g_B_canTranslate_72 at h
  refine jr_iinc jf_129_72 jc_i_1 jml_129 (by decide) hl3 ?_
  refine jr_goto jf_129_75 ?_
  exact i2 _ _ (some _) _ _ _ _ (jg1_ne rfl hl0) (jg1_ne rfl hl1) (jg1_pre (by first | rfl | exact rv_cat _) hl2) jg1_same h
set_option maxRecDepth 10000 in
set_option maxHeartbeats 4000000 in
theorem r_B_canTranslate_20 {N B : Nat} {SA : Nat → Nat} {d : Nat} (hd : 5 ≤ d) {k2 : Nat → Option Nat → Option Nat → Int32 → (Nat → Option JCell) → Option Bool} (i2 : ∀ (L : JLoc) (v0 : Nat) (v1 : Option Nat) (v2 : Option Nat) (v3 : Int32) (μ : JMem) (r : Bool), jget L 0 = .ref v0 → jget L 1 = rv v1 → jget L 2 = rv v2 → jget L 3 = .int v3 → k2 v0 v1 v2 v3 μ.1 = some r → jR B SA d m_B_canTranslate 2 L [] μ (some (.int (jb r))) μ) : ∀ (n : Nat), ∀ (L : JLoc) (v0 : Nat) (v1 : Nat) (v2 : Option Nat) (v3 : Int32) (v4 : Option Nat) (v5 : Int32) (μ : JMem) (r : Bool), jget L 0 = .ref v0 → jget L 1 = .ref v1 → jget L 2 = rv v2 → jget L 3 = .int v3 → jget L 4 = rv v4 → jget L 5 = .int v5 → g_B_canTranslate_20 N k2 n v0 v1 v2 v3 v4 v5 μ.1 = some r → jR B SA d m_B_canTranslate 20 L [] μ (some (.int (jb r))) μ := by
  intro n
  induction n with
  | zero =>
    intro L v0 v1 v2 v3 v4 v5 μ r hl0 hl1 hl2 hl3 hl4 hl5 h
    unfold g_B_canTranslate_20 at h
    cases h
  | succ n ih =>
    intro L v0 v1 v2 v3 v4 v5 μ r hl0 hl1 hl2 hl3 hl4 hl5 h
    unfold g_B_canTranslate_20 at h
    refine jr_aload_A jf_129_20 hl4 ?_
    replace h := jon_or h; rcases h with ⟨rfl, h⟩ | ⟨a1, rfl, h⟩
    · refine jr_ifnull_n jf_129_22 ?_
      exact r_B_canTranslate_72 hd i2 _ _ _ _ _ _ _ hl0 hl1 hl2 hl3 h
    · refine jr_ifnull_s jf_129_22 ?_
      refine jr_iload jf_129_25 hl5 ?_
      refine jr_aload jf_129_27 hl4 ?_
      replace h := jgd_of h; obtain ⟨hb2, h⟩ := h
      replace h := obd_of h; obtain ⟨x3, hx3, h⟩ := h
      refine jr_V6_0 jf_129_29 hb2 (by omega) (r_Section_factorCount (by omega) _ _ _ hx3) (Nat.le_of_ble_eq_true rfl) jml_130 (Nat.le_of_ble_eq_true rfl) ?_
      replace h := ite_or h; rcases h with ⟨hc, h⟩ | ⟨hc, h⟩
      · refine jr_if2_ge_t jf_129_32 hc ?_
        exact r_B_canTranslate_72 hd i2 _ _ _ _ _ _ _ hl0 hl1 hl2 hl3 h
      · refine jr_if2_ge_f jf_129_32 hc ?_
        refine jr_aload_n_A jf_129_35 rfl hl2 ?_
        refine jr_aload_n jf_129_36 rfl hl0 ?_
        refine jr_aload jf_129_37 hl4 ?_
        replace h := obd_of h; obtain ⟨x4, hx4, h⟩ := h
        refine jr_getA jf_129_39 hx4 ?_
        refine jr_aload jf_129_42 hl4 ?_
        refine jr_iload jf_129_44 hl5 ?_
        replace h := jgd_of h; obtain ⟨hb5, h⟩ := h
        replace h := obd_of h; obtain ⟨x6, hx6, h⟩ := h
        refine jr_V6_1 jf_129_46 hb5 (by omega) (r_Section_factor (by omega) _ _ _ _ hx6) (by simp only [jcats_cons, jcats_nil, cat_int, cat_long, cat_double, cat_float, cat_ref, rv_cat]; decide) jml_28 (Nat.le_of_ble_eq_true rfl) ?_
        refine jr_aload jf_129_49 hl4 ?_
        replace h := jgd_of h; obtain ⟨hb7, h⟩ := h
        replace h := obd_of h; obtain ⟨x8, hx8, h⟩ := h
        refine jr_V6_0 jf_129_51 hb7 (by omega) (r_Section_takesWhole (by omega) _ _ _ hx8) (by simp only [jcats_cons, jcats_nil, cat_int, cat_long, cat_double, cat_float, cat_ref, rv_cat]; decide) jml_131 (Nat.le_of_ble_eq_true rfl) ?_
        refine jr_aload_n_A jf_129_54 rfl hl2 ?_
        replace h := jgd_of h; obtain ⟨hb9, h⟩ := h
        replace h := obd_of h; obtain ⟨x10, hx10, h⟩ := h
        refine jr_V6_4 jf_129_55 hb9 (by omega) (r_B_translated (by omega) _ _ _ _ _ _ _ hx10) (by simp only [jcats_cons, jcats_nil, cat_int, cat_long, cat_double, cat_float, cat_ref, rv_cat]; decide) jml_132 (by simp only [jcats_cons, jcats_nil, cat_int, cat_long, cat_double, cat_float, cat_ref, rv_cat]; decide) ?_
        replace h := obd_of h; obtain ⟨a11, rfl, h⟩ := h
        replace h := obd_of h; obtain ⟨x12, hx12, h⟩ := h
        rcases ite_or hx12 with ⟨hb, hx⟩ | ⟨hb0, hx⟩
        · refine jr_V8a_1 jf_129_58 hb (by omega) (r_Real_holds (by omega) _ _ _ _ hx) (Nat.le_of_ble_eq_true rfl) jml_15 (Nat.le_of_ble_eq_true rfl) ?_
          replace h := ite_or h; rcases h with ⟨hc, h⟩ | ⟨hc, h⟩
          · refine jr_ifz_ne_t jf_129_61 hc ?_
            refine jr_iinc jf_129_66 jc_i_1 jml_129 (by decide) hl5 ?_
            refine jr_goto jf_129_69 ?_
            exact ih _ _ _ (some _) _ (some _) _ _ _ (jg1_ne rfl hl0) (jg1_ne rfl hl1) (jg1_ne rfl hl2) (jg1_ne rfl hl3) (jg1_pre (by first | rfl | exact rv_cat _) hl4) jg1_same h
          · refine jr_ifz_ne_f jf_129_61 hc ?_
            refine jr_iconst jf_129_64 jc_i_0 ?_
            obtain rfl := Option.some.inj h
            exact jr_retZ (x := false) jf_129_65 jmt_129
        · obtain ⟨hb, hx⟩ := jgd_of hx
          obtain hx := Option.some.inj hx
          refine jr_V8b_1 jf_129_58 hb0 hb (by omega) (r_Shorts_holds (by omega) _ _ _ _ hx) (Nat.le_of_ble_eq_true rfl) jml_16 (Nat.le_of_ble_eq_true rfl) ?_
          replace h := ite_or h; rcases h with ⟨hc, h⟩ | ⟨hc, h⟩
          · refine jr_ifz_ne_t jf_129_61 hc ?_
            refine jr_iinc jf_129_66 jc_i_1 jml_129 (by decide) hl5 ?_
            refine jr_goto jf_129_69 ?_
            exact ih _ _ _ (some _) _ (some _) _ _ _ (jg1_ne rfl hl0) (jg1_ne rfl hl1) (jg1_ne rfl hl2) (jg1_ne rfl hl3) (jg1_pre (by first | rfl | exact rv_cat _) hl4) jg1_same h
          · refine jr_ifz_ne_f jf_129_61 hc ?_
            refine jr_iconst jf_129_64 jc_i_0 ?_
            obtain rfl := Option.some.inj h
            exact jr_retZ (x := false) jf_129_65 jmt_129
set_option maxRecDepth 10000 in
set_option maxHeartbeats 4000000 in
theorem r_B_canTranslate_90 {N B : Nat} {SA : Nat → Nat} {d : Nat} (hd : 5 ≤ d) : ∀ (n : Nat), ∀ (L : JLoc) (v0 : Nat) (v1 : Nat) (v2 : Option Nat) (v3 : Option Nat) (v4 : Int32) (μ : JMem) (r : Bool), jget L 0 = .ref v0 → jget L 1 = .ref v1 → jget L 2 = rv v2 → jget L 3 = rv v3 → jget L 4 = .int v4 → g_B_canTranslate_90 N n v0 v1 v2 v3 v4 μ.1 = some r → jR B SA d m_B_canTranslate 90 L [] μ (some (.int (jb r))) μ := by
  intro n
  induction n with
  | zero =>
    intro L v0 v1 v2 v3 v4 μ r hl0 hl1 hl2 hl3 hl4 h
    unfold g_B_canTranslate_90 at h
    cases h
  | succ n ih =>
    intro L v0 v1 v2 v3 v4 μ r hl0 hl1 hl2 hl3 hl4 h
    unfold g_B_canTranslate_90 at h
    refine jr_iload jf_129_90 hl4 ?_
    refine jr_aload_n jf_129_92 rfl hl1 ?_
    replace h := obd_of h; obtain ⟨x1, hx1, h⟩ := h
    refine jr_getI jf_129_93 hx1 ?_
    replace h := ite_or h; rcases h with ⟨hc, h⟩ | ⟨hc, h⟩
    · refine jr_if2_ge_t jf_129_96 hc ?_
      refine jr_iconst jf_129_143 jc_i_1 ?_
      obtain rfl := Option.some.inj h
      exact jr_retZ (x := true) jf_129_144 jmt_129
    · refine jr_if2_ge_f jf_129_96 hc ?_
      refine jr_aload_n jf_129_99 rfl hl1 ?_
      refine jr_iload jf_129_100 hl4 ?_
      replace h := jgd_of h; obtain ⟨hb2, h⟩ := h
      replace h := obd_of h; obtain ⟨x3, hx3, h⟩ := h
      refine jr_V6_1 jf_129_102 hb2 (by omega) (r_Chain_loopAt (by omega) _ _ _ _ hx3) (Nat.le_of_ble_eq_true rfl) jml_52 (Nat.le_of_ble_eq_true rfl) ?_
      refine jr_astore_A jf_129_105 jml_129 (by decide) ?_
      refine jr_aload_n_A jf_129_107 rfl (jg1_ne rfl hl3) ?_
      replace h := jon_or h; rcases h with ⟨rfl, h⟩ | ⟨a4, rfl, h⟩
      · refine jr_ifnull_n jf_129_108 ?_
        refine jr_iconst jf_129_135 jc_i_0 ?_
        obtain rfl := Option.some.inj h
        exact jr_retZ (x := false) jf_129_136 jmt_129
      · refine jr_ifnull_s jf_129_108 ?_
        refine jr_aload_A jf_129_111 jg1_same ?_
        replace h := jon_or h; rcases h with ⟨rfl, h⟩ | ⟨a5, rfl, h⟩
        · refine jr_ifnull_n jf_129_113 ?_
          refine jr_iconst jf_129_135 jc_i_0 ?_
          obtain rfl := Option.some.inj h
          exact jr_retZ (x := false) jf_129_136 jmt_129
        · refine jr_ifnull_s jf_129_113 ?_
          refine jr_aload_n_A jf_129_116 rfl (jg1_ne rfl hl2) ?_
          refine jr_aload_n jf_129_117 rfl (jg1_ne rfl hl0) ?_
          refine jr_aload_n jf_129_118 rfl (jg1_ne rfl hl3) ?_
          refine jr_aload jf_129_119 jg1_same ?_
          replace h := obd_of h; obtain ⟨x6, hx6, h⟩ := h
          refine jr_getJ jf_129_121 hx6 ?_
          refine jr_iconst jf_129_124 jc_i_0 ?_
          refine jr_aload_n_A jf_129_125 rfl (jg1_ne rfl hl2) ?_
          replace h := jgd_of h; obtain ⟨hb7, h⟩ := h
          replace h := obd_of h; obtain ⟨x8, hx8, h⟩ := h
          refine jr_V6_4 jf_129_126 hb7 (by omega) (r_B_translated (by omega) _ _ _ _ _ _ _ hx8) (by simp only [jcats_cons, jcats_nil, cat_int, cat_long, cat_double, cat_float, cat_ref, rv_cat]; decide) jml_132 (by simp only [jcats_cons, jcats_nil, cat_int, cat_long, cat_double, cat_float, cat_ref, rv_cat]; decide) ?_
          replace h := obd_of h; obtain ⟨a9, rfl, h⟩ := h
          replace h := obd_of h; obtain ⟨x10, hx10, h⟩ := h
          rcases ite_or hx10 with ⟨hb, hx⟩ | ⟨hb0, hx⟩
          · refine jr_V8a_1 jf_129_129 hb (by omega) (r_Real_holds (by omega) _ _ _ _ hx) (Nat.le_of_ble_eq_true rfl) jml_15 (Nat.le_of_ble_eq_true rfl) ?_
            replace h := ite_or h; rcases h with ⟨hc, h⟩ | ⟨hc, h⟩
            · refine jr_ifz_ne_t jf_129_132 hc ?_
              refine jr_iinc jf_129_137 jc_i_1 jml_129 (by decide) (jg1_pre rfl hl4) ?_
              refine jr_goto jf_129_140 ?_
              exact ih _ _ _ (some _) (some _) _ _ _ (jg1_ne rfl (jg1_ne rfl hl0)) (jg1_ne rfl (jg1_ne rfl hl1)) (jg1_ne rfl (jg1_ne rfl hl2)) (jg1_pre (by first | rfl | exact rv_cat _) (jg1_ne rfl hl3)) jg1_same h
            · refine jr_ifz_ne_f jf_129_132 hc ?_
              refine jr_iconst jf_129_135 jc_i_0 ?_
              obtain rfl := Option.some.inj h
              exact jr_retZ (x := false) jf_129_136 jmt_129
          · obtain ⟨hb, hx⟩ := jgd_of hx
            obtain hx := Option.some.inj hx
            refine jr_V8b_1 jf_129_129 hb0 hb (by omega) (r_Shorts_holds (by omega) _ _ _ _ hx) (Nat.le_of_ble_eq_true rfl) jml_16 (Nat.le_of_ble_eq_true rfl) ?_
            replace h := ite_or h; rcases h with ⟨hc, h⟩ | ⟨hc, h⟩
            · refine jr_ifz_ne_t jf_129_132 hc ?_
              refine jr_iinc jf_129_137 jc_i_1 jml_129 (by decide) (jg1_pre rfl hl4) ?_
              refine jr_goto jf_129_140 ?_
              exact ih _ _ _ (some _) (some _) _ _ _ (jg1_ne rfl (jg1_ne rfl hl0)) (jg1_ne rfl (jg1_ne rfl hl1)) (jg1_ne rfl (jg1_ne rfl hl2)) (jg1_pre (by first | rfl | exact rv_cat _) (jg1_ne rfl hl3)) jg1_same h
            · refine jr_ifz_ne_f jf_129_132 hc ?_
              refine jr_iconst jf_129_135 jc_i_0 ?_
              obtain rfl := Option.some.inj h
              exact jr_retZ (x := false) jf_129_136 jmt_129
set_option maxRecDepth 10000 in
set_option maxHeartbeats 4000000 in
theorem r_B_canTranslate_2 {N B : Nat} {SA : Nat → Nat} {d : Nat} (hd : 5 ≤ d) : ∀ (n : Nat), ∀ (L : JLoc) (v0 : Nat) (v1 : Option Nat) (v2 : Option Nat) (v3 : Int32) (μ : JMem) (r : Bool), jget L 0 = .ref v0 → jget L 1 = rv v1 → jget L 2 = rv v2 → jget L 3 = .int v3 → g_B_canTranslate_2 N n v0 v1 v2 v3 μ.1 = some r → jR B SA d m_B_canTranslate 2 L [] μ (some (.int (jb r))) μ := by
  intro n
  induction n with
  | zero =>
    intro L v0 v1 v2 v3 μ r hl0 hl1 hl2 hl3 h
    unfold g_B_canTranslate_2 at h
    cases h
  | succ n ih =>
    intro L v0 v1 v2 v3 μ r hl0 hl1 hl2 hl3 h
    unfold g_B_canTranslate_2 at h
    refine jr_iload_n jf_129_2 rfl hl3 ?_
    refine jr_aload_n_A jf_129_3 rfl hl1 ?_
    replace h := obd_of h; obtain ⟨a1, rfl, h⟩ := h
    replace h := obd_of h; obtain ⟨x2, hx2, h⟩ := h
    refine jr_getI jf_129_4 hx2 ?_
    replace h := ite_or h; rcases h with ⟨hc, h⟩ | ⟨hc, h⟩
    · refine jr_if2_ge_t jf_129_7 hc ?_
      refine jr_aload_n jf_129_78 rfl hl0 ?_
      refine jr_aload_n jf_129_79 rfl hl1 ?_
      replace h := jgd_of h; obtain ⟨hb3, h⟩ := h
      replace h := obd_of h; obtain ⟨x4, hx4, h⟩ := h
      refine jr_V6_0 jf_129_80 hb3 (by omega) (r_Chain_sort (by omega) _ _ _ hx4) (Nat.le_of_ble_eq_true rfl) jml_34 (Nat.le_of_ble_eq_true rfl) ?_
      replace h := jgd_of h; obtain ⟨hb5, h⟩ := h
      replace h := obd_of h; obtain ⟨x6, hx6, h⟩ := h
      refine jr_V6_1 jf_129_83 hb5 (by omega) (r_B_numbersOf (by omega) _ _ _ _ hx6) (Nat.le_of_ble_eq_true rfl) jml_6 (Nat.le_of_ble_eq_true rfl) ?_
      refine jr_astore_n_A jf_129_86 rfl jml_129 (by decide) ?_
      refine jr_iconst jf_129_87 jc_i_0 ?_
      refine jr_istore jf_129_88 jml_129 (by decide) ?_
      exact r_B_canTranslate_90 hd _ _ _ _ _ _ _ _ _ (jg1_ne rfl (jg1_ne rfl hl0)) (jg1_ne rfl (jg1_ne rfl hl1)) (jg1_ne rfl (jg1_pre (by first | rfl | exact rv_cat _) hl2)) (jg1_pre (by first | rfl | exact rv_cat _) jg1_same) jg1_same h
    · refine jr_if2_ge_f jf_129_7 hc ?_
      refine jr_aload_n jf_129_10 rfl hl1 ?_
      refine jr_iload_n jf_129_11 rfl hl3 ?_
      replace h := jgd_of h; obtain ⟨hb7, h⟩ := h
      replace h := obd_of h; obtain ⟨x8, hx8, h⟩ := h
      refine jr_V6_1 jf_129_12 hb7 (by omega) (r_Chain_memberAt (by omega) _ _ _ _ hx8) (Nat.le_of_ble_eq_true rfl) jml_35 (Nat.le_of_ble_eq_true rfl) ?_
      refine jr_astore_A jf_129_15 jml_129 (by decide) ?_
      refine jr_iconst jf_129_17 jc_i_0 ?_
      refine jr_istore jf_129_18 jml_129 (by decide) ?_
      exact r_B_canTranslate_20 hd ih _ _ _ _ _ _ _ _ _ _ (jg1_ne rfl (jg1_ne rfl hl0)) (jg1_ne rfl (jg1_ne rfl hl1)) (jg1_ne rfl (jg1_ne rfl hl2)) (jg1_ne rfl (jg1_pre rfl hl3)) (jg1_pre (by first | rfl | exact rv_cat _) jg1_same) jg1_same h
set_option maxRecDepth 10000 in
set_option maxHeartbeats 4000000 in
theorem r_B_canTranslate_e {N B : Nat} {SA : Nat → Nat} {d : Nat} (hd : 5 ≤ d) : ∀ (L : JLoc) (v0 : Nat) (v1 : Option Nat) (v2 : Option Nat) (μ : JMem) (r : Bool), jget L 0 = .ref v0 → jget L 1 = rv v1 → jget L 2 = rv v2 → g_B_canTranslate N v0 v1 v2 μ.1 = some r → jR B SA d m_B_canTranslate 0 L [] μ (some (.int (jb r))) μ := by
  intro L v0 v1 v2 μ r hl0 hl1 hl2 h
  unfold g_B_canTranslate at h
  refine jr_iconst jf_129_0 jc_i_0 ?_
  refine jr_istore_n jf_129_1 rfl jml_129 (by decide) ?_
  exact r_B_canTranslate_2 hd _ _ _ _ _ _ _ _ (jg1_ne rfl hl0) (jg1_ne rfl hl1) (jg1_pre (by first | rfl | exact rv_cat _) hl2) jg1_same h
set_option maxRecDepth 10000 in
set_option maxHeartbeats 4000000 in
theorem r_B_canTranslate {N B : Nat} {SA : Nat → Nat} {d : Nat} (hd : 5 ≤ d) : ∀ (v0 : Nat) (v1 : Option Nat) (v2 : Option Nat) (μ : JMem) (r : Bool), g_B_canTranslate N v0 v1 v2 μ.1 = some r → jR B SA d m_B_canTranslate 0 (lv_args 0 [.ref v0, rv v1, rv v2]) [] μ (some (.int (jb r))) μ := by
  intro v0 v1 v2 μ r h
  exact r_B_canTranslate_e hd (lv_args 0 _) _ _ _ _ _ (by simp [lv_args, jget, rv_cat, cat_int, cat_long, cat_double, cat_float, cat_ref]) (by simp [lv_args, jget, rv_cat, cat_int, cat_long, cat_double, cat_float, cat_ref]) (by simp [lv_args, jget, rv_cat, cat_int, cat_long, cat_double, cat_float, cat_ref]) h
/-! FilterBench.canRemake(LFilterBench$Chain;LFilterBench$Numbers;)Z -/
set_option maxRecDepth 10000 in
set_option maxHeartbeats 4000000 in
theorem r_B_canRemake_76 {N B : Nat} {SA : Nat → Nat} {d : Nat} (hd : 6 ≤ d) : ∀ (L : JLoc) (v0 : Nat) (v3 : Int32) (v4 : Int32) (μ : JMem) (r : Bool) (μ9 : JMem), jget L 0 = .ref v0 → jget L 3 = .int v3 → jget L 4 = .int v4 → g_B_canRemake_76 N B v0 v3 v4 μ = some (r, μ9) → jR B SA d m_B_canRemake 76 L [] μ (some (.int (jb r))) μ9 := by
  intro L v0 v3 v4 μ r μ9 hl0 hl3 hl4 h
  unfold g_B_canRemake_76 at h
  refine jr_aload_n jf_128_76 rfl hl0 ?_
  replace h := obd_of h; obtain ⟨x1, hx1, h⟩ := h
  refine jr_getI jf_128_77 hx1 ?_
  refine jr_iload jf_128_80 hl4 ?_
  refine jr_iadd jf_128_82 ?_
  refine jr_bipush jf_128_83 jc_b_60 ?_
  replace h := ite_or h; rcases h with ⟨hc, h⟩ | ⟨hc, h⟩
  · refine jr_if2_gt_t jf_128_85 hc ?_
    refine jr_iconst jf_128_103 jc_i_0 ?_
    obtain ⟨rfl, rfl⟩ := Prod.mk.inj (Option.some.inj h)
    exact jr_retZ (x := false) jf_128_104 jmt_128
  · refine jr_if2_gt_f jf_128_85 hc ?_
    refine jr_aload_n jf_128_88 rfl hl0 ?_
    replace h := obd_of h; obtain ⟨x2, hx2, h⟩ := h
    refine jr_getI jf_128_89 hx2 ?_
    refine jr_iload_n jf_128_92 rfl hl3 ?_
    refine jr_iadd jf_128_93 ?_
    refine jr_bipush jf_128_94 jc_b_20 ?_
    replace h := ite_or h; rcases h with ⟨hc, h⟩ | ⟨hc, h⟩
    · refine jr_if2_gt_t jf_128_96 hc ?_
      refine jr_iconst jf_128_103 jc_i_0 ?_
      obtain ⟨rfl, rfl⟩ := Prod.mk.inj (Option.some.inj h)
      exact jr_retZ (x := false) jf_128_104 jmt_128
    · refine jr_if2_gt_f jf_128_96 hc ?_
      refine jr_iconst jf_128_99 jc_i_1 ?_
      refine jr_goto jf_128_100 ?_
      obtain ⟨rfl, rfl⟩ := Prod.mk.inj (Option.some.inj h)
      exact jr_retZ (x := true) jf_128_104 jmt_128
set_option maxRecDepth 10000 in
set_option maxHeartbeats 4000000 in
theorem r_B_canRemake_12 {N B : Nat} {SA : Nat → Nat} {d : Nat} (hd : 6 ≤ d) : ∀ (n : Nat), ∀ (L : JLoc) (v0 : Nat) (v2 : Option Nat) (v3 : Int32) (v4 : Int32) (v5 : Int32) (μ : JMem) (r : Bool) (μ9 : JMem), jget L 0 = .ref v0 → jget L 2 = rv v2 → jget L 3 = .int v3 → jget L 4 = .int v4 → jget L 5 = .int v5 → g_B_canRemake_12 N B n v0 v2 v3 v4 v5 μ = some (r, μ9) → jR B SA d m_B_canRemake 12 L [] μ (some (.int (jb r))) μ9 := by
  intro n
  induction n with
  | zero =>
    intro L v0 v2 v3 v4 v5 μ r μ9 hl0 hl2 hl3 hl4 hl5 h
    unfold g_B_canRemake_12 at h
    cases h
  | succ n ih =>
    intro L v0 v2 v3 v4 v5 μ r μ9 hl0 hl2 hl3 hl4 hl5 h
    unfold g_B_canRemake_12 at h
    refine jr_iload jf_128_12 hl5 ?_
    refine jr_iload_n jf_128_14 rfl hl3 ?_
    replace h := ite_or h; rcases h with ⟨hc, h⟩ | ⟨hc, h⟩
    · refine jr_if2_ge_t jf_128_15 hc ?_
      exact r_B_canRemake_76 hd _ _ _ _ _ _ _ hl0 hl3 hl4 h
    · refine jr_if2_ge_f jf_128_15 hc ?_
      refine jr_iload jf_128_18 hl5 ?_
      refine jr_aload_n jf_128_20 rfl hl0 ?_
      replace h := obd_of h; obtain ⟨x1, hx1, h⟩ := h
      refine jr_getA jf_128_21 hx1 ?_
      replace h := obd_of h; obtain ⟨a2, rfl, h⟩ := h
      replace h := obd_of h; obtain ⟨x3, hx3, h⟩ := h
      refine jr_arraylength jf_128_24 hx3 ?_
      replace h := ite_or h; rcases h with ⟨hc, h⟩ | ⟨hc, h⟩
      · refine jr_if2_ge_t jf_128_25 hc ?_
        exact r_B_canRemake_76 hd _ _ _ _ _ _ _ hl0 hl3 hl4 h
      · refine jr_if2_ge_f jf_128_25 hc ?_
        refine jr_aload_n jf_128_28 rfl hl0 ?_
        replace h := obd_of h; obtain ⟨x4, hx4, h⟩ := h
        refine jr_getA jf_128_29 hx4 ?_
        refine jr_iload jf_128_32 hl5 ?_
        replace h := obd_of h; obtain ⟨a5, rfl, h⟩ := h
        replace h := obd_of h; obtain ⟨x6, hx6, h⟩ := h
        refine jr_aaload jf_128_34 hx6 ?_
        replace h := jon_or h; rcases h with ⟨rfl, h⟩ | ⟨a7, rfl, h⟩
        · refine jr_ifnull_n jf_128_35 ?_
          refine jr_iconst jf_128_53 jc_i_0 ?_
          obtain ⟨rfl, rfl⟩ := Prod.mk.inj (Option.some.inj h)
          exact jr_retZ (x := false) jf_128_54 jmt_128
        · refine jr_ifnull_s jf_128_35 ?_
          refine jr_aload_n jf_128_38 rfl hl0 ?_
          refine jr_aload_n jf_128_39 rfl hl0 ?_
          replace h := obd_of h; obtain ⟨x8, hx8, h⟩ := h
          refine jr_getA jf_128_40 hx8 ?_
          refine jr_iload jf_128_43 hl5 ?_
          replace h := obd_of h; obtain ⟨a9, rfl, h⟩ := h
          replace h := obd_of h; obtain ⟨x10, hx10, h⟩ := h
          refine jr_aaload jf_128_45 hx10 ?_
          refine jr_aload_n_A jf_128_46 rfl hl2 ?_
          replace h := jgd_of h; obtain ⟨hb11, h⟩ := h
          replace h := obd_of h; obtain ⟨x12, hx12, h⟩ := h
          refine jr_V6_2 jf_128_47 hb11 (by omega) (r_B_canTranslate (by omega) _ _ _ _ _ hx12) (Nat.le_of_ble_eq_true rfl) jml_129 (by simp only [jcats_cons, jcats_nil, cat_int, cat_long, cat_double, cat_float, cat_ref, rv_cat]; decide) ?_
          replace h := ite_or h; rcases h with ⟨hc, h⟩ | ⟨hc, h⟩
          · refine jr_ifz_ne_t jf_128_50 hc ?_
            refine jr_iload jf_128_55 hl4 ?_
            refine jr_aload_n jf_128_57 rfl hl0 ?_
            replace h := obd_of h; obtain ⟨x13, hx13, h⟩ := h
            refine jr_getA jf_128_58 hx13 ?_
            refine jr_iload jf_128_61 hl5 ?_
            replace h := obd_of h; obtain ⟨a14, rfl, h⟩ := h
            replace h := obd_of h; obtain ⟨x15, hx15, h⟩ := h
            refine jr_aaload jf_128_63 hx15 ?_
            replace h := obd_of h; obtain ⟨a16, rfl, h⟩ := h
            replace h := obd_of h; obtain ⟨x17, hx17, h⟩ := h
            refine jr_getI jf_128_64 hx17 ?_
            refine jr_iadd jf_128_67 ?_
            refine jr_istore jf_128_68 jml_128 (by decide) ?_
            refine jr_iinc jf_128_70 jc_i_1 jml_128 (by decide) (jg1_ne rfl hl5) ?_
            refine jr_goto jf_128_73 ?_
            exact ih _ _ _ _ _ _ _ _ _ (jg1_ne rfl (jg1_ne rfl hl0)) (jg1_ne rfl (jg1_ne rfl hl2)) (jg1_ne rfl (jg1_pre rfl hl3)) (jg1_pre rfl jg1_same) jg1_same h
          · refine jr_ifz_ne_f jf_128_50 hc ?_
            refine jr_iconst jf_128_53 jc_i_0 ?_
            obtain ⟨rfl, rfl⟩ := Prod.mk.inj (Option.some.inj h)
            exact jr_retZ (x := false) jf_128_54 jmt_128
set_option maxRecDepth 10000 in
set_option maxHeartbeats 4000000 in
theorem r_B_canRemake_e {N B : Nat} {SA : Nat → Nat} {d : Nat} (hd : 6 ≤ d) : ∀ (L : JLoc) (v0 : Nat) (v1 : Option Nat) (v2 : Option Nat) (μ : JMem) (r : Bool) (μ9 : JMem), jget L 0 = .ref v0 → jget L 1 = rv v1 → jget L 2 = rv v2 → g_B_canRemake N B v0 v1 v2 μ = some (r, μ9) → jR B SA d m_B_canRemake 0 L [] μ (some (.int (jb r))) μ9 := by
  intro L v0 v1 v2 μ r μ9 hl0 hl1 hl2 h
  unfold g_B_canRemake at h
  refine jr_aload_n jf_128_0 rfl hl0 ?_
  refine jr_aload_n_A jf_128_1 rfl hl1 ?_
  replace h := jgd_of h; obtain ⟨hb1, h⟩ := h
  replace h := jbd2_of h; obtain ⟨x2, μ3, hx2, h⟩ := h
  refine jr_V6_1 jf_128_2 hb1 (by omega) (r_B_gather (by omega) _ _ _ _ _ hx2) (Nat.le_of_ble_eq_true rfl) jml_108 (by simp only [jcats_cons, jcats_nil, cat_int, cat_long, cat_double, cat_float, cat_ref, rv_cat]; decide) ?_
  refine jr_istore_n jf_128_5 rfl jml_128 (by decide) ?_
  refine jr_iconst jf_128_6 jc_i_0 ?_
  refine jr_istore jf_128_7 jml_128 (by decide) ?_
  refine jr_iconst jf_128_9 jc_i_0 ?_
  refine jr_istore jf_128_10 jml_128 (by decide) ?_
  exact r_B_canRemake_12 hd _ _ _ _ _ _ _ _ _ _ (jg1_ne rfl (jg1_ne rfl (jg1_ne rfl hl0))) (jg1_ne rfl (jg1_ne rfl (jg1_pre (by first | rfl | exact rv_cat _) hl2))) (jg1_ne rfl (jg1_pre rfl jg1_same)) (jg1_pre rfl jg1_same) jg1_same h
set_option maxRecDepth 10000 in
set_option maxHeartbeats 4000000 in
theorem r_B_canRemake {N B : Nat} {SA : Nat → Nat} {d : Nat} (hd : 6 ≤ d) : ∀ (v0 : Nat) (v1 : Option Nat) (v2 : Option Nat) (μ : JMem) (r : Bool) (μ9 : JMem), g_B_canRemake N B v0 v1 v2 μ = some (r, μ9) → jR B SA d m_B_canRemake 0 (lv_args 0 [.ref v0, rv v1, rv v2]) [] μ (some (.int (jb r))) μ9 := by
  intro v0 v1 v2 μ r μ9 h
  exact r_B_canRemake_e hd (lv_args 0 _) _ _ _ _ _ _ (by simp [lv_args, jget, rv_cat, cat_int, cat_long, cat_double, cat_float, cat_ref]) (by simp [lv_args, jget, rv_cat, cat_int, cat_long, cat_double, cat_float, cat_ref]) (by simp [lv_args, jget, rv_cat, cat_int, cat_long, cat_double, cat_float, cat_ref]) h
/-! FilterBench.remadeSection(LFilterBench$Section;ILFilterBench$Numbers;)LFilterBench$Section; -/
set_option maxRecDepth 10000 in
set_option maxHeartbeats 4000000 in
theorem r_B_remadeSection_26 {N B : Nat} {SA : Nat → Nat} {d : Nat} (hd : 5 ≤ d) : ∀ (n : Nat), ∀ (L : JLoc) (v0 : Nat) (v1 : Nat) (v2 : Int32) (v3 : Option Nat) (v4 : Nat) (v5 : Int32) (μ : JMem) (r : Option Nat) (μ9 : JMem), jget L 0 = .ref v0 → jget L 1 = .ref v1 → jget L 2 = .int v2 → jget L 3 = rv v3 → jget L 4 = .ref v4 → jget L 5 = .int v5 → g_B_remadeSection_26 N B SA n v0 v1 v2 v3 v4 v5 μ = some (r, μ9) → jR B SA d m_B_remadeSection 26 L [] μ (some (rv r)) μ9 := by
  intro n
  induction n with
  | zero =>
    intro L v0 v1 v2 v3 v4 v5 μ r μ9 hl0 hl1 hl2 hl3 hl4 hl5 h
    unfold g_B_remadeSection_26 at h
    cases h
  | succ n ih =>
    intro L v0 v1 v2 v3 v4 v5 μ r μ9 hl0 hl1 hl2 hl3 hl4 hl5 h
    unfold g_B_remadeSection_26 at h
    refine jr_iload jf_142_26 hl5 ?_
    refine jr_aload_n jf_142_28 rfl hl1 ?_
    replace h := jgd_of h; obtain ⟨hb1, h⟩ := h
    replace h := obd_of h; obtain ⟨x2, hx2, h⟩ := h
    refine jr_V6_0 jf_142_29 hb1 (by omega) (r_Section_factorCount (by omega) _ _ _ hx2) (Nat.le_of_ble_eq_true rfl) jml_130 (Nat.le_of_ble_eq_true rfl) ?_
    replace h := ite_or h; rcases h with ⟨hc, h⟩ | ⟨hc, h⟩
    · refine jr_if2_ge_t jf_142_32 hc ?_
      refine jr_aload_n jf_142_67 rfl hl1 ?_
      replace h := obd_of h; obtain ⟨x3, hx3, h⟩ := h
      refine jr_getI jf_142_68 hx3 ?_
      refine jr_iconst jf_142_71 jc_i_2 ?_
      replace h := ite_or h; rcases h with ⟨hc, h⟩ | ⟨hc, h⟩
      · refine jr_if2_ne_f jf_142_72 hc ?_
        refine jr_iload_n jf_142_75 rfl hl2 ?_
        refine jr_iconst jf_142_76 jc_i_2 ?_
        replace h := ite_or h; rcases h with ⟨hc, h⟩ | ⟨hc, h⟩
        · refine jr_if2_ne_f jf_142_77 hc ?_
          refine jr_aload jf_142_80 hl4 ?_
          refine jr_aload_n jf_142_82 rfl hl1 ?_
          replace h := obd_of h; obtain ⟨x4, hx4, h⟩ := h
          refine jr_getI jf_142_83 hx4 ?_
          replace h := obd_of h; obtain ⟨μ5, hμ5, h⟩ := h
          refine jr_putI jf_142_86 rfl hμ5 ?_
          refine jr_aload jf_142_89 hl4 ?_
          refine jr_aload_n jf_142_91 rfl hl1 ?_
          replace h := obd_of h; obtain ⟨x6, hx6, h⟩ := h
          refine jr_getI jf_142_92 hx6 ?_
          replace h := obd_of h; obtain ⟨μ7, hμ7, h⟩ := h
          refine jr_putI jf_142_95 rfl hμ7 ?_
          refine jr_aload jf_142_98 hl4 ?_
          obtain ⟨rfl, rfl⟩ := Prod.mk.inj (Option.some.inj h)
          exact jr_retA (x := some _) jf_142_100 jmt_142
        · refine jr_if2_ne_t jf_142_77 hc ?_
          refine jr_aload jf_142_98 hl4 ?_
          obtain ⟨rfl, rfl⟩ := Prod.mk.inj (Option.some.inj h)
          exact jr_retA (x := some _) jf_142_100 jmt_142
      · refine jr_if2_ne_t jf_142_72 hc ?_
        refine jr_aload jf_142_98 hl4 ?_
        obtain ⟨rfl, rfl⟩ := Prod.mk.inj (Option.some.inj h)
        exact jr_retA (x := some _) jf_142_100 jmt_142
    · refine jr_if2_ge_f jf_142_32 hc ?_
      refine jr_aload jf_142_35 hl4 ?_
      refine jr_iload jf_142_37 hl5 ?_
      refine jr_aload_n jf_142_39 rfl hl0 ?_
      refine jr_aload_n jf_142_40 rfl hl1 ?_
      replace h := obd_of h; obtain ⟨x8, hx8, h⟩ := h
      refine jr_getA jf_142_41 hx8 ?_
      refine jr_aload_n jf_142_44 rfl hl1 ?_
      refine jr_iload jf_142_45 hl5 ?_
      replace h := jgd_of h; obtain ⟨hb9, h⟩ := h
      replace h := obd_of h; obtain ⟨x10, hx10, h⟩ := h
      refine jr_V6_1 jf_142_47 hb9 (by omega) (r_Section_factor (by omega) _ _ _ _ hx10) (by simp only [jcats_cons, jcats_nil, cat_int, cat_long, cat_double, cat_float, cat_ref, rv_cat]; decide) jml_28 (Nat.le_of_ble_eq_true rfl) ?_
      refine jr_aload_n jf_142_50 rfl hl1 ?_
      replace h := jgd_of h; obtain ⟨hb11, h⟩ := h
      replace h := obd_of h; obtain ⟨x12, hx12, h⟩ := h
      refine jr_V6_0 jf_142_51 hb11 (by omega) (r_Section_takesWhole (by omega) _ _ _ hx12) (by simp only [jcats_cons, jcats_nil, cat_int, cat_long, cat_double, cat_float, cat_ref, rv_cat]; decide) jml_131 (Nat.le_of_ble_eq_true rfl) ?_
      refine jr_aload_n_A jf_142_54 rfl hl3 ?_
      replace h := jgd_of h; obtain ⟨hb13, h⟩ := h
      replace h := obd_of h; obtain ⟨x14, hx14, h⟩ := h
      refine jr_V6_4 jf_142_55 hb13 (by omega) (r_B_translated (by omega) _ _ _ _ _ _ _ hx14) (Nat.le_of_ble_eq_true rfl) jml_132 (by simp only [jcats_cons, jcats_nil, cat_int, cat_long, cat_double, cat_float, cat_ref, rv_cat]; decide) ?_
      replace h := jgd_of h; obtain ⟨hb15, h⟩ := h
      replace h := obd_of h; obtain ⟨μ16, hμ16, h⟩ := h
      refine jr_V6v_2 jf_142_58 hb15 (by omega) (r_Section_setFactor (by omega) _ _ _ _ _ hμ16) (Nat.le_of_ble_eq_true rfl) jml_20 (Nat.le_of_ble_eq_true rfl) ?_
      refine jr_iinc jf_142_61 jc_i_1 jml_142 (by decide) hl5 ?_
      refine jr_goto jf_142_64 ?_
      exact ih _ _ _ _ _ _ _ _ _ _ (jg1_ne rfl hl0) (jg1_ne rfl hl1) (jg1_ne rfl hl2) (jg1_ne rfl hl3) (jg1_pre (by first | rfl | exact rv_cat _) hl4) jg1_same h
set_option maxRecDepth 10000 in
set_option maxHeartbeats 4000000 in
theorem r_B_remadeSection_e {N B : Nat} {SA : Nat → Nat} {d : Nat} (hd : 5 ≤ d) : ∀ (L : JLoc) (v0 : Nat) (v1 : Option Nat) (v2 : Int32) (v3 : Option Nat) (μ : JMem) (r : Option Nat) (μ9 : JMem), jget L 0 = .ref v0 → jget L 1 = rv v1 → jget L 2 = .int v2 → jget L 3 = rv v3 → g_B_remadeSection N B SA v0 v1 v2 v3 μ = some (r, μ9) → jR B SA d m_B_remadeSection 0 L [] μ (some (rv r)) μ9 := by
  intro L v0 v1 v2 v3 μ r μ9 hl0 hl1 hl2 hl3 h
  unfold g_B_remadeSection at h
  refine jr_aload_n jf_142_0 rfl hl0 ?_
  refine jr_aload_n_A jf_142_1 rfl hl1 ?_
  replace h := obd_of h; obtain ⟨a1, rfl, h⟩ := h
  replace h := obd_of h; obtain ⟨x2, hx2, h⟩ := h
  refine jr_getI jf_142_2 hx2 ?_
  refine jr_iload_n jf_142_5 rfl hl2 ?_
  refine jr_aload_n jf_142_6 rfl hl1 ?_
  replace h := obd_of h; obtain ⟨x3, hx3, h⟩ := h
  refine jr_getI jf_142_7 hx3 ?_
  refine jr_aload_n_A jf_142_10 rfl hl3 ?_
  replace h := jgd_of h; obtain ⟨hb4, h⟩ := h
  replace h := jbd2_of h; obtain ⟨x5, μ6, hx5, h⟩ := h
  refine jr_V6_4 jf_142_11 hb4 (by omega) (r_B_newSection (by omega) _ _ _ _ _ _ _ _ hx5) (Nat.le_of_ble_eq_true rfl) jml_9 (by simp only [jcats_cons, jcats_nil, cat_int, cat_long, cat_double, cat_float, cat_ref, rv_cat]; decide) ?_
  refine jr_astore_A jf_142_14 jml_142 (by decide) ?_
  refine jr_aload_A jf_142_16 jg1_same ?_
  replace h := jon_or h; rcases h with ⟨rfl, h⟩ | ⟨a7, rfl, h⟩
  · refine jr_ifnonnull_n jf_142_18 ?_
    refine jr_aconst_null jf_142_21 ?_
    obtain ⟨rfl, rfl⟩ := Prod.mk.inj (Option.some.inj h)
    exact jr_retA jf_142_22 jmt_142
  · refine jr_ifnonnull_s jf_142_18 ?_
    refine jr_iconst jf_142_23 jc_i_0 ?_
    refine jr_istore jf_142_24 jml_142 (by decide) ?_
    exact r_B_remadeSection_26 hd _ _ _ _ _ _ _ _ _ _ _ (jg1_ne rfl (jg1_ne rfl hl0)) (jg1_ne rfl (jg1_ne rfl hl1)) (jg1_ne rfl (jg1_ne rfl hl2)) (jg1_ne rfl (jg1_pre (by first | rfl | exact rv_cat _) hl3)) (jg1_pre (by first | rfl | exact rv_cat _) jg1_same) jg1_same h
set_option maxRecDepth 10000 in
set_option maxHeartbeats 4000000 in
theorem r_B_remadeSection {N B : Nat} {SA : Nat → Nat} {d : Nat} (hd : 5 ≤ d) : ∀ (v0 : Nat) (v1 : Option Nat) (v2 : Int32) (v3 : Option Nat) (μ : JMem) (r : Option Nat) (μ9 : JMem), g_B_remadeSection N B SA v0 v1 v2 v3 μ = some (r, μ9) → jR B SA d m_B_remadeSection 0 (lv_args 0 [.ref v0, rv v1, .int v2, rv v3]) [] μ (some (rv r)) μ9 := by
  intro v0 v1 v2 v3 μ r μ9 h
  exact r_B_remadeSection_e hd (lv_args 0 _) _ _ _ _ _ _ _ (by simp [lv_args, jget, rv_cat, cat_int, cat_long, cat_double, cat_float, cat_ref]) (by simp [lv_args, jget, rv_cat, cat_int, cat_long, cat_double, cat_float, cat_ref]) (by simp [lv_args, jget, rv_cat, cat_int, cat_long, cat_double, cat_float, cat_ref]) (by simp [lv_args, jget, rv_cat, cat_int, cat_long, cat_double, cat_float, cat_ref]) h
/-! FilterBench.remakeLoops(LFilterBench$Chain;LFilterBench$Chain;LFilterBench$Numbers;)V -/
set_option maxRecDepth 10000 in
set_option maxHeartbeats 4000000 in
theorem r_B_remakeLoops_82 {N B : Nat} {SA : Nat → Nat} {d : Nat} (hd : 5 ≤ d) {k13 : Nat → Nat → Option Nat → Option Nat → Option Nat → Int32 → JMem → Option JMem} (i13 : ∀ (L : JLoc) (v0 : Nat) (v1 : Nat) (v2 : Option Nat) (v3 : Option Nat) (v4 : Option Nat) (v5 : Int32) (μ : JMem) (μ9 : JMem), jget L 0 = .ref v0 → jget L 1 = .ref v1 → jget L 2 = rv v2 → jget L 3 = rv v3 → jget L 4 = rv v4 → jget L 5 = .int v5 → k13 v0 v1 v2 v3 v4 v5 μ = some μ9 → jR B SA d m_B_remakeLoops 13 L [] μ none μ9) : ∀ (L : JLoc) (v0 : Nat) (v1 : Nat) (v2 : Option Nat) (v3 : Option Nat) (v4 : Option Nat) (v5 : Int32) (μ : JMem) (μ9 : JMem), jget L 0 = .ref v0 → jget L 1 = .ref v1 → jget L 2 = rv v2 → jget L 3 = rv v3 → jget L 4 = rv v4 → jget L 5 = .int v5 → g_B_remakeLoops_82 N B k13 v0 v1 v2 v3 v4 v5 μ = some μ9 → jR B SA d m_B_remakeLoops 82 L [] μ none μ9 := by
  intro L v0 v1 v2 v3 v4 v5 μ μ9 hl0 hl1 hl2 hl3 hl4 hl5 h
  unfold g_B_remakeLoops_82 at h
  refine jr_iinc jf_143_82 jc_i_1 jml_143 (by decide) hl5 ?_
  refine jr_goto jf_143_85 ?_
  exact i13 _ _ _ _ _ _ _ _ _ (jg1_ne rfl hl0) (jg1_ne rfl hl1) (jg1_ne rfl hl2) (jg1_ne rfl hl3) (jg1_pre (by first | rfl | exact rv_cat _) hl4) jg1_same h
set_option maxRecDepth 10000 in
set_option maxHeartbeats 4000000 in
theorem r_B_remakeLoops_13 {N B : Nat} {SA : Nat → Nat} {d : Nat} (hd : 5 ≤ d) : ∀ (n : Nat), ∀ (L : JLoc) (v0 : Nat) (v1 : Nat) (v2 : Option Nat) (v3 : Option Nat) (v4 : Option Nat) (v5 : Int32) (μ : JMem) (μ9 : JMem), jget L 0 = .ref v0 → jget L 1 = .ref v1 → jget L 2 = rv v2 → jget L 3 = rv v3 → jget L 4 = rv v4 → jget L 5 = .int v5 → g_B_remakeLoops_13 N B n v0 v1 v2 v3 v4 v5 μ = some μ9 → jR B SA d m_B_remakeLoops 13 L [] μ none μ9 := by
  intro n
  induction n with
  | zero =>
    intro L v0 v1 v2 v3 v4 v5 μ μ9 hl0 hl1 hl2 hl3 hl4 hl5 h
    unfold g_B_remakeLoops_13 at h
    cases h
  | succ n ih =>
    intro L v0 v1 v2 v3 v4 v5 μ μ9 hl0 hl1 hl2 hl3 hl4 hl5 h
    unfold g_B_remakeLoops_13 at h
    refine jr_iload jf_143_13 hl5 ?_
    refine jr_aload_n jf_143_15 rfl hl1 ?_
    replace h := obd_of h; obtain ⟨x1, hx1, h⟩ := h
    refine jr_getI jf_143_16 hx1 ?_
    replace h := ite_or h; rcases h with ⟨hc, h⟩ | ⟨hc, h⟩
    · refine jr_if2_ge_t jf_143_19 hc ?_
      obtain rfl := Option.some.inj h
      exact jr_return jf_143_88 jmt_143
    · refine jr_if2_ge_f jf_143_19 hc ?_
      refine jr_aload_n jf_143_22 rfl hl1 ?_
      refine jr_iload jf_143_23 hl5 ?_
      replace h := jgd_of h; obtain ⟨hb2, h⟩ := h
      replace h := obd_of h; obtain ⟨x3, hx3, h⟩ := h
      refine jr_V6_1 jf_143_25 hb2 (by omega) (r_Chain_loopAt (by omega) _ _ _ _ hx3) (Nat.le_of_ble_eq_true rfl) jml_52 (Nat.le_of_ble_eq_true rfl) ?_
      refine jr_astore_A jf_143_28 jml_143 (by decide) ?_
      refine jr_aload_A jf_143_30 (jg1_ne rfl hl4) ?_
      replace h := jon_or h; rcases h with ⟨rfl, h⟩ | ⟨a4, rfl, h⟩
      · refine jr_ifnull_n jf_143_32 ?_
        exact r_B_remakeLoops_82 hd ih _ _ _ _ _ _ _ _ _ (jg1_ne rfl hl0) (jg1_ne rfl hl1) (jg1_ne rfl hl2) (jg1_ne rfl hl3) (jg1_ne rfl hl4) (jg1_pre rfl hl5) h
      · refine jr_ifnull_s jf_143_32 ?_
        refine jr_aload_A jf_143_35 jg1_same ?_
        replace h := jon_or h; rcases h with ⟨rfl, h⟩ | ⟨a5, rfl, h⟩
        · refine jr_ifnull_n jf_143_37 ?_
          exact r_B_remakeLoops_82 hd ih _ _ _ _ _ (some _) _ _ _ (jg1_ne rfl hl0) (jg1_ne rfl hl1) (jg1_ne rfl hl2) (jg1_ne rfl hl3) (jg1_ne rfl hl4) (jg1_pre rfl hl5) h
        · refine jr_ifnull_s jf_143_37 ?_
          refine jr_aload_n_A jf_143_40 rfl (jg1_ne rfl hl2) ?_
          replace h := jnew_of h
          refine jr_new jf_143_41 ?_
          refine jr_dup jf_143_44 rfl ?_
          refine jr_aload jf_143_45 jg1_same ?_
          replace h := obd_of h; obtain ⟨x8, hx8, h⟩ := h
          refine jr_getI jf_143_47 hx8 ?_
          refine jr_aload jf_143_50 jg1_same ?_
          replace h := obd_of h; obtain ⟨x9, hx9, h⟩ := h
          refine jr_getI jf_143_52 hx9 ?_
          refine jr_aload jf_143_55 jg1_same ?_
          replace h := obd_of h; obtain ⟨x10, hx10, h⟩ := h
          refine jr_getA jf_143_57 hx10 ?_
          replace h := obd_of h; obtain ⟨a11, rfl, h⟩ := h
          replace h := jgd_of h; obtain ⟨hb12, h⟩ := h
          replace h := obd_of h; obtain ⟨x13, hx13, h⟩ := h
          refine jr_V6_0 jf_143_60 hb12 (by omega) (r_Row_size (by omega) _ _ _ hx13) (by simp only [jcats_cons, jcats_nil, cat_int, cat_long, cat_double, cat_float, cat_ref, rv_cat]; decide) jml_91 (Nat.le_of_ble_eq_true rfl) ?_
          refine jr_aload_n jf_143_63 rfl (jg1_ne rfl hl0) ?_
          refine jr_aload jf_143_64 (jg1_ne rfl hl4) ?_
          refine jr_aload jf_143_66 jg1_same ?_
          replace h := obd_of h; obtain ⟨x14, hx14, h⟩ := h
          refine jr_getJ jf_143_68 hx14 ?_
          refine jr_iconst jf_143_71 jc_i_0 ?_
          refine jr_aload_n_A jf_143_72 rfl (jg1_ne rfl hl3) ?_
          replace h := jgd_of h; obtain ⟨hb15, h⟩ := h
          replace h := obd_of h; obtain ⟨x16, hx16, h⟩ := h
          refine jr_V6_4 jf_143_73 hb15 (by omega) (r_B_translated (by omega) _ _ _ _ _ _ _ hx16) (by simp only [jcats_cons, jcats_nil, cat_int, cat_long, cat_double, cat_float, cat_ref, rv_cat]; decide) jml_132 (by simp only [jcats_cons, jcats_nil, cat_int, cat_long, cat_double, cat_float, cat_ref, rv_cat]; decide) ?_
          replace h := obd_of h; obtain ⟨μ17, hμ17, h⟩ := h
          refine jr_P1v_4 jf_143_76 (by omega) (r_Loop_init (by omega) _ _ _ _ _ _ _ hμ17) (by simp only [jcats_cons, jcats_nil, cat_int, cat_long, cat_double, cat_float, cat_ref, rv_cat]; decide) jml_42 (Nat.le_of_ble_eq_true rfl) ?_
          replace h := obd_of h; obtain ⟨a18, rfl, h⟩ := h
          replace h := jgd_of h; obtain ⟨hb19, h⟩ := h
          replace h := obd_of h; obtain ⟨μ20, hμ20, h⟩ := h
          refine jr_V6v_1 jf_143_79 hb19 (by omega) (r_Chain_tie (by omega) _ _ _ _ hμ20) (Nat.le_of_ble_eq_true rfl) jml_43 (by simp only [jcats_cons, jcats_nil, cat_int, cat_long, cat_double, cat_float, cat_ref, rv_cat]; decide) ?_
          exact r_B_remakeLoops_82 hd ih _ _ _ (some _) _ (some _) _ _ _ (jg1_ne rfl hl0) (jg1_ne rfl hl1) (jg1_ne rfl hl2) (jg1_ne rfl hl3) (jg1_ne rfl hl4) (jg1_pre rfl hl5) h
set_option maxRecDepth 10000 in
set_option maxHeartbeats 4000000 in
theorem r_B_remakeLoops_e {N B : Nat} {SA : Nat → Nat} {d : Nat} (hd : 5 ≤ d) : ∀ (L : JLoc) (v0 : Nat) (v1 : Option Nat) (v2 : Option Nat) (v3 : Option Nat) (μ : JMem) (μ9 : JMem), jget L 0 = .ref v0 → jget L 1 = rv v1 → jget L 2 = rv v2 → jget L 3 = rv v3 → g_B_remakeLoops N B v0 v1 v2 v3 μ = some μ9 → jR B SA d m_B_remakeLoops 0 L [] μ none μ9 := by
  intro L v0 v1 v2 v3 μ μ9 hl0 hl1 hl2 hl3 h
  unfold g_B_remakeLoops at h
  refine jr_aload_n jf_143_0 rfl hl0 ?_
  refine jr_aload_n_A jf_143_1 rfl hl1 ?_
  replace h := obd_of h; obtain ⟨a1, rfl, h⟩ := h
  replace h := jgd_of h; obtain ⟨hb2, h⟩ := h
  replace h := obd_of h; obtain ⟨x3, hx3, h⟩ := h
  refine jr_V6_0 jf_143_2 hb2 (by omega) (r_Chain_sort (by omega) _ _ _ hx3) (Nat.le_of_ble_eq_true rfl) jml_34 (Nat.le_of_ble_eq_true rfl) ?_
  replace h := jgd_of h; obtain ⟨hb4, h⟩ := h
  replace h := obd_of h; obtain ⟨x5, hx5, h⟩ := h
  refine jr_V6_1 jf_143_5 hb4 (by omega) (r_B_numbersOf (by omega) _ _ _ _ hx5) (Nat.le_of_ble_eq_true rfl) jml_6 (Nat.le_of_ble_eq_true rfl) ?_
  refine jr_astore_A jf_143_8 jml_143 (by decide) ?_
  refine jr_iconst jf_143_10 jc_i_0 ?_
  refine jr_istore jf_143_11 jml_143 (by decide) ?_
  exact r_B_remakeLoops_13 hd _ _ _ _ _ _ _ _ _ _ (jg1_ne rfl (jg1_ne rfl hl0)) (jg1_ne rfl (jg1_ne rfl hl1)) (jg1_ne rfl (jg1_ne rfl hl2)) (jg1_ne rfl (jg1_pre (by first | rfl | exact rv_cat _) hl3)) (jg1_pre (by first | rfl | exact rv_cat _) jg1_same) jg1_same h
set_option maxRecDepth 10000 in
set_option maxHeartbeats 4000000 in
theorem r_B_remakeLoops {N B : Nat} {SA : Nat → Nat} {d : Nat} (hd : 5 ≤ d) : ∀ (v0 : Nat) (v1 : Option Nat) (v2 : Option Nat) (v3 : Option Nat) (μ : JMem) (μ9 : JMem), g_B_remakeLoops N B v0 v1 v2 v3 μ = some μ9 → jR B SA d m_B_remakeLoops 0 (lv_args 0 [.ref v0, rv v1, rv v2, rv v3]) [] μ none μ9 := by
  intro v0 v1 v2 v3 μ μ9 h
  exact r_B_remakeLoops_e hd (lv_args 0 _) _ _ _ _ _ _ (by simp [lv_args, jget, rv_cat, cat_int, cat_long, cat_double, cat_float, cat_ref]) (by simp [lv_args, jget, rv_cat, cat_int, cat_long, cat_double, cat_float, cat_ref]) (by simp [lv_args, jget, rv_cat, cat_int, cat_long, cat_double, cat_float, cat_ref]) (by simp [lv_args, jget, rv_cat, cat_int, cat_long, cat_double, cat_float, cat_ref]) h
/-! FilterBench.remade(LFilterBench$Chain;ILFilterBench$Numbers;I)LFilterBench$Chain; -/
set_option maxRecDepth 10000 in
set_option maxHeartbeats 4000000 in
theorem r_B_remade_117 {N B : Nat} {SA : Nat → Nat} {d : Nat} (hd : 6 ≤ d) {kS : Nat → Option Nat → Int32 → Option Nat → Int32 → JMem → Option (Option Nat × JMem)} (iS : ∀ (v0 : Nat) (v1 : Option Nat) (v2 : Int32) (v3 : Option Nat) (v4 : Int32) (μ : JMem) (r : Option Nat) (μ9 : JMem), kS v0 v1 v2 v3 v4 μ = some (r, μ9) → jR B SA (d - 1) m_B_remade 0 (lv_args 0 [.ref v0, rv v1, .int v2, rv v3, .int v4]) [] μ (some (rv r)) μ9) {k21 : Nat → Option Nat → Int32 → Option Nat → Int32 → Nat → Int32 → JMem → Option (Option Nat × JMem)} (i21 : ∀ (L : JLoc) (v0 : Nat) (v1 : Option Nat) (v2 : Int32) (v3 : Option Nat) (v4 : Int32) (v5 : Nat) (v6 : Int32) (μ : JMem) (r : Option Nat) (μ9 : JMem), jget L 0 = .ref v0 → jget L 1 = rv v1 → jget L 2 = .int v2 → jget L 3 = rv v3 → jget L 4 = .int v4 → jget L 5 = .ref v5 → jget L 6 = .int v6 → k21 v0 v1 v2 v3 v4 v5 v6 μ = some (r, μ9) → jR B SA d m_B_remade 21 L [] μ (some (rv r)) μ9) : ∀ (L : JLoc) (v0 : Nat) (v1 : Nat) (v2 : Int32) (v3 : Option Nat) (v4 : Int32) (v5 : Nat) (v6 : Int32) (μ : JMem) (r : Option Nat) (μ9 : JMem), jget L 0 = .ref v0 → jget L 1 = .ref v1 → jget L 2 = .int v2 → jget L 3 = rv v3 → jget L 4 = .int v4 → jget L 5 = .ref v5 → jget L 6 = .int v6 → g_B_remade_117 N B SA kS k21 v0 v1 v2 v3 v4 v5 v6 μ = some (r, μ9) → jR B SA d m_B_remade 117 L [] μ (some (rv r)) μ9 := by
  intro L v0 v1 v2 v3 v4 v5 v6 μ r μ9 hl0 hl1 hl2 hl3 hl4 hl5 hl6 h
  unfold g_B_remade_117 at h
  refine jr_iinc jf_141_117 jc_i_1 jml_141 (by decide) hl6 ?_
  refine jr_goto jf_141_120 ?_
  exact i21 _ _ (some _) _ _ _ _ _ _ _ _ (jg1_ne rfl hl0) (jg1_ne rfl hl1) (jg1_ne rfl hl2) (jg1_ne rfl hl3) (jg1_ne rfl hl4) (jg1_pre (by first | rfl | exact rv_cat _) hl5) jg1_same h
set_option maxRecDepth 10000 in
set_option maxHeartbeats 4000000 in
theorem r_B_remade_72 {N B : Nat} {SA : Nat → Nat} {d : Nat} (hd : 6 ≤ d) {kS : Nat → Option Nat → Int32 → Option Nat → Int32 → JMem → Option (Option Nat × JMem)} (iS : ∀ (v0 : Nat) (v1 : Option Nat) (v2 : Int32) (v3 : Option Nat) (v4 : Int32) (μ : JMem) (r : Option Nat) (μ9 : JMem), kS v0 v1 v2 v3 v4 μ = some (r, μ9) → jR B SA (d - 1) m_B_remade 0 (lv_args 0 [.ref v0, rv v1, .int v2, rv v3, .int v4]) [] μ (some (rv r)) μ9) {k21 : Nat → Option Nat → Int32 → Option Nat → Int32 → Nat → Int32 → JMem → Option (Option Nat × JMem)} (i21 : ∀ (L : JLoc) (v0 : Nat) (v1 : Option Nat) (v2 : Int32) (v3 : Option Nat) (v4 : Int32) (v5 : Nat) (v6 : Int32) (μ : JMem) (r : Option Nat) (μ9 : JMem), jget L 0 = .ref v0 → jget L 1 = rv v1 → jget L 2 = .int v2 → jget L 3 = rv v3 → jget L 4 = .int v4 → jget L 5 = .ref v5 → jget L 6 = .int v6 → k21 v0 v1 v2 v3 v4 v5 v6 μ = some (r, μ9) → jR B SA d m_B_remade 21 L [] μ (some (rv r)) μ9) : ∀ (L : JLoc) (v0 : Nat) (v1 : Nat) (v2 : Int32) (v3 : Option Nat) (v4 : Int32) (v5 : Nat) (v6 : Int32) (v7 : Nat) (s0 : Option Nat) (μ : JMem) (r : Option Nat) (μ9 : JMem), jget L 0 = .ref v0 → jget L 1 = .ref v1 → jget L 2 = .int v2 → jget L 3 = rv v3 → jget L 4 = .int v4 → jget L 5 = .ref v5 → jget L 6 = .int v6 → jget L 7 = .ref v7 → g_B_remade_72 N B SA kS k21 v0 v1 v2 v3 v4 v5 v6 v7 s0 μ = some (r, μ9) → jR B SA d m_B_remade 72 L [rv s0] μ (some (rv r)) μ9 := by
  intro L v0 v1 v2 v3 v4 v5 v6 v7 s0 μ r μ9 hl0 hl1 hl2 hl3 hl4 hl5 hl6 hl7 h
  unfold g_B_remade_72 at h
  refine jr_astore_A jf_141_72 jml_141 (by decide) ?_
  refine jr_aload_n jf_141_74 rfl (jg1_ne rfl hl0) ?_
  refine jr_aload jf_141_75 (jg1_pre (by first | rfl | exact rv_cat _) hl7) ?_
  refine jr_iload_n jf_141_77 rfl (jg1_ne rfl hl2) ?_
  refine jr_aload_n_A jf_141_78 rfl (jg1_ne rfl hl3) ?_
  replace h := jgd_of h; obtain ⟨hb1, h⟩ := h
  replace h := jbd2_of h; obtain ⟨x2, μ3, hx2, h⟩ := h
  refine jr_V6_3 jf_141_79 hb1 (by omega) (r_B_remadeSection (by omega) _ _ _ _ _ _ _ hx2) (Nat.le_of_ble_eq_true rfl) jml_142 (by simp only [jcats_cons, jcats_nil, cat_int, cat_long, cat_double, cat_float, cat_ref, rv_cat]; decide) ?_
  refine jr_astore_A jf_141_82 jml_141 (by decide) ?_
  refine jr_aload_A jf_141_84 jg1_same ?_
  replace h := jon_or h; rcases h with ⟨rfl, h⟩ | ⟨a4, rfl, h⟩
  · refine jr_ifnonnull_n jf_141_86 ?_
    refine jr_aconst_null jf_141_89 ?_
    obtain ⟨rfl, rfl⟩ := Prod.mk.inj (Option.some.inj h)
    exact jr_retA jf_141_90 jmt_141
  · refine jr_ifnonnull_s jf_141_86 ?_
    refine jr_aload jf_141_91 (jg1_ne rfl (jg1_ne rfl hl5)) ?_
    refine jr_aload jf_141_93 jg1_same ?_
    replace h := jgd_of h; obtain ⟨hb5, h⟩ := h
    replace h := obd_of h; obtain ⟨μ6, hμ6, h⟩ := h
    refine jr_V6v_1 jf_141_95 hb5 (by omega) (r_Chain_join (by omega) _ _ _ _ hμ6) (Nat.le_of_ble_eq_true rfl) jml_38 (by simp only [jcats_cons, jcats_nil, cat_int, cat_long, cat_double, cat_float, cat_ref, rv_cat]; decide) ?_
    refine jr_aload_A jf_141_98 (jg1_pre (by first | rfl | exact rv_cat _) jg1_same) ?_
    replace h := jon_or h; rcases h with ⟨rfl, h⟩ | ⟨a7, rfl, h⟩
    · refine jr_ifnull_n jf_141_100 ?_
      exact r_B_remade_117 hd iS i21 _ _ _ _ _ _ _ _ _ _ _ (jg1_ne rfl (jg1_ne rfl hl0)) (jg1_ne rfl (jg1_ne rfl hl1)) (jg1_ne rfl (jg1_ne rfl hl2)) (jg1_ne rfl (jg1_ne rfl hl3)) (jg1_ne rfl (jg1_ne rfl hl4)) (jg1_ne rfl (jg1_ne rfl hl5)) (jg1_ne rfl (jg1_ne rfl hl6)) h
    · refine jr_ifnull_s jf_141_100 ?_
      refine jr_aload jf_141_103 jg1_same ?_
      refine jr_aload jf_141_105 (jg1_pre (by first | rfl | exact rv_cat _) jg1_same) ?_
      replace h := obd_of h; obtain ⟨μ8, hμ8, h⟩ := h
      refine jr_putA (x := some _) jf_141_107 rfl hμ8 ?_
      refine jr_aload jf_141_110 (jg1_pre (by first | rfl | exact rv_cat _) jg1_same) ?_
      refine jr_aload jf_141_112 jg1_same ?_
      replace h := obd_of h; obtain ⟨μ9, hμ9, h⟩ := h
      refine jr_putA (x := some _) jf_141_114 rfl hμ9 ?_
      exact r_B_remade_117 hd iS i21 _ _ _ _ _ _ _ _ _ _ _ (jg1_ne rfl (jg1_ne rfl hl0)) (jg1_ne rfl (jg1_ne rfl hl1)) (jg1_ne rfl (jg1_ne rfl hl2)) (jg1_ne rfl (jg1_ne rfl hl3)) (jg1_ne rfl (jg1_ne rfl hl4)) (jg1_ne rfl (jg1_ne rfl hl5)) (jg1_ne rfl (jg1_ne rfl hl6)) h
set_option maxRecDepth 10000 in
set_option maxHeartbeats 4000000 in
theorem r_B_remade_21 {N B : Nat} {SA : Nat → Nat} {d : Nat} (hd : 6 ≤ d) {kS : Nat → Option Nat → Int32 → Option Nat → Int32 → JMem → Option (Option Nat × JMem)} (iS : ∀ (v0 : Nat) (v1 : Option Nat) (v2 : Int32) (v3 : Option Nat) (v4 : Int32) (μ : JMem) (r : Option Nat) (μ9 : JMem), kS v0 v1 v2 v3 v4 μ = some (r, μ9) → jR B SA (d - 1) m_B_remade 0 (lv_args 0 [.ref v0, rv v1, .int v2, rv v3, .int v4]) [] μ (some (rv r)) μ9) : ∀ (n : Nat), ∀ (L : JLoc) (v0 : Nat) (v1 : Option Nat) (v2 : Int32) (v3 : Option Nat) (v4 : Int32) (v5 : Nat) (v6 : Int32) (μ : JMem) (r : Option Nat) (μ9 : JMem), jget L 0 = .ref v0 → jget L 1 = rv v1 → jget L 2 = .int v2 → jget L 3 = rv v3 → jget L 4 = .int v4 → jget L 5 = .ref v5 → jget L 6 = .int v6 → g_B_remade_21 N B SA kS n v0 v1 v2 v3 v4 v5 v6 μ = some (r, μ9) → jR B SA d m_B_remade 21 L [] μ (some (rv r)) μ9 := by
  intro n
  induction n with
  | zero =>
    intro L v0 v1 v2 v3 v4 v5 v6 μ r μ9 hl0 hl1 hl2 hl3 hl4 hl5 hl6 h
    unfold g_B_remade_21 at h
    cases h
  | succ n ih =>
    intro L v0 v1 v2 v3 v4 v5 v6 μ r μ9 hl0 hl1 hl2 hl3 hl4 hl5 hl6 h
    unfold g_B_remade_21 at h
    refine jr_iload jf_141_21 hl6 ?_
    refine jr_aload_n_A jf_141_23 rfl hl1 ?_
    replace h := obd_of h; obtain ⟨a1, rfl, h⟩ := h
    replace h := obd_of h; obtain ⟨x2, hx2, h⟩ := h
    refine jr_getI jf_141_24 hx2 ?_
    replace h := ite_or h; rcases h with ⟨hc, h⟩ | ⟨hc, h⟩
    · refine jr_if2_ge_t jf_141_27 hc ?_
      refine jr_aload_n jf_141_123 rfl hl0 ?_
      refine jr_aload_n jf_141_124 rfl hl1 ?_
      refine jr_aload jf_141_125 hl5 ?_
      refine jr_aload_n_A jf_141_127 rfl hl3 ?_
      replace h := jgd_of h; obtain ⟨hb3, h⟩ := h
      replace h := obd_of h; obtain ⟨μ4, hμ4, h⟩ := h
      refine jr_V6v_3 jf_141_128 hb3 (by omega) (r_B_remakeLoops (by omega) _ _ _ _ _ _ hμ4) (Nat.le_of_ble_eq_true rfl) jml_143 (by simp only [jcats_cons, jcats_nil, cat_int, cat_long, cat_double, cat_float, cat_ref, rv_cat]; decide) ?_
      refine jr_aload_n jf_141_131 rfl hl0 ?_
      refine jr_aload jf_141_132 hl5 ?_
      replace h := jgd_of h; obtain ⟨hb5, h⟩ := h
      replace h := jbd2_of h; obtain ⟨x6, μ7, hx6, h⟩ := h
      refine jr_V6_1 jf_141_134 hb5 (by omega) (r_B_registered (by omega) _ _ _ _ _ hx6) (Nat.le_of_ble_eq_true rfl) jml_31 (by simp only [jcats_cons, jcats_nil, cat_int, cat_long, cat_double, cat_float, cat_ref, rv_cat]; decide) ?_
      refine jr_pop jf_141_137 rfl ?_
      refine jr_aload jf_141_138 hl5 ?_
      obtain ⟨rfl, rfl⟩ := Prod.mk.inj (Option.some.inj h)
      exact jr_retA (x := some _) jf_141_140 jmt_141
    · refine jr_if2_ge_f jf_141_27 hc ?_
      refine jr_aload_n jf_141_30 rfl hl1 ?_
      refine jr_iload jf_141_31 hl6 ?_
      replace h := jgd_of h; obtain ⟨hb8, h⟩ := h
      replace h := obd_of h; obtain ⟨x9, hx9, h⟩ := h
      refine jr_V6_1 jf_141_33 hb8 (by omega) (r_Chain_memberAt (by omega) _ _ _ _ hx9) (Nat.le_of_ble_eq_true rfl) jml_35 (Nat.le_of_ble_eq_true rfl) ?_
      refine jr_astore_A jf_141_36 jml_141 (by decide) ?_
      refine jr_aload_A jf_141_38 jg1_same ?_
      replace h := jon_or h; rcases h with ⟨rfl, h⟩ | ⟨a10, rfl, h⟩
      · refine jr_ifnonnull_n jf_141_40 ?_
        refine jr_aconst_null jf_141_43 ?_
        obtain ⟨rfl, rfl⟩ := Prod.mk.inj (Option.some.inj h)
        exact jr_retA jf_141_44 jmt_141
      · refine jr_ifnonnull_s jf_141_40 ?_
        refine jr_aload jf_141_45 jg1_same ?_
        replace h := obd_of h; obtain ⟨x11, hx11, h⟩ := h
        refine jr_getA jf_141_47 hx11 ?_
        replace h := jon_or h; rcases h with ⟨rfl, h⟩ | ⟨a12, rfl, h⟩
        · refine jr_ifnonnull_n jf_141_50 ?_
          refine jr_aconst_null jf_141_53 ?_
          refine jr_goto jf_141_54 ?_
          exact r_B_remade_72 hd iS ih _ _ _ _ _ _ _ _ _ _ _ _ _ (jg1_ne rfl hl0) (jg1_ne rfl hl1) (jg1_ne rfl hl2) (jg1_ne rfl hl3) (jg1_ne rfl hl4) (jg1_ne rfl hl5) (jg1_pre rfl hl6) jg1_same h
        · refine jr_ifnonnull_s jf_141_50 ?_
          refine jr_aload_n jf_141_57 rfl (jg1_ne rfl hl0) ?_
          refine jr_aload jf_141_58 jg1_same ?_
          replace h := obd_of h; obtain ⟨x13, hx13, h⟩ := h
          refine jr_getA jf_141_60 hx13 ?_
          refine jr_iload_n jf_141_63 rfl (jg1_ne rfl hl2) ?_
          refine jr_aload_n_A jf_141_64 rfl (jg1_ne rfl hl3) ?_
          refine jr_iload jf_141_65 (jg1_ne rfl hl4) ?_
          refine jr_iconst jf_141_67 jc_i_1 ?_
          refine jr_iadd jf_141_68 ?_
          replace h := jgd_of h; obtain ⟨hb14, h⟩ := h
          replace h := jbd2_of h; obtain ⟨x15, μ16, hx15, h⟩ := h
          refine jr_V6_4 jf_141_69 hb14 (by omega) (iS _ _ _ _ _ _ _ _ hx15) (Nat.le_of_ble_eq_true rfl) jml_141 (by simp only [jcats_cons, jcats_nil, cat_int, cat_long, cat_double, cat_float, cat_ref, rv_cat]; decide) ?_
          exact r_B_remade_72 hd iS ih _ _ _ _ _ _ _ _ _ _ _ _ _ (jg1_ne rfl hl0) (jg1_ne rfl hl1) (jg1_ne rfl hl2) (jg1_ne rfl hl3) (jg1_ne rfl hl4) (jg1_ne rfl hl5) (jg1_pre rfl hl6) jg1_same h
set_option maxRecDepth 10000 in
set_option maxHeartbeats 4000000 in
theorem r_B_remade_b {N B : Nat} {SA : Nat → Nat} {d : Nat} (hd : 6 ≤ d) {kS : Nat → Option Nat → Int32 → Option Nat → Int32 → JMem → Option (Option Nat × JMem)} (iS : ∀ (v0 : Nat) (v1 : Option Nat) (v2 : Int32) (v3 : Option Nat) (v4 : Int32) (μ : JMem) (r : Option Nat) (μ9 : JMem), kS v0 v1 v2 v3 v4 μ = some (r, μ9) → jR B SA (d - 1) m_B_remade 0 (lv_args 0 [.ref v0, rv v1, .int v2, rv v3, .int v4]) [] μ (some (rv r)) μ9) : ∀ (L : JLoc) (v0 : Nat) (v1 : Option Nat) (v2 : Int32) (v3 : Option Nat) (v4 : Int32) (μ : JMem) (r : Option Nat) (μ9 : JMem), jget L 0 = .ref v0 → jget L 1 = rv v1 → jget L 2 = .int v2 → jget L 3 = rv v3 → jget L 4 = .int v4 → g_B_remade_b N B SA kS v0 v1 v2 v3 v4 μ = some (r, μ9) → jR B SA d m_B_remade 0 L [] μ (some (rv r)) μ9 := by
  intro L v0 v1 v2 v3 v4 μ r μ9 hl0 hl1 hl2 hl3 hl4 h
  unfold g_B_remade_b at h
  refine jr_iload jf_141_0 hl4 ?_
  refine jr_bipush jf_141_2 jc_b_30 ?_
  replace h := ite_or h; rcases h with ⟨hc, h⟩ | ⟨hc, h⟩
  · refine jr_if2_le_t jf_141_4 hc ?_
    replace h := jnew_of h
    refine jr_new jf_141_9 ?_
    refine jr_dup jf_141_12 rfl ?_
    replace h := obd_of h; obtain ⟨μ3, hμ3, h⟩ := h
    refine jr_P2v_0 jf_141_13 (by omega) (r_Chain_init (by omega) _ _ _ hμ3) (Nat.le_of_ble_eq_true rfl) jml_30 (Nat.le_of_ble_eq_true rfl) ?_
    refine jr_astore jf_141_16 jml_141 (by decide) ?_
    refine jr_iconst jf_141_18 jc_i_0 ?_
    refine jr_istore jf_141_19 jml_141 (by decide) ?_
    exact r_B_remade_21 hd iS _ _ _ _ _ _ _ _ _ _ _ _ (jg1_ne rfl (jg1_ne rfl hl0)) (jg1_ne rfl (jg1_ne rfl hl1)) (jg1_ne rfl (jg1_ne rfl hl2)) (jg1_ne rfl (jg1_ne rfl hl3)) (jg1_ne rfl (jg1_pre rfl hl4)) (jg1_pre (by first | rfl | exact rv_cat _) jg1_same) jg1_same h
  · refine jr_if2_le_f jf_141_4 hc ?_
    refine jr_aconst_null jf_141_7 ?_
    obtain ⟨rfl, rfl⟩ := Prod.mk.inj (Option.some.inj h)
    exact jr_retA jf_141_8 jmt_141
set_option maxRecDepth 10000 in
set_option maxHeartbeats 4000000 in
theorem r_B_remade {N B : Nat} {SA : Nat → Nat} : ∀ (n d : Nat), n + 6 ≤ d → ∀ (v0 : Nat) (v1 : Option Nat) (v2 : Int32) (v3 : Option Nat) (v4 : Int32) (μ : JMem) (r : Option Nat) (μ9 : JMem), g_B_remade N B SA n v0 v1 v2 v3 v4 μ = some (r, μ9) → jR B SA d m_B_remade 0 (lv_args 0 [.ref v0, rv v1, .int v2, rv v3, .int v4]) [] μ (some (rv r)) μ9 := by
  intro n
  induction n with
  | zero =>
    intro d hd v0 v1 v2 v3 v4 μ r μ9 h
    unfold g_B_remade at h
    cases h
  | succ n ih =>
    intro d hd v0 v1 v2 v3 v4 μ r μ9 h
    unfold g_B_remade at h
    exact r_B_remade_b (by omega) (ih (d - 1) (by omega)) (lv_args 0 _) _ _ _ _ _ _ _ _ (by simp [lv_args, jget, rv_cat, cat_int, cat_long, cat_double, cat_float, cat_ref]) (by simp [lv_args, jget, rv_cat, cat_int, cat_long, cat_double, cat_float, cat_ref]) (by simp [lv_args, jget, rv_cat, cat_int, cat_long, cat_double, cat_float, cat_ref]) (by simp [lv_args, jget, rv_cat, cat_int, cat_long, cat_double, cat_float, cat_ref]) (by simp [lv_args, jget, rv_cat, cat_int, cat_long, cat_double, cat_float, cat_ref]) h
/-! FilterBench.convert(II)I -/
set_option maxRecDepth 10000 in
set_option maxHeartbeats 4000000 in
theorem r_B_convert_e {N M B : Nat} {SA : Nat → Nat} {d : Nat} (hd : M + 7 ≤ d) : ∀ (L : JLoc) (v0 : Nat) (v1 : Int32) (v2 : Int32) (μ : JMem) (r : Int32) (μ9 : JMem), jget L 0 = .ref v0 → jget L 1 = .int v1 → jget L 2 = .int v2 → g_B_convert N M B SA v0 v1 v2 μ = some (r, μ9) → jR B SA d m_B_convert 0 L [] μ (some (.int r)) μ9 := by
  intro L v0 v1 v2 μ r μ9 hl0 hl1 hl2 h
  unfold g_B_convert at h
  refine jr_aload_n jf_127_0 rfl hl0 ?_
  refine jr_iload_n jf_127_1 rfl hl1 ?_
  replace h := jgd_of h; obtain ⟨hb1, h⟩ := h
  replace h := obd_of h; obtain ⟨x2, hx2, h⟩ := h
  refine jr_V6_1 jf_127_2 hb1 (by omega) (r_B_fedAlone (by omega) _ _ _ _ hx2) (Nat.le_of_ble_eq_true rfl) jml_47 (Nat.le_of_ble_eq_true rfl) ?_
  refine jr_astore_n_A jf_127_5 rfl jml_127 (by decide) ?_
  refine jr_aload_n jf_127_6 rfl (jg1_ne rfl hl0) ?_
  refine jr_iload_n jf_127_7 rfl (jg1_pre rfl hl2) ?_
  replace h := jgd_of h; obtain ⟨hb3, h⟩ := h
  replace h := obd_of h; obtain ⟨x4, hx4, h⟩ := h
  refine jr_V6_1 jf_127_8 hb3 (by omega) (r_B_numbersOf (by omega) _ _ _ _ hx4) (Nat.le_of_ble_eq_true rfl) jml_6 (Nat.le_of_ble_eq_true rfl) ?_
  refine jr_astore_A jf_127_11 jml_127 (by decide) ?_
  refine jr_aload_n_A jf_127_13 rfl (jg1_pre (by first | rfl | exact rv_cat _) jg1_same) ?_
  replace h := jon_or h; rcases h with ⟨rfl, h⟩ | ⟨a5, rfl, h⟩
  · refine jr_ifnull_n jf_127_14 ?_
    refine jr_iconst jf_127_32 jc_i_m1 ?_
    obtain ⟨rfl, rfl⟩ := Prod.mk.inj (Option.some.inj h)
    exact jr_retI jf_127_33 jmt_127
  · refine jr_ifnull_s jf_127_14 ?_
    refine jr_aload_A jf_127_17 jg1_same ?_
    replace h := jon_or h; rcases h with ⟨rfl, h⟩ | ⟨a6, rfl, h⟩
    · refine jr_ifnull_n jf_127_19 ?_
      refine jr_iconst jf_127_32 jc_i_m1 ?_
      obtain ⟨rfl, rfl⟩ := Prod.mk.inj (Option.some.inj h)
      exact jr_retI jf_127_33 jmt_127
    · refine jr_ifnull_s jf_127_19 ?_
      refine jr_aload_n jf_127_22 rfl (jg1_ne rfl (jg1_ne rfl hl0)) ?_
      refine jr_aload_n jf_127_23 rfl (jg1_pre (by first | rfl | exact rv_cat _) jg1_same) ?_
      refine jr_aload jf_127_24 jg1_same ?_
      replace h := jgd_of h; obtain ⟨hb7, h⟩ := h
      replace h := jbd2_of h; obtain ⟨x8, μ9, hx8, h⟩ := h
      refine jr_V6_2 jf_127_26 hb7 (by omega) (r_B_canRemake (by omega) _ _ _ _ _ _ hx8) (Nat.le_of_ble_eq_true rfl) jml_128 (by simp only [jcats_cons, jcats_nil, cat_int, cat_long, cat_double, cat_float, cat_ref, rv_cat]; decide) ?_
      replace h := ite_or h; rcases h with ⟨hc, h⟩ | ⟨hc, h⟩
      · refine jr_ifz_ne_t jf_127_29 hc ?_
        refine jr_aload_n jf_127_34 rfl (jg1_ne rfl (jg1_ne rfl hl0)) ?_
        refine jr_aload_n jf_127_35 rfl (jg1_pre (by first | rfl | exact rv_cat _) jg1_same) ?_
        refine jr_iload_n jf_127_36 rfl (jg1_ne rfl (jg1_pre rfl hl2)) ?_
        refine jr_aload jf_127_37 jg1_same ?_
        refine jr_iconst jf_127_39 jc_i_0 ?_
        replace h := jgd_of h; obtain ⟨hb10, h⟩ := h
        replace h := jbd2_of h; obtain ⟨x11, μ12, hx11, h⟩ := h
        refine jr_V6_4 jf_127_40 hb10 (by omega) (r_B_remade M _ (by omega) _ _ _ _ _ _ _ _ hx11) (Nat.le_of_ble_eq_true rfl) jml_141 (by simp only [jcats_cons, jcats_nil, cat_int, cat_long, cat_double, cat_float, cat_ref, rv_cat]; decide) ?_
        replace h := obd_of h; obtain ⟨x13, hx13, h⟩ := h
        refine jr_S3_1 jf_127_43 (by omega) (r_B_numberOf (by omega) _ _ _ hx13) (Nat.le_of_ble_eq_true rfl) jml_26 (by simp only [jcats_cons, jcats_nil, cat_int, cat_long, cat_double, cat_float, cat_ref, rv_cat]; decide) ?_
        obtain ⟨rfl, rfl⟩ := Prod.mk.inj (Option.some.inj h)
        exact jr_retI jf_127_46 jmt_127
      · refine jr_ifz_ne_f jf_127_29 hc ?_
        refine jr_iconst jf_127_32 jc_i_m1 ?_
        obtain ⟨rfl, rfl⟩ := Prod.mk.inj (Option.some.inj h)
        exact jr_retI jf_127_33 jmt_127
set_option maxRecDepth 10000 in
set_option maxHeartbeats 4000000 in
theorem r_B_convert {N M B : Nat} {SA : Nat → Nat} {d : Nat} (hd : M + 7 ≤ d) : ∀ (v0 : Nat) (v1 : Int32) (v2 : Int32) (μ : JMem) (r : Int32) (μ9 : JMem), g_B_convert N M B SA v0 v1 v2 μ = some (r, μ9) → jR B SA d m_B_convert 0 (lv_args 0 [.ref v0, .int v1, .int v2]) [] μ (some (.int r)) μ9 := by
  intro v0 v1 v2 μ r μ9 h
  exact r_B_convert_e hd (lv_args 0 _) _ _ _ _ _ _ (by simp [lv_args, jget, rv_cat, cat_int, cat_long, cat_double, cat_float, cat_ref]) (by simp [lv_args, jget, rv_cat, cat_int, cat_long, cat_double, cat_float, cat_ref]) (by simp [lv_args, jget, rv_cat, cat_int, cat_long, cat_double, cat_float, cat_ref]) h
/-! FilterBenchLaw.fit(JI)J -/
set_option maxRecDepth 10000 in
set_option maxHeartbeats 4000000 in
theorem r_L_fit_18 {B : Nat} {SA : Nat → Nat} {d : Nat} (hd : 0 ≤ d) : ∀ (L : JLoc) (v0 : Int64) (v2 : Int32) (μ : JMem) (r : Int64), jget L 0 = .long v0 → jget L 2 = .int v2 → g_L_fit_18 v0 v2 = r → jR B SA d m_L_fit 18 L [] μ (some (.long r)) μ := by
  intro L v0 v2 μ r hl0 hl2 h
  unfold g_L_fit_18 at h
  refine jr_iload_n jf_144_18 rfl hl2 ?_
  refine jr_iconst jf_144_19 jc_i_1 ?_
  replace h := ite_or h; rcases h with ⟨hc, h⟩ | ⟨hc, h⟩
  · refine jr_if2_ne_f jf_144_20 hc ?_
    refine jr_lload_n jf_144_23 rfl hl0 ?_
    refine jr_l2i jf_144_24 ?_
    refine jr_i2s jf_144_25 ?_
    refine jr_i2l jf_144_26 ?_
    refine jr_goto jf_144_27 ?_
    subst h
    exact jr_retJ jf_144_45 jmt_144
  · refine jr_if2_ne_t jf_144_20 hc ?_
    refine jr_lload_n jf_144_30 rfl hl0 ?_
    refine jr_lconst0 jf_144_31 ?_
    refine jr_lcmp jf_144_32 ?_
    replace h := ite_or h; rcases h with ⟨hc, h⟩ | ⟨hc, h⟩
    · refine jr_ifl_le_t jf_144_33 hc ?_
      refine jr_ldc2l jf_144_42 ?_
      subst h
      exact jr_retJ jf_144_45 jmt_144
    · refine jr_ifl_le_f jf_144_33 hc ?_
      refine jr_ldc2l jf_144_36 ?_
      refine jr_goto jf_144_39 ?_
      subst h
      exact jr_retJ jf_144_45 jmt_144
set_option maxRecDepth 10000 in
set_option maxHeartbeats 4000000 in
theorem r_L_fit_e {B : Nat} {SA : Nat → Nat} {d : Nat} (hd : 0 ≤ d) : ∀ (L : JLoc) (v0 : Int64) (v2 : Int32) (μ : JMem) (r : Int64), jget L 0 = .long v0 → jget L 2 = .int v2 → g_L_fit v0 v2 = r → jR B SA d m_L_fit 0 L [] μ (some (.long r)) μ := by
  intro L v0 v2 μ r hl0 hl2 h
  unfold g_L_fit at h
  refine jr_lload_n jf_144_0 rfl hl0 ?_
  refine jr_ldc2l jf_144_1 ?_
  refine jr_lcmp jf_144_4 ?_
  replace h := ite_or h; rcases h with ⟨hc, h⟩ | ⟨hc, h⟩
  · refine jr_ifl_lt_t jf_144_5 hc ?_
    exact r_L_fit_18 hd _ _ _ _ _ hl0 hl2 h
  · refine jr_ifl_lt_f jf_144_5 hc ?_
    refine jr_lload_n jf_144_8 rfl hl0 ?_
    refine jr_ldc2l jf_144_9 ?_
    refine jr_lcmp jf_144_12 ?_
    replace h := ite_or h; rcases h with ⟨hc, h⟩ | ⟨hc, h⟩
    · refine jr_ifl_gt_t jf_144_13 hc ?_
      exact r_L_fit_18 hd _ _ _ _ _ hl0 hl2 h
    · refine jr_ifl_gt_f jf_144_13 hc ?_
      refine jr_lload_n jf_144_16 rfl hl0 ?_
      subst h
      exact jr_retJ jf_144_17 jmt_144
set_option maxRecDepth 10000 in
set_option maxHeartbeats 4000000 in
theorem r_L_fit {B : Nat} {SA : Nat → Nat} {d : Nat} (hd : 0 ≤ d) : ∀ (v0 : Int64) (v2 : Int32) (μ : JMem) (r : Int64), g_L_fit v0 v2 = r → jR B SA d m_L_fit 0 (lv_args 0 [.long v0, .int v2]) [] μ (some (.long r)) μ := by
  intro v0 v2 μ r h
  exact r_L_fit_e hd (lv_args 0 _) _ _ _ _ (by simp [lv_args, jget, rv_cat, cat_int, cat_long, cat_double, cat_float, cat_ref]) (by simp [lv_args, jget, rv_cat, cat_int, cat_long, cat_double, cat_float, cat_ref]) h
/-! FilterBenchLaw.law([I)Z -/
set_option maxRecDepth 10000 in
set_option maxHeartbeats 4000000 in
theorem r_L_law_365 {N M B : Nat} {SA : Nat → Nat} {d : Nat} (hd : M + 8 ≤ d) {k94 : Nat → Nat → Int32 → Nat → Nat → Nat → Nat → Nat → Nat → Bool → Int32 → JMem → Option (Bool × JMem)} (i94 : ∀ (L : JLoc) (v1 : Nat) (v2 : Nat) (v3 : Int32) (v4 : Nat) (v5 : Nat) (v6 : Nat) (v7 : Nat) (v8 : Nat) (v9 : Nat) (v10 : Bool) (v11 : Int32) (μ : JMem) (r : Bool) (μ9 : JMem), jget L 1 = .ref v1 → jget L 2 = .ref v2 → jget L 3 = .int v3 → jget L 4 = .ref v4 → jget L 5 = .ref v5 → jget L 6 = .ref v6 → jget L 7 = .ref v7 → jget L 8 = .ref v8 → jget L 9 = .ref v9 → jget L 10 = .int (jb v10) → jget L 11 = .int v11 → k94 v1 v2 v3 v4 v5 v6 v7 v8 v9 v10 v11 μ = some (r, μ9) → jR B SA d m_L_law 94 L [] μ (some (.int (jb r))) μ9) : ∀ (L : JLoc) (v1 : Nat) (v2 : Nat) (v3 : Int32) (v4 : Nat) (v5 : Nat) (v6 : Nat) (v7 : Nat) (v8 : Nat) (v9 : Nat) (v10 : Bool) (v11 : Int32) (μ : JMem) (r : Bool) (μ9 : JMem), jget L 1 = .ref v1 → jget L 2 = .ref v2 → jget L 3 = .int v3 → jget L 4 = .ref v4 → jget L 5 = .ref v5 → jget L 6 = .ref v6 → jget L 7 = .ref v7 → jget L 8 = .ref v8 → jget L 9 = .ref v9 → jget L 10 = .int (jb v10) → jget L 11 = .int v11 → g_L_law_365 N M B SA k94 v1 v2 v3 v4 v5 v6 v7 v8 v9 v10 v11 μ = some (r, μ9) → jR B SA d m_L_law 365 L [] μ (some (.int (jb r))) μ9 := by
  intro L v1 v2 v3 v4 v5 v6 v7 v8 v9 v10 v11 μ r μ9 hl1 hl2 hl3 hl4 hl5 hl6 hl7 hl8 hl9 hl10 hl11 h
  unfold g_L_law_365 at h
  refine jr_iinc jf_145_365 jc_i_1 jml_145 (by decide) hl11 ?_
  refine jr_goto jf_145_368 ?_
  exact i94 _ _ _ _ _ _ _ _ _ _ _ _ _ _ _ (jg1_ne rfl hl1) (jg1_ne rfl hl2) (jg1_ne rfl hl3) (jg1_ne rfl hl4) (jg1_ne rfl hl5) (jg1_ne rfl hl6) (jg1_ne rfl hl7) (jg1_ne rfl hl8) (jg1_ne rfl hl9) (jg1_pre rfl hl10) jg1_same h
set_option maxRecDepth 10000 in
set_option maxHeartbeats 4000000 in
theorem r_L_law_363 {N M B : Nat} {SA : Nat → Nat} {d : Nat} (hd : M + 8 ≤ d) {k94 : Nat → Nat → Int32 → Nat → Nat → Nat → Nat → Nat → Nat → Bool → Int32 → JMem → Option (Bool × JMem)} (i94 : ∀ (L : JLoc) (v1 : Nat) (v2 : Nat) (v3 : Int32) (v4 : Nat) (v5 : Nat) (v6 : Nat) (v7 : Nat) (v8 : Nat) (v9 : Nat) (v10 : Bool) (v11 : Int32) (μ : JMem) (r : Bool) (μ9 : JMem), jget L 1 = .ref v1 → jget L 2 = .ref v2 → jget L 3 = .int v3 → jget L 4 = .ref v4 → jget L 5 = .ref v5 → jget L 6 = .ref v6 → jget L 7 = .ref v7 → jget L 8 = .ref v8 → jget L 9 = .ref v9 → jget L 10 = .int (jb v10) → jget L 11 = .int v11 → k94 v1 v2 v3 v4 v5 v6 v7 v8 v9 v10 v11 μ = some (r, μ9) → jR B SA d m_L_law 94 L [] μ (some (.int (jb r))) μ9) : ∀ (L : JLoc) (v1 : Nat) (v2 : Nat) (v3 : Int32) (v4 : Nat) (v5 : Nat) (v6 : Nat) (v7 : Nat) (v8 : Nat) (v9 : Nat) (v11 : Int32) (s0 : Bool) (μ : JMem) (r : Bool) (μ9 : JMem), jget L 1 = .ref v1 → jget L 2 = .ref v2 → jget L 3 = .int v3 → jget L 4 = .ref v4 → jget L 5 = .ref v5 → jget L 6 = .ref v6 → jget L 7 = .ref v7 → jget L 8 = .ref v8 → jget L 9 = .ref v9 → jget L 11 = .int v11 → g_L_law_363 N M B SA k94 v1 v2 v3 v4 v5 v6 v7 v8 v9 v11 s0 μ = some (r, μ9) → jR B SA d m_L_law 363 L [.int (jb s0)] μ (some (.int (jb r))) μ9 := by
  intro L v1 v2 v3 v4 v5 v6 v7 v8 v9 v11 s0 μ r μ9 hl1 hl2 hl3 hl4 hl5 hl6 hl7 hl8 hl9 hl11 h
  unfold g_L_law_363 at h
  refine jr_istore jf_145_363 jml_145 (by decide) ?_
  exact r_L_law_365 hd i94 _ _ _ _ _ _ _ _ _ _ _ _ _ _ _ (jg1_ne rfl hl1) (jg1_ne rfl hl2) (jg1_ne rfl hl3) (jg1_ne rfl hl4) (jg1_ne rfl hl5) (jg1_ne rfl hl6) (jg1_ne rfl hl7) (jg1_ne rfl hl8) (jg1_pre (by first | rfl | exact rv_cat _) hl9) jg1_same (jg1_ne rfl hl11) h
set_option maxRecDepth 10000 in
set_option maxHeartbeats 4000000 in
theorem r_L_law_362 {N M B : Nat} {SA : Nat → Nat} {d : Nat} (hd : M + 8 ≤ d) {k94 : Nat → Nat → Int32 → Nat → Nat → Nat → Nat → Nat → Nat → Bool → Int32 → JMem → Option (Bool × JMem)} (i94 : ∀ (L : JLoc) (v1 : Nat) (v2 : Nat) (v3 : Int32) (v4 : Nat) (v5 : Nat) (v6 : Nat) (v7 : Nat) (v8 : Nat) (v9 : Nat) (v10 : Bool) (v11 : Int32) (μ : JMem) (r : Bool) (μ9 : JMem), jget L 1 = .ref v1 → jget L 2 = .ref v2 → jget L 3 = .int v3 → jget L 4 = .ref v4 → jget L 5 = .ref v5 → jget L 6 = .ref v6 → jget L 7 = .ref v7 → jget L 8 = .ref v8 → jget L 9 = .ref v9 → jget L 10 = .int (jb v10) → jget L 11 = .int v11 → k94 v1 v2 v3 v4 v5 v6 v7 v8 v9 v10 v11 μ = some (r, μ9) → jR B SA d m_L_law 94 L [] μ (some (.int (jb r))) μ9) : ∀ (L : JLoc) (v1 : Nat) (v2 : Nat) (v3 : Int32) (v4 : Nat) (v5 : Nat) (v6 : Nat) (v7 : Nat) (v8 : Nat) (v9 : Nat) (v11 : Int32) (μ : JMem) (r : Bool) (μ9 : JMem), jget L 1 = .ref v1 → jget L 2 = .ref v2 → jget L 3 = .int v3 → jget L 4 = .ref v4 → jget L 5 = .ref v5 → jget L 6 = .ref v6 → jget L 7 = .ref v7 → jget L 8 = .ref v8 → jget L 9 = .ref v9 → jget L 11 = .int v11 → g_L_law_362 N M B SA k94 v1 v2 v3 v4 v5 v6 v7 v8 v9 v11 μ = some (r, μ9) → jR B SA d m_L_law 362 L [] μ (some (.int (jb r))) μ9 := by
  intro L v1 v2 v3 v4 v5 v6 v7 v8 v9 v11 μ r μ9 hl1 hl2 hl3 hl4 hl5 hl6 hl7 hl8 hl9 hl11 h
  unfold g_L_law_362 at h
  refine jr_iconst jf_145_362 jc_i_0 ?_
  exact r_L_law_363 hd i94 _ _ _ _ _ _ _ _ _ _ _ false _ _ _ hl1 hl2 hl3 hl4 hl5 hl6 hl7 hl8 hl9 hl11 h
set_option maxRecDepth 10000 in
set_option maxHeartbeats 4000000 in
theorem r_L_law_329 {N M B : Nat} {SA : Nat → Nat} {d : Nat} (hd : M + 8 ≤ d) {k94 : Nat → Nat → Int32 → Nat → Nat → Nat → Nat → Nat → Nat → Bool → Int32 → JMem → Option (Bool × JMem)} (i94 : ∀ (L : JLoc) (v1 : Nat) (v2 : Nat) (v3 : Int32) (v4 : Nat) (v5 : Nat) (v6 : Nat) (v7 : Nat) (v8 : Nat) (v9 : Nat) (v10 : Bool) (v11 : Int32) (μ : JMem) (r : Bool) (μ9 : JMem), jget L 1 = .ref v1 → jget L 2 = .ref v2 → jget L 3 = .int v3 → jget L 4 = .ref v4 → jget L 5 = .ref v5 → jget L 6 = .ref v6 → jget L 7 = .ref v7 → jget L 8 = .ref v8 → jget L 9 = .ref v9 → jget L 10 = .int (jb v10) → jget L 11 = .int v11 → k94 v1 v2 v3 v4 v5 v6 v7 v8 v9 v10 v11 μ = some (r, μ9) → jR B SA d m_L_law 94 L [] μ (some (.int (jb r))) μ9) : ∀ (L : JLoc) (v1 : Nat) (v2 : Nat) (v3 : Int32) (v4 : Nat) (v5 : Nat) (v6 : Nat) (v7 : Nat) (v8 : Nat) (v9 : Nat) (v10 : Bool) (v11 : Int32) (μ : JMem) (r : Bool) (μ9 : JMem), jget L 1 = .ref v1 → jget L 2 = .ref v2 → jget L 3 = .int v3 → jget L 4 = .ref v4 → jget L 5 = .ref v5 → jget L 6 = .ref v6 → jget L 7 = .ref v7 → jget L 8 = .ref v8 → jget L 9 = .ref v9 → jget L 10 = .int (jb v10) → jget L 11 = .int v11 → g_L_law_329 N M B SA k94 v1 v2 v3 v4 v5 v6 v7 v8 v9 v10 v11 μ = some (r, μ9) → jR B SA d m_L_law 329 L [] μ (some (.int (jb r))) μ9 := by
  intro L v1 v2 v3 v4 v5 v6 v7 v8 v9 v10 v11 μ r μ9 hl1 hl2 hl3 hl4 hl5 hl6 hl7 hl8 hl9 hl10 hl11 h
  unfold g_L_law_329 at h
  refine jr_aload jf_145_329 hl4 ?_
  refine jr_iload jf_145_331 hl11 ?_
  replace h := obd_of h; obtain ⟨x1, hx1, h⟩ := h
  refine jr_iaload jf_145_333 hx1 ?_
  refine jr_iconst jf_145_334 jc_i_1 ?_
  replace h := ite_or h; rcases h with ⟨hc, h⟩ | ⟨hc, h⟩
  · refine jr_if2_ne_f jf_145_335 hc ?_
    refine jr_iload jf_145_338 hl10 ?_
    replace h := ite_or h; rcases h with ⟨hc, h⟩ | ⟨hc, h⟩
    · refine jr_ifz_eq_f jf_145_340 hc ?_
      refine jr_aload_n jf_145_343 rfl hl2 ?_
      refine jr_iload jf_145_344 hl11 ?_
      refine jr_iconst jf_145_346 jc_i_1 ?_
      refine jr_aload jf_145_347 hl9 ?_
      refine jr_iload jf_145_349 hl11 ?_
      replace h := obd_of h; obtain ⟨x2, hx2, h⟩ := h
      refine jr_laload jf_145_351 hx2 ?_
      replace h := jgd_of h; obtain ⟨hb3, h⟩ := h
      replace h := jbd2_of h; obtain ⟨x4, μ5, hx4, h⟩ := h
      refine jr_V6_3 jf_145_352 hb3 (by omega) (r_B_coefficient (by omega) _ _ _ _ _ _ _ hx4) (Nat.le_of_ble_eq_true rfl) jml_12 (Nat.le_of_ble_eq_true rfl) ?_
      replace h := ite_or h; rcases h with ⟨hc, h⟩ | ⟨hc, h⟩
      · refine jr_ifz_eq_f jf_145_355 hc ?_
        refine jr_iconst jf_145_358 jc_i_1 ?_
        refine jr_goto jf_145_359 ?_
        exact r_L_law_363 hd i94 _ _ _ _ _ _ _ _ _ _ _ true _ _ _ hl1 hl2 hl3 hl4 hl5 hl6 hl7 hl8 hl9 hl11 h
      · refine jr_ifz_eq_t jf_145_355 hc ?_
        exact r_L_law_362 hd i94 _ _ _ _ _ _ _ _ _ _ _ _ _ _ hl1 hl2 hl3 hl4 hl5 hl6 hl7 hl8 hl9 hl11 h
    · refine jr_ifz_eq_t jf_145_340 hc ?_
      exact r_L_law_362 hd i94 _ _ _ _ _ _ _ _ _ _ _ _ _ _ hl1 hl2 hl3 hl4 hl5 hl6 hl7 hl8 hl9 hl11 h
  · refine jr_if2_ne_t jf_145_335 hc ?_
    exact r_L_law_365 hd i94 _ _ _ _ _ _ _ _ _ _ _ _ _ _ _ hl1 hl2 hl3 hl4 hl5 hl6 hl7 hl8 hl9 hl10 hl11 h
set_option maxRecDepth 10000 in
set_option maxHeartbeats 4000000 in
theorem r_L_law_327 {N M B : Nat} {SA : Nat → Nat} {d : Nat} (hd : M + 8 ≤ d) {k94 : Nat → Nat → Int32 → Nat → Nat → Nat → Nat → Nat → Nat → Bool → Int32 → JMem → Option (Bool × JMem)} (i94 : ∀ (L : JLoc) (v1 : Nat) (v2 : Nat) (v3 : Int32) (v4 : Nat) (v5 : Nat) (v6 : Nat) (v7 : Nat) (v8 : Nat) (v9 : Nat) (v10 : Bool) (v11 : Int32) (μ : JMem) (r : Bool) (μ9 : JMem), jget L 1 = .ref v1 → jget L 2 = .ref v2 → jget L 3 = .int v3 → jget L 4 = .ref v4 → jget L 5 = .ref v5 → jget L 6 = .ref v6 → jget L 7 = .ref v7 → jget L 8 = .ref v8 → jget L 9 = .ref v9 → jget L 10 = .int (jb v10) → jget L 11 = .int v11 → k94 v1 v2 v3 v4 v5 v6 v7 v8 v9 v10 v11 μ = some (r, μ9) → jR B SA d m_L_law 94 L [] μ (some (.int (jb r))) μ9) : ∀ (L : JLoc) (v1 : Nat) (v2 : Nat) (v3 : Int32) (v4 : Nat) (v5 : Nat) (v6 : Nat) (v7 : Nat) (v8 : Nat) (v9 : Nat) (v11 : Int32) (s0 : Bool) (μ : JMem) (r : Bool) (μ9 : JMem), jget L 1 = .ref v1 → jget L 2 = .ref v2 → jget L 3 = .int v3 → jget L 4 = .ref v4 → jget L 5 = .ref v5 → jget L 6 = .ref v6 → jget L 7 = .ref v7 → jget L 8 = .ref v8 → jget L 9 = .ref v9 → jget L 11 = .int v11 → g_L_law_327 N M B SA k94 v1 v2 v3 v4 v5 v6 v7 v8 v9 v11 s0 μ = some (r, μ9) → jR B SA d m_L_law 327 L [.int (jb s0)] μ (some (.int (jb r))) μ9 := by
  intro L v1 v2 v3 v4 v5 v6 v7 v8 v9 v11 s0 μ r μ9 hl1 hl2 hl3 hl4 hl5 hl6 hl7 hl8 hl9 hl11 h
  unfold g_L_law_327 at h
  refine jr_istore jf_145_327 jml_145 (by decide) ?_
  exact r_L_law_329 hd i94 _ _ _ _ _ _ _ _ _ _ _ _ _ _ _ (jg1_ne rfl hl1) (jg1_ne rfl hl2) (jg1_ne rfl hl3) (jg1_ne rfl hl4) (jg1_ne rfl hl5) (jg1_ne rfl hl6) (jg1_ne rfl hl7) (jg1_ne rfl hl8) (jg1_pre (by first | rfl | exact rv_cat _) hl9) jg1_same (jg1_ne rfl hl11) h
set_option maxRecDepth 10000 in
set_option maxHeartbeats 4000000 in
theorem r_L_law_326 {N M B : Nat} {SA : Nat → Nat} {d : Nat} (hd : M + 8 ≤ d) {k94 : Nat → Nat → Int32 → Nat → Nat → Nat → Nat → Nat → Nat → Bool → Int32 → JMem → Option (Bool × JMem)} (i94 : ∀ (L : JLoc) (v1 : Nat) (v2 : Nat) (v3 : Int32) (v4 : Nat) (v5 : Nat) (v6 : Nat) (v7 : Nat) (v8 : Nat) (v9 : Nat) (v10 : Bool) (v11 : Int32) (μ : JMem) (r : Bool) (μ9 : JMem), jget L 1 = .ref v1 → jget L 2 = .ref v2 → jget L 3 = .int v3 → jget L 4 = .ref v4 → jget L 5 = .ref v5 → jget L 6 = .ref v6 → jget L 7 = .ref v7 → jget L 8 = .ref v8 → jget L 9 = .ref v9 → jget L 10 = .int (jb v10) → jget L 11 = .int v11 → k94 v1 v2 v3 v4 v5 v6 v7 v8 v9 v10 v11 μ = some (r, μ9) → jR B SA d m_L_law 94 L [] μ (some (.int (jb r))) μ9) : ∀ (L : JLoc) (v1 : Nat) (v2 : Nat) (v3 : Int32) (v4 : Nat) (v5 : Nat) (v6 : Nat) (v7 : Nat) (v8 : Nat) (v9 : Nat) (v11 : Int32) (μ : JMem) (r : Bool) (μ9 : JMem), jget L 1 = .ref v1 → jget L 2 = .ref v2 → jget L 3 = .int v3 → jget L 4 = .ref v4 → jget L 5 = .ref v5 → jget L 6 = .ref v6 → jget L 7 = .ref v7 → jget L 8 = .ref v8 → jget L 9 = .ref v9 → jget L 11 = .int v11 → g_L_law_326 N M B SA k94 v1 v2 v3 v4 v5 v6 v7 v8 v9 v11 μ = some (r, μ9) → jR B SA d m_L_law 326 L [] μ (some (.int (jb r))) μ9 := by
  intro L v1 v2 v3 v4 v5 v6 v7 v8 v9 v11 μ r μ9 hl1 hl2 hl3 hl4 hl5 hl6 hl7 hl8 hl9 hl11 h
  unfold g_L_law_326 at h
  refine jr_iconst jf_145_326 jc_i_0 ?_
  exact r_L_law_327 hd i94 _ _ _ _ _ _ _ _ _ _ _ false _ _ _ hl1 hl2 hl3 hl4 hl5 hl6 hl7 hl8 hl9 hl11 h
set_option maxRecDepth 10000 in
set_option maxHeartbeats 4000000 in
theorem r_L_law_290 {N M B : Nat} {SA : Nat → Nat} {d : Nat} (hd : M + 8 ≤ d) {k94 : Nat → Nat → Int32 → Nat → Nat → Nat → Nat → Nat → Nat → Bool → Int32 → JMem → Option (Bool × JMem)} (i94 : ∀ (L : JLoc) (v1 : Nat) (v2 : Nat) (v3 : Int32) (v4 : Nat) (v5 : Nat) (v6 : Nat) (v7 : Nat) (v8 : Nat) (v9 : Nat) (v10 : Bool) (v11 : Int32) (μ : JMem) (r : Bool) (μ9 : JMem), jget L 1 = .ref v1 → jget L 2 = .ref v2 → jget L 3 = .int v3 → jget L 4 = .ref v4 → jget L 5 = .ref v5 → jget L 6 = .ref v6 → jget L 7 = .ref v7 → jget L 8 = .ref v8 → jget L 9 = .ref v9 → jget L 10 = .int (jb v10) → jget L 11 = .int v11 → k94 v1 v2 v3 v4 v5 v6 v7 v8 v9 v10 v11 μ = some (r, μ9) → jR B SA d m_L_law 94 L [] μ (some (.int (jb r))) μ9) : ∀ (L : JLoc) (v1 : Nat) (v2 : Nat) (v3 : Int32) (v4 : Nat) (v5 : Nat) (v6 : Nat) (v7 : Nat) (v8 : Nat) (v9 : Nat) (v11 : Int32) (s0 : Bool) (μ : JMem) (r : Bool) (μ9 : JMem), jget L 1 = .ref v1 → jget L 2 = .ref v2 → jget L 3 = .int v3 → jget L 4 = .ref v4 → jget L 5 = .ref v5 → jget L 6 = .ref v6 → jget L 7 = .ref v7 → jget L 8 = .ref v8 → jget L 9 = .ref v9 → jget L 11 = .int v11 → g_L_law_290 N M B SA k94 v1 v2 v3 v4 v5 v6 v7 v8 v9 v11 s0 μ = some (r, μ9) → jR B SA d m_L_law 290 L [.int (jb s0)] μ (some (.int (jb r))) μ9 := by
  intro L v1 v2 v3 v4 v5 v6 v7 v8 v9 v11 s0 μ r μ9 hl1 hl2 hl3 hl4 hl5 hl6 hl7 hl8 hl9 hl11 h
  unfold g_L_law_290 at h
  refine jr_istore jf_145_290 jml_145 (by decide) ?_
  refine jr_aload jf_145_292 (jg1_ne rfl hl4) ?_
  refine jr_iload jf_145_294 (jg1_ne rfl hl11) ?_
  replace h := obd_of h; obtain ⟨x1, hx1, h⟩ := h
  refine jr_iaload jf_145_296 hx1 ?_
  refine jr_bipush jf_145_297 jc_b_6 ?_
  replace h := ite_or h; rcases h with ⟨hc, h⟩ | ⟨hc, h⟩
  · refine jr_if2_eq_t jf_145_299 hc ?_
    exact r_L_law_329 hd i94 _ _ _ _ _ _ _ _ _ _ _ _ _ _ _ (jg1_ne rfl hl1) (jg1_ne rfl hl2) (jg1_ne rfl hl3) (jg1_ne rfl hl4) (jg1_ne rfl hl5) (jg1_ne rfl hl6) (jg1_ne rfl hl7) (jg1_ne rfl hl8) (jg1_pre (by first | rfl | exact rv_cat _) hl9) jg1_same (jg1_ne rfl hl11) h
  · refine jr_if2_eq_f jf_145_299 hc ?_
    refine jr_iload jf_145_302 jg1_same ?_
    replace h := ite_or h; rcases h with ⟨hc, h⟩ | ⟨hc, h⟩
    · refine jr_ifz_eq_f jf_145_304 hc ?_
      refine jr_aload_n jf_145_307 rfl (jg1_ne rfl hl2) ?_
      refine jr_iload jf_145_308 (jg1_ne rfl hl11) ?_
      refine jr_iconst jf_145_310 jc_i_0 ?_
      refine jr_aload jf_145_311 (jg1_ne rfl hl8) ?_
      refine jr_iload jf_145_313 (jg1_ne rfl hl11) ?_
      replace h := obd_of h; obtain ⟨x2, hx2, h⟩ := h
      refine jr_laload jf_145_315 hx2 ?_
      replace h := jgd_of h; obtain ⟨hb3, h⟩ := h
      replace h := jbd2_of h; obtain ⟨x4, μ5, hx4, h⟩ := h
      refine jr_V6_3 jf_145_316 hb3 (by omega) (r_B_coefficient (by omega) _ _ _ _ _ _ _ hx4) (Nat.le_of_ble_eq_true rfl) jml_12 (Nat.le_of_ble_eq_true rfl) ?_
      replace h := ite_or h; rcases h with ⟨hc, h⟩ | ⟨hc, h⟩
      · refine jr_ifz_eq_f jf_145_319 hc ?_
        refine jr_iconst jf_145_322 jc_i_1 ?_
        refine jr_goto jf_145_323 ?_
        exact r_L_law_327 hd i94 _ _ _ _ _ _ _ _ _ _ _ true _ _ _ (jg1_ne rfl hl1) (jg1_ne rfl hl2) (jg1_ne rfl hl3) (jg1_ne rfl hl4) (jg1_ne rfl hl5) (jg1_ne rfl hl6) (jg1_ne rfl hl7) (jg1_ne rfl hl8) (jg1_pre (by first | rfl | exact rv_cat _) hl9) (jg1_ne rfl hl11) h
      · refine jr_ifz_eq_t jf_145_319 hc ?_
        exact r_L_law_326 hd i94 _ _ _ _ _ _ _ _ _ _ _ _ _ _ (jg1_ne rfl hl1) (jg1_ne rfl hl2) (jg1_ne rfl hl3) (jg1_ne rfl hl4) (jg1_ne rfl hl5) (jg1_ne rfl hl6) (jg1_ne rfl hl7) (jg1_ne rfl hl8) (jg1_pre (by first | rfl | exact rv_cat _) hl9) (jg1_ne rfl hl11) h
    · refine jr_ifz_eq_t jf_145_304 hc ?_
      exact r_L_law_326 hd i94 _ _ _ _ _ _ _ _ _ _ _ _ _ _ (jg1_ne rfl hl1) (jg1_ne rfl hl2) (jg1_ne rfl hl3) (jg1_ne rfl hl4) (jg1_ne rfl hl5) (jg1_ne rfl hl6) (jg1_ne rfl hl7) (jg1_ne rfl hl8) (jg1_pre (by first | rfl | exact rv_cat _) hl9) (jg1_ne rfl hl11) h
set_option maxRecDepth 10000 in
set_option maxHeartbeats 4000000 in
theorem r_L_law_289 {N M B : Nat} {SA : Nat → Nat} {d : Nat} (hd : M + 8 ≤ d) {k94 : Nat → Nat → Int32 → Nat → Nat → Nat → Nat → Nat → Nat → Bool → Int32 → JMem → Option (Bool × JMem)} (i94 : ∀ (L : JLoc) (v1 : Nat) (v2 : Nat) (v3 : Int32) (v4 : Nat) (v5 : Nat) (v6 : Nat) (v7 : Nat) (v8 : Nat) (v9 : Nat) (v10 : Bool) (v11 : Int32) (μ : JMem) (r : Bool) (μ9 : JMem), jget L 1 = .ref v1 → jget L 2 = .ref v2 → jget L 3 = .int v3 → jget L 4 = .ref v4 → jget L 5 = .ref v5 → jget L 6 = .ref v6 → jget L 7 = .ref v7 → jget L 8 = .ref v8 → jget L 9 = .ref v9 → jget L 10 = .int (jb v10) → jget L 11 = .int v11 → k94 v1 v2 v3 v4 v5 v6 v7 v8 v9 v10 v11 μ = some (r, μ9) → jR B SA d m_L_law 94 L [] μ (some (.int (jb r))) μ9) : ∀ (L : JLoc) (v1 : Nat) (v2 : Nat) (v3 : Int32) (v4 : Nat) (v5 : Nat) (v6 : Nat) (v7 : Nat) (v8 : Nat) (v9 : Nat) (v11 : Int32) (μ : JMem) (r : Bool) (μ9 : JMem), jget L 1 = .ref v1 → jget L 2 = .ref v2 → jget L 3 = .int v3 → jget L 4 = .ref v4 → jget L 5 = .ref v5 → jget L 6 = .ref v6 → jget L 7 = .ref v7 → jget L 8 = .ref v8 → jget L 9 = .ref v9 → jget L 11 = .int v11 → g_L_law_289 N M B SA k94 v1 v2 v3 v4 v5 v6 v7 v8 v9 v11 μ = some (r, μ9) → jR B SA d m_L_law 289 L [] μ (some (.int (jb r))) μ9 := by
  intro L v1 v2 v3 v4 v5 v6 v7 v8 v9 v11 μ r μ9 hl1 hl2 hl3 hl4 hl5 hl6 hl7 hl8 hl9 hl11 h
  unfold g_L_law_289 at h
  refine jr_iconst jf_145_289 jc_i_0 ?_
  exact r_L_law_290 hd i94 _ _ _ _ _ _ _ _ _ _ _ false _ _ _ hl1 hl2 hl3 hl4 hl5 hl6 hl7 hl8 hl9 hl11 h
set_option maxRecDepth 10000 in
set_option maxHeartbeats 4000000 in
theorem r_L_law_166 {N M B : Nat} {SA : Nat → Nat} {d : Nat} (hd : M + 8 ≤ d) {k94 : Nat → Nat → Int32 → Nat → Nat → Nat → Nat → Nat → Nat → Bool → Int32 → JMem → Option (Bool × JMem)} (i94 : ∀ (L : JLoc) (v1 : Nat) (v2 : Nat) (v3 : Int32) (v4 : Nat) (v5 : Nat) (v6 : Nat) (v7 : Nat) (v8 : Nat) (v9 : Nat) (v10 : Bool) (v11 : Int32) (μ : JMem) (r : Bool) (μ9 : JMem), jget L 1 = .ref v1 → jget L 2 = .ref v2 → jget L 3 = .int v3 → jget L 4 = .ref v4 → jget L 5 = .ref v5 → jget L 6 = .ref v6 → jget L 7 = .ref v7 → jget L 8 = .ref v8 → jget L 9 = .ref v9 → jget L 10 = .int (jb v10) → jget L 11 = .int v11 → k94 v1 v2 v3 v4 v5 v6 v7 v8 v9 v10 v11 μ = some (r, μ9) → jR B SA d m_L_law 94 L [] μ (some (.int (jb r))) μ9) : ∀ (L : JLoc) (v1 : Nat) (v2 : Nat) (v3 : Int32) (v4 : Nat) (v5 : Nat) (v6 : Nat) (v7 : Nat) (v8 : Nat) (v9 : Nat) (v10 : Bool) (v11 : Int32) (v12 : Int32) (s0 : Int32) (s1 : Int32) (s2 : Nat) (μ : JMem) (r : Bool) (μ9 : JMem), jget L 1 = .ref v1 → jget L 2 = .ref v2 → jget L 3 = .int v3 → jget L 4 = .ref v4 → jget L 5 = .ref v5 → jget L 6 = .ref v6 → jget L 7 = .ref v7 → jget L 8 = .ref v8 → jget L 9 = .ref v9 → jget L 10 = .int (jb v10) → jget L 11 = .int v11 → jget L 12 = .int v12 → g_L_law_166 N M B SA k94 v1 v2 v3 v4 v5 v6 v7 v8 v9 v10 v11 v12 s0 s1 s2 μ = some (r, μ9) → jR B SA d m_L_law 166 L [.int s0, .int s1, .ref s2] μ (some (.int (jb r))) μ9 := by
  intro L v1 v2 v3 v4 v5 v6 v7 v8 v9 v10 v11 v12 s0 s1 s2 μ r μ9 hl1 hl2 hl3 hl4 hl5 hl6 hl7 hl8 hl9 hl10 hl11 hl12 h
  unfold g_L_law_166 at h
  replace h := obd_of h; obtain ⟨μ1, hμ1, h⟩ := h
  refine jr_iastore jf_145_166 hμ1 ?_
  refine jr_aload jf_145_167 hl5 ?_
  refine jr_iload jf_145_169 hl11 ?_
  refine jr_iload jf_145_171 hl12 ?_
  refine jr_iconst jf_145_173 jc_i_3 ?_
  refine jr_ishr jf_145_174 ?_
  refine jr_iconst jf_145_175 jc_i_3 ?_
  refine jr_iand jf_145_176 ?_
  refine jr_iconst jf_145_177 jc_i_3 ?_
  refine jr_irem jf_145_178 (by simp only [jremI]; exact if_neg (by decide)) ?_
  replace h := obd_of h; obtain ⟨μ2, hμ2, h⟩ := h
  refine jr_iastore jf_145_179 hμ2 ?_
  refine jr_aload jf_145_180 hl6 ?_
  refine jr_iload jf_145_182 hl11 ?_
  refine jr_iload jf_145_184 hl12 ?_
  refine jr_iconst jf_145_186 jc_i_5 ?_
  refine jr_ishr jf_145_187 ?_
  refine jr_iconst jf_145_188 jc_i_1 ?_
  refine jr_iand jf_145_189 ?_
  replace h := obd_of h; obtain ⟨μ3, hμ3, h⟩ := h
  refine jr_iastore jf_145_190 hμ3 ?_
  refine jr_aload jf_145_191 hl7 ?_
  refine jr_iload jf_145_193 hl11 ?_
  refine jr_iconst jf_145_195 jc_i_1 ?_
  refine jr_iload jf_145_196 hl12 ?_
  refine jr_bipush jf_145_198 jc_b_6 ?_
  refine jr_ishr jf_145_200 ?_
  refine jr_iconst jf_145_201 jc_i_3 ?_
  refine jr_iand jf_145_202 ?_
  refine jr_iadd jf_145_203 ?_
  replace h := obd_of h; obtain ⟨μ4, hμ4, h⟩ := h
  refine jr_iastore jf_145_204 hμ4 ?_
  refine jr_aload jf_145_205 hl8 ?_
  refine jr_iload jf_145_207 hl11 ?_
  refine jr_iload jf_145_209 hl12 ?_
  refine jr_bipush jf_145_211 jc_b_8 ?_
  refine jr_ishr jf_145_213 ?_
  refine jr_i2s jf_145_214 ?_
  refine jr_i2l jf_145_215 ?_
  replace h := obd_of h; obtain ⟨μ5, hμ5, h⟩ := h
  refine jr_lastore jf_145_216 hμ5 ?_
  refine jr_aload jf_145_217 hl9 ?_
  refine jr_iload jf_145_219 hl11 ?_
  refine jr_iload jf_145_221 hl12 ?_
  refine jr_bipush jf_145_223 jc_b_16 ?_
  refine jr_ishr jf_145_225 ?_
  refine jr_i2s jf_145_226 ?_
  refine jr_i2l jf_145_227 ?_
  replace h := obd_of h; obtain ⟨μ6, hμ6, h⟩ := h
  refine jr_lastore jf_145_228 hμ6 ?_
  refine jr_iload jf_145_229 hl10 ?_
  replace h := ite_or h; rcases h with ⟨hc, h⟩ | ⟨hc, h⟩
  · refine jr_ifz_eq_f jf_145_231 hc ?_
    refine jr_aload_n jf_145_234 rfl hl2 ?_
    refine jr_aload jf_145_235 hl4 ?_
    refine jr_iload jf_145_237 hl11 ?_
    replace h := obd_of h; obtain ⟨x7, hx7, h⟩ := h
    refine jr_iaload jf_145_239 hx7 ?_
    refine jr_iconst jf_145_240 jc_i_2 ?_
    refine jr_aload jf_145_241 hl7 ?_
    refine jr_iload jf_145_243 hl11 ?_
    replace h := obd_of h; obtain ⟨x8, hx8, h⟩ := h
    refine jr_iaload jf_145_245 hx8 ?_
    replace h := jgd_of h; obtain ⟨hb9, h⟩ := h
    replace h := jbd2_of h; obtain ⟨x10, μ11, hx10, h⟩ := h
    refine jr_V6_3 jf_145_246 hb9 (by omega) (r_B_section (by omega) _ _ _ _ _ _ _ hx10) (Nat.le_of_ble_eq_true rfl) jml_5 (Nat.le_of_ble_eq_true rfl) ?_
    refine jr_iload jf_145_249 hl11 ?_
    replace h := ite_or h; rcases h with ⟨hc, h⟩ | ⟨hc, h⟩
    · refine jr_if2_ne_f jf_145_251 hc ?_
      refine jr_aload_n jf_145_254 rfl hl2 ?_
      refine jr_iconst jf_145_255 jc_i_0 ?_
      refine jr_iload jf_145_256 hl11 ?_
      replace h := jgd_of h; obtain ⟨hb12, h⟩ := h
      replace h := jbd2_of h; obtain ⟨x13, μ14, hx13, h⟩ := h
      refine jr_V6_2 jf_145_258 hb12 (by omega) (r_B_add (by omega) _ _ _ _ _ _ hx13) (Nat.le_of_ble_eq_true rfl) jml_32 (Nat.le_of_ble_eq_true rfl) ?_
      refine jr_iload jf_145_261 hl11 ?_
      replace h := ite_or h; rcases h with ⟨hc, h⟩ | ⟨hc, h⟩
      · refine jr_if2_ne_f jf_145_263 hc ?_
        refine jr_aload_n jf_145_266 rfl hl2 ?_
        refine jr_iload jf_145_267 hl11 ?_
        refine jr_aload jf_145_269 hl5 ?_
        refine jr_iload jf_145_271 hl11 ?_
        replace h := obd_of h; obtain ⟨x15, hx15, h⟩ := h
        refine jr_iaload jf_145_273 hx15 ?_
        refine jr_aload jf_145_274 hl6 ?_
        refine jr_iload jf_145_276 hl11 ?_
        replace h := obd_of h; obtain ⟨x16, hx16, h⟩ := h
        refine jr_iaload jf_145_278 hx16 ?_
        replace h := jgd_of h; obtain ⟨hb17, h⟩ := h
        replace h := jbd2_of h; obtain ⟨x18, μ19, hx18, h⟩ := h
        refine jr_V6_3 jf_145_279 hb17 (by omega) (r_B_rule (by omega) _ _ _ _ _ _ _ hx18) (Nat.le_of_ble_eq_true rfl) jml_21 (Nat.le_of_ble_eq_true rfl) ?_
        replace h := ite_or h; rcases h with ⟨hc, h⟩ | ⟨hc, h⟩
        · refine jr_ifz_eq_f jf_145_282 hc ?_
          refine jr_iconst jf_145_285 jc_i_1 ?_
          refine jr_goto jf_145_286 ?_
          exact r_L_law_290 hd i94 _ _ _ _ _ _ _ _ _ _ _ true _ _ _ hl1 hl2 hl3 hl4 hl5 hl6 hl7 hl8 hl9 hl11 h
        · refine jr_ifz_eq_t jf_145_282 hc ?_
          exact r_L_law_289 hd i94 _ _ _ _ _ _ _ _ _ _ _ _ _ _ hl1 hl2 hl3 hl4 hl5 hl6 hl7 hl8 hl9 hl11 h
      · refine jr_if2_ne_t jf_145_263 hc ?_
        exact r_L_law_289 hd i94 _ _ _ _ _ _ _ _ _ _ _ _ _ _ hl1 hl2 hl3 hl4 hl5 hl6 hl7 hl8 hl9 hl11 h
    · refine jr_if2_ne_t jf_145_251 hc ?_
      exact r_L_law_289 hd i94 _ _ _ _ _ _ _ _ _ _ _ _ _ _ hl1 hl2 hl3 hl4 hl5 hl6 hl7 hl8 hl9 hl11 h
  · refine jr_ifz_eq_t jf_145_231 hc ?_
    exact r_L_law_289 hd i94 _ _ _ _ _ _ _ _ _ _ _ _ _ _ hl1 hl2 hl3 hl4 hl5 hl6 hl7 hl8 hl9 hl11 h
set_option maxRecDepth 10000 in
set_option maxHeartbeats 4000000 in
theorem r_L_law_1059 {N M B : Nat} {SA : Nat → Nat} {d : Nat} (hd : M + 8 ≤ d) {k517 : Nat → Nat → Int32 → Nat → Nat → Nat → Nat → Nat → Nat → Bool → Int32 → Int32 → Int64 → Int64 → Nat → Nat → Nat → Nat → Nat → Nat → Nat → Int32 → Int32 → Nat → Int32 → JMem → Option (Bool × JMem)} (i517 : ∀ (L : JLoc) (v1 : Nat) (v2 : Nat) (v3 : Int32) (v4 : Nat) (v5 : Nat) (v6 : Nat) (v7 : Nat) (v8 : Nat) (v9 : Nat) (v10 : Bool) (v11 : Int32) (v12 : Int32) (v13 : Int64) (v15 : Int64) (v17 : Nat) (v18 : Nat) (v19 : Nat) (v20 : Nat) (v21 : Nat) (v22 : Nat) (v23 : Nat) (v24 : Int32) (v25 : Int32) (v26 : Nat) (v27 : Int32) (μ : JMem) (r : Bool) (μ9 : JMem), jget L 1 = .ref v1 → jget L 2 = .ref v2 → jget L 3 = .int v3 → jget L 4 = .ref v4 → jget L 5 = .ref v5 → jget L 6 = .ref v6 → jget L 7 = .ref v7 → jget L 8 = .ref v8 → jget L 9 = .ref v9 → jget L 10 = .int (jb v10) → jget L 11 = .int v11 → jget L 12 = .int v12 → jget L 13 = .long v13 → jget L 15 = .long v15 → jget L 17 = .ref v17 → jget L 18 = .ref v18 → jget L 19 = .ref v19 → jget L 20 = .ref v20 → jget L 21 = .ref v21 → jget L 22 = .ref v22 → jget L 23 = .ref v23 → jget L 24 = .int v24 → jget L 25 = .int v25 → jget L 26 = .ref v26 → jget L 27 = .int v27 → k517 v1 v2 v3 v4 v5 v6 v7 v8 v9 v10 v11 v12 v13 v15 v17 v18 v19 v20 v21 v22 v23 v24 v25 v26 v27 μ = some (r, μ9) → jR B SA d m_L_law 517 L [] μ (some (.int (jb r))) μ9) {k553 : Nat → Nat → Int32 → Nat → Nat → Nat → Nat → Nat → Nat → Int32 → Int32 → Int64 → Int64 → Nat → Nat → Nat → Nat → Nat → Nat → Nat → Int32 → Int32 → Nat → Int32 → Int64 → Int64 → Int32 → JMem → Option (Bool × JMem)} (i553 : ∀ (L : JLoc) (v1 : Nat) (v2 : Nat) (v3 : Int32) (v4 : Nat) (v5 : Nat) (v6 : Nat) (v7 : Nat) (v8 : Nat) (v9 : Nat) (v11 : Int32) (v12 : Int32) (v13 : Int64) (v15 : Int64) (v17 : Nat) (v18 : Nat) (v19 : Nat) (v20 : Nat) (v21 : Nat) (v22 : Nat) (v23 : Nat) (v24 : Int32) (v25 : Int32) (v26 : Nat) (v27 : Int32) (v28 : Int64) (v30 : Int64) (v32 : Int32) (μ : JMem) (r : Bool) (μ9 : JMem), jget L 1 = .ref v1 → jget L 2 = .ref v2 → jget L 3 = .int v3 → jget L 4 = .ref v4 → jget L 5 = .ref v5 → jget L 6 = .ref v6 → jget L 7 = .ref v7 → jget L 8 = .ref v8 → jget L 9 = .ref v9 → jget L 11 = .int v11 → jget L 12 = .int v12 → jget L 13 = .long v13 → jget L 15 = .long v15 → jget L 17 = .ref v17 → jget L 18 = .ref v18 → jget L 19 = .ref v19 → jget L 20 = .ref v20 → jget L 21 = .ref v21 → jget L 22 = .ref v22 → jget L 23 = .ref v23 → jget L 24 = .int v24 → jget L 25 = .int v25 → jget L 26 = .ref v26 → jget L 27 = .int v27 → jget L 28 = .long v28 → jget L 30 = .long v30 → jget L 32 = .int v32 → k553 v1 v2 v3 v4 v5 v6 v7 v8 v9 v11 v12 v13 v15 v17 v18 v19 v20 v21 v22 v23 v24 v25 v26 v27 v28 v30 v32 μ = some (r, μ9) → jR B SA d m_L_law 553 L [] μ (some (.int (jb r))) μ9) {k634 : Nat → Nat → Int32 → Nat → Nat → Nat → Nat → Nat → Nat → Int32 → Int32 → Int64 → Int64 → Nat → Nat → Nat → Nat → Nat → Nat → Nat → Int32 → Int32 → Nat → Int32 → Int64 → Int64 → Int32 → Int32 → Int32 → Int64 → Int64 → Int32 → JMem → Option (Bool × JMem)} (i634 : ∀ (L : JLoc) (v1 : Nat) (v2 : Nat) (v3 : Int32) (v4 : Nat) (v5 : Nat) (v6 : Nat) (v7 : Nat) (v8 : Nat) (v9 : Nat) (v11 : Int32) (v12 : Int32) (v13 : Int64) (v15 : Int64) (v17 : Nat) (v18 : Nat) (v19 : Nat) (v20 : Nat) (v21 : Nat) (v22 : Nat) (v23 : Nat) (v24 : Int32) (v25 : Int32) (v26 : Nat) (v27 : Int32) (v28 : Int64) (v30 : Int64) (v32 : Int32) (v33 : Int32) (v34 : Int32) (v35 : Int64) (v37 : Int64) (v41 : Int32) (μ : JMem) (r : Bool) (μ9 : JMem), jget L 1 = .ref v1 → jget L 2 = .ref v2 → jget L 3 = .int v3 → jget L 4 = .ref v4 → jget L 5 = .ref v5 → jget L 6 = .ref v6 → jget L 7 = .ref v7 → jget L 8 = .ref v8 → jget L 9 = .ref v9 → jget L 11 = .int v11 → jget L 12 = .int v12 → jget L 13 = .long v13 → jget L 15 = .long v15 → jget L 17 = .ref v17 → jget L 18 = .ref v18 → jget L 19 = .ref v19 → jget L 20 = .ref v20 → jget L 21 = .ref v21 → jget L 22 = .ref v22 → jget L 23 = .ref v23 → jget L 24 = .int v24 → jget L 25 = .int v25 → jget L 26 = .ref v26 → jget L 27 = .int v27 → jget L 28 = .long v28 → jget L 30 = .long v30 → jget L 32 = .int v32 → jget L 33 = .int v33 → jget L 34 = .int v34 → jget L 35 = .long v35 → jget L 37 = .long v37 → jget L 41 = .int v41 → k634 v1 v2 v3 v4 v5 v6 v7 v8 v9 v11 v12 v13 v15 v17 v18 v19 v20 v21 v22 v23 v24 v25 v26 v27 v28 v30 v32 v33 v34 v35 v37 v41 μ = some (r, μ9) → jR B SA d m_L_law 634 L [] μ (some (.int (jb r))) μ9) : ∀ (L : JLoc) (v1 : Nat) (v2 : Nat) (v3 : Int32) (v4 : Nat) (v5 : Nat) (v6 : Nat) (v7 : Nat) (v8 : Nat) (v9 : Nat) (v11 : Int32) (v12 : Int32) (v13 : Int64) (v15 : Int64) (v17 : Nat) (v18 : Nat) (v19 : Nat) (v20 : Nat) (v21 : Nat) (v22 : Nat) (v23 : Nat) (v24 : Int32) (v25 : Int32) (v26 : Nat) (v27 : Int32) (v28 : Int64) (v30 : Int64) (v32 : Int32) (v33 : Int32) (v34 : Int32) (v35 : Int64) (v37 : Int64) (v41 : Int32) (μ : JMem) (r : Bool) (μ9 : JMem), jget L 1 = .ref v1 → jget L 2 = .ref v2 → jget L 3 = .int v3 → jget L 4 = .ref v4 → jget L 5 = .ref v5 → jget L 6 = .ref v6 → jget L 7 = .ref v7 → jget L 8 = .ref v8 → jget L 9 = .ref v9 → jget L 11 = .int v11 → jget L 12 = .int v12 → jget L 13 = .long v13 → jget L 15 = .long v15 → jget L 17 = .ref v17 → jget L 18 = .ref v18 → jget L 19 = .ref v19 → jget L 20 = .ref v20 → jget L 21 = .ref v21 → jget L 22 = .ref v22 → jget L 23 = .ref v23 → jget L 24 = .int v24 → jget L 25 = .int v25 → jget L 26 = .ref v26 → jget L 27 = .int v27 → jget L 28 = .long v28 → jget L 30 = .long v30 → jget L 32 = .int v32 → jget L 33 = .int v33 → jget L 34 = .int v34 → jget L 35 = .long v35 → jget L 37 = .long v37 → jget L 41 = .int v41 → g_L_law_1059 N M B SA k517 k553 k634 v1 v2 v3 v4 v5 v6 v7 v8 v9 v11 v12 v13 v15 v17 v18 v19 v20 v21 v22 v23 v24 v25 v26 v27 v28 v30 v32 v33 v34 v35 v37 v41 μ = some (r, μ9) → jR B SA d m_L_law 1059 L [] μ (some (.int (jb r))) μ9 := by
  intro L v1 v2 v3 v4 v5 v6 v7 v8 v9 v11 v12 v13 v15 v17 v18 v19 v20 v21 v22 v23 v24 v25 v26 v27 v28 v30 v32 v33 v34 v35 v37 v41 μ r μ9 hl1 hl2 hl3 hl4 hl5 hl6 hl7 hl8 hl9 hl11 hl12 hl13 hl15 hl17 hl18 hl19 hl20 hl21 hl22 hl23 hl24 hl25 hl26 hl27 hl28 hl30 hl32 hl33 hl34 hl35 hl37 hl41 h
  unfold g_L_law_1059 at h
  refine jr_iinc jf_145_1059 jc_i_1 jml_145 (by decide) hl41 ?_
  refine jr_goto jf_145_1062 ?_
  exact i634 _ _ _ _ _ _ _ _ _ _ _ _ _ _ _ _ _ _ _ _ _ _ _ _ _ _ _ _ _ _ _ _ _ _ _ _ (jg1_ne rfl hl1) (jg1_ne rfl hl2) (jg1_ne rfl hl3) (jg1_ne rfl hl4) (jg1_ne rfl hl5) (jg1_ne rfl hl6) (jg1_ne rfl hl7) (jg1_ne rfl hl8) (jg1_ne rfl hl9) (jg1_ne rfl hl11) (jg1_ne rfl hl12) (jg1_ne rfl hl13) (jg1_ne rfl hl15) (jg1_ne rfl hl17) (jg1_ne rfl hl18) (jg1_ne rfl hl19) (jg1_ne rfl hl20) (jg1_ne rfl hl21) (jg1_ne rfl hl22) (jg1_ne rfl hl23) (jg1_ne rfl hl24) (jg1_ne rfl hl25) (jg1_ne rfl hl26) (jg1_ne rfl hl27) (jg1_ne rfl hl28) (jg1_ne rfl hl30) (jg1_ne rfl hl32) (jg1_ne rfl hl33) (jg1_ne rfl hl34) (jg1_ne rfl hl35) (jg1_ne rfl hl37) jg1_same h
set_option maxRecDepth 10000 in
set_option maxHeartbeats 4000000 in
theorem r_L_law_1057 {N M B : Nat} {SA : Nat → Nat} {d : Nat} (hd : M + 8 ≤ d) {k517 : Nat → Nat → Int32 → Nat → Nat → Nat → Nat → Nat → Nat → Bool → Int32 → Int32 → Int64 → Int64 → Nat → Nat → Nat → Nat → Nat → Nat → Nat → Int32 → Int32 → Nat → Int32 → JMem → Option (Bool × JMem)} (i517 : ∀ (L : JLoc) (v1 : Nat) (v2 : Nat) (v3 : Int32) (v4 : Nat) (v5 : Nat) (v6 : Nat) (v7 : Nat) (v8 : Nat) (v9 : Nat) (v10 : Bool) (v11 : Int32) (v12 : Int32) (v13 : Int64) (v15 : Int64) (v17 : Nat) (v18 : Nat) (v19 : Nat) (v20 : Nat) (v21 : Nat) (v22 : Nat) (v23 : Nat) (v24 : Int32) (v25 : Int32) (v26 : Nat) (v27 : Int32) (μ : JMem) (r : Bool) (μ9 : JMem), jget L 1 = .ref v1 → jget L 2 = .ref v2 → jget L 3 = .int v3 → jget L 4 = .ref v4 → jget L 5 = .ref v5 → jget L 6 = .ref v6 → jget L 7 = .ref v7 → jget L 8 = .ref v8 → jget L 9 = .ref v9 → jget L 10 = .int (jb v10) → jget L 11 = .int v11 → jget L 12 = .int v12 → jget L 13 = .long v13 → jget L 15 = .long v15 → jget L 17 = .ref v17 → jget L 18 = .ref v18 → jget L 19 = .ref v19 → jget L 20 = .ref v20 → jget L 21 = .ref v21 → jget L 22 = .ref v22 → jget L 23 = .ref v23 → jget L 24 = .int v24 → jget L 25 = .int v25 → jget L 26 = .ref v26 → jget L 27 = .int v27 → k517 v1 v2 v3 v4 v5 v6 v7 v8 v9 v10 v11 v12 v13 v15 v17 v18 v19 v20 v21 v22 v23 v24 v25 v26 v27 μ = some (r, μ9) → jR B SA d m_L_law 517 L [] μ (some (.int (jb r))) μ9) {k553 : Nat → Nat → Int32 → Nat → Nat → Nat → Nat → Nat → Nat → Int32 → Int32 → Int64 → Int64 → Nat → Nat → Nat → Nat → Nat → Nat → Nat → Int32 → Int32 → Nat → Int32 → Int64 → Int64 → Int32 → JMem → Option (Bool × JMem)} (i553 : ∀ (L : JLoc) (v1 : Nat) (v2 : Nat) (v3 : Int32) (v4 : Nat) (v5 : Nat) (v6 : Nat) (v7 : Nat) (v8 : Nat) (v9 : Nat) (v11 : Int32) (v12 : Int32) (v13 : Int64) (v15 : Int64) (v17 : Nat) (v18 : Nat) (v19 : Nat) (v20 : Nat) (v21 : Nat) (v22 : Nat) (v23 : Nat) (v24 : Int32) (v25 : Int32) (v26 : Nat) (v27 : Int32) (v28 : Int64) (v30 : Int64) (v32 : Int32) (μ : JMem) (r : Bool) (μ9 : JMem), jget L 1 = .ref v1 → jget L 2 = .ref v2 → jget L 3 = .int v3 → jget L 4 = .ref v4 → jget L 5 = .ref v5 → jget L 6 = .ref v6 → jget L 7 = .ref v7 → jget L 8 = .ref v8 → jget L 9 = .ref v9 → jget L 11 = .int v11 → jget L 12 = .int v12 → jget L 13 = .long v13 → jget L 15 = .long v15 → jget L 17 = .ref v17 → jget L 18 = .ref v18 → jget L 19 = .ref v19 → jget L 20 = .ref v20 → jget L 21 = .ref v21 → jget L 22 = .ref v22 → jget L 23 = .ref v23 → jget L 24 = .int v24 → jget L 25 = .int v25 → jget L 26 = .ref v26 → jget L 27 = .int v27 → jget L 28 = .long v28 → jget L 30 = .long v30 → jget L 32 = .int v32 → k553 v1 v2 v3 v4 v5 v6 v7 v8 v9 v11 v12 v13 v15 v17 v18 v19 v20 v21 v22 v23 v24 v25 v26 v27 v28 v30 v32 μ = some (r, μ9) → jR B SA d m_L_law 553 L [] μ (some (.int (jb r))) μ9) {k634 : Nat → Nat → Int32 → Nat → Nat → Nat → Nat → Nat → Nat → Int32 → Int32 → Int64 → Int64 → Nat → Nat → Nat → Nat → Nat → Nat → Nat → Int32 → Int32 → Nat → Int32 → Int64 → Int64 → Int32 → Int32 → Int32 → Int64 → Int64 → Int32 → JMem → Option (Bool × JMem)} (i634 : ∀ (L : JLoc) (v1 : Nat) (v2 : Nat) (v3 : Int32) (v4 : Nat) (v5 : Nat) (v6 : Nat) (v7 : Nat) (v8 : Nat) (v9 : Nat) (v11 : Int32) (v12 : Int32) (v13 : Int64) (v15 : Int64) (v17 : Nat) (v18 : Nat) (v19 : Nat) (v20 : Nat) (v21 : Nat) (v22 : Nat) (v23 : Nat) (v24 : Int32) (v25 : Int32) (v26 : Nat) (v27 : Int32) (v28 : Int64) (v30 : Int64) (v32 : Int32) (v33 : Int32) (v34 : Int32) (v35 : Int64) (v37 : Int64) (v41 : Int32) (μ : JMem) (r : Bool) (μ9 : JMem), jget L 1 = .ref v1 → jget L 2 = .ref v2 → jget L 3 = .int v3 → jget L 4 = .ref v4 → jget L 5 = .ref v5 → jget L 6 = .ref v6 → jget L 7 = .ref v7 → jget L 8 = .ref v8 → jget L 9 = .ref v9 → jget L 11 = .int v11 → jget L 12 = .int v12 → jget L 13 = .long v13 → jget L 15 = .long v15 → jget L 17 = .ref v17 → jget L 18 = .ref v18 → jget L 19 = .ref v19 → jget L 20 = .ref v20 → jget L 21 = .ref v21 → jget L 22 = .ref v22 → jget L 23 = .ref v23 → jget L 24 = .int v24 → jget L 25 = .int v25 → jget L 26 = .ref v26 → jget L 27 = .int v27 → jget L 28 = .long v28 → jget L 30 = .long v30 → jget L 32 = .int v32 → jget L 33 = .int v33 → jget L 34 = .int v34 → jget L 35 = .long v35 → jget L 37 = .long v37 → jget L 41 = .int v41 → k634 v1 v2 v3 v4 v5 v6 v7 v8 v9 v11 v12 v13 v15 v17 v18 v19 v20 v21 v22 v23 v24 v25 v26 v27 v28 v30 v32 v33 v34 v35 v37 v41 μ = some (r, μ9) → jR B SA d m_L_law 634 L [] μ (some (.int (jb r))) μ9) : ∀ (L : JLoc) (v1 : Nat) (v2 : Nat) (v3 : Int32) (v4 : Nat) (v5 : Nat) (v6 : Nat) (v7 : Nat) (v8 : Nat) (v9 : Nat) (v11 : Int32) (v12 : Int32) (v13 : Int64) (v15 : Int64) (v17 : Nat) (v18 : Nat) (v19 : Nat) (v20 : Nat) (v21 : Nat) (v22 : Nat) (v23 : Nat) (v24 : Int32) (v25 : Int32) (v26 : Nat) (v27 : Int32) (v28 : Int64) (v30 : Int64) (v32 : Int32) (v33 : Int32) (v34 : Int32) (v35 : Int64) (v41 : Int32) (s0 : Int64) (μ : JMem) (r : Bool) (μ9 : JMem), jget L 1 = .ref v1 → jget L 2 = .ref v2 → jget L 3 = .int v3 → jget L 4 = .ref v4 → jget L 5 = .ref v5 → jget L 6 = .ref v6 → jget L 7 = .ref v7 → jget L 8 = .ref v8 → jget L 9 = .ref v9 → jget L 11 = .int v11 → jget L 12 = .int v12 → jget L 13 = .long v13 → jget L 15 = .long v15 → jget L 17 = .ref v17 → jget L 18 = .ref v18 → jget L 19 = .ref v19 → jget L 20 = .ref v20 → jget L 21 = .ref v21 → jget L 22 = .ref v22 → jget L 23 = .ref v23 → jget L 24 = .int v24 → jget L 25 = .int v25 → jget L 26 = .ref v26 → jget L 27 = .int v27 → jget L 28 = .long v28 → jget L 30 = .long v30 → jget L 32 = .int v32 → jget L 33 = .int v33 → jget L 34 = .int v34 → jget L 35 = .long v35 → jget L 41 = .int v41 → g_L_law_1057 N M B SA k517 k553 k634 v1 v2 v3 v4 v5 v6 v7 v8 v9 v11 v12 v13 v15 v17 v18 v19 v20 v21 v22 v23 v24 v25 v26 v27 v28 v30 v32 v33 v34 v35 v41 s0 μ = some (r, μ9) → jR B SA d m_L_law 1057 L [.long s0] μ (some (.int (jb r))) μ9 := by
  intro L v1 v2 v3 v4 v5 v6 v7 v8 v9 v11 v12 v13 v15 v17 v18 v19 v20 v21 v22 v23 v24 v25 v26 v27 v28 v30 v32 v33 v34 v35 v41 s0 μ r μ9 hl1 hl2 hl3 hl4 hl5 hl6 hl7 hl8 hl9 hl11 hl12 hl13 hl15 hl17 hl18 hl19 hl20 hl21 hl22 hl23 hl24 hl25 hl26 hl27 hl28 hl30 hl32 hl33 hl34 hl35 hl41 h
  unfold g_L_law_1057 at h
  refine jr_lstore jf_145_1057 jml_145 (by decide) ?_
  exact r_L_law_1059 hd i517 i553 i634 _ _ _ _ _ _ _ _ _ _ _ _ _ _ _ _ _ _ _ _ _ _ _ _ _ _ _ _ _ _ _ _ _ _ _ _ (jg2_ne rfl hl1) (jg2_ne rfl hl2) (jg2_ne rfl hl3) (jg2_ne rfl hl4) (jg2_ne rfl hl5) (jg2_ne rfl hl6) (jg2_ne rfl hl7) (jg2_ne rfl hl8) (jg2_ne rfl hl9) (jg2_ne rfl hl11) (jg2_ne rfl hl12) (jg2_ne rfl hl13) (jg2_ne rfl hl15) (jg2_ne rfl hl17) (jg2_ne rfl hl18) (jg2_ne rfl hl19) (jg2_ne rfl hl20) (jg2_ne rfl hl21) (jg2_ne rfl hl22) (jg2_ne rfl hl23) (jg2_ne rfl hl24) (jg2_ne rfl hl25) (jg2_ne rfl hl26) (jg2_ne rfl hl27) (jg2_ne rfl hl28) (jg2_ne rfl hl30) (jg2_ne rfl hl32) (jg2_ne rfl hl33) (jg2_ne rfl hl34) (jg2_ne rfl hl35) jg2_same (jg2_ne rfl hl41) h
set_option maxRecDepth 10000 in
set_option maxHeartbeats 4000000 in
theorem r_L_law_1055 {N M B : Nat} {SA : Nat → Nat} {d : Nat} (hd : M + 8 ≤ d) {k517 : Nat → Nat → Int32 → Nat → Nat → Nat → Nat → Nat → Nat → Bool → Int32 → Int32 → Int64 → Int64 → Nat → Nat → Nat → Nat → Nat → Nat → Nat → Int32 → Int32 → Nat → Int32 → JMem → Option (Bool × JMem)} (i517 : ∀ (L : JLoc) (v1 : Nat) (v2 : Nat) (v3 : Int32) (v4 : Nat) (v5 : Nat) (v6 : Nat) (v7 : Nat) (v8 : Nat) (v9 : Nat) (v10 : Bool) (v11 : Int32) (v12 : Int32) (v13 : Int64) (v15 : Int64) (v17 : Nat) (v18 : Nat) (v19 : Nat) (v20 : Nat) (v21 : Nat) (v22 : Nat) (v23 : Nat) (v24 : Int32) (v25 : Int32) (v26 : Nat) (v27 : Int32) (μ : JMem) (r : Bool) (μ9 : JMem), jget L 1 = .ref v1 → jget L 2 = .ref v2 → jget L 3 = .int v3 → jget L 4 = .ref v4 → jget L 5 = .ref v5 → jget L 6 = .ref v6 → jget L 7 = .ref v7 → jget L 8 = .ref v8 → jget L 9 = .ref v9 → jget L 10 = .int (jb v10) → jget L 11 = .int v11 → jget L 12 = .int v12 → jget L 13 = .long v13 → jget L 15 = .long v15 → jget L 17 = .ref v17 → jget L 18 = .ref v18 → jget L 19 = .ref v19 → jget L 20 = .ref v20 → jget L 21 = .ref v21 → jget L 22 = .ref v22 → jget L 23 = .ref v23 → jget L 24 = .int v24 → jget L 25 = .int v25 → jget L 26 = .ref v26 → jget L 27 = .int v27 → k517 v1 v2 v3 v4 v5 v6 v7 v8 v9 v10 v11 v12 v13 v15 v17 v18 v19 v20 v21 v22 v23 v24 v25 v26 v27 μ = some (r, μ9) → jR B SA d m_L_law 517 L [] μ (some (.int (jb r))) μ9) {k553 : Nat → Nat → Int32 → Nat → Nat → Nat → Nat → Nat → Nat → Int32 → Int32 → Int64 → Int64 → Nat → Nat → Nat → Nat → Nat → Nat → Nat → Int32 → Int32 → Nat → Int32 → Int64 → Int64 → Int32 → JMem → Option (Bool × JMem)} (i553 : ∀ (L : JLoc) (v1 : Nat) (v2 : Nat) (v3 : Int32) (v4 : Nat) (v5 : Nat) (v6 : Nat) (v7 : Nat) (v8 : Nat) (v9 : Nat) (v11 : Int32) (v12 : Int32) (v13 : Int64) (v15 : Int64) (v17 : Nat) (v18 : Nat) (v19 : Nat) (v20 : Nat) (v21 : Nat) (v22 : Nat) (v23 : Nat) (v24 : Int32) (v25 : Int32) (v26 : Nat) (v27 : Int32) (v28 : Int64) (v30 : Int64) (v32 : Int32) (μ : JMem) (r : Bool) (μ9 : JMem), jget L 1 = .ref v1 → jget L 2 = .ref v2 → jget L 3 = .int v3 → jget L 4 = .ref v4 → jget L 5 = .ref v5 → jget L 6 = .ref v6 → jget L 7 = .ref v7 → jget L 8 = .ref v8 → jget L 9 = .ref v9 → jget L 11 = .int v11 → jget L 12 = .int v12 → jget L 13 = .long v13 → jget L 15 = .long v15 → jget L 17 = .ref v17 → jget L 18 = .ref v18 → jget L 19 = .ref v19 → jget L 20 = .ref v20 → jget L 21 = .ref v21 → jget L 22 = .ref v22 → jget L 23 = .ref v23 → jget L 24 = .int v24 → jget L 25 = .int v25 → jget L 26 = .ref v26 → jget L 27 = .int v27 → jget L 28 = .long v28 → jget L 30 = .long v30 → jget L 32 = .int v32 → k553 v1 v2 v3 v4 v5 v6 v7 v8 v9 v11 v12 v13 v15 v17 v18 v19 v20 v21 v22 v23 v24 v25 v26 v27 v28 v30 v32 μ = some (r, μ9) → jR B SA d m_L_law 553 L [] μ (some (.int (jb r))) μ9) {k634 : Nat → Nat → Int32 → Nat → Nat → Nat → Nat → Nat → Nat → Int32 → Int32 → Int64 → Int64 → Nat → Nat → Nat → Nat → Nat → Nat → Nat → Int32 → Int32 → Nat → Int32 → Int64 → Int64 → Int32 → Int32 → Int32 → Int64 → Int64 → Int32 → JMem → Option (Bool × JMem)} (i634 : ∀ (L : JLoc) (v1 : Nat) (v2 : Nat) (v3 : Int32) (v4 : Nat) (v5 : Nat) (v6 : Nat) (v7 : Nat) (v8 : Nat) (v9 : Nat) (v11 : Int32) (v12 : Int32) (v13 : Int64) (v15 : Int64) (v17 : Nat) (v18 : Nat) (v19 : Nat) (v20 : Nat) (v21 : Nat) (v22 : Nat) (v23 : Nat) (v24 : Int32) (v25 : Int32) (v26 : Nat) (v27 : Int32) (v28 : Int64) (v30 : Int64) (v32 : Int32) (v33 : Int32) (v34 : Int32) (v35 : Int64) (v37 : Int64) (v41 : Int32) (μ : JMem) (r : Bool) (μ9 : JMem), jget L 1 = .ref v1 → jget L 2 = .ref v2 → jget L 3 = .int v3 → jget L 4 = .ref v4 → jget L 5 = .ref v5 → jget L 6 = .ref v6 → jget L 7 = .ref v7 → jget L 8 = .ref v8 → jget L 9 = .ref v9 → jget L 11 = .int v11 → jget L 12 = .int v12 → jget L 13 = .long v13 → jget L 15 = .long v15 → jget L 17 = .ref v17 → jget L 18 = .ref v18 → jget L 19 = .ref v19 → jget L 20 = .ref v20 → jget L 21 = .ref v21 → jget L 22 = .ref v22 → jget L 23 = .ref v23 → jget L 24 = .int v24 → jget L 25 = .int v25 → jget L 26 = .ref v26 → jget L 27 = .int v27 → jget L 28 = .long v28 → jget L 30 = .long v30 → jget L 32 = .int v32 → jget L 33 = .int v33 → jget L 34 = .int v34 → jget L 35 = .long v35 → jget L 37 = .long v37 → jget L 41 = .int v41 → k634 v1 v2 v3 v4 v5 v6 v7 v8 v9 v11 v12 v13 v15 v17 v18 v19 v20 v21 v22 v23 v24 v25 v26 v27 v28 v30 v32 v33 v34 v35 v37 v41 μ = some (r, μ9) → jR B SA d m_L_law 634 L [] μ (some (.int (jb r))) μ9) : ∀ (L : JLoc) (v1 : Nat) (v2 : Nat) (v3 : Int32) (v4 : Nat) (v5 : Nat) (v6 : Nat) (v7 : Nat) (v8 : Nat) (v9 : Nat) (v11 : Int32) (v12 : Int32) (v13 : Int64) (v15 : Int64) (v17 : Nat) (v18 : Nat) (v19 : Nat) (v20 : Nat) (v21 : Nat) (v22 : Nat) (v23 : Nat) (v24 : Int32) (v25 : Int32) (v26 : Nat) (v27 : Int32) (v28 : Int64) (v30 : Int64) (v32 : Int32) (v33 : Int32) (v34 : Int32) (v35 : Int64) (v37 : Int64) (v41 : Int32) (μ : JMem) (r : Bool) (μ9 : JMem), jget L 1 = .ref v1 → jget L 2 = .ref v2 → jget L 3 = .int v3 → jget L 4 = .ref v4 → jget L 5 = .ref v5 → jget L 6 = .ref v6 → jget L 7 = .ref v7 → jget L 8 = .ref v8 → jget L 9 = .ref v9 → jget L 11 = .int v11 → jget L 12 = .int v12 → jget L 13 = .long v13 → jget L 15 = .long v15 → jget L 17 = .ref v17 → jget L 18 = .ref v18 → jget L 19 = .ref v19 → jget L 20 = .ref v20 → jget L 21 = .ref v21 → jget L 22 = .ref v22 → jget L 23 = .ref v23 → jget L 24 = .int v24 → jget L 25 = .int v25 → jget L 26 = .ref v26 → jget L 27 = .int v27 → jget L 28 = .long v28 → jget L 30 = .long v30 → jget L 32 = .int v32 → jget L 33 = .int v33 → jget L 34 = .int v34 → jget L 35 = .long v35 → jget L 37 = .long v37 → jget L 41 = .int v41 → g_L_law_1055 N M B SA k517 k553 k634 v1 v2 v3 v4 v5 v6 v7 v8 v9 v11 v12 v13 v15 v17 v18 v19 v20 v21 v22 v23 v24 v25 v26 v27 v28 v30 v32 v33 v34 v35 v37 v41 μ = some (r, μ9) → jR B SA d m_L_law 1055 L [] μ (some (.int (jb r))) μ9 := by
  intro L v1 v2 v3 v4 v5 v6 v7 v8 v9 v11 v12 v13 v15 v17 v18 v19 v20 v21 v22 v23 v24 v25 v26 v27 v28 v30 v32 v33 v34 v35 v37 v41 μ r μ9 hl1 hl2 hl3 hl4 hl5 hl6 hl7 hl8 hl9 hl11 hl12 hl13 hl15 hl17 hl18 hl19 hl20 hl21 hl22 hl23 hl24 hl25 hl26 hl27 hl28 hl30 hl32 hl33 hl34 hl35 hl37 hl41 h
  unfold g_L_law_1055 at h
  refine jr_lload jf_145_1055 hl37 ?_
  exact r_L_law_1057 hd i517 i553 i634 _ _ _ _ _ _ _ _ _ _ _ _ _ _ _ _ _ _ _ _ _ _ _ _ _ _ _ _ _ _ _ _ _ _ _ _ hl1 hl2 hl3 hl4 hl5 hl6 hl7 hl8 hl9 hl11 hl12 hl13 hl15 hl17 hl18 hl19 hl20 hl21 hl22 hl23 hl24 hl25 hl26 hl27 hl28 hl30 hl32 hl33 hl34 hl35 hl41 h
set_option maxRecDepth 10000 in
set_option maxHeartbeats 4000000 in
theorem r_L_law_1008 {N M B : Nat} {SA : Nat → Nat} {d : Nat} (hd : M + 8 ≤ d) {k517 : Nat → Nat → Int32 → Nat → Nat → Nat → Nat → Nat → Nat → Bool → Int32 → Int32 → Int64 → Int64 → Nat → Nat → Nat → Nat → Nat → Nat → Nat → Int32 → Int32 → Nat → Int32 → JMem → Option (Bool × JMem)} (i517 : ∀ (L : JLoc) (v1 : Nat) (v2 : Nat) (v3 : Int32) (v4 : Nat) (v5 : Nat) (v6 : Nat) (v7 : Nat) (v8 : Nat) (v9 : Nat) (v10 : Bool) (v11 : Int32) (v12 : Int32) (v13 : Int64) (v15 : Int64) (v17 : Nat) (v18 : Nat) (v19 : Nat) (v20 : Nat) (v21 : Nat) (v22 : Nat) (v23 : Nat) (v24 : Int32) (v25 : Int32) (v26 : Nat) (v27 : Int32) (μ : JMem) (r : Bool) (μ9 : JMem), jget L 1 = .ref v1 → jget L 2 = .ref v2 → jget L 3 = .int v3 → jget L 4 = .ref v4 → jget L 5 = .ref v5 → jget L 6 = .ref v6 → jget L 7 = .ref v7 → jget L 8 = .ref v8 → jget L 9 = .ref v9 → jget L 10 = .int (jb v10) → jget L 11 = .int v11 → jget L 12 = .int v12 → jget L 13 = .long v13 → jget L 15 = .long v15 → jget L 17 = .ref v17 → jget L 18 = .ref v18 → jget L 19 = .ref v19 → jget L 20 = .ref v20 → jget L 21 = .ref v21 → jget L 22 = .ref v22 → jget L 23 = .ref v23 → jget L 24 = .int v24 → jget L 25 = .int v25 → jget L 26 = .ref v26 → jget L 27 = .int v27 → k517 v1 v2 v3 v4 v5 v6 v7 v8 v9 v10 v11 v12 v13 v15 v17 v18 v19 v20 v21 v22 v23 v24 v25 v26 v27 μ = some (r, μ9) → jR B SA d m_L_law 517 L [] μ (some (.int (jb r))) μ9) {k553 : Nat → Nat → Int32 → Nat → Nat → Nat → Nat → Nat → Nat → Int32 → Int32 → Int64 → Int64 → Nat → Nat → Nat → Nat → Nat → Nat → Nat → Int32 → Int32 → Nat → Int32 → Int64 → Int64 → Int32 → JMem → Option (Bool × JMem)} (i553 : ∀ (L : JLoc) (v1 : Nat) (v2 : Nat) (v3 : Int32) (v4 : Nat) (v5 : Nat) (v6 : Nat) (v7 : Nat) (v8 : Nat) (v9 : Nat) (v11 : Int32) (v12 : Int32) (v13 : Int64) (v15 : Int64) (v17 : Nat) (v18 : Nat) (v19 : Nat) (v20 : Nat) (v21 : Nat) (v22 : Nat) (v23 : Nat) (v24 : Int32) (v25 : Int32) (v26 : Nat) (v27 : Int32) (v28 : Int64) (v30 : Int64) (v32 : Int32) (μ : JMem) (r : Bool) (μ9 : JMem), jget L 1 = .ref v1 → jget L 2 = .ref v2 → jget L 3 = .int v3 → jget L 4 = .ref v4 → jget L 5 = .ref v5 → jget L 6 = .ref v6 → jget L 7 = .ref v7 → jget L 8 = .ref v8 → jget L 9 = .ref v9 → jget L 11 = .int v11 → jget L 12 = .int v12 → jget L 13 = .long v13 → jget L 15 = .long v15 → jget L 17 = .ref v17 → jget L 18 = .ref v18 → jget L 19 = .ref v19 → jget L 20 = .ref v20 → jget L 21 = .ref v21 → jget L 22 = .ref v22 → jget L 23 = .ref v23 → jget L 24 = .int v24 → jget L 25 = .int v25 → jget L 26 = .ref v26 → jget L 27 = .int v27 → jget L 28 = .long v28 → jget L 30 = .long v30 → jget L 32 = .int v32 → k553 v1 v2 v3 v4 v5 v6 v7 v8 v9 v11 v12 v13 v15 v17 v18 v19 v20 v21 v22 v23 v24 v25 v26 v27 v28 v30 v32 μ = some (r, μ9) → jR B SA d m_L_law 553 L [] μ (some (.int (jb r))) μ9) {k634 : Nat → Nat → Int32 → Nat → Nat → Nat → Nat → Nat → Nat → Int32 → Int32 → Int64 → Int64 → Nat → Nat → Nat → Nat → Nat → Nat → Nat → Int32 → Int32 → Nat → Int32 → Int64 → Int64 → Int32 → Int32 → Int32 → Int64 → Int64 → Int32 → JMem → Option (Bool × JMem)} (i634 : ∀ (L : JLoc) (v1 : Nat) (v2 : Nat) (v3 : Int32) (v4 : Nat) (v5 : Nat) (v6 : Nat) (v7 : Nat) (v8 : Nat) (v9 : Nat) (v11 : Int32) (v12 : Int32) (v13 : Int64) (v15 : Int64) (v17 : Nat) (v18 : Nat) (v19 : Nat) (v20 : Nat) (v21 : Nat) (v22 : Nat) (v23 : Nat) (v24 : Int32) (v25 : Int32) (v26 : Nat) (v27 : Int32) (v28 : Int64) (v30 : Int64) (v32 : Int32) (v33 : Int32) (v34 : Int32) (v35 : Int64) (v37 : Int64) (v41 : Int32) (μ : JMem) (r : Bool) (μ9 : JMem), jget L 1 = .ref v1 → jget L 2 = .ref v2 → jget L 3 = .int v3 → jget L 4 = .ref v4 → jget L 5 = .ref v5 → jget L 6 = .ref v6 → jget L 7 = .ref v7 → jget L 8 = .ref v8 → jget L 9 = .ref v9 → jget L 11 = .int v11 → jget L 12 = .int v12 → jget L 13 = .long v13 → jget L 15 = .long v15 → jget L 17 = .ref v17 → jget L 18 = .ref v18 → jget L 19 = .ref v19 → jget L 20 = .ref v20 → jget L 21 = .ref v21 → jget L 22 = .ref v22 → jget L 23 = .ref v23 → jget L 24 = .int v24 → jget L 25 = .int v25 → jget L 26 = .ref v26 → jget L 27 = .int v27 → jget L 28 = .long v28 → jget L 30 = .long v30 → jget L 32 = .int v32 → jget L 33 = .int v33 → jget L 34 = .int v34 → jget L 35 = .long v35 → jget L 37 = .long v37 → jget L 41 = .int v41 → k634 v1 v2 v3 v4 v5 v6 v7 v8 v9 v11 v12 v13 v15 v17 v18 v19 v20 v21 v22 v23 v24 v25 v26 v27 v28 v30 v32 v33 v34 v35 v37 v41 μ = some (r, μ9) → jR B SA d m_L_law 634 L [] μ (some (.int (jb r))) μ9) : ∀ (L : JLoc) (v1 : Nat) (v2 : Nat) (v3 : Int32) (v4 : Nat) (v5 : Nat) (v6 : Nat) (v7 : Nat) (v8 : Nat) (v9 : Nat) (v11 : Int32) (v12 : Int32) (v13 : Int64) (v15 : Int64) (v17 : Nat) (v18 : Nat) (v19 : Nat) (v20 : Nat) (v21 : Nat) (v22 : Nat) (v23 : Nat) (v24 : Int32) (v25 : Int32) (v26 : Nat) (v27 : Int32) (v28 : Int64) (v30 : Int64) (v32 : Int32) (v33 : Int32) (v34 : Int32) (v37 : Int64) (v41 : Int32) (v44 : Int64) (μ : JMem) (r : Bool) (μ9 : JMem), jget L 1 = .ref v1 → jget L 2 = .ref v2 → jget L 3 = .int v3 → jget L 4 = .ref v4 → jget L 5 = .ref v5 → jget L 6 = .ref v6 → jget L 7 = .ref v7 → jget L 8 = .ref v8 → jget L 9 = .ref v9 → jget L 11 = .int v11 → jget L 12 = .int v12 → jget L 13 = .long v13 → jget L 15 = .long v15 → jget L 17 = .ref v17 → jget L 18 = .ref v18 → jget L 19 = .ref v19 → jget L 20 = .ref v20 → jget L 21 = .ref v21 → jget L 22 = .ref v22 → jget L 23 = .ref v23 → jget L 24 = .int v24 → jget L 25 = .int v25 → jget L 26 = .ref v26 → jget L 27 = .int v27 → jget L 28 = .long v28 → jget L 30 = .long v30 → jget L 32 = .int v32 → jget L 33 = .int v33 → jget L 34 = .int v34 → jget L 37 = .long v37 → jget L 41 = .int v41 → jget L 44 = .long v44 → g_L_law_1008 N M B SA k517 k553 k634 v1 v2 v3 v4 v5 v6 v7 v8 v9 v11 v12 v13 v15 v17 v18 v19 v20 v21 v22 v23 v24 v25 v26 v27 v28 v30 v32 v33 v34 v37 v41 v44 μ = some (r, μ9) → jR B SA d m_L_law 1008 L [] μ (some (.int (jb r))) μ9 := by
  intro L v1 v2 v3 v4 v5 v6 v7 v8 v9 v11 v12 v13 v15 v17 v18 v19 v20 v21 v22 v23 v24 v25 v26 v27 v28 v30 v32 v33 v34 v37 v41 v44 μ r μ9 hl1 hl2 hl3 hl4 hl5 hl6 hl7 hl8 hl9 hl11 hl12 hl13 hl15 hl17 hl18 hl19 hl20 hl21 hl22 hl23 hl24 hl25 hl26 hl27 hl28 hl30 hl32 hl33 hl34 hl37 hl41 hl44 h
  unfold g_L_law_1008 at h
  refine jr_lload jf_145_1008 hl44 ?_
  refine jr_aload jf_145_1010 hl6 ?_
  refine jr_iload jf_145_1012 hl32 ?_
  replace h := obd_of h; obtain ⟨x1, hx1, h⟩ := h
  refine jr_iaload jf_145_1014 hx1 ?_
  refine jr_S3_2 jf_145_1015 (by omega) (r_L_fit (by omega) _ _ _ _ rfl) (Nat.le_of_ble_eq_true rfl) jml_144 (Nat.le_of_ble_eq_true rfl) ?_
  refine jr_lstore jf_145_1018 jml_145 (by decide) ?_
  refine jr_iload jf_145_1020 (jg2_ne rfl hl41) ?_
  refine jr_iload jf_145_1022 (jg2_ne rfl hl33) ?_
  replace h := ite_or h; rcases h with ⟨hc, h⟩ | ⟨hc, h⟩
  · refine jr_if2_ge_t jf_145_1024 hc ?_
    refine jr_aload jf_145_1034 (jg2_ne rfl hl4) ?_
    refine jr_iload jf_145_1036 (jg2_ne rfl hl32) ?_
    replace h := obd_of h; obtain ⟨x2, hx2, h⟩ := h
    refine jr_iaload jf_145_1038 hx2 ?_
    refine jr_iconst jf_145_1039 jc_i_5 ?_
    replace h := ite_or h; rcases h with ⟨hc, h⟩ | ⟨hc, h⟩
    · refine jr_if2_ne_f jf_145_1040 hc ?_
      refine jr_iload jf_145_1043 (jg2_ne rfl hl41) ?_
      refine jr_iload jf_145_1045 (jg2_ne rfl hl33) ?_
      replace h := ite_or h; rcases h with ⟨hc, h⟩ | ⟨hc, h⟩
      · refine jr_if2_ne_f jf_145_1047 hc ?_
        refine jr_lload jf_145_1050 jg2_same ?_
        refine jr_goto jf_145_1052 ?_
        exact r_L_law_1057 hd i517 i553 i634 _ _ _ _ _ _ _ _ _ _ _ _ _ _ _ _ _ _ _ _ _ _ _ _ _ _ _ _ _ _ _ _ _ _ _ _ (jg2_ne rfl hl1) (jg2_ne rfl hl2) (jg2_ne rfl hl3) (jg2_ne rfl hl4) (jg2_ne rfl hl5) (jg2_ne rfl hl6) (jg2_ne rfl hl7) (jg2_ne rfl hl8) (jg2_ne rfl hl9) (jg2_ne rfl hl11) (jg2_ne rfl hl12) (jg2_ne rfl hl13) (jg2_ne rfl hl15) (jg2_ne rfl hl17) (jg2_ne rfl hl18) (jg2_ne rfl hl19) (jg2_ne rfl hl20) (jg2_ne rfl hl21) (jg2_ne rfl hl22) (jg2_ne rfl hl23) (jg2_ne rfl hl24) (jg2_ne rfl hl25) (jg2_ne rfl hl26) (jg2_ne rfl hl27) (jg2_ne rfl hl28) (jg2_ne rfl hl30) (jg2_ne rfl hl32) (jg2_ne rfl hl33) (jg2_pre rfl hl34) jg2_same (jg2_ne rfl hl41) h
      · refine jr_if2_ne_t jf_145_1047 hc ?_
        exact r_L_law_1055 hd i517 i553 i634 _ _ _ _ _ _ _ _ _ _ _ _ _ _ _ _ _ _ _ _ _ _ _ _ _ _ _ _ _ _ _ _ _ _ _ _ (jg2_ne rfl hl1) (jg2_ne rfl hl2) (jg2_ne rfl hl3) (jg2_ne rfl hl4) (jg2_ne rfl hl5) (jg2_ne rfl hl6) (jg2_ne rfl hl7) (jg2_ne rfl hl8) (jg2_ne rfl hl9) (jg2_ne rfl hl11) (jg2_ne rfl hl12) (jg2_ne rfl hl13) (jg2_ne rfl hl15) (jg2_ne rfl hl17) (jg2_ne rfl hl18) (jg2_ne rfl hl19) (jg2_ne rfl hl20) (jg2_ne rfl hl21) (jg2_ne rfl hl22) (jg2_ne rfl hl23) (jg2_ne rfl hl24) (jg2_ne rfl hl25) (jg2_ne rfl hl26) (jg2_ne rfl hl27) (jg2_ne rfl hl28) (jg2_ne rfl hl30) (jg2_ne rfl hl32) (jg2_ne rfl hl33) (jg2_pre rfl hl34) jg2_same (jg2_ne rfl hl37) (jg2_ne rfl hl41) h
    · refine jr_if2_ne_t jf_145_1040 hc ?_
      exact r_L_law_1055 hd i517 i553 i634 _ _ _ _ _ _ _ _ _ _ _ _ _ _ _ _ _ _ _ _ _ _ _ _ _ _ _ _ _ _ _ _ _ _ _ _ (jg2_ne rfl hl1) (jg2_ne rfl hl2) (jg2_ne rfl hl3) (jg2_ne rfl hl4) (jg2_ne rfl hl5) (jg2_ne rfl hl6) (jg2_ne rfl hl7) (jg2_ne rfl hl8) (jg2_ne rfl hl9) (jg2_ne rfl hl11) (jg2_ne rfl hl12) (jg2_ne rfl hl13) (jg2_ne rfl hl15) (jg2_ne rfl hl17) (jg2_ne rfl hl18) (jg2_ne rfl hl19) (jg2_ne rfl hl20) (jg2_ne rfl hl21) (jg2_ne rfl hl22) (jg2_ne rfl hl23) (jg2_ne rfl hl24) (jg2_ne rfl hl25) (jg2_ne rfl hl26) (jg2_ne rfl hl27) (jg2_ne rfl hl28) (jg2_ne rfl hl30) (jg2_ne rfl hl32) (jg2_ne rfl hl33) (jg2_pre rfl hl34) jg2_same (jg2_ne rfl hl37) (jg2_ne rfl hl41) h
  · refine jr_if2_ge_f jf_145_1024 hc ?_
    refine jr_lload jf_145_1027 jg2_same ?_
    refine jr_lstore jf_145_1029 jml_145 (by decide) ?_
    refine jr_goto jf_145_1031 ?_
    exact r_L_law_1059 hd i517 i553 i634 _ _ _ _ _ _ _ _ _ _ _ _ _ _ _ _ _ _ _ _ _ _ _ _ _ _ _ _ _ _ _ _ _ _ _ _ (jg2_ne rfl (jg2_ne rfl hl1)) (jg2_ne rfl (jg2_ne rfl hl2)) (jg2_ne rfl (jg2_ne rfl hl3)) (jg2_ne rfl (jg2_ne rfl hl4)) (jg2_ne rfl (jg2_ne rfl hl5)) (jg2_ne rfl (jg2_ne rfl hl6)) (jg2_ne rfl (jg2_ne rfl hl7)) (jg2_ne rfl (jg2_ne rfl hl8)) (jg2_ne rfl (jg2_ne rfl hl9)) (jg2_ne rfl (jg2_ne rfl hl11)) (jg2_ne rfl (jg2_ne rfl hl12)) (jg2_ne rfl (jg2_ne rfl hl13)) (jg2_ne rfl (jg2_ne rfl hl15)) (jg2_ne rfl (jg2_ne rfl hl17)) (jg2_ne rfl (jg2_ne rfl hl18)) (jg2_ne rfl (jg2_ne rfl hl19)) (jg2_ne rfl (jg2_ne rfl hl20)) (jg2_ne rfl (jg2_ne rfl hl21)) (jg2_ne rfl (jg2_ne rfl hl22)) (jg2_ne rfl (jg2_ne rfl hl23)) (jg2_ne rfl (jg2_ne rfl hl24)) (jg2_ne rfl (jg2_ne rfl hl25)) (jg2_ne rfl (jg2_ne rfl hl26)) (jg2_pre rfl (jg2_ne rfl hl27)) jg2_same (jg2_ne rfl (jg2_ne rfl hl30)) (jg2_ne rfl (jg2_ne rfl hl32)) (jg2_ne rfl (jg2_ne rfl hl33)) (jg2_ne rfl (jg2_pre rfl hl34)) (jg2_ne rfl jg2_same) (jg2_ne rfl (jg2_ne rfl hl37)) (jg2_ne rfl (jg2_ne rfl hl41)) h
set_option maxRecDepth 10000 in
set_option maxHeartbeats 4000000 in
theorem r_L_law_999 {N M B : Nat} {SA : Nat → Nat} {d : Nat} (hd : M + 8 ≤ d) {k517 : Nat → Nat → Int32 → Nat → Nat → Nat → Nat → Nat → Nat → Bool → Int32 → Int32 → Int64 → Int64 → Nat → Nat → Nat → Nat → Nat → Nat → Nat → Int32 → Int32 → Nat → Int32 → JMem → Option (Bool × JMem)} (i517 : ∀ (L : JLoc) (v1 : Nat) (v2 : Nat) (v3 : Int32) (v4 : Nat) (v5 : Nat) (v6 : Nat) (v7 : Nat) (v8 : Nat) (v9 : Nat) (v10 : Bool) (v11 : Int32) (v12 : Int32) (v13 : Int64) (v15 : Int64) (v17 : Nat) (v18 : Nat) (v19 : Nat) (v20 : Nat) (v21 : Nat) (v22 : Nat) (v23 : Nat) (v24 : Int32) (v25 : Int32) (v26 : Nat) (v27 : Int32) (μ : JMem) (r : Bool) (μ9 : JMem), jget L 1 = .ref v1 → jget L 2 = .ref v2 → jget L 3 = .int v3 → jget L 4 = .ref v4 → jget L 5 = .ref v5 → jget L 6 = .ref v6 → jget L 7 = .ref v7 → jget L 8 = .ref v8 → jget L 9 = .ref v9 → jget L 10 = .int (jb v10) → jget L 11 = .int v11 → jget L 12 = .int v12 → jget L 13 = .long v13 → jget L 15 = .long v15 → jget L 17 = .ref v17 → jget L 18 = .ref v18 → jget L 19 = .ref v19 → jget L 20 = .ref v20 → jget L 21 = .ref v21 → jget L 22 = .ref v22 → jget L 23 = .ref v23 → jget L 24 = .int v24 → jget L 25 = .int v25 → jget L 26 = .ref v26 → jget L 27 = .int v27 → k517 v1 v2 v3 v4 v5 v6 v7 v8 v9 v10 v11 v12 v13 v15 v17 v18 v19 v20 v21 v22 v23 v24 v25 v26 v27 μ = some (r, μ9) → jR B SA d m_L_law 517 L [] μ (some (.int (jb r))) μ9) {k553 : Nat → Nat → Int32 → Nat → Nat → Nat → Nat → Nat → Nat → Int32 → Int32 → Int64 → Int64 → Nat → Nat → Nat → Nat → Nat → Nat → Nat → Int32 → Int32 → Nat → Int32 → Int64 → Int64 → Int32 → JMem → Option (Bool × JMem)} (i553 : ∀ (L : JLoc) (v1 : Nat) (v2 : Nat) (v3 : Int32) (v4 : Nat) (v5 : Nat) (v6 : Nat) (v7 : Nat) (v8 : Nat) (v9 : Nat) (v11 : Int32) (v12 : Int32) (v13 : Int64) (v15 : Int64) (v17 : Nat) (v18 : Nat) (v19 : Nat) (v20 : Nat) (v21 : Nat) (v22 : Nat) (v23 : Nat) (v24 : Int32) (v25 : Int32) (v26 : Nat) (v27 : Int32) (v28 : Int64) (v30 : Int64) (v32 : Int32) (μ : JMem) (r : Bool) (μ9 : JMem), jget L 1 = .ref v1 → jget L 2 = .ref v2 → jget L 3 = .int v3 → jget L 4 = .ref v4 → jget L 5 = .ref v5 → jget L 6 = .ref v6 → jget L 7 = .ref v7 → jget L 8 = .ref v8 → jget L 9 = .ref v9 → jget L 11 = .int v11 → jget L 12 = .int v12 → jget L 13 = .long v13 → jget L 15 = .long v15 → jget L 17 = .ref v17 → jget L 18 = .ref v18 → jget L 19 = .ref v19 → jget L 20 = .ref v20 → jget L 21 = .ref v21 → jget L 22 = .ref v22 → jget L 23 = .ref v23 → jget L 24 = .int v24 → jget L 25 = .int v25 → jget L 26 = .ref v26 → jget L 27 = .int v27 → jget L 28 = .long v28 → jget L 30 = .long v30 → jget L 32 = .int v32 → k553 v1 v2 v3 v4 v5 v6 v7 v8 v9 v11 v12 v13 v15 v17 v18 v19 v20 v21 v22 v23 v24 v25 v26 v27 v28 v30 v32 μ = some (r, μ9) → jR B SA d m_L_law 553 L [] μ (some (.int (jb r))) μ9) {k634 : Nat → Nat → Int32 → Nat → Nat → Nat → Nat → Nat → Nat → Int32 → Int32 → Int64 → Int64 → Nat → Nat → Nat → Nat → Nat → Nat → Nat → Int32 → Int32 → Nat → Int32 → Int64 → Int64 → Int32 → Int32 → Int32 → Int64 → Int64 → Int32 → JMem → Option (Bool × JMem)} (i634 : ∀ (L : JLoc) (v1 : Nat) (v2 : Nat) (v3 : Int32) (v4 : Nat) (v5 : Nat) (v6 : Nat) (v7 : Nat) (v8 : Nat) (v9 : Nat) (v11 : Int32) (v12 : Int32) (v13 : Int64) (v15 : Int64) (v17 : Nat) (v18 : Nat) (v19 : Nat) (v20 : Nat) (v21 : Nat) (v22 : Nat) (v23 : Nat) (v24 : Int32) (v25 : Int32) (v26 : Nat) (v27 : Int32) (v28 : Int64) (v30 : Int64) (v32 : Int32) (v33 : Int32) (v34 : Int32) (v35 : Int64) (v37 : Int64) (v41 : Int32) (μ : JMem) (r : Bool) (μ9 : JMem), jget L 1 = .ref v1 → jget L 2 = .ref v2 → jget L 3 = .int v3 → jget L 4 = .ref v4 → jget L 5 = .ref v5 → jget L 6 = .ref v6 → jget L 7 = .ref v7 → jget L 8 = .ref v8 → jget L 9 = .ref v9 → jget L 11 = .int v11 → jget L 12 = .int v12 → jget L 13 = .long v13 → jget L 15 = .long v15 → jget L 17 = .ref v17 → jget L 18 = .ref v18 → jget L 19 = .ref v19 → jget L 20 = .ref v20 → jget L 21 = .ref v21 → jget L 22 = .ref v22 → jget L 23 = .ref v23 → jget L 24 = .int v24 → jget L 25 = .int v25 → jget L 26 = .ref v26 → jget L 27 = .int v27 → jget L 28 = .long v28 → jget L 30 = .long v30 → jget L 32 = .int v32 → jget L 33 = .int v33 → jget L 34 = .int v34 → jget L 35 = .long v35 → jget L 37 = .long v37 → jget L 41 = .int v41 → k634 v1 v2 v3 v4 v5 v6 v7 v8 v9 v11 v12 v13 v15 v17 v18 v19 v20 v21 v22 v23 v24 v25 v26 v27 v28 v30 v32 v33 v34 v35 v37 v41 μ = some (r, μ9) → jR B SA d m_L_law 634 L [] μ (some (.int (jb r))) μ9) : ∀ (L : JLoc) (v1 : Nat) (v2 : Nat) (v3 : Int32) (v4 : Nat) (v5 : Nat) (v6 : Nat) (v7 : Nat) (v8 : Nat) (v9 : Nat) (v11 : Int32) (v12 : Int32) (v13 : Int64) (v15 : Int64) (v17 : Nat) (v18 : Nat) (v19 : Nat) (v20 : Nat) (v21 : Nat) (v22 : Nat) (v23 : Nat) (v24 : Int32) (v25 : Int32) (v26 : Nat) (v27 : Int32) (v28 : Int64) (v30 : Int64) (v32 : Int32) (v33 : Int32) (v34 : Int32) (v37 : Int64) (v41 : Int32) (v44 : Int64) (μ : JMem) (r : Bool) (μ9 : JMem), jget L 1 = .ref v1 → jget L 2 = .ref v2 → jget L 3 = .int v3 → jget L 4 = .ref v4 → jget L 5 = .ref v5 → jget L 6 = .ref v6 → jget L 7 = .ref v7 → jget L 8 = .ref v8 → jget L 9 = .ref v9 → jget L 11 = .int v11 → jget L 12 = .int v12 → jget L 13 = .long v13 → jget L 15 = .long v15 → jget L 17 = .ref v17 → jget L 18 = .ref v18 → jget L 19 = .ref v19 → jget L 20 = .ref v20 → jget L 21 = .ref v21 → jget L 22 = .ref v22 → jget L 23 = .ref v23 → jget L 24 = .int v24 → jget L 25 = .int v25 → jget L 26 = .ref v26 → jget L 27 = .int v27 → jget L 28 = .long v28 → jget L 30 = .long v30 → jget L 32 = .int v32 → jget L 33 = .int v33 → jget L 34 = .int v34 → jget L 37 = .long v37 → jget L 41 = .int v41 → jget L 44 = .long v44 → g_L_law_999 N M B SA k517 k553 k634 v1 v2 v3 v4 v5 v6 v7 v8 v9 v11 v12 v13 v15 v17 v18 v19 v20 v21 v22 v23 v24 v25 v26 v27 v28 v30 v32 v33 v34 v37 v41 v44 μ = some (r, μ9) → jR B SA d m_L_law 999 L [] μ (some (.int (jb r))) μ9 := by
  intro L v1 v2 v3 v4 v5 v6 v7 v8 v9 v11 v12 v13 v15 v17 v18 v19 v20 v21 v22 v23 v24 v25 v26 v27 v28 v30 v32 v33 v34 v37 v41 v44 μ r μ9 hl1 hl2 hl3 hl4 hl5 hl6 hl7 hl8 hl9 hl11 hl12 hl13 hl15 hl17 hl18 hl19 hl20 hl21 hl22 hl23 hl24 hl25 hl26 hl27 hl28 hl30 hl32 hl33 hl34 hl37 hl41 hl44 h
  unfold g_L_law_999 at h
  refine jr_aload jf_145_999 hl21 ?_
  refine jr_iload jf_145_1001 hl32 ?_
  refine jr_dup2_1 jf_145_1003 rfl rfl ?_
  replace h := obd_of h; obtain ⟨x1, hx1, h⟩ := h
  refine jr_iaload jf_145_1004 hx1 ?_
  refine jr_iconst jf_145_1005 jc_i_1 ?_
  refine jr_iadd jf_145_1006 ?_
  replace h := obd_of h; obtain ⟨μ2, hμ2, h⟩ := h
  refine jr_iastore jf_145_1007 hμ2 ?_
  exact r_L_law_1008 hd i517 i553 i634 _ _ _ _ _ _ _ _ _ _ _ _ _ _ _ _ _ _ _ _ _ _ _ _ _ _ _ _ _ _ _ _ _ _ _ _ hl1 hl2 hl3 hl4 hl5 hl6 hl7 hl8 hl9 hl11 hl12 hl13 hl15 hl17 hl18 hl19 hl20 hl21 hl22 hl23 hl24 hl25 hl26 hl27 hl28 hl30 hl32 hl33 hl34 hl37 hl41 hl44 h
set_option maxRecDepth 10000 in
set_option maxHeartbeats 4000000 in
theorem r_L_law_981 {N M B : Nat} {SA : Nat → Nat} {d : Nat} (hd : M + 8 ≤ d) {k517 : Nat → Nat → Int32 → Nat → Nat → Nat → Nat → Nat → Nat → Bool → Int32 → Int32 → Int64 → Int64 → Nat → Nat → Nat → Nat → Nat → Nat → Nat → Int32 → Int32 → Nat → Int32 → JMem → Option (Bool × JMem)} (i517 : ∀ (L : JLoc) (v1 : Nat) (v2 : Nat) (v3 : Int32) (v4 : Nat) (v5 : Nat) (v6 : Nat) (v7 : Nat) (v8 : Nat) (v9 : Nat) (v10 : Bool) (v11 : Int32) (v12 : Int32) (v13 : Int64) (v15 : Int64) (v17 : Nat) (v18 : Nat) (v19 : Nat) (v20 : Nat) (v21 : Nat) (v22 : Nat) (v23 : Nat) (v24 : Int32) (v25 : Int32) (v26 : Nat) (v27 : Int32) (μ : JMem) (r : Bool) (μ9 : JMem), jget L 1 = .ref v1 → jget L 2 = .ref v2 → jget L 3 = .int v3 → jget L 4 = .ref v4 → jget L 5 = .ref v5 → jget L 6 = .ref v6 → jget L 7 = .ref v7 → jget L 8 = .ref v8 → jget L 9 = .ref v9 → jget L 10 = .int (jb v10) → jget L 11 = .int v11 → jget L 12 = .int v12 → jget L 13 = .long v13 → jget L 15 = .long v15 → jget L 17 = .ref v17 → jget L 18 = .ref v18 → jget L 19 = .ref v19 → jget L 20 = .ref v20 → jget L 21 = .ref v21 → jget L 22 = .ref v22 → jget L 23 = .ref v23 → jget L 24 = .int v24 → jget L 25 = .int v25 → jget L 26 = .ref v26 → jget L 27 = .int v27 → k517 v1 v2 v3 v4 v5 v6 v7 v8 v9 v10 v11 v12 v13 v15 v17 v18 v19 v20 v21 v22 v23 v24 v25 v26 v27 μ = some (r, μ9) → jR B SA d m_L_law 517 L [] μ (some (.int (jb r))) μ9) {k553 : Nat → Nat → Int32 → Nat → Nat → Nat → Nat → Nat → Nat → Int32 → Int32 → Int64 → Int64 → Nat → Nat → Nat → Nat → Nat → Nat → Nat → Int32 → Int32 → Nat → Int32 → Int64 → Int64 → Int32 → JMem → Option (Bool × JMem)} (i553 : ∀ (L : JLoc) (v1 : Nat) (v2 : Nat) (v3 : Int32) (v4 : Nat) (v5 : Nat) (v6 : Nat) (v7 : Nat) (v8 : Nat) (v9 : Nat) (v11 : Int32) (v12 : Int32) (v13 : Int64) (v15 : Int64) (v17 : Nat) (v18 : Nat) (v19 : Nat) (v20 : Nat) (v21 : Nat) (v22 : Nat) (v23 : Nat) (v24 : Int32) (v25 : Int32) (v26 : Nat) (v27 : Int32) (v28 : Int64) (v30 : Int64) (v32 : Int32) (μ : JMem) (r : Bool) (μ9 : JMem), jget L 1 = .ref v1 → jget L 2 = .ref v2 → jget L 3 = .int v3 → jget L 4 = .ref v4 → jget L 5 = .ref v5 → jget L 6 = .ref v6 → jget L 7 = .ref v7 → jget L 8 = .ref v8 → jget L 9 = .ref v9 → jget L 11 = .int v11 → jget L 12 = .int v12 → jget L 13 = .long v13 → jget L 15 = .long v15 → jget L 17 = .ref v17 → jget L 18 = .ref v18 → jget L 19 = .ref v19 → jget L 20 = .ref v20 → jget L 21 = .ref v21 → jget L 22 = .ref v22 → jget L 23 = .ref v23 → jget L 24 = .int v24 → jget L 25 = .int v25 → jget L 26 = .ref v26 → jget L 27 = .int v27 → jget L 28 = .long v28 → jget L 30 = .long v30 → jget L 32 = .int v32 → k553 v1 v2 v3 v4 v5 v6 v7 v8 v9 v11 v12 v13 v15 v17 v18 v19 v20 v21 v22 v23 v24 v25 v26 v27 v28 v30 v32 μ = some (r, μ9) → jR B SA d m_L_law 553 L [] μ (some (.int (jb r))) μ9) {k634 : Nat → Nat → Int32 → Nat → Nat → Nat → Nat → Nat → Nat → Int32 → Int32 → Int64 → Int64 → Nat → Nat → Nat → Nat → Nat → Nat → Nat → Int32 → Int32 → Nat → Int32 → Int64 → Int64 → Int32 → Int32 → Int32 → Int64 → Int64 → Int32 → JMem → Option (Bool × JMem)} (i634 : ∀ (L : JLoc) (v1 : Nat) (v2 : Nat) (v3 : Int32) (v4 : Nat) (v5 : Nat) (v6 : Nat) (v7 : Nat) (v8 : Nat) (v9 : Nat) (v11 : Int32) (v12 : Int32) (v13 : Int64) (v15 : Int64) (v17 : Nat) (v18 : Nat) (v19 : Nat) (v20 : Nat) (v21 : Nat) (v22 : Nat) (v23 : Nat) (v24 : Int32) (v25 : Int32) (v26 : Nat) (v27 : Int32) (v28 : Int64) (v30 : Int64) (v32 : Int32) (v33 : Int32) (v34 : Int32) (v35 : Int64) (v37 : Int64) (v41 : Int32) (μ : JMem) (r : Bool) (μ9 : JMem), jget L 1 = .ref v1 → jget L 2 = .ref v2 → jget L 3 = .int v3 → jget L 4 = .ref v4 → jget L 5 = .ref v5 → jget L 6 = .ref v6 → jget L 7 = .ref v7 → jget L 8 = .ref v8 → jget L 9 = .ref v9 → jget L 11 = .int v11 → jget L 12 = .int v12 → jget L 13 = .long v13 → jget L 15 = .long v15 → jget L 17 = .ref v17 → jget L 18 = .ref v18 → jget L 19 = .ref v19 → jget L 20 = .ref v20 → jget L 21 = .ref v21 → jget L 22 = .ref v22 → jget L 23 = .ref v23 → jget L 24 = .int v24 → jget L 25 = .int v25 → jget L 26 = .ref v26 → jget L 27 = .int v27 → jget L 28 = .long v28 → jget L 30 = .long v30 → jget L 32 = .int v32 → jget L 33 = .int v33 → jget L 34 = .int v34 → jget L 35 = .long v35 → jget L 37 = .long v37 → jget L 41 = .int v41 → k634 v1 v2 v3 v4 v5 v6 v7 v8 v9 v11 v12 v13 v15 v17 v18 v19 v20 v21 v22 v23 v24 v25 v26 v27 v28 v30 v32 v33 v34 v35 v37 v41 μ = some (r, μ9) → jR B SA d m_L_law 634 L [] μ (some (.int (jb r))) μ9) : ∀ (L : JLoc) (v1 : Nat) (v2 : Nat) (v3 : Int32) (v4 : Nat) (v5 : Nat) (v6 : Nat) (v7 : Nat) (v8 : Nat) (v9 : Nat) (v11 : Int32) (v12 : Int32) (v13 : Int64) (v15 : Int64) (v17 : Nat) (v18 : Nat) (v19 : Nat) (v20 : Nat) (v21 : Nat) (v22 : Nat) (v23 : Nat) (v24 : Int32) (v25 : Int32) (v26 : Nat) (v27 : Int32) (v28 : Int64) (v30 : Int64) (v32 : Int32) (v33 : Int32) (v34 : Int32) (v37 : Int64) (v41 : Int32) (v44 : Int64) (μ : JMem) (r : Bool) (μ9 : JMem), jget L 1 = .ref v1 → jget L 2 = .ref v2 → jget L 3 = .int v3 → jget L 4 = .ref v4 → jget L 5 = .ref v5 → jget L 6 = .ref v6 → jget L 7 = .ref v7 → jget L 8 = .ref v8 → jget L 9 = .ref v9 → jget L 11 = .int v11 → jget L 12 = .int v12 → jget L 13 = .long v13 → jget L 15 = .long v15 → jget L 17 = .ref v17 → jget L 18 = .ref v18 → jget L 19 = .ref v19 → jget L 20 = .ref v20 → jget L 21 = .ref v21 → jget L 22 = .ref v22 → jget L 23 = .ref v23 → jget L 24 = .int v24 → jget L 25 = .int v25 → jget L 26 = .ref v26 → jget L 27 = .int v27 → jget L 28 = .long v28 → jget L 30 = .long v30 → jget L 32 = .int v32 → jget L 33 = .int v33 → jget L 34 = .int v34 → jget L 37 = .long v37 → jget L 41 = .int v41 → jget L 44 = .long v44 → g_L_law_981 N M B SA k517 k553 k634 v1 v2 v3 v4 v5 v6 v7 v8 v9 v11 v12 v13 v15 v17 v18 v19 v20 v21 v22 v23 v24 v25 v26 v27 v28 v30 v32 v33 v34 v37 v41 v44 μ = some (r, μ9) → jR B SA d m_L_law 981 L [] μ (some (.int (jb r))) μ9 := by
  intro L v1 v2 v3 v4 v5 v6 v7 v8 v9 v11 v12 v13 v15 v17 v18 v19 v20 v21 v22 v23 v24 v25 v26 v27 v28 v30 v32 v33 v34 v37 v41 v44 μ r μ9 hl1 hl2 hl3 hl4 hl5 hl6 hl7 hl8 hl9 hl11 hl12 hl13 hl15 hl17 hl18 hl19 hl20 hl21 hl22 hl23 hl24 hl25 hl26 hl27 hl28 hl30 hl32 hl33 hl34 hl37 hl41 hl44 h
  unfold g_L_law_981 at h
  refine jr_lload jf_145_981 hl44 ?_
  refine jr_ldc2l jf_145_983 ?_
  refine jr_lcmp jf_145_986 ?_
  replace h := ite_or h; rcases h with ⟨hc, h⟩ | ⟨hc, h⟩
  · refine jr_ifl_lt_t jf_145_987 hc ?_
    exact r_L_law_999 hd i517 i553 i634 _ _ _ _ _ _ _ _ _ _ _ _ _ _ _ _ _ _ _ _ _ _ _ _ _ _ _ _ _ _ _ _ _ _ _ _ hl1 hl2 hl3 hl4 hl5 hl6 hl7 hl8 hl9 hl11 hl12 hl13 hl15 hl17 hl18 hl19 hl20 hl21 hl22 hl23 hl24 hl25 hl26 hl27 hl28 hl30 hl32 hl33 hl34 hl37 hl41 hl44 h
  · refine jr_ifl_lt_f jf_145_987 hc ?_
    refine jr_lload jf_145_990 hl44 ?_
    refine jr_ldc2l jf_145_992 ?_
    refine jr_lcmp jf_145_995 ?_
    replace h := ite_or h; rcases h with ⟨hc, h⟩ | ⟨hc, h⟩
    · refine jr_ifl_le_t jf_145_996 hc ?_
      exact r_L_law_1008 hd i517 i553 i634 _ _ _ _ _ _ _ _ _ _ _ _ _ _ _ _ _ _ _ _ _ _ _ _ _ _ _ _ _ _ _ _ _ _ _ _ hl1 hl2 hl3 hl4 hl5 hl6 hl7 hl8 hl9 hl11 hl12 hl13 hl15 hl17 hl18 hl19 hl20 hl21 hl22 hl23 hl24 hl25 hl26 hl27 hl28 hl30 hl32 hl33 hl34 hl37 hl41 hl44 h
    · refine jr_ifl_le_f jf_145_996 hc ?_
      exact r_L_law_999 hd i517 i553 i634 _ _ _ _ _ _ _ _ _ _ _ _ _ _ _ _ _ _ _ _ _ _ _ _ _ _ _ _ _ _ _ _ _ _ _ _ hl1 hl2 hl3 hl4 hl5 hl6 hl7 hl8 hl9 hl11 hl12 hl13 hl15 hl17 hl18 hl19 hl20 hl21 hl22 hl23 hl24 hl25 hl26 hl27 hl28 hl30 hl32 hl33 hl34 hl37 hl41 hl44 h
set_option maxRecDepth 10000 in
set_option maxHeartbeats 4000000 in
theorem r_L_law_956 {N M B : Nat} {SA : Nat → Nat} {d : Nat} (hd : M + 8 ≤ d) {k517 : Nat → Nat → Int32 → Nat → Nat → Nat → Nat → Nat → Nat → Bool → Int32 → Int32 → Int64 → Int64 → Nat → Nat → Nat → Nat → Nat → Nat → Nat → Int32 → Int32 → Nat → Int32 → JMem → Option (Bool × JMem)} (i517 : ∀ (L : JLoc) (v1 : Nat) (v2 : Nat) (v3 : Int32) (v4 : Nat) (v5 : Nat) (v6 : Nat) (v7 : Nat) (v8 : Nat) (v9 : Nat) (v10 : Bool) (v11 : Int32) (v12 : Int32) (v13 : Int64) (v15 : Int64) (v17 : Nat) (v18 : Nat) (v19 : Nat) (v20 : Nat) (v21 : Nat) (v22 : Nat) (v23 : Nat) (v24 : Int32) (v25 : Int32) (v26 : Nat) (v27 : Int32) (μ : JMem) (r : Bool) (μ9 : JMem), jget L 1 = .ref v1 → jget L 2 = .ref v2 → jget L 3 = .int v3 → jget L 4 = .ref v4 → jget L 5 = .ref v5 → jget L 6 = .ref v6 → jget L 7 = .ref v7 → jget L 8 = .ref v8 → jget L 9 = .ref v9 → jget L 10 = .int (jb v10) → jget L 11 = .int v11 → jget L 12 = .int v12 → jget L 13 = .long v13 → jget L 15 = .long v15 → jget L 17 = .ref v17 → jget L 18 = .ref v18 → jget L 19 = .ref v19 → jget L 20 = .ref v20 → jget L 21 = .ref v21 → jget L 22 = .ref v22 → jget L 23 = .ref v23 → jget L 24 = .int v24 → jget L 25 = .int v25 → jget L 26 = .ref v26 → jget L 27 = .int v27 → k517 v1 v2 v3 v4 v5 v6 v7 v8 v9 v10 v11 v12 v13 v15 v17 v18 v19 v20 v21 v22 v23 v24 v25 v26 v27 μ = some (r, μ9) → jR B SA d m_L_law 517 L [] μ (some (.int (jb r))) μ9) {k553 : Nat → Nat → Int32 → Nat → Nat → Nat → Nat → Nat → Nat → Int32 → Int32 → Int64 → Int64 → Nat → Nat → Nat → Nat → Nat → Nat → Nat → Int32 → Int32 → Nat → Int32 → Int64 → Int64 → Int32 → JMem → Option (Bool × JMem)} (i553 : ∀ (L : JLoc) (v1 : Nat) (v2 : Nat) (v3 : Int32) (v4 : Nat) (v5 : Nat) (v6 : Nat) (v7 : Nat) (v8 : Nat) (v9 : Nat) (v11 : Int32) (v12 : Int32) (v13 : Int64) (v15 : Int64) (v17 : Nat) (v18 : Nat) (v19 : Nat) (v20 : Nat) (v21 : Nat) (v22 : Nat) (v23 : Nat) (v24 : Int32) (v25 : Int32) (v26 : Nat) (v27 : Int32) (v28 : Int64) (v30 : Int64) (v32 : Int32) (μ : JMem) (r : Bool) (μ9 : JMem), jget L 1 = .ref v1 → jget L 2 = .ref v2 → jget L 3 = .int v3 → jget L 4 = .ref v4 → jget L 5 = .ref v5 → jget L 6 = .ref v6 → jget L 7 = .ref v7 → jget L 8 = .ref v8 → jget L 9 = .ref v9 → jget L 11 = .int v11 → jget L 12 = .int v12 → jget L 13 = .long v13 → jget L 15 = .long v15 → jget L 17 = .ref v17 → jget L 18 = .ref v18 → jget L 19 = .ref v19 → jget L 20 = .ref v20 → jget L 21 = .ref v21 → jget L 22 = .ref v22 → jget L 23 = .ref v23 → jget L 24 = .int v24 → jget L 25 = .int v25 → jget L 26 = .ref v26 → jget L 27 = .int v27 → jget L 28 = .long v28 → jget L 30 = .long v30 → jget L 32 = .int v32 → k553 v1 v2 v3 v4 v5 v6 v7 v8 v9 v11 v12 v13 v15 v17 v18 v19 v20 v21 v22 v23 v24 v25 v26 v27 v28 v30 v32 μ = some (r, μ9) → jR B SA d m_L_law 553 L [] μ (some (.int (jb r))) μ9) {k634 : Nat → Nat → Int32 → Nat → Nat → Nat → Nat → Nat → Nat → Int32 → Int32 → Int64 → Int64 → Nat → Nat → Nat → Nat → Nat → Nat → Nat → Int32 → Int32 → Nat → Int32 → Int64 → Int64 → Int32 → Int32 → Int32 → Int64 → Int64 → Int32 → JMem → Option (Bool × JMem)} (i634 : ∀ (L : JLoc) (v1 : Nat) (v2 : Nat) (v3 : Int32) (v4 : Nat) (v5 : Nat) (v6 : Nat) (v7 : Nat) (v8 : Nat) (v9 : Nat) (v11 : Int32) (v12 : Int32) (v13 : Int64) (v15 : Int64) (v17 : Nat) (v18 : Nat) (v19 : Nat) (v20 : Nat) (v21 : Nat) (v22 : Nat) (v23 : Nat) (v24 : Int32) (v25 : Int32) (v26 : Nat) (v27 : Int32) (v28 : Int64) (v30 : Int64) (v32 : Int32) (v33 : Int32) (v34 : Int32) (v35 : Int64) (v37 : Int64) (v41 : Int32) (μ : JMem) (r : Bool) (μ9 : JMem), jget L 1 = .ref v1 → jget L 2 = .ref v2 → jget L 3 = .int v3 → jget L 4 = .ref v4 → jget L 5 = .ref v5 → jget L 6 = .ref v6 → jget L 7 = .ref v7 → jget L 8 = .ref v8 → jget L 9 = .ref v9 → jget L 11 = .int v11 → jget L 12 = .int v12 → jget L 13 = .long v13 → jget L 15 = .long v15 → jget L 17 = .ref v17 → jget L 18 = .ref v18 → jget L 19 = .ref v19 → jget L 20 = .ref v20 → jget L 21 = .ref v21 → jget L 22 = .ref v22 → jget L 23 = .ref v23 → jget L 24 = .int v24 → jget L 25 = .int v25 → jget L 26 = .ref v26 → jget L 27 = .int v27 → jget L 28 = .long v28 → jget L 30 = .long v30 → jget L 32 = .int v32 → jget L 33 = .int v33 → jget L 34 = .int v34 → jget L 35 = .long v35 → jget L 37 = .long v37 → jget L 41 = .int v41 → k634 v1 v2 v3 v4 v5 v6 v7 v8 v9 v11 v12 v13 v15 v17 v18 v19 v20 v21 v22 v23 v24 v25 v26 v27 v28 v30 v32 v33 v34 v35 v37 v41 μ = some (r, μ9) → jR B SA d m_L_law 634 L [] μ (some (.int (jb r))) μ9) : ∀ (L : JLoc) (v1 : Nat) (v2 : Nat) (v3 : Int32) (v4 : Nat) (v5 : Nat) (v6 : Nat) (v7 : Nat) (v8 : Nat) (v9 : Nat) (v11 : Int32) (v12 : Int32) (v13 : Int64) (v15 : Int64) (v17 : Nat) (v18 : Nat) (v19 : Nat) (v20 : Nat) (v21 : Nat) (v22 : Nat) (v23 : Nat) (v24 : Int32) (v25 : Int32) (v26 : Nat) (v27 : Int32) (v28 : Int64) (v30 : Int64) (v32 : Int32) (v33 : Int32) (v34 : Int32) (v37 : Int64) (v41 : Int32) (v42 : Int64) (s0 : Int64) (μ : JMem) (r : Bool) (μ9 : JMem), jget L 1 = .ref v1 → jget L 2 = .ref v2 → jget L 3 = .int v3 → jget L 4 = .ref v4 → jget L 5 = .ref v5 → jget L 6 = .ref v6 → jget L 7 = .ref v7 → jget L 8 = .ref v8 → jget L 9 = .ref v9 → jget L 11 = .int v11 → jget L 12 = .int v12 → jget L 13 = .long v13 → jget L 15 = .long v15 → jget L 17 = .ref v17 → jget L 18 = .ref v18 → jget L 19 = .ref v19 → jget L 20 = .ref v20 → jget L 21 = .ref v21 → jget L 22 = .ref v22 → jget L 23 = .ref v23 → jget L 24 = .int v24 → jget L 25 = .int v25 → jget L 26 = .ref v26 → jget L 27 = .int v27 → jget L 28 = .long v28 → jget L 30 = .long v30 → jget L 32 = .int v32 → jget L 33 = .int v33 → jget L 34 = .int v34 → jget L 37 = .long v37 → jget L 41 = .int v41 → jget L 42 = .long v42 → g_L_law_956 N M B SA k517 k553 k634 v1 v2 v3 v4 v5 v6 v7 v8 v9 v11 v12 v13 v15 v17 v18 v19 v20 v21 v22 v23 v24 v25 v26 v27 v28 v30 v32 v33 v34 v37 v41 v42 s0 μ = some (r, μ9) → jR B SA d m_L_law 956 L [.long s0] μ (some (.int (jb r))) μ9 := by
  intro L v1 v2 v3 v4 v5 v6 v7 v8 v9 v11 v12 v13 v15 v17 v18 v19 v20 v21 v22 v23 v24 v25 v26 v27 v28 v30 v32 v33 v34 v37 v41 v42 s0 μ r μ9 hl1 hl2 hl3 hl4 hl5 hl6 hl7 hl8 hl9 hl11 hl12 hl13 hl15 hl17 hl18 hl19 hl20 hl21 hl22 hl23 hl24 hl25 hl26 hl27 hl28 hl30 hl32 hl33 hl34 hl37 hl41 hl42 h
  unfold g_L_law_956 at h
  refine jr_lstore jf_145_956 jml_145 (by decide) ?_
  refine jr_aload jf_145_958 (jg2_ne rfl hl5) ?_
  refine jr_iload jf_145_960 (jg2_ne rfl hl32) ?_
  replace h := obd_of h; obtain ⟨x1, hx1, h⟩ := h
  refine jr_iaload jf_145_962 hx1 ?_
  refine jr_iconst jf_145_963 jc_i_2 ?_
  replace h := ite_or h; rcases h with ⟨hc, h⟩ | ⟨hc, h⟩
  · refine jr_if2_ne_f jf_145_964 hc ?_
    refine jr_aload jf_145_967 (jg2_ne rfl hl20) ?_
    refine jr_iload jf_145_969 (jg2_ne rfl hl32) ?_
    refine jr_lload jf_145_971 (jg2_ne rfl hl42) ?_
    refine jr_ldc2l jf_145_973 ?_
    refine jr_lload jf_145_976 jg2_same ?_
    refine jr_lmul jf_145_978 ?_
    refine jr_lsub jf_145_979 ?_
    replace h := obd_of h; obtain ⟨μ2, hμ2, h⟩ := h
    refine jr_lastore jf_145_980 hμ2 ?_
    exact r_L_law_981 hd i517 i553 i634 _ _ _ _ _ _ _ _ _ _ _ _ _ _ _ _ _ _ _ _ _ _ _ _ _ _ _ _ _ _ _ _ _ _ _ _ (jg2_ne rfl hl1) (jg2_ne rfl hl2) (jg2_ne rfl hl3) (jg2_ne rfl hl4) (jg2_ne rfl hl5) (jg2_ne rfl hl6) (jg2_ne rfl hl7) (jg2_ne rfl hl8) (jg2_ne rfl hl9) (jg2_ne rfl hl11) (jg2_ne rfl hl12) (jg2_ne rfl hl13) (jg2_ne rfl hl15) (jg2_ne rfl hl17) (jg2_ne rfl hl18) (jg2_ne rfl hl19) (jg2_ne rfl hl20) (jg2_ne rfl hl21) (jg2_ne rfl hl22) (jg2_ne rfl hl23) (jg2_ne rfl hl24) (jg2_ne rfl hl25) (jg2_ne rfl hl26) (jg2_ne rfl hl27) (jg2_ne rfl hl28) (jg2_ne rfl hl30) (jg2_ne rfl hl32) (jg2_ne rfl hl33) (jg2_ne rfl hl34) (jg2_ne rfl hl37) (jg2_ne rfl hl41) jg2_same h
  · refine jr_if2_ne_t jf_145_964 hc ?_
    exact r_L_law_981 hd i517 i553 i634 _ _ _ _ _ _ _ _ _ _ _ _ _ _ _ _ _ _ _ _ _ _ _ _ _ _ _ _ _ _ _ _ _ _ _ _ (jg2_ne rfl hl1) (jg2_ne rfl hl2) (jg2_ne rfl hl3) (jg2_ne rfl hl4) (jg2_ne rfl hl5) (jg2_ne rfl hl6) (jg2_ne rfl hl7) (jg2_ne rfl hl8) (jg2_ne rfl hl9) (jg2_ne rfl hl11) (jg2_ne rfl hl12) (jg2_ne rfl hl13) (jg2_ne rfl hl15) (jg2_ne rfl hl17) (jg2_ne rfl hl18) (jg2_ne rfl hl19) (jg2_ne rfl hl20) (jg2_ne rfl hl21) (jg2_ne rfl hl22) (jg2_ne rfl hl23) (jg2_ne rfl hl24) (jg2_ne rfl hl25) (jg2_ne rfl hl26) (jg2_ne rfl hl27) (jg2_ne rfl hl28) (jg2_ne rfl hl30) (jg2_ne rfl hl32) (jg2_ne rfl hl33) (jg2_ne rfl hl34) (jg2_ne rfl hl37) (jg2_ne rfl hl41) jg2_same h
set_option maxRecDepth 10000 in
set_option maxHeartbeats 4000000 in
theorem r_L_law_930 {N M B : Nat} {SA : Nat → Nat} {d : Nat} (hd : M + 8 ≤ d) {k517 : Nat → Nat → Int32 → Nat → Nat → Nat → Nat → Nat → Nat → Bool → Int32 → Int32 → Int64 → Int64 → Nat → Nat → Nat → Nat → Nat → Nat → Nat → Int32 → Int32 → Nat → Int32 → JMem → Option (Bool × JMem)} (i517 : ∀ (L : JLoc) (v1 : Nat) (v2 : Nat) (v3 : Int32) (v4 : Nat) (v5 : Nat) (v6 : Nat) (v7 : Nat) (v8 : Nat) (v9 : Nat) (v10 : Bool) (v11 : Int32) (v12 : Int32) (v13 : Int64) (v15 : Int64) (v17 : Nat) (v18 : Nat) (v19 : Nat) (v20 : Nat) (v21 : Nat) (v22 : Nat) (v23 : Nat) (v24 : Int32) (v25 : Int32) (v26 : Nat) (v27 : Int32) (μ : JMem) (r : Bool) (μ9 : JMem), jget L 1 = .ref v1 → jget L 2 = .ref v2 → jget L 3 = .int v3 → jget L 4 = .ref v4 → jget L 5 = .ref v5 → jget L 6 = .ref v6 → jget L 7 = .ref v7 → jget L 8 = .ref v8 → jget L 9 = .ref v9 → jget L 10 = .int (jb v10) → jget L 11 = .int v11 → jget L 12 = .int v12 → jget L 13 = .long v13 → jget L 15 = .long v15 → jget L 17 = .ref v17 → jget L 18 = .ref v18 → jget L 19 = .ref v19 → jget L 20 = .ref v20 → jget L 21 = .ref v21 → jget L 22 = .ref v22 → jget L 23 = .ref v23 → jget L 24 = .int v24 → jget L 25 = .int v25 → jget L 26 = .ref v26 → jget L 27 = .int v27 → k517 v1 v2 v3 v4 v5 v6 v7 v8 v9 v10 v11 v12 v13 v15 v17 v18 v19 v20 v21 v22 v23 v24 v25 v26 v27 μ = some (r, μ9) → jR B SA d m_L_law 517 L [] μ (some (.int (jb r))) μ9) {k553 : Nat → Nat → Int32 → Nat → Nat → Nat → Nat → Nat → Nat → Int32 → Int32 → Int64 → Int64 → Nat → Nat → Nat → Nat → Nat → Nat → Nat → Int32 → Int32 → Nat → Int32 → Int64 → Int64 → Int32 → JMem → Option (Bool × JMem)} (i553 : ∀ (L : JLoc) (v1 : Nat) (v2 : Nat) (v3 : Int32) (v4 : Nat) (v5 : Nat) (v6 : Nat) (v7 : Nat) (v8 : Nat) (v9 : Nat) (v11 : Int32) (v12 : Int32) (v13 : Int64) (v15 : Int64) (v17 : Nat) (v18 : Nat) (v19 : Nat) (v20 : Nat) (v21 : Nat) (v22 : Nat) (v23 : Nat) (v24 : Int32) (v25 : Int32) (v26 : Nat) (v27 : Int32) (v28 : Int64) (v30 : Int64) (v32 : Int32) (μ : JMem) (r : Bool) (μ9 : JMem), jget L 1 = .ref v1 → jget L 2 = .ref v2 → jget L 3 = .int v3 → jget L 4 = .ref v4 → jget L 5 = .ref v5 → jget L 6 = .ref v6 → jget L 7 = .ref v7 → jget L 8 = .ref v8 → jget L 9 = .ref v9 → jget L 11 = .int v11 → jget L 12 = .int v12 → jget L 13 = .long v13 → jget L 15 = .long v15 → jget L 17 = .ref v17 → jget L 18 = .ref v18 → jget L 19 = .ref v19 → jget L 20 = .ref v20 → jget L 21 = .ref v21 → jget L 22 = .ref v22 → jget L 23 = .ref v23 → jget L 24 = .int v24 → jget L 25 = .int v25 → jget L 26 = .ref v26 → jget L 27 = .int v27 → jget L 28 = .long v28 → jget L 30 = .long v30 → jget L 32 = .int v32 → k553 v1 v2 v3 v4 v5 v6 v7 v8 v9 v11 v12 v13 v15 v17 v18 v19 v20 v21 v22 v23 v24 v25 v26 v27 v28 v30 v32 μ = some (r, μ9) → jR B SA d m_L_law 553 L [] μ (some (.int (jb r))) μ9) {k634 : Nat → Nat → Int32 → Nat → Nat → Nat → Nat → Nat → Nat → Int32 → Int32 → Int64 → Int64 → Nat → Nat → Nat → Nat → Nat → Nat → Nat → Int32 → Int32 → Nat → Int32 → Int64 → Int64 → Int32 → Int32 → Int32 → Int64 → Int64 → Int32 → JMem → Option (Bool × JMem)} (i634 : ∀ (L : JLoc) (v1 : Nat) (v2 : Nat) (v3 : Int32) (v4 : Nat) (v5 : Nat) (v6 : Nat) (v7 : Nat) (v8 : Nat) (v9 : Nat) (v11 : Int32) (v12 : Int32) (v13 : Int64) (v15 : Int64) (v17 : Nat) (v18 : Nat) (v19 : Nat) (v20 : Nat) (v21 : Nat) (v22 : Nat) (v23 : Nat) (v24 : Int32) (v25 : Int32) (v26 : Nat) (v27 : Int32) (v28 : Int64) (v30 : Int64) (v32 : Int32) (v33 : Int32) (v34 : Int32) (v35 : Int64) (v37 : Int64) (v41 : Int32) (μ : JMem) (r : Bool) (μ9 : JMem), jget L 1 = .ref v1 → jget L 2 = .ref v2 → jget L 3 = .int v3 → jget L 4 = .ref v4 → jget L 5 = .ref v5 → jget L 6 = .ref v6 → jget L 7 = .ref v7 → jget L 8 = .ref v8 → jget L 9 = .ref v9 → jget L 11 = .int v11 → jget L 12 = .int v12 → jget L 13 = .long v13 → jget L 15 = .long v15 → jget L 17 = .ref v17 → jget L 18 = .ref v18 → jget L 19 = .ref v19 → jget L 20 = .ref v20 → jget L 21 = .ref v21 → jget L 22 = .ref v22 → jget L 23 = .ref v23 → jget L 24 = .int v24 → jget L 25 = .int v25 → jget L 26 = .ref v26 → jget L 27 = .int v27 → jget L 28 = .long v28 → jget L 30 = .long v30 → jget L 32 = .int v32 → jget L 33 = .int v33 → jget L 34 = .int v34 → jget L 35 = .long v35 → jget L 37 = .long v37 → jget L 41 = .int v41 → k634 v1 v2 v3 v4 v5 v6 v7 v8 v9 v11 v12 v13 v15 v17 v18 v19 v20 v21 v22 v23 v24 v25 v26 v27 v28 v30 v32 v33 v34 v35 v37 v41 μ = some (r, μ9) → jR B SA d m_L_law 634 L [] μ (some (.int (jb r))) μ9) : ∀ (L : JLoc) (v1 : Nat) (v2 : Nat) (v3 : Int32) (v4 : Nat) (v5 : Nat) (v6 : Nat) (v7 : Nat) (v8 : Nat) (v9 : Nat) (v11 : Int32) (v12 : Int32) (v13 : Int64) (v15 : Int64) (v17 : Nat) (v18 : Nat) (v19 : Nat) (v20 : Nat) (v21 : Nat) (v22 : Nat) (v23 : Nat) (v24 : Int32) (v25 : Int32) (v26 : Nat) (v27 : Int32) (v28 : Int64) (v30 : Int64) (v32 : Int32) (v33 : Int32) (v34 : Int32) (v37 : Int64) (v41 : Int32) (v42 : Int64) (μ : JMem) (r : Bool) (μ9 : JMem), jget L 1 = .ref v1 → jget L 2 = .ref v2 → jget L 3 = .int v3 → jget L 4 = .ref v4 → jget L 5 = .ref v5 → jget L 6 = .ref v6 → jget L 7 = .ref v7 → jget L 8 = .ref v8 → jget L 9 = .ref v9 → jget L 11 = .int v11 → jget L 12 = .int v12 → jget L 13 = .long v13 → jget L 15 = .long v15 → jget L 17 = .ref v17 → jget L 18 = .ref v18 → jget L 19 = .ref v19 → jget L 20 = .ref v20 → jget L 21 = .ref v21 → jget L 22 = .ref v22 → jget L 23 = .ref v23 → jget L 24 = .int v24 → jget L 25 = .int v25 → jget L 26 = .ref v26 → jget L 27 = .int v27 → jget L 28 = .long v28 → jget L 30 = .long v30 → jget L 32 = .int v32 → jget L 33 = .int v33 → jget L 34 = .int v34 → jget L 37 = .long v37 → jget L 41 = .int v41 → jget L 42 = .long v42 → g_L_law_930 N M B SA k517 k553 k634 v1 v2 v3 v4 v5 v6 v7 v8 v9 v11 v12 v13 v15 v17 v18 v19 v20 v21 v22 v23 v24 v25 v26 v27 v28 v30 v32 v33 v34 v37 v41 v42 μ = some (r, μ9) → jR B SA d m_L_law 930 L [] μ (some (.int (jb r))) μ9 := by
  intro L v1 v2 v3 v4 v5 v6 v7 v8 v9 v11 v12 v13 v15 v17 v18 v19 v20 v21 v22 v23 v24 v25 v26 v27 v28 v30 v32 v33 v34 v37 v41 v42 μ r μ9 hl1 hl2 hl3 hl4 hl5 hl6 hl7 hl8 hl9 hl11 hl12 hl13 hl15 hl17 hl18 hl19 hl20 hl21 hl22 hl23 hl24 hl25 hl26 hl27 hl28 hl30 hl32 hl33 hl34 hl37 hl41 hl42 h
  unfold g_L_law_930 at h
  refine jr_aload jf_145_930 hl5 ?_
  refine jr_iload jf_145_932 hl32 ?_
  replace h := obd_of h; obtain ⟨x1, hx1, h⟩ := h
  refine jr_iaload jf_145_934 hx1 ?_
  replace h := ite_or h; rcases h with ⟨hc, h⟩ | ⟨hc, h⟩
  · refine jr_if_ne_f jf_145_935 hc ?_
    refine jr_lload jf_145_938 hl42 ?_
    refine jr_ldc2l jf_145_940 ?_
    refine jr_ladd jf_145_943 ?_
    refine jr_bipush jf_145_944 jc_b_14 ?_
    refine jr_lshr jf_145_946 ?_
    refine jr_goto jf_145_947 ?_
    exact r_L_law_956 hd i517 i553 i634 _ _ _ _ _ _ _ _ _ _ _ _ _ _ _ _ _ _ _ _ _ _ _ _ _ _ _ _ _ _ _ _ _ _ _ _ _ hl1 hl2 hl3 hl4 hl5 hl6 hl7 hl8 hl9 hl11 hl12 hl13 hl15 hl17 hl18 hl19 hl20 hl21 hl22 hl23 hl24 hl25 hl26 hl27 hl28 hl30 hl32 hl33 hl34 hl37 hl41 hl42 h
  · refine jr_if_ne_t jf_145_935 hc ?_
    refine jr_lload jf_145_950 hl42 ?_
    refine jr_ldc2l jf_145_952 ?_
    refine jr_ldiv jf_145_955 (by simp only [jdivL]; exact if_neg (by decide)) ?_
    exact r_L_law_956 hd i517 i553 i634 _ _ _ _ _ _ _ _ _ _ _ _ _ _ _ _ _ _ _ _ _ _ _ _ _ _ _ _ _ _ _ _ _ _ _ _ _ hl1 hl2 hl3 hl4 hl5 hl6 hl7 hl8 hl9 hl11 hl12 hl13 hl15 hl17 hl18 hl19 hl20 hl21 hl22 hl23 hl24 hl25 hl26 hl27 hl28 hl30 hl32 hl33 hl34 hl37 hl41 hl42 h
set_option maxRecDepth 10000 in
set_option maxHeartbeats 4000000 in
theorem r_L_law_911 {N M B : Nat} {SA : Nat → Nat} {d : Nat} (hd : M + 8 ≤ d) {k517 : Nat → Nat → Int32 → Nat → Nat → Nat → Nat → Nat → Nat → Bool → Int32 → Int32 → Int64 → Int64 → Nat → Nat → Nat → Nat → Nat → Nat → Nat → Int32 → Int32 → Nat → Int32 → JMem → Option (Bool × JMem)} (i517 : ∀ (L : JLoc) (v1 : Nat) (v2 : Nat) (v3 : Int32) (v4 : Nat) (v5 : Nat) (v6 : Nat) (v7 : Nat) (v8 : Nat) (v9 : Nat) (v10 : Bool) (v11 : Int32) (v12 : Int32) (v13 : Int64) (v15 : Int64) (v17 : Nat) (v18 : Nat) (v19 : Nat) (v20 : Nat) (v21 : Nat) (v22 : Nat) (v23 : Nat) (v24 : Int32) (v25 : Int32) (v26 : Nat) (v27 : Int32) (μ : JMem) (r : Bool) (μ9 : JMem), jget L 1 = .ref v1 → jget L 2 = .ref v2 → jget L 3 = .int v3 → jget L 4 = .ref v4 → jget L 5 = .ref v5 → jget L 6 = .ref v6 → jget L 7 = .ref v7 → jget L 8 = .ref v8 → jget L 9 = .ref v9 → jget L 10 = .int (jb v10) → jget L 11 = .int v11 → jget L 12 = .int v12 → jget L 13 = .long v13 → jget L 15 = .long v15 → jget L 17 = .ref v17 → jget L 18 = .ref v18 → jget L 19 = .ref v19 → jget L 20 = .ref v20 → jget L 21 = .ref v21 → jget L 22 = .ref v22 → jget L 23 = .ref v23 → jget L 24 = .int v24 → jget L 25 = .int v25 → jget L 26 = .ref v26 → jget L 27 = .int v27 → k517 v1 v2 v3 v4 v5 v6 v7 v8 v9 v10 v11 v12 v13 v15 v17 v18 v19 v20 v21 v22 v23 v24 v25 v26 v27 μ = some (r, μ9) → jR B SA d m_L_law 517 L [] μ (some (.int (jb r))) μ9) {k553 : Nat → Nat → Int32 → Nat → Nat → Nat → Nat → Nat → Nat → Int32 → Int32 → Int64 → Int64 → Nat → Nat → Nat → Nat → Nat → Nat → Nat → Int32 → Int32 → Nat → Int32 → Int64 → Int64 → Int32 → JMem → Option (Bool × JMem)} (i553 : ∀ (L : JLoc) (v1 : Nat) (v2 : Nat) (v3 : Int32) (v4 : Nat) (v5 : Nat) (v6 : Nat) (v7 : Nat) (v8 : Nat) (v9 : Nat) (v11 : Int32) (v12 : Int32) (v13 : Int64) (v15 : Int64) (v17 : Nat) (v18 : Nat) (v19 : Nat) (v20 : Nat) (v21 : Nat) (v22 : Nat) (v23 : Nat) (v24 : Int32) (v25 : Int32) (v26 : Nat) (v27 : Int32) (v28 : Int64) (v30 : Int64) (v32 : Int32) (μ : JMem) (r : Bool) (μ9 : JMem), jget L 1 = .ref v1 → jget L 2 = .ref v2 → jget L 3 = .int v3 → jget L 4 = .ref v4 → jget L 5 = .ref v5 → jget L 6 = .ref v6 → jget L 7 = .ref v7 → jget L 8 = .ref v8 → jget L 9 = .ref v9 → jget L 11 = .int v11 → jget L 12 = .int v12 → jget L 13 = .long v13 → jget L 15 = .long v15 → jget L 17 = .ref v17 → jget L 18 = .ref v18 → jget L 19 = .ref v19 → jget L 20 = .ref v20 → jget L 21 = .ref v21 → jget L 22 = .ref v22 → jget L 23 = .ref v23 → jget L 24 = .int v24 → jget L 25 = .int v25 → jget L 26 = .ref v26 → jget L 27 = .int v27 → jget L 28 = .long v28 → jget L 30 = .long v30 → jget L 32 = .int v32 → k553 v1 v2 v3 v4 v5 v6 v7 v8 v9 v11 v12 v13 v15 v17 v18 v19 v20 v21 v22 v23 v24 v25 v26 v27 v28 v30 v32 μ = some (r, μ9) → jR B SA d m_L_law 553 L [] μ (some (.int (jb r))) μ9) {k634 : Nat → Nat → Int32 → Nat → Nat → Nat → Nat → Nat → Nat → Int32 → Int32 → Int64 → Int64 → Nat → Nat → Nat → Nat → Nat → Nat → Nat → Int32 → Int32 → Nat → Int32 → Int64 → Int64 → Int32 → Int32 → Int32 → Int64 → Int64 → Int32 → JMem → Option (Bool × JMem)} (i634 : ∀ (L : JLoc) (v1 : Nat) (v2 : Nat) (v3 : Int32) (v4 : Nat) (v5 : Nat) (v6 : Nat) (v7 : Nat) (v8 : Nat) (v9 : Nat) (v11 : Int32) (v12 : Int32) (v13 : Int64) (v15 : Int64) (v17 : Nat) (v18 : Nat) (v19 : Nat) (v20 : Nat) (v21 : Nat) (v22 : Nat) (v23 : Nat) (v24 : Int32) (v25 : Int32) (v26 : Nat) (v27 : Int32) (v28 : Int64) (v30 : Int64) (v32 : Int32) (v33 : Int32) (v34 : Int32) (v35 : Int64) (v37 : Int64) (v41 : Int32) (μ : JMem) (r : Bool) (μ9 : JMem), jget L 1 = .ref v1 → jget L 2 = .ref v2 → jget L 3 = .int v3 → jget L 4 = .ref v4 → jget L 5 = .ref v5 → jget L 6 = .ref v6 → jget L 7 = .ref v7 → jget L 8 = .ref v8 → jget L 9 = .ref v9 → jget L 11 = .int v11 → jget L 12 = .int v12 → jget L 13 = .long v13 → jget L 15 = .long v15 → jget L 17 = .ref v17 → jget L 18 = .ref v18 → jget L 19 = .ref v19 → jget L 20 = .ref v20 → jget L 21 = .ref v21 → jget L 22 = .ref v22 → jget L 23 = .ref v23 → jget L 24 = .int v24 → jget L 25 = .int v25 → jget L 26 = .ref v26 → jget L 27 = .int v27 → jget L 28 = .long v28 → jget L 30 = .long v30 → jget L 32 = .int v32 → jget L 33 = .int v33 → jget L 34 = .int v34 → jget L 35 = .long v35 → jget L 37 = .long v37 → jget L 41 = .int v41 → k634 v1 v2 v3 v4 v5 v6 v7 v8 v9 v11 v12 v13 v15 v17 v18 v19 v20 v21 v22 v23 v24 v25 v26 v27 v28 v30 v32 v33 v34 v35 v37 v41 μ = some (r, μ9) → jR B SA d m_L_law 634 L [] μ (some (.int (jb r))) μ9) : ∀ (L : JLoc) (v1 : Nat) (v2 : Nat) (v3 : Int32) (v4 : Nat) (v5 : Nat) (v6 : Nat) (v7 : Nat) (v8 : Nat) (v9 : Nat) (v11 : Int32) (v12 : Int32) (v13 : Int64) (v15 : Int64) (v17 : Nat) (v18 : Nat) (v19 : Nat) (v20 : Nat) (v21 : Nat) (v22 : Nat) (v23 : Nat) (v24 : Int32) (v25 : Int32) (v26 : Nat) (v27 : Int32) (v28 : Int64) (v30 : Int64) (v32 : Int32) (v33 : Int32) (v34 : Int32) (v37 : Int64) (v41 : Int32) (v42 : Int64) (μ : JMem) (r : Bool) (μ9 : JMem), jget L 1 = .ref v1 → jget L 2 = .ref v2 → jget L 3 = .int v3 → jget L 4 = .ref v4 → jget L 5 = .ref v5 → jget L 6 = .ref v6 → jget L 7 = .ref v7 → jget L 8 = .ref v8 → jget L 9 = .ref v9 → jget L 11 = .int v11 → jget L 12 = .int v12 → jget L 13 = .long v13 → jget L 15 = .long v15 → jget L 17 = .ref v17 → jget L 18 = .ref v18 → jget L 19 = .ref v19 → jget L 20 = .ref v20 → jget L 21 = .ref v21 → jget L 22 = .ref v22 → jget L 23 = .ref v23 → jget L 24 = .int v24 → jget L 25 = .int v25 → jget L 26 = .ref v26 → jget L 27 = .int v27 → jget L 28 = .long v28 → jget L 30 = .long v30 → jget L 32 = .int v32 → jget L 33 = .int v33 → jget L 34 = .int v34 → jget L 37 = .long v37 → jget L 41 = .int v41 → jget L 42 = .long v42 → g_L_law_911 N M B SA k517 k553 k634 v1 v2 v3 v4 v5 v6 v7 v8 v9 v11 v12 v13 v15 v17 v18 v19 v20 v21 v22 v23 v24 v25 v26 v27 v28 v30 v32 v33 v34 v37 v41 v42 μ = some (r, μ9) → jR B SA d m_L_law 911 L [] μ (some (.int (jb r))) μ9 := by
  intro L v1 v2 v3 v4 v5 v6 v7 v8 v9 v11 v12 v13 v15 v17 v18 v19 v20 v21 v22 v23 v24 v25 v26 v27 v28 v30 v32 v33 v34 v37 v41 v42 μ r μ9 hl1 hl2 hl3 hl4 hl5 hl6 hl7 hl8 hl9 hl11 hl12 hl13 hl15 hl17 hl18 hl19 hl20 hl21 hl22 hl23 hl24 hl25 hl26 hl27 hl28 hl30 hl32 hl33 hl34 hl37 hl41 hl42 h
  unfold g_L_law_911 at h
  refine jr_aload jf_145_911 hl5 ?_
  refine jr_iload jf_145_913 hl32 ?_
  replace h := obd_of h; obtain ⟨x1, hx1, h⟩ := h
  refine jr_iaload jf_145_915 hx1 ?_
  refine jr_iconst jf_145_916 jc_i_2 ?_
  replace h := ite_or h; rcases h with ⟨hc, h⟩ | ⟨hc, h⟩
  · refine jr_if2_ne_f jf_145_917 hc ?_
    refine jr_lload jf_145_920 hl42 ?_
    refine jr_aload jf_145_922 hl20 ?_
    refine jr_iload jf_145_924 hl32 ?_
    replace h := obd_of h; obtain ⟨x2, hx2, h⟩ := h
    refine jr_laload jf_145_926 hx2 ?_
    refine jr_ladd jf_145_927 ?_
    refine jr_lstore jf_145_928 jml_145 (by decide) ?_
    exact r_L_law_930 hd i517 i553 i634 _ _ _ _ _ _ _ _ _ _ _ _ _ _ _ _ _ _ _ _ _ _ _ _ _ _ _ _ _ _ _ _ _ _ _ _ (jg2_ne rfl hl1) (jg2_ne rfl hl2) (jg2_ne rfl hl3) (jg2_ne rfl hl4) (jg2_ne rfl hl5) (jg2_ne rfl hl6) (jg2_ne rfl hl7) (jg2_ne rfl hl8) (jg2_ne rfl hl9) (jg2_ne rfl hl11) (jg2_ne rfl hl12) (jg2_ne rfl hl13) (jg2_ne rfl hl15) (jg2_ne rfl hl17) (jg2_ne rfl hl18) (jg2_ne rfl hl19) (jg2_ne rfl hl20) (jg2_ne rfl hl21) (jg2_ne rfl hl22) (jg2_ne rfl hl23) (jg2_ne rfl hl24) (jg2_ne rfl hl25) (jg2_ne rfl hl26) (jg2_ne rfl hl27) (jg2_ne rfl hl28) (jg2_ne rfl hl30) (jg2_ne rfl hl32) (jg2_ne rfl hl33) (jg2_ne rfl hl34) (jg2_ne rfl hl37) (jg2_pre rfl hl41) jg2_same h
  · refine jr_if2_ne_t jf_145_917 hc ?_
    exact r_L_law_930 hd i517 i553 i634 _ _ _ _ _ _ _ _ _ _ _ _ _ _ _ _ _ _ _ _ _ _ _ _ _ _ _ _ _ _ _ _ _ _ _ _ hl1 hl2 hl3 hl4 hl5 hl6 hl7 hl8 hl9 hl11 hl12 hl13 hl15 hl17 hl18 hl19 hl20 hl21 hl22 hl23 hl24 hl25 hl26 hl27 hl28 hl30 hl32 hl33 hl34 hl37 hl41 hl42 h
set_option maxRecDepth 10000 in
set_option maxHeartbeats 4000000 in
theorem r_L_law_686 {N M B : Nat} {SA : Nat → Nat} {d : Nat} (hd : M + 8 ≤ d) {k517 : Nat → Nat → Int32 → Nat → Nat → Nat → Nat → Nat → Nat → Bool → Int32 → Int32 → Int64 → Int64 → Nat → Nat → Nat → Nat → Nat → Nat → Nat → Int32 → Int32 → Nat → Int32 → JMem → Option (Bool × JMem)} (i517 : ∀ (L : JLoc) (v1 : Nat) (v2 : Nat) (v3 : Int32) (v4 : Nat) (v5 : Nat) (v6 : Nat) (v7 : Nat) (v8 : Nat) (v9 : Nat) (v10 : Bool) (v11 : Int32) (v12 : Int32) (v13 : Int64) (v15 : Int64) (v17 : Nat) (v18 : Nat) (v19 : Nat) (v20 : Nat) (v21 : Nat) (v22 : Nat) (v23 : Nat) (v24 : Int32) (v25 : Int32) (v26 : Nat) (v27 : Int32) (μ : JMem) (r : Bool) (μ9 : JMem), jget L 1 = .ref v1 → jget L 2 = .ref v2 → jget L 3 = .int v3 → jget L 4 = .ref v4 → jget L 5 = .ref v5 → jget L 6 = .ref v6 → jget L 7 = .ref v7 → jget L 8 = .ref v8 → jget L 9 = .ref v9 → jget L 10 = .int (jb v10) → jget L 11 = .int v11 → jget L 12 = .int v12 → jget L 13 = .long v13 → jget L 15 = .long v15 → jget L 17 = .ref v17 → jget L 18 = .ref v18 → jget L 19 = .ref v19 → jget L 20 = .ref v20 → jget L 21 = .ref v21 → jget L 22 = .ref v22 → jget L 23 = .ref v23 → jget L 24 = .int v24 → jget L 25 = .int v25 → jget L 26 = .ref v26 → jget L 27 = .int v27 → k517 v1 v2 v3 v4 v5 v6 v7 v8 v9 v10 v11 v12 v13 v15 v17 v18 v19 v20 v21 v22 v23 v24 v25 v26 v27 μ = some (r, μ9) → jR B SA d m_L_law 517 L [] μ (some (.int (jb r))) μ9) {k553 : Nat → Nat → Int32 → Nat → Nat → Nat → Nat → Nat → Nat → Int32 → Int32 → Int64 → Int64 → Nat → Nat → Nat → Nat → Nat → Nat → Nat → Int32 → Int32 → Nat → Int32 → Int64 → Int64 → Int32 → JMem → Option (Bool × JMem)} (i553 : ∀ (L : JLoc) (v1 : Nat) (v2 : Nat) (v3 : Int32) (v4 : Nat) (v5 : Nat) (v6 : Nat) (v7 : Nat) (v8 : Nat) (v9 : Nat) (v11 : Int32) (v12 : Int32) (v13 : Int64) (v15 : Int64) (v17 : Nat) (v18 : Nat) (v19 : Nat) (v20 : Nat) (v21 : Nat) (v22 : Nat) (v23 : Nat) (v24 : Int32) (v25 : Int32) (v26 : Nat) (v27 : Int32) (v28 : Int64) (v30 : Int64) (v32 : Int32) (μ : JMem) (r : Bool) (μ9 : JMem), jget L 1 = .ref v1 → jget L 2 = .ref v2 → jget L 3 = .int v3 → jget L 4 = .ref v4 → jget L 5 = .ref v5 → jget L 6 = .ref v6 → jget L 7 = .ref v7 → jget L 8 = .ref v8 → jget L 9 = .ref v9 → jget L 11 = .int v11 → jget L 12 = .int v12 → jget L 13 = .long v13 → jget L 15 = .long v15 → jget L 17 = .ref v17 → jget L 18 = .ref v18 → jget L 19 = .ref v19 → jget L 20 = .ref v20 → jget L 21 = .ref v21 → jget L 22 = .ref v22 → jget L 23 = .ref v23 → jget L 24 = .int v24 → jget L 25 = .int v25 → jget L 26 = .ref v26 → jget L 27 = .int v27 → jget L 28 = .long v28 → jget L 30 = .long v30 → jget L 32 = .int v32 → k553 v1 v2 v3 v4 v5 v6 v7 v8 v9 v11 v12 v13 v15 v17 v18 v19 v20 v21 v22 v23 v24 v25 v26 v27 v28 v30 v32 μ = some (r, μ9) → jR B SA d m_L_law 553 L [] μ (some (.int (jb r))) μ9) {k634 : Nat → Nat → Int32 → Nat → Nat → Nat → Nat → Nat → Nat → Int32 → Int32 → Int64 → Int64 → Nat → Nat → Nat → Nat → Nat → Nat → Nat → Int32 → Int32 → Nat → Int32 → Int64 → Int64 → Int32 → Int32 → Int32 → Int64 → Int64 → Int32 → JMem → Option (Bool × JMem)} (i634 : ∀ (L : JLoc) (v1 : Nat) (v2 : Nat) (v3 : Int32) (v4 : Nat) (v5 : Nat) (v6 : Nat) (v7 : Nat) (v8 : Nat) (v9 : Nat) (v11 : Int32) (v12 : Int32) (v13 : Int64) (v15 : Int64) (v17 : Nat) (v18 : Nat) (v19 : Nat) (v20 : Nat) (v21 : Nat) (v22 : Nat) (v23 : Nat) (v24 : Int32) (v25 : Int32) (v26 : Nat) (v27 : Int32) (v28 : Int64) (v30 : Int64) (v32 : Int32) (v33 : Int32) (v34 : Int32) (v35 : Int64) (v37 : Int64) (v41 : Int32) (μ : JMem) (r : Bool) (μ9 : JMem), jget L 1 = .ref v1 → jget L 2 = .ref v2 → jget L 3 = .int v3 → jget L 4 = .ref v4 → jget L 5 = .ref v5 → jget L 6 = .ref v6 → jget L 7 = .ref v7 → jget L 8 = .ref v8 → jget L 9 = .ref v9 → jget L 11 = .int v11 → jget L 12 = .int v12 → jget L 13 = .long v13 → jget L 15 = .long v15 → jget L 17 = .ref v17 → jget L 18 = .ref v18 → jget L 19 = .ref v19 → jget L 20 = .ref v20 → jget L 21 = .ref v21 → jget L 22 = .ref v22 → jget L 23 = .ref v23 → jget L 24 = .int v24 → jget L 25 = .int v25 → jget L 26 = .ref v26 → jget L 27 = .int v27 → jget L 28 = .long v28 → jget L 30 = .long v30 → jget L 32 = .int v32 → jget L 33 = .int v33 → jget L 34 = .int v34 → jget L 35 = .long v35 → jget L 37 = .long v37 → jget L 41 = .int v41 → k634 v1 v2 v3 v4 v5 v6 v7 v8 v9 v11 v12 v13 v15 v17 v18 v19 v20 v21 v22 v23 v24 v25 v26 v27 v28 v30 v32 v33 v34 v35 v37 v41 μ = some (r, μ9) → jR B SA d m_L_law 634 L [] μ (some (.int (jb r))) μ9) : ∀ (L : JLoc) (v1 : Nat) (v2 : Nat) (v3 : Int32) (v4 : Nat) (v5 : Nat) (v6 : Nat) (v7 : Nat) (v8 : Nat) (v9 : Nat) (v11 : Int32) (v12 : Int32) (v13 : Int64) (v15 : Int64) (v17 : Nat) (v18 : Nat) (v19 : Nat) (v20 : Nat) (v21 : Nat) (v22 : Nat) (v23 : Nat) (v24 : Int32) (v25 : Int32) (v26 : Nat) (v27 : Int32) (v28 : Int64) (v30 : Int64) (v32 : Int32) (v33 : Int32) (v34 : Int32) (v37 : Int64) (v41 : Int32) (s0 : Int64) (s1 : Int64) (μ : JMem) (r : Bool) (μ9 : JMem), jget L 1 = .ref v1 → jget L 2 = .ref v2 → jget L 3 = .int v3 → jget L 4 = .ref v4 → jget L 5 = .ref v5 → jget L 6 = .ref v6 → jget L 7 = .ref v7 → jget L 8 = .ref v8 → jget L 9 = .ref v9 → jget L 11 = .int v11 → jget L 12 = .int v12 → jget L 13 = .long v13 → jget L 15 = .long v15 → jget L 17 = .ref v17 → jget L 18 = .ref v18 → jget L 19 = .ref v19 → jget L 20 = .ref v20 → jget L 21 = .ref v21 → jget L 22 = .ref v22 → jget L 23 = .ref v23 → jget L 24 = .int v24 → jget L 25 = .int v25 → jget L 26 = .ref v26 → jget L 27 = .int v27 → jget L 28 = .long v28 → jget L 30 = .long v30 → jget L 32 = .int v32 → jget L 33 = .int v33 → jget L 34 = .int v34 → jget L 37 = .long v37 → jget L 41 = .int v41 → g_L_law_686 N M B SA k517 k553 k634 v1 v2 v3 v4 v5 v6 v7 v8 v9 v11 v12 v13 v15 v17 v18 v19 v20 v21 v22 v23 v24 v25 v26 v27 v28 v30 v32 v33 v34 v37 v41 s0 s1 μ = some (r, μ9) → jR B SA d m_L_law 686 L [.long s0, .long s1] μ (some (.int (jb r))) μ9 := by
  intro L v1 v2 v3 v4 v5 v6 v7 v8 v9 v11 v12 v13 v15 v17 v18 v19 v20 v21 v22 v23 v24 v25 v26 v27 v28 v30 v32 v33 v34 v37 v41 s0 s1 μ r μ9 hl1 hl2 hl3 hl4 hl5 hl6 hl7 hl8 hl9 hl11 hl12 hl13 hl15 hl17 hl18 hl19 hl20 hl21 hl22 hl23 hl24 hl25 hl26 hl27 hl28 hl30 hl32 hl33 hl34 hl37 hl41 h
  unfold g_L_law_686 at h
  refine jr_ladd jf_145_686 ?_
  refine jr_lstore jf_145_687 jml_145 (by decide) ?_
  refine jr_goto jf_145_689 ?_
  exact r_L_law_911 hd i517 i553 i634 _ _ _ _ _ _ _ _ _ _ _ _ _ _ _ _ _ _ _ _ _ _ _ _ _ _ _ _ _ _ _ _ _ _ _ _ (jg2_ne rfl hl1) (jg2_ne rfl hl2) (jg2_ne rfl hl3) (jg2_ne rfl hl4) (jg2_ne rfl hl5) (jg2_ne rfl hl6) (jg2_ne rfl hl7) (jg2_ne rfl hl8) (jg2_ne rfl hl9) (jg2_ne rfl hl11) (jg2_ne rfl hl12) (jg2_ne rfl hl13) (jg2_ne rfl hl15) (jg2_ne rfl hl17) (jg2_ne rfl hl18) (jg2_ne rfl hl19) (jg2_ne rfl hl20) (jg2_ne rfl hl21) (jg2_ne rfl hl22) (jg2_ne rfl hl23) (jg2_ne rfl hl24) (jg2_ne rfl hl25) (jg2_ne rfl hl26) (jg2_ne rfl hl27) (jg2_ne rfl hl28) (jg2_ne rfl hl30) (jg2_ne rfl hl32) (jg2_ne rfl hl33) (jg2_ne rfl hl34) (jg2_ne rfl hl37) (jg2_pre rfl hl41) jg2_same h
set_option maxRecDepth 10000 in
set_option maxHeartbeats 4000000 in
theorem r_L_law_802 {N M B : Nat} {SA : Nat → Nat} {d : Nat} (hd : M + 8 ≤ d) {k517 : Nat → Nat → Int32 → Nat → Nat → Nat → Nat → Nat → Nat → Bool → Int32 → Int32 → Int64 → Int64 → Nat → Nat → Nat → Nat → Nat → Nat → Nat → Int32 → Int32 → Nat → Int32 → JMem → Option (Bool × JMem)} (i517 : ∀ (L : JLoc) (v1 : Nat) (v2 : Nat) (v3 : Int32) (v4 : Nat) (v5 : Nat) (v6 : Nat) (v7 : Nat) (v8 : Nat) (v9 : Nat) (v10 : Bool) (v11 : Int32) (v12 : Int32) (v13 : Int64) (v15 : Int64) (v17 : Nat) (v18 : Nat) (v19 : Nat) (v20 : Nat) (v21 : Nat) (v22 : Nat) (v23 : Nat) (v24 : Int32) (v25 : Int32) (v26 : Nat) (v27 : Int32) (μ : JMem) (r : Bool) (μ9 : JMem), jget L 1 = .ref v1 → jget L 2 = .ref v2 → jget L 3 = .int v3 → jget L 4 = .ref v4 → jget L 5 = .ref v5 → jget L 6 = .ref v6 → jget L 7 = .ref v7 → jget L 8 = .ref v8 → jget L 9 = .ref v9 → jget L 10 = .int (jb v10) → jget L 11 = .int v11 → jget L 12 = .int v12 → jget L 13 = .long v13 → jget L 15 = .long v15 → jget L 17 = .ref v17 → jget L 18 = .ref v18 → jget L 19 = .ref v19 → jget L 20 = .ref v20 → jget L 21 = .ref v21 → jget L 22 = .ref v22 → jget L 23 = .ref v23 → jget L 24 = .int v24 → jget L 25 = .int v25 → jget L 26 = .ref v26 → jget L 27 = .int v27 → k517 v1 v2 v3 v4 v5 v6 v7 v8 v9 v10 v11 v12 v13 v15 v17 v18 v19 v20 v21 v22 v23 v24 v25 v26 v27 μ = some (r, μ9) → jR B SA d m_L_law 517 L [] μ (some (.int (jb r))) μ9) {k553 : Nat → Nat → Int32 → Nat → Nat → Nat → Nat → Nat → Nat → Int32 → Int32 → Int64 → Int64 → Nat → Nat → Nat → Nat → Nat → Nat → Nat → Int32 → Int32 → Nat → Int32 → Int64 → Int64 → Int32 → JMem → Option (Bool × JMem)} (i553 : ∀ (L : JLoc) (v1 : Nat) (v2 : Nat) (v3 : Int32) (v4 : Nat) (v5 : Nat) (v6 : Nat) (v7 : Nat) (v8 : Nat) (v9 : Nat) (v11 : Int32) (v12 : Int32) (v13 : Int64) (v15 : Int64) (v17 : Nat) (v18 : Nat) (v19 : Nat) (v20 : Nat) (v21 : Nat) (v22 : Nat) (v23 : Nat) (v24 : Int32) (v25 : Int32) (v26 : Nat) (v27 : Int32) (v28 : Int64) (v30 : Int64) (v32 : Int32) (μ : JMem) (r : Bool) (μ9 : JMem), jget L 1 = .ref v1 → jget L 2 = .ref v2 → jget L 3 = .int v3 → jget L 4 = .ref v4 → jget L 5 = .ref v5 → jget L 6 = .ref v6 → jget L 7 = .ref v7 → jget L 8 = .ref v8 → jget L 9 = .ref v9 → jget L 11 = .int v11 → jget L 12 = .int v12 → jget L 13 = .long v13 → jget L 15 = .long v15 → jget L 17 = .ref v17 → jget L 18 = .ref v18 → jget L 19 = .ref v19 → jget L 20 = .ref v20 → jget L 21 = .ref v21 → jget L 22 = .ref v22 → jget L 23 = .ref v23 → jget L 24 = .int v24 → jget L 25 = .int v25 → jget L 26 = .ref v26 → jget L 27 = .int v27 → jget L 28 = .long v28 → jget L 30 = .long v30 → jget L 32 = .int v32 → k553 v1 v2 v3 v4 v5 v6 v7 v8 v9 v11 v12 v13 v15 v17 v18 v19 v20 v21 v22 v23 v24 v25 v26 v27 v28 v30 v32 μ = some (r, μ9) → jR B SA d m_L_law 553 L [] μ (some (.int (jb r))) μ9) {k634 : Nat → Nat → Int32 → Nat → Nat → Nat → Nat → Nat → Nat → Int32 → Int32 → Int64 → Int64 → Nat → Nat → Nat → Nat → Nat → Nat → Nat → Int32 → Int32 → Nat → Int32 → Int64 → Int64 → Int32 → Int32 → Int32 → Int64 → Int64 → Int32 → JMem → Option (Bool × JMem)} (i634 : ∀ (L : JLoc) (v1 : Nat) (v2 : Nat) (v3 : Int32) (v4 : Nat) (v5 : Nat) (v6 : Nat) (v7 : Nat) (v8 : Nat) (v9 : Nat) (v11 : Int32) (v12 : Int32) (v13 : Int64) (v15 : Int64) (v17 : Nat) (v18 : Nat) (v19 : Nat) (v20 : Nat) (v21 : Nat) (v22 : Nat) (v23 : Nat) (v24 : Int32) (v25 : Int32) (v26 : Nat) (v27 : Int32) (v28 : Int64) (v30 : Int64) (v32 : Int32) (v33 : Int32) (v34 : Int32) (v35 : Int64) (v37 : Int64) (v41 : Int32) (μ : JMem) (r : Bool) (μ9 : JMem), jget L 1 = .ref v1 → jget L 2 = .ref v2 → jget L 3 = .int v3 → jget L 4 = .ref v4 → jget L 5 = .ref v5 → jget L 6 = .ref v6 → jget L 7 = .ref v7 → jget L 8 = .ref v8 → jget L 9 = .ref v9 → jget L 11 = .int v11 → jget L 12 = .int v12 → jget L 13 = .long v13 → jget L 15 = .long v15 → jget L 17 = .ref v17 → jget L 18 = .ref v18 → jget L 19 = .ref v19 → jget L 20 = .ref v20 → jget L 21 = .ref v21 → jget L 22 = .ref v22 → jget L 23 = .ref v23 → jget L 24 = .int v24 → jget L 25 = .int v25 → jget L 26 = .ref v26 → jget L 27 = .int v27 → jget L 28 = .long v28 → jget L 30 = .long v30 → jget L 32 = .int v32 → jget L 33 = .int v33 → jget L 34 = .int v34 → jget L 35 = .long v35 → jget L 37 = .long v37 → jget L 41 = .int v41 → k634 v1 v2 v3 v4 v5 v6 v7 v8 v9 v11 v12 v13 v15 v17 v18 v19 v20 v21 v22 v23 v24 v25 v26 v27 v28 v30 v32 v33 v34 v35 v37 v41 μ = some (r, μ9) → jR B SA d m_L_law 634 L [] μ (some (.int (jb r))) μ9) : ∀ (L : JLoc) (v1 : Nat) (v2 : Nat) (v3 : Int32) (v4 : Nat) (v5 : Nat) (v6 : Nat) (v7 : Nat) (v8 : Nat) (v9 : Nat) (v11 : Int32) (v12 : Int32) (v13 : Int64) (v15 : Int64) (v17 : Nat) (v18 : Nat) (v19 : Nat) (v20 : Nat) (v21 : Nat) (v22 : Nat) (v23 : Nat) (v24 : Int32) (v25 : Int32) (v26 : Nat) (v27 : Int32) (v28 : Int64) (v30 : Int64) (v32 : Int32) (v33 : Int32) (v34 : Int32) (v37 : Int64) (v41 : Int32) (s0 : Int64) (μ : JMem) (r : Bool) (μ9 : JMem), jget L 1 = .ref v1 → jget L 2 = .ref v2 → jget L 3 = .int v3 → jget L 4 = .ref v4 → jget L 5 = .ref v5 → jget L 6 = .ref v6 → jget L 7 = .ref v7 → jget L 8 = .ref v8 → jget L 9 = .ref v9 → jget L 11 = .int v11 → jget L 12 = .int v12 → jget L 13 = .long v13 → jget L 15 = .long v15 → jget L 17 = .ref v17 → jget L 18 = .ref v18 → jget L 19 = .ref v19 → jget L 20 = .ref v20 → jget L 21 = .ref v21 → jget L 22 = .ref v22 → jget L 23 = .ref v23 → jget L 24 = .int v24 → jget L 25 = .int v25 → jget L 26 = .ref v26 → jget L 27 = .int v27 → jget L 28 = .long v28 → jget L 30 = .long v30 → jget L 32 = .int v32 → jget L 33 = .int v33 → jget L 34 = .int v34 → jget L 37 = .long v37 → jget L 41 = .int v41 → g_L_law_802 N M B SA k517 k553 k634 v1 v2 v3 v4 v5 v6 v7 v8 v9 v11 v12 v13 v15 v17 v18 v19 v20 v21 v22 v23 v24 v25 v26 v27 v28 v30 v32 v33 v34 v37 v41 s0 μ = some (r, μ9) → jR B SA d m_L_law 802 L [.long s0] μ (some (.int (jb r))) μ9 := by
  intro L v1 v2 v3 v4 v5 v6 v7 v8 v9 v11 v12 v13 v15 v17 v18 v19 v20 v21 v22 v23 v24 v25 v26 v27 v28 v30 v32 v33 v34 v37 v41 s0 μ r μ9 hl1 hl2 hl3 hl4 hl5 hl6 hl7 hl8 hl9 hl11 hl12 hl13 hl15 hl17 hl18 hl19 hl20 hl21 hl22 hl23 hl24 hl25 hl26 hl27 hl28 hl30 hl32 hl33 hl34 hl37 hl41 h
  unfold g_L_law_802 at h
  refine jr_lstore jf_145_802 jml_145 (by decide) ?_
  refine jr_goto jf_145_804 ?_
  exact r_L_law_911 hd i517 i553 i634 _ _ _ _ _ _ _ _ _ _ _ _ _ _ _ _ _ _ _ _ _ _ _ _ _ _ _ _ _ _ _ _ _ _ _ _ (jg2_ne rfl hl1) (jg2_ne rfl hl2) (jg2_ne rfl hl3) (jg2_ne rfl hl4) (jg2_ne rfl hl5) (jg2_ne rfl hl6) (jg2_ne rfl hl7) (jg2_ne rfl hl8) (jg2_ne rfl hl9) (jg2_ne rfl hl11) (jg2_ne rfl hl12) (jg2_ne rfl hl13) (jg2_ne rfl hl15) (jg2_ne rfl hl17) (jg2_ne rfl hl18) (jg2_ne rfl hl19) (jg2_ne rfl hl20) (jg2_ne rfl hl21) (jg2_ne rfl hl22) (jg2_ne rfl hl23) (jg2_ne rfl hl24) (jg2_ne rfl hl25) (jg2_ne rfl hl26) (jg2_ne rfl hl27) (jg2_ne rfl hl28) (jg2_ne rfl hl30) (jg2_ne rfl hl32) (jg2_ne rfl hl33) (jg2_ne rfl hl34) (jg2_ne rfl hl37) (jg2_pre rfl hl41) jg2_same h
set_option maxRecDepth 10000 in
set_option maxHeartbeats 4000000 in
theorem r_L_law_878 {N M B : Nat} {SA : Nat → Nat} {d : Nat} (hd : M + 8 ≤ d) {k517 : Nat → Nat → Int32 → Nat → Nat → Nat → Nat → Nat → Nat → Bool → Int32 → Int32 → Int64 → Int64 → Nat → Nat → Nat → Nat → Nat → Nat → Nat → Int32 → Int32 → Nat → Int32 → JMem → Option (Bool × JMem)} (i517 : ∀ (L : JLoc) (v1 : Nat) (v2 : Nat) (v3 : Int32) (v4 : Nat) (v5 : Nat) (v6 : Nat) (v7 : Nat) (v8 : Nat) (v9 : Nat) (v10 : Bool) (v11 : Int32) (v12 : Int32) (v13 : Int64) (v15 : Int64) (v17 : Nat) (v18 : Nat) (v19 : Nat) (v20 : Nat) (v21 : Nat) (v22 : Nat) (v23 : Nat) (v24 : Int32) (v25 : Int32) (v26 : Nat) (v27 : Int32) (μ : JMem) (r : Bool) (μ9 : JMem), jget L 1 = .ref v1 → jget L 2 = .ref v2 → jget L 3 = .int v3 → jget L 4 = .ref v4 → jget L 5 = .ref v5 → jget L 6 = .ref v6 → jget L 7 = .ref v7 → jget L 8 = .ref v8 → jget L 9 = .ref v9 → jget L 10 = .int (jb v10) → jget L 11 = .int v11 → jget L 12 = .int v12 → jget L 13 = .long v13 → jget L 15 = .long v15 → jget L 17 = .ref v17 → jget L 18 = .ref v18 → jget L 19 = .ref v19 → jget L 20 = .ref v20 → jget L 21 = .ref v21 → jget L 22 = .ref v22 → jget L 23 = .ref v23 → jget L 24 = .int v24 → jget L 25 = .int v25 → jget L 26 = .ref v26 → jget L 27 = .int v27 → k517 v1 v2 v3 v4 v5 v6 v7 v8 v9 v10 v11 v12 v13 v15 v17 v18 v19 v20 v21 v22 v23 v24 v25 v26 v27 μ = some (r, μ9) → jR B SA d m_L_law 517 L [] μ (some (.int (jb r))) μ9) {k553 : Nat → Nat → Int32 → Nat → Nat → Nat → Nat → Nat → Nat → Int32 → Int32 → Int64 → Int64 → Nat → Nat → Nat → Nat → Nat → Nat → Nat → Int32 → Int32 → Nat → Int32 → Int64 → Int64 → Int32 → JMem → Option (Bool × JMem)} (i553 : ∀ (L : JLoc) (v1 : Nat) (v2 : Nat) (v3 : Int32) (v4 : Nat) (v5 : Nat) (v6 : Nat) (v7 : Nat) (v8 : Nat) (v9 : Nat) (v11 : Int32) (v12 : Int32) (v13 : Int64) (v15 : Int64) (v17 : Nat) (v18 : Nat) (v19 : Nat) (v20 : Nat) (v21 : Nat) (v22 : Nat) (v23 : Nat) (v24 : Int32) (v25 : Int32) (v26 : Nat) (v27 : Int32) (v28 : Int64) (v30 : Int64) (v32 : Int32) (μ : JMem) (r : Bool) (μ9 : JMem), jget L 1 = .ref v1 → jget L 2 = .ref v2 → jget L 3 = .int v3 → jget L 4 = .ref v4 → jget L 5 = .ref v5 → jget L 6 = .ref v6 → jget L 7 = .ref v7 → jget L 8 = .ref v8 → jget L 9 = .ref v9 → jget L 11 = .int v11 → jget L 12 = .int v12 → jget L 13 = .long v13 → jget L 15 = .long v15 → jget L 17 = .ref v17 → jget L 18 = .ref v18 → jget L 19 = .ref v19 → jget L 20 = .ref v20 → jget L 21 = .ref v21 → jget L 22 = .ref v22 → jget L 23 = .ref v23 → jget L 24 = .int v24 → jget L 25 = .int v25 → jget L 26 = .ref v26 → jget L 27 = .int v27 → jget L 28 = .long v28 → jget L 30 = .long v30 → jget L 32 = .int v32 → k553 v1 v2 v3 v4 v5 v6 v7 v8 v9 v11 v12 v13 v15 v17 v18 v19 v20 v21 v22 v23 v24 v25 v26 v27 v28 v30 v32 μ = some (r, μ9) → jR B SA d m_L_law 553 L [] μ (some (.int (jb r))) μ9) {k634 : Nat → Nat → Int32 → Nat → Nat → Nat → Nat → Nat → Nat → Int32 → Int32 → Int64 → Int64 → Nat → Nat → Nat → Nat → Nat → Nat → Nat → Int32 → Int32 → Nat → Int32 → Int64 → Int64 → Int32 → Int32 → Int32 → Int64 → Int64 → Int32 → JMem → Option (Bool × JMem)} (i634 : ∀ (L : JLoc) (v1 : Nat) (v2 : Nat) (v3 : Int32) (v4 : Nat) (v5 : Nat) (v6 : Nat) (v7 : Nat) (v8 : Nat) (v9 : Nat) (v11 : Int32) (v12 : Int32) (v13 : Int64) (v15 : Int64) (v17 : Nat) (v18 : Nat) (v19 : Nat) (v20 : Nat) (v21 : Nat) (v22 : Nat) (v23 : Nat) (v24 : Int32) (v25 : Int32) (v26 : Nat) (v27 : Int32) (v28 : Int64) (v30 : Int64) (v32 : Int32) (v33 : Int32) (v34 : Int32) (v35 : Int64) (v37 : Int64) (v41 : Int32) (μ : JMem) (r : Bool) (μ9 : JMem), jget L 1 = .ref v1 → jget L 2 = .ref v2 → jget L 3 = .int v3 → jget L 4 = .ref v4 → jget L 5 = .ref v5 → jget L 6 = .ref v6 → jget L 7 = .ref v7 → jget L 8 = .ref v8 → jget L 9 = .ref v9 → jget L 11 = .int v11 → jget L 12 = .int v12 → jget L 13 = .long v13 → jget L 15 = .long v15 → jget L 17 = .ref v17 → jget L 18 = .ref v18 → jget L 19 = .ref v19 → jget L 20 = .ref v20 → jget L 21 = .ref v21 → jget L 22 = .ref v22 → jget L 23 = .ref v23 → jget L 24 = .int v24 → jget L 25 = .int v25 → jget L 26 = .ref v26 → jget L 27 = .int v27 → jget L 28 = .long v28 → jget L 30 = .long v30 → jget L 32 = .int v32 → jget L 33 = .int v33 → jget L 34 = .int v34 → jget L 35 = .long v35 → jget L 37 = .long v37 → jget L 41 = .int v41 → k634 v1 v2 v3 v4 v5 v6 v7 v8 v9 v11 v12 v13 v15 v17 v18 v19 v20 v21 v22 v23 v24 v25 v26 v27 v28 v30 v32 v33 v34 v35 v37 v41 μ = some (r, μ9) → jR B SA d m_L_law 634 L [] μ (some (.int (jb r))) μ9) : ∀ (L : JLoc) (v1 : Nat) (v2 : Nat) (v3 : Int32) (v4 : Nat) (v5 : Nat) (v6 : Nat) (v7 : Nat) (v8 : Nat) (v9 : Nat) (v11 : Int32) (v12 : Int32) (v13 : Int64) (v15 : Int64) (v17 : Nat) (v18 : Nat) (v19 : Nat) (v20 : Nat) (v21 : Nat) (v22 : Nat) (v23 : Nat) (v24 : Int32) (v25 : Int32) (v26 : Nat) (v27 : Int32) (v28 : Int64) (v30 : Int64) (v32 : Int32) (v33 : Int32) (v34 : Int32) (v37 : Int64) (v41 : Int32) (s0 : Int64) (μ : JMem) (r : Bool) (μ9 : JMem), jget L 1 = .ref v1 → jget L 2 = .ref v2 → jget L 3 = .int v3 → jget L 4 = .ref v4 → jget L 5 = .ref v5 → jget L 6 = .ref v6 → jget L 7 = .ref v7 → jget L 8 = .ref v8 → jget L 9 = .ref v9 → jget L 11 = .int v11 → jget L 12 = .int v12 → jget L 13 = .long v13 → jget L 15 = .long v15 → jget L 17 = .ref v17 → jget L 18 = .ref v18 → jget L 19 = .ref v19 → jget L 20 = .ref v20 → jget L 21 = .ref v21 → jget L 22 = .ref v22 → jget L 23 = .ref v23 → jget L 24 = .int v24 → jget L 25 = .int v25 → jget L 26 = .ref v26 → jget L 27 = .int v27 → jget L 28 = .long v28 → jget L 30 = .long v30 → jget L 32 = .int v32 → jget L 33 = .int v33 → jget L 34 = .int v34 → jget L 37 = .long v37 → jget L 41 = .int v41 → g_L_law_878 N M B SA k517 k553 k634 v1 v2 v3 v4 v5 v6 v7 v8 v9 v11 v12 v13 v15 v17 v18 v19 v20 v21 v22 v23 v24 v25 v26 v27 v28 v30 v32 v33 v34 v37 v41 s0 μ = some (r, μ9) → jR B SA d m_L_law 878 L [.long s0] μ (some (.int (jb r))) μ9 := by
  intro L v1 v2 v3 v4 v5 v6 v7 v8 v9 v11 v12 v13 v15 v17 v18 v19 v20 v21 v22 v23 v24 v25 v26 v27 v28 v30 v32 v33 v34 v37 v41 s0 μ r μ9 hl1 hl2 hl3 hl4 hl5 hl6 hl7 hl8 hl9 hl11 hl12 hl13 hl15 hl17 hl18 hl19 hl20 hl21 hl22 hl23 hl24 hl25 hl26 hl27 hl28 hl30 hl32 hl33 hl34 hl37 hl41 h
  unfold g_L_law_878 at h
  refine jr_lstore jf_145_878 jml_145 (by decide) ?_
  refine jr_lload jf_145_880 jg2_same ?_
  refine jr_aload jf_145_882 (jg2_ne rfl hl17) ?_
  refine jr_iload jf_145_884 (jg2_ne rfl hl32) ?_
  replace h := obd_of h; obtain ⟨x1, hx1, h⟩ := h
  refine jr_laload jf_145_886 hx1 ?_
  refine jr_lcmp jf_145_887 ?_
  replace h := ite_or h; rcases h with ⟨hc, h⟩ | ⟨hc, h⟩
  · refine jr_ifl_le_t jf_145_888 hc ?_
    refine jr_aload jf_145_898 (jg2_ne rfl hl8) ?_
    refine jr_iload jf_145_900 (jg2_ne rfl hl32) ?_
    replace h := obd_of h; obtain ⟨x2, hx2, h⟩ := h
    refine jr_laload jf_145_902 hx2 ?_
    refine jr_aload jf_145_903 (jg2_ne rfl hl17) ?_
    refine jr_iload jf_145_905 (jg2_ne rfl hl32) ?_
    replace h := obd_of h; obtain ⟨x3, hx3, h⟩ := h
    refine jr_laload jf_145_907 hx3 ?_
    refine jr_lmul jf_145_908 ?_
    refine jr_lstore jf_145_909 jml_145 (by decide) ?_
    exact r_L_law_911 hd i517 i553 i634 _ _ _ _ _ _ _ _ _ _ _ _ _ _ _ _ _ _ _ _ _ _ _ _ _ _ _ _ _ _ _ _ _ _ _ _ (jg2_ne rfl (jg2_ne rfl hl1)) (jg2_ne rfl (jg2_ne rfl hl2)) (jg2_ne rfl (jg2_ne rfl hl3)) (jg2_ne rfl (jg2_ne rfl hl4)) (jg2_ne rfl (jg2_ne rfl hl5)) (jg2_ne rfl (jg2_ne rfl hl6)) (jg2_ne rfl (jg2_ne rfl hl7)) (jg2_ne rfl (jg2_ne rfl hl8)) (jg2_ne rfl (jg2_ne rfl hl9)) (jg2_ne rfl (jg2_ne rfl hl11)) (jg2_ne rfl (jg2_ne rfl hl12)) (jg2_ne rfl (jg2_ne rfl hl13)) (jg2_ne rfl (jg2_ne rfl hl15)) (jg2_ne rfl (jg2_ne rfl hl17)) (jg2_ne rfl (jg2_ne rfl hl18)) (jg2_ne rfl (jg2_ne rfl hl19)) (jg2_ne rfl (jg2_ne rfl hl20)) (jg2_ne rfl (jg2_ne rfl hl21)) (jg2_ne rfl (jg2_ne rfl hl22)) (jg2_ne rfl (jg2_ne rfl hl23)) (jg2_ne rfl (jg2_ne rfl hl24)) (jg2_ne rfl (jg2_ne rfl hl25)) (jg2_ne rfl (jg2_ne rfl hl26)) (jg2_ne rfl (jg2_ne rfl hl27)) (jg2_ne rfl (jg2_ne rfl hl28)) (jg2_ne rfl (jg2_ne rfl hl30)) (jg2_ne rfl (jg2_ne rfl hl32)) (jg2_ne rfl (jg2_ne rfl hl33)) (jg2_ne rfl (jg2_ne rfl hl34)) (jg2_ne rfl (jg2_ne rfl hl37)) (jg2_pre rfl (jg2_ne rfl hl41)) jg2_same h
  · refine jr_ifl_le_f jf_145_888 hc ?_
    refine jr_lload jf_145_891 jg2_same ?_
    refine jr_lstore jf_145_893 jml_145 (by decide) ?_
    refine jr_goto jf_145_895 ?_
    exact r_L_law_1059 hd i517 i553 i634 _ _ _ _ _ _ _ _ _ _ _ _ _ _ _ _ _ _ _ _ _ _ _ _ _ _ _ _ _ _ _ _ _ _ _ _ (jg2_ne rfl (jg2_ne rfl hl1)) (jg2_ne rfl (jg2_ne rfl hl2)) (jg2_ne rfl (jg2_ne rfl hl3)) (jg2_ne rfl (jg2_ne rfl hl4)) (jg2_ne rfl (jg2_ne rfl hl5)) (jg2_ne rfl (jg2_ne rfl hl6)) (jg2_ne rfl (jg2_ne rfl hl7)) (jg2_ne rfl (jg2_ne rfl hl8)) (jg2_ne rfl (jg2_ne rfl hl9)) (jg2_ne rfl (jg2_ne rfl hl11)) (jg2_ne rfl (jg2_ne rfl hl12)) (jg2_ne rfl (jg2_ne rfl hl13)) (jg2_ne rfl (jg2_ne rfl hl15)) (jg2_ne rfl (jg2_ne rfl hl17)) (jg2_ne rfl (jg2_ne rfl hl18)) (jg2_ne rfl (jg2_ne rfl hl19)) (jg2_ne rfl (jg2_ne rfl hl20)) (jg2_ne rfl (jg2_ne rfl hl21)) (jg2_ne rfl (jg2_ne rfl hl22)) (jg2_ne rfl (jg2_ne rfl hl23)) (jg2_ne rfl (jg2_ne rfl hl24)) (jg2_ne rfl (jg2_ne rfl hl25)) (jg2_ne rfl (jg2_ne rfl hl26)) (jg2_ne rfl (jg2_ne rfl hl27)) (jg2_ne rfl (jg2_ne rfl hl28)) (jg2_ne rfl (jg2_ne rfl hl30)) (jg2_ne rfl (jg2_ne rfl hl32)) (jg2_ne rfl (jg2_ne rfl hl33)) (jg2_pre rfl (jg2_ne rfl hl34)) jg2_same (jg2_ne rfl (jg2_ne rfl hl37)) (jg2_ne rfl (jg2_ne rfl hl41)) h
set_option maxRecDepth 10000 in
set_option maxHeartbeats 4000000 in
theorem r_L_law_1421 {N M B : Nat} {SA : Nat → Nat} {d : Nat} (hd : M + 8 ≤ d) {k517 : Nat → Nat → Int32 → Nat → Nat → Nat → Nat → Nat → Nat → Bool → Int32 → Int32 → Int64 → Int64 → Nat → Nat → Nat → Nat → Nat → Nat → Nat → Int32 → Int32 → Nat → Int32 → JMem → Option (Bool × JMem)} (i517 : ∀ (L : JLoc) (v1 : Nat) (v2 : Nat) (v3 : Int32) (v4 : Nat) (v5 : Nat) (v6 : Nat) (v7 : Nat) (v8 : Nat) (v9 : Nat) (v10 : Bool) (v11 : Int32) (v12 : Int32) (v13 : Int64) (v15 : Int64) (v17 : Nat) (v18 : Nat) (v19 : Nat) (v20 : Nat) (v21 : Nat) (v22 : Nat) (v23 : Nat) (v24 : Int32) (v25 : Int32) (v26 : Nat) (v27 : Int32) (μ : JMem) (r : Bool) (μ9 : JMem), jget L 1 = .ref v1 → jget L 2 = .ref v2 → jget L 3 = .int v3 → jget L 4 = .ref v4 → jget L 5 = .ref v5 → jget L 6 = .ref v6 → jget L 7 = .ref v7 → jget L 8 = .ref v8 → jget L 9 = .ref v9 → jget L 10 = .int (jb v10) → jget L 11 = .int v11 → jget L 12 = .int v12 → jget L 13 = .long v13 → jget L 15 = .long v15 → jget L 17 = .ref v17 → jget L 18 = .ref v18 → jget L 19 = .ref v19 → jget L 20 = .ref v20 → jget L 21 = .ref v21 → jget L 22 = .ref v22 → jget L 23 = .ref v23 → jget L 24 = .int v24 → jget L 25 = .int v25 → jget L 26 = .ref v26 → jget L 27 = .int v27 → k517 v1 v2 v3 v4 v5 v6 v7 v8 v9 v10 v11 v12 v13 v15 v17 v18 v19 v20 v21 v22 v23 v24 v25 v26 v27 μ = some (r, μ9) → jR B SA d m_L_law 517 L [] μ (some (.int (jb r))) μ9) {k553 : Nat → Nat → Int32 → Nat → Nat → Nat → Nat → Nat → Nat → Int32 → Int32 → Int64 → Int64 → Nat → Nat → Nat → Nat → Nat → Nat → Nat → Int32 → Int32 → Nat → Int32 → Int64 → Int64 → Int32 → JMem → Option (Bool × JMem)} (i553 : ∀ (L : JLoc) (v1 : Nat) (v2 : Nat) (v3 : Int32) (v4 : Nat) (v5 : Nat) (v6 : Nat) (v7 : Nat) (v8 : Nat) (v9 : Nat) (v11 : Int32) (v12 : Int32) (v13 : Int64) (v15 : Int64) (v17 : Nat) (v18 : Nat) (v19 : Nat) (v20 : Nat) (v21 : Nat) (v22 : Nat) (v23 : Nat) (v24 : Int32) (v25 : Int32) (v26 : Nat) (v27 : Int32) (v28 : Int64) (v30 : Int64) (v32 : Int32) (μ : JMem) (r : Bool) (μ9 : JMem), jget L 1 = .ref v1 → jget L 2 = .ref v2 → jget L 3 = .int v3 → jget L 4 = .ref v4 → jget L 5 = .ref v5 → jget L 6 = .ref v6 → jget L 7 = .ref v7 → jget L 8 = .ref v8 → jget L 9 = .ref v9 → jget L 11 = .int v11 → jget L 12 = .int v12 → jget L 13 = .long v13 → jget L 15 = .long v15 → jget L 17 = .ref v17 → jget L 18 = .ref v18 → jget L 19 = .ref v19 → jget L 20 = .ref v20 → jget L 21 = .ref v21 → jget L 22 = .ref v22 → jget L 23 = .ref v23 → jget L 24 = .int v24 → jget L 25 = .int v25 → jget L 26 = .ref v26 → jget L 27 = .int v27 → jget L 28 = .long v28 → jget L 30 = .long v30 → jget L 32 = .int v32 → k553 v1 v2 v3 v4 v5 v6 v7 v8 v9 v11 v12 v13 v15 v17 v18 v19 v20 v21 v22 v23 v24 v25 v26 v27 v28 v30 v32 μ = some (r, μ9) → jR B SA d m_L_law 553 L [] μ (some (.int (jb r))) μ9) : ∀ (L : JLoc) (v1 : Nat) (v2 : Nat) (v3 : Int32) (v4 : Nat) (v5 : Nat) (v6 : Nat) (v7 : Nat) (v8 : Nat) (v9 : Nat) (v11 : Int32) (v12 : Int32) (v13 : Int64) (v15 : Int64) (v17 : Nat) (v18 : Nat) (v19 : Nat) (v20 : Nat) (v21 : Nat) (v22 : Nat) (v23 : Nat) (v24 : Int32) (v25 : Int32) (v26 : Nat) (v27 : Int32) (v28 : Int64) (v30 : Int64) (v32 : Int32) (μ : JMem) (r : Bool) (μ9 : JMem), jget L 1 = .ref v1 → jget L 2 = .ref v2 → jget L 3 = .int v3 → jget L 4 = .ref v4 → jget L 5 = .ref v5 → jget L 6 = .ref v6 → jget L 7 = .ref v7 → jget L 8 = .ref v8 → jget L 9 = .ref v9 → jget L 11 = .int v11 → jget L 12 = .int v12 → jget L 13 = .long v13 → jget L 15 = .long v15 → jget L 17 = .ref v17 → jget L 18 = .ref v18 → jget L 19 = .ref v19 → jget L 20 = .ref v20 → jget L 21 = .ref v21 → jget L 22 = .ref v22 → jget L 23 = .ref v23 → jget L 24 = .int v24 → jget L 25 = .int v25 → jget L 26 = .ref v26 → jget L 27 = .int v27 → jget L 28 = .long v28 → jget L 30 = .long v30 → jget L 32 = .int v32 → g_L_law_1421 N M B SA k517 k553 v1 v2 v3 v4 v5 v6 v7 v8 v9 v11 v12 v13 v15 v17 v18 v19 v20 v21 v22 v23 v24 v25 v26 v27 v28 v30 v32 μ = some (r, μ9) → jR B SA d m_L_law 1421 L [] μ (some (.int (jb r))) μ9 := by
  intro L v1 v2 v3 v4 v5 v6 v7 v8 v9 v11 v12 v13 v15 v17 v18 v19 v20 v21 v22 v23 v24 v25 v26 v27 v28 v30 v32 μ r μ9 hl1 hl2 hl3 hl4 hl5 hl6 hl7 hl8 hl9 hl11 hl12 hl13 hl15 hl17 hl18 hl19 hl20 hl21 hl22 hl23 hl24 hl25 hl26 hl27 hl28 hl30 hl32 h
  unfold g_L_law_1421 at h
  refine jr_iinc jf_145_1421 jc_i_1 jml_145 (by decide) hl32 ?_
  refine jr_goto jf_145_1424 ?_
  exact i553 _ _ _ _ _ _ _ _ _ _ _ _ _ _ _ _ _ _ _ _ _ _ _ _ _ _ _ _ _ _ _ (jg1_ne rfl hl1) (jg1_ne rfl hl2) (jg1_ne rfl hl3) (jg1_ne rfl hl4) (jg1_ne rfl hl5) (jg1_ne rfl hl6) (jg1_ne rfl hl7) (jg1_ne rfl hl8) (jg1_ne rfl hl9) (jg1_ne rfl hl11) (jg1_ne rfl hl12) (jg1_ne rfl hl13) (jg1_ne rfl hl15) (jg1_ne rfl hl17) (jg1_ne rfl hl18) (jg1_ne rfl hl19) (jg1_ne rfl hl20) (jg1_ne rfl hl21) (jg1_ne rfl hl22) (jg1_ne rfl hl23) (jg1_ne rfl hl24) (jg1_ne rfl hl25) (jg1_ne rfl hl26) (jg1_ne rfl hl27) (jg1_ne rfl hl28) (jg1_ne rfl hl30) jg1_same h
set_option maxRecDepth 10000 in
set_option maxHeartbeats 4000000 in
theorem r_L_law_1394 {N M B : Nat} {SA : Nat → Nat} {d : Nat} (hd : M + 8 ≤ d) {k517 : Nat → Nat → Int32 → Nat → Nat → Nat → Nat → Nat → Nat → Bool → Int32 → Int32 → Int64 → Int64 → Nat → Nat → Nat → Nat → Nat → Nat → Nat → Int32 → Int32 → Nat → Int32 → JMem → Option (Bool × JMem)} (i517 : ∀ (L : JLoc) (v1 : Nat) (v2 : Nat) (v3 : Int32) (v4 : Nat) (v5 : Nat) (v6 : Nat) (v7 : Nat) (v8 : Nat) (v9 : Nat) (v10 : Bool) (v11 : Int32) (v12 : Int32) (v13 : Int64) (v15 : Int64) (v17 : Nat) (v18 : Nat) (v19 : Nat) (v20 : Nat) (v21 : Nat) (v22 : Nat) (v23 : Nat) (v24 : Int32) (v25 : Int32) (v26 : Nat) (v27 : Int32) (μ : JMem) (r : Bool) (μ9 : JMem), jget L 1 = .ref v1 → jget L 2 = .ref v2 → jget L 3 = .int v3 → jget L 4 = .ref v4 → jget L 5 = .ref v5 → jget L 6 = .ref v6 → jget L 7 = .ref v7 → jget L 8 = .ref v8 → jget L 9 = .ref v9 → jget L 10 = .int (jb v10) → jget L 11 = .int v11 → jget L 12 = .int v12 → jget L 13 = .long v13 → jget L 15 = .long v15 → jget L 17 = .ref v17 → jget L 18 = .ref v18 → jget L 19 = .ref v19 → jget L 20 = .ref v20 → jget L 21 = .ref v21 → jget L 22 = .ref v22 → jget L 23 = .ref v23 → jget L 24 = .int v24 → jget L 25 = .int v25 → jget L 26 = .ref v26 → jget L 27 = .int v27 → k517 v1 v2 v3 v4 v5 v6 v7 v8 v9 v10 v11 v12 v13 v15 v17 v18 v19 v20 v21 v22 v23 v24 v25 v26 v27 μ = some (r, μ9) → jR B SA d m_L_law 517 L [] μ (some (.int (jb r))) μ9) {k553 : Nat → Nat → Int32 → Nat → Nat → Nat → Nat → Nat → Nat → Int32 → Int32 → Int64 → Int64 → Nat → Nat → Nat → Nat → Nat → Nat → Nat → Int32 → Int32 → Nat → Int32 → Int64 → Int64 → Int32 → JMem → Option (Bool × JMem)} (i553 : ∀ (L : JLoc) (v1 : Nat) (v2 : Nat) (v3 : Int32) (v4 : Nat) (v5 : Nat) (v6 : Nat) (v7 : Nat) (v8 : Nat) (v9 : Nat) (v11 : Int32) (v12 : Int32) (v13 : Int64) (v15 : Int64) (v17 : Nat) (v18 : Nat) (v19 : Nat) (v20 : Nat) (v21 : Nat) (v22 : Nat) (v23 : Nat) (v24 : Int32) (v25 : Int32) (v26 : Nat) (v27 : Int32) (v28 : Int64) (v30 : Int64) (v32 : Int32) (μ : JMem) (r : Bool) (μ9 : JMem), jget L 1 = .ref v1 → jget L 2 = .ref v2 → jget L 3 = .int v3 → jget L 4 = .ref v4 → jget L 5 = .ref v5 → jget L 6 = .ref v6 → jget L 7 = .ref v7 → jget L 8 = .ref v8 → jget L 9 = .ref v9 → jget L 11 = .int v11 → jget L 12 = .int v12 → jget L 13 = .long v13 → jget L 15 = .long v15 → jget L 17 = .ref v17 → jget L 18 = .ref v18 → jget L 19 = .ref v19 → jget L 20 = .ref v20 → jget L 21 = .ref v21 → jget L 22 = .ref v22 → jget L 23 = .ref v23 → jget L 24 = .int v24 → jget L 25 = .int v25 → jget L 26 = .ref v26 → jget L 27 = .int v27 → jget L 28 = .long v28 → jget L 30 = .long v30 → jget L 32 = .int v32 → k553 v1 v2 v3 v4 v5 v6 v7 v8 v9 v11 v12 v13 v15 v17 v18 v19 v20 v21 v22 v23 v24 v25 v26 v27 v28 v30 v32 μ = some (r, μ9) → jR B SA d m_L_law 553 L [] μ (some (.int (jb r))) μ9) : ∀ (L : JLoc) (v1 : Nat) (v2 : Nat) (v3 : Int32) (v4 : Nat) (v5 : Nat) (v6 : Nat) (v7 : Nat) (v8 : Nat) (v9 : Nat) (v11 : Int32) (v12 : Int32) (v13 : Int64) (v15 : Int64) (v17 : Nat) (v18 : Nat) (v19 : Nat) (v20 : Nat) (v21 : Nat) (v22 : Nat) (v23 : Nat) (v24 : Int32) (v25 : Int32) (v26 : Nat) (v27 : Int32) (v30 : Int64) (v32 : Int32) (v35 : Int64) (μ : JMem) (r : Bool) (μ9 : JMem), jget L 1 = .ref v1 → jget L 2 = .ref v2 → jget L 3 = .int v3 → jget L 4 = .ref v4 → jget L 5 = .ref v5 → jget L 6 = .ref v6 → jget L 7 = .ref v7 → jget L 8 = .ref v8 → jget L 9 = .ref v9 → jget L 11 = .int v11 → jget L 12 = .int v12 → jget L 13 = .long v13 → jget L 15 = .long v15 → jget L 17 = .ref v17 → jget L 18 = .ref v18 → jget L 19 = .ref v19 → jget L 20 = .ref v20 → jget L 21 = .ref v21 → jget L 22 = .ref v22 → jget L 23 = .ref v23 → jget L 24 = .int v24 → jget L 25 = .int v25 → jget L 26 = .ref v26 → jget L 27 = .int v27 → jget L 30 = .long v30 → jget L 32 = .int v32 → jget L 35 = .long v35 → g_L_law_1394 N M B SA k517 k553 v1 v2 v3 v4 v5 v6 v7 v8 v9 v11 v12 v13 v15 v17 v18 v19 v20 v21 v22 v23 v24 v25 v26 v27 v30 v32 v35 μ = some (r, μ9) → jR B SA d m_L_law 1394 L [] μ (some (.int (jb r))) μ9 := by
  intro L v1 v2 v3 v4 v5 v6 v7 v8 v9 v11 v12 v13 v15 v17 v18 v19 v20 v21 v22 v23 v24 v25 v26 v27 v30 v32 v35 μ r μ9 hl1 hl2 hl3 hl4 hl5 hl6 hl7 hl8 hl9 hl11 hl12 hl13 hl15 hl17 hl18 hl19 hl20 hl21 hl22 hl23 hl24 hl25 hl26 hl27 hl30 hl32 hl35 h
  unfold g_L_law_1394 at h
  refine jr_lload jf_145_1394 hl35 ?_
  refine jr_lstore jf_145_1396 jml_145 (by decide) ?_
  refine jr_iload jf_145_1398 (jg2_ne rfl hl32) ?_
  replace h := ite_or h; rcases h with ⟨hc, h⟩ | ⟨hc, h⟩
  · refine jr_if_ne_f jf_145_1400 hc ?_
    refine jr_aload jf_145_1403 (jg2_ne rfl hl23) ?_
    refine jr_iconst jf_145_1405 jc_i_4 ?_
    refine jr_iload jf_145_1406 (jg2_ne rfl hl25) ?_
    refine jr_iadd jf_145_1408 ?_
    refine jr_lload jf_145_1409 jg2_same ?_
    replace h := obd_of h; obtain ⟨μ1, hμ1, h⟩ := h
    refine jr_lastore jf_145_1411 hμ1 ?_
    refine jr_iload jf_145_1412 (jg2_ne rfl hl25) ?_
    refine jr_iconst jf_145_1414 jc_i_1 ?_
    refine jr_iadd jf_145_1415 ?_
    refine jr_iload jf_145_1416 (jg2_ne rfl hl12) ?_
    replace h := obd_of h; obtain ⟨x2, hx2, h⟩ := h
    refine jr_irem jf_145_1418 hx2 ?_
    refine jr_istore jf_145_1419 jml_145 (by decide) ?_
    exact r_L_law_1421 hd i517 i553 _ _ _ _ _ _ _ _ _ _ _ _ _ _ _ _ _ _ _ _ _ _ _ _ _ _ _ _ _ _ _ (jg1_ne rfl (jg2_ne rfl hl1)) (jg1_ne rfl (jg2_ne rfl hl2)) (jg1_ne rfl (jg2_ne rfl hl3)) (jg1_ne rfl (jg2_ne rfl hl4)) (jg1_ne rfl (jg2_ne rfl hl5)) (jg1_ne rfl (jg2_ne rfl hl6)) (jg1_ne rfl (jg2_ne rfl hl7)) (jg1_ne rfl (jg2_ne rfl hl8)) (jg1_ne rfl (jg2_ne rfl hl9)) (jg1_ne rfl (jg2_ne rfl hl11)) (jg1_ne rfl (jg2_ne rfl hl12)) (jg1_ne rfl (jg2_ne rfl hl13)) (jg1_ne rfl (jg2_ne rfl hl15)) (jg1_ne rfl (jg2_ne rfl hl17)) (jg1_ne rfl (jg2_ne rfl hl18)) (jg1_ne rfl (jg2_ne rfl hl19)) (jg1_ne rfl (jg2_ne rfl hl20)) (jg1_ne rfl (jg2_ne rfl hl21)) (jg1_ne rfl (jg2_ne rfl hl22)) (jg1_ne rfl (jg2_ne rfl hl23)) (jg1_pre rfl (jg2_ne rfl hl24)) jg1_same (jg1_ne rfl (jg2_ne rfl hl26)) (jg1_ne rfl (jg2_pre rfl hl27)) (jg1_ne rfl jg2_same) (jg1_ne rfl (jg2_ne rfl hl30)) (jg1_ne rfl (jg2_ne rfl hl32)) h
  · refine jr_if_ne_t jf_145_1400 hc ?_
    exact r_L_law_1421 hd i517 i553 _ _ _ _ _ _ _ _ _ _ _ _ _ _ _ _ _ _ _ _ _ _ _ _ _ _ _ _ _ _ _ (jg2_ne rfl hl1) (jg2_ne rfl hl2) (jg2_ne rfl hl3) (jg2_ne rfl hl4) (jg2_ne rfl hl5) (jg2_ne rfl hl6) (jg2_ne rfl hl7) (jg2_ne rfl hl8) (jg2_ne rfl hl9) (jg2_ne rfl hl11) (jg2_ne rfl hl12) (jg2_ne rfl hl13) (jg2_ne rfl hl15) (jg2_ne rfl hl17) (jg2_ne rfl hl18) (jg2_ne rfl hl19) (jg2_ne rfl hl20) (jg2_ne rfl hl21) (jg2_ne rfl hl22) (jg2_ne rfl hl23) (jg2_ne rfl hl24) (jg2_ne rfl hl25) (jg2_ne rfl hl26) (jg2_pre rfl hl27) jg2_same (jg2_ne rfl hl30) (jg2_ne rfl hl32) h
set_option maxRecDepth 10000 in
set_option maxHeartbeats 4000000 in
theorem r_L_law_1392 {N M B : Nat} {SA : Nat → Nat} {d : Nat} (hd : M + 8 ≤ d) {k517 : Nat → Nat → Int32 → Nat → Nat → Nat → Nat → Nat → Nat → Bool → Int32 → Int32 → Int64 → Int64 → Nat → Nat → Nat → Nat → Nat → Nat → Nat → Int32 → Int32 → Nat → Int32 → JMem → Option (Bool × JMem)} (i517 : ∀ (L : JLoc) (v1 : Nat) (v2 : Nat) (v3 : Int32) (v4 : Nat) (v5 : Nat) (v6 : Nat) (v7 : Nat) (v8 : Nat) (v9 : Nat) (v10 : Bool) (v11 : Int32) (v12 : Int32) (v13 : Int64) (v15 : Int64) (v17 : Nat) (v18 : Nat) (v19 : Nat) (v20 : Nat) (v21 : Nat) (v22 : Nat) (v23 : Nat) (v24 : Int32) (v25 : Int32) (v26 : Nat) (v27 : Int32) (μ : JMem) (r : Bool) (μ9 : JMem), jget L 1 = .ref v1 → jget L 2 = .ref v2 → jget L 3 = .int v3 → jget L 4 = .ref v4 → jget L 5 = .ref v5 → jget L 6 = .ref v6 → jget L 7 = .ref v7 → jget L 8 = .ref v8 → jget L 9 = .ref v9 → jget L 10 = .int (jb v10) → jget L 11 = .int v11 → jget L 12 = .int v12 → jget L 13 = .long v13 → jget L 15 = .long v15 → jget L 17 = .ref v17 → jget L 18 = .ref v18 → jget L 19 = .ref v19 → jget L 20 = .ref v20 → jget L 21 = .ref v21 → jget L 22 = .ref v22 → jget L 23 = .ref v23 → jget L 24 = .int v24 → jget L 25 = .int v25 → jget L 26 = .ref v26 → jget L 27 = .int v27 → k517 v1 v2 v3 v4 v5 v6 v7 v8 v9 v10 v11 v12 v13 v15 v17 v18 v19 v20 v21 v22 v23 v24 v25 v26 v27 μ = some (r, μ9) → jR B SA d m_L_law 517 L [] μ (some (.int (jb r))) μ9) {k553 : Nat → Nat → Int32 → Nat → Nat → Nat → Nat → Nat → Nat → Int32 → Int32 → Int64 → Int64 → Nat → Nat → Nat → Nat → Nat → Nat → Nat → Int32 → Int32 → Nat → Int32 → Int64 → Int64 → Int32 → JMem → Option (Bool × JMem)} (i553 : ∀ (L : JLoc) (v1 : Nat) (v2 : Nat) (v3 : Int32) (v4 : Nat) (v5 : Nat) (v6 : Nat) (v7 : Nat) (v8 : Nat) (v9 : Nat) (v11 : Int32) (v12 : Int32) (v13 : Int64) (v15 : Int64) (v17 : Nat) (v18 : Nat) (v19 : Nat) (v20 : Nat) (v21 : Nat) (v22 : Nat) (v23 : Nat) (v24 : Int32) (v25 : Int32) (v26 : Nat) (v27 : Int32) (v28 : Int64) (v30 : Int64) (v32 : Int32) (μ : JMem) (r : Bool) (μ9 : JMem), jget L 1 = .ref v1 → jget L 2 = .ref v2 → jget L 3 = .int v3 → jget L 4 = .ref v4 → jget L 5 = .ref v5 → jget L 6 = .ref v6 → jget L 7 = .ref v7 → jget L 8 = .ref v8 → jget L 9 = .ref v9 → jget L 11 = .int v11 → jget L 12 = .int v12 → jget L 13 = .long v13 → jget L 15 = .long v15 → jget L 17 = .ref v17 → jget L 18 = .ref v18 → jget L 19 = .ref v19 → jget L 20 = .ref v20 → jget L 21 = .ref v21 → jget L 22 = .ref v22 → jget L 23 = .ref v23 → jget L 24 = .int v24 → jget L 25 = .int v25 → jget L 26 = .ref v26 → jget L 27 = .int v27 → jget L 28 = .long v28 → jget L 30 = .long v30 → jget L 32 = .int v32 → k553 v1 v2 v3 v4 v5 v6 v7 v8 v9 v11 v12 v13 v15 v17 v18 v19 v20 v21 v22 v23 v24 v25 v26 v27 v28 v30 v32 μ = some (r, μ9) → jR B SA d m_L_law 553 L [] μ (some (.int (jb r))) μ9) : ∀ (L : JLoc) (v1 : Nat) (v2 : Nat) (v3 : Int32) (v4 : Nat) (v5 : Nat) (v6 : Nat) (v7 : Nat) (v8 : Nat) (v9 : Nat) (v11 : Int32) (v12 : Int32) (v13 : Int64) (v15 : Int64) (v17 : Nat) (v18 : Nat) (v19 : Nat) (v20 : Nat) (v21 : Nat) (v22 : Nat) (v23 : Nat) (v24 : Int32) (v25 : Int32) (v26 : Nat) (v27 : Int32) (v30 : Int64) (v32 : Int32) (s0 : Int64) (μ : JMem) (r : Bool) (μ9 : JMem), jget L 1 = .ref v1 → jget L 2 = .ref v2 → jget L 3 = .int v3 → jget L 4 = .ref v4 → jget L 5 = .ref v5 → jget L 6 = .ref v6 → jget L 7 = .ref v7 → jget L 8 = .ref v8 → jget L 9 = .ref v9 → jget L 11 = .int v11 → jget L 12 = .int v12 → jget L 13 = .long v13 → jget L 15 = .long v15 → jget L 17 = .ref v17 → jget L 18 = .ref v18 → jget L 19 = .ref v19 → jget L 20 = .ref v20 → jget L 21 = .ref v21 → jget L 22 = .ref v22 → jget L 23 = .ref v23 → jget L 24 = .int v24 → jget L 25 = .int v25 → jget L 26 = .ref v26 → jget L 27 = .int v27 → jget L 30 = .long v30 → jget L 32 = .int v32 → g_L_law_1392 N M B SA k517 k553 v1 v2 v3 v4 v5 v6 v7 v8 v9 v11 v12 v13 v15 v17 v18 v19 v20 v21 v22 v23 v24 v25 v26 v27 v30 v32 s0 μ = some (r, μ9) → jR B SA d m_L_law 1392 L [.long s0] μ (some (.int (jb r))) μ9 := by
  intro L v1 v2 v3 v4 v5 v6 v7 v8 v9 v11 v12 v13 v15 v17 v18 v19 v20 v21 v22 v23 v24 v25 v26 v27 v30 v32 s0 μ r μ9 hl1 hl2 hl3 hl4 hl5 hl6 hl7 hl8 hl9 hl11 hl12 hl13 hl15 hl17 hl18 hl19 hl20 hl21 hl22 hl23 hl24 hl25 hl26 hl27 hl30 hl32 h
  unfold g_L_law_1392 at h
  refine jr_lstore jf_145_1392 jml_145 (by decide) ?_
  exact r_L_law_1394 hd i517 i553 _ _ _ _ _ _ _ _ _ _ _ _ _ _ _ _ _ _ _ _ _ _ _ _ _ _ _ _ _ _ _ (jg2_ne rfl hl1) (jg2_ne rfl hl2) (jg2_ne rfl hl3) (jg2_ne rfl hl4) (jg2_ne rfl hl5) (jg2_ne rfl hl6) (jg2_ne rfl hl7) (jg2_ne rfl hl8) (jg2_ne rfl hl9) (jg2_ne rfl hl11) (jg2_ne rfl hl12) (jg2_ne rfl hl13) (jg2_ne rfl hl15) (jg2_ne rfl hl17) (jg2_ne rfl hl18) (jg2_ne rfl hl19) (jg2_ne rfl hl20) (jg2_ne rfl hl21) (jg2_ne rfl hl22) (jg2_ne rfl hl23) (jg2_ne rfl hl24) (jg2_ne rfl hl25) (jg2_ne rfl hl26) (jg2_ne rfl hl27) (jg2_ne rfl hl30) (jg2_ne rfl hl32) jg2_same h
set_option maxRecDepth 10000 in
set_option maxHeartbeats 4000000 in
theorem r_L_law_1375 {N M B : Nat} {SA : Nat → Nat} {d : Nat} (hd : M + 8 ≤ d) {k517 : Nat → Nat → Int32 → Nat → Nat → Nat → Nat → Nat → Nat → Bool → Int32 → Int32 → Int64 → Int64 → Nat → Nat → Nat → Nat → Nat → Nat → Nat → Int32 → Int32 → Nat → Int32 → JMem → Option (Bool × JMem)} (i517 : ∀ (L : JLoc) (v1 : Nat) (v2 : Nat) (v3 : Int32) (v4 : Nat) (v5 : Nat) (v6 : Nat) (v7 : Nat) (v8 : Nat) (v9 : Nat) (v10 : Bool) (v11 : Int32) (v12 : Int32) (v13 : Int64) (v15 : Int64) (v17 : Nat) (v18 : Nat) (v19 : Nat) (v20 : Nat) (v21 : Nat) (v22 : Nat) (v23 : Nat) (v24 : Int32) (v25 : Int32) (v26 : Nat) (v27 : Int32) (μ : JMem) (r : Bool) (μ9 : JMem), jget L 1 = .ref v1 → jget L 2 = .ref v2 → jget L 3 = .int v3 → jget L 4 = .ref v4 → jget L 5 = .ref v5 → jget L 6 = .ref v6 → jget L 7 = .ref v7 → jget L 8 = .ref v8 → jget L 9 = .ref v9 → jget L 10 = .int (jb v10) → jget L 11 = .int v11 → jget L 12 = .int v12 → jget L 13 = .long v13 → jget L 15 = .long v15 → jget L 17 = .ref v17 → jget L 18 = .ref v18 → jget L 19 = .ref v19 → jget L 20 = .ref v20 → jget L 21 = .ref v21 → jget L 22 = .ref v22 → jget L 23 = .ref v23 → jget L 24 = .int v24 → jget L 25 = .int v25 → jget L 26 = .ref v26 → jget L 27 = .int v27 → k517 v1 v2 v3 v4 v5 v6 v7 v8 v9 v10 v11 v12 v13 v15 v17 v18 v19 v20 v21 v22 v23 v24 v25 v26 v27 μ = some (r, μ9) → jR B SA d m_L_law 517 L [] μ (some (.int (jb r))) μ9) {k553 : Nat → Nat → Int32 → Nat → Nat → Nat → Nat → Nat → Nat → Int32 → Int32 → Int64 → Int64 → Nat → Nat → Nat → Nat → Nat → Nat → Nat → Int32 → Int32 → Nat → Int32 → Int64 → Int64 → Int32 → JMem → Option (Bool × JMem)} (i553 : ∀ (L : JLoc) (v1 : Nat) (v2 : Nat) (v3 : Int32) (v4 : Nat) (v5 : Nat) (v6 : Nat) (v7 : Nat) (v8 : Nat) (v9 : Nat) (v11 : Int32) (v12 : Int32) (v13 : Int64) (v15 : Int64) (v17 : Nat) (v18 : Nat) (v19 : Nat) (v20 : Nat) (v21 : Nat) (v22 : Nat) (v23 : Nat) (v24 : Int32) (v25 : Int32) (v26 : Nat) (v27 : Int32) (v28 : Int64) (v30 : Int64) (v32 : Int32) (μ : JMem) (r : Bool) (μ9 : JMem), jget L 1 = .ref v1 → jget L 2 = .ref v2 → jget L 3 = .int v3 → jget L 4 = .ref v4 → jget L 5 = .ref v5 → jget L 6 = .ref v6 → jget L 7 = .ref v7 → jget L 8 = .ref v8 → jget L 9 = .ref v9 → jget L 11 = .int v11 → jget L 12 = .int v12 → jget L 13 = .long v13 → jget L 15 = .long v15 → jget L 17 = .ref v17 → jget L 18 = .ref v18 → jget L 19 = .ref v19 → jget L 20 = .ref v20 → jget L 21 = .ref v21 → jget L 22 = .ref v22 → jget L 23 = .ref v23 → jget L 24 = .int v24 → jget L 25 = .int v25 → jget L 26 = .ref v26 → jget L 27 = .int v27 → jget L 28 = .long v28 → jget L 30 = .long v30 → jget L 32 = .int v32 → k553 v1 v2 v3 v4 v5 v6 v7 v8 v9 v11 v12 v13 v15 v17 v18 v19 v20 v21 v22 v23 v24 v25 v26 v27 v28 v30 v32 μ = some (r, μ9) → jR B SA d m_L_law 553 L [] μ (some (.int (jb r))) μ9) : ∀ (L : JLoc) (v1 : Nat) (v2 : Nat) (v3 : Int32) (v4 : Nat) (v5 : Nat) (v6 : Nat) (v7 : Nat) (v8 : Nat) (v9 : Nat) (v11 : Int32) (v12 : Int32) (v13 : Int64) (v15 : Int64) (v17 : Nat) (v18 : Nat) (v19 : Nat) (v20 : Nat) (v21 : Nat) (v22 : Nat) (v23 : Nat) (v24 : Int32) (v25 : Int32) (v26 : Nat) (v27 : Int32) (v28 : Int64) (v30 : Int64) (v32 : Int32) (v39 : Int64) (μ : JMem) (r : Bool) (μ9 : JMem), jget L 1 = .ref v1 → jget L 2 = .ref v2 → jget L 3 = .int v3 → jget L 4 = .ref v4 → jget L 5 = .ref v5 → jget L 6 = .ref v6 → jget L 7 = .ref v7 → jget L 8 = .ref v8 → jget L 9 = .ref v9 → jget L 11 = .int v11 → jget L 12 = .int v12 → jget L 13 = .long v13 → jget L 15 = .long v15 → jget L 17 = .ref v17 → jget L 18 = .ref v18 → jget L 19 = .ref v19 → jget L 20 = .ref v20 → jget L 21 = .ref v21 → jget L 22 = .ref v22 → jget L 23 = .ref v23 → jget L 24 = .int v24 → jget L 25 = .int v25 → jget L 26 = .ref v26 → jget L 27 = .int v27 → jget L 28 = .long v28 → jget L 30 = .long v30 → jget L 32 = .int v32 → jget L 39 = .long v39 → g_L_law_1375 N M B SA k517 k553 v1 v2 v3 v4 v5 v6 v7 v8 v9 v11 v12 v13 v15 v17 v18 v19 v20 v21 v22 v23 v24 v25 v26 v27 v28 v30 v32 v39 μ = some (r, μ9) → jR B SA d m_L_law 1375 L [] μ (some (.int (jb r))) μ9 := by
  intro L v1 v2 v3 v4 v5 v6 v7 v8 v9 v11 v12 v13 v15 v17 v18 v19 v20 v21 v22 v23 v24 v25 v26 v27 v28 v30 v32 v39 μ r μ9 hl1 hl2 hl3 hl4 hl5 hl6 hl7 hl8 hl9 hl11 hl12 hl13 hl15 hl17 hl18 hl19 hl20 hl21 hl22 hl23 hl24 hl25 hl26 hl27 hl28 hl30 hl32 hl39 h
  unfold g_L_law_1375 at h
  refine jr_lload jf_145_1375 hl39 ?_
  refine jr_aload jf_145_1377 hl8 ?_
  refine jr_iload jf_145_1379 hl32 ?_
  replace h := obd_of h; obtain ⟨x1, hx1, h⟩ := h
  refine jr_laload jf_145_1381 hx1 ?_
  refine jr_lcmp jf_145_1382 ?_
  replace h := ite_or h; rcases h with ⟨hc, h⟩ | ⟨hc, h⟩
  · refine jr_ifl_gt_t jf_145_1383 hc ?_
    refine jr_lload jf_145_1390 hl28 ?_
    exact r_L_law_1392 hd i517 i553 _ _ _ _ _ _ _ _ _ _ _ _ _ _ _ _ _ _ _ _ _ _ _ _ _ _ _ _ _ _ _ hl1 hl2 hl3 hl4 hl5 hl6 hl7 hl8 hl9 hl11 hl12 hl13 hl15 hl17 hl18 hl19 hl20 hl21 hl22 hl23 hl24 hl25 hl26 hl27 hl30 hl32 h
  · refine jr_ifl_gt_f jf_145_1383 hc ?_
    refine jr_lconst0 jf_145_1386 ?_
    refine jr_goto jf_145_1387 ?_
    exact r_L_law_1392 hd i517 i553 _ _ _ _ _ _ _ _ _ _ _ _ _ _ _ _ _ _ _ _ _ _ _ _ _ _ _ _ _ _ _ hl1 hl2 hl3 hl4 hl5 hl6 hl7 hl8 hl9 hl11 hl12 hl13 hl15 hl17 hl18 hl19 hl20 hl21 hl22 hl23 hl24 hl25 hl26 hl27 hl30 hl32 h
set_option maxRecDepth 10000 in
set_option maxHeartbeats 4000000 in
theorem r_L_law_1353 {N M B : Nat} {SA : Nat → Nat} {d : Nat} (hd : M + 8 ≤ d) {k517 : Nat → Nat → Int32 → Nat → Nat → Nat → Nat → Nat → Nat → Bool → Int32 → Int32 → Int64 → Int64 → Nat → Nat → Nat → Nat → Nat → Nat → Nat → Int32 → Int32 → Nat → Int32 → JMem → Option (Bool × JMem)} (i517 : ∀ (L : JLoc) (v1 : Nat) (v2 : Nat) (v3 : Int32) (v4 : Nat) (v5 : Nat) (v6 : Nat) (v7 : Nat) (v8 : Nat) (v9 : Nat) (v10 : Bool) (v11 : Int32) (v12 : Int32) (v13 : Int64) (v15 : Int64) (v17 : Nat) (v18 : Nat) (v19 : Nat) (v20 : Nat) (v21 : Nat) (v22 : Nat) (v23 : Nat) (v24 : Int32) (v25 : Int32) (v26 : Nat) (v27 : Int32) (μ : JMem) (r : Bool) (μ9 : JMem), jget L 1 = .ref v1 → jget L 2 = .ref v2 → jget L 3 = .int v3 → jget L 4 = .ref v4 → jget L 5 = .ref v5 → jget L 6 = .ref v6 → jget L 7 = .ref v7 → jget L 8 = .ref v8 → jget L 9 = .ref v9 → jget L 10 = .int (jb v10) → jget L 11 = .int v11 → jget L 12 = .int v12 → jget L 13 = .long v13 → jget L 15 = .long v15 → jget L 17 = .ref v17 → jget L 18 = .ref v18 → jget L 19 = .ref v19 → jget L 20 = .ref v20 → jget L 21 = .ref v21 → jget L 22 = .ref v22 → jget L 23 = .ref v23 → jget L 24 = .int v24 → jget L 25 = .int v25 → jget L 26 = .ref v26 → jget L 27 = .int v27 → k517 v1 v2 v3 v4 v5 v6 v7 v8 v9 v10 v11 v12 v13 v15 v17 v18 v19 v20 v21 v22 v23 v24 v25 v26 v27 μ = some (r, μ9) → jR B SA d m_L_law 517 L [] μ (some (.int (jb r))) μ9) {k553 : Nat → Nat → Int32 → Nat → Nat → Nat → Nat → Nat → Nat → Int32 → Int32 → Int64 → Int64 → Nat → Nat → Nat → Nat → Nat → Nat → Nat → Int32 → Int32 → Nat → Int32 → Int64 → Int64 → Int32 → JMem → Option (Bool × JMem)} (i553 : ∀ (L : JLoc) (v1 : Nat) (v2 : Nat) (v3 : Int32) (v4 : Nat) (v5 : Nat) (v6 : Nat) (v7 : Nat) (v8 : Nat) (v9 : Nat) (v11 : Int32) (v12 : Int32) (v13 : Int64) (v15 : Int64) (v17 : Nat) (v18 : Nat) (v19 : Nat) (v20 : Nat) (v21 : Nat) (v22 : Nat) (v23 : Nat) (v24 : Int32) (v25 : Int32) (v26 : Nat) (v27 : Int32) (v28 : Int64) (v30 : Int64) (v32 : Int32) (μ : JMem) (r : Bool) (μ9 : JMem), jget L 1 = .ref v1 → jget L 2 = .ref v2 → jget L 3 = .int v3 → jget L 4 = .ref v4 → jget L 5 = .ref v5 → jget L 6 = .ref v6 → jget L 7 = .ref v7 → jget L 8 = .ref v8 → jget L 9 = .ref v9 → jget L 11 = .int v11 → jget L 12 = .int v12 → jget L 13 = .long v13 → jget L 15 = .long v15 → jget L 17 = .ref v17 → jget L 18 = .ref v18 → jget L 19 = .ref v19 → jget L 20 = .ref v20 → jget L 21 = .ref v21 → jget L 22 = .ref v22 → jget L 23 = .ref v23 → jget L 24 = .int v24 → jget L 25 = .int v25 → jget L 26 = .ref v26 → jget L 27 = .int v27 → jget L 28 = .long v28 → jget L 30 = .long v30 → jget L 32 = .int v32 → k553 v1 v2 v3 v4 v5 v6 v7 v8 v9 v11 v12 v13 v15 v17 v18 v19 v20 v21 v22 v23 v24 v25 v26 v27 v28 v30 v32 μ = some (r, μ9) → jR B SA d m_L_law 553 L [] μ (some (.int (jb r))) μ9) : ∀ (L : JLoc) (v1 : Nat) (v2 : Nat) (v3 : Int32) (v4 : Nat) (v5 : Nat) (v6 : Nat) (v7 : Nat) (v8 : Nat) (v9 : Nat) (v11 : Int32) (v12 : Int32) (v13 : Int64) (v15 : Int64) (v17 : Nat) (v18 : Nat) (v19 : Nat) (v20 : Nat) (v21 : Nat) (v22 : Nat) (v23 : Nat) (v24 : Int32) (v25 : Int32) (v26 : Nat) (v27 : Int32) (v28 : Int64) (v30 : Int64) (v32 : Int32) (s0 : Int64) (μ : JMem) (r : Bool) (μ9 : JMem), jget L 1 = .ref v1 → jget L 2 = .ref v2 → jget L 3 = .int v3 → jget L 4 = .ref v4 → jget L 5 = .ref v5 → jget L 6 = .ref v6 → jget L 7 = .ref v7 → jget L 8 = .ref v8 → jget L 9 = .ref v9 → jget L 11 = .int v11 → jget L 12 = .int v12 → jget L 13 = .long v13 → jget L 15 = .long v15 → jget L 17 = .ref v17 → jget L 18 = .ref v18 → jget L 19 = .ref v19 → jget L 20 = .ref v20 → jget L 21 = .ref v21 → jget L 22 = .ref v22 → jget L 23 = .ref v23 → jget L 24 = .int v24 → jget L 25 = .int v25 → jget L 26 = .ref v26 → jget L 27 = .int v27 → jget L 28 = .long v28 → jget L 30 = .long v30 → jget L 32 = .int v32 → g_L_law_1353 N M B SA k517 k553 v1 v2 v3 v4 v5 v6 v7 v8 v9 v11 v12 v13 v15 v17 v18 v19 v20 v21 v22 v23 v24 v25 v26 v27 v28 v30 v32 s0 μ = some (r, μ9) → jR B SA d m_L_law 1353 L [.long s0] μ (some (.int (jb r))) μ9 := by
  intro L v1 v2 v3 v4 v5 v6 v7 v8 v9 v11 v12 v13 v15 v17 v18 v19 v20 v21 v22 v23 v24 v25 v26 v27 v28 v30 v32 s0 μ r μ9 hl1 hl2 hl3 hl4 hl5 hl6 hl7 hl8 hl9 hl11 hl12 hl13 hl15 hl17 hl18 hl19 hl20 hl21 hl22 hl23 hl24 hl25 hl26 hl27 hl28 hl30 hl32 h
  unfold g_L_law_1353 at h
  refine jr_lstore jf_145_1353 jml_145 (by decide) ?_
  refine jr_lload jf_145_1355 jg2_same ?_
  refine jr_aload jf_145_1357 (jg2_ne rfl hl8) ?_
  refine jr_iload jf_145_1359 (jg2_ne rfl hl32) ?_
  replace h := obd_of h; obtain ⟨x1, hx1, h⟩ := h
  refine jr_laload jf_145_1361 hx1 ?_
  refine jr_lcmp jf_145_1362 ?_
  replace h := ite_or h; rcases h with ⟨hc, h⟩ | ⟨hc, h⟩
  · refine jr_ifl_gt_t jf_145_1363 hc ?_
    exact r_L_law_1375 hd i517 i553 _ _ _ _ _ _ _ _ _ _ _ _ _ _ _ _ _ _ _ _ _ _ _ _ _ _ _ _ _ _ _ _ (jg2_ne rfl hl1) (jg2_ne rfl hl2) (jg2_ne rfl hl3) (jg2_ne rfl hl4) (jg2_ne rfl hl5) (jg2_ne rfl hl6) (jg2_ne rfl hl7) (jg2_ne rfl hl8) (jg2_ne rfl hl9) (jg2_ne rfl hl11) (jg2_ne rfl hl12) (jg2_ne rfl hl13) (jg2_ne rfl hl15) (jg2_ne rfl hl17) (jg2_ne rfl hl18) (jg2_ne rfl hl19) (jg2_ne rfl hl20) (jg2_ne rfl hl21) (jg2_ne rfl hl22) (jg2_ne rfl hl23) (jg2_ne rfl hl24) (jg2_ne rfl hl25) (jg2_ne rfl hl26) (jg2_ne rfl hl27) (jg2_ne rfl hl28) (jg2_ne rfl hl30) (jg2_ne rfl hl32) jg2_same h
  · refine jr_ifl_gt_f jf_145_1363 hc ?_
    refine jr_aload jf_145_1366 (jg2_ne rfl hl22) ?_
    refine jr_iload jf_145_1368 (jg2_ne rfl hl32) ?_
    refine jr_dup2_1 jf_145_1370 rfl rfl ?_
    replace h := obd_of h; obtain ⟨x2, hx2, h⟩ := h
    refine jr_iaload jf_145_1371 hx2 ?_
    refine jr_iconst jf_145_1372 jc_i_1 ?_
    refine jr_iadd jf_145_1373 ?_
    replace h := obd_of h; obtain ⟨μ3, hμ3, h⟩ := h
    refine jr_iastore jf_145_1374 hμ3 ?_
    exact r_L_law_1375 hd i517 i553 _ _ _ _ _ _ _ _ _ _ _ _ _ _ _ _ _ _ _ _ _ _ _ _ _ _ _ _ _ _ _ _ (jg2_ne rfl hl1) (jg2_ne rfl hl2) (jg2_ne rfl hl3) (jg2_ne rfl hl4) (jg2_ne rfl hl5) (jg2_ne rfl hl6) (jg2_ne rfl hl7) (jg2_ne rfl hl8) (jg2_ne rfl hl9) (jg2_ne rfl hl11) (jg2_ne rfl hl12) (jg2_ne rfl hl13) (jg2_ne rfl hl15) (jg2_ne rfl hl17) (jg2_ne rfl hl18) (jg2_ne rfl hl19) (jg2_ne rfl hl20) (jg2_ne rfl hl21) (jg2_ne rfl hl22) (jg2_ne rfl hl23) (jg2_ne rfl hl24) (jg2_ne rfl hl25) (jg2_ne rfl hl26) (jg2_ne rfl hl27) (jg2_ne rfl hl28) (jg2_ne rfl hl30) (jg2_ne rfl hl32) jg2_same h
set_option maxRecDepth 10000 in
set_option maxHeartbeats 4000000 in
theorem r_L_law_1313 {N M B : Nat} {SA : Nat → Nat} {d : Nat} (hd : M + 8 ≤ d) {k517 : Nat → Nat → Int32 → Nat → Nat → Nat → Nat → Nat → Nat → Bool → Int32 → Int32 → Int64 → Int64 → Nat → Nat → Nat → Nat → Nat → Nat → Nat → Int32 → Int32 → Nat → Int32 → JMem → Option (Bool × JMem)} (i517 : ∀ (L : JLoc) (v1 : Nat) (v2 : Nat) (v3 : Int32) (v4 : Nat) (v5 : Nat) (v6 : Nat) (v7 : Nat) (v8 : Nat) (v9 : Nat) (v10 : Bool) (v11 : Int32) (v12 : Int32) (v13 : Int64) (v15 : Int64) (v17 : Nat) (v18 : Nat) (v19 : Nat) (v20 : Nat) (v21 : Nat) (v22 : Nat) (v23 : Nat) (v24 : Int32) (v25 : Int32) (v26 : Nat) (v27 : Int32) (μ : JMem) (r : Bool) (μ9 : JMem), jget L 1 = .ref v1 → jget L 2 = .ref v2 → jget L 3 = .int v3 → jget L 4 = .ref v4 → jget L 5 = .ref v5 → jget L 6 = .ref v6 → jget L 7 = .ref v7 → jget L 8 = .ref v8 → jget L 9 = .ref v9 → jget L 10 = .int (jb v10) → jget L 11 = .int v11 → jget L 12 = .int v12 → jget L 13 = .long v13 → jget L 15 = .long v15 → jget L 17 = .ref v17 → jget L 18 = .ref v18 → jget L 19 = .ref v19 → jget L 20 = .ref v20 → jget L 21 = .ref v21 → jget L 22 = .ref v22 → jget L 23 = .ref v23 → jget L 24 = .int v24 → jget L 25 = .int v25 → jget L 26 = .ref v26 → jget L 27 = .int v27 → k517 v1 v2 v3 v4 v5 v6 v7 v8 v9 v10 v11 v12 v13 v15 v17 v18 v19 v20 v21 v22 v23 v24 v25 v26 v27 μ = some (r, μ9) → jR B SA d m_L_law 517 L [] μ (some (.int (jb r))) μ9) {k553 : Nat → Nat → Int32 → Nat → Nat → Nat → Nat → Nat → Nat → Int32 → Int32 → Int64 → Int64 → Nat → Nat → Nat → Nat → Nat → Nat → Nat → Int32 → Int32 → Nat → Int32 → Int64 → Int64 → Int32 → JMem → Option (Bool × JMem)} (i553 : ∀ (L : JLoc) (v1 : Nat) (v2 : Nat) (v3 : Int32) (v4 : Nat) (v5 : Nat) (v6 : Nat) (v7 : Nat) (v8 : Nat) (v9 : Nat) (v11 : Int32) (v12 : Int32) (v13 : Int64) (v15 : Int64) (v17 : Nat) (v18 : Nat) (v19 : Nat) (v20 : Nat) (v21 : Nat) (v22 : Nat) (v23 : Nat) (v24 : Int32) (v25 : Int32) (v26 : Nat) (v27 : Int32) (v28 : Int64) (v30 : Int64) (v32 : Int32) (μ : JMem) (r : Bool) (μ9 : JMem), jget L 1 = .ref v1 → jget L 2 = .ref v2 → jget L 3 = .int v3 → jget L 4 = .ref v4 → jget L 5 = .ref v5 → jget L 6 = .ref v6 → jget L 7 = .ref v7 → jget L 8 = .ref v8 → jget L 9 = .ref v9 → jget L 11 = .int v11 → jget L 12 = .int v12 → jget L 13 = .long v13 → jget L 15 = .long v15 → jget L 17 = .ref v17 → jget L 18 = .ref v18 → jget L 19 = .ref v19 → jget L 20 = .ref v20 → jget L 21 = .ref v21 → jget L 22 = .ref v22 → jget L 23 = .ref v23 → jget L 24 = .int v24 → jget L 25 = .int v25 → jget L 26 = .ref v26 → jget L 27 = .int v27 → jget L 28 = .long v28 → jget L 30 = .long v30 → jget L 32 = .int v32 → k553 v1 v2 v3 v4 v5 v6 v7 v8 v9 v11 v12 v13 v15 v17 v18 v19 v20 v21 v22 v23 v24 v25 v26 v27 v28 v30 v32 μ = some (r, μ9) → jR B SA d m_L_law 553 L [] μ (some (.int (jb r))) μ9) : ∀ (L : JLoc) (v1 : Nat) (v2 : Nat) (v3 : Int32) (v4 : Nat) (v5 : Nat) (v6 : Nat) (v7 : Nat) (v8 : Nat) (v9 : Nat) (v11 : Int32) (v12 : Int32) (v13 : Int64) (v15 : Int64) (v17 : Nat) (v18 : Nat) (v19 : Nat) (v20 : Nat) (v21 : Nat) (v22 : Nat) (v23 : Nat) (v24 : Int32) (v25 : Int32) (v26 : Nat) (v27 : Int32) (v28 : Int64) (v30 : Int64) (v32 : Int32) (v35 : Int64) (μ : JMem) (r : Bool) (μ9 : JMem), jget L 1 = .ref v1 → jget L 2 = .ref v2 → jget L 3 = .int v3 → jget L 4 = .ref v4 → jget L 5 = .ref v5 → jget L 6 = .ref v6 → jget L 7 = .ref v7 → jget L 8 = .ref v8 → jget L 9 = .ref v9 → jget L 11 = .int v11 → jget L 12 = .int v12 → jget L 13 = .long v13 → jget L 15 = .long v15 → jget L 17 = .ref v17 → jget L 18 = .ref v18 → jget L 19 = .ref v19 → jget L 20 = .ref v20 → jget L 21 = .ref v21 → jget L 22 = .ref v22 → jget L 23 = .ref v23 → jget L 24 = .int v24 → jget L 25 = .int v25 → jget L 26 = .ref v26 → jget L 27 = .int v27 → jget L 28 = .long v28 → jget L 30 = .long v30 → jget L 32 = .int v32 → jget L 35 = .long v35 → g_L_law_1313 N M B SA k517 k553 v1 v2 v3 v4 v5 v6 v7 v8 v9 v11 v12 v13 v15 v17 v18 v19 v20 v21 v22 v23 v24 v25 v26 v27 v28 v30 v32 v35 μ = some (r, μ9) → jR B SA d m_L_law 1313 L [] μ (some (.int (jb r))) μ9 := by
  intro L v1 v2 v3 v4 v5 v6 v7 v8 v9 v11 v12 v13 v15 v17 v18 v19 v20 v21 v22 v23 v24 v25 v26 v27 v28 v30 v32 v35 μ r μ9 hl1 hl2 hl3 hl4 hl5 hl6 hl7 hl8 hl9 hl11 hl12 hl13 hl15 hl17 hl18 hl19 hl20 hl21 hl22 hl23 hl24 hl25 hl26 hl27 hl28 hl30 hl32 hl35 h
  unfold g_L_law_1313 at h
  refine jr_aload jf_145_1313 hl4 ?_
  refine jr_iload jf_145_1315 hl32 ?_
  replace h := obd_of h; obtain ⟨x1, hx1, h⟩ := h
  refine jr_iaload jf_145_1317 hx1 ?_
  refine jr_bipush jf_145_1318 jc_b_10 ?_
  replace h := ite_or h; rcases h with ⟨hc, h⟩ | ⟨hc, h⟩
  · refine jr_if2_ne_f jf_145_1320 hc ?_
    refine jr_lload jf_145_1323 hl28 ?_
    refine jr_lconst0 jf_145_1325 ?_
    refine jr_lcmp jf_145_1326 ?_
    replace h := ite_or h; rcases h with ⟨hc, h⟩ | ⟨hc, h⟩
    · refine jr_ifl_ge_t jf_145_1327 hc ?_
      refine jr_lload jf_145_1351 hl28 ?_
      exact r_L_law_1353 hd i517 i553 _ _ _ _ _ _ _ _ _ _ _ _ _ _ _ _ _ _ _ _ _ _ _ _ _ _ _ _ _ _ _ _ hl1 hl2 hl3 hl4 hl5 hl6 hl7 hl8 hl9 hl11 hl12 hl13 hl15 hl17 hl18 hl19 hl20 hl21 hl22 hl23 hl24 hl25 hl26 hl27 hl28 hl30 hl32 h
    · refine jr_ifl_ge_f jf_145_1327 hc ?_
      refine jr_lload jf_145_1330 hl28 ?_
      refine jr_ldc2l jf_145_1332 ?_
      refine jr_lcmp jf_145_1335 ?_
      replace h := ite_or h; rcases h with ⟨hc, h⟩ | ⟨hc, h⟩
      · refine jr_ifl_ne_f jf_145_1336 hc ?_
        refine jr_ldc2l jf_145_1339 ?_
        refine jr_goto jf_145_1342 ?_
        exact r_L_law_1353 hd i517 i553 _ _ _ _ _ _ _ _ _ _ _ _ _ _ _ _ _ _ _ _ _ _ _ _ _ _ _ _ _ _ _ _ hl1 hl2 hl3 hl4 hl5 hl6 hl7 hl8 hl9 hl11 hl12 hl13 hl15 hl17 hl18 hl19 hl20 hl21 hl22 hl23 hl24 hl25 hl26 hl27 hl28 hl30 hl32 h
      · refine jr_ifl_ne_t jf_145_1336 hc ?_
        refine jr_lload jf_145_1345 hl28 ?_
        refine jr_lneg jf_145_1347 ?_
        refine jr_goto jf_145_1348 ?_
        exact r_L_law_1353 hd i517 i553 _ _ _ _ _ _ _ _ _ _ _ _ _ _ _ _ _ _ _ _ _ _ _ _ _ _ _ _ _ _ _ _ hl1 hl2 hl3 hl4 hl5 hl6 hl7 hl8 hl9 hl11 hl12 hl13 hl15 hl17 hl18 hl19 hl20 hl21 hl22 hl23 hl24 hl25 hl26 hl27 hl28 hl30 hl32 h
  · refine jr_if2_ne_t jf_145_1320 hc ?_
    exact r_L_law_1394 hd i517 i553 _ _ _ _ _ _ _ _ _ _ _ _ _ _ _ _ _ _ _ _ _ _ _ _ _ _ _ _ _ _ _ hl1 hl2 hl3 hl4 hl5 hl6 hl7 hl8 hl9 hl11 hl12 hl13 hl15 hl17 hl18 hl19 hl20 hl21 hl22 hl23 hl24 hl25 hl26 hl27 hl30 hl32 hl35 h
set_option maxRecDepth 10000 in
set_option maxHeartbeats 4000000 in
theorem r_L_law_1311 {N M B : Nat} {SA : Nat → Nat} {d : Nat} (hd : M + 8 ≤ d) {k517 : Nat → Nat → Int32 → Nat → Nat → Nat → Nat → Nat → Nat → Bool → Int32 → Int32 → Int64 → Int64 → Nat → Nat → Nat → Nat → Nat → Nat → Nat → Int32 → Int32 → Nat → Int32 → JMem → Option (Bool × JMem)} (i517 : ∀ (L : JLoc) (v1 : Nat) (v2 : Nat) (v3 : Int32) (v4 : Nat) (v5 : Nat) (v6 : Nat) (v7 : Nat) (v8 : Nat) (v9 : Nat) (v10 : Bool) (v11 : Int32) (v12 : Int32) (v13 : Int64) (v15 : Int64) (v17 : Nat) (v18 : Nat) (v19 : Nat) (v20 : Nat) (v21 : Nat) (v22 : Nat) (v23 : Nat) (v24 : Int32) (v25 : Int32) (v26 : Nat) (v27 : Int32) (μ : JMem) (r : Bool) (μ9 : JMem), jget L 1 = .ref v1 → jget L 2 = .ref v2 → jget L 3 = .int v3 → jget L 4 = .ref v4 → jget L 5 = .ref v5 → jget L 6 = .ref v6 → jget L 7 = .ref v7 → jget L 8 = .ref v8 → jget L 9 = .ref v9 → jget L 10 = .int (jb v10) → jget L 11 = .int v11 → jget L 12 = .int v12 → jget L 13 = .long v13 → jget L 15 = .long v15 → jget L 17 = .ref v17 → jget L 18 = .ref v18 → jget L 19 = .ref v19 → jget L 20 = .ref v20 → jget L 21 = .ref v21 → jget L 22 = .ref v22 → jget L 23 = .ref v23 → jget L 24 = .int v24 → jget L 25 = .int v25 → jget L 26 = .ref v26 → jget L 27 = .int v27 → k517 v1 v2 v3 v4 v5 v6 v7 v8 v9 v10 v11 v12 v13 v15 v17 v18 v19 v20 v21 v22 v23 v24 v25 v26 v27 μ = some (r, μ9) → jR B SA d m_L_law 517 L [] μ (some (.int (jb r))) μ9) {k553 : Nat → Nat → Int32 → Nat → Nat → Nat → Nat → Nat → Nat → Int32 → Int32 → Int64 → Int64 → Nat → Nat → Nat → Nat → Nat → Nat → Nat → Int32 → Int32 → Nat → Int32 → Int64 → Int64 → Int32 → JMem → Option (Bool × JMem)} (i553 : ∀ (L : JLoc) (v1 : Nat) (v2 : Nat) (v3 : Int32) (v4 : Nat) (v5 : Nat) (v6 : Nat) (v7 : Nat) (v8 : Nat) (v9 : Nat) (v11 : Int32) (v12 : Int32) (v13 : Int64) (v15 : Int64) (v17 : Nat) (v18 : Nat) (v19 : Nat) (v20 : Nat) (v21 : Nat) (v22 : Nat) (v23 : Nat) (v24 : Int32) (v25 : Int32) (v26 : Nat) (v27 : Int32) (v28 : Int64) (v30 : Int64) (v32 : Int32) (μ : JMem) (r : Bool) (μ9 : JMem), jget L 1 = .ref v1 → jget L 2 = .ref v2 → jget L 3 = .int v3 → jget L 4 = .ref v4 → jget L 5 = .ref v5 → jget L 6 = .ref v6 → jget L 7 = .ref v7 → jget L 8 = .ref v8 → jget L 9 = .ref v9 → jget L 11 = .int v11 → jget L 12 = .int v12 → jget L 13 = .long v13 → jget L 15 = .long v15 → jget L 17 = .ref v17 → jget L 18 = .ref v18 → jget L 19 = .ref v19 → jget L 20 = .ref v20 → jget L 21 = .ref v21 → jget L 22 = .ref v22 → jget L 23 = .ref v23 → jget L 24 = .int v24 → jget L 25 = .int v25 → jget L 26 = .ref v26 → jget L 27 = .int v27 → jget L 28 = .long v28 → jget L 30 = .long v30 → jget L 32 = .int v32 → k553 v1 v2 v3 v4 v5 v6 v7 v8 v9 v11 v12 v13 v15 v17 v18 v19 v20 v21 v22 v23 v24 v25 v26 v27 v28 v30 v32 μ = some (r, μ9) → jR B SA d m_L_law 553 L [] μ (some (.int (jb r))) μ9) : ∀ (L : JLoc) (v1 : Nat) (v2 : Nat) (v3 : Int32) (v4 : Nat) (v5 : Nat) (v6 : Nat) (v7 : Nat) (v8 : Nat) (v9 : Nat) (v11 : Int32) (v12 : Int32) (v13 : Int64) (v15 : Int64) (v17 : Nat) (v18 : Nat) (v19 : Nat) (v20 : Nat) (v21 : Nat) (v22 : Nat) (v23 : Nat) (v24 : Int32) (v25 : Int32) (v26 : Nat) (v27 : Int32) (v28 : Int64) (v30 : Int64) (v32 : Int32) (s0 : Int64) (μ : JMem) (r : Bool) (μ9 : JMem), jget L 1 = .ref v1 → jget L 2 = .ref v2 → jget L 3 = .int v3 → jget L 4 = .ref v4 → jget L 5 = .ref v5 → jget L 6 = .ref v6 → jget L 7 = .ref v7 → jget L 8 = .ref v8 → jget L 9 = .ref v9 → jget L 11 = .int v11 → jget L 12 = .int v12 → jget L 13 = .long v13 → jget L 15 = .long v15 → jget L 17 = .ref v17 → jget L 18 = .ref v18 → jget L 19 = .ref v19 → jget L 20 = .ref v20 → jget L 21 = .ref v21 → jget L 22 = .ref v22 → jget L 23 = .ref v23 → jget L 24 = .int v24 → jget L 25 = .int v25 → jget L 26 = .ref v26 → jget L 27 = .int v27 → jget L 28 = .long v28 → jget L 30 = .long v30 → jget L 32 = .int v32 → g_L_law_1311 N M B SA k517 k553 v1 v2 v3 v4 v5 v6 v7 v8 v9 v11 v12 v13 v15 v17 v18 v19 v20 v21 v22 v23 v24 v25 v26 v27 v28 v30 v32 s0 μ = some (r, μ9) → jR B SA d m_L_law 1311 L [.long s0] μ (some (.int (jb r))) μ9 := by
  intro L v1 v2 v3 v4 v5 v6 v7 v8 v9 v11 v12 v13 v15 v17 v18 v19 v20 v21 v22 v23 v24 v25 v26 v27 v28 v30 v32 s0 μ r μ9 hl1 hl2 hl3 hl4 hl5 hl6 hl7 hl8 hl9 hl11 hl12 hl13 hl15 hl17 hl18 hl19 hl20 hl21 hl22 hl23 hl24 hl25 hl26 hl27 hl28 hl30 hl32 h
  unfold g_L_law_1311 at h
  refine jr_lstore jf_145_1311 jml_145 (by decide) ?_
  exact r_L_law_1313 hd i517 i553 _ _ _ _ _ _ _ _ _ _ _ _ _ _ _ _ _ _ _ _ _ _ _ _ _ _ _ _ _ _ _ _ (jg2_ne rfl hl1) (jg2_ne rfl hl2) (jg2_ne rfl hl3) (jg2_ne rfl hl4) (jg2_ne rfl hl5) (jg2_ne rfl hl6) (jg2_ne rfl hl7) (jg2_ne rfl hl8) (jg2_ne rfl hl9) (jg2_ne rfl hl11) (jg2_ne rfl hl12) (jg2_ne rfl hl13) (jg2_ne rfl hl15) (jg2_ne rfl hl17) (jg2_ne rfl hl18) (jg2_ne rfl hl19) (jg2_ne rfl hl20) (jg2_ne rfl hl21) (jg2_ne rfl hl22) (jg2_ne rfl hl23) (jg2_ne rfl hl24) (jg2_ne rfl hl25) (jg2_ne rfl hl26) (jg2_ne rfl hl27) (jg2_ne rfl hl28) (jg2_ne rfl hl30) (jg2_ne rfl hl32) jg2_same h
set_option maxRecDepth 10000 in
set_option maxHeartbeats 4000000 in
theorem r_L_law_1277 {N M B : Nat} {SA : Nat → Nat} {d : Nat} (hd : M + 8 ≤ d) {k517 : Nat → Nat → Int32 → Nat → Nat → Nat → Nat → Nat → Nat → Bool → Int32 → Int32 → Int64 → Int64 → Nat → Nat → Nat → Nat → Nat → Nat → Nat → Int32 → Int32 → Nat → Int32 → JMem → Option (Bool × JMem)} (i517 : ∀ (L : JLoc) (v1 : Nat) (v2 : Nat) (v3 : Int32) (v4 : Nat) (v5 : Nat) (v6 : Nat) (v7 : Nat) (v8 : Nat) (v9 : Nat) (v10 : Bool) (v11 : Int32) (v12 : Int32) (v13 : Int64) (v15 : Int64) (v17 : Nat) (v18 : Nat) (v19 : Nat) (v20 : Nat) (v21 : Nat) (v22 : Nat) (v23 : Nat) (v24 : Int32) (v25 : Int32) (v26 : Nat) (v27 : Int32) (μ : JMem) (r : Bool) (μ9 : JMem), jget L 1 = .ref v1 → jget L 2 = .ref v2 → jget L 3 = .int v3 → jget L 4 = .ref v4 → jget L 5 = .ref v5 → jget L 6 = .ref v6 → jget L 7 = .ref v7 → jget L 8 = .ref v8 → jget L 9 = .ref v9 → jget L 10 = .int (jb v10) → jget L 11 = .int v11 → jget L 12 = .int v12 → jget L 13 = .long v13 → jget L 15 = .long v15 → jget L 17 = .ref v17 → jget L 18 = .ref v18 → jget L 19 = .ref v19 → jget L 20 = .ref v20 → jget L 21 = .ref v21 → jget L 22 = .ref v22 → jget L 23 = .ref v23 → jget L 24 = .int v24 → jget L 25 = .int v25 → jget L 26 = .ref v26 → jget L 27 = .int v27 → k517 v1 v2 v3 v4 v5 v6 v7 v8 v9 v10 v11 v12 v13 v15 v17 v18 v19 v20 v21 v22 v23 v24 v25 v26 v27 μ = some (r, μ9) → jR B SA d m_L_law 517 L [] μ (some (.int (jb r))) μ9) {k553 : Nat → Nat → Int32 → Nat → Nat → Nat → Nat → Nat → Nat → Int32 → Int32 → Int64 → Int64 → Nat → Nat → Nat → Nat → Nat → Nat → Nat → Int32 → Int32 → Nat → Int32 → Int64 → Int64 → Int32 → JMem → Option (Bool × JMem)} (i553 : ∀ (L : JLoc) (v1 : Nat) (v2 : Nat) (v3 : Int32) (v4 : Nat) (v5 : Nat) (v6 : Nat) (v7 : Nat) (v8 : Nat) (v9 : Nat) (v11 : Int32) (v12 : Int32) (v13 : Int64) (v15 : Int64) (v17 : Nat) (v18 : Nat) (v19 : Nat) (v20 : Nat) (v21 : Nat) (v22 : Nat) (v23 : Nat) (v24 : Int32) (v25 : Int32) (v26 : Nat) (v27 : Int32) (v28 : Int64) (v30 : Int64) (v32 : Int32) (μ : JMem) (r : Bool) (μ9 : JMem), jget L 1 = .ref v1 → jget L 2 = .ref v2 → jget L 3 = .int v3 → jget L 4 = .ref v4 → jget L 5 = .ref v5 → jget L 6 = .ref v6 → jget L 7 = .ref v7 → jget L 8 = .ref v8 → jget L 9 = .ref v9 → jget L 11 = .int v11 → jget L 12 = .int v12 → jget L 13 = .long v13 → jget L 15 = .long v15 → jget L 17 = .ref v17 → jget L 18 = .ref v18 → jget L 19 = .ref v19 → jget L 20 = .ref v20 → jget L 21 = .ref v21 → jget L 22 = .ref v22 → jget L 23 = .ref v23 → jget L 24 = .int v24 → jget L 25 = .int v25 → jget L 26 = .ref v26 → jget L 27 = .int v27 → jget L 28 = .long v28 → jget L 30 = .long v30 → jget L 32 = .int v32 → k553 v1 v2 v3 v4 v5 v6 v7 v8 v9 v11 v12 v13 v15 v17 v18 v19 v20 v21 v22 v23 v24 v25 v26 v27 v28 v30 v32 μ = some (r, μ9) → jR B SA d m_L_law 553 L [] μ (some (.int (jb r))) μ9) : ∀ (L : JLoc) (v1 : Nat) (v2 : Nat) (v3 : Int32) (v4 : Nat) (v5 : Nat) (v6 : Nat) (v7 : Nat) (v8 : Nat) (v9 : Nat) (v11 : Int32) (v12 : Int32) (v13 : Int64) (v15 : Int64) (v17 : Nat) (v18 : Nat) (v19 : Nat) (v20 : Nat) (v21 : Nat) (v22 : Nat) (v23 : Nat) (v24 : Int32) (v25 : Int32) (v26 : Nat) (v27 : Int32) (v28 : Int64) (v30 : Int64) (v32 : Int32) (v41 : Int64) (μ : JMem) (r : Bool) (μ9 : JMem), jget L 1 = .ref v1 → jget L 2 = .ref v2 → jget L 3 = .int v3 → jget L 4 = .ref v4 → jget L 5 = .ref v5 → jget L 6 = .ref v6 → jget L 7 = .ref v7 → jget L 8 = .ref v8 → jget L 9 = .ref v9 → jget L 11 = .int v11 → jget L 12 = .int v12 → jget L 13 = .long v13 → jget L 15 = .long v15 → jget L 17 = .ref v17 → jget L 18 = .ref v18 → jget L 19 = .ref v19 → jget L 20 = .ref v20 → jget L 21 = .ref v21 → jget L 22 = .ref v22 → jget L 23 = .ref v23 → jget L 24 = .int v24 → jget L 25 = .int v25 → jget L 26 = .ref v26 → jget L 27 = .int v27 → jget L 28 = .long v28 → jget L 30 = .long v30 → jget L 32 = .int v32 → jget L 41 = .long v41 → g_L_law_1277 N M B SA k517 k553 v1 v2 v3 v4 v5 v6 v7 v8 v9 v11 v12 v13 v15 v17 v18 v19 v20 v21 v22 v23 v24 v25 v26 v27 v28 v30 v32 v41 μ = some (r, μ9) → jR B SA d m_L_law 1277 L [] μ (some (.int (jb r))) μ9 := by
  intro L v1 v2 v3 v4 v5 v6 v7 v8 v9 v11 v12 v13 v15 v17 v18 v19 v20 v21 v22 v23 v24 v25 v26 v27 v28 v30 v32 v41 μ r μ9 hl1 hl2 hl3 hl4 hl5 hl6 hl7 hl8 hl9 hl11 hl12 hl13 hl15 hl17 hl18 hl19 hl20 hl21 hl22 hl23 hl24 hl25 hl26 hl27 hl28 hl30 hl32 hl41 h
  unfold g_L_law_1277 at h
  refine jr_lload jf_145_1277 hl28 ?_
  refine jr_aload jf_145_1279 hl8 ?_
  refine jr_iload jf_145_1281 hl32 ?_
  replace h := obd_of h; obtain ⟨x1, hx1, h⟩ := h
  refine jr_laload jf_145_1283 hx1 ?_
  refine jr_lcmp jf_145_1284 ?_
  replace h := ite_or h; rcases h with ⟨hc, h⟩ | ⟨hc, h⟩
  · refine jr_ifl_le_t jf_145_1285 hc ?_
    refine jr_lload jf_145_1296 hl28 ?_
    refine jr_lload jf_145_1298 hl41 ?_
    refine jr_lcmp jf_145_1300 ?_
    replace h := ite_or h; rcases h with ⟨hc, h⟩ | ⟨hc, h⟩
    · refine jr_ifl_ge_t jf_145_1301 hc ?_
      refine jr_lload jf_145_1309 hl28 ?_
      exact r_L_law_1311 hd i517 i553 _ _ _ _ _ _ _ _ _ _ _ _ _ _ _ _ _ _ _ _ _ _ _ _ _ _ _ _ _ _ _ _ hl1 hl2 hl3 hl4 hl5 hl6 hl7 hl8 hl9 hl11 hl12 hl13 hl15 hl17 hl18 hl19 hl20 hl21 hl22 hl23 hl24 hl25 hl26 hl27 hl28 hl30 hl32 h
    · refine jr_ifl_ge_f jf_145_1301 hc ?_
      refine jr_lload jf_145_1304 hl41 ?_
      refine jr_goto jf_145_1306 ?_
      exact r_L_law_1311 hd i517 i553 _ _ _ _ _ _ _ _ _ _ _ _ _ _ _ _ _ _ _ _ _ _ _ _ _ _ _ _ _ _ _ _ hl1 hl2 hl3 hl4 hl5 hl6 hl7 hl8 hl9 hl11 hl12 hl13 hl15 hl17 hl18 hl19 hl20 hl21 hl22 hl23 hl24 hl25 hl26 hl27 hl28 hl30 hl32 h
  · refine jr_ifl_le_f jf_145_1285 hc ?_
    refine jr_aload jf_145_1288 hl8 ?_
    refine jr_iload jf_145_1290 hl32 ?_
    replace h := obd_of h; obtain ⟨x2, hx2, h⟩ := h
    refine jr_laload jf_145_1292 hx2 ?_
    refine jr_goto jf_145_1293 ?_
    exact r_L_law_1311 hd i517 i553 _ _ _ _ _ _ _ _ _ _ _ _ _ _ _ _ _ _ _ _ _ _ _ _ _ _ _ _ _ _ _ _ hl1 hl2 hl3 hl4 hl5 hl6 hl7 hl8 hl9 hl11 hl12 hl13 hl15 hl17 hl18 hl19 hl20 hl21 hl22 hl23 hl24 hl25 hl26 hl27 hl28 hl30 hl32 h
set_option maxRecDepth 10000 in
set_option maxHeartbeats 4000000 in
theorem r_L_law_1268 {N M B : Nat} {SA : Nat → Nat} {d : Nat} (hd : M + 8 ≤ d) {k517 : Nat → Nat → Int32 → Nat → Nat → Nat → Nat → Nat → Nat → Bool → Int32 → Int32 → Int64 → Int64 → Nat → Nat → Nat → Nat → Nat → Nat → Nat → Int32 → Int32 → Nat → Int32 → JMem → Option (Bool × JMem)} (i517 : ∀ (L : JLoc) (v1 : Nat) (v2 : Nat) (v3 : Int32) (v4 : Nat) (v5 : Nat) (v6 : Nat) (v7 : Nat) (v8 : Nat) (v9 : Nat) (v10 : Bool) (v11 : Int32) (v12 : Int32) (v13 : Int64) (v15 : Int64) (v17 : Nat) (v18 : Nat) (v19 : Nat) (v20 : Nat) (v21 : Nat) (v22 : Nat) (v23 : Nat) (v24 : Int32) (v25 : Int32) (v26 : Nat) (v27 : Int32) (μ : JMem) (r : Bool) (μ9 : JMem), jget L 1 = .ref v1 → jget L 2 = .ref v2 → jget L 3 = .int v3 → jget L 4 = .ref v4 → jget L 5 = .ref v5 → jget L 6 = .ref v6 → jget L 7 = .ref v7 → jget L 8 = .ref v8 → jget L 9 = .ref v9 → jget L 10 = .int (jb v10) → jget L 11 = .int v11 → jget L 12 = .int v12 → jget L 13 = .long v13 → jget L 15 = .long v15 → jget L 17 = .ref v17 → jget L 18 = .ref v18 → jget L 19 = .ref v19 → jget L 20 = .ref v20 → jget L 21 = .ref v21 → jget L 22 = .ref v22 → jget L 23 = .ref v23 → jget L 24 = .int v24 → jget L 25 = .int v25 → jget L 26 = .ref v26 → jget L 27 = .int v27 → k517 v1 v2 v3 v4 v5 v6 v7 v8 v9 v10 v11 v12 v13 v15 v17 v18 v19 v20 v21 v22 v23 v24 v25 v26 v27 μ = some (r, μ9) → jR B SA d m_L_law 517 L [] μ (some (.int (jb r))) μ9) {k553 : Nat → Nat → Int32 → Nat → Nat → Nat → Nat → Nat → Nat → Int32 → Int32 → Int64 → Int64 → Nat → Nat → Nat → Nat → Nat → Nat → Nat → Int32 → Int32 → Nat → Int32 → Int64 → Int64 → Int32 → JMem → Option (Bool × JMem)} (i553 : ∀ (L : JLoc) (v1 : Nat) (v2 : Nat) (v3 : Int32) (v4 : Nat) (v5 : Nat) (v6 : Nat) (v7 : Nat) (v8 : Nat) (v9 : Nat) (v11 : Int32) (v12 : Int32) (v13 : Int64) (v15 : Int64) (v17 : Nat) (v18 : Nat) (v19 : Nat) (v20 : Nat) (v21 : Nat) (v22 : Nat) (v23 : Nat) (v24 : Int32) (v25 : Int32) (v26 : Nat) (v27 : Int32) (v28 : Int64) (v30 : Int64) (v32 : Int32) (μ : JMem) (r : Bool) (μ9 : JMem), jget L 1 = .ref v1 → jget L 2 = .ref v2 → jget L 3 = .int v3 → jget L 4 = .ref v4 → jget L 5 = .ref v5 → jget L 6 = .ref v6 → jget L 7 = .ref v7 → jget L 8 = .ref v8 → jget L 9 = .ref v9 → jget L 11 = .int v11 → jget L 12 = .int v12 → jget L 13 = .long v13 → jget L 15 = .long v15 → jget L 17 = .ref v17 → jget L 18 = .ref v18 → jget L 19 = .ref v19 → jget L 20 = .ref v20 → jget L 21 = .ref v21 → jget L 22 = .ref v22 → jget L 23 = .ref v23 → jget L 24 = .int v24 → jget L 25 = .int v25 → jget L 26 = .ref v26 → jget L 27 = .int v27 → jget L 28 = .long v28 → jget L 30 = .long v30 → jget L 32 = .int v32 → k553 v1 v2 v3 v4 v5 v6 v7 v8 v9 v11 v12 v13 v15 v17 v18 v19 v20 v21 v22 v23 v24 v25 v26 v27 v28 v30 v32 μ = some (r, μ9) → jR B SA d m_L_law 553 L [] μ (some (.int (jb r))) μ9) : ∀ (L : JLoc) (v1 : Nat) (v2 : Nat) (v3 : Int32) (v4 : Nat) (v5 : Nat) (v6 : Nat) (v7 : Nat) (v8 : Nat) (v9 : Nat) (v11 : Int32) (v12 : Int32) (v13 : Int64) (v15 : Int64) (v17 : Nat) (v18 : Nat) (v19 : Nat) (v20 : Nat) (v21 : Nat) (v22 : Nat) (v23 : Nat) (v24 : Int32) (v25 : Int32) (v26 : Nat) (v27 : Int32) (v28 : Int64) (v30 : Int64) (v32 : Int32) (v41 : Int64) (μ : JMem) (r : Bool) (μ9 : JMem), jget L 1 = .ref v1 → jget L 2 = .ref v2 → jget L 3 = .int v3 → jget L 4 = .ref v4 → jget L 5 = .ref v5 → jget L 6 = .ref v6 → jget L 7 = .ref v7 → jget L 8 = .ref v8 → jget L 9 = .ref v9 → jget L 11 = .int v11 → jget L 12 = .int v12 → jget L 13 = .long v13 → jget L 15 = .long v15 → jget L 17 = .ref v17 → jget L 18 = .ref v18 → jget L 19 = .ref v19 → jget L 20 = .ref v20 → jget L 21 = .ref v21 → jget L 22 = .ref v22 → jget L 23 = .ref v23 → jget L 24 = .int v24 → jget L 25 = .int v25 → jget L 26 = .ref v26 → jget L 27 = .int v27 → jget L 28 = .long v28 → jget L 30 = .long v30 → jget L 32 = .int v32 → jget L 41 = .long v41 → g_L_law_1268 N M B SA k517 k553 v1 v2 v3 v4 v5 v6 v7 v8 v9 v11 v12 v13 v15 v17 v18 v19 v20 v21 v22 v23 v24 v25 v26 v27 v28 v30 v32 v41 μ = some (r, μ9) → jR B SA d m_L_law 1268 L [] μ (some (.int (jb r))) μ9 := by
  intro L v1 v2 v3 v4 v5 v6 v7 v8 v9 v11 v12 v13 v15 v17 v18 v19 v20 v21 v22 v23 v24 v25 v26 v27 v28 v30 v32 v41 μ r μ9 hl1 hl2 hl3 hl4 hl5 hl6 hl7 hl8 hl9 hl11 hl12 hl13 hl15 hl17 hl18 hl19 hl20 hl21 hl22 hl23 hl24 hl25 hl26 hl27 hl28 hl30 hl32 hl41 h
  unfold g_L_law_1268 at h
  refine jr_aload jf_145_1268 hl22 ?_
  refine jr_iload jf_145_1270 hl32 ?_
  refine jr_dup2_1 jf_145_1272 rfl rfl ?_
  replace h := obd_of h; obtain ⟨x1, hx1, h⟩ := h
  refine jr_iaload jf_145_1273 hx1 ?_
  refine jr_iconst jf_145_1274 jc_i_1 ?_
  refine jr_iadd jf_145_1275 ?_
  replace h := obd_of h; obtain ⟨μ2, hμ2, h⟩ := h
  refine jr_iastore jf_145_1276 hμ2 ?_
  exact r_L_law_1277 hd i517 i553 _ _ _ _ _ _ _ _ _ _ _ _ _ _ _ _ _ _ _ _ _ _ _ _ _ _ _ _ _ _ _ _ hl1 hl2 hl3 hl4 hl5 hl6 hl7 hl8 hl9 hl11 hl12 hl13 hl15 hl17 hl18 hl19 hl20 hl21 hl22 hl23 hl24 hl25 hl26 hl27 hl28 hl30 hl32 hl41 h
set_option maxRecDepth 10000 in
set_option maxHeartbeats 4000000 in
theorem r_L_law_1247 {N M B : Nat} {SA : Nat → Nat} {d : Nat} (hd : M + 8 ≤ d) {k517 : Nat → Nat → Int32 → Nat → Nat → Nat → Nat → Nat → Nat → Bool → Int32 → Int32 → Int64 → Int64 → Nat → Nat → Nat → Nat → Nat → Nat → Nat → Int32 → Int32 → Nat → Int32 → JMem → Option (Bool × JMem)} (i517 : ∀ (L : JLoc) (v1 : Nat) (v2 : Nat) (v3 : Int32) (v4 : Nat) (v5 : Nat) (v6 : Nat) (v7 : Nat) (v8 : Nat) (v9 : Nat) (v10 : Bool) (v11 : Int32) (v12 : Int32) (v13 : Int64) (v15 : Int64) (v17 : Nat) (v18 : Nat) (v19 : Nat) (v20 : Nat) (v21 : Nat) (v22 : Nat) (v23 : Nat) (v24 : Int32) (v25 : Int32) (v26 : Nat) (v27 : Int32) (μ : JMem) (r : Bool) (μ9 : JMem), jget L 1 = .ref v1 → jget L 2 = .ref v2 → jget L 3 = .int v3 → jget L 4 = .ref v4 → jget L 5 = .ref v5 → jget L 6 = .ref v6 → jget L 7 = .ref v7 → jget L 8 = .ref v8 → jget L 9 = .ref v9 → jget L 10 = .int (jb v10) → jget L 11 = .int v11 → jget L 12 = .int v12 → jget L 13 = .long v13 → jget L 15 = .long v15 → jget L 17 = .ref v17 → jget L 18 = .ref v18 → jget L 19 = .ref v19 → jget L 20 = .ref v20 → jget L 21 = .ref v21 → jget L 22 = .ref v22 → jget L 23 = .ref v23 → jget L 24 = .int v24 → jget L 25 = .int v25 → jget L 26 = .ref v26 → jget L 27 = .int v27 → k517 v1 v2 v3 v4 v5 v6 v7 v8 v9 v10 v11 v12 v13 v15 v17 v18 v19 v20 v21 v22 v23 v24 v25 v26 v27 μ = some (r, μ9) → jR B SA d m_L_law 517 L [] μ (some (.int (jb r))) μ9) {k553 : Nat → Nat → Int32 → Nat → Nat → Nat → Nat → Nat → Nat → Int32 → Int32 → Int64 → Int64 → Nat → Nat → Nat → Nat → Nat → Nat → Nat → Int32 → Int32 → Nat → Int32 → Int64 → Int64 → Int32 → JMem → Option (Bool × JMem)} (i553 : ∀ (L : JLoc) (v1 : Nat) (v2 : Nat) (v3 : Int32) (v4 : Nat) (v5 : Nat) (v6 : Nat) (v7 : Nat) (v8 : Nat) (v9 : Nat) (v11 : Int32) (v12 : Int32) (v13 : Int64) (v15 : Int64) (v17 : Nat) (v18 : Nat) (v19 : Nat) (v20 : Nat) (v21 : Nat) (v22 : Nat) (v23 : Nat) (v24 : Int32) (v25 : Int32) (v26 : Nat) (v27 : Int32) (v28 : Int64) (v30 : Int64) (v32 : Int32) (μ : JMem) (r : Bool) (μ9 : JMem), jget L 1 = .ref v1 → jget L 2 = .ref v2 → jget L 3 = .int v3 → jget L 4 = .ref v4 → jget L 5 = .ref v5 → jget L 6 = .ref v6 → jget L 7 = .ref v7 → jget L 8 = .ref v8 → jget L 9 = .ref v9 → jget L 11 = .int v11 → jget L 12 = .int v12 → jget L 13 = .long v13 → jget L 15 = .long v15 → jget L 17 = .ref v17 → jget L 18 = .ref v18 → jget L 19 = .ref v19 → jget L 20 = .ref v20 → jget L 21 = .ref v21 → jget L 22 = .ref v22 → jget L 23 = .ref v23 → jget L 24 = .int v24 → jget L 25 = .int v25 → jget L 26 = .ref v26 → jget L 27 = .int v27 → jget L 28 = .long v28 → jget L 30 = .long v30 → jget L 32 = .int v32 → k553 v1 v2 v3 v4 v5 v6 v7 v8 v9 v11 v12 v13 v15 v17 v18 v19 v20 v21 v22 v23 v24 v25 v26 v27 v28 v30 v32 μ = some (r, μ9) → jR B SA d m_L_law 553 L [] μ (some (.int (jb r))) μ9) : ∀ (L : JLoc) (v1 : Nat) (v2 : Nat) (v3 : Int32) (v4 : Nat) (v5 : Nat) (v6 : Nat) (v7 : Nat) (v8 : Nat) (v9 : Nat) (v11 : Int32) (v12 : Int32) (v13 : Int64) (v15 : Int64) (v17 : Nat) (v18 : Nat) (v19 : Nat) (v20 : Nat) (v21 : Nat) (v22 : Nat) (v23 : Nat) (v24 : Int32) (v25 : Int32) (v26 : Nat) (v27 : Int32) (v28 : Int64) (v30 : Int64) (v32 : Int32) (s0 : Int64) (μ : JMem) (r : Bool) (μ9 : JMem), jget L 1 = .ref v1 → jget L 2 = .ref v2 → jget L 3 = .int v3 → jget L 4 = .ref v4 → jget L 5 = .ref v5 → jget L 6 = .ref v6 → jget L 7 = .ref v7 → jget L 8 = .ref v8 → jget L 9 = .ref v9 → jget L 11 = .int v11 → jget L 12 = .int v12 → jget L 13 = .long v13 → jget L 15 = .long v15 → jget L 17 = .ref v17 → jget L 18 = .ref v18 → jget L 19 = .ref v19 → jget L 20 = .ref v20 → jget L 21 = .ref v21 → jget L 22 = .ref v22 → jget L 23 = .ref v23 → jget L 24 = .int v24 → jget L 25 = .int v25 → jget L 26 = .ref v26 → jget L 27 = .int v27 → jget L 28 = .long v28 → jget L 30 = .long v30 → jget L 32 = .int v32 → g_L_law_1247 N M B SA k517 k553 v1 v2 v3 v4 v5 v6 v7 v8 v9 v11 v12 v13 v15 v17 v18 v19 v20 v21 v22 v23 v24 v25 v26 v27 v28 v30 v32 s0 μ = some (r, μ9) → jR B SA d m_L_law 1247 L [.long s0] μ (some (.int (jb r))) μ9 := by
  intro L v1 v2 v3 v4 v5 v6 v7 v8 v9 v11 v12 v13 v15 v17 v18 v19 v20 v21 v22 v23 v24 v25 v26 v27 v28 v30 v32 s0 μ r μ9 hl1 hl2 hl3 hl4 hl5 hl6 hl7 hl8 hl9 hl11 hl12 hl13 hl15 hl17 hl18 hl19 hl20 hl21 hl22 hl23 hl24 hl25 hl26 hl27 hl28 hl30 hl32 h
  unfold g_L_law_1247 at h
  refine jr_lstore jf_145_1247 jml_145 (by decide) ?_
  refine jr_lload jf_145_1249 (jg2_ne rfl hl28) ?_
  refine jr_aload jf_145_1251 (jg2_ne rfl hl8) ?_
  refine jr_iload jf_145_1253 (jg2_ne rfl hl32) ?_
  replace h := obd_of h; obtain ⟨x1, hx1, h⟩ := h
  refine jr_laload jf_145_1255 hx1 ?_
  refine jr_lcmp jf_145_1256 ?_
  replace h := ite_or h; rcases h with ⟨hc, h⟩ | ⟨hc, h⟩
  · refine jr_ifl_gt_t jf_145_1257 hc ?_
    exact r_L_law_1268 hd i517 i553 _ _ _ _ _ _ _ _ _ _ _ _ _ _ _ _ _ _ _ _ _ _ _ _ _ _ _ _ _ _ _ _ (jg2_ne rfl hl1) (jg2_ne rfl hl2) (jg2_ne rfl hl3) (jg2_ne rfl hl4) (jg2_ne rfl hl5) (jg2_ne rfl hl6) (jg2_ne rfl hl7) (jg2_ne rfl hl8) (jg2_ne rfl hl9) (jg2_ne rfl hl11) (jg2_ne rfl hl12) (jg2_ne rfl hl13) (jg2_ne rfl hl15) (jg2_ne rfl hl17) (jg2_ne rfl hl18) (jg2_ne rfl hl19) (jg2_ne rfl hl20) (jg2_ne rfl hl21) (jg2_ne rfl hl22) (jg2_ne rfl hl23) (jg2_ne rfl hl24) (jg2_ne rfl hl25) (jg2_ne rfl hl26) (jg2_ne rfl hl27) (jg2_ne rfl hl28) (jg2_ne rfl hl30) (jg2_ne rfl hl32) jg2_same h
  · refine jr_ifl_gt_f jf_145_1257 hc ?_
    refine jr_lload jf_145_1260 (jg2_ne rfl hl28) ?_
    refine jr_lload jf_145_1262 jg2_same ?_
    refine jr_lcmp jf_145_1264 ?_
    replace h := ite_or h; rcases h with ⟨hc, h⟩ | ⟨hc, h⟩
    · refine jr_ifl_ge_t jf_145_1265 hc ?_
      exact r_L_law_1277 hd i517 i553 _ _ _ _ _ _ _ _ _ _ _ _ _ _ _ _ _ _ _ _ _ _ _ _ _ _ _ _ _ _ _ _ (jg2_ne rfl hl1) (jg2_ne rfl hl2) (jg2_ne rfl hl3) (jg2_ne rfl hl4) (jg2_ne rfl hl5) (jg2_ne rfl hl6) (jg2_ne rfl hl7) (jg2_ne rfl hl8) (jg2_ne rfl hl9) (jg2_ne rfl hl11) (jg2_ne rfl hl12) (jg2_ne rfl hl13) (jg2_ne rfl hl15) (jg2_ne rfl hl17) (jg2_ne rfl hl18) (jg2_ne rfl hl19) (jg2_ne rfl hl20) (jg2_ne rfl hl21) (jg2_ne rfl hl22) (jg2_ne rfl hl23) (jg2_ne rfl hl24) (jg2_ne rfl hl25) (jg2_ne rfl hl26) (jg2_ne rfl hl27) (jg2_ne rfl hl28) (jg2_ne rfl hl30) (jg2_ne rfl hl32) jg2_same h
    · refine jr_ifl_ge_f jf_145_1265 hc ?_
      exact r_L_law_1268 hd i517 i553 _ _ _ _ _ _ _ _ _ _ _ _ _ _ _ _ _ _ _ _ _ _ _ _ _ _ _ _ _ _ _ _ (jg2_ne rfl hl1) (jg2_ne rfl hl2) (jg2_ne rfl hl3) (jg2_ne rfl hl4) (jg2_ne rfl hl5) (jg2_ne rfl hl6) (jg2_ne rfl hl7) (jg2_ne rfl hl8) (jg2_ne rfl hl9) (jg2_ne rfl hl11) (jg2_ne rfl hl12) (jg2_ne rfl hl13) (jg2_ne rfl hl15) (jg2_ne rfl hl17) (jg2_ne rfl hl18) (jg2_ne rfl hl19) (jg2_ne rfl hl20) (jg2_ne rfl hl21) (jg2_ne rfl hl22) (jg2_ne rfl hl23) (jg2_ne rfl hl24) (jg2_ne rfl hl25) (jg2_ne rfl hl26) (jg2_ne rfl hl27) (jg2_ne rfl hl28) (jg2_ne rfl hl30) (jg2_ne rfl hl32) jg2_same h
set_option maxRecDepth 10000 in
set_option maxHeartbeats 4000000 in
theorem r_L_law_1213 {N M B : Nat} {SA : Nat → Nat} {d : Nat} (hd : M + 8 ≤ d) {k517 : Nat → Nat → Int32 → Nat → Nat → Nat → Nat → Nat → Nat → Bool → Int32 → Int32 → Int64 → Int64 → Nat → Nat → Nat → Nat → Nat → Nat → Nat → Int32 → Int32 → Nat → Int32 → JMem → Option (Bool × JMem)} (i517 : ∀ (L : JLoc) (v1 : Nat) (v2 : Nat) (v3 : Int32) (v4 : Nat) (v5 : Nat) (v6 : Nat) (v7 : Nat) (v8 : Nat) (v9 : Nat) (v10 : Bool) (v11 : Int32) (v12 : Int32) (v13 : Int64) (v15 : Int64) (v17 : Nat) (v18 : Nat) (v19 : Nat) (v20 : Nat) (v21 : Nat) (v22 : Nat) (v23 : Nat) (v24 : Int32) (v25 : Int32) (v26 : Nat) (v27 : Int32) (μ : JMem) (r : Bool) (μ9 : JMem), jget L 1 = .ref v1 → jget L 2 = .ref v2 → jget L 3 = .int v3 → jget L 4 = .ref v4 → jget L 5 = .ref v5 → jget L 6 = .ref v6 → jget L 7 = .ref v7 → jget L 8 = .ref v8 → jget L 9 = .ref v9 → jget L 10 = .int (jb v10) → jget L 11 = .int v11 → jget L 12 = .int v12 → jget L 13 = .long v13 → jget L 15 = .long v15 → jget L 17 = .ref v17 → jget L 18 = .ref v18 → jget L 19 = .ref v19 → jget L 20 = .ref v20 → jget L 21 = .ref v21 → jget L 22 = .ref v22 → jget L 23 = .ref v23 → jget L 24 = .int v24 → jget L 25 = .int v25 → jget L 26 = .ref v26 → jget L 27 = .int v27 → k517 v1 v2 v3 v4 v5 v6 v7 v8 v9 v10 v11 v12 v13 v15 v17 v18 v19 v20 v21 v22 v23 v24 v25 v26 v27 μ = some (r, μ9) → jR B SA d m_L_law 517 L [] μ (some (.int (jb r))) μ9) {k553 : Nat → Nat → Int32 → Nat → Nat → Nat → Nat → Nat → Nat → Int32 → Int32 → Int64 → Int64 → Nat → Nat → Nat → Nat → Nat → Nat → Nat → Int32 → Int32 → Nat → Int32 → Int64 → Int64 → Int32 → JMem → Option (Bool × JMem)} (i553 : ∀ (L : JLoc) (v1 : Nat) (v2 : Nat) (v3 : Int32) (v4 : Nat) (v5 : Nat) (v6 : Nat) (v7 : Nat) (v8 : Nat) (v9 : Nat) (v11 : Int32) (v12 : Int32) (v13 : Int64) (v15 : Int64) (v17 : Nat) (v18 : Nat) (v19 : Nat) (v20 : Nat) (v21 : Nat) (v22 : Nat) (v23 : Nat) (v24 : Int32) (v25 : Int32) (v26 : Nat) (v27 : Int32) (v28 : Int64) (v30 : Int64) (v32 : Int32) (μ : JMem) (r : Bool) (μ9 : JMem), jget L 1 = .ref v1 → jget L 2 = .ref v2 → jget L 3 = .int v3 → jget L 4 = .ref v4 → jget L 5 = .ref v5 → jget L 6 = .ref v6 → jget L 7 = .ref v7 → jget L 8 = .ref v8 → jget L 9 = .ref v9 → jget L 11 = .int v11 → jget L 12 = .int v12 → jget L 13 = .long v13 → jget L 15 = .long v15 → jget L 17 = .ref v17 → jget L 18 = .ref v18 → jget L 19 = .ref v19 → jget L 20 = .ref v20 → jget L 21 = .ref v21 → jget L 22 = .ref v22 → jget L 23 = .ref v23 → jget L 24 = .int v24 → jget L 25 = .int v25 → jget L 26 = .ref v26 → jget L 27 = .int v27 → jget L 28 = .long v28 → jget L 30 = .long v30 → jget L 32 = .int v32 → k553 v1 v2 v3 v4 v5 v6 v7 v8 v9 v11 v12 v13 v15 v17 v18 v19 v20 v21 v22 v23 v24 v25 v26 v27 v28 v30 v32 μ = some (r, μ9) → jR B SA d m_L_law 553 L [] μ (some (.int (jb r))) μ9) : ∀ (L : JLoc) (v1 : Nat) (v2 : Nat) (v3 : Int32) (v4 : Nat) (v5 : Nat) (v6 : Nat) (v7 : Nat) (v8 : Nat) (v9 : Nat) (v11 : Int32) (v12 : Int32) (v13 : Int64) (v15 : Int64) (v17 : Nat) (v18 : Nat) (v19 : Nat) (v20 : Nat) (v21 : Nat) (v22 : Nat) (v23 : Nat) (v24 : Int32) (v25 : Int32) (v26 : Nat) (v27 : Int32) (v28 : Int64) (v30 : Int64) (v32 : Int32) (v35 : Int64) (μ : JMem) (r : Bool) (μ9 : JMem), jget L 1 = .ref v1 → jget L 2 = .ref v2 → jget L 3 = .int v3 → jget L 4 = .ref v4 → jget L 5 = .ref v5 → jget L 6 = .ref v6 → jget L 7 = .ref v7 → jget L 8 = .ref v8 → jget L 9 = .ref v9 → jget L 11 = .int v11 → jget L 12 = .int v12 → jget L 13 = .long v13 → jget L 15 = .long v15 → jget L 17 = .ref v17 → jget L 18 = .ref v18 → jget L 19 = .ref v19 → jget L 20 = .ref v20 → jget L 21 = .ref v21 → jget L 22 = .ref v22 → jget L 23 = .ref v23 → jget L 24 = .int v24 → jget L 25 = .int v25 → jget L 26 = .ref v26 → jget L 27 = .int v27 → jget L 28 = .long v28 → jget L 30 = .long v30 → jget L 32 = .int v32 → jget L 35 = .long v35 → g_L_law_1213 N M B SA k517 k553 v1 v2 v3 v4 v5 v6 v7 v8 v9 v11 v12 v13 v15 v17 v18 v19 v20 v21 v22 v23 v24 v25 v26 v27 v28 v30 v32 v35 μ = some (r, μ9) → jR B SA d m_L_law 1213 L [] μ (some (.int (jb r))) μ9 := by
  intro L v1 v2 v3 v4 v5 v6 v7 v8 v9 v11 v12 v13 v15 v17 v18 v19 v20 v21 v22 v23 v24 v25 v26 v27 v28 v30 v32 v35 μ r μ9 hl1 hl2 hl3 hl4 hl5 hl6 hl7 hl8 hl9 hl11 hl12 hl13 hl15 hl17 hl18 hl19 hl20 hl21 hl22 hl23 hl24 hl25 hl26 hl27 hl28 hl30 hl32 hl35 h
  unfold g_L_law_1213 at h
  refine jr_aload jf_145_1213 hl4 ?_
  refine jr_iload jf_145_1215 hl32 ?_
  replace h := obd_of h; obtain ⟨x1, hx1, h⟩ := h
  refine jr_iaload jf_145_1217 hx1 ?_
  refine jr_bipush jf_145_1218 jc_b_9 ?_
  replace h := ite_or h; rcases h with ⟨hc, h⟩ | ⟨hc, h⟩
  · refine jr_if2_ne_f jf_145_1220 hc ?_
    refine jr_aload jf_145_1223 hl8 ?_
    refine jr_iload jf_145_1225 hl32 ?_
    replace h := obd_of h; obtain ⟨x2, hx2, h⟩ := h
    refine jr_laload jf_145_1227 hx2 ?_
    refine jr_ldc2l jf_145_1228 ?_
    refine jr_lcmp jf_145_1231 ?_
    replace h := ite_or h; rcases h with ⟨hc, h⟩ | ⟨hc, h⟩
    · refine jr_ifl_ne_f jf_145_1232 hc ?_
      refine jr_ldc2l jf_145_1235 ?_
      refine jr_goto jf_145_1238 ?_
      exact r_L_law_1247 hd i517 i553 _ _ _ _ _ _ _ _ _ _ _ _ _ _ _ _ _ _ _ _ _ _ _ _ _ _ _ _ _ _ _ _ hl1 hl2 hl3 hl4 hl5 hl6 hl7 hl8 hl9 hl11 hl12 hl13 hl15 hl17 hl18 hl19 hl20 hl21 hl22 hl23 hl24 hl25 hl26 hl27 hl28 hl30 hl32 h
    · refine jr_ifl_ne_t jf_145_1232 hc ?_
      refine jr_aload jf_145_1241 hl8 ?_
      refine jr_iload jf_145_1243 hl32 ?_
      replace h := obd_of h; obtain ⟨x3, hx3, h⟩ := h
      refine jr_laload jf_145_1245 hx3 ?_
      refine jr_lneg jf_145_1246 ?_
      exact r_L_law_1247 hd i517 i553 _ _ _ _ _ _ _ _ _ _ _ _ _ _ _ _ _ _ _ _ _ _ _ _ _ _ _ _ _ _ _ _ hl1 hl2 hl3 hl4 hl5 hl6 hl7 hl8 hl9 hl11 hl12 hl13 hl15 hl17 hl18 hl19 hl20 hl21 hl22 hl23 hl24 hl25 hl26 hl27 hl28 hl30 hl32 h
  · refine jr_if2_ne_t jf_145_1220 hc ?_
    exact r_L_law_1313 hd i517 i553 _ _ _ _ _ _ _ _ _ _ _ _ _ _ _ _ _ _ _ _ _ _ _ _ _ _ _ _ _ _ _ _ hl1 hl2 hl3 hl4 hl5 hl6 hl7 hl8 hl9 hl11 hl12 hl13 hl15 hl17 hl18 hl19 hl20 hl21 hl22 hl23 hl24 hl25 hl26 hl27 hl28 hl30 hl32 hl35 h
set_option maxRecDepth 10000 in
set_option maxHeartbeats 4000000 in
theorem r_L_law_1180 {N M B : Nat} {SA : Nat → Nat} {d : Nat} (hd : M + 8 ≤ d) {k517 : Nat → Nat → Int32 → Nat → Nat → Nat → Nat → Nat → Nat → Bool → Int32 → Int32 → Int64 → Int64 → Nat → Nat → Nat → Nat → Nat → Nat → Nat → Int32 → Int32 → Nat → Int32 → JMem → Option (Bool × JMem)} (i517 : ∀ (L : JLoc) (v1 : Nat) (v2 : Nat) (v3 : Int32) (v4 : Nat) (v5 : Nat) (v6 : Nat) (v7 : Nat) (v8 : Nat) (v9 : Nat) (v10 : Bool) (v11 : Int32) (v12 : Int32) (v13 : Int64) (v15 : Int64) (v17 : Nat) (v18 : Nat) (v19 : Nat) (v20 : Nat) (v21 : Nat) (v22 : Nat) (v23 : Nat) (v24 : Int32) (v25 : Int32) (v26 : Nat) (v27 : Int32) (μ : JMem) (r : Bool) (μ9 : JMem), jget L 1 = .ref v1 → jget L 2 = .ref v2 → jget L 3 = .int v3 → jget L 4 = .ref v4 → jget L 5 = .ref v5 → jget L 6 = .ref v6 → jget L 7 = .ref v7 → jget L 8 = .ref v8 → jget L 9 = .ref v9 → jget L 10 = .int (jb v10) → jget L 11 = .int v11 → jget L 12 = .int v12 → jget L 13 = .long v13 → jget L 15 = .long v15 → jget L 17 = .ref v17 → jget L 18 = .ref v18 → jget L 19 = .ref v19 → jget L 20 = .ref v20 → jget L 21 = .ref v21 → jget L 22 = .ref v22 → jget L 23 = .ref v23 → jget L 24 = .int v24 → jget L 25 = .int v25 → jget L 26 = .ref v26 → jget L 27 = .int v27 → k517 v1 v2 v3 v4 v5 v6 v7 v8 v9 v10 v11 v12 v13 v15 v17 v18 v19 v20 v21 v22 v23 v24 v25 v26 v27 μ = some (r, μ9) → jR B SA d m_L_law 517 L [] μ (some (.int (jb r))) μ9) {k553 : Nat → Nat → Int32 → Nat → Nat → Nat → Nat → Nat → Nat → Int32 → Int32 → Int64 → Int64 → Nat → Nat → Nat → Nat → Nat → Nat → Nat → Int32 → Int32 → Nat → Int32 → Int64 → Int64 → Int32 → JMem → Option (Bool × JMem)} (i553 : ∀ (L : JLoc) (v1 : Nat) (v2 : Nat) (v3 : Int32) (v4 : Nat) (v5 : Nat) (v6 : Nat) (v7 : Nat) (v8 : Nat) (v9 : Nat) (v11 : Int32) (v12 : Int32) (v13 : Int64) (v15 : Int64) (v17 : Nat) (v18 : Nat) (v19 : Nat) (v20 : Nat) (v21 : Nat) (v22 : Nat) (v23 : Nat) (v24 : Int32) (v25 : Int32) (v26 : Nat) (v27 : Int32) (v28 : Int64) (v30 : Int64) (v32 : Int32) (μ : JMem) (r : Bool) (μ9 : JMem), jget L 1 = .ref v1 → jget L 2 = .ref v2 → jget L 3 = .int v3 → jget L 4 = .ref v4 → jget L 5 = .ref v5 → jget L 6 = .ref v6 → jget L 7 = .ref v7 → jget L 8 = .ref v8 → jget L 9 = .ref v9 → jget L 11 = .int v11 → jget L 12 = .int v12 → jget L 13 = .long v13 → jget L 15 = .long v15 → jget L 17 = .ref v17 → jget L 18 = .ref v18 → jget L 19 = .ref v19 → jget L 20 = .ref v20 → jget L 21 = .ref v21 → jget L 22 = .ref v22 → jget L 23 = .ref v23 → jget L 24 = .int v24 → jget L 25 = .int v25 → jget L 26 = .ref v26 → jget L 27 = .int v27 → jget L 28 = .long v28 → jget L 30 = .long v30 → jget L 32 = .int v32 → k553 v1 v2 v3 v4 v5 v6 v7 v8 v9 v11 v12 v13 v15 v17 v18 v19 v20 v21 v22 v23 v24 v25 v26 v27 v28 v30 v32 μ = some (r, μ9) → jR B SA d m_L_law 553 L [] μ (some (.int (jb r))) μ9) : ∀ (L : JLoc) (v1 : Nat) (v2 : Nat) (v3 : Int32) (v4 : Nat) (v5 : Nat) (v6 : Nat) (v7 : Nat) (v8 : Nat) (v9 : Nat) (v11 : Int32) (v12 : Int32) (v13 : Int64) (v15 : Int64) (v17 : Nat) (v18 : Nat) (v19 : Nat) (v20 : Nat) (v21 : Nat) (v22 : Nat) (v23 : Nat) (v24 : Int32) (v25 : Int32) (v26 : Nat) (v27 : Int32) (v28 : Int64) (v30 : Int64) (v32 : Int32) (v35 : Int64) (v41 : Int64) (s0 : Int64) (s1 : Int32) (s2 : Nat) (μ : JMem) (r : Bool) (μ9 : JMem), jget L 1 = .ref v1 → jget L 2 = .ref v2 → jget L 3 = .int v3 → jget L 4 = .ref v4 → jget L 5 = .ref v5 → jget L 6 = .ref v6 → jget L 7 = .ref v7 → jget L 8 = .ref v8 → jget L 9 = .ref v9 → jget L 11 = .int v11 → jget L 12 = .int v12 → jget L 13 = .long v13 → jget L 15 = .long v15 → jget L 17 = .ref v17 → jget L 18 = .ref v18 → jget L 19 = .ref v19 → jget L 20 = .ref v20 → jget L 21 = .ref v21 → jget L 22 = .ref v22 → jget L 23 = .ref v23 → jget L 24 = .int v24 → jget L 25 = .int v25 → jget L 26 = .ref v26 → jget L 27 = .int v27 → jget L 28 = .long v28 → jget L 30 = .long v30 → jget L 32 = .int v32 → jget L 35 = .long v35 → jget L 41 = .long v41 → g_L_law_1180 N M B SA k517 k553 v1 v2 v3 v4 v5 v6 v7 v8 v9 v11 v12 v13 v15 v17 v18 v19 v20 v21 v22 v23 v24 v25 v26 v27 v28 v30 v32 v35 v41 s0 s1 s2 μ = some (r, μ9) → jR B SA d m_L_law 1180 L [.long s0, .int s1, .ref s2] μ (some (.int (jb r))) μ9 := by
  intro L v1 v2 v3 v4 v5 v6 v7 v8 v9 v11 v12 v13 v15 v17 v18 v19 v20 v21 v22 v23 v24 v25 v26 v27 v28 v30 v32 v35 v41 s0 s1 s2 μ r μ9 hl1 hl2 hl3 hl4 hl5 hl6 hl7 hl8 hl9 hl11 hl12 hl13 hl15 hl17 hl18 hl19 hl20 hl21 hl22 hl23 hl24 hl25 hl26 hl27 hl28 hl30 hl32 hl35 hl41 h
  unfold g_L_law_1180 at h
  replace h := obd_of h; obtain ⟨μ1, hμ1, h⟩ := h
  refine jr_lastore jf_145_1180 hμ1 ?_
  refine jr_aload jf_145_1181 hl19 ?_
  refine jr_iload jf_145_1183 hl32 ?_
  refine jr_aload jf_145_1185 hl19 ?_
  refine jr_iload jf_145_1187 hl32 ?_
  replace h := obd_of h; obtain ⟨x2, hx2, h⟩ := h
  refine jr_iaload jf_145_1189 hx2 ?_
  refine jr_iconst jf_145_1190 jc_i_1 ?_
  refine jr_iadd jf_145_1191 ?_
  refine jr_aload jf_145_1192 hl7 ?_
  refine jr_iload jf_145_1194 hl32 ?_
  replace h := obd_of h; obtain ⟨x3, hx3, h⟩ := h
  refine jr_iaload jf_145_1196 hx3 ?_
  replace h := obd_of h; obtain ⟨x4, hx4, h⟩ := h
  refine jr_irem jf_145_1197 hx4 ?_
  replace h := obd_of h; obtain ⟨μ5, hμ5, h⟩ := h
  refine jr_iastore jf_145_1198 hμ5 ?_
  refine jr_aload jf_145_1199 hl4 ?_
  refine jr_iload jf_145_1201 hl32 ?_
  replace h := obd_of h; obtain ⟨x6, hx6, h⟩ := h
  refine jr_iaload jf_145_1203 hx6 ?_
  refine jr_bipush jf_145_1204 jc_b_6 ?_
  replace h := ite_or h; rcases h with ⟨hc, h⟩ | ⟨hc, h⟩
  · refine jr_if2_ne_f jf_145_1206 hc ?_
    refine jr_lload jf_145_1209 hl41 ?_
    refine jr_lstore jf_145_1211 jml_145 (by decide) ?_
    exact r_L_law_1213 hd i517 i553 _ _ _ _ _ _ _ _ _ _ _ _ _ _ _ _ _ _ _ _ _ _ _ _ _ _ _ _ _ _ _ _ (jg2_ne rfl hl1) (jg2_ne rfl hl2) (jg2_ne rfl hl3) (jg2_ne rfl hl4) (jg2_ne rfl hl5) (jg2_ne rfl hl6) (jg2_ne rfl hl7) (jg2_ne rfl hl8) (jg2_ne rfl hl9) (jg2_ne rfl hl11) (jg2_ne rfl hl12) (jg2_ne rfl hl13) (jg2_ne rfl hl15) (jg2_ne rfl hl17) (jg2_ne rfl hl18) (jg2_ne rfl hl19) (jg2_ne rfl hl20) (jg2_ne rfl hl21) (jg2_ne rfl hl22) (jg2_ne rfl hl23) (jg2_ne rfl hl24) (jg2_ne rfl hl25) (jg2_ne rfl hl26) (jg2_ne rfl hl27) (jg2_ne rfl hl28) (jg2_ne rfl hl30) (jg2_ne rfl hl32) jg2_same h
  · refine jr_if2_ne_t jf_145_1206 hc ?_
    exact r_L_law_1213 hd i517 i553 _ _ _ _ _ _ _ _ _ _ _ _ _ _ _ _ _ _ _ _ _ _ _ _ _ _ _ _ _ _ _ _ hl1 hl2 hl3 hl4 hl5 hl6 hl7 hl8 hl9 hl11 hl12 hl13 hl15 hl17 hl18 hl19 hl20 hl21 hl22 hl23 hl24 hl25 hl26 hl27 hl28 hl30 hl32 hl35 h
set_option maxRecDepth 10000 in
set_option maxHeartbeats 4000000 in
theorem r_L_law_1136 {N M B : Nat} {SA : Nat → Nat} {d : Nat} (hd : M + 8 ≤ d) {k517 : Nat → Nat → Int32 → Nat → Nat → Nat → Nat → Nat → Nat → Bool → Int32 → Int32 → Int64 → Int64 → Nat → Nat → Nat → Nat → Nat → Nat → Nat → Int32 → Int32 → Nat → Int32 → JMem → Option (Bool × JMem)} (i517 : ∀ (L : JLoc) (v1 : Nat) (v2 : Nat) (v3 : Int32) (v4 : Nat) (v5 : Nat) (v6 : Nat) (v7 : Nat) (v8 : Nat) (v9 : Nat) (v10 : Bool) (v11 : Int32) (v12 : Int32) (v13 : Int64) (v15 : Int64) (v17 : Nat) (v18 : Nat) (v19 : Nat) (v20 : Nat) (v21 : Nat) (v22 : Nat) (v23 : Nat) (v24 : Int32) (v25 : Int32) (v26 : Nat) (v27 : Int32) (μ : JMem) (r : Bool) (μ9 : JMem), jget L 1 = .ref v1 → jget L 2 = .ref v2 → jget L 3 = .int v3 → jget L 4 = .ref v4 → jget L 5 = .ref v5 → jget L 6 = .ref v6 → jget L 7 = .ref v7 → jget L 8 = .ref v8 → jget L 9 = .ref v9 → jget L 10 = .int (jb v10) → jget L 11 = .int v11 → jget L 12 = .int v12 → jget L 13 = .long v13 → jget L 15 = .long v15 → jget L 17 = .ref v17 → jget L 18 = .ref v18 → jget L 19 = .ref v19 → jget L 20 = .ref v20 → jget L 21 = .ref v21 → jget L 22 = .ref v22 → jget L 23 = .ref v23 → jget L 24 = .int v24 → jget L 25 = .int v25 → jget L 26 = .ref v26 → jget L 27 = .int v27 → k517 v1 v2 v3 v4 v5 v6 v7 v8 v9 v10 v11 v12 v13 v15 v17 v18 v19 v20 v21 v22 v23 v24 v25 v26 v27 μ = some (r, μ9) → jR B SA d m_L_law 517 L [] μ (some (.int (jb r))) μ9) {k553 : Nat → Nat → Int32 → Nat → Nat → Nat → Nat → Nat → Nat → Int32 → Int32 → Int64 → Int64 → Nat → Nat → Nat → Nat → Nat → Nat → Nat → Int32 → Int32 → Nat → Int32 → Int64 → Int64 → Int32 → JMem → Option (Bool × JMem)} (i553 : ∀ (L : JLoc) (v1 : Nat) (v2 : Nat) (v3 : Int32) (v4 : Nat) (v5 : Nat) (v6 : Nat) (v7 : Nat) (v8 : Nat) (v9 : Nat) (v11 : Int32) (v12 : Int32) (v13 : Int64) (v15 : Int64) (v17 : Nat) (v18 : Nat) (v19 : Nat) (v20 : Nat) (v21 : Nat) (v22 : Nat) (v23 : Nat) (v24 : Int32) (v25 : Int32) (v26 : Nat) (v27 : Int32) (v28 : Int64) (v30 : Int64) (v32 : Int32) (μ : JMem) (r : Bool) (μ9 : JMem), jget L 1 = .ref v1 → jget L 2 = .ref v2 → jget L 3 = .int v3 → jget L 4 = .ref v4 → jget L 5 = .ref v5 → jget L 6 = .ref v6 → jget L 7 = .ref v7 → jget L 8 = .ref v8 → jget L 9 = .ref v9 → jget L 11 = .int v11 → jget L 12 = .int v12 → jget L 13 = .long v13 → jget L 15 = .long v15 → jget L 17 = .ref v17 → jget L 18 = .ref v18 → jget L 19 = .ref v19 → jget L 20 = .ref v20 → jget L 21 = .ref v21 → jget L 22 = .ref v22 → jget L 23 = .ref v23 → jget L 24 = .int v24 → jget L 25 = .int v25 → jget L 26 = .ref v26 → jget L 27 = .int v27 → jget L 28 = .long v28 → jget L 30 = .long v30 → jget L 32 = .int v32 → k553 v1 v2 v3 v4 v5 v6 v7 v8 v9 v11 v12 v13 v15 v17 v18 v19 v20 v21 v22 v23 v24 v25 v26 v27 v28 v30 v32 μ = some (r, μ9) → jR B SA d m_L_law 553 L [] μ (some (.int (jb r))) μ9) : ∀ (L : JLoc) (v1 : Nat) (v2 : Nat) (v3 : Int32) (v4 : Nat) (v5 : Nat) (v6 : Nat) (v7 : Nat) (v8 : Nat) (v9 : Nat) (v11 : Int32) (v12 : Int32) (v13 : Int64) (v15 : Int64) (v17 : Nat) (v18 : Nat) (v19 : Nat) (v20 : Nat) (v21 : Nat) (v22 : Nat) (v23 : Nat) (v24 : Int32) (v25 : Int32) (v26 : Nat) (v27 : Int32) (v28 : Int64) (v30 : Int64) (v32 : Int32) (v35 : Int64) (μ : JMem) (r : Bool) (μ9 : JMem), jget L 1 = .ref v1 → jget L 2 = .ref v2 → jget L 3 = .int v3 → jget L 4 = .ref v4 → jget L 5 = .ref v5 → jget L 6 = .ref v6 → jget L 7 = .ref v7 → jget L 8 = .ref v8 → jget L 9 = .ref v9 → jget L 11 = .int v11 → jget L 12 = .int v12 → jget L 13 = .long v13 → jget L 15 = .long v15 → jget L 17 = .ref v17 → jget L 18 = .ref v18 → jget L 19 = .ref v19 → jget L 20 = .ref v20 → jget L 21 = .ref v21 → jget L 22 = .ref v22 → jget L 23 = .ref v23 → jget L 24 = .int v24 → jget L 25 = .int v25 → jget L 26 = .ref v26 → jget L 27 = .int v27 → jget L 28 = .long v28 → jget L 30 = .long v30 → jget L 32 = .int v32 → jget L 35 = .long v35 → g_L_law_1136 N M B SA k517 k553 v1 v2 v3 v4 v5 v6 v7 v8 v9 v11 v12 v13 v15 v17 v18 v19 v20 v21 v22 v23 v24 v25 v26 v27 v28 v30 v32 v35 μ = some (r, μ9) → jR B SA d m_L_law 1136 L [] μ (some (.int (jb r))) μ9 := by
  intro L v1 v2 v3 v4 v5 v6 v7 v8 v9 v11 v12 v13 v15 v17 v18 v19 v20 v21 v22 v23 v24 v25 v26 v27 v28 v30 v32 v35 μ r μ9 hl1 hl2 hl3 hl4 hl5 hl6 hl7 hl8 hl9 hl11 hl12 hl13 hl15 hl17 hl18 hl19 hl20 hl21 hl22 hl23 hl24 hl25 hl26 hl27 hl28 hl30 hl32 hl35 h
  unfold g_L_law_1136 at h
  refine jr_aload jf_145_1136 hl18 ?_
  refine jr_iconst jf_145_1138 jc_i_4 ?_
  refine jr_iload jf_145_1139 hl32 ?_
  refine jr_imul jf_145_1141 ?_
  refine jr_aload jf_145_1142 hl19 ?_
  refine jr_iload jf_145_1144 hl32 ?_
  replace h := obd_of h; obtain ⟨x1, hx1, h⟩ := h
  refine jr_iaload jf_145_1146 hx1 ?_
  refine jr_iadd jf_145_1147 ?_
  replace h := obd_of h; obtain ⟨x2, hx2, h⟩ := h
  refine jr_laload jf_145_1148 hx2 ?_
  refine jr_lstore jf_145_1149 jml_145 (by decide) ?_
  refine jr_aload jf_145_1151 (jg2_ne rfl hl18) ?_
  refine jr_iconst jf_145_1153 jc_i_4 ?_
  refine jr_iload jf_145_1154 (jg2_ne rfl hl32) ?_
  refine jr_imul jf_145_1156 ?_
  refine jr_aload jf_145_1157 (jg2_ne rfl hl19) ?_
  refine jr_iload jf_145_1159 (jg2_ne rfl hl32) ?_
  replace h := obd_of h; obtain ⟨x3, hx3, h⟩ := h
  refine jr_iaload jf_145_1161 hx3 ?_
  refine jr_iadd jf_145_1162 ?_
  refine jr_aload jf_145_1163 (jg2_ne rfl hl4) ?_
  refine jr_iload jf_145_1165 (jg2_ne rfl hl32) ?_
  replace h := obd_of h; obtain ⟨x4, hx4, h⟩ := h
  refine jr_iaload jf_145_1167 hx4 ?_
  refine jr_bipush jf_145_1168 jc_b_6 ?_
  replace h := ite_or h; rcases h with ⟨hc, h⟩ | ⟨hc, h⟩
  · refine jr_if2_ne_f jf_145_1170 hc ?_
    refine jr_lload jf_145_1173 (jg2_ne rfl hl28) ?_
    refine jr_goto jf_145_1175 ?_
    exact r_L_law_1180 hd i517 i553 _ _ _ _ _ _ _ _ _ _ _ _ _ _ _ _ _ _ _ _ _ _ _ _ _ _ _ _ _ _ _ _ _ _ _ _ (jg2_ne rfl hl1) (jg2_ne rfl hl2) (jg2_ne rfl hl3) (jg2_ne rfl hl4) (jg2_ne rfl hl5) (jg2_ne rfl hl6) (jg2_ne rfl hl7) (jg2_ne rfl hl8) (jg2_ne rfl hl9) (jg2_ne rfl hl11) (jg2_ne rfl hl12) (jg2_ne rfl hl13) (jg2_ne rfl hl15) (jg2_ne rfl hl17) (jg2_ne rfl hl18) (jg2_ne rfl hl19) (jg2_ne rfl hl20) (jg2_ne rfl hl21) (jg2_ne rfl hl22) (jg2_ne rfl hl23) (jg2_ne rfl hl24) (jg2_ne rfl hl25) (jg2_ne rfl hl26) (jg2_ne rfl hl27) (jg2_ne rfl hl28) (jg2_ne rfl hl30) (jg2_ne rfl hl32) (jg2_ne rfl hl35) jg2_same h
  · refine jr_if2_ne_t jf_145_1170 hc ?_
    refine jr_lload jf_145_1178 (jg2_ne rfl hl35) ?_
    exact r_L_law_1180 hd i517 i553 _ _ _ _ _ _ _ _ _ _ _ _ _ _ _ _ _ _ _ _ _ _ _ _ _ _ _ _ _ _ _ _ _ _ _ _ (jg2_ne rfl hl1) (jg2_ne rfl hl2) (jg2_ne rfl hl3) (jg2_ne rfl hl4) (jg2_ne rfl hl5) (jg2_ne rfl hl6) (jg2_ne rfl hl7) (jg2_ne rfl hl8) (jg2_ne rfl hl9) (jg2_ne rfl hl11) (jg2_ne rfl hl12) (jg2_ne rfl hl13) (jg2_ne rfl hl15) (jg2_ne rfl hl17) (jg2_ne rfl hl18) (jg2_ne rfl hl19) (jg2_ne rfl hl20) (jg2_ne rfl hl21) (jg2_ne rfl hl22) (jg2_ne rfl hl23) (jg2_ne rfl hl24) (jg2_ne rfl hl25) (jg2_ne rfl hl26) (jg2_ne rfl hl27) (jg2_ne rfl hl28) (jg2_ne rfl hl30) (jg2_ne rfl hl32) (jg2_ne rfl hl35) jg2_same h
set_option maxRecDepth 10000 in
set_option maxHeartbeats 4000000 in
theorem r_L_law_1116 {N M B : Nat} {SA : Nat → Nat} {d : Nat} (hd : M + 8 ≤ d) {k517 : Nat → Nat → Int32 → Nat → Nat → Nat → Nat → Nat → Nat → Bool → Int32 → Int32 → Int64 → Int64 → Nat → Nat → Nat → Nat → Nat → Nat → Nat → Int32 → Int32 → Nat → Int32 → JMem → Option (Bool × JMem)} (i517 : ∀ (L : JLoc) (v1 : Nat) (v2 : Nat) (v3 : Int32) (v4 : Nat) (v5 : Nat) (v6 : Nat) (v7 : Nat) (v8 : Nat) (v9 : Nat) (v10 : Bool) (v11 : Int32) (v12 : Int32) (v13 : Int64) (v15 : Int64) (v17 : Nat) (v18 : Nat) (v19 : Nat) (v20 : Nat) (v21 : Nat) (v22 : Nat) (v23 : Nat) (v24 : Int32) (v25 : Int32) (v26 : Nat) (v27 : Int32) (μ : JMem) (r : Bool) (μ9 : JMem), jget L 1 = .ref v1 → jget L 2 = .ref v2 → jget L 3 = .int v3 → jget L 4 = .ref v4 → jget L 5 = .ref v5 → jget L 6 = .ref v6 → jget L 7 = .ref v7 → jget L 8 = .ref v8 → jget L 9 = .ref v9 → jget L 10 = .int (jb v10) → jget L 11 = .int v11 → jget L 12 = .int v12 → jget L 13 = .long v13 → jget L 15 = .long v15 → jget L 17 = .ref v17 → jget L 18 = .ref v18 → jget L 19 = .ref v19 → jget L 20 = .ref v20 → jget L 21 = .ref v21 → jget L 22 = .ref v22 → jget L 23 = .ref v23 → jget L 24 = .int v24 → jget L 25 = .int v25 → jget L 26 = .ref v26 → jget L 27 = .int v27 → k517 v1 v2 v3 v4 v5 v6 v7 v8 v9 v10 v11 v12 v13 v15 v17 v18 v19 v20 v21 v22 v23 v24 v25 v26 v27 μ = some (r, μ9) → jR B SA d m_L_law 517 L [] μ (some (.int (jb r))) μ9) {k553 : Nat → Nat → Int32 → Nat → Nat → Nat → Nat → Nat → Nat → Int32 → Int32 → Int64 → Int64 → Nat → Nat → Nat → Nat → Nat → Nat → Nat → Int32 → Int32 → Nat → Int32 → Int64 → Int64 → Int32 → JMem → Option (Bool × JMem)} (i553 : ∀ (L : JLoc) (v1 : Nat) (v2 : Nat) (v3 : Int32) (v4 : Nat) (v5 : Nat) (v6 : Nat) (v7 : Nat) (v8 : Nat) (v9 : Nat) (v11 : Int32) (v12 : Int32) (v13 : Int64) (v15 : Int64) (v17 : Nat) (v18 : Nat) (v19 : Nat) (v20 : Nat) (v21 : Nat) (v22 : Nat) (v23 : Nat) (v24 : Int32) (v25 : Int32) (v26 : Nat) (v27 : Int32) (v28 : Int64) (v30 : Int64) (v32 : Int32) (μ : JMem) (r : Bool) (μ9 : JMem), jget L 1 = .ref v1 → jget L 2 = .ref v2 → jget L 3 = .int v3 → jget L 4 = .ref v4 → jget L 5 = .ref v5 → jget L 6 = .ref v6 → jget L 7 = .ref v7 → jget L 8 = .ref v8 → jget L 9 = .ref v9 → jget L 11 = .int v11 → jget L 12 = .int v12 → jget L 13 = .long v13 → jget L 15 = .long v15 → jget L 17 = .ref v17 → jget L 18 = .ref v18 → jget L 19 = .ref v19 → jget L 20 = .ref v20 → jget L 21 = .ref v21 → jget L 22 = .ref v22 → jget L 23 = .ref v23 → jget L 24 = .int v24 → jget L 25 = .int v25 → jget L 26 = .ref v26 → jget L 27 = .int v27 → jget L 28 = .long v28 → jget L 30 = .long v30 → jget L 32 = .int v32 → k553 v1 v2 v3 v4 v5 v6 v7 v8 v9 v11 v12 v13 v15 v17 v18 v19 v20 v21 v22 v23 v24 v25 v26 v27 v28 v30 v32 μ = some (r, μ9) → jR B SA d m_L_law 553 L [] μ (some (.int (jb r))) μ9) : ∀ (L : JLoc) (v1 : Nat) (v2 : Nat) (v3 : Int32) (v4 : Nat) (v5 : Nat) (v6 : Nat) (v7 : Nat) (v8 : Nat) (v9 : Nat) (v11 : Int32) (v12 : Int32) (v13 : Int64) (v15 : Int64) (v17 : Nat) (v18 : Nat) (v19 : Nat) (v20 : Nat) (v21 : Nat) (v22 : Nat) (v23 : Nat) (v24 : Int32) (v25 : Int32) (v26 : Nat) (v27 : Int32) (v28 : Int64) (v30 : Int64) (v32 : Int32) (v35 : Int64) (μ : JMem) (r : Bool) (μ9 : JMem), jget L 1 = .ref v1 → jget L 2 = .ref v2 → jget L 3 = .int v3 → jget L 4 = .ref v4 → jget L 5 = .ref v5 → jget L 6 = .ref v6 → jget L 7 = .ref v7 → jget L 8 = .ref v8 → jget L 9 = .ref v9 → jget L 11 = .int v11 → jget L 12 = .int v12 → jget L 13 = .long v13 → jget L 15 = .long v15 → jget L 17 = .ref v17 → jget L 18 = .ref v18 → jget L 19 = .ref v19 → jget L 20 = .ref v20 → jget L 21 = .ref v21 → jget L 22 = .ref v22 → jget L 23 = .ref v23 → jget L 24 = .int v24 → jget L 25 = .int v25 → jget L 26 = .ref v26 → jget L 27 = .int v27 → jget L 28 = .long v28 → jget L 30 = .long v30 → jget L 32 = .int v32 → jget L 35 = .long v35 → g_L_law_1116 N M B SA k517 k553 v1 v2 v3 v4 v5 v6 v7 v8 v9 v11 v12 v13 v15 v17 v18 v19 v20 v21 v22 v23 v24 v25 v26 v27 v28 v30 v32 v35 μ = some (r, μ9) → jR B SA d m_L_law 1116 L [] μ (some (.int (jb r))) μ9 := by
  intro L v1 v2 v3 v4 v5 v6 v7 v8 v9 v11 v12 v13 v15 v17 v18 v19 v20 v21 v22 v23 v24 v25 v26 v27 v28 v30 v32 v35 μ r μ9 hl1 hl2 hl3 hl4 hl5 hl6 hl7 hl8 hl9 hl11 hl12 hl13 hl15 hl17 hl18 hl19 hl20 hl21 hl22 hl23 hl24 hl25 hl26 hl27 hl28 hl30 hl32 hl35 h
  unfold g_L_law_1116 at h
  refine jr_aload jf_145_1116 hl4 ?_
  refine jr_iload jf_145_1118 hl32 ?_
  replace h := obd_of h; obtain ⟨x1, hx1, h⟩ := h
  refine jr_iaload jf_145_1120 hx1 ?_
  refine jr_bipush jf_145_1121 jc_b_6 ?_
  replace h := ite_or h; rcases h with ⟨hc, h⟩ | ⟨hc, h⟩
  · refine jr_if2_eq_t jf_145_1123 hc ?_
    exact r_L_law_1136 hd i517 i553 _ _ _ _ _ _ _ _ _ _ _ _ _ _ _ _ _ _ _ _ _ _ _ _ _ _ _ _ _ _ _ _ hl1 hl2 hl3 hl4 hl5 hl6 hl7 hl8 hl9 hl11 hl12 hl13 hl15 hl17 hl18 hl19 hl20 hl21 hl22 hl23 hl24 hl25 hl26 hl27 hl28 hl30 hl32 hl35 h
  · refine jr_if2_eq_f jf_145_1123 hc ?_
    refine jr_aload jf_145_1126 hl4 ?_
    refine jr_iload jf_145_1128 hl32 ?_
    replace h := obd_of h; obtain ⟨x2, hx2, h⟩ := h
    refine jr_iaload jf_145_1130 hx2 ?_
    refine jr_bipush jf_145_1131 jc_b_8 ?_
    replace h := ite_or h; rcases h with ⟨hc, h⟩ | ⟨hc, h⟩
    · refine jr_if2_ne_f jf_145_1133 hc ?_
      exact r_L_law_1136 hd i517 i553 _ _ _ _ _ _ _ _ _ _ _ _ _ _ _ _ _ _ _ _ _ _ _ _ _ _ _ _ _ _ _ _ hl1 hl2 hl3 hl4 hl5 hl6 hl7 hl8 hl9 hl11 hl12 hl13 hl15 hl17 hl18 hl19 hl20 hl21 hl22 hl23 hl24 hl25 hl26 hl27 hl28 hl30 hl32 hl35 h
    · refine jr_if2_ne_t jf_145_1133 hc ?_
      exact r_L_law_1213 hd i517 i553 _ _ _ _ _ _ _ _ _ _ _ _ _ _ _ _ _ _ _ _ _ _ _ _ _ _ _ _ _ _ _ _ hl1 hl2 hl3 hl4 hl5 hl6 hl7 hl8 hl9 hl11 hl12 hl13 hl15 hl17 hl18 hl19 hl20 hl21 hl22 hl23 hl24 hl25 hl26 hl27 hl28 hl30 hl32 hl35 h
set_option maxRecDepth 10000 in
set_option maxHeartbeats 4000000 in
theorem r_L_law_1100 {N M B : Nat} {SA : Nat → Nat} {d : Nat} (hd : M + 8 ≤ d) {k517 : Nat → Nat → Int32 → Nat → Nat → Nat → Nat → Nat → Nat → Bool → Int32 → Int32 → Int64 → Int64 → Nat → Nat → Nat → Nat → Nat → Nat → Nat → Int32 → Int32 → Nat → Int32 → JMem → Option (Bool × JMem)} (i517 : ∀ (L : JLoc) (v1 : Nat) (v2 : Nat) (v3 : Int32) (v4 : Nat) (v5 : Nat) (v6 : Nat) (v7 : Nat) (v8 : Nat) (v9 : Nat) (v10 : Bool) (v11 : Int32) (v12 : Int32) (v13 : Int64) (v15 : Int64) (v17 : Nat) (v18 : Nat) (v19 : Nat) (v20 : Nat) (v21 : Nat) (v22 : Nat) (v23 : Nat) (v24 : Int32) (v25 : Int32) (v26 : Nat) (v27 : Int32) (μ : JMem) (r : Bool) (μ9 : JMem), jget L 1 = .ref v1 → jget L 2 = .ref v2 → jget L 3 = .int v3 → jget L 4 = .ref v4 → jget L 5 = .ref v5 → jget L 6 = .ref v6 → jget L 7 = .ref v7 → jget L 8 = .ref v8 → jget L 9 = .ref v9 → jget L 10 = .int (jb v10) → jget L 11 = .int v11 → jget L 12 = .int v12 → jget L 13 = .long v13 → jget L 15 = .long v15 → jget L 17 = .ref v17 → jget L 18 = .ref v18 → jget L 19 = .ref v19 → jget L 20 = .ref v20 → jget L 21 = .ref v21 → jget L 22 = .ref v22 → jget L 23 = .ref v23 → jget L 24 = .int v24 → jget L 25 = .int v25 → jget L 26 = .ref v26 → jget L 27 = .int v27 → k517 v1 v2 v3 v4 v5 v6 v7 v8 v9 v10 v11 v12 v13 v15 v17 v18 v19 v20 v21 v22 v23 v24 v25 v26 v27 μ = some (r, μ9) → jR B SA d m_L_law 517 L [] μ (some (.int (jb r))) μ9) {k553 : Nat → Nat → Int32 → Nat → Nat → Nat → Nat → Nat → Nat → Int32 → Int32 → Int64 → Int64 → Nat → Nat → Nat → Nat → Nat → Nat → Nat → Int32 → Int32 → Nat → Int32 → Int64 → Int64 → Int32 → JMem → Option (Bool × JMem)} (i553 : ∀ (L : JLoc) (v1 : Nat) (v2 : Nat) (v3 : Int32) (v4 : Nat) (v5 : Nat) (v6 : Nat) (v7 : Nat) (v8 : Nat) (v9 : Nat) (v11 : Int32) (v12 : Int32) (v13 : Int64) (v15 : Int64) (v17 : Nat) (v18 : Nat) (v19 : Nat) (v20 : Nat) (v21 : Nat) (v22 : Nat) (v23 : Nat) (v24 : Int32) (v25 : Int32) (v26 : Nat) (v27 : Int32) (v28 : Int64) (v30 : Int64) (v32 : Int32) (μ : JMem) (r : Bool) (μ9 : JMem), jget L 1 = .ref v1 → jget L 2 = .ref v2 → jget L 3 = .int v3 → jget L 4 = .ref v4 → jget L 5 = .ref v5 → jget L 6 = .ref v6 → jget L 7 = .ref v7 → jget L 8 = .ref v8 → jget L 9 = .ref v9 → jget L 11 = .int v11 → jget L 12 = .int v12 → jget L 13 = .long v13 → jget L 15 = .long v15 → jget L 17 = .ref v17 → jget L 18 = .ref v18 → jget L 19 = .ref v19 → jget L 20 = .ref v20 → jget L 21 = .ref v21 → jget L 22 = .ref v22 → jget L 23 = .ref v23 → jget L 24 = .int v24 → jget L 25 = .int v25 → jget L 26 = .ref v26 → jget L 27 = .int v27 → jget L 28 = .long v28 → jget L 30 = .long v30 → jget L 32 = .int v32 → k553 v1 v2 v3 v4 v5 v6 v7 v8 v9 v11 v12 v13 v15 v17 v18 v19 v20 v21 v22 v23 v24 v25 v26 v27 v28 v30 v32 μ = some (r, μ9) → jR B SA d m_L_law 553 L [] μ (some (.int (jb r))) μ9) : ∀ (L : JLoc) (v1 : Nat) (v2 : Nat) (v3 : Int32) (v4 : Nat) (v5 : Nat) (v6 : Nat) (v7 : Nat) (v8 : Nat) (v9 : Nat) (v11 : Int32) (v12 : Int32) (v13 : Int64) (v15 : Int64) (v17 : Nat) (v18 : Nat) (v19 : Nat) (v20 : Nat) (v21 : Nat) (v22 : Nat) (v23 : Nat) (v24 : Int32) (v25 : Int32) (v26 : Nat) (v27 : Int32) (v28 : Int64) (v30 : Int64) (v32 : Int32) (v35 : Int64) (v37 : Int64) (μ : JMem) (r : Bool) (μ9 : JMem), jget L 1 = .ref v1 → jget L 2 = .ref v2 → jget L 3 = .int v3 → jget L 4 = .ref v4 → jget L 5 = .ref v5 → jget L 6 = .ref v6 → jget L 7 = .ref v7 → jget L 8 = .ref v8 → jget L 9 = .ref v9 → jget L 11 = .int v11 → jget L 12 = .int v12 → jget L 13 = .long v13 → jget L 15 = .long v15 → jget L 17 = .ref v17 → jget L 18 = .ref v18 → jget L 19 = .ref v19 → jget L 20 = .ref v20 → jget L 21 = .ref v21 → jget L 22 = .ref v22 → jget L 23 = .ref v23 → jget L 24 = .int v24 → jget L 25 = .int v25 → jget L 26 = .ref v26 → jget L 27 = .int v27 → jget L 28 = .long v28 → jget L 30 = .long v30 → jget L 32 = .int v32 → jget L 35 = .long v35 → jget L 37 = .long v37 → g_L_law_1100 N M B SA k517 k553 v1 v2 v3 v4 v5 v6 v7 v8 v9 v11 v12 v13 v15 v17 v18 v19 v20 v21 v22 v23 v24 v25 v26 v27 v28 v30 v32 v35 v37 μ = some (r, μ9) → jR B SA d m_L_law 1100 L [] μ (some (.int (jb r))) μ9 := by
  intro L v1 v2 v3 v4 v5 v6 v7 v8 v9 v11 v12 v13 v15 v17 v18 v19 v20 v21 v22 v23 v24 v25 v26 v27 v28 v30 v32 v35 v37 μ r μ9 hl1 hl2 hl3 hl4 hl5 hl6 hl7 hl8 hl9 hl11 hl12 hl13 hl15 hl17 hl18 hl19 hl20 hl21 hl22 hl23 hl24 hl25 hl26 hl27 hl28 hl30 hl32 hl35 hl37 h
  unfold g_L_law_1100 at h
  refine jr_aload jf_145_1100 hl4 ?_
  refine jr_iload jf_145_1102 hl32 ?_
  replace h := obd_of h; obtain ⟨x1, hx1, h⟩ := h
  refine jr_iaload jf_145_1104 hx1 ?_
  refine jr_iconst jf_145_1105 jc_i_5 ?_
  replace h := ite_or h; rcases h with ⟨hc, h⟩ | ⟨hc, h⟩
  · refine jr_if2_ne_f jf_145_1106 hc ?_
    refine jr_aload jf_145_1109 hl17 ?_
    refine jr_iload jf_145_1111 hl32 ?_
    refine jr_lload jf_145_1113 hl37 ?_
    replace h := obd_of h; obtain ⟨μ2, hμ2, h⟩ := h
    refine jr_lastore jf_145_1115 hμ2 ?_
    exact r_L_law_1116 hd i517 i553 _ _ _ _ _ _ _ _ _ _ _ _ _ _ _ _ _ _ _ _ _ _ _ _ _ _ _ _ _ _ _ _ hl1 hl2 hl3 hl4 hl5 hl6 hl7 hl8 hl9 hl11 hl12 hl13 hl15 hl17 hl18 hl19 hl20 hl21 hl22 hl23 hl24 hl25 hl26 hl27 hl28 hl30 hl32 hl35 h
  · refine jr_if2_ne_t jf_145_1106 hc ?_
    exact r_L_law_1116 hd i517 i553 _ _ _ _ _ _ _ _ _ _ _ _ _ _ _ _ _ _ _ _ _ _ _ _ _ _ _ _ _ _ _ _ hl1 hl2 hl3 hl4 hl5 hl6 hl7 hl8 hl9 hl11 hl12 hl13 hl15 hl17 hl18 hl19 hl20 hl21 hl22 hl23 hl24 hl25 hl26 hl27 hl28 hl30 hl32 hl35 h
set_option maxRecDepth 10000 in
set_option maxHeartbeats 4000000 in
theorem r_L_law_1093 {N M B : Nat} {SA : Nat → Nat} {d : Nat} (hd : M + 8 ≤ d) {k517 : Nat → Nat → Int32 → Nat → Nat → Nat → Nat → Nat → Nat → Bool → Int32 → Int32 → Int64 → Int64 → Nat → Nat → Nat → Nat → Nat → Nat → Nat → Int32 → Int32 → Nat → Int32 → JMem → Option (Bool × JMem)} (i517 : ∀ (L : JLoc) (v1 : Nat) (v2 : Nat) (v3 : Int32) (v4 : Nat) (v5 : Nat) (v6 : Nat) (v7 : Nat) (v8 : Nat) (v9 : Nat) (v10 : Bool) (v11 : Int32) (v12 : Int32) (v13 : Int64) (v15 : Int64) (v17 : Nat) (v18 : Nat) (v19 : Nat) (v20 : Nat) (v21 : Nat) (v22 : Nat) (v23 : Nat) (v24 : Int32) (v25 : Int32) (v26 : Nat) (v27 : Int32) (μ : JMem) (r : Bool) (μ9 : JMem), jget L 1 = .ref v1 → jget L 2 = .ref v2 → jget L 3 = .int v3 → jget L 4 = .ref v4 → jget L 5 = .ref v5 → jget L 6 = .ref v6 → jget L 7 = .ref v7 → jget L 8 = .ref v8 → jget L 9 = .ref v9 → jget L 10 = .int (jb v10) → jget L 11 = .int v11 → jget L 12 = .int v12 → jget L 13 = .long v13 → jget L 15 = .long v15 → jget L 17 = .ref v17 → jget L 18 = .ref v18 → jget L 19 = .ref v19 → jget L 20 = .ref v20 → jget L 21 = .ref v21 → jget L 22 = .ref v22 → jget L 23 = .ref v23 → jget L 24 = .int v24 → jget L 25 = .int v25 → jget L 26 = .ref v26 → jget L 27 = .int v27 → k517 v1 v2 v3 v4 v5 v6 v7 v8 v9 v10 v11 v12 v13 v15 v17 v18 v19 v20 v21 v22 v23 v24 v25 v26 v27 μ = some (r, μ9) → jR B SA d m_L_law 517 L [] μ (some (.int (jb r))) μ9) {k553 : Nat → Nat → Int32 → Nat → Nat → Nat → Nat → Nat → Nat → Int32 → Int32 → Int64 → Int64 → Nat → Nat → Nat → Nat → Nat → Nat → Nat → Int32 → Int32 → Nat → Int32 → Int64 → Int64 → Int32 → JMem → Option (Bool × JMem)} (i553 : ∀ (L : JLoc) (v1 : Nat) (v2 : Nat) (v3 : Int32) (v4 : Nat) (v5 : Nat) (v6 : Nat) (v7 : Nat) (v8 : Nat) (v9 : Nat) (v11 : Int32) (v12 : Int32) (v13 : Int64) (v15 : Int64) (v17 : Nat) (v18 : Nat) (v19 : Nat) (v20 : Nat) (v21 : Nat) (v22 : Nat) (v23 : Nat) (v24 : Int32) (v25 : Int32) (v26 : Nat) (v27 : Int32) (v28 : Int64) (v30 : Int64) (v32 : Int32) (μ : JMem) (r : Bool) (μ9 : JMem), jget L 1 = .ref v1 → jget L 2 = .ref v2 → jget L 3 = .int v3 → jget L 4 = .ref v4 → jget L 5 = .ref v5 → jget L 6 = .ref v6 → jget L 7 = .ref v7 → jget L 8 = .ref v8 → jget L 9 = .ref v9 → jget L 11 = .int v11 → jget L 12 = .int v12 → jget L 13 = .long v13 → jget L 15 = .long v15 → jget L 17 = .ref v17 → jget L 18 = .ref v18 → jget L 19 = .ref v19 → jget L 20 = .ref v20 → jget L 21 = .ref v21 → jget L 22 = .ref v22 → jget L 23 = .ref v23 → jget L 24 = .int v24 → jget L 25 = .int v25 → jget L 26 = .ref v26 → jget L 27 = .int v27 → jget L 28 = .long v28 → jget L 30 = .long v30 → jget L 32 = .int v32 → k553 v1 v2 v3 v4 v5 v6 v7 v8 v9 v11 v12 v13 v15 v17 v18 v19 v20 v21 v22 v23 v24 v25 v26 v27 v28 v30 v32 μ = some (r, μ9) → jR B SA d m_L_law 553 L [] μ (some (.int (jb r))) μ9) : ∀ (L : JLoc) (v1 : Nat) (v2 : Nat) (v3 : Int32) (v4 : Nat) (v5 : Nat) (v6 : Nat) (v7 : Nat) (v8 : Nat) (v9 : Nat) (v11 : Int32) (v12 : Int32) (v13 : Int64) (v15 : Int64) (v17 : Nat) (v18 : Nat) (v19 : Nat) (v20 : Nat) (v21 : Nat) (v22 : Nat) (v23 : Nat) (v24 : Int32) (v25 : Int32) (v26 : Nat) (v27 : Int32) (v28 : Int64) (v30 : Int64) (v32 : Int32) (v35 : Int64) (v37 : Int64) (μ : JMem) (r : Bool) (μ9 : JMem), jget L 1 = .ref v1 → jget L 2 = .ref v2 → jget L 3 = .int v3 → jget L 4 = .ref v4 → jget L 5 = .ref v5 → jget L 6 = .ref v6 → jget L 7 = .ref v7 → jget L 8 = .ref v8 → jget L 9 = .ref v9 → jget L 11 = .int v11 → jget L 12 = .int v12 → jget L 13 = .long v13 → jget L 15 = .long v15 → jget L 17 = .ref v17 → jget L 18 = .ref v18 → jget L 19 = .ref v19 → jget L 20 = .ref v20 → jget L 21 = .ref v21 → jget L 22 = .ref v22 → jget L 23 = .ref v23 → jget L 24 = .int v24 → jget L 25 = .int v25 → jget L 26 = .ref v26 → jget L 27 = .int v27 → jget L 28 = .long v28 → jget L 30 = .long v30 → jget L 32 = .int v32 → jget L 35 = .long v35 → jget L 37 = .long v37 → g_L_law_1093 N M B SA k517 k553 v1 v2 v3 v4 v5 v6 v7 v8 v9 v11 v12 v13 v15 v17 v18 v19 v20 v21 v22 v23 v24 v25 v26 v27 v28 v30 v32 v35 v37 μ = some (r, μ9) → jR B SA d m_L_law 1093 L [] μ (some (.int (jb r))) μ9 := by
  intro L v1 v2 v3 v4 v5 v6 v7 v8 v9 v11 v12 v13 v15 v17 v18 v19 v20 v21 v22 v23 v24 v25 v26 v27 v28 v30 v32 v35 v37 μ r μ9 hl1 hl2 hl3 hl4 hl5 hl6 hl7 hl8 hl9 hl11 hl12 hl13 hl15 hl17 hl18 hl19 hl20 hl21 hl22 hl23 hl24 hl25 hl26 hl27 hl28 hl30 hl32 hl35 hl37 h
  unfold g_L_law_1093 at h
  refine jr_aload jf_145_1093 hl17 ?_
  refine jr_iload jf_145_1095 hl32 ?_
  refine jr_lload jf_145_1097 hl35 ?_
  replace h := obd_of h; obtain ⟨μ1, hμ1, h⟩ := h
  refine jr_lastore jf_145_1099 hμ1 ?_
  exact r_L_law_1100 hd i517 i553 _ _ _ _ _ _ _ _ _ _ _ _ _ _ _ _ _ _ _ _ _ _ _ _ _ _ _ _ _ _ _ _ _ hl1 hl2 hl3 hl4 hl5 hl6 hl7 hl8 hl9 hl11 hl12 hl13 hl15 hl17 hl18 hl19 hl20 hl21 hl22 hl23 hl24 hl25 hl26 hl27 hl28 hl30 hl32 hl35 hl37 h
set_option maxRecDepth 10000 in
set_option maxHeartbeats 4000000 in
theorem r_L_law_1074 {N M B : Nat} {SA : Nat → Nat} {d : Nat} (hd : M + 8 ≤ d) {k517 : Nat → Nat → Int32 → Nat → Nat → Nat → Nat → Nat → Nat → Bool → Int32 → Int32 → Int64 → Int64 → Nat → Nat → Nat → Nat → Nat → Nat → Nat → Int32 → Int32 → Nat → Int32 → JMem → Option (Bool × JMem)} (i517 : ∀ (L : JLoc) (v1 : Nat) (v2 : Nat) (v3 : Int32) (v4 : Nat) (v5 : Nat) (v6 : Nat) (v7 : Nat) (v8 : Nat) (v9 : Nat) (v10 : Bool) (v11 : Int32) (v12 : Int32) (v13 : Int64) (v15 : Int64) (v17 : Nat) (v18 : Nat) (v19 : Nat) (v20 : Nat) (v21 : Nat) (v22 : Nat) (v23 : Nat) (v24 : Int32) (v25 : Int32) (v26 : Nat) (v27 : Int32) (μ : JMem) (r : Bool) (μ9 : JMem), jget L 1 = .ref v1 → jget L 2 = .ref v2 → jget L 3 = .int v3 → jget L 4 = .ref v4 → jget L 5 = .ref v5 → jget L 6 = .ref v6 → jget L 7 = .ref v7 → jget L 8 = .ref v8 → jget L 9 = .ref v9 → jget L 10 = .int (jb v10) → jget L 11 = .int v11 → jget L 12 = .int v12 → jget L 13 = .long v13 → jget L 15 = .long v15 → jget L 17 = .ref v17 → jget L 18 = .ref v18 → jget L 19 = .ref v19 → jget L 20 = .ref v20 → jget L 21 = .ref v21 → jget L 22 = .ref v22 → jget L 23 = .ref v23 → jget L 24 = .int v24 → jget L 25 = .int v25 → jget L 26 = .ref v26 → jget L 27 = .int v27 → k517 v1 v2 v3 v4 v5 v6 v7 v8 v9 v10 v11 v12 v13 v15 v17 v18 v19 v20 v21 v22 v23 v24 v25 v26 v27 μ = some (r, μ9) → jR B SA d m_L_law 517 L [] μ (some (.int (jb r))) μ9) {k553 : Nat → Nat → Int32 → Nat → Nat → Nat → Nat → Nat → Nat → Int32 → Int32 → Int64 → Int64 → Nat → Nat → Nat → Nat → Nat → Nat → Nat → Int32 → Int32 → Nat → Int32 → Int64 → Int64 → Int32 → JMem → Option (Bool × JMem)} (i553 : ∀ (L : JLoc) (v1 : Nat) (v2 : Nat) (v3 : Int32) (v4 : Nat) (v5 : Nat) (v6 : Nat) (v7 : Nat) (v8 : Nat) (v9 : Nat) (v11 : Int32) (v12 : Int32) (v13 : Int64) (v15 : Int64) (v17 : Nat) (v18 : Nat) (v19 : Nat) (v20 : Nat) (v21 : Nat) (v22 : Nat) (v23 : Nat) (v24 : Int32) (v25 : Int32) (v26 : Nat) (v27 : Int32) (v28 : Int64) (v30 : Int64) (v32 : Int32) (μ : JMem) (r : Bool) (μ9 : JMem), jget L 1 = .ref v1 → jget L 2 = .ref v2 → jget L 3 = .int v3 → jget L 4 = .ref v4 → jget L 5 = .ref v5 → jget L 6 = .ref v6 → jget L 7 = .ref v7 → jget L 8 = .ref v8 → jget L 9 = .ref v9 → jget L 11 = .int v11 → jget L 12 = .int v12 → jget L 13 = .long v13 → jget L 15 = .long v15 → jget L 17 = .ref v17 → jget L 18 = .ref v18 → jget L 19 = .ref v19 → jget L 20 = .ref v20 → jget L 21 = .ref v21 → jget L 22 = .ref v22 → jget L 23 = .ref v23 → jget L 24 = .int v24 → jget L 25 = .int v25 → jget L 26 = .ref v26 → jget L 27 = .int v27 → jget L 28 = .long v28 → jget L 30 = .long v30 → jget L 32 = .int v32 → k553 v1 v2 v3 v4 v5 v6 v7 v8 v9 v11 v12 v13 v15 v17 v18 v19 v20 v21 v22 v23 v24 v25 v26 v27 v28 v30 v32 μ = some (r, μ9) → jR B SA d m_L_law 553 L [] μ (some (.int (jb r))) μ9) : ∀ (L : JLoc) (v1 : Nat) (v2 : Nat) (v3 : Int32) (v4 : Nat) (v5 : Nat) (v6 : Nat) (v7 : Nat) (v8 : Nat) (v9 : Nat) (v11 : Int32) (v12 : Int32) (v13 : Int64) (v15 : Int64) (v17 : Nat) (v18 : Nat) (v19 : Nat) (v20 : Nat) (v21 : Nat) (v22 : Nat) (v23 : Nat) (v24 : Int32) (v25 : Int32) (v26 : Nat) (v27 : Int32) (v28 : Int64) (v30 : Int64) (v32 : Int32) (v35 : Int64) (v37 : Int64) (μ : JMem) (r : Bool) (μ9 : JMem), jget L 1 = .ref v1 → jget L 2 = .ref v2 → jget L 3 = .int v3 → jget L 4 = .ref v4 → jget L 5 = .ref v5 → jget L 6 = .ref v6 → jget L 7 = .ref v7 → jget L 8 = .ref v8 → jget L 9 = .ref v9 → jget L 11 = .int v11 → jget L 12 = .int v12 → jget L 13 = .long v13 → jget L 15 = .long v15 → jget L 17 = .ref v17 → jget L 18 = .ref v18 → jget L 19 = .ref v19 → jget L 20 = .ref v20 → jget L 21 = .ref v21 → jget L 22 = .ref v22 → jget L 23 = .ref v23 → jget L 24 = .int v24 → jget L 25 = .int v25 → jget L 26 = .ref v26 → jget L 27 = .int v27 → jget L 28 = .long v28 → jget L 30 = .long v30 → jget L 32 = .int v32 → jget L 35 = .long v35 → jget L 37 = .long v37 → g_L_law_1074 N M B SA k517 k553 v1 v2 v3 v4 v5 v6 v7 v8 v9 v11 v12 v13 v15 v17 v18 v19 v20 v21 v22 v23 v24 v25 v26 v27 v28 v30 v32 v35 v37 μ = some (r, μ9) → jR B SA d m_L_law 1074 L [] μ (some (.int (jb r))) μ9 := by
  intro L v1 v2 v3 v4 v5 v6 v7 v8 v9 v11 v12 v13 v15 v17 v18 v19 v20 v21 v22 v23 v24 v25 v26 v27 v28 v30 v32 v35 v37 μ r μ9 hl1 hl2 hl3 hl4 hl5 hl6 hl7 hl8 hl9 hl11 hl12 hl13 hl15 hl17 hl18 hl19 hl20 hl21 hl22 hl23 hl24 hl25 hl26 hl27 hl28 hl30 hl32 hl35 hl37 h
  unfold g_L_law_1074 at h
  refine jr_aload jf_145_1074 hl4 ?_
  refine jr_iload jf_145_1076 hl32 ?_
  replace h := obd_of h; obtain ⟨x1, hx1, h⟩ := h
  refine jr_iaload jf_145_1078 hx1 ?_
  refine jr_iconst jf_145_1079 jc_i_1 ?_
  replace h := ite_or h; rcases h with ⟨hc, h⟩ | ⟨hc, h⟩
  · refine jr_if2_eq_t jf_145_1080 hc ?_
    exact r_L_law_1093 hd i517 i553 _ _ _ _ _ _ _ _ _ _ _ _ _ _ _ _ _ _ _ _ _ _ _ _ _ _ _ _ _ _ _ _ _ hl1 hl2 hl3 hl4 hl5 hl6 hl7 hl8 hl9 hl11 hl12 hl13 hl15 hl17 hl18 hl19 hl20 hl21 hl22 hl23 hl24 hl25 hl26 hl27 hl28 hl30 hl32 hl35 hl37 h
  · refine jr_if2_eq_f jf_145_1080 hc ?_
    refine jr_aload jf_145_1083 hl4 ?_
    refine jr_iload jf_145_1085 hl32 ?_
    replace h := obd_of h; obtain ⟨x2, hx2, h⟩ := h
    refine jr_iaload jf_145_1087 hx2 ?_
    refine jr_bipush jf_145_1088 jc_b_11 ?_
    replace h := ite_or h; rcases h with ⟨hc, h⟩ | ⟨hc, h⟩
    · refine jr_if2_ne_f jf_145_1090 hc ?_
      exact r_L_law_1093 hd i517 i553 _ _ _ _ _ _ _ _ _ _ _ _ _ _ _ _ _ _ _ _ _ _ _ _ _ _ _ _ _ _ _ _ _ hl1 hl2 hl3 hl4 hl5 hl6 hl7 hl8 hl9 hl11 hl12 hl13 hl15 hl17 hl18 hl19 hl20 hl21 hl22 hl23 hl24 hl25 hl26 hl27 hl28 hl30 hl32 hl35 hl37 h
    · refine jr_if2_ne_t jf_145_1090 hc ?_
      exact r_L_law_1100 hd i517 i553 _ _ _ _ _ _ _ _ _ _ _ _ _ _ _ _ _ _ _ _ _ _ _ _ _ _ _ _ _ _ _ _ _ hl1 hl2 hl3 hl4 hl5 hl6 hl7 hl8 hl9 hl11 hl12 hl13 hl15 hl17 hl18 hl19 hl20 hl21 hl22 hl23 hl24 hl25 hl26 hl27 hl28 hl30 hl32 hl35 hl37 h
set_option maxRecDepth 10000 in
set_option maxHeartbeats 4000000 in
theorem r_L_law_634 {N M B : Nat} {SA : Nat → Nat} {d : Nat} (hd : M + 8 ≤ d) {k517 : Nat → Nat → Int32 → Nat → Nat → Nat → Nat → Nat → Nat → Bool → Int32 → Int32 → Int64 → Int64 → Nat → Nat → Nat → Nat → Nat → Nat → Nat → Int32 → Int32 → Nat → Int32 → JMem → Option (Bool × JMem)} (i517 : ∀ (L : JLoc) (v1 : Nat) (v2 : Nat) (v3 : Int32) (v4 : Nat) (v5 : Nat) (v6 : Nat) (v7 : Nat) (v8 : Nat) (v9 : Nat) (v10 : Bool) (v11 : Int32) (v12 : Int32) (v13 : Int64) (v15 : Int64) (v17 : Nat) (v18 : Nat) (v19 : Nat) (v20 : Nat) (v21 : Nat) (v22 : Nat) (v23 : Nat) (v24 : Int32) (v25 : Int32) (v26 : Nat) (v27 : Int32) (μ : JMem) (r : Bool) (μ9 : JMem), jget L 1 = .ref v1 → jget L 2 = .ref v2 → jget L 3 = .int v3 → jget L 4 = .ref v4 → jget L 5 = .ref v5 → jget L 6 = .ref v6 → jget L 7 = .ref v7 → jget L 8 = .ref v8 → jget L 9 = .ref v9 → jget L 10 = .int (jb v10) → jget L 11 = .int v11 → jget L 12 = .int v12 → jget L 13 = .long v13 → jget L 15 = .long v15 → jget L 17 = .ref v17 → jget L 18 = .ref v18 → jget L 19 = .ref v19 → jget L 20 = .ref v20 → jget L 21 = .ref v21 → jget L 22 = .ref v22 → jget L 23 = .ref v23 → jget L 24 = .int v24 → jget L 25 = .int v25 → jget L 26 = .ref v26 → jget L 27 = .int v27 → k517 v1 v2 v3 v4 v5 v6 v7 v8 v9 v10 v11 v12 v13 v15 v17 v18 v19 v20 v21 v22 v23 v24 v25 v26 v27 μ = some (r, μ9) → jR B SA d m_L_law 517 L [] μ (some (.int (jb r))) μ9) {k553 : Nat → Nat → Int32 → Nat → Nat → Nat → Nat → Nat → Nat → Int32 → Int32 → Int64 → Int64 → Nat → Nat → Nat → Nat → Nat → Nat → Nat → Int32 → Int32 → Nat → Int32 → Int64 → Int64 → Int32 → JMem → Option (Bool × JMem)} (i553 : ∀ (L : JLoc) (v1 : Nat) (v2 : Nat) (v3 : Int32) (v4 : Nat) (v5 : Nat) (v6 : Nat) (v7 : Nat) (v8 : Nat) (v9 : Nat) (v11 : Int32) (v12 : Int32) (v13 : Int64) (v15 : Int64) (v17 : Nat) (v18 : Nat) (v19 : Nat) (v20 : Nat) (v21 : Nat) (v22 : Nat) (v23 : Nat) (v24 : Int32) (v25 : Int32) (v26 : Nat) (v27 : Int32) (v28 : Int64) (v30 : Int64) (v32 : Int32) (μ : JMem) (r : Bool) (μ9 : JMem), jget L 1 = .ref v1 → jget L 2 = .ref v2 → jget L 3 = .int v3 → jget L 4 = .ref v4 → jget L 5 = .ref v5 → jget L 6 = .ref v6 → jget L 7 = .ref v7 → jget L 8 = .ref v8 → jget L 9 = .ref v9 → jget L 11 = .int v11 → jget L 12 = .int v12 → jget L 13 = .long v13 → jget L 15 = .long v15 → jget L 17 = .ref v17 → jget L 18 = .ref v18 → jget L 19 = .ref v19 → jget L 20 = .ref v20 → jget L 21 = .ref v21 → jget L 22 = .ref v22 → jget L 23 = .ref v23 → jget L 24 = .int v24 → jget L 25 = .int v25 → jget L 26 = .ref v26 → jget L 27 = .int v27 → jget L 28 = .long v28 → jget L 30 = .long v30 → jget L 32 = .int v32 → k553 v1 v2 v3 v4 v5 v6 v7 v8 v9 v11 v12 v13 v15 v17 v18 v19 v20 v21 v22 v23 v24 v25 v26 v27 v28 v30 v32 μ = some (r, μ9) → jR B SA d m_L_law 553 L [] μ (some (.int (jb r))) μ9) : ∀ (n : Nat), ∀ (L : JLoc) (v1 : Nat) (v2 : Nat) (v3 : Int32) (v4 : Nat) (v5 : Nat) (v6 : Nat) (v7 : Nat) (v8 : Nat) (v9 : Nat) (v11 : Int32) (v12 : Int32) (v13 : Int64) (v15 : Int64) (v17 : Nat) (v18 : Nat) (v19 : Nat) (v20 : Nat) (v21 : Nat) (v22 : Nat) (v23 : Nat) (v24 : Int32) (v25 : Int32) (v26 : Nat) (v27 : Int32) (v28 : Int64) (v30 : Int64) (v32 : Int32) (v33 : Int32) (v34 : Int32) (v35 : Int64) (v37 : Int64) (v41 : Int32) (μ : JMem) (r : Bool) (μ9 : JMem), jget L 1 = .ref v1 → jget L 2 = .ref v2 → jget L 3 = .int v3 → jget L 4 = .ref v4 → jget L 5 = .ref v5 → jget L 6 = .ref v6 → jget L 7 = .ref v7 → jget L 8 = .ref v8 → jget L 9 = .ref v9 → jget L 11 = .int v11 → jget L 12 = .int v12 → jget L 13 = .long v13 → jget L 15 = .long v15 → jget L 17 = .ref v17 → jget L 18 = .ref v18 → jget L 19 = .ref v19 → jget L 20 = .ref v20 → jget L 21 = .ref v21 → jget L 22 = .ref v22 → jget L 23 = .ref v23 → jget L 24 = .int v24 → jget L 25 = .int v25 → jget L 26 = .ref v26 → jget L 27 = .int v27 → jget L 28 = .long v28 → jget L 30 = .long v30 → jget L 32 = .int v32 → jget L 33 = .int v33 → jget L 34 = .int v34 → jget L 35 = .long v35 → jget L 37 = .long v37 → jget L 41 = .int v41 → g_L_law_634 N M B SA k517 k553 n v1 v2 v3 v4 v5 v6 v7 v8 v9 v11 v12 v13 v15 v17 v18 v19 v20 v21 v22 v23 v24 v25 v26 v27 v28 v30 v32 v33 v34 v35 v37 v41 μ = some (r, μ9) → jR B SA d m_L_law 634 L [] μ (some (.int (jb r))) μ9 := by
  intro n
  induction n with
  | zero =>
    intro L v1 v2 v3 v4 v5 v6 v7 v8 v9 v11 v12 v13 v15 v17 v18 v19 v20 v21 v22 v23 v24 v25 v26 v27 v28 v30 v32 v33 v34 v35 v37 v41 μ r μ9 hl1 hl2 hl3 hl4 hl5 hl6 hl7 hl8 hl9 hl11 hl12 hl13 hl15 hl17 hl18 hl19 hl20 hl21 hl22 hl23 hl24 hl25 hl26 hl27 hl28 hl30 hl32 hl33 hl34 hl35 hl37 hl41 h
    unfold g_L_law_634 at h
    cases h
  | succ n ih =>
    intro L v1 v2 v3 v4 v5 v6 v7 v8 v9 v11 v12 v13 v15 v17 v18 v19 v20 v21 v22 v23 v24 v25 v26 v27 v28 v30 v32 v33 v34 v35 v37 v41 μ r μ9 hl1 hl2 hl3 hl4 hl5 hl6 hl7 hl8 hl9 hl11 hl12 hl13 hl15 hl17 hl18 hl19 hl20 hl21 hl22 hl23 hl24 hl25 hl26 hl27 hl28 hl30 hl32 hl33 hl34 hl35 hl37 hl41 h
    unfold g_L_law_634 at h
    refine jr_iload jf_145_634 hl41 ?_
    refine jr_iload jf_145_636 hl33 ?_
    refine jr_iload jf_145_638 hl34 ?_
    refine jr_iadd jf_145_640 ?_
    replace h := ite_or h; rcases h with ⟨hc, h⟩ | ⟨hc, h⟩
    · refine jr_if2_ge_t jf_145_641 hc ?_
      refine jr_iload jf_145_1065 hl34 ?_
      replace h := ite_or h; rcases h with ⟨hc, h⟩ | ⟨hc, h⟩
      · refine jr_if_ne_f jf_145_1067 hc ?_
        refine jr_lload jf_145_1070 hl28 ?_
        refine jr_lstore jf_145_1072 jml_145 (by decide) ?_
        exact r_L_law_1074 hd i517 i553 _ _ _ _ _ _ _ _ _ _ _ _ _ _ _ _ _ _ _ _ _ _ _ _ _ _ _ _ _ _ _ _ _ (jg2_ne rfl hl1) (jg2_ne rfl hl2) (jg2_ne rfl hl3) (jg2_ne rfl hl4) (jg2_ne rfl hl5) (jg2_ne rfl hl6) (jg2_ne rfl hl7) (jg2_ne rfl hl8) (jg2_ne rfl hl9) (jg2_ne rfl hl11) (jg2_ne rfl hl12) (jg2_ne rfl hl13) (jg2_ne rfl hl15) (jg2_ne rfl hl17) (jg2_ne rfl hl18) (jg2_ne rfl hl19) (jg2_ne rfl hl20) (jg2_ne rfl hl21) (jg2_ne rfl hl22) (jg2_ne rfl hl23) (jg2_ne rfl hl24) (jg2_ne rfl hl25) (jg2_ne rfl hl26) (jg2_ne rfl hl27) (jg2_ne rfl hl28) (jg2_ne rfl hl30) (jg2_ne rfl hl32) jg2_same (jg2_ne rfl hl37) h
      · refine jr_if_ne_t jf_145_1067 hc ?_
        exact r_L_law_1074 hd i517 i553 _ _ _ _ _ _ _ _ _ _ _ _ _ _ _ _ _ _ _ _ _ _ _ _ _ _ _ _ _ _ _ _ _ hl1 hl2 hl3 hl4 hl5 hl6 hl7 hl8 hl9 hl11 hl12 hl13 hl15 hl17 hl18 hl19 hl20 hl21 hl22 hl23 hl24 hl25 hl26 hl27 hl28 hl30 hl32 hl35 hl37 h
    · refine jr_if2_ge_f jf_145_641 hc ?_
      refine jr_lconst0 jf_145_644 ?_
      refine jr_lstore jf_145_645 jml_145 (by decide) ?_
      refine jr_iload jf_145_647 (jg2_pre rfl hl41) ?_
      refine jr_iload jf_145_649 (jg2_ne rfl hl33) ?_
      replace h := ite_or h; rcases h with ⟨hc, h⟩ | ⟨hc, h⟩
      · refine jr_if2_ge_t jf_145_651 hc ?_
        refine jr_aload jf_145_692 (jg2_ne rfl hl4) ?_
        refine jr_iload jf_145_694 (jg2_ne rfl hl32) ?_
        replace h := obd_of h; obtain ⟨x1, hx1, h⟩ := h
        refine jr_iaload jf_145_696 hx1 ?_
        replace h := ite_or h; rcases h with ⟨hc, h⟩ | ⟨hc, h⟩
        · refine jr_if_ne_f jf_145_697 hc ?_
          refine jr_aload jf_145_700 (jg2_ne rfl hl8) ?_
          refine jr_iload jf_145_702 (jg2_ne rfl hl32) ?_
          replace h := obd_of h; obtain ⟨x2, hx2, h⟩ := h
          refine jr_laload jf_145_704 hx2 ?_
          refine jr_lload jf_145_705 (jg2_ne rfl hl28) ?_
          refine jr_lmul jf_145_707 ?_
          refine jr_lstore jf_145_708 jml_145 (by decide) ?_
          refine jr_goto jf_145_710 ?_
          exact r_L_law_911 hd i517 i553 ih _ _ _ _ _ _ _ _ _ _ _ _ _ _ _ _ _ _ _ _ _ _ _ _ _ _ _ _ _ _ _ _ _ _ _ _ (jg2_ne rfl (jg2_ne rfl hl1)) (jg2_ne rfl (jg2_ne rfl hl2)) (jg2_ne rfl (jg2_ne rfl hl3)) (jg2_ne rfl (jg2_ne rfl hl4)) (jg2_ne rfl (jg2_ne rfl hl5)) (jg2_ne rfl (jg2_ne rfl hl6)) (jg2_ne rfl (jg2_ne rfl hl7)) (jg2_ne rfl (jg2_ne rfl hl8)) (jg2_ne rfl (jg2_ne rfl hl9)) (jg2_ne rfl (jg2_ne rfl hl11)) (jg2_ne rfl (jg2_ne rfl hl12)) (jg2_ne rfl (jg2_ne rfl hl13)) (jg2_ne rfl (jg2_ne rfl hl15)) (jg2_ne rfl (jg2_ne rfl hl17)) (jg2_ne rfl (jg2_ne rfl hl18)) (jg2_ne rfl (jg2_ne rfl hl19)) (jg2_ne rfl (jg2_ne rfl hl20)) (jg2_ne rfl (jg2_ne rfl hl21)) (jg2_ne rfl (jg2_ne rfl hl22)) (jg2_ne rfl (jg2_ne rfl hl23)) (jg2_ne rfl (jg2_ne rfl hl24)) (jg2_ne rfl (jg2_ne rfl hl25)) (jg2_ne rfl (jg2_ne rfl hl26)) (jg2_ne rfl (jg2_ne rfl hl27)) (jg2_ne rfl (jg2_ne rfl hl28)) (jg2_ne rfl (jg2_ne rfl hl30)) (jg2_ne rfl (jg2_ne rfl hl32)) (jg2_ne rfl (jg2_ne rfl hl33)) (jg2_ne rfl (jg2_ne rfl hl34)) (jg2_ne rfl (jg2_ne rfl hl37)) (jg2_pre rfl (jg2_pre rfl hl41)) jg2_same h
        · refine jr_if_ne_t jf_145_697 hc ?_
          refine jr_aload jf_145_713 (jg2_ne rfl hl4) ?_
          refine jr_iload jf_145_715 (jg2_ne rfl hl32) ?_
          replace h := obd_of h; obtain ⟨x3, hx3, h⟩ := h
          refine jr_iaload jf_145_717 hx3 ?_
          refine jr_iconst jf_145_718 jc_i_1 ?_
          replace h := ite_or h; rcases h with ⟨hc, h⟩ | ⟨hc, h⟩
          · refine jr_if2_ne_f jf_145_719 hc ?_
            refine jr_aload jf_145_722 (jg2_ne rfl hl8) ?_
            refine jr_iload jf_145_724 (jg2_ne rfl hl32) ?_
            replace h := obd_of h; obtain ⟨x4, hx4, h⟩ := h
            refine jr_laload jf_145_726 hx4 ?_
            refine jr_lload jf_145_727 (jg2_ne rfl hl28) ?_
            refine jr_lmul jf_145_729 ?_
            refine jr_aload jf_145_730 (jg2_ne rfl hl9) ?_
            refine jr_iload jf_145_732 (jg2_ne rfl hl32) ?_
            replace h := obd_of h; obtain ⟨x5, hx5, h⟩ := h
            refine jr_laload jf_145_734 hx5 ?_
            refine jr_aload jf_145_735 (jg2_ne rfl hl17) ?_
            refine jr_iload jf_145_737 (jg2_ne rfl hl32) ?_
            replace h := obd_of h; obtain ⟨x6, hx6, h⟩ := h
            refine jr_laload jf_145_739 hx6 ?_
            refine jr_lmul jf_145_740 ?_
            refine jr_ladd jf_145_741 ?_
            refine jr_lstore jf_145_742 jml_145 (by decide) ?_
            refine jr_goto jf_145_744 ?_
            exact r_L_law_911 hd i517 i553 ih _ _ _ _ _ _ _ _ _ _ _ _ _ _ _ _ _ _ _ _ _ _ _ _ _ _ _ _ _ _ _ _ _ _ _ _ (jg2_ne rfl (jg2_ne rfl hl1)) (jg2_ne rfl (jg2_ne rfl hl2)) (jg2_ne rfl (jg2_ne rfl hl3)) (jg2_ne rfl (jg2_ne rfl hl4)) (jg2_ne rfl (jg2_ne rfl hl5)) (jg2_ne rfl (jg2_ne rfl hl6)) (jg2_ne rfl (jg2_ne rfl hl7)) (jg2_ne rfl (jg2_ne rfl hl8)) (jg2_ne rfl (jg2_ne rfl hl9)) (jg2_ne rfl (jg2_ne rfl hl11)) (jg2_ne rfl (jg2_ne rfl hl12)) (jg2_ne rfl (jg2_ne rfl hl13)) (jg2_ne rfl (jg2_ne rfl hl15)) (jg2_ne rfl (jg2_ne rfl hl17)) (jg2_ne rfl (jg2_ne rfl hl18)) (jg2_ne rfl (jg2_ne rfl hl19)) (jg2_ne rfl (jg2_ne rfl hl20)) (jg2_ne rfl (jg2_ne rfl hl21)) (jg2_ne rfl (jg2_ne rfl hl22)) (jg2_ne rfl (jg2_ne rfl hl23)) (jg2_ne rfl (jg2_ne rfl hl24)) (jg2_ne rfl (jg2_ne rfl hl25)) (jg2_ne rfl (jg2_ne rfl hl26)) (jg2_ne rfl (jg2_ne rfl hl27)) (jg2_ne rfl (jg2_ne rfl hl28)) (jg2_ne rfl (jg2_ne rfl hl30)) (jg2_ne rfl (jg2_ne rfl hl32)) (jg2_ne rfl (jg2_ne rfl hl33)) (jg2_ne rfl (jg2_ne rfl hl34)) (jg2_ne rfl (jg2_ne rfl hl37)) (jg2_pre rfl (jg2_pre rfl hl41)) jg2_same h
          · refine jr_if2_ne_t jf_145_719 hc ?_
            refine jr_aload jf_145_747 (jg2_ne rfl hl4) ?_
            refine jr_iload jf_145_749 (jg2_ne rfl hl32) ?_
            replace h := obd_of h; obtain ⟨x7, hx7, h⟩ := h
            refine jr_iaload jf_145_751 hx7 ?_
            refine jr_iconst jf_145_752 jc_i_5 ?_
            replace h := ite_or h; rcases h with ⟨hc, h⟩ | ⟨hc, h⟩
            · refine jr_if2_ne_f jf_145_753 hc ?_
              refine jr_iload jf_145_756 (jg2_pre rfl hl41) ?_
              refine jr_iload jf_145_758 (jg2_ne rfl hl33) ?_
              replace h := ite_or h; rcases h with ⟨hc, h⟩ | ⟨hc, h⟩
              · refine jr_if2_ne_f jf_145_760 hc ?_
                refine jr_ldc2l jf_145_763 ?_
                refine jr_lload jf_145_766 (jg2_ne rfl hl28) ?_
                refine jr_lmul jf_145_768 ?_
                refine jr_aload jf_145_769 (jg2_ne rfl hl8) ?_
                refine jr_iload jf_145_771 (jg2_ne rfl hl32) ?_
                replace h := obd_of h; obtain ⟨x8, hx8, h⟩ := h
                refine jr_laload jf_145_773 hx8 ?_
                refine jr_aload jf_145_774 (jg2_ne rfl hl17) ?_
                refine jr_iload jf_145_776 (jg2_ne rfl hl32) ?_
                replace h := obd_of h; obtain ⟨x9, hx9, h⟩ := h
                refine jr_laload jf_145_778 hx9 ?_
                refine jr_lmul jf_145_779 ?_
                refine jr_lsub jf_145_780 ?_
                refine jr_goto jf_145_781 ?_
                exact r_L_law_802 hd i517 i553 ih _ _ _ _ _ _ _ _ _ _ _ _ _ _ _ _ _ _ _ _ _ _ _ _ _ _ _ _ _ _ _ _ _ _ _ _ (jg2_ne rfl hl1) (jg2_ne rfl hl2) (jg2_ne rfl hl3) (jg2_ne rfl hl4) (jg2_ne rfl hl5) (jg2_ne rfl hl6) (jg2_ne rfl hl7) (jg2_ne rfl hl8) (jg2_ne rfl hl9) (jg2_ne rfl hl11) (jg2_ne rfl hl12) (jg2_ne rfl hl13) (jg2_ne rfl hl15) (jg2_ne rfl hl17) (jg2_ne rfl hl18) (jg2_ne rfl hl19) (jg2_ne rfl hl20) (jg2_ne rfl hl21) (jg2_ne rfl hl22) (jg2_ne rfl hl23) (jg2_ne rfl hl24) (jg2_ne rfl hl25) (jg2_ne rfl hl26) (jg2_ne rfl hl27) (jg2_ne rfl hl28) (jg2_ne rfl hl30) (jg2_ne rfl hl32) (jg2_ne rfl hl33) (jg2_ne rfl hl34) (jg2_ne rfl hl37) (jg2_pre rfl hl41) h
              · refine jr_if2_ne_t jf_145_760 hc ?_
                refine jr_aload jf_145_784 (jg2_ne rfl hl8) ?_
                refine jr_iload jf_145_786 (jg2_ne rfl hl32) ?_
                replace h := obd_of h; obtain ⟨x10, hx10, h⟩ := h
                refine jr_laload jf_145_788 hx10 ?_
                refine jr_lload jf_145_789 (jg2_ne rfl hl37) ?_
                refine jr_lmul jf_145_791 ?_
                refine jr_ldc2l jf_145_792 ?_
                refine jr_aload jf_145_795 (jg2_ne rfl hl17) ?_
                refine jr_iload jf_145_797 (jg2_ne rfl hl32) ?_
                replace h := obd_of h; obtain ⟨x11, hx11, h⟩ := h
                refine jr_laload jf_145_799 hx11 ?_
                refine jr_lmul jf_145_800 ?_
                refine jr_ladd jf_145_801 ?_
                exact r_L_law_802 hd i517 i553 ih _ _ _ _ _ _ _ _ _ _ _ _ _ _ _ _ _ _ _ _ _ _ _ _ _ _ _ _ _ _ _ _ _ _ _ _ (jg2_ne rfl hl1) (jg2_ne rfl hl2) (jg2_ne rfl hl3) (jg2_ne rfl hl4) (jg2_ne rfl hl5) (jg2_ne rfl hl6) (jg2_ne rfl hl7) (jg2_ne rfl hl8) (jg2_ne rfl hl9) (jg2_ne rfl hl11) (jg2_ne rfl hl12) (jg2_ne rfl hl13) (jg2_ne rfl hl15) (jg2_ne rfl hl17) (jg2_ne rfl hl18) (jg2_ne rfl hl19) (jg2_ne rfl hl20) (jg2_ne rfl hl21) (jg2_ne rfl hl22) (jg2_ne rfl hl23) (jg2_ne rfl hl24) (jg2_ne rfl hl25) (jg2_ne rfl hl26) (jg2_ne rfl hl27) (jg2_ne rfl hl28) (jg2_ne rfl hl30) (jg2_ne rfl hl32) (jg2_ne rfl hl33) (jg2_ne rfl hl34) (jg2_ne rfl hl37) (jg2_pre rfl hl41) h
            · refine jr_if2_ne_t jf_145_753 hc ?_
              refine jr_aload jf_145_807 (jg2_ne rfl hl4) ?_
              refine jr_iload jf_145_809 (jg2_ne rfl hl32) ?_
              replace h := obd_of h; obtain ⟨x12, hx12, h⟩ := h
              refine jr_iaload jf_145_811 hx12 ?_
              refine jr_bipush jf_145_812 jc_b_8 ?_
              replace h := ite_or h; rcases h with ⟨hc, h⟩ | ⟨hc, h⟩
              · refine jr_if2_ne_f jf_145_814 hc ?_
                refine jr_ldc2l jf_145_817 ?_
                refine jr_lload jf_145_820 (jg2_ne rfl hl28) ?_
                refine jr_lmul jf_145_822 ?_
                refine jr_aload jf_145_823 (jg2_ne rfl hl8) ?_
                refine jr_iload jf_145_825 (jg2_ne rfl hl32) ?_
                replace h := obd_of h; obtain ⟨x13, hx13, h⟩ := h
                refine jr_laload jf_145_827 hx13 ?_
                refine jr_aload jf_145_828 (jg2_ne rfl hl18) ?_
                refine jr_iconst jf_145_830 jc_i_4 ?_
                refine jr_iload jf_145_831 (jg2_ne rfl hl32) ?_
                refine jr_imul jf_145_833 ?_
                refine jr_aload jf_145_834 (jg2_ne rfl hl19) ?_
                refine jr_iload jf_145_836 (jg2_ne rfl hl32) ?_
                replace h := obd_of h; obtain ⟨x14, hx14, h⟩ := h
                refine jr_iaload jf_145_838 hx14 ?_
                refine jr_iadd jf_145_839 ?_
                replace h := obd_of h; obtain ⟨x15, hx15, h⟩ := h
                refine jr_laload jf_145_840 hx15 ?_
                refine jr_lmul jf_145_841 ?_
                refine jr_ladd jf_145_842 ?_
                refine jr_lstore jf_145_843 jml_145 (by decide) ?_
                replace h := jlet_of h
                refine jr_goto jf_145_845 ?_
                exact r_L_law_911 hd i517 i553 ih _ _ _ _ _ _ _ _ _ _ _ _ _ _ _ _ _ _ _ _ _ _ _ _ _ _ _ _ _ _ _ _ _ _ _ _ (jg2_ne rfl (jg2_ne rfl hl1)) (jg2_ne rfl (jg2_ne rfl hl2)) (jg2_ne rfl (jg2_ne rfl hl3)) (jg2_ne rfl (jg2_ne rfl hl4)) (jg2_ne rfl (jg2_ne rfl hl5)) (jg2_ne rfl (jg2_ne rfl hl6)) (jg2_ne rfl (jg2_ne rfl hl7)) (jg2_ne rfl (jg2_ne rfl hl8)) (jg2_ne rfl (jg2_ne rfl hl9)) (jg2_ne rfl (jg2_ne rfl hl11)) (jg2_ne rfl (jg2_ne rfl hl12)) (jg2_ne rfl (jg2_ne rfl hl13)) (jg2_ne rfl (jg2_ne rfl hl15)) (jg2_ne rfl (jg2_ne rfl hl17)) (jg2_ne rfl (jg2_ne rfl hl18)) (jg2_ne rfl (jg2_ne rfl hl19)) (jg2_ne rfl (jg2_ne rfl hl20)) (jg2_ne rfl (jg2_ne rfl hl21)) (jg2_ne rfl (jg2_ne rfl hl22)) (jg2_ne rfl (jg2_ne rfl hl23)) (jg2_ne rfl (jg2_ne rfl hl24)) (jg2_ne rfl (jg2_ne rfl hl25)) (jg2_ne rfl (jg2_ne rfl hl26)) (jg2_ne rfl (jg2_ne rfl hl27)) (jg2_ne rfl (jg2_ne rfl hl28)) (jg2_ne rfl (jg2_ne rfl hl30)) (jg2_ne rfl (jg2_ne rfl hl32)) (jg2_ne rfl (jg2_ne rfl hl33)) (jg2_ne rfl (jg2_ne rfl hl34)) (jg2_ne rfl (jg2_ne rfl hl37)) (jg2_pre rfl (jg2_pre rfl hl41)) jg2_same h
              · refine jr_if2_ne_t jf_145_814 hc ?_
                refine jr_lload jf_145_848 (jg2_ne rfl hl28) ?_
                refine jr_lconst0 jf_145_850 ?_
                refine jr_lcmp jf_145_851 ?_
                replace h := ite_or h; rcases h with ⟨hc, h⟩ | ⟨hc, h⟩
                · refine jr_ifl_ge_t jf_145_852 hc ?_
                  refine jr_lload jf_145_876 (jg2_ne rfl hl28) ?_
                  exact r_L_law_878 hd i517 i553 ih _ _ _ _ _ _ _ _ _ _ _ _ _ _ _ _ _ _ _ _ _ _ _ _ _ _ _ _ _ _ _ _ _ _ _ _ (jg2_ne rfl hl1) (jg2_ne rfl hl2) (jg2_ne rfl hl3) (jg2_ne rfl hl4) (jg2_ne rfl hl5) (jg2_ne rfl hl6) (jg2_ne rfl hl7) (jg2_ne rfl hl8) (jg2_ne rfl hl9) (jg2_ne rfl hl11) (jg2_ne rfl hl12) (jg2_ne rfl hl13) (jg2_ne rfl hl15) (jg2_ne rfl hl17) (jg2_ne rfl hl18) (jg2_ne rfl hl19) (jg2_ne rfl hl20) (jg2_ne rfl hl21) (jg2_ne rfl hl22) (jg2_ne rfl hl23) (jg2_ne rfl hl24) (jg2_ne rfl hl25) (jg2_ne rfl hl26) (jg2_ne rfl hl27) (jg2_ne rfl hl28) (jg2_ne rfl hl30) (jg2_ne rfl hl32) (jg2_ne rfl hl33) (jg2_ne rfl hl34) (jg2_ne rfl hl37) (jg2_pre rfl hl41) h
                · refine jr_ifl_ge_f jf_145_852 hc ?_
                  refine jr_lload jf_145_855 (jg2_ne rfl hl28) ?_
                  refine jr_ldc2l jf_145_857 ?_
                  refine jr_lcmp jf_145_860 ?_
                  replace h := ite_or h; rcases h with ⟨hc, h⟩ | ⟨hc, h⟩
                  · refine jr_ifl_ne_f jf_145_861 hc ?_
                    refine jr_ldc2l jf_145_864 ?_
                    refine jr_goto jf_145_867 ?_
                    exact r_L_law_878 hd i517 i553 ih _ _ _ _ _ _ _ _ _ _ _ _ _ _ _ _ _ _ _ _ _ _ _ _ _ _ _ _ _ _ _ _ _ _ _ _ (jg2_ne rfl hl1) (jg2_ne rfl hl2) (jg2_ne rfl hl3) (jg2_ne rfl hl4) (jg2_ne rfl hl5) (jg2_ne rfl hl6) (jg2_ne rfl hl7) (jg2_ne rfl hl8) (jg2_ne rfl hl9) (jg2_ne rfl hl11) (jg2_ne rfl hl12) (jg2_ne rfl hl13) (jg2_ne rfl hl15) (jg2_ne rfl hl17) (jg2_ne rfl hl18) (jg2_ne rfl hl19) (jg2_ne rfl hl20) (jg2_ne rfl hl21) (jg2_ne rfl hl22) (jg2_ne rfl hl23) (jg2_ne rfl hl24) (jg2_ne rfl hl25) (jg2_ne rfl hl26) (jg2_ne rfl hl27) (jg2_ne rfl hl28) (jg2_ne rfl hl30) (jg2_ne rfl hl32) (jg2_ne rfl hl33) (jg2_ne rfl hl34) (jg2_ne rfl hl37) (jg2_pre rfl hl41) h
                  · refine jr_ifl_ne_t jf_145_861 hc ?_
                    refine jr_lload jf_145_870 (jg2_ne rfl hl28) ?_
                    refine jr_lneg jf_145_872 ?_
                    refine jr_goto jf_145_873 ?_
                    exact r_L_law_878 hd i517 i553 ih _ _ _ _ _ _ _ _ _ _ _ _ _ _ _ _ _ _ _ _ _ _ _ _ _ _ _ _ _ _ _ _ _ _ _ _ (jg2_ne rfl hl1) (jg2_ne rfl hl2) (jg2_ne rfl hl3) (jg2_ne rfl hl4) (jg2_ne rfl hl5) (jg2_ne rfl hl6) (jg2_ne rfl hl7) (jg2_ne rfl hl8) (jg2_ne rfl hl9) (jg2_ne rfl hl11) (jg2_ne rfl hl12) (jg2_ne rfl hl13) (jg2_ne rfl hl15) (jg2_ne rfl hl17) (jg2_ne rfl hl18) (jg2_ne rfl hl19) (jg2_ne rfl hl20) (jg2_ne rfl hl21) (jg2_ne rfl hl22) (jg2_ne rfl hl23) (jg2_ne rfl hl24) (jg2_ne rfl hl25) (jg2_ne rfl hl26) (jg2_ne rfl hl27) (jg2_ne rfl hl28) (jg2_ne rfl hl30) (jg2_ne rfl hl32) (jg2_ne rfl hl33) (jg2_ne rfl hl34) (jg2_ne rfl hl37) (jg2_pre rfl hl41) h
      · refine jr_if2_ge_f jf_145_651 hc ?_
        refine jr_ldc2l jf_145_654 ?_
        refine jr_lload jf_145_657 (jg2_ne rfl hl28) ?_
        refine jr_lmul jf_145_659 ?_
        refine jr_iload jf_145_660 (jg2_pre rfl hl41) ?_
        replace h := ite_or h; rcases h with ⟨hc, h⟩ | ⟨hc, h⟩
        · refine jr_if_ne_f jf_145_662 hc ?_
          refine jr_lload jf_145_665 (jg2_ne rfl hl13) ?_
          refine jr_aload jf_145_667 (jg2_ne rfl hl23) ?_
          refine jr_iload jf_145_669 (jg2_ne rfl hl24) ?_
          replace h := obd_of h; obtain ⟨x17, hx17, h⟩ := h
          refine jr_laload jf_145_671 hx17 ?_
          refine jr_lmul jf_145_672 ?_
          refine jr_goto jf_145_673 ?_
          exact r_L_law_686 hd i517 i553 ih _ _ _ _ _ _ _ _ _ _ _ _ _ _ _ _ _ _ _ _ _ _ _ _ _ _ _ _ _ _ _ _ _ _ _ _ _ (jg2_ne rfl hl1) (jg2_ne rfl hl2) (jg2_ne rfl hl3) (jg2_ne rfl hl4) (jg2_ne rfl hl5) (jg2_ne rfl hl6) (jg2_ne rfl hl7) (jg2_ne rfl hl8) (jg2_ne rfl hl9) (jg2_ne rfl hl11) (jg2_ne rfl hl12) (jg2_ne rfl hl13) (jg2_ne rfl hl15) (jg2_ne rfl hl17) (jg2_ne rfl hl18) (jg2_ne rfl hl19) (jg2_ne rfl hl20) (jg2_ne rfl hl21) (jg2_ne rfl hl22) (jg2_ne rfl hl23) (jg2_ne rfl hl24) (jg2_ne rfl hl25) (jg2_ne rfl hl26) (jg2_ne rfl hl27) (jg2_ne rfl hl28) (jg2_ne rfl hl30) (jg2_ne rfl hl32) (jg2_ne rfl hl33) (jg2_ne rfl hl34) (jg2_ne rfl hl37) (jg2_pre rfl hl41) h
        · refine jr_if_ne_t jf_145_662 hc ?_
          refine jr_lload jf_145_676 (jg2_ne rfl hl15) ?_
          refine jr_aload jf_145_678 (jg2_ne rfl hl23) ?_
          refine jr_iconst jf_145_680 jc_i_4 ?_
          refine jr_iload jf_145_681 (jg2_ne rfl hl25) ?_
          refine jr_iadd jf_145_683 ?_
          replace h := obd_of h; obtain ⟨x18, hx18, h⟩ := h
          refine jr_laload jf_145_684 hx18 ?_
          refine jr_lmul jf_145_685 ?_
          exact r_L_law_686 hd i517 i553 ih _ _ _ _ _ _ _ _ _ _ _ _ _ _ _ _ _ _ _ _ _ _ _ _ _ _ _ _ _ _ _ _ _ _ _ _ _ (jg2_ne rfl hl1) (jg2_ne rfl hl2) (jg2_ne rfl hl3) (jg2_ne rfl hl4) (jg2_ne rfl hl5) (jg2_ne rfl hl6) (jg2_ne rfl hl7) (jg2_ne rfl hl8) (jg2_ne rfl hl9) (jg2_ne rfl hl11) (jg2_ne rfl hl12) (jg2_ne rfl hl13) (jg2_ne rfl hl15) (jg2_ne rfl hl17) (jg2_ne rfl hl18) (jg2_ne rfl hl19) (jg2_ne rfl hl20) (jg2_ne rfl hl21) (jg2_ne rfl hl22) (jg2_ne rfl hl23) (jg2_ne rfl hl24) (jg2_ne rfl hl25) (jg2_ne rfl hl26) (jg2_ne rfl hl27) (jg2_ne rfl hl28) (jg2_ne rfl hl30) (jg2_ne rfl hl32) (jg2_ne rfl hl33) (jg2_ne rfl hl34) (jg2_ne rfl hl37) (jg2_pre rfl hl41) h
set_option maxRecDepth 10000 in
set_option maxHeartbeats 4000000 in
theorem r_L_law_619 {N M B : Nat} {SA : Nat → Nat} {d : Nat} (hd : M + 8 ≤ d) {k517 : Nat → Nat → Int32 → Nat → Nat → Nat → Nat → Nat → Nat → Bool → Int32 → Int32 → Int64 → Int64 → Nat → Nat → Nat → Nat → Nat → Nat → Nat → Int32 → Int32 → Nat → Int32 → JMem → Option (Bool × JMem)} (i517 : ∀ (L : JLoc) (v1 : Nat) (v2 : Nat) (v3 : Int32) (v4 : Nat) (v5 : Nat) (v6 : Nat) (v7 : Nat) (v8 : Nat) (v9 : Nat) (v10 : Bool) (v11 : Int32) (v12 : Int32) (v13 : Int64) (v15 : Int64) (v17 : Nat) (v18 : Nat) (v19 : Nat) (v20 : Nat) (v21 : Nat) (v22 : Nat) (v23 : Nat) (v24 : Int32) (v25 : Int32) (v26 : Nat) (v27 : Int32) (μ : JMem) (r : Bool) (μ9 : JMem), jget L 1 = .ref v1 → jget L 2 = .ref v2 → jget L 3 = .int v3 → jget L 4 = .ref v4 → jget L 5 = .ref v5 → jget L 6 = .ref v6 → jget L 7 = .ref v7 → jget L 8 = .ref v8 → jget L 9 = .ref v9 → jget L 10 = .int (jb v10) → jget L 11 = .int v11 → jget L 12 = .int v12 → jget L 13 = .long v13 → jget L 15 = .long v15 → jget L 17 = .ref v17 → jget L 18 = .ref v18 → jget L 19 = .ref v19 → jget L 20 = .ref v20 → jget L 21 = .ref v21 → jget L 22 = .ref v22 → jget L 23 = .ref v23 → jget L 24 = .int v24 → jget L 25 = .int v25 → jget L 26 = .ref v26 → jget L 27 = .int v27 → k517 v1 v2 v3 v4 v5 v6 v7 v8 v9 v10 v11 v12 v13 v15 v17 v18 v19 v20 v21 v22 v23 v24 v25 v26 v27 μ = some (r, μ9) → jR B SA d m_L_law 517 L [] μ (some (.int (jb r))) μ9) {k553 : Nat → Nat → Int32 → Nat → Nat → Nat → Nat → Nat → Nat → Int32 → Int32 → Int64 → Int64 → Nat → Nat → Nat → Nat → Nat → Nat → Nat → Int32 → Int32 → Nat → Int32 → Int64 → Int64 → Int32 → JMem → Option (Bool × JMem)} (i553 : ∀ (L : JLoc) (v1 : Nat) (v2 : Nat) (v3 : Int32) (v4 : Nat) (v5 : Nat) (v6 : Nat) (v7 : Nat) (v8 : Nat) (v9 : Nat) (v11 : Int32) (v12 : Int32) (v13 : Int64) (v15 : Int64) (v17 : Nat) (v18 : Nat) (v19 : Nat) (v20 : Nat) (v21 : Nat) (v22 : Nat) (v23 : Nat) (v24 : Int32) (v25 : Int32) (v26 : Nat) (v27 : Int32) (v28 : Int64) (v30 : Int64) (v32 : Int32) (μ : JMem) (r : Bool) (μ9 : JMem), jget L 1 = .ref v1 → jget L 2 = .ref v2 → jget L 3 = .int v3 → jget L 4 = .ref v4 → jget L 5 = .ref v5 → jget L 6 = .ref v6 → jget L 7 = .ref v7 → jget L 8 = .ref v8 → jget L 9 = .ref v9 → jget L 11 = .int v11 → jget L 12 = .int v12 → jget L 13 = .long v13 → jget L 15 = .long v15 → jget L 17 = .ref v17 → jget L 18 = .ref v18 → jget L 19 = .ref v19 → jget L 20 = .ref v20 → jget L 21 = .ref v21 → jget L 22 = .ref v22 → jget L 23 = .ref v23 → jget L 24 = .int v24 → jget L 25 = .int v25 → jget L 26 = .ref v26 → jget L 27 = .int v27 → jget L 28 = .long v28 → jget L 30 = .long v30 → jget L 32 = .int v32 → k553 v1 v2 v3 v4 v5 v6 v7 v8 v9 v11 v12 v13 v15 v17 v18 v19 v20 v21 v22 v23 v24 v25 v26 v27 v28 v30 v32 μ = some (r, μ9) → jR B SA d m_L_law 553 L [] μ (some (.int (jb r))) μ9) : ∀ (L : JLoc) (v1 : Nat) (v2 : Nat) (v3 : Int32) (v4 : Nat) (v5 : Nat) (v6 : Nat) (v7 : Nat) (v8 : Nat) (v9 : Nat) (v11 : Int32) (v12 : Int32) (v13 : Int64) (v15 : Int64) (v17 : Nat) (v18 : Nat) (v19 : Nat) (v20 : Nat) (v21 : Nat) (v22 : Nat) (v23 : Nat) (v24 : Int32) (v25 : Int32) (v26 : Nat) (v27 : Int32) (v28 : Int64) (v30 : Int64) (v32 : Int32) (v33 : Int32) (s0 : Int32) (μ : JMem) (r : Bool) (μ9 : JMem), jget L 1 = .ref v1 → jget L 2 = .ref v2 → jget L 3 = .int v3 → jget L 4 = .ref v4 → jget L 5 = .ref v5 → jget L 6 = .ref v6 → jget L 7 = .ref v7 → jget L 8 = .ref v8 → jget L 9 = .ref v9 → jget L 11 = .int v11 → jget L 12 = .int v12 → jget L 13 = .long v13 → jget L 15 = .long v15 → jget L 17 = .ref v17 → jget L 18 = .ref v18 → jget L 19 = .ref v19 → jget L 20 = .ref v20 → jget L 21 = .ref v21 → jget L 22 = .ref v22 → jget L 23 = .ref v23 → jget L 24 = .int v24 → jget L 25 = .int v25 → jget L 26 = .ref v26 → jget L 27 = .int v27 → jget L 28 = .long v28 → jget L 30 = .long v30 → jget L 32 = .int v32 → jget L 33 = .int v33 → g_L_law_619 N M B SA k517 k553 v1 v2 v3 v4 v5 v6 v7 v8 v9 v11 v12 v13 v15 v17 v18 v19 v20 v21 v22 v23 v24 v25 v26 v27 v28 v30 v32 v33 s0 μ = some (r, μ9) → jR B SA d m_L_law 619 L [.int s0] μ (some (.int (jb r))) μ9 := by
  intro L v1 v2 v3 v4 v5 v6 v7 v8 v9 v11 v12 v13 v15 v17 v18 v19 v20 v21 v22 v23 v24 v25 v26 v27 v28 v30 v32 v33 s0 μ r μ9 hl1 hl2 hl3 hl4 hl5 hl6 hl7 hl8 hl9 hl11 hl12 hl13 hl15 hl17 hl18 hl19 hl20 hl21 hl22 hl23 hl24 hl25 hl26 hl27 hl28 hl30 hl32 hl33 h
  unfold g_L_law_619 at h
  refine jr_istore jf_145_619 jml_145 (by decide) ?_
  refine jr_lload jf_145_621 (jg1_ne rfl hl28) ?_
  refine jr_lstore jf_145_623 jml_145 (by decide) ?_
  refine jr_lconst0 jf_145_625 ?_
  refine jr_lstore jf_145_626 jml_145 (by decide) ?_
  refine jr_lconst0 jf_145_628 ?_
  refine jr_lstore jf_145_629 jml_145 (by decide) ?_
  refine jr_iconst jf_145_631 jc_i_0 ?_
  refine jr_istore jf_145_632 jml_145 (by decide) ?_
  exact r_L_law_634 hd i517 i553 _ _ _ _ _ _ _ _ _ _ _ _ _ _ _ _ _ _ _ _ _ _ _ _ _ _ _ _ _ _ _ _ _ _ _ _ _ (jg1_ne rfl (jg2_ne rfl (jg2_ne rfl (jg2_ne rfl (jg1_ne rfl hl1))))) (jg1_ne rfl (jg2_ne rfl (jg2_ne rfl (jg2_ne rfl (jg1_ne rfl hl2))))) (jg1_ne rfl (jg2_ne rfl (jg2_ne rfl (jg2_ne rfl (jg1_ne rfl hl3))))) (jg1_ne rfl (jg2_ne rfl (jg2_ne rfl (jg2_ne rfl (jg1_ne rfl hl4))))) (jg1_ne rfl (jg2_ne rfl (jg2_ne rfl (jg2_ne rfl (jg1_ne rfl hl5))))) (jg1_ne rfl (jg2_ne rfl (jg2_ne rfl (jg2_ne rfl (jg1_ne rfl hl6))))) (jg1_ne rfl (jg2_ne rfl (jg2_ne rfl (jg2_ne rfl (jg1_ne rfl hl7))))) (jg1_ne rfl (jg2_ne rfl (jg2_ne rfl (jg2_ne rfl (jg1_ne rfl hl8))))) (jg1_ne rfl (jg2_ne rfl (jg2_ne rfl (jg2_ne rfl (jg1_ne rfl hl9))))) (jg1_ne rfl (jg2_ne rfl (jg2_ne rfl (jg2_ne rfl (jg1_ne rfl hl11))))) (jg1_ne rfl (jg2_ne rfl (jg2_ne rfl (jg2_ne rfl (jg1_ne rfl hl12))))) (jg1_ne rfl (jg2_ne rfl (jg2_ne rfl (jg2_ne rfl (jg1_ne rfl hl13))))) (jg1_ne rfl (jg2_ne rfl (jg2_ne rfl (jg2_ne rfl (jg1_ne rfl hl15))))) (jg1_ne rfl (jg2_ne rfl (jg2_ne rfl (jg2_ne rfl (jg1_ne rfl hl17))))) (jg1_ne rfl (jg2_ne rfl (jg2_ne rfl (jg2_ne rfl (jg1_ne rfl hl18))))) (jg1_ne rfl (jg2_ne rfl (jg2_ne rfl (jg2_ne rfl (jg1_ne rfl hl19))))) (jg1_ne rfl (jg2_ne rfl (jg2_ne rfl (jg2_ne rfl (jg1_ne rfl hl20))))) (jg1_ne rfl (jg2_ne rfl (jg2_ne rfl (jg2_ne rfl (jg1_ne rfl hl21))))) (jg1_ne rfl (jg2_ne rfl (jg2_ne rfl (jg2_ne rfl (jg1_ne rfl hl22))))) (jg1_ne rfl (jg2_ne rfl (jg2_ne rfl (jg2_ne rfl (jg1_ne rfl hl23))))) (jg1_ne rfl (jg2_ne rfl (jg2_ne rfl (jg2_ne rfl (jg1_ne rfl hl24))))) (jg1_ne rfl (jg2_ne rfl (jg2_ne rfl (jg2_ne rfl (jg1_ne rfl hl25))))) (jg1_ne rfl (jg2_ne rfl (jg2_ne rfl (jg2_ne rfl (jg1_ne rfl hl26))))) (jg1_ne rfl (jg2_ne rfl (jg2_ne rfl (jg2_ne rfl (jg1_ne rfl hl27))))) (jg1_ne rfl (jg2_ne rfl (jg2_ne rfl (jg2_ne rfl (jg1_ne rfl hl28))))) (jg1_ne rfl (jg2_ne rfl (jg2_ne rfl (jg2_ne rfl (jg1_ne rfl hl30))))) (jg1_ne rfl (jg2_ne rfl (jg2_ne rfl (jg2_ne rfl (jg1_ne rfl hl32))))) (jg1_ne rfl (jg2_ne rfl (jg2_ne rfl (jg2_ne rfl (jg1_pre rfl hl33))))) (jg1_ne rfl (jg2_ne rfl (jg2_ne rfl (jg2_pre rfl jg1_same)))) (jg1_ne rfl (jg2_ne rfl (jg2_ne rfl jg2_same))) (jg1_ne rfl (jg2_ne rfl jg2_same)) jg1_same h
set_option maxRecDepth 10000 in
set_option maxHeartbeats 4000000 in
theorem r_L_law_614 {N M B : Nat} {SA : Nat → Nat} {d : Nat} (hd : M + 8 ≤ d) {k517 : Nat → Nat → Int32 → Nat → Nat → Nat → Nat → Nat → Nat → Bool → Int32 → Int32 → Int64 → Int64 → Nat → Nat → Nat → Nat → Nat → Nat → Nat → Int32 → Int32 → Nat → Int32 → JMem → Option (Bool × JMem)} (i517 : ∀ (L : JLoc) (v1 : Nat) (v2 : Nat) (v3 : Int32) (v4 : Nat) (v5 : Nat) (v6 : Nat) (v7 : Nat) (v8 : Nat) (v9 : Nat) (v10 : Bool) (v11 : Int32) (v12 : Int32) (v13 : Int64) (v15 : Int64) (v17 : Nat) (v18 : Nat) (v19 : Nat) (v20 : Nat) (v21 : Nat) (v22 : Nat) (v23 : Nat) (v24 : Int32) (v25 : Int32) (v26 : Nat) (v27 : Int32) (μ : JMem) (r : Bool) (μ9 : JMem), jget L 1 = .ref v1 → jget L 2 = .ref v2 → jget L 3 = .int v3 → jget L 4 = .ref v4 → jget L 5 = .ref v5 → jget L 6 = .ref v6 → jget L 7 = .ref v7 → jget L 8 = .ref v8 → jget L 9 = .ref v9 → jget L 10 = .int (jb v10) → jget L 11 = .int v11 → jget L 12 = .int v12 → jget L 13 = .long v13 → jget L 15 = .long v15 → jget L 17 = .ref v17 → jget L 18 = .ref v18 → jget L 19 = .ref v19 → jget L 20 = .ref v20 → jget L 21 = .ref v21 → jget L 22 = .ref v22 → jget L 23 = .ref v23 → jget L 24 = .int v24 → jget L 25 = .int v25 → jget L 26 = .ref v26 → jget L 27 = .int v27 → k517 v1 v2 v3 v4 v5 v6 v7 v8 v9 v10 v11 v12 v13 v15 v17 v18 v19 v20 v21 v22 v23 v24 v25 v26 v27 μ = some (r, μ9) → jR B SA d m_L_law 517 L [] μ (some (.int (jb r))) μ9) {k553 : Nat → Nat → Int32 → Nat → Nat → Nat → Nat → Nat → Nat → Int32 → Int32 → Int64 → Int64 → Nat → Nat → Nat → Nat → Nat → Nat → Nat → Int32 → Int32 → Nat → Int32 → Int64 → Int64 → Int32 → JMem → Option (Bool × JMem)} (i553 : ∀ (L : JLoc) (v1 : Nat) (v2 : Nat) (v3 : Int32) (v4 : Nat) (v5 : Nat) (v6 : Nat) (v7 : Nat) (v8 : Nat) (v9 : Nat) (v11 : Int32) (v12 : Int32) (v13 : Int64) (v15 : Int64) (v17 : Nat) (v18 : Nat) (v19 : Nat) (v20 : Nat) (v21 : Nat) (v22 : Nat) (v23 : Nat) (v24 : Int32) (v25 : Int32) (v26 : Nat) (v27 : Int32) (v28 : Int64) (v30 : Int64) (v32 : Int32) (μ : JMem) (r : Bool) (μ9 : JMem), jget L 1 = .ref v1 → jget L 2 = .ref v2 → jget L 3 = .int v3 → jget L 4 = .ref v4 → jget L 5 = .ref v5 → jget L 6 = .ref v6 → jget L 7 = .ref v7 → jget L 8 = .ref v8 → jget L 9 = .ref v9 → jget L 11 = .int v11 → jget L 12 = .int v12 → jget L 13 = .long v13 → jget L 15 = .long v15 → jget L 17 = .ref v17 → jget L 18 = .ref v18 → jget L 19 = .ref v19 → jget L 20 = .ref v20 → jget L 21 = .ref v21 → jget L 22 = .ref v22 → jget L 23 = .ref v23 → jget L 24 = .int v24 → jget L 25 = .int v25 → jget L 26 = .ref v26 → jget L 27 = .int v27 → jget L 28 = .long v28 → jget L 30 = .long v30 → jget L 32 = .int v32 → k553 v1 v2 v3 v4 v5 v6 v7 v8 v9 v11 v12 v13 v15 v17 v18 v19 v20 v21 v22 v23 v24 v25 v26 v27 v28 v30 v32 μ = some (r, μ9) → jR B SA d m_L_law 553 L [] μ (some (.int (jb r))) μ9) : ∀ (L : JLoc) (v1 : Nat) (v2 : Nat) (v3 : Int32) (v4 : Nat) (v5 : Nat) (v6 : Nat) (v7 : Nat) (v8 : Nat) (v9 : Nat) (v11 : Int32) (v12 : Int32) (v13 : Int64) (v15 : Int64) (v17 : Nat) (v18 : Nat) (v19 : Nat) (v20 : Nat) (v21 : Nat) (v22 : Nat) (v23 : Nat) (v24 : Int32) (v25 : Int32) (v26 : Nat) (v27 : Int32) (v28 : Int64) (v30 : Int64) (v32 : Int32) (v33 : Int32) (μ : JMem) (r : Bool) (μ9 : JMem), jget L 1 = .ref v1 → jget L 2 = .ref v2 → jget L 3 = .int v3 → jget L 4 = .ref v4 → jget L 5 = .ref v5 → jget L 6 = .ref v6 → jget L 7 = .ref v7 → jget L 8 = .ref v8 → jget L 9 = .ref v9 → jget L 11 = .int v11 → jget L 12 = .int v12 → jget L 13 = .long v13 → jget L 15 = .long v15 → jget L 17 = .ref v17 → jget L 18 = .ref v18 → jget L 19 = .ref v19 → jget L 20 = .ref v20 → jget L 21 = .ref v21 → jget L 22 = .ref v22 → jget L 23 = .ref v23 → jget L 24 = .int v24 → jget L 25 = .int v25 → jget L 26 = .ref v26 → jget L 27 = .int v27 → jget L 28 = .long v28 → jget L 30 = .long v30 → jget L 32 = .int v32 → jget L 33 = .int v33 → g_L_law_614 N M B SA k517 k553 v1 v2 v3 v4 v5 v6 v7 v8 v9 v11 v12 v13 v15 v17 v18 v19 v20 v21 v22 v23 v24 v25 v26 v27 v28 v30 v32 v33 μ = some (r, μ9) → jR B SA d m_L_law 614 L [] μ (some (.int (jb r))) μ9 := by
  intro L v1 v2 v3 v4 v5 v6 v7 v8 v9 v11 v12 v13 v15 v17 v18 v19 v20 v21 v22 v23 v24 v25 v26 v27 v28 v30 v32 v33 μ r μ9 hl1 hl2 hl3 hl4 hl5 hl6 hl7 hl8 hl9 hl11 hl12 hl13 hl15 hl17 hl18 hl19 hl20 hl21 hl22 hl23 hl24 hl25 hl26 hl27 hl28 hl30 hl32 hl33 h
  unfold g_L_law_614 at h
  refine jr_iconst jf_145_614 jc_i_0 ?_
  refine jr_goto jf_145_615 ?_
  exact r_L_law_619 hd i517 i553 _ _ _ _ _ _ _ _ _ _ _ _ _ _ _ _ _ _ _ _ _ _ _ _ _ _ _ _ _ _ _ _ _ hl1 hl2 hl3 hl4 hl5 hl6 hl7 hl8 hl9 hl11 hl12 hl13 hl15 hl17 hl18 hl19 hl20 hl21 hl22 hl23 hl24 hl25 hl26 hl27 hl28 hl30 hl32 hl33 h
set_option maxRecDepth 10000 in
set_option maxHeartbeats 4000000 in
theorem r_L_law_569 {N M B : Nat} {SA : Nat → Nat} {d : Nat} (hd : M + 8 ≤ d) {k517 : Nat → Nat → Int32 → Nat → Nat → Nat → Nat → Nat → Nat → Bool → Int32 → Int32 → Int64 → Int64 → Nat → Nat → Nat → Nat → Nat → Nat → Nat → Int32 → Int32 → Nat → Int32 → JMem → Option (Bool × JMem)} (i517 : ∀ (L : JLoc) (v1 : Nat) (v2 : Nat) (v3 : Int32) (v4 : Nat) (v5 : Nat) (v6 : Nat) (v7 : Nat) (v8 : Nat) (v9 : Nat) (v10 : Bool) (v11 : Int32) (v12 : Int32) (v13 : Int64) (v15 : Int64) (v17 : Nat) (v18 : Nat) (v19 : Nat) (v20 : Nat) (v21 : Nat) (v22 : Nat) (v23 : Nat) (v24 : Int32) (v25 : Int32) (v26 : Nat) (v27 : Int32) (μ : JMem) (r : Bool) (μ9 : JMem), jget L 1 = .ref v1 → jget L 2 = .ref v2 → jget L 3 = .int v3 → jget L 4 = .ref v4 → jget L 5 = .ref v5 → jget L 6 = .ref v6 → jget L 7 = .ref v7 → jget L 8 = .ref v8 → jget L 9 = .ref v9 → jget L 10 = .int (jb v10) → jget L 11 = .int v11 → jget L 12 = .int v12 → jget L 13 = .long v13 → jget L 15 = .long v15 → jget L 17 = .ref v17 → jget L 18 = .ref v18 → jget L 19 = .ref v19 → jget L 20 = .ref v20 → jget L 21 = .ref v21 → jget L 22 = .ref v22 → jget L 23 = .ref v23 → jget L 24 = .int v24 → jget L 25 = .int v25 → jget L 26 = .ref v26 → jget L 27 = .int v27 → k517 v1 v2 v3 v4 v5 v6 v7 v8 v9 v10 v11 v12 v13 v15 v17 v18 v19 v20 v21 v22 v23 v24 v25 v26 v27 μ = some (r, μ9) → jR B SA d m_L_law 517 L [] μ (some (.int (jb r))) μ9) {k553 : Nat → Nat → Int32 → Nat → Nat → Nat → Nat → Nat → Nat → Int32 → Int32 → Int64 → Int64 → Nat → Nat → Nat → Nat → Nat → Nat → Nat → Int32 → Int32 → Nat → Int32 → Int64 → Int64 → Int32 → JMem → Option (Bool × JMem)} (i553 : ∀ (L : JLoc) (v1 : Nat) (v2 : Nat) (v3 : Int32) (v4 : Nat) (v5 : Nat) (v6 : Nat) (v7 : Nat) (v8 : Nat) (v9 : Nat) (v11 : Int32) (v12 : Int32) (v13 : Int64) (v15 : Int64) (v17 : Nat) (v18 : Nat) (v19 : Nat) (v20 : Nat) (v21 : Nat) (v22 : Nat) (v23 : Nat) (v24 : Int32) (v25 : Int32) (v26 : Nat) (v27 : Int32) (v28 : Int64) (v30 : Int64) (v32 : Int32) (μ : JMem) (r : Bool) (μ9 : JMem), jget L 1 = .ref v1 → jget L 2 = .ref v2 → jget L 3 = .int v3 → jget L 4 = .ref v4 → jget L 5 = .ref v5 → jget L 6 = .ref v6 → jget L 7 = .ref v7 → jget L 8 = .ref v8 → jget L 9 = .ref v9 → jget L 11 = .int v11 → jget L 12 = .int v12 → jget L 13 = .long v13 → jget L 15 = .long v15 → jget L 17 = .ref v17 → jget L 18 = .ref v18 → jget L 19 = .ref v19 → jget L 20 = .ref v20 → jget L 21 = .ref v21 → jget L 22 = .ref v22 → jget L 23 = .ref v23 → jget L 24 = .int v24 → jget L 25 = .int v25 → jget L 26 = .ref v26 → jget L 27 = .int v27 → jget L 28 = .long v28 → jget L 30 = .long v30 → jget L 32 = .int v32 → k553 v1 v2 v3 v4 v5 v6 v7 v8 v9 v11 v12 v13 v15 v17 v18 v19 v20 v21 v22 v23 v24 v25 v26 v27 v28 v30 v32 μ = some (r, μ9) → jR B SA d m_L_law 553 L [] μ (some (.int (jb r))) μ9) : ∀ (L : JLoc) (v1 : Nat) (v2 : Nat) (v3 : Int32) (v4 : Nat) (v5 : Nat) (v6 : Nat) (v7 : Nat) (v8 : Nat) (v9 : Nat) (v11 : Int32) (v12 : Int32) (v13 : Int64) (v15 : Int64) (v17 : Nat) (v18 : Nat) (v19 : Nat) (v20 : Nat) (v21 : Nat) (v22 : Nat) (v23 : Nat) (v24 : Int32) (v25 : Int32) (v26 : Nat) (v27 : Int32) (v28 : Int64) (v30 : Int64) (v32 : Int32) (s0 : Int32) (μ : JMem) (r : Bool) (μ9 : JMem), jget L 1 = .ref v1 → jget L 2 = .ref v2 → jget L 3 = .int v3 → jget L 4 = .ref v4 → jget L 5 = .ref v5 → jget L 6 = .ref v6 → jget L 7 = .ref v7 → jget L 8 = .ref v8 → jget L 9 = .ref v9 → jget L 11 = .int v11 → jget L 12 = .int v12 → jget L 13 = .long v13 → jget L 15 = .long v15 → jget L 17 = .ref v17 → jget L 18 = .ref v18 → jget L 19 = .ref v19 → jget L 20 = .ref v20 → jget L 21 = .ref v21 → jget L 22 = .ref v22 → jget L 23 = .ref v23 → jget L 24 = .int v24 → jget L 25 = .int v25 → jget L 26 = .ref v26 → jget L 27 = .int v27 → jget L 28 = .long v28 → jget L 30 = .long v30 → jget L 32 = .int v32 → g_L_law_569 N M B SA k517 k553 v1 v2 v3 v4 v5 v6 v7 v8 v9 v11 v12 v13 v15 v17 v18 v19 v20 v21 v22 v23 v24 v25 v26 v27 v28 v30 v32 s0 μ = some (r, μ9) → jR B SA d m_L_law 569 L [.int s0] μ (some (.int (jb r))) μ9 := by
  intro L v1 v2 v3 v4 v5 v6 v7 v8 v9 v11 v12 v13 v15 v17 v18 v19 v20 v21 v22 v23 v24 v25 v26 v27 v28 v30 v32 s0 μ r μ9 hl1 hl2 hl3 hl4 hl5 hl6 hl7 hl8 hl9 hl11 hl12 hl13 hl15 hl17 hl18 hl19 hl20 hl21 hl22 hl23 hl24 hl25 hl26 hl27 hl28 hl30 hl32 h
  unfold g_L_law_569 at h
  refine jr_istore jf_145_569 jml_145 (by decide) ?_
  refine jr_aload jf_145_571 (jg1_ne rfl hl4) ?_
  refine jr_iload jf_145_573 (jg1_pre rfl hl32) ?_
  replace h := obd_of h; obtain ⟨x1, hx1, h⟩ := h
  refine jr_iaload jf_145_575 hx1 ?_
  refine jr_iconst jf_145_576 jc_i_5 ?_
  replace h := ite_or h; rcases h with ⟨hc, h⟩ | ⟨hc, h⟩
  · refine jr_if2_ne_f jf_145_577 hc ?_
    refine jr_iconst jf_145_580 jc_i_2 ?_
    refine jr_goto jf_145_581 ?_
    exact r_L_law_619 hd i517 i553 _ _ _ _ _ _ _ _ _ _ _ _ _ _ _ _ _ _ _ _ _ _ _ _ _ _ _ _ _ _ _ _ _ (jg1_ne rfl hl1) (jg1_ne rfl hl2) (jg1_ne rfl hl3) (jg1_ne rfl hl4) (jg1_ne rfl hl5) (jg1_ne rfl hl6) (jg1_ne rfl hl7) (jg1_ne rfl hl8) (jg1_ne rfl hl9) (jg1_ne rfl hl11) (jg1_ne rfl hl12) (jg1_ne rfl hl13) (jg1_ne rfl hl15) (jg1_ne rfl hl17) (jg1_ne rfl hl18) (jg1_ne rfl hl19) (jg1_ne rfl hl20) (jg1_ne rfl hl21) (jg1_ne rfl hl22) (jg1_ne rfl hl23) (jg1_ne rfl hl24) (jg1_ne rfl hl25) (jg1_ne rfl hl26) (jg1_ne rfl hl27) (jg1_ne rfl hl28) (jg1_ne rfl hl30) (jg1_pre rfl hl32) jg1_same h
  · refine jr_if2_ne_t jf_145_577 hc ?_
    refine jr_aload jf_145_584 (jg1_ne rfl hl4) ?_
    refine jr_iload jf_145_586 (jg1_pre rfl hl32) ?_
    replace h := obd_of h; obtain ⟨x2, hx2, h⟩ := h
    refine jr_iaload jf_145_588 hx2 ?_
    refine jr_bipush jf_145_589 jc_b_6 ?_
    replace h := ite_or h; rcases h with ⟨hc, h⟩ | ⟨hc, h⟩
    · refine jr_if2_eq_t jf_145_591 hc ?_
      exact r_L_law_614 hd i517 i553 _ _ _ _ _ _ _ _ _ _ _ _ _ _ _ _ _ _ _ _ _ _ _ _ _ _ _ _ _ _ _ _ (jg1_ne rfl hl1) (jg1_ne rfl hl2) (jg1_ne rfl hl3) (jg1_ne rfl hl4) (jg1_ne rfl hl5) (jg1_ne rfl hl6) (jg1_ne rfl hl7) (jg1_ne rfl hl8) (jg1_ne rfl hl9) (jg1_ne rfl hl11) (jg1_ne rfl hl12) (jg1_ne rfl hl13) (jg1_ne rfl hl15) (jg1_ne rfl hl17) (jg1_ne rfl hl18) (jg1_ne rfl hl19) (jg1_ne rfl hl20) (jg1_ne rfl hl21) (jg1_ne rfl hl22) (jg1_ne rfl hl23) (jg1_ne rfl hl24) (jg1_ne rfl hl25) (jg1_ne rfl hl26) (jg1_ne rfl hl27) (jg1_ne rfl hl28) (jg1_ne rfl hl30) (jg1_pre rfl hl32) jg1_same h
    · refine jr_if2_eq_f jf_145_591 hc ?_
      refine jr_aload jf_145_594 (jg1_ne rfl hl4) ?_
      refine jr_iload jf_145_596 (jg1_pre rfl hl32) ?_
      replace h := obd_of h; obtain ⟨x3, hx3, h⟩ := h
      refine jr_iaload jf_145_598 hx3 ?_
      refine jr_bipush jf_145_599 jc_b_9 ?_
      replace h := ite_or h; rcases h with ⟨hc, h⟩ | ⟨hc, h⟩
      · refine jr_if2_eq_t jf_145_601 hc ?_
        exact r_L_law_614 hd i517 i553 _ _ _ _ _ _ _ _ _ _ _ _ _ _ _ _ _ _ _ _ _ _ _ _ _ _ _ _ _ _ _ _ (jg1_ne rfl hl1) (jg1_ne rfl hl2) (jg1_ne rfl hl3) (jg1_ne rfl hl4) (jg1_ne rfl hl5) (jg1_ne rfl hl6) (jg1_ne rfl hl7) (jg1_ne rfl hl8) (jg1_ne rfl hl9) (jg1_ne rfl hl11) (jg1_ne rfl hl12) (jg1_ne rfl hl13) (jg1_ne rfl hl15) (jg1_ne rfl hl17) (jg1_ne rfl hl18) (jg1_ne rfl hl19) (jg1_ne rfl hl20) (jg1_ne rfl hl21) (jg1_ne rfl hl22) (jg1_ne rfl hl23) (jg1_ne rfl hl24) (jg1_ne rfl hl25) (jg1_ne rfl hl26) (jg1_ne rfl hl27) (jg1_ne rfl hl28) (jg1_ne rfl hl30) (jg1_pre rfl hl32) jg1_same h
      · refine jr_if2_eq_f jf_145_601 hc ?_
        refine jr_aload jf_145_604 (jg1_ne rfl hl4) ?_
        refine jr_iload jf_145_606 (jg1_pre rfl hl32) ?_
        replace h := obd_of h; obtain ⟨x4, hx4, h⟩ := h
        refine jr_iaload jf_145_608 hx4 ?_
        refine jr_bipush jf_145_609 jc_b_10 ?_
        replace h := ite_or h; rcases h with ⟨hc, h⟩ | ⟨hc, h⟩
        · refine jr_if2_ne_f jf_145_611 hc ?_
          exact r_L_law_614 hd i517 i553 _ _ _ _ _ _ _ _ _ _ _ _ _ _ _ _ _ _ _ _ _ _ _ _ _ _ _ _ _ _ _ _ (jg1_ne rfl hl1) (jg1_ne rfl hl2) (jg1_ne rfl hl3) (jg1_ne rfl hl4) (jg1_ne rfl hl5) (jg1_ne rfl hl6) (jg1_ne rfl hl7) (jg1_ne rfl hl8) (jg1_ne rfl hl9) (jg1_ne rfl hl11) (jg1_ne rfl hl12) (jg1_ne rfl hl13) (jg1_ne rfl hl15) (jg1_ne rfl hl17) (jg1_ne rfl hl18) (jg1_ne rfl hl19) (jg1_ne rfl hl20) (jg1_ne rfl hl21) (jg1_ne rfl hl22) (jg1_ne rfl hl23) (jg1_ne rfl hl24) (jg1_ne rfl hl25) (jg1_ne rfl hl26) (jg1_ne rfl hl27) (jg1_ne rfl hl28) (jg1_ne rfl hl30) (jg1_pre rfl hl32) jg1_same h
        · refine jr_if2_ne_t jf_145_611 hc ?_
          refine jr_iconst jf_145_618 jc_i_1 ?_
          exact r_L_law_619 hd i517 i553 _ _ _ _ _ _ _ _ _ _ _ _ _ _ _ _ _ _ _ _ _ _ _ _ _ _ _ _ _ _ _ _ _ (jg1_ne rfl hl1) (jg1_ne rfl hl2) (jg1_ne rfl hl3) (jg1_ne rfl hl4) (jg1_ne rfl hl5) (jg1_ne rfl hl6) (jg1_ne rfl hl7) (jg1_ne rfl hl8) (jg1_ne rfl hl9) (jg1_ne rfl hl11) (jg1_ne rfl hl12) (jg1_ne rfl hl13) (jg1_ne rfl hl15) (jg1_ne rfl hl17) (jg1_ne rfl hl18) (jg1_ne rfl hl19) (jg1_ne rfl hl20) (jg1_ne rfl hl21) (jg1_ne rfl hl22) (jg1_ne rfl hl23) (jg1_ne rfl hl24) (jg1_ne rfl hl25) (jg1_ne rfl hl26) (jg1_ne rfl hl27) (jg1_ne rfl hl28) (jg1_ne rfl hl30) (jg1_pre rfl hl32) jg1_same h
set_option maxRecDepth 10000 in
set_option maxHeartbeats 4000000 in
theorem r_L_law_1549 {N M B : Nat} {SA : Nat → Nat} {d : Nat} (hd : M + 8 ≤ d) {k517 : Nat → Nat → Int32 → Nat → Nat → Nat → Nat → Nat → Nat → Bool → Int32 → Int32 → Int64 → Int64 → Nat → Nat → Nat → Nat → Nat → Nat → Nat → Int32 → Int32 → Nat → Int32 → JMem → Option (Bool × JMem)} (i517 : ∀ (L : JLoc) (v1 : Nat) (v2 : Nat) (v3 : Int32) (v4 : Nat) (v5 : Nat) (v6 : Nat) (v7 : Nat) (v8 : Nat) (v9 : Nat) (v10 : Bool) (v11 : Int32) (v12 : Int32) (v13 : Int64) (v15 : Int64) (v17 : Nat) (v18 : Nat) (v19 : Nat) (v20 : Nat) (v21 : Nat) (v22 : Nat) (v23 : Nat) (v24 : Int32) (v25 : Int32) (v26 : Nat) (v27 : Int32) (μ : JMem) (r : Bool) (μ9 : JMem), jget L 1 = .ref v1 → jget L 2 = .ref v2 → jget L 3 = .int v3 → jget L 4 = .ref v4 → jget L 5 = .ref v5 → jget L 6 = .ref v6 → jget L 7 = .ref v7 → jget L 8 = .ref v8 → jget L 9 = .ref v9 → jget L 10 = .int (jb v10) → jget L 11 = .int v11 → jget L 12 = .int v12 → jget L 13 = .long v13 → jget L 15 = .long v15 → jget L 17 = .ref v17 → jget L 18 = .ref v18 → jget L 19 = .ref v19 → jget L 20 = .ref v20 → jget L 21 = .ref v21 → jget L 22 = .ref v22 → jget L 23 = .ref v23 → jget L 24 = .int v24 → jget L 25 = .int v25 → jget L 26 = .ref v26 → jget L 27 = .int v27 → k517 v1 v2 v3 v4 v5 v6 v7 v8 v9 v10 v11 v12 v13 v15 v17 v18 v19 v20 v21 v22 v23 v24 v25 v26 v27 μ = some (r, μ9) → jR B SA d m_L_law 517 L [] μ (some (.int (jb r))) μ9) {k1485 : Nat → Nat → Int32 → Nat → Nat → Nat → Nat → Nat → Nat → Bool → Int32 → Int32 → Int64 → Int64 → Nat → Nat → Nat → Nat → Nat → Nat → Nat → Int32 → Int32 → Nat → Int32 → Int32 → JMem → Option (Bool × JMem)} (i1485 : ∀ (L : JLoc) (v1 : Nat) (v2 : Nat) (v3 : Int32) (v4 : Nat) (v5 : Nat) (v6 : Nat) (v7 : Nat) (v8 : Nat) (v9 : Nat) (v10 : Bool) (v11 : Int32) (v12 : Int32) (v13 : Int64) (v15 : Int64) (v17 : Nat) (v18 : Nat) (v19 : Nat) (v20 : Nat) (v21 : Nat) (v22 : Nat) (v23 : Nat) (v24 : Int32) (v25 : Int32) (v26 : Nat) (v27 : Int32) (v32 : Int32) (μ : JMem) (r : Bool) (μ9 : JMem), jget L 1 = .ref v1 → jget L 2 = .ref v2 → jget L 3 = .int v3 → jget L 4 = .ref v4 → jget L 5 = .ref v5 → jget L 6 = .ref v6 → jget L 7 = .ref v7 → jget L 8 = .ref v8 → jget L 9 = .ref v9 → jget L 10 = .int (jb v10) → jget L 11 = .int v11 → jget L 12 = .int v12 → jget L 13 = .long v13 → jget L 15 = .long v15 → jget L 17 = .ref v17 → jget L 18 = .ref v18 → jget L 19 = .ref v19 → jget L 20 = .ref v20 → jget L 21 = .ref v21 → jget L 22 = .ref v22 → jget L 23 = .ref v23 → jget L 24 = .int v24 → jget L 25 = .int v25 → jget L 26 = .ref v26 → jget L 27 = .int v27 → jget L 32 = .int v32 → k1485 v1 v2 v3 v4 v5 v6 v7 v8 v9 v10 v11 v12 v13 v15 v17 v18 v19 v20 v21 v22 v23 v24 v25 v26 v27 v32 μ = some (r, μ9) → jR B SA d m_L_law 1485 L [] μ (some (.int (jb r))) μ9) : ∀ (L : JLoc) (v1 : Nat) (v2 : Nat) (v3 : Int32) (v4 : Nat) (v5 : Nat) (v6 : Nat) (v7 : Nat) (v8 : Nat) (v9 : Nat) (v11 : Int32) (v12 : Int32) (v13 : Int64) (v15 : Int64) (v17 : Nat) (v18 : Nat) (v19 : Nat) (v20 : Nat) (v21 : Nat) (v22 : Nat) (v23 : Nat) (v24 : Int32) (v25 : Int32) (v26 : Nat) (v27 : Int32) (v32 : Int32) (s0 : Bool) (μ : JMem) (r : Bool) (μ9 : JMem), jget L 1 = .ref v1 → jget L 2 = .ref v2 → jget L 3 = .int v3 → jget L 4 = .ref v4 → jget L 5 = .ref v5 → jget L 6 = .ref v6 → jget L 7 = .ref v7 → jget L 8 = .ref v8 → jget L 9 = .ref v9 → jget L 11 = .int v11 → jget L 12 = .int v12 → jget L 13 = .long v13 → jget L 15 = .long v15 → jget L 17 = .ref v17 → jget L 18 = .ref v18 → jget L 19 = .ref v19 → jget L 20 = .ref v20 → jget L 21 = .ref v21 → jget L 22 = .ref v22 → jget L 23 = .ref v23 → jget L 24 = .int v24 → jget L 25 = .int v25 → jget L 26 = .ref v26 → jget L 27 = .int v27 → jget L 32 = .int v32 → g_L_law_1549 N M B SA k517 k1485 v1 v2 v3 v4 v5 v6 v7 v8 v9 v11 v12 v13 v15 v17 v18 v19 v20 v21 v22 v23 v24 v25 v26 v27 v32 s0 μ = some (r, μ9) → jR B SA d m_L_law 1549 L [.int (jb s0)] μ (some (.int (jb r))) μ9 := by
  intro L v1 v2 v3 v4 v5 v6 v7 v8 v9 v11 v12 v13 v15 v17 v18 v19 v20 v21 v22 v23 v24 v25 v26 v27 v32 s0 μ r μ9 hl1 hl2 hl3 hl4 hl5 hl6 hl7 hl8 hl9 hl11 hl12 hl13 hl15 hl17 hl18 hl19 hl20 hl21 hl22 hl23 hl24 hl25 hl26 hl27 hl32 h
  unfold g_L_law_1549 at h
  refine jr_istore jf_145_1549 jml_145 (by decide) ?_
  refine jr_iinc jf_145_1551 jc_i_1 jml_145 (by decide) (jg1_ne rfl hl32) ?_
  refine jr_goto jf_145_1554 ?_
  exact i1485 _ _ _ _ _ _ _ _ _ _ _ _ _ _ _ _ _ _ _ _ _ _ _ _ _ _ _ _ _ _ (jg1_ne rfl (jg1_ne rfl hl1)) (jg1_ne rfl (jg1_ne rfl hl2)) (jg1_ne rfl (jg1_ne rfl hl3)) (jg1_ne rfl (jg1_ne rfl hl4)) (jg1_ne rfl (jg1_ne rfl hl5)) (jg1_ne rfl (jg1_ne rfl hl6)) (jg1_ne rfl (jg1_ne rfl hl7)) (jg1_ne rfl (jg1_ne rfl hl8)) (jg1_ne rfl (jg1_pre (by first | rfl | exact rv_cat _) hl9)) (jg1_ne rfl jg1_same) (jg1_ne rfl (jg1_ne rfl hl11)) (jg1_ne rfl (jg1_ne rfl hl12)) (jg1_ne rfl (jg1_ne rfl hl13)) (jg1_ne rfl (jg1_ne rfl hl15)) (jg1_ne rfl (jg1_ne rfl hl17)) (jg1_ne rfl (jg1_ne rfl hl18)) (jg1_ne rfl (jg1_ne rfl hl19)) (jg1_ne rfl (jg1_ne rfl hl20)) (jg1_ne rfl (jg1_ne rfl hl21)) (jg1_ne rfl (jg1_ne rfl hl22)) (jg1_ne rfl (jg1_ne rfl hl23)) (jg1_ne rfl (jg1_ne rfl hl24)) (jg1_ne rfl (jg1_ne rfl hl25)) (jg1_ne rfl (jg1_ne rfl hl26)) (jg1_ne rfl (jg1_ne rfl hl27)) jg1_same h
set_option maxRecDepth 10000 in
set_option maxHeartbeats 4000000 in
theorem r_L_law_1548 {N M B : Nat} {SA : Nat → Nat} {d : Nat} (hd : M + 8 ≤ d) {k517 : Nat → Nat → Int32 → Nat → Nat → Nat → Nat → Nat → Nat → Bool → Int32 → Int32 → Int64 → Int64 → Nat → Nat → Nat → Nat → Nat → Nat → Nat → Int32 → Int32 → Nat → Int32 → JMem → Option (Bool × JMem)} (i517 : ∀ (L : JLoc) (v1 : Nat) (v2 : Nat) (v3 : Int32) (v4 : Nat) (v5 : Nat) (v6 : Nat) (v7 : Nat) (v8 : Nat) (v9 : Nat) (v10 : Bool) (v11 : Int32) (v12 : Int32) (v13 : Int64) (v15 : Int64) (v17 : Nat) (v18 : Nat) (v19 : Nat) (v20 : Nat) (v21 : Nat) (v22 : Nat) (v23 : Nat) (v24 : Int32) (v25 : Int32) (v26 : Nat) (v27 : Int32) (μ : JMem) (r : Bool) (μ9 : JMem), jget L 1 = .ref v1 → jget L 2 = .ref v2 → jget L 3 = .int v3 → jget L 4 = .ref v4 → jget L 5 = .ref v5 → jget L 6 = .ref v6 → jget L 7 = .ref v7 → jget L 8 = .ref v8 → jget L 9 = .ref v9 → jget L 10 = .int (jb v10) → jget L 11 = .int v11 → jget L 12 = .int v12 → jget L 13 = .long v13 → jget L 15 = .long v15 → jget L 17 = .ref v17 → jget L 18 = .ref v18 → jget L 19 = .ref v19 → jget L 20 = .ref v20 → jget L 21 = .ref v21 → jget L 22 = .ref v22 → jget L 23 = .ref v23 → jget L 24 = .int v24 → jget L 25 = .int v25 → jget L 26 = .ref v26 → jget L 27 = .int v27 → k517 v1 v2 v3 v4 v5 v6 v7 v8 v9 v10 v11 v12 v13 v15 v17 v18 v19 v20 v21 v22 v23 v24 v25 v26 v27 μ = some (r, μ9) → jR B SA d m_L_law 517 L [] μ (some (.int (jb r))) μ9) {k1485 : Nat → Nat → Int32 → Nat → Nat → Nat → Nat → Nat → Nat → Bool → Int32 → Int32 → Int64 → Int64 → Nat → Nat → Nat → Nat → Nat → Nat → Nat → Int32 → Int32 → Nat → Int32 → Int32 → JMem → Option (Bool × JMem)} (i1485 : ∀ (L : JLoc) (v1 : Nat) (v2 : Nat) (v3 : Int32) (v4 : Nat) (v5 : Nat) (v6 : Nat) (v7 : Nat) (v8 : Nat) (v9 : Nat) (v10 : Bool) (v11 : Int32) (v12 : Int32) (v13 : Int64) (v15 : Int64) (v17 : Nat) (v18 : Nat) (v19 : Nat) (v20 : Nat) (v21 : Nat) (v22 : Nat) (v23 : Nat) (v24 : Int32) (v25 : Int32) (v26 : Nat) (v27 : Int32) (v32 : Int32) (μ : JMem) (r : Bool) (μ9 : JMem), jget L 1 = .ref v1 → jget L 2 = .ref v2 → jget L 3 = .int v3 → jget L 4 = .ref v4 → jget L 5 = .ref v5 → jget L 6 = .ref v6 → jget L 7 = .ref v7 → jget L 8 = .ref v8 → jget L 9 = .ref v9 → jget L 10 = .int (jb v10) → jget L 11 = .int v11 → jget L 12 = .int v12 → jget L 13 = .long v13 → jget L 15 = .long v15 → jget L 17 = .ref v17 → jget L 18 = .ref v18 → jget L 19 = .ref v19 → jget L 20 = .ref v20 → jget L 21 = .ref v21 → jget L 22 = .ref v22 → jget L 23 = .ref v23 → jget L 24 = .int v24 → jget L 25 = .int v25 → jget L 26 = .ref v26 → jget L 27 = .int v27 → jget L 32 = .int v32 → k1485 v1 v2 v3 v4 v5 v6 v7 v8 v9 v10 v11 v12 v13 v15 v17 v18 v19 v20 v21 v22 v23 v24 v25 v26 v27 v32 μ = some (r, μ9) → jR B SA d m_L_law 1485 L [] μ (some (.int (jb r))) μ9) : ∀ (L : JLoc) (v1 : Nat) (v2 : Nat) (v3 : Int32) (v4 : Nat) (v5 : Nat) (v6 : Nat) (v7 : Nat) (v8 : Nat) (v9 : Nat) (v11 : Int32) (v12 : Int32) (v13 : Int64) (v15 : Int64) (v17 : Nat) (v18 : Nat) (v19 : Nat) (v20 : Nat) (v21 : Nat) (v22 : Nat) (v23 : Nat) (v24 : Int32) (v25 : Int32) (v26 : Nat) (v27 : Int32) (v32 : Int32) (μ : JMem) (r : Bool) (μ9 : JMem), jget L 1 = .ref v1 → jget L 2 = .ref v2 → jget L 3 = .int v3 → jget L 4 = .ref v4 → jget L 5 = .ref v5 → jget L 6 = .ref v6 → jget L 7 = .ref v7 → jget L 8 = .ref v8 → jget L 9 = .ref v9 → jget L 11 = .int v11 → jget L 12 = .int v12 → jget L 13 = .long v13 → jget L 15 = .long v15 → jget L 17 = .ref v17 → jget L 18 = .ref v18 → jget L 19 = .ref v19 → jget L 20 = .ref v20 → jget L 21 = .ref v21 → jget L 22 = .ref v22 → jget L 23 = .ref v23 → jget L 24 = .int v24 → jget L 25 = .int v25 → jget L 26 = .ref v26 → jget L 27 = .int v27 → jget L 32 = .int v32 → g_L_law_1548 N M B SA k517 k1485 v1 v2 v3 v4 v5 v6 v7 v8 v9 v11 v12 v13 v15 v17 v18 v19 v20 v21 v22 v23 v24 v25 v26 v27 v32 μ = some (r, μ9) → jR B SA d m_L_law 1548 L [] μ (some (.int (jb r))) μ9 := by
  intro L v1 v2 v3 v4 v5 v6 v7 v8 v9 v11 v12 v13 v15 v17 v18 v19 v20 v21 v22 v23 v24 v25 v26 v27 v32 μ r μ9 hl1 hl2 hl3 hl4 hl5 hl6 hl7 hl8 hl9 hl11 hl12 hl13 hl15 hl17 hl18 hl19 hl20 hl21 hl22 hl23 hl24 hl25 hl26 hl27 hl32 h
  unfold g_L_law_1548 at h
  refine jr_iconst jf_145_1548 jc_i_0 ?_
  exact r_L_law_1549 hd i517 i1485 _ _ _ _ _ _ _ _ _ _ _ _ _ _ _ _ _ _ _ _ _ _ _ _ _ _ false _ _ _ hl1 hl2 hl3 hl4 hl5 hl6 hl7 hl8 hl9 hl11 hl12 hl13 hl15 hl17 hl18 hl19 hl20 hl21 hl22 hl23 hl24 hl25 hl26 hl27 hl32 h
set_option maxRecDepth 10000 in
set_option maxHeartbeats 4000000 in
theorem r_L_law_1485 {N M B : Nat} {SA : Nat → Nat} {d : Nat} (hd : M + 8 ≤ d) {k517 : Nat → Nat → Int32 → Nat → Nat → Nat → Nat → Nat → Nat → Bool → Int32 → Int32 → Int64 → Int64 → Nat → Nat → Nat → Nat → Nat → Nat → Nat → Int32 → Int32 → Nat → Int32 → JMem → Option (Bool × JMem)} (i517 : ∀ (L : JLoc) (v1 : Nat) (v2 : Nat) (v3 : Int32) (v4 : Nat) (v5 : Nat) (v6 : Nat) (v7 : Nat) (v8 : Nat) (v9 : Nat) (v10 : Bool) (v11 : Int32) (v12 : Int32) (v13 : Int64) (v15 : Int64) (v17 : Nat) (v18 : Nat) (v19 : Nat) (v20 : Nat) (v21 : Nat) (v22 : Nat) (v23 : Nat) (v24 : Int32) (v25 : Int32) (v26 : Nat) (v27 : Int32) (μ : JMem) (r : Bool) (μ9 : JMem), jget L 1 = .ref v1 → jget L 2 = .ref v2 → jget L 3 = .int v3 → jget L 4 = .ref v4 → jget L 5 = .ref v5 → jget L 6 = .ref v6 → jget L 7 = .ref v7 → jget L 8 = .ref v8 → jget L 9 = .ref v9 → jget L 10 = .int (jb v10) → jget L 11 = .int v11 → jget L 12 = .int v12 → jget L 13 = .long v13 → jget L 15 = .long v15 → jget L 17 = .ref v17 → jget L 18 = .ref v18 → jget L 19 = .ref v19 → jget L 20 = .ref v20 → jget L 21 = .ref v21 → jget L 22 = .ref v22 → jget L 23 = .ref v23 → jget L 24 = .int v24 → jget L 25 = .int v25 → jget L 26 = .ref v26 → jget L 27 = .int v27 → k517 v1 v2 v3 v4 v5 v6 v7 v8 v9 v10 v11 v12 v13 v15 v17 v18 v19 v20 v21 v22 v23 v24 v25 v26 v27 μ = some (r, μ9) → jR B SA d m_L_law 517 L [] μ (some (.int (jb r))) μ9) : ∀ (n : Nat), ∀ (L : JLoc) (v1 : Nat) (v2 : Nat) (v3 : Int32) (v4 : Nat) (v5 : Nat) (v6 : Nat) (v7 : Nat) (v8 : Nat) (v9 : Nat) (v10 : Bool) (v11 : Int32) (v12 : Int32) (v13 : Int64) (v15 : Int64) (v17 : Nat) (v18 : Nat) (v19 : Nat) (v20 : Nat) (v21 : Nat) (v22 : Nat) (v23 : Nat) (v24 : Int32) (v25 : Int32) (v26 : Nat) (v27 : Int32) (v32 : Int32) (μ : JMem) (r : Bool) (μ9 : JMem), jget L 1 = .ref v1 → jget L 2 = .ref v2 → jget L 3 = .int v3 → jget L 4 = .ref v4 → jget L 5 = .ref v5 → jget L 6 = .ref v6 → jget L 7 = .ref v7 → jget L 8 = .ref v8 → jget L 9 = .ref v9 → jget L 10 = .int (jb v10) → jget L 11 = .int v11 → jget L 12 = .int v12 → jget L 13 = .long v13 → jget L 15 = .long v15 → jget L 17 = .ref v17 → jget L 18 = .ref v18 → jget L 19 = .ref v19 → jget L 20 = .ref v20 → jget L 21 = .ref v21 → jget L 22 = .ref v22 → jget L 23 = .ref v23 → jget L 24 = .int v24 → jget L 25 = .int v25 → jget L 26 = .ref v26 → jget L 27 = .int v27 → jget L 32 = .int v32 → g_L_law_1485 N M B SA k517 n v1 v2 v3 v4 v5 v6 v7 v8 v9 v10 v11 v12 v13 v15 v17 v18 v19 v20 v21 v22 v23 v24 v25 v26 v27 v32 μ = some (r, μ9) → jR B SA d m_L_law 1485 L [] μ (some (.int (jb r))) μ9 := by
  intro n
  induction n with
  | zero =>
    intro L v1 v2 v3 v4 v5 v6 v7 v8 v9 v10 v11 v12 v13 v15 v17 v18 v19 v20 v21 v22 v23 v24 v25 v26 v27 v32 μ r μ9 hl1 hl2 hl3 hl4 hl5 hl6 hl7 hl8 hl9 hl10 hl11 hl12 hl13 hl15 hl17 hl18 hl19 hl20 hl21 hl22 hl23 hl24 hl25 hl26 hl27 hl32 h
    unfold g_L_law_1485 at h
    cases h
  | succ n ih =>
    intro L v1 v2 v3 v4 v5 v6 v7 v8 v9 v10 v11 v12 v13 v15 v17 v18 v19 v20 v21 v22 v23 v24 v25 v26 v27 v32 μ r μ9 hl1 hl2 hl3 hl4 hl5 hl6 hl7 hl8 hl9 hl10 hl11 hl12 hl13 hl15 hl17 hl18 hl19 hl20 hl21 hl22 hl23 hl24 hl25 hl26 hl27 hl32 h
    unfold g_L_law_1485 at h
    refine jr_iload jf_145_1485 hl32 ?_
    refine jr_iload_n jf_145_1487 rfl hl3 ?_
    replace h := ite_or h; rcases h with ⟨hc, h⟩ | ⟨hc, h⟩
    · refine jr_if2_ge_t jf_145_1488 hc ?_
      refine jr_iinc jf_145_1557 jc_i_1 jml_145 (by decide) hl27 ?_
      refine jr_goto jf_145_1560 ?_
      exact i517 _ _ _ _ _ _ _ _ _ _ _ _ _ _ _ _ _ _ _ _ _ _ _ _ _ _ _ _ _ (jg1_ne rfl hl1) (jg1_ne rfl hl2) (jg1_ne rfl hl3) (jg1_ne rfl hl4) (jg1_ne rfl hl5) (jg1_ne rfl hl6) (jg1_ne rfl hl7) (jg1_ne rfl hl8) (jg1_ne rfl hl9) (jg1_ne rfl hl10) (jg1_ne rfl hl11) (jg1_ne rfl hl12) (jg1_ne rfl hl13) (jg1_ne rfl hl15) (jg1_ne rfl hl17) (jg1_ne rfl hl18) (jg1_ne rfl hl19) (jg1_ne rfl hl20) (jg1_ne rfl hl21) (jg1_ne rfl hl22) (jg1_ne rfl hl23) (jg1_ne rfl hl24) (jg1_ne rfl hl25) (jg1_pre (by first | rfl | exact rv_cat _) hl26) jg1_same h
    · refine jr_if2_ge_f jf_145_1488 hc ?_
      refine jr_iload jf_145_1491 hl10 ?_
      replace h := ite_or h; rcases h with ⟨hc, h⟩ | ⟨hc, h⟩
      · refine jr_ifz_eq_f jf_145_1493 hc ?_
        refine jr_aload_n jf_145_1496 rfl hl2 ?_
        refine jr_iload jf_145_1497 hl32 ?_
        refine jr_iconst jf_145_1499 jc_i_5 ?_
        replace h := jgd_of h; obtain ⟨hb1, h⟩ := h
        replace h := obd_of h; obtain ⟨x2, hx2, h⟩ := h
        refine jr_V6_2 jf_145_1500 hb1 (by omega) (r_B_about (by omega) _ _ _ _ _ hx2) (Nat.le_of_ble_eq_true rfl) jml_25 (Nat.le_of_ble_eq_true rfl) ?_
        refine jr_aload jf_145_1503 hl21 ?_
        refine jr_iload jf_145_1505 hl32 ?_
        replace h := obd_of h; obtain ⟨x3, hx3, h⟩ := h
        refine jr_iaload jf_145_1507 hx3 ?_
        replace h := ite_or h; rcases h with ⟨hc, h⟩ | ⟨hc, h⟩
        · refine jr_if2_ne_f jf_145_1508 hc ?_
          refine jr_aload_n jf_145_1511 rfl hl2 ?_
          refine jr_iload jf_145_1512 hl32 ?_
          refine jr_bipush jf_145_1514 jc_b_6 ?_
          replace h := jgd_of h; obtain ⟨hb4, h⟩ := h
          replace h := obd_of h; obtain ⟨x5, hx5, h⟩ := h
          refine jr_V6_2 jf_145_1516 hb4 (by omega) (r_B_about (by omega) _ _ _ _ _ hx5) (Nat.le_of_ble_eq_true rfl) jml_25 (Nat.le_of_ble_eq_true rfl) ?_
          refine jr_aload jf_145_1519 hl22 ?_
          refine jr_iload jf_145_1521 hl32 ?_
          replace h := obd_of h; obtain ⟨x6, hx6, h⟩ := h
          refine jr_iaload jf_145_1523 hx6 ?_
          replace h := ite_or h; rcases h with ⟨hc, h⟩ | ⟨hc, h⟩
          · refine jr_if2_ne_f jf_145_1524 hc ?_
            refine jr_aload_n jf_145_1527 rfl hl2 ?_
            refine jr_iload jf_145_1528 hl32 ?_
            refine jr_bipush jf_145_1530 jc_b_100 ?_
            replace h := jgd_of h; obtain ⟨hb7, h⟩ := h
            replace h := obd_of h; obtain ⟨x8, hx8, h⟩ := h
            refine jr_V6_2 jf_145_1532 hb7 (by omega) (r_B_state (by omega) _ _ _ _ _ hx8) (Nat.le_of_ble_eq_true rfl) jml_22 (Nat.le_of_ble_eq_true rfl) ?_
            refine jr_aload jf_145_1535 hl20 ?_
            refine jr_iload jf_145_1537 hl32 ?_
            replace h := obd_of h; obtain ⟨x9, hx9, h⟩ := h
            refine jr_laload jf_145_1539 hx9 ?_
            refine jr_lcmp jf_145_1540 ?_
            replace h := ite_or h; rcases h with ⟨hc, h⟩ | ⟨hc, h⟩
            · refine jr_ifl_ne_f jf_145_1541 hc ?_
              refine jr_iconst jf_145_1544 jc_i_1 ?_
              refine jr_goto jf_145_1545 ?_
              exact r_L_law_1549 hd i517 ih _ _ _ _ _ _ _ _ _ _ _ _ _ _ _ _ _ _ _ _ _ _ _ _ _ _ true _ _ _ hl1 hl2 hl3 hl4 hl5 hl6 hl7 hl8 hl9 hl11 hl12 hl13 hl15 hl17 hl18 hl19 hl20 hl21 hl22 hl23 hl24 hl25 hl26 hl27 hl32 h
            · refine jr_ifl_ne_t jf_145_1541 hc ?_
              exact r_L_law_1548 hd i517 ih _ _ _ _ _ _ _ _ _ _ _ _ _ _ _ _ _ _ _ _ _ _ _ _ _ _ _ _ _ hl1 hl2 hl3 hl4 hl5 hl6 hl7 hl8 hl9 hl11 hl12 hl13 hl15 hl17 hl18 hl19 hl20 hl21 hl22 hl23 hl24 hl25 hl26 hl27 hl32 h
          · refine jr_if2_ne_t jf_145_1524 hc ?_
            exact r_L_law_1548 hd i517 ih _ _ _ _ _ _ _ _ _ _ _ _ _ _ _ _ _ _ _ _ _ _ _ _ _ _ _ _ _ hl1 hl2 hl3 hl4 hl5 hl6 hl7 hl8 hl9 hl11 hl12 hl13 hl15 hl17 hl18 hl19 hl20 hl21 hl22 hl23 hl24 hl25 hl26 hl27 hl32 h
        · refine jr_if2_ne_t jf_145_1508 hc ?_
          exact r_L_law_1548 hd i517 ih _ _ _ _ _ _ _ _ _ _ _ _ _ _ _ _ _ _ _ _ _ _ _ _ _ _ _ _ _ hl1 hl2 hl3 hl4 hl5 hl6 hl7 hl8 hl9 hl11 hl12 hl13 hl15 hl17 hl18 hl19 hl20 hl21 hl22 hl23 hl24 hl25 hl26 hl27 hl32 h
      · refine jr_ifz_eq_t jf_145_1493 hc ?_
        exact r_L_law_1548 hd i517 ih _ _ _ _ _ _ _ _ _ _ _ _ _ _ _ _ _ _ _ _ _ _ _ _ _ _ _ _ _ hl1 hl2 hl3 hl4 hl5 hl6 hl7 hl8 hl9 hl11 hl12 hl13 hl15 hl17 hl18 hl19 hl20 hl21 hl22 hl23 hl24 hl25 hl26 hl27 hl32 h
set_option maxRecDepth 10000 in
set_option maxHeartbeats 4000000 in
theorem r_L_law_1480 {N M B : Nat} {SA : Nat → Nat} {d : Nat} (hd : M + 8 ≤ d) {k517 : Nat → Nat → Int32 → Nat → Nat → Nat → Nat → Nat → Nat → Bool → Int32 → Int32 → Int64 → Int64 → Nat → Nat → Nat → Nat → Nat → Nat → Nat → Int32 → Int32 → Nat → Int32 → JMem → Option (Bool × JMem)} (i517 : ∀ (L : JLoc) (v1 : Nat) (v2 : Nat) (v3 : Int32) (v4 : Nat) (v5 : Nat) (v6 : Nat) (v7 : Nat) (v8 : Nat) (v9 : Nat) (v10 : Bool) (v11 : Int32) (v12 : Int32) (v13 : Int64) (v15 : Int64) (v17 : Nat) (v18 : Nat) (v19 : Nat) (v20 : Nat) (v21 : Nat) (v22 : Nat) (v23 : Nat) (v24 : Int32) (v25 : Int32) (v26 : Nat) (v27 : Int32) (μ : JMem) (r : Bool) (μ9 : JMem), jget L 1 = .ref v1 → jget L 2 = .ref v2 → jget L 3 = .int v3 → jget L 4 = .ref v4 → jget L 5 = .ref v5 → jget L 6 = .ref v6 → jget L 7 = .ref v7 → jget L 8 = .ref v8 → jget L 9 = .ref v9 → jget L 10 = .int (jb v10) → jget L 11 = .int v11 → jget L 12 = .int v12 → jget L 13 = .long v13 → jget L 15 = .long v15 → jget L 17 = .ref v17 → jget L 18 = .ref v18 → jget L 19 = .ref v19 → jget L 20 = .ref v20 → jget L 21 = .ref v21 → jget L 22 = .ref v22 → jget L 23 = .ref v23 → jget L 24 = .int v24 → jget L 25 = .int v25 → jget L 26 = .ref v26 → jget L 27 = .int v27 → k517 v1 v2 v3 v4 v5 v6 v7 v8 v9 v10 v11 v12 v13 v15 v17 v18 v19 v20 v21 v22 v23 v24 v25 v26 v27 μ = some (r, μ9) → jR B SA d m_L_law 517 L [] μ (some (.int (jb r))) μ9) : ∀ (L : JLoc) (v1 : Nat) (v2 : Nat) (v3 : Int32) (v4 : Nat) (v5 : Nat) (v6 : Nat) (v7 : Nat) (v8 : Nat) (v9 : Nat) (v11 : Int32) (v12 : Int32) (v13 : Int64) (v15 : Int64) (v17 : Nat) (v18 : Nat) (v19 : Nat) (v20 : Nat) (v21 : Nat) (v22 : Nat) (v23 : Nat) (v24 : Int32) (v25 : Int32) (v26 : Nat) (v27 : Int32) (s0 : Bool) (μ : JMem) (r : Bool) (μ9 : JMem), jget L 1 = .ref v1 → jget L 2 = .ref v2 → jget L 3 = .int v3 → jget L 4 = .ref v4 → jget L 5 = .ref v5 → jget L 6 = .ref v6 → jget L 7 = .ref v7 → jget L 8 = .ref v8 → jget L 9 = .ref v9 → jget L 11 = .int v11 → jget L 12 = .int v12 → jget L 13 = .long v13 → jget L 15 = .long v15 → jget L 17 = .ref v17 → jget L 18 = .ref v18 → jget L 19 = .ref v19 → jget L 20 = .ref v20 → jget L 21 = .ref v21 → jget L 22 = .ref v22 → jget L 23 = .ref v23 → jget L 24 = .int v24 → jget L 25 = .int v25 → jget L 26 = .ref v26 → jget L 27 = .int v27 → g_L_law_1480 N M B SA k517 v1 v2 v3 v4 v5 v6 v7 v8 v9 v11 v12 v13 v15 v17 v18 v19 v20 v21 v22 v23 v24 v25 v26 v27 s0 μ = some (r, μ9) → jR B SA d m_L_law 1480 L [.int (jb s0)] μ (some (.int (jb r))) μ9 := by
  intro L v1 v2 v3 v4 v5 v6 v7 v8 v9 v11 v12 v13 v15 v17 v18 v19 v20 v21 v22 v23 v24 v25 v26 v27 s0 μ r μ9 hl1 hl2 hl3 hl4 hl5 hl6 hl7 hl8 hl9 hl11 hl12 hl13 hl15 hl17 hl18 hl19 hl20 hl21 hl22 hl23 hl24 hl25 hl26 hl27 h
  unfold g_L_law_1480 at h
  refine jr_istore jf_145_1480 jml_145 (by decide) ?_
  refine jr_iconst jf_145_1482 jc_i_0 ?_
  refine jr_istore jf_145_1483 jml_145 (by decide) ?_
  exact r_L_law_1485 hd i517 _ _ _ _ _ _ _ _ _ _ _ _ _ _ _ _ _ _ _ _ _ _ _ _ _ _ _ _ _ _ _ (jg1_ne rfl (jg1_ne rfl hl1)) (jg1_ne rfl (jg1_ne rfl hl2)) (jg1_ne rfl (jg1_ne rfl hl3)) (jg1_ne rfl (jg1_ne rfl hl4)) (jg1_ne rfl (jg1_ne rfl hl5)) (jg1_ne rfl (jg1_ne rfl hl6)) (jg1_ne rfl (jg1_ne rfl hl7)) (jg1_ne rfl (jg1_ne rfl hl8)) (jg1_ne rfl (jg1_pre (by first | rfl | exact rv_cat _) hl9)) (jg1_ne rfl jg1_same) (jg1_ne rfl (jg1_ne rfl hl11)) (jg1_ne rfl (jg1_ne rfl hl12)) (jg1_ne rfl (jg1_ne rfl hl13)) (jg1_ne rfl (jg1_ne rfl hl15)) (jg1_ne rfl (jg1_ne rfl hl17)) (jg1_ne rfl (jg1_ne rfl hl18)) (jg1_ne rfl (jg1_ne rfl hl19)) (jg1_ne rfl (jg1_ne rfl hl20)) (jg1_ne rfl (jg1_ne rfl hl21)) (jg1_ne rfl (jg1_ne rfl hl22)) (jg1_ne rfl (jg1_ne rfl hl23)) (jg1_ne rfl (jg1_ne rfl hl24)) (jg1_ne rfl (jg1_ne rfl hl25)) (jg1_ne rfl (jg1_ne rfl hl26)) (jg1_ne rfl (jg1_ne rfl hl27)) jg1_same h
set_option maxRecDepth 10000 in
set_option maxHeartbeats 4000000 in
theorem r_L_law_1479 {N M B : Nat} {SA : Nat → Nat} {d : Nat} (hd : M + 8 ≤ d) {k517 : Nat → Nat → Int32 → Nat → Nat → Nat → Nat → Nat → Nat → Bool → Int32 → Int32 → Int64 → Int64 → Nat → Nat → Nat → Nat → Nat → Nat → Nat → Int32 → Int32 → Nat → Int32 → JMem → Option (Bool × JMem)} (i517 : ∀ (L : JLoc) (v1 : Nat) (v2 : Nat) (v3 : Int32) (v4 : Nat) (v5 : Nat) (v6 : Nat) (v7 : Nat) (v8 : Nat) (v9 : Nat) (v10 : Bool) (v11 : Int32) (v12 : Int32) (v13 : Int64) (v15 : Int64) (v17 : Nat) (v18 : Nat) (v19 : Nat) (v20 : Nat) (v21 : Nat) (v22 : Nat) (v23 : Nat) (v24 : Int32) (v25 : Int32) (v26 : Nat) (v27 : Int32) (μ : JMem) (r : Bool) (μ9 : JMem), jget L 1 = .ref v1 → jget L 2 = .ref v2 → jget L 3 = .int v3 → jget L 4 = .ref v4 → jget L 5 = .ref v5 → jget L 6 = .ref v6 → jget L 7 = .ref v7 → jget L 8 = .ref v8 → jget L 9 = .ref v9 → jget L 10 = .int (jb v10) → jget L 11 = .int v11 → jget L 12 = .int v12 → jget L 13 = .long v13 → jget L 15 = .long v15 → jget L 17 = .ref v17 → jget L 18 = .ref v18 → jget L 19 = .ref v19 → jget L 20 = .ref v20 → jget L 21 = .ref v21 → jget L 22 = .ref v22 → jget L 23 = .ref v23 → jget L 24 = .int v24 → jget L 25 = .int v25 → jget L 26 = .ref v26 → jget L 27 = .int v27 → k517 v1 v2 v3 v4 v5 v6 v7 v8 v9 v10 v11 v12 v13 v15 v17 v18 v19 v20 v21 v22 v23 v24 v25 v26 v27 μ = some (r, μ9) → jR B SA d m_L_law 517 L [] μ (some (.int (jb r))) μ9) : ∀ (L : JLoc) (v1 : Nat) (v2 : Nat) (v3 : Int32) (v4 : Nat) (v5 : Nat) (v6 : Nat) (v7 : Nat) (v8 : Nat) (v9 : Nat) (v11 : Int32) (v12 : Int32) (v13 : Int64) (v15 : Int64) (v17 : Nat) (v18 : Nat) (v19 : Nat) (v20 : Nat) (v21 : Nat) (v22 : Nat) (v23 : Nat) (v24 : Int32) (v25 : Int32) (v26 : Nat) (v27 : Int32) (μ : JMem) (r : Bool) (μ9 : JMem), jget L 1 = .ref v1 → jget L 2 = .ref v2 → jget L 3 = .int v3 → jget L 4 = .ref v4 → jget L 5 = .ref v5 → jget L 6 = .ref v6 → jget L 7 = .ref v7 → jget L 8 = .ref v8 → jget L 9 = .ref v9 → jget L 11 = .int v11 → jget L 12 = .int v12 → jget L 13 = .long v13 → jget L 15 = .long v15 → jget L 17 = .ref v17 → jget L 18 = .ref v18 → jget L 19 = .ref v19 → jget L 20 = .ref v20 → jget L 21 = .ref v21 → jget L 22 = .ref v22 → jget L 23 = .ref v23 → jget L 24 = .int v24 → jget L 25 = .int v25 → jget L 26 = .ref v26 → jget L 27 = .int v27 → g_L_law_1479 N M B SA k517 v1 v2 v3 v4 v5 v6 v7 v8 v9 v11 v12 v13 v15 v17 v18 v19 v20 v21 v22 v23 v24 v25 v26 v27 μ = some (r, μ9) → jR B SA d m_L_law 1479 L [] μ (some (.int (jb r))) μ9 := by
  intro L v1 v2 v3 v4 v5 v6 v7 v8 v9 v11 v12 v13 v15 v17 v18 v19 v20 v21 v22 v23 v24 v25 v26 v27 μ r μ9 hl1 hl2 hl3 hl4 hl5 hl6 hl7 hl8 hl9 hl11 hl12 hl13 hl15 hl17 hl18 hl19 hl20 hl21 hl22 hl23 hl24 hl25 hl26 hl27 h
  unfold g_L_law_1479 at h
  refine jr_iconst jf_145_1479 jc_i_0 ?_
  exact r_L_law_1480 hd i517 _ _ _ _ _ _ _ _ _ _ _ _ _ _ _ _ _ _ _ _ _ _ _ _ _ false _ _ _ hl1 hl2 hl3 hl4 hl5 hl6 hl7 hl8 hl9 hl11 hl12 hl13 hl15 hl17 hl18 hl19 hl20 hl21 hl22 hl23 hl24 hl25 hl26 hl27 h
set_option maxRecDepth 10000 in
set_option maxHeartbeats 4000000 in
theorem r_L_law_553 {N M B : Nat} {SA : Nat → Nat} {d : Nat} (hd : M + 8 ≤ d) {k517 : Nat → Nat → Int32 → Nat → Nat → Nat → Nat → Nat → Nat → Bool → Int32 → Int32 → Int64 → Int64 → Nat → Nat → Nat → Nat → Nat → Nat → Nat → Int32 → Int32 → Nat → Int32 → JMem → Option (Bool × JMem)} (i517 : ∀ (L : JLoc) (v1 : Nat) (v2 : Nat) (v3 : Int32) (v4 : Nat) (v5 : Nat) (v6 : Nat) (v7 : Nat) (v8 : Nat) (v9 : Nat) (v10 : Bool) (v11 : Int32) (v12 : Int32) (v13 : Int64) (v15 : Int64) (v17 : Nat) (v18 : Nat) (v19 : Nat) (v20 : Nat) (v21 : Nat) (v22 : Nat) (v23 : Nat) (v24 : Int32) (v25 : Int32) (v26 : Nat) (v27 : Int32) (μ : JMem) (r : Bool) (μ9 : JMem), jget L 1 = .ref v1 → jget L 2 = .ref v2 → jget L 3 = .int v3 → jget L 4 = .ref v4 → jget L 5 = .ref v5 → jget L 6 = .ref v6 → jget L 7 = .ref v7 → jget L 8 = .ref v8 → jget L 9 = .ref v9 → jget L 10 = .int (jb v10) → jget L 11 = .int v11 → jget L 12 = .int v12 → jget L 13 = .long v13 → jget L 15 = .long v15 → jget L 17 = .ref v17 → jget L 18 = .ref v18 → jget L 19 = .ref v19 → jget L 20 = .ref v20 → jget L 21 = .ref v21 → jget L 22 = .ref v22 → jget L 23 = .ref v23 → jget L 24 = .int v24 → jget L 25 = .int v25 → jget L 26 = .ref v26 → jget L 27 = .int v27 → k517 v1 v2 v3 v4 v5 v6 v7 v8 v9 v10 v11 v12 v13 v15 v17 v18 v19 v20 v21 v22 v23 v24 v25 v26 v27 μ = some (r, μ9) → jR B SA d m_L_law 517 L [] μ (some (.int (jb r))) μ9) : ∀ (n : Nat), ∀ (L : JLoc) (v1 : Nat) (v2 : Nat) (v3 : Int32) (v4 : Nat) (v5 : Nat) (v6 : Nat) (v7 : Nat) (v8 : Nat) (v9 : Nat) (v11 : Int32) (v12 : Int32) (v13 : Int64) (v15 : Int64) (v17 : Nat) (v18 : Nat) (v19 : Nat) (v20 : Nat) (v21 : Nat) (v22 : Nat) (v23 : Nat) (v24 : Int32) (v25 : Int32) (v26 : Nat) (v27 : Int32) (v28 : Int64) (v30 : Int64) (v32 : Int32) (μ : JMem) (r : Bool) (μ9 : JMem), jget L 1 = .ref v1 → jget L 2 = .ref v2 → jget L 3 = .int v3 → jget L 4 = .ref v4 → jget L 5 = .ref v5 → jget L 6 = .ref v6 → jget L 7 = .ref v7 → jget L 8 = .ref v8 → jget L 9 = .ref v9 → jget L 11 = .int v11 → jget L 12 = .int v12 → jget L 13 = .long v13 → jget L 15 = .long v15 → jget L 17 = .ref v17 → jget L 18 = .ref v18 → jget L 19 = .ref v19 → jget L 20 = .ref v20 → jget L 21 = .ref v21 → jget L 22 = .ref v22 → jget L 23 = .ref v23 → jget L 24 = .int v24 → jget L 25 = .int v25 → jget L 26 = .ref v26 → jget L 27 = .int v27 → jget L 28 = .long v28 → jget L 30 = .long v30 → jget L 32 = .int v32 → g_L_law_553 N M B SA k517 n v1 v2 v3 v4 v5 v6 v7 v8 v9 v11 v12 v13 v15 v17 v18 v19 v20 v21 v22 v23 v24 v25 v26 v27 v28 v30 v32 μ = some (r, μ9) → jR B SA d m_L_law 553 L [] μ (some (.int (jb r))) μ9 := by
  intro n
  induction n with
  | zero =>
    intro L v1 v2 v3 v4 v5 v6 v7 v8 v9 v11 v12 v13 v15 v17 v18 v19 v20 v21 v22 v23 v24 v25 v26 v27 v28 v30 v32 μ r μ9 hl1 hl2 hl3 hl4 hl5 hl6 hl7 hl8 hl9 hl11 hl12 hl13 hl15 hl17 hl18 hl19 hl20 hl21 hl22 hl23 hl24 hl25 hl26 hl27 hl28 hl30 hl32 h
    unfold g_L_law_553 at h
    cases h
  | succ n ih =>
    intro L v1 v2 v3 v4 v5 v6 v7 v8 v9 v11 v12 v13 v15 v17 v18 v19 v20 v21 v22 v23 v24 v25 v26 v27 v28 v30 v32 μ r μ9 hl1 hl2 hl3 hl4 hl5 hl6 hl7 hl8 hl9 hl11 hl12 hl13 hl15 hl17 hl18 hl19 hl20 hl21 hl22 hl23 hl24 hl25 hl26 hl27 hl28 hl30 hl32 h
    unfold g_L_law_553 at h
    refine jr_iload jf_145_553 hl32 ?_
    refine jr_iload_n jf_145_555 rfl hl3 ?_
    replace h := ite_or h; rcases h with ⟨hc, h⟩ | ⟨hc, h⟩
    · refine jr_if2_ge_t jf_145_556 hc ?_
      refine jr_aload jf_145_1427 hl23 ?_
      refine jr_iload jf_145_1429 hl24 ?_
      refine jr_lload jf_145_1431 hl28 ?_
      replace h := obd_of h; obtain ⟨μ1, hμ1, h⟩ := h
      refine jr_lastore jf_145_1433 hμ1 ?_
      refine jr_iload jf_145_1434 hl24 ?_
      refine jr_iconst jf_145_1436 jc_i_1 ?_
      refine jr_iadd jf_145_1437 ?_
      refine jr_iload jf_145_1438 hl11 ?_
      replace h := obd_of h; obtain ⟨x2, hx2, h⟩ := h
      refine jr_irem jf_145_1440 hx2 ?_
      refine jr_istore jf_145_1441 jml_145 (by decide) ?_
      refine jr_aload jf_145_1443 (jg1_ne rfl hl26) ?_
      refine jr_iload jf_145_1445 (jg1_ne rfl hl27) ?_
      refine jr_lload jf_145_1447 (jg1_ne rfl hl28) ?_
      refine jr_l2i jf_145_1449 ?_
      replace h := obd_of h; obtain ⟨μ3, hμ3, h⟩ := h
      refine jr_iastore jf_145_1450 hμ3 ?_
      refine jr_aload_n jf_145_1451 rfl (jg1_ne rfl hl2) ?_
      refine jr_iconst jf_145_1452 jc_i_0 ?_
      refine jr_lload jf_145_1453 (jg1_ne rfl hl30) ?_
      replace h := jgd_of h; obtain ⟨hb4, h⟩ := h
      replace h := jbd2_of h; obtain ⟨x5, μ6, hx5, h⟩ := h
      refine jr_V6_2 jf_145_1455 hb4 (by omega) (r_B_feed (by omega) _ _ _ _ _ _ hx5) (Nat.le_of_ble_eq_true rfl) jml_46 (Nat.le_of_ble_eq_true rfl) ?_
      refine jr_iconst jf_145_1458 jc_i_1 ?_
      replace h := ite_or h; rcases h with ⟨hc, h⟩ | ⟨hc, h⟩
      · refine jr_if2_ne_f jf_145_1459 hc ?_
        refine jr_aload_n jf_145_1462 rfl (jg1_ne rfl hl2) ?_
        refine jr_iconst jf_145_1463 jc_i_0 ?_
        refine jr_iload jf_145_1464 (jg1_ne rfl hl27) ?_
        replace h := jgd_of h; obtain ⟨hb7, h⟩ := h
        replace h := obd_of h; obtain ⟨x8, hx8, h⟩ := h
        refine jr_V6_2 jf_145_1466 hb7 (by omega) (r_B_output (by omega) _ _ _ _ _ hx8) (Nat.le_of_ble_eq_true rfl) jml_105 (Nat.le_of_ble_eq_true rfl) ?_
        refine jr_lload jf_145_1469 (jg1_ne rfl hl28) ?_
        refine jr_lcmp jf_145_1471 ?_
        replace h := ite_or h; rcases h with ⟨hc, h⟩ | ⟨hc, h⟩
        · refine jr_ifl_ne_f jf_145_1472 hc ?_
          refine jr_iconst jf_145_1475 jc_i_1 ?_
          refine jr_goto jf_145_1476 ?_
          exact r_L_law_1480 hd i517 _ _ _ _ _ _ _ _ _ _ _ _ _ _ _ _ _ _ _ _ _ _ _ _ _ true _ _ _ (jg1_ne rfl hl1) (jg1_ne rfl hl2) (jg1_ne rfl hl3) (jg1_ne rfl hl4) (jg1_ne rfl hl5) (jg1_ne rfl hl6) (jg1_ne rfl hl7) (jg1_ne rfl hl8) (jg1_ne rfl hl9) (jg1_ne rfl hl11) (jg1_ne rfl hl12) (jg1_ne rfl hl13) (jg1_ne rfl hl15) (jg1_ne rfl hl17) (jg1_ne rfl hl18) (jg1_ne rfl hl19) (jg1_ne rfl hl20) (jg1_ne rfl hl21) (jg1_ne rfl hl22) (jg1_pre (by first | rfl | exact rv_cat _) hl23) jg1_same (jg1_ne rfl hl25) (jg1_ne rfl hl26) (jg1_ne rfl hl27) h
        · refine jr_ifl_ne_t jf_145_1472 hc ?_
          exact r_L_law_1479 hd i517 _ _ _ _ _ _ _ _ _ _ _ _ _ _ _ _ _ _ _ _ _ _ _ _ _ _ _ _ (jg1_ne rfl hl1) (jg1_ne rfl hl2) (jg1_ne rfl hl3) (jg1_ne rfl hl4) (jg1_ne rfl hl5) (jg1_ne rfl hl6) (jg1_ne rfl hl7) (jg1_ne rfl hl8) (jg1_ne rfl hl9) (jg1_ne rfl hl11) (jg1_ne rfl hl12) (jg1_ne rfl hl13) (jg1_ne rfl hl15) (jg1_ne rfl hl17) (jg1_ne rfl hl18) (jg1_ne rfl hl19) (jg1_ne rfl hl20) (jg1_ne rfl hl21) (jg1_ne rfl hl22) (jg1_pre (by first | rfl | exact rv_cat _) hl23) jg1_same (jg1_ne rfl hl25) (jg1_ne rfl hl26) (jg1_ne rfl hl27) h
      · refine jr_if2_ne_t jf_145_1459 hc ?_
        exact r_L_law_1479 hd i517 _ _ _ _ _ _ _ _ _ _ _ _ _ _ _ _ _ _ _ _ _ _ _ _ _ _ _ _ (jg1_ne rfl hl1) (jg1_ne rfl hl2) (jg1_ne rfl hl3) (jg1_ne rfl hl4) (jg1_ne rfl hl5) (jg1_ne rfl hl6) (jg1_ne rfl hl7) (jg1_ne rfl hl8) (jg1_ne rfl hl9) (jg1_ne rfl hl11) (jg1_ne rfl hl12) (jg1_ne rfl hl13) (jg1_ne rfl hl15) (jg1_ne rfl hl17) (jg1_ne rfl hl18) (jg1_ne rfl hl19) (jg1_ne rfl hl20) (jg1_ne rfl hl21) (jg1_ne rfl hl22) (jg1_pre (by first | rfl | exact rv_cat _) hl23) jg1_same (jg1_ne rfl hl25) (jg1_ne rfl hl26) (jg1_ne rfl hl27) h
    · refine jr_if2_ge_f jf_145_556 hc ?_
      refine jr_iload jf_145_559 hl32 ?_
      replace h := ite_or h; rcases h with ⟨hc, h⟩ | ⟨hc, h⟩
      · refine jr_if_ne_f jf_145_561 hc ?_
        refine jr_iconst jf_145_564 jc_i_2 ?_
        refine jr_goto jf_145_565 ?_
        exact r_L_law_569 hd i517 ih _ _ _ _ _ _ _ _ _ _ _ _ _ _ _ _ _ _ _ _ _ _ _ _ _ _ _ _ _ _ _ _ hl1 hl2 hl3 hl4 hl5 hl6 hl7 hl8 hl9 hl11 hl12 hl13 hl15 hl17 hl18 hl19 hl20 hl21 hl22 hl23 hl24 hl25 hl26 hl27 hl28 hl30 hl32 h
      · refine jr_if_ne_t jf_145_561 hc ?_
        refine jr_iconst jf_145_568 jc_i_0 ?_
        exact r_L_law_569 hd i517 ih _ _ _ _ _ _ _ _ _ _ _ _ _ _ _ _ _ _ _ _ _ _ _ _ _ _ _ _ _ _ _ _ hl1 hl2 hl3 hl4 hl5 hl6 hl7 hl8 hl9 hl11 hl12 hl13 hl15 hl17 hl18 hl19 hl20 hl21 hl22 hl23 hl24 hl25 hl26 hl27 hl28 hl30 hl32 h
set_option maxRecDepth 10000 in
set_option maxHeartbeats 4000000 in
theorem r_L_law_1755 {N M B : Nat} {SA : Nat → Nat} {d : Nat} (hd : M + 8 ≤ d) {k1638 : Nat → Nat → Int32 → Nat → Nat → Nat → Bool → Nat → Int32 → JMem → Option (Bool × JMem)} (i1638 : ∀ (L : JLoc) (v1 : Nat) (v2 : Nat) (v3 : Int32) (v4 : Nat) (v5 : Nat) (v6 : Nat) (v10 : Bool) (v26 : Nat) (v27 : Int32) (μ : JMem) (r : Bool) (μ9 : JMem), jget L 1 = .ref v1 → jget L 2 = .ref v2 → jget L 3 = .int v3 → jget L 4 = .ref v4 → jget L 5 = .ref v5 → jget L 6 = .ref v6 → jget L 10 = .int (jb v10) → jget L 26 = .ref v26 → jget L 27 = .int v27 → k1638 v1 v2 v3 v4 v5 v6 v10 v26 v27 μ = some (r, μ9) → jR B SA d m_L_law 1638 L [] μ (some (.int (jb r))) μ9) : ∀ (L : JLoc) (v1 : Nat) (v2 : Nat) (v3 : Int32) (v4 : Nat) (v5 : Nat) (v6 : Nat) (v26 : Nat) (v27 : Int32) (s0 : Bool) (μ : JMem) (r : Bool) (μ9 : JMem), jget L 1 = .ref v1 → jget L 2 = .ref v2 → jget L 3 = .int v3 → jget L 4 = .ref v4 → jget L 5 = .ref v5 → jget L 6 = .ref v6 → jget L 26 = .ref v26 → jget L 27 = .int v27 → g_L_law_1755 N M B SA k1638 v1 v2 v3 v4 v5 v6 v26 v27 s0 μ = some (r, μ9) → jR B SA d m_L_law 1755 L [.int (jb s0)] μ (some (.int (jb r))) μ9 := by
  intro L v1 v2 v3 v4 v5 v6 v26 v27 s0 μ r μ9 hl1 hl2 hl3 hl4 hl5 hl6 hl26 hl27 h
  unfold g_L_law_1755 at h
  refine jr_istore jf_145_1755 jml_145 (by decide) ?_
  refine jr_iinc jf_145_1757 jc_i_1 jml_145 (by decide) (jg1_ne rfl hl27) ?_
  refine jr_goto jf_145_1760 ?_
  exact i1638 _ _ _ _ _ _ _ _ _ _ _ _ _ (jg1_ne rfl (jg1_ne rfl hl1)) (jg1_ne rfl (jg1_ne rfl hl2)) (jg1_ne rfl (jg1_ne rfl hl3)) (jg1_ne rfl (jg1_ne rfl hl4)) (jg1_ne rfl (jg1_ne rfl hl5)) (jg1_ne rfl (jg1_ne rfl hl6)) (jg1_ne rfl jg1_same) (jg1_pre (by first | rfl | exact rv_cat _) (jg1_ne rfl hl26)) jg1_same h
set_option maxRecDepth 10000 in
set_option maxHeartbeats 4000000 in
theorem r_L_law_1754 {N M B : Nat} {SA : Nat → Nat} {d : Nat} (hd : M + 8 ≤ d) {k1638 : Nat → Nat → Int32 → Nat → Nat → Nat → Bool → Nat → Int32 → JMem → Option (Bool × JMem)} (i1638 : ∀ (L : JLoc) (v1 : Nat) (v2 : Nat) (v3 : Int32) (v4 : Nat) (v5 : Nat) (v6 : Nat) (v10 : Bool) (v26 : Nat) (v27 : Int32) (μ : JMem) (r : Bool) (μ9 : JMem), jget L 1 = .ref v1 → jget L 2 = .ref v2 → jget L 3 = .int v3 → jget L 4 = .ref v4 → jget L 5 = .ref v5 → jget L 6 = .ref v6 → jget L 10 = .int (jb v10) → jget L 26 = .ref v26 → jget L 27 = .int v27 → k1638 v1 v2 v3 v4 v5 v6 v10 v26 v27 μ = some (r, μ9) → jR B SA d m_L_law 1638 L [] μ (some (.int (jb r))) μ9) : ∀ (L : JLoc) (v1 : Nat) (v2 : Nat) (v3 : Int32) (v4 : Nat) (v5 : Nat) (v6 : Nat) (v26 : Nat) (v27 : Int32) (μ : JMem) (r : Bool) (μ9 : JMem), jget L 1 = .ref v1 → jget L 2 = .ref v2 → jget L 3 = .int v3 → jget L 4 = .ref v4 → jget L 5 = .ref v5 → jget L 6 = .ref v6 → jget L 26 = .ref v26 → jget L 27 = .int v27 → g_L_law_1754 N M B SA k1638 v1 v2 v3 v4 v5 v6 v26 v27 μ = some (r, μ9) → jR B SA d m_L_law 1754 L [] μ (some (.int (jb r))) μ9 := by
  intro L v1 v2 v3 v4 v5 v6 v26 v27 μ r μ9 hl1 hl2 hl3 hl4 hl5 hl6 hl26 hl27 h
  unfold g_L_law_1754 at h
  refine jr_iconst jf_145_1754 jc_i_0 ?_
  exact r_L_law_1755 hd i1638 _ _ _ _ _ _ _ _ _ false _ _ _ hl1 hl2 hl3 hl4 hl5 hl6 hl26 hl27 h
set_option maxRecDepth 10000 in
set_option maxHeartbeats 4000000 in
theorem r_L_law_1824 {N M B : Nat} {SA : Nat → Nat} {d : Nat} (hd : M + 8 ≤ d) {k1766 : Nat → Nat → Bool → Nat → Int32 → JMem → Option (Bool × JMem)} (i1766 : ∀ (L : JLoc) (v1 : Nat) (v2 : Nat) (v10 : Bool) (v26 : Nat) (v27 : Int32) (μ : JMem) (r : Bool) (μ9 : JMem), jget L 1 = .ref v1 → jget L 2 = .ref v2 → jget L 10 = .int (jb v10) → jget L 26 = .ref v26 → jget L 27 = .int v27 → k1766 v1 v2 v10 v26 v27 μ = some (r, μ9) → jR B SA d m_L_law 1766 L [] μ (some (.int (jb r))) μ9) : ∀ (L : JLoc) (v1 : Nat) (v2 : Nat) (v26 : Nat) (v27 : Int32) (s0 : Bool) (μ : JMem) (r : Bool) (μ9 : JMem), jget L 1 = .ref v1 → jget L 2 = .ref v2 → jget L 26 = .ref v26 → jget L 27 = .int v27 → g_L_law_1824 N M B SA k1766 v1 v2 v26 v27 s0 μ = some (r, μ9) → jR B SA d m_L_law 1824 L [.int (jb s0)] μ (some (.int (jb r))) μ9 := by
  intro L v1 v2 v26 v27 s0 μ r μ9 hl1 hl2 hl26 hl27 h
  unfold g_L_law_1824 at h
  refine jr_istore jf_145_1824 jml_145 (by decide) ?_
  refine jr_iinc jf_145_1826 jc_i_1 jml_145 (by decide) (jg1_ne rfl hl27) ?_
  refine jr_goto jf_145_1829 ?_
  exact i1766 _ _ _ _ _ _ _ _ _ (jg1_ne rfl (jg1_ne rfl hl1)) (jg1_ne rfl (jg1_ne rfl hl2)) (jg1_ne rfl jg1_same) (jg1_pre (by first | rfl | exact rv_cat _) (jg1_ne rfl hl26)) jg1_same h
set_option maxRecDepth 10000 in
set_option maxHeartbeats 4000000 in
theorem r_L_law_1823 {N M B : Nat} {SA : Nat → Nat} {d : Nat} (hd : M + 8 ≤ d) {k1766 : Nat → Nat → Bool → Nat → Int32 → JMem → Option (Bool × JMem)} (i1766 : ∀ (L : JLoc) (v1 : Nat) (v2 : Nat) (v10 : Bool) (v26 : Nat) (v27 : Int32) (μ : JMem) (r : Bool) (μ9 : JMem), jget L 1 = .ref v1 → jget L 2 = .ref v2 → jget L 10 = .int (jb v10) → jget L 26 = .ref v26 → jget L 27 = .int v27 → k1766 v1 v2 v10 v26 v27 μ = some (r, μ9) → jR B SA d m_L_law 1766 L [] μ (some (.int (jb r))) μ9) : ∀ (L : JLoc) (v1 : Nat) (v2 : Nat) (v26 : Nat) (v27 : Int32) (μ : JMem) (r : Bool) (μ9 : JMem), jget L 1 = .ref v1 → jget L 2 = .ref v2 → jget L 26 = .ref v26 → jget L 27 = .int v27 → g_L_law_1823 N M B SA k1766 v1 v2 v26 v27 μ = some (r, μ9) → jR B SA d m_L_law 1823 L [] μ (some (.int (jb r))) μ9 := by
  intro L v1 v2 v26 v27 μ r μ9 hl1 hl2 hl26 hl27 h
  unfold g_L_law_1823 at h
  refine jr_iconst jf_145_1823 jc_i_0 ?_
  exact r_L_law_1824 hd i1766 _ _ _ _ _ false _ _ _ hl1 hl2 hl26 hl27 h
set_option maxRecDepth 10000 in
set_option maxHeartbeats 4000000 in
theorem r_L_law_1832 {N M B : Nat} {SA : Nat → Nat} {d : Nat} (hd : M + 8 ≤ d) : ∀ (L : JLoc) (v2 : Nat) (v10 : Bool) (μ : JMem) (r : Bool) (μ9 : JMem), jget L 2 = .ref v2 → jget L 10 = .int (jb v10) → g_L_law_1832 N M B SA v2 v10 μ = some (r, μ9) → jR B SA d m_L_law 1832 L [] μ (some (.int (jb r))) μ9 := by
  intro L v2 v10 μ r μ9 hl2 hl10 h
  unfold g_L_law_1832 at h
  refine jr_iload jf_145_1832 hl10 ?_
  replace h := ite_or h; rcases h with ⟨hc, h⟩ | ⟨hc, h⟩
  · refine jr_ifz_eq_f jf_145_1834 hc ?_
    refine jr_aload_n jf_145_1837 rfl hl2 ?_
    refine jr_iconst jf_145_1838 jc_i_0 ?_
    replace h := jgd_of h; obtain ⟨hb1, h⟩ := h
    replace h := jbd2_of h; obtain ⟨x2, μ3, hx2, h⟩ := h
    refine jr_V6_1 jf_145_1839 hb1 (by omega) (r_B_back (by omega) _ _ _ _ _ hx2) (Nat.le_of_ble_eq_true rfl) jml_117 (Nat.le_of_ble_eq_true rfl) ?_
    replace h := ite_or h; rcases h with ⟨hc, h⟩ | ⟨hc, h⟩
    · refine jr_ifz_eq_f jf_145_1842 hc ?_
      refine jr_aload_n jf_145_1845 rfl hl2 ?_
      refine jr_iconst jf_145_1846 jc_i_0 ?_
      replace h := jgd_of h; obtain ⟨hb4, h⟩ := h
      replace h := jbd2_of h; obtain ⟨x5, μ6, hx5, h⟩ := h
      refine jr_V6_1 jf_145_1847 hb4 (by omega) (r_B_same (by omega) _ _ _ _ _ hx5) (Nat.le_of_ble_eq_true rfl) jml_124 (Nat.le_of_ble_eq_true rfl) ?_
      replace h := ite_or h; rcases h with ⟨hc, h⟩ | ⟨hc, h⟩
      · refine jr_ifz_eq_f jf_145_1850 hc ?_
        refine jr_iconst jf_145_1853 jc_i_1 ?_
        refine jr_goto jf_145_1854 ?_
        obtain ⟨rfl, rfl⟩ := Prod.mk.inj (Option.some.inj h)
        exact jr_retZ (x := true) jf_145_1858 jmt_145
      · refine jr_ifz_eq_t jf_145_1850 hc ?_
        refine jr_iconst jf_145_1857 jc_i_0 ?_
        obtain ⟨rfl, rfl⟩ := Prod.mk.inj (Option.some.inj h)
        exact jr_retZ (x := false) jf_145_1858 jmt_145
    · refine jr_ifz_eq_t jf_145_1842 hc ?_
      refine jr_iconst jf_145_1857 jc_i_0 ?_
      obtain ⟨rfl, rfl⟩ := Prod.mk.inj (Option.some.inj h)
      exact jr_retZ (x := false) jf_145_1858 jmt_145
  · refine jr_ifz_eq_t jf_145_1834 hc ?_
    refine jr_iconst jf_145_1857 jc_i_0 ?_
    obtain ⟨rfl, rfl⟩ := Prod.mk.inj (Option.some.inj h)
    exact jr_retZ (x := false) jf_145_1858 jmt_145
set_option maxRecDepth 10000 in
set_option maxHeartbeats 4000000 in
theorem r_L_law_1766 {N M B : Nat} {SA : Nat → Nat} {d : Nat} (hd : M + 8 ≤ d) : ∀ (n : Nat), ∀ (L : JLoc) (v1 : Nat) (v2 : Nat) (v10 : Bool) (v26 : Nat) (v27 : Int32) (μ : JMem) (r : Bool) (μ9 : JMem), jget L 1 = .ref v1 → jget L 2 = .ref v2 → jget L 10 = .int (jb v10) → jget L 26 = .ref v26 → jget L 27 = .int v27 → g_L_law_1766 N M B SA n v1 v2 v10 v26 v27 μ = some (r, μ9) → jR B SA d m_L_law 1766 L [] μ (some (.int (jb r))) μ9 := by
  intro n
  induction n with
  | zero =>
    intro L v1 v2 v10 v26 v27 μ r μ9 hl1 hl2 hl10 hl26 hl27 h
    unfold g_L_law_1766 at h
    cases h
  | succ n ih =>
    intro L v1 v2 v10 v26 v27 μ r μ9 hl1 hl2 hl10 hl26 hl27 h
    unfold g_L_law_1766 at h
    refine jr_iload jf_145_1766 hl27 ?_
    refine jr_bipush jf_145_1768 jc_b_40 ?_
    replace h := ite_or h; rcases h with ⟨hc, h⟩ | ⟨hc, h⟩
    · refine jr_if2_ge_t jf_145_1770 hc ?_
      exact r_L_law_1832 hd _ _ _ _ _ _ hl2 hl10 h
    · refine jr_if2_ge_f jf_145_1770 hc ?_
      refine jr_iload jf_145_1773 hl10 ?_
      replace h := ite_or h; rcases h with ⟨hc, h⟩ | ⟨hc, h⟩
      · refine jr_ifz_eq_f jf_145_1775 hc ?_
        refine jr_aload_n jf_145_1778 rfl hl2 ?_
        refine jr_iconst jf_145_1779 jc_i_2 ?_
        refine jr_aload_n jf_145_1780 rfl hl1 ?_
        refine jr_bipush jf_145_1781 jc_b_10 ?_
        refine jr_iload jf_145_1783 hl27 ?_
        refine jr_iadd jf_145_1785 ?_
        replace h := obd_of h; obtain ⟨x1, hx1, h⟩ := h
        refine jr_iaload jf_145_1786 hx1 ?_
        refine jr_iload jf_145_1787 hl27 ?_
        refine jr_bipush jf_145_1789 jc_b_7 ?_
        refine jr_iand jf_145_1791 ?_
        refine jr_ishr jf_145_1792 ?_
        refine jr_i2s jf_145_1793 ?_
        refine jr_i2l jf_145_1794 ?_
        replace h := jgd_of h; obtain ⟨hb2, h⟩ := h
        replace h := jbd2_of h; obtain ⟨x3, μ4, hx3, h⟩ := h
        refine jr_V6_2 jf_145_1795 hb2 (by omega) (r_B_feed (by omega) _ _ _ _ _ _ hx3) (Nat.le_of_ble_eq_true rfl) jml_46 (Nat.le_of_ble_eq_true rfl) ?_
        refine jr_iconst jf_145_1798 jc_i_1 ?_
        replace h := ite_or h; rcases h with ⟨hc, h⟩ | ⟨hc, h⟩
        · refine jr_if2_ne_f jf_145_1799 hc ?_
          refine jr_aload_n jf_145_1802 rfl hl2 ?_
          refine jr_iconst jf_145_1803 jc_i_2 ?_
          refine jr_iload jf_145_1804 hl27 ?_
          replace h := jgd_of h; obtain ⟨hb5, h⟩ := h
          replace h := obd_of h; obtain ⟨x6, hx6, h⟩ := h
          refine jr_V6_2 jf_145_1806 hb5 (by omega) (r_B_output (by omega) _ _ _ _ _ hx6) (Nat.le_of_ble_eq_true rfl) jml_105 (Nat.le_of_ble_eq_true rfl) ?_
          refine jr_aload jf_145_1809 hl26 ?_
          refine jr_iload jf_145_1811 hl27 ?_
          replace h := obd_of h; obtain ⟨x7, hx7, h⟩ := h
          refine jr_iaload jf_145_1813 hx7 ?_
          refine jr_i2l jf_145_1814 ?_
          refine jr_lcmp jf_145_1815 ?_
          replace h := ite_or h; rcases h with ⟨hc, h⟩ | ⟨hc, h⟩
          · refine jr_ifl_ne_f jf_145_1816 hc ?_
            refine jr_iconst jf_145_1819 jc_i_1 ?_
            refine jr_goto jf_145_1820 ?_
            exact r_L_law_1824 hd ih _ _ _ _ _ true _ _ _ hl1 hl2 hl26 hl27 h
          · refine jr_ifl_ne_t jf_145_1816 hc ?_
            exact r_L_law_1823 hd ih _ _ _ _ _ _ _ _ hl1 hl2 hl26 hl27 h
        · refine jr_if2_ne_t jf_145_1799 hc ?_
          exact r_L_law_1823 hd ih _ _ _ _ _ _ _ _ hl1 hl2 hl26 hl27 h
      · refine jr_ifz_eq_t jf_145_1775 hc ?_
        exact r_L_law_1832 hd _ _ _ _ _ _ hl2 hl10 h
set_option maxRecDepth 10000 in
set_option maxHeartbeats 4000000 in
theorem r_L_law_1763 {N M B : Nat} {SA : Nat → Nat} {d : Nat} (hd : M + 8 ≤ d) : ∀ (L : JLoc) (v1 : Nat) (v2 : Nat) (v10 : Bool) (v26 : Nat) (μ : JMem) (r : Bool) (μ9 : JMem), jget L 1 = .ref v1 → jget L 2 = .ref v2 → jget L 10 = .int (jb v10) → jget L 26 = .ref v26 → g_L_law_1763 N M B SA v1 v2 v10 v26 μ = some (r, μ9) → jR B SA d m_L_law 1763 L [] μ (some (.int (jb r))) μ9 := by
  intro L v1 v2 v10 v26 μ r μ9 hl1 hl2 hl10 hl26 h
  unfold g_L_law_1763 at h
  refine jr_iconst jf_145_1763 jc_i_0 ?_
  refine jr_istore jf_145_1764 jml_145 (by decide) ?_
  exact r_L_law_1766 hd _ _ _ _ _ _ _ _ _ _ (jg1_ne rfl hl1) (jg1_ne rfl hl2) (jg1_ne rfl hl10) (jg1_pre (by first | rfl | exact rv_cat _) hl26) jg1_same h
set_option maxRecDepth 10000 in
set_option maxHeartbeats 4000000 in
theorem r_L_law_1638 {N M B : Nat} {SA : Nat → Nat} {d : Nat} (hd : M + 8 ≤ d) : ∀ (n : Nat), ∀ (L : JLoc) (v1 : Nat) (v2 : Nat) (v3 : Int32) (v4 : Nat) (v5 : Nat) (v6 : Nat) (v10 : Bool) (v26 : Nat) (v27 : Int32) (μ : JMem) (r : Bool) (μ9 : JMem), jget L 1 = .ref v1 → jget L 2 = .ref v2 → jget L 3 = .int v3 → jget L 4 = .ref v4 → jget L 5 = .ref v5 → jget L 6 = .ref v6 → jget L 10 = .int (jb v10) → jget L 26 = .ref v26 → jget L 27 = .int v27 → g_L_law_1638 N M B SA n v1 v2 v3 v4 v5 v6 v10 v26 v27 μ = some (r, μ9) → jR B SA d m_L_law 1638 L [] μ (some (.int (jb r))) μ9 := by
  intro n
  induction n with
  | zero =>
    intro L v1 v2 v3 v4 v5 v6 v10 v26 v27 μ r μ9 hl1 hl2 hl3 hl4 hl5 hl6 hl10 hl26 hl27 h
    unfold g_L_law_1638 at h
    cases h
  | succ n ih =>
    intro L v1 v2 v3 v4 v5 v6 v10 v26 v27 μ r μ9 hl1 hl2 hl3 hl4 hl5 hl6 hl10 hl26 hl27 h
    unfold g_L_law_1638 at h
    refine jr_iload jf_145_1638 hl27 ?_
    refine jr_iload_n jf_145_1640 rfl hl3 ?_
    replace h := ite_or h; rcases h with ⟨hc, h⟩ | ⟨hc, h⟩
    · refine jr_if2_ge_t jf_145_1641 hc ?_
      exact r_L_law_1763 hd _ _ _ _ _ _ _ _ hl1 hl2 hl10 hl26 h
    · refine jr_if2_ge_f jf_145_1641 hc ?_
      refine jr_iload jf_145_1644 hl10 ?_
      replace h := ite_or h; rcases h with ⟨hc, h⟩ | ⟨hc, h⟩
      · refine jr_ifz_eq_f jf_145_1646 hc ?_
        refine jr_aload_n jf_145_1649 rfl hl2 ?_
        refine jr_iconst jf_145_1650 jc_i_2 ?_
        refine jr_iload_n jf_145_1651 rfl hl3 ?_
        refine jr_imul jf_145_1652 ?_
        refine jr_iload jf_145_1653 hl27 ?_
        refine jr_iadd jf_145_1655 ?_
        refine jr_iconst jf_145_1656 jc_i_0 ?_
        replace h := jgd_of h; obtain ⟨hb1, h⟩ := h
        replace h := obd_of h; obtain ⟨x2, hx2, h⟩ := h
        refine jr_V6_2 jf_145_1657 hb1 (by omega) (r_B_told (by omega) _ _ _ _ _ hx2) (Nat.le_of_ble_eq_true rfl) jml_27 (Nat.le_of_ble_eq_true rfl) ?_
        refine jr_aload_n jf_145_1660 rfl hl2 ?_
        refine jr_iload jf_145_1661 hl27 ?_
        refine jr_iconst jf_145_1663 jc_i_0 ?_
        replace h := jgd_of h; obtain ⟨hb3, h⟩ := h
        replace h := obd_of h; obtain ⟨x4, hx4, h⟩ := h
        refine jr_V6_2 jf_145_1664 hb3 (by omega) (r_B_told (by omega) _ _ _ _ _ hx4) (Nat.le_of_ble_eq_true rfl) jml_27 (Nat.le_of_ble_eq_true rfl) ?_
        refine jr_lcmp jf_145_1667 ?_
        replace h := ite_or h; rcases h with ⟨hc, h⟩ | ⟨hc, h⟩
        · refine jr_ifl_ne_f jf_145_1668 hc ?_
          refine jr_aload_n jf_145_1671 rfl hl2 ?_
          refine jr_iconst jf_145_1672 jc_i_2 ?_
          refine jr_iload_n jf_145_1673 rfl hl3 ?_
          refine jr_imul jf_145_1674 ?_
          refine jr_iload jf_145_1675 hl27 ?_
          refine jr_iadd jf_145_1677 ?_
          refine jr_iconst jf_145_1678 jc_i_1 ?_
          replace h := jgd_of h; obtain ⟨hb5, h⟩ := h
          replace h := obd_of h; obtain ⟨x6, hx6, h⟩ := h
          refine jr_V6_2 jf_145_1679 hb5 (by omega) (r_B_told (by omega) _ _ _ _ _ hx6) (Nat.le_of_ble_eq_true rfl) jml_27 (Nat.le_of_ble_eq_true rfl) ?_
          refine jr_aload_n jf_145_1682 rfl hl2 ?_
          refine jr_iload jf_145_1683 hl27 ?_
          refine jr_iconst jf_145_1685 jc_i_1 ?_
          replace h := jgd_of h; obtain ⟨hb7, h⟩ := h
          replace h := obd_of h; obtain ⟨x8, hx8, h⟩ := h
          refine jr_V6_2 jf_145_1686 hb7 (by omega) (r_B_told (by omega) _ _ _ _ _ hx8) (Nat.le_of_ble_eq_true rfl) jml_27 (Nat.le_of_ble_eq_true rfl) ?_
          refine jr_lcmp jf_145_1689 ?_
          replace h := ite_or h; rcases h with ⟨hc, h⟩ | ⟨hc, h⟩
          · refine jr_ifl_ne_f jf_145_1690 hc ?_
            refine jr_aload_n jf_145_1693 rfl hl2 ?_
            refine jr_iconst jf_145_1694 jc_i_2 ?_
            refine jr_iload_n jf_145_1695 rfl hl3 ?_
            refine jr_imul jf_145_1696 ?_
            refine jr_iload jf_145_1697 hl27 ?_
            refine jr_iadd jf_145_1699 ?_
            refine jr_iconst jf_145_1700 jc_i_0 ?_
            replace h := jgd_of h; obtain ⟨hb9, h⟩ := h
            replace h := obd_of h; obtain ⟨x10, hx10, h⟩ := h
            refine jr_V6_2 jf_145_1701 hb9 (by omega) (r_B_about (by omega) _ _ _ _ _ hx10) (Nat.le_of_ble_eq_true rfl) jml_25 (Nat.le_of_ble_eq_true rfl) ?_
            refine jr_aload jf_145_1704 hl4 ?_
            refine jr_iload jf_145_1706 hl27 ?_
            replace h := obd_of h; obtain ⟨x11, hx11, h⟩ := h
            refine jr_iaload jf_145_1708 hx11 ?_
            replace h := ite_or h; rcases h with ⟨hc, h⟩ | ⟨hc, h⟩
            · refine jr_if2_ne_f jf_145_1709 hc ?_
              refine jr_aload_n jf_145_1712 rfl hl2 ?_
              refine jr_iconst jf_145_1713 jc_i_2 ?_
              refine jr_iload_n jf_145_1714 rfl hl3 ?_
              refine jr_imul jf_145_1715 ?_
              refine jr_iload jf_145_1716 hl27 ?_
              refine jr_iadd jf_145_1718 ?_
              refine jr_bipush jf_145_1719 jc_b_8 ?_
              replace h := jgd_of h; obtain ⟨hb12, h⟩ := h
              replace h := obd_of h; obtain ⟨x13, hx13, h⟩ := h
              refine jr_V6_2 jf_145_1721 hb12 (by omega) (r_B_about (by omega) _ _ _ _ _ hx13) (Nat.le_of_ble_eq_true rfl) jml_25 (Nat.le_of_ble_eq_true rfl) ?_
              replace h := ite_or h; rcases h with ⟨hc, h⟩ | ⟨hc, h⟩
              · refine jr_if_ne_f jf_145_1724 hc ?_
                refine jr_aload_n jf_145_1727 rfl hl2 ?_
                refine jr_iconst jf_145_1728 jc_i_2 ?_
                refine jr_iload_n jf_145_1729 rfl hl3 ?_
                refine jr_imul jf_145_1730 ?_
                refine jr_iload jf_145_1731 hl27 ?_
                refine jr_iadd jf_145_1733 ?_
                refine jr_aload jf_145_1734 hl5 ?_
                refine jr_iload jf_145_1736 hl27 ?_
                replace h := obd_of h; obtain ⟨x14, hx14, h⟩ := h
                refine jr_iaload jf_145_1738 hx14 ?_
                refine jr_aload jf_145_1739 hl6 ?_
                refine jr_iload jf_145_1741 hl27 ?_
                replace h := obd_of h; obtain ⟨x15, hx15, h⟩ := h
                refine jr_iaload jf_145_1743 hx15 ?_
                replace h := jgd_of h; obtain ⟨hb16, h⟩ := h
                replace h := jbd2_of h; obtain ⟨x17, μ18, hx17, h⟩ := h
                refine jr_V6_3 jf_145_1744 hb16 (by omega) (r_B_rule (by omega) _ _ _ _ _ _ _ hx17) (Nat.le_of_ble_eq_true rfl) jml_21 (Nat.le_of_ble_eq_true rfl) ?_
                replace h := ite_or h; rcases h with ⟨hc, h⟩ | ⟨hc, h⟩
                · refine jr_ifz_eq_f jf_145_1747 hc ?_
                  refine jr_iconst jf_145_1750 jc_i_1 ?_
                  refine jr_goto jf_145_1751 ?_
                  exact r_L_law_1755 hd ih _ _ _ _ _ _ _ _ _ true _ _ _ hl1 hl2 hl3 hl4 hl5 hl6 hl26 hl27 h
                · refine jr_ifz_eq_t jf_145_1747 hc ?_
                  exact r_L_law_1754 hd ih _ _ _ _ _ _ _ _ _ _ _ _ hl1 hl2 hl3 hl4 hl5 hl6 hl26 hl27 h
              · refine jr_if_ne_t jf_145_1724 hc ?_
                exact r_L_law_1754 hd ih _ _ _ _ _ _ _ _ _ _ _ _ hl1 hl2 hl3 hl4 hl5 hl6 hl26 hl27 h
            · refine jr_if2_ne_t jf_145_1709 hc ?_
              exact r_L_law_1754 hd ih _ _ _ _ _ _ _ _ _ _ _ _ hl1 hl2 hl3 hl4 hl5 hl6 hl26 hl27 h
          · refine jr_ifl_ne_t jf_145_1690 hc ?_
            exact r_L_law_1754 hd ih _ _ _ _ _ _ _ _ _ _ _ _ hl1 hl2 hl3 hl4 hl5 hl6 hl26 hl27 h
        · refine jr_ifl_ne_t jf_145_1668 hc ?_
          exact r_L_law_1754 hd ih _ _ _ _ _ _ _ _ _ _ _ _ hl1 hl2 hl3 hl4 hl5 hl6 hl26 hl27 h
      · refine jr_ifz_eq_t jf_145_1646 hc ?_
        exact r_L_law_1763 hd _ _ _ _ _ _ _ _ hl1 hl2 hl10 hl26 h
set_option maxRecDepth 10000 in
set_option maxHeartbeats 4000000 in
theorem r_L_law_1633 {N M B : Nat} {SA : Nat → Nat} {d : Nat} (hd : M + 8 ≤ d) : ∀ (L : JLoc) (v1 : Nat) (v2 : Nat) (v3 : Int32) (v4 : Nat) (v5 : Nat) (v6 : Nat) (v26 : Nat) (s0 : Bool) (μ : JMem) (r : Bool) (μ9 : JMem), jget L 1 = .ref v1 → jget L 2 = .ref v2 → jget L 3 = .int v3 → jget L 4 = .ref v4 → jget L 5 = .ref v5 → jget L 6 = .ref v6 → jget L 26 = .ref v26 → g_L_law_1633 N M B SA v1 v2 v3 v4 v5 v6 v26 s0 μ = some (r, μ9) → jR B SA d m_L_law 1633 L [.int (jb s0)] μ (some (.int (jb r))) μ9 := by
  intro L v1 v2 v3 v4 v5 v6 v26 s0 μ r μ9 hl1 hl2 hl3 hl4 hl5 hl6 hl26 h
  unfold g_L_law_1633 at h
  refine jr_istore jf_145_1633 jml_145 (by decide) ?_
  refine jr_iconst jf_145_1635 jc_i_0 ?_
  refine jr_istore jf_145_1636 jml_145 (by decide) ?_
  exact r_L_law_1638 hd _ _ _ _ _ _ _ _ _ _ _ _ _ _ (jg1_ne rfl (jg1_ne rfl hl1)) (jg1_ne rfl (jg1_ne rfl hl2)) (jg1_ne rfl (jg1_ne rfl hl3)) (jg1_ne rfl (jg1_ne rfl hl4)) (jg1_ne rfl (jg1_ne rfl hl5)) (jg1_ne rfl (jg1_ne rfl hl6)) (jg1_ne rfl jg1_same) (jg1_pre (by first | rfl | exact rv_cat _) (jg1_ne rfl hl26)) jg1_same h
set_option maxRecDepth 10000 in
set_option maxHeartbeats 4000000 in
theorem r_L_law_1632 {N M B : Nat} {SA : Nat → Nat} {d : Nat} (hd : M + 8 ≤ d) : ∀ (L : JLoc) (v1 : Nat) (v2 : Nat) (v3 : Int32) (v4 : Nat) (v5 : Nat) (v6 : Nat) (v26 : Nat) (μ : JMem) (r : Bool) (μ9 : JMem), jget L 1 = .ref v1 → jget L 2 = .ref v2 → jget L 3 = .int v3 → jget L 4 = .ref v4 → jget L 5 = .ref v5 → jget L 6 = .ref v6 → jget L 26 = .ref v26 → g_L_law_1632 N M B SA v1 v2 v3 v4 v5 v6 v26 μ = some (r, μ9) → jR B SA d m_L_law 1632 L [] μ (some (.int (jb r))) μ9 := by
  intro L v1 v2 v3 v4 v5 v6 v26 μ r μ9 hl1 hl2 hl3 hl4 hl5 hl6 hl26 h
  unfold g_L_law_1632 at h
  refine jr_iconst jf_145_1632 jc_i_0 ?_
  exact r_L_law_1633 hd _ _ _ _ _ _ _ _ false _ _ _ hl1 hl2 hl3 hl4 hl5 hl6 hl26 h
set_option maxRecDepth 10000 in
set_option maxHeartbeats 4000000 in
theorem r_L_law_1563 {N M B : Nat} {SA : Nat → Nat} {d : Nat} (hd : M + 8 ≤ d) : ∀ (L : JLoc) (v1 : Nat) (v2 : Nat) (v3 : Int32) (v4 : Nat) (v5 : Nat) (v6 : Nat) (v10 : Bool) (v26 : Nat) (μ : JMem) (r : Bool) (μ9 : JMem), jget L 1 = .ref v1 → jget L 2 = .ref v2 → jget L 3 = .int v3 → jget L 4 = .ref v4 → jget L 5 = .ref v5 → jget L 6 = .ref v6 → jget L 10 = .int (jb v10) → jget L 26 = .ref v26 → g_L_law_1563 N M B SA v1 v2 v3 v4 v5 v6 v10 v26 μ = some (r, μ9) → jR B SA d m_L_law 1563 L [] μ (some (.int (jb r))) μ9 := by
  intro L v1 v2 v3 v4 v5 v6 v10 v26 μ r μ9 hl1 hl2 hl3 hl4 hl5 hl6 hl10 hl26 h
  unfold g_L_law_1563 at h
  refine jr_iload jf_145_1563 hl10 ?_
  replace h := ite_or h; rcases h with ⟨hc, h⟩ | ⟨hc, h⟩
  · refine jr_ifz_eq_f jf_145_1565 hc ?_
    refine jr_aload_n jf_145_1568 rfl hl2 ?_
    refine jr_iconst jf_145_1569 jc_i_0 ?_
    refine jr_iconst jf_145_1570 jc_i_0 ?_
    replace h := jgd_of h; obtain ⟨hb1, h⟩ := h
    replace h := jbd2_of h; obtain ⟨x2, μ3, hx2, h⟩ := h
    refine jr_V6_2 jf_145_1571 hb1 (by omega) (r_B_convert (by omega) _ _ _ _ _ _ hx2) (Nat.le_of_ble_eq_true rfl) jml_127 (Nat.le_of_ble_eq_true rfl) ?_
    refine jr_iconst jf_145_1574 jc_i_1 ?_
    replace h := ite_or h; rcases h with ⟨hc, h⟩ | ⟨hc, h⟩
    · refine jr_if2_ne_f jf_145_1575 hc ?_
      refine jr_aload_n jf_145_1578 rfl hl2 ?_
      refine jr_iconst jf_145_1579 jc_i_1 ?_
      refine jr_iconst jf_145_1580 jc_i_2 ?_
      replace h := jgd_of h; obtain ⟨hb4, h⟩ := h
      replace h := jbd2_of h; obtain ⟨x5, μ6, hx5, h⟩ := h
      refine jr_V6_2 jf_145_1581 hb4 (by omega) (r_B_convert (by omega) _ _ _ _ _ _ hx5) (Nat.le_of_ble_eq_true rfl) jml_127 (Nat.le_of_ble_eq_true rfl) ?_
      refine jr_iconst jf_145_1584 jc_i_2 ?_
      replace h := ite_or h; rcases h with ⟨hc, h⟩ | ⟨hc, h⟩
      · refine jr_if2_ne_f jf_145_1585 hc ?_
        refine jr_aload_n jf_145_1588 rfl hl2 ?_
        refine jr_iconst jf_145_1589 jc_i_0 ?_
        replace h := jgd_of h; obtain ⟨hb7, h⟩ := h
        replace h := obd_of h; obtain ⟨x8, hx8, h⟩ := h
        refine jr_V6_1 jf_145_1590 hb7 (by omega) (r_B_count (by omega) _ _ _ _ hx8) (Nat.le_of_ble_eq_true rfl) jml_45 (Nat.le_of_ble_eq_true rfl) ?_
        refine jr_iconst jf_145_1593 jc_i_3 ?_
        refine jr_iload_n jf_145_1594 rfl hl3 ?_
        refine jr_imul jf_145_1595 ?_
        replace h := ite_or h; rcases h with ⟨hc, h⟩ | ⟨hc, h⟩
        · refine jr_if2_ne_f jf_145_1596 hc ?_
          refine jr_aload_n jf_145_1599 rfl hl2 ?_
          refine jr_iconst jf_145_1600 jc_i_2 ?_
          refine jr_iconst jf_145_1601 jc_i_1 ?_
          replace h := jgd_of h; obtain ⟨hb9, h⟩ := h
          replace h := obd_of h; obtain ⟨x10, hx10, h⟩ := h
          refine jr_V6_2 jf_145_1602 hb9 (by omega) (r_B_chain_2 (by omega) _ _ _ _ _ hx10) (Nat.le_of_ble_eq_true rfl) jml_44 (Nat.le_of_ble_eq_true rfl) ?_
          refine jr_iconst jf_145_1605 jc_i_2 ?_
          replace h := ite_or h; rcases h with ⟨hc, h⟩ | ⟨hc, h⟩
          · refine jr_if2_ne_f jf_145_1606 hc ?_
            refine jr_aload_n jf_145_1609 rfl hl2 ?_
            refine jr_iconst jf_145_1610 jc_i_1 ?_
            refine jr_iconst jf_145_1611 jc_i_4 ?_
            replace h := jgd_of h; obtain ⟨hb11, h⟩ := h
            replace h := obd_of h; obtain ⟨x12, hx12, h⟩ := h
            refine jr_V6_2 jf_145_1612 hb11 (by omega) (r_B_chain_2 (by omega) _ _ _ _ _ hx12) (Nat.le_of_ble_eq_true rfl) jml_44 (Nat.le_of_ble_eq_true rfl) ?_
            replace h := ite_or h; rcases h with ⟨hc, h⟩ | ⟨hc, h⟩
            · refine jr_if_ne_f jf_145_1615 hc ?_
              refine jr_aload_n jf_145_1618 rfl hl2 ?_
              refine jr_iconst jf_145_1619 jc_i_2 ?_
              refine jr_iconst jf_145_1620 jc_i_4 ?_
              replace h := jgd_of h; obtain ⟨hb13, h⟩ := h
              replace h := obd_of h; obtain ⟨x14, hx14, h⟩ := h
              refine jr_V6_2 jf_145_1621 hb13 (by omega) (r_B_chain_2 (by omega) _ _ _ _ _ hx14) (Nat.le_of_ble_eq_true rfl) jml_44 (Nat.le_of_ble_eq_true rfl) ?_
              refine jr_iconst jf_145_1624 jc_i_2 ?_
              replace h := ite_or h; rcases h with ⟨hc, h⟩ | ⟨hc, h⟩
              · refine jr_if2_ne_f jf_145_1625 hc ?_
                refine jr_iconst jf_145_1628 jc_i_1 ?_
                refine jr_goto jf_145_1629 ?_
                exact r_L_law_1633 hd _ _ _ _ _ _ _ _ true _ _ _ hl1 hl2 hl3 hl4 hl5 hl6 hl26 h
              · refine jr_if2_ne_t jf_145_1625 hc ?_
                exact r_L_law_1632 hd _ _ _ _ _ _ _ _ _ _ _ hl1 hl2 hl3 hl4 hl5 hl6 hl26 h
            · refine jr_if_ne_t jf_145_1615 hc ?_
              exact r_L_law_1632 hd _ _ _ _ _ _ _ _ _ _ _ hl1 hl2 hl3 hl4 hl5 hl6 hl26 h
          · refine jr_if2_ne_t jf_145_1606 hc ?_
            exact r_L_law_1632 hd _ _ _ _ _ _ _ _ _ _ _ hl1 hl2 hl3 hl4 hl5 hl6 hl26 h
        · refine jr_if2_ne_t jf_145_1596 hc ?_
          exact r_L_law_1632 hd _ _ _ _ _ _ _ _ _ _ _ hl1 hl2 hl3 hl4 hl5 hl6 hl26 h
      · refine jr_if2_ne_t jf_145_1585 hc ?_
        exact r_L_law_1632 hd _ _ _ _ _ _ _ _ _ _ _ hl1 hl2 hl3 hl4 hl5 hl6 hl26 h
    · refine jr_if2_ne_t jf_145_1575 hc ?_
      exact r_L_law_1632 hd _ _ _ _ _ _ _ _ _ _ _ hl1 hl2 hl3 hl4 hl5 hl6 hl26 h
  · refine jr_ifz_eq_t jf_145_1565 hc ?_
    exact r_L_law_1632 hd _ _ _ _ _ _ _ _ _ _ _ hl1 hl2 hl3 hl4 hl5 hl6 hl26 h
set_option maxRecDepth 10000 in
set_option maxHeartbeats 4000000 in
theorem r_L_law_517 {N M B : Nat} {SA : Nat → Nat} {d : Nat} (hd : M + 8 ≤ d) : ∀ (n : Nat), ∀ (L : JLoc) (v1 : Nat) (v2 : Nat) (v3 : Int32) (v4 : Nat) (v5 : Nat) (v6 : Nat) (v7 : Nat) (v8 : Nat) (v9 : Nat) (v10 : Bool) (v11 : Int32) (v12 : Int32) (v13 : Int64) (v15 : Int64) (v17 : Nat) (v18 : Nat) (v19 : Nat) (v20 : Nat) (v21 : Nat) (v22 : Nat) (v23 : Nat) (v24 : Int32) (v25 : Int32) (v26 : Nat) (v27 : Int32) (μ : JMem) (r : Bool) (μ9 : JMem), jget L 1 = .ref v1 → jget L 2 = .ref v2 → jget L 3 = .int v3 → jget L 4 = .ref v4 → jget L 5 = .ref v5 → jget L 6 = .ref v6 → jget L 7 = .ref v7 → jget L 8 = .ref v8 → jget L 9 = .ref v9 → jget L 10 = .int (jb v10) → jget L 11 = .int v11 → jget L 12 = .int v12 → jget L 13 = .long v13 → jget L 15 = .long v15 → jget L 17 = .ref v17 → jget L 18 = .ref v18 → jget L 19 = .ref v19 → jget L 20 = .ref v20 → jget L 21 = .ref v21 → jget L 22 = .ref v22 → jget L 23 = .ref v23 → jget L 24 = .int v24 → jget L 25 = .int v25 → jget L 26 = .ref v26 → jget L 27 = .int v27 → g_L_law_517 N M B SA n v1 v2 v3 v4 v5 v6 v7 v8 v9 v10 v11 v12 v13 v15 v17 v18 v19 v20 v21 v22 v23 v24 v25 v26 v27 μ = some (r, μ9) → jR B SA d m_L_law 517 L [] μ (some (.int (jb r))) μ9 := by
  intro n
  induction n with
  | zero =>
    intro L v1 v2 v3 v4 v5 v6 v7 v8 v9 v10 v11 v12 v13 v15 v17 v18 v19 v20 v21 v22 v23 v24 v25 v26 v27 μ r μ9 hl1 hl2 hl3 hl4 hl5 hl6 hl7 hl8 hl9 hl10 hl11 hl12 hl13 hl15 hl17 hl18 hl19 hl20 hl21 hl22 hl23 hl24 hl25 hl26 hl27 h
    unfold g_L_law_517 at h
    cases h
  | succ n ih =>
    intro L v1 v2 v3 v4 v5 v6 v7 v8 v9 v10 v11 v12 v13 v15 v17 v18 v19 v20 v21 v22 v23 v24 v25 v26 v27 μ r μ9 hl1 hl2 hl3 hl4 hl5 hl6 hl7 hl8 hl9 hl10 hl11 hl12 hl13 hl15 hl17 hl18 hl19 hl20 hl21 hl22 hl23 hl24 hl25 hl26 hl27 h
    unfold g_L_law_517 at h
    refine jr_iload jf_145_517 hl27 ?_
    refine jr_bipush jf_145_519 jc_b_40 ?_
    replace h := ite_or h; rcases h with ⟨hc, h⟩ | ⟨hc, h⟩
    · refine jr_if2_ge_t jf_145_521 hc ?_
      exact r_L_law_1563 hd _ _ _ _ _ _ _ _ _ _ _ _ hl1 hl2 hl3 hl4 hl5 hl6 hl10 hl26 h
    · refine jr_if2_ge_f jf_145_521 hc ?_
      refine jr_iload jf_145_524 hl10 ?_
      replace h := ite_or h; rcases h with ⟨hc, h⟩ | ⟨hc, h⟩
      · refine jr_ifz_eq_f jf_145_526 hc ?_
        refine jr_aload_n jf_145_529 rfl hl1 ?_
        refine jr_bipush jf_145_530 jc_b_10 ?_
        refine jr_iload jf_145_532 hl27 ?_
        refine jr_iadd jf_145_534 ?_
        replace h := obd_of h; obtain ⟨x1, hx1, h⟩ := h
        refine jr_iaload jf_145_535 hx1 ?_
        refine jr_iload jf_145_536 hl27 ?_
        refine jr_bipush jf_145_538 jc_b_7 ?_
        refine jr_iand jf_145_540 ?_
        refine jr_ishr jf_145_541 ?_
        refine jr_i2s jf_145_542 ?_
        refine jr_i2l jf_145_543 ?_
        refine jr_lstore jf_145_544 jml_145 (by decide) ?_
        replace h := jlet_of h
        refine jr_lload jf_145_546 jg2_same ?_
        refine jr_lstore jf_145_548 jml_145 (by decide) ?_
        refine jr_iconst jf_145_550 jc_i_0 ?_
        refine jr_istore jf_145_551 jml_145 (by decide) ?_
        exact r_L_law_553 hd ih _ _ _ _ _ _ _ _ _ _ _ _ _ _ _ _ _ _ _ _ _ _ _ _ _ _ _ _ _ _ _ _ (jg1_ne rfl (jg2_ne rfl (jg2_ne rfl hl1))) (jg1_ne rfl (jg2_ne rfl (jg2_ne rfl hl2))) (jg1_ne rfl (jg2_ne rfl (jg2_ne rfl hl3))) (jg1_ne rfl (jg2_ne rfl (jg2_ne rfl hl4))) (jg1_ne rfl (jg2_ne rfl (jg2_ne rfl hl5))) (jg1_ne rfl (jg2_ne rfl (jg2_ne rfl hl6))) (jg1_ne rfl (jg2_ne rfl (jg2_ne rfl hl7))) (jg1_ne rfl (jg2_ne rfl (jg2_ne rfl hl8))) (jg1_ne rfl (jg2_ne rfl (jg2_ne rfl hl9))) (jg1_ne rfl (jg2_ne rfl (jg2_ne rfl hl11))) (jg1_ne rfl (jg2_ne rfl (jg2_ne rfl hl12))) (jg1_ne rfl (jg2_ne rfl (jg2_ne rfl hl13))) (jg1_ne rfl (jg2_ne rfl (jg2_ne rfl hl15))) (jg1_ne rfl (jg2_ne rfl (jg2_ne rfl hl17))) (jg1_ne rfl (jg2_ne rfl (jg2_ne rfl hl18))) (jg1_ne rfl (jg2_ne rfl (jg2_ne rfl hl19))) (jg1_ne rfl (jg2_ne rfl (jg2_ne rfl hl20))) (jg1_ne rfl (jg2_ne rfl (jg2_ne rfl hl21))) (jg1_ne rfl (jg2_ne rfl (jg2_ne rfl hl22))) (jg1_ne rfl (jg2_ne rfl (jg2_ne rfl hl23))) (jg1_ne rfl (jg2_ne rfl (jg2_ne rfl hl24))) (jg1_ne rfl (jg2_ne rfl (jg2_ne rfl hl25))) (jg1_ne rfl (jg2_ne rfl (jg2_ne rfl hl26))) (jg1_ne rfl (jg2_ne rfl (jg2_pre rfl hl27))) (jg1_ne rfl (jg2_ne rfl jg2_same)) (jg1_ne rfl jg2_same) jg1_same h
      · refine jr_ifz_eq_t jf_145_526 hc ?_
        exact r_L_law_1563 hd _ _ _ _ _ _ _ _ _ _ _ _ hl1 hl2 hl3 hl4 hl5 hl6 hl10 hl26 h
set_option maxRecDepth 10000 in
set_option maxHeartbeats 4000000 in
theorem r_L_law_463 {N M B : Nat} {SA : Nat → Nat} {d : Nat} (hd : M + 8 ≤ d) : ∀ (L : JLoc) (v1 : Nat) (v2 : Nat) (v3 : Int32) (v4 : Nat) (v5 : Nat) (v6 : Nat) (v7 : Nat) (v8 : Nat) (v9 : Nat) (v11 : Int32) (v12 : Int32) (v13 : Int64) (v15 : Int64) (s0 : Bool) (μ : JMem) (r : Bool) (μ9 : JMem), jget L 1 = .ref v1 → jget L 2 = .ref v2 → jget L 3 = .int v3 → jget L 4 = .ref v4 → jget L 5 = .ref v5 → jget L 6 = .ref v6 → jget L 7 = .ref v7 → jget L 8 = .ref v8 → jget L 9 = .ref v9 → jget L 11 = .int v11 → jget L 12 = .int v12 → jget L 13 = .long v13 → jget L 15 = .long v15 → g_L_law_463 N M B SA v1 v2 v3 v4 v5 v6 v7 v8 v9 v11 v12 v13 v15 s0 μ = some (r, μ9) → jR B SA d m_L_law 463 L [.int (jb s0)] μ (some (.int (jb r))) μ9 := by
  intro L v1 v2 v3 v4 v5 v6 v7 v8 v9 v11 v12 v13 v15 s0 μ r μ9 hl1 hl2 hl3 hl4 hl5 hl6 hl7 hl8 hl9 hl11 hl12 hl13 hl15 h
  unfold g_L_law_463 at h
  refine jr_istore jf_145_463 jml_145 (by decide) ?_
  refine jr_iconst jf_145_465 jc_i_4 ?_
  replace h := jbd2_of h; obtain ⟨a1, μ2, ha1, h⟩ := h
  refine jr_newarray jf_145_466 rfl ha1 ?_
  refine jr_astore jf_145_468 jml_145 (by decide) ?_
  refine jr_bipush jf_145_470 jc_b_16 ?_
  replace h := jbd2_of h; obtain ⟨a3, μ4, ha3, h⟩ := h
  refine jr_newarray jf_145_472 rfl ha3 ?_
  refine jr_astore jf_145_474 jml_145 (by decide) ?_
  refine jr_iconst jf_145_476 jc_i_4 ?_
  replace h := jbd2_of h; obtain ⟨a5, μ6, ha5, h⟩ := h
  refine jr_newarray jf_145_477 rfl ha5 ?_
  refine jr_astore jf_145_479 jml_145 (by decide) ?_
  refine jr_iconst jf_145_481 jc_i_4 ?_
  replace h := jbd2_of h; obtain ⟨a7, μ8, ha7, h⟩ := h
  refine jr_newarray jf_145_482 rfl ha7 ?_
  refine jr_astore jf_145_484 jml_145 (by decide) ?_
  refine jr_iconst jf_145_486 jc_i_4 ?_
  replace h := jbd2_of h; obtain ⟨a9, μ10, ha9, h⟩ := h
  refine jr_newarray jf_145_487 rfl ha9 ?_
  refine jr_astore jf_145_489 jml_145 (by decide) ?_
  refine jr_iconst jf_145_491 jc_i_4 ?_
  replace h := jbd2_of h; obtain ⟨a11, μ12, ha11, h⟩ := h
  refine jr_newarray jf_145_492 rfl ha11 ?_
  refine jr_astore jf_145_494 jml_145 (by decide) ?_
  refine jr_bipush jf_145_496 jc_b_8 ?_
  replace h := jbd2_of h; obtain ⟨a13, μ14, ha13, h⟩ := h
  refine jr_newarray jf_145_498 rfl ha13 ?_
  refine jr_astore jf_145_500 jml_145 (by decide) ?_
  refine jr_iconst jf_145_502 jc_i_0 ?_
  refine jr_istore jf_145_503 jml_145 (by decide) ?_
  refine jr_iconst jf_145_505 jc_i_0 ?_
  refine jr_istore jf_145_506 jml_145 (by decide) ?_
  refine jr_bipush jf_145_508 jc_b_40 ?_
  replace h := jbd2_of h; obtain ⟨a15, μ16, ha15, h⟩ := h
  refine jr_newarray jf_145_510 rfl ha15 ?_
  refine jr_astore jf_145_512 jml_145 (by decide) ?_
  refine jr_iconst jf_145_514 jc_i_0 ?_
  refine jr_istore jf_145_515 jml_145 (by decide) ?_
  exact r_L_law_517 hd _ _ _ _ _ _ _ _ _ _ _ _ _ _ _ _ _ _ _ _ _ _ _ _ _ _ _ _ _ _ (jg1_ne rfl (jg1_ne rfl (jg1_ne rfl (jg1_ne rfl (jg1_ne rfl (jg1_ne rfl (jg1_ne rfl (jg1_ne rfl (jg1_ne rfl (jg1_ne rfl (jg1_ne rfl (jg1_ne rfl hl1)))))))))))) (jg1_ne rfl (jg1_ne rfl (jg1_ne rfl (jg1_ne rfl (jg1_ne rfl (jg1_ne rfl (jg1_ne rfl (jg1_ne rfl (jg1_ne rfl (jg1_ne rfl (jg1_ne rfl (jg1_ne rfl hl2)))))))))))) (jg1_ne rfl (jg1_ne rfl (jg1_ne rfl (jg1_ne rfl (jg1_ne rfl (jg1_ne rfl (jg1_ne rfl (jg1_ne rfl (jg1_ne rfl (jg1_ne rfl (jg1_ne rfl (jg1_ne rfl hl3)))))))))))) (jg1_ne rfl (jg1_ne rfl (jg1_ne rfl (jg1_ne rfl (jg1_ne rfl (jg1_ne rfl (jg1_ne rfl (jg1_ne rfl (jg1_ne rfl (jg1_ne rfl (jg1_ne rfl (jg1_ne rfl hl4)))))))))))) (jg1_ne rfl (jg1_ne rfl (jg1_ne rfl (jg1_ne rfl (jg1_ne rfl (jg1_ne rfl (jg1_ne rfl (jg1_ne rfl (jg1_ne rfl (jg1_ne rfl (jg1_ne rfl (jg1_ne rfl hl5)))))))))))) (jg1_ne rfl (jg1_ne rfl (jg1_ne rfl (jg1_ne rfl (jg1_ne rfl (jg1_ne rfl (jg1_ne rfl (jg1_ne rfl (jg1_ne rfl (jg1_ne rfl (jg1_ne rfl (jg1_ne rfl hl6)))))))))))) (jg1_ne rfl (jg1_ne rfl (jg1_ne rfl (jg1_ne rfl (jg1_ne rfl (jg1_ne rfl (jg1_ne rfl (jg1_ne rfl (jg1_ne rfl (jg1_ne rfl (jg1_ne rfl (jg1_ne rfl hl7)))))))))))) (jg1_ne rfl (jg1_ne rfl (jg1_ne rfl (jg1_ne rfl (jg1_ne rfl (jg1_ne rfl (jg1_ne rfl (jg1_ne rfl (jg1_ne rfl (jg1_ne rfl (jg1_ne rfl (jg1_ne rfl hl8)))))))))))) (jg1_ne rfl (jg1_ne rfl (jg1_ne rfl (jg1_ne rfl (jg1_ne rfl (jg1_ne rfl (jg1_ne rfl (jg1_ne rfl (jg1_ne rfl (jg1_ne rfl (jg1_ne rfl (jg1_pre (by first | rfl | exact rv_cat _) hl9)))))))))))) (jg1_ne rfl (jg1_ne rfl (jg1_ne rfl (jg1_ne rfl (jg1_ne rfl (jg1_ne rfl (jg1_ne rfl (jg1_ne rfl (jg1_ne rfl (jg1_ne rfl (jg1_ne rfl jg1_same))))))))))) (jg1_ne rfl (jg1_ne rfl (jg1_ne rfl (jg1_ne rfl (jg1_ne rfl (jg1_ne rfl (jg1_ne rfl (jg1_ne rfl (jg1_ne rfl (jg1_ne rfl (jg1_ne rfl (jg1_ne rfl hl11)))))))))))) (jg1_ne rfl (jg1_ne rfl (jg1_ne rfl (jg1_ne rfl (jg1_ne rfl (jg1_ne rfl (jg1_ne rfl (jg1_ne rfl (jg1_ne rfl (jg1_ne rfl (jg1_ne rfl (jg1_ne rfl hl12)))))))))))) (jg1_ne rfl (jg1_ne rfl (jg1_ne rfl (jg1_ne rfl (jg1_ne rfl (jg1_ne rfl (jg1_ne rfl (jg1_ne rfl (jg1_ne rfl (jg1_ne rfl (jg1_ne rfl (jg1_ne rfl hl13)))))))))))) (jg1_ne rfl (jg1_ne rfl (jg1_ne rfl (jg1_ne rfl (jg1_ne rfl (jg1_ne rfl (jg1_ne rfl (jg1_ne rfl (jg1_ne rfl (jg1_ne rfl (jg1_ne rfl (jg1_ne rfl hl15)))))))))))) (jg1_ne rfl (jg1_ne rfl (jg1_ne rfl (jg1_ne rfl (jg1_ne rfl (jg1_ne rfl (jg1_ne rfl (jg1_ne rfl (jg1_ne rfl (jg1_pre (by first | rfl | exact rv_cat _) jg1_same)))))))))) (jg1_ne rfl (jg1_ne rfl (jg1_ne rfl (jg1_ne rfl (jg1_ne rfl (jg1_ne rfl (jg1_ne rfl (jg1_ne rfl (jg1_pre (by first | rfl | exact rv_cat _) jg1_same))))))))) (jg1_ne rfl (jg1_ne rfl (jg1_ne rfl (jg1_ne rfl (jg1_ne rfl (jg1_ne rfl (jg1_ne rfl (jg1_pre (by first | rfl | exact rv_cat _) jg1_same)))))))) (jg1_ne rfl (jg1_ne rfl (jg1_ne rfl (jg1_ne rfl (jg1_ne rfl (jg1_ne rfl (jg1_pre (by first | rfl | exact rv_cat _) jg1_same))))))) (jg1_ne rfl (jg1_ne rfl (jg1_ne rfl (jg1_ne rfl (jg1_ne rfl (jg1_pre (by first | rfl | exact rv_cat _) jg1_same)))))) (jg1_ne rfl (jg1_ne rfl (jg1_ne rfl (jg1_ne rfl (jg1_pre (by first | rfl | exact rv_cat _) jg1_same))))) (jg1_ne rfl (jg1_ne rfl (jg1_ne rfl (jg1_pre (by first | rfl | exact rv_cat _) jg1_same)))) (jg1_ne rfl (jg1_ne rfl (jg1_pre rfl jg1_same))) (jg1_ne rfl (jg1_pre rfl jg1_same)) (jg1_pre (by first | rfl | exact rv_cat _) jg1_same) jg1_same h
set_option maxRecDepth 10000 in
set_option maxHeartbeats 4000000 in
theorem r_L_law_462 {N M B : Nat} {SA : Nat → Nat} {d : Nat} (hd : M + 8 ≤ d) : ∀ (L : JLoc) (v1 : Nat) (v2 : Nat) (v3 : Int32) (v4 : Nat) (v5 : Nat) (v6 : Nat) (v7 : Nat) (v8 : Nat) (v9 : Nat) (v11 : Int32) (v12 : Int32) (v13 : Int64) (v15 : Int64) (μ : JMem) (r : Bool) (μ9 : JMem), jget L 1 = .ref v1 → jget L 2 = .ref v2 → jget L 3 = .int v3 → jget L 4 = .ref v4 → jget L 5 = .ref v5 → jget L 6 = .ref v6 → jget L 7 = .ref v7 → jget L 8 = .ref v8 → jget L 9 = .ref v9 → jget L 11 = .int v11 → jget L 12 = .int v12 → jget L 13 = .long v13 → jget L 15 = .long v15 → g_L_law_462 N M B SA v1 v2 v3 v4 v5 v6 v7 v8 v9 v11 v12 v13 v15 μ = some (r, μ9) → jR B SA d m_L_law 462 L [] μ (some (.int (jb r))) μ9 := by
  intro L v1 v2 v3 v4 v5 v6 v7 v8 v9 v11 v12 v13 v15 μ r μ9 hl1 hl2 hl3 hl4 hl5 hl6 hl7 hl8 hl9 hl11 hl12 hl13 hl15 h
  unfold g_L_law_462 at h
  refine jr_iconst jf_145_462 jc_i_0 ?_
  exact r_L_law_463 hd _ _ _ _ _ _ _ _ _ _ _ _ _ _ false _ _ _ hl1 hl2 hl3 hl4 hl5 hl6 hl7 hl8 hl9 hl11 hl12 hl13 hl15 h
set_option maxRecDepth 10000 in
set_option maxHeartbeats 4000000 in
theorem r_L_law_94 {N M B : Nat} {SA : Nat → Nat} {d : Nat} (hd : M + 8 ≤ d) : ∀ (n : Nat), ∀ (L : JLoc) (v1 : Nat) (v2 : Nat) (v3 : Int32) (v4 : Nat) (v5 : Nat) (v6 : Nat) (v7 : Nat) (v8 : Nat) (v9 : Nat) (v10 : Bool) (v11 : Int32) (μ : JMem) (r : Bool) (μ9 : JMem), jget L 1 = .ref v1 → jget L 2 = .ref v2 → jget L 3 = .int v3 → jget L 4 = .ref v4 → jget L 5 = .ref v5 → jget L 6 = .ref v6 → jget L 7 = .ref v7 → jget L 8 = .ref v8 → jget L 9 = .ref v9 → jget L 10 = .int (jb v10) → jget L 11 = .int v11 → g_L_law_94 N M B SA n v1 v2 v3 v4 v5 v6 v7 v8 v9 v10 v11 μ = some (r, μ9) → jR B SA d m_L_law 94 L [] μ (some (.int (jb r))) μ9 := by
  intro n
  induction n with
  | zero =>
    intro L v1 v2 v3 v4 v5 v6 v7 v8 v9 v10 v11 μ r μ9 hl1 hl2 hl3 hl4 hl5 hl6 hl7 hl8 hl9 hl10 hl11 h
    unfold g_L_law_94 at h
    cases h
  | succ n ih =>
    intro L v1 v2 v3 v4 v5 v6 v7 v8 v9 v10 v11 μ r μ9 hl1 hl2 hl3 hl4 hl5 hl6 hl7 hl8 hl9 hl10 hl11 h
    unfold g_L_law_94 at h
    refine jr_iload jf_145_94 hl11 ?_
    refine jr_iload_n jf_145_96 rfl hl3 ?_
    replace h := ite_or h; rcases h with ⟨hc, h⟩ | ⟨hc, h⟩
    · refine jr_if2_ge_t jf_145_97 hc ?_
      refine jr_iconst jf_145_371 jc_i_1 ?_
      refine jr_aload_n jf_145_372 rfl hl1 ?_
      refine jr_iconst jf_145_373 jc_i_0 ?_
      replace h := obd_of h; obtain ⟨x1, hx1, h⟩ := h
      refine jr_iaload jf_145_374 hx1 ?_
      refine jr_iconst jf_145_375 jc_i_2 ?_
      refine jr_ishr jf_145_376 ?_
      refine jr_iconst jf_145_377 jc_i_3 ?_
      refine jr_iand jf_145_378 ?_
      refine jr_iadd jf_145_379 ?_
      refine jr_istore jf_145_380 jml_145 (by decide) ?_
      replace h := jlet_of h
      refine jr_iconst jf_145_382 jc_i_1 ?_
      refine jr_aload_n jf_145_383 rfl (jg1_ne rfl hl1) ?_
      refine jr_iconst jf_145_384 jc_i_0 ?_
      replace h := obd_of h; obtain ⟨x3, hx3, h⟩ := h
      refine jr_iaload jf_145_385 hx3 ?_
      refine jr_iconst jf_145_386 jc_i_4 ?_
      refine jr_ishr jf_145_387 ?_
      refine jr_iconst jf_145_388 jc_i_3 ?_
      refine jr_iand jf_145_389 ?_
      refine jr_iadd jf_145_390 ?_
      refine jr_istore jf_145_391 jml_145 (by decide) ?_
      replace h := jlet_of h
      refine jr_aload_n jf_145_393 rfl (jg1_ne rfl (jg1_ne rfl hl1)) ?_
      refine jr_iconst jf_145_394 jc_i_0 ?_
      replace h := obd_of h; obtain ⟨x5, hx5, h⟩ := h
      refine jr_iaload jf_145_395 hx5 ?_
      refine jr_bipush jf_145_396 jc_b_6 ?_
      refine jr_ishr jf_145_398 ?_
      refine jr_i2s jf_145_399 ?_
      refine jr_i2l jf_145_400 ?_
      refine jr_lstore jf_145_401 jml_145 (by decide) ?_
      replace h := jlet_of h
      refine jr_aload_n jf_145_403 rfl (jg2_ne rfl (jg1_ne rfl (jg1_ne rfl hl1))) ?_
      refine jr_iconst jf_145_404 jc_i_0 ?_
      replace h := obd_of h; obtain ⟨x7, hx7, h⟩ := h
      refine jr_iaload jf_145_405 hx7 ?_
      refine jr_bipush jf_145_406 jc_b_12 ?_
      refine jr_ishr jf_145_408 ?_
      refine jr_i2s jf_145_409 ?_
      refine jr_i2l jf_145_410 ?_
      refine jr_lstore jf_145_411 jml_145 (by decide) ?_
      replace h := jlet_of h
      refine jr_iload jf_145_413 (jg2_ne rfl (jg2_ne rfl (jg1_ne rfl (jg1_pre rfl hl10)))) ?_
      replace h := ite_or h; rcases h with ⟨hc, h⟩ | ⟨hc, h⟩
      · refine jr_ifz_eq_f jf_145_415 hc ?_
        refine jr_aload_n jf_145_418 rfl (jg2_ne rfl (jg2_ne rfl (jg1_ne rfl (jg1_ne rfl hl2)))) ?_
        refine jr_iconst jf_145_419 jc_i_0 ?_
        refine jr_iconst jf_145_420 jc_i_0 ?_
        refine jr_iload_n jf_145_421 rfl (jg2_ne rfl (jg2_ne rfl (jg1_ne rfl (jg1_ne rfl hl3)))) ?_
        refine jr_iconst jf_145_422 jc_i_1 ?_
        refine jr_isub jf_145_423 ?_
        refine jr_iload jf_145_424 (jg2_ne rfl (jg2_ne rfl (jg1_pre rfl jg1_same))) ?_
        refine jr_lload jf_145_426 (jg2_ne rfl jg2_same) ?_
        replace h := jgd_of h; obtain ⟨hb9, h⟩ := h
        replace h := jbd2_of h; obtain ⟨x10, μ11, hx10, h⟩ := h
        refine jr_V6_5 jf_145_428 hb9 (by omega) (r_B_loop (by omega) _ _ _ _ _ _ _ _ _ hx10) (Nat.le_of_ble_eq_true rfl) jml_39 (Nat.le_of_ble_eq_true rfl) ?_
        refine jr_iconst jf_145_431 jc_i_1 ?_
        replace h := ite_or h; rcases h with ⟨hc, h⟩ | ⟨hc, h⟩
        · refine jr_if2_ne_f jf_145_432 hc ?_
          refine jr_aload_n jf_145_435 rfl (jg2_ne rfl (jg2_ne rfl (jg1_ne rfl (jg1_ne rfl hl2)))) ?_
          refine jr_iconst jf_145_436 jc_i_0 ?_
          refine jr_iconst jf_145_437 jc_i_0 ?_
          refine jr_iconst jf_145_438 jc_i_0 ?_
          refine jr_iload jf_145_439 (jg2_ne rfl (jg2_pre rfl jg1_same)) ?_
          refine jr_lload jf_145_441 jg2_same ?_
          replace h := jgd_of h; obtain ⟨hb12, h⟩ := h
          replace h := jbd2_of h; obtain ⟨x13, μ14, hx13, h⟩ := h
          refine jr_V6_5 jf_145_443 hb12 (by omega) (r_B_loop (by omega) _ _ _ _ _ _ _ _ _ hx13) (Nat.le_of_ble_eq_true rfl) jml_39 (Nat.le_of_ble_eq_true rfl) ?_
          refine jr_iconst jf_145_446 jc_i_2 ?_
          replace h := ite_or h; rcases h with ⟨hc, h⟩ | ⟨hc, h⟩
          · refine jr_if2_ne_f jf_145_447 hc ?_
            refine jr_aload_n jf_145_450 rfl (jg2_ne rfl (jg2_ne rfl (jg1_ne rfl (jg1_ne rfl hl2)))) ?_
            refine jr_iconst jf_145_451 jc_i_0 ?_
            replace h := jgd_of h; obtain ⟨hb15, h⟩ := h
            replace h := jbd2_of h; obtain ⟨x16, μ17, hx16, h⟩ := h
            refine jr_V6_1 jf_145_452 hb15 (by omega) (r_B_keep (by omega) _ _ _ _ _ hx16) (Nat.le_of_ble_eq_true rfl) jml_107 (Nat.le_of_ble_eq_true rfl) ?_
            replace h := ite_or h; rcases h with ⟨hc, h⟩ | ⟨hc, h⟩
            · refine jr_if_ne_f jf_145_455 hc ?_
              refine jr_iconst jf_145_458 jc_i_1 ?_
              refine jr_goto jf_145_459 ?_
              exact r_L_law_463 hd _ _ _ _ _ _ _ _ _ _ _ _ _ _ true _ _ _ (jg2_ne rfl (jg2_ne rfl (jg1_ne rfl (jg1_ne rfl hl1)))) (jg2_ne rfl (jg2_ne rfl (jg1_ne rfl (jg1_ne rfl hl2)))) (jg2_ne rfl (jg2_ne rfl (jg1_ne rfl (jg1_ne rfl hl3)))) (jg2_ne rfl (jg2_ne rfl (jg1_ne rfl (jg1_ne rfl hl4)))) (jg2_ne rfl (jg2_ne rfl (jg1_ne rfl (jg1_ne rfl hl5)))) (jg2_ne rfl (jg2_ne rfl (jg1_ne rfl (jg1_ne rfl hl6)))) (jg2_ne rfl (jg2_ne rfl (jg1_ne rfl (jg1_ne rfl hl7)))) (jg2_ne rfl (jg2_ne rfl (jg1_ne rfl (jg1_ne rfl hl8)))) (jg2_ne rfl (jg2_ne rfl (jg1_ne rfl (jg1_ne rfl hl9)))) (jg2_ne rfl (jg2_ne rfl (jg1_pre rfl jg1_same))) (jg2_ne rfl (jg2_pre rfl jg1_same)) (jg2_ne rfl jg2_same) jg2_same h
            · refine jr_if_ne_t jf_145_455 hc ?_
              exact r_L_law_462 hd _ _ _ _ _ _ _ _ _ _ _ _ _ _ _ _ _ (jg2_ne rfl (jg2_ne rfl (jg1_ne rfl (jg1_ne rfl hl1)))) (jg2_ne rfl (jg2_ne rfl (jg1_ne rfl (jg1_ne rfl hl2)))) (jg2_ne rfl (jg2_ne rfl (jg1_ne rfl (jg1_ne rfl hl3)))) (jg2_ne rfl (jg2_ne rfl (jg1_ne rfl (jg1_ne rfl hl4)))) (jg2_ne rfl (jg2_ne rfl (jg1_ne rfl (jg1_ne rfl hl5)))) (jg2_ne rfl (jg2_ne rfl (jg1_ne rfl (jg1_ne rfl hl6)))) (jg2_ne rfl (jg2_ne rfl (jg1_ne rfl (jg1_ne rfl hl7)))) (jg2_ne rfl (jg2_ne rfl (jg1_ne rfl (jg1_ne rfl hl8)))) (jg2_ne rfl (jg2_ne rfl (jg1_ne rfl (jg1_ne rfl hl9)))) (jg2_ne rfl (jg2_ne rfl (jg1_pre rfl jg1_same))) (jg2_ne rfl (jg2_pre rfl jg1_same)) (jg2_ne rfl jg2_same) jg2_same h
          · refine jr_if2_ne_t jf_145_447 hc ?_
            exact r_L_law_462 hd _ _ _ _ _ _ _ _ _ _ _ _ _ _ _ _ _ (jg2_ne rfl (jg2_ne rfl (jg1_ne rfl (jg1_ne rfl hl1)))) (jg2_ne rfl (jg2_ne rfl (jg1_ne rfl (jg1_ne rfl hl2)))) (jg2_ne rfl (jg2_ne rfl (jg1_ne rfl (jg1_ne rfl hl3)))) (jg2_ne rfl (jg2_ne rfl (jg1_ne rfl (jg1_ne rfl hl4)))) (jg2_ne rfl (jg2_ne rfl (jg1_ne rfl (jg1_ne rfl hl5)))) (jg2_ne rfl (jg2_ne rfl (jg1_ne rfl (jg1_ne rfl hl6)))) (jg2_ne rfl (jg2_ne rfl (jg1_ne rfl (jg1_ne rfl hl7)))) (jg2_ne rfl (jg2_ne rfl (jg1_ne rfl (jg1_ne rfl hl8)))) (jg2_ne rfl (jg2_ne rfl (jg1_ne rfl (jg1_ne rfl hl9)))) (jg2_ne rfl (jg2_ne rfl (jg1_pre rfl jg1_same))) (jg2_ne rfl (jg2_pre rfl jg1_same)) (jg2_ne rfl jg2_same) jg2_same h
        · refine jr_if2_ne_t jf_145_432 hc ?_
          exact r_L_law_462 hd _ _ _ _ _ _ _ _ _ _ _ _ _ _ _ _ _ (jg2_ne rfl (jg2_ne rfl (jg1_ne rfl (jg1_ne rfl hl1)))) (jg2_ne rfl (jg2_ne rfl (jg1_ne rfl (jg1_ne rfl hl2)))) (jg2_ne rfl (jg2_ne rfl (jg1_ne rfl (jg1_ne rfl hl3)))) (jg2_ne rfl (jg2_ne rfl (jg1_ne rfl (jg1_ne rfl hl4)))) (jg2_ne rfl (jg2_ne rfl (jg1_ne rfl (jg1_ne rfl hl5)))) (jg2_ne rfl (jg2_ne rfl (jg1_ne rfl (jg1_ne rfl hl6)))) (jg2_ne rfl (jg2_ne rfl (jg1_ne rfl (jg1_ne rfl hl7)))) (jg2_ne rfl (jg2_ne rfl (jg1_ne rfl (jg1_ne rfl hl8)))) (jg2_ne rfl (jg2_ne rfl (jg1_ne rfl (jg1_ne rfl hl9)))) (jg2_ne rfl (jg2_ne rfl (jg1_pre rfl jg1_same))) (jg2_ne rfl (jg2_pre rfl jg1_same)) (jg2_ne rfl jg2_same) jg2_same h
      · refine jr_ifz_eq_t jf_145_415 hc ?_
        exact r_L_law_462 hd _ _ _ _ _ _ _ _ _ _ _ _ _ _ _ _ _ (jg2_ne rfl (jg2_ne rfl (jg1_ne rfl (jg1_ne rfl hl1)))) (jg2_ne rfl (jg2_ne rfl (jg1_ne rfl (jg1_ne rfl hl2)))) (jg2_ne rfl (jg2_ne rfl (jg1_ne rfl (jg1_ne rfl hl3)))) (jg2_ne rfl (jg2_ne rfl (jg1_ne rfl (jg1_ne rfl hl4)))) (jg2_ne rfl (jg2_ne rfl (jg1_ne rfl (jg1_ne rfl hl5)))) (jg2_ne rfl (jg2_ne rfl (jg1_ne rfl (jg1_ne rfl hl6)))) (jg2_ne rfl (jg2_ne rfl (jg1_ne rfl (jg1_ne rfl hl7)))) (jg2_ne rfl (jg2_ne rfl (jg1_ne rfl (jg1_ne rfl hl8)))) (jg2_ne rfl (jg2_ne rfl (jg1_ne rfl (jg1_ne rfl hl9)))) (jg2_ne rfl (jg2_ne rfl (jg1_pre rfl jg1_same))) (jg2_ne rfl (jg2_pre rfl jg1_same)) (jg2_ne rfl jg2_same) jg2_same h
    · refine jr_if2_ge_f jf_145_97 hc ?_
      refine jr_aload_n jf_145_100 rfl hl1 ?_
      refine jr_iload jf_145_101 hl11 ?_
      refine jr_iconst jf_145_103 jc_i_1 ?_
      refine jr_iadd jf_145_104 ?_
      replace h := obd_of h; obtain ⟨x18, hx18, h⟩ := h
      refine jr_iaload jf_145_105 hx18 ?_
      refine jr_istore jf_145_106 jml_145 (by decide) ?_
      refine jr_iload jf_145_108 jg1_same ?_
      refine jr_bipush jf_145_110 jc_b_7 ?_
      refine jr_iand jf_145_112 ?_
      refine jr_istore jf_145_113 jml_145 (by decide) ?_
      refine jr_aload jf_145_115 (jg1_ne rfl (jg1_ne rfl hl4)) ?_
      refine jr_iload jf_145_117 (jg1_ne rfl (jg1_pre rfl hl11)) ?_
      refine jr_iload jf_145_119 jg1_same ?_
      refine jr_iconst jf_145_121 jc_i_2 ?_
      replace h := ite_or h; rcases h with ⟨hc, h⟩ | ⟨hc, h⟩
      · refine jr_if2_ge_t jf_145_122 hc ?_
        refine jr_iload jf_145_130 jg1_same ?_
        refine jr_iconst jf_145_132 jc_i_2 ?_
        replace h := ite_or h; rcases h with ⟨hc, h⟩ | ⟨hc, h⟩
        · refine jr_if2_ne_f jf_145_133 hc ?_
          refine jr_iconst jf_145_136 jc_i_5 ?_
          refine jr_goto jf_145_137 ?_
          exact r_L_law_166 hd ih _ _ _ _ _ _ _ _ _ _ _ _ _ _ _ _ _ _ _ (jg1_ne rfl (jg1_ne rfl hl1)) (jg1_ne rfl (jg1_ne rfl hl2)) (jg1_ne rfl (jg1_ne rfl hl3)) (jg1_ne rfl (jg1_ne rfl hl4)) (jg1_ne rfl (jg1_ne rfl hl5)) (jg1_ne rfl (jg1_ne rfl hl6)) (jg1_ne rfl (jg1_ne rfl hl7)) (jg1_ne rfl (jg1_ne rfl hl8)) (jg1_ne rfl (jg1_ne rfl hl9)) (jg1_ne rfl (jg1_ne rfl hl10)) (jg1_ne rfl (jg1_pre rfl hl11)) (jg1_pre rfl jg1_same) h
        · refine jr_if2_ne_t jf_145_133 hc ?_
          refine jr_iload jf_145_140 jg1_same ?_
          refine jr_iconst jf_145_142 jc_i_3 ?_
          replace h := ite_or h; rcases h with ⟨hc, h⟩ | ⟨hc, h⟩
          · refine jr_if2_ne_f jf_145_143 hc ?_
            refine jr_bipush jf_145_146 jc_b_6 ?_
            refine jr_goto jf_145_148 ?_
            exact r_L_law_166 hd ih _ _ _ _ _ _ _ _ _ _ _ _ _ _ _ _ _ _ _ (jg1_ne rfl (jg1_ne rfl hl1)) (jg1_ne rfl (jg1_ne rfl hl2)) (jg1_ne rfl (jg1_ne rfl hl3)) (jg1_ne rfl (jg1_ne rfl hl4)) (jg1_ne rfl (jg1_ne rfl hl5)) (jg1_ne rfl (jg1_ne rfl hl6)) (jg1_ne rfl (jg1_ne rfl hl7)) (jg1_ne rfl (jg1_ne rfl hl8)) (jg1_ne rfl (jg1_ne rfl hl9)) (jg1_ne rfl (jg1_ne rfl hl10)) (jg1_ne rfl (jg1_pre rfl hl11)) (jg1_pre rfl jg1_same) h
          · refine jr_if2_ne_t jf_145_143 hc ?_
            refine jr_iload jf_145_151 jg1_same ?_
            refine jr_iconst jf_145_153 jc_i_4 ?_
            replace h := ite_or h; rcases h with ⟨hc, h⟩ | ⟨hc, h⟩
            · refine jr_if2_ne_f jf_145_154 hc ?_
              refine jr_bipush jf_145_157 jc_b_8 ?_
              refine jr_goto jf_145_159 ?_
              exact r_L_law_166 hd ih _ _ _ _ _ _ _ _ _ _ _ _ _ _ _ _ _ _ _ (jg1_ne rfl (jg1_ne rfl hl1)) (jg1_ne rfl (jg1_ne rfl hl2)) (jg1_ne rfl (jg1_ne rfl hl3)) (jg1_ne rfl (jg1_ne rfl hl4)) (jg1_ne rfl (jg1_ne rfl hl5)) (jg1_ne rfl (jg1_ne rfl hl6)) (jg1_ne rfl (jg1_ne rfl hl7)) (jg1_ne rfl (jg1_ne rfl hl8)) (jg1_ne rfl (jg1_ne rfl hl9)) (jg1_ne rfl (jg1_ne rfl hl10)) (jg1_ne rfl (jg1_pre rfl hl11)) (jg1_pre rfl jg1_same) h
            · refine jr_if2_ne_t jf_145_154 hc ?_
              refine jr_iconst jf_145_162 jc_i_4 ?_
              refine jr_iload jf_145_163 jg1_same ?_
              refine jr_iadd jf_145_165 ?_
              exact r_L_law_166 hd ih _ _ _ _ _ _ _ _ _ _ _ _ _ _ _ _ _ _ _ (jg1_ne rfl (jg1_ne rfl hl1)) (jg1_ne rfl (jg1_ne rfl hl2)) (jg1_ne rfl (jg1_ne rfl hl3)) (jg1_ne rfl (jg1_ne rfl hl4)) (jg1_ne rfl (jg1_ne rfl hl5)) (jg1_ne rfl (jg1_ne rfl hl6)) (jg1_ne rfl (jg1_ne rfl hl7)) (jg1_ne rfl (jg1_ne rfl hl8)) (jg1_ne rfl (jg1_ne rfl hl9)) (jg1_ne rfl (jg1_ne rfl hl10)) (jg1_ne rfl (jg1_pre rfl hl11)) (jg1_pre rfl jg1_same) h
      · refine jr_if2_ge_f jf_145_122 hc ?_
        refine jr_iload jf_145_125 jg1_same ?_
        refine jr_goto jf_145_127 ?_
        exact r_L_law_166 hd ih _ _ _ _ _ _ _ _ _ _ _ _ _ _ _ _ _ _ _ (jg1_ne rfl (jg1_ne rfl hl1)) (jg1_ne rfl (jg1_ne rfl hl2)) (jg1_ne rfl (jg1_ne rfl hl3)) (jg1_ne rfl (jg1_ne rfl hl4)) (jg1_ne rfl (jg1_ne rfl hl5)) (jg1_ne rfl (jg1_ne rfl hl6)) (jg1_ne rfl (jg1_ne rfl hl7)) (jg1_ne rfl (jg1_ne rfl hl8)) (jg1_ne rfl (jg1_ne rfl hl9)) (jg1_ne rfl (jg1_ne rfl hl10)) (jg1_ne rfl (jg1_pre rfl hl11)) (jg1_pre rfl jg1_same) h
set_option maxRecDepth 10000 in
set_option maxHeartbeats 4000000 in
theorem r_L_law_89 {N M B : Nat} {SA : Nat → Nat} {d : Nat} (hd : M + 8 ≤ d) : ∀ (L : JLoc) (v1 : Nat) (v2 : Nat) (v3 : Int32) (v4 : Nat) (v5 : Nat) (v6 : Nat) (v7 : Nat) (v8 : Nat) (v9 : Nat) (s0 : Bool) (μ : JMem) (r : Bool) (μ9 : JMem), jget L 1 = .ref v1 → jget L 2 = .ref v2 → jget L 3 = .int v3 → jget L 4 = .ref v4 → jget L 5 = .ref v5 → jget L 6 = .ref v6 → jget L 7 = .ref v7 → jget L 8 = .ref v8 → jget L 9 = .ref v9 → g_L_law_89 N M B SA v1 v2 v3 v4 v5 v6 v7 v8 v9 s0 μ = some (r, μ9) → jR B SA d m_L_law 89 L [.int (jb s0)] μ (some (.int (jb r))) μ9 := by
  intro L v1 v2 v3 v4 v5 v6 v7 v8 v9 s0 μ r μ9 hl1 hl2 hl3 hl4 hl5 hl6 hl7 hl8 hl9 h
  unfold g_L_law_89 at h
  refine jr_istore jf_145_89 jml_145 (by decide) ?_
  refine jr_iconst jf_145_91 jc_i_0 ?_
  refine jr_istore jf_145_92 jml_145 (by decide) ?_
  exact r_L_law_94 hd _ _ _ _ _ _ _ _ _ _ _ _ _ _ _ _ (jg1_ne rfl (jg1_ne rfl hl1)) (jg1_ne rfl (jg1_ne rfl hl2)) (jg1_ne rfl (jg1_ne rfl hl3)) (jg1_ne rfl (jg1_ne rfl hl4)) (jg1_ne rfl (jg1_ne rfl hl5)) (jg1_ne rfl (jg1_ne rfl hl6)) (jg1_ne rfl (jg1_ne rfl hl7)) (jg1_ne rfl (jg1_ne rfl hl8)) (jg1_ne rfl (jg1_pre (by first | rfl | exact rv_cat _) hl9)) (jg1_pre rfl jg1_same) jg1_same h
set_option maxRecDepth 10000 in
set_option maxHeartbeats 4000000 in
theorem r_L_law_31 {N M B : Nat} {SA : Nat → Nat} {d : Nat} (hd : M + 8 ≤ d) : ∀ (L : JLoc) (v1 : Nat) (μ : JMem) (r : Bool) (μ9 : JMem), jget L 1 = .ref v1 → g_L_law_31 N M B SA v1 μ = some (r, μ9) → jR B SA d m_L_law 31 L [] μ (some (.int (jb r))) μ9 := by
  intro L v1 μ r μ9 hl1 h
  unfold g_L_law_31 at h
  replace h := jnew_of h
  refine jr_new jf_145_31 ?_
  refine jr_dup jf_145_34 rfl ?_
  replace h := obd_of h; obtain ⟨μ3, hμ3, h⟩ := h
  refine jr_P1v_0 jf_145_35 (by omega) (r_B_init (by omega) _ _ _ hμ3) (Nat.le_of_ble_eq_true rfl) jml_0 (Nat.le_of_ble_eq_true rfl) ?_
  refine jr_astore_n jf_145_38 rfl jml_145 (by decide) ?_
  refine jr_iconst jf_145_39 jc_i_1 ?_
  refine jr_aload_n jf_145_40 rfl (jg1_pre (by first | rfl | exact rv_cat _) hl1) ?_
  refine jr_iconst jf_145_41 jc_i_0 ?_
  replace h := obd_of h; obtain ⟨x4, hx4, h⟩ := h
  refine jr_iaload jf_145_42 hx4 ?_
  refine jr_iconst jf_145_43 jc_i_3 ?_
  refine jr_iand jf_145_44 ?_
  refine jr_iadd jf_145_45 ?_
  refine jr_istore_n jf_145_46 rfl jml_145 (by decide) ?_
  replace h := jlet_of h
  refine jr_iconst jf_145_47 jc_i_4 ?_
  replace h := jbd2_of h; obtain ⟨a6, μ7, ha6, h⟩ := h
  refine jr_newarray jf_145_48 rfl ha6 ?_
  refine jr_astore jf_145_50 jml_145 (by decide) ?_
  refine jr_iconst jf_145_52 jc_i_4 ?_
  replace h := jbd2_of h; obtain ⟨a8, μ9, ha8, h⟩ := h
  refine jr_newarray jf_145_53 rfl ha8 ?_
  refine jr_astore jf_145_55 jml_145 (by decide) ?_
  refine jr_iconst jf_145_57 jc_i_4 ?_
  replace h := jbd2_of h; obtain ⟨a10, μ11, ha10, h⟩ := h
  refine jr_newarray jf_145_58 rfl ha10 ?_
  refine jr_astore jf_145_60 jml_145 (by decide) ?_
  refine jr_iconst jf_145_62 jc_i_4 ?_
  replace h := jbd2_of h; obtain ⟨a12, μ13, ha12, h⟩ := h
  refine jr_newarray jf_145_63 rfl ha12 ?_
  refine jr_astore jf_145_65 jml_145 (by decide) ?_
  refine jr_iconst jf_145_67 jc_i_4 ?_
  replace h := jbd2_of h; obtain ⟨a14, μ15, ha14, h⟩ := h
  refine jr_newarray jf_145_68 rfl ha14 ?_
  refine jr_astore jf_145_70 jml_145 (by decide) ?_
  refine jr_iconst jf_145_72 jc_i_4 ?_
  replace h := jbd2_of h; obtain ⟨a16, μ17, ha16, h⟩ := h
  refine jr_newarray jf_145_73 rfl ha16 ?_
  refine jr_astore jf_145_75 jml_145 (by decide) ?_
  refine jr_aload_n jf_145_77 rfl (jg1_ne rfl (jg1_ne rfl (jg1_ne rfl (jg1_ne rfl (jg1_ne rfl (jg1_ne rfl (jg1_pre (by first | rfl | exact rv_cat _) jg1_same))))))) ?_
  replace h := jgd_of h; obtain ⟨hb18, h⟩ := h
  replace h := jbd2_of h; obtain ⟨x19, μ20, hx19, h⟩ := h
  refine jr_V6_0 jf_145_78 hb18 (by omega) (r_B_chain (by omega) _ _ _ _ hx19) (Nat.le_of_ble_eq_true rfl) jml_29 (Nat.le_of_ble_eq_true rfl) ?_
  replace h := ite_or h; rcases h with ⟨hc, h⟩ | ⟨hc, h⟩
  · refine jr_if_ne_f jf_145_81 hc ?_
    refine jr_iconst jf_145_84 jc_i_1 ?_
    refine jr_goto jf_145_85 ?_
    exact r_L_law_89 hd _ _ _ _ _ _ _ _ _ _ true _ _ _ (jg1_ne rfl (jg1_ne rfl (jg1_ne rfl (jg1_ne rfl (jg1_ne rfl (jg1_ne rfl (jg1_ne rfl (jg1_pre (by first | rfl | exact rv_cat _) hl1)))))))) (jg1_ne rfl (jg1_ne rfl (jg1_ne rfl (jg1_ne rfl (jg1_ne rfl (jg1_ne rfl (jg1_pre (by first | rfl | exact rv_cat _) jg1_same))))))) (jg1_ne rfl (jg1_ne rfl (jg1_ne rfl (jg1_ne rfl (jg1_ne rfl (jg1_pre rfl jg1_same)))))) (jg1_ne rfl (jg1_ne rfl (jg1_ne rfl (jg1_ne rfl (jg1_pre (by first | rfl | exact rv_cat _) jg1_same))))) (jg1_ne rfl (jg1_ne rfl (jg1_ne rfl (jg1_pre (by first | rfl | exact rv_cat _) jg1_same)))) (jg1_ne rfl (jg1_ne rfl (jg1_pre (by first | rfl | exact rv_cat _) jg1_same))) (jg1_ne rfl (jg1_pre (by first | rfl | exact rv_cat _) jg1_same)) (jg1_pre (by first | rfl | exact rv_cat _) jg1_same) jg1_same h
  · refine jr_if_ne_t jf_145_81 hc ?_
    refine jr_iconst jf_145_88 jc_i_0 ?_
    exact r_L_law_89 hd _ _ _ _ _ _ _ _ _ _ false _ _ _ (jg1_ne rfl (jg1_ne rfl (jg1_ne rfl (jg1_ne rfl (jg1_ne rfl (jg1_ne rfl (jg1_ne rfl (jg1_pre (by first | rfl | exact rv_cat _) hl1)))))))) (jg1_ne rfl (jg1_ne rfl (jg1_ne rfl (jg1_ne rfl (jg1_ne rfl (jg1_ne rfl (jg1_pre (by first | rfl | exact rv_cat _) jg1_same))))))) (jg1_ne rfl (jg1_ne rfl (jg1_ne rfl (jg1_ne rfl (jg1_ne rfl (jg1_pre rfl jg1_same)))))) (jg1_ne rfl (jg1_ne rfl (jg1_ne rfl (jg1_ne rfl (jg1_pre (by first | rfl | exact rv_cat _) jg1_same))))) (jg1_ne rfl (jg1_ne rfl (jg1_ne rfl (jg1_pre (by first | rfl | exact rv_cat _) jg1_same)))) (jg1_ne rfl (jg1_ne rfl (jg1_pre (by first | rfl | exact rv_cat _) jg1_same))) (jg1_ne rfl (jg1_pre (by first | rfl | exact rv_cat _) jg1_same)) (jg1_pre (by first | rfl | exact rv_cat _) jg1_same) jg1_same h
set_option maxRecDepth 10000 in
set_option maxHeartbeats 4000000 in
theorem r_L_law_7 {N M B : Nat} {SA : Nat → Nat} {d : Nat} (hd : M + 8 ≤ d) : ∀ (n : Nat), ∀ (L : JLoc) (v0 : Option Nat) (v1 : Nat) (v2 : Int32) (μ : JMem) (r : Bool) (μ9 : JMem), jget L 0 = rv v0 → jget L 1 = .ref v1 → jget L 2 = .int v2 → g_L_law_7 N M B SA n v0 v1 v2 μ = some (r, μ9) → jR B SA d m_L_law 7 L [] μ (some (.int (jb r))) μ9 := by
  intro n
  induction n with
  | zero =>
    intro L v0 v1 v2 μ r μ9 hl0 hl1 hl2 h
    unfold g_L_law_7 at h
    cases h
  | succ n ih =>
    intro L v0 v1 v2 μ r μ9 hl0 hl1 hl2 h
    unfold g_L_law_7 at h
    refine jr_iload_n jf_145_7 rfl hl2 ?_
    refine jr_bipush jf_145_8 jc_b_60 ?_
    replace h := ite_or h; rcases h with ⟨hc, h⟩ | ⟨hc, h⟩
    · refine jr_if2_ge_t jf_145_10 hc ?_
      exact r_L_law_31 hd _ _ _ _ _ hl1 h
    · refine jr_if2_ge_f jf_145_10 hc ?_
      refine jr_iload_n jf_145_13 rfl hl2 ?_
      refine jr_aload_n_A jf_145_14 rfl hl0 ?_
      replace h := obd_of h; obtain ⟨a1, rfl, h⟩ := h
      replace h := obd_of h; obtain ⟨x2, hx2, h⟩ := h
      refine jr_arraylength jf_145_15 hx2 ?_
      replace h := ite_or h; rcases h with ⟨hc, h⟩ | ⟨hc, h⟩
      · refine jr_if2_ge_t jf_145_16 hc ?_
        exact r_L_law_31 hd _ _ _ _ _ hl1 h
      · refine jr_if2_ge_f jf_145_16 hc ?_
        refine jr_aload_n jf_145_19 rfl hl1 ?_
        refine jr_iload_n jf_145_20 rfl hl2 ?_
        refine jr_aload_n jf_145_21 rfl hl0 ?_
        refine jr_iload_n jf_145_22 rfl hl2 ?_
        replace h := obd_of h; obtain ⟨x3, hx3, h⟩ := h
        refine jr_iaload jf_145_23 hx3 ?_
        replace h := obd_of h; obtain ⟨μ4, hμ4, h⟩ := h
        refine jr_iastore jf_145_24 hμ4 ?_
        refine jr_iinc jf_145_25 jc_i_1 jml_145 (by decide) hl2 ?_
        refine jr_goto jf_145_28 ?_
        exact ih _ (some _) _ _ _ _ _ (jg1_ne rfl hl0) (jg1_pre (by first | rfl | exact rv_cat _) hl1) jg1_same h
set_option maxRecDepth 10000 in
set_option maxHeartbeats 4000000 in
theorem r_L_law_e {N M B : Nat} {SA : Nat → Nat} {d : Nat} (hd : M + 8 ≤ d) : ∀ (L : JLoc) (v0 : Option Nat) (μ : JMem) (r : Bool) (μ9 : JMem), jget L 0 = rv v0 → g_L_law N M B SA v0 μ = some (r, μ9) → jR B SA d m_L_law 0 L [] μ (some (.int (jb r))) μ9 := by
  intro L v0 μ r μ9 hl0 h
  unfold g_L_law at h
  refine jr_bipush jf_145_0 jc_b_60 ?_
  replace h := jbd2_of h; obtain ⟨a1, μ2, ha1, h⟩ := h
  refine jr_newarray jf_145_2 rfl ha1 ?_
  refine jr_astore_n jf_145_4 rfl jml_145 (by decide) ?_
  refine jr_iconst jf_145_5 jc_i_0 ?_
  refine jr_istore_n jf_145_6 rfl jml_145 (by decide) ?_
  exact r_L_law_7 hd _ _ _ _ _ _ _ _ (jg1_ne rfl (jg1_pre (by first | rfl | exact rv_cat _) hl0)) (jg1_pre (by first | rfl | exact rv_cat _) jg1_same) jg1_same h
set_option maxRecDepth 10000 in
set_option maxHeartbeats 4000000 in
theorem r_L_law {N M B : Nat} {SA : Nat → Nat} {d : Nat} (hd : M + 8 ≤ d) : ∀ (v0 : Option Nat) (μ : JMem) (r : Bool) (μ9 : JMem), g_L_law N M B SA v0 μ = some (r, μ9) → jR B SA d m_L_law 0 (lv_args 0 [rv v0]) [] μ (some (.int (jb r))) μ9 := by
  intro v0 μ r μ9 h
  exact r_L_law_e hd (lv_args 0 _) _ _ _ _ (by simp [lv_args, jget, rv_cat, cat_int, cat_long, cat_double, cat_float, cat_ref]) h
