/-! the machine refines the functions (printed by wip/p28/dec.py) -/
/-! FilterBench$Chain.madeLast()J -/
set_option maxRecDepth 10000 in
set_option maxHeartbeats 4000000 in
theorem r_Chain_madeLast_e {B : Nat} {SA : Nat → Nat} {d : Nat} (hd : 1 ≤ d) : ∀ (L : JLoc) (v0 : Nat) (μ : JMem) (r : Int64), jget L 0 = .ref v0 → g_Chain_madeLast v0 μ.1 = some r → jR B SA d m_Chain_madeLast 0 L [] μ (some (.long r)) μ := by
  intro L v0 μ r hl0 h
  unfold g_Chain_madeLast at h
  refine jr_aload_n jf_75_0 rfl hl0 ?_
  refine jr_iconst jf_75_1 jc_i_0 ?_
  replace h := jgd_of h; obtain ⟨hb1, h⟩ := h
  replace h := obd_of h; obtain ⟨x2, hx2, h⟩ := h
  refine jr_V6_1 jf_75_2 hb1 (by omega) (r_Chain_madeBefore (by omega) _ _ _ _ hx2) (Nat.le_of_ble_eq_true rfl) jml_76 (Nat.le_of_ble_eq_true rfl) ?_
  obtain rfl := Option.some.inj h
  exact jr_retJ jf_75_5 jmt_75
set_option maxRecDepth 10000 in
set_option maxHeartbeats 4000000 in
theorem r_Chain_madeLast {B : Nat} {SA : Nat → Nat} {d : Nat} (hd : 1 ≤ d) : ∀ (v0 : Nat) (μ : JMem) (r : Int64), g_Chain_madeLast v0 μ.1 = some r → jR B SA d m_Chain_madeLast 0 (lv_args 0 [.ref v0]) [] μ (some (.long r)) μ := by
  intro v0 μ r h
  exact r_Chain_madeLast_e hd (lv_args 0 _) _ _ _ (by simp [lv_args, jget, rv_cat, cat_int, cat_long, cat_double, cat_float, cat_ref]) h
/-! FilterBench$Row.push(J)V -/
set_option maxRecDepth 10000 in
set_option maxHeartbeats 4000000 in
theorem r_Row_push_31 {B : Nat} {SA : Nat → Nat} {d : Nat} (hd : 2 ≤ d) : ∀ (L : JLoc) (s0 : Int32) (s1 : Nat) (μ : JMem) (μ9 : JMem), g_Row_push_31 B s0 s1 μ = some μ9 → jR B SA d m_Row_push 31 L [.int s0, .ref s1] μ none μ9 := by
  intro L s0 s1 μ μ9 h
  unfold g_Row_push_31 at h
  replace h := obd_of h; obtain ⟨μ1, hμ1, h⟩ := h
  refine jr_putI jf_89_31 rfl hμ1 ?_
  obtain rfl := Option.some.inj h
  exact jr_return jf_89_34 jmt_89
set_option maxRecDepth 10000 in
set_option maxHeartbeats 4000000 in
theorem r_Row_push_e {B : Nat} {SA : Nat → Nat} {d : Nat} (hd : 2 ≤ d) : ∀ (L : JLoc) (v0 : Nat) (v1 : Int64) (μ : JMem) (μ9 : JMem), jget L 0 = .ref v0 → jget L 1 = .long v1 → g_Row_push B v0 v1 μ = some μ9 → jR B SA d m_Row_push 0 L [] μ none μ9 := by
  intro L v0 v1 μ μ9 hl0 hl1 h
  unfold g_Row_push at h
  refine jr_aload_n jf_89_0 rfl hl0 ?_
  refine jr_iconst jf_89_1 jc_i_0 ?_
  refine jr_lload_n jf_89_2 rfl hl1 ?_
  replace h := jgd_of h; obtain ⟨hb1, h⟩ := h
  replace h := obd_of h; obtain ⟨μ2, hμ2, h⟩ := h
  refine jr_V6v_2 jf_89_3 hb1 (by omega) (r_Row_put (by omega) _ _ _ _ _ hμ2) (Nat.le_of_ble_eq_true rfl) jml_50 (Nat.le_of_ble_eq_true rfl) ?_
  refine jr_aload_n jf_89_6 rfl hl0 ?_
  refine jr_aload_n jf_89_7 rfl hl0 ?_
  replace h := obd_of h; obtain ⟨x3, hx3, h⟩ := h
  refine jr_getI jf_89_8 hx3 ?_
  refine jr_iconst jf_89_11 jc_i_1 ?_
  refine jr_iadd jf_89_12 ?_
  refine jr_aload_n jf_89_13 rfl hl0 ?_
  replace h := obd_of h; obtain ⟨x4, hx4, h⟩ := h
  refine jr_getA jf_89_14 hx4 ?_
  replace h := obd_of h; obtain ⟨a5, rfl, h⟩ := h
  replace h := obd_of h; obtain ⟨x6, hx6, h⟩ := h
  refine jr_arraylength jf_89_17 hx6 ?_
  replace h := ite_or h; rcases h with ⟨hc, h⟩ | ⟨hc, h⟩
  · refine jr_if2_lt_t jf_89_18 hc ?_
    refine jr_aload_n jf_89_25 rfl hl0 ?_
    replace h := obd_of h; obtain ⟨x7, hx7, h⟩ := h
    refine jr_getI jf_89_26 hx7 ?_
    refine jr_iconst jf_89_29 jc_i_1 ?_
    refine jr_iadd jf_89_30 ?_
    exact r_Row_push_31 hd _ _ _ _ _ h
  · refine jr_if2_lt_f jf_89_18 hc ?_
    refine jr_iconst jf_89_21 jc_i_0 ?_
    refine jr_goto jf_89_22 ?_
    exact r_Row_push_31 hd _ _ _ _ _ h
set_option maxRecDepth 10000 in
set_option maxHeartbeats 4000000 in
theorem r_Row_push {B : Nat} {SA : Nat → Nat} {d : Nat} (hd : 2 ≤ d) : ∀ (v0 : Nat) (v1 : Int64) (μ : JMem) (μ9 : JMem), g_Row_push B v0 v1 μ = some μ9 → jR B SA d m_Row_push 0 (lv_args 0 [.ref v0, .long v1]) [] μ none μ9 := by
  intro v0 v1 μ μ9 h
  exact r_Row_push_e hd (lv_args 0 _) _ _ _ _ (by simp [lv_args, jget, rv_cat, cat_int, cat_long, cat_double, cat_float, cat_ref]) (by simp [lv_args, jget, rv_cat, cat_int, cat_long, cat_double, cat_float, cat_ref]) h
/-! FilterBench$Chain.note(IJ)V -/
set_option maxRecDepth 10000 in
set_option maxHeartbeats 4000000 in
theorem r_Chain_note_43 {N B : Nat} {SA : Nat → Nat} {d : Nat} (hd : 3 ≤ d) {k3 : Nat → Int32 → Int64 → Int32 → JMem → Option JMem} (i3 : ∀ (L : JLoc) (v0 : Nat) (v1 : Int32) (v2 : Int64) (v4 : Int32) (μ : JMem) (μ9 : JMem), jget L 0 = .ref v0 → jget L 1 = .int v1 → jget L 2 = .long v2 → jget L 4 = .int v4 → k3 v0 v1 v2 v4 μ = some μ9 → jR B SA d m_Chain_note 3 L [] μ none μ9) : ∀ (L : JLoc) (v0 : Nat) (v1 : Int32) (v2 : Int64) (v4 : Int32) (μ : JMem) (μ9 : JMem), jget L 0 = .ref v0 → jget L 1 = .int v1 → jget L 2 = .long v2 → jget L 4 = .int v4 → g_Chain_note_43 N B k3 v0 v1 v2 v4 μ = some μ9 → jR B SA d m_Chain_note 43 L [] μ none μ9 := by
  intro L v0 v1 v2 v4 μ μ9 hl0 hl1 hl2 hl4 h
  unfold g_Chain_note_43 at h
  refine jr_iinc jf_103_43 jc_i_1 jml_103 (by decide) hl4 ?_
  refine jr_goto jf_103_46 ?_
  exact i3 _ _ _ _ _ _ _ (jg1_ne rfl hl0) (jg1_ne rfl hl1) (jg1_ne rfl hl2) jg1_same h
set_option maxRecDepth 10000 in
set_option maxHeartbeats 4000000 in
theorem r_Chain_note_3 {N B : Nat} {SA : Nat → Nat} {d : Nat} (hd : 3 ≤ d) : ∀ (n : Nat), ∀ (L : JLoc) (v0 : Nat) (v1 : Int32) (v2 : Int64) (v4 : Int32) (μ : JMem) (μ9 : JMem), jget L 0 = .ref v0 → jget L 1 = .int v1 → jget L 2 = .long v2 → jget L 4 = .int v4 → g_Chain_note_3 N B n v0 v1 v2 v4 μ = some μ9 → jR B SA d m_Chain_note 3 L [] μ none μ9 := by
  intro n
  induction n with
  | zero =>
    intro L v0 v1 v2 v4 μ μ9 hl0 hl1 hl2 hl4 h
    unfold g_Chain_note_3 at h
    cases h
  | succ n ih =>
    intro L v0 v1 v2 v4 μ μ9 hl0 hl1 hl2 hl4 h
    unfold g_Chain_note_3 at h
    refine jr_iload jf_103_3 hl4 ?_
    refine jr_aload_n jf_103_5 rfl hl0 ?_
    replace h := obd_of h; obtain ⟨x1, hx1, h⟩ := h
    refine jr_getI jf_103_6 hx1 ?_
    replace h := ite_or h; rcases h with ⟨hc, h⟩ | ⟨hc, h⟩
    · refine jr_if2_ge_t jf_103_9 hc ?_
      obtain rfl := Option.some.inj h
      exact jr_return jf_103_49 jmt_103
    · refine jr_if2_ge_f jf_103_9 hc ?_
      refine jr_aload_n jf_103_12 rfl hl0 ?_
      refine jr_iload jf_103_13 hl4 ?_
      replace h := jgd_of h; obtain ⟨hb2, h⟩ := h
      replace h := obd_of h; obtain ⟨x3, hx3, h⟩ := h
      refine jr_V6_1 jf_103_15 hb2 (by omega) (r_Chain_loopAt (by omega) _ _ _ _ hx3) (Nat.le_of_ble_eq_true rfl) jml_52 (Nat.le_of_ble_eq_true rfl) ?_
      refine jr_astore_A jf_103_18 jml_103 (by decide) ?_
      refine jr_aload_A jf_103_20 jg1_same ?_
      replace h := jon_or h; rcases h with ⟨rfl, h⟩ | ⟨a4, rfl, h⟩
      · refine jr_ifnull_n jf_103_22 ?_
        exact r_Chain_note_43 hd ih _ _ _ _ _ _ _ (jg1_ne rfl hl0) (jg1_ne rfl hl1) (jg1_ne rfl hl2) (jg1_pre rfl hl4) h
      · refine jr_ifnull_s jf_103_22 ?_
        refine jr_aload jf_103_25 jg1_same ?_
        replace h := obd_of h; obtain ⟨x5, hx5, h⟩ := h
        refine jr_getI jf_103_27 hx5 ?_
        refine jr_iload_n jf_103_30 rfl (jg1_ne rfl hl1) ?_
        replace h := ite_or h; rcases h with ⟨hc, h⟩ | ⟨hc, h⟩
        · refine jr_if2_ne_f jf_103_31 hc ?_
          refine jr_aload jf_103_34 jg1_same ?_
          replace h := obd_of h; obtain ⟨x6, hx6, h⟩ := h
          refine jr_getA jf_103_36 hx6 ?_
          refine jr_lload_n jf_103_39 rfl (jg1_ne rfl hl2) ?_
          replace h := obd_of h; obtain ⟨a7, rfl, h⟩ := h
          replace h := jgd_of h; obtain ⟨hb8, h⟩ := h
          replace h := obd_of h; obtain ⟨μ9, hμ9, h⟩ := h
          refine jr_V6v_1 jf_103_40 hb8 (by omega) (r_Row_push (by omega) _ _ _ _ hμ9) (Nat.le_of_ble_eq_true rfl) jml_89 (Nat.le_of_ble_eq_true rfl) ?_
          exact r_Chain_note_43 hd ih _ _ _ _ _ _ _ (jg1_ne rfl hl0) (jg1_ne rfl hl1) (jg1_ne rfl hl2) (jg1_pre rfl hl4) h
        · refine jr_if2_ne_t jf_103_31 hc ?_
          exact r_Chain_note_43 hd ih _ _ _ _ _ _ _ (jg1_ne rfl hl0) (jg1_ne rfl hl1) (jg1_ne rfl hl2) (jg1_pre rfl hl4) h
set_option maxRecDepth 10000 in
set_option maxHeartbeats 4000000 in
theorem r_Chain_note_e {N B : Nat} {SA : Nat → Nat} {d : Nat} (hd : 3 ≤ d) : ∀ (L : JLoc) (v0 : Nat) (v1 : Int32) (v2 : Int64) (μ : JMem) (μ9 : JMem), jget L 0 = .ref v0 → jget L 1 = .int v1 → jget L 2 = .long v2 → g_Chain_note N B v0 v1 v2 μ = some μ9 → jR B SA d m_Chain_note 0 L [] μ none μ9 := by
  intro L v0 v1 v2 μ μ9 hl0 hl1 hl2 h
  unfold g_Chain_note at h
  refine jr_iconst jf_103_0 jc_i_0 ?_
  refine jr_istore jf_103_1 jml_103 (by decide) ?_
  exact r_Chain_note_3 hd _ _ _ _ _ _ _ _ (jg1_ne rfl hl0) (jg1_ne rfl hl1) (jg1_ne rfl hl2) jg1_same h
set_option maxRecDepth 10000 in
set_option maxHeartbeats 4000000 in
theorem r_Chain_note {N B : Nat} {SA : Nat → Nat} {d : Nat} (hd : 3 ≤ d) : ∀ (v0 : Nat) (v1 : Int32) (v2 : Int64) (μ : JMem) (μ9 : JMem), g_Chain_note N B v0 v1 v2 μ = some μ9 → jR B SA d m_Chain_note 0 (lv_args 0 [.ref v0, .int v1, .long v2]) [] μ none μ9 := by
  intro v0 v1 v2 μ μ9 h
  exact r_Chain_note_e hd (lv_args 0 _) _ _ _ _ _ (by simp [lv_args, jget, rv_cat, cat_int, cat_long, cat_double, cat_float, cat_ref]) (by simp [lv_args, jget, rv_cat, cat_int, cat_long, cat_double, cat_float, cat_ref]) (by simp [lv_args, jget, rv_cat, cat_int, cat_long, cat_double, cat_float, cat_ref]) h
/-! FilterBench$Section.letsThrough()Z -/
set_option maxRecDepth 10000 in
set_option maxHeartbeats 4000000 in
theorem r_Section_letsThrough_33 {B : Nat} {SA : Nat → Nat} {d : Nat} (hd : 2 ≤ d) : ∀ (L : JLoc) (v1 : Int64) (s0 : Int64) (s2 : Option Nat) (μ : JMem) (r : Bool) (μ9 : JMem), jget L 1 = .long v1 → g_Section_letsThrough_33 B v1 s0 s2 μ = some (r, μ9) → jR B SA d m_Section_letsThrough 33 L [.long s0, .int (0), rv s2] μ (some (.int (jb r))) μ9 := by
  intro L v1 s0 s2 μ r μ9 hl1 h
  unfold g_Section_letsThrough_33 at h
  replace h := obd_of h; obtain ⟨a1, rfl, h⟩ := h
  replace h := jgd_of h; obtain ⟨hb2, h⟩ := h
  replace h := obd_of h; obtain ⟨μ3, hμ3, h⟩ := h
  refine jr_V6v_2 jf_49_33 hb2 (by omega) (r_Row_put (by omega) _ _ _ _ _ hμ3) (Nat.le_of_ble_eq_true rfl) jml_50 (Nat.le_of_ble_eq_true rfl) ?_
  refine jr_lload_n jf_49_36 rfl hl1 ?_
  refine jr_lconst0 jf_49_37 ?_
  refine jr_lcmp jf_49_38 ?_
  replace h := ite_or h; rcases h with ⟨hc, h⟩ | ⟨hc, h⟩
  · refine jr_ifl_ne_f jf_49_39 hc ?_
    refine jr_iconst jf_49_42 jc_i_1 ?_
    refine jr_goto jf_49_43 ?_
    obtain ⟨rfl, rfl⟩ := Prod.mk.inj (Option.some.inj h)
    exact jr_retZ (x := true) jf_49_47 jmt_49
  · refine jr_ifl_ne_t jf_49_39 hc ?_
    refine jr_iconst jf_49_46 jc_i_0 ?_
    obtain ⟨rfl, rfl⟩ := Prod.mk.inj (Option.some.inj h)
    exact jr_retZ (x := false) jf_49_47 jmt_49
set_option maxRecDepth 10000 in
set_option maxHeartbeats 4000000 in
theorem r_Section_letsThrough_e {B : Nat} {SA : Nat → Nat} {d : Nat} (hd : 2 ≤ d) : ∀ (L : JLoc) (v0 : Nat) (μ : JMem) (r : Bool) (μ9 : JMem), jget L 0 = .ref v0 → g_Section_letsThrough B v0 μ = some (r, μ9) → jR B SA d m_Section_letsThrough 0 L [] μ (some (.int (jb r))) μ9 := by
  intro L v0 μ r μ9 hl0 h
  unfold g_Section_letsThrough at h
  refine jr_aload_n jf_49_0 rfl hl0 ?_
  replace h := obd_of h; obtain ⟨x1, hx1, h⟩ := h
  refine jr_getA jf_49_1 hx1 ?_
  refine jr_iconst jf_49_4 jc_i_0 ?_
  replace h := obd_of h; obtain ⟨a2, rfl, h⟩ := h
  replace h := jgd_of h; obtain ⟨hb3, h⟩ := h
  replace h := obd_of h; obtain ⟨x4, hx4, h⟩ := h
  refine jr_V6_1 jf_49_5 hb3 (by omega) (r_Row_at (by omega) _ _ _ _ hx4) (Nat.le_of_ble_eq_true rfl) jml_23 (Nat.le_of_ble_eq_true rfl) ?_
  refine jr_lstore_n jf_49_8 rfl jml_49 (by decide) ?_
  refine jr_aload_n jf_49_9 rfl (jg2_pre (by first | rfl | exact rv_cat _) hl0) ?_
  replace h := obd_of h; obtain ⟨x5, hx5, h⟩ := h
  refine jr_getA jf_49_10 hx5 ?_
  refine jr_iconst jf_49_13 jc_i_0 ?_
  refine jr_lload_n jf_49_14 rfl jg2_same ?_
  refine jr_lconst1 jf_49_15 ?_
  refine jr_ladd jf_49_16 ?_
  refine jr_aload_n jf_49_17 rfl (jg2_pre (by first | rfl | exact rv_cat _) hl0) ?_
  replace h := obd_of h; obtain ⟨x6, hx6, h⟩ := h
  refine jr_getI jf_49_18 hx6 ?_
  refine jr_i2l jf_49_21 ?_
  refine jr_lcmp jf_49_22 ?_
  replace h := ite_or h; rcases h with ⟨hc, h⟩ | ⟨hc, h⟩
  · refine jr_ifl_lt_t jf_49_23 hc ?_
    refine jr_lload_n jf_49_30 rfl jg2_same ?_
    refine jr_lconst1 jf_49_31 ?_
    refine jr_ladd jf_49_32 ?_
    exact r_Section_letsThrough_33 hd _ _ _ _ _ _ _ jg2_same h
  · refine jr_ifl_lt_f jf_49_23 hc ?_
    refine jr_lconst0 jf_49_26 ?_
    refine jr_goto jf_49_27 ?_
    exact r_Section_letsThrough_33 hd _ _ _ _ _ _ _ jg2_same h
set_option maxRecDepth 10000 in
set_option maxHeartbeats 4000000 in
theorem r_Section_letsThrough {B : Nat} {SA : Nat → Nat} {d : Nat} (hd : 2 ≤ d) : ∀ (v0 : Nat) (μ : JMem) (r : Bool) (μ9 : JMem), g_Section_letsThrough B v0 μ = some (r, μ9) → jR B SA d m_Section_letsThrough 0 (lv_args 0 [.ref v0]) [] μ (some (.int (jb r))) μ9 := by
  intro v0 μ r μ9 h
  exact r_Section_letsThrough_e hd (lv_args 0 _) _ _ _ _ (by simp [lv_args, jget, rv_cat, cat_int, cat_long, cat_double, cat_float, cat_ref]) h
/-! java/lang/Long.compare(JJ)I -/
set_option maxRecDepth 10000 in
set_option maxHeartbeats 4000000 in
theorem r_JLong_compare_e {B : Nat} {SA : Nat → Nat} {d : Nat} (hd : 0 ≤ d) : ∀ (L : JLoc) (v0 : Int64) (v2 : Int64) (μ : JMem) (r : Int32), jget L 0 = .long v0 → jget L 2 = .long v2 → g_JLong_compare v0 v2 = r → jR B SA d m_JLong_compare 0 L [] μ (some (.int r)) μ := by
  intro L v0 v2 μ r hl0 hl2 h
  unfold g_JLong_compare at h
  refine jr_lload_n jf_97_0 rfl hl0 ?_
  refine jr_lload_n jf_97_1 rfl hl2 ?_
  refine jr_lcmp jf_97_2 ?_
  replace h := ite_or h; rcases h with ⟨hc, h⟩ | ⟨hc, h⟩
  · refine jr_ifl_ge_t jf_97_3 hc ?_
    refine jr_lload_n jf_97_10 rfl hl0 ?_
    refine jr_lload_n jf_97_11 rfl hl2 ?_
    refine jr_lcmp jf_97_12 ?_
    replace h := ite_or h; rcases h with ⟨hc, h⟩ | ⟨hc, h⟩
    · refine jr_ifl_ne_f jf_97_13 hc ?_
      refine jr_iconst jf_97_16 jc_i_0 ?_
      refine jr_goto jf_97_17 ?_
      subst h
      exact jr_retI jf_97_21 jmt_97
    · refine jr_ifl_ne_t jf_97_13 hc ?_
      refine jr_iconst jf_97_20 jc_i_1 ?_
      subst h
      exact jr_retI jf_97_21 jmt_97
  · refine jr_ifl_ge_f jf_97_3 hc ?_
    refine jr_iconst jf_97_6 jc_i_m1 ?_
    refine jr_goto jf_97_7 ?_
    subst h
    exact jr_retI jf_97_21 jmt_97
set_option maxRecDepth 10000 in
set_option maxHeartbeats 4000000 in
theorem r_JLong_compare {B : Nat} {SA : Nat → Nat} {d : Nat} (hd : 0 ≤ d) : ∀ (v0 : Int64) (v2 : Int64) (μ : JMem) (r : Int32), g_JLong_compare v0 v2 = r → jR B SA d m_JLong_compare 0 (lv_args 0 [.long v0, .long v2]) [] μ (some (.int r)) μ := by
  intro v0 v2 μ r h
  exact r_JLong_compare_e hd (lv_args 0 _) _ _ _ _ (by simp [lv_args, jget, rv_cat, cat_int, cat_long, cat_double, cat_float, cat_ref]) (by simp [lv_args, jget, rv_cat, cat_int, cat_long, cat_double, cat_float, cat_ref]) h
/-! FilterBench$Real.compared(JJ)I -/
set_option maxRecDepth 10000 in
set_option maxHeartbeats 4000000 in
theorem r_Real_compared_32 {B : Nat} {SA : Nat → Nat} {d : Nat} (hd : 1 ≤ d) : ∀ (L : JLoc) (s0 : Int64) (s1 : Int64) (μ : JMem) (r : Int32), g_Real_compared_32 s0 s1 μ.1 = some r → jR B SA d m_Real_compared 32 L [.long s0, .long s1] μ (some (.int r)) μ := by
  intro L s0 s1 μ r h
  unfold g_Real_compared_32 at h
  refine jr_S3_2 jf_96_32 (by omega) (r_JLong_compare (by omega) _ _ _ _ rfl) (Nat.le_of_ble_eq_true rfl) jml_97 (Nat.le_of_ble_eq_true rfl) ?_
  obtain rfl := Option.some.inj h
  exact jr_retI jf_96_35 jmt_96
set_option maxRecDepth 10000 in
set_option maxHeartbeats 4000000 in
theorem r_Real_compared_16 {B : Nat} {SA : Nat → Nat} {d : Nat} (hd : 1 ≤ d) : ∀ (L : JLoc) (v0 : Nat) (v3 : Int64) (s0 : Int64) (μ : JMem) (r : Int32), jget L 0 = .ref v0 → jget L 3 = .long v3 → g_Real_compared_16 v0 v3 s0 μ.1 = some r → jR B SA d m_Real_compared 16 L [.long s0] μ (some (.int r)) μ := by
  intro L v0 v3 s0 μ r hl0 hl3 h
  unfold g_Real_compared_16 at h
  refine jr_lload_n jf_96_16 rfl hl3 ?_
  refine jr_lconst0 jf_96_17 ?_
  refine jr_lcmp jf_96_18 ?_
  replace h := ite_or h; rcases h with ⟨hc, h⟩ | ⟨hc, h⟩
  · refine jr_ifl_ge_t jf_96_19 hc ?_
    refine jr_lload_n jf_96_31 rfl hl3 ?_
    exact r_Real_compared_32 hd _ _ _ _ _ h
  · refine jr_ifl_ge_f jf_96_19 hc ?_
    refine jr_aload_n jf_96_22 rfl hl0 ?_
    refine jr_lload_n jf_96_23 rfl hl3 ?_
    replace h := jgd_of h; obtain ⟨hb1, h⟩ := h
    replace h := obd_of h; obtain ⟨x2, hx2, h⟩ := h
    refine jr_V6_1 jf_96_24 hb1 (by omega) (r_Real_sizeOf (by omega) _ _ _ _ hx2) (Nat.le_of_ble_eq_true rfl) jml_54 (Nat.le_of_ble_eq_true rfl) ?_
    refine jr_lneg jf_96_27 ?_
    refine jr_goto jf_96_28 ?_
    exact r_Real_compared_32 hd _ _ _ _ _ h
set_option maxRecDepth 10000 in
set_option maxHeartbeats 4000000 in
theorem r_Real_compared_e {B : Nat} {SA : Nat → Nat} {d : Nat} (hd : 1 ≤ d) : ∀ (L : JLoc) (v0 : Nat) (v1 : Int64) (v3 : Int64) (μ : JMem) (r : Int32), jget L 0 = .ref v0 → jget L 1 = .long v1 → jget L 3 = .long v3 → g_Real_compared v0 v1 v3 μ.1 = some r → jR B SA d m_Real_compared 0 L [] μ (some (.int r)) μ := by
  intro L v0 v1 v3 μ r hl0 hl1 hl3 h
  unfold g_Real_compared at h
  refine jr_lload_n jf_96_0 rfl hl1 ?_
  refine jr_lconst0 jf_96_1 ?_
  refine jr_lcmp jf_96_2 ?_
  replace h := ite_or h; rcases h with ⟨hc, h⟩ | ⟨hc, h⟩
  · refine jr_ifl_ge_t jf_96_3 hc ?_
    refine jr_lload_n jf_96_15 rfl hl1 ?_
    exact r_Real_compared_16 hd _ _ _ _ _ _ hl0 hl3 h
  · refine jr_ifl_ge_f jf_96_3 hc ?_
    refine jr_aload_n jf_96_6 rfl hl0 ?_
    refine jr_lload_n jf_96_7 rfl hl1 ?_
    replace h := jgd_of h; obtain ⟨hb1, h⟩ := h
    replace h := obd_of h; obtain ⟨x2, hx2, h⟩ := h
    refine jr_V6_1 jf_96_8 hb1 (by omega) (r_Real_sizeOf (by omega) _ _ _ _ hx2) (Nat.le_of_ble_eq_true rfl) jml_54 (Nat.le_of_ble_eq_true rfl) ?_
    refine jr_lneg jf_96_11 ?_
    refine jr_goto jf_96_12 ?_
    exact r_Real_compared_16 hd _ _ _ _ _ _ hl0 hl3 h
set_option maxRecDepth 10000 in
set_option maxHeartbeats 4000000 in
theorem r_Real_compared {B : Nat} {SA : Nat → Nat} {d : Nat} (hd : 1 ≤ d) : ∀ (v0 : Nat) (v1 : Int64) (v3 : Int64) (μ : JMem) (r : Int32), g_Real_compared v0 v1 v3 μ.1 = some r → jR B SA d m_Real_compared 0 (lv_args 0 [.ref v0, .long v1, .long v3]) [] μ (some (.int r)) μ := by
  intro v0 v1 v3 μ r h
  exact r_Real_compared_e hd (lv_args 0 _) _ _ _ _ _ (by simp [lv_args, jget, rv_cat, cat_int, cat_long, cat_double, cat_float, cat_ref]) (by simp [lv_args, jget, rv_cat, cat_int, cat_long, cat_double, cat_float, cat_ref]) (by simp [lv_args, jget, rv_cat, cat_int, cat_long, cat_double, cat_float, cat_ref]) h
/-! FilterBench$Shorts.compared(JJ)I -/
set_option maxRecDepth 10000 in
set_option maxHeartbeats 4000000 in
theorem r_Shorts_compared_e {B : Nat} {SA : Nat → Nat} {d : Nat} (hd : 1 ≤ d) : ∀ (L : JLoc) (v1 : Int64) (v3 : Int64) (μ : JMem) (r : Int32), jget L 1 = .long v1 → jget L 3 = .long v3 → g_Shorts_compared_e v1 v3 = r → jR B SA d m_Shorts_compared 0 L [] μ (some (.int r)) μ := by
  intro L v1 v3 μ r hl1 hl3 h
  unfold g_Shorts_compared_e at h
  refine jr_lload_n jf_98_0 rfl hl1 ?_
  refine jr_lload_n jf_98_1 rfl hl3 ?_
  refine jr_S3_2 jf_98_2 (by omega) (r_JLong_compare (by omega) _ _ _ _ rfl) (Nat.le_of_ble_eq_true rfl) jml_97 (Nat.le_of_ble_eq_true rfl) ?_
  subst h
  exact jr_retI jf_98_5 jmt_98
set_option maxRecDepth 10000 in
set_option maxHeartbeats 4000000 in
theorem r_Shorts_compared {B : Nat} {SA : Nat → Nat} {d : Nat} (hd : 1 ≤ d) : ∀ (v0 : Nat) (v1 : Int64) (v3 : Int64) (μ : JMem) (r : Int32), g_Shorts_compared v0 v1 v3 = r → jR B SA d m_Shorts_compared 0 (lv_args 0 [.ref v0, .long v1, .long v3]) [] μ (some (.int r)) μ := by
  intro v0 v1 v3 μ r h
  exact r_Shorts_compared_e hd (lv_args 0 _) _ _ _ _ (by simp [lv_args, jget, rv_cat, cat_int, cat_long, cat_double, cat_float, cat_ref]) (by simp [lv_args, jget, rv_cat, cat_int, cat_long, cat_double, cat_float, cat_ref]) h
/-! FilterBench$Shorts.isNumber(J)Z -/
set_option maxRecDepth 10000 in
set_option maxHeartbeats 4000000 in
theorem r_Shorts_isNumber_e {B : Nat} {SA : Nat → Nat} {d : Nat} (hd : 0 ≤ d) : ∀ (L : JLoc) (μ : JMem) (r : Bool), g_Shorts_isNumber_e = r → jR B SA d m_Shorts_isNumber 0 L [] μ (some (.int (jb r))) μ := by
  intro L μ r h
  unfold g_Shorts_isNumber_e at h
  refine jr_iconst jf_95_0 jc_i_1 ?_
  subst h
  exact jr_retZ (x := true) jf_95_1 jmt_95
set_option maxRecDepth 10000 in
set_option maxHeartbeats 4000000 in
theorem r_Shorts_isNumber {B : Nat} {SA : Nat → Nat} {d : Nat} (hd : 0 ≤ d) : ∀ (v0 : Nat) (v1 : Int64) (μ : JMem) (r : Bool), g_Shorts_isNumber v0 v1 = r → jR B SA d m_Shorts_isNumber 0 (lv_args 0 [.ref v0, .long v1]) [] μ (some (.int (jb r))) μ := by
  intro v0 v1 μ r h
  exact r_Shorts_isNumber_e hd (lv_args 0 _)  _ _  h
/-! FilterBench$Numbers.above(JJ)Z -/
set_option maxRecDepth 10000 in
set_option maxHeartbeats 4000000 in
theorem r_Numbers_above_e {B : Nat} {SA : Nat → Nat} {d : Nat} (hd : 2 ≤ d) : ∀ (L : JLoc) (v0 : Nat) (v1 : Int64) (v3 : Int64) (μ : JMem) (r : Bool), jget L 0 = .ref v0 → jget L 1 = .long v1 → jget L 3 = .long v3 → g_Numbers_above v0 v1 v3 μ.1 = some r → jR B SA d m_Numbers_above 0 L [] μ (some (.int (jb r))) μ := by
  intro L v0 v1 v3 μ r hl0 hl1 hl3 h
  unfold g_Numbers_above at h
  refine jr_aload_n jf_94_0 rfl hl0 ?_
  refine jr_lload_n jf_94_1 rfl hl1 ?_
  replace h := obd_of h; obtain ⟨x1, hx1, h⟩ := h
  rcases ite_or hx1 with ⟨hb, hx⟩ | ⟨hb0, hx⟩
  · refine jr_V8a_1 jf_94_2 hb (by omega) (r_Real_isNumber (by omega) _ _ _ _ hx) (Nat.le_of_ble_eq_true rfl) jml_18 (Nat.le_of_ble_eq_true rfl) ?_
    replace h := ite_or h; rcases h with ⟨hc, h⟩ | ⟨hc, h⟩
    · refine jr_ifz_eq_f jf_94_5 hc ?_
      refine jr_aload_n jf_94_8 rfl hl0 ?_
      refine jr_lload_n jf_94_9 rfl hl3 ?_
      replace h := obd_of h; obtain ⟨x2, hx2, h⟩ := h
      rcases ite_or hx2 with ⟨hb, hx⟩ | ⟨hb0, hx⟩
      · refine jr_V8a_1 jf_94_10 hb (by omega) (r_Real_isNumber (by omega) _ _ _ _ hx) (Nat.le_of_ble_eq_true rfl) jml_18 (Nat.le_of_ble_eq_true rfl) ?_
        replace h := ite_or h; rcases h with ⟨hc, h⟩ | ⟨hc, h⟩
        · refine jr_ifz_eq_f jf_94_13 hc ?_
          refine jr_aload_n jf_94_16 rfl hl0 ?_
          refine jr_lload_n jf_94_17 rfl hl1 ?_
          refine jr_lload_n jf_94_18 rfl hl3 ?_
          replace h := obd_of h; obtain ⟨x3, hx3, h⟩ := h
          rcases ite_or hx3 with ⟨hb, hx⟩ | ⟨hb0, hx⟩
          · refine jr_V8a_2 jf_94_19 hb (by omega) (r_Real_compared (by omega) _ _ _ _ _ hx) (Nat.le_of_ble_eq_true rfl) jml_96 (Nat.le_of_ble_eq_true rfl) ?_
            replace h := ite_or h; rcases h with ⟨hc, h⟩ | ⟨hc, h⟩
            · refine jr_if_le_t jf_94_22 hc ?_
              refine jr_iconst jf_94_29 jc_i_0 ?_
              obtain rfl := Option.some.inj h
              exact jr_retZ (x := false) jf_94_30 jmt_94
            · refine jr_if_le_f jf_94_22 hc ?_
              refine jr_iconst jf_94_25 jc_i_1 ?_
              refine jr_goto jf_94_26 ?_
              obtain rfl := Option.some.inj h
              exact jr_retZ (x := true) jf_94_30 jmt_94
          · obtain ⟨hb, hx⟩ := jgd_of hx
            obtain hx := Option.some.inj hx
            refine jr_V8b_2 jf_94_19 hb0 hb (by omega) (r_Shorts_compared (by omega) _ _ _ _ _ hx) (Nat.le_of_ble_eq_true rfl) jml_98 (Nat.le_of_ble_eq_true rfl) ?_
            replace h := ite_or h; rcases h with ⟨hc, h⟩ | ⟨hc, h⟩
            · refine jr_if_le_t jf_94_22 hc ?_
              refine jr_iconst jf_94_29 jc_i_0 ?_
              obtain rfl := Option.some.inj h
              exact jr_retZ (x := false) jf_94_30 jmt_94
            · refine jr_if_le_f jf_94_22 hc ?_
              refine jr_iconst jf_94_25 jc_i_1 ?_
              refine jr_goto jf_94_26 ?_
              obtain rfl := Option.some.inj h
              exact jr_retZ (x := true) jf_94_30 jmt_94
        · refine jr_ifz_eq_t jf_94_13 hc ?_
          refine jr_iconst jf_94_29 jc_i_0 ?_
          obtain rfl := Option.some.inj h
          exact jr_retZ (x := false) jf_94_30 jmt_94
      · obtain ⟨hb, hx⟩ := jgd_of hx
        obtain hx := Option.some.inj hx
        refine jr_V8b_1 jf_94_10 hb0 hb (by omega) (r_Shorts_isNumber (by omega) _ _ _ _ hx) (Nat.le_of_ble_eq_true rfl) jml_95 (Nat.le_of_ble_eq_true rfl) ?_
        replace h := ite_or h; rcases h with ⟨hc, h⟩ | ⟨hc, h⟩
        · refine jr_ifz_eq_f jf_94_13 hc ?_
          refine jr_aload_n jf_94_16 rfl hl0 ?_
          refine jr_lload_n jf_94_17 rfl hl1 ?_
          refine jr_lload_n jf_94_18 rfl hl3 ?_
          replace h := obd_of h; obtain ⟨x3, hx3, h⟩ := h
          rcases ite_or hx3 with ⟨hb, hx⟩ | ⟨hb0, hx⟩
          · refine jr_V8a_2 jf_94_19 hb (by omega) (r_Real_compared (by omega) _ _ _ _ _ hx) (Nat.le_of_ble_eq_true rfl) jml_96 (Nat.le_of_ble_eq_true rfl) ?_
            replace h := ite_or h; rcases h with ⟨hc, h⟩ | ⟨hc, h⟩
            · refine jr_if_le_t jf_94_22 hc ?_
              refine jr_iconst jf_94_29 jc_i_0 ?_
              obtain rfl := Option.some.inj h
              exact jr_retZ (x := false) jf_94_30 jmt_94
            · refine jr_if_le_f jf_94_22 hc ?_
              refine jr_iconst jf_94_25 jc_i_1 ?_
              refine jr_goto jf_94_26 ?_
              obtain rfl := Option.some.inj h
              exact jr_retZ (x := true) jf_94_30 jmt_94
          · obtain ⟨hb, hx⟩ := jgd_of hx
            obtain hx := Option.some.inj hx
            refine jr_V8b_2 jf_94_19 hb0 hb (by omega) (r_Shorts_compared (by omega) _ _ _ _ _ hx) (Nat.le_of_ble_eq_true rfl) jml_98 (Nat.le_of_ble_eq_true rfl) ?_
            replace h := ite_or h; rcases h with ⟨hc, h⟩ | ⟨hc, h⟩
            · refine jr_if_le_t jf_94_22 hc ?_
              refine jr_iconst jf_94_29 jc_i_0 ?_
              obtain rfl := Option.some.inj h
              exact jr_retZ (x := false) jf_94_30 jmt_94
            · refine jr_if_le_f jf_94_22 hc ?_
              refine jr_iconst jf_94_25 jc_i_1 ?_
              refine jr_goto jf_94_26 ?_
              obtain rfl := Option.some.inj h
              exact jr_retZ (x := true) jf_94_30 jmt_94
        · refine jr_ifz_eq_t jf_94_13 hc ?_
          refine jr_iconst jf_94_29 jc_i_0 ?_
          obtain rfl := Option.some.inj h
          exact jr_retZ (x := false) jf_94_30 jmt_94
    · refine jr_ifz_eq_t jf_94_5 hc ?_
      refine jr_iconst jf_94_29 jc_i_0 ?_
      obtain rfl := Option.some.inj h
      exact jr_retZ (x := false) jf_94_30 jmt_94
  · obtain ⟨hb, hx⟩ := jgd_of hx
    obtain hx := Option.some.inj hx
    refine jr_V8b_1 jf_94_2 hb0 hb (by omega) (r_Shorts_isNumber (by omega) _ _ _ _ hx) (Nat.le_of_ble_eq_true rfl) jml_95 (Nat.le_of_ble_eq_true rfl) ?_
    replace h := ite_or h; rcases h with ⟨hc, h⟩ | ⟨hc, h⟩
    · refine jr_ifz_eq_f jf_94_5 hc ?_
      refine jr_aload_n jf_94_8 rfl hl0 ?_
      refine jr_lload_n jf_94_9 rfl hl3 ?_
      replace h := obd_of h; obtain ⟨x2, hx2, h⟩ := h
      rcases ite_or hx2 with ⟨hb, hx⟩ | ⟨hb0, hx⟩
      · refine jr_V8a_1 jf_94_10 hb (by omega) (r_Real_isNumber (by omega) _ _ _ _ hx) (Nat.le_of_ble_eq_true rfl) jml_18 (Nat.le_of_ble_eq_true rfl) ?_
        replace h := ite_or h; rcases h with ⟨hc, h⟩ | ⟨hc, h⟩
        · refine jr_ifz_eq_f jf_94_13 hc ?_
          refine jr_aload_n jf_94_16 rfl hl0 ?_
          refine jr_lload_n jf_94_17 rfl hl1 ?_
          refine jr_lload_n jf_94_18 rfl hl3 ?_
          replace h := obd_of h; obtain ⟨x3, hx3, h⟩ := h
          rcases ite_or hx3 with ⟨hb, hx⟩ | ⟨hb0, hx⟩
          · refine jr_V8a_2 jf_94_19 hb (by omega) (r_Real_compared (by omega) _ _ _ _ _ hx) (Nat.le_of_ble_eq_true rfl) jml_96 (Nat.le_of_ble_eq_true rfl) ?_
            replace h := ite_or h; rcases h with ⟨hc, h⟩ | ⟨hc, h⟩
            · refine jr_if_le_t jf_94_22 hc ?_
              refine jr_iconst jf_94_29 jc_i_0 ?_
              obtain rfl := Option.some.inj h
              exact jr_retZ (x := false) jf_94_30 jmt_94
            · refine jr_if_le_f jf_94_22 hc ?_
              refine jr_iconst jf_94_25 jc_i_1 ?_
              refine jr_goto jf_94_26 ?_
              obtain rfl := Option.some.inj h
              exact jr_retZ (x := true) jf_94_30 jmt_94
          · obtain ⟨hb, hx⟩ := jgd_of hx
            obtain hx := Option.some.inj hx
            refine jr_V8b_2 jf_94_19 hb0 hb (by omega) (r_Shorts_compared (by omega) _ _ _ _ _ hx) (Nat.le_of_ble_eq_true rfl) jml_98 (Nat.le_of_ble_eq_true rfl) ?_
            replace h := ite_or h; rcases h with ⟨hc, h⟩ | ⟨hc, h⟩
            · refine jr_if_le_t jf_94_22 hc ?_
              refine jr_iconst jf_94_29 jc_i_0 ?_
              obtain rfl := Option.some.inj h
              exact jr_retZ (x := false) jf_94_30 jmt_94
            · refine jr_if_le_f jf_94_22 hc ?_
              refine jr_iconst jf_94_25 jc_i_1 ?_
              refine jr_goto jf_94_26 ?_
              obtain rfl := Option.some.inj h
              exact jr_retZ (x := true) jf_94_30 jmt_94
        · refine jr_ifz_eq_t jf_94_13 hc ?_
          refine jr_iconst jf_94_29 jc_i_0 ?_
          obtain rfl := Option.some.inj h
          exact jr_retZ (x := false) jf_94_30 jmt_94
      · obtain ⟨hb, hx⟩ := jgd_of hx
        obtain hx := Option.some.inj hx
        refine jr_V8b_1 jf_94_10 hb0 hb (by omega) (r_Shorts_isNumber (by omega) _ _ _ _ hx) (Nat.le_of_ble_eq_true rfl) jml_95 (Nat.le_of_ble_eq_true rfl) ?_
        replace h := ite_or h; rcases h with ⟨hc, h⟩ | ⟨hc, h⟩
        · refine jr_ifz_eq_f jf_94_13 hc ?_
          refine jr_aload_n jf_94_16 rfl hl0 ?_
          refine jr_lload_n jf_94_17 rfl hl1 ?_
          refine jr_lload_n jf_94_18 rfl hl3 ?_
          replace h := obd_of h; obtain ⟨x3, hx3, h⟩ := h
          rcases ite_or hx3 with ⟨hb, hx⟩ | ⟨hb0, hx⟩
          · refine jr_V8a_2 jf_94_19 hb (by omega) (r_Real_compared (by omega) _ _ _ _ _ hx) (Nat.le_of_ble_eq_true rfl) jml_96 (Nat.le_of_ble_eq_true rfl) ?_
            replace h := ite_or h; rcases h with ⟨hc, h⟩ | ⟨hc, h⟩
            · refine jr_if_le_t jf_94_22 hc ?_
              refine jr_iconst jf_94_29 jc_i_0 ?_
              obtain rfl := Option.some.inj h
              exact jr_retZ (x := false) jf_94_30 jmt_94
            · refine jr_if_le_f jf_94_22 hc ?_
              refine jr_iconst jf_94_25 jc_i_1 ?_
              refine jr_goto jf_94_26 ?_
              obtain rfl := Option.some.inj h
              exact jr_retZ (x := true) jf_94_30 jmt_94
          · obtain ⟨hb, hx⟩ := jgd_of hx
            obtain hx := Option.some.inj hx
            refine jr_V8b_2 jf_94_19 hb0 hb (by omega) (r_Shorts_compared (by omega) _ _ _ _ _ hx) (Nat.le_of_ble_eq_true rfl) jml_98 (Nat.le_of_ble_eq_true rfl) ?_
            replace h := ite_or h; rcases h with ⟨hc, h⟩ | ⟨hc, h⟩
            · refine jr_if_le_t jf_94_22 hc ?_
              refine jr_iconst jf_94_29 jc_i_0 ?_
              obtain rfl := Option.some.inj h
              exact jr_retZ (x := false) jf_94_30 jmt_94
            · refine jr_if_le_f jf_94_22 hc ?_
              refine jr_iconst jf_94_25 jc_i_1 ?_
              refine jr_goto jf_94_26 ?_
              obtain rfl := Option.some.inj h
              exact jr_retZ (x := true) jf_94_30 jmt_94
        · refine jr_ifz_eq_t jf_94_13 hc ?_
          refine jr_iconst jf_94_29 jc_i_0 ?_
          obtain rfl := Option.some.inj h
          exact jr_retZ (x := false) jf_94_30 jmt_94
    · refine jr_ifz_eq_t jf_94_5 hc ?_
      refine jr_iconst jf_94_29 jc_i_0 ?_
      obtain rfl := Option.some.inj h
      exact jr_retZ (x := false) jf_94_30 jmt_94
set_option maxRecDepth 10000 in
set_option maxHeartbeats 4000000 in
theorem r_Numbers_above {B : Nat} {SA : Nat → Nat} {d : Nat} (hd : 2 ≤ d) : ∀ (v0 : Nat) (v1 : Int64) (v3 : Int64) (μ : JMem) (r : Bool), g_Numbers_above v0 v1 v3 μ.1 = some r → jR B SA d m_Numbers_above 0 (lv_args 0 [.ref v0, .long v1, .long v3]) [] μ (some (.int (jb r))) μ := by
  intro v0 v1 v3 μ r h
  exact r_Numbers_above_e hd (lv_args 0 _) _ _ _ _ _ (by simp [lv_args, jget, rv_cat, cat_int, cat_long, cat_double, cat_float, cat_ref]) (by simp [lv_args, jget, rv_cat, cat_int, cat_long, cat_double, cat_float, cat_ref]) (by simp [lv_args, jget, rv_cat, cat_int, cat_long, cat_double, cat_float, cat_ref]) h
/-! FilterBench$Real.negative(J)J -/
set_option maxRecDepth 10000 in
set_option maxHeartbeats 4000000 in
theorem r_Real_negative_e {B : Nat} {SA : Nat → Nat} {d : Nat} (hd : 1 ≤ d) : ∀ (L : JLoc) (v0 : Nat) (v1 : Int64) (μ : JMem) (r : Int64), jget L 0 = .ref v0 → jget L 1 = .long v1 → g_Real_negative v0 v1 μ.1 = some r → jR B SA d m_Real_negative 0 L [] μ (some (.long r)) μ := by
  intro L v0 v1 μ r hl0 hl1 h
  unfold g_Real_negative at h
  refine jr_aload_n jf_83_0 rfl hl0 ?_
  refine jr_lload_n jf_83_1 rfl hl1 ?_
  replace h := jgd_of h; obtain ⟨hb1, h⟩ := h
  replace h := obd_of h; obtain ⟨x2, hx2, h⟩ := h
  refine jr_V6_1 jf_83_2 hb1 (by omega) (r_Real_isNumber (by omega) _ _ _ _ hx2) (Nat.le_of_ble_eq_true rfl) jml_18 (Nat.le_of_ble_eq_true rfl) ?_
  replace h := ite_or h; rcases h with ⟨hc, h⟩ | ⟨hc, h⟩
  · refine jr_ifz_eq_f jf_83_5 hc ?_
    refine jr_lload_n jf_83_8 rfl hl1 ?_
    refine jr_aload_n jf_83_9 rfl hl0 ?_
    replace h := obd_of h; obtain ⟨x3, hx3, h⟩ := h
    refine jr_getJ jf_83_10 hx3 ?_
    refine jr_lxor jf_83_13 ?_
    refine jr_goto jf_83_14 ?_
    obtain rfl := Option.some.inj h
    exact jr_retJ jf_83_21 jmt_83
  · refine jr_ifz_eq_t jf_83_5 hc ?_
    refine jr_aload_n jf_83_17 rfl hl0 ?_
    replace h := obd_of h; obtain ⟨x4, hx4, h⟩ := h
    refine jr_getJ jf_83_18 hx4 ?_
    obtain rfl := Option.some.inj h
    exact jr_retJ jf_83_21 jmt_83
set_option maxRecDepth 10000 in
set_option maxHeartbeats 4000000 in
theorem r_Real_negative {B : Nat} {SA : Nat → Nat} {d : Nat} (hd : 1 ≤ d) : ∀ (v0 : Nat) (v1 : Int64) (μ : JMem) (r : Int64), g_Real_negative v0 v1 μ.1 = some r → jR B SA d m_Real_negative 0 (lv_args 0 [.ref v0, .long v1]) [] μ (some (.long r)) μ := by
  intro v0 v1 μ r h
  exact r_Real_negative_e hd (lv_args 0 _) _ _ _ _ (by simp [lv_args, jget, rv_cat, cat_int, cat_long, cat_double, cat_float, cat_ref]) (by simp [lv_args, jget, rv_cat, cat_int, cat_long, cat_double, cat_float, cat_ref]) h
/-! FilterBench$Shorts.negative(J)J -/
set_option maxRecDepth 10000 in
set_option maxHeartbeats 4000000 in
theorem r_Shorts_negative_e {B : Nat} {SA : Nat → Nat} {d : Nat} (hd : 1 ≤ d) : ∀ (L : JLoc) (v1 : Int64) (μ : JMem) (r : Int64), jget L 1 = .long v1 → g_Shorts_negative_e v1 = r → jR B SA d m_Shorts_negative 0 L [] μ (some (.long r)) μ := by
  intro L v1 μ r hl1 h
  unfold g_Shorts_negative_e at h
  refine jr_lload_n jf_99_0 rfl hl1 ?_
  refine jr_lneg jf_99_1 ?_
  refine jr_S3_1 jf_99_2 (by omega) (r_Shorts_cut (by omega) _ _ _ rfl) (Nat.le_of_ble_eq_true rfl) jml_74 (Nat.le_of_ble_eq_true rfl) ?_
  subst h
  exact jr_retJ jf_99_5 jmt_99
set_option maxRecDepth 10000 in
set_option maxHeartbeats 4000000 in
theorem r_Shorts_negative {B : Nat} {SA : Nat → Nat} {d : Nat} (hd : 1 ≤ d) : ∀ (v0 : Nat) (v1 : Int64) (μ : JMem) (r : Int64), g_Shorts_negative v0 v1 = r → jR B SA d m_Shorts_negative 0 (lv_args 0 [.ref v0, .long v1]) [] μ (some (.long r)) μ := by
  intro v0 v1 μ r h
  exact r_Shorts_negative_e hd (lv_args 0 _) _ _ _ (by simp [lv_args, jget, rv_cat, cat_int, cat_long, cat_double, cat_float, cat_ref]) h
/-! FilterBench$Section.clipped(J)J -/
set_option maxRecDepth 10000 in
set_option maxHeartbeats 4000000 in
theorem r_Section_clipped_e {B : Nat} {SA : Nat → Nat} {d : Nat} (hd : 3 ≤ d) : ∀ (L : JLoc) (v0 : Nat) (v1 : Int64) (μ : JMem) (r : Int64) (μ9 : JMem), jget L 0 = .ref v0 → jget L 1 = .long v1 → g_Section_clipped B v0 v1 μ = some (r, μ9) → jR B SA d m_Section_clipped 0 L [] μ (some (.long r)) μ9 := by
  intro L v0 v1 μ r μ9 hl0 hl1 h
  unfold g_Section_clipped at h
  refine jr_aload_n jf_93_0 rfl hl0 ?_
  refine jr_iconst jf_93_1 jc_i_0 ?_
  replace h := jgd_of h; obtain ⟨hb1, h⟩ := h
  replace h := obd_of h; obtain ⟨x2, hx2, h⟩ := h
  refine jr_V6_1 jf_93_2 hb1 (by omega) (r_Section_factor (by omega) _ _ _ _ hx2) (Nat.le_of_ble_eq_true rfl) jml_28 (Nat.le_of_ble_eq_true rfl) ?_
  refine jr_lstore_n jf_93_5 rfl jml_93 (by decide) ?_
  refine jr_aload_n jf_93_6 rfl (jg2_ne rfl hl0) ?_
  replace h := obd_of h; obtain ⟨x3, hx3, h⟩ := h
  refine jr_getA jf_93_7 hx3 ?_
  refine jr_lload_n jf_93_10 rfl (jg2_ne rfl hl1) ?_
  refine jr_lload_n jf_93_11 rfl jg2_same ?_
  replace h := obd_of h; obtain ⟨a4, rfl, h⟩ := h
  replace h := obd_of h; obtain ⟨x5, hx5, h⟩ := h
  rcases ite_or hx5 with ⟨hb, hx⟩ | ⟨hb0, hx⟩
  · refine jr_V9a_2 jf_93_12 hb (by omega) (r_Numbers_above (by omega) _ _ _ _ _ hx) (Nat.le_of_ble_eq_true rfl) jml_94 (Nat.le_of_ble_eq_true rfl) ?_
    replace h := ite_or h; rcases h with ⟨hc, h⟩ | ⟨hc, h⟩
    · refine jr_ifz_eq_f jf_93_15 hc ?_
      refine jr_aload_n jf_93_18 rfl (jg2_ne rfl hl0) ?_
      refine jr_dup jf_93_19 rfl ?_
      replace h := obd_of h; obtain ⟨x6, hx6, h⟩ := h
      refine jr_getI jf_93_20 hx6 ?_
      refine jr_iconst jf_93_23 jc_i_1 ?_
      refine jr_iadd jf_93_24 ?_
      replace h := obd_of h; obtain ⟨μ7, hμ7, h⟩ := h
      refine jr_putI jf_93_25 rfl hμ7 ?_
      refine jr_lload_n jf_93_28 rfl jg2_same ?_
      obtain ⟨rfl, rfl⟩ := Prod.mk.inj (Option.some.inj h)
      exact jr_retJ jf_93_29 jmt_93
    · refine jr_ifz_eq_t jf_93_15 hc ?_
      refine jr_aload_n jf_93_30 rfl (jg2_ne rfl hl0) ?_
      replace h := obd_of h; obtain ⟨x8, hx8, h⟩ := h
      refine jr_getA jf_93_31 hx8 ?_
      refine jr_lload_n jf_93_34 rfl jg2_same ?_
      replace h := obd_of h; obtain ⟨a9, rfl, h⟩ := h
      replace h := obd_of h; obtain ⟨x10, hx10, h⟩ := h
      rcases ite_or hx10 with ⟨hb, hx⟩ | ⟨hb0, hx⟩
      · refine jr_V8a_1 jf_93_35 hb (by omega) (r_Real_negative (by omega) _ _ _ _ hx) (Nat.le_of_ble_eq_true rfl) jml_83 (Nat.le_of_ble_eq_true rfl) ?_
        refine jr_lstore jf_93_38 jml_93 (by decide) ?_
        refine jr_aload_n jf_93_40 rfl (jg2_ne rfl (jg2_ne rfl hl0)) ?_
        replace h := obd_of h; obtain ⟨x11, hx11, h⟩ := h
        refine jr_getA jf_93_41 hx11 ?_
        refine jr_lload jf_93_44 jg2_same ?_
        refine jr_lload_n jf_93_46 rfl (jg2_ne rfl (jg2_ne rfl hl1)) ?_
        replace h := obd_of h; obtain ⟨a12, rfl, h⟩ := h
        replace h := obd_of h; obtain ⟨x13, hx13, h⟩ := h
        rcases ite_or hx13 with ⟨hb, hx⟩ | ⟨hb0, hx⟩
        · refine jr_V9a_2 jf_93_47 hb (by omega) (r_Numbers_above (by omega) _ _ _ _ _ hx) (Nat.le_of_ble_eq_true rfl) jml_94 (Nat.le_of_ble_eq_true rfl) ?_
          replace h := ite_or h; rcases h with ⟨hc, h⟩ | ⟨hc, h⟩
          · refine jr_ifz_eq_f jf_93_50 hc ?_
            refine jr_aload_n jf_93_53 rfl (jg2_ne rfl (jg2_ne rfl hl0)) ?_
            refine jr_dup jf_93_54 rfl ?_
            replace h := obd_of h; obtain ⟨x14, hx14, h⟩ := h
            refine jr_getI jf_93_55 hx14 ?_
            refine jr_iconst jf_93_58 jc_i_1 ?_
            refine jr_iadd jf_93_59 ?_
            replace h := obd_of h; obtain ⟨μ15, hμ15, h⟩ := h
            refine jr_putI jf_93_60 rfl hμ15 ?_
            refine jr_lload jf_93_63 jg2_same ?_
            obtain ⟨rfl, rfl⟩ := Prod.mk.inj (Option.some.inj h)
            exact jr_retJ jf_93_65 jmt_93
          · refine jr_ifz_eq_t jf_93_50 hc ?_
            refine jr_lload_n jf_93_66 rfl (jg2_ne rfl (jg2_ne rfl hl1)) ?_
            obtain ⟨rfl, rfl⟩ := Prod.mk.inj (Option.some.inj h)
            exact jr_retJ jf_93_67 jmt_93
        · obtain ⟨hb, hx⟩ := jgd_of hx
          refine jr_V9b_2 jf_93_47 hb0 hb (by omega) (r_Numbers_above (by omega) _ _ _ _ _ hx) (Nat.le_of_ble_eq_true rfl) jml_94 (Nat.le_of_ble_eq_true rfl) ?_
          replace h := ite_or h; rcases h with ⟨hc, h⟩ | ⟨hc, h⟩
          · refine jr_ifz_eq_f jf_93_50 hc ?_
            refine jr_aload_n jf_93_53 rfl (jg2_ne rfl (jg2_ne rfl hl0)) ?_
            refine jr_dup jf_93_54 rfl ?_
            replace h := obd_of h; obtain ⟨x14, hx14, h⟩ := h
            refine jr_getI jf_93_55 hx14 ?_
            refine jr_iconst jf_93_58 jc_i_1 ?_
            refine jr_iadd jf_93_59 ?_
            replace h := obd_of h; obtain ⟨μ15, hμ15, h⟩ := h
            refine jr_putI jf_93_60 rfl hμ15 ?_
            refine jr_lload jf_93_63 jg2_same ?_
            obtain ⟨rfl, rfl⟩ := Prod.mk.inj (Option.some.inj h)
            exact jr_retJ jf_93_65 jmt_93
          · refine jr_ifz_eq_t jf_93_50 hc ?_
            refine jr_lload_n jf_93_66 rfl (jg2_ne rfl (jg2_ne rfl hl1)) ?_
            obtain ⟨rfl, rfl⟩ := Prod.mk.inj (Option.some.inj h)
            exact jr_retJ jf_93_67 jmt_93
      · obtain ⟨hb, hx⟩ := jgd_of hx
        obtain hx := Option.some.inj hx
        refine jr_V8b_1 jf_93_35 hb0 hb (by omega) (r_Shorts_negative (by omega) _ _ _ _ hx) (Nat.le_of_ble_eq_true rfl) jml_99 (Nat.le_of_ble_eq_true rfl) ?_
        refine jr_lstore jf_93_38 jml_93 (by decide) ?_
        refine jr_aload_n jf_93_40 rfl (jg2_ne rfl (jg2_ne rfl hl0)) ?_
        replace h := obd_of h; obtain ⟨x11, hx11, h⟩ := h
        refine jr_getA jf_93_41 hx11 ?_
        refine jr_lload jf_93_44 jg2_same ?_
        refine jr_lload_n jf_93_46 rfl (jg2_ne rfl (jg2_ne rfl hl1)) ?_
        replace h := obd_of h; obtain ⟨a12, rfl, h⟩ := h
        replace h := obd_of h; obtain ⟨x13, hx13, h⟩ := h
        rcases ite_or hx13 with ⟨hb, hx⟩ | ⟨hb0, hx⟩
        · refine jr_V9a_2 jf_93_47 hb (by omega) (r_Numbers_above (by omega) _ _ _ _ _ hx) (Nat.le_of_ble_eq_true rfl) jml_94 (Nat.le_of_ble_eq_true rfl) ?_
          replace h := ite_or h; rcases h with ⟨hc, h⟩ | ⟨hc, h⟩
          · refine jr_ifz_eq_f jf_93_50 hc ?_
            refine jr_aload_n jf_93_53 rfl (jg2_ne rfl (jg2_ne rfl hl0)) ?_
            refine jr_dup jf_93_54 rfl ?_
            replace h := obd_of h; obtain ⟨x14, hx14, h⟩ := h
            refine jr_getI jf_93_55 hx14 ?_
            refine jr_iconst jf_93_58 jc_i_1 ?_
            refine jr_iadd jf_93_59 ?_
            replace h := obd_of h; obtain ⟨μ15, hμ15, h⟩ := h
            refine jr_putI jf_93_60 rfl hμ15 ?_
            refine jr_lload jf_93_63 jg2_same ?_
            obtain ⟨rfl, rfl⟩ := Prod.mk.inj (Option.some.inj h)
            exact jr_retJ jf_93_65 jmt_93
          · refine jr_ifz_eq_t jf_93_50 hc ?_
            refine jr_lload_n jf_93_66 rfl (jg2_ne rfl (jg2_ne rfl hl1)) ?_
            obtain ⟨rfl, rfl⟩ := Prod.mk.inj (Option.some.inj h)
            exact jr_retJ jf_93_67 jmt_93
        · obtain ⟨hb, hx⟩ := jgd_of hx
          refine jr_V9b_2 jf_93_47 hb0 hb (by omega) (r_Numbers_above (by omega) _ _ _ _ _ hx) (Nat.le_of_ble_eq_true rfl) jml_94 (Nat.le_of_ble_eq_true rfl) ?_
          replace h := ite_or h; rcases h with ⟨hc, h⟩ | ⟨hc, h⟩
          · refine jr_ifz_eq_f jf_93_50 hc ?_
            refine jr_aload_n jf_93_53 rfl (jg2_ne rfl (jg2_ne rfl hl0)) ?_
            refine jr_dup jf_93_54 rfl ?_
            replace h := obd_of h; obtain ⟨x14, hx14, h⟩ := h
            refine jr_getI jf_93_55 hx14 ?_
            refine jr_iconst jf_93_58 jc_i_1 ?_
            refine jr_iadd jf_93_59 ?_
            replace h := obd_of h; obtain ⟨μ15, hμ15, h⟩ := h
            refine jr_putI jf_93_60 rfl hμ15 ?_
            refine jr_lload jf_93_63 jg2_same ?_
            obtain ⟨rfl, rfl⟩ := Prod.mk.inj (Option.some.inj h)
            exact jr_retJ jf_93_65 jmt_93
          · refine jr_ifz_eq_t jf_93_50 hc ?_
            refine jr_lload_n jf_93_66 rfl (jg2_ne rfl (jg2_ne rfl hl1)) ?_
            obtain ⟨rfl, rfl⟩ := Prod.mk.inj (Option.some.inj h)
            exact jr_retJ jf_93_67 jmt_93
  · obtain ⟨hb, hx⟩ := jgd_of hx
    refine jr_V9b_2 jf_93_12 hb0 hb (by omega) (r_Numbers_above (by omega) _ _ _ _ _ hx) (Nat.le_of_ble_eq_true rfl) jml_94 (Nat.le_of_ble_eq_true rfl) ?_
    replace h := ite_or h; rcases h with ⟨hc, h⟩ | ⟨hc, h⟩
    · refine jr_ifz_eq_f jf_93_15 hc ?_
      refine jr_aload_n jf_93_18 rfl (jg2_ne rfl hl0) ?_
      refine jr_dup jf_93_19 rfl ?_
      replace h := obd_of h; obtain ⟨x6, hx6, h⟩ := h
      refine jr_getI jf_93_20 hx6 ?_
      refine jr_iconst jf_93_23 jc_i_1 ?_
      refine jr_iadd jf_93_24 ?_
      replace h := obd_of h; obtain ⟨μ7, hμ7, h⟩ := h
      refine jr_putI jf_93_25 rfl hμ7 ?_
      refine jr_lload_n jf_93_28 rfl jg2_same ?_
      obtain ⟨rfl, rfl⟩ := Prod.mk.inj (Option.some.inj h)
      exact jr_retJ jf_93_29 jmt_93
    · refine jr_ifz_eq_t jf_93_15 hc ?_
      refine jr_aload_n jf_93_30 rfl (jg2_ne rfl hl0) ?_
      replace h := obd_of h; obtain ⟨x8, hx8, h⟩ := h
      refine jr_getA jf_93_31 hx8 ?_
      refine jr_lload_n jf_93_34 rfl jg2_same ?_
      replace h := obd_of h; obtain ⟨a9, rfl, h⟩ := h
      replace h := obd_of h; obtain ⟨x10, hx10, h⟩ := h
      rcases ite_or hx10 with ⟨hb, hx⟩ | ⟨hb0, hx⟩
      · refine jr_V8a_1 jf_93_35 hb (by omega) (r_Real_negative (by omega) _ _ _ _ hx) (Nat.le_of_ble_eq_true rfl) jml_83 (Nat.le_of_ble_eq_true rfl) ?_
        refine jr_lstore jf_93_38 jml_93 (by decide) ?_
        refine jr_aload_n jf_93_40 rfl (jg2_ne rfl (jg2_ne rfl hl0)) ?_
        replace h := obd_of h; obtain ⟨x11, hx11, h⟩ := h
        refine jr_getA jf_93_41 hx11 ?_
        refine jr_lload jf_93_44 jg2_same ?_
        refine jr_lload_n jf_93_46 rfl (jg2_ne rfl (jg2_ne rfl hl1)) ?_
        replace h := obd_of h; obtain ⟨a12, rfl, h⟩ := h
        replace h := obd_of h; obtain ⟨x13, hx13, h⟩ := h
        rcases ite_or hx13 with ⟨hb, hx⟩ | ⟨hb0, hx⟩
        · refine jr_V9a_2 jf_93_47 hb (by omega) (r_Numbers_above (by omega) _ _ _ _ _ hx) (Nat.le_of_ble_eq_true rfl) jml_94 (Nat.le_of_ble_eq_true rfl) ?_
          replace h := ite_or h; rcases h with ⟨hc, h⟩ | ⟨hc, h⟩
          · refine jr_ifz_eq_f jf_93_50 hc ?_
            refine jr_aload_n jf_93_53 rfl (jg2_ne rfl (jg2_ne rfl hl0)) ?_
            refine jr_dup jf_93_54 rfl ?_
            replace h := obd_of h; obtain ⟨x14, hx14, h⟩ := h
            refine jr_getI jf_93_55 hx14 ?_
            refine jr_iconst jf_93_58 jc_i_1 ?_
            refine jr_iadd jf_93_59 ?_
            replace h := obd_of h; obtain ⟨μ15, hμ15, h⟩ := h
            refine jr_putI jf_93_60 rfl hμ15 ?_
            refine jr_lload jf_93_63 jg2_same ?_
            obtain ⟨rfl, rfl⟩ := Prod.mk.inj (Option.some.inj h)
            exact jr_retJ jf_93_65 jmt_93
          · refine jr_ifz_eq_t jf_93_50 hc ?_
            refine jr_lload_n jf_93_66 rfl (jg2_ne rfl (jg2_ne rfl hl1)) ?_
            obtain ⟨rfl, rfl⟩ := Prod.mk.inj (Option.some.inj h)
            exact jr_retJ jf_93_67 jmt_93
        · obtain ⟨hb, hx⟩ := jgd_of hx
          refine jr_V9b_2 jf_93_47 hb0 hb (by omega) (r_Numbers_above (by omega) _ _ _ _ _ hx) (Nat.le_of_ble_eq_true rfl) jml_94 (Nat.le_of_ble_eq_true rfl) ?_
          replace h := ite_or h; rcases h with ⟨hc, h⟩ | ⟨hc, h⟩
          · refine jr_ifz_eq_f jf_93_50 hc ?_
            refine jr_aload_n jf_93_53 rfl (jg2_ne rfl (jg2_ne rfl hl0)) ?_
            refine jr_dup jf_93_54 rfl ?_
            replace h := obd_of h; obtain ⟨x14, hx14, h⟩ := h
            refine jr_getI jf_93_55 hx14 ?_
            refine jr_iconst jf_93_58 jc_i_1 ?_
            refine jr_iadd jf_93_59 ?_
            replace h := obd_of h; obtain ⟨μ15, hμ15, h⟩ := h
            refine jr_putI jf_93_60 rfl hμ15 ?_
            refine jr_lload jf_93_63 jg2_same ?_
            obtain ⟨rfl, rfl⟩ := Prod.mk.inj (Option.some.inj h)
            exact jr_retJ jf_93_65 jmt_93
          · refine jr_ifz_eq_t jf_93_50 hc ?_
            refine jr_lload_n jf_93_66 rfl (jg2_ne rfl (jg2_ne rfl hl1)) ?_
            obtain ⟨rfl, rfl⟩ := Prod.mk.inj (Option.some.inj h)
            exact jr_retJ jf_93_67 jmt_93
      · obtain ⟨hb, hx⟩ := jgd_of hx
        obtain hx := Option.some.inj hx
        refine jr_V8b_1 jf_93_35 hb0 hb (by omega) (r_Shorts_negative (by omega) _ _ _ _ hx) (Nat.le_of_ble_eq_true rfl) jml_99 (Nat.le_of_ble_eq_true rfl) ?_
        refine jr_lstore jf_93_38 jml_93 (by decide) ?_
        refine jr_aload_n jf_93_40 rfl (jg2_ne rfl (jg2_ne rfl hl0)) ?_
        replace h := obd_of h; obtain ⟨x11, hx11, h⟩ := h
        refine jr_getA jf_93_41 hx11 ?_
        refine jr_lload jf_93_44 jg2_same ?_
        refine jr_lload_n jf_93_46 rfl (jg2_ne rfl (jg2_ne rfl hl1)) ?_
        replace h := obd_of h; obtain ⟨a12, rfl, h⟩ := h
        replace h := obd_of h; obtain ⟨x13, hx13, h⟩ := h
        rcases ite_or hx13 with ⟨hb, hx⟩ | ⟨hb0, hx⟩
        · refine jr_V9a_2 jf_93_47 hb (by omega) (r_Numbers_above (by omega) _ _ _ _ _ hx) (Nat.le_of_ble_eq_true rfl) jml_94 (Nat.le_of_ble_eq_true rfl) ?_
          replace h := ite_or h; rcases h with ⟨hc, h⟩ | ⟨hc, h⟩
          · refine jr_ifz_eq_f jf_93_50 hc ?_
            refine jr_aload_n jf_93_53 rfl (jg2_ne rfl (jg2_ne rfl hl0)) ?_
            refine jr_dup jf_93_54 rfl ?_
            replace h := obd_of h; obtain ⟨x14, hx14, h⟩ := h
            refine jr_getI jf_93_55 hx14 ?_
            refine jr_iconst jf_93_58 jc_i_1 ?_
            refine jr_iadd jf_93_59 ?_
            replace h := obd_of h; obtain ⟨μ15, hμ15, h⟩ := h
            refine jr_putI jf_93_60 rfl hμ15 ?_
            refine jr_lload jf_93_63 jg2_same ?_
            obtain ⟨rfl, rfl⟩ := Prod.mk.inj (Option.some.inj h)
            exact jr_retJ jf_93_65 jmt_93
          · refine jr_ifz_eq_t jf_93_50 hc ?_
            refine jr_lload_n jf_93_66 rfl (jg2_ne rfl (jg2_ne rfl hl1)) ?_
            obtain ⟨rfl, rfl⟩ := Prod.mk.inj (Option.some.inj h)
            exact jr_retJ jf_93_67 jmt_93
        · obtain ⟨hb, hx⟩ := jgd_of hx
          refine jr_V9b_2 jf_93_47 hb0 hb (by omega) (r_Numbers_above (by omega) _ _ _ _ _ hx) (Nat.le_of_ble_eq_true rfl) jml_94 (Nat.le_of_ble_eq_true rfl) ?_
          replace h := ite_or h; rcases h with ⟨hc, h⟩ | ⟨hc, h⟩
          · refine jr_ifz_eq_f jf_93_50 hc ?_
            refine jr_aload_n jf_93_53 rfl (jg2_ne rfl (jg2_ne rfl hl0)) ?_
            refine jr_dup jf_93_54 rfl ?_
            replace h := obd_of h; obtain ⟨x14, hx14, h⟩ := h
            refine jr_getI jf_93_55 hx14 ?_
            refine jr_iconst jf_93_58 jc_i_1 ?_
            refine jr_iadd jf_93_59 ?_
            replace h := obd_of h; obtain ⟨μ15, hμ15, h⟩ := h
            refine jr_putI jf_93_60 rfl hμ15 ?_
            refine jr_lload jf_93_63 jg2_same ?_
            obtain ⟨rfl, rfl⟩ := Prod.mk.inj (Option.some.inj h)
            exact jr_retJ jf_93_65 jmt_93
          · refine jr_ifz_eq_t jf_93_50 hc ?_
            refine jr_lload_n jf_93_66 rfl (jg2_ne rfl (jg2_ne rfl hl1)) ?_
            obtain ⟨rfl, rfl⟩ := Prod.mk.inj (Option.some.inj h)
            exact jr_retJ jf_93_67 jmt_93
set_option maxRecDepth 10000 in
set_option maxHeartbeats 4000000 in
theorem r_Section_clipped {B : Nat} {SA : Nat → Nat} {d : Nat} (hd : 3 ≤ d) : ∀ (v0 : Nat) (v1 : Int64) (μ : JMem) (r : Int64) (μ9 : JMem), g_Section_clipped B v0 v1 μ = some (r, μ9) → jR B SA d m_Section_clipped 0 (lv_args 0 [.ref v0, .long v1]) [] μ (some (.long r)) μ9 := by
  intro v0 v1 μ r μ9 h
  exact r_Section_clipped_e hd (lv_args 0 _) _ _ _ _ _ (by simp [lv_args, jget, rv_cat, cat_int, cat_long, cat_double, cat_float, cat_ref]) (by simp [lv_args, jget, rv_cat, cat_int, cat_long, cat_double, cat_float, cat_ref]) h
/-! FilterBench$Section.times(IJ)J -/
set_option maxRecDepth 10000 in
set_option maxHeartbeats 4000000 in
theorem r_Section_times_e {B : Nat} {SA : Nat → Nat} {d : Nat} (hd : 3 ≤ d) : ∀ (L : JLoc) (v0 : Nat) (v1 : Int32) (v2 : Int64) (μ : JMem) (r : Int64), jget L 0 = .ref v0 → jget L 1 = .int v1 → jget L 2 = .long v2 → g_Section_times v0 v1 v2 μ.1 = some r → jR B SA d m_Section_times 0 L [] μ (some (.long r)) μ := by
  intro L v0 v1 v2 μ r hl0 hl1 hl2 h
  unfold g_Section_times at h
  refine jr_aload_n jf_78_0 rfl hl0 ?_
  replace h := obd_of h; obtain ⟨x1, hx1, h⟩ := h
  refine jr_getA jf_78_1 hx1 ?_
  refine jr_aload_n jf_78_4 rfl hl0 ?_
  refine jr_iload_n jf_78_5 rfl hl1 ?_
  replace h := jgd_of h; obtain ⟨hb2, h⟩ := h
  replace h := obd_of h; obtain ⟨x3, hx3, h⟩ := h
  refine jr_V6_1 jf_78_6 hb2 (by omega) (r_Section_factor (by omega) _ _ _ _ hx3) (by simp only [jcats_cons, jcats_nil, cat_int, cat_long, cat_double, cat_float, cat_ref, rv_cat]; decide) jml_28 (Nat.le_of_ble_eq_true rfl) ?_
  refine jr_lload_n jf_78_9 rfl hl2 ?_
  replace h := obd_of h; obtain ⟨a4, rfl, h⟩ := h
  replace h := obd_of h; obtain ⟨x5, hx5, h⟩ := h
  rcases ite_or hx5 with ⟨hb, hx⟩ | ⟨hb0, hx⟩
  · refine jr_V8a_2 jf_78_10 hb (by omega) (r_Real_product (by omega) _ _ _ _ _ hx) (Nat.le_of_ble_eq_true rfl) jml_53 (Nat.le_of_ble_eq_true rfl) ?_
    obtain rfl := Option.some.inj h
    exact jr_retJ jf_78_13 jmt_78
  · obtain ⟨hb, hx⟩ := jgd_of hx
    obtain hx := Option.some.inj hx
    refine jr_V8b_2 jf_78_10 hb0 hb (by omega) (r_Shorts_product (by omega) _ _ _ _ _ hx) (Nat.le_of_ble_eq_true rfl) jml_62 (Nat.le_of_ble_eq_true rfl) ?_
    obtain rfl := Option.some.inj h
    exact jr_retJ jf_78_13 jmt_78
set_option maxRecDepth 10000 in
set_option maxHeartbeats 4000000 in
theorem r_Section_times {B : Nat} {SA : Nat → Nat} {d : Nat} (hd : 3 ≤ d) : ∀ (v0 : Nat) (v1 : Int32) (v2 : Int64) (μ : JMem) (r : Int64), g_Section_times v0 v1 v2 μ.1 = some r → jR B SA d m_Section_times 0 (lv_args 0 [.ref v0, .int v1, .long v2]) [] μ (some (.long r)) μ := by
  intro v0 v1 v2 μ r h
  exact r_Section_times_e hd (lv_args 0 _) _ _ _ _ _ (by simp [lv_args, jget, rv_cat, cat_int, cat_long, cat_double, cat_float, cat_ref]) (by simp [lv_args, jget, rv_cat, cat_int, cat_long, cat_double, cat_float, cat_ref]) (by simp [lv_args, jget, rv_cat, cat_int, cat_long, cat_double, cat_float, cat_ref]) h
/-! FilterBench$Section.comb(J)J -/
set_option maxRecDepth 10000 in
set_option maxHeartbeats 4000000 in
theorem r_Section_comb_e {B : Nat} {SA : Nat → Nat} {d : Nat} (hd : 4 ≤ d) : ∀ (L : JLoc) (v0 : Nat) (v1 : Int64) (μ : JMem) (r : Int64) (μ9 : JMem), jget L 0 = .ref v0 → jget L 1 = .long v1 → g_Section_comb B v0 v1 μ = some (r, μ9) → jR B SA d m_Section_comb 0 L [] μ (some (.long r)) μ9 := by
  intro L v0 v1 μ r μ9 hl0 hl1 h
  unfold g_Section_comb at h
  refine jr_aload_n jf_92_0 rfl hl0 ?_
  refine jr_aload_n jf_92_1 rfl hl0 ?_
  replace h := obd_of h; obtain ⟨x1, hx1, h⟩ := h
  refine jr_getA jf_92_2 hx1 ?_
  refine jr_aload_n jf_92_5 rfl hl0 ?_
  replace h := obd_of h; obtain ⟨x2, hx2, h⟩ := h
  refine jr_getA jf_92_6 hx2 ?_
  refine jr_lload_n jf_92_9 rfl hl1 ?_
  replace h := obd_of h; obtain ⟨a3, rfl, h⟩ := h
  replace h := obd_of h; obtain ⟨x4, hx4, h⟩ := h
  rcases ite_or hx4 with ⟨hb, hx⟩ | ⟨hb0, hx⟩
  · obtain hx := Option.some.inj hx
    refine jr_V8a_1 jf_92_10 hb (by omega) (r_Real_term (by omega) _ _ _ _ hx) (by simp only [jcats_cons, jcats_nil, cat_int, cat_long, cat_double, cat_float, cat_ref, rv_cat]; decide) jml_63 (Nat.le_of_ble_eq_true rfl) ?_
    refine jr_aload_n jf_92_13 rfl hl0 ?_
    refine jr_iconst jf_92_14 jc_i_0 ?_
    refine jr_aload_n jf_92_15 rfl hl0 ?_
    replace h := obd_of h; obtain ⟨x5, hx5, h⟩ := h
    refine jr_getA jf_92_16 hx5 ?_
    refine jr_iconst jf_92_19 jc_i_0 ?_
    replace h := obd_of h; obtain ⟨a6, rfl, h⟩ := h
    replace h := jgd_of h; obtain ⟨hb7, h⟩ := h
    replace h := obd_of h; obtain ⟨x8, hx8, h⟩ := h
    refine jr_V6_1 jf_92_20 hb7 (by omega) (r_Row_at (by omega) _ _ _ _ hx8) (by simp only [jcats_cons, jcats_nil, cat_int, cat_long, cat_double, cat_float, cat_ref, rv_cat]; decide) jml_23 (Nat.le_of_ble_eq_true rfl) ?_
    replace h := jgd_of h; obtain ⟨hb9, h⟩ := h
    replace h := obd_of h; obtain ⟨x10, hx10, h⟩ := h
    refine jr_V6_2 jf_92_23 hb9 (by omega) (r_Section_times (by omega) _ _ _ _ _ hx10) (by simp only [jcats_cons, jcats_nil, cat_int, cat_long, cat_double, cat_float, cat_ref, rv_cat]; decide) jml_78 (Nat.le_of_ble_eq_true rfl) ?_
    replace h := obd_of h; obtain ⟨a11, rfl, h⟩ := h
    replace h := obd_of h; obtain ⟨x12, hx12, h⟩ := h
    rcases ite_or hx12 with ⟨hb, hx⟩ | ⟨hb0, hx⟩
    · refine jr_V8a_2 jf_92_26 hb (by omega) (r_Real_plus (by omega) _ _ _ _ _ hx) (Nat.le_of_ble_eq_true rfl) jml_65 (Nat.le_of_ble_eq_true rfl) ?_
      replace h := jgd_of h; obtain ⟨hb13, h⟩ := h
      replace h := jbd2_of h; obtain ⟨x14, μ15, hx14, h⟩ := h
      refine jr_V6_1 jf_92_29 hb13 (by omega) (r_Section_settled (by omega) _ _ _ _ _ hx14) (Nat.le_of_ble_eq_true rfl) jml_70 (Nat.le_of_ble_eq_true rfl) ?_
      refine jr_lstore_n jf_92_32 rfl jml_92 (by decide) ?_
      refine jr_aload_n jf_92_33 rfl (jg2_ne rfl hl0) ?_
      replace h := obd_of h; obtain ⟨x16, hx16, h⟩ := h
      refine jr_getA jf_92_34 hx16 ?_
      refine jr_lload_n jf_92_37 rfl jg2_same ?_
      replace h := obd_of h; obtain ⟨a17, rfl, h⟩ := h
      replace h := jgd_of h; obtain ⟨hb18, h⟩ := h
      replace h := obd_of h; obtain ⟨μ19, hμ19, h⟩ := h
      refine jr_V6v_1 jf_92_38 hb18 (by omega) (r_Row_push (by omega) _ _ _ _ hμ19) (Nat.le_of_ble_eq_true rfl) jml_89 (Nat.le_of_ble_eq_true rfl) ?_
      refine jr_lload_n jf_92_41 rfl jg2_same ?_
      obtain ⟨rfl, rfl⟩ := Prod.mk.inj (Option.some.inj h)
      exact jr_retJ jf_92_42 jmt_92
    · obtain ⟨hb, hx⟩ := jgd_of hx
      obtain hx := Option.some.inj hx
      refine jr_V8b_2 jf_92_26 hb0 hb (by omega) (r_Shorts_plus (by omega) _ _ _ _ _ hx) (Nat.le_of_ble_eq_true rfl) jml_69 (Nat.le_of_ble_eq_true rfl) ?_
      replace h := jgd_of h; obtain ⟨hb13, h⟩ := h
      replace h := jbd2_of h; obtain ⟨x14, μ15, hx14, h⟩ := h
      refine jr_V6_1 jf_92_29 hb13 (by omega) (r_Section_settled (by omega) _ _ _ _ _ hx14) (Nat.le_of_ble_eq_true rfl) jml_70 (Nat.le_of_ble_eq_true rfl) ?_
      refine jr_lstore_n jf_92_32 rfl jml_92 (by decide) ?_
      refine jr_aload_n jf_92_33 rfl (jg2_ne rfl hl0) ?_
      replace h := obd_of h; obtain ⟨x16, hx16, h⟩ := h
      refine jr_getA jf_92_34 hx16 ?_
      refine jr_lload_n jf_92_37 rfl jg2_same ?_
      replace h := obd_of h; obtain ⟨a17, rfl, h⟩ := h
      replace h := jgd_of h; obtain ⟨hb18, h⟩ := h
      replace h := obd_of h; obtain ⟨μ19, hμ19, h⟩ := h
      refine jr_V6v_1 jf_92_38 hb18 (by omega) (r_Row_push (by omega) _ _ _ _ hμ19) (Nat.le_of_ble_eq_true rfl) jml_89 (Nat.le_of_ble_eq_true rfl) ?_
      refine jr_lload_n jf_92_41 rfl jg2_same ?_
      obtain ⟨rfl, rfl⟩ := Prod.mk.inj (Option.some.inj h)
      exact jr_retJ jf_92_42 jmt_92
  · obtain ⟨hb, hx⟩ := jgd_of hx
    obtain hx := Option.some.inj hx
    refine jr_V8b_1 jf_92_10 hb0 hb (by omega) (r_Shorts_term (by omega) _ _ _ _ hx) (by simp only [jcats_cons, jcats_nil, cat_int, cat_long, cat_double, cat_float, cat_ref, rv_cat]; decide) jml_64 (Nat.le_of_ble_eq_true rfl) ?_
    refine jr_aload_n jf_92_13 rfl hl0 ?_
    refine jr_iconst jf_92_14 jc_i_0 ?_
    refine jr_aload_n jf_92_15 rfl hl0 ?_
    replace h := obd_of h; obtain ⟨x5, hx5, h⟩ := h
    refine jr_getA jf_92_16 hx5 ?_
    refine jr_iconst jf_92_19 jc_i_0 ?_
    replace h := obd_of h; obtain ⟨a6, rfl, h⟩ := h
    replace h := jgd_of h; obtain ⟨hb7, h⟩ := h
    replace h := obd_of h; obtain ⟨x8, hx8, h⟩ := h
    refine jr_V6_1 jf_92_20 hb7 (by omega) (r_Row_at (by omega) _ _ _ _ hx8) (by simp only [jcats_cons, jcats_nil, cat_int, cat_long, cat_double, cat_float, cat_ref, rv_cat]; decide) jml_23 (Nat.le_of_ble_eq_true rfl) ?_
    replace h := jgd_of h; obtain ⟨hb9, h⟩ := h
    replace h := obd_of h; obtain ⟨x10, hx10, h⟩ := h
    refine jr_V6_2 jf_92_23 hb9 (by omega) (r_Section_times (by omega) _ _ _ _ _ hx10) (by simp only [jcats_cons, jcats_nil, cat_int, cat_long, cat_double, cat_float, cat_ref, rv_cat]; decide) jml_78 (Nat.le_of_ble_eq_true rfl) ?_
    replace h := obd_of h; obtain ⟨a11, rfl, h⟩ := h
    replace h := obd_of h; obtain ⟨x12, hx12, h⟩ := h
    rcases ite_or hx12 with ⟨hb, hx⟩ | ⟨hb0, hx⟩
    · refine jr_V8a_2 jf_92_26 hb (by omega) (r_Real_plus (by omega) _ _ _ _ _ hx) (Nat.le_of_ble_eq_true rfl) jml_65 (Nat.le_of_ble_eq_true rfl) ?_
      replace h := jgd_of h; obtain ⟨hb13, h⟩ := h
      replace h := jbd2_of h; obtain ⟨x14, μ15, hx14, h⟩ := h
      refine jr_V6_1 jf_92_29 hb13 (by omega) (r_Section_settled (by omega) _ _ _ _ _ hx14) (Nat.le_of_ble_eq_true rfl) jml_70 (Nat.le_of_ble_eq_true rfl) ?_
      refine jr_lstore_n jf_92_32 rfl jml_92 (by decide) ?_
      refine jr_aload_n jf_92_33 rfl (jg2_ne rfl hl0) ?_
      replace h := obd_of h; obtain ⟨x16, hx16, h⟩ := h
      refine jr_getA jf_92_34 hx16 ?_
      refine jr_lload_n jf_92_37 rfl jg2_same ?_
      replace h := obd_of h; obtain ⟨a17, rfl, h⟩ := h
      replace h := jgd_of h; obtain ⟨hb18, h⟩ := h
      replace h := obd_of h; obtain ⟨μ19, hμ19, h⟩ := h
      refine jr_V6v_1 jf_92_38 hb18 (by omega) (r_Row_push (by omega) _ _ _ _ hμ19) (Nat.le_of_ble_eq_true rfl) jml_89 (Nat.le_of_ble_eq_true rfl) ?_
      refine jr_lload_n jf_92_41 rfl jg2_same ?_
      obtain ⟨rfl, rfl⟩ := Prod.mk.inj (Option.some.inj h)
      exact jr_retJ jf_92_42 jmt_92
    · obtain ⟨hb, hx⟩ := jgd_of hx
      obtain hx := Option.some.inj hx
      refine jr_V8b_2 jf_92_26 hb0 hb (by omega) (r_Shorts_plus (by omega) _ _ _ _ _ hx) (Nat.le_of_ble_eq_true rfl) jml_69 (Nat.le_of_ble_eq_true rfl) ?_
      replace h := jgd_of h; obtain ⟨hb13, h⟩ := h
      replace h := jbd2_of h; obtain ⟨x14, μ15, hx14, h⟩ := h
      refine jr_V6_1 jf_92_29 hb13 (by omega) (r_Section_settled (by omega) _ _ _ _ _ hx14) (Nat.le_of_ble_eq_true rfl) jml_70 (Nat.le_of_ble_eq_true rfl) ?_
      refine jr_lstore_n jf_92_32 rfl jml_92 (by decide) ?_
      refine jr_aload_n jf_92_33 rfl (jg2_ne rfl hl0) ?_
      replace h := obd_of h; obtain ⟨x16, hx16, h⟩ := h
      refine jr_getA jf_92_34 hx16 ?_
      refine jr_lload_n jf_92_37 rfl jg2_same ?_
      replace h := obd_of h; obtain ⟨a17, rfl, h⟩ := h
      replace h := jgd_of h; obtain ⟨hb18, h⟩ := h
      replace h := obd_of h; obtain ⟨μ19, hμ19, h⟩ := h
      refine jr_V6v_1 jf_92_38 hb18 (by omega) (r_Row_push (by omega) _ _ _ _ hμ19) (Nat.le_of_ble_eq_true rfl) jml_89 (Nat.le_of_ble_eq_true rfl) ?_
      refine jr_lload_n jf_92_41 rfl jg2_same ?_
      obtain ⟨rfl, rfl⟩ := Prod.mk.inj (Option.some.inj h)
      exact jr_retJ jf_92_42 jmt_92
set_option maxRecDepth 10000 in
set_option maxHeartbeats 4000000 in
theorem r_Section_comb {B : Nat} {SA : Nat → Nat} {d : Nat} (hd : 4 ≤ d) : ∀ (v0 : Nat) (v1 : Int64) (μ : JMem) (r : Int64) (μ9 : JMem), g_Section_comb B v0 v1 μ = some (r, μ9) → jR B SA d m_Section_comb 0 (lv_args 0 [.ref v0, .long v1]) [] μ (some (.long r)) μ9 := by
  intro v0 v1 μ r μ9 h
  exact r_Section_comb_e hd (lv_args 0 _) _ _ _ _ _ (by simp [lv_args, jget, rv_cat, cat_int, cat_long, cat_double, cat_float, cat_ref]) (by simp [lv_args, jget, rv_cat, cat_int, cat_long, cat_double, cat_float, cat_ref]) h
/-! FilterBench$Shorts.sizeOf(J)J -/
set_option maxRecDepth 10000 in
set_option maxHeartbeats 4000000 in
theorem r_Shorts_sizeOf_e {B : Nat} {SA : Nat → Nat} {d : Nat} (hd : 2 ≤ d) : ∀ (L : JLoc) (v0 : Nat) (v1 : Int64) (μ : JMem) (r : Int64), jget L 0 = .ref v0 → jget L 1 = .long v1 → g_Shorts_sizeOf v0 v1 μ.1 = some r → jR B SA d m_Shorts_sizeOf 0 L [] μ (some (.long r)) μ := by
  intro L v0 v1 μ r hl0 hl1 h
  unfold g_Shorts_sizeOf at h
  refine jr_lload_n jf_101_0 rfl hl1 ?_
  refine jr_lconst0 jf_101_1 ?_
  refine jr_lcmp jf_101_2 ?_
  replace h := ite_or h; rcases h with ⟨hc, h⟩ | ⟨hc, h⟩
  · refine jr_ifl_ge_t jf_101_3 hc ?_
    refine jr_lload_n jf_101_14 rfl hl1 ?_
    obtain rfl := Option.some.inj h
    exact jr_retJ jf_101_15 jmt_101
  · refine jr_ifl_ge_f jf_101_3 hc ?_
    refine jr_aload_n jf_101_6 rfl hl0 ?_
    refine jr_lload_n jf_101_7 rfl hl1 ?_
    replace h := jgd_of h; obtain ⟨hb1, h⟩ := h
    refine jr_V6_1 jf_101_8 hb1 (by omega) (r_Shorts_negative (by omega) _ _ _ _ rfl) (Nat.le_of_ble_eq_true rfl) jml_99 (Nat.le_of_ble_eq_true rfl) ?_
    refine jr_goto jf_101_11 ?_
    obtain rfl := Option.some.inj h
    exact jr_retJ jf_101_15 jmt_101
set_option maxRecDepth 10000 in
set_option maxHeartbeats 4000000 in
theorem r_Shorts_sizeOf {B : Nat} {SA : Nat → Nat} {d : Nat} (hd : 2 ≤ d) : ∀ (v0 : Nat) (v1 : Int64) (μ : JMem) (r : Int64), g_Shorts_sizeOf v0 v1 μ.1 = some r → jR B SA d m_Shorts_sizeOf 0 (lv_args 0 [.ref v0, .long v1]) [] μ (some (.long r)) μ := by
  intro v0 v1 μ r h
  exact r_Shorts_sizeOf_e hd (lv_args 0 _) _ _ _ _ (by simp [lv_args, jget, rv_cat, cat_int, cat_long, cat_double, cat_float, cat_ref]) (by simp [lv_args, jget, rv_cat, cat_int, cat_long, cat_double, cat_float, cat_ref]) h
/-! FilterBench$Section.deadened(J)J -/
set_option maxRecDepth 10000 in
set_option maxHeartbeats 4000000 in
theorem r_Section_deadened_e {B : Nat} {SA : Nat → Nat} {d : Nat} (hd : 3 ≤ d) : ∀ (L : JLoc) (v0 : Nat) (v1 : Int64) (μ : JMem) (r : Int64) (μ9 : JMem), jget L 0 = .ref v0 → jget L 1 = .long v1 → g_Section_deadened B v0 v1 μ = some (r, μ9) → jR B SA d m_Section_deadened 0 L [] μ (some (.long r)) μ9 := by
  intro L v0 v1 μ r μ9 hl0 hl1 h
  unfold g_Section_deadened at h
  refine jr_aload_n jf_100_0 rfl hl0 ?_
  refine jr_iconst jf_100_1 jc_i_0 ?_
  replace h := jgd_of h; obtain ⟨hb1, h⟩ := h
  replace h := obd_of h; obtain ⟨x2, hx2, h⟩ := h
  refine jr_V6_1 jf_100_2 hb1 (by omega) (r_Section_factor (by omega) _ _ _ _ hx2) (Nat.le_of_ble_eq_true rfl) jml_28 (Nat.le_of_ble_eq_true rfl) ?_
  refine jr_lstore_n jf_100_5 rfl jml_100 (by decide) ?_
  refine jr_aload_n jf_100_6 rfl (jg2_ne rfl hl0) ?_
  replace h := obd_of h; obtain ⟨x3, hx3, h⟩ := h
  refine jr_getA jf_100_7 hx3 ?_
  refine jr_lload_n jf_100_10 rfl (jg2_ne rfl hl1) ?_
  replace h := obd_of h; obtain ⟨a4, rfl, h⟩ := h
  replace h := obd_of h; obtain ⟨x5, hx5, h⟩ := h
  rcases ite_or hx5 with ⟨hb, hx⟩ | ⟨hb0, hx⟩
  · refine jr_V8a_1 jf_100_11 hb (by omega) (r_Real_isNumber (by omega) _ _ _ _ hx) (Nat.le_of_ble_eq_true rfl) jml_18 (Nat.le_of_ble_eq_true rfl) ?_
    replace h := ite_or h; rcases h with ⟨hc, h⟩ | ⟨hc, h⟩
    · refine jr_ifz_eq_f jf_100_14 hc ?_
      refine jr_aload_n jf_100_17 rfl (jg2_ne rfl hl0) ?_
      replace h := obd_of h; obtain ⟨x6, hx6, h⟩ := h
      refine jr_getA jf_100_18 hx6 ?_
      refine jr_lload_n jf_100_21 rfl jg2_same ?_
      replace h := obd_of h; obtain ⟨a7, rfl, h⟩ := h
      replace h := obd_of h; obtain ⟨x8, hx8, h⟩ := h
      rcases ite_or hx8 with ⟨hb, hx⟩ | ⟨hb0, hx⟩
      · refine jr_V8a_1 jf_100_22 hb (by omega) (r_Real_isNumber (by omega) _ _ _ _ hx) (Nat.le_of_ble_eq_true rfl) jml_18 (Nat.le_of_ble_eq_true rfl) ?_
        replace h := ite_or h; rcases h with ⟨hc, h⟩ | ⟨hc, h⟩
        · refine jr_ifz_eq_f jf_100_25 hc ?_
          refine jr_aload_n jf_100_28 rfl (jg2_ne rfl hl0) ?_
          replace h := obd_of h; obtain ⟨x9, hx9, h⟩ := h
          refine jr_getA jf_100_29 hx9 ?_
          refine jr_aload_n jf_100_32 rfl (jg2_ne rfl hl0) ?_
          replace h := obd_of h; obtain ⟨x10, hx10, h⟩ := h
          refine jr_getA jf_100_33 hx10 ?_
          refine jr_lload_n jf_100_36 rfl (jg2_ne rfl hl1) ?_
          replace h := obd_of h; obtain ⟨a11, rfl, h⟩ := h
          replace h := obd_of h; obtain ⟨x12, hx12, h⟩ := h
          rcases ite_or hx12 with ⟨hb, hx⟩ | ⟨hb0, hx⟩
          · refine jr_V8a_1 jf_100_37 hb (by omega) (r_Real_sizeOf (by omega) _ _ _ _ hx) (by simp only [jcats_cons, jcats_nil, cat_int, cat_long, cat_double, cat_float, cat_ref, rv_cat]; decide) jml_54 (Nat.le_of_ble_eq_true rfl) ?_
            refine jr_lload_n jf_100_40 rfl jg2_same ?_
            replace h := obd_of h; obtain ⟨a13, rfl, h⟩ := h
            replace h := obd_of h; obtain ⟨x14, hx14, h⟩ := h
            rcases ite_or hx14 with ⟨hb, hx⟩ | ⟨hb0, hx⟩
            · refine jr_V9a_2 jf_100_41 hb (by omega) (r_Numbers_above (by omega) _ _ _ _ _ hx) (Nat.le_of_ble_eq_true rfl) jml_94 (Nat.le_of_ble_eq_true rfl) ?_
              replace h := ite_or h; rcases h with ⟨hc, h⟩ | ⟨hc, h⟩
              · refine jr_ifz_eq_f jf_100_44 hc ?_
                refine jr_lload_n jf_100_47 rfl (jg2_ne rfl hl1) ?_
                obtain ⟨rfl, rfl⟩ := Prod.mk.inj (Option.some.inj h)
                exact jr_retJ jf_100_48 jmt_100
              · refine jr_ifz_eq_t jf_100_44 hc ?_
                refine jr_aload_n jf_100_49 rfl (jg2_ne rfl hl0) ?_
                refine jr_dup jf_100_50 rfl ?_
                replace h := obd_of h; obtain ⟨x15, hx15, h⟩ := h
                refine jr_getI jf_100_51 hx15 ?_
                refine jr_iconst jf_100_54 jc_i_1 ?_
                refine jr_iadd jf_100_55 ?_
                replace h := obd_of h; obtain ⟨μ16, hμ16, h⟩ := h
                refine jr_putI jf_100_56 rfl hμ16 ?_
                refine jr_lconst0 jf_100_59 ?_
                obtain ⟨rfl, rfl⟩ := Prod.mk.inj (Option.some.inj h)
                exact jr_retJ jf_100_60 jmt_100
            · obtain ⟨hb, hx⟩ := jgd_of hx
              refine jr_V9b_2 jf_100_41 hb0 hb (by omega) (r_Numbers_above (by omega) _ _ _ _ _ hx) (Nat.le_of_ble_eq_true rfl) jml_94 (Nat.le_of_ble_eq_true rfl) ?_
              replace h := ite_or h; rcases h with ⟨hc, h⟩ | ⟨hc, h⟩
              · refine jr_ifz_eq_f jf_100_44 hc ?_
                refine jr_lload_n jf_100_47 rfl (jg2_ne rfl hl1) ?_
                obtain ⟨rfl, rfl⟩ := Prod.mk.inj (Option.some.inj h)
                exact jr_retJ jf_100_48 jmt_100
              · refine jr_ifz_eq_t jf_100_44 hc ?_
                refine jr_aload_n jf_100_49 rfl (jg2_ne rfl hl0) ?_
                refine jr_dup jf_100_50 rfl ?_
                replace h := obd_of h; obtain ⟨x15, hx15, h⟩ := h
                refine jr_getI jf_100_51 hx15 ?_
                refine jr_iconst jf_100_54 jc_i_1 ?_
                refine jr_iadd jf_100_55 ?_
                replace h := obd_of h; obtain ⟨μ16, hμ16, h⟩ := h
                refine jr_putI jf_100_56 rfl hμ16 ?_
                refine jr_lconst0 jf_100_59 ?_
                obtain ⟨rfl, rfl⟩ := Prod.mk.inj (Option.some.inj h)
                exact jr_retJ jf_100_60 jmt_100
          · obtain ⟨hb, hx⟩ := jgd_of hx
            refine jr_V8b_1 jf_100_37 hb0 hb (by omega) (r_Shorts_sizeOf (by omega) _ _ _ _ hx) (by simp only [jcats_cons, jcats_nil, cat_int, cat_long, cat_double, cat_float, cat_ref, rv_cat]; decide) jml_101 (Nat.le_of_ble_eq_true rfl) ?_
            refine jr_lload_n jf_100_40 rfl jg2_same ?_
            replace h := obd_of h; obtain ⟨a13, rfl, h⟩ := h
            replace h := obd_of h; obtain ⟨x14, hx14, h⟩ := h
            rcases ite_or hx14 with ⟨hb, hx⟩ | ⟨hb0, hx⟩
            · refine jr_V9a_2 jf_100_41 hb (by omega) (r_Numbers_above (by omega) _ _ _ _ _ hx) (Nat.le_of_ble_eq_true rfl) jml_94 (Nat.le_of_ble_eq_true rfl) ?_
              replace h := ite_or h; rcases h with ⟨hc, h⟩ | ⟨hc, h⟩
              · refine jr_ifz_eq_f jf_100_44 hc ?_
                refine jr_lload_n jf_100_47 rfl (jg2_ne rfl hl1) ?_
                obtain ⟨rfl, rfl⟩ := Prod.mk.inj (Option.some.inj h)
                exact jr_retJ jf_100_48 jmt_100
              · refine jr_ifz_eq_t jf_100_44 hc ?_
                refine jr_aload_n jf_100_49 rfl (jg2_ne rfl hl0) ?_
                refine jr_dup jf_100_50 rfl ?_
                replace h := obd_of h; obtain ⟨x15, hx15, h⟩ := h
                refine jr_getI jf_100_51 hx15 ?_
                refine jr_iconst jf_100_54 jc_i_1 ?_
                refine jr_iadd jf_100_55 ?_
                replace h := obd_of h; obtain ⟨μ16, hμ16, h⟩ := h
                refine jr_putI jf_100_56 rfl hμ16 ?_
                refine jr_lconst0 jf_100_59 ?_
                obtain ⟨rfl, rfl⟩ := Prod.mk.inj (Option.some.inj h)
                exact jr_retJ jf_100_60 jmt_100
            · obtain ⟨hb, hx⟩ := jgd_of hx
              refine jr_V9b_2 jf_100_41 hb0 hb (by omega) (r_Numbers_above (by omega) _ _ _ _ _ hx) (Nat.le_of_ble_eq_true rfl) jml_94 (Nat.le_of_ble_eq_true rfl) ?_
              replace h := ite_or h; rcases h with ⟨hc, h⟩ | ⟨hc, h⟩
              · refine jr_ifz_eq_f jf_100_44 hc ?_
                refine jr_lload_n jf_100_47 rfl (jg2_ne rfl hl1) ?_
                obtain ⟨rfl, rfl⟩ := Prod.mk.inj (Option.some.inj h)
                exact jr_retJ jf_100_48 jmt_100
              · refine jr_ifz_eq_t jf_100_44 hc ?_
                refine jr_aload_n jf_100_49 rfl (jg2_ne rfl hl0) ?_
                refine jr_dup jf_100_50 rfl ?_
                replace h := obd_of h; obtain ⟨x15, hx15, h⟩ := h
                refine jr_getI jf_100_51 hx15 ?_
                refine jr_iconst jf_100_54 jc_i_1 ?_
                refine jr_iadd jf_100_55 ?_
                replace h := obd_of h; obtain ⟨μ16, hμ16, h⟩ := h
                refine jr_putI jf_100_56 rfl hμ16 ?_
                refine jr_lconst0 jf_100_59 ?_
                obtain ⟨rfl, rfl⟩ := Prod.mk.inj (Option.some.inj h)
                exact jr_retJ jf_100_60 jmt_100
        · refine jr_ifz_eq_t jf_100_25 hc ?_
          refine jr_lload_n jf_100_47 rfl (jg2_ne rfl hl1) ?_
          obtain ⟨rfl, rfl⟩ := Prod.mk.inj (Option.some.inj h)
          exact jr_retJ jf_100_48 jmt_100
      · obtain ⟨hb, hx⟩ := jgd_of hx
        obtain hx := Option.some.inj hx
        refine jr_V8b_1 jf_100_22 hb0 hb (by omega) (r_Shorts_isNumber (by omega) _ _ _ _ hx) (Nat.le_of_ble_eq_true rfl) jml_95 (Nat.le_of_ble_eq_true rfl) ?_
        replace h := ite_or h; rcases h with ⟨hc, h⟩ | ⟨hc, h⟩
        · refine jr_ifz_eq_f jf_100_25 hc ?_
          refine jr_aload_n jf_100_28 rfl (jg2_ne rfl hl0) ?_
          replace h := obd_of h; obtain ⟨x9, hx9, h⟩ := h
          refine jr_getA jf_100_29 hx9 ?_
          refine jr_aload_n jf_100_32 rfl (jg2_ne rfl hl0) ?_
          replace h := obd_of h; obtain ⟨x10, hx10, h⟩ := h
          refine jr_getA jf_100_33 hx10 ?_
          refine jr_lload_n jf_100_36 rfl (jg2_ne rfl hl1) ?_
          replace h := obd_of h; obtain ⟨a11, rfl, h⟩ := h
          replace h := obd_of h; obtain ⟨x12, hx12, h⟩ := h
          rcases ite_or hx12 with ⟨hb, hx⟩ | ⟨hb0, hx⟩
          · refine jr_V8a_1 jf_100_37 hb (by omega) (r_Real_sizeOf (by omega) _ _ _ _ hx) (by simp only [jcats_cons, jcats_nil, cat_int, cat_long, cat_double, cat_float, cat_ref, rv_cat]; decide) jml_54 (Nat.le_of_ble_eq_true rfl) ?_
            refine jr_lload_n jf_100_40 rfl jg2_same ?_
            replace h := obd_of h; obtain ⟨a13, rfl, h⟩ := h
            replace h := obd_of h; obtain ⟨x14, hx14, h⟩ := h
            rcases ite_or hx14 with ⟨hb, hx⟩ | ⟨hb0, hx⟩
            · refine jr_V9a_2 jf_100_41 hb (by omega) (r_Numbers_above (by omega) _ _ _ _ _ hx) (Nat.le_of_ble_eq_true rfl) jml_94 (Nat.le_of_ble_eq_true rfl) ?_
              replace h := ite_or h; rcases h with ⟨hc, h⟩ | ⟨hc, h⟩
              · refine jr_ifz_eq_f jf_100_44 hc ?_
                refine jr_lload_n jf_100_47 rfl (jg2_ne rfl hl1) ?_
                obtain ⟨rfl, rfl⟩ := Prod.mk.inj (Option.some.inj h)
                exact jr_retJ jf_100_48 jmt_100
              · refine jr_ifz_eq_t jf_100_44 hc ?_
                refine jr_aload_n jf_100_49 rfl (jg2_ne rfl hl0) ?_
                refine jr_dup jf_100_50 rfl ?_
                replace h := obd_of h; obtain ⟨x15, hx15, h⟩ := h
                refine jr_getI jf_100_51 hx15 ?_
                refine jr_iconst jf_100_54 jc_i_1 ?_
                refine jr_iadd jf_100_55 ?_
                replace h := obd_of h; obtain ⟨μ16, hμ16, h⟩ := h
                refine jr_putI jf_100_56 rfl hμ16 ?_
                refine jr_lconst0 jf_100_59 ?_
                obtain ⟨rfl, rfl⟩ := Prod.mk.inj (Option.some.inj h)
                exact jr_retJ jf_100_60 jmt_100
            · obtain ⟨hb, hx⟩ := jgd_of hx
              refine jr_V9b_2 jf_100_41 hb0 hb (by omega) (r_Numbers_above (by omega) _ _ _ _ _ hx) (Nat.le_of_ble_eq_true rfl) jml_94 (Nat.le_of_ble_eq_true rfl) ?_
              replace h := ite_or h; rcases h with ⟨hc, h⟩ | ⟨hc, h⟩
              · refine jr_ifz_eq_f jf_100_44 hc ?_
                refine jr_lload_n jf_100_47 rfl (jg2_ne rfl hl1) ?_
                obtain ⟨rfl, rfl⟩ := Prod.mk.inj (Option.some.inj h)
                exact jr_retJ jf_100_48 jmt_100
              · refine jr_ifz_eq_t jf_100_44 hc ?_
                refine jr_aload_n jf_100_49 rfl (jg2_ne rfl hl0) ?_
                refine jr_dup jf_100_50 rfl ?_
                replace h := obd_of h; obtain ⟨x15, hx15, h⟩ := h
                refine jr_getI jf_100_51 hx15 ?_
                refine jr_iconst jf_100_54 jc_i_1 ?_
                refine jr_iadd jf_100_55 ?_
                replace h := obd_of h; obtain ⟨μ16, hμ16, h⟩ := h
                refine jr_putI jf_100_56 rfl hμ16 ?_
                refine jr_lconst0 jf_100_59 ?_
                obtain ⟨rfl, rfl⟩ := Prod.mk.inj (Option.some.inj h)
                exact jr_retJ jf_100_60 jmt_100
          · obtain ⟨hb, hx⟩ := jgd_of hx
            refine jr_V8b_1 jf_100_37 hb0 hb (by omega) (r_Shorts_sizeOf (by omega) _ _ _ _ hx) (by simp only [jcats_cons, jcats_nil, cat_int, cat_long, cat_double, cat_float, cat_ref, rv_cat]; decide) jml_101 (Nat.le_of_ble_eq_true rfl) ?_
            refine jr_lload_n jf_100_40 rfl jg2_same ?_
            replace h := obd_of h; obtain ⟨a13, rfl, h⟩ := h
            replace h := obd_of h; obtain ⟨x14, hx14, h⟩ := h
            rcases ite_or hx14 with ⟨hb, hx⟩ | ⟨hb0, hx⟩
            · refine jr_V9a_2 jf_100_41 hb (by omega) (r_Numbers_above (by omega) _ _ _ _ _ hx) (Nat.le_of_ble_eq_true rfl) jml_94 (Nat.le_of_ble_eq_true rfl) ?_
              replace h := ite_or h; rcases h with ⟨hc, h⟩ | ⟨hc, h⟩
              · refine jr_ifz_eq_f jf_100_44 hc ?_
                refine jr_lload_n jf_100_47 rfl (jg2_ne rfl hl1) ?_
                obtain ⟨rfl, rfl⟩ := Prod.mk.inj (Option.some.inj h)
                exact jr_retJ jf_100_48 jmt_100
              · refine jr_ifz_eq_t jf_100_44 hc ?_
                refine jr_aload_n jf_100_49 rfl (jg2_ne rfl hl0) ?_
                refine jr_dup jf_100_50 rfl ?_
                replace h := obd_of h; obtain ⟨x15, hx15, h⟩ := h
                refine jr_getI jf_100_51 hx15 ?_
                refine jr_iconst jf_100_54 jc_i_1 ?_
                refine jr_iadd jf_100_55 ?_
                replace h := obd_of h; obtain ⟨μ16, hμ16, h⟩ := h
                refine jr_putI jf_100_56 rfl hμ16 ?_
                refine jr_lconst0 jf_100_59 ?_
                obtain ⟨rfl, rfl⟩ := Prod.mk.inj (Option.some.inj h)
                exact jr_retJ jf_100_60 jmt_100
            · obtain ⟨hb, hx⟩ := jgd_of hx
              refine jr_V9b_2 jf_100_41 hb0 hb (by omega) (r_Numbers_above (by omega) _ _ _ _ _ hx) (Nat.le_of_ble_eq_true rfl) jml_94 (Nat.le_of_ble_eq_true rfl) ?_
              replace h := ite_or h; rcases h with ⟨hc, h⟩ | ⟨hc, h⟩
              · refine jr_ifz_eq_f jf_100_44 hc ?_
                refine jr_lload_n jf_100_47 rfl (jg2_ne rfl hl1) ?_
                obtain ⟨rfl, rfl⟩ := Prod.mk.inj (Option.some.inj h)
                exact jr_retJ jf_100_48 jmt_100
              · refine jr_ifz_eq_t jf_100_44 hc ?_
                refine jr_aload_n jf_100_49 rfl (jg2_ne rfl hl0) ?_
                refine jr_dup jf_100_50 rfl ?_
                replace h := obd_of h; obtain ⟨x15, hx15, h⟩ := h
                refine jr_getI jf_100_51 hx15 ?_
                refine jr_iconst jf_100_54 jc_i_1 ?_
                refine jr_iadd jf_100_55 ?_
                replace h := obd_of h; obtain ⟨μ16, hμ16, h⟩ := h
                refine jr_putI jf_100_56 rfl hμ16 ?_
                refine jr_lconst0 jf_100_59 ?_
                obtain ⟨rfl, rfl⟩ := Prod.mk.inj (Option.some.inj h)
                exact jr_retJ jf_100_60 jmt_100
        · refine jr_ifz_eq_t jf_100_25 hc ?_
          refine jr_lload_n jf_100_47 rfl (jg2_ne rfl hl1) ?_
          obtain ⟨rfl, rfl⟩ := Prod.mk.inj (Option.some.inj h)
          exact jr_retJ jf_100_48 jmt_100
    · refine jr_ifz_eq_t jf_100_14 hc ?_
      refine jr_lload_n jf_100_47 rfl (jg2_ne rfl hl1) ?_
      obtain ⟨rfl, rfl⟩ := Prod.mk.inj (Option.some.inj h)
      exact jr_retJ jf_100_48 jmt_100
  · obtain ⟨hb, hx⟩ := jgd_of hx
    obtain hx := Option.some.inj hx
    refine jr_V8b_1 jf_100_11 hb0 hb (by omega) (r_Shorts_isNumber (by omega) _ _ _ _ hx) (Nat.le_of_ble_eq_true rfl) jml_95 (Nat.le_of_ble_eq_true rfl) ?_
    replace h := ite_or h; rcases h with ⟨hc, h⟩ | ⟨hc, h⟩
    · refine jr_ifz_eq_f jf_100_14 hc ?_
      refine jr_aload_n jf_100_17 rfl (jg2_ne rfl hl0) ?_
      replace h := obd_of h; obtain ⟨x6, hx6, h⟩ := h
      refine jr_getA jf_100_18 hx6 ?_
      refine jr_lload_n jf_100_21 rfl jg2_same ?_
      replace h := obd_of h; obtain ⟨a7, rfl, h⟩ := h
      replace h := obd_of h; obtain ⟨x8, hx8, h⟩ := h
      rcases ite_or hx8 with ⟨hb, hx⟩ | ⟨hb0, hx⟩
      · refine jr_V8a_1 jf_100_22 hb (by omega) (r_Real_isNumber (by omega) _ _ _ _ hx) (Nat.le_of_ble_eq_true rfl) jml_18 (Nat.le_of_ble_eq_true rfl) ?_
        replace h := ite_or h; rcases h with ⟨hc, h⟩ | ⟨hc, h⟩
        · refine jr_ifz_eq_f jf_100_25 hc ?_
          refine jr_aload_n jf_100_28 rfl (jg2_ne rfl hl0) ?_
          replace h := obd_of h; obtain ⟨x9, hx9, h⟩ := h
          refine jr_getA jf_100_29 hx9 ?_
          refine jr_aload_n jf_100_32 rfl (jg2_ne rfl hl0) ?_
          replace h := obd_of h; obtain ⟨x10, hx10, h⟩ := h
          refine jr_getA jf_100_33 hx10 ?_
          refine jr_lload_n jf_100_36 rfl (jg2_ne rfl hl1) ?_
          replace h := obd_of h; obtain ⟨a11, rfl, h⟩ := h
          replace h := obd_of h; obtain ⟨x12, hx12, h⟩ := h
          rcases ite_or hx12 with ⟨hb, hx⟩ | ⟨hb0, hx⟩
          · refine jr_V8a_1 jf_100_37 hb (by omega) (r_Real_sizeOf (by omega) _ _ _ _ hx) (by simp only [jcats_cons, jcats_nil, cat_int, cat_long, cat_double, cat_float, cat_ref, rv_cat]; decide) jml_54 (Nat.le_of_ble_eq_true rfl) ?_
            refine jr_lload_n jf_100_40 rfl jg2_same ?_
            replace h := obd_of h; obtain ⟨a13, rfl, h⟩ := h
            replace h := obd_of h; obtain ⟨x14, hx14, h⟩ := h
            rcases ite_or hx14 with ⟨hb, hx⟩ | ⟨hb0, hx⟩
            · refine jr_V9a_2 jf_100_41 hb (by omega) (r_Numbers_above (by omega) _ _ _ _ _ hx) (Nat.le_of_ble_eq_true rfl) jml_94 (Nat.le_of_ble_eq_true rfl) ?_
              replace h := ite_or h; rcases h with ⟨hc, h⟩ | ⟨hc, h⟩
              · refine jr_ifz_eq_f jf_100_44 hc ?_
                refine jr_lload_n jf_100_47 rfl (jg2_ne rfl hl1) ?_
                obtain ⟨rfl, rfl⟩ := Prod.mk.inj (Option.some.inj h)
                exact jr_retJ jf_100_48 jmt_100
              · refine jr_ifz_eq_t jf_100_44 hc ?_
                refine jr_aload_n jf_100_49 rfl (jg2_ne rfl hl0) ?_
                refine jr_dup jf_100_50 rfl ?_
                replace h := obd_of h; obtain ⟨x15, hx15, h⟩ := h
                refine jr_getI jf_100_51 hx15 ?_
                refine jr_iconst jf_100_54 jc_i_1 ?_
                refine jr_iadd jf_100_55 ?_
                replace h := obd_of h; obtain ⟨μ16, hμ16, h⟩ := h
                refine jr_putI jf_100_56 rfl hμ16 ?_
                refine jr_lconst0 jf_100_59 ?_
                obtain ⟨rfl, rfl⟩ := Prod.mk.inj (Option.some.inj h)
                exact jr_retJ jf_100_60 jmt_100
            · obtain ⟨hb, hx⟩ := jgd_of hx
              refine jr_V9b_2 jf_100_41 hb0 hb (by omega) (r_Numbers_above (by omega) _ _ _ _ _ hx) (Nat.le_of_ble_eq_true rfl) jml_94 (Nat.le_of_ble_eq_true rfl) ?_
              replace h := ite_or h; rcases h with ⟨hc, h⟩ | ⟨hc, h⟩
              · refine jr_ifz_eq_f jf_100_44 hc ?_
                refine jr_lload_n jf_100_47 rfl (jg2_ne rfl hl1) ?_
                obtain ⟨rfl, rfl⟩ := Prod.mk.inj (Option.some.inj h)
                exact jr_retJ jf_100_48 jmt_100
              · refine jr_ifz_eq_t jf_100_44 hc ?_
                refine jr_aload_n jf_100_49 rfl (jg2_ne rfl hl0) ?_
                refine jr_dup jf_100_50 rfl ?_
                replace h := obd_of h; obtain ⟨x15, hx15, h⟩ := h
                refine jr_getI jf_100_51 hx15 ?_
                refine jr_iconst jf_100_54 jc_i_1 ?_
                refine jr_iadd jf_100_55 ?_
                replace h := obd_of h; obtain ⟨μ16, hμ16, h⟩ := h
                refine jr_putI jf_100_56 rfl hμ16 ?_
                refine jr_lconst0 jf_100_59 ?_
                obtain ⟨rfl, rfl⟩ := Prod.mk.inj (Option.some.inj h)
                exact jr_retJ jf_100_60 jmt_100
          · obtain ⟨hb, hx⟩ := jgd_of hx
            refine jr_V8b_1 jf_100_37 hb0 hb (by omega) (r_Shorts_sizeOf (by omega) _ _ _ _ hx) (by simp only [jcats_cons, jcats_nil, cat_int, cat_long, cat_double, cat_float, cat_ref, rv_cat]; decide) jml_101 (Nat.le_of_ble_eq_true rfl) ?_
            refine jr_lload_n jf_100_40 rfl jg2_same ?_
            replace h := obd_of h; obtain ⟨a13, rfl, h⟩ := h
            replace h := obd_of h; obtain ⟨x14, hx14, h⟩ := h
            rcases ite_or hx14 with ⟨hb, hx⟩ | ⟨hb0, hx⟩
            · refine jr_V9a_2 jf_100_41 hb (by omega) (r_Numbers_above (by omega) _ _ _ _ _ hx) (Nat.le_of_ble_eq_true rfl) jml_94 (Nat.le_of_ble_eq_true rfl) ?_
              replace h := ite_or h; rcases h with ⟨hc, h⟩ | ⟨hc, h⟩
              · refine jr_ifz_eq_f jf_100_44 hc ?_
                refine jr_lload_n jf_100_47 rfl (jg2_ne rfl hl1) ?_
                obtain ⟨rfl, rfl⟩ := Prod.mk.inj (Option.some.inj h)
                exact jr_retJ jf_100_48 jmt_100
              · refine jr_ifz_eq_t jf_100_44 hc ?_
                refine jr_aload_n jf_100_49 rfl (jg2_ne rfl hl0) ?_
                refine jr_dup jf_100_50 rfl ?_
                replace h := obd_of h; obtain ⟨x15, hx15, h⟩ := h
                refine jr_getI jf_100_51 hx15 ?_
                refine jr_iconst jf_100_54 jc_i_1 ?_
                refine jr_iadd jf_100_55 ?_
                replace h := obd_of h; obtain ⟨μ16, hμ16, h⟩ := h
                refine jr_putI jf_100_56 rfl hμ16 ?_
                refine jr_lconst0 jf_100_59 ?_
                obtain ⟨rfl, rfl⟩ := Prod.mk.inj (Option.some.inj h)
                exact jr_retJ jf_100_60 jmt_100
            · obtain ⟨hb, hx⟩ := jgd_of hx
              refine jr_V9b_2 jf_100_41 hb0 hb (by omega) (r_Numbers_above (by omega) _ _ _ _ _ hx) (Nat.le_of_ble_eq_true rfl) jml_94 (Nat.le_of_ble_eq_true rfl) ?_
              replace h := ite_or h; rcases h with ⟨hc, h⟩ | ⟨hc, h⟩
              · refine jr_ifz_eq_f jf_100_44 hc ?_
                refine jr_lload_n jf_100_47 rfl (jg2_ne rfl hl1) ?_
                obtain ⟨rfl, rfl⟩ := Prod.mk.inj (Option.some.inj h)
                exact jr_retJ jf_100_48 jmt_100
              · refine jr_ifz_eq_t jf_100_44 hc ?_
                refine jr_aload_n jf_100_49 rfl (jg2_ne rfl hl0) ?_
                refine jr_dup jf_100_50 rfl ?_
                replace h := obd_of h; obtain ⟨x15, hx15, h⟩ := h
                refine jr_getI jf_100_51 hx15 ?_
                refine jr_iconst jf_100_54 jc_i_1 ?_
                refine jr_iadd jf_100_55 ?_
                replace h := obd_of h; obtain ⟨μ16, hμ16, h⟩ := h
                refine jr_putI jf_100_56 rfl hμ16 ?_
                refine jr_lconst0 jf_100_59 ?_
                obtain ⟨rfl, rfl⟩ := Prod.mk.inj (Option.some.inj h)
                exact jr_retJ jf_100_60 jmt_100
        · refine jr_ifz_eq_t jf_100_25 hc ?_
          refine jr_lload_n jf_100_47 rfl (jg2_ne rfl hl1) ?_
          obtain ⟨rfl, rfl⟩ := Prod.mk.inj (Option.some.inj h)
          exact jr_retJ jf_100_48 jmt_100
      · obtain ⟨hb, hx⟩ := jgd_of hx
        obtain hx := Option.some.inj hx
        refine jr_V8b_1 jf_100_22 hb0 hb (by omega) (r_Shorts_isNumber (by omega) _ _ _ _ hx) (Nat.le_of_ble_eq_true rfl) jml_95 (Nat.le_of_ble_eq_true rfl) ?_
        replace h := ite_or h; rcases h with ⟨hc, h⟩ | ⟨hc, h⟩
        · refine jr_ifz_eq_f jf_100_25 hc ?_
          refine jr_aload_n jf_100_28 rfl (jg2_ne rfl hl0) ?_
          replace h := obd_of h; obtain ⟨x9, hx9, h⟩ := h
          refine jr_getA jf_100_29 hx9 ?_
          refine jr_aload_n jf_100_32 rfl (jg2_ne rfl hl0) ?_
          replace h := obd_of h; obtain ⟨x10, hx10, h⟩ := h
          refine jr_getA jf_100_33 hx10 ?_
          refine jr_lload_n jf_100_36 rfl (jg2_ne rfl hl1) ?_
          replace h := obd_of h; obtain ⟨a11, rfl, h⟩ := h
          replace h := obd_of h; obtain ⟨x12, hx12, h⟩ := h
          rcases ite_or hx12 with ⟨hb, hx⟩ | ⟨hb0, hx⟩
          · refine jr_V8a_1 jf_100_37 hb (by omega) (r_Real_sizeOf (by omega) _ _ _ _ hx) (by simp only [jcats_cons, jcats_nil, cat_int, cat_long, cat_double, cat_float, cat_ref, rv_cat]; decide) jml_54 (Nat.le_of_ble_eq_true rfl) ?_
            refine jr_lload_n jf_100_40 rfl jg2_same ?_
            replace h := obd_of h; obtain ⟨a13, rfl, h⟩ := h
            replace h := obd_of h; obtain ⟨x14, hx14, h⟩ := h
            rcases ite_or hx14 with ⟨hb, hx⟩ | ⟨hb0, hx⟩
            · refine jr_V9a_2 jf_100_41 hb (by omega) (r_Numbers_above (by omega) _ _ _ _ _ hx) (Nat.le_of_ble_eq_true rfl) jml_94 (Nat.le_of_ble_eq_true rfl) ?_
              replace h := ite_or h; rcases h with ⟨hc, h⟩ | ⟨hc, h⟩
              · refine jr_ifz_eq_f jf_100_44 hc ?_
                refine jr_lload_n jf_100_47 rfl (jg2_ne rfl hl1) ?_
                obtain ⟨rfl, rfl⟩ := Prod.mk.inj (Option.some.inj h)
                exact jr_retJ jf_100_48 jmt_100
              · refine jr_ifz_eq_t jf_100_44 hc ?_
                refine jr_aload_n jf_100_49 rfl (jg2_ne rfl hl0) ?_
                refine jr_dup jf_100_50 rfl ?_
                replace h := obd_of h; obtain ⟨x15, hx15, h⟩ := h
                refine jr_getI jf_100_51 hx15 ?_
                refine jr_iconst jf_100_54 jc_i_1 ?_
                refine jr_iadd jf_100_55 ?_
                replace h := obd_of h; obtain ⟨μ16, hμ16, h⟩ := h
                refine jr_putI jf_100_56 rfl hμ16 ?_
                refine jr_lconst0 jf_100_59 ?_
                obtain ⟨rfl, rfl⟩ := Prod.mk.inj (Option.some.inj h)
                exact jr_retJ jf_100_60 jmt_100
            · obtain ⟨hb, hx⟩ := jgd_of hx
              refine jr_V9b_2 jf_100_41 hb0 hb (by omega) (r_Numbers_above (by omega) _ _ _ _ _ hx) (Nat.le_of_ble_eq_true rfl) jml_94 (Nat.le_of_ble_eq_true rfl) ?_
              replace h := ite_or h; rcases h with ⟨hc, h⟩ | ⟨hc, h⟩
              · refine jr_ifz_eq_f jf_100_44 hc ?_
                refine jr_lload_n jf_100_47 rfl (jg2_ne rfl hl1) ?_
                obtain ⟨rfl, rfl⟩ := Prod.mk.inj (Option.some.inj h)
                exact jr_retJ jf_100_48 jmt_100
              · refine jr_ifz_eq_t jf_100_44 hc ?_
                refine jr_aload_n jf_100_49 rfl (jg2_ne rfl hl0) ?_
                refine jr_dup jf_100_50 rfl ?_
                replace h := obd_of h; obtain ⟨x15, hx15, h⟩ := h
                refine jr_getI jf_100_51 hx15 ?_
                refine jr_iconst jf_100_54 jc_i_1 ?_
                refine jr_iadd jf_100_55 ?_
                replace h := obd_of h; obtain ⟨μ16, hμ16, h⟩ := h
                refine jr_putI jf_100_56 rfl hμ16 ?_
                refine jr_lconst0 jf_100_59 ?_
                obtain ⟨rfl, rfl⟩ := Prod.mk.inj (Option.some.inj h)
                exact jr_retJ jf_100_60 jmt_100
          · obtain ⟨hb, hx⟩ := jgd_of hx
            refine jr_V8b_1 jf_100_37 hb0 hb (by omega) (r_Shorts_sizeOf (by omega) _ _ _ _ hx) (by simp only [jcats_cons, jcats_nil, cat_int, cat_long, cat_double, cat_float, cat_ref, rv_cat]; decide) jml_101 (Nat.le_of_ble_eq_true rfl) ?_
            refine jr_lload_n jf_100_40 rfl jg2_same ?_
            replace h := obd_of h; obtain ⟨a13, rfl, h⟩ := h
            replace h := obd_of h; obtain ⟨x14, hx14, h⟩ := h
            rcases ite_or hx14 with ⟨hb, hx⟩ | ⟨hb0, hx⟩
            · refine jr_V9a_2 jf_100_41 hb (by omega) (r_Numbers_above (by omega) _ _ _ _ _ hx) (Nat.le_of_ble_eq_true rfl) jml_94 (Nat.le_of_ble_eq_true rfl) ?_
              replace h := ite_or h; rcases h with ⟨hc, h⟩ | ⟨hc, h⟩
              · refine jr_ifz_eq_f jf_100_44 hc ?_
                refine jr_lload_n jf_100_47 rfl (jg2_ne rfl hl1) ?_
                obtain ⟨rfl, rfl⟩ := Prod.mk.inj (Option.some.inj h)
                exact jr_retJ jf_100_48 jmt_100
              · refine jr_ifz_eq_t jf_100_44 hc ?_
                refine jr_aload_n jf_100_49 rfl (jg2_ne rfl hl0) ?_
                refine jr_dup jf_100_50 rfl ?_
                replace h := obd_of h; obtain ⟨x15, hx15, h⟩ := h
                refine jr_getI jf_100_51 hx15 ?_
                refine jr_iconst jf_100_54 jc_i_1 ?_
                refine jr_iadd jf_100_55 ?_
                replace h := obd_of h; obtain ⟨μ16, hμ16, h⟩ := h
                refine jr_putI jf_100_56 rfl hμ16 ?_
                refine jr_lconst0 jf_100_59 ?_
                obtain ⟨rfl, rfl⟩ := Prod.mk.inj (Option.some.inj h)
                exact jr_retJ jf_100_60 jmt_100
            · obtain ⟨hb, hx⟩ := jgd_of hx
              refine jr_V9b_2 jf_100_41 hb0 hb (by omega) (r_Numbers_above (by omega) _ _ _ _ _ hx) (Nat.le_of_ble_eq_true rfl) jml_94 (Nat.le_of_ble_eq_true rfl) ?_
              replace h := ite_or h; rcases h with ⟨hc, h⟩ | ⟨hc, h⟩
              · refine jr_ifz_eq_f jf_100_44 hc ?_
                refine jr_lload_n jf_100_47 rfl (jg2_ne rfl hl1) ?_
                obtain ⟨rfl, rfl⟩ := Prod.mk.inj (Option.some.inj h)
                exact jr_retJ jf_100_48 jmt_100
              · refine jr_ifz_eq_t jf_100_44 hc ?_
                refine jr_aload_n jf_100_49 rfl (jg2_ne rfl hl0) ?_
                refine jr_dup jf_100_50 rfl ?_
                replace h := obd_of h; obtain ⟨x15, hx15, h⟩ := h
                refine jr_getI jf_100_51 hx15 ?_
                refine jr_iconst jf_100_54 jc_i_1 ?_
                refine jr_iadd jf_100_55 ?_
                replace h := obd_of h; obtain ⟨μ16, hμ16, h⟩ := h
                refine jr_putI jf_100_56 rfl hμ16 ?_
                refine jr_lconst0 jf_100_59 ?_
                obtain ⟨rfl, rfl⟩ := Prod.mk.inj (Option.some.inj h)
                exact jr_retJ jf_100_60 jmt_100
        · refine jr_ifz_eq_t jf_100_25 hc ?_
          refine jr_lload_n jf_100_47 rfl (jg2_ne rfl hl1) ?_
          obtain ⟨rfl, rfl⟩ := Prod.mk.inj (Option.some.inj h)
          exact jr_retJ jf_100_48 jmt_100
    · refine jr_ifz_eq_t jf_100_14 hc ?_
      refine jr_lload_n jf_100_47 rfl (jg2_ne rfl hl1) ?_
      obtain ⟨rfl, rfl⟩ := Prod.mk.inj (Option.some.inj h)
      exact jr_retJ jf_100_48 jmt_100
set_option maxRecDepth 10000 in
set_option maxHeartbeats 4000000 in
theorem r_Section_deadened {B : Nat} {SA : Nat → Nat} {d : Nat} (hd : 3 ≤ d) : ∀ (v0 : Nat) (v1 : Int64) (μ : JMem) (r : Int64) (μ9 : JMem), g_Section_deadened B v0 v1 μ = some (r, μ9) → jR B SA d m_Section_deadened 0 (lv_args 0 [.ref v0, .long v1]) [] μ (some (.long r)) μ9 := by
  intro v0 v1 μ r μ9 h
  exact r_Section_deadened_e hd (lv_args 0 _) _ _ _ _ _ (by simp [lv_args, jget, rv_cat, cat_int, cat_long, cat_double, cat_float, cat_ref]) (by simp [lv_args, jget, rv_cat, cat_int, cat_long, cat_double, cat_float, cat_ref]) h
/-! FilterBench$Section.delayed(J)J -/
set_option maxRecDepth 10000 in
set_option maxHeartbeats 4000000 in
theorem r_Section_delayed_e {B : Nat} {SA : Nat → Nat} {d : Nat} (hd : 3 ≤ d) : ∀ (L : JLoc) (v0 : Nat) (v1 : Int64) (μ : JMem) (r : Int64) (μ9 : JMem), jget L 0 = .ref v0 → jget L 1 = .long v1 → g_Section_delayed B v0 v1 μ = some (r, μ9) → jR B SA d m_Section_delayed 0 L [] μ (some (.long r)) μ9 := by
  intro L v0 v1 μ r μ9 hl0 hl1 h
  unfold g_Section_delayed at h
  refine jr_aload_n jf_88_0 rfl hl0 ?_
  replace h := obd_of h; obtain ⟨x1, hx1, h⟩ := h
  refine jr_getA jf_88_1 hx1 ?_
  refine jr_iconst jf_88_4 jc_i_0 ?_
  replace h := obd_of h; obtain ⟨a2, rfl, h⟩ := h
  replace h := jgd_of h; obtain ⟨hb3, h⟩ := h
  replace h := obd_of h; obtain ⟨x4, hx4, h⟩ := h
  refine jr_V6_1 jf_88_5 hb3 (by omega) (r_Row_at (by omega) _ _ _ _ hx4) (Nat.le_of_ble_eq_true rfl) jml_23 (Nat.le_of_ble_eq_true rfl) ?_
  refine jr_lstore_n jf_88_8 rfl jml_88 (by decide) ?_
  refine jr_aload_n jf_88_9 rfl (jg2_ne rfl hl0) ?_
  replace h := obd_of h; obtain ⟨x5, hx5, h⟩ := h
  refine jr_getA jf_88_10 hx5 ?_
  refine jr_lload_n jf_88_13 rfl (jg2_ne rfl hl1) ?_
  replace h := obd_of h; obtain ⟨a6, rfl, h⟩ := h
  replace h := jgd_of h; obtain ⟨hb7, h⟩ := h
  replace h := obd_of h; obtain ⟨μ8, hμ8, h⟩ := h
  refine jr_V6v_1 jf_88_14 hb7 (by omega) (r_Row_push (by omega) _ _ _ _ hμ8) (Nat.le_of_ble_eq_true rfl) jml_89 (Nat.le_of_ble_eq_true rfl) ?_
  refine jr_lload_n jf_88_17 rfl jg2_same ?_
  obtain ⟨rfl, rfl⟩ := Prod.mk.inj (Option.some.inj h)
  exact jr_retJ jf_88_18 jmt_88
set_option maxRecDepth 10000 in
set_option maxHeartbeats 4000000 in
theorem r_Section_delayed {B : Nat} {SA : Nat → Nat} {d : Nat} (hd : 3 ≤ d) : ∀ (v0 : Nat) (v1 : Int64) (μ : JMem) (r : Int64) (μ9 : JMem), g_Section_delayed B v0 v1 μ = some (r, μ9) → jR B SA d m_Section_delayed 0 (lv_args 0 [.ref v0, .long v1]) [] μ (some (.long r)) μ9 := by
  intro v0 v1 μ r μ9 h
  exact r_Section_delayed_e hd (lv_args 0 _) _ _ _ _ _ (by simp [lv_args, jget, rv_cat, cat_int, cat_long, cat_double, cat_float, cat_ref]) (by simp [lv_args, jget, rv_cat, cat_int, cat_long, cat_double, cat_float, cat_ref]) h
/-! FilterBench$Real.opposite(J)J -/
set_option maxRecDepth 10000 in
set_option maxHeartbeats 4000000 in
theorem r_Real_opposite_e {B : Nat} {SA : Nat → Nat} {d : Nat} (hd : 2 ≤ d) : ∀ (L : JLoc) (v0 : Nat) (v1 : Int64) (μ : JMem) (r : Int64), jget L 0 = .ref v0 → jget L 1 = .long v1 → g_Real_opposite v0 v1 μ.1 = some r → jR B SA d m_Real_opposite 0 L [] μ (some (.long r)) μ := by
  intro L v0 v1 μ r hl0 hl1 h
  unfold g_Real_opposite at h
  refine jr_aload_n jf_82_0 rfl hl0 ?_
  refine jr_lload_n jf_82_1 rfl hl1 ?_
  replace h := jgd_of h; obtain ⟨hb1, h⟩ := h
  replace h := obd_of h; obtain ⟨x2, hx2, h⟩ := h
  refine jr_V6_1 jf_82_2 hb1 (by omega) (r_Real_negative (by omega) _ _ _ _ hx2) (Nat.le_of_ble_eq_true rfl) jml_83 (Nat.le_of_ble_eq_true rfl) ?_
  obtain rfl := Option.some.inj h
  exact jr_retJ jf_82_5 jmt_82
set_option maxRecDepth 10000 in
set_option maxHeartbeats 4000000 in
theorem r_Real_opposite {B : Nat} {SA : Nat → Nat} {d : Nat} (hd : 2 ≤ d) : ∀ (v0 : Nat) (v1 : Int64) (μ : JMem) (r : Int64), g_Real_opposite v0 v1 μ.1 = some r → jR B SA d m_Real_opposite 0 (lv_args 0 [.ref v0, .long v1]) [] μ (some (.long r)) μ := by
  intro v0 v1 μ r h
  exact r_Real_opposite_e hd (lv_args 0 _) _ _ _ _ (by simp [lv_args, jget, rv_cat, cat_int, cat_long, cat_double, cat_float, cat_ref]) (by simp [lv_args, jget, rv_cat, cat_int, cat_long, cat_double, cat_float, cat_ref]) h
/-! FilterBench$Shorts.opposite(J)J -/
set_option maxRecDepth 10000 in
set_option maxHeartbeats 4000000 in
theorem r_Shorts_opposite_e {B : Nat} {SA : Nat → Nat} {d : Nat} (hd : 0 ≤ d) : ∀ (L : JLoc) (v1 : Int64) (μ : JMem) (r : Int64), jget L 1 = .long v1 → g_Shorts_opposite_e v1 = r → jR B SA d m_Shorts_opposite 0 L [] μ (some (.long r)) μ := by
  intro L v1 μ r hl1 h
  unfold g_Shorts_opposite_e at h
  refine jr_lload_n jf_84_0 rfl hl1 ?_
  refine jr_lneg jf_84_1 ?_
  subst h
  exact jr_retJ jf_84_2 jmt_84
set_option maxRecDepth 10000 in
set_option maxHeartbeats 4000000 in
theorem r_Shorts_opposite {B : Nat} {SA : Nat → Nat} {d : Nat} (hd : 0 ≤ d) : ∀ (v0 : Nat) (v1 : Int64) (μ : JMem) (r : Int64), g_Shorts_opposite v0 v1 = r → jR B SA d m_Shorts_opposite 0 (lv_args 0 [.ref v0, .long v1]) [] μ (some (.long r)) μ := by
  intro v0 v1 μ r h
  exact r_Shorts_opposite_e hd (lv_args 0 _) _ _ _ (by simp [lv_args, jget, rv_cat, cat_int, cat_long, cat_double, cat_float, cat_ref]) h
/-! FilterBench$Section.lessTimes(IJ)J -/
set_option maxRecDepth 10000 in
set_option maxHeartbeats 4000000 in
theorem r_Section_lessTimes_e {B : Nat} {SA : Nat → Nat} {d : Nat} (hd : 3 ≤ d) : ∀ (L : JLoc) (v0 : Nat) (v1 : Int32) (v2 : Int64) (μ : JMem) (r : Int64), jget L 0 = .ref v0 → jget L 1 = .int v1 → jget L 2 = .long v2 → g_Section_lessTimes v0 v1 v2 μ.1 = some r → jR B SA d m_Section_lessTimes 0 L [] μ (some (.long r)) μ := by
  intro L v0 v1 v2 μ r hl0 hl1 hl2 h
  unfold g_Section_lessTimes at h
  refine jr_aload_n jf_81_0 rfl hl0 ?_
  replace h := obd_of h; obtain ⟨x1, hx1, h⟩ := h
  refine jr_getA jf_81_1 hx1 ?_
  refine jr_aload_n jf_81_4 rfl hl0 ?_
  replace h := obd_of h; obtain ⟨x2, hx2, h⟩ := h
  refine jr_getA jf_81_5 hx2 ?_
  refine jr_aload_n jf_81_8 rfl hl0 ?_
  refine jr_iload_n jf_81_9 rfl hl1 ?_
  replace h := jgd_of h; obtain ⟨hb3, h⟩ := h
  replace h := obd_of h; obtain ⟨x4, hx4, h⟩ := h
  refine jr_V6_1 jf_81_10 hb3 (by omega) (r_Section_factor (by omega) _ _ _ _ hx4) (by simp only [jcats_cons, jcats_nil, cat_int, cat_long, cat_double, cat_float, cat_ref, rv_cat]; decide) jml_28 (Nat.le_of_ble_eq_true rfl) ?_
  refine jr_lload_n jf_81_13 rfl hl2 ?_
  replace h := obd_of h; obtain ⟨a5, rfl, h⟩ := h
  replace h := obd_of h; obtain ⟨x6, hx6, h⟩ := h
  rcases ite_or hx6 with ⟨hb, hx⟩ | ⟨hb0, hx⟩
  · refine jr_V8a_2 jf_81_14 hb (by omega) (r_Real_product (by omega) _ _ _ _ _ hx) (by simp only [jcats_cons, jcats_nil, cat_int, cat_long, cat_double, cat_float, cat_ref, rv_cat]; decide) jml_53 (Nat.le_of_ble_eq_true rfl) ?_
    replace h := obd_of h; obtain ⟨a7, rfl, h⟩ := h
    replace h := obd_of h; obtain ⟨x8, hx8, h⟩ := h
    rcases ite_or hx8 with ⟨hb, hx⟩ | ⟨hb0, hx⟩
    · refine jr_V8a_1 jf_81_17 hb (by omega) (r_Real_opposite (by omega) _ _ _ _ hx) (Nat.le_of_ble_eq_true rfl) jml_82 (Nat.le_of_ble_eq_true rfl) ?_
      obtain rfl := Option.some.inj h
      exact jr_retJ jf_81_20 jmt_81
    · obtain ⟨hb, hx⟩ := jgd_of hx
      obtain hx := Option.some.inj hx
      refine jr_V8b_1 jf_81_17 hb0 hb (by omega) (r_Shorts_opposite (by omega) _ _ _ _ hx) (Nat.le_of_ble_eq_true rfl) jml_84 (Nat.le_of_ble_eq_true rfl) ?_
      obtain rfl := Option.some.inj h
      exact jr_retJ jf_81_20 jmt_81
  · obtain ⟨hb, hx⟩ := jgd_of hx
    obtain hx := Option.some.inj hx
    refine jr_V8b_2 jf_81_14 hb0 hb (by omega) (r_Shorts_product (by omega) _ _ _ _ _ hx) (by simp only [jcats_cons, jcats_nil, cat_int, cat_long, cat_double, cat_float, cat_ref, rv_cat]; decide) jml_62 (Nat.le_of_ble_eq_true rfl) ?_
    replace h := obd_of h; obtain ⟨a7, rfl, h⟩ := h
    replace h := obd_of h; obtain ⟨x8, hx8, h⟩ := h
    rcases ite_or hx8 with ⟨hb, hx⟩ | ⟨hb0, hx⟩
    · refine jr_V8a_1 jf_81_17 hb (by omega) (r_Real_opposite (by omega) _ _ _ _ hx) (Nat.le_of_ble_eq_true rfl) jml_82 (Nat.le_of_ble_eq_true rfl) ?_
      obtain rfl := Option.some.inj h
      exact jr_retJ jf_81_20 jmt_81
    · obtain ⟨hb, hx⟩ := jgd_of hx
      obtain hx := Option.some.inj hx
      refine jr_V8b_1 jf_81_17 hb0 hb (by omega) (r_Shorts_opposite (by omega) _ _ _ _ hx) (Nat.le_of_ble_eq_true rfl) jml_84 (Nat.le_of_ble_eq_true rfl) ?_
      obtain rfl := Option.some.inj h
      exact jr_retJ jf_81_20 jmt_81
set_option maxRecDepth 10000 in
set_option maxHeartbeats 4000000 in
theorem r_Section_lessTimes {B : Nat} {SA : Nat → Nat} {d : Nat} (hd : 3 ≤ d) : ∀ (v0 : Nat) (v1 : Int32) (v2 : Int64) (μ : JMem) (r : Int64), g_Section_lessTimes v0 v1 v2 μ.1 = some r → jR B SA d m_Section_lessTimes 0 (lv_args 0 [.ref v0, .int v1, .long v2]) [] μ (some (.long r)) μ := by
  intro v0 v1 v2 μ r h
  exact r_Section_lessTimes_e hd (lv_args 0 _) _ _ _ _ _ (by simp [lv_args, jget, rv_cat, cat_int, cat_long, cat_double, cat_float, cat_ref]) (by simp [lv_args, jget, rv_cat, cat_int, cat_long, cat_double, cat_float, cat_ref]) (by simp [lv_args, jget, rv_cat, cat_int, cat_long, cat_double, cat_float, cat_ref]) h
/-! FilterBench$Section.direct(J)J -/
set_option maxRecDepth 10000 in
set_option maxHeartbeats 4000000 in
theorem r_Section_direct_e {B : Nat} {SA : Nat → Nat} {d : Nat} (hd : 4 ≤ d) : ∀ (L : JLoc) (v0 : Nat) (v1 : Int64) (μ : JMem) (r : Int64) (μ9 : JMem), jget L 0 = .ref v0 → jget L 1 = .long v1 → g_Section_direct B v0 v1 μ = some (r, μ9) → jR B SA d m_Section_direct 0 L [] μ (some (.long r)) μ9 := by
  intro L v0 v1 μ r μ9 hl0 hl1 h
  unfold g_Section_direct at h
  refine jr_aload_n jf_80_0 rfl hl0 ?_
  replace h := obd_of h; obtain ⟨x1, hx1, h⟩ := h
  refine jr_getA jf_80_1 hx1 ?_
  refine jr_aload_n jf_80_4 rfl hl0 ?_
  refine jr_iconst jf_80_5 jc_i_0 ?_
  refine jr_lload_n jf_80_6 rfl hl1 ?_
  replace h := jgd_of h; obtain ⟨hb2, h⟩ := h
  replace h := obd_of h; obtain ⟨x3, hx3, h⟩ := h
  refine jr_V6_2 jf_80_7 hb2 (by omega) (r_Section_times (by omega) _ _ _ _ _ hx3) (by simp only [jcats_cons, jcats_nil, cat_int, cat_long, cat_double, cat_float, cat_ref, rv_cat]; decide) jml_78 (Nat.le_of_ble_eq_true rfl) ?_
  refine jr_aload_n jf_80_10 rfl hl0 ?_
  refine jr_iconst jf_80_11 jc_i_1 ?_
  refine jr_aload_n jf_80_12 rfl hl0 ?_
  replace h := obd_of h; obtain ⟨x4, hx4, h⟩ := h
  refine jr_getA jf_80_13 hx4 ?_
  refine jr_iconst jf_80_16 jc_i_0 ?_
  replace h := obd_of h; obtain ⟨a5, rfl, h⟩ := h
  replace h := jgd_of h; obtain ⟨hb6, h⟩ := h
  replace h := obd_of h; obtain ⟨x7, hx7, h⟩ := h
  refine jr_V6_1 jf_80_17 hb6 (by omega) (r_Row_at (by omega) _ _ _ _ hx7) (by simp only [jcats_cons, jcats_nil, cat_int, cat_long, cat_double, cat_float, cat_ref, rv_cat]; decide) jml_23 (Nat.le_of_ble_eq_true rfl) ?_
  replace h := jgd_of h; obtain ⟨hb8, h⟩ := h
  replace h := obd_of h; obtain ⟨x9, hx9, h⟩ := h
  refine jr_V6_2 jf_80_20 hb8 (by omega) (r_Section_times (by omega) _ _ _ _ _ hx9) (by simp only [jcats_cons, jcats_nil, cat_int, cat_long, cat_double, cat_float, cat_ref, rv_cat]; decide) jml_78 (Nat.le_of_ble_eq_true rfl) ?_
  replace h := obd_of h; obtain ⟨a10, rfl, h⟩ := h
  replace h := obd_of h; obtain ⟨x11, hx11, h⟩ := h
  rcases ite_or hx11 with ⟨hb, hx⟩ | ⟨hb0, hx⟩
  · refine jr_V8a_2 jf_80_23 hb (by omega) (r_Real_plus (by omega) _ _ _ _ _ hx) (Nat.le_of_ble_eq_true rfl) jml_65 (Nat.le_of_ble_eq_true rfl) ?_
    refine jr_lstore_n jf_80_26 rfl jml_80 (by decide) ?_
    refine jr_aload_n jf_80_27 rfl (jg2_ne rfl hl0) ?_
    replace h := obd_of h; obtain ⟨x12, hx12, h⟩ := h
    refine jr_getA jf_80_28 hx12 ?_
    refine jr_lload_n jf_80_31 rfl jg2_same ?_
    refine jr_aload_n jf_80_32 rfl (jg2_ne rfl hl0) ?_
    refine jr_iconst jf_80_33 jc_i_2 ?_
    refine jr_aload_n jf_80_34 rfl (jg2_ne rfl hl0) ?_
    replace h := obd_of h; obtain ⟨x13, hx13, h⟩ := h
    refine jr_getA jf_80_35 hx13 ?_
    refine jr_iconst jf_80_38 jc_i_1 ?_
    replace h := obd_of h; obtain ⟨a14, rfl, h⟩ := h
    replace h := jgd_of h; obtain ⟨hb15, h⟩ := h
    replace h := obd_of h; obtain ⟨x16, hx16, h⟩ := h
    refine jr_V6_1 jf_80_39 hb15 (by omega) (r_Row_at (by omega) _ _ _ _ hx16) (by simp only [jcats_cons, jcats_nil, cat_int, cat_long, cat_double, cat_float, cat_ref, rv_cat]; decide) jml_23 (Nat.le_of_ble_eq_true rfl) ?_
    replace h := jgd_of h; obtain ⟨hb17, h⟩ := h
    replace h := obd_of h; obtain ⟨x18, hx18, h⟩ := h
    refine jr_V6_2 jf_80_42 hb17 (by omega) (r_Section_times (by omega) _ _ _ _ _ hx18) (by simp only [jcats_cons, jcats_nil, cat_int, cat_long, cat_double, cat_float, cat_ref, rv_cat]; decide) jml_78 (Nat.le_of_ble_eq_true rfl) ?_
    replace h := obd_of h; obtain ⟨a19, rfl, h⟩ := h
    replace h := obd_of h; obtain ⟨x20, hx20, h⟩ := h
    rcases ite_or hx20 with ⟨hb, hx⟩ | ⟨hb0, hx⟩
    · refine jr_V8a_2 jf_80_45 hb (by omega) (r_Real_plus (by omega) _ _ _ _ _ hx) (Nat.le_of_ble_eq_true rfl) jml_65 (Nat.le_of_ble_eq_true rfl) ?_
      refine jr_lstore_n jf_80_48 rfl jml_80 (by decide) ?_
      refine jr_aload_n jf_80_49 rfl (jg2_ne rfl (jg2_ne rfl hl0)) ?_
      replace h := obd_of h; obtain ⟨x21, hx21, h⟩ := h
      refine jr_getA jf_80_50 hx21 ?_
      refine jr_lload_n jf_80_53 rfl jg2_same ?_
      refine jr_aload_n jf_80_54 rfl (jg2_ne rfl (jg2_ne rfl hl0)) ?_
      refine jr_iconst jf_80_55 jc_i_3 ?_
      refine jr_aload_n jf_80_56 rfl (jg2_ne rfl (jg2_ne rfl hl0)) ?_
      replace h := obd_of h; obtain ⟨x22, hx22, h⟩ := h
      refine jr_getA jf_80_57 hx22 ?_
      refine jr_iconst jf_80_60 jc_i_2 ?_
      replace h := obd_of h; obtain ⟨a23, rfl, h⟩ := h
      replace h := jgd_of h; obtain ⟨hb24, h⟩ := h
      replace h := obd_of h; obtain ⟨x25, hx25, h⟩ := h
      refine jr_V6_1 jf_80_61 hb24 (by omega) (r_Row_at (by omega) _ _ _ _ hx25) (by simp only [jcats_cons, jcats_nil, cat_int, cat_long, cat_double, cat_float, cat_ref, rv_cat]; decide) jml_23 (Nat.le_of_ble_eq_true rfl) ?_
      replace h := jgd_of h; obtain ⟨hb26, h⟩ := h
      replace h := obd_of h; obtain ⟨x27, hx27, h⟩ := h
      refine jr_V6_2 jf_80_64 hb26 (by omega) (r_Section_lessTimes (by omega) _ _ _ _ _ hx27) (by simp only [jcats_cons, jcats_nil, cat_int, cat_long, cat_double, cat_float, cat_ref, rv_cat]; decide) jml_81 (Nat.le_of_ble_eq_true rfl) ?_
      replace h := obd_of h; obtain ⟨a28, rfl, h⟩ := h
      replace h := obd_of h; obtain ⟨x29, hx29, h⟩ := h
      rcases ite_or hx29 with ⟨hb, hx⟩ | ⟨hb0, hx⟩
      · refine jr_V8a_2 jf_80_67 hb (by omega) (r_Real_plus (by omega) _ _ _ _ _ hx) (Nat.le_of_ble_eq_true rfl) jml_65 (Nat.le_of_ble_eq_true rfl) ?_
        refine jr_lstore_n jf_80_70 rfl jml_80 (by decide) ?_
        refine jr_aload_n jf_80_71 rfl (jg2_ne rfl (jg2_ne rfl (jg2_ne rfl hl0))) ?_
        refine jr_aload_n jf_80_72 rfl (jg2_ne rfl (jg2_ne rfl (jg2_ne rfl hl0))) ?_
        replace h := obd_of h; obtain ⟨x30, hx30, h⟩ := h
        refine jr_getA jf_80_73 hx30 ?_
        refine jr_lload_n jf_80_76 rfl jg2_same ?_
        refine jr_aload_n jf_80_77 rfl (jg2_ne rfl (jg2_ne rfl (jg2_ne rfl hl0))) ?_
        refine jr_iconst jf_80_78 jc_i_4 ?_
        refine jr_aload_n jf_80_79 rfl (jg2_ne rfl (jg2_ne rfl (jg2_ne rfl hl0))) ?_
        replace h := obd_of h; obtain ⟨x31, hx31, h⟩ := h
        refine jr_getA jf_80_80 hx31 ?_
        refine jr_iconst jf_80_83 jc_i_3 ?_
        replace h := obd_of h; obtain ⟨a32, rfl, h⟩ := h
        replace h := jgd_of h; obtain ⟨hb33, h⟩ := h
        replace h := obd_of h; obtain ⟨x34, hx34, h⟩ := h
        refine jr_V6_1 jf_80_84 hb33 (by omega) (r_Row_at (by omega) _ _ _ _ hx34) (by simp only [jcats_cons, jcats_nil, cat_int, cat_long, cat_double, cat_float, cat_ref, rv_cat]; decide) jml_23 (Nat.le_of_ble_eq_true rfl) ?_
        replace h := jgd_of h; obtain ⟨hb35, h⟩ := h
        replace h := obd_of h; obtain ⟨x36, hx36, h⟩ := h
        refine jr_V6_2 jf_80_87 hb35 (by omega) (r_Section_lessTimes (by omega) _ _ _ _ _ hx36) (by simp only [jcats_cons, jcats_nil, cat_int, cat_long, cat_double, cat_float, cat_ref, rv_cat]; decide) jml_81 (Nat.le_of_ble_eq_true rfl) ?_
        replace h := obd_of h; obtain ⟨a37, rfl, h⟩ := h
        replace h := obd_of h; obtain ⟨x38, hx38, h⟩ := h
        rcases ite_or hx38 with ⟨hb, hx⟩ | ⟨hb0, hx⟩
        · refine jr_V8a_2 jf_80_90 hb (by omega) (r_Real_plus (by omega) _ _ _ _ _ hx) (Nat.le_of_ble_eq_true rfl) jml_65 (Nat.le_of_ble_eq_true rfl) ?_
          replace h := jgd_of h; obtain ⟨hb39, h⟩ := h
          replace h := jbd2_of h; obtain ⟨x40, μ41, hx40, h⟩ := h
          refine jr_V6_1 jf_80_93 hb39 (by omega) (r_Section_settled (by omega) _ _ _ _ _ hx40) (Nat.le_of_ble_eq_true rfl) jml_70 (Nat.le_of_ble_eq_true rfl) ?_
          refine jr_lstore jf_80_96 jml_80 (by decide) ?_
          refine jr_aload_n jf_80_98 rfl (jg2_ne rfl (jg2_ne rfl (jg2_ne rfl (jg2_ne rfl hl0)))) ?_
          replace h := obd_of h; obtain ⟨x42, hx42, h⟩ := h
          refine jr_getA jf_80_99 hx42 ?_
          refine jr_iconst jf_80_102 jc_i_1 ?_
          refine jr_aload_n jf_80_103 rfl (jg2_ne rfl (jg2_ne rfl (jg2_ne rfl (jg2_ne rfl hl0)))) ?_
          replace h := obd_of h; obtain ⟨x43, hx43, h⟩ := h
          refine jr_getA jf_80_104 hx43 ?_
          refine jr_iconst jf_80_107 jc_i_0 ?_
          replace h := obd_of h; obtain ⟨a44, rfl, h⟩ := h
          replace h := jgd_of h; obtain ⟨hb45, h⟩ := h
          replace h := obd_of h; obtain ⟨x46, hx46, h⟩ := h
          refine jr_V6_1 jf_80_108 hb45 (by omega) (r_Row_at (by omega) _ _ _ _ hx46) (by simp only [jcats_cons, jcats_nil, cat_int, cat_long, cat_double, cat_float, cat_ref, rv_cat]; decide) jml_23 (Nat.le_of_ble_eq_true rfl) ?_
          replace h := obd_of h; obtain ⟨a47, rfl, h⟩ := h
          replace h := jgd_of h; obtain ⟨hb48, h⟩ := h
          replace h := obd_of h; obtain ⟨μ49, hμ49, h⟩ := h
          refine jr_V6v_2 jf_80_111 hb48 (by omega) (r_Row_put (by omega) _ _ _ _ _ hμ49) (Nat.le_of_ble_eq_true rfl) jml_50 (Nat.le_of_ble_eq_true rfl) ?_
          refine jr_aload_n jf_80_114 rfl (jg2_ne rfl (jg2_ne rfl (jg2_ne rfl (jg2_ne rfl hl0)))) ?_
          replace h := obd_of h; obtain ⟨x50, hx50, h⟩ := h
          refine jr_getA jf_80_115 hx50 ?_
          refine jr_iconst jf_80_118 jc_i_0 ?_
          refine jr_lload_n jf_80_119 rfl (jg2_ne rfl (jg2_ne rfl (jg2_ne rfl (jg2_ne rfl hl1)))) ?_
          replace h := obd_of h; obtain ⟨a51, rfl, h⟩ := h
          replace h := jgd_of h; obtain ⟨hb52, h⟩ := h
          replace h := obd_of h; obtain ⟨μ53, hμ53, h⟩ := h
          refine jr_V6v_2 jf_80_120 hb52 (by omega) (r_Row_put (by omega) _ _ _ _ _ hμ53) (Nat.le_of_ble_eq_true rfl) jml_50 (Nat.le_of_ble_eq_true rfl) ?_
          refine jr_aload_n jf_80_123 rfl (jg2_ne rfl (jg2_ne rfl (jg2_ne rfl (jg2_ne rfl hl0)))) ?_
          replace h := obd_of h; obtain ⟨x54, hx54, h⟩ := h
          refine jr_getA jf_80_124 hx54 ?_
          refine jr_iconst jf_80_127 jc_i_3 ?_
          refine jr_aload_n jf_80_128 rfl (jg2_ne rfl (jg2_ne rfl (jg2_ne rfl (jg2_ne rfl hl0)))) ?_
          replace h := obd_of h; obtain ⟨x55, hx55, h⟩ := h
          refine jr_getA jf_80_129 hx55 ?_
          refine jr_iconst jf_80_132 jc_i_2 ?_
          replace h := obd_of h; obtain ⟨a56, rfl, h⟩ := h
          replace h := jgd_of h; obtain ⟨hb57, h⟩ := h
          replace h := obd_of h; obtain ⟨x58, hx58, h⟩ := h
          refine jr_V6_1 jf_80_133 hb57 (by omega) (r_Row_at (by omega) _ _ _ _ hx58) (by simp only [jcats_cons, jcats_nil, cat_int, cat_long, cat_double, cat_float, cat_ref, rv_cat]; decide) jml_23 (Nat.le_of_ble_eq_true rfl) ?_
          replace h := obd_of h; obtain ⟨a59, rfl, h⟩ := h
          replace h := jgd_of h; obtain ⟨hb60, h⟩ := h
          replace h := obd_of h; obtain ⟨μ61, hμ61, h⟩ := h
          refine jr_V6v_2 jf_80_136 hb60 (by omega) (r_Row_put (by omega) _ _ _ _ _ hμ61) (Nat.le_of_ble_eq_true rfl) jml_50 (Nat.le_of_ble_eq_true rfl) ?_
          refine jr_aload_n jf_80_139 rfl (jg2_ne rfl (jg2_ne rfl (jg2_ne rfl (jg2_ne rfl hl0)))) ?_
          replace h := obd_of h; obtain ⟨x62, hx62, h⟩ := h
          refine jr_getA jf_80_140 hx62 ?_
          refine jr_iconst jf_80_143 jc_i_2 ?_
          refine jr_lload jf_80_144 jg2_same ?_
          replace h := obd_of h; obtain ⟨a63, rfl, h⟩ := h
          replace h := jgd_of h; obtain ⟨hb64, h⟩ := h
          replace h := obd_of h; obtain ⟨μ65, hμ65, h⟩ := h
          refine jr_V6v_2 jf_80_146 hb64 (by omega) (r_Row_put (by omega) _ _ _ _ _ hμ65) (Nat.le_of_ble_eq_true rfl) jml_50 (Nat.le_of_ble_eq_true rfl) ?_
          refine jr_lload jf_80_149 jg2_same ?_
          obtain ⟨rfl, rfl⟩ := Prod.mk.inj (Option.some.inj h)
          exact jr_retJ jf_80_151 jmt_80
        · obtain ⟨hb, hx⟩ := jgd_of hx
          obtain hx := Option.some.inj hx
          refine jr_V8b_2 jf_80_90 hb0 hb (by omega) (r_Shorts_plus (by omega) _ _ _ _ _ hx) (Nat.le_of_ble_eq_true rfl) jml_69 (Nat.le_of_ble_eq_true rfl) ?_
          replace h := jgd_of h; obtain ⟨hb39, h⟩ := h
          replace h := jbd2_of h; obtain ⟨x40, μ41, hx40, h⟩ := h
          refine jr_V6_1 jf_80_93 hb39 (by omega) (r_Section_settled (by omega) _ _ _ _ _ hx40) (Nat.le_of_ble_eq_true rfl) jml_70 (Nat.le_of_ble_eq_true rfl) ?_
          refine jr_lstore jf_80_96 jml_80 (by decide) ?_
          refine jr_aload_n jf_80_98 rfl (jg2_ne rfl (jg2_ne rfl (jg2_ne rfl (jg2_ne rfl hl0)))) ?_
          replace h := obd_of h; obtain ⟨x42, hx42, h⟩ := h
          refine jr_getA jf_80_99 hx42 ?_
          refine jr_iconst jf_80_102 jc_i_1 ?_
          refine jr_aload_n jf_80_103 rfl (jg2_ne rfl (jg2_ne rfl (jg2_ne rfl (jg2_ne rfl hl0)))) ?_
          replace h := obd_of h; obtain ⟨x43, hx43, h⟩ := h
          refine jr_getA jf_80_104 hx43 ?_
          refine jr_iconst jf_80_107 jc_i_0 ?_
          replace h := obd_of h; obtain ⟨a44, rfl, h⟩ := h
          replace h := jgd_of h; obtain ⟨hb45, h⟩ := h
          replace h := obd_of h; obtain ⟨x46, hx46, h⟩ := h
          refine jr_V6_1 jf_80_108 hb45 (by omega) (r_Row_at (by omega) _ _ _ _ hx46) (by simp only [jcats_cons, jcats_nil, cat_int, cat_long, cat_double, cat_float, cat_ref, rv_cat]; decide) jml_23 (Nat.le_of_ble_eq_true rfl) ?_
          replace h := obd_of h; obtain ⟨a47, rfl, h⟩ := h
          replace h := jgd_of h; obtain ⟨hb48, h⟩ := h
          replace h := obd_of h; obtain ⟨μ49, hμ49, h⟩ := h
          refine jr_V6v_2 jf_80_111 hb48 (by omega) (r_Row_put (by omega) _ _ _ _ _ hμ49) (Nat.le_of_ble_eq_true rfl) jml_50 (Nat.le_of_ble_eq_true rfl) ?_
          refine jr_aload_n jf_80_114 rfl (jg2_ne rfl (jg2_ne rfl (jg2_ne rfl (jg2_ne rfl hl0)))) ?_
          replace h := obd_of h; obtain ⟨x50, hx50, h⟩ := h
          refine jr_getA jf_80_115 hx50 ?_
          refine jr_iconst jf_80_118 jc_i_0 ?_
          refine jr_lload_n jf_80_119 rfl (jg2_ne rfl (jg2_ne rfl (jg2_ne rfl (jg2_ne rfl hl1)))) ?_
          replace h := obd_of h; obtain ⟨a51, rfl, h⟩ := h
          replace h := jgd_of h; obtain ⟨hb52, h⟩ := h
          replace h := obd_of h; obtain ⟨μ53, hμ53, h⟩ := h
          refine jr_V6v_2 jf_80_120 hb52 (by omega) (r_Row_put (by omega) _ _ _ _ _ hμ53) (Nat.le_of_ble_eq_true rfl) jml_50 (Nat.le_of_ble_eq_true rfl) ?_
          refine jr_aload_n jf_80_123 rfl (jg2_ne rfl (jg2_ne rfl (jg2_ne rfl (jg2_ne rfl hl0)))) ?_
          replace h := obd_of h; obtain ⟨x54, hx54, h⟩ := h
          refine jr_getA jf_80_124 hx54 ?_
          refine jr_iconst jf_80_127 jc_i_3 ?_
          refine jr_aload_n jf_80_128 rfl (jg2_ne rfl (jg2_ne rfl (jg2_ne rfl (jg2_ne rfl hl0)))) ?_
          replace h := obd_of h; obtain ⟨x55, hx55, h⟩ := h
          refine jr_getA jf_80_129 hx55 ?_
          refine jr_iconst jf_80_132 jc_i_2 ?_
          replace h := obd_of h; obtain ⟨a56, rfl, h⟩ := h
          replace h := jgd_of h; obtain ⟨hb57, h⟩ := h
          replace h := obd_of h; obtain ⟨x58, hx58, h⟩ := h
          refine jr_V6_1 jf_80_133 hb57 (by omega) (r_Row_at (by omega) _ _ _ _ hx58) (by simp only [jcats_cons, jcats_nil, cat_int, cat_long, cat_double, cat_float, cat_ref, rv_cat]; decide) jml_23 (Nat.le_of_ble_eq_true rfl) ?_
          replace h := obd_of h; obtain ⟨a59, rfl, h⟩ := h
          replace h := jgd_of h; obtain ⟨hb60, h⟩ := h
          replace h := obd_of h; obtain ⟨μ61, hμ61, h⟩ := h
          refine jr_V6v_2 jf_80_136 hb60 (by omega) (r_Row_put (by omega) _ _ _ _ _ hμ61) (Nat.le_of_ble_eq_true rfl) jml_50 (Nat.le_of_ble_eq_true rfl) ?_
          refine jr_aload_n jf_80_139 rfl (jg2_ne rfl (jg2_ne rfl (jg2_ne rfl (jg2_ne rfl hl0)))) ?_
          replace h := obd_of h; obtain ⟨x62, hx62, h⟩ := h
          refine jr_getA jf_80_140 hx62 ?_
          refine jr_iconst jf_80_143 jc_i_2 ?_
          refine jr_lload jf_80_144 jg2_same ?_
          replace h := obd_of h; obtain ⟨a63, rfl, h⟩ := h
          replace h := jgd_of h; obtain ⟨hb64, h⟩ := h
          replace h := obd_of h; obtain ⟨μ65, hμ65, h⟩ := h
          refine jr_V6v_2 jf_80_146 hb64 (by omega) (r_Row_put (by omega) _ _ _ _ _ hμ65) (Nat.le_of_ble_eq_true rfl) jml_50 (Nat.le_of_ble_eq_true rfl) ?_
          refine jr_lload jf_80_149 jg2_same ?_
          obtain ⟨rfl, rfl⟩ := Prod.mk.inj (Option.some.inj h)
          exact jr_retJ jf_80_151 jmt_80
      · obtain ⟨hb, hx⟩ := jgd_of hx
        obtain hx := Option.some.inj hx
        refine jr_V8b_2 jf_80_67 hb0 hb (by omega) (r_Shorts_plus (by omega) _ _ _ _ _ hx) (Nat.le_of_ble_eq_true rfl) jml_69 (Nat.le_of_ble_eq_true rfl) ?_
        refine jr_lstore_n jf_80_70 rfl jml_80 (by decide) ?_
        refine jr_aload_n jf_80_71 rfl (jg2_ne rfl (jg2_ne rfl (jg2_ne rfl hl0))) ?_
        refine jr_aload_n jf_80_72 rfl (jg2_ne rfl (jg2_ne rfl (jg2_ne rfl hl0))) ?_
        replace h := obd_of h; obtain ⟨x30, hx30, h⟩ := h
        refine jr_getA jf_80_73 hx30 ?_
        refine jr_lload_n jf_80_76 rfl jg2_same ?_
        refine jr_aload_n jf_80_77 rfl (jg2_ne rfl (jg2_ne rfl (jg2_ne rfl hl0))) ?_
        refine jr_iconst jf_80_78 jc_i_4 ?_
        refine jr_aload_n jf_80_79 rfl (jg2_ne rfl (jg2_ne rfl (jg2_ne rfl hl0))) ?_
        replace h := obd_of h; obtain ⟨x31, hx31, h⟩ := h
        refine jr_getA jf_80_80 hx31 ?_
        refine jr_iconst jf_80_83 jc_i_3 ?_
        replace h := obd_of h; obtain ⟨a32, rfl, h⟩ := h
        replace h := jgd_of h; obtain ⟨hb33, h⟩ := h
        replace h := obd_of h; obtain ⟨x34, hx34, h⟩ := h
        refine jr_V6_1 jf_80_84 hb33 (by omega) (r_Row_at (by omega) _ _ _ _ hx34) (by simp only [jcats_cons, jcats_nil, cat_int, cat_long, cat_double, cat_float, cat_ref, rv_cat]; decide) jml_23 (Nat.le_of_ble_eq_true rfl) ?_
        replace h := jgd_of h; obtain ⟨hb35, h⟩ := h
        replace h := obd_of h; obtain ⟨x36, hx36, h⟩ := h
        refine jr_V6_2 jf_80_87 hb35 (by omega) (r_Section_lessTimes (by omega) _ _ _ _ _ hx36) (by simp only [jcats_cons, jcats_nil, cat_int, cat_long, cat_double, cat_float, cat_ref, rv_cat]; decide) jml_81 (Nat.le_of_ble_eq_true rfl) ?_
        replace h := obd_of h; obtain ⟨a37, rfl, h⟩ := h
        replace h := obd_of h; obtain ⟨x38, hx38, h⟩ := h
        rcases ite_or hx38 with ⟨hb, hx⟩ | ⟨hb0, hx⟩
        · refine jr_V8a_2 jf_80_90 hb (by omega) (r_Real_plus (by omega) _ _ _ _ _ hx) (Nat.le_of_ble_eq_true rfl) jml_65 (Nat.le_of_ble_eq_true rfl) ?_
          replace h := jgd_of h; obtain ⟨hb39, h⟩ := h
          replace h := jbd2_of h; obtain ⟨x40, μ41, hx40, h⟩ := h
          refine jr_V6_1 jf_80_93 hb39 (by omega) (r_Section_settled (by omega) _ _ _ _ _ hx40) (Nat.le_of_ble_eq_true rfl) jml_70 (Nat.le_of_ble_eq_true rfl) ?_
          refine jr_lstore jf_80_96 jml_80 (by decide) ?_
          refine jr_aload_n jf_80_98 rfl (jg2_ne rfl (jg2_ne rfl (jg2_ne rfl (jg2_ne rfl hl0)))) ?_
          replace h := obd_of h; obtain ⟨x42, hx42, h⟩ := h
          refine jr_getA jf_80_99 hx42 ?_
          refine jr_iconst jf_80_102 jc_i_1 ?_
          refine jr_aload_n jf_80_103 rfl (jg2_ne rfl (jg2_ne rfl (jg2_ne rfl (jg2_ne rfl hl0)))) ?_
          replace h := obd_of h; obtain ⟨x43, hx43, h⟩ := h
          refine jr_getA jf_80_104 hx43 ?_
          refine jr_iconst jf_80_107 jc_i_0 ?_
          replace h := obd_of h; obtain ⟨a44, rfl, h⟩ := h
          replace h := jgd_of h; obtain ⟨hb45, h⟩ := h
          replace h := obd_of h; obtain ⟨x46, hx46, h⟩ := h
          refine jr_V6_1 jf_80_108 hb45 (by omega) (r_Row_at (by omega) _ _ _ _ hx46) (by simp only [jcats_cons, jcats_nil, cat_int, cat_long, cat_double, cat_float, cat_ref, rv_cat]; decide) jml_23 (Nat.le_of_ble_eq_true rfl) ?_
          replace h := obd_of h; obtain ⟨a47, rfl, h⟩ := h
          replace h := jgd_of h; obtain ⟨hb48, h⟩ := h
          replace h := obd_of h; obtain ⟨μ49, hμ49, h⟩ := h
          refine jr_V6v_2 jf_80_111 hb48 (by omega) (r_Row_put (by omega) _ _ _ _ _ hμ49) (Nat.le_of_ble_eq_true rfl) jml_50 (Nat.le_of_ble_eq_true rfl) ?_
          refine jr_aload_n jf_80_114 rfl (jg2_ne rfl (jg2_ne rfl (jg2_ne rfl (jg2_ne rfl hl0)))) ?_
          replace h := obd_of h; obtain ⟨x50, hx50, h⟩ := h
          refine jr_getA jf_80_115 hx50 ?_
          refine jr_iconst jf_80_118 jc_i_0 ?_
          refine jr_lload_n jf_80_119 rfl (jg2_ne rfl (jg2_ne rfl (jg2_ne rfl (jg2_ne rfl hl1)))) ?_
          replace h := obd_of h; obtain ⟨a51, rfl, h⟩ := h
          replace h := jgd_of h; obtain ⟨hb52, h⟩ := h
          replace h := obd_of h; obtain ⟨μ53, hμ53, h⟩ := h
          refine jr_V6v_2 jf_80_120 hb52 (by omega) (r_Row_put (by omega) _ _ _ _ _ hμ53) (Nat.le_of_ble_eq_true rfl) jml_50 (Nat.le_of_ble_eq_true rfl) ?_
          refine jr_aload_n jf_80_123 rfl (jg2_ne rfl (jg2_ne rfl (jg2_ne rfl (jg2_ne rfl hl0)))) ?_
          replace h := obd_of h; obtain ⟨x54, hx54, h⟩ := h
          refine jr_getA jf_80_124 hx54 ?_
          refine jr_iconst jf_80_127 jc_i_3 ?_
          refine jr_aload_n jf_80_128 rfl (jg2_ne rfl (jg2_ne rfl (jg2_ne rfl (jg2_ne rfl hl0)))) ?_
          replace h := obd_of h; obtain ⟨x55, hx55, h⟩ := h
          refine jr_getA jf_80_129 hx55 ?_
          refine jr_iconst jf_80_132 jc_i_2 ?_
          replace h := obd_of h; obtain ⟨a56, rfl, h⟩ := h
          replace h := jgd_of h; obtain ⟨hb57, h⟩ := h
          replace h := obd_of h; obtain ⟨x58, hx58, h⟩ := h
          refine jr_V6_1 jf_80_133 hb57 (by omega) (r_Row_at (by omega) _ _ _ _ hx58) (by simp only [jcats_cons, jcats_nil, cat_int, cat_long, cat_double, cat_float, cat_ref, rv_cat]; decide) jml_23 (Nat.le_of_ble_eq_true rfl) ?_
          replace h := obd_of h; obtain ⟨a59, rfl, h⟩ := h
          replace h := jgd_of h; obtain ⟨hb60, h⟩ := h
          replace h := obd_of h; obtain ⟨μ61, hμ61, h⟩ := h
          refine jr_V6v_2 jf_80_136 hb60 (by omega) (r_Row_put (by omega) _ _ _ _ _ hμ61) (Nat.le_of_ble_eq_true rfl) jml_50 (Nat.le_of_ble_eq_true rfl) ?_
          refine jr_aload_n jf_80_139 rfl (jg2_ne rfl (jg2_ne rfl (jg2_ne rfl (jg2_ne rfl hl0)))) ?_
          replace h := obd_of h; obtain ⟨x62, hx62, h⟩ := h
          refine jr_getA jf_80_140 hx62 ?_
          refine jr_iconst jf_80_143 jc_i_2 ?_
          refine jr_lload jf_80_144 jg2_same ?_
          replace h := obd_of h; obtain ⟨a63, rfl, h⟩ := h
          replace h := jgd_of h; obtain ⟨hb64, h⟩ := h
          replace h := obd_of h; obtain ⟨μ65, hμ65, h⟩ := h
          refine jr_V6v_2 jf_80_146 hb64 (by omega) (r_Row_put (by omega) _ _ _ _ _ hμ65) (Nat.le_of_ble_eq_true rfl) jml_50 (Nat.le_of_ble_eq_true rfl) ?_
          refine jr_lload jf_80_149 jg2_same ?_
          obtain ⟨rfl, rfl⟩ := Prod.mk.inj (Option.some.inj h)
          exact jr_retJ jf_80_151 jmt_80
        · obtain ⟨hb, hx⟩ := jgd_of hx
          obtain hx := Option.some.inj hx
          refine jr_V8b_2 jf_80_90 hb0 hb (by omega) (r_Shorts_plus (by omega) _ _ _ _ _ hx) (Nat.le_of_ble_eq_true rfl) jml_69 (Nat.le_of_ble_eq_true rfl) ?_
          replace h := jgd_of h; obtain ⟨hb39, h⟩ := h
          replace h := jbd2_of h; obtain ⟨x40, μ41, hx40, h⟩ := h
          refine jr_V6_1 jf_80_93 hb39 (by omega) (r_Section_settled (by omega) _ _ _ _ _ hx40) (Nat.le_of_ble_eq_true rfl) jml_70 (Nat.le_of_ble_eq_true rfl) ?_
          refine jr_lstore jf_80_96 jml_80 (by decide) ?_
          refine jr_aload_n jf_80_98 rfl (jg2_ne rfl (jg2_ne rfl (jg2_ne rfl (jg2_ne rfl hl0)))) ?_
          replace h := obd_of h; obtain ⟨x42, hx42, h⟩ := h
          refine jr_getA jf_80_99 hx42 ?_
          refine jr_iconst jf_80_102 jc_i_1 ?_
          refine jr_aload_n jf_80_103 rfl (jg2_ne rfl (jg2_ne rfl (jg2_ne rfl (jg2_ne rfl hl0)))) ?_
          replace h := obd_of h; obtain ⟨x43, hx43, h⟩ := h
          refine jr_getA jf_80_104 hx43 ?_
          refine jr_iconst jf_80_107 jc_i_0 ?_
          replace h := obd_of h; obtain ⟨a44, rfl, h⟩ := h
          replace h := jgd_of h; obtain ⟨hb45, h⟩ := h
          replace h := obd_of h; obtain ⟨x46, hx46, h⟩ := h
          refine jr_V6_1 jf_80_108 hb45 (by omega) (r_Row_at (by omega) _ _ _ _ hx46) (by simp only [jcats_cons, jcats_nil, cat_int, cat_long, cat_double, cat_float, cat_ref, rv_cat]; decide) jml_23 (Nat.le_of_ble_eq_true rfl) ?_
          replace h := obd_of h; obtain ⟨a47, rfl, h⟩ := h
          replace h := jgd_of h; obtain ⟨hb48, h⟩ := h
          replace h := obd_of h; obtain ⟨μ49, hμ49, h⟩ := h
          refine jr_V6v_2 jf_80_111 hb48 (by omega) (r_Row_put (by omega) _ _ _ _ _ hμ49) (Nat.le_of_ble_eq_true rfl) jml_50 (Nat.le_of_ble_eq_true rfl) ?_
          refine jr_aload_n jf_80_114 rfl (jg2_ne rfl (jg2_ne rfl (jg2_ne rfl (jg2_ne rfl hl0)))) ?_
          replace h := obd_of h; obtain ⟨x50, hx50, h⟩ := h
          refine jr_getA jf_80_115 hx50 ?_
          refine jr_iconst jf_80_118 jc_i_0 ?_
          refine jr_lload_n jf_80_119 rfl (jg2_ne rfl (jg2_ne rfl (jg2_ne rfl (jg2_ne rfl hl1)))) ?_
          replace h := obd_of h; obtain ⟨a51, rfl, h⟩ := h
          replace h := jgd_of h; obtain ⟨hb52, h⟩ := h
          replace h := obd_of h; obtain ⟨μ53, hμ53, h⟩ := h
          refine jr_V6v_2 jf_80_120 hb52 (by omega) (r_Row_put (by omega) _ _ _ _ _ hμ53) (Nat.le_of_ble_eq_true rfl) jml_50 (Nat.le_of_ble_eq_true rfl) ?_
          refine jr_aload_n jf_80_123 rfl (jg2_ne rfl (jg2_ne rfl (jg2_ne rfl (jg2_ne rfl hl0)))) ?_
          replace h := obd_of h; obtain ⟨x54, hx54, h⟩ := h
          refine jr_getA jf_80_124 hx54 ?_
          refine jr_iconst jf_80_127 jc_i_3 ?_
          refine jr_aload_n jf_80_128 rfl (jg2_ne rfl (jg2_ne rfl (jg2_ne rfl (jg2_ne rfl hl0)))) ?_
          replace h := obd_of h; obtain ⟨x55, hx55, h⟩ := h
          refine jr_getA jf_80_129 hx55 ?_
          refine jr_iconst jf_80_132 jc_i_2 ?_
          replace h := obd_of h; obtain ⟨a56, rfl, h⟩ := h
          replace h := jgd_of h; obtain ⟨hb57, h⟩ := h
          replace h := obd_of h; obtain ⟨x58, hx58, h⟩ := h
          refine jr_V6_1 jf_80_133 hb57 (by omega) (r_Row_at (by omega) _ _ _ _ hx58) (by simp only [jcats_cons, jcats_nil, cat_int, cat_long, cat_double, cat_float, cat_ref, rv_cat]; decide) jml_23 (Nat.le_of_ble_eq_true rfl) ?_
          replace h := obd_of h; obtain ⟨a59, rfl, h⟩ := h
          replace h := jgd_of h; obtain ⟨hb60, h⟩ := h
          replace h := obd_of h; obtain ⟨μ61, hμ61, h⟩ := h
          refine jr_V6v_2 jf_80_136 hb60 (by omega) (r_Row_put (by omega) _ _ _ _ _ hμ61) (Nat.le_of_ble_eq_true rfl) jml_50 (Nat.le_of_ble_eq_true rfl) ?_
          refine jr_aload_n jf_80_139 rfl (jg2_ne rfl (jg2_ne rfl (jg2_ne rfl (jg2_ne rfl hl0)))) ?_
          replace h := obd_of h; obtain ⟨x62, hx62, h⟩ := h
          refine jr_getA jf_80_140 hx62 ?_
          refine jr_iconst jf_80_143 jc_i_2 ?_
          refine jr_lload jf_80_144 jg2_same ?_
          replace h := obd_of h; obtain ⟨a63, rfl, h⟩ := h
          replace h := jgd_of h; obtain ⟨hb64, h⟩ := h
          replace h := obd_of h; obtain ⟨μ65, hμ65, h⟩ := h
          refine jr_V6v_2 jf_80_146 hb64 (by omega) (r_Row_put (by omega) _ _ _ _ _ hμ65) (Nat.le_of_ble_eq_true rfl) jml_50 (Nat.le_of_ble_eq_true rfl) ?_
          refine jr_lload jf_80_149 jg2_same ?_
          obtain ⟨rfl, rfl⟩ := Prod.mk.inj (Option.some.inj h)
          exact jr_retJ jf_80_151 jmt_80
    · obtain ⟨hb, hx⟩ := jgd_of hx
      obtain hx := Option.some.inj hx
      refine jr_V8b_2 jf_80_45 hb0 hb (by omega) (r_Shorts_plus (by omega) _ _ _ _ _ hx) (Nat.le_of_ble_eq_true rfl) jml_69 (Nat.le_of_ble_eq_true rfl) ?_
      refine jr_lstore_n jf_80_48 rfl jml_80 (by decide) ?_
      refine jr_aload_n jf_80_49 rfl (jg2_ne rfl (jg2_ne rfl hl0)) ?_
      replace h := obd_of h; obtain ⟨x21, hx21, h⟩ := h
      refine jr_getA jf_80_50 hx21 ?_
      refine jr_lload_n jf_80_53 rfl jg2_same ?_
      refine jr_aload_n jf_80_54 rfl (jg2_ne rfl (jg2_ne rfl hl0)) ?_
      refine jr_iconst jf_80_55 jc_i_3 ?_
      refine jr_aload_n jf_80_56 rfl (jg2_ne rfl (jg2_ne rfl hl0)) ?_
      replace h := obd_of h; obtain ⟨x22, hx22, h⟩ := h
      refine jr_getA jf_80_57 hx22 ?_
      refine jr_iconst jf_80_60 jc_i_2 ?_
      replace h := obd_of h; obtain ⟨a23, rfl, h⟩ := h
      replace h := jgd_of h; obtain ⟨hb24, h⟩ := h
      replace h := obd_of h; obtain ⟨x25, hx25, h⟩ := h
      refine jr_V6_1 jf_80_61 hb24 (by omega) (r_Row_at (by omega) _ _ _ _ hx25) (by simp only [jcats_cons, jcats_nil, cat_int, cat_long, cat_double, cat_float, cat_ref, rv_cat]; decide) jml_23 (Nat.le_of_ble_eq_true rfl) ?_
      replace h := jgd_of h; obtain ⟨hb26, h⟩ := h
      replace h := obd_of h; obtain ⟨x27, hx27, h⟩ := h
      refine jr_V6_2 jf_80_64 hb26 (by omega) (r_Section_lessTimes (by omega) _ _ _ _ _ hx27) (by simp only [jcats_cons, jcats_nil, cat_int, cat_long, cat_double, cat_float, cat_ref, rv_cat]; decide) jml_81 (Nat.le_of_ble_eq_true rfl) ?_
      replace h := obd_of h; obtain ⟨a28, rfl, h⟩ := h
      replace h := obd_of h; obtain ⟨x29, hx29, h⟩ := h
      rcases ite_or hx29 with ⟨hb, hx⟩ | ⟨hb0, hx⟩
      · refine jr_V8a_2 jf_80_67 hb (by omega) (r_Real_plus (by omega) _ _ _ _ _ hx) (Nat.le_of_ble_eq_true rfl) jml_65 (Nat.le_of_ble_eq_true rfl) ?_
        refine jr_lstore_n jf_80_70 rfl jml_80 (by decide) ?_
        refine jr_aload_n jf_80_71 rfl (jg2_ne rfl (jg2_ne rfl (jg2_ne rfl hl0))) ?_
        refine jr_aload_n jf_80_72 rfl (jg2_ne rfl (jg2_ne rfl (jg2_ne rfl hl0))) ?_
        replace h := obd_of h; obtain ⟨x30, hx30, h⟩ := h
        refine jr_getA jf_80_73 hx30 ?_
        refine jr_lload_n jf_80_76 rfl jg2_same ?_
        refine jr_aload_n jf_80_77 rfl (jg2_ne rfl (jg2_ne rfl (jg2_ne rfl hl0))) ?_
        refine jr_iconst jf_80_78 jc_i_4 ?_
        refine jr_aload_n jf_80_79 rfl (jg2_ne rfl (jg2_ne rfl (jg2_ne rfl hl0))) ?_
        replace h := obd_of h; obtain ⟨x31, hx31, h⟩ := h
        refine jr_getA jf_80_80 hx31 ?_
        refine jr_iconst jf_80_83 jc_i_3 ?_
        replace h := obd_of h; obtain ⟨a32, rfl, h⟩ := h
        replace h := jgd_of h; obtain ⟨hb33, h⟩ := h
        replace h := obd_of h; obtain ⟨x34, hx34, h⟩ := h
        refine jr_V6_1 jf_80_84 hb33 (by omega) (r_Row_at (by omega) _ _ _ _ hx34) (by simp only [jcats_cons, jcats_nil, cat_int, cat_long, cat_double, cat_float, cat_ref, rv_cat]; decide) jml_23 (Nat.le_of_ble_eq_true rfl) ?_
        replace h := jgd_of h; obtain ⟨hb35, h⟩ := h
        replace h := obd_of h; obtain ⟨x36, hx36, h⟩ := h
        refine jr_V6_2 jf_80_87 hb35 (by omega) (r_Section_lessTimes (by omega) _ _ _ _ _ hx36) (by simp only [jcats_cons, jcats_nil, cat_int, cat_long, cat_double, cat_float, cat_ref, rv_cat]; decide) jml_81 (Nat.le_of_ble_eq_true rfl) ?_
        replace h := obd_of h; obtain ⟨a37, rfl, h⟩ := h
        replace h := obd_of h; obtain ⟨x38, hx38, h⟩ := h
        rcases ite_or hx38 with ⟨hb, hx⟩ | ⟨hb0, hx⟩
        · refine jr_V8a_2 jf_80_90 hb (by omega) (r_Real_plus (by omega) _ _ _ _ _ hx) (Nat.le_of_ble_eq_true rfl) jml_65 (Nat.le_of_ble_eq_true rfl) ?_
          replace h := jgd_of h; obtain ⟨hb39, h⟩ := h
          replace h := jbd2_of h; obtain ⟨x40, μ41, hx40, h⟩ := h
          refine jr_V6_1 jf_80_93 hb39 (by omega) (r_Section_settled (by omega) _ _ _ _ _ hx40) (Nat.le_of_ble_eq_true rfl) jml_70 (Nat.le_of_ble_eq_true rfl) ?_
          refine jr_lstore jf_80_96 jml_80 (by decide) ?_
          refine jr_aload_n jf_80_98 rfl (jg2_ne rfl (jg2_ne rfl (jg2_ne rfl (jg2_ne rfl hl0)))) ?_
          replace h := obd_of h; obtain ⟨x42, hx42, h⟩ := h
          refine jr_getA jf_80_99 hx42 ?_
          refine jr_iconst jf_80_102 jc_i_1 ?_
          refine jr_aload_n jf_80_103 rfl (jg2_ne rfl (jg2_ne rfl (jg2_ne rfl (jg2_ne rfl hl0)))) ?_
          replace h := obd_of h; obtain ⟨x43, hx43, h⟩ := h
          refine jr_getA jf_80_104 hx43 ?_
          refine jr_iconst jf_80_107 jc_i_0 ?_
          replace h := obd_of h; obtain ⟨a44, rfl, h⟩ := h
          replace h := jgd_of h; obtain ⟨hb45, h⟩ := h
          replace h := obd_of h; obtain ⟨x46, hx46, h⟩ := h
          refine jr_V6_1 jf_80_108 hb45 (by omega) (r_Row_at (by omega) _ _ _ _ hx46) (by simp only [jcats_cons, jcats_nil, cat_int, cat_long, cat_double, cat_float, cat_ref, rv_cat]; decide) jml_23 (Nat.le_of_ble_eq_true rfl) ?_
          replace h := obd_of h; obtain ⟨a47, rfl, h⟩ := h
          replace h := jgd_of h; obtain ⟨hb48, h⟩ := h
          replace h := obd_of h; obtain ⟨μ49, hμ49, h⟩ := h
          refine jr_V6v_2 jf_80_111 hb48 (by omega) (r_Row_put (by omega) _ _ _ _ _ hμ49) (Nat.le_of_ble_eq_true rfl) jml_50 (Nat.le_of_ble_eq_true rfl) ?_
          refine jr_aload_n jf_80_114 rfl (jg2_ne rfl (jg2_ne rfl (jg2_ne rfl (jg2_ne rfl hl0)))) ?_
          replace h := obd_of h; obtain ⟨x50, hx50, h⟩ := h
          refine jr_getA jf_80_115 hx50 ?_
          refine jr_iconst jf_80_118 jc_i_0 ?_
          refine jr_lload_n jf_80_119 rfl (jg2_ne rfl (jg2_ne rfl (jg2_ne rfl (jg2_ne rfl hl1)))) ?_
          replace h := obd_of h; obtain ⟨a51, rfl, h⟩ := h
          replace h := jgd_of h; obtain ⟨hb52, h⟩ := h
          replace h := obd_of h; obtain ⟨μ53, hμ53, h⟩ := h
          refine jr_V6v_2 jf_80_120 hb52 (by omega) (r_Row_put (by omega) _ _ _ _ _ hμ53) (Nat.le_of_ble_eq_true rfl) jml_50 (Nat.le_of_ble_eq_true rfl) ?_
          refine jr_aload_n jf_80_123 rfl (jg2_ne rfl (jg2_ne rfl (jg2_ne rfl (jg2_ne rfl hl0)))) ?_
          replace h := obd_of h; obtain ⟨x54, hx54, h⟩ := h
          refine jr_getA jf_80_124 hx54 ?_
          refine jr_iconst jf_80_127 jc_i_3 ?_
          refine jr_aload_n jf_80_128 rfl (jg2_ne rfl (jg2_ne rfl (jg2_ne rfl (jg2_ne rfl hl0)))) ?_
          replace h := obd_of h; obtain ⟨x55, hx55, h⟩ := h
          refine jr_getA jf_80_129 hx55 ?_
          refine jr_iconst jf_80_132 jc_i_2 ?_
          replace h := obd_of h; obtain ⟨a56, rfl, h⟩ := h
          replace h := jgd_of h; obtain ⟨hb57, h⟩ := h
          replace h := obd_of h; obtain ⟨x58, hx58, h⟩ := h
          refine jr_V6_1 jf_80_133 hb57 (by omega) (r_Row_at (by omega) _ _ _ _ hx58) (by simp only [jcats_cons, jcats_nil, cat_int, cat_long, cat_double, cat_float, cat_ref, rv_cat]; decide) jml_23 (Nat.le_of_ble_eq_true rfl) ?_
          replace h := obd_of h; obtain ⟨a59, rfl, h⟩ := h
          replace h := jgd_of h; obtain ⟨hb60, h⟩ := h
          replace h := obd_of h; obtain ⟨μ61, hμ61, h⟩ := h
          refine jr_V6v_2 jf_80_136 hb60 (by omega) (r_Row_put (by omega) _ _ _ _ _ hμ61) (Nat.le_of_ble_eq_true rfl) jml_50 (Nat.le_of_ble_eq_true rfl) ?_
          refine jr_aload_n jf_80_139 rfl (jg2_ne rfl (jg2_ne rfl (jg2_ne rfl (jg2_ne rfl hl0)))) ?_
          replace h := obd_of h; obtain ⟨x62, hx62, h⟩ := h
          refine jr_getA jf_80_140 hx62 ?_
          refine jr_iconst jf_80_143 jc_i_2 ?_
          refine jr_lload jf_80_144 jg2_same ?_
          replace h := obd_of h; obtain ⟨a63, rfl, h⟩ := h
          replace h := jgd_of h; obtain ⟨hb64, h⟩ := h
          replace h := obd_of h; obtain ⟨μ65, hμ65, h⟩ := h
          refine jr_V6v_2 jf_80_146 hb64 (by omega) (r_Row_put (by omega) _ _ _ _ _ hμ65) (Nat.le_of_ble_eq_true rfl) jml_50 (Nat.le_of_ble_eq_true rfl) ?_
          refine jr_lload jf_80_149 jg2_same ?_
          obtain ⟨rfl, rfl⟩ := Prod.mk.inj (Option.some.inj h)
          exact jr_retJ jf_80_151 jmt_80
        · obtain ⟨hb, hx⟩ := jgd_of hx
          obtain hx := Option.some.inj hx
          refine jr_V8b_2 jf_80_90 hb0 hb (by omega) (r_Shorts_plus (by omega) _ _ _ _ _ hx) (Nat.le_of_ble_eq_true rfl) jml_69 (Nat.le_of_ble_eq_true rfl) ?_
          replace h := jgd_of h; obtain ⟨hb39, h⟩ := h
          replace h := jbd2_of h; obtain ⟨x40, μ41, hx40, h⟩ := h
          refine jr_V6_1 jf_80_93 hb39 (by omega) (r_Section_settled (by omega) _ _ _ _ _ hx40) (Nat.le_of_ble_eq_true rfl) jml_70 (Nat.le_of_ble_eq_true rfl) ?_
          refine jr_lstore jf_80_96 jml_80 (by decide) ?_
          refine jr_aload_n jf_80_98 rfl (jg2_ne rfl (jg2_ne rfl (jg2_ne rfl (jg2_ne rfl hl0)))) ?_
          replace h := obd_of h; obtain ⟨x42, hx42, h⟩ := h
          refine jr_getA jf_80_99 hx42 ?_
          refine jr_iconst jf_80_102 jc_i_1 ?_
          refine jr_aload_n jf_80_103 rfl (jg2_ne rfl (jg2_ne rfl (jg2_ne rfl (jg2_ne rfl hl0)))) ?_
          replace h := obd_of h; obtain ⟨x43, hx43, h⟩ := h
          refine jr_getA jf_80_104 hx43 ?_
          refine jr_iconst jf_80_107 jc_i_0 ?_
          replace h := obd_of h; obtain ⟨a44, rfl, h⟩ := h
          replace h := jgd_of h; obtain ⟨hb45, h⟩ := h
          replace h := obd_of h; obtain ⟨x46, hx46, h⟩ := h
          refine jr_V6_1 jf_80_108 hb45 (by omega) (r_Row_at (by omega) _ _ _ _ hx46) (by simp only [jcats_cons, jcats_nil, cat_int, cat_long, cat_double, cat_float, cat_ref, rv_cat]; decide) jml_23 (Nat.le_of_ble_eq_true rfl) ?_
          replace h := obd_of h; obtain ⟨a47, rfl, h⟩ := h
          replace h := jgd_of h; obtain ⟨hb48, h⟩ := h
          replace h := obd_of h; obtain ⟨μ49, hμ49, h⟩ := h
          refine jr_V6v_2 jf_80_111 hb48 (by omega) (r_Row_put (by omega) _ _ _ _ _ hμ49) (Nat.le_of_ble_eq_true rfl) jml_50 (Nat.le_of_ble_eq_true rfl) ?_
          refine jr_aload_n jf_80_114 rfl (jg2_ne rfl (jg2_ne rfl (jg2_ne rfl (jg2_ne rfl hl0)))) ?_
          replace h := obd_of h; obtain ⟨x50, hx50, h⟩ := h
          refine jr_getA jf_80_115 hx50 ?_
          refine jr_iconst jf_80_118 jc_i_0 ?_
          refine jr_lload_n jf_80_119 rfl (jg2_ne rfl (jg2_ne rfl (jg2_ne rfl (jg2_ne rfl hl1)))) ?_
          replace h := obd_of h; obtain ⟨a51, rfl, h⟩ := h
          replace h := jgd_of h; obtain ⟨hb52, h⟩ := h
          replace h := obd_of h; obtain ⟨μ53, hμ53, h⟩ := h
          refine jr_V6v_2 jf_80_120 hb52 (by omega) (r_Row_put (by omega) _ _ _ _ _ hμ53) (Nat.le_of_ble_eq_true rfl) jml_50 (Nat.le_of_ble_eq_true rfl) ?_
          refine jr_aload_n jf_80_123 rfl (jg2_ne rfl (jg2_ne rfl (jg2_ne rfl (jg2_ne rfl hl0)))) ?_
          replace h := obd_of h; obtain ⟨x54, hx54, h⟩ := h
          refine jr_getA jf_80_124 hx54 ?_
          refine jr_iconst jf_80_127 jc_i_3 ?_
          refine jr_aload_n jf_80_128 rfl (jg2_ne rfl (jg2_ne rfl (jg2_ne rfl (jg2_ne rfl hl0)))) ?_
          replace h := obd_of h; obtain ⟨x55, hx55, h⟩ := h
          refine jr_getA jf_80_129 hx55 ?_
          refine jr_iconst jf_80_132 jc_i_2 ?_
          replace h := obd_of h; obtain ⟨a56, rfl, h⟩ := h
          replace h := jgd_of h; obtain ⟨hb57, h⟩ := h
          replace h := obd_of h; obtain ⟨x58, hx58, h⟩ := h
          refine jr_V6_1 jf_80_133 hb57 (by omega) (r_Row_at (by omega) _ _ _ _ hx58) (by simp only [jcats_cons, jcats_nil, cat_int, cat_long, cat_double, cat_float, cat_ref, rv_cat]; decide) jml_23 (Nat.le_of_ble_eq_true rfl) ?_
          replace h := obd_of h; obtain ⟨a59, rfl, h⟩ := h
          replace h := jgd_of h; obtain ⟨hb60, h⟩ := h
          replace h := obd_of h; obtain ⟨μ61, hμ61, h⟩ := h
          refine jr_V6v_2 jf_80_136 hb60 (by omega) (r_Row_put (by omega) _ _ _ _ _ hμ61) (Nat.le_of_ble_eq_true rfl) jml_50 (Nat.le_of_ble_eq_true rfl) ?_
          refine jr_aload_n jf_80_139 rfl (jg2_ne rfl (jg2_ne rfl (jg2_ne rfl (jg2_ne rfl hl0)))) ?_
          replace h := obd_of h; obtain ⟨x62, hx62, h⟩ := h
          refine jr_getA jf_80_140 hx62 ?_
          refine jr_iconst jf_80_143 jc_i_2 ?_
          refine jr_lload jf_80_144 jg2_same ?_
          replace h := obd_of h; obtain ⟨a63, rfl, h⟩ := h
          replace h := jgd_of h; obtain ⟨hb64, h⟩ := h
          replace h := obd_of h; obtain ⟨μ65, hμ65, h⟩ := h
          refine jr_V6v_2 jf_80_146 hb64 (by omega) (r_Row_put (by omega) _ _ _ _ _ hμ65) (Nat.le_of_ble_eq_true rfl) jml_50 (Nat.le_of_ble_eq_true rfl) ?_
          refine jr_lload jf_80_149 jg2_same ?_
          obtain ⟨rfl, rfl⟩ := Prod.mk.inj (Option.some.inj h)
          exact jr_retJ jf_80_151 jmt_80
      · obtain ⟨hb, hx⟩ := jgd_of hx
        obtain hx := Option.some.inj hx
        refine jr_V8b_2 jf_80_67 hb0 hb (by omega) (r_Shorts_plus (by omega) _ _ _ _ _ hx) (Nat.le_of_ble_eq_true rfl) jml_69 (Nat.le_of_ble_eq_true rfl) ?_
        refine jr_lstore_n jf_80_70 rfl jml_80 (by decide) ?_
        refine jr_aload_n jf_80_71 rfl (jg2_ne rfl (jg2_ne rfl (jg2_ne rfl hl0))) ?_
        refine jr_aload_n jf_80_72 rfl (jg2_ne rfl (jg2_ne rfl (jg2_ne rfl hl0))) ?_
        replace h := obd_of h; obtain ⟨x30, hx30, h⟩ := h
        refine jr_getA jf_80_73 hx30 ?_
        refine jr_lload_n jf_80_76 rfl jg2_same ?_
        refine jr_aload_n jf_80_77 rfl (jg2_ne rfl (jg2_ne rfl (jg2_ne rfl hl0))) ?_
        refine jr_iconst jf_80_78 jc_i_4 ?_
        refine jr_aload_n jf_80_79 rfl (jg2_ne rfl (jg2_ne rfl (jg2_ne rfl hl0))) ?_
        replace h := obd_of h; obtain ⟨x31, hx31, h⟩ := h
        refine jr_getA jf_80_80 hx31 ?_
        refine jr_iconst jf_80_83 jc_i_3 ?_
        replace h := obd_of h; obtain ⟨a32, rfl, h⟩ := h
        replace h := jgd_of h; obtain ⟨hb33, h⟩ := h
        replace h := obd_of h; obtain ⟨x34, hx34, h⟩ := h
        refine jr_V6_1 jf_80_84 hb33 (by omega) (r_Row_at (by omega) _ _ _ _ hx34) (by simp only [jcats_cons, jcats_nil, cat_int, cat_long, cat_double, cat_float, cat_ref, rv_cat]; decide) jml_23 (Nat.le_of_ble_eq_true rfl) ?_
        replace h := jgd_of h; obtain ⟨hb35, h⟩ := h
        replace h := obd_of h; obtain ⟨x36, hx36, h⟩ := h
        refine jr_V6_2 jf_80_87 hb35 (by omega) (r_Section_lessTimes (by omega) _ _ _ _ _ hx36) (by simp only [jcats_cons, jcats_nil, cat_int, cat_long, cat_double, cat_float, cat_ref, rv_cat]; decide) jml_81 (Nat.le_of_ble_eq_true rfl) ?_
        replace h := obd_of h; obtain ⟨a37, rfl, h⟩ := h
        replace h := obd_of h; obtain ⟨x38, hx38, h⟩ := h
        rcases ite_or hx38 with ⟨hb, hx⟩ | ⟨hb0, hx⟩
        · refine jr_V8a_2 jf_80_90 hb (by omega) (r_Real_plus (by omega) _ _ _ _ _ hx) (Nat.le_of_ble_eq_true rfl) jml_65 (Nat.le_of_ble_eq_true rfl) ?_
          replace h := jgd_of h; obtain ⟨hb39, h⟩ := h
          replace h := jbd2_of h; obtain ⟨x40, μ41, hx40, h⟩ := h
          refine jr_V6_1 jf_80_93 hb39 (by omega) (r_Section_settled (by omega) _ _ _ _ _ hx40) (Nat.le_of_ble_eq_true rfl) jml_70 (Nat.le_of_ble_eq_true rfl) ?_
          refine jr_lstore jf_80_96 jml_80 (by decide) ?_
          refine jr_aload_n jf_80_98 rfl (jg2_ne rfl (jg2_ne rfl (jg2_ne rfl (jg2_ne rfl hl0)))) ?_
          replace h := obd_of h; obtain ⟨x42, hx42, h⟩ := h
          refine jr_getA jf_80_99 hx42 ?_
          refine jr_iconst jf_80_102 jc_i_1 ?_
          refine jr_aload_n jf_80_103 rfl (jg2_ne rfl (jg2_ne rfl (jg2_ne rfl (jg2_ne rfl hl0)))) ?_
          replace h := obd_of h; obtain ⟨x43, hx43, h⟩ := h
          refine jr_getA jf_80_104 hx43 ?_
          refine jr_iconst jf_80_107 jc_i_0 ?_
          replace h := obd_of h; obtain ⟨a44, rfl, h⟩ := h
          replace h := jgd_of h; obtain ⟨hb45, h⟩ := h
          replace h := obd_of h; obtain ⟨x46, hx46, h⟩ := h
          refine jr_V6_1 jf_80_108 hb45 (by omega) (r_Row_at (by omega) _ _ _ _ hx46) (by simp only [jcats_cons, jcats_nil, cat_int, cat_long, cat_double, cat_float, cat_ref, rv_cat]; decide) jml_23 (Nat.le_of_ble_eq_true rfl) ?_
          replace h := obd_of h; obtain ⟨a47, rfl, h⟩ := h
          replace h := jgd_of h; obtain ⟨hb48, h⟩ := h
          replace h := obd_of h; obtain ⟨μ49, hμ49, h⟩ := h
          refine jr_V6v_2 jf_80_111 hb48 (by omega) (r_Row_put (by omega) _ _ _ _ _ hμ49) (Nat.le_of_ble_eq_true rfl) jml_50 (Nat.le_of_ble_eq_true rfl) ?_
          refine jr_aload_n jf_80_114 rfl (jg2_ne rfl (jg2_ne rfl (jg2_ne rfl (jg2_ne rfl hl0)))) ?_
          replace h := obd_of h; obtain ⟨x50, hx50, h⟩ := h
          refine jr_getA jf_80_115 hx50 ?_
          refine jr_iconst jf_80_118 jc_i_0 ?_
          refine jr_lload_n jf_80_119 rfl (jg2_ne rfl (jg2_ne rfl (jg2_ne rfl (jg2_ne rfl hl1)))) ?_
          replace h := obd_of h; obtain ⟨a51, rfl, h⟩ := h
          replace h := jgd_of h; obtain ⟨hb52, h⟩ := h
          replace h := obd_of h; obtain ⟨μ53, hμ53, h⟩ := h
          refine jr_V6v_2 jf_80_120 hb52 (by omega) (r_Row_put (by omega) _ _ _ _ _ hμ53) (Nat.le_of_ble_eq_true rfl) jml_50 (Nat.le_of_ble_eq_true rfl) ?_
          refine jr_aload_n jf_80_123 rfl (jg2_ne rfl (jg2_ne rfl (jg2_ne rfl (jg2_ne rfl hl0)))) ?_
          replace h := obd_of h; obtain ⟨x54, hx54, h⟩ := h
          refine jr_getA jf_80_124 hx54 ?_
          refine jr_iconst jf_80_127 jc_i_3 ?_
          refine jr_aload_n jf_80_128 rfl (jg2_ne rfl (jg2_ne rfl (jg2_ne rfl (jg2_ne rfl hl0)))) ?_
          replace h := obd_of h; obtain ⟨x55, hx55, h⟩ := h
          refine jr_getA jf_80_129 hx55 ?_
          refine jr_iconst jf_80_132 jc_i_2 ?_
          replace h := obd_of h; obtain ⟨a56, rfl, h⟩ := h
          replace h := jgd_of h; obtain ⟨hb57, h⟩ := h
          replace h := obd_of h; obtain ⟨x58, hx58, h⟩ := h
          refine jr_V6_1 jf_80_133 hb57 (by omega) (r_Row_at (by omega) _ _ _ _ hx58) (by simp only [jcats_cons, jcats_nil, cat_int, cat_long, cat_double, cat_float, cat_ref, rv_cat]; decide) jml_23 (Nat.le_of_ble_eq_true rfl) ?_
          replace h := obd_of h; obtain ⟨a59, rfl, h⟩ := h
          replace h := jgd_of h; obtain ⟨hb60, h⟩ := h
          replace h := obd_of h; obtain ⟨μ61, hμ61, h⟩ := h
          refine jr_V6v_2 jf_80_136 hb60 (by omega) (r_Row_put (by omega) _ _ _ _ _ hμ61) (Nat.le_of_ble_eq_true rfl) jml_50 (Nat.le_of_ble_eq_true rfl) ?_
          refine jr_aload_n jf_80_139 rfl (jg2_ne rfl (jg2_ne rfl (jg2_ne rfl (jg2_ne rfl hl0)))) ?_
          replace h := obd_of h; obtain ⟨x62, hx62, h⟩ := h
          refine jr_getA jf_80_140 hx62 ?_
          refine jr_iconst jf_80_143 jc_i_2 ?_
          refine jr_lload jf_80_144 jg2_same ?_
          replace h := obd_of h; obtain ⟨a63, rfl, h⟩ := h
          replace h := jgd_of h; obtain ⟨hb64, h⟩ := h
          replace h := obd_of h; obtain ⟨μ65, hμ65, h⟩ := h
          refine jr_V6v_2 jf_80_146 hb64 (by omega) (r_Row_put (by omega) _ _ _ _ _ hμ65) (Nat.le_of_ble_eq_true rfl) jml_50 (Nat.le_of_ble_eq_true rfl) ?_
          refine jr_lload jf_80_149 jg2_same ?_
          obtain ⟨rfl, rfl⟩ := Prod.mk.inj (Option.some.inj h)
          exact jr_retJ jf_80_151 jmt_80
        · obtain ⟨hb, hx⟩ := jgd_of hx
          obtain hx := Option.some.inj hx
          refine jr_V8b_2 jf_80_90 hb0 hb (by omega) (r_Shorts_plus (by omega) _ _ _ _ _ hx) (Nat.le_of_ble_eq_true rfl) jml_69 (Nat.le_of_ble_eq_true rfl) ?_
          replace h := jgd_of h; obtain ⟨hb39, h⟩ := h
          replace h := jbd2_of h; obtain ⟨x40, μ41, hx40, h⟩ := h
          refine jr_V6_1 jf_80_93 hb39 (by omega) (r_Section_settled (by omega) _ _ _ _ _ hx40) (Nat.le_of_ble_eq_true rfl) jml_70 (Nat.le_of_ble_eq_true rfl) ?_
          refine jr_lstore jf_80_96 jml_80 (by decide) ?_
          refine jr_aload_n jf_80_98 rfl (jg2_ne rfl (jg2_ne rfl (jg2_ne rfl (jg2_ne rfl hl0)))) ?_
          replace h := obd_of h; obtain ⟨x42, hx42, h⟩ := h
          refine jr_getA jf_80_99 hx42 ?_
          refine jr_iconst jf_80_102 jc_i_1 ?_
          refine jr_aload_n jf_80_103 rfl (jg2_ne rfl (jg2_ne rfl (jg2_ne rfl (jg2_ne rfl hl0)))) ?_
          replace h := obd_of h; obtain ⟨x43, hx43, h⟩ := h
          refine jr_getA jf_80_104 hx43 ?_
          refine jr_iconst jf_80_107 jc_i_0 ?_
          replace h := obd_of h; obtain ⟨a44, rfl, h⟩ := h
          replace h := jgd_of h; obtain ⟨hb45, h⟩ := h
          replace h := obd_of h; obtain ⟨x46, hx46, h⟩ := h
          refine jr_V6_1 jf_80_108 hb45 (by omega) (r_Row_at (by omega) _ _ _ _ hx46) (by simp only [jcats_cons, jcats_nil, cat_int, cat_long, cat_double, cat_float, cat_ref, rv_cat]; decide) jml_23 (Nat.le_of_ble_eq_true rfl) ?_
          replace h := obd_of h; obtain ⟨a47, rfl, h⟩ := h
          replace h := jgd_of h; obtain ⟨hb48, h⟩ := h
          replace h := obd_of h; obtain ⟨μ49, hμ49, h⟩ := h
          refine jr_V6v_2 jf_80_111 hb48 (by omega) (r_Row_put (by omega) _ _ _ _ _ hμ49) (Nat.le_of_ble_eq_true rfl) jml_50 (Nat.le_of_ble_eq_true rfl) ?_
          refine jr_aload_n jf_80_114 rfl (jg2_ne rfl (jg2_ne rfl (jg2_ne rfl (jg2_ne rfl hl0)))) ?_
          replace h := obd_of h; obtain ⟨x50, hx50, h⟩ := h
          refine jr_getA jf_80_115 hx50 ?_
          refine jr_iconst jf_80_118 jc_i_0 ?_
          refine jr_lload_n jf_80_119 rfl (jg2_ne rfl (jg2_ne rfl (jg2_ne rfl (jg2_ne rfl hl1)))) ?_
          replace h := obd_of h; obtain ⟨a51, rfl, h⟩ := h
          replace h := jgd_of h; obtain ⟨hb52, h⟩ := h
          replace h := obd_of h; obtain ⟨μ53, hμ53, h⟩ := h
          refine jr_V6v_2 jf_80_120 hb52 (by omega) (r_Row_put (by omega) _ _ _ _ _ hμ53) (Nat.le_of_ble_eq_true rfl) jml_50 (Nat.le_of_ble_eq_true rfl) ?_
          refine jr_aload_n jf_80_123 rfl (jg2_ne rfl (jg2_ne rfl (jg2_ne rfl (jg2_ne rfl hl0)))) ?_
          replace h := obd_of h; obtain ⟨x54, hx54, h⟩ := h
          refine jr_getA jf_80_124 hx54 ?_
          refine jr_iconst jf_80_127 jc_i_3 ?_
          refine jr_aload_n jf_80_128 rfl (jg2_ne rfl (jg2_ne rfl (jg2_ne rfl (jg2_ne rfl hl0)))) ?_
          replace h := obd_of h; obtain ⟨x55, hx55, h⟩ := h
          refine jr_getA jf_80_129 hx55 ?_
          refine jr_iconst jf_80_132 jc_i_2 ?_
          replace h := obd_of h; obtain ⟨a56, rfl, h⟩ := h
          replace h := jgd_of h; obtain ⟨hb57, h⟩ := h
          replace h := obd_of h; obtain ⟨x58, hx58, h⟩ := h
          refine jr_V6_1 jf_80_133 hb57 (by omega) (r_Row_at (by omega) _ _ _ _ hx58) (by simp only [jcats_cons, jcats_nil, cat_int, cat_long, cat_double, cat_float, cat_ref, rv_cat]; decide) jml_23 (Nat.le_of_ble_eq_true rfl) ?_
          replace h := obd_of h; obtain ⟨a59, rfl, h⟩ := h
          replace h := jgd_of h; obtain ⟨hb60, h⟩ := h
          replace h := obd_of h; obtain ⟨μ61, hμ61, h⟩ := h
          refine jr_V6v_2 jf_80_136 hb60 (by omega) (r_Row_put (by omega) _ _ _ _ _ hμ61) (Nat.le_of_ble_eq_true rfl) jml_50 (Nat.le_of_ble_eq_true rfl) ?_
          refine jr_aload_n jf_80_139 rfl (jg2_ne rfl (jg2_ne rfl (jg2_ne rfl (jg2_ne rfl hl0)))) ?_
          replace h := obd_of h; obtain ⟨x62, hx62, h⟩ := h
          refine jr_getA jf_80_140 hx62 ?_
          refine jr_iconst jf_80_143 jc_i_2 ?_
          refine jr_lload jf_80_144 jg2_same ?_
          replace h := obd_of h; obtain ⟨a63, rfl, h⟩ := h
          replace h := jgd_of h; obtain ⟨hb64, h⟩ := h
          replace h := obd_of h; obtain ⟨μ65, hμ65, h⟩ := h
          refine jr_V6v_2 jf_80_146 hb64 (by omega) (r_Row_put (by omega) _ _ _ _ _ hμ65) (Nat.le_of_ble_eq_true rfl) jml_50 (Nat.le_of_ble_eq_true rfl) ?_
          refine jr_lload jf_80_149 jg2_same ?_
          obtain ⟨rfl, rfl⟩ := Prod.mk.inj (Option.some.inj h)
          exact jr_retJ jf_80_151 jmt_80
  · obtain ⟨hb, hx⟩ := jgd_of hx
    obtain hx := Option.some.inj hx
    refine jr_V8b_2 jf_80_23 hb0 hb (by omega) (r_Shorts_plus (by omega) _ _ _ _ _ hx) (Nat.le_of_ble_eq_true rfl) jml_69 (Nat.le_of_ble_eq_true rfl) ?_
    refine jr_lstore_n jf_80_26 rfl jml_80 (by decide) ?_
    refine jr_aload_n jf_80_27 rfl (jg2_ne rfl hl0) ?_
    replace h := obd_of h; obtain ⟨x12, hx12, h⟩ := h
    refine jr_getA jf_80_28 hx12 ?_
    refine jr_lload_n jf_80_31 rfl jg2_same ?_
    refine jr_aload_n jf_80_32 rfl (jg2_ne rfl hl0) ?_
    refine jr_iconst jf_80_33 jc_i_2 ?_
    refine jr_aload_n jf_80_34 rfl (jg2_ne rfl hl0) ?_
    replace h := obd_of h; obtain ⟨x13, hx13, h⟩ := h
    refine jr_getA jf_80_35 hx13 ?_
    refine jr_iconst jf_80_38 jc_i_1 ?_
    replace h := obd_of h; obtain ⟨a14, rfl, h⟩ := h
    replace h := jgd_of h; obtain ⟨hb15, h⟩ := h
    replace h := obd_of h; obtain ⟨x16, hx16, h⟩ := h
    refine jr_V6_1 jf_80_39 hb15 (by omega) (r_Row_at (by omega) _ _ _ _ hx16) (by simp only [jcats_cons, jcats_nil, cat_int, cat_long, cat_double, cat_float, cat_ref, rv_cat]; decide) jml_23 (Nat.le_of_ble_eq_true rfl) ?_
    replace h := jgd_of h; obtain ⟨hb17, h⟩ := h
    replace h := obd_of h; obtain ⟨x18, hx18, h⟩ := h
    refine jr_V6_2 jf_80_42 hb17 (by omega) (r_Section_times (by omega) _ _ _ _ _ hx18) (by simp only [jcats_cons, jcats_nil, cat_int, cat_long, cat_double, cat_float, cat_ref, rv_cat]; decide) jml_78 (Nat.le_of_ble_eq_true rfl) ?_
    replace h := obd_of h; obtain ⟨a19, rfl, h⟩ := h
    replace h := obd_of h; obtain ⟨x20, hx20, h⟩ := h
    rcases ite_or hx20 with ⟨hb, hx⟩ | ⟨hb0, hx⟩
    · refine jr_V8a_2 jf_80_45 hb (by omega) (r_Real_plus (by omega) _ _ _ _ _ hx) (Nat.le_of_ble_eq_true rfl) jml_65 (Nat.le_of_ble_eq_true rfl) ?_
      refine jr_lstore_n jf_80_48 rfl jml_80 (by decide) ?_
      refine jr_aload_n jf_80_49 rfl (jg2_ne rfl (jg2_ne rfl hl0)) ?_
      replace h := obd_of h; obtain ⟨x21, hx21, h⟩ := h
      refine jr_getA jf_80_50 hx21 ?_
      refine jr_lload_n jf_80_53 rfl jg2_same ?_
      refine jr_aload_n jf_80_54 rfl (jg2_ne rfl (jg2_ne rfl hl0)) ?_
      refine jr_iconst jf_80_55 jc_i_3 ?_
      refine jr_aload_n jf_80_56 rfl (jg2_ne rfl (jg2_ne rfl hl0)) ?_
      replace h := obd_of h; obtain ⟨x22, hx22, h⟩ := h
      refine jr_getA jf_80_57 hx22 ?_
      refine jr_iconst jf_80_60 jc_i_2 ?_
      replace h := obd_of h; obtain ⟨a23, rfl, h⟩ := h
      replace h := jgd_of h; obtain ⟨hb24, h⟩ := h
      replace h := obd_of h; obtain ⟨x25, hx25, h⟩ := h
      refine jr_V6_1 jf_80_61 hb24 (by omega) (r_Row_at (by omega) _ _ _ _ hx25) (by simp only [jcats_cons, jcats_nil, cat_int, cat_long, cat_double, cat_float, cat_ref, rv_cat]; decide) jml_23 (Nat.le_of_ble_eq_true rfl) ?_
      replace h := jgd_of h; obtain ⟨hb26, h⟩ := h
      replace h := obd_of h; obtain ⟨x27, hx27, h⟩ := h
      refine jr_V6_2 jf_80_64 hb26 (by omega) (r_Section_lessTimes (by omega) _ _ _ _ _ hx27) (by simp only [jcats_cons, jcats_nil, cat_int, cat_long, cat_double, cat_float, cat_ref, rv_cat]; decide) jml_81 (Nat.le_of_ble_eq_true rfl) ?_
      replace h := obd_of h; obtain ⟨a28, rfl, h⟩ := h
      replace h := obd_of h; obtain ⟨x29, hx29, h⟩ := h
      rcases ite_or hx29 with ⟨hb, hx⟩ | ⟨hb0, hx⟩
      · refine jr_V8a_2 jf_80_67 hb (by omega) (r_Real_plus (by omega) _ _ _ _ _ hx) (Nat.le_of_ble_eq_true rfl) jml_65 (Nat.le_of_ble_eq_true rfl) ?_
        refine jr_lstore_n jf_80_70 rfl jml_80 (by decide) ?_
        refine jr_aload_n jf_80_71 rfl (jg2_ne rfl (jg2_ne rfl (jg2_ne rfl hl0))) ?_
        refine jr_aload_n jf_80_72 rfl (jg2_ne rfl (jg2_ne rfl (jg2_ne rfl hl0))) ?_
        replace h := obd_of h; obtain ⟨x30, hx30, h⟩ := h
        refine jr_getA jf_80_73 hx30 ?_
        refine jr_lload_n jf_80_76 rfl jg2_same ?_
        refine jr_aload_n jf_80_77 rfl (jg2_ne rfl (jg2_ne rfl (jg2_ne rfl hl0))) ?_
        refine jr_iconst jf_80_78 jc_i_4 ?_
        refine jr_aload_n jf_80_79 rfl (jg2_ne rfl (jg2_ne rfl (jg2_ne rfl hl0))) ?_
        replace h := obd_of h; obtain ⟨x31, hx31, h⟩ := h
        refine jr_getA jf_80_80 hx31 ?_
        refine jr_iconst jf_80_83 jc_i_3 ?_
        replace h := obd_of h; obtain ⟨a32, rfl, h⟩ := h
        replace h := jgd_of h; obtain ⟨hb33, h⟩ := h
        replace h := obd_of h; obtain ⟨x34, hx34, h⟩ := h
        refine jr_V6_1 jf_80_84 hb33 (by omega) (r_Row_at (by omega) _ _ _ _ hx34) (by simp only [jcats_cons, jcats_nil, cat_int, cat_long, cat_double, cat_float, cat_ref, rv_cat]; decide) jml_23 (Nat.le_of_ble_eq_true rfl) ?_
        replace h := jgd_of h; obtain ⟨hb35, h⟩ := h
        replace h := obd_of h; obtain ⟨x36, hx36, h⟩ := h
        refine jr_V6_2 jf_80_87 hb35 (by omega) (r_Section_lessTimes (by omega) _ _ _ _ _ hx36) (by simp only [jcats_cons, jcats_nil, cat_int, cat_long, cat_double, cat_float, cat_ref, rv_cat]; decide) jml_81 (Nat.le_of_ble_eq_true rfl) ?_
        replace h := obd_of h; obtain ⟨a37, rfl, h⟩ := h
        replace h := obd_of h; obtain ⟨x38, hx38, h⟩ := h
        rcases ite_or hx38 with ⟨hb, hx⟩ | ⟨hb0, hx⟩
        · refine jr_V8a_2 jf_80_90 hb (by omega) (r_Real_plus (by omega) _ _ _ _ _ hx) (Nat.le_of_ble_eq_true rfl) jml_65 (Nat.le_of_ble_eq_true rfl) ?_
          replace h := jgd_of h; obtain ⟨hb39, h⟩ := h
          replace h := jbd2_of h; obtain ⟨x40, μ41, hx40, h⟩ := h
          refine jr_V6_1 jf_80_93 hb39 (by omega) (r_Section_settled (by omega) _ _ _ _ _ hx40) (Nat.le_of_ble_eq_true rfl) jml_70 (Nat.le_of_ble_eq_true rfl) ?_
          refine jr_lstore jf_80_96 jml_80 (by decide) ?_
          refine jr_aload_n jf_80_98 rfl (jg2_ne rfl (jg2_ne rfl (jg2_ne rfl (jg2_ne rfl hl0)))) ?_
          replace h := obd_of h; obtain ⟨x42, hx42, h⟩ := h
          refine jr_getA jf_80_99 hx42 ?_
          refine jr_iconst jf_80_102 jc_i_1 ?_
          refine jr_aload_n jf_80_103 rfl (jg2_ne rfl (jg2_ne rfl (jg2_ne rfl (jg2_ne rfl hl0)))) ?_
          replace h := obd_of h; obtain ⟨x43, hx43, h⟩ := h
          refine jr_getA jf_80_104 hx43 ?_
          refine jr_iconst jf_80_107 jc_i_0 ?_
          replace h := obd_of h; obtain ⟨a44, rfl, h⟩ := h
          replace h := jgd_of h; obtain ⟨hb45, h⟩ := h
          replace h := obd_of h; obtain ⟨x46, hx46, h⟩ := h
          refine jr_V6_1 jf_80_108 hb45 (by omega) (r_Row_at (by omega) _ _ _ _ hx46) (by simp only [jcats_cons, jcats_nil, cat_int, cat_long, cat_double, cat_float, cat_ref, rv_cat]; decide) jml_23 (Nat.le_of_ble_eq_true rfl) ?_
          replace h := obd_of h; obtain ⟨a47, rfl, h⟩ := h
          replace h := jgd_of h; obtain ⟨hb48, h⟩ := h
          replace h := obd_of h; obtain ⟨μ49, hμ49, h⟩ := h
          refine jr_V6v_2 jf_80_111 hb48 (by omega) (r_Row_put (by omega) _ _ _ _ _ hμ49) (Nat.le_of_ble_eq_true rfl) jml_50 (Nat.le_of_ble_eq_true rfl) ?_
          refine jr_aload_n jf_80_114 rfl (jg2_ne rfl (jg2_ne rfl (jg2_ne rfl (jg2_ne rfl hl0)))) ?_
          replace h := obd_of h; obtain ⟨x50, hx50, h⟩ := h
          refine jr_getA jf_80_115 hx50 ?_
          refine jr_iconst jf_80_118 jc_i_0 ?_
          refine jr_lload_n jf_80_119 rfl (jg2_ne rfl (jg2_ne rfl (jg2_ne rfl (jg2_ne rfl hl1)))) ?_
          replace h := obd_of h; obtain ⟨a51, rfl, h⟩ := h
          replace h := jgd_of h; obtain ⟨hb52, h⟩ := h
          replace h := obd_of h; obtain ⟨μ53, hμ53, h⟩ := h
          refine jr_V6v_2 jf_80_120 hb52 (by omega) (r_Row_put (by omega) _ _ _ _ _ hμ53) (Nat.le_of_ble_eq_true rfl) jml_50 (Nat.le_of_ble_eq_true rfl) ?_
          refine jr_aload_n jf_80_123 rfl (jg2_ne rfl (jg2_ne rfl (jg2_ne rfl (jg2_ne rfl hl0)))) ?_
          replace h := obd_of h; obtain ⟨x54, hx54, h⟩ := h
          refine jr_getA jf_80_124 hx54 ?_
          refine jr_iconst jf_80_127 jc_i_3 ?_
          refine jr_aload_n jf_80_128 rfl (jg2_ne rfl (jg2_ne rfl (jg2_ne rfl (jg2_ne rfl hl0)))) ?_
          replace h := obd_of h; obtain ⟨x55, hx55, h⟩ := h
          refine jr_getA jf_80_129 hx55 ?_
          refine jr_iconst jf_80_132 jc_i_2 ?_
          replace h := obd_of h; obtain ⟨a56, rfl, h⟩ := h
          replace h := jgd_of h; obtain ⟨hb57, h⟩ := h
          replace h := obd_of h; obtain ⟨x58, hx58, h⟩ := h
          refine jr_V6_1 jf_80_133 hb57 (by omega) (r_Row_at (by omega) _ _ _ _ hx58) (by simp only [jcats_cons, jcats_nil, cat_int, cat_long, cat_double, cat_float, cat_ref, rv_cat]; decide) jml_23 (Nat.le_of_ble_eq_true rfl) ?_
          replace h := obd_of h; obtain ⟨a59, rfl, h⟩ := h
          replace h := jgd_of h; obtain ⟨hb60, h⟩ := h
          replace h := obd_of h; obtain ⟨μ61, hμ61, h⟩ := h
          refine jr_V6v_2 jf_80_136 hb60 (by omega) (r_Row_put (by omega) _ _ _ _ _ hμ61) (Nat.le_of_ble_eq_true rfl) jml_50 (Nat.le_of_ble_eq_true rfl) ?_
          refine jr_aload_n jf_80_139 rfl (jg2_ne rfl (jg2_ne rfl (jg2_ne rfl (jg2_ne rfl hl0)))) ?_
          replace h := obd_of h; obtain ⟨x62, hx62, h⟩ := h
          refine jr_getA jf_80_140 hx62 ?_
          refine jr_iconst jf_80_143 jc_i_2 ?_
          refine jr_lload jf_80_144 jg2_same ?_
          replace h := obd_of h; obtain ⟨a63, rfl, h⟩ := h
          replace h := jgd_of h; obtain ⟨hb64, h⟩ := h
          replace h := obd_of h; obtain ⟨μ65, hμ65, h⟩ := h
          refine jr_V6v_2 jf_80_146 hb64 (by omega) (r_Row_put (by omega) _ _ _ _ _ hμ65) (Nat.le_of_ble_eq_true rfl) jml_50 (Nat.le_of_ble_eq_true rfl) ?_
          refine jr_lload jf_80_149 jg2_same ?_
          obtain ⟨rfl, rfl⟩ := Prod.mk.inj (Option.some.inj h)
          exact jr_retJ jf_80_151 jmt_80
        · obtain ⟨hb, hx⟩ := jgd_of hx
          obtain hx := Option.some.inj hx
          refine jr_V8b_2 jf_80_90 hb0 hb (by omega) (r_Shorts_plus (by omega) _ _ _ _ _ hx) (Nat.le_of_ble_eq_true rfl) jml_69 (Nat.le_of_ble_eq_true rfl) ?_
          replace h := jgd_of h; obtain ⟨hb39, h⟩ := h
          replace h := jbd2_of h; obtain ⟨x40, μ41, hx40, h⟩ := h
          refine jr_V6_1 jf_80_93 hb39 (by omega) (r_Section_settled (by omega) _ _ _ _ _ hx40) (Nat.le_of_ble_eq_true rfl) jml_70 (Nat.le_of_ble_eq_true rfl) ?_
          refine jr_lstore jf_80_96 jml_80 (by decide) ?_
          refine jr_aload_n jf_80_98 rfl (jg2_ne rfl (jg2_ne rfl (jg2_ne rfl (jg2_ne rfl hl0)))) ?_
          replace h := obd_of h; obtain ⟨x42, hx42, h⟩ := h
          refine jr_getA jf_80_99 hx42 ?_
          refine jr_iconst jf_80_102 jc_i_1 ?_
          refine jr_aload_n jf_80_103 rfl (jg2_ne rfl (jg2_ne rfl (jg2_ne rfl (jg2_ne rfl hl0)))) ?_
          replace h := obd_of h; obtain ⟨x43, hx43, h⟩ := h
          refine jr_getA jf_80_104 hx43 ?_
          refine jr_iconst jf_80_107 jc_i_0 ?_
          replace h := obd_of h; obtain ⟨a44, rfl, h⟩ := h
          replace h := jgd_of h; obtain ⟨hb45, h⟩ := h
          replace h := obd_of h; obtain ⟨x46, hx46, h⟩ := h
          refine jr_V6_1 jf_80_108 hb45 (by omega) (r_Row_at (by omega) _ _ _ _ hx46) (by simp only [jcats_cons, jcats_nil, cat_int, cat_long, cat_double, cat_float, cat_ref, rv_cat]; decide) jml_23 (Nat.le_of_ble_eq_true rfl) ?_
          replace h := obd_of h; obtain ⟨a47, rfl, h⟩ := h
          replace h := jgd_of h; obtain ⟨hb48, h⟩ := h
          replace h := obd_of h; obtain ⟨μ49, hμ49, h⟩ := h
          refine jr_V6v_2 jf_80_111 hb48 (by omega) (r_Row_put (by omega) _ _ _ _ _ hμ49) (Nat.le_of_ble_eq_true rfl) jml_50 (Nat.le_of_ble_eq_true rfl) ?_
          refine jr_aload_n jf_80_114 rfl (jg2_ne rfl (jg2_ne rfl (jg2_ne rfl (jg2_ne rfl hl0)))) ?_
          replace h := obd_of h; obtain ⟨x50, hx50, h⟩ := h
          refine jr_getA jf_80_115 hx50 ?_
          refine jr_iconst jf_80_118 jc_i_0 ?_
          refine jr_lload_n jf_80_119 rfl (jg2_ne rfl (jg2_ne rfl (jg2_ne rfl (jg2_ne rfl hl1)))) ?_
          replace h := obd_of h; obtain ⟨a51, rfl, h⟩ := h
          replace h := jgd_of h; obtain ⟨hb52, h⟩ := h
          replace h := obd_of h; obtain ⟨μ53, hμ53, h⟩ := h
          refine jr_V6v_2 jf_80_120 hb52 (by omega) (r_Row_put (by omega) _ _ _ _ _ hμ53) (Nat.le_of_ble_eq_true rfl) jml_50 (Nat.le_of_ble_eq_true rfl) ?_
          refine jr_aload_n jf_80_123 rfl (jg2_ne rfl (jg2_ne rfl (jg2_ne rfl (jg2_ne rfl hl0)))) ?_
          replace h := obd_of h; obtain ⟨x54, hx54, h⟩ := h
          refine jr_getA jf_80_124 hx54 ?_
          refine jr_iconst jf_80_127 jc_i_3 ?_
          refine jr_aload_n jf_80_128 rfl (jg2_ne rfl (jg2_ne rfl (jg2_ne rfl (jg2_ne rfl hl0)))) ?_
          replace h := obd_of h; obtain ⟨x55, hx55, h⟩ := h
          refine jr_getA jf_80_129 hx55 ?_
          refine jr_iconst jf_80_132 jc_i_2 ?_
          replace h := obd_of h; obtain ⟨a56, rfl, h⟩ := h
          replace h := jgd_of h; obtain ⟨hb57, h⟩ := h
          replace h := obd_of h; obtain ⟨x58, hx58, h⟩ := h
          refine jr_V6_1 jf_80_133 hb57 (by omega) (r_Row_at (by omega) _ _ _ _ hx58) (by simp only [jcats_cons, jcats_nil, cat_int, cat_long, cat_double, cat_float, cat_ref, rv_cat]; decide) jml_23 (Nat.le_of_ble_eq_true rfl) ?_
          replace h := obd_of h; obtain ⟨a59, rfl, h⟩ := h
          replace h := jgd_of h; obtain ⟨hb60, h⟩ := h
          replace h := obd_of h; obtain ⟨μ61, hμ61, h⟩ := h
          refine jr_V6v_2 jf_80_136 hb60 (by omega) (r_Row_put (by omega) _ _ _ _ _ hμ61) (Nat.le_of_ble_eq_true rfl) jml_50 (Nat.le_of_ble_eq_true rfl) ?_
          refine jr_aload_n jf_80_139 rfl (jg2_ne rfl (jg2_ne rfl (jg2_ne rfl (jg2_ne rfl hl0)))) ?_
          replace h := obd_of h; obtain ⟨x62, hx62, h⟩ := h
          refine jr_getA jf_80_140 hx62 ?_
          refine jr_iconst jf_80_143 jc_i_2 ?_
          refine jr_lload jf_80_144 jg2_same ?_
          replace h := obd_of h; obtain ⟨a63, rfl, h⟩ := h
          replace h := jgd_of h; obtain ⟨hb64, h⟩ := h
          replace h := obd_of h; obtain ⟨μ65, hμ65, h⟩ := h
          refine jr_V6v_2 jf_80_146 hb64 (by omega) (r_Row_put (by omega) _ _ _ _ _ hμ65) (Nat.le_of_ble_eq_true rfl) jml_50 (Nat.le_of_ble_eq_true rfl) ?_
          refine jr_lload jf_80_149 jg2_same ?_
          obtain ⟨rfl, rfl⟩ := Prod.mk.inj (Option.some.inj h)
          exact jr_retJ jf_80_151 jmt_80
      · obtain ⟨hb, hx⟩ := jgd_of hx
        obtain hx := Option.some.inj hx
        refine jr_V8b_2 jf_80_67 hb0 hb (by omega) (r_Shorts_plus (by omega) _ _ _ _ _ hx) (Nat.le_of_ble_eq_true rfl) jml_69 (Nat.le_of_ble_eq_true rfl) ?_
        refine jr_lstore_n jf_80_70 rfl jml_80 (by decide) ?_
        refine jr_aload_n jf_80_71 rfl (jg2_ne rfl (jg2_ne rfl (jg2_ne rfl hl0))) ?_
        refine jr_aload_n jf_80_72 rfl (jg2_ne rfl (jg2_ne rfl (jg2_ne rfl hl0))) ?_
        replace h := obd_of h; obtain ⟨x30, hx30, h⟩ := h
        refine jr_getA jf_80_73 hx30 ?_
        refine jr_lload_n jf_80_76 rfl jg2_same ?_
        refine jr_aload_n jf_80_77 rfl (jg2_ne rfl (jg2_ne rfl (jg2_ne rfl hl0))) ?_
        refine jr_iconst jf_80_78 jc_i_4 ?_
        refine jr_aload_n jf_80_79 rfl (jg2_ne rfl (jg2_ne rfl (jg2_ne rfl hl0))) ?_
        replace h := obd_of h; obtain ⟨x31, hx31, h⟩ := h
        refine jr_getA jf_80_80 hx31 ?_
        refine jr_iconst jf_80_83 jc_i_3 ?_
        replace h := obd_of h; obtain ⟨a32, rfl, h⟩ := h
        replace h := jgd_of h; obtain ⟨hb33, h⟩ := h
        replace h := obd_of h; obtain ⟨x34, hx34, h⟩ := h
        refine jr_V6_1 jf_80_84 hb33 (by omega) (r_Row_at (by omega) _ _ _ _ hx34) (by simp only [jcats_cons, jcats_nil, cat_int, cat_long, cat_double, cat_float, cat_ref, rv_cat]; decide) jml_23 (Nat.le_of_ble_eq_true rfl) ?_
        replace h := jgd_of h; obtain ⟨hb35, h⟩ := h
        replace h := obd_of h; obtain ⟨x36, hx36, h⟩ := h
        refine jr_V6_2 jf_80_87 hb35 (by omega) (r_Section_lessTimes (by omega) _ _ _ _ _ hx36) (by simp only [jcats_cons, jcats_nil, cat_int, cat_long, cat_double, cat_float, cat_ref, rv_cat]; decide) jml_81 (Nat.le_of_ble_eq_true rfl) ?_
        replace h := obd_of h; obtain ⟨a37, rfl, h⟩ := h
        replace h := obd_of h; obtain ⟨x38, hx38, h⟩ := h
        rcases ite_or hx38 with ⟨hb, hx⟩ | ⟨hb0, hx⟩
        · refine jr_V8a_2 jf_80_90 hb (by omega) (r_Real_plus (by omega) _ _ _ _ _ hx) (Nat.le_of_ble_eq_true rfl) jml_65 (Nat.le_of_ble_eq_true rfl) ?_
          replace h := jgd_of h; obtain ⟨hb39, h⟩ := h
          replace h := jbd2_of h; obtain ⟨x40, μ41, hx40, h⟩ := h
          refine jr_V6_1 jf_80_93 hb39 (by omega) (r_Section_settled (by omega) _ _ _ _ _ hx40) (Nat.le_of_ble_eq_true rfl) jml_70 (Nat.le_of_ble_eq_true rfl) ?_
          refine jr_lstore jf_80_96 jml_80 (by decide) ?_
          refine jr_aload_n jf_80_98 rfl (jg2_ne rfl (jg2_ne rfl (jg2_ne rfl (jg2_ne rfl hl0)))) ?_
          replace h := obd_of h; obtain ⟨x42, hx42, h⟩ := h
          refine jr_getA jf_80_99 hx42 ?_
          refine jr_iconst jf_80_102 jc_i_1 ?_
          refine jr_aload_n jf_80_103 rfl (jg2_ne rfl (jg2_ne rfl (jg2_ne rfl (jg2_ne rfl hl0)))) ?_
          replace h := obd_of h; obtain ⟨x43, hx43, h⟩ := h
          refine jr_getA jf_80_104 hx43 ?_
          refine jr_iconst jf_80_107 jc_i_0 ?_
          replace h := obd_of h; obtain ⟨a44, rfl, h⟩ := h
          replace h := jgd_of h; obtain ⟨hb45, h⟩ := h
          replace h := obd_of h; obtain ⟨x46, hx46, h⟩ := h
          refine jr_V6_1 jf_80_108 hb45 (by omega) (r_Row_at (by omega) _ _ _ _ hx46) (by simp only [jcats_cons, jcats_nil, cat_int, cat_long, cat_double, cat_float, cat_ref, rv_cat]; decide) jml_23 (Nat.le_of_ble_eq_true rfl) ?_
          replace h := obd_of h; obtain ⟨a47, rfl, h⟩ := h
          replace h := jgd_of h; obtain ⟨hb48, h⟩ := h
          replace h := obd_of h; obtain ⟨μ49, hμ49, h⟩ := h
          refine jr_V6v_2 jf_80_111 hb48 (by omega) (r_Row_put (by omega) _ _ _ _ _ hμ49) (Nat.le_of_ble_eq_true rfl) jml_50 (Nat.le_of_ble_eq_true rfl) ?_
          refine jr_aload_n jf_80_114 rfl (jg2_ne rfl (jg2_ne rfl (jg2_ne rfl (jg2_ne rfl hl0)))) ?_
          replace h := obd_of h; obtain ⟨x50, hx50, h⟩ := h
          refine jr_getA jf_80_115 hx50 ?_
          refine jr_iconst jf_80_118 jc_i_0 ?_
          refine jr_lload_n jf_80_119 rfl (jg2_ne rfl (jg2_ne rfl (jg2_ne rfl (jg2_ne rfl hl1)))) ?_
          replace h := obd_of h; obtain ⟨a51, rfl, h⟩ := h
          replace h := jgd_of h; obtain ⟨hb52, h⟩ := h
          replace h := obd_of h; obtain ⟨μ53, hμ53, h⟩ := h
          refine jr_V6v_2 jf_80_120 hb52 (by omega) (r_Row_put (by omega) _ _ _ _ _ hμ53) (Nat.le_of_ble_eq_true rfl) jml_50 (Nat.le_of_ble_eq_true rfl) ?_
          refine jr_aload_n jf_80_123 rfl (jg2_ne rfl (jg2_ne rfl (jg2_ne rfl (jg2_ne rfl hl0)))) ?_
          replace h := obd_of h; obtain ⟨x54, hx54, h⟩ := h
          refine jr_getA jf_80_124 hx54 ?_
          refine jr_iconst jf_80_127 jc_i_3 ?_
          refine jr_aload_n jf_80_128 rfl (jg2_ne rfl (jg2_ne rfl (jg2_ne rfl (jg2_ne rfl hl0)))) ?_
          replace h := obd_of h; obtain ⟨x55, hx55, h⟩ := h
          refine jr_getA jf_80_129 hx55 ?_
          refine jr_iconst jf_80_132 jc_i_2 ?_
          replace h := obd_of h; obtain ⟨a56, rfl, h⟩ := h
          replace h := jgd_of h; obtain ⟨hb57, h⟩ := h
          replace h := obd_of h; obtain ⟨x58, hx58, h⟩ := h
          refine jr_V6_1 jf_80_133 hb57 (by omega) (r_Row_at (by omega) _ _ _ _ hx58) (by simp only [jcats_cons, jcats_nil, cat_int, cat_long, cat_double, cat_float, cat_ref, rv_cat]; decide) jml_23 (Nat.le_of_ble_eq_true rfl) ?_
          replace h := obd_of h; obtain ⟨a59, rfl, h⟩ := h
          replace h := jgd_of h; obtain ⟨hb60, h⟩ := h
          replace h := obd_of h; obtain ⟨μ61, hμ61, h⟩ := h
          refine jr_V6v_2 jf_80_136 hb60 (by omega) (r_Row_put (by omega) _ _ _ _ _ hμ61) (Nat.le_of_ble_eq_true rfl) jml_50 (Nat.le_of_ble_eq_true rfl) ?_
          refine jr_aload_n jf_80_139 rfl (jg2_ne rfl (jg2_ne rfl (jg2_ne rfl (jg2_ne rfl hl0)))) ?_
          replace h := obd_of h; obtain ⟨x62, hx62, h⟩ := h
          refine jr_getA jf_80_140 hx62 ?_
          refine jr_iconst jf_80_143 jc_i_2 ?_
          refine jr_lload jf_80_144 jg2_same ?_
          replace h := obd_of h; obtain ⟨a63, rfl, h⟩ := h
          replace h := jgd_of h; obtain ⟨hb64, h⟩ := h
          replace h := obd_of h; obtain ⟨μ65, hμ65, h⟩ := h
          refine jr_V6v_2 jf_80_146 hb64 (by omega) (r_Row_put (by omega) _ _ _ _ _ hμ65) (Nat.le_of_ble_eq_true rfl) jml_50 (Nat.le_of_ble_eq_true rfl) ?_
          refine jr_lload jf_80_149 jg2_same ?_
          obtain ⟨rfl, rfl⟩ := Prod.mk.inj (Option.some.inj h)
          exact jr_retJ jf_80_151 jmt_80
        · obtain ⟨hb, hx⟩ := jgd_of hx
          obtain hx := Option.some.inj hx
          refine jr_V8b_2 jf_80_90 hb0 hb (by omega) (r_Shorts_plus (by omega) _ _ _ _ _ hx) (Nat.le_of_ble_eq_true rfl) jml_69 (Nat.le_of_ble_eq_true rfl) ?_
          replace h := jgd_of h; obtain ⟨hb39, h⟩ := h
          replace h := jbd2_of h; obtain ⟨x40, μ41, hx40, h⟩ := h
          refine jr_V6_1 jf_80_93 hb39 (by omega) (r_Section_settled (by omega) _ _ _ _ _ hx40) (Nat.le_of_ble_eq_true rfl) jml_70 (Nat.le_of_ble_eq_true rfl) ?_
          refine jr_lstore jf_80_96 jml_80 (by decide) ?_
          refine jr_aload_n jf_80_98 rfl (jg2_ne rfl (jg2_ne rfl (jg2_ne rfl (jg2_ne rfl hl0)))) ?_
          replace h := obd_of h; obtain ⟨x42, hx42, h⟩ := h
          refine jr_getA jf_80_99 hx42 ?_
          refine jr_iconst jf_80_102 jc_i_1 ?_
          refine jr_aload_n jf_80_103 rfl (jg2_ne rfl (jg2_ne rfl (jg2_ne rfl (jg2_ne rfl hl0)))) ?_
          replace h := obd_of h; obtain ⟨x43, hx43, h⟩ := h
          refine jr_getA jf_80_104 hx43 ?_
          refine jr_iconst jf_80_107 jc_i_0 ?_
          replace h := obd_of h; obtain ⟨a44, rfl, h⟩ := h
          replace h := jgd_of h; obtain ⟨hb45, h⟩ := h
          replace h := obd_of h; obtain ⟨x46, hx46, h⟩ := h
          refine jr_V6_1 jf_80_108 hb45 (by omega) (r_Row_at (by omega) _ _ _ _ hx46) (by simp only [jcats_cons, jcats_nil, cat_int, cat_long, cat_double, cat_float, cat_ref, rv_cat]; decide) jml_23 (Nat.le_of_ble_eq_true rfl) ?_
          replace h := obd_of h; obtain ⟨a47, rfl, h⟩ := h
          replace h := jgd_of h; obtain ⟨hb48, h⟩ := h
          replace h := obd_of h; obtain ⟨μ49, hμ49, h⟩ := h
          refine jr_V6v_2 jf_80_111 hb48 (by omega) (r_Row_put (by omega) _ _ _ _ _ hμ49) (Nat.le_of_ble_eq_true rfl) jml_50 (Nat.le_of_ble_eq_true rfl) ?_
          refine jr_aload_n jf_80_114 rfl (jg2_ne rfl (jg2_ne rfl (jg2_ne rfl (jg2_ne rfl hl0)))) ?_
          replace h := obd_of h; obtain ⟨x50, hx50, h⟩ := h
          refine jr_getA jf_80_115 hx50 ?_
          refine jr_iconst jf_80_118 jc_i_0 ?_
          refine jr_lload_n jf_80_119 rfl (jg2_ne rfl (jg2_ne rfl (jg2_ne rfl (jg2_ne rfl hl1)))) ?_
          replace h := obd_of h; obtain ⟨a51, rfl, h⟩ := h
          replace h := jgd_of h; obtain ⟨hb52, h⟩ := h
          replace h := obd_of h; obtain ⟨μ53, hμ53, h⟩ := h
          refine jr_V6v_2 jf_80_120 hb52 (by omega) (r_Row_put (by omega) _ _ _ _ _ hμ53) (Nat.le_of_ble_eq_true rfl) jml_50 (Nat.le_of_ble_eq_true rfl) ?_
          refine jr_aload_n jf_80_123 rfl (jg2_ne rfl (jg2_ne rfl (jg2_ne rfl (jg2_ne rfl hl0)))) ?_
          replace h := obd_of h; obtain ⟨x54, hx54, h⟩ := h
          refine jr_getA jf_80_124 hx54 ?_
          refine jr_iconst jf_80_127 jc_i_3 ?_
          refine jr_aload_n jf_80_128 rfl (jg2_ne rfl (jg2_ne rfl (jg2_ne rfl (jg2_ne rfl hl0)))) ?_
          replace h := obd_of h; obtain ⟨x55, hx55, h⟩ := h
          refine jr_getA jf_80_129 hx55 ?_
          refine jr_iconst jf_80_132 jc_i_2 ?_
          replace h := obd_of h; obtain ⟨a56, rfl, h⟩ := h
          replace h := jgd_of h; obtain ⟨hb57, h⟩ := h
          replace h := obd_of h; obtain ⟨x58, hx58, h⟩ := h
          refine jr_V6_1 jf_80_133 hb57 (by omega) (r_Row_at (by omega) _ _ _ _ hx58) (by simp only [jcats_cons, jcats_nil, cat_int, cat_long, cat_double, cat_float, cat_ref, rv_cat]; decide) jml_23 (Nat.le_of_ble_eq_true rfl) ?_
          replace h := obd_of h; obtain ⟨a59, rfl, h⟩ := h
          replace h := jgd_of h; obtain ⟨hb60, h⟩ := h
          replace h := obd_of h; obtain ⟨μ61, hμ61, h⟩ := h
          refine jr_V6v_2 jf_80_136 hb60 (by omega) (r_Row_put (by omega) _ _ _ _ _ hμ61) (Nat.le_of_ble_eq_true rfl) jml_50 (Nat.le_of_ble_eq_true rfl) ?_
          refine jr_aload_n jf_80_139 rfl (jg2_ne rfl (jg2_ne rfl (jg2_ne rfl (jg2_ne rfl hl0)))) ?_
          replace h := obd_of h; obtain ⟨x62, hx62, h⟩ := h
          refine jr_getA jf_80_140 hx62 ?_
          refine jr_iconst jf_80_143 jc_i_2 ?_
          refine jr_lload jf_80_144 jg2_same ?_
          replace h := obd_of h; obtain ⟨a63, rfl, h⟩ := h
          replace h := jgd_of h; obtain ⟨hb64, h⟩ := h
          replace h := obd_of h; obtain ⟨μ65, hμ65, h⟩ := h
          refine jr_V6v_2 jf_80_146 hb64 (by omega) (r_Row_put (by omega) _ _ _ _ _ hμ65) (Nat.le_of_ble_eq_true rfl) jml_50 (Nat.le_of_ble_eq_true rfl) ?_
          refine jr_lload jf_80_149 jg2_same ?_
          obtain ⟨rfl, rfl⟩ := Prod.mk.inj (Option.some.inj h)
          exact jr_retJ jf_80_151 jmt_80
    · obtain ⟨hb, hx⟩ := jgd_of hx
      obtain hx := Option.some.inj hx
      refine jr_V8b_2 jf_80_45 hb0 hb (by omega) (r_Shorts_plus (by omega) _ _ _ _ _ hx) (Nat.le_of_ble_eq_true rfl) jml_69 (Nat.le_of_ble_eq_true rfl) ?_
      refine jr_lstore_n jf_80_48 rfl jml_80 (by decide) ?_
      refine jr_aload_n jf_80_49 rfl (jg2_ne rfl (jg2_ne rfl hl0)) ?_
      replace h := obd_of h; obtain ⟨x21, hx21, h⟩ := h
      refine jr_getA jf_80_50 hx21 ?_
      refine jr_lload_n jf_80_53 rfl jg2_same ?_
      refine jr_aload_n jf_80_54 rfl (jg2_ne rfl (jg2_ne rfl hl0)) ?_
      refine jr_iconst jf_80_55 jc_i_3 ?_
      refine jr_aload_n jf_80_56 rfl (jg2_ne rfl (jg2_ne rfl hl0)) ?_
      replace h := obd_of h; obtain ⟨x22, hx22, h⟩ := h
      refine jr_getA jf_80_57 hx22 ?_
      refine jr_iconst jf_80_60 jc_i_2 ?_
      replace h := obd_of h; obtain ⟨a23, rfl, h⟩ := h
      replace h := jgd_of h; obtain ⟨hb24, h⟩ := h
      replace h := obd_of h; obtain ⟨x25, hx25, h⟩ := h
      refine jr_V6_1 jf_80_61 hb24 (by omega) (r_Row_at (by omega) _ _ _ _ hx25) (by simp only [jcats_cons, jcats_nil, cat_int, cat_long, cat_double, cat_float, cat_ref, rv_cat]; decide) jml_23 (Nat.le_of_ble_eq_true rfl) ?_
      replace h := jgd_of h; obtain ⟨hb26, h⟩ := h
      replace h := obd_of h; obtain ⟨x27, hx27, h⟩ := h
      refine jr_V6_2 jf_80_64 hb26 (by omega) (r_Section_lessTimes (by omega) _ _ _ _ _ hx27) (by simp only [jcats_cons, jcats_nil, cat_int, cat_long, cat_double, cat_float, cat_ref, rv_cat]; decide) jml_81 (Nat.le_of_ble_eq_true rfl) ?_
      replace h := obd_of h; obtain ⟨a28, rfl, h⟩ := h
      replace h := obd_of h; obtain ⟨x29, hx29, h⟩ := h
      rcases ite_or hx29 with ⟨hb, hx⟩ | ⟨hb0, hx⟩
      · refine jr_V8a_2 jf_80_67 hb (by omega) (r_Real_plus (by omega) _ _ _ _ _ hx) (Nat.le_of_ble_eq_true rfl) jml_65 (Nat.le_of_ble_eq_true rfl) ?_
        refine jr_lstore_n jf_80_70 rfl jml_80 (by decide) ?_
        refine jr_aload_n jf_80_71 rfl (jg2_ne rfl (jg2_ne rfl (jg2_ne rfl hl0))) ?_
        refine jr_aload_n jf_80_72 rfl (jg2_ne rfl (jg2_ne rfl (jg2_ne rfl hl0))) ?_
        replace h := obd_of h; obtain ⟨x30, hx30, h⟩ := h
        refine jr_getA jf_80_73 hx30 ?_
        refine jr_lload_n jf_80_76 rfl jg2_same ?_
        refine jr_aload_n jf_80_77 rfl (jg2_ne rfl (jg2_ne rfl (jg2_ne rfl hl0))) ?_
        refine jr_iconst jf_80_78 jc_i_4 ?_
        refine jr_aload_n jf_80_79 rfl (jg2_ne rfl (jg2_ne rfl (jg2_ne rfl hl0))) ?_
        replace h := obd_of h; obtain ⟨x31, hx31, h⟩ := h
        refine jr_getA jf_80_80 hx31 ?_
        refine jr_iconst jf_80_83 jc_i_3 ?_
        replace h := obd_of h; obtain ⟨a32, rfl, h⟩ := h
        replace h := jgd_of h; obtain ⟨hb33, h⟩ := h
        replace h := obd_of h; obtain ⟨x34, hx34, h⟩ := h
        refine jr_V6_1 jf_80_84 hb33 (by omega) (r_Row_at (by omega) _ _ _ _ hx34) (by simp only [jcats_cons, jcats_nil, cat_int, cat_long, cat_double, cat_float, cat_ref, rv_cat]; decide) jml_23 (Nat.le_of_ble_eq_true rfl) ?_
        replace h := jgd_of h; obtain ⟨hb35, h⟩ := h
        replace h := obd_of h; obtain ⟨x36, hx36, h⟩ := h
        refine jr_V6_2 jf_80_87 hb35 (by omega) (r_Section_lessTimes (by omega) _ _ _ _ _ hx36) (by simp only [jcats_cons, jcats_nil, cat_int, cat_long, cat_double, cat_float, cat_ref, rv_cat]; decide) jml_81 (Nat.le_of_ble_eq_true rfl) ?_
        replace h := obd_of h; obtain ⟨a37, rfl, h⟩ := h
        replace h := obd_of h; obtain ⟨x38, hx38, h⟩ := h
        rcases ite_or hx38 with ⟨hb, hx⟩ | ⟨hb0, hx⟩
        · refine jr_V8a_2 jf_80_90 hb (by omega) (r_Real_plus (by omega) _ _ _ _ _ hx) (Nat.le_of_ble_eq_true rfl) jml_65 (Nat.le_of_ble_eq_true rfl) ?_
          replace h := jgd_of h; obtain ⟨hb39, h⟩ := h
          replace h := jbd2_of h; obtain ⟨x40, μ41, hx40, h⟩ := h
          refine jr_V6_1 jf_80_93 hb39 (by omega) (r_Section_settled (by omega) _ _ _ _ _ hx40) (Nat.le_of_ble_eq_true rfl) jml_70 (Nat.le_of_ble_eq_true rfl) ?_
          refine jr_lstore jf_80_96 jml_80 (by decide) ?_
          refine jr_aload_n jf_80_98 rfl (jg2_ne rfl (jg2_ne rfl (jg2_ne rfl (jg2_ne rfl hl0)))) ?_
          replace h := obd_of h; obtain ⟨x42, hx42, h⟩ := h
          refine jr_getA jf_80_99 hx42 ?_
          refine jr_iconst jf_80_102 jc_i_1 ?_
          refine jr_aload_n jf_80_103 rfl (jg2_ne rfl (jg2_ne rfl (jg2_ne rfl (jg2_ne rfl hl0)))) ?_
          replace h := obd_of h; obtain ⟨x43, hx43, h⟩ := h
          refine jr_getA jf_80_104 hx43 ?_
          refine jr_iconst jf_80_107 jc_i_0 ?_
          replace h := obd_of h; obtain ⟨a44, rfl, h⟩ := h
          replace h := jgd_of h; obtain ⟨hb45, h⟩ := h
          replace h := obd_of h; obtain ⟨x46, hx46, h⟩ := h
          refine jr_V6_1 jf_80_108 hb45 (by omega) (r_Row_at (by omega) _ _ _ _ hx46) (by simp only [jcats_cons, jcats_nil, cat_int, cat_long, cat_double, cat_float, cat_ref, rv_cat]; decide) jml_23 (Nat.le_of_ble_eq_true rfl) ?_
          replace h := obd_of h; obtain ⟨a47, rfl, h⟩ := h
          replace h := jgd_of h; obtain ⟨hb48, h⟩ := h
          replace h := obd_of h; obtain ⟨μ49, hμ49, h⟩ := h
          refine jr_V6v_2 jf_80_111 hb48 (by omega) (r_Row_put (by omega) _ _ _ _ _ hμ49) (Nat.le_of_ble_eq_true rfl) jml_50 (Nat.le_of_ble_eq_true rfl) ?_
          refine jr_aload_n jf_80_114 rfl (jg2_ne rfl (jg2_ne rfl (jg2_ne rfl (jg2_ne rfl hl0)))) ?_
          replace h := obd_of h; obtain ⟨x50, hx50, h⟩ := h
          refine jr_getA jf_80_115 hx50 ?_
          refine jr_iconst jf_80_118 jc_i_0 ?_
          refine jr_lload_n jf_80_119 rfl (jg2_ne rfl (jg2_ne rfl (jg2_ne rfl (jg2_ne rfl hl1)))) ?_
          replace h := obd_of h; obtain ⟨a51, rfl, h⟩ := h
          replace h := jgd_of h; obtain ⟨hb52, h⟩ := h
          replace h := obd_of h; obtain ⟨μ53, hμ53, h⟩ := h
          refine jr_V6v_2 jf_80_120 hb52 (by omega) (r_Row_put (by omega) _ _ _ _ _ hμ53) (Nat.le_of_ble_eq_true rfl) jml_50 (Nat.le_of_ble_eq_true rfl) ?_
          refine jr_aload_n jf_80_123 rfl (jg2_ne rfl (jg2_ne rfl (jg2_ne rfl (jg2_ne rfl hl0)))) ?_
          replace h := obd_of h; obtain ⟨x54, hx54, h⟩ := h
          refine jr_getA jf_80_124 hx54 ?_
          refine jr_iconst jf_80_127 jc_i_3 ?_
          refine jr_aload_n jf_80_128 rfl (jg2_ne rfl (jg2_ne rfl (jg2_ne rfl (jg2_ne rfl hl0)))) ?_
          replace h := obd_of h; obtain ⟨x55, hx55, h⟩ := h
          refine jr_getA jf_80_129 hx55 ?_
          refine jr_iconst jf_80_132 jc_i_2 ?_
          replace h := obd_of h; obtain ⟨a56, rfl, h⟩ := h
          replace h := jgd_of h; obtain ⟨hb57, h⟩ := h
          replace h := obd_of h; obtain ⟨x58, hx58, h⟩ := h
          refine jr_V6_1 jf_80_133 hb57 (by omega) (r_Row_at (by omega) _ _ _ _ hx58) (by simp only [jcats_cons, jcats_nil, cat_int, cat_long, cat_double, cat_float, cat_ref, rv_cat]; decide) jml_23 (Nat.le_of_ble_eq_true rfl) ?_
          replace h := obd_of h; obtain ⟨a59, rfl, h⟩ := h
          replace h := jgd_of h; obtain ⟨hb60, h⟩ := h
          replace h := obd_of h; obtain ⟨μ61, hμ61, h⟩ := h
          refine jr_V6v_2 jf_80_136 hb60 (by omega) (r_Row_put (by omega) _ _ _ _ _ hμ61) (Nat.le_of_ble_eq_true rfl) jml_50 (Nat.le_of_ble_eq_true rfl) ?_
          refine jr_aload_n jf_80_139 rfl (jg2_ne rfl (jg2_ne rfl (jg2_ne rfl (jg2_ne rfl hl0)))) ?_
          replace h := obd_of h; obtain ⟨x62, hx62, h⟩ := h
          refine jr_getA jf_80_140 hx62 ?_
          refine jr_iconst jf_80_143 jc_i_2 ?_
          refine jr_lload jf_80_144 jg2_same ?_
          replace h := obd_of h; obtain ⟨a63, rfl, h⟩ := h
          replace h := jgd_of h; obtain ⟨hb64, h⟩ := h
          replace h := obd_of h; obtain ⟨μ65, hμ65, h⟩ := h
          refine jr_V6v_2 jf_80_146 hb64 (by omega) (r_Row_put (by omega) _ _ _ _ _ hμ65) (Nat.le_of_ble_eq_true rfl) jml_50 (Nat.le_of_ble_eq_true rfl) ?_
          refine jr_lload jf_80_149 jg2_same ?_
          obtain ⟨rfl, rfl⟩ := Prod.mk.inj (Option.some.inj h)
          exact jr_retJ jf_80_151 jmt_80
        · obtain ⟨hb, hx⟩ := jgd_of hx
          obtain hx := Option.some.inj hx
          refine jr_V8b_2 jf_80_90 hb0 hb (by omega) (r_Shorts_plus (by omega) _ _ _ _ _ hx) (Nat.le_of_ble_eq_true rfl) jml_69 (Nat.le_of_ble_eq_true rfl) ?_
          replace h := jgd_of h; obtain ⟨hb39, h⟩ := h
          replace h := jbd2_of h; obtain ⟨x40, μ41, hx40, h⟩ := h
          refine jr_V6_1 jf_80_93 hb39 (by omega) (r_Section_settled (by omega) _ _ _ _ _ hx40) (Nat.le_of_ble_eq_true rfl) jml_70 (Nat.le_of_ble_eq_true rfl) ?_
          refine jr_lstore jf_80_96 jml_80 (by decide) ?_
          refine jr_aload_n jf_80_98 rfl (jg2_ne rfl (jg2_ne rfl (jg2_ne rfl (jg2_ne rfl hl0)))) ?_
          replace h := obd_of h; obtain ⟨x42, hx42, h⟩ := h
          refine jr_getA jf_80_99 hx42 ?_
          refine jr_iconst jf_80_102 jc_i_1 ?_
          refine jr_aload_n jf_80_103 rfl (jg2_ne rfl (jg2_ne rfl (jg2_ne rfl (jg2_ne rfl hl0)))) ?_
          replace h := obd_of h; obtain ⟨x43, hx43, h⟩ := h
          refine jr_getA jf_80_104 hx43 ?_
          refine jr_iconst jf_80_107 jc_i_0 ?_
          replace h := obd_of h; obtain ⟨a44, rfl, h⟩ := h
          replace h := jgd_of h; obtain ⟨hb45, h⟩ := h
          replace h := obd_of h; obtain ⟨x46, hx46, h⟩ := h
          refine jr_V6_1 jf_80_108 hb45 (by omega) (r_Row_at (by omega) _ _ _ _ hx46) (by simp only [jcats_cons, jcats_nil, cat_int, cat_long, cat_double, cat_float, cat_ref, rv_cat]; decide) jml_23 (Nat.le_of_ble_eq_true rfl) ?_
          replace h := obd_of h; obtain ⟨a47, rfl, h⟩ := h
          replace h := jgd_of h; obtain ⟨hb48, h⟩ := h
          replace h := obd_of h; obtain ⟨μ49, hμ49, h⟩ := h
          refine jr_V6v_2 jf_80_111 hb48 (by omega) (r_Row_put (by omega) _ _ _ _ _ hμ49) (Nat.le_of_ble_eq_true rfl) jml_50 (Nat.le_of_ble_eq_true rfl) ?_
          refine jr_aload_n jf_80_114 rfl (jg2_ne rfl (jg2_ne rfl (jg2_ne rfl (jg2_ne rfl hl0)))) ?_
          replace h := obd_of h; obtain ⟨x50, hx50, h⟩ := h
          refine jr_getA jf_80_115 hx50 ?_
          refine jr_iconst jf_80_118 jc_i_0 ?_
          refine jr_lload_n jf_80_119 rfl (jg2_ne rfl (jg2_ne rfl (jg2_ne rfl (jg2_ne rfl hl1)))) ?_
          replace h := obd_of h; obtain ⟨a51, rfl, h⟩ := h
          replace h := jgd_of h; obtain ⟨hb52, h⟩ := h
          replace h := obd_of h; obtain ⟨μ53, hμ53, h⟩ := h
          refine jr_V6v_2 jf_80_120 hb52 (by omega) (r_Row_put (by omega) _ _ _ _ _ hμ53) (Nat.le_of_ble_eq_true rfl) jml_50 (Nat.le_of_ble_eq_true rfl) ?_
          refine jr_aload_n jf_80_123 rfl (jg2_ne rfl (jg2_ne rfl (jg2_ne rfl (jg2_ne rfl hl0)))) ?_
          replace h := obd_of h; obtain ⟨x54, hx54, h⟩ := h
          refine jr_getA jf_80_124 hx54 ?_
          refine jr_iconst jf_80_127 jc_i_3 ?_
          refine jr_aload_n jf_80_128 rfl (jg2_ne rfl (jg2_ne rfl (jg2_ne rfl (jg2_ne rfl hl0)))) ?_
          replace h := obd_of h; obtain ⟨x55, hx55, h⟩ := h
          refine jr_getA jf_80_129 hx55 ?_
          refine jr_iconst jf_80_132 jc_i_2 ?_
          replace h := obd_of h; obtain ⟨a56, rfl, h⟩ := h
          replace h := jgd_of h; obtain ⟨hb57, h⟩ := h
          replace h := obd_of h; obtain ⟨x58, hx58, h⟩ := h
          refine jr_V6_1 jf_80_133 hb57 (by omega) (r_Row_at (by omega) _ _ _ _ hx58) (by simp only [jcats_cons, jcats_nil, cat_int, cat_long, cat_double, cat_float, cat_ref, rv_cat]; decide) jml_23 (Nat.le_of_ble_eq_true rfl) ?_
          replace h := obd_of h; obtain ⟨a59, rfl, h⟩ := h
          replace h := jgd_of h; obtain ⟨hb60, h⟩ := h
          replace h := obd_of h; obtain ⟨μ61, hμ61, h⟩ := h
          refine jr_V6v_2 jf_80_136 hb60 (by omega) (r_Row_put (by omega) _ _ _ _ _ hμ61) (Nat.le_of_ble_eq_true rfl) jml_50 (Nat.le_of_ble_eq_true rfl) ?_
          refine jr_aload_n jf_80_139 rfl (jg2_ne rfl (jg2_ne rfl (jg2_ne rfl (jg2_ne rfl hl0)))) ?_
          replace h := obd_of h; obtain ⟨x62, hx62, h⟩ := h
          refine jr_getA jf_80_140 hx62 ?_
          refine jr_iconst jf_80_143 jc_i_2 ?_
          refine jr_lload jf_80_144 jg2_same ?_
          replace h := obd_of h; obtain ⟨a63, rfl, h⟩ := h
          replace h := jgd_of h; obtain ⟨hb64, h⟩ := h
          replace h := obd_of h; obtain ⟨μ65, hμ65, h⟩ := h
          refine jr_V6v_2 jf_80_146 hb64 (by omega) (r_Row_put (by omega) _ _ _ _ _ hμ65) (Nat.le_of_ble_eq_true rfl) jml_50 (Nat.le_of_ble_eq_true rfl) ?_
          refine jr_lload jf_80_149 jg2_same ?_
          obtain ⟨rfl, rfl⟩ := Prod.mk.inj (Option.some.inj h)
          exact jr_retJ jf_80_151 jmt_80
      · obtain ⟨hb, hx⟩ := jgd_of hx
        obtain hx := Option.some.inj hx
        refine jr_V8b_2 jf_80_67 hb0 hb (by omega) (r_Shorts_plus (by omega) _ _ _ _ _ hx) (Nat.le_of_ble_eq_true rfl) jml_69 (Nat.le_of_ble_eq_true rfl) ?_
        refine jr_lstore_n jf_80_70 rfl jml_80 (by decide) ?_
        refine jr_aload_n jf_80_71 rfl (jg2_ne rfl (jg2_ne rfl (jg2_ne rfl hl0))) ?_
        refine jr_aload_n jf_80_72 rfl (jg2_ne rfl (jg2_ne rfl (jg2_ne rfl hl0))) ?_
        replace h := obd_of h; obtain ⟨x30, hx30, h⟩ := h
        refine jr_getA jf_80_73 hx30 ?_
        refine jr_lload_n jf_80_76 rfl jg2_same ?_
        refine jr_aload_n jf_80_77 rfl (jg2_ne rfl (jg2_ne rfl (jg2_ne rfl hl0))) ?_
        refine jr_iconst jf_80_78 jc_i_4 ?_
        refine jr_aload_n jf_80_79 rfl (jg2_ne rfl (jg2_ne rfl (jg2_ne rfl hl0))) ?_
        replace h := obd_of h; obtain ⟨x31, hx31, h⟩ := h
        refine jr_getA jf_80_80 hx31 ?_
        refine jr_iconst jf_80_83 jc_i_3 ?_
        replace h := obd_of h; obtain ⟨a32, rfl, h⟩ := h
        replace h := jgd_of h; obtain ⟨hb33, h⟩ := h
        replace h := obd_of h; obtain ⟨x34, hx34, h⟩ := h
        refine jr_V6_1 jf_80_84 hb33 (by omega) (r_Row_at (by omega) _ _ _ _ hx34) (by simp only [jcats_cons, jcats_nil, cat_int, cat_long, cat_double, cat_float, cat_ref, rv_cat]; decide) jml_23 (Nat.le_of_ble_eq_true rfl) ?_
        replace h := jgd_of h; obtain ⟨hb35, h⟩ := h
        replace h := obd_of h; obtain ⟨x36, hx36, h⟩ := h
        refine jr_V6_2 jf_80_87 hb35 (by omega) (r_Section_lessTimes (by omega) _ _ _ _ _ hx36) (by simp only [jcats_cons, jcats_nil, cat_int, cat_long, cat_double, cat_float, cat_ref, rv_cat]; decide) jml_81 (Nat.le_of_ble_eq_true rfl) ?_
        replace h := obd_of h; obtain ⟨a37, rfl, h⟩ := h
        replace h := obd_of h; obtain ⟨x38, hx38, h⟩ := h
        rcases ite_or hx38 with ⟨hb, hx⟩ | ⟨hb0, hx⟩
        · refine jr_V8a_2 jf_80_90 hb (by omega) (r_Real_plus (by omega) _ _ _ _ _ hx) (Nat.le_of_ble_eq_true rfl) jml_65 (Nat.le_of_ble_eq_true rfl) ?_
          replace h := jgd_of h; obtain ⟨hb39, h⟩ := h
          replace h := jbd2_of h; obtain ⟨x40, μ41, hx40, h⟩ := h
          refine jr_V6_1 jf_80_93 hb39 (by omega) (r_Section_settled (by omega) _ _ _ _ _ hx40) (Nat.le_of_ble_eq_true rfl) jml_70 (Nat.le_of_ble_eq_true rfl) ?_
          refine jr_lstore jf_80_96 jml_80 (by decide) ?_
          refine jr_aload_n jf_80_98 rfl (jg2_ne rfl (jg2_ne rfl (jg2_ne rfl (jg2_ne rfl hl0)))) ?_
          replace h := obd_of h; obtain ⟨x42, hx42, h⟩ := h
          refine jr_getA jf_80_99 hx42 ?_
          refine jr_iconst jf_80_102 jc_i_1 ?_
          refine jr_aload_n jf_80_103 rfl (jg2_ne rfl (jg2_ne rfl (jg2_ne rfl (jg2_ne rfl hl0)))) ?_
          replace h := obd_of h; obtain ⟨x43, hx43, h⟩ := h
          refine jr_getA jf_80_104 hx43 ?_
          refine jr_iconst jf_80_107 jc_i_0 ?_
          replace h := obd_of h; obtain ⟨a44, rfl, h⟩ := h
          replace h := jgd_of h; obtain ⟨hb45, h⟩ := h
          replace h := obd_of h; obtain ⟨x46, hx46, h⟩ := h
          refine jr_V6_1 jf_80_108 hb45 (by omega) (r_Row_at (by omega) _ _ _ _ hx46) (by simp only [jcats_cons, jcats_nil, cat_int, cat_long, cat_double, cat_float, cat_ref, rv_cat]; decide) jml_23 (Nat.le_of_ble_eq_true rfl) ?_
          replace h := obd_of h; obtain ⟨a47, rfl, h⟩ := h
          replace h := jgd_of h; obtain ⟨hb48, h⟩ := h
          replace h := obd_of h; obtain ⟨μ49, hμ49, h⟩ := h
          refine jr_V6v_2 jf_80_111 hb48 (by omega) (r_Row_put (by omega) _ _ _ _ _ hμ49) (Nat.le_of_ble_eq_true rfl) jml_50 (Nat.le_of_ble_eq_true rfl) ?_
          refine jr_aload_n jf_80_114 rfl (jg2_ne rfl (jg2_ne rfl (jg2_ne rfl (jg2_ne rfl hl0)))) ?_
          replace h := obd_of h; obtain ⟨x50, hx50, h⟩ := h
          refine jr_getA jf_80_115 hx50 ?_
          refine jr_iconst jf_80_118 jc_i_0 ?_
          refine jr_lload_n jf_80_119 rfl (jg2_ne rfl (jg2_ne rfl (jg2_ne rfl (jg2_ne rfl hl1)))) ?_
          replace h := obd_of h; obtain ⟨a51, rfl, h⟩ := h
          replace h := jgd_of h; obtain ⟨hb52, h⟩ := h
          replace h := obd_of h; obtain ⟨μ53, hμ53, h⟩ := h
          refine jr_V6v_2 jf_80_120 hb52 (by omega) (r_Row_put (by omega) _ _ _ _ _ hμ53) (Nat.le_of_ble_eq_true rfl) jml_50 (Nat.le_of_ble_eq_true rfl) ?_
          refine jr_aload_n jf_80_123 rfl (jg2_ne rfl (jg2_ne rfl (jg2_ne rfl (jg2_ne rfl hl0)))) ?_
          replace h := obd_of h; obtain ⟨x54, hx54, h⟩ := h
          refine jr_getA jf_80_124 hx54 ?_
          refine jr_iconst jf_80_127 jc_i_3 ?_
          refine jr_aload_n jf_80_128 rfl (jg2_ne rfl (jg2_ne rfl (jg2_ne rfl (jg2_ne rfl hl0)))) ?_
          replace h := obd_of h; obtain ⟨x55, hx55, h⟩ := h
          refine jr_getA jf_80_129 hx55 ?_
          refine jr_iconst jf_80_132 jc_i_2 ?_
          replace h := obd_of h; obtain ⟨a56, rfl, h⟩ := h
          replace h := jgd_of h; obtain ⟨hb57, h⟩ := h
          replace h := obd_of h; obtain ⟨x58, hx58, h⟩ := h
          refine jr_V6_1 jf_80_133 hb57 (by omega) (r_Row_at (by omega) _ _ _ _ hx58) (by simp only [jcats_cons, jcats_nil, cat_int, cat_long, cat_double, cat_float, cat_ref, rv_cat]; decide) jml_23 (Nat.le_of_ble_eq_true rfl) ?_
          replace h := obd_of h; obtain ⟨a59, rfl, h⟩ := h
          replace h := jgd_of h; obtain ⟨hb60, h⟩ := h
          replace h := obd_of h; obtain ⟨μ61, hμ61, h⟩ := h
          refine jr_V6v_2 jf_80_136 hb60 (by omega) (r_Row_put (by omega) _ _ _ _ _ hμ61) (Nat.le_of_ble_eq_true rfl) jml_50 (Nat.le_of_ble_eq_true rfl) ?_
          refine jr_aload_n jf_80_139 rfl (jg2_ne rfl (jg2_ne rfl (jg2_ne rfl (jg2_ne rfl hl0)))) ?_
          replace h := obd_of h; obtain ⟨x62, hx62, h⟩ := h
          refine jr_getA jf_80_140 hx62 ?_
          refine jr_iconst jf_80_143 jc_i_2 ?_
          refine jr_lload jf_80_144 jg2_same ?_
          replace h := obd_of h; obtain ⟨a63, rfl, h⟩ := h
          replace h := jgd_of h; obtain ⟨hb64, h⟩ := h
          replace h := obd_of h; obtain ⟨μ65, hμ65, h⟩ := h
          refine jr_V6v_2 jf_80_146 hb64 (by omega) (r_Row_put (by omega) _ _ _ _ _ hμ65) (Nat.le_of_ble_eq_true rfl) jml_50 (Nat.le_of_ble_eq_true rfl) ?_
          refine jr_lload jf_80_149 jg2_same ?_
          obtain ⟨rfl, rfl⟩ := Prod.mk.inj (Option.some.inj h)
          exact jr_retJ jf_80_151 jmt_80
        · obtain ⟨hb, hx⟩ := jgd_of hx
          obtain hx := Option.some.inj hx
          refine jr_V8b_2 jf_80_90 hb0 hb (by omega) (r_Shorts_plus (by omega) _ _ _ _ _ hx) (Nat.le_of_ble_eq_true rfl) jml_69 (Nat.le_of_ble_eq_true rfl) ?_
          replace h := jgd_of h; obtain ⟨hb39, h⟩ := h
          replace h := jbd2_of h; obtain ⟨x40, μ41, hx40, h⟩ := h
          refine jr_V6_1 jf_80_93 hb39 (by omega) (r_Section_settled (by omega) _ _ _ _ _ hx40) (Nat.le_of_ble_eq_true rfl) jml_70 (Nat.le_of_ble_eq_true rfl) ?_
          refine jr_lstore jf_80_96 jml_80 (by decide) ?_
          refine jr_aload_n jf_80_98 rfl (jg2_ne rfl (jg2_ne rfl (jg2_ne rfl (jg2_ne rfl hl0)))) ?_
          replace h := obd_of h; obtain ⟨x42, hx42, h⟩ := h
          refine jr_getA jf_80_99 hx42 ?_
          refine jr_iconst jf_80_102 jc_i_1 ?_
          refine jr_aload_n jf_80_103 rfl (jg2_ne rfl (jg2_ne rfl (jg2_ne rfl (jg2_ne rfl hl0)))) ?_
          replace h := obd_of h; obtain ⟨x43, hx43, h⟩ := h
          refine jr_getA jf_80_104 hx43 ?_
          refine jr_iconst jf_80_107 jc_i_0 ?_
          replace h := obd_of h; obtain ⟨a44, rfl, h⟩ := h
          replace h := jgd_of h; obtain ⟨hb45, h⟩ := h
          replace h := obd_of h; obtain ⟨x46, hx46, h⟩ := h
          refine jr_V6_1 jf_80_108 hb45 (by omega) (r_Row_at (by omega) _ _ _ _ hx46) (by simp only [jcats_cons, jcats_nil, cat_int, cat_long, cat_double, cat_float, cat_ref, rv_cat]; decide) jml_23 (Nat.le_of_ble_eq_true rfl) ?_
          replace h := obd_of h; obtain ⟨a47, rfl, h⟩ := h
          replace h := jgd_of h; obtain ⟨hb48, h⟩ := h
          replace h := obd_of h; obtain ⟨μ49, hμ49, h⟩ := h
          refine jr_V6v_2 jf_80_111 hb48 (by omega) (r_Row_put (by omega) _ _ _ _ _ hμ49) (Nat.le_of_ble_eq_true rfl) jml_50 (Nat.le_of_ble_eq_true rfl) ?_
          refine jr_aload_n jf_80_114 rfl (jg2_ne rfl (jg2_ne rfl (jg2_ne rfl (jg2_ne rfl hl0)))) ?_
          replace h := obd_of h; obtain ⟨x50, hx50, h⟩ := h
          refine jr_getA jf_80_115 hx50 ?_
          refine jr_iconst jf_80_118 jc_i_0 ?_
          refine jr_lload_n jf_80_119 rfl (jg2_ne rfl (jg2_ne rfl (jg2_ne rfl (jg2_ne rfl hl1)))) ?_
          replace h := obd_of h; obtain ⟨a51, rfl, h⟩ := h
          replace h := jgd_of h; obtain ⟨hb52, h⟩ := h
          replace h := obd_of h; obtain ⟨μ53, hμ53, h⟩ := h
          refine jr_V6v_2 jf_80_120 hb52 (by omega) (r_Row_put (by omega) _ _ _ _ _ hμ53) (Nat.le_of_ble_eq_true rfl) jml_50 (Nat.le_of_ble_eq_true rfl) ?_
          refine jr_aload_n jf_80_123 rfl (jg2_ne rfl (jg2_ne rfl (jg2_ne rfl (jg2_ne rfl hl0)))) ?_
          replace h := obd_of h; obtain ⟨x54, hx54, h⟩ := h
          refine jr_getA jf_80_124 hx54 ?_
          refine jr_iconst jf_80_127 jc_i_3 ?_
          refine jr_aload_n jf_80_128 rfl (jg2_ne rfl (jg2_ne rfl (jg2_ne rfl (jg2_ne rfl hl0)))) ?_
          replace h := obd_of h; obtain ⟨x55, hx55, h⟩ := h
          refine jr_getA jf_80_129 hx55 ?_
          refine jr_iconst jf_80_132 jc_i_2 ?_
          replace h := obd_of h; obtain ⟨a56, rfl, h⟩ := h
          replace h := jgd_of h; obtain ⟨hb57, h⟩ := h
          replace h := obd_of h; obtain ⟨x58, hx58, h⟩ := h
          refine jr_V6_1 jf_80_133 hb57 (by omega) (r_Row_at (by omega) _ _ _ _ hx58) (by simp only [jcats_cons, jcats_nil, cat_int, cat_long, cat_double, cat_float, cat_ref, rv_cat]; decide) jml_23 (Nat.le_of_ble_eq_true rfl) ?_
          replace h := obd_of h; obtain ⟨a59, rfl, h⟩ := h
          replace h := jgd_of h; obtain ⟨hb60, h⟩ := h
          replace h := obd_of h; obtain ⟨μ61, hμ61, h⟩ := h
          refine jr_V6v_2 jf_80_136 hb60 (by omega) (r_Row_put (by omega) _ _ _ _ _ hμ61) (Nat.le_of_ble_eq_true rfl) jml_50 (Nat.le_of_ble_eq_true rfl) ?_
          refine jr_aload_n jf_80_139 rfl (jg2_ne rfl (jg2_ne rfl (jg2_ne rfl (jg2_ne rfl hl0)))) ?_
          replace h := obd_of h; obtain ⟨x62, hx62, h⟩ := h
          refine jr_getA jf_80_140 hx62 ?_
          refine jr_iconst jf_80_143 jc_i_2 ?_
          refine jr_lload jf_80_144 jg2_same ?_
          replace h := obd_of h; obtain ⟨a63, rfl, h⟩ := h
          replace h := jgd_of h; obtain ⟨hb64, h⟩ := h
          replace h := obd_of h; obtain ⟨μ65, hμ65, h⟩ := h
          refine jr_V6v_2 jf_80_146 hb64 (by omega) (r_Row_put (by omega) _ _ _ _ _ hμ65) (Nat.le_of_ble_eq_true rfl) jml_50 (Nat.le_of_ble_eq_true rfl) ?_
          refine jr_lload jf_80_149 jg2_same ?_
          obtain ⟨rfl, rfl⟩ := Prod.mk.inj (Option.some.inj h)
          exact jr_retJ jf_80_151 jmt_80
set_option maxRecDepth 10000 in
set_option maxHeartbeats 4000000 in
theorem r_Section_direct {B : Nat} {SA : Nat → Nat} {d : Nat} (hd : 4 ≤ d) : ∀ (v0 : Nat) (v1 : Int64) (μ : JMem) (r : Int64) (μ9 : JMem), g_Section_direct B v0 v1 μ = some (r, μ9) → jR B SA d m_Section_direct 0 (lv_args 0 [.ref v0, .long v1]) [] μ (some (.long r)) μ9 := by
  intro v0 v1 μ r μ9 h
  exact r_Section_direct_e hd (lv_args 0 _) _ _ _ _ _ (by simp [lv_args, jget, rv_cat, cat_int, cat_long, cat_double, cat_float, cat_ref]) (by simp [lv_args, jget, rv_cat, cat_int, cat_long, cat_double, cat_float, cat_ref]) h
/-! FilterBench$Row.size()I -/
set_option maxRecDepth 10000 in
set_option maxHeartbeats 4000000 in
theorem r_Row_size_e {B : Nat} {SA : Nat → Nat} {d : Nat} (hd : 0 ≤ d) : ∀ (L : JLoc) (v0 : Nat) (μ : JMem) (r : Int32), jget L 0 = .ref v0 → g_Row_size v0 μ.1 = some r → jR B SA d m_Row_size 0 L [] μ (some (.int r)) μ := by
  intro L v0 μ r hl0 h
  unfold g_Row_size at h
  refine jr_aload_n jf_91_0 rfl hl0 ?_
  replace h := obd_of h; obtain ⟨x1, hx1, h⟩ := h
  refine jr_getA jf_91_1 hx1 ?_
  replace h := obd_of h; obtain ⟨a2, rfl, h⟩ := h
  replace h := obd_of h; obtain ⟨x3, hx3, h⟩ := h
  refine jr_arraylength jf_91_4 hx3 ?_
  obtain rfl := Option.some.inj h
  exact jr_retI jf_91_5 jmt_91
set_option maxRecDepth 10000 in
set_option maxHeartbeats 4000000 in
theorem r_Row_size {B : Nat} {SA : Nat → Nat} {d : Nat} (hd : 0 ≤ d) : ∀ (v0 : Nat) (μ : JMem) (r : Int32), g_Row_size v0 μ.1 = some r → jR B SA d m_Row_size 0 (lv_args 0 [.ref v0]) [] μ (some (.int r)) μ := by
  intro v0 μ r h
  exact r_Row_size_e hd (lv_args 0 _) _ _ _ (by simp [lv_args, jget, rv_cat, cat_int, cat_long, cat_double, cat_float, cat_ref]) h
/-! FilterBench$Section.mean(J)J -/
set_option maxRecDepth 10000 in
set_option maxHeartbeats 4000000 in
theorem r_Section_mean_27 {N B : Nat} {SA : Nat → Nat} {d : Nat} (hd : 4 ≤ d) : ∀ (n : Nat), ∀ (L : JLoc) (v0 : Nat) (v3 : Int64) (v5 : Int32) (μ : JMem) (r : Int64) (μ9 : JMem), jget L 0 = .ref v0 → jget L 3 = .long v3 → jget L 5 = .int v5 → g_Section_mean_27 N B n v0 v3 v5 μ = some (r, μ9) → jR B SA d m_Section_mean 27 L [] μ (some (.long r)) μ9 := by
  intro n
  induction n with
  | zero =>
    intro L v0 v3 v5 μ r μ9 hl0 hl3 hl5 h
    unfold g_Section_mean_27 at h
    cases h
  | succ n ih =>
    intro L v0 v3 v5 μ r μ9 hl0 hl3 hl5 h
    unfold g_Section_mean_27 at h
    refine jr_iload jf_90_27 hl5 ?_
    refine jr_aload_n jf_90_29 rfl hl0 ?_
    replace h := obd_of h; obtain ⟨x1, hx1, h⟩ := h
    refine jr_getA jf_90_30 hx1 ?_
    replace h := obd_of h; obtain ⟨a2, rfl, h⟩ := h
    replace h := jgd_of h; obtain ⟨hb3, h⟩ := h
    replace h := obd_of h; obtain ⟨x4, hx4, h⟩ := h
    refine jr_V6_0 jf_90_33 hb3 (by omega) (r_Row_size (by omega) _ _ _ hx4) (Nat.le_of_ble_eq_true rfl) jml_91 (Nat.le_of_ble_eq_true rfl) ?_
    replace h := ite_or h; rcases h with ⟨hc, h⟩ | ⟨hc, h⟩
    · refine jr_if2_ge_t jf_90_36 hc ?_
      refine jr_aload_n jf_90_70 rfl hl0 ?_
      refine jr_aload_n jf_90_71 rfl hl0 ?_
      refine jr_iconst jf_90_72 jc_i_0 ?_
      refine jr_aload_n jf_90_73 rfl hl0 ?_
      refine jr_lload_n jf_90_74 rfl hl3 ?_
      replace h := jgd_of h; obtain ⟨hb5, h⟩ := h
      replace h := jbd2_of h; obtain ⟨x6, μ7, hx6, h⟩ := h
      refine jr_V6_1 jf_90_75 hb5 (by omega) (r_Section_settled (by omega) _ _ _ _ _ hx6) (Nat.le_of_ble_eq_true rfl) jml_70 (Nat.le_of_ble_eq_true rfl) ?_
      replace h := jgd_of h; obtain ⟨hb8, h⟩ := h
      replace h := obd_of h; obtain ⟨x9, hx9, h⟩ := h
      refine jr_V6_2 jf_90_78 hb8 (by omega) (r_Section_times (by omega) _ _ _ _ _ hx9) (Nat.le_of_ble_eq_true rfl) jml_78 (Nat.le_of_ble_eq_true rfl) ?_
      replace h := jgd_of h; obtain ⟨hb10, h⟩ := h
      replace h := jbd2_of h; obtain ⟨x11, μ12, hx11, h⟩ := h
      refine jr_V6_1 jf_90_81 hb10 (by omega) (r_Section_settled (by omega) _ _ _ _ _ hx11) (Nat.le_of_ble_eq_true rfl) jml_70 (Nat.le_of_ble_eq_true rfl) ?_
      obtain ⟨rfl, rfl⟩ := Prod.mk.inj (Option.some.inj h)
      exact jr_retJ jf_90_84 jmt_90
    · refine jr_if2_ge_f jf_90_36 hc ?_
      refine jr_aload_n jf_90_39 rfl hl0 ?_
      replace h := obd_of h; obtain ⟨x13, hx13, h⟩ := h
      refine jr_getA jf_90_40 hx13 ?_
      refine jr_lload_n jf_90_43 rfl hl3 ?_
      refine jr_aload_n jf_90_44 rfl hl0 ?_
      replace h := obd_of h; obtain ⟨x14, hx14, h⟩ := h
      refine jr_getA jf_90_45 hx14 ?_
      refine jr_aload_n jf_90_48 rfl hl0 ?_
      replace h := obd_of h; obtain ⟨x15, hx15, h⟩ := h
      refine jr_getA jf_90_49 hx15 ?_
      refine jr_iload jf_90_52 hl5 ?_
      replace h := obd_of h; obtain ⟨a16, rfl, h⟩ := h
      replace h := jgd_of h; obtain ⟨hb17, h⟩ := h
      replace h := obd_of h; obtain ⟨x18, hx18, h⟩ := h
      refine jr_V6_1 jf_90_54 hb17 (by omega) (r_Row_at (by omega) _ _ _ _ hx18) (by simp only [jcats_cons, jcats_nil, cat_int, cat_long, cat_double, cat_float, cat_ref, rv_cat]; decide) jml_23 (Nat.le_of_ble_eq_true rfl) ?_
      replace h := obd_of h; obtain ⟨a19, rfl, h⟩ := h
      replace h := obd_of h; obtain ⟨x20, hx20, h⟩ := h
      rcases ite_or hx20 with ⟨hb, hx⟩ | ⟨hb0, hx⟩
      · obtain hx := Option.some.inj hx
        refine jr_V8a_1 jf_90_57 hb (by omega) (r_Real_term (by omega) _ _ _ _ hx) (by simp only [jcats_cons, jcats_nil, cat_int, cat_long, cat_double, cat_float, cat_ref, rv_cat]; decide) jml_63 (Nat.le_of_ble_eq_true rfl) ?_
        replace h := obd_of h; obtain ⟨a21, rfl, h⟩ := h
        replace h := obd_of h; obtain ⟨x22, hx22, h⟩ := h
        rcases ite_or hx22 with ⟨hb, hx⟩ | ⟨hb0, hx⟩
        · refine jr_V8a_2 jf_90_60 hb (by omega) (r_Real_plus (by omega) _ _ _ _ _ hx) (Nat.le_of_ble_eq_true rfl) jml_65 (Nat.le_of_ble_eq_true rfl) ?_
          refine jr_lstore_n jf_90_63 rfl jml_90 (by decide) ?_
          refine jr_iinc jf_90_64 jc_i_1 jml_90 (by decide) (jg2_ne rfl hl5) ?_
          refine jr_goto jf_90_67 ?_
          exact ih _ _ _ _ _ _ _ (jg1_ne rfl (jg2_ne rfl hl0)) (jg1_ne rfl jg2_same) jg1_same h
        · obtain ⟨hb, hx⟩ := jgd_of hx
          obtain hx := Option.some.inj hx
          refine jr_V8b_2 jf_90_60 hb0 hb (by omega) (r_Shorts_plus (by omega) _ _ _ _ _ hx) (Nat.le_of_ble_eq_true rfl) jml_69 (Nat.le_of_ble_eq_true rfl) ?_
          refine jr_lstore_n jf_90_63 rfl jml_90 (by decide) ?_
          refine jr_iinc jf_90_64 jc_i_1 jml_90 (by decide) (jg2_ne rfl hl5) ?_
          refine jr_goto jf_90_67 ?_
          exact ih _ _ _ _ _ _ _ (jg1_ne rfl (jg2_ne rfl hl0)) (jg1_ne rfl jg2_same) jg1_same h
      · obtain ⟨hb, hx⟩ := jgd_of hx
        obtain hx := Option.some.inj hx
        refine jr_V8b_1 jf_90_57 hb0 hb (by omega) (r_Shorts_term (by omega) _ _ _ _ hx) (by simp only [jcats_cons, jcats_nil, cat_int, cat_long, cat_double, cat_float, cat_ref, rv_cat]; decide) jml_64 (Nat.le_of_ble_eq_true rfl) ?_
        replace h := obd_of h; obtain ⟨a21, rfl, h⟩ := h
        replace h := obd_of h; obtain ⟨x22, hx22, h⟩ := h
        rcases ite_or hx22 with ⟨hb, hx⟩ | ⟨hb0, hx⟩
        · refine jr_V8a_2 jf_90_60 hb (by omega) (r_Real_plus (by omega) _ _ _ _ _ hx) (Nat.le_of_ble_eq_true rfl) jml_65 (Nat.le_of_ble_eq_true rfl) ?_
          refine jr_lstore_n jf_90_63 rfl jml_90 (by decide) ?_
          refine jr_iinc jf_90_64 jc_i_1 jml_90 (by decide) (jg2_ne rfl hl5) ?_
          refine jr_goto jf_90_67 ?_
          exact ih _ _ _ _ _ _ _ (jg1_ne rfl (jg2_ne rfl hl0)) (jg1_ne rfl jg2_same) jg1_same h
        · obtain ⟨hb, hx⟩ := jgd_of hx
          obtain hx := Option.some.inj hx
          refine jr_V8b_2 jf_90_60 hb0 hb (by omega) (r_Shorts_plus (by omega) _ _ _ _ _ hx) (Nat.le_of_ble_eq_true rfl) jml_69 (Nat.le_of_ble_eq_true rfl) ?_
          refine jr_lstore_n jf_90_63 rfl jml_90 (by decide) ?_
          refine jr_iinc jf_90_64 jc_i_1 jml_90 (by decide) (jg2_ne rfl hl5) ?_
          refine jr_goto jf_90_67 ?_
          exact ih _ _ _ _ _ _ _ (jg1_ne rfl (jg2_ne rfl hl0)) (jg1_ne rfl jg2_same) jg1_same h
set_option maxRecDepth 10000 in
set_option maxHeartbeats 4000000 in
theorem r_Section_mean_e {N B : Nat} {SA : Nat → Nat} {d : Nat} (hd : 4 ≤ d) : ∀ (L : JLoc) (v0 : Nat) (v1 : Int64) (μ : JMem) (r : Int64) (μ9 : JMem), jget L 0 = .ref v0 → jget L 1 = .long v1 → g_Section_mean N B v0 v1 μ = some (r, μ9) → jR B SA d m_Section_mean 0 L [] μ (some (.long r)) μ9 := by
  intro L v0 v1 μ r μ9 hl0 hl1 h
  unfold g_Section_mean at h
  refine jr_aload_n jf_90_0 rfl hl0 ?_
  replace h := obd_of h; obtain ⟨x1, hx1, h⟩ := h
  refine jr_getA jf_90_1 hx1 ?_
  refine jr_lload_n jf_90_4 rfl hl1 ?_
  replace h := obd_of h; obtain ⟨a2, rfl, h⟩ := h
  replace h := jgd_of h; obtain ⟨hb3, h⟩ := h
  replace h := obd_of h; obtain ⟨μ4, hμ4, h⟩ := h
  refine jr_V6v_1 jf_90_5 hb3 (by omega) (r_Row_push (by omega) _ _ _ _ hμ4) (Nat.le_of_ble_eq_true rfl) jml_89 (Nat.le_of_ble_eq_true rfl) ?_
  refine jr_aload_n jf_90_8 rfl hl0 ?_
  replace h := obd_of h; obtain ⟨x5, hx5, h⟩ := h
  refine jr_getA jf_90_9 hx5 ?_
  refine jr_aload_n jf_90_12 rfl hl0 ?_
  replace h := obd_of h; obtain ⟨x6, hx6, h⟩ := h
  refine jr_getA jf_90_13 hx6 ?_
  refine jr_iconst jf_90_16 jc_i_0 ?_
  replace h := obd_of h; obtain ⟨a7, rfl, h⟩ := h
  replace h := jgd_of h; obtain ⟨hb8, h⟩ := h
  replace h := obd_of h; obtain ⟨x9, hx9, h⟩ := h
  refine jr_V6_1 jf_90_17 hb8 (by omega) (r_Row_at (by omega) _ _ _ _ hx9) (by simp only [jcats_cons, jcats_nil, cat_int, cat_long, cat_double, cat_float, cat_ref, rv_cat]; decide) jml_23 (Nat.le_of_ble_eq_true rfl) ?_
  replace h := obd_of h; obtain ⟨a10, rfl, h⟩ := h
  replace h := obd_of h; obtain ⟨x11, hx11, h⟩ := h
  rcases ite_or hx11 with ⟨hb, hx⟩ | ⟨hb0, hx⟩
  · obtain hx := Option.some.inj hx
    refine jr_V8a_1 jf_90_20 hb (by omega) (r_Real_term (by omega) _ _ _ _ hx) (Nat.le_of_ble_eq_true rfl) jml_63 (Nat.le_of_ble_eq_true rfl) ?_
    refine jr_lstore_n jf_90_23 rfl jml_90 (by decide) ?_
    refine jr_iconst jf_90_24 jc_i_1 ?_
    refine jr_istore jf_90_25 jml_90 (by decide) ?_
    exact r_Section_mean_27 hd _ _ _ _ _ _ _ _ (jg1_ne rfl (jg2_ne rfl hl0)) (jg1_ne rfl jg2_same) jg1_same h
  · obtain ⟨hb, hx⟩ := jgd_of hx
    obtain hx := Option.some.inj hx
    refine jr_V8b_1 jf_90_20 hb0 hb (by omega) (r_Shorts_term (by omega) _ _ _ _ hx) (Nat.le_of_ble_eq_true rfl) jml_64 (Nat.le_of_ble_eq_true rfl) ?_
    refine jr_lstore_n jf_90_23 rfl jml_90 (by decide) ?_
    refine jr_iconst jf_90_24 jc_i_1 ?_
    refine jr_istore jf_90_25 jml_90 (by decide) ?_
    exact r_Section_mean_27 hd _ _ _ _ _ _ _ _ (jg1_ne rfl (jg2_ne rfl hl0)) (jg1_ne rfl jg2_same) jg1_same h
set_option maxRecDepth 10000 in
set_option maxHeartbeats 4000000 in
theorem r_Section_mean {N B : Nat} {SA : Nat → Nat} {d : Nat} (hd : 4 ≤ d) : ∀ (v0 : Nat) (v1 : Int64) (μ : JMem) (r : Int64) (μ9 : JMem), g_Section_mean N B v0 v1 μ = some (r, μ9) → jR B SA d m_Section_mean 0 (lv_args 0 [.ref v0, .long v1]) [] μ (some (.long r)) μ9 := by
  intro v0 v1 μ r μ9 h
  exact r_Section_mean_e hd (lv_args 0 _) _ _ _ _ _ (by simp [lv_args, jget, rv_cat, cat_int, cat_long, cat_double, cat_float, cat_ref]) (by simp [lv_args, jget, rv_cat, cat_int, cat_long, cat_double, cat_float, cat_ref]) h
/-! FilterBench$Section.pass(J)J -/
set_option maxRecDepth 10000 in
set_option maxHeartbeats 4000000 in
theorem r_Section_pass_e {B : Nat} {SA : Nat → Nat} {d : Nat} (hd : 4 ≤ d) : ∀ (L : JLoc) (v0 : Nat) (v1 : Int64) (μ : JMem) (r : Int64) (μ9 : JMem), jget L 0 = .ref v0 → jget L 1 = .long v1 → g_Section_pass B v0 v1 μ = some (r, μ9) → jR B SA d m_Section_pass 0 L [] μ (some (.long r)) μ9 := by
  intro L v0 v1 μ r μ9 hl0 hl1 h
  unfold g_Section_pass at h
  refine jr_aload_n jf_87_0 rfl hl0 ?_
  replace h := obd_of h; obtain ⟨x1, hx1, h⟩ := h
  refine jr_getA jf_87_1 hx1 ?_
  refine jr_iconst jf_87_4 jc_i_0 ?_
  replace h := obd_of h; obtain ⟨a2, rfl, h⟩ := h
  replace h := jgd_of h; obtain ⟨hb3, h⟩ := h
  replace h := obd_of h; obtain ⟨x4, hx4, h⟩ := h
  refine jr_V6_1 jf_87_5 hb3 (by omega) (r_Row_at (by omega) _ _ _ _ hx4) (Nat.le_of_ble_eq_true rfl) jml_23 (Nat.le_of_ble_eq_true rfl) ?_
  refine jr_lstore_n jf_87_8 rfl jml_87 (by decide) ?_
  refine jr_aload_n jf_87_9 rfl (jg2_ne rfl hl0) ?_
  refine jr_aload_n jf_87_10 rfl (jg2_ne rfl hl0) ?_
  replace h := obd_of h; obtain ⟨x5, hx5, h⟩ := h
  refine jr_getA jf_87_11 hx5 ?_
  refine jr_aload_n jf_87_14 rfl (jg2_ne rfl hl0) ?_
  replace h := obd_of h; obtain ⟨x6, hx6, h⟩ := h
  refine jr_getA jf_87_15 hx6 ?_
  refine jr_lload_n jf_87_18 rfl (jg2_ne rfl hl1) ?_
  replace h := obd_of h; obtain ⟨a7, rfl, h⟩ := h
  replace h := obd_of h; obtain ⟨x8, hx8, h⟩ := h
  rcases ite_or hx8 with ⟨hb, hx⟩ | ⟨hb0, hx⟩
  · obtain hx := Option.some.inj hx
    refine jr_V8a_1 jf_87_19 hb (by omega) (r_Real_term (by omega) _ _ _ _ hx) (by simp only [jcats_cons, jcats_nil, cat_int, cat_long, cat_double, cat_float, cat_ref, rv_cat]; decide) jml_63 (Nat.le_of_ble_eq_true rfl) ?_
    refine jr_aload_n jf_87_22 rfl (jg2_ne rfl hl0) ?_
    refine jr_iconst jf_87_23 jc_i_0 ?_
    refine jr_lload_n jf_87_24 rfl jg2_same ?_
    replace h := jgd_of h; obtain ⟨hb9, h⟩ := h
    replace h := obd_of h; obtain ⟨x10, hx10, h⟩ := h
    refine jr_V6_2 jf_87_25 hb9 (by omega) (r_Section_lessTimes (by omega) _ _ _ _ _ hx10) (by simp only [jcats_cons, jcats_nil, cat_int, cat_long, cat_double, cat_float, cat_ref, rv_cat]; decide) jml_81 (Nat.le_of_ble_eq_true rfl) ?_
    replace h := obd_of h; obtain ⟨a11, rfl, h⟩ := h
    replace h := obd_of h; obtain ⟨x12, hx12, h⟩ := h
    rcases ite_or hx12 with ⟨hb, hx⟩ | ⟨hb0, hx⟩
    · refine jr_V8a_2 jf_87_28 hb (by omega) (r_Real_plus (by omega) _ _ _ _ _ hx) (Nat.le_of_ble_eq_true rfl) jml_65 (Nat.le_of_ble_eq_true rfl) ?_
      replace h := jgd_of h; obtain ⟨hb13, h⟩ := h
      replace h := jbd2_of h; obtain ⟨x14, μ15, hx14, h⟩ := h
      refine jr_V6_1 jf_87_31 hb13 (by omega) (r_Section_settled (by omega) _ _ _ _ _ hx14) (Nat.le_of_ble_eq_true rfl) jml_70 (Nat.le_of_ble_eq_true rfl) ?_
      refine jr_lstore jf_87_34 jml_87 (by decide) ?_
      refine jr_aload_n jf_87_36 rfl (jg2_ne rfl (jg2_ne rfl hl0)) ?_
      refine jr_aload_n jf_87_37 rfl (jg2_ne rfl (jg2_ne rfl hl0)) ?_
      replace h := obd_of h; obtain ⟨x16, hx16, h⟩ := h
      refine jr_getA jf_87_38 hx16 ?_
      refine jr_aload_n jf_87_41 rfl (jg2_ne rfl (jg2_ne rfl hl0)) ?_
      refine jr_iconst jf_87_42 jc_i_0 ?_
      refine jr_lload jf_87_43 jg2_same ?_
      replace h := jgd_of h; obtain ⟨hb17, h⟩ := h
      replace h := obd_of h; obtain ⟨x18, hx18, h⟩ := h
      refine jr_V6_2 jf_87_45 hb17 (by omega) (r_Section_times (by omega) _ _ _ _ _ hx18) (by simp only [jcats_cons, jcats_nil, cat_int, cat_long, cat_double, cat_float, cat_ref, rv_cat]; decide) jml_78 (Nat.le_of_ble_eq_true rfl) ?_
      refine jr_aload_n jf_87_48 rfl (jg2_ne rfl (jg2_ne rfl hl0)) ?_
      replace h := obd_of h; obtain ⟨x19, hx19, h⟩ := h
      refine jr_getA jf_87_49 hx19 ?_
      refine jr_lload_n jf_87_52 rfl (jg2_ne rfl jg2_same) ?_
      replace h := obd_of h; obtain ⟨a20, rfl, h⟩ := h
      replace h := obd_of h; obtain ⟨x21, hx21, h⟩ := h
      rcases ite_or hx21 with ⟨hb, hx⟩ | ⟨hb0, hx⟩
      · obtain hx := Option.some.inj hx
        refine jr_V8a_1 jf_87_53 hb (by omega) (r_Real_term (by omega) _ _ _ _ hx) (by simp only [jcats_cons, jcats_nil, cat_int, cat_long, cat_double, cat_float, cat_ref, rv_cat]; decide) jml_63 (Nat.le_of_ble_eq_true rfl) ?_
        replace h := obd_of h; obtain ⟨a22, rfl, h⟩ := h
        replace h := obd_of h; obtain ⟨x23, hx23, h⟩ := h
        rcases ite_or hx23 with ⟨hb, hx⟩ | ⟨hb0, hx⟩
        · refine jr_V8a_2 jf_87_56 hb (by omega) (r_Real_plus (by omega) _ _ _ _ _ hx) (Nat.le_of_ble_eq_true rfl) jml_65 (Nat.le_of_ble_eq_true rfl) ?_
          replace h := jgd_of h; obtain ⟨hb24, h⟩ := h
          replace h := jbd2_of h; obtain ⟨x25, μ26, hx25, h⟩ := h
          refine jr_V6_1 jf_87_59 hb24 (by omega) (r_Section_settled (by omega) _ _ _ _ _ hx25) (Nat.le_of_ble_eq_true rfl) jml_70 (Nat.le_of_ble_eq_true rfl) ?_
          refine jr_lstore jf_87_62 jml_87 (by decide) ?_
          refine jr_aload_n jf_87_64 rfl (jg2_ne rfl (jg2_ne rfl (jg2_ne rfl hl0))) ?_
          replace h := obd_of h; obtain ⟨x27, hx27, h⟩ := h
          refine jr_getA jf_87_65 hx27 ?_
          refine jr_iconst jf_87_68 jc_i_0 ?_
          refine jr_lload jf_87_69 (jg2_ne rfl jg2_same) ?_
          replace h := obd_of h; obtain ⟨a28, rfl, h⟩ := h
          replace h := jgd_of h; obtain ⟨hb29, h⟩ := h
          replace h := obd_of h; obtain ⟨μ30, hμ30, h⟩ := h
          refine jr_V6v_2 jf_87_71 hb29 (by omega) (r_Row_put (by omega) _ _ _ _ _ hμ30) (Nat.le_of_ble_eq_true rfl) jml_50 (Nat.le_of_ble_eq_true rfl) ?_
          refine jr_lload jf_87_74 jg2_same ?_
          obtain ⟨rfl, rfl⟩ := Prod.mk.inj (Option.some.inj h)
          exact jr_retJ jf_87_76 jmt_87
        · obtain ⟨hb, hx⟩ := jgd_of hx
          obtain hx := Option.some.inj hx
          refine jr_V8b_2 jf_87_56 hb0 hb (by omega) (r_Shorts_plus (by omega) _ _ _ _ _ hx) (Nat.le_of_ble_eq_true rfl) jml_69 (Nat.le_of_ble_eq_true rfl) ?_
          replace h := jgd_of h; obtain ⟨hb24, h⟩ := h
          replace h := jbd2_of h; obtain ⟨x25, μ26, hx25, h⟩ := h
          refine jr_V6_1 jf_87_59 hb24 (by omega) (r_Section_settled (by omega) _ _ _ _ _ hx25) (Nat.le_of_ble_eq_true rfl) jml_70 (Nat.le_of_ble_eq_true rfl) ?_
          refine jr_lstore jf_87_62 jml_87 (by decide) ?_
          refine jr_aload_n jf_87_64 rfl (jg2_ne rfl (jg2_ne rfl (jg2_ne rfl hl0))) ?_
          replace h := obd_of h; obtain ⟨x27, hx27, h⟩ := h
          refine jr_getA jf_87_65 hx27 ?_
          refine jr_iconst jf_87_68 jc_i_0 ?_
          refine jr_lload jf_87_69 (jg2_ne rfl jg2_same) ?_
          replace h := obd_of h; obtain ⟨a28, rfl, h⟩ := h
          replace h := jgd_of h; obtain ⟨hb29, h⟩ := h
          replace h := obd_of h; obtain ⟨μ30, hμ30, h⟩ := h
          refine jr_V6v_2 jf_87_71 hb29 (by omega) (r_Row_put (by omega) _ _ _ _ _ hμ30) (Nat.le_of_ble_eq_true rfl) jml_50 (Nat.le_of_ble_eq_true rfl) ?_
          refine jr_lload jf_87_74 jg2_same ?_
          obtain ⟨rfl, rfl⟩ := Prod.mk.inj (Option.some.inj h)
          exact jr_retJ jf_87_76 jmt_87
      · obtain ⟨hb, hx⟩ := jgd_of hx
        obtain hx := Option.some.inj hx
        refine jr_V8b_1 jf_87_53 hb0 hb (by omega) (r_Shorts_term (by omega) _ _ _ _ hx) (by simp only [jcats_cons, jcats_nil, cat_int, cat_long, cat_double, cat_float, cat_ref, rv_cat]; decide) jml_64 (Nat.le_of_ble_eq_true rfl) ?_
        replace h := obd_of h; obtain ⟨a22, rfl, h⟩ := h
        replace h := obd_of h; obtain ⟨x23, hx23, h⟩ := h
        rcases ite_or hx23 with ⟨hb, hx⟩ | ⟨hb0, hx⟩
        · refine jr_V8a_2 jf_87_56 hb (by omega) (r_Real_plus (by omega) _ _ _ _ _ hx) (Nat.le_of_ble_eq_true rfl) jml_65 (Nat.le_of_ble_eq_true rfl) ?_
          replace h := jgd_of h; obtain ⟨hb24, h⟩ := h
          replace h := jbd2_of h; obtain ⟨x25, μ26, hx25, h⟩ := h
          refine jr_V6_1 jf_87_59 hb24 (by omega) (r_Section_settled (by omega) _ _ _ _ _ hx25) (Nat.le_of_ble_eq_true rfl) jml_70 (Nat.le_of_ble_eq_true rfl) ?_
          refine jr_lstore jf_87_62 jml_87 (by decide) ?_
          refine jr_aload_n jf_87_64 rfl (jg2_ne rfl (jg2_ne rfl (jg2_ne rfl hl0))) ?_
          replace h := obd_of h; obtain ⟨x27, hx27, h⟩ := h
          refine jr_getA jf_87_65 hx27 ?_
          refine jr_iconst jf_87_68 jc_i_0 ?_
          refine jr_lload jf_87_69 (jg2_ne rfl jg2_same) ?_
          replace h := obd_of h; obtain ⟨a28, rfl, h⟩ := h
          replace h := jgd_of h; obtain ⟨hb29, h⟩ := h
          replace h := obd_of h; obtain ⟨μ30, hμ30, h⟩ := h
          refine jr_V6v_2 jf_87_71 hb29 (by omega) (r_Row_put (by omega) _ _ _ _ _ hμ30) (Nat.le_of_ble_eq_true rfl) jml_50 (Nat.le_of_ble_eq_true rfl) ?_
          refine jr_lload jf_87_74 jg2_same ?_
          obtain ⟨rfl, rfl⟩ := Prod.mk.inj (Option.some.inj h)
          exact jr_retJ jf_87_76 jmt_87
        · obtain ⟨hb, hx⟩ := jgd_of hx
          obtain hx := Option.some.inj hx
          refine jr_V8b_2 jf_87_56 hb0 hb (by omega) (r_Shorts_plus (by omega) _ _ _ _ _ hx) (Nat.le_of_ble_eq_true rfl) jml_69 (Nat.le_of_ble_eq_true rfl) ?_
          replace h := jgd_of h; obtain ⟨hb24, h⟩ := h
          replace h := jbd2_of h; obtain ⟨x25, μ26, hx25, h⟩ := h
          refine jr_V6_1 jf_87_59 hb24 (by omega) (r_Section_settled (by omega) _ _ _ _ _ hx25) (Nat.le_of_ble_eq_true rfl) jml_70 (Nat.le_of_ble_eq_true rfl) ?_
          refine jr_lstore jf_87_62 jml_87 (by decide) ?_
          refine jr_aload_n jf_87_64 rfl (jg2_ne rfl (jg2_ne rfl (jg2_ne rfl hl0))) ?_
          replace h := obd_of h; obtain ⟨x27, hx27, h⟩ := h
          refine jr_getA jf_87_65 hx27 ?_
          refine jr_iconst jf_87_68 jc_i_0 ?_
          refine jr_lload jf_87_69 (jg2_ne rfl jg2_same) ?_
          replace h := obd_of h; obtain ⟨a28, rfl, h⟩ := h
          replace h := jgd_of h; obtain ⟨hb29, h⟩ := h
          replace h := obd_of h; obtain ⟨μ30, hμ30, h⟩ := h
          refine jr_V6v_2 jf_87_71 hb29 (by omega) (r_Row_put (by omega) _ _ _ _ _ hμ30) (Nat.le_of_ble_eq_true rfl) jml_50 (Nat.le_of_ble_eq_true rfl) ?_
          refine jr_lload jf_87_74 jg2_same ?_
          obtain ⟨rfl, rfl⟩ := Prod.mk.inj (Option.some.inj h)
          exact jr_retJ jf_87_76 jmt_87
    · obtain ⟨hb, hx⟩ := jgd_of hx
      obtain hx := Option.some.inj hx
      refine jr_V8b_2 jf_87_28 hb0 hb (by omega) (r_Shorts_plus (by omega) _ _ _ _ _ hx) (Nat.le_of_ble_eq_true rfl) jml_69 (Nat.le_of_ble_eq_true rfl) ?_
      replace h := jgd_of h; obtain ⟨hb13, h⟩ := h
      replace h := jbd2_of h; obtain ⟨x14, μ15, hx14, h⟩ := h
      refine jr_V6_1 jf_87_31 hb13 (by omega) (r_Section_settled (by omega) _ _ _ _ _ hx14) (Nat.le_of_ble_eq_true rfl) jml_70 (Nat.le_of_ble_eq_true rfl) ?_
      refine jr_lstore jf_87_34 jml_87 (by decide) ?_
      refine jr_aload_n jf_87_36 rfl (jg2_ne rfl (jg2_ne rfl hl0)) ?_
      refine jr_aload_n jf_87_37 rfl (jg2_ne rfl (jg2_ne rfl hl0)) ?_
      replace h := obd_of h; obtain ⟨x16, hx16, h⟩ := h
      refine jr_getA jf_87_38 hx16 ?_
      refine jr_aload_n jf_87_41 rfl (jg2_ne rfl (jg2_ne rfl hl0)) ?_
      refine jr_iconst jf_87_42 jc_i_0 ?_
      refine jr_lload jf_87_43 jg2_same ?_
      replace h := jgd_of h; obtain ⟨hb17, h⟩ := h
      replace h := obd_of h; obtain ⟨x18, hx18, h⟩ := h
      refine jr_V6_2 jf_87_45 hb17 (by omega) (r_Section_times (by omega) _ _ _ _ _ hx18) (by simp only [jcats_cons, jcats_nil, cat_int, cat_long, cat_double, cat_float, cat_ref, rv_cat]; decide) jml_78 (Nat.le_of_ble_eq_true rfl) ?_
      refine jr_aload_n jf_87_48 rfl (jg2_ne rfl (jg2_ne rfl hl0)) ?_
      replace h := obd_of h; obtain ⟨x19, hx19, h⟩ := h
      refine jr_getA jf_87_49 hx19 ?_
      refine jr_lload_n jf_87_52 rfl (jg2_ne rfl jg2_same) ?_
      replace h := obd_of h; obtain ⟨a20, rfl, h⟩ := h
      replace h := obd_of h; obtain ⟨x21, hx21, h⟩ := h
      rcases ite_or hx21 with ⟨hb, hx⟩ | ⟨hb0, hx⟩
      · obtain hx := Option.some.inj hx
        refine jr_V8a_1 jf_87_53 hb (by omega) (r_Real_term (by omega) _ _ _ _ hx) (by simp only [jcats_cons, jcats_nil, cat_int, cat_long, cat_double, cat_float, cat_ref, rv_cat]; decide) jml_63 (Nat.le_of_ble_eq_true rfl) ?_
        replace h := obd_of h; obtain ⟨a22, rfl, h⟩ := h
        replace h := obd_of h; obtain ⟨x23, hx23, h⟩ := h
        rcases ite_or hx23 with ⟨hb, hx⟩ | ⟨hb0, hx⟩
        · refine jr_V8a_2 jf_87_56 hb (by omega) (r_Real_plus (by omega) _ _ _ _ _ hx) (Nat.le_of_ble_eq_true rfl) jml_65 (Nat.le_of_ble_eq_true rfl) ?_
          replace h := jgd_of h; obtain ⟨hb24, h⟩ := h
          replace h := jbd2_of h; obtain ⟨x25, μ26, hx25, h⟩ := h
          refine jr_V6_1 jf_87_59 hb24 (by omega) (r_Section_settled (by omega) _ _ _ _ _ hx25) (Nat.le_of_ble_eq_true rfl) jml_70 (Nat.le_of_ble_eq_true rfl) ?_
          refine jr_lstore jf_87_62 jml_87 (by decide) ?_
          refine jr_aload_n jf_87_64 rfl (jg2_ne rfl (jg2_ne rfl (jg2_ne rfl hl0))) ?_
          replace h := obd_of h; obtain ⟨x27, hx27, h⟩ := h
          refine jr_getA jf_87_65 hx27 ?_
          refine jr_iconst jf_87_68 jc_i_0 ?_
          refine jr_lload jf_87_69 (jg2_ne rfl jg2_same) ?_
          replace h := obd_of h; obtain ⟨a28, rfl, h⟩ := h
          replace h := jgd_of h; obtain ⟨hb29, h⟩ := h
          replace h := obd_of h; obtain ⟨μ30, hμ30, h⟩ := h
          refine jr_V6v_2 jf_87_71 hb29 (by omega) (r_Row_put (by omega) _ _ _ _ _ hμ30) (Nat.le_of_ble_eq_true rfl) jml_50 (Nat.le_of_ble_eq_true rfl) ?_
          refine jr_lload jf_87_74 jg2_same ?_
          obtain ⟨rfl, rfl⟩ := Prod.mk.inj (Option.some.inj h)
          exact jr_retJ jf_87_76 jmt_87
        · obtain ⟨hb, hx⟩ := jgd_of hx
          obtain hx := Option.some.inj hx
          refine jr_V8b_2 jf_87_56 hb0 hb (by omega) (r_Shorts_plus (by omega) _ _ _ _ _ hx) (Nat.le_of_ble_eq_true rfl) jml_69 (Nat.le_of_ble_eq_true rfl) ?_
          replace h := jgd_of h; obtain ⟨hb24, h⟩ := h
          replace h := jbd2_of h; obtain ⟨x25, μ26, hx25, h⟩ := h
          refine jr_V6_1 jf_87_59 hb24 (by omega) (r_Section_settled (by omega) _ _ _ _ _ hx25) (Nat.le_of_ble_eq_true rfl) jml_70 (Nat.le_of_ble_eq_true rfl) ?_
          refine jr_lstore jf_87_62 jml_87 (by decide) ?_
          refine jr_aload_n jf_87_64 rfl (jg2_ne rfl (jg2_ne rfl (jg2_ne rfl hl0))) ?_
          replace h := obd_of h; obtain ⟨x27, hx27, h⟩ := h
          refine jr_getA jf_87_65 hx27 ?_
          refine jr_iconst jf_87_68 jc_i_0 ?_
          refine jr_lload jf_87_69 (jg2_ne rfl jg2_same) ?_
          replace h := obd_of h; obtain ⟨a28, rfl, h⟩ := h
          replace h := jgd_of h; obtain ⟨hb29, h⟩ := h
          replace h := obd_of h; obtain ⟨μ30, hμ30, h⟩ := h
          refine jr_V6v_2 jf_87_71 hb29 (by omega) (r_Row_put (by omega) _ _ _ _ _ hμ30) (Nat.le_of_ble_eq_true rfl) jml_50 (Nat.le_of_ble_eq_true rfl) ?_
          refine jr_lload jf_87_74 jg2_same ?_
          obtain ⟨rfl, rfl⟩ := Prod.mk.inj (Option.some.inj h)
          exact jr_retJ jf_87_76 jmt_87
      · obtain ⟨hb, hx⟩ := jgd_of hx
        obtain hx := Option.some.inj hx
        refine jr_V8b_1 jf_87_53 hb0 hb (by omega) (r_Shorts_term (by omega) _ _ _ _ hx) (by simp only [jcats_cons, jcats_nil, cat_int, cat_long, cat_double, cat_float, cat_ref, rv_cat]; decide) jml_64 (Nat.le_of_ble_eq_true rfl) ?_
        replace h := obd_of h; obtain ⟨a22, rfl, h⟩ := h
        replace h := obd_of h; obtain ⟨x23, hx23, h⟩ := h
        rcases ite_or hx23 with ⟨hb, hx⟩ | ⟨hb0, hx⟩
        · refine jr_V8a_2 jf_87_56 hb (by omega) (r_Real_plus (by omega) _ _ _ _ _ hx) (Nat.le_of_ble_eq_true rfl) jml_65 (Nat.le_of_ble_eq_true rfl) ?_
          replace h := jgd_of h; obtain ⟨hb24, h⟩ := h
          replace h := jbd2_of h; obtain ⟨x25, μ26, hx25, h⟩ := h
          refine jr_V6_1 jf_87_59 hb24 (by omega) (r_Section_settled (by omega) _ _ _ _ _ hx25) (Nat.le_of_ble_eq_true rfl) jml_70 (Nat.le_of_ble_eq_true rfl) ?_
          refine jr_lstore jf_87_62 jml_87 (by decide) ?_
          refine jr_aload_n jf_87_64 rfl (jg2_ne rfl (jg2_ne rfl (jg2_ne rfl hl0))) ?_
          replace h := obd_of h; obtain ⟨x27, hx27, h⟩ := h
          refine jr_getA jf_87_65 hx27 ?_
          refine jr_iconst jf_87_68 jc_i_0 ?_
          refine jr_lload jf_87_69 (jg2_ne rfl jg2_same) ?_
          replace h := obd_of h; obtain ⟨a28, rfl, h⟩ := h
          replace h := jgd_of h; obtain ⟨hb29, h⟩ := h
          replace h := obd_of h; obtain ⟨μ30, hμ30, h⟩ := h
          refine jr_V6v_2 jf_87_71 hb29 (by omega) (r_Row_put (by omega) _ _ _ _ _ hμ30) (Nat.le_of_ble_eq_true rfl) jml_50 (Nat.le_of_ble_eq_true rfl) ?_
          refine jr_lload jf_87_74 jg2_same ?_
          obtain ⟨rfl, rfl⟩ := Prod.mk.inj (Option.some.inj h)
          exact jr_retJ jf_87_76 jmt_87
        · obtain ⟨hb, hx⟩ := jgd_of hx
          obtain hx := Option.some.inj hx
          refine jr_V8b_2 jf_87_56 hb0 hb (by omega) (r_Shorts_plus (by omega) _ _ _ _ _ hx) (Nat.le_of_ble_eq_true rfl) jml_69 (Nat.le_of_ble_eq_true rfl) ?_
          replace h := jgd_of h; obtain ⟨hb24, h⟩ := h
          replace h := jbd2_of h; obtain ⟨x25, μ26, hx25, h⟩ := h
          refine jr_V6_1 jf_87_59 hb24 (by omega) (r_Section_settled (by omega) _ _ _ _ _ hx25) (Nat.le_of_ble_eq_true rfl) jml_70 (Nat.le_of_ble_eq_true rfl) ?_
          refine jr_lstore jf_87_62 jml_87 (by decide) ?_
          refine jr_aload_n jf_87_64 rfl (jg2_ne rfl (jg2_ne rfl (jg2_ne rfl hl0))) ?_
          replace h := obd_of h; obtain ⟨x27, hx27, h⟩ := h
          refine jr_getA jf_87_65 hx27 ?_
          refine jr_iconst jf_87_68 jc_i_0 ?_
          refine jr_lload jf_87_69 (jg2_ne rfl jg2_same) ?_
          replace h := obd_of h; obtain ⟨a28, rfl, h⟩ := h
          replace h := jgd_of h; obtain ⟨hb29, h⟩ := h
          replace h := obd_of h; obtain ⟨μ30, hμ30, h⟩ := h
          refine jr_V6v_2 jf_87_71 hb29 (by omega) (r_Row_put (by omega) _ _ _ _ _ hμ30) (Nat.le_of_ble_eq_true rfl) jml_50 (Nat.le_of_ble_eq_true rfl) ?_
          refine jr_lload jf_87_74 jg2_same ?_
          obtain ⟨rfl, rfl⟩ := Prod.mk.inj (Option.some.inj h)
          exact jr_retJ jf_87_76 jmt_87
  · obtain ⟨hb, hx⟩ := jgd_of hx
    obtain hx := Option.some.inj hx
    refine jr_V8b_1 jf_87_19 hb0 hb (by omega) (r_Shorts_term (by omega) _ _ _ _ hx) (by simp only [jcats_cons, jcats_nil, cat_int, cat_long, cat_double, cat_float, cat_ref, rv_cat]; decide) jml_64 (Nat.le_of_ble_eq_true rfl) ?_
    refine jr_aload_n jf_87_22 rfl (jg2_ne rfl hl0) ?_
    refine jr_iconst jf_87_23 jc_i_0 ?_
    refine jr_lload_n jf_87_24 rfl jg2_same ?_
    replace h := jgd_of h; obtain ⟨hb9, h⟩ := h
    replace h := obd_of h; obtain ⟨x10, hx10, h⟩ := h
    refine jr_V6_2 jf_87_25 hb9 (by omega) (r_Section_lessTimes (by omega) _ _ _ _ _ hx10) (by simp only [jcats_cons, jcats_nil, cat_int, cat_long, cat_double, cat_float, cat_ref, rv_cat]; decide) jml_81 (Nat.le_of_ble_eq_true rfl) ?_
    replace h := obd_of h; obtain ⟨a11, rfl, h⟩ := h
    replace h := obd_of h; obtain ⟨x12, hx12, h⟩ := h
    rcases ite_or hx12 with ⟨hb, hx⟩ | ⟨hb0, hx⟩
    · refine jr_V8a_2 jf_87_28 hb (by omega) (r_Real_plus (by omega) _ _ _ _ _ hx) (Nat.le_of_ble_eq_true rfl) jml_65 (Nat.le_of_ble_eq_true rfl) ?_
      replace h := jgd_of h; obtain ⟨hb13, h⟩ := h
      replace h := jbd2_of h; obtain ⟨x14, μ15, hx14, h⟩ := h
      refine jr_V6_1 jf_87_31 hb13 (by omega) (r_Section_settled (by omega) _ _ _ _ _ hx14) (Nat.le_of_ble_eq_true rfl) jml_70 (Nat.le_of_ble_eq_true rfl) ?_
      refine jr_lstore jf_87_34 jml_87 (by decide) ?_
      refine jr_aload_n jf_87_36 rfl (jg2_ne rfl (jg2_ne rfl hl0)) ?_
      refine jr_aload_n jf_87_37 rfl (jg2_ne rfl (jg2_ne rfl hl0)) ?_
      replace h := obd_of h; obtain ⟨x16, hx16, h⟩ := h
      refine jr_getA jf_87_38 hx16 ?_
      refine jr_aload_n jf_87_41 rfl (jg2_ne rfl (jg2_ne rfl hl0)) ?_
      refine jr_iconst jf_87_42 jc_i_0 ?_
      refine jr_lload jf_87_43 jg2_same ?_
      replace h := jgd_of h; obtain ⟨hb17, h⟩ := h
      replace h := obd_of h; obtain ⟨x18, hx18, h⟩ := h
      refine jr_V6_2 jf_87_45 hb17 (by omega) (r_Section_times (by omega) _ _ _ _ _ hx18) (by simp only [jcats_cons, jcats_nil, cat_int, cat_long, cat_double, cat_float, cat_ref, rv_cat]; decide) jml_78 (Nat.le_of_ble_eq_true rfl) ?_
      refine jr_aload_n jf_87_48 rfl (jg2_ne rfl (jg2_ne rfl hl0)) ?_
      replace h := obd_of h; obtain ⟨x19, hx19, h⟩ := h
      refine jr_getA jf_87_49 hx19 ?_
      refine jr_lload_n jf_87_52 rfl (jg2_ne rfl jg2_same) ?_
      replace h := obd_of h; obtain ⟨a20, rfl, h⟩ := h
      replace h := obd_of h; obtain ⟨x21, hx21, h⟩ := h
      rcases ite_or hx21 with ⟨hb, hx⟩ | ⟨hb0, hx⟩
      · obtain hx := Option.some.inj hx
        refine jr_V8a_1 jf_87_53 hb (by omega) (r_Real_term (by omega) _ _ _ _ hx) (by simp only [jcats_cons, jcats_nil, cat_int, cat_long, cat_double, cat_float, cat_ref, rv_cat]; decide) jml_63 (Nat.le_of_ble_eq_true rfl) ?_
        replace h := obd_of h; obtain ⟨a22, rfl, h⟩ := h
        replace h := obd_of h; obtain ⟨x23, hx23, h⟩ := h
        rcases ite_or hx23 with ⟨hb, hx⟩ | ⟨hb0, hx⟩
        · refine jr_V8a_2 jf_87_56 hb (by omega) (r_Real_plus (by omega) _ _ _ _ _ hx) (Nat.le_of_ble_eq_true rfl) jml_65 (Nat.le_of_ble_eq_true rfl) ?_
          replace h := jgd_of h; obtain ⟨hb24, h⟩ := h
          replace h := jbd2_of h; obtain ⟨x25, μ26, hx25, h⟩ := h
          refine jr_V6_1 jf_87_59 hb24 (by omega) (r_Section_settled (by omega) _ _ _ _ _ hx25) (Nat.le_of_ble_eq_true rfl) jml_70 (Nat.le_of_ble_eq_true rfl) ?_
          refine jr_lstore jf_87_62 jml_87 (by decide) ?_
          refine jr_aload_n jf_87_64 rfl (jg2_ne rfl (jg2_ne rfl (jg2_ne rfl hl0))) ?_
          replace h := obd_of h; obtain ⟨x27, hx27, h⟩ := h
          refine jr_getA jf_87_65 hx27 ?_
          refine jr_iconst jf_87_68 jc_i_0 ?_
          refine jr_lload jf_87_69 (jg2_ne rfl jg2_same) ?_
          replace h := obd_of h; obtain ⟨a28, rfl, h⟩ := h
          replace h := jgd_of h; obtain ⟨hb29, h⟩ := h
          replace h := obd_of h; obtain ⟨μ30, hμ30, h⟩ := h
          refine jr_V6v_2 jf_87_71 hb29 (by omega) (r_Row_put (by omega) _ _ _ _ _ hμ30) (Nat.le_of_ble_eq_true rfl) jml_50 (Nat.le_of_ble_eq_true rfl) ?_
          refine jr_lload jf_87_74 jg2_same ?_
          obtain ⟨rfl, rfl⟩ := Prod.mk.inj (Option.some.inj h)
          exact jr_retJ jf_87_76 jmt_87
        · obtain ⟨hb, hx⟩ := jgd_of hx
          obtain hx := Option.some.inj hx
          refine jr_V8b_2 jf_87_56 hb0 hb (by omega) (r_Shorts_plus (by omega) _ _ _ _ _ hx) (Nat.le_of_ble_eq_true rfl) jml_69 (Nat.le_of_ble_eq_true rfl) ?_
          replace h := jgd_of h; obtain ⟨hb24, h⟩ := h
          replace h := jbd2_of h; obtain ⟨x25, μ26, hx25, h⟩ := h
          refine jr_V6_1 jf_87_59 hb24 (by omega) (r_Section_settled (by omega) _ _ _ _ _ hx25) (Nat.le_of_ble_eq_true rfl) jml_70 (Nat.le_of_ble_eq_true rfl) ?_
          refine jr_lstore jf_87_62 jml_87 (by decide) ?_
          refine jr_aload_n jf_87_64 rfl (jg2_ne rfl (jg2_ne rfl (jg2_ne rfl hl0))) ?_
          replace h := obd_of h; obtain ⟨x27, hx27, h⟩ := h
          refine jr_getA jf_87_65 hx27 ?_
          refine jr_iconst jf_87_68 jc_i_0 ?_
          refine jr_lload jf_87_69 (jg2_ne rfl jg2_same) ?_
          replace h := obd_of h; obtain ⟨a28, rfl, h⟩ := h
          replace h := jgd_of h; obtain ⟨hb29, h⟩ := h
          replace h := obd_of h; obtain ⟨μ30, hμ30, h⟩ := h
          refine jr_V6v_2 jf_87_71 hb29 (by omega) (r_Row_put (by omega) _ _ _ _ _ hμ30) (Nat.le_of_ble_eq_true rfl) jml_50 (Nat.le_of_ble_eq_true rfl) ?_
          refine jr_lload jf_87_74 jg2_same ?_
          obtain ⟨rfl, rfl⟩ := Prod.mk.inj (Option.some.inj h)
          exact jr_retJ jf_87_76 jmt_87
      · obtain ⟨hb, hx⟩ := jgd_of hx
        obtain hx := Option.some.inj hx
        refine jr_V8b_1 jf_87_53 hb0 hb (by omega) (r_Shorts_term (by omega) _ _ _ _ hx) (by simp only [jcats_cons, jcats_nil, cat_int, cat_long, cat_double, cat_float, cat_ref, rv_cat]; decide) jml_64 (Nat.le_of_ble_eq_true rfl) ?_
        replace h := obd_of h; obtain ⟨a22, rfl, h⟩ := h
        replace h := obd_of h; obtain ⟨x23, hx23, h⟩ := h
        rcases ite_or hx23 with ⟨hb, hx⟩ | ⟨hb0, hx⟩
        · refine jr_V8a_2 jf_87_56 hb (by omega) (r_Real_plus (by omega) _ _ _ _ _ hx) (Nat.le_of_ble_eq_true rfl) jml_65 (Nat.le_of_ble_eq_true rfl) ?_
          replace h := jgd_of h; obtain ⟨hb24, h⟩ := h
          replace h := jbd2_of h; obtain ⟨x25, μ26, hx25, h⟩ := h
          refine jr_V6_1 jf_87_59 hb24 (by omega) (r_Section_settled (by omega) _ _ _ _ _ hx25) (Nat.le_of_ble_eq_true rfl) jml_70 (Nat.le_of_ble_eq_true rfl) ?_
          refine jr_lstore jf_87_62 jml_87 (by decide) ?_
          refine jr_aload_n jf_87_64 rfl (jg2_ne rfl (jg2_ne rfl (jg2_ne rfl hl0))) ?_
          replace h := obd_of h; obtain ⟨x27, hx27, h⟩ := h
          refine jr_getA jf_87_65 hx27 ?_
          refine jr_iconst jf_87_68 jc_i_0 ?_
          refine jr_lload jf_87_69 (jg2_ne rfl jg2_same) ?_
          replace h := obd_of h; obtain ⟨a28, rfl, h⟩ := h
          replace h := jgd_of h; obtain ⟨hb29, h⟩ := h
          replace h := obd_of h; obtain ⟨μ30, hμ30, h⟩ := h
          refine jr_V6v_2 jf_87_71 hb29 (by omega) (r_Row_put (by omega) _ _ _ _ _ hμ30) (Nat.le_of_ble_eq_true rfl) jml_50 (Nat.le_of_ble_eq_true rfl) ?_
          refine jr_lload jf_87_74 jg2_same ?_
          obtain ⟨rfl, rfl⟩ := Prod.mk.inj (Option.some.inj h)
          exact jr_retJ jf_87_76 jmt_87
        · obtain ⟨hb, hx⟩ := jgd_of hx
          obtain hx := Option.some.inj hx
          refine jr_V8b_2 jf_87_56 hb0 hb (by omega) (r_Shorts_plus (by omega) _ _ _ _ _ hx) (Nat.le_of_ble_eq_true rfl) jml_69 (Nat.le_of_ble_eq_true rfl) ?_
          replace h := jgd_of h; obtain ⟨hb24, h⟩ := h
          replace h := jbd2_of h; obtain ⟨x25, μ26, hx25, h⟩ := h
          refine jr_V6_1 jf_87_59 hb24 (by omega) (r_Section_settled (by omega) _ _ _ _ _ hx25) (Nat.le_of_ble_eq_true rfl) jml_70 (Nat.le_of_ble_eq_true rfl) ?_
          refine jr_lstore jf_87_62 jml_87 (by decide) ?_
          refine jr_aload_n jf_87_64 rfl (jg2_ne rfl (jg2_ne rfl (jg2_ne rfl hl0))) ?_
          replace h := obd_of h; obtain ⟨x27, hx27, h⟩ := h
          refine jr_getA jf_87_65 hx27 ?_
          refine jr_iconst jf_87_68 jc_i_0 ?_
          refine jr_lload jf_87_69 (jg2_ne rfl jg2_same) ?_
          replace h := obd_of h; obtain ⟨a28, rfl, h⟩ := h
          replace h := jgd_of h; obtain ⟨hb29, h⟩ := h
          replace h := obd_of h; obtain ⟨μ30, hμ30, h⟩ := h
          refine jr_V6v_2 jf_87_71 hb29 (by omega) (r_Row_put (by omega) _ _ _ _ _ hμ30) (Nat.le_of_ble_eq_true rfl) jml_50 (Nat.le_of_ble_eq_true rfl) ?_
          refine jr_lload jf_87_74 jg2_same ?_
          obtain ⟨rfl, rfl⟩ := Prod.mk.inj (Option.some.inj h)
          exact jr_retJ jf_87_76 jmt_87
    · obtain ⟨hb, hx⟩ := jgd_of hx
      obtain hx := Option.some.inj hx
      refine jr_V8b_2 jf_87_28 hb0 hb (by omega) (r_Shorts_plus (by omega) _ _ _ _ _ hx) (Nat.le_of_ble_eq_true rfl) jml_69 (Nat.le_of_ble_eq_true rfl) ?_
      replace h := jgd_of h; obtain ⟨hb13, h⟩ := h
      replace h := jbd2_of h; obtain ⟨x14, μ15, hx14, h⟩ := h
      refine jr_V6_1 jf_87_31 hb13 (by omega) (r_Section_settled (by omega) _ _ _ _ _ hx14) (Nat.le_of_ble_eq_true rfl) jml_70 (Nat.le_of_ble_eq_true rfl) ?_
      refine jr_lstore jf_87_34 jml_87 (by decide) ?_
      refine jr_aload_n jf_87_36 rfl (jg2_ne rfl (jg2_ne rfl hl0)) ?_
      refine jr_aload_n jf_87_37 rfl (jg2_ne rfl (jg2_ne rfl hl0)) ?_
      replace h := obd_of h; obtain ⟨x16, hx16, h⟩ := h
      refine jr_getA jf_87_38 hx16 ?_
      refine jr_aload_n jf_87_41 rfl (jg2_ne rfl (jg2_ne rfl hl0)) ?_
      refine jr_iconst jf_87_42 jc_i_0 ?_
      refine jr_lload jf_87_43 jg2_same ?_
      replace h := jgd_of h; obtain ⟨hb17, h⟩ := h
      replace h := obd_of h; obtain ⟨x18, hx18, h⟩ := h
      refine jr_V6_2 jf_87_45 hb17 (by omega) (r_Section_times (by omega) _ _ _ _ _ hx18) (by simp only [jcats_cons, jcats_nil, cat_int, cat_long, cat_double, cat_float, cat_ref, rv_cat]; decide) jml_78 (Nat.le_of_ble_eq_true rfl) ?_
      refine jr_aload_n jf_87_48 rfl (jg2_ne rfl (jg2_ne rfl hl0)) ?_
      replace h := obd_of h; obtain ⟨x19, hx19, h⟩ := h
      refine jr_getA jf_87_49 hx19 ?_
      refine jr_lload_n jf_87_52 rfl (jg2_ne rfl jg2_same) ?_
      replace h := obd_of h; obtain ⟨a20, rfl, h⟩ := h
      replace h := obd_of h; obtain ⟨x21, hx21, h⟩ := h
      rcases ite_or hx21 with ⟨hb, hx⟩ | ⟨hb0, hx⟩
      · obtain hx := Option.some.inj hx
        refine jr_V8a_1 jf_87_53 hb (by omega) (r_Real_term (by omega) _ _ _ _ hx) (by simp only [jcats_cons, jcats_nil, cat_int, cat_long, cat_double, cat_float, cat_ref, rv_cat]; decide) jml_63 (Nat.le_of_ble_eq_true rfl) ?_
        replace h := obd_of h; obtain ⟨a22, rfl, h⟩ := h
        replace h := obd_of h; obtain ⟨x23, hx23, h⟩ := h
        rcases ite_or hx23 with ⟨hb, hx⟩ | ⟨hb0, hx⟩
        · refine jr_V8a_2 jf_87_56 hb (by omega) (r_Real_plus (by omega) _ _ _ _ _ hx) (Nat.le_of_ble_eq_true rfl) jml_65 (Nat.le_of_ble_eq_true rfl) ?_
          replace h := jgd_of h; obtain ⟨hb24, h⟩ := h
          replace h := jbd2_of h; obtain ⟨x25, μ26, hx25, h⟩ := h
          refine jr_V6_1 jf_87_59 hb24 (by omega) (r_Section_settled (by omega) _ _ _ _ _ hx25) (Nat.le_of_ble_eq_true rfl) jml_70 (Nat.le_of_ble_eq_true rfl) ?_
          refine jr_lstore jf_87_62 jml_87 (by decide) ?_
          refine jr_aload_n jf_87_64 rfl (jg2_ne rfl (jg2_ne rfl (jg2_ne rfl hl0))) ?_
          replace h := obd_of h; obtain ⟨x27, hx27, h⟩ := h
          refine jr_getA jf_87_65 hx27 ?_
          refine jr_iconst jf_87_68 jc_i_0 ?_
          refine jr_lload jf_87_69 (jg2_ne rfl jg2_same) ?_
          replace h := obd_of h; obtain ⟨a28, rfl, h⟩ := h
          replace h := jgd_of h; obtain ⟨hb29, h⟩ := h
          replace h := obd_of h; obtain ⟨μ30, hμ30, h⟩ := h
          refine jr_V6v_2 jf_87_71 hb29 (by omega) (r_Row_put (by omega) _ _ _ _ _ hμ30) (Nat.le_of_ble_eq_true rfl) jml_50 (Nat.le_of_ble_eq_true rfl) ?_
          refine jr_lload jf_87_74 jg2_same ?_
          obtain ⟨rfl, rfl⟩ := Prod.mk.inj (Option.some.inj h)
          exact jr_retJ jf_87_76 jmt_87
        · obtain ⟨hb, hx⟩ := jgd_of hx
          obtain hx := Option.some.inj hx
          refine jr_V8b_2 jf_87_56 hb0 hb (by omega) (r_Shorts_plus (by omega) _ _ _ _ _ hx) (Nat.le_of_ble_eq_true rfl) jml_69 (Nat.le_of_ble_eq_true rfl) ?_
          replace h := jgd_of h; obtain ⟨hb24, h⟩ := h
          replace h := jbd2_of h; obtain ⟨x25, μ26, hx25, h⟩ := h
          refine jr_V6_1 jf_87_59 hb24 (by omega) (r_Section_settled (by omega) _ _ _ _ _ hx25) (Nat.le_of_ble_eq_true rfl) jml_70 (Nat.le_of_ble_eq_true rfl) ?_
          refine jr_lstore jf_87_62 jml_87 (by decide) ?_
          refine jr_aload_n jf_87_64 rfl (jg2_ne rfl (jg2_ne rfl (jg2_ne rfl hl0))) ?_
          replace h := obd_of h; obtain ⟨x27, hx27, h⟩ := h
          refine jr_getA jf_87_65 hx27 ?_
          refine jr_iconst jf_87_68 jc_i_0 ?_
          refine jr_lload jf_87_69 (jg2_ne rfl jg2_same) ?_
          replace h := obd_of h; obtain ⟨a28, rfl, h⟩ := h
          replace h := jgd_of h; obtain ⟨hb29, h⟩ := h
          replace h := obd_of h; obtain ⟨μ30, hμ30, h⟩ := h
          refine jr_V6v_2 jf_87_71 hb29 (by omega) (r_Row_put (by omega) _ _ _ _ _ hμ30) (Nat.le_of_ble_eq_true rfl) jml_50 (Nat.le_of_ble_eq_true rfl) ?_
          refine jr_lload jf_87_74 jg2_same ?_
          obtain ⟨rfl, rfl⟩ := Prod.mk.inj (Option.some.inj h)
          exact jr_retJ jf_87_76 jmt_87
      · obtain ⟨hb, hx⟩ := jgd_of hx
        obtain hx := Option.some.inj hx
        refine jr_V8b_1 jf_87_53 hb0 hb (by omega) (r_Shorts_term (by omega) _ _ _ _ hx) (by simp only [jcats_cons, jcats_nil, cat_int, cat_long, cat_double, cat_float, cat_ref, rv_cat]; decide) jml_64 (Nat.le_of_ble_eq_true rfl) ?_
        replace h := obd_of h; obtain ⟨a22, rfl, h⟩ := h
        replace h := obd_of h; obtain ⟨x23, hx23, h⟩ := h
        rcases ite_or hx23 with ⟨hb, hx⟩ | ⟨hb0, hx⟩
        · refine jr_V8a_2 jf_87_56 hb (by omega) (r_Real_plus (by omega) _ _ _ _ _ hx) (Nat.le_of_ble_eq_true rfl) jml_65 (Nat.le_of_ble_eq_true rfl) ?_
          replace h := jgd_of h; obtain ⟨hb24, h⟩ := h
          replace h := jbd2_of h; obtain ⟨x25, μ26, hx25, h⟩ := h
          refine jr_V6_1 jf_87_59 hb24 (by omega) (r_Section_settled (by omega) _ _ _ _ _ hx25) (Nat.le_of_ble_eq_true rfl) jml_70 (Nat.le_of_ble_eq_true rfl) ?_
          refine jr_lstore jf_87_62 jml_87 (by decide) ?_
          refine jr_aload_n jf_87_64 rfl (jg2_ne rfl (jg2_ne rfl (jg2_ne rfl hl0))) ?_
          replace h := obd_of h; obtain ⟨x27, hx27, h⟩ := h
          refine jr_getA jf_87_65 hx27 ?_
          refine jr_iconst jf_87_68 jc_i_0 ?_
          refine jr_lload jf_87_69 (jg2_ne rfl jg2_same) ?_
          replace h := obd_of h; obtain ⟨a28, rfl, h⟩ := h
          replace h := jgd_of h; obtain ⟨hb29, h⟩ := h
          replace h := obd_of h; obtain ⟨μ30, hμ30, h⟩ := h
          refine jr_V6v_2 jf_87_71 hb29 (by omega) (r_Row_put (by omega) _ _ _ _ _ hμ30) (Nat.le_of_ble_eq_true rfl) jml_50 (Nat.le_of_ble_eq_true rfl) ?_
          refine jr_lload jf_87_74 jg2_same ?_
          obtain ⟨rfl, rfl⟩ := Prod.mk.inj (Option.some.inj h)
          exact jr_retJ jf_87_76 jmt_87
        · obtain ⟨hb, hx⟩ := jgd_of hx
          obtain hx := Option.some.inj hx
          refine jr_V8b_2 jf_87_56 hb0 hb (by omega) (r_Shorts_plus (by omega) _ _ _ _ _ hx) (Nat.le_of_ble_eq_true rfl) jml_69 (Nat.le_of_ble_eq_true rfl) ?_
          replace h := jgd_of h; obtain ⟨hb24, h⟩ := h
          replace h := jbd2_of h; obtain ⟨x25, μ26, hx25, h⟩ := h
          refine jr_V6_1 jf_87_59 hb24 (by omega) (r_Section_settled (by omega) _ _ _ _ _ hx25) (Nat.le_of_ble_eq_true rfl) jml_70 (Nat.le_of_ble_eq_true rfl) ?_
          refine jr_lstore jf_87_62 jml_87 (by decide) ?_
          refine jr_aload_n jf_87_64 rfl (jg2_ne rfl (jg2_ne rfl (jg2_ne rfl hl0))) ?_
          replace h := obd_of h; obtain ⟨x27, hx27, h⟩ := h
          refine jr_getA jf_87_65 hx27 ?_
          refine jr_iconst jf_87_68 jc_i_0 ?_
          refine jr_lload jf_87_69 (jg2_ne rfl jg2_same) ?_
          replace h := obd_of h; obtain ⟨a28, rfl, h⟩ := h
          replace h := jgd_of h; obtain ⟨hb29, h⟩ := h
          replace h := obd_of h; obtain ⟨μ30, hμ30, h⟩ := h
          refine jr_V6v_2 jf_87_71 hb29 (by omega) (r_Row_put (by omega) _ _ _ _ _ hμ30) (Nat.le_of_ble_eq_true rfl) jml_50 (Nat.le_of_ble_eq_true rfl) ?_
          refine jr_lload jf_87_74 jg2_same ?_
          obtain ⟨rfl, rfl⟩ := Prod.mk.inj (Option.some.inj h)
          exact jr_retJ jf_87_76 jmt_87
set_option maxRecDepth 10000 in
set_option maxHeartbeats 4000000 in
theorem r_Section_pass {B : Nat} {SA : Nat → Nat} {d : Nat} (hd : 4 ≤ d) : ∀ (v0 : Nat) (v1 : Int64) (μ : JMem) (r : Int64) (μ9 : JMem), g_Section_pass B v0 v1 μ = some (r, μ9) → jR B SA d m_Section_pass 0 (lv_args 0 [.ref v0, .long v1]) [] μ (some (.long r)) μ9 := by
  intro v0 v1 μ r μ9 h
  exact r_Section_pass_e hd (lv_args 0 _) _ _ _ _ _ (by simp [lv_args, jget, rv_cat, cat_int, cat_long, cat_double, cat_float, cat_ref]) (by simp [lv_args, jget, rv_cat, cat_int, cat_long, cat_double, cat_float, cat_ref]) h
/-! FilterBench$Section.peak(J)J -/
set_option maxRecDepth 10000 in
set_option maxHeartbeats 4000000 in
theorem r_Section_peak_47 {B : Nat} {SA : Nat → Nat} {d : Nat} (hd : 4 ≤ d) : ∀ (L : JLoc) (v0 : Nat) (s0 : Int64) (μ : JMem) (r : Int64) (μ9 : JMem), jget L 0 = .ref v0 → g_Section_peak_47 B v0 s0 μ = some (r, μ9) → jR B SA d m_Section_peak 47 L [.long s0] μ (some (.long r)) μ9 := by
  intro L v0 s0 μ r μ9 hl0 h
  unfold g_Section_peak_47 at h
  refine jr_lstore jf_102_47 jml_102 (by decide) ?_
  refine jr_aload_n jf_102_49 rfl (jg2_ne rfl hl0) ?_
  replace h := obd_of h; obtain ⟨x1, hx1, h⟩ := h
  refine jr_getA jf_102_50 hx1 ?_
  refine jr_iconst jf_102_53 jc_i_0 ?_
  refine jr_lload jf_102_54 jg2_same ?_
  replace h := obd_of h; obtain ⟨a2, rfl, h⟩ := h
  replace h := jgd_of h; obtain ⟨hb3, h⟩ := h
  replace h := obd_of h; obtain ⟨μ4, hμ4, h⟩ := h
  refine jr_V6v_2 jf_102_56 hb3 (by omega) (r_Row_put (by omega) _ _ _ _ _ hμ4) (Nat.le_of_ble_eq_true rfl) jml_50 (Nat.le_of_ble_eq_true rfl) ?_
  refine jr_lload jf_102_59 jg2_same ?_
  obtain ⟨rfl, rfl⟩ := Prod.mk.inj (Option.some.inj h)
  exact jr_retJ jf_102_61 jmt_102
set_option maxRecDepth 10000 in
set_option maxHeartbeats 4000000 in
theorem r_Section_peak_e {B : Nat} {SA : Nat → Nat} {d : Nat} (hd : 4 ≤ d) : ∀ (L : JLoc) (v0 : Nat) (v1 : Int64) (μ : JMem) (r : Int64) (μ9 : JMem), jget L 0 = .ref v0 → jget L 1 = .long v1 → g_Section_peak B v0 v1 μ = some (r, μ9) → jR B SA d m_Section_peak 0 L [] μ (some (.long r)) μ9 := by
  intro L v0 v1 μ r μ9 hl0 hl1 h
  unfold g_Section_peak at h
  refine jr_aload_n jf_102_0 rfl hl0 ?_
  replace h := obd_of h; obtain ⟨x1, hx1, h⟩ := h
  refine jr_getA jf_102_1 hx1 ?_
  refine jr_lload_n jf_102_4 rfl hl1 ?_
  replace h := obd_of h; obtain ⟨a2, rfl, h⟩ := h
  replace h := obd_of h; obtain ⟨x3, hx3, h⟩ := h
  rcases ite_or hx3 with ⟨hb, hx⟩ | ⟨hb0, hx⟩
  · refine jr_V8a_1 jf_102_5 hb (by omega) (r_Real_sizeOf (by omega) _ _ _ _ hx) (Nat.le_of_ble_eq_true rfl) jml_54 (Nat.le_of_ble_eq_true rfl) ?_
    refine jr_lstore_n jf_102_8 rfl jml_102 (by decide) ?_
    refine jr_aload_n jf_102_9 rfl (jg2_ne rfl hl0) ?_
    replace h := obd_of h; obtain ⟨x4, hx4, h⟩ := h
    refine jr_getA jf_102_10 hx4 ?_
    refine jr_iconst jf_102_13 jc_i_0 ?_
    replace h := obd_of h; obtain ⟨a5, rfl, h⟩ := h
    replace h := jgd_of h; obtain ⟨hb6, h⟩ := h
    replace h := obd_of h; obtain ⟨x7, hx7, h⟩ := h
    refine jr_V6_1 jf_102_14 hb6 (by omega) (r_Row_at (by omega) _ _ _ _ hx7) (Nat.le_of_ble_eq_true rfl) jml_23 (Nat.le_of_ble_eq_true rfl) ?_
    refine jr_lstore jf_102_17 jml_102 (by decide) ?_
    refine jr_aload_n jf_102_19 rfl (jg2_ne rfl (jg2_ne rfl hl0)) ?_
    replace h := obd_of h; obtain ⟨x8, hx8, h⟩ := h
    refine jr_getA jf_102_20 hx8 ?_
    refine jr_lload_n jf_102_23 rfl (jg2_ne rfl jg2_same) ?_
    refine jr_lload jf_102_24 jg2_same ?_
    replace h := obd_of h; obtain ⟨a9, rfl, h⟩ := h
    replace h := obd_of h; obtain ⟨x10, hx10, h⟩ := h
    rcases ite_or hx10 with ⟨hb, hx⟩ | ⟨hb0, hx⟩
    · refine jr_V9a_2 jf_102_26 hb (by omega) (r_Numbers_above (by omega) _ _ _ _ _ hx) (Nat.le_of_ble_eq_true rfl) jml_94 (Nat.le_of_ble_eq_true rfl) ?_
      replace h := ite_or h; rcases h with ⟨hc, h⟩ | ⟨hc, h⟩
      · refine jr_ifz_eq_f jf_102_29 hc ?_
        refine jr_lload_n jf_102_32 rfl (jg2_ne rfl jg2_same) ?_
        refine jr_goto jf_102_33 ?_
        exact r_Section_peak_47 hd _ _ _ _ _ _ (jg2_ne rfl (jg2_ne rfl hl0)) h
      · refine jr_ifz_eq_t jf_102_29 hc ?_
        refine jr_aload_n jf_102_36 rfl (jg2_ne rfl (jg2_ne rfl hl0)) ?_
        refine jr_aload_n jf_102_37 rfl (jg2_ne rfl (jg2_ne rfl hl0)) ?_
        refine jr_iconst jf_102_38 jc_i_0 ?_
        refine jr_lload jf_102_39 jg2_same ?_
        replace h := jgd_of h; obtain ⟨hb11, h⟩ := h
        replace h := obd_of h; obtain ⟨x12, hx12, h⟩ := h
        refine jr_V6_2 jf_102_41 hb11 (by omega) (r_Section_times (by omega) _ _ _ _ _ hx12) (Nat.le_of_ble_eq_true rfl) jml_78 (Nat.le_of_ble_eq_true rfl) ?_
        replace h := jgd_of h; obtain ⟨hb13, h⟩ := h
        replace h := jbd2_of h; obtain ⟨x14, μ15, hx14, h⟩ := h
        refine jr_V6_1 jf_102_44 hb13 (by omega) (r_Section_settled (by omega) _ _ _ _ _ hx14) (Nat.le_of_ble_eq_true rfl) jml_70 (Nat.le_of_ble_eq_true rfl) ?_
        exact r_Section_peak_47 hd _ _ _ _ _ _ (jg2_ne rfl (jg2_ne rfl hl0)) h
    · obtain ⟨hb, hx⟩ := jgd_of hx
      refine jr_V9b_2 jf_102_26 hb0 hb (by omega) (r_Numbers_above (by omega) _ _ _ _ _ hx) (Nat.le_of_ble_eq_true rfl) jml_94 (Nat.le_of_ble_eq_true rfl) ?_
      replace h := ite_or h; rcases h with ⟨hc, h⟩ | ⟨hc, h⟩
      · refine jr_ifz_eq_f jf_102_29 hc ?_
        refine jr_lload_n jf_102_32 rfl (jg2_ne rfl jg2_same) ?_
        refine jr_goto jf_102_33 ?_
        exact r_Section_peak_47 hd _ _ _ _ _ _ (jg2_ne rfl (jg2_ne rfl hl0)) h
      · refine jr_ifz_eq_t jf_102_29 hc ?_
        refine jr_aload_n jf_102_36 rfl (jg2_ne rfl (jg2_ne rfl hl0)) ?_
        refine jr_aload_n jf_102_37 rfl (jg2_ne rfl (jg2_ne rfl hl0)) ?_
        refine jr_iconst jf_102_38 jc_i_0 ?_
        refine jr_lload jf_102_39 jg2_same ?_
        replace h := jgd_of h; obtain ⟨hb11, h⟩ := h
        replace h := obd_of h; obtain ⟨x12, hx12, h⟩ := h
        refine jr_V6_2 jf_102_41 hb11 (by omega) (r_Section_times (by omega) _ _ _ _ _ hx12) (Nat.le_of_ble_eq_true rfl) jml_78 (Nat.le_of_ble_eq_true rfl) ?_
        replace h := jgd_of h; obtain ⟨hb13, h⟩ := h
        replace h := jbd2_of h; obtain ⟨x14, μ15, hx14, h⟩ := h
        refine jr_V6_1 jf_102_44 hb13 (by omega) (r_Section_settled (by omega) _ _ _ _ _ hx14) (Nat.le_of_ble_eq_true rfl) jml_70 (Nat.le_of_ble_eq_true rfl) ?_
        exact r_Section_peak_47 hd _ _ _ _ _ _ (jg2_ne rfl (jg2_ne rfl hl0)) h
  · obtain ⟨hb, hx⟩ := jgd_of hx
    refine jr_V8b_1 jf_102_5 hb0 hb (by omega) (r_Shorts_sizeOf (by omega) _ _ _ _ hx) (Nat.le_of_ble_eq_true rfl) jml_101 (Nat.le_of_ble_eq_true rfl) ?_
    refine jr_lstore_n jf_102_8 rfl jml_102 (by decide) ?_
    refine jr_aload_n jf_102_9 rfl (jg2_ne rfl hl0) ?_
    replace h := obd_of h; obtain ⟨x4, hx4, h⟩ := h
    refine jr_getA jf_102_10 hx4 ?_
    refine jr_iconst jf_102_13 jc_i_0 ?_
    replace h := obd_of h; obtain ⟨a5, rfl, h⟩ := h
    replace h := jgd_of h; obtain ⟨hb6, h⟩ := h
    replace h := obd_of h; obtain ⟨x7, hx7, h⟩ := h
    refine jr_V6_1 jf_102_14 hb6 (by omega) (r_Row_at (by omega) _ _ _ _ hx7) (Nat.le_of_ble_eq_true rfl) jml_23 (Nat.le_of_ble_eq_true rfl) ?_
    refine jr_lstore jf_102_17 jml_102 (by decide) ?_
    refine jr_aload_n jf_102_19 rfl (jg2_ne rfl (jg2_ne rfl hl0)) ?_
    replace h := obd_of h; obtain ⟨x8, hx8, h⟩ := h
    refine jr_getA jf_102_20 hx8 ?_
    refine jr_lload_n jf_102_23 rfl (jg2_ne rfl jg2_same) ?_
    refine jr_lload jf_102_24 jg2_same ?_
    replace h := obd_of h; obtain ⟨a9, rfl, h⟩ := h
    replace h := obd_of h; obtain ⟨x10, hx10, h⟩ := h
    rcases ite_or hx10 with ⟨hb, hx⟩ | ⟨hb0, hx⟩
    · refine jr_V9a_2 jf_102_26 hb (by omega) (r_Numbers_above (by omega) _ _ _ _ _ hx) (Nat.le_of_ble_eq_true rfl) jml_94 (Nat.le_of_ble_eq_true rfl) ?_
      replace h := ite_or h; rcases h with ⟨hc, h⟩ | ⟨hc, h⟩
      · refine jr_ifz_eq_f jf_102_29 hc ?_
        refine jr_lload_n jf_102_32 rfl (jg2_ne rfl jg2_same) ?_
        refine jr_goto jf_102_33 ?_
        exact r_Section_peak_47 hd _ _ _ _ _ _ (jg2_ne rfl (jg2_ne rfl hl0)) h
      · refine jr_ifz_eq_t jf_102_29 hc ?_
        refine jr_aload_n jf_102_36 rfl (jg2_ne rfl (jg2_ne rfl hl0)) ?_
        refine jr_aload_n jf_102_37 rfl (jg2_ne rfl (jg2_ne rfl hl0)) ?_
        refine jr_iconst jf_102_38 jc_i_0 ?_
        refine jr_lload jf_102_39 jg2_same ?_
        replace h := jgd_of h; obtain ⟨hb11, h⟩ := h
        replace h := obd_of h; obtain ⟨x12, hx12, h⟩ := h
        refine jr_V6_2 jf_102_41 hb11 (by omega) (r_Section_times (by omega) _ _ _ _ _ hx12) (Nat.le_of_ble_eq_true rfl) jml_78 (Nat.le_of_ble_eq_true rfl) ?_
        replace h := jgd_of h; obtain ⟨hb13, h⟩ := h
        replace h := jbd2_of h; obtain ⟨x14, μ15, hx14, h⟩ := h
        refine jr_V6_1 jf_102_44 hb13 (by omega) (r_Section_settled (by omega) _ _ _ _ _ hx14) (Nat.le_of_ble_eq_true rfl) jml_70 (Nat.le_of_ble_eq_true rfl) ?_
        exact r_Section_peak_47 hd _ _ _ _ _ _ (jg2_ne rfl (jg2_ne rfl hl0)) h
    · obtain ⟨hb, hx⟩ := jgd_of hx
      refine jr_V9b_2 jf_102_26 hb0 hb (by omega) (r_Numbers_above (by omega) _ _ _ _ _ hx) (Nat.le_of_ble_eq_true rfl) jml_94 (Nat.le_of_ble_eq_true rfl) ?_
      replace h := ite_or h; rcases h with ⟨hc, h⟩ | ⟨hc, h⟩
      · refine jr_ifz_eq_f jf_102_29 hc ?_
        refine jr_lload_n jf_102_32 rfl (jg2_ne rfl jg2_same) ?_
        refine jr_goto jf_102_33 ?_
        exact r_Section_peak_47 hd _ _ _ _ _ _ (jg2_ne rfl (jg2_ne rfl hl0)) h
      · refine jr_ifz_eq_t jf_102_29 hc ?_
        refine jr_aload_n jf_102_36 rfl (jg2_ne rfl (jg2_ne rfl hl0)) ?_
        refine jr_aload_n jf_102_37 rfl (jg2_ne rfl (jg2_ne rfl hl0)) ?_
        refine jr_iconst jf_102_38 jc_i_0 ?_
        refine jr_lload jf_102_39 jg2_same ?_
        replace h := jgd_of h; obtain ⟨hb11, h⟩ := h
        replace h := obd_of h; obtain ⟨x12, hx12, h⟩ := h
        refine jr_V6_2 jf_102_41 hb11 (by omega) (r_Section_times (by omega) _ _ _ _ _ hx12) (Nat.le_of_ble_eq_true rfl) jml_78 (Nat.le_of_ble_eq_true rfl) ?_
        replace h := jgd_of h; obtain ⟨hb13, h⟩ := h
        replace h := jbd2_of h; obtain ⟨x14, μ15, hx14, h⟩ := h
        refine jr_V6_1 jf_102_44 hb13 (by omega) (r_Section_settled (by omega) _ _ _ _ _ hx14) (Nat.le_of_ble_eq_true rfl) jml_70 (Nat.le_of_ble_eq_true rfl) ?_
        exact r_Section_peak_47 hd _ _ _ _ _ _ (jg2_ne rfl (jg2_ne rfl hl0)) h
set_option maxRecDepth 10000 in
set_option maxHeartbeats 4000000 in
theorem r_Section_peak {B : Nat} {SA : Nat → Nat} {d : Nat} (hd : 4 ≤ d) : ∀ (v0 : Nat) (v1 : Int64) (μ : JMem) (r : Int64) (μ9 : JMem), g_Section_peak B v0 v1 μ = some (r, μ9) → jR B SA d m_Section_peak 0 (lv_args 0 [.ref v0, .long v1]) [] μ (some (.long r)) μ9 := by
  intro v0 v1 μ r μ9 h
  exact r_Section_peak_e hd (lv_args 0 _) _ _ _ _ _ (by simp [lv_args, jget, rv_cat, cat_int, cat_long, cat_double, cat_float, cat_ref]) (by simp [lv_args, jget, rv_cat, cat_int, cat_long, cat_double, cat_float, cat_ref]) h
/-! FilterBench$Section.pole(J)J -/
set_option maxRecDepth 10000 in
set_option maxHeartbeats 4000000 in
theorem r_Section_pole_e {B : Nat} {SA : Nat → Nat} {d : Nat} (hd : 4 ≤ d) : ∀ (L : JLoc) (v0 : Nat) (v1 : Int64) (μ : JMem) (r : Int64) (μ9 : JMem), jget L 0 = .ref v0 → jget L 1 = .long v1 → g_Section_pole B v0 v1 μ = some (r, μ9) → jR B SA d m_Section_pole 0 L [] μ (some (.long r)) μ9 := by
  intro L v0 v1 μ r μ9 hl0 hl1 h
  unfold g_Section_pole at h
  refine jr_aload_n jf_79_0 rfl hl0 ?_
  refine jr_aload_n jf_79_1 rfl hl0 ?_
  replace h := obd_of h; obtain ⟨x1, hx1, h⟩ := h
  refine jr_getA jf_79_2 hx1 ?_
  refine jr_aload_n jf_79_5 rfl hl0 ?_
  refine jr_iconst jf_79_6 jc_i_0 ?_
  refine jr_lload_n jf_79_7 rfl hl1 ?_
  replace h := jgd_of h; obtain ⟨hb2, h⟩ := h
  replace h := obd_of h; obtain ⟨x3, hx3, h⟩ := h
  refine jr_V6_2 jf_79_8 hb2 (by omega) (r_Section_times (by omega) _ _ _ _ _ hx3) (by simp only [jcats_cons, jcats_nil, cat_int, cat_long, cat_double, cat_float, cat_ref, rv_cat]; decide) jml_78 (Nat.le_of_ble_eq_true rfl) ?_
  refine jr_aload_n jf_79_11 rfl hl0 ?_
  refine jr_iconst jf_79_12 jc_i_1 ?_
  refine jr_aload_n jf_79_13 rfl hl0 ?_
  replace h := obd_of h; obtain ⟨x4, hx4, h⟩ := h
  refine jr_getA jf_79_14 hx4 ?_
  refine jr_iconst jf_79_17 jc_i_0 ?_
  replace h := obd_of h; obtain ⟨a5, rfl, h⟩ := h
  replace h := jgd_of h; obtain ⟨hb6, h⟩ := h
  replace h := obd_of h; obtain ⟨x7, hx7, h⟩ := h
  refine jr_V6_1 jf_79_18 hb6 (by omega) (r_Row_at (by omega) _ _ _ _ hx7) (by simp only [jcats_cons, jcats_nil, cat_int, cat_long, cat_double, cat_float, cat_ref, rv_cat]; decide) jml_23 (Nat.le_of_ble_eq_true rfl) ?_
  replace h := jgd_of h; obtain ⟨hb8, h⟩ := h
  replace h := obd_of h; obtain ⟨x9, hx9, h⟩ := h
  refine jr_V6_2 jf_79_21 hb8 (by omega) (r_Section_times (by omega) _ _ _ _ _ hx9) (by simp only [jcats_cons, jcats_nil, cat_int, cat_long, cat_double, cat_float, cat_ref, rv_cat]; decide) jml_78 (Nat.le_of_ble_eq_true rfl) ?_
  replace h := obd_of h; obtain ⟨a10, rfl, h⟩ := h
  replace h := obd_of h; obtain ⟨x11, hx11, h⟩ := h
  rcases ite_or hx11 with ⟨hb, hx⟩ | ⟨hb0, hx⟩
  · refine jr_V8a_2 jf_79_24 hb (by omega) (r_Real_plus (by omega) _ _ _ _ _ hx) (Nat.le_of_ble_eq_true rfl) jml_65 (Nat.le_of_ble_eq_true rfl) ?_
    replace h := jgd_of h; obtain ⟨hb12, h⟩ := h
    replace h := jbd2_of h; obtain ⟨x13, μ14, hx13, h⟩ := h
    refine jr_V6_1 jf_79_27 hb12 (by omega) (r_Section_settled (by omega) _ _ _ _ _ hx13) (Nat.le_of_ble_eq_true rfl) jml_70 (Nat.le_of_ble_eq_true rfl) ?_
    refine jr_lstore_n jf_79_30 rfl jml_79 (by decide) ?_
    refine jr_aload_n jf_79_31 rfl (jg2_ne rfl hl0) ?_
    replace h := obd_of h; obtain ⟨x15, hx15, h⟩ := h
    refine jr_getA jf_79_32 hx15 ?_
    refine jr_iconst jf_79_35 jc_i_0 ?_
    refine jr_lload_n jf_79_36 rfl jg2_same ?_
    replace h := obd_of h; obtain ⟨a16, rfl, h⟩ := h
    replace h := jgd_of h; obtain ⟨hb17, h⟩ := h
    replace h := obd_of h; obtain ⟨μ18, hμ18, h⟩ := h
    refine jr_V6v_2 jf_79_37 hb17 (by omega) (r_Row_put (by omega) _ _ _ _ _ hμ18) (Nat.le_of_ble_eq_true rfl) jml_50 (Nat.le_of_ble_eq_true rfl) ?_
    refine jr_lload_n jf_79_40 rfl jg2_same ?_
    obtain ⟨rfl, rfl⟩ := Prod.mk.inj (Option.some.inj h)
    exact jr_retJ jf_79_41 jmt_79
  · obtain ⟨hb, hx⟩ := jgd_of hx
    obtain hx := Option.some.inj hx
    refine jr_V8b_2 jf_79_24 hb0 hb (by omega) (r_Shorts_plus (by omega) _ _ _ _ _ hx) (Nat.le_of_ble_eq_true rfl) jml_69 (Nat.le_of_ble_eq_true rfl) ?_
    replace h := jgd_of h; obtain ⟨hb12, h⟩ := h
    replace h := jbd2_of h; obtain ⟨x13, μ14, hx13, h⟩ := h
    refine jr_V6_1 jf_79_27 hb12 (by omega) (r_Section_settled (by omega) _ _ _ _ _ hx13) (Nat.le_of_ble_eq_true rfl) jml_70 (Nat.le_of_ble_eq_true rfl) ?_
    refine jr_lstore_n jf_79_30 rfl jml_79 (by decide) ?_
    refine jr_aload_n jf_79_31 rfl (jg2_ne rfl hl0) ?_
    replace h := obd_of h; obtain ⟨x15, hx15, h⟩ := h
    refine jr_getA jf_79_32 hx15 ?_
    refine jr_iconst jf_79_35 jc_i_0 ?_
    refine jr_lload_n jf_79_36 rfl jg2_same ?_
    replace h := obd_of h; obtain ⟨a16, rfl, h⟩ := h
    replace h := jgd_of h; obtain ⟨hb17, h⟩ := h
    replace h := obd_of h; obtain ⟨μ18, hμ18, h⟩ := h
    refine jr_V6v_2 jf_79_37 hb17 (by omega) (r_Row_put (by omega) _ _ _ _ _ hμ18) (Nat.le_of_ble_eq_true rfl) jml_50 (Nat.le_of_ble_eq_true rfl) ?_
    refine jr_lload_n jf_79_40 rfl jg2_same ?_
    obtain ⟨rfl, rfl⟩ := Prod.mk.inj (Option.some.inj h)
    exact jr_retJ jf_79_41 jmt_79
set_option maxRecDepth 10000 in
set_option maxHeartbeats 4000000 in
theorem r_Section_pole {B : Nat} {SA : Nat → Nat} {d : Nat} (hd : 4 ≤ d) : ∀ (v0 : Nat) (v1 : Int64) (μ : JMem) (r : Int64) (μ9 : JMem), g_Section_pole B v0 v1 μ = some (r, μ9) → jR B SA d m_Section_pole 0 (lv_args 0 [.ref v0, .long v1]) [] μ (some (.long r)) μ9 := by
  intro v0 v1 μ r μ9 h
  exact r_Section_pole_e hd (lv_args 0 _) _ _ _ _ _ (by simp [lv_args, jget, rv_cat, cat_int, cat_long, cat_double, cat_float, cat_ref]) (by simp [lv_args, jget, rv_cat, cat_int, cat_long, cat_double, cat_float, cat_ref]) h
/-! FilterBench$Section.second(J)J -/
set_option maxRecDepth 10000 in
set_option maxHeartbeats 4000000 in
theorem r_Section_second_e {B : Nat} {SA : Nat → Nat} {d : Nat} (hd : 4 ≤ d) : ∀ (L : JLoc) (v0 : Nat) (v1 : Int64) (μ : JMem) (r : Int64) (μ9 : JMem), jget L 0 = .ref v0 → jget L 1 = .long v1 → g_Section_second B v0 v1 μ = some (r, μ9) → jR B SA d m_Section_second 0 L [] μ (some (.long r)) μ9 := by
  intro L v0 v1 μ r μ9 hl0 hl1 h
  unfold g_Section_second at h
  refine jr_aload_n jf_85_0 rfl hl0 ?_
  replace h := obd_of h; obtain ⟨x1, hx1, h⟩ := h
  refine jr_getA jf_85_1 hx1 ?_
  refine jr_iconst jf_85_4 jc_i_0 ?_
  replace h := obd_of h; obtain ⟨a2, rfl, h⟩ := h
  replace h := jgd_of h; obtain ⟨hb3, h⟩ := h
  replace h := obd_of h; obtain ⟨x4, hx4, h⟩ := h
  refine jr_V6_1 jf_85_5 hb3 (by omega) (r_Row_at (by omega) _ _ _ _ hx4) (Nat.le_of_ble_eq_true rfl) jml_23 (Nat.le_of_ble_eq_true rfl) ?_
  refine jr_lstore_n jf_85_8 rfl jml_85 (by decide) ?_
  refine jr_aload_n jf_85_9 rfl (jg2_ne rfl hl0) ?_
  replace h := obd_of h; obtain ⟨x5, hx5, h⟩ := h
  refine jr_getA jf_85_10 hx5 ?_
  refine jr_aload_n jf_85_13 rfl (jg2_ne rfl hl0) ?_
  replace h := obd_of h; obtain ⟨x6, hx6, h⟩ := h
  refine jr_getA jf_85_14 hx6 ?_
  refine jr_lload_n jf_85_17 rfl (jg2_ne rfl hl1) ?_
  replace h := obd_of h; obtain ⟨a7, rfl, h⟩ := h
  replace h := obd_of h; obtain ⟨x8, hx8, h⟩ := h
  rcases ite_or hx8 with ⟨hb, hx⟩ | ⟨hb0, hx⟩
  · obtain hx := Option.some.inj hx
    refine jr_V8a_1 jf_85_18 hb (by omega) (r_Real_term (by omega) _ _ _ _ hx) (by simp only [jcats_cons, jcats_nil, cat_int, cat_long, cat_double, cat_float, cat_ref, rv_cat]; decide) jml_63 (Nat.le_of_ble_eq_true rfl) ?_
    refine jr_aload_n jf_85_21 rfl (jg2_ne rfl hl0) ?_
    refine jr_iconst jf_85_22 jc_i_3 ?_
    refine jr_lload_n jf_85_23 rfl jg2_same ?_
    replace h := jgd_of h; obtain ⟨hb9, h⟩ := h
    replace h := obd_of h; obtain ⟨x10, hx10, h⟩ := h
    refine jr_V6_2 jf_85_24 hb9 (by omega) (r_Section_lessTimes (by omega) _ _ _ _ _ hx10) (by simp only [jcats_cons, jcats_nil, cat_int, cat_long, cat_double, cat_float, cat_ref, rv_cat]; decide) jml_81 (Nat.le_of_ble_eq_true rfl) ?_
    replace h := obd_of h; obtain ⟨a11, rfl, h⟩ := h
    replace h := obd_of h; obtain ⟨x12, hx12, h⟩ := h
    rcases ite_or hx12 with ⟨hb, hx⟩ | ⟨hb0, hx⟩
    · refine jr_V8a_2 jf_85_27 hb (by omega) (r_Real_plus (by omega) _ _ _ _ _ hx) (Nat.le_of_ble_eq_true rfl) jml_65 (Nat.le_of_ble_eq_true rfl) ?_
      refine jr_lstore jf_85_30 jml_85 (by decide) ?_
      refine jr_aload_n jf_85_32 rfl (jg2_ne rfl (jg2_ne rfl hl0)) ?_
      refine jr_aload_n jf_85_33 rfl (jg2_ne rfl (jg2_ne rfl hl0)) ?_
      replace h := obd_of h; obtain ⟨x13, hx13, h⟩ := h
      refine jr_getA jf_85_34 hx13 ?_
      refine jr_lload jf_85_37 jg2_same ?_
      refine jr_aload_n jf_85_39 rfl (jg2_ne rfl (jg2_ne rfl hl0)) ?_
      refine jr_iconst jf_85_40 jc_i_4 ?_
      refine jr_aload_n jf_85_41 rfl (jg2_ne rfl (jg2_ne rfl hl0)) ?_
      replace h := obd_of h; obtain ⟨x14, hx14, h⟩ := h
      refine jr_getA jf_85_42 hx14 ?_
      refine jr_iconst jf_85_45 jc_i_1 ?_
      replace h := obd_of h; obtain ⟨a15, rfl, h⟩ := h
      replace h := jgd_of h; obtain ⟨hb16, h⟩ := h
      replace h := obd_of h; obtain ⟨x17, hx17, h⟩ := h
      refine jr_V6_1 jf_85_46 hb16 (by omega) (r_Row_at (by omega) _ _ _ _ hx17) (by simp only [jcats_cons, jcats_nil, cat_int, cat_long, cat_double, cat_float, cat_ref, rv_cat]; decide) jml_23 (Nat.le_of_ble_eq_true rfl) ?_
      replace h := jgd_of h; obtain ⟨hb18, h⟩ := h
      replace h := obd_of h; obtain ⟨x19, hx19, h⟩ := h
      refine jr_V6_2 jf_85_49 hb18 (by omega) (r_Section_lessTimes (by omega) _ _ _ _ _ hx19) (by simp only [jcats_cons, jcats_nil, cat_int, cat_long, cat_double, cat_float, cat_ref, rv_cat]; decide) jml_81 (Nat.le_of_ble_eq_true rfl) ?_
      replace h := obd_of h; obtain ⟨a20, rfl, h⟩ := h
      replace h := obd_of h; obtain ⟨x21, hx21, h⟩ := h
      rcases ite_or hx21 with ⟨hb, hx⟩ | ⟨hb0, hx⟩
      · refine jr_V8a_2 jf_85_52 hb (by omega) (r_Real_plus (by omega) _ _ _ _ _ hx) (Nat.le_of_ble_eq_true rfl) jml_65 (Nat.le_of_ble_eq_true rfl) ?_
        replace h := jgd_of h; obtain ⟨hb22, h⟩ := h
        replace h := jbd2_of h; obtain ⟨x23, μ24, hx23, h⟩ := h
        refine jr_V6_1 jf_85_55 hb22 (by omega) (r_Section_settled (by omega) _ _ _ _ _ hx23) (Nat.le_of_ble_eq_true rfl) jml_70 (Nat.le_of_ble_eq_true rfl) ?_
        refine jr_lstore jf_85_58 jml_85 (by decide) ?_
        refine jr_aload_n jf_85_60 rfl (jg2_ne rfl (jg2_ne rfl (jg2_ne rfl hl0))) ?_
        replace h := obd_of h; obtain ⟨x25, hx25, h⟩ := h
        refine jr_getA jf_85_61 hx25 ?_
        refine jr_aload_n jf_85_64 rfl (jg2_ne rfl (jg2_ne rfl (jg2_ne rfl hl0))) ?_
        refine jr_iconst jf_85_65 jc_i_0 ?_
        refine jr_lload jf_85_66 jg2_same ?_
        replace h := jgd_of h; obtain ⟨hb26, h⟩ := h
        replace h := obd_of h; obtain ⟨x27, hx27, h⟩ := h
        refine jr_V6_2 jf_85_68 hb26 (by omega) (r_Section_times (by omega) _ _ _ _ _ hx27) (by simp only [jcats_cons, jcats_nil, cat_int, cat_long, cat_double, cat_float, cat_ref, rv_cat]; decide) jml_78 (Nat.le_of_ble_eq_true rfl) ?_
        refine jr_aload_n jf_85_71 rfl (jg2_ne rfl (jg2_ne rfl (jg2_ne rfl hl0))) ?_
        refine jr_iconst jf_85_72 jc_i_1 ?_
        refine jr_lload_n jf_85_73 rfl (jg2_ne rfl (jg2_ne rfl jg2_same)) ?_
        replace h := jgd_of h; obtain ⟨hb28, h⟩ := h
        replace h := obd_of h; obtain ⟨x29, hx29, h⟩ := h
        refine jr_V6_2 jf_85_74 hb28 (by omega) (r_Section_times (by omega) _ _ _ _ _ hx29) (by simp only [jcats_cons, jcats_nil, cat_int, cat_long, cat_double, cat_float, cat_ref, rv_cat]; decide) jml_78 (Nat.le_of_ble_eq_true rfl) ?_
        replace h := obd_of h; obtain ⟨a30, rfl, h⟩ := h
        replace h := obd_of h; obtain ⟨x31, hx31, h⟩ := h
        rcases ite_or hx31 with ⟨hb, hx⟩ | ⟨hb0, hx⟩
        · refine jr_V8a_2 jf_85_77 hb (by omega) (r_Real_plus (by omega) _ _ _ _ _ hx) (Nat.le_of_ble_eq_true rfl) jml_65 (Nat.le_of_ble_eq_true rfl) ?_
          refine jr_lstore jf_85_80 jml_85 (by decide) ?_
          refine jr_aload_n jf_85_82 rfl (jg2_ne rfl (jg2_ne rfl (jg2_ne rfl (jg2_ne rfl hl0)))) ?_
          refine jr_aload_n jf_85_83 rfl (jg2_ne rfl (jg2_ne rfl (jg2_ne rfl (jg2_ne rfl hl0)))) ?_
          replace h := obd_of h; obtain ⟨x32, hx32, h⟩ := h
          refine jr_getA jf_85_84 hx32 ?_
          refine jr_lload jf_85_87 jg2_same ?_
          refine jr_aload_n jf_85_89 rfl (jg2_ne rfl (jg2_ne rfl (jg2_ne rfl (jg2_ne rfl hl0)))) ?_
          refine jr_iconst jf_85_90 jc_i_2 ?_
          refine jr_aload_n jf_85_91 rfl (jg2_ne rfl (jg2_ne rfl (jg2_ne rfl (jg2_ne rfl hl0)))) ?_
          replace h := obd_of h; obtain ⟨x33, hx33, h⟩ := h
          refine jr_getA jf_85_92 hx33 ?_
          refine jr_iconst jf_85_95 jc_i_1 ?_
          replace h := obd_of h; obtain ⟨a34, rfl, h⟩ := h
          replace h := jgd_of h; obtain ⟨hb35, h⟩ := h
          replace h := obd_of h; obtain ⟨x36, hx36, h⟩ := h
          refine jr_V6_1 jf_85_96 hb35 (by omega) (r_Row_at (by omega) _ _ _ _ hx36) (by simp only [jcats_cons, jcats_nil, cat_int, cat_long, cat_double, cat_float, cat_ref, rv_cat]; decide) jml_23 (Nat.le_of_ble_eq_true rfl) ?_
          replace h := jgd_of h; obtain ⟨hb37, h⟩ := h
          replace h := obd_of h; obtain ⟨x38, hx38, h⟩ := h
          refine jr_V6_2 jf_85_99 hb37 (by omega) (r_Section_times (by omega) _ _ _ _ _ hx38) (by simp only [jcats_cons, jcats_nil, cat_int, cat_long, cat_double, cat_float, cat_ref, rv_cat]; decide) jml_78 (Nat.le_of_ble_eq_true rfl) ?_
          replace h := obd_of h; obtain ⟨a39, rfl, h⟩ := h
          replace h := obd_of h; obtain ⟨x40, hx40, h⟩ := h
          rcases ite_or hx40 with ⟨hb, hx⟩ | ⟨hb0, hx⟩
          · refine jr_V8a_2 jf_85_102 hb (by omega) (r_Real_plus (by omega) _ _ _ _ _ hx) (Nat.le_of_ble_eq_true rfl) jml_65 (Nat.le_of_ble_eq_true rfl) ?_
            replace h := jgd_of h; obtain ⟨hb41, h⟩ := h
            replace h := jbd2_of h; obtain ⟨x42, μ43, hx42, h⟩ := h
            refine jr_V6_1 jf_85_105 hb41 (by omega) (r_Section_settled (by omega) _ _ _ _ _ hx42) (Nat.le_of_ble_eq_true rfl) jml_70 (Nat.le_of_ble_eq_true rfl) ?_
            refine jr_lstore jf_85_108 jml_85 (by decide) ?_
            refine jr_aload_n jf_85_110 rfl (jg2_ne rfl (jg2_ne rfl (jg2_ne rfl (jg2_ne rfl (jg2_ne rfl hl0))))) ?_
            replace h := obd_of h; obtain ⟨x44, hx44, h⟩ := h
            refine jr_getA jf_85_111 hx44 ?_
            refine jr_iconst jf_85_114 jc_i_1 ?_
            refine jr_lload_n jf_85_115 rfl (jg2_ne rfl (jg2_ne rfl (jg2_ne rfl (jg2_ne rfl jg2_same)))) ?_
            replace h := obd_of h; obtain ⟨a45, rfl, h⟩ := h
            replace h := jgd_of h; obtain ⟨hb46, h⟩ := h
            replace h := obd_of h; obtain ⟨μ47, hμ47, h⟩ := h
            refine jr_V6v_2 jf_85_116 hb46 (by omega) (r_Row_put (by omega) _ _ _ _ _ hμ47) (Nat.le_of_ble_eq_true rfl) jml_50 (Nat.le_of_ble_eq_true rfl) ?_
            refine jr_aload_n jf_85_119 rfl (jg2_ne rfl (jg2_ne rfl (jg2_ne rfl (jg2_ne rfl (jg2_ne rfl hl0))))) ?_
            replace h := obd_of h; obtain ⟨x48, hx48, h⟩ := h
            refine jr_getA jf_85_120 hx48 ?_
            refine jr_iconst jf_85_123 jc_i_0 ?_
            refine jr_lload jf_85_124 (jg2_ne rfl (jg2_ne rfl jg2_same)) ?_
            replace h := obd_of h; obtain ⟨a49, rfl, h⟩ := h
            replace h := jgd_of h; obtain ⟨hb50, h⟩ := h
            replace h := obd_of h; obtain ⟨μ51, hμ51, h⟩ := h
            refine jr_V6v_2 jf_85_126 hb50 (by omega) (r_Row_put (by omega) _ _ _ _ _ hμ51) (Nat.le_of_ble_eq_true rfl) jml_50 (Nat.le_of_ble_eq_true rfl) ?_
            refine jr_lload jf_85_129 jg2_same ?_
            obtain ⟨rfl, rfl⟩ := Prod.mk.inj (Option.some.inj h)
            exact jr_retJ jf_85_131 jmt_85
          · obtain ⟨hb, hx⟩ := jgd_of hx
            obtain hx := Option.some.inj hx
            refine jr_V8b_2 jf_85_102 hb0 hb (by omega) (r_Shorts_plus (by omega) _ _ _ _ _ hx) (Nat.le_of_ble_eq_true rfl) jml_69 (Nat.le_of_ble_eq_true rfl) ?_
            replace h := jgd_of h; obtain ⟨hb41, h⟩ := h
            replace h := jbd2_of h; obtain ⟨x42, μ43, hx42, h⟩ := h
            refine jr_V6_1 jf_85_105 hb41 (by omega) (r_Section_settled (by omega) _ _ _ _ _ hx42) (Nat.le_of_ble_eq_true rfl) jml_70 (Nat.le_of_ble_eq_true rfl) ?_
            refine jr_lstore jf_85_108 jml_85 (by decide) ?_
            refine jr_aload_n jf_85_110 rfl (jg2_ne rfl (jg2_ne rfl (jg2_ne rfl (jg2_ne rfl (jg2_ne rfl hl0))))) ?_
            replace h := obd_of h; obtain ⟨x44, hx44, h⟩ := h
            refine jr_getA jf_85_111 hx44 ?_
            refine jr_iconst jf_85_114 jc_i_1 ?_
            refine jr_lload_n jf_85_115 rfl (jg2_ne rfl (jg2_ne rfl (jg2_ne rfl (jg2_ne rfl jg2_same)))) ?_
            replace h := obd_of h; obtain ⟨a45, rfl, h⟩ := h
            replace h := jgd_of h; obtain ⟨hb46, h⟩ := h
            replace h := obd_of h; obtain ⟨μ47, hμ47, h⟩ := h
            refine jr_V6v_2 jf_85_116 hb46 (by omega) (r_Row_put (by omega) _ _ _ _ _ hμ47) (Nat.le_of_ble_eq_true rfl) jml_50 (Nat.le_of_ble_eq_true rfl) ?_
            refine jr_aload_n jf_85_119 rfl (jg2_ne rfl (jg2_ne rfl (jg2_ne rfl (jg2_ne rfl (jg2_ne rfl hl0))))) ?_
            replace h := obd_of h; obtain ⟨x48, hx48, h⟩ := h
            refine jr_getA jf_85_120 hx48 ?_
            refine jr_iconst jf_85_123 jc_i_0 ?_
            refine jr_lload jf_85_124 (jg2_ne rfl (jg2_ne rfl jg2_same)) ?_
            replace h := obd_of h; obtain ⟨a49, rfl, h⟩ := h
            replace h := jgd_of h; obtain ⟨hb50, h⟩ := h
            replace h := obd_of h; obtain ⟨μ51, hμ51, h⟩ := h
            refine jr_V6v_2 jf_85_126 hb50 (by omega) (r_Row_put (by omega) _ _ _ _ _ hμ51) (Nat.le_of_ble_eq_true rfl) jml_50 (Nat.le_of_ble_eq_true rfl) ?_
            refine jr_lload jf_85_129 jg2_same ?_
            obtain ⟨rfl, rfl⟩ := Prod.mk.inj (Option.some.inj h)
            exact jr_retJ jf_85_131 jmt_85
        · obtain ⟨hb, hx⟩ := jgd_of hx
          obtain hx := Option.some.inj hx
          refine jr_V8b_2 jf_85_77 hb0 hb (by omega) (r_Shorts_plus (by omega) _ _ _ _ _ hx) (Nat.le_of_ble_eq_true rfl) jml_69 (Nat.le_of_ble_eq_true rfl) ?_
          refine jr_lstore jf_85_80 jml_85 (by decide) ?_
          refine jr_aload_n jf_85_82 rfl (jg2_ne rfl (jg2_ne rfl (jg2_ne rfl (jg2_ne rfl hl0)))) ?_
          refine jr_aload_n jf_85_83 rfl (jg2_ne rfl (jg2_ne rfl (jg2_ne rfl (jg2_ne rfl hl0)))) ?_
          replace h := obd_of h; obtain ⟨x32, hx32, h⟩ := h
          refine jr_getA jf_85_84 hx32 ?_
          refine jr_lload jf_85_87 jg2_same ?_
          refine jr_aload_n jf_85_89 rfl (jg2_ne rfl (jg2_ne rfl (jg2_ne rfl (jg2_ne rfl hl0)))) ?_
          refine jr_iconst jf_85_90 jc_i_2 ?_
          refine jr_aload_n jf_85_91 rfl (jg2_ne rfl (jg2_ne rfl (jg2_ne rfl (jg2_ne rfl hl0)))) ?_
          replace h := obd_of h; obtain ⟨x33, hx33, h⟩ := h
          refine jr_getA jf_85_92 hx33 ?_
          refine jr_iconst jf_85_95 jc_i_1 ?_
          replace h := obd_of h; obtain ⟨a34, rfl, h⟩ := h
          replace h := jgd_of h; obtain ⟨hb35, h⟩ := h
          replace h := obd_of h; obtain ⟨x36, hx36, h⟩ := h
          refine jr_V6_1 jf_85_96 hb35 (by omega) (r_Row_at (by omega) _ _ _ _ hx36) (by simp only [jcats_cons, jcats_nil, cat_int, cat_long, cat_double, cat_float, cat_ref, rv_cat]; decide) jml_23 (Nat.le_of_ble_eq_true rfl) ?_
          replace h := jgd_of h; obtain ⟨hb37, h⟩ := h
          replace h := obd_of h; obtain ⟨x38, hx38, h⟩ := h
          refine jr_V6_2 jf_85_99 hb37 (by omega) (r_Section_times (by omega) _ _ _ _ _ hx38) (by simp only [jcats_cons, jcats_nil, cat_int, cat_long, cat_double, cat_float, cat_ref, rv_cat]; decide) jml_78 (Nat.le_of_ble_eq_true rfl) ?_
          replace h := obd_of h; obtain ⟨a39, rfl, h⟩ := h
          replace h := obd_of h; obtain ⟨x40, hx40, h⟩ := h
          rcases ite_or hx40 with ⟨hb, hx⟩ | ⟨hb0, hx⟩
          · refine jr_V8a_2 jf_85_102 hb (by omega) (r_Real_plus (by omega) _ _ _ _ _ hx) (Nat.le_of_ble_eq_true rfl) jml_65 (Nat.le_of_ble_eq_true rfl) ?_
            replace h := jgd_of h; obtain ⟨hb41, h⟩ := h
            replace h := jbd2_of h; obtain ⟨x42, μ43, hx42, h⟩ := h
            refine jr_V6_1 jf_85_105 hb41 (by omega) (r_Section_settled (by omega) _ _ _ _ _ hx42) (Nat.le_of_ble_eq_true rfl) jml_70 (Nat.le_of_ble_eq_true rfl) ?_
            refine jr_lstore jf_85_108 jml_85 (by decide) ?_
            refine jr_aload_n jf_85_110 rfl (jg2_ne rfl (jg2_ne rfl (jg2_ne rfl (jg2_ne rfl (jg2_ne rfl hl0))))) ?_
            replace h := obd_of h; obtain ⟨x44, hx44, h⟩ := h
            refine jr_getA jf_85_111 hx44 ?_
            refine jr_iconst jf_85_114 jc_i_1 ?_
            refine jr_lload_n jf_85_115 rfl (jg2_ne rfl (jg2_ne rfl (jg2_ne rfl (jg2_ne rfl jg2_same)))) ?_
            replace h := obd_of h; obtain ⟨a45, rfl, h⟩ := h
            replace h := jgd_of h; obtain ⟨hb46, h⟩ := h
            replace h := obd_of h; obtain ⟨μ47, hμ47, h⟩ := h
            refine jr_V6v_2 jf_85_116 hb46 (by omega) (r_Row_put (by omega) _ _ _ _ _ hμ47) (Nat.le_of_ble_eq_true rfl) jml_50 (Nat.le_of_ble_eq_true rfl) ?_
            refine jr_aload_n jf_85_119 rfl (jg2_ne rfl (jg2_ne rfl (jg2_ne rfl (jg2_ne rfl (jg2_ne rfl hl0))))) ?_
            replace h := obd_of h; obtain ⟨x48, hx48, h⟩ := h
            refine jr_getA jf_85_120 hx48 ?_
            refine jr_iconst jf_85_123 jc_i_0 ?_
            refine jr_lload jf_85_124 (jg2_ne rfl (jg2_ne rfl jg2_same)) ?_
            replace h := obd_of h; obtain ⟨a49, rfl, h⟩ := h
            replace h := jgd_of h; obtain ⟨hb50, h⟩ := h
            replace h := obd_of h; obtain ⟨μ51, hμ51, h⟩ := h
            refine jr_V6v_2 jf_85_126 hb50 (by omega) (r_Row_put (by omega) _ _ _ _ _ hμ51) (Nat.le_of_ble_eq_true rfl) jml_50 (Nat.le_of_ble_eq_true rfl) ?_
            refine jr_lload jf_85_129 jg2_same ?_
            obtain ⟨rfl, rfl⟩ := Prod.mk.inj (Option.some.inj h)
            exact jr_retJ jf_85_131 jmt_85
          · obtain ⟨hb, hx⟩ := jgd_of hx
            obtain hx := Option.some.inj hx
            refine jr_V8b_2 jf_85_102 hb0 hb (by omega) (r_Shorts_plus (by omega) _ _ _ _ _ hx) (Nat.le_of_ble_eq_true rfl) jml_69 (Nat.le_of_ble_eq_true rfl) ?_
            replace h := jgd_of h; obtain ⟨hb41, h⟩ := h
            replace h := jbd2_of h; obtain ⟨x42, μ43, hx42, h⟩ := h
            refine jr_V6_1 jf_85_105 hb41 (by omega) (r_Section_settled (by omega) _ _ _ _ _ hx42) (Nat.le_of_ble_eq_true rfl) jml_70 (Nat.le_of_ble_eq_true rfl) ?_
            refine jr_lstore jf_85_108 jml_85 (by decide) ?_
            refine jr_aload_n jf_85_110 rfl (jg2_ne rfl (jg2_ne rfl (jg2_ne rfl (jg2_ne rfl (jg2_ne rfl hl0))))) ?_
            replace h := obd_of h; obtain ⟨x44, hx44, h⟩ := h
            refine jr_getA jf_85_111 hx44 ?_
            refine jr_iconst jf_85_114 jc_i_1 ?_
            refine jr_lload_n jf_85_115 rfl (jg2_ne rfl (jg2_ne rfl (jg2_ne rfl (jg2_ne rfl jg2_same)))) ?_
            replace h := obd_of h; obtain ⟨a45, rfl, h⟩ := h
            replace h := jgd_of h; obtain ⟨hb46, h⟩ := h
            replace h := obd_of h; obtain ⟨μ47, hμ47, h⟩ := h
            refine jr_V6v_2 jf_85_116 hb46 (by omega) (r_Row_put (by omega) _ _ _ _ _ hμ47) (Nat.le_of_ble_eq_true rfl) jml_50 (Nat.le_of_ble_eq_true rfl) ?_
            refine jr_aload_n jf_85_119 rfl (jg2_ne rfl (jg2_ne rfl (jg2_ne rfl (jg2_ne rfl (jg2_ne rfl hl0))))) ?_
            replace h := obd_of h; obtain ⟨x48, hx48, h⟩ := h
            refine jr_getA jf_85_120 hx48 ?_
            refine jr_iconst jf_85_123 jc_i_0 ?_
            refine jr_lload jf_85_124 (jg2_ne rfl (jg2_ne rfl jg2_same)) ?_
            replace h := obd_of h; obtain ⟨a49, rfl, h⟩ := h
            replace h := jgd_of h; obtain ⟨hb50, h⟩ := h
            replace h := obd_of h; obtain ⟨μ51, hμ51, h⟩ := h
            refine jr_V6v_2 jf_85_126 hb50 (by omega) (r_Row_put (by omega) _ _ _ _ _ hμ51) (Nat.le_of_ble_eq_true rfl) jml_50 (Nat.le_of_ble_eq_true rfl) ?_
            refine jr_lload jf_85_129 jg2_same ?_
            obtain ⟨rfl, rfl⟩ := Prod.mk.inj (Option.some.inj h)
            exact jr_retJ jf_85_131 jmt_85
      · obtain ⟨hb, hx⟩ := jgd_of hx
        obtain hx := Option.some.inj hx
        refine jr_V8b_2 jf_85_52 hb0 hb (by omega) (r_Shorts_plus (by omega) _ _ _ _ _ hx) (Nat.le_of_ble_eq_true rfl) jml_69 (Nat.le_of_ble_eq_true rfl) ?_
        replace h := jgd_of h; obtain ⟨hb22, h⟩ := h
        replace h := jbd2_of h; obtain ⟨x23, μ24, hx23, h⟩ := h
        refine jr_V6_1 jf_85_55 hb22 (by omega) (r_Section_settled (by omega) _ _ _ _ _ hx23) (Nat.le_of_ble_eq_true rfl) jml_70 (Nat.le_of_ble_eq_true rfl) ?_
        refine jr_lstore jf_85_58 jml_85 (by decide) ?_
        refine jr_aload_n jf_85_60 rfl (jg2_ne rfl (jg2_ne rfl (jg2_ne rfl hl0))) ?_
        replace h := obd_of h; obtain ⟨x25, hx25, h⟩ := h
        refine jr_getA jf_85_61 hx25 ?_
        refine jr_aload_n jf_85_64 rfl (jg2_ne rfl (jg2_ne rfl (jg2_ne rfl hl0))) ?_
        refine jr_iconst jf_85_65 jc_i_0 ?_
        refine jr_lload jf_85_66 jg2_same ?_
        replace h := jgd_of h; obtain ⟨hb26, h⟩ := h
        replace h := obd_of h; obtain ⟨x27, hx27, h⟩ := h
        refine jr_V6_2 jf_85_68 hb26 (by omega) (r_Section_times (by omega) _ _ _ _ _ hx27) (by simp only [jcats_cons, jcats_nil, cat_int, cat_long, cat_double, cat_float, cat_ref, rv_cat]; decide) jml_78 (Nat.le_of_ble_eq_true rfl) ?_
        refine jr_aload_n jf_85_71 rfl (jg2_ne rfl (jg2_ne rfl (jg2_ne rfl hl0))) ?_
        refine jr_iconst jf_85_72 jc_i_1 ?_
        refine jr_lload_n jf_85_73 rfl (jg2_ne rfl (jg2_ne rfl jg2_same)) ?_
        replace h := jgd_of h; obtain ⟨hb28, h⟩ := h
        replace h := obd_of h; obtain ⟨x29, hx29, h⟩ := h
        refine jr_V6_2 jf_85_74 hb28 (by omega) (r_Section_times (by omega) _ _ _ _ _ hx29) (by simp only [jcats_cons, jcats_nil, cat_int, cat_long, cat_double, cat_float, cat_ref, rv_cat]; decide) jml_78 (Nat.le_of_ble_eq_true rfl) ?_
        replace h := obd_of h; obtain ⟨a30, rfl, h⟩ := h
        replace h := obd_of h; obtain ⟨x31, hx31, h⟩ := h
        rcases ite_or hx31 with ⟨hb, hx⟩ | ⟨hb0, hx⟩
        · refine jr_V8a_2 jf_85_77 hb (by omega) (r_Real_plus (by omega) _ _ _ _ _ hx) (Nat.le_of_ble_eq_true rfl) jml_65 (Nat.le_of_ble_eq_true rfl) ?_
          refine jr_lstore jf_85_80 jml_85 (by decide) ?_
          refine jr_aload_n jf_85_82 rfl (jg2_ne rfl (jg2_ne rfl (jg2_ne rfl (jg2_ne rfl hl0)))) ?_
          refine jr_aload_n jf_85_83 rfl (jg2_ne rfl (jg2_ne rfl (jg2_ne rfl (jg2_ne rfl hl0)))) ?_
          replace h := obd_of h; obtain ⟨x32, hx32, h⟩ := h
          refine jr_getA jf_85_84 hx32 ?_
          refine jr_lload jf_85_87 jg2_same ?_
          refine jr_aload_n jf_85_89 rfl (jg2_ne rfl (jg2_ne rfl (jg2_ne rfl (jg2_ne rfl hl0)))) ?_
          refine jr_iconst jf_85_90 jc_i_2 ?_
          refine jr_aload_n jf_85_91 rfl (jg2_ne rfl (jg2_ne rfl (jg2_ne rfl (jg2_ne rfl hl0)))) ?_
          replace h := obd_of h; obtain ⟨x33, hx33, h⟩ := h
          refine jr_getA jf_85_92 hx33 ?_
          refine jr_iconst jf_85_95 jc_i_1 ?_
          replace h := obd_of h; obtain ⟨a34, rfl, h⟩ := h
          replace h := jgd_of h; obtain ⟨hb35, h⟩ := h
          replace h := obd_of h; obtain ⟨x36, hx36, h⟩ := h
          refine jr_V6_1 jf_85_96 hb35 (by omega) (r_Row_at (by omega) _ _ _ _ hx36) (by simp only [jcats_cons, jcats_nil, cat_int, cat_long, cat_double, cat_float, cat_ref, rv_cat]; decide) jml_23 (Nat.le_of_ble_eq_true rfl) ?_
          replace h := jgd_of h; obtain ⟨hb37, h⟩ := h
          replace h := obd_of h; obtain ⟨x38, hx38, h⟩ := h
          refine jr_V6_2 jf_85_99 hb37 (by omega) (r_Section_times (by omega) _ _ _ _ _ hx38) (by simp only [jcats_cons, jcats_nil, cat_int, cat_long, cat_double, cat_float, cat_ref, rv_cat]; decide) jml_78 (Nat.le_of_ble_eq_true rfl) ?_
          replace h := obd_of h; obtain ⟨a39, rfl, h⟩ := h
          replace h := obd_of h; obtain ⟨x40, hx40, h⟩ := h
          rcases ite_or hx40 with ⟨hb, hx⟩ | ⟨hb0, hx⟩
          · refine jr_V8a_2 jf_85_102 hb (by omega) (r_Real_plus (by omega) _ _ _ _ _ hx) (Nat.le_of_ble_eq_true rfl) jml_65 (Nat.le_of_ble_eq_true rfl) ?_
            replace h := jgd_of h; obtain ⟨hb41, h⟩ := h
            replace h := jbd2_of h; obtain ⟨x42, μ43, hx42, h⟩ := h
            refine jr_V6_1 jf_85_105 hb41 (by omega) (r_Section_settled (by omega) _ _ _ _ _ hx42) (Nat.le_of_ble_eq_true rfl) jml_70 (Nat.le_of_ble_eq_true rfl) ?_
            refine jr_lstore jf_85_108 jml_85 (by decide) ?_
            refine jr_aload_n jf_85_110 rfl (jg2_ne rfl (jg2_ne rfl (jg2_ne rfl (jg2_ne rfl (jg2_ne rfl hl0))))) ?_
            replace h := obd_of h; obtain ⟨x44, hx44, h⟩ := h
            refine jr_getA jf_85_111 hx44 ?_
            refine jr_iconst jf_85_114 jc_i_1 ?_
            refine jr_lload_n jf_85_115 rfl (jg2_ne rfl (jg2_ne rfl (jg2_ne rfl (jg2_ne rfl jg2_same)))) ?_
            replace h := obd_of h; obtain ⟨a45, rfl, h⟩ := h
            replace h := jgd_of h; obtain ⟨hb46, h⟩ := h
            replace h := obd_of h; obtain ⟨μ47, hμ47, h⟩ := h
            refine jr_V6v_2 jf_85_116 hb46 (by omega) (r_Row_put (by omega) _ _ _ _ _ hμ47) (Nat.le_of_ble_eq_true rfl) jml_50 (Nat.le_of_ble_eq_true rfl) ?_
            refine jr_aload_n jf_85_119 rfl (jg2_ne rfl (jg2_ne rfl (jg2_ne rfl (jg2_ne rfl (jg2_ne rfl hl0))))) ?_
            replace h := obd_of h; obtain ⟨x48, hx48, h⟩ := h
            refine jr_getA jf_85_120 hx48 ?_
            refine jr_iconst jf_85_123 jc_i_0 ?_
            refine jr_lload jf_85_124 (jg2_ne rfl (jg2_ne rfl jg2_same)) ?_
            replace h := obd_of h; obtain ⟨a49, rfl, h⟩ := h
            replace h := jgd_of h; obtain ⟨hb50, h⟩ := h
            replace h := obd_of h; obtain ⟨μ51, hμ51, h⟩ := h
            refine jr_V6v_2 jf_85_126 hb50 (by omega) (r_Row_put (by omega) _ _ _ _ _ hμ51) (Nat.le_of_ble_eq_true rfl) jml_50 (Nat.le_of_ble_eq_true rfl) ?_
            refine jr_lload jf_85_129 jg2_same ?_
            obtain ⟨rfl, rfl⟩ := Prod.mk.inj (Option.some.inj h)
            exact jr_retJ jf_85_131 jmt_85
          · obtain ⟨hb, hx⟩ := jgd_of hx
            obtain hx := Option.some.inj hx
            refine jr_V8b_2 jf_85_102 hb0 hb (by omega) (r_Shorts_plus (by omega) _ _ _ _ _ hx) (Nat.le_of_ble_eq_true rfl) jml_69 (Nat.le_of_ble_eq_true rfl) ?_
            replace h := jgd_of h; obtain ⟨hb41, h⟩ := h
            replace h := jbd2_of h; obtain ⟨x42, μ43, hx42, h⟩ := h
            refine jr_V6_1 jf_85_105 hb41 (by omega) (r_Section_settled (by omega) _ _ _ _ _ hx42) (Nat.le_of_ble_eq_true rfl) jml_70 (Nat.le_of_ble_eq_true rfl) ?_
            refine jr_lstore jf_85_108 jml_85 (by decide) ?_
            refine jr_aload_n jf_85_110 rfl (jg2_ne rfl (jg2_ne rfl (jg2_ne rfl (jg2_ne rfl (jg2_ne rfl hl0))))) ?_
            replace h := obd_of h; obtain ⟨x44, hx44, h⟩ := h
            refine jr_getA jf_85_111 hx44 ?_
            refine jr_iconst jf_85_114 jc_i_1 ?_
            refine jr_lload_n jf_85_115 rfl (jg2_ne rfl (jg2_ne rfl (jg2_ne rfl (jg2_ne rfl jg2_same)))) ?_
            replace h := obd_of h; obtain ⟨a45, rfl, h⟩ := h
            replace h := jgd_of h; obtain ⟨hb46, h⟩ := h
            replace h := obd_of h; obtain ⟨μ47, hμ47, h⟩ := h
            refine jr_V6v_2 jf_85_116 hb46 (by omega) (r_Row_put (by omega) _ _ _ _ _ hμ47) (Nat.le_of_ble_eq_true rfl) jml_50 (Nat.le_of_ble_eq_true rfl) ?_
            refine jr_aload_n jf_85_119 rfl (jg2_ne rfl (jg2_ne rfl (jg2_ne rfl (jg2_ne rfl (jg2_ne rfl hl0))))) ?_
            replace h := obd_of h; obtain ⟨x48, hx48, h⟩ := h
            refine jr_getA jf_85_120 hx48 ?_
            refine jr_iconst jf_85_123 jc_i_0 ?_
            refine jr_lload jf_85_124 (jg2_ne rfl (jg2_ne rfl jg2_same)) ?_
            replace h := obd_of h; obtain ⟨a49, rfl, h⟩ := h
            replace h := jgd_of h; obtain ⟨hb50, h⟩ := h
            replace h := obd_of h; obtain ⟨μ51, hμ51, h⟩ := h
            refine jr_V6v_2 jf_85_126 hb50 (by omega) (r_Row_put (by omega) _ _ _ _ _ hμ51) (Nat.le_of_ble_eq_true rfl) jml_50 (Nat.le_of_ble_eq_true rfl) ?_
            refine jr_lload jf_85_129 jg2_same ?_
            obtain ⟨rfl, rfl⟩ := Prod.mk.inj (Option.some.inj h)
            exact jr_retJ jf_85_131 jmt_85
        · obtain ⟨hb, hx⟩ := jgd_of hx
          obtain hx := Option.some.inj hx
          refine jr_V8b_2 jf_85_77 hb0 hb (by omega) (r_Shorts_plus (by omega) _ _ _ _ _ hx) (Nat.le_of_ble_eq_true rfl) jml_69 (Nat.le_of_ble_eq_true rfl) ?_
          refine jr_lstore jf_85_80 jml_85 (by decide) ?_
          refine jr_aload_n jf_85_82 rfl (jg2_ne rfl (jg2_ne rfl (jg2_ne rfl (jg2_ne rfl hl0)))) ?_
          refine jr_aload_n jf_85_83 rfl (jg2_ne rfl (jg2_ne rfl (jg2_ne rfl (jg2_ne rfl hl0)))) ?_
          replace h := obd_of h; obtain ⟨x32, hx32, h⟩ := h
          refine jr_getA jf_85_84 hx32 ?_
          refine jr_lload jf_85_87 jg2_same ?_
          refine jr_aload_n jf_85_89 rfl (jg2_ne rfl (jg2_ne rfl (jg2_ne rfl (jg2_ne rfl hl0)))) ?_
          refine jr_iconst jf_85_90 jc_i_2 ?_
          refine jr_aload_n jf_85_91 rfl (jg2_ne rfl (jg2_ne rfl (jg2_ne rfl (jg2_ne rfl hl0)))) ?_
          replace h := obd_of h; obtain ⟨x33, hx33, h⟩ := h
          refine jr_getA jf_85_92 hx33 ?_
          refine jr_iconst jf_85_95 jc_i_1 ?_
          replace h := obd_of h; obtain ⟨a34, rfl, h⟩ := h
          replace h := jgd_of h; obtain ⟨hb35, h⟩ := h
          replace h := obd_of h; obtain ⟨x36, hx36, h⟩ := h
          refine jr_V6_1 jf_85_96 hb35 (by omega) (r_Row_at (by omega) _ _ _ _ hx36) (by simp only [jcats_cons, jcats_nil, cat_int, cat_long, cat_double, cat_float, cat_ref, rv_cat]; decide) jml_23 (Nat.le_of_ble_eq_true rfl) ?_
          replace h := jgd_of h; obtain ⟨hb37, h⟩ := h
          replace h := obd_of h; obtain ⟨x38, hx38, h⟩ := h
          refine jr_V6_2 jf_85_99 hb37 (by omega) (r_Section_times (by omega) _ _ _ _ _ hx38) (by simp only [jcats_cons, jcats_nil, cat_int, cat_long, cat_double, cat_float, cat_ref, rv_cat]; decide) jml_78 (Nat.le_of_ble_eq_true rfl) ?_
          replace h := obd_of h; obtain ⟨a39, rfl, h⟩ := h
          replace h := obd_of h; obtain ⟨x40, hx40, h⟩ := h
          rcases ite_or hx40 with ⟨hb, hx⟩ | ⟨hb0, hx⟩
          · refine jr_V8a_2 jf_85_102 hb (by omega) (r_Real_plus (by omega) _ _ _ _ _ hx) (Nat.le_of_ble_eq_true rfl) jml_65 (Nat.le_of_ble_eq_true rfl) ?_
            replace h := jgd_of h; obtain ⟨hb41, h⟩ := h
            replace h := jbd2_of h; obtain ⟨x42, μ43, hx42, h⟩ := h
            refine jr_V6_1 jf_85_105 hb41 (by omega) (r_Section_settled (by omega) _ _ _ _ _ hx42) (Nat.le_of_ble_eq_true rfl) jml_70 (Nat.le_of_ble_eq_true rfl) ?_
            refine jr_lstore jf_85_108 jml_85 (by decide) ?_
            refine jr_aload_n jf_85_110 rfl (jg2_ne rfl (jg2_ne rfl (jg2_ne rfl (jg2_ne rfl (jg2_ne rfl hl0))))) ?_
            replace h := obd_of h; obtain ⟨x44, hx44, h⟩ := h
            refine jr_getA jf_85_111 hx44 ?_
            refine jr_iconst jf_85_114 jc_i_1 ?_
            refine jr_lload_n jf_85_115 rfl (jg2_ne rfl (jg2_ne rfl (jg2_ne rfl (jg2_ne rfl jg2_same)))) ?_
            replace h := obd_of h; obtain ⟨a45, rfl, h⟩ := h
            replace h := jgd_of h; obtain ⟨hb46, h⟩ := h
            replace h := obd_of h; obtain ⟨μ47, hμ47, h⟩ := h
            refine jr_V6v_2 jf_85_116 hb46 (by omega) (r_Row_put (by omega) _ _ _ _ _ hμ47) (Nat.le_of_ble_eq_true rfl) jml_50 (Nat.le_of_ble_eq_true rfl) ?_
            refine jr_aload_n jf_85_119 rfl (jg2_ne rfl (jg2_ne rfl (jg2_ne rfl (jg2_ne rfl (jg2_ne rfl hl0))))) ?_
            replace h := obd_of h; obtain ⟨x48, hx48, h⟩ := h
            refine jr_getA jf_85_120 hx48 ?_
            refine jr_iconst jf_85_123 jc_i_0 ?_
            refine jr_lload jf_85_124 (jg2_ne rfl (jg2_ne rfl jg2_same)) ?_
            replace h := obd_of h; obtain ⟨a49, rfl, h⟩ := h
            replace h := jgd_of h; obtain ⟨hb50, h⟩ := h
            replace h := obd_of h; obtain ⟨μ51, hμ51, h⟩ := h
            refine jr_V6v_2 jf_85_126 hb50 (by omega) (r_Row_put (by omega) _ _ _ _ _ hμ51) (Nat.le_of_ble_eq_true rfl) jml_50 (Nat.le_of_ble_eq_true rfl) ?_
            refine jr_lload jf_85_129 jg2_same ?_
            obtain ⟨rfl, rfl⟩ := Prod.mk.inj (Option.some.inj h)
            exact jr_retJ jf_85_131 jmt_85
          · obtain ⟨hb, hx⟩ := jgd_of hx
            obtain hx := Option.some.inj hx
            refine jr_V8b_2 jf_85_102 hb0 hb (by omega) (r_Shorts_plus (by omega) _ _ _ _ _ hx) (Nat.le_of_ble_eq_true rfl) jml_69 (Nat.le_of_ble_eq_true rfl) ?_
            replace h := jgd_of h; obtain ⟨hb41, h⟩ := h
            replace h := jbd2_of h; obtain ⟨x42, μ43, hx42, h⟩ := h
            refine jr_V6_1 jf_85_105 hb41 (by omega) (r_Section_settled (by omega) _ _ _ _ _ hx42) (Nat.le_of_ble_eq_true rfl) jml_70 (Nat.le_of_ble_eq_true rfl) ?_
            refine jr_lstore jf_85_108 jml_85 (by decide) ?_
            refine jr_aload_n jf_85_110 rfl (jg2_ne rfl (jg2_ne rfl (jg2_ne rfl (jg2_ne rfl (jg2_ne rfl hl0))))) ?_
            replace h := obd_of h; obtain ⟨x44, hx44, h⟩ := h
            refine jr_getA jf_85_111 hx44 ?_
            refine jr_iconst jf_85_114 jc_i_1 ?_
            refine jr_lload_n jf_85_115 rfl (jg2_ne rfl (jg2_ne rfl (jg2_ne rfl (jg2_ne rfl jg2_same)))) ?_
            replace h := obd_of h; obtain ⟨a45, rfl, h⟩ := h
            replace h := jgd_of h; obtain ⟨hb46, h⟩ := h
            replace h := obd_of h; obtain ⟨μ47, hμ47, h⟩ := h
            refine jr_V6v_2 jf_85_116 hb46 (by omega) (r_Row_put (by omega) _ _ _ _ _ hμ47) (Nat.le_of_ble_eq_true rfl) jml_50 (Nat.le_of_ble_eq_true rfl) ?_
            refine jr_aload_n jf_85_119 rfl (jg2_ne rfl (jg2_ne rfl (jg2_ne rfl (jg2_ne rfl (jg2_ne rfl hl0))))) ?_
            replace h := obd_of h; obtain ⟨x48, hx48, h⟩ := h
            refine jr_getA jf_85_120 hx48 ?_
            refine jr_iconst jf_85_123 jc_i_0 ?_
            refine jr_lload jf_85_124 (jg2_ne rfl (jg2_ne rfl jg2_same)) ?_
            replace h := obd_of h; obtain ⟨a49, rfl, h⟩ := h
            replace h := jgd_of h; obtain ⟨hb50, h⟩ := h
            replace h := obd_of h; obtain ⟨μ51, hμ51, h⟩ := h
            refine jr_V6v_2 jf_85_126 hb50 (by omega) (r_Row_put (by omega) _ _ _ _ _ hμ51) (Nat.le_of_ble_eq_true rfl) jml_50 (Nat.le_of_ble_eq_true rfl) ?_
            refine jr_lload jf_85_129 jg2_same ?_
            obtain ⟨rfl, rfl⟩ := Prod.mk.inj (Option.some.inj h)
            exact jr_retJ jf_85_131 jmt_85
    · obtain ⟨hb, hx⟩ := jgd_of hx
      obtain hx := Option.some.inj hx
      refine jr_V8b_2 jf_85_27 hb0 hb (by omega) (r_Shorts_plus (by omega) _ _ _ _ _ hx) (Nat.le_of_ble_eq_true rfl) jml_69 (Nat.le_of_ble_eq_true rfl) ?_
      refine jr_lstore jf_85_30 jml_85 (by decide) ?_
      refine jr_aload_n jf_85_32 rfl (jg2_ne rfl (jg2_ne rfl hl0)) ?_
      refine jr_aload_n jf_85_33 rfl (jg2_ne rfl (jg2_ne rfl hl0)) ?_
      replace h := obd_of h; obtain ⟨x13, hx13, h⟩ := h
      refine jr_getA jf_85_34 hx13 ?_
      refine jr_lload jf_85_37 jg2_same ?_
      refine jr_aload_n jf_85_39 rfl (jg2_ne rfl (jg2_ne rfl hl0)) ?_
      refine jr_iconst jf_85_40 jc_i_4 ?_
      refine jr_aload_n jf_85_41 rfl (jg2_ne rfl (jg2_ne rfl hl0)) ?_
      replace h := obd_of h; obtain ⟨x14, hx14, h⟩ := h
      refine jr_getA jf_85_42 hx14 ?_
      refine jr_iconst jf_85_45 jc_i_1 ?_
      replace h := obd_of h; obtain ⟨a15, rfl, h⟩ := h
      replace h := jgd_of h; obtain ⟨hb16, h⟩ := h
      replace h := obd_of h; obtain ⟨x17, hx17, h⟩ := h
      refine jr_V6_1 jf_85_46 hb16 (by omega) (r_Row_at (by omega) _ _ _ _ hx17) (by simp only [jcats_cons, jcats_nil, cat_int, cat_long, cat_double, cat_float, cat_ref, rv_cat]; decide) jml_23 (Nat.le_of_ble_eq_true rfl) ?_
      replace h := jgd_of h; obtain ⟨hb18, h⟩ := h
      replace h := obd_of h; obtain ⟨x19, hx19, h⟩ := h
      refine jr_V6_2 jf_85_49 hb18 (by omega) (r_Section_lessTimes (by omega) _ _ _ _ _ hx19) (by simp only [jcats_cons, jcats_nil, cat_int, cat_long, cat_double, cat_float, cat_ref, rv_cat]; decide) jml_81 (Nat.le_of_ble_eq_true rfl) ?_
      replace h := obd_of h; obtain ⟨a20, rfl, h⟩ := h
      replace h := obd_of h; obtain ⟨x21, hx21, h⟩ := h
      rcases ite_or hx21 with ⟨hb, hx⟩ | ⟨hb0, hx⟩
      · refine jr_V8a_2 jf_85_52 hb (by omega) (r_Real_plus (by omega) _ _ _ _ _ hx) (Nat.le_of_ble_eq_true rfl) jml_65 (Nat.le_of_ble_eq_true rfl) ?_
        replace h := jgd_of h; obtain ⟨hb22, h⟩ := h
        replace h := jbd2_of h; obtain ⟨x23, μ24, hx23, h⟩ := h
        refine jr_V6_1 jf_85_55 hb22 (by omega) (r_Section_settled (by omega) _ _ _ _ _ hx23) (Nat.le_of_ble_eq_true rfl) jml_70 (Nat.le_of_ble_eq_true rfl) ?_
        refine jr_lstore jf_85_58 jml_85 (by decide) ?_
        refine jr_aload_n jf_85_60 rfl (jg2_ne rfl (jg2_ne rfl (jg2_ne rfl hl0))) ?_
        replace h := obd_of h; obtain ⟨x25, hx25, h⟩ := h
        refine jr_getA jf_85_61 hx25 ?_
        refine jr_aload_n jf_85_64 rfl (jg2_ne rfl (jg2_ne rfl (jg2_ne rfl hl0))) ?_
        refine jr_iconst jf_85_65 jc_i_0 ?_
        refine jr_lload jf_85_66 jg2_same ?_
        replace h := jgd_of h; obtain ⟨hb26, h⟩ := h
        replace h := obd_of h; obtain ⟨x27, hx27, h⟩ := h
        refine jr_V6_2 jf_85_68 hb26 (by omega) (r_Section_times (by omega) _ _ _ _ _ hx27) (by simp only [jcats_cons, jcats_nil, cat_int, cat_long, cat_double, cat_float, cat_ref, rv_cat]; decide) jml_78 (Nat.le_of_ble_eq_true rfl) ?_
        refine jr_aload_n jf_85_71 rfl (jg2_ne rfl (jg2_ne rfl (jg2_ne rfl hl0))) ?_
        refine jr_iconst jf_85_72 jc_i_1 ?_
        refine jr_lload_n jf_85_73 rfl (jg2_ne rfl (jg2_ne rfl jg2_same)) ?_
        replace h := jgd_of h; obtain ⟨hb28, h⟩ := h
        replace h := obd_of h; obtain ⟨x29, hx29, h⟩ := h
        refine jr_V6_2 jf_85_74 hb28 (by omega) (r_Section_times (by omega) _ _ _ _ _ hx29) (by simp only [jcats_cons, jcats_nil, cat_int, cat_long, cat_double, cat_float, cat_ref, rv_cat]; decide) jml_78 (Nat.le_of_ble_eq_true rfl) ?_
        replace h := obd_of h; obtain ⟨a30, rfl, h⟩ := h
        replace h := obd_of h; obtain ⟨x31, hx31, h⟩ := h
        rcases ite_or hx31 with ⟨hb, hx⟩ | ⟨hb0, hx⟩
        · refine jr_V8a_2 jf_85_77 hb (by omega) (r_Real_plus (by omega) _ _ _ _ _ hx) (Nat.le_of_ble_eq_true rfl) jml_65 (Nat.le_of_ble_eq_true rfl) ?_
          refine jr_lstore jf_85_80 jml_85 (by decide) ?_
          refine jr_aload_n jf_85_82 rfl (jg2_ne rfl (jg2_ne rfl (jg2_ne rfl (jg2_ne rfl hl0)))) ?_
          refine jr_aload_n jf_85_83 rfl (jg2_ne rfl (jg2_ne rfl (jg2_ne rfl (jg2_ne rfl hl0)))) ?_
          replace h := obd_of h; obtain ⟨x32, hx32, h⟩ := h
          refine jr_getA jf_85_84 hx32 ?_
          refine jr_lload jf_85_87 jg2_same ?_
          refine jr_aload_n jf_85_89 rfl (jg2_ne rfl (jg2_ne rfl (jg2_ne rfl (jg2_ne rfl hl0)))) ?_
          refine jr_iconst jf_85_90 jc_i_2 ?_
          refine jr_aload_n jf_85_91 rfl (jg2_ne rfl (jg2_ne rfl (jg2_ne rfl (jg2_ne rfl hl0)))) ?_
          replace h := obd_of h; obtain ⟨x33, hx33, h⟩ := h
          refine jr_getA jf_85_92 hx33 ?_
          refine jr_iconst jf_85_95 jc_i_1 ?_
          replace h := obd_of h; obtain ⟨a34, rfl, h⟩ := h
          replace h := jgd_of h; obtain ⟨hb35, h⟩ := h
          replace h := obd_of h; obtain ⟨x36, hx36, h⟩ := h
          refine jr_V6_1 jf_85_96 hb35 (by omega) (r_Row_at (by omega) _ _ _ _ hx36) (by simp only [jcats_cons, jcats_nil, cat_int, cat_long, cat_double, cat_float, cat_ref, rv_cat]; decide) jml_23 (Nat.le_of_ble_eq_true rfl) ?_
          replace h := jgd_of h; obtain ⟨hb37, h⟩ := h
          replace h := obd_of h; obtain ⟨x38, hx38, h⟩ := h
          refine jr_V6_2 jf_85_99 hb37 (by omega) (r_Section_times (by omega) _ _ _ _ _ hx38) (by simp only [jcats_cons, jcats_nil, cat_int, cat_long, cat_double, cat_float, cat_ref, rv_cat]; decide) jml_78 (Nat.le_of_ble_eq_true rfl) ?_
          replace h := obd_of h; obtain ⟨a39, rfl, h⟩ := h
          replace h := obd_of h; obtain ⟨x40, hx40, h⟩ := h
          rcases ite_or hx40 with ⟨hb, hx⟩ | ⟨hb0, hx⟩
          · refine jr_V8a_2 jf_85_102 hb (by omega) (r_Real_plus (by omega) _ _ _ _ _ hx) (Nat.le_of_ble_eq_true rfl) jml_65 (Nat.le_of_ble_eq_true rfl) ?_
            replace h := jgd_of h; obtain ⟨hb41, h⟩ := h
            replace h := jbd2_of h; obtain ⟨x42, μ43, hx42, h⟩ := h
            refine jr_V6_1 jf_85_105 hb41 (by omega) (r_Section_settled (by omega) _ _ _ _ _ hx42) (Nat.le_of_ble_eq_true rfl) jml_70 (Nat.le_of_ble_eq_true rfl) ?_
            refine jr_lstore jf_85_108 jml_85 (by decide) ?_
            refine jr_aload_n jf_85_110 rfl (jg2_ne rfl (jg2_ne rfl (jg2_ne rfl (jg2_ne rfl (jg2_ne rfl hl0))))) ?_
            replace h := obd_of h; obtain ⟨x44, hx44, h⟩ := h
            refine jr_getA jf_85_111 hx44 ?_
            refine jr_iconst jf_85_114 jc_i_1 ?_
            refine jr_lload_n jf_85_115 rfl (jg2_ne rfl (jg2_ne rfl (jg2_ne rfl (jg2_ne rfl jg2_same)))) ?_
            replace h := obd_of h; obtain ⟨a45, rfl, h⟩ := h
            replace h := jgd_of h; obtain ⟨hb46, h⟩ := h
            replace h := obd_of h; obtain ⟨μ47, hμ47, h⟩ := h
            refine jr_V6v_2 jf_85_116 hb46 (by omega) (r_Row_put (by omega) _ _ _ _ _ hμ47) (Nat.le_of_ble_eq_true rfl) jml_50 (Nat.le_of_ble_eq_true rfl) ?_
            refine jr_aload_n jf_85_119 rfl (jg2_ne rfl (jg2_ne rfl (jg2_ne rfl (jg2_ne rfl (jg2_ne rfl hl0))))) ?_
            replace h := obd_of h; obtain ⟨x48, hx48, h⟩ := h
            refine jr_getA jf_85_120 hx48 ?_
            refine jr_iconst jf_85_123 jc_i_0 ?_
            refine jr_lload jf_85_124 (jg2_ne rfl (jg2_ne rfl jg2_same)) ?_
            replace h := obd_of h; obtain ⟨a49, rfl, h⟩ := h
            replace h := jgd_of h; obtain ⟨hb50, h⟩ := h
            replace h := obd_of h; obtain ⟨μ51, hμ51, h⟩ := h
            refine jr_V6v_2 jf_85_126 hb50 (by omega) (r_Row_put (by omega) _ _ _ _ _ hμ51) (Nat.le_of_ble_eq_true rfl) jml_50 (Nat.le_of_ble_eq_true rfl) ?_
            refine jr_lload jf_85_129 jg2_same ?_
            obtain ⟨rfl, rfl⟩ := Prod.mk.inj (Option.some.inj h)
            exact jr_retJ jf_85_131 jmt_85
          · obtain ⟨hb, hx⟩ := jgd_of hx
            obtain hx := Option.some.inj hx
            refine jr_V8b_2 jf_85_102 hb0 hb (by omega) (r_Shorts_plus (by omega) _ _ _ _ _ hx) (Nat.le_of_ble_eq_true rfl) jml_69 (Nat.le_of_ble_eq_true rfl) ?_
            replace h := jgd_of h; obtain ⟨hb41, h⟩ := h
            replace h := jbd2_of h; obtain ⟨x42, μ43, hx42, h⟩ := h
            refine jr_V6_1 jf_85_105 hb41 (by omega) (r_Section_settled (by omega) _ _ _ _ _ hx42) (Nat.le_of_ble_eq_true rfl) jml_70 (Nat.le_of_ble_eq_true rfl) ?_
            refine jr_lstore jf_85_108 jml_85 (by decide) ?_
            refine jr_aload_n jf_85_110 rfl (jg2_ne rfl (jg2_ne rfl (jg2_ne rfl (jg2_ne rfl (jg2_ne rfl hl0))))) ?_
            replace h := obd_of h; obtain ⟨x44, hx44, h⟩ := h
            refine jr_getA jf_85_111 hx44 ?_
            refine jr_iconst jf_85_114 jc_i_1 ?_
            refine jr_lload_n jf_85_115 rfl (jg2_ne rfl (jg2_ne rfl (jg2_ne rfl (jg2_ne rfl jg2_same)))) ?_
            replace h := obd_of h; obtain ⟨a45, rfl, h⟩ := h
            replace h := jgd_of h; obtain ⟨hb46, h⟩ := h
            replace h := obd_of h; obtain ⟨μ47, hμ47, h⟩ := h
            refine jr_V6v_2 jf_85_116 hb46 (by omega) (r_Row_put (by omega) _ _ _ _ _ hμ47) (Nat.le_of_ble_eq_true rfl) jml_50 (Nat.le_of_ble_eq_true rfl) ?_
            refine jr_aload_n jf_85_119 rfl (jg2_ne rfl (jg2_ne rfl (jg2_ne rfl (jg2_ne rfl (jg2_ne rfl hl0))))) ?_
            replace h := obd_of h; obtain ⟨x48, hx48, h⟩ := h
            refine jr_getA jf_85_120 hx48 ?_
            refine jr_iconst jf_85_123 jc_i_0 ?_
            refine jr_lload jf_85_124 (jg2_ne rfl (jg2_ne rfl jg2_same)) ?_
            replace h := obd_of h; obtain ⟨a49, rfl, h⟩ := h
            replace h := jgd_of h; obtain ⟨hb50, h⟩ := h
            replace h := obd_of h; obtain ⟨μ51, hμ51, h⟩ := h
            refine jr_V6v_2 jf_85_126 hb50 (by omega) (r_Row_put (by omega) _ _ _ _ _ hμ51) (Nat.le_of_ble_eq_true rfl) jml_50 (Nat.le_of_ble_eq_true rfl) ?_
            refine jr_lload jf_85_129 jg2_same ?_
            obtain ⟨rfl, rfl⟩ := Prod.mk.inj (Option.some.inj h)
            exact jr_retJ jf_85_131 jmt_85
        · obtain ⟨hb, hx⟩ := jgd_of hx
          obtain hx := Option.some.inj hx
          refine jr_V8b_2 jf_85_77 hb0 hb (by omega) (r_Shorts_plus (by omega) _ _ _ _ _ hx) (Nat.le_of_ble_eq_true rfl) jml_69 (Nat.le_of_ble_eq_true rfl) ?_
          refine jr_lstore jf_85_80 jml_85 (by decide) ?_
          refine jr_aload_n jf_85_82 rfl (jg2_ne rfl (jg2_ne rfl (jg2_ne rfl (jg2_ne rfl hl0)))) ?_
          refine jr_aload_n jf_85_83 rfl (jg2_ne rfl (jg2_ne rfl (jg2_ne rfl (jg2_ne rfl hl0)))) ?_
          replace h := obd_of h; obtain ⟨x32, hx32, h⟩ := h
          refine jr_getA jf_85_84 hx32 ?_
          refine jr_lload jf_85_87 jg2_same ?_
          refine jr_aload_n jf_85_89 rfl (jg2_ne rfl (jg2_ne rfl (jg2_ne rfl (jg2_ne rfl hl0)))) ?_
          refine jr_iconst jf_85_90 jc_i_2 ?_
          refine jr_aload_n jf_85_91 rfl (jg2_ne rfl (jg2_ne rfl (jg2_ne rfl (jg2_ne rfl hl0)))) ?_
          replace h := obd_of h; obtain ⟨x33, hx33, h⟩ := h
          refine jr_getA jf_85_92 hx33 ?_
          refine jr_iconst jf_85_95 jc_i_1 ?_
          replace h := obd_of h; obtain ⟨a34, rfl, h⟩ := h
          replace h := jgd_of h; obtain ⟨hb35, h⟩ := h
          replace h := obd_of h; obtain ⟨x36, hx36, h⟩ := h
          refine jr_V6_1 jf_85_96 hb35 (by omega) (r_Row_at (by omega) _ _ _ _ hx36) (by simp only [jcats_cons, jcats_nil, cat_int, cat_long, cat_double, cat_float, cat_ref, rv_cat]; decide) jml_23 (Nat.le_of_ble_eq_true rfl) ?_
          replace h := jgd_of h; obtain ⟨hb37, h⟩ := h
          replace h := obd_of h; obtain ⟨x38, hx38, h⟩ := h
          refine jr_V6_2 jf_85_99 hb37 (by omega) (r_Section_times (by omega) _ _ _ _ _ hx38) (by simp only [jcats_cons, jcats_nil, cat_int, cat_long, cat_double, cat_float, cat_ref, rv_cat]; decide) jml_78 (Nat.le_of_ble_eq_true rfl) ?_
          replace h := obd_of h; obtain ⟨a39, rfl, h⟩ := h
          replace h := obd_of h; obtain ⟨x40, hx40, h⟩ := h
          rcases ite_or hx40 with ⟨hb, hx⟩ | ⟨hb0, hx⟩
          · refine jr_V8a_2 jf_85_102 hb (by omega) (r_Real_plus (by omega) _ _ _ _ _ hx) (Nat.le_of_ble_eq_true rfl) jml_65 (Nat.le_of_ble_eq_true rfl) ?_
            replace h := jgd_of h; obtain ⟨hb41, h⟩ := h
            replace h := jbd2_of h; obtain ⟨x42, μ43, hx42, h⟩ := h
            refine jr_V6_1 jf_85_105 hb41 (by omega) (r_Section_settled (by omega) _ _ _ _ _ hx42) (Nat.le_of_ble_eq_true rfl) jml_70 (Nat.le_of_ble_eq_true rfl) ?_
            refine jr_lstore jf_85_108 jml_85 (by decide) ?_
            refine jr_aload_n jf_85_110 rfl (jg2_ne rfl (jg2_ne rfl (jg2_ne rfl (jg2_ne rfl (jg2_ne rfl hl0))))) ?_
            replace h := obd_of h; obtain ⟨x44, hx44, h⟩ := h
            refine jr_getA jf_85_111 hx44 ?_
            refine jr_iconst jf_85_114 jc_i_1 ?_
            refine jr_lload_n jf_85_115 rfl (jg2_ne rfl (jg2_ne rfl (jg2_ne rfl (jg2_ne rfl jg2_same)))) ?_
            replace h := obd_of h; obtain ⟨a45, rfl, h⟩ := h
            replace h := jgd_of h; obtain ⟨hb46, h⟩ := h
            replace h := obd_of h; obtain ⟨μ47, hμ47, h⟩ := h
            refine jr_V6v_2 jf_85_116 hb46 (by omega) (r_Row_put (by omega) _ _ _ _ _ hμ47) (Nat.le_of_ble_eq_true rfl) jml_50 (Nat.le_of_ble_eq_true rfl) ?_
            refine jr_aload_n jf_85_119 rfl (jg2_ne rfl (jg2_ne rfl (jg2_ne rfl (jg2_ne rfl (jg2_ne rfl hl0))))) ?_
            replace h := obd_of h; obtain ⟨x48, hx48, h⟩ := h
            refine jr_getA jf_85_120 hx48 ?_
            refine jr_iconst jf_85_123 jc_i_0 ?_
            refine jr_lload jf_85_124 (jg2_ne rfl (jg2_ne rfl jg2_same)) ?_
            replace h := obd_of h; obtain ⟨a49, rfl, h⟩ := h
            replace h := jgd_of h; obtain ⟨hb50, h⟩ := h
            replace h := obd_of h; obtain ⟨μ51, hμ51, h⟩ := h
            refine jr_V6v_2 jf_85_126 hb50 (by omega) (r_Row_put (by omega) _ _ _ _ _ hμ51) (Nat.le_of_ble_eq_true rfl) jml_50 (Nat.le_of_ble_eq_true rfl) ?_
            refine jr_lload jf_85_129 jg2_same ?_
            obtain ⟨rfl, rfl⟩ := Prod.mk.inj (Option.some.inj h)
            exact jr_retJ jf_85_131 jmt_85
          · obtain ⟨hb, hx⟩ := jgd_of hx
            obtain hx := Option.some.inj hx
            refine jr_V8b_2 jf_85_102 hb0 hb (by omega) (r_Shorts_plus (by omega) _ _ _ _ _ hx) (Nat.le_of_ble_eq_true rfl) jml_69 (Nat.le_of_ble_eq_true rfl) ?_
            replace h := jgd_of h; obtain ⟨hb41, h⟩ := h
            replace h := jbd2_of h; obtain ⟨x42, μ43, hx42, h⟩ := h
            refine jr_V6_1 jf_85_105 hb41 (by omega) (r_Section_settled (by omega) _ _ _ _ _ hx42) (Nat.le_of_ble_eq_true rfl) jml_70 (Nat.le_of_ble_eq_true rfl) ?_
            refine jr_lstore jf_85_108 jml_85 (by decide) ?_
            refine jr_aload_n jf_85_110 rfl (jg2_ne rfl (jg2_ne rfl (jg2_ne rfl (jg2_ne rfl (jg2_ne rfl hl0))))) ?_
            replace h := obd_of h; obtain ⟨x44, hx44, h⟩ := h
            refine jr_getA jf_85_111 hx44 ?_
            refine jr_iconst jf_85_114 jc_i_1 ?_
            refine jr_lload_n jf_85_115 rfl (jg2_ne rfl (jg2_ne rfl (jg2_ne rfl (jg2_ne rfl jg2_same)))) ?_
            replace h := obd_of h; obtain ⟨a45, rfl, h⟩ := h
            replace h := jgd_of h; obtain ⟨hb46, h⟩ := h
            replace h := obd_of h; obtain ⟨μ47, hμ47, h⟩ := h
            refine jr_V6v_2 jf_85_116 hb46 (by omega) (r_Row_put (by omega) _ _ _ _ _ hμ47) (Nat.le_of_ble_eq_true rfl) jml_50 (Nat.le_of_ble_eq_true rfl) ?_
            refine jr_aload_n jf_85_119 rfl (jg2_ne rfl (jg2_ne rfl (jg2_ne rfl (jg2_ne rfl (jg2_ne rfl hl0))))) ?_
            replace h := obd_of h; obtain ⟨x48, hx48, h⟩ := h
            refine jr_getA jf_85_120 hx48 ?_
            refine jr_iconst jf_85_123 jc_i_0 ?_
            refine jr_lload jf_85_124 (jg2_ne rfl (jg2_ne rfl jg2_same)) ?_
            replace h := obd_of h; obtain ⟨a49, rfl, h⟩ := h
            replace h := jgd_of h; obtain ⟨hb50, h⟩ := h
            replace h := obd_of h; obtain ⟨μ51, hμ51, h⟩ := h
            refine jr_V6v_2 jf_85_126 hb50 (by omega) (r_Row_put (by omega) _ _ _ _ _ hμ51) (Nat.le_of_ble_eq_true rfl) jml_50 (Nat.le_of_ble_eq_true rfl) ?_
            refine jr_lload jf_85_129 jg2_same ?_
            obtain ⟨rfl, rfl⟩ := Prod.mk.inj (Option.some.inj h)
            exact jr_retJ jf_85_131 jmt_85
      · obtain ⟨hb, hx⟩ := jgd_of hx
        obtain hx := Option.some.inj hx
        refine jr_V8b_2 jf_85_52 hb0 hb (by omega) (r_Shorts_plus (by omega) _ _ _ _ _ hx) (Nat.le_of_ble_eq_true rfl) jml_69 (Nat.le_of_ble_eq_true rfl) ?_
        replace h := jgd_of h; obtain ⟨hb22, h⟩ := h
        replace h := jbd2_of h; obtain ⟨x23, μ24, hx23, h⟩ := h
        refine jr_V6_1 jf_85_55 hb22 (by omega) (r_Section_settled (by omega) _ _ _ _ _ hx23) (Nat.le_of_ble_eq_true rfl) jml_70 (Nat.le_of_ble_eq_true rfl) ?_
        refine jr_lstore jf_85_58 jml_85 (by decide) ?_
        refine jr_aload_n jf_85_60 rfl (jg2_ne rfl (jg2_ne rfl (jg2_ne rfl hl0))) ?_
        replace h := obd_of h; obtain ⟨x25, hx25, h⟩ := h
        refine jr_getA jf_85_61 hx25 ?_
        refine jr_aload_n jf_85_64 rfl (jg2_ne rfl (jg2_ne rfl (jg2_ne rfl hl0))) ?_
        refine jr_iconst jf_85_65 jc_i_0 ?_
        refine jr_lload jf_85_66 jg2_same ?_
        replace h := jgd_of h; obtain ⟨hb26, h⟩ := h
        replace h := obd_of h; obtain ⟨x27, hx27, h⟩ := h
        refine jr_V6_2 jf_85_68 hb26 (by omega) (r_Section_times (by omega) _ _ _ _ _ hx27) (by simp only [jcats_cons, jcats_nil, cat_int, cat_long, cat_double, cat_float, cat_ref, rv_cat]; decide) jml_78 (Nat.le_of_ble_eq_true rfl) ?_
        refine jr_aload_n jf_85_71 rfl (jg2_ne rfl (jg2_ne rfl (jg2_ne rfl hl0))) ?_
        refine jr_iconst jf_85_72 jc_i_1 ?_
        refine jr_lload_n jf_85_73 rfl (jg2_ne rfl (jg2_ne rfl jg2_same)) ?_
        replace h := jgd_of h; obtain ⟨hb28, h⟩ := h
        replace h := obd_of h; obtain ⟨x29, hx29, h⟩ := h
        refine jr_V6_2 jf_85_74 hb28 (by omega) (r_Section_times (by omega) _ _ _ _ _ hx29) (by simp only [jcats_cons, jcats_nil, cat_int, cat_long, cat_double, cat_float, cat_ref, rv_cat]; decide) jml_78 (Nat.le_of_ble_eq_true rfl) ?_
        replace h := obd_of h; obtain ⟨a30, rfl, h⟩ := h
        replace h := obd_of h; obtain ⟨x31, hx31, h⟩ := h
        rcases ite_or hx31 with ⟨hb, hx⟩ | ⟨hb0, hx⟩
        · refine jr_V8a_2 jf_85_77 hb (by omega) (r_Real_plus (by omega) _ _ _ _ _ hx) (Nat.le_of_ble_eq_true rfl) jml_65 (Nat.le_of_ble_eq_true rfl) ?_
          refine jr_lstore jf_85_80 jml_85 (by decide) ?_
          refine jr_aload_n jf_85_82 rfl (jg2_ne rfl (jg2_ne rfl (jg2_ne rfl (jg2_ne rfl hl0)))) ?_
          refine jr_aload_n jf_85_83 rfl (jg2_ne rfl (jg2_ne rfl (jg2_ne rfl (jg2_ne rfl hl0)))) ?_
          replace h := obd_of h; obtain ⟨x32, hx32, h⟩ := h
          refine jr_getA jf_85_84 hx32 ?_
          refine jr_lload jf_85_87 jg2_same ?_
          refine jr_aload_n jf_85_89 rfl (jg2_ne rfl (jg2_ne rfl (jg2_ne rfl (jg2_ne rfl hl0)))) ?_
          refine jr_iconst jf_85_90 jc_i_2 ?_
          refine jr_aload_n jf_85_91 rfl (jg2_ne rfl (jg2_ne rfl (jg2_ne rfl (jg2_ne rfl hl0)))) ?_
          replace h := obd_of h; obtain ⟨x33, hx33, h⟩ := h
          refine jr_getA jf_85_92 hx33 ?_
          refine jr_iconst jf_85_95 jc_i_1 ?_
          replace h := obd_of h; obtain ⟨a34, rfl, h⟩ := h
          replace h := jgd_of h; obtain ⟨hb35, h⟩ := h
          replace h := obd_of h; obtain ⟨x36, hx36, h⟩ := h
          refine jr_V6_1 jf_85_96 hb35 (by omega) (r_Row_at (by omega) _ _ _ _ hx36) (by simp only [jcats_cons, jcats_nil, cat_int, cat_long, cat_double, cat_float, cat_ref, rv_cat]; decide) jml_23 (Nat.le_of_ble_eq_true rfl) ?_
          replace h := jgd_of h; obtain ⟨hb37, h⟩ := h
          replace h := obd_of h; obtain ⟨x38, hx38, h⟩ := h
          refine jr_V6_2 jf_85_99 hb37 (by omega) (r_Section_times (by omega) _ _ _ _ _ hx38) (by simp only [jcats_cons, jcats_nil, cat_int, cat_long, cat_double, cat_float, cat_ref, rv_cat]; decide) jml_78 (Nat.le_of_ble_eq_true rfl) ?_
          replace h := obd_of h; obtain ⟨a39, rfl, h⟩ := h
          replace h := obd_of h; obtain ⟨x40, hx40, h⟩ := h
          rcases ite_or hx40 with ⟨hb, hx⟩ | ⟨hb0, hx⟩
          · refine jr_V8a_2 jf_85_102 hb (by omega) (r_Real_plus (by omega) _ _ _ _ _ hx) (Nat.le_of_ble_eq_true rfl) jml_65 (Nat.le_of_ble_eq_true rfl) ?_
            replace h := jgd_of h; obtain ⟨hb41, h⟩ := h
            replace h := jbd2_of h; obtain ⟨x42, μ43, hx42, h⟩ := h
            refine jr_V6_1 jf_85_105 hb41 (by omega) (r_Section_settled (by omega) _ _ _ _ _ hx42) (Nat.le_of_ble_eq_true rfl) jml_70 (Nat.le_of_ble_eq_true rfl) ?_
            refine jr_lstore jf_85_108 jml_85 (by decide) ?_
            refine jr_aload_n jf_85_110 rfl (jg2_ne rfl (jg2_ne rfl (jg2_ne rfl (jg2_ne rfl (jg2_ne rfl hl0))))) ?_
            replace h := obd_of h; obtain ⟨x44, hx44, h⟩ := h
            refine jr_getA jf_85_111 hx44 ?_
            refine jr_iconst jf_85_114 jc_i_1 ?_
            refine jr_lload_n jf_85_115 rfl (jg2_ne rfl (jg2_ne rfl (jg2_ne rfl (jg2_ne rfl jg2_same)))) ?_
            replace h := obd_of h; obtain ⟨a45, rfl, h⟩ := h
            replace h := jgd_of h; obtain ⟨hb46, h⟩ := h
            replace h := obd_of h; obtain ⟨μ47, hμ47, h⟩ := h
            refine jr_V6v_2 jf_85_116 hb46 (by omega) (r_Row_put (by omega) _ _ _ _ _ hμ47) (Nat.le_of_ble_eq_true rfl) jml_50 (Nat.le_of_ble_eq_true rfl) ?_
            refine jr_aload_n jf_85_119 rfl (jg2_ne rfl (jg2_ne rfl (jg2_ne rfl (jg2_ne rfl (jg2_ne rfl hl0))))) ?_
            replace h := obd_of h; obtain ⟨x48, hx48, h⟩ := h
            refine jr_getA jf_85_120 hx48 ?_
            refine jr_iconst jf_85_123 jc_i_0 ?_
            refine jr_lload jf_85_124 (jg2_ne rfl (jg2_ne rfl jg2_same)) ?_
            replace h := obd_of h; obtain ⟨a49, rfl, h⟩ := h
            replace h := jgd_of h; obtain ⟨hb50, h⟩ := h
            replace h := obd_of h; obtain ⟨μ51, hμ51, h⟩ := h
            refine jr_V6v_2 jf_85_126 hb50 (by omega) (r_Row_put (by omega) _ _ _ _ _ hμ51) (Nat.le_of_ble_eq_true rfl) jml_50 (Nat.le_of_ble_eq_true rfl) ?_
            refine jr_lload jf_85_129 jg2_same ?_
            obtain ⟨rfl, rfl⟩ := Prod.mk.inj (Option.some.inj h)
            exact jr_retJ jf_85_131 jmt_85
          · obtain ⟨hb, hx⟩ := jgd_of hx
            obtain hx := Option.some.inj hx
            refine jr_V8b_2 jf_85_102 hb0 hb (by omega) (r_Shorts_plus (by omega) _ _ _ _ _ hx) (Nat.le_of_ble_eq_true rfl) jml_69 (Nat.le_of_ble_eq_true rfl) ?_
            replace h := jgd_of h; obtain ⟨hb41, h⟩ := h
            replace h := jbd2_of h; obtain ⟨x42, μ43, hx42, h⟩ := h
            refine jr_V6_1 jf_85_105 hb41 (by omega) (r_Section_settled (by omega) _ _ _ _ _ hx42) (Nat.le_of_ble_eq_true rfl) jml_70 (Nat.le_of_ble_eq_true rfl) ?_
            refine jr_lstore jf_85_108 jml_85 (by decide) ?_
            refine jr_aload_n jf_85_110 rfl (jg2_ne rfl (jg2_ne rfl (jg2_ne rfl (jg2_ne rfl (jg2_ne rfl hl0))))) ?_
            replace h := obd_of h; obtain ⟨x44, hx44, h⟩ := h
            refine jr_getA jf_85_111 hx44 ?_
            refine jr_iconst jf_85_114 jc_i_1 ?_
            refine jr_lload_n jf_85_115 rfl (jg2_ne rfl (jg2_ne rfl (jg2_ne rfl (jg2_ne rfl jg2_same)))) ?_
            replace h := obd_of h; obtain ⟨a45, rfl, h⟩ := h
            replace h := jgd_of h; obtain ⟨hb46, h⟩ := h
            replace h := obd_of h; obtain ⟨μ47, hμ47, h⟩ := h
            refine jr_V6v_2 jf_85_116 hb46 (by omega) (r_Row_put (by omega) _ _ _ _ _ hμ47) (Nat.le_of_ble_eq_true rfl) jml_50 (Nat.le_of_ble_eq_true rfl) ?_
            refine jr_aload_n jf_85_119 rfl (jg2_ne rfl (jg2_ne rfl (jg2_ne rfl (jg2_ne rfl (jg2_ne rfl hl0))))) ?_
            replace h := obd_of h; obtain ⟨x48, hx48, h⟩ := h
            refine jr_getA jf_85_120 hx48 ?_
            refine jr_iconst jf_85_123 jc_i_0 ?_
            refine jr_lload jf_85_124 (jg2_ne rfl (jg2_ne rfl jg2_same)) ?_
            replace h := obd_of h; obtain ⟨a49, rfl, h⟩ := h
            replace h := jgd_of h; obtain ⟨hb50, h⟩ := h
            replace h := obd_of h; obtain ⟨μ51, hμ51, h⟩ := h
            refine jr_V6v_2 jf_85_126 hb50 (by omega) (r_Row_put (by omega) _ _ _ _ _ hμ51) (Nat.le_of_ble_eq_true rfl) jml_50 (Nat.le_of_ble_eq_true rfl) ?_
            refine jr_lload jf_85_129 jg2_same ?_
            obtain ⟨rfl, rfl⟩ := Prod.mk.inj (Option.some.inj h)
            exact jr_retJ jf_85_131 jmt_85
        · obtain ⟨hb, hx⟩ := jgd_of hx
          obtain hx := Option.some.inj hx
          refine jr_V8b_2 jf_85_77 hb0 hb (by omega) (r_Shorts_plus (by omega) _ _ _ _ _ hx) (Nat.le_of_ble_eq_true rfl) jml_69 (Nat.le_of_ble_eq_true rfl) ?_
          refine jr_lstore jf_85_80 jml_85 (by decide) ?_
          refine jr_aload_n jf_85_82 rfl (jg2_ne rfl (jg2_ne rfl (jg2_ne rfl (jg2_ne rfl hl0)))) ?_
          refine jr_aload_n jf_85_83 rfl (jg2_ne rfl (jg2_ne rfl (jg2_ne rfl (jg2_ne rfl hl0)))) ?_
          replace h := obd_of h; obtain ⟨x32, hx32, h⟩ := h
          refine jr_getA jf_85_84 hx32 ?_
          refine jr_lload jf_85_87 jg2_same ?_
          refine jr_aload_n jf_85_89 rfl (jg2_ne rfl (jg2_ne rfl (jg2_ne rfl (jg2_ne rfl hl0)))) ?_
          refine jr_iconst jf_85_90 jc_i_2 ?_
          refine jr_aload_n jf_85_91 rfl (jg2_ne rfl (jg2_ne rfl (jg2_ne rfl (jg2_ne rfl hl0)))) ?_
          replace h := obd_of h; obtain ⟨x33, hx33, h⟩ := h
          refine jr_getA jf_85_92 hx33 ?_
          refine jr_iconst jf_85_95 jc_i_1 ?_
          replace h := obd_of h; obtain ⟨a34, rfl, h⟩ := h
          replace h := jgd_of h; obtain ⟨hb35, h⟩ := h
          replace h := obd_of h; obtain ⟨x36, hx36, h⟩ := h
          refine jr_V6_1 jf_85_96 hb35 (by omega) (r_Row_at (by omega) _ _ _ _ hx36) (by simp only [jcats_cons, jcats_nil, cat_int, cat_long, cat_double, cat_float, cat_ref, rv_cat]; decide) jml_23 (Nat.le_of_ble_eq_true rfl) ?_
          replace h := jgd_of h; obtain ⟨hb37, h⟩ := h
          replace h := obd_of h; obtain ⟨x38, hx38, h⟩ := h
          refine jr_V6_2 jf_85_99 hb37 (by omega) (r_Section_times (by omega) _ _ _ _ _ hx38) (by simp only [jcats_cons, jcats_nil, cat_int, cat_long, cat_double, cat_float, cat_ref, rv_cat]; decide) jml_78 (Nat.le_of_ble_eq_true rfl) ?_
          replace h := obd_of h; obtain ⟨a39, rfl, h⟩ := h
          replace h := obd_of h; obtain ⟨x40, hx40, h⟩ := h
          rcases ite_or hx40 with ⟨hb, hx⟩ | ⟨hb0, hx⟩
          · refine jr_V8a_2 jf_85_102 hb (by omega) (r_Real_plus (by omega) _ _ _ _ _ hx) (Nat.le_of_ble_eq_true rfl) jml_65 (Nat.le_of_ble_eq_true rfl) ?_
            replace h := jgd_of h; obtain ⟨hb41, h⟩ := h
            replace h := jbd2_of h; obtain ⟨x42, μ43, hx42, h⟩ := h
            refine jr_V6_1 jf_85_105 hb41 (by omega) (r_Section_settled (by omega) _ _ _ _ _ hx42) (Nat.le_of_ble_eq_true rfl) jml_70 (Nat.le_of_ble_eq_true rfl) ?_
            refine jr_lstore jf_85_108 jml_85 (by decide) ?_
            refine jr_aload_n jf_85_110 rfl (jg2_ne rfl (jg2_ne rfl (jg2_ne rfl (jg2_ne rfl (jg2_ne rfl hl0))))) ?_
            replace h := obd_of h; obtain ⟨x44, hx44, h⟩ := h
            refine jr_getA jf_85_111 hx44 ?_
            refine jr_iconst jf_85_114 jc_i_1 ?_
            refine jr_lload_n jf_85_115 rfl (jg2_ne rfl (jg2_ne rfl (jg2_ne rfl (jg2_ne rfl jg2_same)))) ?_
            replace h := obd_of h; obtain ⟨a45, rfl, h⟩ := h
            replace h := jgd_of h; obtain ⟨hb46, h⟩ := h
            replace h := obd_of h; obtain ⟨μ47, hμ47, h⟩ := h
            refine jr_V6v_2 jf_85_116 hb46 (by omega) (r_Row_put (by omega) _ _ _ _ _ hμ47) (Nat.le_of_ble_eq_true rfl) jml_50 (Nat.le_of_ble_eq_true rfl) ?_
            refine jr_aload_n jf_85_119 rfl (jg2_ne rfl (jg2_ne rfl (jg2_ne rfl (jg2_ne rfl (jg2_ne rfl hl0))))) ?_
            replace h := obd_of h; obtain ⟨x48, hx48, h⟩ := h
            refine jr_getA jf_85_120 hx48 ?_
            refine jr_iconst jf_85_123 jc_i_0 ?_
            refine jr_lload jf_85_124 (jg2_ne rfl (jg2_ne rfl jg2_same)) ?_
            replace h := obd_of h; obtain ⟨a49, rfl, h⟩ := h
            replace h := jgd_of h; obtain ⟨hb50, h⟩ := h
            replace h := obd_of h; obtain ⟨μ51, hμ51, h⟩ := h
            refine jr_V6v_2 jf_85_126 hb50 (by omega) (r_Row_put (by omega) _ _ _ _ _ hμ51) (Nat.le_of_ble_eq_true rfl) jml_50 (Nat.le_of_ble_eq_true rfl) ?_
            refine jr_lload jf_85_129 jg2_same ?_
            obtain ⟨rfl, rfl⟩ := Prod.mk.inj (Option.some.inj h)
            exact jr_retJ jf_85_131 jmt_85
          · obtain ⟨hb, hx⟩ := jgd_of hx
            obtain hx := Option.some.inj hx
            refine jr_V8b_2 jf_85_102 hb0 hb (by omega) (r_Shorts_plus (by omega) _ _ _ _ _ hx) (Nat.le_of_ble_eq_true rfl) jml_69 (Nat.le_of_ble_eq_true rfl) ?_
            replace h := jgd_of h; obtain ⟨hb41, h⟩ := h
            replace h := jbd2_of h; obtain ⟨x42, μ43, hx42, h⟩ := h
            refine jr_V6_1 jf_85_105 hb41 (by omega) (r_Section_settled (by omega) _ _ _ _ _ hx42) (Nat.le_of_ble_eq_true rfl) jml_70 (Nat.le_of_ble_eq_true rfl) ?_
            refine jr_lstore jf_85_108 jml_85 (by decide) ?_
            refine jr_aload_n jf_85_110 rfl (jg2_ne rfl (jg2_ne rfl (jg2_ne rfl (jg2_ne rfl (jg2_ne rfl hl0))))) ?_
            replace h := obd_of h; obtain ⟨x44, hx44, h⟩ := h
            refine jr_getA jf_85_111 hx44 ?_
            refine jr_iconst jf_85_114 jc_i_1 ?_
            refine jr_lload_n jf_85_115 rfl (jg2_ne rfl (jg2_ne rfl (jg2_ne rfl (jg2_ne rfl jg2_same)))) ?_
            replace h := obd_of h; obtain ⟨a45, rfl, h⟩ := h
            replace h := jgd_of h; obtain ⟨hb46, h⟩ := h
            replace h := obd_of h; obtain ⟨μ47, hμ47, h⟩ := h
            refine jr_V6v_2 jf_85_116 hb46 (by omega) (r_Row_put (by omega) _ _ _ _ _ hμ47) (Nat.le_of_ble_eq_true rfl) jml_50 (Nat.le_of_ble_eq_true rfl) ?_
            refine jr_aload_n jf_85_119 rfl (jg2_ne rfl (jg2_ne rfl (jg2_ne rfl (jg2_ne rfl (jg2_ne rfl hl0))))) ?_
            replace h := obd_of h; obtain ⟨x48, hx48, h⟩ := h
            refine jr_getA jf_85_120 hx48 ?_
            refine jr_iconst jf_85_123 jc_i_0 ?_
            refine jr_lload jf_85_124 (jg2_ne rfl (jg2_ne rfl jg2_same)) ?_
            replace h := obd_of h; obtain ⟨a49, rfl, h⟩ := h
            replace h := jgd_of h; obtain ⟨hb50, h⟩ := h
            replace h := obd_of h; obtain ⟨μ51, hμ51, h⟩ := h
            refine jr_V6v_2 jf_85_126 hb50 (by omega) (r_Row_put (by omega) _ _ _ _ _ hμ51) (Nat.le_of_ble_eq_true rfl) jml_50 (Nat.le_of_ble_eq_true rfl) ?_
            refine jr_lload jf_85_129 jg2_same ?_
            obtain ⟨rfl, rfl⟩ := Prod.mk.inj (Option.some.inj h)
            exact jr_retJ jf_85_131 jmt_85
  · obtain ⟨hb, hx⟩ := jgd_of hx
    obtain hx := Option.some.inj hx
    refine jr_V8b_1 jf_85_18 hb0 hb (by omega) (r_Shorts_term (by omega) _ _ _ _ hx) (by simp only [jcats_cons, jcats_nil, cat_int, cat_long, cat_double, cat_float, cat_ref, rv_cat]; decide) jml_64 (Nat.le_of_ble_eq_true rfl) ?_
    refine jr_aload_n jf_85_21 rfl (jg2_ne rfl hl0) ?_
    refine jr_iconst jf_85_22 jc_i_3 ?_
    refine jr_lload_n jf_85_23 rfl jg2_same ?_
    replace h := jgd_of h; obtain ⟨hb9, h⟩ := h
    replace h := obd_of h; obtain ⟨x10, hx10, h⟩ := h
    refine jr_V6_2 jf_85_24 hb9 (by omega) (r_Section_lessTimes (by omega) _ _ _ _ _ hx10) (by simp only [jcats_cons, jcats_nil, cat_int, cat_long, cat_double, cat_float, cat_ref, rv_cat]; decide) jml_81 (Nat.le_of_ble_eq_true rfl) ?_
    replace h := obd_of h; obtain ⟨a11, rfl, h⟩ := h
    replace h := obd_of h; obtain ⟨x12, hx12, h⟩ := h
    rcases ite_or hx12 with ⟨hb, hx⟩ | ⟨hb0, hx⟩
    · refine jr_V8a_2 jf_85_27 hb (by omega) (r_Real_plus (by omega) _ _ _ _ _ hx) (Nat.le_of_ble_eq_true rfl) jml_65 (Nat.le_of_ble_eq_true rfl) ?_
      refine jr_lstore jf_85_30 jml_85 (by decide) ?_
      refine jr_aload_n jf_85_32 rfl (jg2_ne rfl (jg2_ne rfl hl0)) ?_
      refine jr_aload_n jf_85_33 rfl (jg2_ne rfl (jg2_ne rfl hl0)) ?_
      replace h := obd_of h; obtain ⟨x13, hx13, h⟩ := h
      refine jr_getA jf_85_34 hx13 ?_
      refine jr_lload jf_85_37 jg2_same ?_
      refine jr_aload_n jf_85_39 rfl (jg2_ne rfl (jg2_ne rfl hl0)) ?_
      refine jr_iconst jf_85_40 jc_i_4 ?_
      refine jr_aload_n jf_85_41 rfl (jg2_ne rfl (jg2_ne rfl hl0)) ?_
      replace h := obd_of h; obtain ⟨x14, hx14, h⟩ := h
      refine jr_getA jf_85_42 hx14 ?_
      refine jr_iconst jf_85_45 jc_i_1 ?_
      replace h := obd_of h; obtain ⟨a15, rfl, h⟩ := h
      replace h := jgd_of h; obtain ⟨hb16, h⟩ := h
      replace h := obd_of h; obtain ⟨x17, hx17, h⟩ := h
      refine jr_V6_1 jf_85_46 hb16 (by omega) (r_Row_at (by omega) _ _ _ _ hx17) (by simp only [jcats_cons, jcats_nil, cat_int, cat_long, cat_double, cat_float, cat_ref, rv_cat]; decide) jml_23 (Nat.le_of_ble_eq_true rfl) ?_
      replace h := jgd_of h; obtain ⟨hb18, h⟩ := h
      replace h := obd_of h; obtain ⟨x19, hx19, h⟩ := h
      refine jr_V6_2 jf_85_49 hb18 (by omega) (r_Section_lessTimes (by omega) _ _ _ _ _ hx19) (by simp only [jcats_cons, jcats_nil, cat_int, cat_long, cat_double, cat_float, cat_ref, rv_cat]; decide) jml_81 (Nat.le_of_ble_eq_true rfl) ?_
      replace h := obd_of h; obtain ⟨a20, rfl, h⟩ := h
      replace h := obd_of h; obtain ⟨x21, hx21, h⟩ := h
      rcases ite_or hx21 with ⟨hb, hx⟩ | ⟨hb0, hx⟩
      · refine jr_V8a_2 jf_85_52 hb (by omega) (r_Real_plus (by omega) _ _ _ _ _ hx) (Nat.le_of_ble_eq_true rfl) jml_65 (Nat.le_of_ble_eq_true rfl) ?_
        replace h := jgd_of h; obtain ⟨hb22, h⟩ := h
        replace h := jbd2_of h; obtain ⟨x23, μ24, hx23, h⟩ := h
        refine jr_V6_1 jf_85_55 hb22 (by omega) (r_Section_settled (by omega) _ _ _ _ _ hx23) (Nat.le_of_ble_eq_true rfl) jml_70 (Nat.le_of_ble_eq_true rfl) ?_
        refine jr_lstore jf_85_58 jml_85 (by decide) ?_
        refine jr_aload_n jf_85_60 rfl (jg2_ne rfl (jg2_ne rfl (jg2_ne rfl hl0))) ?_
        replace h := obd_of h; obtain ⟨x25, hx25, h⟩ := h
        refine jr_getA jf_85_61 hx25 ?_
        refine jr_aload_n jf_85_64 rfl (jg2_ne rfl (jg2_ne rfl (jg2_ne rfl hl0))) ?_
        refine jr_iconst jf_85_65 jc_i_0 ?_
        refine jr_lload jf_85_66 jg2_same ?_
        replace h := jgd_of h; obtain ⟨hb26, h⟩ := h
        replace h := obd_of h; obtain ⟨x27, hx27, h⟩ := h
        refine jr_V6_2 jf_85_68 hb26 (by omega) (r_Section_times (by omega) _ _ _ _ _ hx27) (by simp only [jcats_cons, jcats_nil, cat_int, cat_long, cat_double, cat_float, cat_ref, rv_cat]; decide) jml_78 (Nat.le_of_ble_eq_true rfl) ?_
        refine jr_aload_n jf_85_71 rfl (jg2_ne rfl (jg2_ne rfl (jg2_ne rfl hl0))) ?_
        refine jr_iconst jf_85_72 jc_i_1 ?_
        refine jr_lload_n jf_85_73 rfl (jg2_ne rfl (jg2_ne rfl jg2_same)) ?_
        replace h := jgd_of h; obtain ⟨hb28, h⟩ := h
        replace h := obd_of h; obtain ⟨x29, hx29, h⟩ := h
        refine jr_V6_2 jf_85_74 hb28 (by omega) (r_Section_times (by omega) _ _ _ _ _ hx29) (by simp only [jcats_cons, jcats_nil, cat_int, cat_long, cat_double, cat_float, cat_ref, rv_cat]; decide) jml_78 (Nat.le_of_ble_eq_true rfl) ?_
        replace h := obd_of h; obtain ⟨a30, rfl, h⟩ := h
        replace h := obd_of h; obtain ⟨x31, hx31, h⟩ := h
        rcases ite_or hx31 with ⟨hb, hx⟩ | ⟨hb0, hx⟩
        · refine jr_V8a_2 jf_85_77 hb (by omega) (r_Real_plus (by omega) _ _ _ _ _ hx) (Nat.le_of_ble_eq_true rfl) jml_65 (Nat.le_of_ble_eq_true rfl) ?_
          refine jr_lstore jf_85_80 jml_85 (by decide) ?_
          refine jr_aload_n jf_85_82 rfl (jg2_ne rfl (jg2_ne rfl (jg2_ne rfl (jg2_ne rfl hl0)))) ?_
          refine jr_aload_n jf_85_83 rfl (jg2_ne rfl (jg2_ne rfl (jg2_ne rfl (jg2_ne rfl hl0)))) ?_
          replace h := obd_of h; obtain ⟨x32, hx32, h⟩ := h
          refine jr_getA jf_85_84 hx32 ?_
          refine jr_lload jf_85_87 jg2_same ?_
          refine jr_aload_n jf_85_89 rfl (jg2_ne rfl (jg2_ne rfl (jg2_ne rfl (jg2_ne rfl hl0)))) ?_
          refine jr_iconst jf_85_90 jc_i_2 ?_
          refine jr_aload_n jf_85_91 rfl (jg2_ne rfl (jg2_ne rfl (jg2_ne rfl (jg2_ne rfl hl0)))) ?_
          replace h := obd_of h; obtain ⟨x33, hx33, h⟩ := h
          refine jr_getA jf_85_92 hx33 ?_
          refine jr_iconst jf_85_95 jc_i_1 ?_
          replace h := obd_of h; obtain ⟨a34, rfl, h⟩ := h
          replace h := jgd_of h; obtain ⟨hb35, h⟩ := h
          replace h := obd_of h; obtain ⟨x36, hx36, h⟩ := h
          refine jr_V6_1 jf_85_96 hb35 (by omega) (r_Row_at (by omega) _ _ _ _ hx36) (by simp only [jcats_cons, jcats_nil, cat_int, cat_long, cat_double, cat_float, cat_ref, rv_cat]; decide) jml_23 (Nat.le_of_ble_eq_true rfl) ?_
          replace h := jgd_of h; obtain ⟨hb37, h⟩ := h
          replace h := obd_of h; obtain ⟨x38, hx38, h⟩ := h
          refine jr_V6_2 jf_85_99 hb37 (by omega) (r_Section_times (by omega) _ _ _ _ _ hx38) (by simp only [jcats_cons, jcats_nil, cat_int, cat_long, cat_double, cat_float, cat_ref, rv_cat]; decide) jml_78 (Nat.le_of_ble_eq_true rfl) ?_
          replace h := obd_of h; obtain ⟨a39, rfl, h⟩ := h
          replace h := obd_of h; obtain ⟨x40, hx40, h⟩ := h
          rcases ite_or hx40 with ⟨hb, hx⟩ | ⟨hb0, hx⟩
          · refine jr_V8a_2 jf_85_102 hb (by omega) (r_Real_plus (by omega) _ _ _ _ _ hx) (Nat.le_of_ble_eq_true rfl) jml_65 (Nat.le_of_ble_eq_true rfl) ?_
            replace h := jgd_of h; obtain ⟨hb41, h⟩ := h
            replace h := jbd2_of h; obtain ⟨x42, μ43, hx42, h⟩ := h
            refine jr_V6_1 jf_85_105 hb41 (by omega) (r_Section_settled (by omega) _ _ _ _ _ hx42) (Nat.le_of_ble_eq_true rfl) jml_70 (Nat.le_of_ble_eq_true rfl) ?_
            refine jr_lstore jf_85_108 jml_85 (by decide) ?_
            refine jr_aload_n jf_85_110 rfl (jg2_ne rfl (jg2_ne rfl (jg2_ne rfl (jg2_ne rfl (jg2_ne rfl hl0))))) ?_
            replace h := obd_of h; obtain ⟨x44, hx44, h⟩ := h
            refine jr_getA jf_85_111 hx44 ?_
            refine jr_iconst jf_85_114 jc_i_1 ?_
            refine jr_lload_n jf_85_115 rfl (jg2_ne rfl (jg2_ne rfl (jg2_ne rfl (jg2_ne rfl jg2_same)))) ?_
            replace h := obd_of h; obtain ⟨a45, rfl, h⟩ := h
            replace h := jgd_of h; obtain ⟨hb46, h⟩ := h
            replace h := obd_of h; obtain ⟨μ47, hμ47, h⟩ := h
            refine jr_V6v_2 jf_85_116 hb46 (by omega) (r_Row_put (by omega) _ _ _ _ _ hμ47) (Nat.le_of_ble_eq_true rfl) jml_50 (Nat.le_of_ble_eq_true rfl) ?_
            refine jr_aload_n jf_85_119 rfl (jg2_ne rfl (jg2_ne rfl (jg2_ne rfl (jg2_ne rfl (jg2_ne rfl hl0))))) ?_
            replace h := obd_of h; obtain ⟨x48, hx48, h⟩ := h
            refine jr_getA jf_85_120 hx48 ?_
            refine jr_iconst jf_85_123 jc_i_0 ?_
            refine jr_lload jf_85_124 (jg2_ne rfl (jg2_ne rfl jg2_same)) ?_
            replace h := obd_of h; obtain ⟨a49, rfl, h⟩ := h
            replace h := jgd_of h; obtain ⟨hb50, h⟩ := h
            replace h := obd_of h; obtain ⟨μ51, hμ51, h⟩ := h
            refine jr_V6v_2 jf_85_126 hb50 (by omega) (r_Row_put (by omega) _ _ _ _ _ hμ51) (Nat.le_of_ble_eq_true rfl) jml_50 (Nat.le_of_ble_eq_true rfl) ?_
            refine jr_lload jf_85_129 jg2_same ?_
            obtain ⟨rfl, rfl⟩ := Prod.mk.inj (Option.some.inj h)
            exact jr_retJ jf_85_131 jmt_85
          · obtain ⟨hb, hx⟩ := jgd_of hx
            obtain hx := Option.some.inj hx
            refine jr_V8b_2 jf_85_102 hb0 hb (by omega) (r_Shorts_plus (by omega) _ _ _ _ _ hx) (Nat.le_of_ble_eq_true rfl) jml_69 (Nat.le_of_ble_eq_true rfl) ?_
            replace h := jgd_of h; obtain ⟨hb41, h⟩ := h
            replace h := jbd2_of h; obtain ⟨x42, μ43, hx42, h⟩ := h
            refine jr_V6_1 jf_85_105 hb41 (by omega) (r_Section_settled (by omega) _ _ _ _ _ hx42) (Nat.le_of_ble_eq_true rfl) jml_70 (Nat.le_of_ble_eq_true rfl) ?_
            refine jr_lstore jf_85_108 jml_85 (by decide) ?_
            refine jr_aload_n jf_85_110 rfl (jg2_ne rfl (jg2_ne rfl (jg2_ne rfl (jg2_ne rfl (jg2_ne rfl hl0))))) ?_
            replace h := obd_of h; obtain ⟨x44, hx44, h⟩ := h
            refine jr_getA jf_85_111 hx44 ?_
            refine jr_iconst jf_85_114 jc_i_1 ?_
            refine jr_lload_n jf_85_115 rfl (jg2_ne rfl (jg2_ne rfl (jg2_ne rfl (jg2_ne rfl jg2_same)))) ?_
            replace h := obd_of h; obtain ⟨a45, rfl, h⟩ := h
            replace h := jgd_of h; obtain ⟨hb46, h⟩ := h
            replace h := obd_of h; obtain ⟨μ47, hμ47, h⟩ := h
            refine jr_V6v_2 jf_85_116 hb46 (by omega) (r_Row_put (by omega) _ _ _ _ _ hμ47) (Nat.le_of_ble_eq_true rfl) jml_50 (Nat.le_of_ble_eq_true rfl) ?_
            refine jr_aload_n jf_85_119 rfl (jg2_ne rfl (jg2_ne rfl (jg2_ne rfl (jg2_ne rfl (jg2_ne rfl hl0))))) ?_
            replace h := obd_of h; obtain ⟨x48, hx48, h⟩ := h
            refine jr_getA jf_85_120 hx48 ?_
            refine jr_iconst jf_85_123 jc_i_0 ?_
            refine jr_lload jf_85_124 (jg2_ne rfl (jg2_ne rfl jg2_same)) ?_
            replace h := obd_of h; obtain ⟨a49, rfl, h⟩ := h
            replace h := jgd_of h; obtain ⟨hb50, h⟩ := h
            replace h := obd_of h; obtain ⟨μ51, hμ51, h⟩ := h
            refine jr_V6v_2 jf_85_126 hb50 (by omega) (r_Row_put (by omega) _ _ _ _ _ hμ51) (Nat.le_of_ble_eq_true rfl) jml_50 (Nat.le_of_ble_eq_true rfl) ?_
            refine jr_lload jf_85_129 jg2_same ?_
            obtain ⟨rfl, rfl⟩ := Prod.mk.inj (Option.some.inj h)
            exact jr_retJ jf_85_131 jmt_85
        · obtain ⟨hb, hx⟩ := jgd_of hx
          obtain hx := Option.some.inj hx
          refine jr_V8b_2 jf_85_77 hb0 hb (by omega) (r_Shorts_plus (by omega) _ _ _ _ _ hx) (Nat.le_of_ble_eq_true rfl) jml_69 (Nat.le_of_ble_eq_true rfl) ?_
          refine jr_lstore jf_85_80 jml_85 (by decide) ?_
          refine jr_aload_n jf_85_82 rfl (jg2_ne rfl (jg2_ne rfl (jg2_ne rfl (jg2_ne rfl hl0)))) ?_
          refine jr_aload_n jf_85_83 rfl (jg2_ne rfl (jg2_ne rfl (jg2_ne rfl (jg2_ne rfl hl0)))) ?_
          replace h := obd_of h; obtain ⟨x32, hx32, h⟩ := h
          refine jr_getA jf_85_84 hx32 ?_
          refine jr_lload jf_85_87 jg2_same ?_
          refine jr_aload_n jf_85_89 rfl (jg2_ne rfl (jg2_ne rfl (jg2_ne rfl (jg2_ne rfl hl0)))) ?_
          refine jr_iconst jf_85_90 jc_i_2 ?_
          refine jr_aload_n jf_85_91 rfl (jg2_ne rfl (jg2_ne rfl (jg2_ne rfl (jg2_ne rfl hl0)))) ?_
          replace h := obd_of h; obtain ⟨x33, hx33, h⟩ := h
          refine jr_getA jf_85_92 hx33 ?_
          refine jr_iconst jf_85_95 jc_i_1 ?_
          replace h := obd_of h; obtain ⟨a34, rfl, h⟩ := h
          replace h := jgd_of h; obtain ⟨hb35, h⟩ := h
          replace h := obd_of h; obtain ⟨x36, hx36, h⟩ := h
          refine jr_V6_1 jf_85_96 hb35 (by omega) (r_Row_at (by omega) _ _ _ _ hx36) (by simp only [jcats_cons, jcats_nil, cat_int, cat_long, cat_double, cat_float, cat_ref, rv_cat]; decide) jml_23 (Nat.le_of_ble_eq_true rfl) ?_
          replace h := jgd_of h; obtain ⟨hb37, h⟩ := h
          replace h := obd_of h; obtain ⟨x38, hx38, h⟩ := h
          refine jr_V6_2 jf_85_99 hb37 (by omega) (r_Section_times (by omega) _ _ _ _ _ hx38) (by simp only [jcats_cons, jcats_nil, cat_int, cat_long, cat_double, cat_float, cat_ref, rv_cat]; decide) jml_78 (Nat.le_of_ble_eq_true rfl) ?_
          replace h := obd_of h; obtain ⟨a39, rfl, h⟩ := h
          replace h := obd_of h; obtain ⟨x40, hx40, h⟩ := h
          rcases ite_or hx40 with ⟨hb, hx⟩ | ⟨hb0, hx⟩
          · refine jr_V8a_2 jf_85_102 hb (by omega) (r_Real_plus (by omega) _ _ _ _ _ hx) (Nat.le_of_ble_eq_true rfl) jml_65 (Nat.le_of_ble_eq_true rfl) ?_
            replace h := jgd_of h; obtain ⟨hb41, h⟩ := h
            replace h := jbd2_of h; obtain ⟨x42, μ43, hx42, h⟩ := h
            refine jr_V6_1 jf_85_105 hb41 (by omega) (r_Section_settled (by omega) _ _ _ _ _ hx42) (Nat.le_of_ble_eq_true rfl) jml_70 (Nat.le_of_ble_eq_true rfl) ?_
            refine jr_lstore jf_85_108 jml_85 (by decide) ?_
            refine jr_aload_n jf_85_110 rfl (jg2_ne rfl (jg2_ne rfl (jg2_ne rfl (jg2_ne rfl (jg2_ne rfl hl0))))) ?_
            replace h := obd_of h; obtain ⟨x44, hx44, h⟩ := h
            refine jr_getA jf_85_111 hx44 ?_
            refine jr_iconst jf_85_114 jc_i_1 ?_
            refine jr_lload_n jf_85_115 rfl (jg2_ne rfl (jg2_ne rfl (jg2_ne rfl (jg2_ne rfl jg2_same)))) ?_
            replace h := obd_of h; obtain ⟨a45, rfl, h⟩ := h
            replace h := jgd_of h; obtain ⟨hb46, h⟩ := h
            replace h := obd_of h; obtain ⟨μ47, hμ47, h⟩ := h
            refine jr_V6v_2 jf_85_116 hb46 (by omega) (r_Row_put (by omega) _ _ _ _ _ hμ47) (Nat.le_of_ble_eq_true rfl) jml_50 (Nat.le_of_ble_eq_true rfl) ?_
            refine jr_aload_n jf_85_119 rfl (jg2_ne rfl (jg2_ne rfl (jg2_ne rfl (jg2_ne rfl (jg2_ne rfl hl0))))) ?_
            replace h := obd_of h; obtain ⟨x48, hx48, h⟩ := h
            refine jr_getA jf_85_120 hx48 ?_
            refine jr_iconst jf_85_123 jc_i_0 ?_
            refine jr_lload jf_85_124 (jg2_ne rfl (jg2_ne rfl jg2_same)) ?_
            replace h := obd_of h; obtain ⟨a49, rfl, h⟩ := h
            replace h := jgd_of h; obtain ⟨hb50, h⟩ := h
            replace h := obd_of h; obtain ⟨μ51, hμ51, h⟩ := h
            refine jr_V6v_2 jf_85_126 hb50 (by omega) (r_Row_put (by omega) _ _ _ _ _ hμ51) (Nat.le_of_ble_eq_true rfl) jml_50 (Nat.le_of_ble_eq_true rfl) ?_
            refine jr_lload jf_85_129 jg2_same ?_
            obtain ⟨rfl, rfl⟩ := Prod.mk.inj (Option.some.inj h)
            exact jr_retJ jf_85_131 jmt_85
          · obtain ⟨hb, hx⟩ := jgd_of hx
            obtain hx := Option.some.inj hx
            refine jr_V8b_2 jf_85_102 hb0 hb (by omega) (r_Shorts_plus (by omega) _ _ _ _ _ hx) (Nat.le_of_ble_eq_true rfl) jml_69 (Nat.le_of_ble_eq_true rfl) ?_
            replace h := jgd_of h; obtain ⟨hb41, h⟩ := h
            replace h := jbd2_of h; obtain ⟨x42, μ43, hx42, h⟩ := h
            refine jr_V6_1 jf_85_105 hb41 (by omega) (r_Section_settled (by omega) _ _ _ _ _ hx42) (Nat.le_of_ble_eq_true rfl) jml_70 (Nat.le_of_ble_eq_true rfl) ?_
            refine jr_lstore jf_85_108 jml_85 (by decide) ?_
            refine jr_aload_n jf_85_110 rfl (jg2_ne rfl (jg2_ne rfl (jg2_ne rfl (jg2_ne rfl (jg2_ne rfl hl0))))) ?_
            replace h := obd_of h; obtain ⟨x44, hx44, h⟩ := h
            refine jr_getA jf_85_111 hx44 ?_
            refine jr_iconst jf_85_114 jc_i_1 ?_
            refine jr_lload_n jf_85_115 rfl (jg2_ne rfl (jg2_ne rfl (jg2_ne rfl (jg2_ne rfl jg2_same)))) ?_
            replace h := obd_of h; obtain ⟨a45, rfl, h⟩ := h
            replace h := jgd_of h; obtain ⟨hb46, h⟩ := h
            replace h := obd_of h; obtain ⟨μ47, hμ47, h⟩ := h
            refine jr_V6v_2 jf_85_116 hb46 (by omega) (r_Row_put (by omega) _ _ _ _ _ hμ47) (Nat.le_of_ble_eq_true rfl) jml_50 (Nat.le_of_ble_eq_true rfl) ?_
            refine jr_aload_n jf_85_119 rfl (jg2_ne rfl (jg2_ne rfl (jg2_ne rfl (jg2_ne rfl (jg2_ne rfl hl0))))) ?_
            replace h := obd_of h; obtain ⟨x48, hx48, h⟩ := h
            refine jr_getA jf_85_120 hx48 ?_
            refine jr_iconst jf_85_123 jc_i_0 ?_
            refine jr_lload jf_85_124 (jg2_ne rfl (jg2_ne rfl jg2_same)) ?_
            replace h := obd_of h; obtain ⟨a49, rfl, h⟩ := h
            replace h := jgd_of h; obtain ⟨hb50, h⟩ := h
            replace h := obd_of h; obtain ⟨μ51, hμ51, h⟩ := h
            refine jr_V6v_2 jf_85_126 hb50 (by omega) (r_Row_put (by omega) _ _ _ _ _ hμ51) (Nat.le_of_ble_eq_true rfl) jml_50 (Nat.le_of_ble_eq_true rfl) ?_
            refine jr_lload jf_85_129 jg2_same ?_
            obtain ⟨rfl, rfl⟩ := Prod.mk.inj (Option.some.inj h)
            exact jr_retJ jf_85_131 jmt_85
      · obtain ⟨hb, hx⟩ := jgd_of hx
        obtain hx := Option.some.inj hx
        refine jr_V8b_2 jf_85_52 hb0 hb (by omega) (r_Shorts_plus (by omega) _ _ _ _ _ hx) (Nat.le_of_ble_eq_true rfl) jml_69 (Nat.le_of_ble_eq_true rfl) ?_
        replace h := jgd_of h; obtain ⟨hb22, h⟩ := h
        replace h := jbd2_of h; obtain ⟨x23, μ24, hx23, h⟩ := h
        refine jr_V6_1 jf_85_55 hb22 (by omega) (r_Section_settled (by omega) _ _ _ _ _ hx23) (Nat.le_of_ble_eq_true rfl) jml_70 (Nat.le_of_ble_eq_true rfl) ?_
        refine jr_lstore jf_85_58 jml_85 (by decide) ?_
        refine jr_aload_n jf_85_60 rfl (jg2_ne rfl (jg2_ne rfl (jg2_ne rfl hl0))) ?_
        replace h := obd_of h; obtain ⟨x25, hx25, h⟩ := h
        refine jr_getA jf_85_61 hx25 ?_
        refine jr_aload_n jf_85_64 rfl (jg2_ne rfl (jg2_ne rfl (jg2_ne rfl hl0))) ?_
        refine jr_iconst jf_85_65 jc_i_0 ?_
        refine jr_lload jf_85_66 jg2_same ?_
        replace h := jgd_of h; obtain ⟨hb26, h⟩ := h
        replace h := obd_of h; obtain ⟨x27, hx27, h⟩ := h
        refine jr_V6_2 jf_85_68 hb26 (by omega) (r_Section_times (by omega) _ _ _ _ _ hx27) (by simp only [jcats_cons, jcats_nil, cat_int, cat_long, cat_double, cat_float, cat_ref, rv_cat]; decide) jml_78 (Nat.le_of_ble_eq_true rfl) ?_
        refine jr_aload_n jf_85_71 rfl (jg2_ne rfl (jg2_ne rfl (jg2_ne rfl hl0))) ?_
        refine jr_iconst jf_85_72 jc_i_1 ?_
        refine jr_lload_n jf_85_73 rfl (jg2_ne rfl (jg2_ne rfl jg2_same)) ?_
        replace h := jgd_of h; obtain ⟨hb28, h⟩ := h
        replace h := obd_of h; obtain ⟨x29, hx29, h⟩ := h
        refine jr_V6_2 jf_85_74 hb28 (by omega) (r_Section_times (by omega) _ _ _ _ _ hx29) (by simp only [jcats_cons, jcats_nil, cat_int, cat_long, cat_double, cat_float, cat_ref, rv_cat]; decide) jml_78 (Nat.le_of_ble_eq_true rfl) ?_
        replace h := obd_of h; obtain ⟨a30, rfl, h⟩ := h
        replace h := obd_of h; obtain ⟨x31, hx31, h⟩ := h
        rcases ite_or hx31 with ⟨hb, hx⟩ | ⟨hb0, hx⟩
        · refine jr_V8a_2 jf_85_77 hb (by omega) (r_Real_plus (by omega) _ _ _ _ _ hx) (Nat.le_of_ble_eq_true rfl) jml_65 (Nat.le_of_ble_eq_true rfl) ?_
          refine jr_lstore jf_85_80 jml_85 (by decide) ?_
          refine jr_aload_n jf_85_82 rfl (jg2_ne rfl (jg2_ne rfl (jg2_ne rfl (jg2_ne rfl hl0)))) ?_
          refine jr_aload_n jf_85_83 rfl (jg2_ne rfl (jg2_ne rfl (jg2_ne rfl (jg2_ne rfl hl0)))) ?_
          replace h := obd_of h; obtain ⟨x32, hx32, h⟩ := h
          refine jr_getA jf_85_84 hx32 ?_
          refine jr_lload jf_85_87 jg2_same ?_
          refine jr_aload_n jf_85_89 rfl (jg2_ne rfl (jg2_ne rfl (jg2_ne rfl (jg2_ne rfl hl0)))) ?_
          refine jr_iconst jf_85_90 jc_i_2 ?_
          refine jr_aload_n jf_85_91 rfl (jg2_ne rfl (jg2_ne rfl (jg2_ne rfl (jg2_ne rfl hl0)))) ?_
          replace h := obd_of h; obtain ⟨x33, hx33, h⟩ := h
          refine jr_getA jf_85_92 hx33 ?_
          refine jr_iconst jf_85_95 jc_i_1 ?_
          replace h := obd_of h; obtain ⟨a34, rfl, h⟩ := h
          replace h := jgd_of h; obtain ⟨hb35, h⟩ := h
          replace h := obd_of h; obtain ⟨x36, hx36, h⟩ := h
          refine jr_V6_1 jf_85_96 hb35 (by omega) (r_Row_at (by omega) _ _ _ _ hx36) (by simp only [jcats_cons, jcats_nil, cat_int, cat_long, cat_double, cat_float, cat_ref, rv_cat]; decide) jml_23 (Nat.le_of_ble_eq_true rfl) ?_
          replace h := jgd_of h; obtain ⟨hb37, h⟩ := h
          replace h := obd_of h; obtain ⟨x38, hx38, h⟩ := h
          refine jr_V6_2 jf_85_99 hb37 (by omega) (r_Section_times (by omega) _ _ _ _ _ hx38) (by simp only [jcats_cons, jcats_nil, cat_int, cat_long, cat_double, cat_float, cat_ref, rv_cat]; decide) jml_78 (Nat.le_of_ble_eq_true rfl) ?_
          replace h := obd_of h; obtain ⟨a39, rfl, h⟩ := h
          replace h := obd_of h; obtain ⟨x40, hx40, h⟩ := h
          rcases ite_or hx40 with ⟨hb, hx⟩ | ⟨hb0, hx⟩
          · refine jr_V8a_2 jf_85_102 hb (by omega) (r_Real_plus (by omega) _ _ _ _ _ hx) (Nat.le_of_ble_eq_true rfl) jml_65 (Nat.le_of_ble_eq_true rfl) ?_
            replace h := jgd_of h; obtain ⟨hb41, h⟩ := h
            replace h := jbd2_of h; obtain ⟨x42, μ43, hx42, h⟩ := h
            refine jr_V6_1 jf_85_105 hb41 (by omega) (r_Section_settled (by omega) _ _ _ _ _ hx42) (Nat.le_of_ble_eq_true rfl) jml_70 (Nat.le_of_ble_eq_true rfl) ?_
            refine jr_lstore jf_85_108 jml_85 (by decide) ?_
            refine jr_aload_n jf_85_110 rfl (jg2_ne rfl (jg2_ne rfl (jg2_ne rfl (jg2_ne rfl (jg2_ne rfl hl0))))) ?_
            replace h := obd_of h; obtain ⟨x44, hx44, h⟩ := h
            refine jr_getA jf_85_111 hx44 ?_
            refine jr_iconst jf_85_114 jc_i_1 ?_
            refine jr_lload_n jf_85_115 rfl (jg2_ne rfl (jg2_ne rfl (jg2_ne rfl (jg2_ne rfl jg2_same)))) ?_
            replace h := obd_of h; obtain ⟨a45, rfl, h⟩ := h
            replace h := jgd_of h; obtain ⟨hb46, h⟩ := h
            replace h := obd_of h; obtain ⟨μ47, hμ47, h⟩ := h
            refine jr_V6v_2 jf_85_116 hb46 (by omega) (r_Row_put (by omega) _ _ _ _ _ hμ47) (Nat.le_of_ble_eq_true rfl) jml_50 (Nat.le_of_ble_eq_true rfl) ?_
            refine jr_aload_n jf_85_119 rfl (jg2_ne rfl (jg2_ne rfl (jg2_ne rfl (jg2_ne rfl (jg2_ne rfl hl0))))) ?_
            replace h := obd_of h; obtain ⟨x48, hx48, h⟩ := h
            refine jr_getA jf_85_120 hx48 ?_
            refine jr_iconst jf_85_123 jc_i_0 ?_
            refine jr_lload jf_85_124 (jg2_ne rfl (jg2_ne rfl jg2_same)) ?_
            replace h := obd_of h; obtain ⟨a49, rfl, h⟩ := h
            replace h := jgd_of h; obtain ⟨hb50, h⟩ := h
            replace h := obd_of h; obtain ⟨μ51, hμ51, h⟩ := h
            refine jr_V6v_2 jf_85_126 hb50 (by omega) (r_Row_put (by omega) _ _ _ _ _ hμ51) (Nat.le_of_ble_eq_true rfl) jml_50 (Nat.le_of_ble_eq_true rfl) ?_
            refine jr_lload jf_85_129 jg2_same ?_
            obtain ⟨rfl, rfl⟩ := Prod.mk.inj (Option.some.inj h)
            exact jr_retJ jf_85_131 jmt_85
          · obtain ⟨hb, hx⟩ := jgd_of hx
            obtain hx := Option.some.inj hx
            refine jr_V8b_2 jf_85_102 hb0 hb (by omega) (r_Shorts_plus (by omega) _ _ _ _ _ hx) (Nat.le_of_ble_eq_true rfl) jml_69 (Nat.le_of_ble_eq_true rfl) ?_
            replace h := jgd_of h; obtain ⟨hb41, h⟩ := h
            replace h := jbd2_of h; obtain ⟨x42, μ43, hx42, h⟩ := h
            refine jr_V6_1 jf_85_105 hb41 (by omega) (r_Section_settled (by omega) _ _ _ _ _ hx42) (Nat.le_of_ble_eq_true rfl) jml_70 (Nat.le_of_ble_eq_true rfl) ?_
            refine jr_lstore jf_85_108 jml_85 (by decide) ?_
            refine jr_aload_n jf_85_110 rfl (jg2_ne rfl (jg2_ne rfl (jg2_ne rfl (jg2_ne rfl (jg2_ne rfl hl0))))) ?_
            replace h := obd_of h; obtain ⟨x44, hx44, h⟩ := h
            refine jr_getA jf_85_111 hx44 ?_
            refine jr_iconst jf_85_114 jc_i_1 ?_
            refine jr_lload_n jf_85_115 rfl (jg2_ne rfl (jg2_ne rfl (jg2_ne rfl (jg2_ne rfl jg2_same)))) ?_
            replace h := obd_of h; obtain ⟨a45, rfl, h⟩ := h
            replace h := jgd_of h; obtain ⟨hb46, h⟩ := h
            replace h := obd_of h; obtain ⟨μ47, hμ47, h⟩ := h
            refine jr_V6v_2 jf_85_116 hb46 (by omega) (r_Row_put (by omega) _ _ _ _ _ hμ47) (Nat.le_of_ble_eq_true rfl) jml_50 (Nat.le_of_ble_eq_true rfl) ?_
            refine jr_aload_n jf_85_119 rfl (jg2_ne rfl (jg2_ne rfl (jg2_ne rfl (jg2_ne rfl (jg2_ne rfl hl0))))) ?_
            replace h := obd_of h; obtain ⟨x48, hx48, h⟩ := h
            refine jr_getA jf_85_120 hx48 ?_
            refine jr_iconst jf_85_123 jc_i_0 ?_
            refine jr_lload jf_85_124 (jg2_ne rfl (jg2_ne rfl jg2_same)) ?_
            replace h := obd_of h; obtain ⟨a49, rfl, h⟩ := h
            replace h := jgd_of h; obtain ⟨hb50, h⟩ := h
            replace h := obd_of h; obtain ⟨μ51, hμ51, h⟩ := h
            refine jr_V6v_2 jf_85_126 hb50 (by omega) (r_Row_put (by omega) _ _ _ _ _ hμ51) (Nat.le_of_ble_eq_true rfl) jml_50 (Nat.le_of_ble_eq_true rfl) ?_
            refine jr_lload jf_85_129 jg2_same ?_
            obtain ⟨rfl, rfl⟩ := Prod.mk.inj (Option.some.inj h)
            exact jr_retJ jf_85_131 jmt_85
        · obtain ⟨hb, hx⟩ := jgd_of hx
          obtain hx := Option.some.inj hx
          refine jr_V8b_2 jf_85_77 hb0 hb (by omega) (r_Shorts_plus (by omega) _ _ _ _ _ hx) (Nat.le_of_ble_eq_true rfl) jml_69 (Nat.le_of_ble_eq_true rfl) ?_
          refine jr_lstore jf_85_80 jml_85 (by decide) ?_
          refine jr_aload_n jf_85_82 rfl (jg2_ne rfl (jg2_ne rfl (jg2_ne rfl (jg2_ne rfl hl0)))) ?_
          refine jr_aload_n jf_85_83 rfl (jg2_ne rfl (jg2_ne rfl (jg2_ne rfl (jg2_ne rfl hl0)))) ?_
          replace h := obd_of h; obtain ⟨x32, hx32, h⟩ := h
          refine jr_getA jf_85_84 hx32 ?_
          refine jr_lload jf_85_87 jg2_same ?_
          refine jr_aload_n jf_85_89 rfl (jg2_ne rfl (jg2_ne rfl (jg2_ne rfl (jg2_ne rfl hl0)))) ?_
          refine jr_iconst jf_85_90 jc_i_2 ?_
          refine jr_aload_n jf_85_91 rfl (jg2_ne rfl (jg2_ne rfl (jg2_ne rfl (jg2_ne rfl hl0)))) ?_
          replace h := obd_of h; obtain ⟨x33, hx33, h⟩ := h
          refine jr_getA jf_85_92 hx33 ?_
          refine jr_iconst jf_85_95 jc_i_1 ?_
          replace h := obd_of h; obtain ⟨a34, rfl, h⟩ := h
          replace h := jgd_of h; obtain ⟨hb35, h⟩ := h
          replace h := obd_of h; obtain ⟨x36, hx36, h⟩ := h
          refine jr_V6_1 jf_85_96 hb35 (by omega) (r_Row_at (by omega) _ _ _ _ hx36) (by simp only [jcats_cons, jcats_nil, cat_int, cat_long, cat_double, cat_float, cat_ref, rv_cat]; decide) jml_23 (Nat.le_of_ble_eq_true rfl) ?_
          replace h := jgd_of h; obtain ⟨hb37, h⟩ := h
          replace h := obd_of h; obtain ⟨x38, hx38, h⟩ := h
          refine jr_V6_2 jf_85_99 hb37 (by omega) (r_Section_times (by omega) _ _ _ _ _ hx38) (by simp only [jcats_cons, jcats_nil, cat_int, cat_long, cat_double, cat_float, cat_ref, rv_cat]; decide) jml_78 (Nat.le_of_ble_eq_true rfl) ?_
          replace h := obd_of h; obtain ⟨a39, rfl, h⟩ := h
          replace h := obd_of h; obtain ⟨x40, hx40, h⟩ := h
          rcases ite_or hx40 with ⟨hb, hx⟩ | ⟨hb0, hx⟩
          · refine jr_V8a_2 jf_85_102 hb (by omega) (r_Real_plus (by omega) _ _ _ _ _ hx) (Nat.le_of_ble_eq_true rfl) jml_65 (Nat.le_of_ble_eq_true rfl) ?_
            replace h := jgd_of h; obtain ⟨hb41, h⟩ := h
            replace h := jbd2_of h; obtain ⟨x42, μ43, hx42, h⟩ := h
            refine jr_V6_1 jf_85_105 hb41 (by omega) (r_Section_settled (by omega) _ _ _ _ _ hx42) (Nat.le_of_ble_eq_true rfl) jml_70 (Nat.le_of_ble_eq_true rfl) ?_
            refine jr_lstore jf_85_108 jml_85 (by decide) ?_
            refine jr_aload_n jf_85_110 rfl (jg2_ne rfl (jg2_ne rfl (jg2_ne rfl (jg2_ne rfl (jg2_ne rfl hl0))))) ?_
            replace h := obd_of h; obtain ⟨x44, hx44, h⟩ := h
            refine jr_getA jf_85_111 hx44 ?_
            refine jr_iconst jf_85_114 jc_i_1 ?_
            refine jr_lload_n jf_85_115 rfl (jg2_ne rfl (jg2_ne rfl (jg2_ne rfl (jg2_ne rfl jg2_same)))) ?_
            replace h := obd_of h; obtain ⟨a45, rfl, h⟩ := h
            replace h := jgd_of h; obtain ⟨hb46, h⟩ := h
            replace h := obd_of h; obtain ⟨μ47, hμ47, h⟩ := h
            refine jr_V6v_2 jf_85_116 hb46 (by omega) (r_Row_put (by omega) _ _ _ _ _ hμ47) (Nat.le_of_ble_eq_true rfl) jml_50 (Nat.le_of_ble_eq_true rfl) ?_
            refine jr_aload_n jf_85_119 rfl (jg2_ne rfl (jg2_ne rfl (jg2_ne rfl (jg2_ne rfl (jg2_ne rfl hl0))))) ?_
            replace h := obd_of h; obtain ⟨x48, hx48, h⟩ := h
            refine jr_getA jf_85_120 hx48 ?_
            refine jr_iconst jf_85_123 jc_i_0 ?_
            refine jr_lload jf_85_124 (jg2_ne rfl (jg2_ne rfl jg2_same)) ?_
            replace h := obd_of h; obtain ⟨a49, rfl, h⟩ := h
            replace h := jgd_of h; obtain ⟨hb50, h⟩ := h
            replace h := obd_of h; obtain ⟨μ51, hμ51, h⟩ := h
            refine jr_V6v_2 jf_85_126 hb50 (by omega) (r_Row_put (by omega) _ _ _ _ _ hμ51) (Nat.le_of_ble_eq_true rfl) jml_50 (Nat.le_of_ble_eq_true rfl) ?_
            refine jr_lload jf_85_129 jg2_same ?_
            obtain ⟨rfl, rfl⟩ := Prod.mk.inj (Option.some.inj h)
            exact jr_retJ jf_85_131 jmt_85
          · obtain ⟨hb, hx⟩ := jgd_of hx
            obtain hx := Option.some.inj hx
            refine jr_V8b_2 jf_85_102 hb0 hb (by omega) (r_Shorts_plus (by omega) _ _ _ _ _ hx) (Nat.le_of_ble_eq_true rfl) jml_69 (Nat.le_of_ble_eq_true rfl) ?_
            replace h := jgd_of h; obtain ⟨hb41, h⟩ := h
            replace h := jbd2_of h; obtain ⟨x42, μ43, hx42, h⟩ := h
            refine jr_V6_1 jf_85_105 hb41 (by omega) (r_Section_settled (by omega) _ _ _ _ _ hx42) (Nat.le_of_ble_eq_true rfl) jml_70 (Nat.le_of_ble_eq_true rfl) ?_
            refine jr_lstore jf_85_108 jml_85 (by decide) ?_
            refine jr_aload_n jf_85_110 rfl (jg2_ne rfl (jg2_ne rfl (jg2_ne rfl (jg2_ne rfl (jg2_ne rfl hl0))))) ?_
            replace h := obd_of h; obtain ⟨x44, hx44, h⟩ := h
            refine jr_getA jf_85_111 hx44 ?_
            refine jr_iconst jf_85_114 jc_i_1 ?_
            refine jr_lload_n jf_85_115 rfl (jg2_ne rfl (jg2_ne rfl (jg2_ne rfl (jg2_ne rfl jg2_same)))) ?_
            replace h := obd_of h; obtain ⟨a45, rfl, h⟩ := h
            replace h := jgd_of h; obtain ⟨hb46, h⟩ := h
            replace h := obd_of h; obtain ⟨μ47, hμ47, h⟩ := h
            refine jr_V6v_2 jf_85_116 hb46 (by omega) (r_Row_put (by omega) _ _ _ _ _ hμ47) (Nat.le_of_ble_eq_true rfl) jml_50 (Nat.le_of_ble_eq_true rfl) ?_
            refine jr_aload_n jf_85_119 rfl (jg2_ne rfl (jg2_ne rfl (jg2_ne rfl (jg2_ne rfl (jg2_ne rfl hl0))))) ?_
            replace h := obd_of h; obtain ⟨x48, hx48, h⟩ := h
            refine jr_getA jf_85_120 hx48 ?_
            refine jr_iconst jf_85_123 jc_i_0 ?_
            refine jr_lload jf_85_124 (jg2_ne rfl (jg2_ne rfl jg2_same)) ?_
            replace h := obd_of h; obtain ⟨a49, rfl, h⟩ := h
            replace h := jgd_of h; obtain ⟨hb50, h⟩ := h
            replace h := obd_of h; obtain ⟨μ51, hμ51, h⟩ := h
            refine jr_V6v_2 jf_85_126 hb50 (by omega) (r_Row_put (by omega) _ _ _ _ _ hμ51) (Nat.le_of_ble_eq_true rfl) jml_50 (Nat.le_of_ble_eq_true rfl) ?_
            refine jr_lload jf_85_129 jg2_same ?_
            obtain ⟨rfl, rfl⟩ := Prod.mk.inj (Option.some.inj h)
            exact jr_retJ jf_85_131 jmt_85
    · obtain ⟨hb, hx⟩ := jgd_of hx
      obtain hx := Option.some.inj hx
      refine jr_V8b_2 jf_85_27 hb0 hb (by omega) (r_Shorts_plus (by omega) _ _ _ _ _ hx) (Nat.le_of_ble_eq_true rfl) jml_69 (Nat.le_of_ble_eq_true rfl) ?_
      refine jr_lstore jf_85_30 jml_85 (by decide) ?_
      refine jr_aload_n jf_85_32 rfl (jg2_ne rfl (jg2_ne rfl hl0)) ?_
      refine jr_aload_n jf_85_33 rfl (jg2_ne rfl (jg2_ne rfl hl0)) ?_
      replace h := obd_of h; obtain ⟨x13, hx13, h⟩ := h
      refine jr_getA jf_85_34 hx13 ?_
      refine jr_lload jf_85_37 jg2_same ?_
      refine jr_aload_n jf_85_39 rfl (jg2_ne rfl (jg2_ne rfl hl0)) ?_
      refine jr_iconst jf_85_40 jc_i_4 ?_
      refine jr_aload_n jf_85_41 rfl (jg2_ne rfl (jg2_ne rfl hl0)) ?_
      replace h := obd_of h; obtain ⟨x14, hx14, h⟩ := h
      refine jr_getA jf_85_42 hx14 ?_
      refine jr_iconst jf_85_45 jc_i_1 ?_
      replace h := obd_of h; obtain ⟨a15, rfl, h⟩ := h
      replace h := jgd_of h; obtain ⟨hb16, h⟩ := h
      replace h := obd_of h; obtain ⟨x17, hx17, h⟩ := h
      refine jr_V6_1 jf_85_46 hb16 (by omega) (r_Row_at (by omega) _ _ _ _ hx17) (by simp only [jcats_cons, jcats_nil, cat_int, cat_long, cat_double, cat_float, cat_ref, rv_cat]; decide) jml_23 (Nat.le_of_ble_eq_true rfl) ?_
      replace h := jgd_of h; obtain ⟨hb18, h⟩ := h
      replace h := obd_of h; obtain ⟨x19, hx19, h⟩ := h
      refine jr_V6_2 jf_85_49 hb18 (by omega) (r_Section_lessTimes (by omega) _ _ _ _ _ hx19) (by simp only [jcats_cons, jcats_nil, cat_int, cat_long, cat_double, cat_float, cat_ref, rv_cat]; decide) jml_81 (Nat.le_of_ble_eq_true rfl) ?_
      replace h := obd_of h; obtain ⟨a20, rfl, h⟩ := h
      replace h := obd_of h; obtain ⟨x21, hx21, h⟩ := h
      rcases ite_or hx21 with ⟨hb, hx⟩ | ⟨hb0, hx⟩
      · refine jr_V8a_2 jf_85_52 hb (by omega) (r_Real_plus (by omega) _ _ _ _ _ hx) (Nat.le_of_ble_eq_true rfl) jml_65 (Nat.le_of_ble_eq_true rfl) ?_
        replace h := jgd_of h; obtain ⟨hb22, h⟩ := h
        replace h := jbd2_of h; obtain ⟨x23, μ24, hx23, h⟩ := h
        refine jr_V6_1 jf_85_55 hb22 (by omega) (r_Section_settled (by omega) _ _ _ _ _ hx23) (Nat.le_of_ble_eq_true rfl) jml_70 (Nat.le_of_ble_eq_true rfl) ?_
        refine jr_lstore jf_85_58 jml_85 (by decide) ?_
        refine jr_aload_n jf_85_60 rfl (jg2_ne rfl (jg2_ne rfl (jg2_ne rfl hl0))) ?_
        replace h := obd_of h; obtain ⟨x25, hx25, h⟩ := h
        refine jr_getA jf_85_61 hx25 ?_
        refine jr_aload_n jf_85_64 rfl (jg2_ne rfl (jg2_ne rfl (jg2_ne rfl hl0))) ?_
        refine jr_iconst jf_85_65 jc_i_0 ?_
        refine jr_lload jf_85_66 jg2_same ?_
        replace h := jgd_of h; obtain ⟨hb26, h⟩ := h
        replace h := obd_of h; obtain ⟨x27, hx27, h⟩ := h
        refine jr_V6_2 jf_85_68 hb26 (by omega) (r_Section_times (by omega) _ _ _ _ _ hx27) (by simp only [jcats_cons, jcats_nil, cat_int, cat_long, cat_double, cat_float, cat_ref, rv_cat]; decide) jml_78 (Nat.le_of_ble_eq_true rfl) ?_
        refine jr_aload_n jf_85_71 rfl (jg2_ne rfl (jg2_ne rfl (jg2_ne rfl hl0))) ?_
        refine jr_iconst jf_85_72 jc_i_1 ?_
        refine jr_lload_n jf_85_73 rfl (jg2_ne rfl (jg2_ne rfl jg2_same)) ?_
        replace h := jgd_of h; obtain ⟨hb28, h⟩ := h
        replace h := obd_of h; obtain ⟨x29, hx29, h⟩ := h
        refine jr_V6_2 jf_85_74 hb28 (by omega) (r_Section_times (by omega) _ _ _ _ _ hx29) (by simp only [jcats_cons, jcats_nil, cat_int, cat_long, cat_double, cat_float, cat_ref, rv_cat]; decide) jml_78 (Nat.le_of_ble_eq_true rfl) ?_
        replace h := obd_of h; obtain ⟨a30, rfl, h⟩ := h
        replace h := obd_of h; obtain ⟨x31, hx31, h⟩ := h
        rcases ite_or hx31 with ⟨hb, hx⟩ | ⟨hb0, hx⟩
        · refine jr_V8a_2 jf_85_77 hb (by omega) (r_Real_plus (by omega) _ _ _ _ _ hx) (Nat.le_of_ble_eq_true rfl) jml_65 (Nat.le_of_ble_eq_true rfl) ?_
          refine jr_lstore jf_85_80 jml_85 (by decide) ?_
          refine jr_aload_n jf_85_82 rfl (jg2_ne rfl (jg2_ne rfl (jg2_ne rfl (jg2_ne rfl hl0)))) ?_
          refine jr_aload_n jf_85_83 rfl (jg2_ne rfl (jg2_ne rfl (jg2_ne rfl (jg2_ne rfl hl0)))) ?_
          replace h := obd_of h; obtain ⟨x32, hx32, h⟩ := h
          refine jr_getA jf_85_84 hx32 ?_
          refine jr_lload jf_85_87 jg2_same ?_
          refine jr_aload_n jf_85_89 rfl (jg2_ne rfl (jg2_ne rfl (jg2_ne rfl (jg2_ne rfl hl0)))) ?_
          refine jr_iconst jf_85_90 jc_i_2 ?_
          refine jr_aload_n jf_85_91 rfl (jg2_ne rfl (jg2_ne rfl (jg2_ne rfl (jg2_ne rfl hl0)))) ?_
          replace h := obd_of h; obtain ⟨x33, hx33, h⟩ := h
          refine jr_getA jf_85_92 hx33 ?_
          refine jr_iconst jf_85_95 jc_i_1 ?_
          replace h := obd_of h; obtain ⟨a34, rfl, h⟩ := h
          replace h := jgd_of h; obtain ⟨hb35, h⟩ := h
          replace h := obd_of h; obtain ⟨x36, hx36, h⟩ := h
          refine jr_V6_1 jf_85_96 hb35 (by omega) (r_Row_at (by omega) _ _ _ _ hx36) (by simp only [jcats_cons, jcats_nil, cat_int, cat_long, cat_double, cat_float, cat_ref, rv_cat]; decide) jml_23 (Nat.le_of_ble_eq_true rfl) ?_
          replace h := jgd_of h; obtain ⟨hb37, h⟩ := h
          replace h := obd_of h; obtain ⟨x38, hx38, h⟩ := h
          refine jr_V6_2 jf_85_99 hb37 (by omega) (r_Section_times (by omega) _ _ _ _ _ hx38) (by simp only [jcats_cons, jcats_nil, cat_int, cat_long, cat_double, cat_float, cat_ref, rv_cat]; decide) jml_78 (Nat.le_of_ble_eq_true rfl) ?_
          replace h := obd_of h; obtain ⟨a39, rfl, h⟩ := h
          replace h := obd_of h; obtain ⟨x40, hx40, h⟩ := h
          rcases ite_or hx40 with ⟨hb, hx⟩ | ⟨hb0, hx⟩
          · refine jr_V8a_2 jf_85_102 hb (by omega) (r_Real_plus (by omega) _ _ _ _ _ hx) (Nat.le_of_ble_eq_true rfl) jml_65 (Nat.le_of_ble_eq_true rfl) ?_
            replace h := jgd_of h; obtain ⟨hb41, h⟩ := h
            replace h := jbd2_of h; obtain ⟨x42, μ43, hx42, h⟩ := h
            refine jr_V6_1 jf_85_105 hb41 (by omega) (r_Section_settled (by omega) _ _ _ _ _ hx42) (Nat.le_of_ble_eq_true rfl) jml_70 (Nat.le_of_ble_eq_true rfl) ?_
            refine jr_lstore jf_85_108 jml_85 (by decide) ?_
            refine jr_aload_n jf_85_110 rfl (jg2_ne rfl (jg2_ne rfl (jg2_ne rfl (jg2_ne rfl (jg2_ne rfl hl0))))) ?_
            replace h := obd_of h; obtain ⟨x44, hx44, h⟩ := h
            refine jr_getA jf_85_111 hx44 ?_
            refine jr_iconst jf_85_114 jc_i_1 ?_
            refine jr_lload_n jf_85_115 rfl (jg2_ne rfl (jg2_ne rfl (jg2_ne rfl (jg2_ne rfl jg2_same)))) ?_
            replace h := obd_of h; obtain ⟨a45, rfl, h⟩ := h
            replace h := jgd_of h; obtain ⟨hb46, h⟩ := h
            replace h := obd_of h; obtain ⟨μ47, hμ47, h⟩ := h
            refine jr_V6v_2 jf_85_116 hb46 (by omega) (r_Row_put (by omega) _ _ _ _ _ hμ47) (Nat.le_of_ble_eq_true rfl) jml_50 (Nat.le_of_ble_eq_true rfl) ?_
            refine jr_aload_n jf_85_119 rfl (jg2_ne rfl (jg2_ne rfl (jg2_ne rfl (jg2_ne rfl (jg2_ne rfl hl0))))) ?_
            replace h := obd_of h; obtain ⟨x48, hx48, h⟩ := h
            refine jr_getA jf_85_120 hx48 ?_
            refine jr_iconst jf_85_123 jc_i_0 ?_
            refine jr_lload jf_85_124 (jg2_ne rfl (jg2_ne rfl jg2_same)) ?_
            replace h := obd_of h; obtain ⟨a49, rfl, h⟩ := h
            replace h := jgd_of h; obtain ⟨hb50, h⟩ := h
            replace h := obd_of h; obtain ⟨μ51, hμ51, h⟩ := h
            refine jr_V6v_2 jf_85_126 hb50 (by omega) (r_Row_put (by omega) _ _ _ _ _ hμ51) (Nat.le_of_ble_eq_true rfl) jml_50 (Nat.le_of_ble_eq_true rfl) ?_
            refine jr_lload jf_85_129 jg2_same ?_
            obtain ⟨rfl, rfl⟩ := Prod.mk.inj (Option.some.inj h)
            exact jr_retJ jf_85_131 jmt_85
          · obtain ⟨hb, hx⟩ := jgd_of hx
            obtain hx := Option.some.inj hx
            refine jr_V8b_2 jf_85_102 hb0 hb (by omega) (r_Shorts_plus (by omega) _ _ _ _ _ hx) (Nat.le_of_ble_eq_true rfl) jml_69 (Nat.le_of_ble_eq_true rfl) ?_
            replace h := jgd_of h; obtain ⟨hb41, h⟩ := h
            replace h := jbd2_of h; obtain ⟨x42, μ43, hx42, h⟩ := h
            refine jr_V6_1 jf_85_105 hb41 (by omega) (r_Section_settled (by omega) _ _ _ _ _ hx42) (Nat.le_of_ble_eq_true rfl) jml_70 (Nat.le_of_ble_eq_true rfl) ?_
            refine jr_lstore jf_85_108 jml_85 (by decide) ?_
            refine jr_aload_n jf_85_110 rfl (jg2_ne rfl (jg2_ne rfl (jg2_ne rfl (jg2_ne rfl (jg2_ne rfl hl0))))) ?_
            replace h := obd_of h; obtain ⟨x44, hx44, h⟩ := h
            refine jr_getA jf_85_111 hx44 ?_
            refine jr_iconst jf_85_114 jc_i_1 ?_
            refine jr_lload_n jf_85_115 rfl (jg2_ne rfl (jg2_ne rfl (jg2_ne rfl (jg2_ne rfl jg2_same)))) ?_
            replace h := obd_of h; obtain ⟨a45, rfl, h⟩ := h
            replace h := jgd_of h; obtain ⟨hb46, h⟩ := h
            replace h := obd_of h; obtain ⟨μ47, hμ47, h⟩ := h
            refine jr_V6v_2 jf_85_116 hb46 (by omega) (r_Row_put (by omega) _ _ _ _ _ hμ47) (Nat.le_of_ble_eq_true rfl) jml_50 (Nat.le_of_ble_eq_true rfl) ?_
            refine jr_aload_n jf_85_119 rfl (jg2_ne rfl (jg2_ne rfl (jg2_ne rfl (jg2_ne rfl (jg2_ne rfl hl0))))) ?_
            replace h := obd_of h; obtain ⟨x48, hx48, h⟩ := h
            refine jr_getA jf_85_120 hx48 ?_
            refine jr_iconst jf_85_123 jc_i_0 ?_
            refine jr_lload jf_85_124 (jg2_ne rfl (jg2_ne rfl jg2_same)) ?_
            replace h := obd_of h; obtain ⟨a49, rfl, h⟩ := h
            replace h := jgd_of h; obtain ⟨hb50, h⟩ := h
            replace h := obd_of h; obtain ⟨μ51, hμ51, h⟩ := h
            refine jr_V6v_2 jf_85_126 hb50 (by omega) (r_Row_put (by omega) _ _ _ _ _ hμ51) (Nat.le_of_ble_eq_true rfl) jml_50 (Nat.le_of_ble_eq_true rfl) ?_
            refine jr_lload jf_85_129 jg2_same ?_
            obtain ⟨rfl, rfl⟩ := Prod.mk.inj (Option.some.inj h)
            exact jr_retJ jf_85_131 jmt_85
        · obtain ⟨hb, hx⟩ := jgd_of hx
          obtain hx := Option.some.inj hx
          refine jr_V8b_2 jf_85_77 hb0 hb (by omega) (r_Shorts_plus (by omega) _ _ _ _ _ hx) (Nat.le_of_ble_eq_true rfl) jml_69 (Nat.le_of_ble_eq_true rfl) ?_
          refine jr_lstore jf_85_80 jml_85 (by decide) ?_
          refine jr_aload_n jf_85_82 rfl (jg2_ne rfl (jg2_ne rfl (jg2_ne rfl (jg2_ne rfl hl0)))) ?_
          refine jr_aload_n jf_85_83 rfl (jg2_ne rfl (jg2_ne rfl (jg2_ne rfl (jg2_ne rfl hl0)))) ?_
          replace h := obd_of h; obtain ⟨x32, hx32, h⟩ := h
          refine jr_getA jf_85_84 hx32 ?_
          refine jr_lload jf_85_87 jg2_same ?_
          refine jr_aload_n jf_85_89 rfl (jg2_ne rfl (jg2_ne rfl (jg2_ne rfl (jg2_ne rfl hl0)))) ?_
          refine jr_iconst jf_85_90 jc_i_2 ?_
          refine jr_aload_n jf_85_91 rfl (jg2_ne rfl (jg2_ne rfl (jg2_ne rfl (jg2_ne rfl hl0)))) ?_
          replace h := obd_of h; obtain ⟨x33, hx33, h⟩ := h
          refine jr_getA jf_85_92 hx33 ?_
          refine jr_iconst jf_85_95 jc_i_1 ?_
          replace h := obd_of h; obtain ⟨a34, rfl, h⟩ := h
          replace h := jgd_of h; obtain ⟨hb35, h⟩ := h
          replace h := obd_of h; obtain ⟨x36, hx36, h⟩ := h
          refine jr_V6_1 jf_85_96 hb35 (by omega) (r_Row_at (by omega) _ _ _ _ hx36) (by simp only [jcats_cons, jcats_nil, cat_int, cat_long, cat_double, cat_float, cat_ref, rv_cat]; decide) jml_23 (Nat.le_of_ble_eq_true rfl) ?_
          replace h := jgd_of h; obtain ⟨hb37, h⟩ := h
          replace h := obd_of h; obtain ⟨x38, hx38, h⟩ := h
          refine jr_V6_2 jf_85_99 hb37 (by omega) (r_Section_times (by omega) _ _ _ _ _ hx38) (by simp only [jcats_cons, jcats_nil, cat_int, cat_long, cat_double, cat_float, cat_ref, rv_cat]; decide) jml_78 (Nat.le_of_ble_eq_true rfl) ?_
          replace h := obd_of h; obtain ⟨a39, rfl, h⟩ := h
          replace h := obd_of h; obtain ⟨x40, hx40, h⟩ := h
          rcases ite_or hx40 with ⟨hb, hx⟩ | ⟨hb0, hx⟩
          · refine jr_V8a_2 jf_85_102 hb (by omega) (r_Real_plus (by omega) _ _ _ _ _ hx) (Nat.le_of_ble_eq_true rfl) jml_65 (Nat.le_of_ble_eq_true rfl) ?_
            replace h := jgd_of h; obtain ⟨hb41, h⟩ := h
            replace h := jbd2_of h; obtain ⟨x42, μ43, hx42, h⟩ := h
            refine jr_V6_1 jf_85_105 hb41 (by omega) (r_Section_settled (by omega) _ _ _ _ _ hx42) (Nat.le_of_ble_eq_true rfl) jml_70 (Nat.le_of_ble_eq_true rfl) ?_
            refine jr_lstore jf_85_108 jml_85 (by decide) ?_
            refine jr_aload_n jf_85_110 rfl (jg2_ne rfl (jg2_ne rfl (jg2_ne rfl (jg2_ne rfl (jg2_ne rfl hl0))))) ?_
            replace h := obd_of h; obtain ⟨x44, hx44, h⟩ := h
            refine jr_getA jf_85_111 hx44 ?_
            refine jr_iconst jf_85_114 jc_i_1 ?_
            refine jr_lload_n jf_85_115 rfl (jg2_ne rfl (jg2_ne rfl (jg2_ne rfl (jg2_ne rfl jg2_same)))) ?_
            replace h := obd_of h; obtain ⟨a45, rfl, h⟩ := h
            replace h := jgd_of h; obtain ⟨hb46, h⟩ := h
            replace h := obd_of h; obtain ⟨μ47, hμ47, h⟩ := h
            refine jr_V6v_2 jf_85_116 hb46 (by omega) (r_Row_put (by omega) _ _ _ _ _ hμ47) (Nat.le_of_ble_eq_true rfl) jml_50 (Nat.le_of_ble_eq_true rfl) ?_
            refine jr_aload_n jf_85_119 rfl (jg2_ne rfl (jg2_ne rfl (jg2_ne rfl (jg2_ne rfl (jg2_ne rfl hl0))))) ?_
            replace h := obd_of h; obtain ⟨x48, hx48, h⟩ := h
            refine jr_getA jf_85_120 hx48 ?_
            refine jr_iconst jf_85_123 jc_i_0 ?_
            refine jr_lload jf_85_124 (jg2_ne rfl (jg2_ne rfl jg2_same)) ?_
            replace h := obd_of h; obtain ⟨a49, rfl, h⟩ := h
            replace h := jgd_of h; obtain ⟨hb50, h⟩ := h
            replace h := obd_of h; obtain ⟨μ51, hμ51, h⟩ := h
            refine jr_V6v_2 jf_85_126 hb50 (by omega) (r_Row_put (by omega) _ _ _ _ _ hμ51) (Nat.le_of_ble_eq_true rfl) jml_50 (Nat.le_of_ble_eq_true rfl) ?_
            refine jr_lload jf_85_129 jg2_same ?_
            obtain ⟨rfl, rfl⟩ := Prod.mk.inj (Option.some.inj h)
            exact jr_retJ jf_85_131 jmt_85
          · obtain ⟨hb, hx⟩ := jgd_of hx
            obtain hx := Option.some.inj hx
            refine jr_V8b_2 jf_85_102 hb0 hb (by omega) (r_Shorts_plus (by omega) _ _ _ _ _ hx) (Nat.le_of_ble_eq_true rfl) jml_69 (Nat.le_of_ble_eq_true rfl) ?_
            replace h := jgd_of h; obtain ⟨hb41, h⟩ := h
            replace h := jbd2_of h; obtain ⟨x42, μ43, hx42, h⟩ := h
            refine jr_V6_1 jf_85_105 hb41 (by omega) (r_Section_settled (by omega) _ _ _ _ _ hx42) (Nat.le_of_ble_eq_true rfl) jml_70 (Nat.le_of_ble_eq_true rfl) ?_
            refine jr_lstore jf_85_108 jml_85 (by decide) ?_
            refine jr_aload_n jf_85_110 rfl (jg2_ne rfl (jg2_ne rfl (jg2_ne rfl (jg2_ne rfl (jg2_ne rfl hl0))))) ?_
            replace h := obd_of h; obtain ⟨x44, hx44, h⟩ := h
            refine jr_getA jf_85_111 hx44 ?_
            refine jr_iconst jf_85_114 jc_i_1 ?_
            refine jr_lload_n jf_85_115 rfl (jg2_ne rfl (jg2_ne rfl (jg2_ne rfl (jg2_ne rfl jg2_same)))) ?_
            replace h := obd_of h; obtain ⟨a45, rfl, h⟩ := h
            replace h := jgd_of h; obtain ⟨hb46, h⟩ := h
            replace h := obd_of h; obtain ⟨μ47, hμ47, h⟩ := h
            refine jr_V6v_2 jf_85_116 hb46 (by omega) (r_Row_put (by omega) _ _ _ _ _ hμ47) (Nat.le_of_ble_eq_true rfl) jml_50 (Nat.le_of_ble_eq_true rfl) ?_
            refine jr_aload_n jf_85_119 rfl (jg2_ne rfl (jg2_ne rfl (jg2_ne rfl (jg2_ne rfl (jg2_ne rfl hl0))))) ?_
            replace h := obd_of h; obtain ⟨x48, hx48, h⟩ := h
            refine jr_getA jf_85_120 hx48 ?_
            refine jr_iconst jf_85_123 jc_i_0 ?_
            refine jr_lload jf_85_124 (jg2_ne rfl (jg2_ne rfl jg2_same)) ?_
            replace h := obd_of h; obtain ⟨a49, rfl, h⟩ := h
            replace h := jgd_of h; obtain ⟨hb50, h⟩ := h
            replace h := obd_of h; obtain ⟨μ51, hμ51, h⟩ := h
            refine jr_V6v_2 jf_85_126 hb50 (by omega) (r_Row_put (by omega) _ _ _ _ _ hμ51) (Nat.le_of_ble_eq_true rfl) jml_50 (Nat.le_of_ble_eq_true rfl) ?_
            refine jr_lload jf_85_129 jg2_same ?_
            obtain ⟨rfl, rfl⟩ := Prod.mk.inj (Option.some.inj h)
            exact jr_retJ jf_85_131 jmt_85
      · obtain ⟨hb, hx⟩ := jgd_of hx
        obtain hx := Option.some.inj hx
        refine jr_V8b_2 jf_85_52 hb0 hb (by omega) (r_Shorts_plus (by omega) _ _ _ _ _ hx) (Nat.le_of_ble_eq_true rfl) jml_69 (Nat.le_of_ble_eq_true rfl) ?_
        replace h := jgd_of h; obtain ⟨hb22, h⟩ := h
        replace h := jbd2_of h; obtain ⟨x23, μ24, hx23, h⟩ := h
        refine jr_V6_1 jf_85_55 hb22 (by omega) (r_Section_settled (by omega) _ _ _ _ _ hx23) (Nat.le_of_ble_eq_true rfl) jml_70 (Nat.le_of_ble_eq_true rfl) ?_
        refine jr_lstore jf_85_58 jml_85 (by decide) ?_
        refine jr_aload_n jf_85_60 rfl (jg2_ne rfl (jg2_ne rfl (jg2_ne rfl hl0))) ?_
        replace h := obd_of h; obtain ⟨x25, hx25, h⟩ := h
        refine jr_getA jf_85_61 hx25 ?_
        refine jr_aload_n jf_85_64 rfl (jg2_ne rfl (jg2_ne rfl (jg2_ne rfl hl0))) ?_
        refine jr_iconst jf_85_65 jc_i_0 ?_
        refine jr_lload jf_85_66 jg2_same ?_
        replace h := jgd_of h; obtain ⟨hb26, h⟩ := h
        replace h := obd_of h; obtain ⟨x27, hx27, h⟩ := h
        refine jr_V6_2 jf_85_68 hb26 (by omega) (r_Section_times (by omega) _ _ _ _ _ hx27) (by simp only [jcats_cons, jcats_nil, cat_int, cat_long, cat_double, cat_float, cat_ref, rv_cat]; decide) jml_78 (Nat.le_of_ble_eq_true rfl) ?_
        refine jr_aload_n jf_85_71 rfl (jg2_ne rfl (jg2_ne rfl (jg2_ne rfl hl0))) ?_
        refine jr_iconst jf_85_72 jc_i_1 ?_
        refine jr_lload_n jf_85_73 rfl (jg2_ne rfl (jg2_ne rfl jg2_same)) ?_
        replace h := jgd_of h; obtain ⟨hb28, h⟩ := h
        replace h := obd_of h; obtain ⟨x29, hx29, h⟩ := h
        refine jr_V6_2 jf_85_74 hb28 (by omega) (r_Section_times (by omega) _ _ _ _ _ hx29) (by simp only [jcats_cons, jcats_nil, cat_int, cat_long, cat_double, cat_float, cat_ref, rv_cat]; decide) jml_78 (Nat.le_of_ble_eq_true rfl) ?_
        replace h := obd_of h; obtain ⟨a30, rfl, h⟩ := h
        replace h := obd_of h; obtain ⟨x31, hx31, h⟩ := h
        rcases ite_or hx31 with ⟨hb, hx⟩ | ⟨hb0, hx⟩
        · refine jr_V8a_2 jf_85_77 hb (by omega) (r_Real_plus (by omega) _ _ _ _ _ hx) (Nat.le_of_ble_eq_true rfl) jml_65 (Nat.le_of_ble_eq_true rfl) ?_
          refine jr_lstore jf_85_80 jml_85 (by decide) ?_
          refine jr_aload_n jf_85_82 rfl (jg2_ne rfl (jg2_ne rfl (jg2_ne rfl (jg2_ne rfl hl0)))) ?_
          refine jr_aload_n jf_85_83 rfl (jg2_ne rfl (jg2_ne rfl (jg2_ne rfl (jg2_ne rfl hl0)))) ?_
          replace h := obd_of h; obtain ⟨x32, hx32, h⟩ := h
          refine jr_getA jf_85_84 hx32 ?_
          refine jr_lload jf_85_87 jg2_same ?_
          refine jr_aload_n jf_85_89 rfl (jg2_ne rfl (jg2_ne rfl (jg2_ne rfl (jg2_ne rfl hl0)))) ?_
          refine jr_iconst jf_85_90 jc_i_2 ?_
          refine jr_aload_n jf_85_91 rfl (jg2_ne rfl (jg2_ne rfl (jg2_ne rfl (jg2_ne rfl hl0)))) ?_
          replace h := obd_of h; obtain ⟨x33, hx33, h⟩ := h
          refine jr_getA jf_85_92 hx33 ?_
          refine jr_iconst jf_85_95 jc_i_1 ?_
          replace h := obd_of h; obtain ⟨a34, rfl, h⟩ := h
          replace h := jgd_of h; obtain ⟨hb35, h⟩ := h
          replace h := obd_of h; obtain ⟨x36, hx36, h⟩ := h
          refine jr_V6_1 jf_85_96 hb35 (by omega) (r_Row_at (by omega) _ _ _ _ hx36) (by simp only [jcats_cons, jcats_nil, cat_int, cat_long, cat_double, cat_float, cat_ref, rv_cat]; decide) jml_23 (Nat.le_of_ble_eq_true rfl) ?_
          replace h := jgd_of h; obtain ⟨hb37, h⟩ := h
          replace h := obd_of h; obtain ⟨x38, hx38, h⟩ := h
          refine jr_V6_2 jf_85_99 hb37 (by omega) (r_Section_times (by omega) _ _ _ _ _ hx38) (by simp only [jcats_cons, jcats_nil, cat_int, cat_long, cat_double, cat_float, cat_ref, rv_cat]; decide) jml_78 (Nat.le_of_ble_eq_true rfl) ?_
          replace h := obd_of h; obtain ⟨a39, rfl, h⟩ := h
          replace h := obd_of h; obtain ⟨x40, hx40, h⟩ := h
          rcases ite_or hx40 with ⟨hb, hx⟩ | ⟨hb0, hx⟩
          · refine jr_V8a_2 jf_85_102 hb (by omega) (r_Real_plus (by omega) _ _ _ _ _ hx) (Nat.le_of_ble_eq_true rfl) jml_65 (Nat.le_of_ble_eq_true rfl) ?_
            replace h := jgd_of h; obtain ⟨hb41, h⟩ := h
            replace h := jbd2_of h; obtain ⟨x42, μ43, hx42, h⟩ := h
            refine jr_V6_1 jf_85_105 hb41 (by omega) (r_Section_settled (by omega) _ _ _ _ _ hx42) (Nat.le_of_ble_eq_true rfl) jml_70 (Nat.le_of_ble_eq_true rfl) ?_
            refine jr_lstore jf_85_108 jml_85 (by decide) ?_
            refine jr_aload_n jf_85_110 rfl (jg2_ne rfl (jg2_ne rfl (jg2_ne rfl (jg2_ne rfl (jg2_ne rfl hl0))))) ?_
            replace h := obd_of h; obtain ⟨x44, hx44, h⟩ := h
            refine jr_getA jf_85_111 hx44 ?_
            refine jr_iconst jf_85_114 jc_i_1 ?_
            refine jr_lload_n jf_85_115 rfl (jg2_ne rfl (jg2_ne rfl (jg2_ne rfl (jg2_ne rfl jg2_same)))) ?_
            replace h := obd_of h; obtain ⟨a45, rfl, h⟩ := h
            replace h := jgd_of h; obtain ⟨hb46, h⟩ := h
            replace h := obd_of h; obtain ⟨μ47, hμ47, h⟩ := h
            refine jr_V6v_2 jf_85_116 hb46 (by omega) (r_Row_put (by omega) _ _ _ _ _ hμ47) (Nat.le_of_ble_eq_true rfl) jml_50 (Nat.le_of_ble_eq_true rfl) ?_
            refine jr_aload_n jf_85_119 rfl (jg2_ne rfl (jg2_ne rfl (jg2_ne rfl (jg2_ne rfl (jg2_ne rfl hl0))))) ?_
            replace h := obd_of h; obtain ⟨x48, hx48, h⟩ := h
            refine jr_getA jf_85_120 hx48 ?_
            refine jr_iconst jf_85_123 jc_i_0 ?_
            refine jr_lload jf_85_124 (jg2_ne rfl (jg2_ne rfl jg2_same)) ?_
            replace h := obd_of h; obtain ⟨a49, rfl, h⟩ := h
            replace h := jgd_of h; obtain ⟨hb50, h⟩ := h
            replace h := obd_of h; obtain ⟨μ51, hμ51, h⟩ := h
            refine jr_V6v_2 jf_85_126 hb50 (by omega) (r_Row_put (by omega) _ _ _ _ _ hμ51) (Nat.le_of_ble_eq_true rfl) jml_50 (Nat.le_of_ble_eq_true rfl) ?_
            refine jr_lload jf_85_129 jg2_same ?_
            obtain ⟨rfl, rfl⟩ := Prod.mk.inj (Option.some.inj h)
            exact jr_retJ jf_85_131 jmt_85
          · obtain ⟨hb, hx⟩ := jgd_of hx
            obtain hx := Option.some.inj hx
            refine jr_V8b_2 jf_85_102 hb0 hb (by omega) (r_Shorts_plus (by omega) _ _ _ _ _ hx) (Nat.le_of_ble_eq_true rfl) jml_69 (Nat.le_of_ble_eq_true rfl) ?_
            replace h := jgd_of h; obtain ⟨hb41, h⟩ := h
            replace h := jbd2_of h; obtain ⟨x42, μ43, hx42, h⟩ := h
            refine jr_V6_1 jf_85_105 hb41 (by omega) (r_Section_settled (by omega) _ _ _ _ _ hx42) (Nat.le_of_ble_eq_true rfl) jml_70 (Nat.le_of_ble_eq_true rfl) ?_
            refine jr_lstore jf_85_108 jml_85 (by decide) ?_
            refine jr_aload_n jf_85_110 rfl (jg2_ne rfl (jg2_ne rfl (jg2_ne rfl (jg2_ne rfl (jg2_ne rfl hl0))))) ?_
            replace h := obd_of h; obtain ⟨x44, hx44, h⟩ := h
            refine jr_getA jf_85_111 hx44 ?_
            refine jr_iconst jf_85_114 jc_i_1 ?_
            refine jr_lload_n jf_85_115 rfl (jg2_ne rfl (jg2_ne rfl (jg2_ne rfl (jg2_ne rfl jg2_same)))) ?_
            replace h := obd_of h; obtain ⟨a45, rfl, h⟩ := h
            replace h := jgd_of h; obtain ⟨hb46, h⟩ := h
            replace h := obd_of h; obtain ⟨μ47, hμ47, h⟩ := h
            refine jr_V6v_2 jf_85_116 hb46 (by omega) (r_Row_put (by omega) _ _ _ _ _ hμ47) (Nat.le_of_ble_eq_true rfl) jml_50 (Nat.le_of_ble_eq_true rfl) ?_
            refine jr_aload_n jf_85_119 rfl (jg2_ne rfl (jg2_ne rfl (jg2_ne rfl (jg2_ne rfl (jg2_ne rfl hl0))))) ?_
            replace h := obd_of h; obtain ⟨x48, hx48, h⟩ := h
            refine jr_getA jf_85_120 hx48 ?_
            refine jr_iconst jf_85_123 jc_i_0 ?_
            refine jr_lload jf_85_124 (jg2_ne rfl (jg2_ne rfl jg2_same)) ?_
            replace h := obd_of h; obtain ⟨a49, rfl, h⟩ := h
            replace h := jgd_of h; obtain ⟨hb50, h⟩ := h
            replace h := obd_of h; obtain ⟨μ51, hμ51, h⟩ := h
            refine jr_V6v_2 jf_85_126 hb50 (by omega) (r_Row_put (by omega) _ _ _ _ _ hμ51) (Nat.le_of_ble_eq_true rfl) jml_50 (Nat.le_of_ble_eq_true rfl) ?_
            refine jr_lload jf_85_129 jg2_same ?_
            obtain ⟨rfl, rfl⟩ := Prod.mk.inj (Option.some.inj h)
            exact jr_retJ jf_85_131 jmt_85
        · obtain ⟨hb, hx⟩ := jgd_of hx
          obtain hx := Option.some.inj hx
          refine jr_V8b_2 jf_85_77 hb0 hb (by omega) (r_Shorts_plus (by omega) _ _ _ _ _ hx) (Nat.le_of_ble_eq_true rfl) jml_69 (Nat.le_of_ble_eq_true rfl) ?_
          refine jr_lstore jf_85_80 jml_85 (by decide) ?_
          refine jr_aload_n jf_85_82 rfl (jg2_ne rfl (jg2_ne rfl (jg2_ne rfl (jg2_ne rfl hl0)))) ?_
          refine jr_aload_n jf_85_83 rfl (jg2_ne rfl (jg2_ne rfl (jg2_ne rfl (jg2_ne rfl hl0)))) ?_
          replace h := obd_of h; obtain ⟨x32, hx32, h⟩ := h
          refine jr_getA jf_85_84 hx32 ?_
          refine jr_lload jf_85_87 jg2_same ?_
          refine jr_aload_n jf_85_89 rfl (jg2_ne rfl (jg2_ne rfl (jg2_ne rfl (jg2_ne rfl hl0)))) ?_
          refine jr_iconst jf_85_90 jc_i_2 ?_
          refine jr_aload_n jf_85_91 rfl (jg2_ne rfl (jg2_ne rfl (jg2_ne rfl (jg2_ne rfl hl0)))) ?_
          replace h := obd_of h; obtain ⟨x33, hx33, h⟩ := h
          refine jr_getA jf_85_92 hx33 ?_
          refine jr_iconst jf_85_95 jc_i_1 ?_
          replace h := obd_of h; obtain ⟨a34, rfl, h⟩ := h
          replace h := jgd_of h; obtain ⟨hb35, h⟩ := h
          replace h := obd_of h; obtain ⟨x36, hx36, h⟩ := h
          refine jr_V6_1 jf_85_96 hb35 (by omega) (r_Row_at (by omega) _ _ _ _ hx36) (by simp only [jcats_cons, jcats_nil, cat_int, cat_long, cat_double, cat_float, cat_ref, rv_cat]; decide) jml_23 (Nat.le_of_ble_eq_true rfl) ?_
          replace h := jgd_of h; obtain ⟨hb37, h⟩ := h
          replace h := obd_of h; obtain ⟨x38, hx38, h⟩ := h
          refine jr_V6_2 jf_85_99 hb37 (by omega) (r_Section_times (by omega) _ _ _ _ _ hx38) (by simp only [jcats_cons, jcats_nil, cat_int, cat_long, cat_double, cat_float, cat_ref, rv_cat]; decide) jml_78 (Nat.le_of_ble_eq_true rfl) ?_
          replace h := obd_of h; obtain ⟨a39, rfl, h⟩ := h
          replace h := obd_of h; obtain ⟨x40, hx40, h⟩ := h
          rcases ite_or hx40 with ⟨hb, hx⟩ | ⟨hb0, hx⟩
          · refine jr_V8a_2 jf_85_102 hb (by omega) (r_Real_plus (by omega) _ _ _ _ _ hx) (Nat.le_of_ble_eq_true rfl) jml_65 (Nat.le_of_ble_eq_true rfl) ?_
            replace h := jgd_of h; obtain ⟨hb41, h⟩ := h
            replace h := jbd2_of h; obtain ⟨x42, μ43, hx42, h⟩ := h
            refine jr_V6_1 jf_85_105 hb41 (by omega) (r_Section_settled (by omega) _ _ _ _ _ hx42) (Nat.le_of_ble_eq_true rfl) jml_70 (Nat.le_of_ble_eq_true rfl) ?_
            refine jr_lstore jf_85_108 jml_85 (by decide) ?_
            refine jr_aload_n jf_85_110 rfl (jg2_ne rfl (jg2_ne rfl (jg2_ne rfl (jg2_ne rfl (jg2_ne rfl hl0))))) ?_
            replace h := obd_of h; obtain ⟨x44, hx44, h⟩ := h
            refine jr_getA jf_85_111 hx44 ?_
            refine jr_iconst jf_85_114 jc_i_1 ?_
            refine jr_lload_n jf_85_115 rfl (jg2_ne rfl (jg2_ne rfl (jg2_ne rfl (jg2_ne rfl jg2_same)))) ?_
            replace h := obd_of h; obtain ⟨a45, rfl, h⟩ := h
            replace h := jgd_of h; obtain ⟨hb46, h⟩ := h
            replace h := obd_of h; obtain ⟨μ47, hμ47, h⟩ := h
            refine jr_V6v_2 jf_85_116 hb46 (by omega) (r_Row_put (by omega) _ _ _ _ _ hμ47) (Nat.le_of_ble_eq_true rfl) jml_50 (Nat.le_of_ble_eq_true rfl) ?_
            refine jr_aload_n jf_85_119 rfl (jg2_ne rfl (jg2_ne rfl (jg2_ne rfl (jg2_ne rfl (jg2_ne rfl hl0))))) ?_
            replace h := obd_of h; obtain ⟨x48, hx48, h⟩ := h
            refine jr_getA jf_85_120 hx48 ?_
            refine jr_iconst jf_85_123 jc_i_0 ?_
            refine jr_lload jf_85_124 (jg2_ne rfl (jg2_ne rfl jg2_same)) ?_
            replace h := obd_of h; obtain ⟨a49, rfl, h⟩ := h
            replace h := jgd_of h; obtain ⟨hb50, h⟩ := h
            replace h := obd_of h; obtain ⟨μ51, hμ51, h⟩ := h
            refine jr_V6v_2 jf_85_126 hb50 (by omega) (r_Row_put (by omega) _ _ _ _ _ hμ51) (Nat.le_of_ble_eq_true rfl) jml_50 (Nat.le_of_ble_eq_true rfl) ?_
            refine jr_lload jf_85_129 jg2_same ?_
            obtain ⟨rfl, rfl⟩ := Prod.mk.inj (Option.some.inj h)
            exact jr_retJ jf_85_131 jmt_85
          · obtain ⟨hb, hx⟩ := jgd_of hx
            obtain hx := Option.some.inj hx
            refine jr_V8b_2 jf_85_102 hb0 hb (by omega) (r_Shorts_plus (by omega) _ _ _ _ _ hx) (Nat.le_of_ble_eq_true rfl) jml_69 (Nat.le_of_ble_eq_true rfl) ?_
            replace h := jgd_of h; obtain ⟨hb41, h⟩ := h
            replace h := jbd2_of h; obtain ⟨x42, μ43, hx42, h⟩ := h
            refine jr_V6_1 jf_85_105 hb41 (by omega) (r_Section_settled (by omega) _ _ _ _ _ hx42) (Nat.le_of_ble_eq_true rfl) jml_70 (Nat.le_of_ble_eq_true rfl) ?_
            refine jr_lstore jf_85_108 jml_85 (by decide) ?_
            refine jr_aload_n jf_85_110 rfl (jg2_ne rfl (jg2_ne rfl (jg2_ne rfl (jg2_ne rfl (jg2_ne rfl hl0))))) ?_
            replace h := obd_of h; obtain ⟨x44, hx44, h⟩ := h
            refine jr_getA jf_85_111 hx44 ?_
            refine jr_iconst jf_85_114 jc_i_1 ?_
            refine jr_lload_n jf_85_115 rfl (jg2_ne rfl (jg2_ne rfl (jg2_ne rfl (jg2_ne rfl jg2_same)))) ?_
            replace h := obd_of h; obtain ⟨a45, rfl, h⟩ := h
            replace h := jgd_of h; obtain ⟨hb46, h⟩ := h
            replace h := obd_of h; obtain ⟨μ47, hμ47, h⟩ := h
            refine jr_V6v_2 jf_85_116 hb46 (by omega) (r_Row_put (by omega) _ _ _ _ _ hμ47) (Nat.le_of_ble_eq_true rfl) jml_50 (Nat.le_of_ble_eq_true rfl) ?_
            refine jr_aload_n jf_85_119 rfl (jg2_ne rfl (jg2_ne rfl (jg2_ne rfl (jg2_ne rfl (jg2_ne rfl hl0))))) ?_
            replace h := obd_of h; obtain ⟨x48, hx48, h⟩ := h
            refine jr_getA jf_85_120 hx48 ?_
            refine jr_iconst jf_85_123 jc_i_0 ?_
            refine jr_lload jf_85_124 (jg2_ne rfl (jg2_ne rfl jg2_same)) ?_
            replace h := obd_of h; obtain ⟨a49, rfl, h⟩ := h
            replace h := jgd_of h; obtain ⟨hb50, h⟩ := h
            replace h := obd_of h; obtain ⟨μ51, hμ51, h⟩ := h
            refine jr_V6v_2 jf_85_126 hb50 (by omega) (r_Row_put (by omega) _ _ _ _ _ hμ51) (Nat.le_of_ble_eq_true rfl) jml_50 (Nat.le_of_ble_eq_true rfl) ?_
            refine jr_lload jf_85_129 jg2_same ?_
            obtain ⟨rfl, rfl⟩ := Prod.mk.inj (Option.some.inj h)
            exact jr_retJ jf_85_131 jmt_85
set_option maxRecDepth 10000 in
set_option maxHeartbeats 4000000 in
theorem r_Section_second {B : Nat} {SA : Nat → Nat} {d : Nat} (hd : 4 ≤ d) : ∀ (v0 : Nat) (v1 : Int64) (μ : JMem) (r : Int64) (μ9 : JMem), g_Section_second B v0 v1 μ = some (r, μ9) → jR B SA d m_Section_second 0 (lv_args 0 [.ref v0, .long v1]) [] μ (some (.long r)) μ9 := by
  intro v0 v1 μ r μ9 h
  exact r_Section_second_e hd (lv_args 0 _) _ _ _ _ _ (by simp [lv_args, jget, rv_cat, cat_int, cat_long, cat_double, cat_float, cat_ref]) (by simp [lv_args, jget, rv_cat, cat_int, cat_long, cat_double, cat_float, cat_ref]) h
