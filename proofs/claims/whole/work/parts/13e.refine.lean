/-! the machine refines the functions (printed by wip/whole/dec.py) -/
/-! FilterBenchModel.rule(III)Z -/
set_option maxRecDepth 10000 in
set_option maxHeartbeats 4000000 in
theorem r_R_rule_e {B : Nat} {SA : Nat → Nat} {d : Nat} (hd : 2 ≤ d) : ∀ (L : JLoc) (v0 : Nat) (v1 : Int32) (v2 : Int32) (v3 : Int32) (μ : JMem) (r : Bool) (μ9 : JMem), jget L 0 = .ref v0 → jget L 1 = .int v1 → jget L 2 = .int v2 → jget L 3 = .int v3 → g_R_rule B v0 v1 v2 v3 μ = some (r, μ9) → jR B SA d m_R_rule 0 L [] μ (some (.int (jb r))) μ9 := by
  intro L v0 v1 v2 v3 μ r μ9 hl0 hl1 hl2 hl3 h
  unfold g_R_rule at h
  refine jr_aload_n jf_200_0 rfl hl0 ?_
  refine jr_iload_n jf_200_1 rfl hl1 ?_
  replace h := jgd_of h; obtain ⟨hb1, h⟩ := h
  replace h := obd_of h; obtain ⟨x2, hx2, h⟩ := h
  refine jr_V6_1 jf_200_2 hb1 (by omega) (r_R_isSection (by omega) _ _ _ _ hx2) (Nat.le_of_ble_eq_true rfl) jml_193 (Nat.le_of_ble_eq_true rfl) ?_
  replace h := ite_or h; rcases h with ⟨hc, h⟩ | ⟨hc, h⟩
  · refine jr_ifz_eq_f jf_200_5 hc ?_
    refine jr_aload_n jf_200_8 rfl hl0 ?_
    replace h := obd_of h; obtain ⟨x3, hx3, h⟩ := h
    refine jr_getA jf_200_9 hx3 ?_
    refine jr_iload_n jf_200_12 rfl hl1 ?_
    replace h := obd_of h; obtain ⟨a4, rfl, h⟩ := h
    replace h := obd_of h; obtain ⟨x5, hx5, h⟩ := h
    refine jr_iaload jf_200_13 hx5 ?_
    refine jr_iconst jf_200_14 jc_i_2 ?_
    replace h := ite_or h; rcases h with ⟨hc, h⟩ | ⟨hc, h⟩
    · refine jr_if2_ne_f jf_200_15 hc ?_
      refine jr_iload_n jf_200_18 rfl hl2 ?_
      refine jr_iconst jf_200_19 jc_i_0 ?_
      refine jr_iconst jf_200_20 jc_i_2 ?_
      refine jr_S3_3 jf_200_21 (by omega) (r_R_in (by omega) _ _ _ _ _ rfl) (Nat.le_of_ble_eq_true rfl) jml_187 (Nat.le_of_ble_eq_true rfl) ?_
      replace h := ite_or h; rcases h with ⟨hc, h⟩ | ⟨hc, h⟩
      · refine jr_ifz_eq_f jf_200_24 hc ?_
        refine jr_iload_n jf_200_27 rfl hl3 ?_
        refine jr_iconst jf_200_28 jc_i_0 ?_
        refine jr_iconst jf_200_29 jc_i_1 ?_
        refine jr_S3_3 jf_200_30 (by omega) (r_R_in (by omega) _ _ _ _ _ rfl) (Nat.le_of_ble_eq_true rfl) jml_187 (Nat.le_of_ble_eq_true rfl) ?_
        replace h := ite_or h; rcases h with ⟨hc, h⟩ | ⟨hc, h⟩
        · refine jr_ifz_ne_t jf_200_33 hc ?_
          refine jr_aload_n jf_200_38 rfl hl0 ?_
          replace h := obd_of h; obtain ⟨x6, hx6, h⟩ := h
          refine jr_getA jf_200_39 hx6 ?_
          refine jr_iload_n jf_200_42 rfl hl1 ?_
          refine jr_iload_n jf_200_43 rfl hl2 ?_
          replace h := obd_of h; obtain ⟨a7, rfl, h⟩ := h
          replace h := obd_of h; obtain ⟨μ8, hμ8, h⟩ := h
          refine jr_iastore jf_200_44 hμ8 ?_
          refine jr_aload_n jf_200_45 rfl hl0 ?_
          replace h := obd_of h; obtain ⟨x9, hx9, h⟩ := h
          refine jr_getA jf_200_46 hx9 ?_
          refine jr_iload_n jf_200_49 rfl hl1 ?_
          refine jr_iload_n jf_200_50 rfl hl3 ?_
          replace h := obd_of h; obtain ⟨a10, rfl, h⟩ := h
          replace h := obd_of h; obtain ⟨μ11, hμ11, h⟩ := h
          refine jr_iastore jf_200_51 hμ11 ?_
          refine jr_iconst jf_200_52 jc_i_1 ?_
          obtain ⟨rfl, rfl⟩ := Prod.mk.inj (Option.some.inj h)
          exact jr_retZ (x := true) jf_200_53 jmt_200
        · refine jr_ifz_ne_f jf_200_33 hc ?_
          refine jr_iconst jf_200_36 jc_i_0 ?_
          obtain ⟨rfl, rfl⟩ := Prod.mk.inj (Option.some.inj h)
          exact jr_retZ (x := false) jf_200_37 jmt_200
      · refine jr_ifz_eq_t jf_200_24 hc ?_
        refine jr_iconst jf_200_36 jc_i_0 ?_
        obtain ⟨rfl, rfl⟩ := Prod.mk.inj (Option.some.inj h)
        exact jr_retZ (x := false) jf_200_37 jmt_200
    · refine jr_if2_ne_t jf_200_15 hc ?_
      refine jr_iconst jf_200_36 jc_i_0 ?_
      obtain ⟨rfl, rfl⟩ := Prod.mk.inj (Option.some.inj h)
      exact jr_retZ (x := false) jf_200_37 jmt_200
  · refine jr_ifz_eq_t jf_200_5 hc ?_
    refine jr_iconst jf_200_36 jc_i_0 ?_
    obtain ⟨rfl, rfl⟩ := Prod.mk.inj (Option.some.inj h)
    exact jr_retZ (x := false) jf_200_37 jmt_200
set_option maxRecDepth 10000 in
set_option maxHeartbeats 4000000 in
theorem r_R_rule {B : Nat} {SA : Nat → Nat} {d : Nat} (hd : 2 ≤ d) : ∀ (v0 : Nat) (v1 : Int32) (v2 : Int32) (v3 : Int32) (μ : JMem) (r : Bool) (μ9 : JMem), g_R_rule B v0 v1 v2 v3 μ = some (r, μ9) → jR B SA d m_R_rule 0 (lv_args 0 [.ref v0, .int v1, .int v2, .int v3]) [] μ (some (.int (jb r))) μ9 := by
  intro v0 v1 v2 v3 μ r μ9 h
  exact r_R_rule_e hd (lv_args 0 _) _ _ _ _ _ _ _ (by simp [lv_args, jget, rv_cat, cat_int, cat_long, cat_double, cat_float, cat_ref]) (by simp [lv_args, jget, rv_cat, cat_int, cat_long, cat_double, cat_float, cat_ref]) (by simp [lv_args, jget, rv_cat, cat_int, cat_long, cat_double, cat_float, cat_ref]) (by simp [lv_args, jget, rv_cat, cat_int, cat_long, cat_double, cat_float, cat_ref]) h
/-! FilterBenchModel.newChain()I -/
set_option maxRecDepth 10000 in
set_option maxHeartbeats 4000000 in
theorem r_R_newChain_e {B : Nat} {SA : Nat → Nat} {d : Nat} (hd : 0 ≤ d) : ∀ (L : JLoc) (v0 : Nat) (μ : JMem) (r : Int32) (μ9 : JMem), jget L 0 = .ref v0 → g_R_newChain B v0 μ = some (r, μ9) → jR B SA d m_R_newChain 0 L [] μ (some (.int r)) μ9 := by
  intro L v0 μ r μ9 hl0 h
  unfold g_R_newChain at h
  refine jr_aload_n jf_202_0 rfl hl0 ?_
  replace h := obd_of h; obtain ⟨x1, hx1, h⟩ := h
  refine jr_getI jf_202_1 hx1 ?_
  refine jr_istore_n jf_202_4 rfl jml_202 (by decide) ?_
  refine jr_aload_n jf_202_5 rfl (jg1_pre (by first | rfl | exact rv_cat _) hl0) ?_
  replace h := obd_of h; obtain ⟨x2, hx2, h⟩ := h
  refine jr_getA jf_202_6 hx2 ?_
  refine jr_iload_n jf_202_9 rfl jg1_same ?_
  refine jr_iconst jf_202_10 jc_i_0 ?_
  replace h := obd_of h; obtain ⟨a3, rfl, h⟩ := h
  replace h := obd_of h; obtain ⟨μ4, hμ4, h⟩ := h
  refine jr_iastore jf_202_11 hμ4 ?_
  refine jr_aload_n jf_202_12 rfl (jg1_pre (by first | rfl | exact rv_cat _) hl0) ?_
  replace h := obd_of h; obtain ⟨x5, hx5, h⟩ := h
  refine jr_getA jf_202_13 hx5 ?_
  refine jr_iload_n jf_202_16 rfl jg1_same ?_
  refine jr_iconst jf_202_17 jc_i_m1 ?_
  replace h := obd_of h; obtain ⟨a6, rfl, h⟩ := h
  replace h := obd_of h; obtain ⟨μ7, hμ7, h⟩ := h
  refine jr_iastore jf_202_18 hμ7 ?_
  refine jr_aload_n jf_202_19 rfl (jg1_pre (by first | rfl | exact rv_cat _) hl0) ?_
  replace h := obd_of h; obtain ⟨x8, hx8, h⟩ := h
  refine jr_getA jf_202_20 hx8 ?_
  refine jr_iload_n jf_202_23 rfl jg1_same ?_
  refine jr_iconst jf_202_24 jc_i_0 ?_
  replace h := obd_of h; obtain ⟨a9, rfl, h⟩ := h
  replace h := obd_of h; obtain ⟨μ10, hμ10, h⟩ := h
  refine jr_iastore jf_202_25 hμ10 ?_
  refine jr_aload_n jf_202_26 rfl (jg1_pre (by first | rfl | exact rv_cat _) hl0) ?_
  replace h := obd_of h; obtain ⟨x11, hx11, h⟩ := h
  refine jr_getA jf_202_27 hx11 ?_
  refine jr_iload_n jf_202_30 rfl jg1_same ?_
  refine jr_iconst jf_202_31 jc_i_0 ?_
  replace h := obd_of h; obtain ⟨a12, rfl, h⟩ := h
  replace h := obd_of h; obtain ⟨μ13, hμ13, h⟩ := h
  refine jr_iastore jf_202_32 hμ13 ?_
  refine jr_aload_n jf_202_33 rfl (jg1_pre (by first | rfl | exact rv_cat _) hl0) ?_
  refine jr_dup jf_202_34 rfl ?_
  replace h := obd_of h; obtain ⟨x14, hx14, h⟩ := h
  refine jr_getI jf_202_35 hx14 ?_
  refine jr_iconst jf_202_38 jc_i_1 ?_
  refine jr_iadd jf_202_39 ?_
  replace h := obd_of h; obtain ⟨μ15, hμ15, h⟩ := h
  refine jr_putI jf_202_40 rfl hμ15 ?_
  refine jr_iload_n jf_202_43 rfl jg1_same ?_
  obtain ⟨rfl, rfl⟩ := Prod.mk.inj (Option.some.inj h)
  exact jr_retI jf_202_44 jmt_202
set_option maxRecDepth 10000 in
set_option maxHeartbeats 4000000 in
theorem r_R_newChain {B : Nat} {SA : Nat → Nat} {d : Nat} (hd : 0 ≤ d) : ∀ (v0 : Nat) (μ : JMem) (r : Int32) (μ9 : JMem), g_R_newChain B v0 μ = some (r, μ9) → jR B SA d m_R_newChain 0 (lv_args 0 [.ref v0]) [] μ (some (.int r)) μ9 := by
  intro v0 μ r μ9 h
  exact r_R_newChain_e hd (lv_args 0 _) _ _ _ _ (by simp [lv_args, jget, rv_cat, cat_int, cat_long, cat_double, cat_float, cat_ref]) h
/-! FilterBenchModel.chain()I -/
set_option maxRecDepth 10000 in
set_option maxHeartbeats 4000000 in
theorem r_R_chain_e {B : Nat} {SA : Nat → Nat} {d : Nat} (hd : 1 ≤ d) : ∀ (L : JLoc) (v0 : Nat) (μ : JMem) (r : Int32) (μ9 : JMem), jget L 0 = .ref v0 → g_R_chain B v0 μ = some (r, μ9) → jR B SA d m_R_chain 0 L [] μ (some (.int r)) μ9 := by
  intro L v0 μ r μ9 hl0 h
  unfold g_R_chain at h
  refine jr_aload_n jf_201_0 rfl hl0 ?_
  replace h := obd_of h; obtain ⟨x1, hx1, h⟩ := h
  refine jr_getI jf_201_1 hx1 ?_
  refine jr_bipush jf_201_4 jc_b_20 ?_
  replace h := ite_or h; rcases h with ⟨hc, h⟩ | ⟨hc, h⟩
  · refine jr_if2_ne_f jf_201_6 hc ?_
    refine jr_iconst jf_201_9 jc_i_m1 ?_
    obtain ⟨rfl, rfl⟩ := Prod.mk.inj (Option.some.inj h)
    exact jr_retI jf_201_10 jmt_201
  · refine jr_if2_ne_t jf_201_6 hc ?_
    refine jr_aload_n jf_201_11 rfl hl0 ?_
    replace h := jgd_of h; obtain ⟨hb2, h⟩ := h
    replace h := jbd2_of h; obtain ⟨x3, μ4, hx3, h⟩ := h
    refine jr_V6_0 jf_201_12 hb2 (by omega) (r_R_newChain (by omega) _ _ _ _ hx3) (Nat.le_of_ble_eq_true rfl) jml_202 (Nat.le_of_ble_eq_true rfl) ?_
    obtain ⟨rfl, rfl⟩ := Prod.mk.inj (Option.some.inj h)
    exact jr_retI jf_201_15 jmt_201
set_option maxRecDepth 10000 in
set_option maxHeartbeats 4000000 in
theorem r_R_chain {B : Nat} {SA : Nat → Nat} {d : Nat} (hd : 1 ≤ d) : ∀ (v0 : Nat) (μ : JMem) (r : Int32) (μ9 : JMem), g_R_chain B v0 μ = some (r, μ9) → jR B SA d m_R_chain 0 (lv_args 0 [.ref v0]) [] μ (some (.int r)) μ9 := by
  intro v0 μ r μ9 h
  exact r_R_chain_e hd (lv_args 0 _) _ _ _ _ (by simp [lv_args, jget, rv_cat, cat_int, cat_long, cat_double, cat_float, cat_ref]) h
/-! FilterBenchModel.countOf(III)I -/
set_option maxRecDepth 10000 in
set_option maxHeartbeats 4000000 in
theorem r_R_countOf_45 {N B : Nat} {SA : Nat → Nat} {d : Nat} (hd : 1 ≤ d) {k6 : Nat → Int32 → Int32 → Int32 → Int32 → Int32 → (Nat → Option JCell) → Option Int32} (i6 : ∀ (L : JLoc) (v0 : Nat) (v1 : Int32) (v2 : Int32) (v3 : Int32) (v4 : Int32) (v5 : Int32) (μ : JMem) (r : Int32), jget L 0 = .ref v0 → jget L 1 = .int v1 → jget L 2 = .int v2 → jget L 3 = .int v3 → jget L 4 = .int v4 → jget L 5 = .int v5 → k6 v0 v1 v2 v3 v4 v5 μ.1 = some r → jR B SA d m_R_countOf 6 L [] μ (some (.int r)) μ) : ∀ (L : JLoc) (v0 : Nat) (v1 : Int32) (v2 : Int32) (v3 : Int32) (v4 : Int32) (v5 : Int32) (μ : JMem) (r : Int32), jget L 0 = .ref v0 → jget L 1 = .int v1 → jget L 2 = .int v2 → jget L 3 = .int v3 → jget L 4 = .int v4 → jget L 5 = .int v5 → g_R_countOf_45 N k6 v0 v1 v2 v3 v4 v5 μ.1 = some r → jR B SA d m_R_countOf 45 L [] μ (some (.int r)) μ := by
  intro L v0 v1 v2 v3 v4 v5 μ r hl0 hl1 hl2 hl3 hl4 hl5 h
  unfold g_R_countOf_45 at h
  refine jr_iinc jf_206_45 jc_i_1 jml_206 (by decide) hl5 ?_
  refine jr_goto jf_206_48 ?_
  exact i6 _ _ _ _ _ _ _ _ _ (jg1_ne rfl hl0) (jg1_ne rfl hl1) (jg1_ne rfl hl2) (jg1_ne rfl hl3) (jg1_pre rfl hl4) jg1_same h
set_option maxRecDepth 10000 in
set_option maxHeartbeats 4000000 in
theorem r_R_countOf_6 {N B : Nat} {SA : Nat → Nat} {d : Nat} (hd : 1 ≤ d) : ∀ (n : Nat), ∀ (L : JLoc) (v0 : Nat) (v1 : Int32) (v2 : Int32) (v3 : Int32) (v4 : Int32) (v5 : Int32) (μ : JMem) (r : Int32), jget L 0 = .ref v0 → jget L 1 = .int v1 → jget L 2 = .int v2 → jget L 3 = .int v3 → jget L 4 = .int v4 → jget L 5 = .int v5 → g_R_countOf_6 N n v0 v1 v2 v3 v4 v5 μ.1 = some r → jR B SA d m_R_countOf 6 L [] μ (some (.int r)) μ := by
  intro n
  induction n with
  | zero =>
    intro L v0 v1 v2 v3 v4 v5 μ r hl0 hl1 hl2 hl3 hl4 hl5 h
    unfold g_R_countOf_6 at h
    cases h
  | succ n ih =>
    intro L v0 v1 v2 v3 v4 v5 μ r hl0 hl1 hl2 hl3 hl4 hl5 h
    unfold g_R_countOf_6 at h
    refine jr_iload jf_206_6 hl5 ?_
    refine jr_aload_n jf_206_8 rfl hl0 ?_
    replace h := obd_of h; obtain ⟨x1, hx1, h⟩ := h
    refine jr_getA jf_206_9 hx1 ?_
    refine jr_iload_n jf_206_12 rfl hl1 ?_
    replace h := obd_of h; obtain ⟨a2, rfl, h⟩ := h
    replace h := obd_of h; obtain ⟨x3, hx3, h⟩ := h
    refine jr_iaload jf_206_13 hx3 ?_
    replace h := ite_or h; rcases h with ⟨hc, h⟩ | ⟨hc, h⟩
    · refine jr_if2_ge_t jf_206_14 hc ?_
      refine jr_iload jf_206_51 hl4 ?_
      obtain rfl := Option.some.inj h
      exact jr_retI jf_206_53 jmt_206
    · refine jr_if2_ge_f jf_206_14 hc ?_
      refine jr_aload_n jf_206_17 rfl hl0 ?_
      replace h := obd_of h; obtain ⟨x4, hx4, h⟩ := h
      refine jr_getA jf_206_18 hx4 ?_
      refine jr_aload_n jf_206_21 rfl hl0 ?_
      replace h := obd_of h; obtain ⟨x5, hx5, h⟩ := h
      refine jr_getA jf_206_22 hx5 ?_
      refine jr_bipush jf_206_25 jc_b_10 ?_
      refine jr_iload_n jf_206_27 rfl hl1 ?_
      refine jr_imul jf_206_28 ?_
      refine jr_iload jf_206_29 hl5 ?_
      refine jr_iadd jf_206_31 ?_
      replace h := obd_of h; obtain ⟨a6, rfl, h⟩ := h
      replace h := obd_of h; obtain ⟨x7, hx7, h⟩ := h
      refine jr_iaload jf_206_32 hx7 ?_
      replace h := obd_of h; obtain ⟨a8, rfl, h⟩ := h
      replace h := obd_of h; obtain ⟨x9, hx9, h⟩ := h
      refine jr_iaload jf_206_33 hx9 ?_
      refine jr_iload_n jf_206_34 rfl hl2 ?_
      refine jr_iload_n jf_206_35 rfl hl3 ?_
      refine jr_S3_3 jf_206_36 (by omega) (r_R_in (by omega) _ _ _ _ _ rfl) (Nat.le_of_ble_eq_true rfl) jml_187 (Nat.le_of_ble_eq_true rfl) ?_
      replace h := ite_or h; rcases h with ⟨hc, h⟩ | ⟨hc, h⟩
      · refine jr_ifz_eq_f jf_206_39 hc ?_
        refine jr_iinc jf_206_42 jc_i_1 jml_206 (by decide) hl4 ?_
        exact r_R_countOf_45 hd ih _ _ _ _ _ _ _ _ _ (jg1_ne rfl hl0) (jg1_ne rfl hl1) (jg1_ne rfl hl2) (jg1_pre rfl hl3) jg1_same (jg1_ne rfl hl5) h
      · refine jr_ifz_eq_t jf_206_39 hc ?_
        exact r_R_countOf_45 hd ih _ _ _ _ _ _ _ _ _ hl0 hl1 hl2 hl3 hl4 hl5 h
set_option maxRecDepth 10000 in
set_option maxHeartbeats 4000000 in
theorem r_R_countOf_e {N B : Nat} {SA : Nat → Nat} {d : Nat} (hd : 1 ≤ d) : ∀ (L : JLoc) (v0 : Nat) (v1 : Int32) (v2 : Int32) (v3 : Int32) (μ : JMem) (r : Int32), jget L 0 = .ref v0 → jget L 1 = .int v1 → jget L 2 = .int v2 → jget L 3 = .int v3 → g_R_countOf N v0 v1 v2 v3 μ.1 = some r → jR B SA d m_R_countOf 0 L [] μ (some (.int r)) μ := by
  intro L v0 v1 v2 v3 μ r hl0 hl1 hl2 hl3 h
  unfold g_R_countOf at h
  refine jr_iconst jf_206_0 jc_i_0 ?_
  refine jr_istore jf_206_1 jml_206 (by decide) ?_
  refine jr_iconst jf_206_3 jc_i_0 ?_
  refine jr_istore jf_206_4 jml_206 (by decide) ?_
  exact r_R_countOf_6 hd _ _ _ _ _ _ _ _ _ _ (jg1_ne rfl (jg1_ne rfl hl0)) (jg1_ne rfl (jg1_ne rfl hl1)) (jg1_ne rfl (jg1_ne rfl hl2)) (jg1_ne rfl (jg1_pre rfl hl3)) (jg1_pre rfl jg1_same) jg1_same h
set_option maxRecDepth 10000 in
set_option maxHeartbeats 4000000 in
theorem r_R_countOf {N B : Nat} {SA : Nat → Nat} {d : Nat} (hd : 1 ≤ d) : ∀ (v0 : Nat) (v1 : Int32) (v2 : Int32) (v3 : Int32) (μ : JMem) (r : Int32), g_R_countOf N v0 v1 v2 v3 μ.1 = some r → jR B SA d m_R_countOf 0 (lv_args 0 [.ref v0, .int v1, .int v2, .int v3]) [] μ (some (.int r)) μ := by
  intro v0 v1 v2 v3 μ r h
  exact r_R_countOf_e hd (lv_args 0 _) _ _ _ _ _ _ (by simp [lv_args, jget, rv_cat, cat_int, cat_long, cat_double, cat_float, cat_ref]) (by simp [lv_args, jget, rv_cat, cat_int, cat_long, cat_double, cat_float, cat_ref]) (by simp [lv_args, jget, rv_cat, cat_int, cat_long, cat_double, cat_float, cat_ref]) (by simp [lv_args, jget, rv_cat, cat_int, cat_long, cat_double, cat_float, cat_ref]) h
/-! FilterBenchModel.isChain(I)Z -/
set_option maxRecDepth 10000 in
set_option maxHeartbeats 4000000 in
theorem r_R_isChain_e {B : Nat} {SA : Nat → Nat} {d : Nat} (hd : 1 ≤ d) : ∀ (L : JLoc) (v0 : Nat) (v1 : Int32) (μ : JMem) (r : Bool), jget L 0 = .ref v0 → jget L 1 = .int v1 → g_R_isChain v0 v1 μ.1 = some r → jR B SA d m_R_isChain 0 L [] μ (some (.int (jb r))) μ := by
  intro L v0 v1 μ r hl0 hl1 h
  unfold g_R_isChain at h
  refine jr_iload_n jf_204_0 rfl hl1 ?_
  refine jr_iconst jf_204_1 jc_i_0 ?_
  refine jr_aload_n jf_204_2 rfl hl0 ?_
  replace h := obd_of h; obtain ⟨x1, hx1, h⟩ := h
  refine jr_getI jf_204_3 hx1 ?_
  refine jr_iconst jf_204_6 jc_i_1 ?_
  refine jr_isub jf_204_7 ?_
  refine jr_S3_3 jf_204_8 (by omega) (r_R_in (by omega) _ _ _ _ _ rfl) (Nat.le_of_ble_eq_true rfl) jml_187 (Nat.le_of_ble_eq_true rfl) ?_
  obtain rfl := Option.some.inj h
  exact jr_retZ jf_204_11 jmt_204
set_option maxRecDepth 10000 in
set_option maxHeartbeats 4000000 in
theorem r_R_isChain {B : Nat} {SA : Nat → Nat} {d : Nat} (hd : 1 ≤ d) : ∀ (v0 : Nat) (v1 : Int32) (μ : JMem) (r : Bool), g_R_isChain v0 v1 μ.1 = some r → jR B SA d m_R_isChain 0 (lv_args 0 [.ref v0, .int v1]) [] μ (some (.int (jb r))) μ := by
  intro v0 v1 μ r h
  exact r_R_isChain_e hd (lv_args 0 _) _ _ _ _ (by simp [lv_args, jget, rv_cat, cat_int, cat_long, cat_double, cat_float, cat_ref]) (by simp [lv_args, jget, rv_cat, cat_int, cat_long, cat_double, cat_float, cat_ref]) h
/-! FilterBenchModel.join(II)I -/
set_option maxRecDepth 10000 in
set_option maxHeartbeats 4000000 in
theorem r_R_join_e {B : Nat} {SA : Nat → Nat} {d : Nat} (hd : 0 ≤ d) : ∀ (L : JLoc) (v0 : Nat) (v1 : Int32) (v2 : Int32) (μ : JMem) (r : Int32) (μ9 : JMem), jget L 0 = .ref v0 → jget L 1 = .int v1 → jget L 2 = .int v2 → g_R_join B v0 v1 v2 μ = some (r, μ9) → jR B SA d m_R_join 0 L [] μ (some (.int r)) μ9 := by
  intro L v0 v1 v2 μ r μ9 hl0 hl1 hl2 h
  unfold g_R_join at h
  refine jr_aload_n jf_207_0 rfl hl0 ?_
  replace h := obd_of h; obtain ⟨x1, hx1, h⟩ := h
  refine jr_getA jf_207_1 hx1 ?_
  refine jr_iload_n jf_207_4 rfl hl1 ?_
  replace h := obd_of h; obtain ⟨a2, rfl, h⟩ := h
  replace h := obd_of h; obtain ⟨x3, hx3, h⟩ := h
  refine jr_iaload jf_207_5 hx3 ?_
  refine jr_istore_n jf_207_6 rfl jml_207 (by decide) ?_
  refine jr_aload_n jf_207_7 rfl (jg1_ne rfl hl0) ?_
  replace h := obd_of h; obtain ⟨x4, hx4, h⟩ := h
  refine jr_getA jf_207_8 hx4 ?_
  refine jr_bipush jf_207_11 jc_b_10 ?_
  refine jr_iload_n jf_207_13 rfl (jg1_ne rfl hl1) ?_
  refine jr_imul jf_207_14 ?_
  refine jr_iload_n jf_207_15 rfl jg1_same ?_
  refine jr_iadd jf_207_16 ?_
  refine jr_iload_n jf_207_17 rfl (jg1_pre rfl hl2) ?_
  replace h := obd_of h; obtain ⟨a5, rfl, h⟩ := h
  replace h := obd_of h; obtain ⟨μ6, hμ6, h⟩ := h
  refine jr_iastore jf_207_18 hμ6 ?_
  refine jr_aload_n jf_207_19 rfl (jg1_ne rfl hl0) ?_
  replace h := obd_of h; obtain ⟨x7, hx7, h⟩ := h
  refine jr_getA jf_207_20 hx7 ?_
  refine jr_iload_n jf_207_23 rfl (jg1_pre rfl hl2) ?_
  refine jr_iload_n jf_207_24 rfl (jg1_ne rfl hl1) ?_
  replace h := obd_of h; obtain ⟨a8, rfl, h⟩ := h
  replace h := obd_of h; obtain ⟨μ9, hμ9, h⟩ := h
  refine jr_iastore jf_207_25 hμ9 ?_
  refine jr_aload_n jf_207_26 rfl (jg1_ne rfl hl0) ?_
  replace h := obd_of h; obtain ⟨x10, hx10, h⟩ := h
  refine jr_getA jf_207_27 hx10 ?_
  refine jr_iload_n jf_207_30 rfl (jg1_pre rfl hl2) ?_
  refine jr_iload_n jf_207_31 rfl jg1_same ?_
  replace h := obd_of h; obtain ⟨a11, rfl, h⟩ := h
  replace h := obd_of h; obtain ⟨μ12, hμ12, h⟩ := h
  refine jr_iastore jf_207_32 hμ12 ?_
  refine jr_aload_n jf_207_33 rfl (jg1_ne rfl hl0) ?_
  replace h := obd_of h; obtain ⟨x13, hx13, h⟩ := h
  refine jr_getA jf_207_34 hx13 ?_
  refine jr_iload_n jf_207_37 rfl (jg1_ne rfl hl1) ?_
  refine jr_dup2_1 jf_207_38 rfl (rv_cat _) ?_
  replace h := obd_of h; obtain ⟨a14, rfl, h⟩ := h
  replace h := obd_of h; obtain ⟨x15, hx15, h⟩ := h
  refine jr_iaload jf_207_39 hx15 ?_
  refine jr_iconst jf_207_40 jc_i_1 ?_
  refine jr_iadd jf_207_41 ?_
  replace h := obd_of h; obtain ⟨μ16, hμ16, h⟩ := h
  refine jr_iastore jf_207_42 hμ16 ?_
  refine jr_iload_n jf_207_43 rfl jg1_same ?_
  obtain ⟨rfl, rfl⟩ := Prod.mk.inj (Option.some.inj h)
  exact jr_retI jf_207_44 jmt_207
set_option maxRecDepth 10000 in
set_option maxHeartbeats 4000000 in
theorem r_R_join {B : Nat} {SA : Nat → Nat} {d : Nat} (hd : 0 ≤ d) : ∀ (v0 : Nat) (v1 : Int32) (v2 : Int32) (μ : JMem) (r : Int32) (μ9 : JMem), g_R_join B v0 v1 v2 μ = some (r, μ9) → jR B SA d m_R_join 0 (lv_args 0 [.ref v0, .int v1, .int v2]) [] μ (some (.int r)) μ9 := by
  intro v0 v1 v2 μ r μ9 h
  exact r_R_join_e hd (lv_args 0 _) _ _ _ _ _ _ (by simp [lv_args, jget, rv_cat, cat_int, cat_long, cat_double, cat_float, cat_ref]) (by simp [lv_args, jget, rv_cat, cat_int, cat_long, cat_double, cat_float, cat_ref]) (by simp [lv_args, jget, rv_cat, cat_int, cat_long, cat_double, cat_float, cat_ref]) h
/-! FilterBenchModel.sortOf(I)I -/
set_option maxRecDepth 10000 in
set_option maxHeartbeats 4000000 in
theorem r_R_sortOf_e {B : Nat} {SA : Nat → Nat} {d : Nat} (hd : 0 ≤ d) : ∀ (L : JLoc) (v0 : Nat) (v1 : Int32) (μ : JMem) (r : Int32), jget L 0 = .ref v0 → jget L 1 = .int v1 → g_R_sortOf v0 v1 μ.1 = some r → jR B SA d m_R_sortOf 0 L [] μ (some (.int r)) μ := by
  intro L v0 v1 μ r hl0 hl1 h
  unfold g_R_sortOf at h
  refine jr_aload_n jf_205_0 rfl hl0 ?_
  replace h := obd_of h; obtain ⟨x1, hx1, h⟩ := h
  refine jr_getA jf_205_1 hx1 ?_
  refine jr_iload_n jf_205_4 rfl hl1 ?_
  replace h := obd_of h; obtain ⟨a2, rfl, h⟩ := h
  replace h := obd_of h; obtain ⟨x3, hx3, h⟩ := h
  refine jr_iaload jf_205_5 hx3 ?_
  replace h := ite_or h; rcases h with ⟨hc, h⟩ | ⟨hc, h⟩
  · refine jr_if_ne_f jf_205_6 hc ?_
    refine jr_iconst jf_205_9 jc_i_m1 ?_
    refine jr_goto jf_205_10 ?_
    obtain rfl := Option.some.inj h
    exact jr_retI jf_205_27 jmt_205
  · refine jr_if_ne_t jf_205_6 hc ?_
    refine jr_aload_n jf_205_13 rfl hl0 ?_
    replace h := obd_of h; obtain ⟨x4, hx4, h⟩ := h
    refine jr_getA jf_205_14 hx4 ?_
    refine jr_aload_n jf_205_17 rfl hl0 ?_
    replace h := obd_of h; obtain ⟨x5, hx5, h⟩ := h
    refine jr_getA jf_205_18 hx5 ?_
    refine jr_bipush jf_205_21 jc_b_10 ?_
    refine jr_iload_n jf_205_23 rfl hl1 ?_
    refine jr_imul jf_205_24 ?_
    replace h := obd_of h; obtain ⟨a6, rfl, h⟩ := h
    replace h := obd_of h; obtain ⟨x7, hx7, h⟩ := h
    refine jr_iaload jf_205_25 hx7 ?_
    replace h := obd_of h; obtain ⟨a8, rfl, h⟩ := h
    replace h := obd_of h; obtain ⟨x9, hx9, h⟩ := h
    refine jr_iaload jf_205_26 hx9 ?_
    obtain rfl := Option.some.inj h
    exact jr_retI jf_205_27 jmt_205
set_option maxRecDepth 10000 in
set_option maxHeartbeats 4000000 in
theorem r_R_sortOf {B : Nat} {SA : Nat → Nat} {d : Nat} (hd : 0 ≤ d) : ∀ (v0 : Nat) (v1 : Int32) (μ : JMem) (r : Int32), g_R_sortOf v0 v1 μ.1 = some r → jR B SA d m_R_sortOf 0 (lv_args 0 [.ref v0, .int v1]) [] μ (some (.int r)) μ := by
  intro v0 v1 μ r h
  exact r_R_sortOf_e hd (lv_args 0 _) _ _ _ _ (by simp [lv_args, jget, rv_cat, cat_int, cat_long, cat_double, cat_float, cat_ref]) (by simp [lv_args, jget, rv_cat, cat_int, cat_long, cat_double, cat_float, cat_ref]) h
/-! FilterBenchModel.add(II)I -/
set_option maxRecDepth 10000 in
set_option maxHeartbeats 4000000 in
theorem r_R_add_105 {N B : Nat} {SA : Nat → Nat} {d : Nat} (hd : 2 ≤ d) : ∀ (L : JLoc) (v0 : Nat) (v1 : Int32) (v2 : Int32) (μ : JMem) (r : Int32) (μ9 : JMem), jget L 0 = .ref v0 → jget L 1 = .int v1 → jget L 2 = .int v2 → g_R_add_105 N B v0 v1 v2 μ = some (r, μ9) → jR B SA d m_R_add 105 L [] μ (some (.int r)) μ9 := by
  intro L v0 v1 v2 μ r μ9 hl0 hl1 hl2 h
  unfold g_R_add_105 at h
  refine jr_aload_n jf_203_105 rfl hl0 ?_
  refine jr_iload_n jf_203_106 rfl hl1 ?_
  refine jr_iload_n jf_203_107 rfl hl2 ?_
  replace h := jgd_of h; obtain ⟨hb1, h⟩ := h
  replace h := jbd2_of h; obtain ⟨x2, μ3, hx2, h⟩ := h
  refine jr_V6_2 jf_203_108 hb1 (by omega) (r_R_join (by omega) _ _ _ _ _ _ hx2) (Nat.le_of_ble_eq_true rfl) jml_207 (Nat.le_of_ble_eq_true rfl) ?_
  obtain ⟨rfl, rfl⟩ := Prod.mk.inj (Option.some.inj h)
  exact jr_retI jf_203_111 jmt_203
set_option maxRecDepth 10000 in
set_option maxHeartbeats 4000000 in
theorem r_R_add_74 {N B : Nat} {SA : Nat → Nat} {d : Nat} (hd : 2 ≤ d) : ∀ (L : JLoc) (v0 : Nat) (v1 : Int32) (v2 : Int32) (μ : JMem) (r : Int32) (μ9 : JMem), jget L 0 = .ref v0 → jget L 1 = .int v1 → jget L 2 = .int v2 → g_R_add_74 N B v0 v1 v2 μ = some (r, μ9) → jR B SA d m_R_add 74 L [] μ (some (.int r)) μ9 := by
  intro L v0 v1 v2 μ r μ9 hl0 hl1 hl2 h
  unfold g_R_add_74 at h
  refine jr_aload_n jf_203_74 rfl hl0 ?_
  replace h := obd_of h; obtain ⟨x1, hx1, h⟩ := h
  refine jr_getA jf_203_75 hx1 ?_
  refine jr_iload_n jf_203_78 rfl hl2 ?_
  replace h := obd_of h; obtain ⟨a2, rfl, h⟩ := h
  replace h := obd_of h; obtain ⟨x3, hx3, h⟩ := h
  refine jr_iaload jf_203_79 hx3 ?_
  refine jr_bipush jf_203_80 jc_b_13 ?_
  refine jr_bipush jf_203_82 jc_b_14 ?_
  refine jr_S3_3 jf_203_84 (by omega) (r_R_in (by omega) _ _ _ _ _ rfl) (Nat.le_of_ble_eq_true rfl) jml_187 (Nat.le_of_ble_eq_true rfl) ?_
  replace h := ite_or h; rcases h with ⟨hc, h⟩ | ⟨hc, h⟩
  · refine jr_ifz_eq_f jf_203_87 hc ?_
    refine jr_aload_n jf_203_90 rfl hl0 ?_
    refine jr_iload_n jf_203_91 rfl hl1 ?_
    refine jr_bipush jf_203_92 jc_b_13 ?_
    refine jr_bipush jf_203_94 jc_b_14 ?_
    replace h := jgd_of h; obtain ⟨hb4, h⟩ := h
    replace h := obd_of h; obtain ⟨x5, hx5, h⟩ := h
    refine jr_V6_3 jf_203_96 hb4 (by omega) (r_R_countOf (by omega) _ _ _ _ _ _ hx5) (Nat.le_of_ble_eq_true rfl) jml_206 (Nat.le_of_ble_eq_true rfl) ?_
    refine jr_iconst jf_203_99 jc_i_2 ?_
    replace h := ite_or h; rcases h with ⟨hc, h⟩ | ⟨hc, h⟩
    · refine jr_if2_ne_f jf_203_100 hc ?_
      refine jr_iconst jf_203_103 jc_i_m1 ?_
      obtain ⟨rfl, rfl⟩ := Prod.mk.inj (Option.some.inj h)
      exact jr_retI jf_203_104 jmt_203
    · refine jr_if2_ne_t jf_203_100 hc ?_
      exact r_R_add_105 hd _ _ _ _ _ _ _ hl0 hl1 hl2 h
  · refine jr_ifz_eq_t jf_203_87 hc ?_
    exact r_R_add_105 hd _ _ _ _ _ _ _ hl0 hl1 hl2 h
set_option maxRecDepth 10000 in
set_option maxHeartbeats 4000000 in
theorem r_R_add_e {N B : Nat} {SA : Nat → Nat} {d : Nat} (hd : 2 ≤ d) : ∀ (L : JLoc) (v0 : Nat) (v1 : Int32) (v2 : Int32) (μ : JMem) (r : Int32) (μ9 : JMem), jget L 0 = .ref v0 → jget L 1 = .int v1 → jget L 2 = .int v2 → g_R_add N B v0 v1 v2 μ = some (r, μ9) → jR B SA d m_R_add 0 L [] μ (some (.int r)) μ9 := by
  intro L v0 v1 v2 μ r μ9 hl0 hl1 hl2 h
  unfold g_R_add at h
  refine jr_aload_n jf_203_0 rfl hl0 ?_
  refine jr_iload_n jf_203_1 rfl hl1 ?_
  replace h := jgd_of h; obtain ⟨hb1, h⟩ := h
  replace h := obd_of h; obtain ⟨x2, hx2, h⟩ := h
  refine jr_V6_1 jf_203_2 hb1 (by omega) (r_R_isChain (by omega) _ _ _ _ hx2) (Nat.le_of_ble_eq_true rfl) jml_204 (Nat.le_of_ble_eq_true rfl) ?_
  replace h := ite_or h; rcases h with ⟨hc, h⟩ | ⟨hc, h⟩
  · refine jr_ifz_eq_f jf_203_5 hc ?_
    refine jr_aload_n jf_203_8 rfl hl0 ?_
    refine jr_iload_n jf_203_9 rfl hl2 ?_
    replace h := jgd_of h; obtain ⟨hb3, h⟩ := h
    replace h := obd_of h; obtain ⟨x4, hx4, h⟩ := h
    refine jr_V6_1 jf_203_10 hb3 (by omega) (r_R_isSection (by omega) _ _ _ _ hx4) (Nat.le_of_ble_eq_true rfl) jml_193 (Nat.le_of_ble_eq_true rfl) ?_
    replace h := ite_or h; rcases h with ⟨hc, h⟩ | ⟨hc, h⟩
    · refine jr_ifz_eq_f jf_203_13 hc ?_
      refine jr_aload_n jf_203_16 rfl hl0 ?_
      replace h := obd_of h; obtain ⟨x5, hx5, h⟩ := h
      refine jr_getA jf_203_17 hx5 ?_
      refine jr_iload_n jf_203_20 rfl hl2 ?_
      replace h := obd_of h; obtain ⟨a6, rfl, h⟩ := h
      replace h := obd_of h; obtain ⟨x7, hx7, h⟩ := h
      refine jr_iaload jf_203_21 hx7 ?_
      refine jr_iconst jf_203_22 jc_i_m1 ?_
      replace h := ite_or h; rcases h with ⟨hc, h⟩ | ⟨hc, h⟩
      · refine jr_if2_ne_f jf_203_23 hc ?_
        refine jr_aload_n jf_203_26 rfl hl0 ?_
        replace h := obd_of h; obtain ⟨x8, hx8, h⟩ := h
        refine jr_getA jf_203_27 hx8 ?_
        refine jr_iload_n jf_203_30 rfl hl1 ?_
        replace h := obd_of h; obtain ⟨a9, rfl, h⟩ := h
        replace h := obd_of h; obtain ⟨x10, hx10, h⟩ := h
        refine jr_iaload jf_203_31 hx10 ?_
        refine jr_iconst jf_203_32 jc_i_m1 ?_
        replace h := ite_or h; rcases h with ⟨hc, h⟩ | ⟨hc, h⟩
        · refine jr_if2_ne_f jf_203_33 hc ?_
          refine jr_aload_n jf_203_36 rfl hl0 ?_
          replace h := obd_of h; obtain ⟨x11, hx11, h⟩ := h
          refine jr_getA jf_203_37 hx11 ?_
          refine jr_iload_n jf_203_40 rfl hl1 ?_
          replace h := obd_of h; obtain ⟨a12, rfl, h⟩ := h
          replace h := obd_of h; obtain ⟨x13, hx13, h⟩ := h
          refine jr_iaload jf_203_41 hx13 ?_
          refine jr_bipush jf_203_42 jc_b_10 ?_
          replace h := ite_or h; rcases h with ⟨hc, h⟩ | ⟨hc, h⟩
          · refine jr_if2_ne_f jf_203_44 hc ?_
            refine jr_iconst jf_203_47 jc_i_m1 ?_
            obtain ⟨rfl, rfl⟩ := Prod.mk.inj (Option.some.inj h)
            exact jr_retI jf_203_48 jmt_203
          · refine jr_if2_ne_t jf_203_44 hc ?_
            refine jr_aload_n jf_203_49 rfl hl0 ?_
            replace h := obd_of h; obtain ⟨x14, hx14, h⟩ := h
            refine jr_getA jf_203_50 hx14 ?_
            refine jr_iload_n jf_203_53 rfl hl1 ?_
            replace h := obd_of h; obtain ⟨a15, rfl, h⟩ := h
            replace h := obd_of h; obtain ⟨x16, hx16, h⟩ := h
            refine jr_iaload jf_203_54 hx16 ?_
            replace h := ite_or h; rcases h with ⟨hc, h⟩ | ⟨hc, h⟩
            · refine jr_if_le_t jf_203_55 hc ?_
              exact r_R_add_74 hd _ _ _ _ _ _ _ hl0 hl1 hl2 h
            · refine jr_if_le_f jf_203_55 hc ?_
              refine jr_aload_n jf_203_58 rfl hl0 ?_
              replace h := obd_of h; obtain ⟨x17, hx17, h⟩ := h
              refine jr_getA jf_203_59 hx17 ?_
              refine jr_iload_n jf_203_62 rfl hl2 ?_
              replace h := obd_of h; obtain ⟨a18, rfl, h⟩ := h
              replace h := obd_of h; obtain ⟨x19, hx19, h⟩ := h
              refine jr_iaload jf_203_63 hx19 ?_
              refine jr_aload_n jf_203_64 rfl hl0 ?_
              refine jr_iload_n jf_203_65 rfl hl1 ?_
              replace h := jgd_of h; obtain ⟨hb20, h⟩ := h
              replace h := obd_of h; obtain ⟨x21, hx21, h⟩ := h
              refine jr_V6_1 jf_203_66 hb20 (by omega) (r_R_sortOf (by omega) _ _ _ _ hx21) (Nat.le_of_ble_eq_true rfl) jml_205 (Nat.le_of_ble_eq_true rfl) ?_
              replace h := ite_or h; rcases h with ⟨hc, h⟩ | ⟨hc, h⟩
              · refine jr_if2_eq_t jf_203_69 hc ?_
                exact r_R_add_74 hd _ _ _ _ _ _ _ hl0 hl1 hl2 h
              · refine jr_if2_eq_f jf_203_69 hc ?_
                refine jr_iconst jf_203_72 jc_i_m1 ?_
                obtain ⟨rfl, rfl⟩ := Prod.mk.inj (Option.some.inj h)
                exact jr_retI jf_203_73 jmt_203
        · refine jr_if2_ne_t jf_203_33 hc ?_
          refine jr_iconst jf_203_47 jc_i_m1 ?_
          obtain ⟨rfl, rfl⟩ := Prod.mk.inj (Option.some.inj h)
          exact jr_retI jf_203_48 jmt_203
      · refine jr_if2_ne_t jf_203_23 hc ?_
        refine jr_iconst jf_203_47 jc_i_m1 ?_
        obtain ⟨rfl, rfl⟩ := Prod.mk.inj (Option.some.inj h)
        exact jr_retI jf_203_48 jmt_203
    · refine jr_ifz_eq_t jf_203_13 hc ?_
      refine jr_iconst jf_203_47 jc_i_m1 ?_
      obtain ⟨rfl, rfl⟩ := Prod.mk.inj (Option.some.inj h)
      exact jr_retI jf_203_48 jmt_203
  · refine jr_ifz_eq_t jf_203_5 hc ?_
    refine jr_iconst jf_203_47 jc_i_m1 ?_
    obtain ⟨rfl, rfl⟩ := Prod.mk.inj (Option.some.inj h)
    exact jr_retI jf_203_48 jmt_203
set_option maxRecDepth 10000 in
set_option maxHeartbeats 4000000 in
theorem r_R_add {N B : Nat} {SA : Nat → Nat} {d : Nat} (hd : 2 ≤ d) : ∀ (v0 : Nat) (v1 : Int32) (v2 : Int32) (μ : JMem) (r : Int32) (μ9 : JMem), g_R_add N B v0 v1 v2 μ = some (r, μ9) → jR B SA d m_R_add 0 (lv_args 0 [.ref v0, .int v1, .int v2]) [] μ (some (.int r)) μ9 := by
  intro v0 v1 v2 μ r μ9 h
  exact r_R_add_e hd (lv_args 0 _) _ _ _ _ _ _ (by simp [lv_args, jget, rv_cat, cat_int, cat_long, cat_double, cat_float, cat_ref]) (by simp [lv_args, jget, rv_cat, cat_int, cat_long, cat_double, cat_float, cat_ref]) (by simp [lv_args, jget, rv_cat, cat_int, cat_long, cat_double, cat_float, cat_ref]) h
/-! FilterBenchModel.newLoop(IIIID)I -/
set_option maxRecDepth 10000 in
set_option maxHeartbeats 4000000 in
theorem r_R_newLoop_49 {N B : Nat} {SA : Nat → Nat} {d : Nat} (hd : 0 ≤ d) : ∀ (n : Nat), ∀ (L : JLoc) (v0 : Nat) (v1 : Int32) (v7 : Int32) (v8 : Int32) (μ : JMem) (r : Int32) (μ9 : JMem), jget L 0 = .ref v0 → jget L 1 = .int v1 → jget L 7 = .int v7 → jget L 8 = .int v8 → g_R_newLoop_49 N B n v0 v1 v7 v8 μ = some (r, μ9) → jR B SA d m_R_newLoop 49 L [] μ (some (.int r)) μ9 := by
  intro n
  induction n with
  | zero =>
    intro L v0 v1 v7 v8 μ r μ9 hl0 hl1 hl7 hl8 h
    unfold g_R_newLoop_49 at h
    cases h
  | succ n ih =>
    intro L v0 v1 v7 v8 μ r μ9 hl0 hl1 hl7 hl8 h
    unfold g_R_newLoop_49 at h
    refine jr_iload jf_209_49 hl8 ?_
    refine jr_bipush jf_209_51 jc_b_64 ?_
    replace h := ite_or h; rcases h with ⟨hc, h⟩ | ⟨hc, h⟩
    · refine jr_if2_ge_t jf_209_53 hc ?_
      refine jr_aload_n jf_209_76 rfl hl0 ?_
      replace h := obd_of h; obtain ⟨x1, hx1, h⟩ := h
      refine jr_getA jf_209_77 hx1 ?_
      refine jr_iload jf_209_80 hl7 ?_
      refine jr_iconst jf_209_82 jc_i_0 ?_
      replace h := obd_of h; obtain ⟨a2, rfl, h⟩ := h
      replace h := obd_of h; obtain ⟨μ3, hμ3, h⟩ := h
      refine jr_iastore jf_209_83 hμ3 ?_
      refine jr_aload_n jf_209_84 rfl hl0 ?_
      replace h := obd_of h; obtain ⟨x4, hx4, h⟩ := h
      refine jr_getA jf_209_85 hx4 ?_
      refine jr_iload_n jf_209_88 rfl hl1 ?_
      refine jr_dup2_1 jf_209_89 rfl (rv_cat _) ?_
      replace h := obd_of h; obtain ⟨a5, rfl, h⟩ := h
      replace h := obd_of h; obtain ⟨x6, hx6, h⟩ := h
      refine jr_iaload jf_209_90 hx6 ?_
      refine jr_iconst jf_209_91 jc_i_1 ?_
      refine jr_iadd jf_209_92 ?_
      replace h := obd_of h; obtain ⟨μ7, hμ7, h⟩ := h
      refine jr_iastore jf_209_93 hμ7 ?_
      refine jr_aload_n jf_209_94 rfl hl0 ?_
      replace h := obd_of h; obtain ⟨x8, hx8, h⟩ := h
      refine jr_getA jf_209_95 hx8 ?_
      refine jr_iload_n jf_209_98 rfl hl1 ?_
      replace h := obd_of h; obtain ⟨a9, rfl, h⟩ := h
      replace h := obd_of h; obtain ⟨x10, hx10, h⟩ := h
      refine jr_iaload jf_209_99 hx10 ?_
      obtain ⟨rfl, rfl⟩ := Prod.mk.inj (Option.some.inj h)
      exact jr_retI jf_209_100 jmt_209
    · refine jr_if2_ge_f jf_209_53 hc ?_
      refine jr_aload_n jf_209_56 rfl hl0 ?_
      replace h := obd_of h; obtain ⟨x11, hx11, h⟩ := h
      refine jr_getA jf_209_57 hx11 ?_
      refine jr_bipush jf_209_60 jc_b_64 ?_
      refine jr_iload jf_209_62 hl7 ?_
      refine jr_imul jf_209_64 ?_
      refine jr_iload jf_209_65 hl8 ?_
      refine jr_iadd jf_209_67 ?_
      refine jr_dconst0 jf_209_68 ?_
      replace h := obd_of h; obtain ⟨a12, rfl, h⟩ := h
      replace h := obd_of h; obtain ⟨μ13, hμ13, h⟩ := h
      refine jr_dastore jf_209_69 hμ13 ?_
      refine jr_iinc jf_209_70 jc_i_1 jml_209 (by decide) hl8 ?_
      refine jr_goto jf_209_73 ?_
      exact ih _ _ _ _ _ _ _ _ (jg1_ne rfl hl0) (jg1_ne rfl hl1) (jg1_pre rfl hl7) jg1_same h
set_option maxRecDepth 10000 in
set_option maxHeartbeats 4000000 in
theorem r_R_newLoop_e {N B : Nat} {SA : Nat → Nat} {d : Nat} (hd : 0 ≤ d) : ∀ (L : JLoc) (v0 : Nat) (v1 : Int32) (v2 : Int32) (v3 : Int32) (v4 : Int32) (v5 : UInt64) (μ : JMem) (r : Int32) (μ9 : JMem), jget L 0 = .ref v0 → jget L 1 = .int v1 → jget L 2 = .int v2 → jget L 3 = .int v3 → jget L 4 = .int v4 → jget L 5 = .double v5 → g_R_newLoop N B v0 v1 v2 v3 v4 v5 μ = some (r, μ9) → jR B SA d m_R_newLoop 0 L [] μ (some (.int r)) μ9 := by
  intro L v0 v1 v2 v3 v4 v5 μ r μ9 hl0 hl1 hl2 hl3 hl4 hl5 h
  unfold g_R_newLoop at h
  refine jr_iconst jf_209_0 jc_i_3 ?_
  refine jr_iload_n jf_209_1 rfl hl1 ?_
  refine jr_imul jf_209_2 ?_
  refine jr_aload_n jf_209_3 rfl hl0 ?_
  replace h := obd_of h; obtain ⟨x1, hx1, h⟩ := h
  refine jr_getA jf_209_4 hx1 ?_
  refine jr_iload_n jf_209_7 rfl hl1 ?_
  replace h := obd_of h; obtain ⟨a2, rfl, h⟩ := h
  replace h := obd_of h; obtain ⟨x3, hx3, h⟩ := h
  refine jr_iaload jf_209_8 hx3 ?_
  refine jr_iadd jf_209_9 ?_
  refine jr_istore jf_209_10 jml_209 (by decide) ?_
  refine jr_aload_n jf_209_12 rfl (jg1_ne rfl hl0) ?_
  replace h := obd_of h; obtain ⟨x4, hx4, h⟩ := h
  refine jr_getA jf_209_13 hx4 ?_
  refine jr_iload jf_209_16 jg1_same ?_
  refine jr_iload_n jf_209_18 rfl (jg1_ne rfl hl3) ?_
  replace h := obd_of h; obtain ⟨a5, rfl, h⟩ := h
  replace h := obd_of h; obtain ⟨μ6, hμ6, h⟩ := h
  refine jr_iastore jf_209_19 hμ6 ?_
  refine jr_aload_n jf_209_20 rfl (jg1_ne rfl hl0) ?_
  replace h := obd_of h; obtain ⟨x7, hx7, h⟩ := h
  refine jr_getA jf_209_21 hx7 ?_
  refine jr_iload jf_209_24 jg1_same ?_
  refine jr_iload_n jf_209_26 rfl (jg1_ne rfl hl2) ?_
  replace h := obd_of h; obtain ⟨a8, rfl, h⟩ := h
  replace h := obd_of h; obtain ⟨μ9, hμ9, h⟩ := h
  refine jr_iastore jf_209_27 hμ9 ?_
  refine jr_aload_n jf_209_28 rfl (jg1_ne rfl hl0) ?_
  replace h := obd_of h; obtain ⟨x10, hx10, h⟩ := h
  refine jr_getA jf_209_29 hx10 ?_
  refine jr_iload jf_209_32 jg1_same ?_
  refine jr_iload jf_209_34 (jg1_ne rfl hl4) ?_
  replace h := obd_of h; obtain ⟨a11, rfl, h⟩ := h
  replace h := obd_of h; obtain ⟨μ12, hμ12, h⟩ := h
  refine jr_iastore jf_209_36 hμ12 ?_
  refine jr_aload_n jf_209_37 rfl (jg1_ne rfl hl0) ?_
  replace h := obd_of h; obtain ⟨x13, hx13, h⟩ := h
  refine jr_getA jf_209_38 hx13 ?_
  refine jr_iload jf_209_41 jg1_same ?_
  refine jr_dload jf_209_43 (jg1_ne rfl hl5) ?_
  replace h := obd_of h; obtain ⟨a14, rfl, h⟩ := h
  replace h := obd_of h; obtain ⟨μ15, hμ15, h⟩ := h
  refine jr_dastore jf_209_45 hμ15 ?_
  refine jr_iconst jf_209_46 jc_i_0 ?_
  refine jr_istore jf_209_47 jml_209 (by decide) ?_
  exact r_R_newLoop_49 hd _ _ _ _ _ _ _ _ _ (jg1_ne rfl (jg1_ne rfl hl0)) (jg1_ne rfl (jg1_ne rfl hl1)) (jg1_pre rfl jg1_same) jg1_same h
set_option maxRecDepth 10000 in
set_option maxHeartbeats 4000000 in
theorem r_R_newLoop {N B : Nat} {SA : Nat → Nat} {d : Nat} (hd : 0 ≤ d) : ∀ (v0 : Nat) (v1 : Int32) (v2 : Int32) (v3 : Int32) (v4 : Int32) (v5 : UInt64) (μ : JMem) (r : Int32) (μ9 : JMem), g_R_newLoop N B v0 v1 v2 v3 v4 v5 μ = some (r, μ9) → jR B SA d m_R_newLoop 0 (lv_args 0 [.ref v0, .int v1, .int v2, .int v3, .int v4, .double v5]) [] μ (some (.int r)) μ9 := by
  intro v0 v1 v2 v3 v4 v5 μ r μ9 h
  exact r_R_newLoop_e hd (lv_args 0 _) _ _ _ _ _ _ _ _ _ (by simp [lv_args, jget, rv_cat, cat_int, cat_long, cat_double, cat_float, cat_ref]) (by simp [lv_args, jget, rv_cat, cat_int, cat_long, cat_double, cat_float, cat_ref]) (by simp [lv_args, jget, rv_cat, cat_int, cat_long, cat_double, cat_float, cat_ref]) (by simp [lv_args, jget, rv_cat, cat_int, cat_long, cat_double, cat_float, cat_ref]) (by simp [lv_args, jget, rv_cat, cat_int, cat_long, cat_double, cat_float, cat_ref]) (by simp [lv_args, jget, rv_cat, cat_int, cat_long, cat_double, cat_float, cat_ref]) h
/-! FilterBenchModel.loop(IIIIJ)I -/
set_option maxRecDepth 10000 in
set_option maxHeartbeats 4000000 in
theorem r_R_loop_63 {N B : Nat} {SA : Nat → Nat} {d : Nat} (hd : 2 ≤ d) : ∀ (n : Nat), ∀ (L : JLoc) (v0 : Nat) (v1 : Int32) (v2 : Int32) (v3 : Int32) (v4 : Int32) (v5 : Int64) (v7 : Int32) (μ : JMem) (r : Int32) (μ9 : JMem), jget L 0 = .ref v0 → jget L 1 = .int v1 → jget L 2 = .int v2 → jget L 3 = .int v3 → jget L 4 = .int v4 → jget L 5 = .long v5 → jget L 7 = .int v7 → g_R_loop_63 N B n v0 v1 v2 v3 v4 v5 v7 μ = some (r, μ9) → jR B SA d m_R_loop 63 L [] μ (some (.int r)) μ9 := by
  intro n
  induction n with
  | zero =>
    intro L v0 v1 v2 v3 v4 v5 v7 μ r μ9 hl0 hl1 hl2 hl3 hl4 hl5 hl7 h
    unfold g_R_loop_63 at h
    cases h
  | succ n ih =>
    intro L v0 v1 v2 v3 v4 v5 v7 μ r μ9 hl0 hl1 hl2 hl3 hl4 hl5 hl7 h
    unfold g_R_loop_63 at h
    refine jr_iload jf_208_63 hl7 ?_
    refine jr_iload_n jf_208_65 rfl hl3 ?_
    replace h := ite_or h; rcases h with ⟨hc, h⟩ | ⟨hc, h⟩
    · refine jr_if2_gt_t jf_208_66 hc ?_
      refine jr_aload_n jf_208_104 rfl hl0 ?_
      refine jr_iload_n jf_208_105 rfl hl1 ?_
      replace h := jgd_of h; obtain ⟨hb1, h⟩ := h
      replace h := obd_of h; obtain ⟨x2, hx2, h⟩ := h
      refine jr_V6_1 jf_208_106 hb1 (by omega) (r_R_sortOf (by omega) _ _ _ _ hx2) (Nat.le_of_ble_eq_true rfl) jml_205 (Nat.le_of_ble_eq_true rfl) ?_
      refine jr_lload jf_208_109 hl5 ?_
      refine jr_S3_2 jf_208_111 (by omega) (r_R_isValue (by omega) _ _ _ _ rfl) (Nat.le_of_ble_eq_true rfl) jml_195 (Nat.le_of_ble_eq_true rfl) ?_
      replace h := ite_or h; rcases h with ⟨hc, h⟩ | ⟨hc, h⟩
      · refine jr_ifz_ne_t jf_208_114 hc ?_
        refine jr_aload_n jf_208_119 rfl hl0 ?_
        refine jr_iload_n jf_208_120 rfl hl1 ?_
        refine jr_iload_n jf_208_121 rfl hl2 ?_
        refine jr_iload_n jf_208_122 rfl hl3 ?_
        refine jr_iload jf_208_123 hl4 ?_
        refine jr_aload_n jf_208_125 rfl hl0 ?_
        refine jr_iload_n jf_208_126 rfl hl1 ?_
        replace h := jgd_of h; obtain ⟨hb3, h⟩ := h
        replace h := obd_of h; obtain ⟨x4, hx4, h⟩ := h
        refine jr_V6_1 jf_208_127 hb3 (by omega) (r_R_sortOf (by omega) _ _ _ _ hx4) (Nat.le_of_ble_eq_true rfl) jml_205 (Nat.le_of_ble_eq_true rfl) ?_
        refine jr_lload jf_208_130 hl5 ?_
        replace h := obd_of h; obtain ⟨x5, hx5, h⟩ := h
        refine jr_S3_2 jf_208_132 (by omega) (r_R_valueOf (by omega) _ _ _ _ hx5) (Nat.le_of_ble_eq_true rfl) jml_196 (Nat.le_of_ble_eq_true rfl) ?_
        replace h := jgd_of h; obtain ⟨hb6, h⟩ := h
        replace h := jbd2_of h; obtain ⟨x7, μ8, hx7, h⟩ := h
        refine jr_V6_5 jf_208_135 hb6 (by omega) (r_R_newLoop (by omega) _ _ _ _ _ _ _ _ _ hx7) (Nat.le_of_ble_eq_true rfl) jml_209 (Nat.le_of_ble_eq_true rfl) ?_
        obtain ⟨rfl, rfl⟩ := Prod.mk.inj (Option.some.inj h)
        exact jr_retI jf_208_138 jmt_208
      · refine jr_ifz_ne_f jf_208_114 hc ?_
        refine jr_iconst jf_208_117 jc_i_m1 ?_
        obtain ⟨rfl, rfl⟩ := Prod.mk.inj (Option.some.inj h)
        exact jr_retI jf_208_118 jmt_208
    · refine jr_if2_gt_f jf_208_66 hc ?_
      refine jr_aload_n jf_208_69 rfl hl0 ?_
      replace h := obd_of h; obtain ⟨x9, hx9, h⟩ := h
      refine jr_getA jf_208_70 hx9 ?_
      refine jr_aload_n jf_208_73 rfl hl0 ?_
      replace h := obd_of h; obtain ⟨x10, hx10, h⟩ := h
      refine jr_getA jf_208_74 hx10 ?_
      refine jr_bipush jf_208_77 jc_b_10 ?_
      refine jr_iload_n jf_208_79 rfl hl1 ?_
      refine jr_imul jf_208_80 ?_
      refine jr_iload jf_208_81 hl7 ?_
      refine jr_iadd jf_208_83 ?_
      replace h := obd_of h; obtain ⟨a11, rfl, h⟩ := h
      replace h := obd_of h; obtain ⟨x12, hx12, h⟩ := h
      refine jr_iaload jf_208_84 hx12 ?_
      replace h := obd_of h; obtain ⟨a13, rfl, h⟩ := h
      replace h := obd_of h; obtain ⟨x14, hx14, h⟩ := h
      refine jr_iaload jf_208_85 hx14 ?_
      refine jr_bipush jf_208_86 jc_b_12 ?_
      refine jr_bipush jf_208_88 jc_b_14 ?_
      refine jr_S3_3 jf_208_90 (by omega) (r_R_in (by omega) _ _ _ _ _ rfl) (Nat.le_of_ble_eq_true rfl) jml_187 (Nat.le_of_ble_eq_true rfl) ?_
      replace h := ite_or h; rcases h with ⟨hc, h⟩ | ⟨hc, h⟩
      · refine jr_ifz_eq_f jf_208_93 hc ?_
        refine jr_iconst jf_208_96 jc_i_m1 ?_
        obtain ⟨rfl, rfl⟩ := Prod.mk.inj (Option.some.inj h)
        exact jr_retI jf_208_97 jmt_208
      · refine jr_ifz_eq_t jf_208_93 hc ?_
        refine jr_iinc jf_208_98 jc_i_1 jml_208 (by decide) hl7 ?_
        refine jr_goto jf_208_101 ?_
        exact ih _ _ _ _ _ _ _ _ _ _ _ (jg1_ne rfl hl0) (jg1_ne rfl hl1) (jg1_ne rfl hl2) (jg1_ne rfl hl3) (jg1_ne rfl hl4) (jg1_ne rfl hl5) jg1_same h
set_option maxRecDepth 10000 in
set_option maxHeartbeats 4000000 in
theorem r_R_loop_e {N B : Nat} {SA : Nat → Nat} {d : Nat} (hd : 2 ≤ d) : ∀ (L : JLoc) (v0 : Nat) (v1 : Int32) (v2 : Int32) (v3 : Int32) (v4 : Int32) (v5 : Int64) (μ : JMem) (r : Int32) (μ9 : JMem), jget L 0 = .ref v0 → jget L 1 = .int v1 → jget L 2 = .int v2 → jget L 3 = .int v3 → jget L 4 = .int v4 → jget L 5 = .long v5 → g_R_loop N B v0 v1 v2 v3 v4 v5 μ = some (r, μ9) → jR B SA d m_R_loop 0 L [] μ (some (.int r)) μ9 := by
  intro L v0 v1 v2 v3 v4 v5 μ r μ9 hl0 hl1 hl2 hl3 hl4 hl5 h
  unfold g_R_loop at h
  refine jr_aload_n jf_208_0 rfl hl0 ?_
  refine jr_iload_n jf_208_1 rfl hl1 ?_
  replace h := jgd_of h; obtain ⟨hb1, h⟩ := h
  replace h := obd_of h; obtain ⟨x2, hx2, h⟩ := h
  refine jr_V6_1 jf_208_2 hb1 (by omega) (r_R_isChain (by omega) _ _ _ _ hx2) (Nat.le_of_ble_eq_true rfl) jml_204 (Nat.le_of_ble_eq_true rfl) ?_
  replace h := ite_or h; rcases h with ⟨hc, h⟩ | ⟨hc, h⟩
  · refine jr_ifz_eq_f jf_208_5 hc ?_
    refine jr_aload_n jf_208_8 rfl hl0 ?_
    replace h := obd_of h; obtain ⟨x3, hx3, h⟩ := h
    refine jr_getA jf_208_9 hx3 ?_
    refine jr_iload_n jf_208_12 rfl hl1 ?_
    replace h := obd_of h; obtain ⟨a4, rfl, h⟩ := h
    replace h := obd_of h; obtain ⟨x5, hx5, h⟩ := h
    refine jr_iaload jf_208_13 hx5 ?_
    refine jr_iconst jf_208_14 jc_i_m1 ?_
    replace h := ite_or h; rcases h with ⟨hc, h⟩ | ⟨hc, h⟩
    · refine jr_if2_ne_f jf_208_15 hc ?_
      refine jr_aload_n jf_208_18 rfl hl0 ?_
      replace h := obd_of h; obtain ⟨x6, hx6, h⟩ := h
      refine jr_getA jf_208_19 hx6 ?_
      refine jr_iload_n jf_208_22 rfl hl1 ?_
      replace h := obd_of h; obtain ⟨a7, rfl, h⟩ := h
      replace h := obd_of h; obtain ⟨x8, hx8, h⟩ := h
      refine jr_iaload jf_208_23 hx8 ?_
      refine jr_iconst jf_208_24 jc_i_3 ?_
      replace h := ite_or h; rcases h with ⟨hc, h⟩ | ⟨hc, h⟩
      · refine jr_if2_eq_t jf_208_25 hc ?_
        refine jr_iconst jf_208_58 jc_i_m1 ?_
        obtain ⟨rfl, rfl⟩ := Prod.mk.inj (Option.some.inj h)
        exact jr_retI jf_208_59 jmt_208
      · refine jr_if2_eq_f jf_208_25 hc ?_
        refine jr_iload_n jf_208_28 rfl hl2 ?_
        replace h := ite_or h; rcases h with ⟨hc, h⟩ | ⟨hc, h⟩
        · refine jr_if_lt_t jf_208_29 hc ?_
          refine jr_iconst jf_208_58 jc_i_m1 ?_
          obtain ⟨rfl, rfl⟩ := Prod.mk.inj (Option.some.inj h)
          exact jr_retI jf_208_59 jmt_208
        · refine jr_if_lt_f jf_208_29 hc ?_
          refine jr_iload_n jf_208_32 rfl hl3 ?_
          refine jr_iload_n jf_208_33 rfl hl2 ?_
          replace h := ite_or h; rcases h with ⟨hc, h⟩ | ⟨hc, h⟩
          · refine jr_if2_lt_t jf_208_34 hc ?_
            refine jr_iconst jf_208_58 jc_i_m1 ?_
            obtain ⟨rfl, rfl⟩ := Prod.mk.inj (Option.some.inj h)
            exact jr_retI jf_208_59 jmt_208
          · refine jr_if2_lt_f jf_208_34 hc ?_
            refine jr_iload_n jf_208_37 rfl hl3 ?_
            refine jr_aload_n jf_208_38 rfl hl0 ?_
            replace h := obd_of h; obtain ⟨x9, hx9, h⟩ := h
            refine jr_getA jf_208_39 hx9 ?_
            refine jr_iload_n jf_208_42 rfl hl1 ?_
            replace h := obd_of h; obtain ⟨a10, rfl, h⟩ := h
            replace h := obd_of h; obtain ⟨x11, hx11, h⟩ := h
            refine jr_iaload jf_208_43 hx11 ?_
            replace h := ite_or h; rcases h with ⟨hc, h⟩ | ⟨hc, h⟩
            · refine jr_if2_ge_t jf_208_44 hc ?_
              refine jr_iconst jf_208_58 jc_i_m1 ?_
              obtain ⟨rfl, rfl⟩ := Prod.mk.inj (Option.some.inj h)
              exact jr_retI jf_208_59 jmt_208
            · refine jr_if2_ge_f jf_208_44 hc ?_
              refine jr_iload jf_208_47 hl4 ?_
              refine jr_iconst jf_208_49 jc_i_1 ?_
              refine jr_bipush jf_208_50 jc_b_64 ?_
              refine jr_S3_3 jf_208_52 (by omega) (r_R_in (by omega) _ _ _ _ _ rfl) (Nat.le_of_ble_eq_true rfl) jml_187 (Nat.le_of_ble_eq_true rfl) ?_
              replace h := ite_or h; rcases h with ⟨hc, h⟩ | ⟨hc, h⟩
              · refine jr_ifz_ne_t jf_208_55 hc ?_
                refine jr_iload_n jf_208_60 rfl hl2 ?_
                refine jr_istore jf_208_61 jml_208 (by decide) ?_
                exact r_R_loop_63 hd _ _ _ _ _ _ _ _ _ _ _ _ (jg1_ne rfl hl0) (jg1_ne rfl hl1) (jg1_ne rfl hl2) (jg1_ne rfl hl3) (jg1_ne rfl hl4) (jg1_ne rfl hl5) jg1_same h
              · refine jr_ifz_ne_f jf_208_55 hc ?_
                refine jr_iconst jf_208_58 jc_i_m1 ?_
                obtain ⟨rfl, rfl⟩ := Prod.mk.inj (Option.some.inj h)
                exact jr_retI jf_208_59 jmt_208
    · refine jr_if2_ne_t jf_208_15 hc ?_
      refine jr_iconst jf_208_58 jc_i_m1 ?_
      obtain ⟨rfl, rfl⟩ := Prod.mk.inj (Option.some.inj h)
      exact jr_retI jf_208_59 jmt_208
  · refine jr_ifz_eq_t jf_208_5 hc ?_
    refine jr_iconst jf_208_58 jc_i_m1 ?_
    obtain ⟨rfl, rfl⟩ := Prod.mk.inj (Option.some.inj h)
    exact jr_retI jf_208_59 jmt_208
set_option maxRecDepth 10000 in
set_option maxHeartbeats 4000000 in
theorem r_R_loop {N B : Nat} {SA : Nat → Nat} {d : Nat} (hd : 2 ≤ d) : ∀ (v0 : Nat) (v1 : Int32) (v2 : Int32) (v3 : Int32) (v4 : Int32) (v5 : Int64) (μ : JMem) (r : Int32) (μ9 : JMem), g_R_loop N B v0 v1 v2 v3 v4 v5 μ = some (r, μ9) → jR B SA d m_R_loop 0 (lv_args 0 [.ref v0, .int v1, .int v2, .int v3, .int v4, .long v5]) [] μ (some (.int r)) μ9 := by
  intro v0 v1 v2 v3 v4 v5 μ r μ9 h
  exact r_R_loop_e hd (lv_args 0 _) _ _ _ _ _ _ _ _ _ (by simp [lv_args, jget, rv_cat, cat_int, cat_long, cat_double, cat_float, cat_ref]) (by simp [lv_args, jget, rv_cat, cat_int, cat_long, cat_double, cat_float, cat_ref]) (by simp [lv_args, jget, rv_cat, cat_int, cat_long, cat_double, cat_float, cat_ref]) (by simp [lv_args, jget, rv_cat, cat_int, cat_long, cat_double, cat_float, cat_ref]) (by simp [lv_args, jget, rv_cat, cat_int, cat_long, cat_double, cat_float, cat_ref]) (by simp [lv_args, jget, rv_cat, cat_int, cat_long, cat_double, cat_float, cat_ref]) h
/-! FilterBenchModel.within(II)Z -/
set_option maxRecDepth 10000 in
set_option maxHeartbeats 4000000 in
theorem r_R_within_e {N B : Nat} {SA : Nat → Nat} {d : Nat} (hd : 2 ≤ d) : ∀ (L : JLoc) (v0 : Nat) (v1 : Int32) (v2 : Int32) (μ : JMem) (r : Bool) (μ9 : JMem), jget L 0 = .ref v0 → jget L 1 = .int v1 → jget L 2 = .int v2 → g_R_within N B v0 v1 v2 μ = some (r, μ9) → jR B SA d m_R_within 0 L [] μ (some (.int (jb r))) μ9 := by
  intro L v0 v1 v2 μ r μ9 hl0 hl1 hl2 h
  unfold g_R_within at h
  refine jr_aload_n jf_210_0 rfl hl0 ?_
  refine jr_iload_n jf_210_1 rfl hl1 ?_
  replace h := jgd_of h; obtain ⟨hb1, h⟩ := h
  replace h := obd_of h; obtain ⟨x2, hx2, h⟩ := h
  refine jr_V6_1 jf_210_2 hb1 (by omega) (r_R_isSection (by omega) _ _ _ _ hx2) (Nat.le_of_ble_eq_true rfl) jml_193 (Nat.le_of_ble_eq_true rfl) ?_
  replace h := ite_or h; rcases h with ⟨hc, h⟩ | ⟨hc, h⟩
  · refine jr_ifz_eq_f jf_210_5 hc ?_
    refine jr_aload_n jf_210_8 rfl hl0 ?_
    refine jr_iload_n jf_210_9 rfl hl2 ?_
    replace h := jgd_of h; obtain ⟨hb3, h⟩ := h
    replace h := obd_of h; obtain ⟨x4, hx4, h⟩ := h
    refine jr_V6_1 jf_210_10 hb3 (by omega) (r_R_isChain (by omega) _ _ _ _ hx4) (Nat.le_of_ble_eq_true rfl) jml_204 (Nat.le_of_ble_eq_true rfl) ?_
    replace h := ite_or h; rcases h with ⟨hc, h⟩ | ⟨hc, h⟩
    · refine jr_ifz_eq_f jf_210_13 hc ?_
      refine jr_aload_n jf_210_16 rfl hl0 ?_
      replace h := obd_of h; obtain ⟨x5, hx5, h⟩ := h
      refine jr_getA jf_210_17 hx5 ?_
      refine jr_iload_n jf_210_20 rfl hl1 ?_
      replace h := obd_of h; obtain ⟨a6, rfl, h⟩ := h
      replace h := obd_of h; obtain ⟨x7, hx7, h⟩ := h
      refine jr_iaload jf_210_21 hx7 ?_
      refine jr_bipush jf_210_22 jc_b_15 ?_
      replace h := ite_or h; rcases h with ⟨hc, h⟩ | ⟨hc, h⟩
      · refine jr_if2_ne_f jf_210_24 hc ?_
        refine jr_aload_n jf_210_27 rfl hl0 ?_
        replace h := obd_of h; obtain ⟨x8, hx8, h⟩ := h
        refine jr_getA jf_210_28 hx8 ?_
        refine jr_iload_n jf_210_31 rfl hl1 ?_
        replace h := obd_of h; obtain ⟨a9, rfl, h⟩ := h
        replace h := obd_of h; obtain ⟨x10, hx10, h⟩ := h
        refine jr_iaload jf_210_32 hx10 ?_
        refine jr_iload_n jf_210_33 rfl hl2 ?_
        replace h := ite_or h; rcases h with ⟨hc, h⟩ | ⟨hc, h⟩
        · refine jr_if2_le_t jf_210_34 hc ?_
          refine jr_iconst jf_210_47 jc_i_0 ?_
          obtain ⟨rfl, rfl⟩ := Prod.mk.inj (Option.some.inj h)
          exact jr_retZ (x := false) jf_210_48 jmt_210
        · refine jr_if2_le_f jf_210_34 hc ?_
          refine jr_aload_n jf_210_37 rfl hl0 ?_
          replace h := obd_of h; obtain ⟨x11, hx11, h⟩ := h
          refine jr_getA jf_210_38 hx11 ?_
          refine jr_iload_n jf_210_41 rfl hl1 ?_
          replace h := obd_of h; obtain ⟨a12, rfl, h⟩ := h
          replace h := obd_of h; obtain ⟨x13, hx13, h⟩ := h
          refine jr_iaload jf_210_42 hx13 ?_
          refine jr_iconst jf_210_43 jc_i_m1 ?_
          replace h := ite_or h; rcases h with ⟨hc, h⟩ | ⟨hc, h⟩
          · refine jr_if2_eq_t jf_210_44 hc ?_
            refine jr_aload_n jf_210_49 rfl hl0 ?_
            replace h := obd_of h; obtain ⟨x14, hx14, h⟩ := h
            refine jr_getA jf_210_50 hx14 ?_
            refine jr_iload_n jf_210_53 rfl hl2 ?_
            replace h := obd_of h; obtain ⟨a15, rfl, h⟩ := h
            replace h := obd_of h; obtain ⟨x16, hx16, h⟩ := h
            refine jr_iaload jf_210_54 hx16 ?_
            refine jr_iconst jf_210_55 jc_i_m1 ?_
            replace h := ite_or h; rcases h with ⟨hc, h⟩ | ⟨hc, h⟩
            · refine jr_if2_ne_f jf_210_56 hc ?_
              refine jr_aload_n jf_210_59 rfl hl0 ?_
              replace h := obd_of h; obtain ⟨x17, hx17, h⟩ := h
              refine jr_getA jf_210_60 hx17 ?_
              refine jr_iload_n jf_210_63 rfl hl2 ?_
              replace h := obd_of h; obtain ⟨a18, rfl, h⟩ := h
              replace h := obd_of h; obtain ⟨x19, hx19, h⟩ := h
              refine jr_iaload jf_210_64 hx19 ?_
              replace h := ite_or h; rcases h with ⟨hc, h⟩ | ⟨hc, h⟩
              · refine jr_if_eq_t jf_210_65 hc ?_
                refine jr_iconst jf_210_94 jc_i_0 ?_
                obtain ⟨rfl, rfl⟩ := Prod.mk.inj (Option.some.inj h)
                exact jr_retZ (x := false) jf_210_95 jmt_210
              · refine jr_if_eq_f jf_210_65 hc ?_
                refine jr_aload_n jf_210_68 rfl hl0 ?_
                refine jr_iload_n jf_210_69 rfl hl2 ?_
                replace h := jgd_of h; obtain ⟨hb20, h⟩ := h
                replace h := obd_of h; obtain ⟨x21, hx21, h⟩ := h
                refine jr_V6_1 jf_210_70 hb20 (by omega) (r_R_sortOf (by omega) _ _ _ _ hx21) (Nat.le_of_ble_eq_true rfl) jml_205 (Nat.le_of_ble_eq_true rfl) ?_
                refine jr_aload_n jf_210_73 rfl hl0 ?_
                replace h := obd_of h; obtain ⟨x22, hx22, h⟩ := h
                refine jr_getA jf_210_74 hx22 ?_
                refine jr_iload_n jf_210_77 rfl hl1 ?_
                replace h := obd_of h; obtain ⟨a23, rfl, h⟩ := h
                replace h := obd_of h; obtain ⟨x24, hx24, h⟩ := h
                refine jr_iaload jf_210_78 hx24 ?_
                replace h := ite_or h; rcases h with ⟨hc, h⟩ | ⟨hc, h⟩
                · refine jr_if2_ne_f jf_210_79 hc ?_
                  refine jr_aload_n jf_210_82 rfl hl0 ?_
                  refine jr_iload_n jf_210_83 rfl hl2 ?_
                  refine jr_bipush jf_210_84 jc_b_12 ?_
                  refine jr_bipush jf_210_86 jc_b_14 ?_
                  replace h := jgd_of h; obtain ⟨hb25, h⟩ := h
                  replace h := obd_of h; obtain ⟨x26, hx26, h⟩ := h
                  refine jr_V6_3 jf_210_88 hb25 (by omega) (r_R_countOf (by omega) _ _ _ _ _ _ hx26) (Nat.le_of_ble_eq_true rfl) jml_206 (Nat.le_of_ble_eq_true rfl) ?_
                  replace h := ite_or h; rcases h with ⟨hc, h⟩ | ⟨hc, h⟩
                  · refine jr_if_le_t jf_210_91 hc ?_
                    refine jr_aload_n jf_210_96 rfl hl0 ?_
                    replace h := obd_of h; obtain ⟨x27, hx27, h⟩ := h
                    refine jr_getA jf_210_97 hx27 ?_
                    refine jr_iload_n jf_210_100 rfl hl1 ?_
                    refine jr_iload_n jf_210_101 rfl hl2 ?_
                    replace h := obd_of h; obtain ⟨a28, rfl, h⟩ := h
                    replace h := obd_of h; obtain ⟨μ29, hμ29, h⟩ := h
                    refine jr_iastore jf_210_102 hμ29 ?_
                    refine jr_aload_n jf_210_103 rfl hl0 ?_
                    replace h := obd_of h; obtain ⟨x30, hx30, h⟩ := h
                    refine jr_getA jf_210_104 hx30 ?_
                    refine jr_iload_n jf_210_107 rfl hl2 ?_
                    refine jr_iload_n jf_210_108 rfl hl1 ?_
                    replace h := obd_of h; obtain ⟨a31, rfl, h⟩ := h
                    replace h := obd_of h; obtain ⟨μ32, hμ32, h⟩ := h
                    refine jr_iastore jf_210_109 hμ32 ?_
                    refine jr_iconst jf_210_110 jc_i_1 ?_
                    obtain ⟨rfl, rfl⟩ := Prod.mk.inj (Option.some.inj h)
                    exact jr_retZ (x := true) jf_210_111 jmt_210
                  · refine jr_if_le_f jf_210_91 hc ?_
                    refine jr_iconst jf_210_94 jc_i_0 ?_
                    obtain ⟨rfl, rfl⟩ := Prod.mk.inj (Option.some.inj h)
                    exact jr_retZ (x := false) jf_210_95 jmt_210
                · refine jr_if2_ne_t jf_210_79 hc ?_
                  refine jr_iconst jf_210_94 jc_i_0 ?_
                  obtain ⟨rfl, rfl⟩ := Prod.mk.inj (Option.some.inj h)
                  exact jr_retZ (x := false) jf_210_95 jmt_210
            · refine jr_if2_ne_t jf_210_56 hc ?_
              refine jr_iconst jf_210_94 jc_i_0 ?_
              obtain ⟨rfl, rfl⟩ := Prod.mk.inj (Option.some.inj h)
              exact jr_retZ (x := false) jf_210_95 jmt_210
          · refine jr_if2_eq_f jf_210_44 hc ?_
            refine jr_iconst jf_210_47 jc_i_0 ?_
            obtain ⟨rfl, rfl⟩ := Prod.mk.inj (Option.some.inj h)
            exact jr_retZ (x := false) jf_210_48 jmt_210
      · refine jr_if2_ne_t jf_210_24 hc ?_
        refine jr_iconst jf_210_47 jc_i_0 ?_
        obtain ⟨rfl, rfl⟩ := Prod.mk.inj (Option.some.inj h)
        exact jr_retZ (x := false) jf_210_48 jmt_210
    · refine jr_ifz_eq_t jf_210_13 hc ?_
      refine jr_iconst jf_210_47 jc_i_0 ?_
      obtain ⟨rfl, rfl⟩ := Prod.mk.inj (Option.some.inj h)
      exact jr_retZ (x := false) jf_210_48 jmt_210
  · refine jr_ifz_eq_t jf_210_5 hc ?_
    refine jr_iconst jf_210_47 jc_i_0 ?_
    obtain ⟨rfl, rfl⟩ := Prod.mk.inj (Option.some.inj h)
    exact jr_retZ (x := false) jf_210_48 jmt_210
set_option maxRecDepth 10000 in
set_option maxHeartbeats 4000000 in
theorem r_R_within {N B : Nat} {SA : Nat → Nat} {d : Nat} (hd : 2 ≤ d) : ∀ (v0 : Nat) (v1 : Int32) (v2 : Int32) (μ : JMem) (r : Bool) (μ9 : JMem), g_R_within N B v0 v1 v2 μ = some (r, μ9) → jR B SA d m_R_within 0 (lv_args 0 [.ref v0, .int v1, .int v2]) [] μ (some (.int (jb r))) μ9 := by
  intro v0 v1 v2 μ r μ9 h
  exact r_R_within_e hd (lv_args 0 _) _ _ _ _ _ _ (by simp [lv_args, jget, rv_cat, cat_int, cat_long, cat_double, cat_float, cat_ref]) (by simp [lv_args, jget, rv_cat, cat_int, cat_long, cat_double, cat_float, cat_ref]) (by simp [lv_args, jget, rv_cat, cat_int, cat_long, cat_double, cat_float, cat_ref]) h
/-! FilterBenchModel.begins(I)V -/
set_option maxRecDepth 10000 in
set_option maxHeartbeats 4000000 in
theorem r_R_begins_e {B : Nat} {SA : Nat → Nat} {d : Nat} (hd : 0 ≤ d) : ∀ (L : JLoc) (v0 : Nat) (v1 : Int32) (μ : JMem) (μ9 : JMem), jget L 0 = .ref v0 → jget L 1 = .int v1 → g_R_begins B v0 v1 μ = some μ9 → jR B SA d m_R_begins 0 L [] μ none μ9 := by
  intro L v0 v1 μ μ9 hl0 hl1 h
  unfold g_R_begins at h
  refine jr_aload_n jf_215_0 rfl hl0 ?_
  refine jr_iload_n jf_215_1 rfl hl1 ?_
  replace h := obd_of h; obtain ⟨μ1, hμ1, h⟩ := h
  refine jr_putI jf_215_2 rfl hμ1 ?_
  refine jr_aload_n jf_215_5 rfl hl0 ?_
  refine jr_iconst jf_215_6 jc_i_0 ?_
  replace h := obd_of h; obtain ⟨μ2, hμ2, h⟩ := h
  refine jr_putI jf_215_7 rfl hμ2 ?_
  refine jr_aload_n jf_215_10 rfl hl0 ?_
  refine jr_dconst0 jf_215_11 ?_
  replace h := obd_of h; obtain ⟨μ3, hμ3, h⟩ := h
  refine jr_putD jf_215_12 rfl hμ3 ?_
  refine jr_aload_n jf_215_15 rfl hl0 ?_
  refine jr_lconst0 jf_215_16 ?_
  replace h := obd_of h; obtain ⟨μ4, hμ4, h⟩ := h
  refine jr_putJ jf_215_17 rfl hμ4 ?_
  obtain rfl := Option.some.inj h
  exact jr_return jf_215_20 jmt_215
set_option maxRecDepth 10000 in
set_option maxHeartbeats 4000000 in
theorem r_R_begins {B : Nat} {SA : Nat → Nat} {d : Nat} (hd : 0 ≤ d) : ∀ (v0 : Nat) (v1 : Int32) (μ : JMem) (μ9 : JMem), g_R_begins B v0 v1 μ = some μ9 → jR B SA d m_R_begins 0 (lv_args 0 [.ref v0, .int v1]) [] μ none μ9 := by
  intro v0 v1 μ μ9 h
  exact r_R_begins_e hd (lv_args 0 _) _ _ _ _ (by simp [lv_args, jget, rv_cat, cat_int, cat_long, cat_double, cat_float, cat_ref]) (by simp [lv_args, jget, rv_cat, cat_int, cat_long, cat_double, cat_float, cat_ref]) h
/-! FilterBenchModel.cut(JI)D -/
set_option maxRecDepth 10000 in
set_option maxHeartbeats 4000000 in
theorem r_R_cut_e {B : Nat} {SA : Nat → Nat} {d : Nat} (hd : 0 ≤ d) : ∀ (L : JLoc) (v0 : Int64) (v2 : Int32) (μ : JMem) (r : UInt64), jget L 0 = .long v0 → jget L 2 = .int v2 → g_R_cut v0 v2 = r → jR B SA d m_R_cut 0 L [] μ (some (.double r)) μ := by
  intro L v0 v2 μ r hl0 hl2 h
  unfold g_R_cut at h
  refine jr_iload_n jf_222_0 rfl hl2 ?_
  refine jr_iconst jf_222_1 jc_i_1 ?_
  replace h := ite_or h; rcases h with ⟨hc, h⟩ | ⟨hc, h⟩
  · refine jr_if2_ne_f jf_222_2 hc ?_
    refine jr_lload_n jf_222_5 rfl hl0 ?_
    refine jr_l2i jf_222_6 ?_
    refine jr_i2s jf_222_7 ?_
    refine jr_i2d jf_222_8 ?_
    subst h
    exact jr_retD jf_222_9 jmt_222
  · refine jr_if2_ne_t jf_222_2 hc ?_
    refine jr_lload_n jf_222_10 rfl hl0 ?_
    refine jr_ldc2l jf_222_11 ?_
    refine jr_lcmp jf_222_14 ?_
    replace h := ite_or h; rcases h with ⟨hc, h⟩ | ⟨hc, h⟩
    · refine jr_ifl_le_t jf_222_15 hc ?_
      refine jr_lload_n jf_222_24 rfl hl0 ?_
      refine jr_ldc2l jf_222_25 ?_
      refine jr_lcmp jf_222_28 ?_
      replace h := ite_or h; rcases h with ⟨hc, h⟩ | ⟨hc, h⟩
      · refine jr_ifl_ge_t jf_222_29 hc ?_
        refine jr_lload_n jf_222_38 rfl hl0 ?_
        refine jr_l2d jf_222_39 ?_
        subst h
        exact jr_retD jf_222_40 jmt_222
      · refine jr_ifl_ge_f jf_222_29 hc ?_
        refine jr_ldc2d jf_222_32 ?_
        refine jr_goto jf_222_35 ?_
        subst h
        exact jr_retD jf_222_40 jmt_222
    · refine jr_ifl_le_f jf_222_15 hc ?_
      refine jr_ldc2d jf_222_18 ?_
      refine jr_goto jf_222_21 ?_
      subst h
      exact jr_retD jf_222_40 jmt_222
set_option maxRecDepth 10000 in
set_option maxHeartbeats 4000000 in
theorem r_R_cut {B : Nat} {SA : Nat → Nat} {d : Nat} (hd : 0 ≤ d) : ∀ (v0 : Int64) (v2 : Int32) (μ : JMem) (r : UInt64), g_R_cut v0 v2 = r → jR B SA d m_R_cut 0 (lv_args 0 [.long v0, .int v2]) [] μ (some (.double r)) μ := by
  intro v0 v2 μ r h
  exact r_R_cut_e hd (lv_args 0 _) _ _ _ _ (by simp [lv_args, jget, rv_cat, cat_int, cat_long, cat_double, cat_float, cat_ref]) (by simp [lv_args, jget, rv_cat, cat_int, cat_long, cat_double, cat_float, cat_ref]) h
/-! FilterBenchModel.comes()D -/
set_option maxRecDepth 10000 in
set_option maxHeartbeats 4000000 in
theorem r_R_comes_105 {B : Nat} {SA : Nat → Nat} {d : Nat} (hd : 1 ≤ d) : ∀ (L : JLoc) (v0 : Nat) (v1 : Int32) (v2 : Int64) (μ : JMem) (r : UInt64) (μ9 : JMem), jget L 0 = .ref v0 → jget L 1 = .int v1 → jget L 2 = .long v2 → g_R_comes_105 B v0 v1 v2 μ = some (r, μ9) → jR B SA d m_R_comes 105 L [] μ (some (.double r)) μ9 := by
  intro L v0 v1 v2 μ r μ9 hl0 hl1 hl2 h
  unfold g_R_comes_105 at h
  refine jr_iconst jf_221_105 jc_i_2 ?_
  refine jr_lload_n jf_221_106 rfl hl2 ?_
  refine jr_S3_2 jf_221_107 (by omega) (r_R_isValue (by omega) _ _ _ _ rfl) (Nat.le_of_ble_eq_true rfl) jml_195 (Nat.le_of_ble_eq_true rfl) ?_
  replace h := ite_or h; rcases h with ⟨hc, h⟩ | ⟨hc, h⟩
  · refine jr_ifz_eq_f jf_221_110 hc ?_
    refine jr_lload_n jf_221_113 rfl hl2 ?_
    refine jr_l2d jf_221_114 ?_
    obtain ⟨rfl, rfl⟩ := Prod.mk.inj (Option.some.inj h)
    exact jr_retD jf_221_115 jmt_221
  · refine jr_ifz_eq_t jf_221_110 hc ?_
    refine jr_aload_n jf_221_116 rfl hl0 ?_
    replace h := obd_of h; obtain ⟨x1, hx1, h⟩ := h
    refine jr_getA jf_221_117 hx1 ?_
    refine jr_iload_n jf_221_120 rfl hl1 ?_
    refine jr_dup2_1 jf_221_121 rfl (rv_cat _) ?_
    replace h := obd_of h; obtain ⟨a2, rfl, h⟩ := h
    replace h := obd_of h; obtain ⟨x3, hx3, h⟩ := h
    refine jr_iaload jf_221_122 hx3 ?_
    refine jr_iconst jf_221_123 jc_i_1 ?_
    refine jr_iadd jf_221_124 ?_
    replace h := obd_of h; obtain ⟨μ4, hμ4, h⟩ := h
    refine jr_iastore jf_221_125 hμ4 ?_
    refine jr_lload_n jf_221_126 rfl hl2 ?_
    refine jr_aload_n jf_221_127 rfl hl0 ?_
    replace h := obd_of h; obtain ⟨x5, hx5, h⟩ := h
    refine jr_getA jf_221_128 hx5 ?_
    refine jr_iload_n jf_221_131 rfl hl1 ?_
    replace h := obd_of h; obtain ⟨a6, rfl, h⟩ := h
    replace h := obd_of h; obtain ⟨x7, hx7, h⟩ := h
    refine jr_iaload jf_221_132 hx7 ?_
    refine jr_S3_2 jf_221_133 (by omega) (r_R_cut (by omega) _ _ _ _ rfl) (Nat.le_of_ble_eq_true rfl) jml_222 (Nat.le_of_ble_eq_true rfl) ?_
    obtain ⟨rfl, rfl⟩ := Prod.mk.inj (Option.some.inj h)
    exact jr_retD jf_221_136 jmt_221
set_option maxRecDepth 10000 in
set_option maxHeartbeats 4000000 in
theorem r_R_comes_e {B : Nat} {SA : Nat → Nat} {d : Nat} (hd : 1 ≤ d) : ∀ (L : JLoc) (v0 : Nat) (μ : JMem) (r : UInt64) (μ9 : JMem), jget L 0 = .ref v0 → g_R_comes B v0 μ = some (r, μ9) → jR B SA d m_R_comes 0 L [] μ (some (.double r)) μ9 := by
  intro L v0 μ r μ9 hl0 h
  unfold g_R_comes at h
  refine jr_aload_n jf_221_0 rfl hl0 ?_
  replace h := obd_of h; obtain ⟨x1, hx1, h⟩ := h
  refine jr_getI jf_221_1 hx1 ?_
  refine jr_istore_n jf_221_4 rfl jml_221 (by decide) ?_
  refine jr_aload_n jf_221_5 rfl (jg1_pre (by first | rfl | exact rv_cat _) hl0) ?_
  replace h := obd_of h; obtain ⟨x2, hx2, h⟩ := h
  refine jr_getA jf_221_6 hx2 ?_
  refine jr_iload_n jf_221_9 rfl jg1_same ?_
  replace h := obd_of h; obtain ⟨a3, rfl, h⟩ := h
  replace h := obd_of h; obtain ⟨x4, hx4, h⟩ := h
  refine jr_iaload jf_221_10 hx4 ?_
  refine jr_iconst jf_221_11 jc_i_2 ?_
  replace h := ite_or h; rcases h with ⟨hc, h⟩ | ⟨hc, h⟩
  · refine jr_if2_eq_t jf_221_12 hc ?_
    refine jr_lconst0 jf_221_20 ?_
    refine jr_lstore_n jf_221_21 rfl jml_221 (by decide) ?_
    refine jr_aload_n jf_221_22 rfl (jg2_ne rfl (jg1_pre (by first | rfl | exact rv_cat _) hl0)) ?_
    replace h := obd_of h; obtain ⟨x5, hx5, h⟩ := h
    refine jr_getA jf_221_23 hx5 ?_
    refine jr_iload_n jf_221_26 rfl (jg2_pre rfl jg1_same) ?_
    replace h := obd_of h; obtain ⟨a6, rfl, h⟩ := h
    replace h := obd_of h; obtain ⟨x7, hx7, h⟩ := h
    refine jr_iaload jf_221_27 hx7 ?_
    replace h := ite_or h; rcases h with ⟨hc, h⟩ | ⟨hc, h⟩
    · refine jr_if_ne_f jf_221_28 hc ?_
      refine jr_aload_n jf_221_31 rfl (jg2_ne rfl (jg1_pre (by first | rfl | exact rv_cat _) hl0)) ?_
      replace h := obd_of h; obtain ⟨x8, hx8, h⟩ := h
      refine jr_getJ jf_221_32 hx8 ?_
      refine jr_ldc2l jf_221_35 ?_
      refine jr_ladd jf_221_38 ?_
      refine jr_ldc2l jf_221_39 ?_
      replace h := obd_of h; obtain ⟨x9, hx9, h⟩ := h
      refine jr_S3_2 jf_221_42 (by omega) (r_R_floor (by omega) _ _ _ _ hx9) (Nat.le_of_ble_eq_true rfl) jml_199 (Nat.le_of_ble_eq_true rfl) ?_
      refine jr_lstore_n jf_221_45 rfl jml_221 (by decide) ?_
      refine jr_goto jf_221_46 ?_
      exact r_R_comes_105 hd _ _ _ _ _ _ _ (jg2_ne rfl (jg2_ne rfl (jg1_pre (by first | rfl | exact rv_cat _) hl0))) (jg2_pre rfl (jg2_pre rfl jg1_same)) jg2_same h
    · refine jr_if_ne_t jf_221_28 hc ?_
      refine jr_aload_n jf_221_49 rfl (jg2_ne rfl (jg1_pre (by first | rfl | exact rv_cat _) hl0)) ?_
      replace h := obd_of h; obtain ⟨x10, hx10, h⟩ := h
      refine jr_getA jf_221_50 hx10 ?_
      refine jr_iload_n jf_221_53 rfl (jg2_pre rfl jg1_same) ?_
      replace h := obd_of h; obtain ⟨a11, rfl, h⟩ := h
      replace h := obd_of h; obtain ⟨x12, hx12, h⟩ := h
      refine jr_iaload jf_221_54 hx12 ?_
      refine jr_iconst jf_221_55 jc_i_1 ?_
      replace h := ite_or h; rcases h with ⟨hc, h⟩ | ⟨hc, h⟩
      · refine jr_if2_ne_f jf_221_56 hc ?_
        refine jr_aload_n jf_221_59 rfl (jg2_ne rfl (jg1_pre (by first | rfl | exact rv_cat _) hl0)) ?_
        replace h := obd_of h; obtain ⟨x13, hx13, h⟩ := h
        refine jr_getJ jf_221_60 hx13 ?_
        refine jr_ldc2l jf_221_63 ?_
        refine jr_ldiv jf_221_66 (by simp only [jdivL]; exact if_neg (by decide)) ?_
        refine jr_lstore_n jf_221_67 rfl jml_221 (by decide) ?_
        refine jr_goto jf_221_68 ?_
        exact r_R_comes_105 hd _ _ _ _ _ _ _ (jg2_ne rfl (jg2_ne rfl (jg1_pre (by first | rfl | exact rv_cat _) hl0))) (jg2_pre rfl (jg2_pre rfl jg1_same)) jg2_same h
      · refine jr_if2_ne_t jf_221_56 hc ?_
        refine jr_aload_n jf_221_71 rfl (jg2_ne rfl (jg1_pre (by first | rfl | exact rv_cat _) hl0)) ?_
        replace h := obd_of h; obtain ⟨x14, hx14, h⟩ := h
        refine jr_getJ jf_221_72 hx14 ?_
        refine jr_aload_n jf_221_75 rfl (jg2_ne rfl (jg1_pre (by first | rfl | exact rv_cat _) hl0)) ?_
        replace h := obd_of h; obtain ⟨x15, hx15, h⟩ := h
        refine jr_getA jf_221_76 hx15 ?_
        refine jr_iload_n jf_221_79 rfl (jg2_pre rfl jg1_same) ?_
        replace h := obd_of h; obtain ⟨a16, rfl, h⟩ := h
        replace h := obd_of h; obtain ⟨x17, hx17, h⟩ := h
        refine jr_laload jf_221_80 hx17 ?_
        refine jr_ladd jf_221_81 ?_
        refine jr_lstore jf_221_82 jml_221 (by decide) ?_
        refine jr_lload jf_221_84 jg2_same ?_
        refine jr_ldc2l jf_221_86 ?_
        refine jr_ldiv jf_221_89 (by simp only [jdivL]; exact if_neg (by decide)) ?_
        refine jr_lstore_n jf_221_90 rfl jml_221 (by decide) ?_
        replace h := jlet_of h
        refine jr_aload_n jf_221_91 rfl (jg2_ne rfl (jg2_ne rfl (jg2_ne rfl (jg1_pre (by first | rfl | exact rv_cat _) hl0)))) ?_
        replace h := obd_of h; obtain ⟨x19, hx19, h⟩ := h
        refine jr_getA jf_221_92 hx19 ?_
        refine jr_iload_n jf_221_95 rfl (jg2_pre rfl (jg2_ne rfl (jg2_pre rfl jg1_same))) ?_
        refine jr_lload jf_221_96 (jg2_ne rfl jg2_same) ?_
        refine jr_ldc2l jf_221_98 ?_
        refine jr_lload_n jf_221_101 rfl jg2_same ?_
        refine jr_lmul jf_221_102 ?_
        refine jr_lsub jf_221_103 ?_
        replace h := obd_of h; obtain ⟨a20, rfl, h⟩ := h
        replace h := obd_of h; obtain ⟨μ21, hμ21, h⟩ := h
        refine jr_lastore jf_221_104 hμ21 ?_
        exact r_R_comes_105 hd _ _ _ _ _ _ _ (jg2_ne rfl (jg2_ne rfl (jg2_ne rfl (jg1_pre (by first | rfl | exact rv_cat _) hl0)))) (jg2_pre rfl (jg2_ne rfl (jg2_pre rfl jg1_same))) jg2_same h
  · refine jr_if2_eq_f jf_221_12 hc ?_
    refine jr_aload_n jf_221_15 rfl (jg1_pre (by first | rfl | exact rv_cat _) hl0) ?_
    replace h := obd_of h; obtain ⟨x22, hx22, h⟩ := h
    refine jr_getD jf_221_16 hx22 ?_
    obtain ⟨rfl, rfl⟩ := Prod.mk.inj (Option.some.inj h)
    exact jr_retD jf_221_19 jmt_221
set_option maxRecDepth 10000 in
set_option maxHeartbeats 4000000 in
theorem r_R_comes {B : Nat} {SA : Nat → Nat} {d : Nat} (hd : 1 ≤ d) : ∀ (v0 : Nat) (μ : JMem) (r : UInt64) (μ9 : JMem), g_R_comes B v0 μ = some (r, μ9) → jR B SA d m_R_comes 0 (lv_args 0 [.ref v0]) [] μ (some (.double r)) μ9 := by
  intro v0 μ r μ9 h
  exact r_R_comes_e hd (lv_args 0 _) _ _ _ _ (by simp [lv_args, jget, rv_cat, cat_int, cat_long, cat_double, cat_float, cat_ref]) h
/-! FilterBenchModel.c(II)D -/
set_option maxRecDepth 10000 in
set_option maxHeartbeats 4000000 in
theorem r_R_c_e {B : Nat} {SA : Nat → Nat} {d : Nat} (hd : 0 ≤ d) : ∀ (L : JLoc) (v0 : Nat) (v1 : Int32) (v2 : Int32) (μ : JMem) (r : UInt64), jget L 0 = .ref v0 → jget L 1 = .int v1 → jget L 2 = .int v2 → g_R_c v0 v1 v2 μ.1 = some r → jR B SA d m_R_c 0 L [] μ (some (.double r)) μ := by
  intro L v0 v1 v2 μ r hl0 hl1 hl2 h
  unfold g_R_c at h
  refine jr_aload_n jf_216_0 rfl hl0 ?_
  replace h := obd_of h; obtain ⟨x1, hx1, h⟩ := h
  refine jr_getA jf_216_1 hx1 ?_
  refine jr_iconst jf_216_4 jc_i_5 ?_
  refine jr_iload_n jf_216_5 rfl hl1 ?_
  refine jr_imul jf_216_6 ?_
  refine jr_iload_n jf_216_7 rfl hl2 ?_
  refine jr_iadd jf_216_8 ?_
  replace h := obd_of h; obtain ⟨a2, rfl, h⟩ := h
  replace h := obd_of h; obtain ⟨x3, hx3, h⟩ := h
  refine jr_daload jf_216_9 hx3 ?_
  obtain rfl := Option.some.inj h
  exact jr_retD jf_216_10 jmt_216
set_option maxRecDepth 10000 in
set_option maxHeartbeats 4000000 in
theorem r_R_c {B : Nat} {SA : Nat → Nat} {d : Nat} (hd : 0 ≤ d) : ∀ (v0 : Nat) (v1 : Int32) (v2 : Int32) (μ : JMem) (r : UInt64), g_R_c v0 v1 v2 μ.1 = some r → jR B SA d m_R_c 0 (lv_args 0 [.ref v0, .int v1, .int v2]) [] μ (some (.double r)) μ := by
  intro v0 v1 v2 μ r h
  exact r_R_c_e hd (lv_args 0 _) _ _ _ _ _ (by simp [lv_args, jget, rv_cat, cat_int, cat_long, cat_double, cat_float, cat_ref]) (by simp [lv_args, jget, rv_cat, cat_int, cat_long, cat_double, cat_float, cat_ref]) (by simp [lv_args, jget, rv_cat, cat_int, cat_long, cat_double, cat_float, cat_ref]) h
/-! FilterBenchModel.leaves()V -/
set_option maxRecDepth 10000 in
set_option maxHeartbeats 4000000 in
theorem r_R_leaves_84 {N B : Nat} {SA : Nat → Nat} {d : Nat} (hd : 0 ≤ d) {k7 : Nat → Int32 → JMem → Option JMem} (i7 : ∀ (L : JLoc) (v0 : Nat) (v1 : Int32) (μ : JMem) (μ9 : JMem), jget L 0 = .ref v0 → jget L 1 = .int v1 → k7 v0 v1 μ = some μ9 → jR B SA d m_R_leaves 7 L [] μ none μ9) : ∀ (L : JLoc) (v0 : Nat) (v1 : Int32) (μ : JMem) (μ9 : JMem), jget L 0 = .ref v0 → jget L 1 = .int v1 → g_R_leaves_84 N B k7 v0 v1 μ = some μ9 → jR B SA d m_R_leaves 84 L [] μ none μ9 := by
  intro L v0 v1 μ μ9 hl0 hl1 h
  unfold g_R_leaves_84 at h
  refine jr_iinc jf_223_84 jc_i_1 jml_223 (by decide) hl1 ?_
  refine jr_goto jf_223_87 ?_
  exact i7 _ _ _ _ _ (jg1_pre (by first | rfl | exact rv_cat _) hl0) jg1_same h
set_option maxRecDepth 10000 in
set_option maxHeartbeats 4000000 in
theorem r_R_leaves_7 {N B : Nat} {SA : Nat → Nat} {d : Nat} (hd : 0 ≤ d) : ∀ (n : Nat), ∀ (L : JLoc) (v0 : Nat) (v1 : Int32) (μ : JMem) (μ9 : JMem), jget L 0 = .ref v0 → jget L 1 = .int v1 → g_R_leaves_7 N B n v0 v1 μ = some μ9 → jR B SA d m_R_leaves 7 L [] μ none μ9 := by
  intro n
  induction n with
  | zero =>
    intro L v0 v1 μ μ9 hl0 hl1 h
    unfold g_R_leaves_7 at h
    cases h
  | succ n ih =>
    intro L v0 v1 μ μ9 hl0 hl1 h
    unfold g_R_leaves_7 at h
    refine jr_iload_n jf_223_7 rfl hl1 ?_
    refine jr_iconst jf_223_8 jc_i_3 ?_
    refine jr_aload_n jf_223_9 rfl hl0 ?_
    replace h := obd_of h; obtain ⟨x1, hx1, h⟩ := h
    refine jr_getI jf_223_10 hx1 ?_
    refine jr_imul jf_223_13 ?_
    refine jr_aload_n jf_223_14 rfl hl0 ?_
    replace h := obd_of h; obtain ⟨x2, hx2, h⟩ := h
    refine jr_getA jf_223_15 hx2 ?_
    refine jr_aload_n jf_223_18 rfl hl0 ?_
    replace h := obd_of h; obtain ⟨x3, hx3, h⟩ := h
    refine jr_getI jf_223_19 hx3 ?_
    replace h := obd_of h; obtain ⟨a4, rfl, h⟩ := h
    replace h := obd_of h; obtain ⟨x5, hx5, h⟩ := h
    refine jr_iaload jf_223_22 hx5 ?_
    refine jr_iadd jf_223_23 ?_
    replace h := ite_or h; rcases h with ⟨hc, h⟩ | ⟨hc, h⟩
    · refine jr_if2_ge_t jf_223_24 hc ?_
      refine jr_aload_n jf_223_90 rfl hl0 ?_
      refine jr_dup jf_223_91 rfl ?_
      replace h := obd_of h; obtain ⟨x6, hx6, h⟩ := h
      refine jr_getI jf_223_92 hx6 ?_
      refine jr_iconst jf_223_95 jc_i_1 ?_
      refine jr_iadd jf_223_96 ?_
      replace h := obd_of h; obtain ⟨μ7, hμ7, h⟩ := h
      refine jr_putI jf_223_97 rfl hμ7 ?_
      obtain rfl := Option.some.inj h
      exact jr_return jf_223_100 jmt_223
    · refine jr_if2_ge_f jf_223_24 hc ?_
      refine jr_aload_n jf_223_27 rfl hl0 ?_
      replace h := obd_of h; obtain ⟨x8, hx8, h⟩ := h
      refine jr_getA jf_223_28 hx8 ?_
      refine jr_iload_n jf_223_31 rfl hl1 ?_
      replace h := obd_of h; obtain ⟨a9, rfl, h⟩ := h
      replace h := obd_of h; obtain ⟨x10, hx10, h⟩ := h
      refine jr_iaload jf_223_32 hx10 ?_
      refine jr_aload_n jf_223_33 rfl hl0 ?_
      replace h := obd_of h; obtain ⟨x11, hx11, h⟩ := h
      refine jr_getI jf_223_34 hx11 ?_
      replace h := ite_or h; rcases h with ⟨hc, h⟩ | ⟨hc, h⟩
      · refine jr_if2_eq_t jf_223_37 hc ?_
        refine jr_aload_n jf_223_43 rfl hl0 ?_
        replace h := obd_of h; obtain ⟨x12, hx12, h⟩ := h
        refine jr_getA jf_223_44 hx12 ?_
        refine jr_bipush jf_223_47 jc_b_64 ?_
        refine jr_iload_n jf_223_49 rfl hl1 ?_
        refine jr_imul jf_223_50 ?_
        refine jr_aload_n jf_223_51 rfl hl0 ?_
        replace h := obd_of h; obtain ⟨x13, hx13, h⟩ := h
        refine jr_getA jf_223_52 hx13 ?_
        refine jr_iload_n jf_223_55 rfl hl1 ?_
        replace h := obd_of h; obtain ⟨a14, rfl, h⟩ := h
        replace h := obd_of h; obtain ⟨x15, hx15, h⟩ := h
        refine jr_iaload jf_223_56 hx15 ?_
        refine jr_iadd jf_223_57 ?_
        refine jr_aload_n jf_223_58 rfl hl0 ?_
        replace h := obd_of h; obtain ⟨x16, hx16, h⟩ := h
        refine jr_getD jf_223_59 hx16 ?_
        replace h := obd_of h; obtain ⟨a17, rfl, h⟩ := h
        replace h := obd_of h; obtain ⟨μ18, hμ18, h⟩ := h
        refine jr_dastore jf_223_62 hμ18 ?_
        refine jr_aload_n jf_223_63 rfl hl0 ?_
        replace h := obd_of h; obtain ⟨x19, hx19, h⟩ := h
        refine jr_getA jf_223_64 hx19 ?_
        refine jr_iload_n jf_223_67 rfl hl1 ?_
        refine jr_aload_n jf_223_68 rfl hl0 ?_
        replace h := obd_of h; obtain ⟨x20, hx20, h⟩ := h
        refine jr_getA jf_223_69 hx20 ?_
        refine jr_iload_n jf_223_72 rfl hl1 ?_
        replace h := obd_of h; obtain ⟨a21, rfl, h⟩ := h
        replace h := obd_of h; obtain ⟨x22, hx22, h⟩ := h
        refine jr_iaload jf_223_73 hx22 ?_
        refine jr_iconst jf_223_74 jc_i_1 ?_
        refine jr_iadd jf_223_75 ?_
        refine jr_aload_n jf_223_76 rfl hl0 ?_
        replace h := obd_of h; obtain ⟨x23, hx23, h⟩ := h
        refine jr_getA jf_223_77 hx23 ?_
        refine jr_iload_n jf_223_80 rfl hl1 ?_
        replace h := obd_of h; obtain ⟨a24, rfl, h⟩ := h
        replace h := obd_of h; obtain ⟨x25, hx25, h⟩ := h
        refine jr_iaload jf_223_81 hx25 ?_
        replace h := obd_of h; obtain ⟨x26, hx26, h⟩ := h
        refine jr_irem jf_223_82 hx26 ?_
        replace h := obd_of h; obtain ⟨a27, rfl, h⟩ := h
        replace h := obd_of h; obtain ⟨μ28, hμ28, h⟩ := h
        refine jr_iastore jf_223_83 hμ28 ?_
        exact r_R_leaves_84 hd ih _ _ _ _ _ hl0 hl1 h
      · refine jr_if2_eq_f jf_223_37 hc ?_
        refine jr_goto jf_223_40 ?_
        exact r_R_leaves_84 hd ih _ _ _ _ _ hl0 hl1 h
set_option maxRecDepth 10000 in
set_option maxHeartbeats 4000000 in
theorem r_R_leaves_e {N B : Nat} {SA : Nat → Nat} {d : Nat} (hd : 0 ≤ d) : ∀ (L : JLoc) (v0 : Nat) (μ : JMem) (μ9 : JMem), jget L 0 = .ref v0 → g_R_leaves N B v0 μ = some μ9 → jR B SA d m_R_leaves 0 L [] μ none μ9 := by
  intro L v0 μ μ9 hl0 h
  unfold g_R_leaves at h
  refine jr_iconst jf_223_0 jc_i_3 ?_
  refine jr_aload_n jf_223_1 rfl hl0 ?_
  replace h := obd_of h; obtain ⟨x1, hx1, h⟩ := h
  refine jr_getI jf_223_2 hx1 ?_
  refine jr_imul jf_223_5 ?_
  refine jr_istore_n jf_223_6 rfl jml_223 (by decide) ?_
  exact r_R_leaves_7 hd _ _ _ _ _ _ (jg1_pre (by first | rfl | exact rv_cat _) hl0) jg1_same h
set_option maxRecDepth 10000 in
set_option maxHeartbeats 4000000 in
theorem r_R_leaves {N B : Nat} {SA : Nat → Nat} {d : Nat} (hd : 0 ≤ d) : ∀ (v0 : Nat) (μ : JMem) (μ9 : JMem), g_R_leaves N B v0 μ = some μ9 → jR B SA d m_R_leaves 0 (lv_args 0 [.ref v0]) [] μ none μ9 := by
  intro v0 μ μ9 h
  exact r_R_leaves_e hd (lv_args 0 _) _ _ _ (by simp [lv_args, jget, rv_cat, cat_int, cat_long, cat_double, cat_float, cat_ref]) h
/-! FilterBenchModel.isEndless(D)Z -/
set_option maxRecDepth 10000 in
set_option maxHeartbeats 4000000 in
theorem r_R_isEndless_16 {B : Nat} {SA : Nat → Nat} {d : Nat} (hd : 0 ≤ d) : ∀ (L : JLoc) (μ : JMem) (r : Bool), g_R_isEndless_16 = r → jR B SA d m_R_isEndless 16 L [] μ (some (.int (jb r))) μ := by
  intro L μ r h
  unfold g_R_isEndless_16 at h
  refine jr_iconst jf_219_16 jc_i_1 ?_
  refine jr_goto jf_219_17 ?_
  subst h
  exact jr_retZ (x := true) jf_219_21 jmt_219
set_option maxRecDepth 10000 in
set_option maxHeartbeats 4000000 in
theorem r_R_isEndless_e {B : Nat} {SA : Nat → Nat} {d : Nat} (hd : 0 ≤ d) : ∀ (L : JLoc) (v0 : UInt64) (μ : JMem) (r : Bool), jget L 0 = .double v0 → g_R_isEndless v0 = r → jR B SA d m_R_isEndless 0 L [] μ (some (.int (jb r))) μ := by
  intro L v0 μ r hl0 h
  unfold g_R_isEndless at h
  refine jr_dload_n jf_219_0 rfl hl0 ?_
  refine jr_ldc2d jf_219_1 ?_
  refine jr_dcmp jf_219_4 ?_
  replace h := ite_or h; rcases h with ⟨hc, h⟩ | ⟨hc, h⟩
  · refine jr_if_eq_t jf_219_5 hc ?_
    exact r_R_isEndless_16 hd _  _ _ h
  · refine jr_if_eq_f jf_219_5 hc ?_
    refine jr_dload_n jf_219_8 rfl hl0 ?_
    refine jr_ldc2d jf_219_9 ?_
    refine jr_dcmp jf_219_12 ?_
    replace h := ite_or h; rcases h with ⟨hc, h⟩ | ⟨hc, h⟩
    · refine jr_if_ne_f jf_219_13 hc ?_
      exact r_R_isEndless_16 hd _  _ _ h
    · refine jr_if_ne_t jf_219_13 hc ?_
      refine jr_iconst jf_219_20 jc_i_0 ?_
      subst h
      exact jr_retZ (x := false) jf_219_21 jmt_219
set_option maxRecDepth 10000 in
set_option maxHeartbeats 4000000 in
theorem r_R_isEndless {B : Nat} {SA : Nat → Nat} {d : Nat} (hd : 0 ≤ d) : ∀ (v0 : UInt64) (μ : JMem) (r : Bool), g_R_isEndless v0 = r → jR B SA d m_R_isEndless 0 (lv_args 0 [.double v0]) [] μ (some (.int (jb r))) μ := by
  intro v0 μ r h
  exact r_R_isEndless_e hd (lv_args 0 _) _ _ _ (by simp [lv_args, jget, rv_cat, cat_int, cat_long, cat_double, cat_float, cat_ref]) h
/-! FilterBenchModel.joins(DZ)V -/
set_option maxRecDepth 10000 in
set_option maxHeartbeats 4000000 in
theorem r_R_joins_156 {B : Nat} {SA : Nat → Nat} {d : Nat} (hd : 1 ≤ d) : ∀ (L : JLoc) (v0 : Nat) (μ : JMem) (μ9 : JMem), jget L 0 = .ref v0 → g_R_joins_156 B v0 μ = some μ9 → jR B SA d m_R_joins 156 L [] μ none μ9 := by
  intro L v0 μ μ9 hl0 h
  unfold g_R_joins_156 at h
  refine jr_aload_n jf_220_156 rfl hl0 ?_
  refine jr_dup jf_220_157 rfl ?_
  replace h := obd_of h; obtain ⟨x1, hx1, h⟩ := h
  refine jr_getI jf_220_158 hx1 ?_
  refine jr_iconst jf_220_161 jc_i_1 ?_
  refine jr_iadd jf_220_162 ?_
  replace h := obd_of h; obtain ⟨μ2, hμ2, h⟩ := h
  refine jr_putI jf_220_163 rfl hμ2 ?_
  obtain rfl := Option.some.inj h
  exact jr_return jf_220_166 jmt_220
set_option maxRecDepth 10000 in
set_option maxHeartbeats 4000000 in
theorem r_R_joins_33 {B : Nat} {SA : Nat → Nat} {d : Nat} (hd : 1 ≤ d) : ∀ (L : JLoc) (v0 : Nat) (μ : JMem) (μ9 : JMem), jget L 0 = .ref v0 → g_R_joins_33 B v0 μ = some μ9 → jR B SA d m_R_joins 33 L [] μ none μ9 := by
  intro L v0 μ μ9 hl0 h
  unfold g_R_joins_33 at h
  refine jr_aload_n jf_220_33 rfl hl0 ?_
  refine jr_ldc2d jf_220_34 ?_
  replace h := obd_of h; obtain ⟨μ1, hμ1, h⟩ := h
  refine jr_putD jf_220_37 rfl hμ1 ?_
  refine jr_goto jf_220_40 ?_
  exact r_R_joins_156 hd _ _ _ _ hl0 h
set_option maxRecDepth 10000 in
set_option maxHeartbeats 4000000 in
theorem r_R_joins_127 {B : Nat} {SA : Nat → Nat} {d : Nat} (hd : 1 ≤ d) : ∀ (L : JLoc) (v0 : Nat) (s0 : UInt64) (s1 : Nat) (μ : JMem) (μ9 : JMem), jget L 0 = .ref v0 → g_R_joins_127 B v0 s0 s1 μ = some μ9 → jR B SA d m_R_joins 127 L [.double s0, .ref s1] μ none μ9 := by
  intro L v0 s0 s1 μ μ9 hl0 h
  unfold g_R_joins_127 at h
  replace h := obd_of h; obtain ⟨μ1, hμ1, h⟩ := h
  refine jr_putD jf_220_127 rfl hμ1 ?_
  refine jr_goto jf_220_130 ?_
  exact r_R_joins_156 hd _ _ _ _ hl0 h
set_option maxRecDepth 10000 in
set_option maxHeartbeats 4000000 in
theorem r_R_joins_153 {B : Nat} {SA : Nat → Nat} {d : Nat} (hd : 1 ≤ d) : ∀ (L : JLoc) (v0 : Nat) (s0 : UInt64) (s1 : Nat) (μ : JMem) (μ9 : JMem), jget L 0 = .ref v0 → g_R_joins_153 B v0 s0 s1 μ = some μ9 → jR B SA d m_R_joins 153 L [.double s0, .ref s1] μ none μ9 := by
  intro L v0 s0 s1 μ μ9 hl0 h
  unfold g_R_joins_153 at h
  replace h := obd_of h; obtain ⟨μ1, hμ1, h⟩ := h
  refine jr_putD jf_220_153 rfl hμ1 ?_
  exact r_R_joins_156 hd _ _ _ _ hl0 h
set_option maxRecDepth 10000 in
set_option maxHeartbeats 4000000 in
theorem r_R_joins_88 {B : Nat} {SA : Nat → Nat} {d : Nat} (hd : 1 ≤ d) : ∀ (L : JLoc) (v0 : Nat) (v1 : UInt64) (v3 : Bool) (μ : JMem) (μ9 : JMem), jget L 0 = .ref v0 → jget L 1 = .double v1 → jget L 3 = .int (jb v3) → g_R_joins_88 B v0 v1 v3 μ = some μ9 → jR B SA d m_R_joins 88 L [] μ none μ9 := by
  intro L v0 v1 v3 μ μ9 hl0 hl1 hl3 h
  unfold g_R_joins_88 at h
  refine jr_aload_n jf_220_88 rfl hl0 ?_
  replace h := obd_of h; obtain ⟨x1, hx1, h⟩ := h
  refine jr_getA jf_220_89 hx1 ?_
  refine jr_aload_n jf_220_92 rfl hl0 ?_
  replace h := obd_of h; obtain ⟨x2, hx2, h⟩ := h
  refine jr_getI jf_220_93 hx2 ?_
  replace h := obd_of h; obtain ⟨a3, rfl, h⟩ := h
  replace h := obd_of h; obtain ⟨x4, hx4, h⟩ := h
  refine jr_iaload jf_220_96 hx4 ?_
  refine jr_iconst jf_220_97 jc_i_1 ?_
  replace h := ite_or h; rcases h with ⟨hc, h⟩ | ⟨hc, h⟩
  · refine jr_if2_ne_f jf_220_98 hc ?_
    refine jr_aload_n jf_220_101 rfl hl0 ?_
    refine jr_iload_n jf_220_102 rfl hl3 ?_
    replace h := ite_or h; rcases h with ⟨hc, h⟩ | ⟨hc, h⟩
    · refine jr_ifz_eq_f jf_220_103 hc ?_
      refine jr_aload_n jf_220_106 rfl hl0 ?_
      replace h := obd_of h; obtain ⟨x5, hx5, h⟩ := h
      refine jr_getD jf_220_107 hx5 ?_
      replace h := obd_of h; obtain ⟨x6, hx6, h⟩ := h
      refine jr_d2f jf_220_110 hx6 ?_
      refine jr_dload_n jf_220_111 rfl hl1 ?_
      replace h := obd_of h; obtain ⟨x7, hx7, h⟩ := h
      refine jr_d2f jf_220_112 hx7 ?_
      replace h := obd_of h; obtain ⟨x8, hx8, h⟩ := h
      refine jr_fsub jf_220_113 hx8 ?_
      replace h := obd_of h; obtain ⟨x9, hx9, h⟩ := h
      refine jr_f2d jf_220_114 hx9 ?_
      refine jr_goto jf_220_115 ?_
      exact r_R_joins_127 hd _ _ _ _ _ _ hl0 h
    · refine jr_ifz_eq_t jf_220_103 hc ?_
      refine jr_aload_n jf_220_118 rfl hl0 ?_
      replace h := obd_of h; obtain ⟨x10, hx10, h⟩ := h
      refine jr_getD jf_220_119 hx10 ?_
      replace h := obd_of h; obtain ⟨x11, hx11, h⟩ := h
      refine jr_d2f jf_220_122 hx11 ?_
      refine jr_dload_n jf_220_123 rfl hl1 ?_
      replace h := obd_of h; obtain ⟨x12, hx12, h⟩ := h
      refine jr_d2f jf_220_124 hx12 ?_
      replace h := obd_of h; obtain ⟨x13, hx13, h⟩ := h
      refine jr_fadd jf_220_125 hx13 ?_
      replace h := obd_of h; obtain ⟨x14, hx14, h⟩ := h
      refine jr_f2d jf_220_126 hx14 ?_
      exact r_R_joins_127 hd _ _ _ _ _ _ hl0 h
  · refine jr_if2_ne_t jf_220_98 hc ?_
    refine jr_aload_n jf_220_133 rfl hl0 ?_
    refine jr_iload_n jf_220_134 rfl hl3 ?_
    replace h := ite_or h; rcases h with ⟨hc, h⟩ | ⟨hc, h⟩
    · refine jr_ifz_eq_f jf_220_135 hc ?_
      refine jr_aload_n jf_220_138 rfl hl0 ?_
      replace h := obd_of h; obtain ⟨x15, hx15, h⟩ := h
      refine jr_getD jf_220_139 hx15 ?_
      refine jr_dload_n jf_220_142 rfl hl1 ?_
      replace h := obd_of h; obtain ⟨x16, hx16, h⟩ := h
      refine jr_dsub jf_220_143 hx16 ?_
      refine jr_goto jf_220_144 ?_
      exact r_R_joins_153 hd _ _ _ _ _ _ hl0 h
    · refine jr_ifz_eq_t jf_220_135 hc ?_
      refine jr_aload_n jf_220_147 rfl hl0 ?_
      replace h := obd_of h; obtain ⟨x17, hx17, h⟩ := h
      refine jr_getD jf_220_148 hx17 ?_
      refine jr_dload_n jf_220_151 rfl hl1 ?_
      replace h := obd_of h; obtain ⟨x18, hx18, h⟩ := h
      refine jr_dadd jf_220_152 hx18 ?_
      exact r_R_joins_153 hd _ _ _ _ _ _ hl0 h
set_option maxRecDepth 10000 in
set_option maxHeartbeats 4000000 in
theorem r_R_joins_74 {B : Nat} {SA : Nat → Nat} {d : Nat} (hd : 1 ≤ d) : ∀ (L : JLoc) (v0 : Nat) (v1 : UInt64) (v3 : Bool) (s0 : Bool) (μ : JMem) (μ9 : JMem), jget L 0 = .ref v0 → jget L 1 = .double v1 → jget L 3 = .int (jb v3) → g_R_joins_74 B v0 v1 v3 s0 μ = some μ9 → jR B SA d m_R_joins 74 L [.int (jb s0)] μ none μ9 := by
  intro L v0 v1 v3 s0 μ μ9 hl0 hl1 hl3 h
  unfold g_R_joins_74 at h
  refine jr_iload_n jf_220_74 rfl hl3 ?_
  replace h := ite_or h; rcases h with ⟨hc, h⟩ | ⟨hc, h⟩
  · refine jr_if2z_ne_f jf_220_75 hc ?_
    refine jr_aload_n jf_220_78 rfl hl0 ?_
    refine jr_ldc2d jf_220_79 ?_
    replace h := obd_of h; obtain ⟨μ1, hμ1, h⟩ := h
    refine jr_putD jf_220_82 rfl hμ1 ?_
    refine jr_goto jf_220_85 ?_
    exact r_R_joins_156 hd _ _ _ _ hl0 h
  · refine jr_if2z_ne_t jf_220_75 hc ?_
    exact r_R_joins_88 hd _ _ _ _ _ _ hl0 hl1 hl3 h
set_option maxRecDepth 10000 in
set_option maxHeartbeats 4000000 in
theorem r_R_joins_e {B : Nat} {SA : Nat → Nat} {d : Nat} (hd : 1 ≤ d) : ∀ (L : JLoc) (v0 : Nat) (v1 : UInt64) (v3 : Bool) (μ : JMem) (μ9 : JMem), jget L 0 = .ref v0 → jget L 1 = .double v1 → jget L 3 = .int (jb v3) → g_R_joins B v0 v1 v3 μ = some μ9 → jR B SA d m_R_joins 0 L [] μ none μ9 := by
  intro L v0 v1 v3 μ μ9 hl0 hl1 hl3 h
  unfold g_R_joins at h
  refine jr_aload_n jf_220_0 rfl hl0 ?_
  replace h := obd_of h; obtain ⟨x1, hx1, h⟩ := h
  refine jr_getI jf_220_1 hx1 ?_
  replace h := ite_or h; rcases h with ⟨hc, h⟩ | ⟨hc, h⟩
  · refine jr_if_ne_f jf_220_4 hc ?_
    refine jr_aload_n jf_220_7 rfl hl0 ?_
    refine jr_dload_n jf_220_8 rfl hl1 ?_
    replace h := obd_of h; obtain ⟨μ2, hμ2, h⟩ := h
    refine jr_putD jf_220_9 rfl hμ2 ?_
    refine jr_goto jf_220_12 ?_
    exact r_R_joins_156 hd _ _ _ _ hl0 h
  · refine jr_if_ne_t jf_220_4 hc ?_
    refine jr_aload_n jf_220_15 rfl hl0 ?_
    replace h := obd_of h; obtain ⟨x3, hx3, h⟩ := h
    refine jr_getD jf_220_16 hx3 ?_
    refine jr_aload_n jf_220_19 rfl hl0 ?_
    replace h := obd_of h; obtain ⟨x4, hx4, h⟩ := h
    refine jr_getD jf_220_20 hx4 ?_
    refine jr_dcmp jf_220_23 ?_
    replace h := ite_or h; rcases h with ⟨hc, h⟩ | ⟨hc, h⟩
    · refine jr_if_ne_f jf_220_24 hc ?_
      refine jr_dload_n jf_220_27 rfl hl1 ?_
      refine jr_dload_n jf_220_28 rfl hl1 ?_
      refine jr_dcmp jf_220_29 ?_
      replace h := ite_or h; rcases h with ⟨hc, h⟩ | ⟨hc, h⟩
      · refine jr_if_eq_t jf_220_30 hc ?_
        refine jr_aload_n jf_220_43 rfl hl0 ?_
        replace h := obd_of h; obtain ⟨x5, hx5, h⟩ := h
        refine jr_getD jf_220_44 hx5 ?_
        refine jr_S3_1 jf_220_47 (by omega) (r_R_isEndless (by omega) _ _ _ rfl) (Nat.le_of_ble_eq_true rfl) jml_219 (Nat.le_of_ble_eq_true rfl) ?_
        replace h := ite_or h; rcases h with ⟨hc, h⟩ | ⟨hc, h⟩
        · refine jr_ifz_eq_f jf_220_50 hc ?_
          refine jr_dload_n jf_220_53 rfl hl1 ?_
          refine jr_S3_1 jf_220_54 (by omega) (r_R_isEndless (by omega) _ _ _ rfl) (Nat.le_of_ble_eq_true rfl) jml_219 (Nat.le_of_ble_eq_true rfl) ?_
          replace h := ite_or h; rcases h with ⟨hc, h⟩ | ⟨hc, h⟩
          · refine jr_ifz_eq_f jf_220_57 hc ?_
            refine jr_aload_n jf_220_60 rfl hl0 ?_
            replace h := obd_of h; obtain ⟨x6, hx6, h⟩ := h
            refine jr_getD jf_220_61 hx6 ?_
            refine jr_dload_n jf_220_64 rfl hl1 ?_
            refine jr_dcmp jf_220_65 ?_
            replace h := ite_or h; rcases h with ⟨hc, h⟩ | ⟨hc, h⟩
            · refine jr_if_ne_f jf_220_66 hc ?_
              refine jr_iconst jf_220_69 jc_i_1 ?_
              refine jr_goto jf_220_70 ?_
              exact r_R_joins_74 hd _ _ _ _ true _ _ hl0 hl1 hl3 h
            · refine jr_if_ne_t jf_220_66 hc ?_
              refine jr_iconst jf_220_73 jc_i_0 ?_
              exact r_R_joins_74 hd _ _ _ _ false _ _ hl0 hl1 hl3 h
          · refine jr_ifz_eq_t jf_220_57 hc ?_
            exact r_R_joins_88 hd _ _ _ _ _ _ hl0 hl1 hl3 h
        · refine jr_ifz_eq_t jf_220_50 hc ?_
          exact r_R_joins_88 hd _ _ _ _ _ _ hl0 hl1 hl3 h
      · refine jr_if_eq_f jf_220_30 hc ?_
        exact r_R_joins_33 hd _ _ _ _ hl0 h
    · refine jr_if_ne_t jf_220_24 hc ?_
      exact r_R_joins_33 hd _ _ _ _ hl0 h
set_option maxRecDepth 10000 in
set_option maxHeartbeats 4000000 in
theorem r_R_joins {B : Nat} {SA : Nat → Nat} {d : Nat} (hd : 1 ≤ d) : ∀ (v0 : Nat) (v1 : UInt64) (v3 : Bool) (μ : JMem) (μ9 : JMem), g_R_joins B v0 v1 v3 μ = some μ9 → jR B SA d m_R_joins 0 (lv_args 0 [.ref v0, .double v1, .int (jb v3)]) [] μ none μ9 := by
  intro v0 v1 v3 μ μ9 h
  exact r_R_joins_e hd (lv_args 0 _) _ _ _ _ _ (by simp [lv_args, jget, rv_cat, cat_int, cat_long, cat_double, cat_float, cat_ref]) (by simp [lv_args, jget, rv_cat, cat_int, cat_long, cat_double, cat_float, cat_ref]) (by simp [lv_args, jget, rv_cat, cat_int, cat_long, cat_double, cat_float, cat_ref]) h
/-! FilterBenchModel.product(DD)D -/
set_option maxRecDepth 10000 in
set_option maxHeartbeats 4000000 in
theorem r_R_product_46 {B : Nat} {SA : Nat → Nat} {d : Nat} (hd : 1 ≤ d) : ∀ (L : JLoc) (v0 : Nat) (v1 : UInt64) (v3 : UInt64) (μ : JMem) (r : UInt64), jget L 0 = .ref v0 → jget L 1 = .double v1 → jget L 3 = .double v3 → g_R_product_46 v0 v1 v3 μ.1 = some r → jR B SA d m_R_product 46 L [] μ (some (.double r)) μ := by
  intro L v0 v1 v3 μ r hl0 hl1 hl3 h
  unfold g_R_product_46 at h
  refine jr_aload_n jf_218_46 rfl hl0 ?_
  replace h := obd_of h; obtain ⟨x1, hx1, h⟩ := h
  refine jr_getA jf_218_47 hx1 ?_
  refine jr_aload_n jf_218_50 rfl hl0 ?_
  replace h := obd_of h; obtain ⟨x2, hx2, h⟩ := h
  refine jr_getI jf_218_51 hx2 ?_
  replace h := obd_of h; obtain ⟨a3, rfl, h⟩ := h
  replace h := obd_of h; obtain ⟨x4, hx4, h⟩ := h
  refine jr_iaload jf_218_54 hx4 ?_
  refine jr_iconst jf_218_55 jc_i_1 ?_
  replace h := ite_or h; rcases h with ⟨hc, h⟩ | ⟨hc, h⟩
  · refine jr_if2_ne_f jf_218_56 hc ?_
    refine jr_dload_n jf_218_59 rfl hl1 ?_
    replace h := obd_of h; obtain ⟨x5, hx5, h⟩ := h
    refine jr_d2f jf_218_60 hx5 ?_
    refine jr_dload_n jf_218_61 rfl hl3 ?_
    replace h := obd_of h; obtain ⟨x6, hx6, h⟩ := h
    refine jr_d2f jf_218_62 hx6 ?_
    replace h := obd_of h; obtain ⟨x7, hx7, h⟩ := h
    refine jr_fmul jf_218_63 hx7 ?_
    replace h := obd_of h; obtain ⟨x8, hx8, h⟩ := h
    refine jr_f2d jf_218_64 hx8 ?_
    obtain rfl := Option.some.inj h
    exact jr_retD jf_218_65 jmt_218
  · refine jr_if2_ne_t jf_218_56 hc ?_
    refine jr_dload_n jf_218_66 rfl hl1 ?_
    refine jr_dload_n jf_218_67 rfl hl3 ?_
    replace h := obd_of h; obtain ⟨x9, hx9, h⟩ := h
    refine jr_dmul jf_218_68 hx9 ?_
    obtain rfl := Option.some.inj h
    exact jr_retD jf_218_69 jmt_218
set_option maxRecDepth 10000 in
set_option maxHeartbeats 4000000 in
theorem r_R_product_29 {B : Nat} {SA : Nat → Nat} {d : Nat} (hd : 1 ≤ d) : ∀ (L : JLoc) (v0 : Nat) (v1 : UInt64) (v3 : UInt64) (μ : JMem) (r : UInt64), jget L 0 = .ref v0 → jget L 1 = .double v1 → jget L 3 = .double v3 → g_R_product_29 v0 v1 v3 μ.1 = some r → jR B SA d m_R_product 29 L [] μ (some (.double r)) μ := by
  intro L v0 v1 v3 μ r hl0 hl1 hl3 h
  unfold g_R_product_29 at h
  refine jr_dload_n jf_218_29 rfl hl1 ?_
  refine jr_dconst0 jf_218_30 ?_
  refine jr_dcmp jf_218_31 ?_
  replace h := ite_or h; rcases h with ⟨hc, h⟩ | ⟨hc, h⟩
  · refine jr_if_ne_f jf_218_32 hc ?_
    refine jr_dload_n jf_218_35 rfl hl3 ?_
    refine jr_S3_1 jf_218_36 (by omega) (r_R_isEndless (by omega) _ _ _ rfl) (Nat.le_of_ble_eq_true rfl) jml_219 (Nat.le_of_ble_eq_true rfl) ?_
    replace h := ite_or h; rcases h with ⟨hc, h⟩ | ⟨hc, h⟩
    · refine jr_ifz_eq_f jf_218_39 hc ?_
      refine jr_ldc2d jf_218_42 ?_
      obtain rfl := Option.some.inj h
      exact jr_retD jf_218_45 jmt_218
    · refine jr_ifz_eq_t jf_218_39 hc ?_
      exact r_R_product_46 hd _ _ _ _ _ _ hl0 hl1 hl3 h
  · refine jr_if_ne_t jf_218_32 hc ?_
    exact r_R_product_46 hd _ _ _ _ _ _ hl0 hl1 hl3 h
set_option maxRecDepth 10000 in
set_option maxHeartbeats 4000000 in
theorem r_R_product_e {B : Nat} {SA : Nat → Nat} {d : Nat} (hd : 1 ≤ d) : ∀ (L : JLoc) (v0 : Nat) (v1 : UInt64) (v3 : UInt64) (μ : JMem) (r : UInt64), jget L 0 = .ref v0 → jget L 1 = .double v1 → jget L 3 = .double v3 → g_R_product v0 v1 v3 μ.1 = some r → jR B SA d m_R_product 0 L [] μ (some (.double r)) μ := by
  intro L v0 v1 v3 μ r hl0 hl1 hl3 h
  unfold g_R_product at h
  refine jr_dload_n jf_218_0 rfl hl1 ?_
  refine jr_dload_n jf_218_1 rfl hl1 ?_
  refine jr_dcmp jf_218_2 ?_
  replace h := ite_or h; rcases h with ⟨hc, h⟩ | ⟨hc, h⟩
  · refine jr_if_ne_f jf_218_3 hc ?_
    refine jr_dload_n jf_218_6 rfl hl3 ?_
    refine jr_dload_n jf_218_7 rfl hl3 ?_
    refine jr_dcmp jf_218_8 ?_
    replace h := ite_or h; rcases h with ⟨hc, h⟩ | ⟨hc, h⟩
    · refine jr_if_eq_t jf_218_9 hc ?_
      refine jr_dload_n jf_218_16 rfl hl1 ?_
      refine jr_S3_1 jf_218_17 (by omega) (r_R_isEndless (by omega) _ _ _ rfl) (Nat.le_of_ble_eq_true rfl) jml_219 (Nat.le_of_ble_eq_true rfl) ?_
      replace h := ite_or h; rcases h with ⟨hc, h⟩ | ⟨hc, h⟩
      · refine jr_ifz_eq_f jf_218_20 hc ?_
        refine jr_dload_n jf_218_23 rfl hl3 ?_
        refine jr_dconst0 jf_218_24 ?_
        refine jr_dcmp jf_218_25 ?_
        replace h := ite_or h; rcases h with ⟨hc, h⟩ | ⟨hc, h⟩
        · refine jr_if_eq_t jf_218_26 hc ?_
          refine jr_ldc2d jf_218_42 ?_
          obtain rfl := Option.some.inj h
          exact jr_retD jf_218_45 jmt_218
        · refine jr_if_eq_f jf_218_26 hc ?_
          exact r_R_product_29 hd _ _ _ _ _ _ hl0 hl1 hl3 h
      · refine jr_ifz_eq_t jf_218_20 hc ?_
        exact r_R_product_29 hd _ _ _ _ _ _ hl0 hl1 hl3 h
    · refine jr_if_eq_f jf_218_9 hc ?_
      refine jr_ldc2d jf_218_12 ?_
      obtain rfl := Option.some.inj h
      exact jr_retD jf_218_15 jmt_218
  · refine jr_if_ne_t jf_218_3 hc ?_
    refine jr_ldc2d jf_218_12 ?_
    obtain rfl := Option.some.inj h
    exact jr_retD jf_218_15 jmt_218
set_option maxRecDepth 10000 in
set_option maxHeartbeats 4000000 in
theorem r_R_product {B : Nat} {SA : Nat → Nat} {d : Nat} (hd : 1 ≤ d) : ∀ (v0 : Nat) (v1 : UInt64) (v3 : UInt64) (μ : JMem) (r : UInt64), g_R_product v0 v1 v3 μ.1 = some r → jR B SA d m_R_product 0 (lv_args 0 [.ref v0, .double v1, .double v3]) [] μ (some (.double r)) μ := by
  intro v0 v1 v3 μ r h
  exact r_R_product_e hd (lv_args 0 _) _ _ _ _ _ (by simp [lv_args, jget, rv_cat, cat_int, cat_long, cat_double, cat_float, cat_ref]) (by simp [lv_args, jget, rv_cat, cat_int, cat_long, cat_double, cat_float, cat_ref]) (by simp [lv_args, jget, rv_cat, cat_int, cat_long, cat_double, cat_float, cat_ref]) h
/-! FilterBenchModel.term(DDZ)V -/
set_option maxRecDepth 10000 in
set_option maxHeartbeats 4000000 in
theorem r_R_term_38 {B : Nat} {SA : Nat → Nat} {d : Nat} (hd : 2 ≤ d) : ∀ (L : JLoc) (s0 : Int64) (s1 : Int64) (s2 : Nat) (μ : JMem) (μ9 : JMem), g_R_term_38 B s0 s1 s2 μ = some μ9 → jR B SA d m_R_term 38 L [.long s0, .long s1, .ref s2] μ none μ9 := by
  intro L s0 s1 s2 μ μ9 h
  unfold g_R_term_38 at h
  refine jr_ladd jf_217_38 ?_
  replace h := obd_of h; obtain ⟨μ1, hμ1, h⟩ := h
  refine jr_putJ jf_217_39 rfl hμ1 ?_
  refine jr_goto jf_217_42 ?_
  obtain rfl := Option.some.inj h
  exact jr_return jf_217_57 jmt_217
set_option maxRecDepth 10000 in
set_option maxHeartbeats 4000000 in
theorem r_R_term_e {B : Nat} {SA : Nat → Nat} {d : Nat} (hd : 2 ≤ d) : ∀ (L : JLoc) (v0 : Nat) (v1 : UInt64) (v3 : UInt64) (v5 : Bool) (μ : JMem) (μ9 : JMem), jget L 0 = .ref v0 → jget L 1 = .double v1 → jget L 3 = .double v3 → jget L 5 = .int (jb v5) → g_R_term B v0 v1 v3 v5 μ = some μ9 → jR B SA d m_R_term 0 L [] μ none μ9 := by
  intro L v0 v1 v3 v5 μ μ9 hl0 hl1 hl3 hl5 h
  unfold g_R_term at h
  refine jr_aload_n jf_217_0 rfl hl0 ?_
  replace h := obd_of h; obtain ⟨x1, hx1, h⟩ := h
  refine jr_getA jf_217_1 hx1 ?_
  refine jr_aload_n jf_217_4 rfl hl0 ?_
  replace h := obd_of h; obtain ⟨x2, hx2, h⟩ := h
  refine jr_getI jf_217_5 hx2 ?_
  replace h := obd_of h; obtain ⟨a3, rfl, h⟩ := h
  replace h := obd_of h; obtain ⟨x4, hx4, h⟩ := h
  refine jr_iaload jf_217_8 hx4 ?_
  refine jr_iconst jf_217_9 jc_i_2 ?_
  replace h := ite_or h; rcases h with ⟨hc, h⟩ | ⟨hc, h⟩
  · refine jr_if2_ne_f jf_217_10 hc ?_
    refine jr_dload_n jf_217_13 rfl hl1 ?_
    refine jr_d2l jf_217_14 ?_
    refine jr_dload_n jf_217_15 rfl hl3 ?_
    refine jr_d2l jf_217_16 ?_
    refine jr_lmul jf_217_17 ?_
    refine jr_lstore jf_217_18 jml_217 (by decide) ?_
    refine jr_aload_n jf_217_20 rfl (jg2_ne rfl hl0) ?_
    refine jr_dup jf_217_21 rfl ?_
    replace h := obd_of h; obtain ⟨x5, hx5, h⟩ := h
    refine jr_getJ jf_217_22 hx5 ?_
    refine jr_iload jf_217_25 (jg2_pre rfl hl5) ?_
    replace h := ite_or h; rcases h with ⟨hc, h⟩ | ⟨hc, h⟩
    · refine jr_ifz_eq_f jf_217_27 hc ?_
      refine jr_lload jf_217_30 jg2_same ?_
      refine jr_lneg jf_217_32 ?_
      refine jr_goto jf_217_33 ?_
      exact r_R_term_38 hd _ _ _ _ _ _ h
    · refine jr_ifz_eq_t jf_217_27 hc ?_
      refine jr_lload jf_217_36 jg2_same ?_
      exact r_R_term_38 hd _ _ _ _ _ _ h
  · refine jr_if2_ne_t jf_217_10 hc ?_
    refine jr_aload_n jf_217_45 rfl hl0 ?_
    refine jr_aload_n jf_217_46 rfl hl0 ?_
    refine jr_dload_n jf_217_47 rfl hl1 ?_
    refine jr_dload_n jf_217_48 rfl hl3 ?_
    replace h := jgd_of h; obtain ⟨hb6, h⟩ := h
    replace h := obd_of h; obtain ⟨x7, hx7, h⟩ := h
    refine jr_V6_2 jf_217_49 hb6 (by omega) (r_R_product (by omega) _ _ _ _ _ hx7) (Nat.le_of_ble_eq_true rfl) jml_218 (Nat.le_of_ble_eq_true rfl) ?_
    refine jr_iload jf_217_52 hl5 ?_
    replace h := jgd_of h; obtain ⟨hb8, h⟩ := h
    replace h := obd_of h; obtain ⟨μ9, hμ9, h⟩ := h
    refine jr_V6v_2 jf_217_54 hb8 (by omega) (r_R_joins (by omega) _ _ _ _ _ hμ9) (Nat.le_of_ble_eq_true rfl) jml_220 (Nat.le_of_ble_eq_true rfl) ?_
    obtain rfl := Option.some.inj h
    exact jr_return jf_217_57 jmt_217
set_option maxRecDepth 10000 in
set_option maxHeartbeats 4000000 in
theorem r_R_term {B : Nat} {SA : Nat → Nat} {d : Nat} (hd : 2 ≤ d) : ∀ (v0 : Nat) (v1 : UInt64) (v3 : UInt64) (v5 : Bool) (μ : JMem) (μ9 : JMem), g_R_term B v0 v1 v3 v5 μ = some μ9 → jR B SA d m_R_term 0 (lv_args 0 [.ref v0, .double v1, .double v3, .int (jb v5)]) [] μ none μ9 := by
  intro v0 v1 v3 v5 μ μ9 h
  exact r_R_term_e hd (lv_args 0 _) _ _ _ _ _ _ (by simp [lv_args, jget, rv_cat, cat_int, cat_long, cat_double, cat_float, cat_ref]) (by simp [lv_args, jget, rv_cat, cat_int, cat_long, cat_double, cat_float, cat_ref]) (by simp [lv_args, jget, rv_cat, cat_int, cat_long, cat_double, cat_float, cat_ref]) (by simp [lv_args, jget, rv_cat, cat_int, cat_long, cat_double, cat_float, cat_ref]) h
/-! FilterBenchModel.goesOn()Z -/
set_option maxRecDepth 10000 in
set_option maxHeartbeats 4000000 in
theorem r_R_goesOn_175 {N B : Nat} {SA : Nat → Nat} {d : Nat} (hd : 3 ≤ d) : ∀ (L : JLoc) (v0 : Nat) (s0 : UInt64) (s1 : Nat) (μ : JMem) (r : Bool) (μ9 : JMem), jget L 0 = .ref v0 → g_R_goesOn_175 N B v0 s0 s1 μ = some (r, μ9) → jR B SA d m_R_goesOn 175 L [.double s0, .ref s1] μ (some (.int (jb r))) μ9 := by
  intro L v0 s0 s1 μ r μ9 hl0 h
  unfold g_R_goesOn_175 at h
  replace h := obd_of h; obtain ⟨μ1, hμ1, h⟩ := h
  refine jr_putD jf_214_175 rfl hμ1 ?_
  refine jr_aload_n jf_214_178 rfl hl0 ?_
  refine jr_dup jf_214_179 rfl ?_
  replace h := obd_of h; obtain ⟨x2, hx2, h⟩ := h
  refine jr_getI jf_214_180 hx2 ?_
  refine jr_iconst jf_214_183 jc_i_1 ?_
  refine jr_iadd jf_214_184 ?_
  replace h := obd_of h; obtain ⟨μ3, hμ3, h⟩ := h
  refine jr_putI jf_214_185 rfl hμ3 ?_
  refine jr_iconst jf_214_188 jc_i_1 ?_
  obtain ⟨rfl, rfl⟩ := Prod.mk.inj (Option.some.inj h)
  exact jr_retZ (x := true) jf_214_189 jmt_214
set_option maxRecDepth 10000 in
set_option maxHeartbeats 4000000 in
theorem r_R_goesOn_153 {N B : Nat} {SA : Nat → Nat} {d : Nat} (hd : 3 ≤ d) : ∀ (L : JLoc) (v0 : Nat) (v1 : Int32) (v2 : Int32) (μ : JMem) (r : Bool) (μ9 : JMem), jget L 0 = .ref v0 → jget L 1 = .int v1 → jget L 2 = .int v2 → g_R_goesOn_153 N B v0 v1 v2 μ = some (r, μ9) → jR B SA d m_R_goesOn 153 L [] μ (some (.int (jb r))) μ9 := by
  intro L v0 v1 v2 μ r μ9 hl0 hl1 hl2 h
  unfold g_R_goesOn_153 at h
  refine jr_aload_n jf_214_153 rfl hl0 ?_
  refine jr_aload_n jf_214_154 rfl hl0 ?_
  replace h := obd_of h; obtain ⟨x1, hx1, h⟩ := h
  refine jr_getA jf_214_155 hx1 ?_
  refine jr_iload_n jf_214_158 rfl hl2 ?_
  replace h := obd_of h; obtain ⟨a2, rfl, h⟩ := h
  replace h := obd_of h; obtain ⟨x3, hx3, h⟩ := h
  refine jr_iaload jf_214_159 hx3 ?_
  refine jr_bipush jf_214_160 jc_b_14 ?_
  replace h := ite_or h; rcases h with ⟨hc, h⟩ | ⟨hc, h⟩
  · refine jr_if2_ne_f jf_214_162 hc ?_
    refine jr_aload_n jf_214_165 rfl hl0 ?_
    replace h := obd_of h; obtain ⟨x4, hx4, h⟩ := h
    refine jr_getA jf_214_166 hx4 ?_
    refine jr_iload_n jf_214_169 rfl hl1 ?_
    replace h := obd_of h; obtain ⟨a5, rfl, h⟩ := h
    replace h := obd_of h; obtain ⟨x6, hx6, h⟩ := h
    refine jr_daload jf_214_170 hx6 ?_
    refine jr_goto jf_214_171 ?_
    exact r_R_goesOn_175 hd _ _ _ _ _ _ _ hl0 h
  · refine jr_if2_ne_t jf_214_162 hc ?_
    refine jr_dconst0 jf_214_174 ?_
    exact r_R_goesOn_175 hd _ _ _ _ _ _ _ hl0 h
set_option maxRecDepth 10000 in
set_option maxHeartbeats 4000000 in
theorem r_R_goesOn_e {N B : Nat} {SA : Nat → Nat} {d : Nat} (hd : 3 ≤ d) : ∀ (L : JLoc) (v0 : Nat) (μ : JMem) (r : Bool) (μ9 : JMem), jget L 0 = .ref v0 → g_R_goesOn N B v0 μ = some (r, μ9) → jR B SA d m_R_goesOn 0 L [] μ (some (.int (jb r))) μ9 := by
  intro L v0 μ r μ9 hl0 h
  unfold g_R_goesOn at h
  refine jr_aload_n jf_214_0 rfl hl0 ?_
  replace h := obd_of h; obtain ⟨x1, hx1, h⟩ := h
  refine jr_getI jf_214_1 hx1 ?_
  replace h := ite_or h; rcases h with ⟨hc, h⟩ | ⟨hc, h⟩
  · refine jr_if_ne_f jf_214_4 hc ?_
    refine jr_iconst jf_214_7 jc_i_0 ?_
    obtain ⟨rfl, rfl⟩ := Prod.mk.inj (Option.some.inj h)
    exact jr_retZ (x := false) jf_214_8 jmt_214
  · refine jr_if_ne_t jf_214_4 hc ?_
    refine jr_aload_n jf_214_9 rfl hl0 ?_
    replace h := obd_of h; obtain ⟨x2, hx2, h⟩ := h
    refine jr_getI jf_214_10 hx2 ?_
    refine jr_iconst jf_214_13 jc_i_1 ?_
    refine jr_isub jf_214_14 ?_
    refine jr_istore_n jf_214_15 rfl jml_214 (by decide) ?_
    refine jr_aload_n jf_214_16 rfl (jg1_pre (by first | rfl | exact rv_cat _) hl0) ?_
    refine jr_aload_n jf_214_17 rfl (jg1_pre (by first | rfl | exact rv_cat _) hl0) ?_
    replace h := obd_of h; obtain ⟨x3, hx3, h⟩ := h
    refine jr_getA jf_214_18 hx3 ?_
    refine jr_iload_n jf_214_21 rfl jg1_same ?_
    replace h := obd_of h; obtain ⟨a4, rfl, h⟩ := h
    replace h := obd_of h; obtain ⟨x5, hx5, h⟩ := h
    refine jr_iaload jf_214_22 hx5 ?_
    replace h := obd_of h; obtain ⟨μ6, hμ6, h⟩ := h
    refine jr_putI jf_214_23 rfl hμ6 ?_
    refine jr_aload_n jf_214_26 rfl (jg1_pre (by first | rfl | exact rv_cat _) hl0) ?_
    refine jr_aload_n jf_214_27 rfl (jg1_pre (by first | rfl | exact rv_cat _) hl0) ?_
    replace h := obd_of h; obtain ⟨x7, hx7, h⟩ := h
    refine jr_getA jf_214_28 hx7 ?_
    refine jr_iload_n jf_214_31 rfl jg1_same ?_
    replace h := obd_of h; obtain ⟨a8, rfl, h⟩ := h
    replace h := obd_of h; obtain ⟨x9, hx9, h⟩ := h
    refine jr_iaload jf_214_32 hx9 ?_
    replace h := obd_of h; obtain ⟨μ10, hμ10, h⟩ := h
    refine jr_putI jf_214_33 rfl hμ10 ?_
    refine jr_aload_n jf_214_36 rfl (jg1_pre (by first | rfl | exact rv_cat _) hl0) ?_
    replace h := obd_of h; obtain ⟨x11, hx11, h⟩ := h
    refine jr_getA jf_214_37 hx11 ?_
    refine jr_bipush jf_214_40 jc_b_10 ?_
    refine jr_aload_n jf_214_42 rfl (jg1_pre (by first | rfl | exact rv_cat _) hl0) ?_
    replace h := obd_of h; obtain ⟨x12, hx12, h⟩ := h
    refine jr_getI jf_214_43 hx12 ?_
    refine jr_imul jf_214_46 ?_
    refine jr_aload_n jf_214_47 rfl (jg1_pre (by first | rfl | exact rv_cat _) hl0) ?_
    replace h := obd_of h; obtain ⟨x13, hx13, h⟩ := h
    refine jr_getI jf_214_48 hx13 ?_
    refine jr_iadd jf_214_51 ?_
    replace h := obd_of h; obtain ⟨a14, rfl, h⟩ := h
    replace h := obd_of h; obtain ⟨x15, hx15, h⟩ := h
    refine jr_iaload jf_214_52 hx15 ?_
    refine jr_istore_n jf_214_53 rfl jml_214 (by decide) ?_
    refine jr_aload_n jf_214_54 rfl (jg1_ne rfl (jg1_pre (by first | rfl | exact rv_cat _) hl0)) ?_
    replace h := obd_of h; obtain ⟨x16, hx16, h⟩ := h
    refine jr_getA jf_214_55 hx16 ?_
    refine jr_iload_n jf_214_58 rfl (jg1_pre rfl jg1_same) ?_
    replace h := obd_of h; obtain ⟨a17, rfl, h⟩ := h
    replace h := obd_of h; obtain ⟨x18, hx18, h⟩ := h
    refine jr_iaload jf_214_59 hx18 ?_
    replace h := ite_or h; rcases h with ⟨hc, h⟩ | ⟨hc, h⟩
    · refine jr_if_ge_t jf_214_60 hc ?_
      refine jr_aload_n jf_214_124 rfl (jg1_ne rfl (jg1_pre (by first | rfl | exact rv_cat _) hl0)) ?_
      replace h := obd_of h; obtain ⟨x19, hx19, h⟩ := h
      refine jr_getA jf_214_125 hx19 ?_
      refine jr_iload_n jf_214_128 rfl (jg1_pre rfl jg1_same) ?_
      refine jr_dup2_1 jf_214_129 rfl (rv_cat _) ?_
      replace h := obd_of h; obtain ⟨a20, rfl, h⟩ := h
      replace h := obd_of h; obtain ⟨x21, hx21, h⟩ := h
      refine jr_iaload jf_214_130 hx21 ?_
      refine jr_iconst jf_214_131 jc_i_1 ?_
      refine jr_isub jf_214_132 ?_
      replace h := obd_of h; obtain ⟨μ22, hμ22, h⟩ := h
      refine jr_iastore jf_214_133 hμ22 ?_
      refine jr_aload_n jf_214_134 rfl (jg1_ne rfl (jg1_pre (by first | rfl | exact rv_cat _) hl0)) ?_
      replace h := obd_of h; obtain ⟨x23, hx23, h⟩ := h
      refine jr_getA jf_214_135 hx23 ?_
      refine jr_iload_n jf_214_138 rfl (jg1_pre rfl jg1_same) ?_
      replace h := obd_of h; obtain ⟨a24, rfl, h⟩ := h
      replace h := obd_of h; obtain ⟨x25, hx25, h⟩ := h
      refine jr_iaload jf_214_139 hx25 ?_
      replace h := ite_or h; rcases h with ⟨hc, h⟩ | ⟨hc, h⟩
      · refine jr_if_ne_f jf_214_140 hc ?_
        refine jr_aload_n jf_214_143 rfl (jg1_ne rfl (jg1_pre (by first | rfl | exact rv_cat _) hl0)) ?_
        refine jr_dup jf_214_144 rfl ?_
        replace h := obd_of h; obtain ⟨x26, hx26, h⟩ := h
        refine jr_getI jf_214_145 hx26 ?_
        refine jr_iconst jf_214_148 jc_i_1 ?_
        refine jr_isub jf_214_149 ?_
        replace h := obd_of h; obtain ⟨μ27, hμ27, h⟩ := h
        refine jr_putI jf_214_150 rfl hμ27 ?_
        exact r_R_goesOn_153 hd _ _ _ _ _ _ _ (jg1_ne rfl (jg1_pre (by first | rfl | exact rv_cat _) hl0)) (jg1_pre rfl jg1_same) jg1_same h
      · refine jr_if_ne_t jf_214_140 hc ?_
        exact r_R_goesOn_153 hd _ _ _ _ _ _ _ (jg1_ne rfl (jg1_pre (by first | rfl | exact rv_cat _) hl0)) (jg1_pre rfl jg1_same) jg1_same h
    · refine jr_if_ge_f jf_214_60 hc ?_
      refine jr_aload_n jf_214_63 rfl (jg1_ne rfl (jg1_pre (by first | rfl | exact rv_cat _) hl0)) ?_
      refine jr_dup jf_214_64 rfl ?_
      replace h := obd_of h; obtain ⟨x28, hx28, h⟩ := h
      refine jr_getI jf_214_65 hx28 ?_
      refine jr_iconst jf_214_68 jc_i_1 ?_
      refine jr_isub jf_214_69 ?_
      replace h := obd_of h; obtain ⟨μ29, hμ29, h⟩ := h
      refine jr_putI jf_214_70 rfl hμ29 ?_
      refine jr_aload_n jf_214_73 rfl (jg1_ne rfl (jg1_pre (by first | rfl | exact rv_cat _) hl0)) ?_
      refine jr_iload_n jf_214_74 rfl jg1_same ?_
      replace h := jgd_of h; obtain ⟨hb30, h⟩ := h
      replace h := obd_of h; obtain ⟨μ31, hμ31, h⟩ := h
      refine jr_V6v_1 jf_214_75 hb30 (by omega) (r_R_begins (by omega) _ _ _ _ hμ31) (Nat.le_of_ble_eq_true rfl) jml_215 (Nat.le_of_ble_eq_true rfl) ?_
      refine jr_aload_n jf_214_78 rfl (jg1_ne rfl (jg1_pre (by first | rfl | exact rv_cat _) hl0)) ?_
      refine jr_aload_n jf_214_79 rfl (jg1_ne rfl (jg1_pre (by first | rfl | exact rv_cat _) hl0)) ?_
      refine jr_iload_n jf_214_80 rfl jg1_same ?_
      refine jr_iconst jf_214_81 jc_i_0 ?_
      replace h := jgd_of h; obtain ⟨hb32, h⟩ := h
      replace h := obd_of h; obtain ⟨x33, hx33, h⟩ := h
      refine jr_V6_2 jf_214_82 hb32 (by omega) (r_R_c (by omega) _ _ _ _ _ hx33) (Nat.le_of_ble_eq_true rfl) jml_216 (Nat.le_of_ble_eq_true rfl) ?_
      refine jr_aload_n jf_214_85 rfl (jg1_ne rfl (jg1_pre (by first | rfl | exact rv_cat _) hl0)) ?_
      replace h := obd_of h; obtain ⟨x34, hx34, h⟩ := h
      refine jr_getA jf_214_86 hx34 ?_
      refine jr_iload_n jf_214_89 rfl (jg1_pre rfl jg1_same) ?_
      replace h := obd_of h; obtain ⟨a35, rfl, h⟩ := h
      replace h := obd_of h; obtain ⟨x36, hx36, h⟩ := h
      refine jr_daload jf_214_90 hx36 ?_
      refine jr_iconst jf_214_91 jc_i_0 ?_
      replace h := jgd_of h; obtain ⟨hb37, h⟩ := h
      replace h := obd_of h; obtain ⟨μ38, hμ38, h⟩ := h
      refine jr_V6v_3 jf_214_92 hb37 (by omega) (r_R_term (by omega) _ _ _ _ _ _ hμ38) (Nat.le_of_ble_eq_true rfl) jml_217 (Nat.le_of_ble_eq_true rfl) ?_
      refine jr_aload_n jf_214_95 rfl (jg1_ne rfl (jg1_pre (by first | rfl | exact rv_cat _) hl0)) ?_
      refine jr_aload_n jf_214_96 rfl (jg1_ne rfl (jg1_pre (by first | rfl | exact rv_cat _) hl0)) ?_
      refine jr_iload_n jf_214_97 rfl jg1_same ?_
      refine jr_iconst jf_214_98 jc_i_1 ?_
      replace h := jgd_of h; obtain ⟨hb39, h⟩ := h
      replace h := obd_of h; obtain ⟨x40, hx40, h⟩ := h
      refine jr_V6_2 jf_214_99 hb39 (by omega) (r_R_c (by omega) _ _ _ _ _ hx40) (Nat.le_of_ble_eq_true rfl) jml_216 (Nat.le_of_ble_eq_true rfl) ?_
      refine jr_aload_n jf_214_102 rfl (jg1_ne rfl (jg1_pre (by first | rfl | exact rv_cat _) hl0)) ?_
      replace h := obd_of h; obtain ⟨x41, hx41, h⟩ := h
      refine jr_getD jf_214_103 hx41 ?_
      refine jr_iconst jf_214_106 jc_i_0 ?_
      replace h := jgd_of h; obtain ⟨hb42, h⟩ := h
      replace h := obd_of h; obtain ⟨μ43, hμ43, h⟩ := h
      refine jr_V6v_3 jf_214_107 hb42 (by omega) (r_R_term (by omega) _ _ _ _ _ _ hμ43) (Nat.le_of_ble_eq_true rfl) jml_217 (Nat.le_of_ble_eq_true rfl) ?_
      refine jr_aload_n jf_214_110 rfl (jg1_ne rfl (jg1_pre (by first | rfl | exact rv_cat _) hl0)) ?_
      refine jr_aload_n jf_214_111 rfl (jg1_ne rfl (jg1_pre (by first | rfl | exact rv_cat _) hl0)) ?_
      replace h := jgd_of h; obtain ⟨hb44, h⟩ := h
      replace h := jbd2_of h; obtain ⟨x45, μ46, hx45, h⟩ := h
      refine jr_V6_0 jf_214_112 hb44 (by omega) (r_R_comes (by omega) _ _ _ _ hx45) (Nat.le_of_ble_eq_true rfl) jml_221 (Nat.le_of_ble_eq_true rfl) ?_
      replace h := obd_of h; obtain ⟨μ47, hμ47, h⟩ := h
      refine jr_putD jf_214_115 rfl hμ47 ?_
      refine jr_aload_n jf_214_118 rfl (jg1_ne rfl (jg1_pre (by first | rfl | exact rv_cat _) hl0)) ?_
      replace h := jgd_of h; obtain ⟨hb48, h⟩ := h
      replace h := obd_of h; obtain ⟨μ49, hμ49, h⟩ := h
      refine jr_V6v_0 jf_214_119 hb48 (by omega) (r_R_leaves (by omega) _ _ _ hμ49) (Nat.le_of_ble_eq_true rfl) jml_223 (Nat.le_of_ble_eq_true rfl) ?_
      refine jr_iconst jf_214_122 jc_i_1 ?_
      obtain ⟨rfl, rfl⟩ := Prod.mk.inj (Option.some.inj h)
      exact jr_retZ (x := true) jf_214_123 jmt_214
set_option maxRecDepth 10000 in
set_option maxHeartbeats 4000000 in
theorem r_R_goesOn {N B : Nat} {SA : Nat → Nat} {d : Nat} (hd : 3 ≤ d) : ∀ (v0 : Nat) (μ : JMem) (r : Bool) (μ9 : JMem), g_R_goesOn N B v0 μ = some (r, μ9) → jR B SA d m_R_goesOn 0 (lv_args 0 [.ref v0]) [] μ (some (.int (jb r))) μ9 := by
  intro v0 μ r μ9 h
  exact r_R_goesOn_e hd (lv_args 0 _) _ _ _ _ (by simp [lv_args, jget, rv_cat, cat_int, cat_long, cat_double, cat_float, cat_ref]) h
/-! FilterBenchModel.st(II)D -/
set_option maxRecDepth 10000 in
set_option maxHeartbeats 4000000 in
theorem r_R_st_e {B : Nat} {SA : Nat → Nat} {d : Nat} (hd : 0 ≤ d) : ∀ (L : JLoc) (v0 : Nat) (v1 : Int32) (v2 : Int32) (μ : JMem) (r : UInt64), jget L 0 = .ref v0 → jget L 1 = .int v1 → jget L 2 = .int v2 → g_R_st v0 v1 v2 μ.1 = some r → jR B SA d m_R_st 0 L [] μ (some (.double r)) μ := by
  intro L v0 v1 v2 μ r hl0 hl1 hl2 h
  unfold g_R_st at h
  refine jr_aload_n jf_225_0 rfl hl0 ?_
  replace h := obd_of h; obtain ⟨x1, hx1, h⟩ := h
  refine jr_getA jf_225_1 hx1 ?_
  refine jr_bipush jf_225_4 jc_b_64 ?_
  refine jr_iload_n jf_225_6 rfl hl1 ?_
  refine jr_imul jf_225_7 ?_
  refine jr_iload_n jf_225_8 rfl hl2 ?_
  refine jr_iadd jf_225_9 ?_
  replace h := obd_of h; obtain ⟨a2, rfl, h⟩ := h
  replace h := obd_of h; obtain ⟨x3, hx3, h⟩ := h
  refine jr_daload jf_225_10 hx3 ?_
  obtain rfl := Option.some.inj h
  exact jr_retD jf_225_11 jmt_225
set_option maxRecDepth 10000 in
set_option maxHeartbeats 4000000 in
theorem r_R_st {B : Nat} {SA : Nat → Nat} {d : Nat} (hd : 0 ≤ d) : ∀ (v0 : Nat) (v1 : Int32) (v2 : Int32) (μ : JMem) (r : UInt64), g_R_st v0 v1 v2 μ.1 = some r → jR B SA d m_R_st 0 (lv_args 0 [.ref v0, .int v1, .int v2]) [] μ (some (.double r)) μ := by
  intro v0 v1 v2 μ r h
  exact r_R_st_e hd (lv_args 0 _) _ _ _ _ _ (by simp [lv_args, jget, rv_cat, cat_int, cat_long, cat_double, cat_float, cat_ref]) (by simp [lv_args, jget, rv_cat, cat_int, cat_long, cat_double, cat_float, cat_ref]) (by simp [lv_args, jget, rv_cat, cat_int, cat_long, cat_double, cat_float, cat_ref]) h
/-! FilterBenchModel.st(IID)V -/
set_option maxRecDepth 10000 in
set_option maxHeartbeats 4000000 in
theorem r_R_st_2_e {B : Nat} {SA : Nat → Nat} {d : Nat} (hd : 0 ≤ d) : ∀ (L : JLoc) (v0 : Nat) (v1 : Int32) (v2 : Int32) (v3 : UInt64) (μ : JMem) (μ9 : JMem), jget L 0 = .ref v0 → jget L 1 = .int v1 → jget L 2 = .int v2 → jget L 3 = .double v3 → g_R_st_2 B v0 v1 v2 v3 μ = some μ9 → jR B SA d m_R_st_2 0 L [] μ none μ9 := by
  intro L v0 v1 v2 v3 μ μ9 hl0 hl1 hl2 hl3 h
  unfold g_R_st_2 at h
  refine jr_aload_n jf_226_0 rfl hl0 ?_
  replace h := obd_of h; obtain ⟨x1, hx1, h⟩ := h
  refine jr_getA jf_226_1 hx1 ?_
  refine jr_bipush jf_226_4 jc_b_64 ?_
  refine jr_iload_n jf_226_6 rfl hl1 ?_
  refine jr_imul jf_226_7 ?_
  refine jr_iload_n jf_226_8 rfl hl2 ?_
  refine jr_iadd jf_226_9 ?_
  refine jr_dload_n jf_226_10 rfl hl3 ?_
  replace h := obd_of h; obtain ⟨a2, rfl, h⟩ := h
  replace h := obd_of h; obtain ⟨μ3, hμ3, h⟩ := h
  refine jr_dastore jf_226_11 hμ3 ?_
  obtain rfl := Option.some.inj h
  exact jr_return jf_226_12 jmt_226
set_option maxRecDepth 10000 in
set_option maxHeartbeats 4000000 in
theorem r_R_st_2 {B : Nat} {SA : Nat → Nat} {d : Nat} (hd : 0 ≤ d) : ∀ (v0 : Nat) (v1 : Int32) (v2 : Int32) (v3 : UInt64) (μ : JMem) (μ9 : JMem), g_R_st_2 B v0 v1 v2 v3 μ = some μ9 → jR B SA d m_R_st_2 0 (lv_args 0 [.ref v0, .int v1, .int v2, .double v3]) [] μ none μ9 := by
  intro v0 v1 v2 v3 μ μ9 h
  exact r_R_st_2_e hd (lv_args 0 _) _ _ _ _ _ _ (by simp [lv_args, jget, rv_cat, cat_int, cat_long, cat_double, cat_float, cat_ref]) (by simp [lv_args, jget, rv_cat, cat_int, cat_long, cat_double, cat_float, cat_ref]) (by simp [lv_args, jget, rv_cat, cat_int, cat_long, cat_double, cat_float, cat_ref]) (by simp [lv_args, jget, rv_cat, cat_int, cat_long, cat_double, cat_float, cat_ref]) h
/-! FilterBenchModel.term(DZ)V -/
set_option maxRecDepth 10000 in
set_option maxHeartbeats 4000000 in
theorem r_R_term_2_38 {B : Nat} {SA : Nat → Nat} {d : Nat} (hd : 2 ≤ d) : ∀ (L : JLoc) (s0 : Int64) (s1 : Int64) (s2 : Nat) (μ : JMem) (μ9 : JMem), g_R_term_2_38 B s0 s1 s2 μ = some μ9 → jR B SA d m_R_term_2 38 L [.long s0, .long s1, .ref s2] μ none μ9 := by
  intro L s0 s1 s2 μ μ9 h
  unfold g_R_term_2_38 at h
  refine jr_ladd jf_224_38 ?_
  replace h := obd_of h; obtain ⟨μ1, hμ1, h⟩ := h
  refine jr_putJ jf_224_39 rfl hμ1 ?_
  refine jr_goto jf_224_42 ?_
  obtain rfl := Option.some.inj h
  exact jr_return jf_224_51 jmt_224
set_option maxRecDepth 10000 in
set_option maxHeartbeats 4000000 in
theorem r_R_term_2_e {B : Nat} {SA : Nat → Nat} {d : Nat} (hd : 2 ≤ d) : ∀ (L : JLoc) (v0 : Nat) (v1 : UInt64) (v3 : Bool) (μ : JMem) (μ9 : JMem), jget L 0 = .ref v0 → jget L 1 = .double v1 → jget L 3 = .int (jb v3) → g_R_term_2 B v0 v1 v3 μ = some μ9 → jR B SA d m_R_term_2 0 L [] μ none μ9 := by
  intro L v0 v1 v3 μ μ9 hl0 hl1 hl3 h
  unfold g_R_term_2 at h
  refine jr_aload_n jf_224_0 rfl hl0 ?_
  replace h := obd_of h; obtain ⟨x1, hx1, h⟩ := h
  refine jr_getA jf_224_1 hx1 ?_
  refine jr_aload_n jf_224_4 rfl hl0 ?_
  replace h := obd_of h; obtain ⟨x2, hx2, h⟩ := h
  refine jr_getI jf_224_5 hx2 ?_
  replace h := obd_of h; obtain ⟨a3, rfl, h⟩ := h
  replace h := obd_of h; obtain ⟨x4, hx4, h⟩ := h
  refine jr_iaload jf_224_8 hx4 ?_
  refine jr_iconst jf_224_9 jc_i_2 ?_
  replace h := ite_or h; rcases h with ⟨hc, h⟩ | ⟨hc, h⟩
  · refine jr_if2_ne_f jf_224_10 hc ?_
    refine jr_ldc2l jf_224_13 ?_
    refine jr_dload_n jf_224_16 rfl hl1 ?_
    refine jr_d2l jf_224_17 ?_
    refine jr_lmul jf_224_18 ?_
    refine jr_lstore jf_224_19 jml_224 (by decide) ?_
    replace h := jlet_of h
    refine jr_aload_n jf_224_21 rfl (jg2_ne rfl hl0) ?_
    refine jr_dup jf_224_22 rfl ?_
    replace h := obd_of h; obtain ⟨x6, hx6, h⟩ := h
    refine jr_getJ jf_224_23 hx6 ?_
    refine jr_iload_n jf_224_26 rfl (jg2_pre rfl hl3) ?_
    replace h := ite_or h; rcases h with ⟨hc, h⟩ | ⟨hc, h⟩
    · refine jr_ifz_eq_f jf_224_27 hc ?_
      refine jr_lload jf_224_30 jg2_same ?_
      refine jr_lneg jf_224_32 ?_
      refine jr_goto jf_224_33 ?_
      exact r_R_term_2_38 hd _ _ _ _ _ _ h
    · refine jr_ifz_eq_t jf_224_27 hc ?_
      refine jr_lload jf_224_36 jg2_same ?_
      exact r_R_term_2_38 hd _ _ _ _ _ _ h
  · refine jr_if2_ne_t jf_224_10 hc ?_
    refine jr_aload_n jf_224_45 rfl hl0 ?_
    refine jr_dload_n jf_224_46 rfl hl1 ?_
    refine jr_iload_n jf_224_47 rfl hl3 ?_
    replace h := jgd_of h; obtain ⟨hb7, h⟩ := h
    replace h := obd_of h; obtain ⟨μ8, hμ8, h⟩ := h
    refine jr_V6v_2 jf_224_48 hb7 (by omega) (r_R_joins (by omega) _ _ _ _ _ hμ8) (Nat.le_of_ble_eq_true rfl) jml_220 (Nat.le_of_ble_eq_true rfl) ?_
    obtain rfl := Option.some.inj h
    exact jr_return jf_224_51 jmt_224
set_option maxRecDepth 10000 in
set_option maxHeartbeats 4000000 in
theorem r_R_term_2 {B : Nat} {SA : Nat → Nat} {d : Nat} (hd : 2 ≤ d) : ∀ (v0 : Nat) (v1 : UInt64) (v3 : Bool) (μ : JMem) (μ9 : JMem), g_R_term_2 B v0 v1 v3 μ = some μ9 → jR B SA d m_R_term_2 0 (lv_args 0 [.ref v0, .double v1, .int (jb v3)]) [] μ none μ9 := by
  intro v0 v1 v3 μ μ9 h
  exact r_R_term_2_e hd (lv_args 0 _) _ _ _ _ _ (by simp [lv_args, jget, rv_cat, cat_int, cat_long, cat_double, cat_float, cat_ref]) (by simp [lv_args, jget, rv_cat, cat_int, cat_long, cat_double, cat_float, cat_ref]) (by simp [lv_args, jget, rv_cat, cat_int, cat_long, cat_double, cat_float, cat_ref]) h
/-! FilterBenchModel.waits(I)V -/
set_option maxRecDepth 10000 in
set_option maxHeartbeats 4000000 in
theorem r_R_waits_e {B : Nat} {SA : Nat → Nat} {d : Nat} (hd : 0 ≤ d) : ∀ (L : JLoc) (v0 : Nat) (v1 : Int32) (μ : JMem) (μ9 : JMem), jget L 0 = .ref v0 → jget L 1 = .int v1 → g_R_waits B v0 v1 μ = some μ9 → jR B SA d m_R_waits 0 L [] μ none μ9 := by
  intro L v0 v1 μ μ9 hl0 hl1 h
  unfold g_R_waits at h
  refine jr_aload_n jf_227_0 rfl hl0 ?_
  replace h := obd_of h; obtain ⟨x1, hx1, h⟩ := h
  refine jr_getA jf_227_1 hx1 ?_
  refine jr_aload_n jf_227_4 rfl hl0 ?_
  replace h := obd_of h; obtain ⟨x2, hx2, h⟩ := h
  refine jr_getI jf_227_5 hx2 ?_
  refine jr_aload_n jf_227_8 rfl hl0 ?_
  replace h := obd_of h; obtain ⟨x3, hx3, h⟩ := h
  refine jr_getI jf_227_9 hx3 ?_
  replace h := obd_of h; obtain ⟨a4, rfl, h⟩ := h
  replace h := obd_of h; obtain ⟨μ5, hμ5, h⟩ := h
  refine jr_iastore jf_227_12 hμ5 ?_
  refine jr_aload_n jf_227_13 rfl hl0 ?_
  replace h := obd_of h; obtain ⟨x6, hx6, h⟩ := h
  refine jr_getA jf_227_14 hx6 ?_
  refine jr_aload_n jf_227_17 rfl hl0 ?_
  replace h := obd_of h; obtain ⟨x7, hx7, h⟩ := h
  refine jr_getI jf_227_18 hx7 ?_
  refine jr_aload_n jf_227_21 rfl hl0 ?_
  replace h := obd_of h; obtain ⟨x8, hx8, h⟩ := h
  refine jr_getI jf_227_22 hx8 ?_
  replace h := obd_of h; obtain ⟨a9, rfl, h⟩ := h
  replace h := obd_of h; obtain ⟨μ10, hμ10, h⟩ := h
  refine jr_iastore jf_227_25 hμ10 ?_
  refine jr_aload_n jf_227_26 rfl hl0 ?_
  replace h := obd_of h; obtain ⟨x11, hx11, h⟩ := h
  refine jr_getA jf_227_27 hx11 ?_
  refine jr_aload_n jf_227_30 rfl hl0 ?_
  replace h := obd_of h; obtain ⟨x12, hx12, h⟩ := h
  refine jr_getI jf_227_31 hx12 ?_
  refine jr_iload_n jf_227_34 rfl hl1 ?_
  replace h := obd_of h; obtain ⟨a13, rfl, h⟩ := h
  replace h := obd_of h; obtain ⟨μ14, hμ14, h⟩ := h
  refine jr_iastore jf_227_35 hμ14 ?_
  refine jr_aload_n jf_227_36 rfl hl0 ?_
  replace h := obd_of h; obtain ⟨x15, hx15, h⟩ := h
  refine jr_getA jf_227_37 hx15 ?_
  refine jr_aload_n jf_227_40 rfl hl0 ?_
  replace h := obd_of h; obtain ⟨x16, hx16, h⟩ := h
  refine jr_getI jf_227_41 hx16 ?_
  refine jr_aload_n jf_227_44 rfl hl0 ?_
  replace h := obd_of h; obtain ⟨x17, hx17, h⟩ := h
  refine jr_getD jf_227_45 hx17 ?_
  replace h := obd_of h; obtain ⟨a18, rfl, h⟩ := h
  replace h := obd_of h; obtain ⟨μ19, hμ19, h⟩ := h
  refine jr_dastore jf_227_48 hμ19 ?_
  refine jr_aload_n jf_227_49 rfl hl0 ?_
  refine jr_dup jf_227_50 rfl ?_
  replace h := obd_of h; obtain ⟨x20, hx20, h⟩ := h
  refine jr_getI jf_227_51 hx20 ?_
  refine jr_iconst jf_227_54 jc_i_1 ?_
  refine jr_iadd jf_227_55 ?_
  replace h := obd_of h; obtain ⟨μ21, hμ21, h⟩ := h
  refine jr_putI jf_227_56 rfl hμ21 ?_
  obtain rfl := Option.some.inj h
  exact jr_return jf_227_59 jmt_227
set_option maxRecDepth 10000 in
set_option maxHeartbeats 4000000 in
theorem r_R_waits {B : Nat} {SA : Nat → Nat} {d : Nat} (hd : 0 ≤ d) : ∀ (v0 : Nat) (v1 : Int32) (μ : JMem) (μ9 : JMem), g_R_waits B v0 v1 μ = some μ9 → jR B SA d m_R_waits 0 (lv_args 0 [.ref v0, .int v1]) [] μ none μ9 := by
  intro v0 v1 μ μ9 h
  exact r_R_waits_e hd (lv_args 0 _) _ _ _ _ (by simp [lv_args, jget, rv_cat, cat_int, cat_long, cat_double, cat_float, cat_ref]) (by simp [lv_args, jget, rv_cat, cat_int, cat_long, cat_double, cat_float, cat_ref]) h
/-! FilterBenchModel.rings(ID)D -/
set_option maxRecDepth 10000 in
set_option maxHeartbeats 4000000 in
theorem r_R_rings_e {B : Nat} {SA : Nat → Nat} {d : Nat} (hd : 0 ≤ d) : ∀ (L : JLoc) (v0 : Nat) (v1 : Int32) (v2 : UInt64) (μ : JMem) (r : UInt64) (μ9 : JMem), jget L 0 = .ref v0 → jget L 1 = .int v1 → jget L 2 = .double v2 → g_R_rings B v0 v1 v2 μ = some (r, μ9) → jR B SA d m_R_rings 0 L [] μ (some (.double r)) μ9 := by
  intro L v0 v1 v2 μ r μ9 hl0 hl1 hl2 h
  unfold g_R_rings at h
  refine jr_aload_n jf_229_0 rfl hl0 ?_
  replace h := obd_of h; obtain ⟨x1, hx1, h⟩ := h
  refine jr_getA jf_229_1 hx1 ?_
  refine jr_iload_n jf_229_4 rfl hl1 ?_
  replace h := obd_of h; obtain ⟨a2, rfl, h⟩ := h
  replace h := obd_of h; obtain ⟨x3, hx3, h⟩ := h
  refine jr_iaload jf_229_5 hx3 ?_
  refine jr_istore jf_229_6 jml_229 (by decide) ?_
  refine jr_bipush jf_229_8 jc_b_64 ?_
  refine jr_iload_n jf_229_10 rfl (jg1_ne rfl hl1) ?_
  refine jr_imul jf_229_11 ?_
  refine jr_aload_n jf_229_12 rfl (jg1_ne rfl hl0) ?_
  replace h := obd_of h; obtain ⟨x4, hx4, h⟩ := h
  refine jr_getA jf_229_13 hx4 ?_
  refine jr_iload_n jf_229_16 rfl (jg1_ne rfl hl1) ?_
  replace h := obd_of h; obtain ⟨a5, rfl, h⟩ := h
  replace h := obd_of h; obtain ⟨x6, hx6, h⟩ := h
  refine jr_iaload jf_229_17 hx6 ?_
  refine jr_iadd jf_229_18 ?_
  refine jr_istore jf_229_19 jml_229 (by decide) ?_
  refine jr_aload_n jf_229_21 rfl (jg1_ne rfl (jg1_ne rfl hl0)) ?_
  replace h := obd_of h; obtain ⟨x7, hx7, h⟩ := h
  refine jr_getA jf_229_22 hx7 ?_
  refine jr_iload jf_229_25 jg1_same ?_
  replace h := obd_of h; obtain ⟨a8, rfl, h⟩ := h
  replace h := obd_of h; obtain ⟨x9, hx9, h⟩ := h
  refine jr_daload jf_229_27 hx9 ?_
  refine jr_dstore jf_229_28 jml_229 (by decide) ?_
  refine jr_aload_n jf_229_30 rfl (jg2_ne rfl (jg1_ne rfl (jg1_ne rfl hl0))) ?_
  replace h := obd_of h; obtain ⟨x10, hx10, h⟩ := h
  refine jr_getA jf_229_31 hx10 ?_
  refine jr_iload jf_229_34 (jg2_pre rfl jg1_same) ?_
  refine jr_dload_n jf_229_36 rfl (jg2_ne rfl (jg1_ne rfl (jg1_ne rfl hl2))) ?_
  replace h := obd_of h; obtain ⟨a11, rfl, h⟩ := h
  replace h := obd_of h; obtain ⟨μ12, hμ12, h⟩ := h
  refine jr_dastore jf_229_37 hμ12 ?_
  refine jr_aload_n jf_229_38 rfl (jg2_ne rfl (jg1_ne rfl (jg1_ne rfl hl0))) ?_
  replace h := obd_of h; obtain ⟨x13, hx13, h⟩ := h
  refine jr_getA jf_229_39 hx13 ?_
  refine jr_iload_n jf_229_42 rfl (jg2_ne rfl (jg1_ne rfl (jg1_ne rfl hl1))) ?_
  refine jr_aload_n jf_229_43 rfl (jg2_ne rfl (jg1_ne rfl (jg1_ne rfl hl0))) ?_
  replace h := obd_of h; obtain ⟨x14, hx14, h⟩ := h
  refine jr_getA jf_229_44 hx14 ?_
  refine jr_iload_n jf_229_47 rfl (jg2_ne rfl (jg1_ne rfl (jg1_ne rfl hl1))) ?_
  replace h := obd_of h; obtain ⟨a15, rfl, h⟩ := h
  replace h := obd_of h; obtain ⟨x16, hx16, h⟩ := h
  refine jr_iaload jf_229_48 hx16 ?_
  refine jr_iconst jf_229_49 jc_i_1 ?_
  refine jr_iadd jf_229_50 ?_
  refine jr_iload jf_229_51 (jg2_ne rfl (jg1_pre rfl jg1_same)) ?_
  replace h := obd_of h; obtain ⟨x17, hx17, h⟩ := h
  refine jr_irem jf_229_53 hx17 ?_
  replace h := obd_of h; obtain ⟨a18, rfl, h⟩ := h
  replace h := obd_of h; obtain ⟨μ19, hμ19, h⟩ := h
  refine jr_iastore jf_229_54 hμ19 ?_
  refine jr_dload jf_229_55 jg2_same ?_
  obtain ⟨rfl, rfl⟩ := Prod.mk.inj (Option.some.inj h)
  exact jr_retD jf_229_57 jmt_229
set_option maxRecDepth 10000 in
set_option maxHeartbeats 4000000 in
theorem r_R_rings {B : Nat} {SA : Nat → Nat} {d : Nat} (hd : 0 ≤ d) : ∀ (v0 : Nat) (v1 : Int32) (v2 : UInt64) (μ : JMem) (r : UInt64) (μ9 : JMem), g_R_rings B v0 v1 v2 μ = some (r, μ9) → jR B SA d m_R_rings 0 (lv_args 0 [.ref v0, .int v1, .double v2]) [] μ (some (.double r)) μ9 := by
  intro v0 v1 v2 μ r μ9 h
  exact r_R_rings_e hd (lv_args 0 _) _ _ _ _ _ _ (by simp [lv_args, jget, rv_cat, cat_int, cat_long, cat_double, cat_float, cat_ref]) (by simp [lv_args, jget, rv_cat, cat_int, cat_long, cat_double, cat_float, cat_ref]) (by simp [lv_args, jget, rv_cat, cat_int, cat_long, cat_double, cat_float, cat_ref]) h
/-! FilterBenchModel.sizeOf(ID)D -/
set_option maxRecDepth 10000 in
set_option maxHeartbeats 4000000 in
theorem r_R_sizeOf_19 {B : Nat} {SA : Nat → Nat} {d : Nat} (hd : 1 ≤ d) : ∀ (L : JLoc) (s0 : Int64) (μ : JMem) (r : UInt64), g_R_sizeOf_19 s0 = some r → jR B SA d m_R_sizeOf 19 L [.long s0] μ (some (.double r)) μ := by
  intro L s0 μ r h
  unfold g_R_sizeOf_19 at h
  refine jr_iconst jf_231_19 jc_i_0 ?_
  refine jr_S3_2 jf_231_20 (by omega) (r_R_cut (by omega) _ _ _ _ rfl) (Nat.le_of_ble_eq_true rfl) jml_222 (Nat.le_of_ble_eq_true rfl) ?_
  obtain rfl := Option.some.inj h
  exact jr_retD jf_231_23 jmt_231
set_option maxRecDepth 10000 in
set_option maxHeartbeats 4000000 in
theorem r_R_sizeOf_e {B : Nat} {SA : Nat → Nat} {d : Nat} (hd : 1 ≤ d) : ∀ (L : JLoc) (v1 : Int32) (v2 : UInt64) (μ : JMem) (r : UInt64), jget L 1 = .int v1 → jget L 2 = .double v2 → g_R_sizeOf_e v1 v2 = some r → jR B SA d m_R_sizeOf 0 L [] μ (some (.double r)) μ := by
  intro L v1 v2 μ r hl1 hl2 h
  unfold g_R_sizeOf_e at h
  refine jr_iload_n jf_231_0 rfl hl1 ?_
  refine jr_iconst jf_231_1 jc_i_2 ?_
  replace h := ite_or h; rcases h with ⟨hc, h⟩ | ⟨hc, h⟩
  · refine jr_if2_ne_f jf_231_2 hc ?_
    refine jr_dload_n jf_231_5 rfl hl2 ?_
    refine jr_dconst0 jf_231_6 ?_
    refine jr_dcmp jf_231_7 ?_
    replace h := ite_or h; rcases h with ⟨hc, h⟩ | ⟨hc, h⟩
    · refine jr_if_ge_t jf_231_8 hc ?_
      refine jr_dload_n jf_231_17 rfl hl2 ?_
      refine jr_d2l jf_231_18 ?_
      exact r_R_sizeOf_19 hd _ _ _ _ h
    · refine jr_if_ge_f jf_231_8 hc ?_
      refine jr_dload_n jf_231_11 rfl hl2 ?_
      refine jr_d2l jf_231_12 ?_
      refine jr_lneg jf_231_13 ?_
      refine jr_goto jf_231_14 ?_
      exact r_R_sizeOf_19 hd _ _ _ _ h
  · refine jr_if2_ne_t jf_231_2 hc ?_
    refine jr_dload_n jf_231_24 rfl hl2 ?_
    refine jr_dconst0 jf_231_25 ?_
    refine jr_dcmp jf_231_26 ?_
    replace h := ite_or h; rcases h with ⟨hc, h⟩ | ⟨hc, h⟩
    · refine jr_if_gt_t jf_231_27 hc ?_
      refine jr_dload_n jf_231_36 rfl hl2 ?_
      obtain rfl := Option.some.inj h
      exact jr_retD jf_231_37 jmt_231
    · refine jr_if_gt_f jf_231_27 hc ?_
      refine jr_dconst0 jf_231_30 ?_
      refine jr_dload_n jf_231_31 rfl hl2 ?_
      replace h := obd_of h; obtain ⟨x1, hx1, h⟩ := h
      refine jr_dsub jf_231_32 hx1 ?_
      refine jr_goto jf_231_33 ?_
      obtain rfl := Option.some.inj h
      exact jr_retD jf_231_37 jmt_231
set_option maxRecDepth 10000 in
set_option maxHeartbeats 4000000 in
theorem r_R_sizeOf {B : Nat} {SA : Nat → Nat} {d : Nat} (hd : 1 ≤ d) : ∀ (v0 : Nat) (v1 : Int32) (v2 : UInt64) (μ : JMem) (r : UInt64), g_R_sizeOf v0 v1 v2 = some r → jR B SA d m_R_sizeOf 0 (lv_args 0 [.ref v0, .int v1, .double v2]) [] μ (some (.double r)) μ := by
  intro v0 v1 v2 μ r h
  exact r_R_sizeOf_e hd (lv_args 0 _) _ _ _ _ (by simp [lv_args, jget, rv_cat, cat_int, cat_long, cat_double, cat_float, cat_ref]) (by simp [lv_args, jget, rv_cat, cat_int, cat_long, cat_double, cat_float, cat_ref]) h
/-! FilterBenchModel.shapes(ID)D -/
set_option maxRecDepth 10000 in
set_option maxHeartbeats 4000000 in
theorem r_R_shapes_78 {B : Nat} {SA : Nat → Nat} {d : Nat} (hd : 3 ≤ d) : ∀ (L : JLoc) (v0 : Nat) (v1 : Int32) (v2 : UInt64) (v4 : UInt64) (s0 : UInt64) (μ : JMem) (r : UInt64) (μ9 : JMem), jget L 0 = .ref v0 → jget L 1 = .int v1 → jget L 2 = .double v2 → jget L 4 = .double v4 → g_R_shapes_78 B v0 v1 v2 v4 s0 μ = some (r, μ9) → jR B SA d m_R_shapes 78 L [.double s0] μ (some (.double r)) μ9 := by
  intro L v0 v1 v2 v4 s0 μ r μ9 hl0 hl1 hl2 hl4 h
  unfold g_R_shapes_78 at h
  refine jr_dstore jf_230_78 jml_230 (by decide) ?_
  refine jr_dload_n jf_230_80 rfl (jg2_ne rfl hl2) ?_
  refine jr_dload jf_230_81 (jg2_ne rfl hl4) ?_
  refine jr_dcmp jf_230_83 ?_
  replace h := ite_or h; rcases h with ⟨hc, h⟩ | ⟨hc, h⟩
  · refine jr_if_le_t jf_230_84 hc ?_
    refine jr_dload_n jf_230_100 rfl (jg2_ne rfl hl2) ?_
    refine jr_dload jf_230_101 jg2_same ?_
    refine jr_dcmp jf_230_103 ?_
    replace h := ite_or h; rcases h with ⟨hc, h⟩ | ⟨hc, h⟩
    · refine jr_if_ge_t jf_230_104 hc ?_
      refine jr_dload_n jf_230_120 rfl (jg2_ne rfl hl2) ?_
      obtain ⟨rfl, rfl⟩ := Prod.mk.inj (Option.some.inj h)
      exact jr_retD jf_230_121 jmt_230
    · refine jr_if_ge_f jf_230_104 hc ?_
      refine jr_aload_n jf_230_107 rfl (jg2_ne rfl hl0) ?_
      replace h := obd_of h; obtain ⟨x1, hx1, h⟩ := h
      refine jr_getA jf_230_108 hx1 ?_
      refine jr_iload_n jf_230_111 rfl (jg2_ne rfl hl1) ?_
      refine jr_dup2_1 jf_230_112 rfl (rv_cat _) ?_
      replace h := obd_of h; obtain ⟨a2, rfl, h⟩ := h
      replace h := obd_of h; obtain ⟨x3, hx3, h⟩ := h
      refine jr_iaload jf_230_113 hx3 ?_
      refine jr_iconst jf_230_114 jc_i_1 ?_
      refine jr_iadd jf_230_115 ?_
      replace h := obd_of h; obtain ⟨μ4, hμ4, h⟩ := h
      refine jr_iastore jf_230_116 hμ4 ?_
      refine jr_dload jf_230_117 jg2_same ?_
      obtain ⟨rfl, rfl⟩ := Prod.mk.inj (Option.some.inj h)
      exact jr_retD jf_230_119 jmt_230
  · refine jr_if_le_f jf_230_84 hc ?_
    refine jr_aload_n jf_230_87 rfl (jg2_ne rfl hl0) ?_
    replace h := obd_of h; obtain ⟨x5, hx5, h⟩ := h
    refine jr_getA jf_230_88 hx5 ?_
    refine jr_iload_n jf_230_91 rfl (jg2_ne rfl hl1) ?_
    refine jr_dup2_1 jf_230_92 rfl (rv_cat _) ?_
    replace h := obd_of h; obtain ⟨a6, rfl, h⟩ := h
    replace h := obd_of h; obtain ⟨x7, hx7, h⟩ := h
    refine jr_iaload jf_230_93 hx7 ?_
    refine jr_iconst jf_230_94 jc_i_1 ?_
    refine jr_iadd jf_230_95 ?_
    replace h := obd_of h; obtain ⟨μ8, hμ8, h⟩ := h
    refine jr_iastore jf_230_96 hμ8 ?_
    refine jr_dload jf_230_97 (jg2_ne rfl hl4) ?_
    obtain ⟨rfl, rfl⟩ := Prod.mk.inj (Option.some.inj h)
    exact jr_retD jf_230_99 jmt_230
set_option maxRecDepth 10000 in
set_option maxHeartbeats 4000000 in
theorem r_R_shapes_202 {B : Nat} {SA : Nat → Nat} {d : Nat} (hd : 3 ≤ d) : ∀ (L : JLoc) (v0 : Nat) (v1 : Int32) (v6 : UInt64) (μ : JMem) (r : UInt64) (μ9 : JMem), jget L 0 = .ref v0 → jget L 1 = .int v1 → jget L 6 = .double v6 → g_R_shapes_202 B v0 v1 v6 μ = some (r, μ9) → jR B SA d m_R_shapes 202 L [] μ (some (.double r)) μ9 := by
  intro L v0 v1 v6 μ r μ9 hl0 hl1 hl6 h
  unfold g_R_shapes_202 at h
  refine jr_aload_n jf_230_202 rfl hl0 ?_
  refine jr_iload_n jf_230_203 rfl hl1 ?_
  refine jr_iconst jf_230_204 jc_i_0 ?_
  refine jr_dload jf_230_205 hl6 ?_
  replace h := jgd_of h; obtain ⟨hb1, h⟩ := h
  replace h := obd_of h; obtain ⟨μ2, hμ2, h⟩ := h
  refine jr_V6v_3 jf_230_207 hb1 (by omega) (r_R_st_2 (by omega) _ _ _ _ _ _ hμ2) (Nat.le_of_ble_eq_true rfl) jml_226 (Nat.le_of_ble_eq_true rfl) ?_
  refine jr_dload jf_230_210 hl6 ?_
  obtain ⟨rfl, rfl⟩ := Prod.mk.inj (Option.some.inj h)
  exact jr_retD jf_230_212 jmt_230
set_option maxRecDepth 10000 in
set_option maxHeartbeats 4000000 in
theorem r_R_shapes_e {B : Nat} {SA : Nat → Nat} {d : Nat} (hd : 3 ≤ d) : ∀ (L : JLoc) (v0 : Nat) (v1 : Int32) (v2 : UInt64) (μ : JMem) (r : UInt64) (μ9 : JMem), jget L 0 = .ref v0 → jget L 1 = .int v1 → jget L 2 = .double v2 → g_R_shapes B v0 v1 v2 μ = some (r, μ9) → jR B SA d m_R_shapes 0 L [] μ (some (.double r)) μ9 := by
  intro L v0 v1 v2 μ r μ9 hl0 hl1 hl2 h
  unfold g_R_shapes at h
  refine jr_aload_n jf_230_0 rfl hl0 ?_
  refine jr_iload_n jf_230_1 rfl hl1 ?_
  refine jr_iconst jf_230_2 jc_i_0 ?_
  replace h := jgd_of h; obtain ⟨hb1, h⟩ := h
  replace h := obd_of h; obtain ⟨x2, hx2, h⟩ := h
  refine jr_V6_2 jf_230_3 hb1 (by omega) (r_R_c (by omega) _ _ _ _ _ hx2) (Nat.le_of_ble_eq_true rfl) jml_216 (Nat.le_of_ble_eq_true rfl) ?_
  refine jr_dstore jf_230_6 jml_230 (by decide) ?_
  refine jr_aload_n jf_230_8 rfl (jg2_ne rfl hl0) ?_
  replace h := obd_of h; obtain ⟨x3, hx3, h⟩ := h
  refine jr_getA jf_230_9 hx3 ?_
  refine jr_iload_n jf_230_12 rfl (jg2_ne rfl hl1) ?_
  replace h := obd_of h; obtain ⟨a4, rfl, h⟩ := h
  replace h := obd_of h; obtain ⟨x5, hx5, h⟩ := h
  refine jr_iaload jf_230_13 hx5 ?_
  refine jr_switch jf_230_14 ?_
  replace h := ite_or h; rcases h with ⟨hc, h⟩ | ⟨hc, h⟩
  · refine jsw_hit (by decide) hc ?_
    refine jr_aload_n jf_230_40 rfl (jg2_ne rfl hl0) ?_
    replace h := obd_of h; obtain ⟨x6, hx6, h⟩ := h
    refine jr_getA jf_230_41 hx6 ?_
    refine jr_iload_n jf_230_44 rfl (jg2_ne rfl hl1) ?_
    replace h := obd_of h; obtain ⟨a7, rfl, h⟩ := h
    replace h := obd_of h; obtain ⟨x8, hx8, h⟩ := h
    refine jr_iaload jf_230_45 hx8 ?_
    refine jr_iconst jf_230_46 jc_i_2 ?_
    replace h := ite_or h; rcases h with ⟨hc, h⟩ | ⟨hc, h⟩
    · refine jr_if2_ne_f jf_230_47 hc ?_
      refine jr_dload jf_230_50 jg2_same ?_
      refine jr_d2l jf_230_52 ?_
      refine jr_lneg jf_230_53 ?_
      refine jr_iconst jf_230_54 jc_i_0 ?_
      refine jr_S3_2 jf_230_55 (by omega) (r_R_cut (by omega) _ _ _ _ rfl) (Nat.le_of_ble_eq_true rfl) jml_222 (Nat.le_of_ble_eq_true rfl) ?_
      refine jr_goto jf_230_58 ?_
      exact r_R_shapes_78 hd _ _ _ _ _ _ _ _ _ (jg2_ne rfl hl0) (jg2_ne rfl hl1) (jg2_ne rfl hl2) jg2_same h
    · refine jr_if2_ne_t jf_230_47 hc ?_
      refine jr_dload jf_230_61 jg2_same ?_
      refine jr_dload jf_230_63 jg2_same ?_
      refine jr_dcmp jf_230_65 ?_
      replace h := ite_or h; rcases h with ⟨hc, h⟩ | ⟨hc, h⟩
      · refine jr_if_eq_t jf_230_66 hc ?_
        refine jr_dload jf_230_75 jg2_same ?_
        refine jr_dneg jf_230_77 ?_
        exact r_R_shapes_78 hd _ _ _ _ _ _ _ _ _ (jg2_ne rfl hl0) (jg2_ne rfl hl1) (jg2_ne rfl hl2) jg2_same h
      · refine jr_if_eq_f jf_230_66 hc ?_
        refine jr_ldc2d jf_230_69 ?_
        refine jr_goto jf_230_72 ?_
        exact r_R_shapes_78 hd _ _ _ _ _ _ _ _ _ (jg2_ne rfl hl0) (jg2_ne rfl hl1) (jg2_ne rfl hl2) jg2_same h
  · refine jsw_miss (by decide) hc (by decide : (9 : Int) + 1 = 10) ?_
    replace h := ite_or h; rcases h with ⟨hc, h⟩ | ⟨hc, h⟩
    · refine jsw_hit (by decide) hc ?_
      refine jr_aload_n jf_230_122 rfl (jg2_ne rfl hl0) ?_
      refine jr_aload_n jf_230_123 rfl (jg2_ne rfl hl0) ?_
      replace h := obd_of h; obtain ⟨x9, hx9, h⟩ := h
      refine jr_getA jf_230_124 hx9 ?_
      refine jr_iload_n jf_230_127 rfl (jg2_ne rfl hl1) ?_
      replace h := obd_of h; obtain ⟨a10, rfl, h⟩ := h
      replace h := obd_of h; obtain ⟨x11, hx11, h⟩ := h
      refine jr_iaload jf_230_128 hx11 ?_
      refine jr_dload_n jf_230_129 rfl (jg2_ne rfl hl2) ?_
      replace h := jgd_of h; obtain ⟨hb12, h⟩ := h
      replace h := obd_of h; obtain ⟨x13, hx13, h⟩ := h
      refine jr_V6_2 jf_230_130 hb12 (by omega) (r_R_sizeOf (by omega) _ _ _ _ _ hx13) (Nat.le_of_ble_eq_true rfl) jml_231 (Nat.le_of_ble_eq_true rfl) ?_
      refine jr_dload jf_230_133 jg2_same ?_
      refine jr_dcmp jf_230_135 ?_
      replace h := ite_or h; rcases h with ⟨hc, h⟩ | ⟨hc, h⟩
      · refine jr_if_le_t jf_230_136 hc ?_
        refine jr_aload_n jf_230_141 rfl (jg2_ne rfl hl0) ?_
        replace h := obd_of h; obtain ⟨x14, hx14, h⟩ := h
        refine jr_getA jf_230_142 hx14 ?_
        refine jr_iload_n jf_230_145 rfl (jg2_ne rfl hl1) ?_
        refine jr_dup2_1 jf_230_146 rfl (rv_cat _) ?_
        replace h := obd_of h; obtain ⟨a15, rfl, h⟩ := h
        replace h := obd_of h; obtain ⟨x16, hx16, h⟩ := h
        refine jr_iaload jf_230_147 hx16 ?_
        refine jr_iconst jf_230_148 jc_i_1 ?_
        refine jr_iadd jf_230_149 ?_
        replace h := obd_of h; obtain ⟨μ17, hμ17, h⟩ := h
        refine jr_iastore jf_230_150 hμ17 ?_
        refine jr_dconst0 jf_230_151 ?_
        obtain ⟨rfl, rfl⟩ := Prod.mk.inj (Option.some.inj h)
        exact jr_retD jf_230_152 jmt_230
      · refine jr_if_le_f jf_230_136 hc ?_
        refine jr_dload_n jf_230_139 rfl (jg2_ne rfl hl2) ?_
        obtain ⟨rfl, rfl⟩ := Prod.mk.inj (Option.some.inj h)
        exact jr_retD jf_230_140 jmt_230
    · refine jsw_miss (by decide) hc (by decide : (10 : Int) + 1 = 11) ?_
      replace h := ite_or h; rcases h with ⟨hc, h⟩ | ⟨hc, h⟩
      · refine jsw_hit (by decide) hc ?_
        refine jr_aload_n jf_230_153 rfl (jg2_ne rfl hl0) ?_
        refine jr_aload_n jf_230_154 rfl (jg2_ne rfl hl0) ?_
        replace h := obd_of h; obtain ⟨x18, hx18, h⟩ := h
        refine jr_getA jf_230_155 hx18 ?_
        refine jr_iload_n jf_230_158 rfl (jg2_ne rfl hl1) ?_
        replace h := obd_of h; obtain ⟨a19, rfl, h⟩ := h
        replace h := obd_of h; obtain ⟨x20, hx20, h⟩ := h
        refine jr_iaload jf_230_159 hx20 ?_
        refine jr_dload_n jf_230_160 rfl (jg2_ne rfl hl2) ?_
        replace h := jgd_of h; obtain ⟨hb21, h⟩ := h
        replace h := obd_of h; obtain ⟨x22, hx22, h⟩ := h
        refine jr_V6_2 jf_230_161 hb21 (by omega) (r_R_sizeOf (by omega) _ _ _ _ _ hx22) (Nat.le_of_ble_eq_true rfl) jml_231 (Nat.le_of_ble_eq_true rfl) ?_
        refine jr_dstore jf_230_164 jml_230 (by decide) ?_
        refine jr_dload jf_230_166 jg2_same ?_
        refine jr_aload_n jf_230_168 rfl (jg2_ne rfl (jg2_ne rfl hl0)) ?_
        refine jr_iload_n jf_230_169 rfl (jg2_ne rfl (jg2_ne rfl hl1)) ?_
        refine jr_iconst jf_230_170 jc_i_0 ?_
        replace h := jgd_of h; obtain ⟨hb23, h⟩ := h
        replace h := obd_of h; obtain ⟨x24, hx24, h⟩ := h
        refine jr_V6_2 jf_230_171 hb23 (by omega) (r_R_st (by omega) _ _ _ _ _ hx24) (Nat.le_of_ble_eq_true rfl) jml_225 (Nat.le_of_ble_eq_true rfl) ?_
        refine jr_dcmp jf_230_174 ?_
        replace h := ite_or h; rcases h with ⟨hc, h⟩ | ⟨hc, h⟩
        · refine jr_if_gt_t jf_230_175 hc ?_
          exact r_R_shapes_202 hd _ _ _ _ _ _ _ (jg2_ne rfl (jg2_ne rfl hl0)) (jg2_ne rfl (jg2_ne rfl hl1)) jg2_same h
        · refine jr_if_gt_f jf_230_175 hc ?_
          refine jr_aload_n jf_230_178 rfl (jg2_ne rfl (jg2_ne rfl hl0)) ?_
          refine jr_iload_n jf_230_179 rfl (jg2_ne rfl (jg2_ne rfl hl1)) ?_
          replace h := jgd_of h; obtain ⟨hb25, h⟩ := h
          replace h := obd_of h; obtain ⟨μ26, hμ26, h⟩ := h
          refine jr_V6v_1 jf_230_180 hb25 (by omega) (r_R_begins (by omega) _ _ _ _ hμ26) (Nat.le_of_ble_eq_true rfl) jml_215 (Nat.le_of_ble_eq_true rfl) ?_
          refine jr_aload_n jf_230_183 rfl (jg2_ne rfl (jg2_ne rfl hl0)) ?_
          refine jr_dload jf_230_184 (jg2_ne rfl jg2_same) ?_
          refine jr_aload_n jf_230_186 rfl (jg2_ne rfl (jg2_ne rfl hl0)) ?_
          refine jr_iload_n jf_230_187 rfl (jg2_ne rfl (jg2_ne rfl hl1)) ?_
          refine jr_iconst jf_230_188 jc_i_0 ?_
          replace h := jgd_of h; obtain ⟨hb27, h⟩ := h
          replace h := obd_of h; obtain ⟨x28, hx28, h⟩ := h
          refine jr_V6_2 jf_230_189 hb27 (by omega) (r_R_st (by omega) _ _ _ _ _ hx28) (Nat.le_of_ble_eq_true rfl) jml_225 (Nat.le_of_ble_eq_true rfl) ?_
          refine jr_iconst jf_230_192 jc_i_0 ?_
          replace h := jgd_of h; obtain ⟨hb29, h⟩ := h
          replace h := obd_of h; obtain ⟨μ30, hμ30, h⟩ := h
          refine jr_V6v_3 jf_230_193 hb29 (by omega) (r_R_term (by omega) _ _ _ _ _ _ hμ30) (Nat.le_of_ble_eq_true rfl) jml_217 (Nat.le_of_ble_eq_true rfl) ?_
          refine jr_aload_n jf_230_196 rfl (jg2_ne rfl (jg2_ne rfl hl0)) ?_
          replace h := jgd_of h; obtain ⟨hb31, h⟩ := h
          replace h := jbd2_of h; obtain ⟨x32, μ33, hx32, h⟩ := h
          refine jr_V6_0 jf_230_197 hb31 (by omega) (r_R_comes (by omega) _ _ _ _ hx32) (Nat.le_of_ble_eq_true rfl) jml_221 (Nat.le_of_ble_eq_true rfl) ?_
          refine jr_dstore jf_230_200 jml_230 (by decide) ?_
          exact r_R_shapes_202 hd _ _ _ _ _ _ _ (jg2_ne rfl (jg2_ne rfl (jg2_ne rfl hl0))) (jg2_ne rfl (jg2_ne rfl (jg2_ne rfl hl1))) jg2_same h
      · refine jsw_miss (by decide) hc (by decide : (11 : Int) + 1 = 12) ?_
        refine jsw_end ?_
        refine jr_aload_n jf_230_213 rfl (jg2_ne rfl hl0) ?_
        refine jr_iload_n jf_230_214 rfl (jg2_ne rfl hl1) ?_
        replace h := jgd_of h; obtain ⟨hb34, h⟩ := h
        replace h := obd_of h; obtain ⟨μ35, hμ35, h⟩ := h
        refine jr_V6v_1 jf_230_215 hb34 (by omega) (r_R_begins (by omega) _ _ _ _ hμ35) (Nat.le_of_ble_eq_true rfl) jml_215 (Nat.le_of_ble_eq_true rfl) ?_
        refine jr_aload_n jf_230_218 rfl (jg2_ne rfl hl0) ?_
        refine jr_dload jf_230_219 jg2_same ?_
        refine jr_dload_n jf_230_221 rfl (jg2_ne rfl hl2) ?_
        refine jr_iconst jf_230_222 jc_i_0 ?_
        replace h := jgd_of h; obtain ⟨hb36, h⟩ := h
        replace h := obd_of h; obtain ⟨μ37, hμ37, h⟩ := h
        refine jr_V6v_3 jf_230_223 hb36 (by omega) (r_R_term (by omega) _ _ _ _ _ _ hμ37) (Nat.le_of_ble_eq_true rfl) jml_217 (Nat.le_of_ble_eq_true rfl) ?_
        refine jr_aload_n jf_230_226 rfl (jg2_ne rfl hl0) ?_
        refine jr_aload_n jf_230_227 rfl (jg2_ne rfl hl0) ?_
        refine jr_iload_n jf_230_228 rfl (jg2_ne rfl hl1) ?_
        refine jr_iconst jf_230_229 jc_i_1 ?_
        replace h := jgd_of h; obtain ⟨hb38, h⟩ := h
        replace h := obd_of h; obtain ⟨x39, hx39, h⟩ := h
        refine jr_V6_2 jf_230_230 hb38 (by omega) (r_R_c (by omega) _ _ _ _ _ hx39) (Nat.le_of_ble_eq_true rfl) jml_216 (Nat.le_of_ble_eq_true rfl) ?_
        refine jr_dconst0 jf_230_233 ?_
        refine jr_iconst jf_230_234 jc_i_0 ?_
        replace h := jgd_of h; obtain ⟨hb40, h⟩ := h
        replace h := obd_of h; obtain ⟨μ41, hμ41, h⟩ := h
        refine jr_V6v_3 jf_230_235 hb40 (by omega) (r_R_term (by omega) _ _ _ _ _ _ hμ41) (Nat.le_of_ble_eq_true rfl) jml_217 (Nat.le_of_ble_eq_true rfl) ?_
        refine jr_aload_n jf_230_238 rfl (jg2_ne rfl hl0) ?_
        replace h := jgd_of h; obtain ⟨hb42, h⟩ := h
        replace h := jbd2_of h; obtain ⟨x43, μ44, hx43, h⟩ := h
        refine jr_V6_0 jf_230_239 hb42 (by omega) (r_R_comes (by omega) _ _ _ _ hx43) (Nat.le_of_ble_eq_true rfl) jml_221 (Nat.le_of_ble_eq_true rfl) ?_
        obtain ⟨rfl, rfl⟩ := Prod.mk.inj (Option.some.inj h)
        exact jr_retD jf_230_242 jmt_230
set_option maxRecDepth 10000 in
set_option maxHeartbeats 4000000 in
theorem r_R_shapes {B : Nat} {SA : Nat → Nat} {d : Nat} (hd : 3 ≤ d) : ∀ (v0 : Nat) (v1 : Int32) (v2 : UInt64) (μ : JMem) (r : UInt64) (μ9 : JMem), g_R_shapes B v0 v1 v2 μ = some (r, μ9) → jR B SA d m_R_shapes 0 (lv_args 0 [.ref v0, .int v1, .double v2]) [] μ (some (.double r)) μ9 := by
  intro v0 v1 v2 μ r μ9 h
  exact r_R_shapes_e hd (lv_args 0 _) _ _ _ _ _ _ (by simp [lv_args, jget, rv_cat, cat_int, cat_long, cat_double, cat_float, cat_ref]) (by simp [lv_args, jget, rv_cat, cat_int, cat_long, cat_double, cat_float, cat_ref]) (by simp [lv_args, jget, rv_cat, cat_int, cat_long, cat_double, cat_float, cat_ref]) h
/-! FilterBenchModel.works(ID)D -/
set_option maxRecDepth 10000 in
set_option maxHeartbeats 4000000 in
theorem r_R_works_620 {N B : Nat} {SA : Nat → Nat} {d : Nat} (hd : 4 ≤ d) : ∀ (n : Nat), ∀ (L : JLoc) (v0 : Nat) (v1 : Int32) (v4 : Int32) (μ : JMem) (r : UInt64) (μ9 : JMem), jget L 0 = .ref v0 → jget L 1 = .int v1 → jget L 4 = .int v4 → g_R_works_620 N B n v0 v1 v4 μ = some (r, μ9) → jR B SA d m_R_works 620 L [] μ (some (.double r)) μ9 := by
  intro n
  induction n with
  | zero =>
    intro L v0 v1 v4 μ r μ9 hl0 hl1 hl4 h
    unfold g_R_works_620 at h
    cases h
  | succ n ih =>
    intro L v0 v1 v4 μ r μ9 hl0 hl1 hl4 h
    unfold g_R_works_620 at h
    refine jr_iload jf_228_620 hl4 ?_
    refine jr_aload_n jf_228_622 rfl hl0 ?_
    replace h := obd_of h; obtain ⟨x1, hx1, h⟩ := h
    refine jr_getA jf_228_623 hx1 ?_
    refine jr_iload_n jf_228_626 rfl hl1 ?_
    replace h := obd_of h; obtain ⟨a2, rfl, h⟩ := h
    replace h := obd_of h; obtain ⟨x3, hx3, h⟩ := h
    refine jr_iaload jf_228_627 hx3 ?_
    replace h := ite_or h; rcases h with ⟨hc, h⟩ | ⟨hc, h⟩
    · refine jr_if2_ge_t jf_228_628 hc ?_
      refine jr_aload_n jf_228_663 rfl hl0 ?_
      replace h := jgd_of h; obtain ⟨hb4, h⟩ := h
      replace h := jbd2_of h; obtain ⟨x5, μ6, hx5, h⟩ := h
      refine jr_V6_0 jf_228_664 hb4 (by omega) (r_R_comes (by omega) _ _ _ _ hx5) (Nat.le_of_ble_eq_true rfl) jml_221 (Nat.le_of_ble_eq_true rfl) ?_
      refine jr_dstore jf_228_667 jml_228 (by decide) ?_
      refine jr_aload_n jf_228_669 rfl (jg2_ne rfl hl0) ?_
      refine jr_iload_n jf_228_670 rfl (jg2_ne rfl hl1) ?_
      replace h := jgd_of h; obtain ⟨hb7, h⟩ := h
      replace h := obd_of h; obtain ⟨μ8, hμ8, h⟩ := h
      refine jr_V6v_1 jf_228_671 hb7 (by omega) (r_R_begins (by omega) _ _ _ _ hμ8) (Nat.le_of_ble_eq_true rfl) jml_215 (Nat.le_of_ble_eq_true rfl) ?_
      refine jr_aload_n jf_228_674 rfl (jg2_ne rfl hl0) ?_
      refine jr_aload_n jf_228_675 rfl (jg2_ne rfl hl0) ?_
      refine jr_iload_n jf_228_676 rfl (jg2_ne rfl hl1) ?_
      refine jr_iconst jf_228_677 jc_i_0 ?_
      replace h := jgd_of h; obtain ⟨hb9, h⟩ := h
      replace h := obd_of h; obtain ⟨x10, hx10, h⟩ := h
      refine jr_V6_2 jf_228_678 hb9 (by omega) (r_R_c (by omega) _ _ _ _ _ hx10) (Nat.le_of_ble_eq_true rfl) jml_216 (Nat.le_of_ble_eq_true rfl) ?_
      refine jr_dload jf_228_681 jg2_same ?_
      refine jr_iconst jf_228_683 jc_i_0 ?_
      replace h := jgd_of h; obtain ⟨hb11, h⟩ := h
      replace h := obd_of h; obtain ⟨μ12, hμ12, h⟩ := h
      refine jr_V6v_3 jf_228_684 hb11 (by omega) (r_R_term (by omega) _ _ _ _ _ _ hμ12) (Nat.le_of_ble_eq_true rfl) jml_217 (Nat.le_of_ble_eq_true rfl) ?_
      refine jr_aload_n jf_228_687 rfl (jg2_ne rfl hl0) ?_
      replace h := jgd_of h; obtain ⟨hb13, h⟩ := h
      replace h := jbd2_of h; obtain ⟨x14, μ15, hx14, h⟩ := h
      refine jr_V6_0 jf_228_688 hb13 (by omega) (r_R_comes (by omega) _ _ _ _ hx14) (Nat.le_of_ble_eq_true rfl) jml_221 (Nat.le_of_ble_eq_true rfl) ?_
      obtain ⟨rfl, rfl⟩ := Prod.mk.inj (Option.some.inj h)
      exact jr_retD jf_228_691 jmt_228
    · refine jr_if2_ge_f jf_228_628 hc ?_
      refine jr_aload_n jf_228_631 rfl hl0 ?_
      refine jr_aload_n jf_228_632 rfl hl0 ?_
      refine jr_iload_n jf_228_633 rfl hl1 ?_
      refine jr_aload_n jf_228_634 rfl hl0 ?_
      replace h := obd_of h; obtain ⟨x16, hx16, h⟩ := h
      refine jr_getA jf_228_635 hx16 ?_
      refine jr_iload_n jf_228_638 rfl hl1 ?_
      replace h := obd_of h; obtain ⟨a17, rfl, h⟩ := h
      replace h := obd_of h; obtain ⟨x18, hx18, h⟩ := h
      refine jr_iaload jf_228_639 hx18 ?_
      refine jr_iload jf_228_640 hl4 ?_
      refine jr_iadd jf_228_642 ?_
      refine jr_aload_n jf_228_643 rfl hl0 ?_
      replace h := obd_of h; obtain ⟨x19, hx19, h⟩ := h
      refine jr_getA jf_228_644 hx19 ?_
      refine jr_iload_n jf_228_647 rfl hl1 ?_
      replace h := obd_of h; obtain ⟨a20, rfl, h⟩ := h
      replace h := obd_of h; obtain ⟨x21, hx21, h⟩ := h
      refine jr_iaload jf_228_648 hx21 ?_
      replace h := obd_of h; obtain ⟨x22, hx22, h⟩ := h
      refine jr_irem jf_228_649 hx22 ?_
      replace h := jgd_of h; obtain ⟨hb23, h⟩ := h
      replace h := obd_of h; obtain ⟨x24, hx24, h⟩ := h
      refine jr_V6_2 jf_228_650 hb23 (by omega) (r_R_st (by omega) _ _ _ _ _ hx24) (Nat.le_of_ble_eq_true rfl) jml_225 (Nat.le_of_ble_eq_true rfl) ?_
      refine jr_iconst jf_228_653 jc_i_0 ?_
      replace h := jgd_of h; obtain ⟨hb25, h⟩ := h
      replace h := obd_of h; obtain ⟨μ26, hμ26, h⟩ := h
      refine jr_V6v_2 jf_228_654 hb25 (by omega) (r_R_term_2 (by omega) _ _ _ _ _ hμ26) (Nat.le_of_ble_eq_true rfl) jml_224 (Nat.le_of_ble_eq_true rfl) ?_
      refine jr_iinc jf_228_657 jc_i_1 jml_228 (by decide) hl4 ?_
      refine jr_goto jf_228_660 ?_
      exact ih _ _ _ _ _ _ _ (jg1_ne rfl hl0) (jg1_ne rfl hl1) jg1_same h
set_option maxRecDepth 10000 in
set_option maxHeartbeats 4000000 in
theorem r_R_works_e {N B : Nat} {SA : Nat → Nat} {d : Nat} (hd : 4 ≤ d) : ∀ (L : JLoc) (v0 : Nat) (v1 : Int32) (v2 : UInt64) (μ : JMem) (r : UInt64) (μ9 : JMem), jget L 0 = .ref v0 → jget L 1 = .int v1 → jget L 2 = .double v2 → g_R_works N B v0 v1 v2 μ = some (r, μ9) → jR B SA d m_R_works 0 L [] μ (some (.double r)) μ9 := by
  intro L v0 v1 v2 μ r μ9 hl0 hl1 hl2 h
  unfold g_R_works at h
  refine jr_aload_n jf_228_0 rfl hl0 ?_
  replace h := obd_of h; obtain ⟨x1, hx1, h⟩ := h
  refine jr_getA jf_228_1 hx1 ?_
  refine jr_iload_n jf_228_4 rfl hl1 ?_
  replace h := obd_of h; obtain ⟨a2, rfl, h⟩ := h
  replace h := obd_of h; obtain ⟨x3, hx3, h⟩ := h
  refine jr_iaload jf_228_5 hx3 ?_
  refine jr_switch jf_228_6 ?_
  replace h := ite_or h; rcases h with ⟨hc, h⟩ | ⟨hc, h⟩
  · refine jsw_hit (by decide) hc ?_
    refine jr_aload_n jf_228_56 rfl hl0 ?_
    refine jr_iload_n jf_228_57 rfl hl1 ?_
    replace h := jgd_of h; obtain ⟨hb4, h⟩ := h
    replace h := obd_of h; obtain ⟨μ5, hμ5, h⟩ := h
    refine jr_V6v_1 jf_228_58 hb4 (by omega) (r_R_begins (by omega) _ _ _ _ hμ5) (Nat.le_of_ble_eq_true rfl) jml_215 (Nat.le_of_ble_eq_true rfl) ?_
    refine jr_aload_n jf_228_61 rfl hl0 ?_
    refine jr_aload_n jf_228_62 rfl hl0 ?_
    refine jr_iload_n jf_228_63 rfl hl1 ?_
    refine jr_iconst jf_228_64 jc_i_0 ?_
    replace h := jgd_of h; obtain ⟨hb6, h⟩ := h
    replace h := obd_of h; obtain ⟨x7, hx7, h⟩ := h
    refine jr_V6_2 jf_228_65 hb6 (by omega) (r_R_c (by omega) _ _ _ _ _ hx7) (Nat.le_of_ble_eq_true rfl) jml_216 (Nat.le_of_ble_eq_true rfl) ?_
    refine jr_dload_n jf_228_68 rfl hl2 ?_
    refine jr_iconst jf_228_69 jc_i_0 ?_
    replace h := jgd_of h; obtain ⟨hb8, h⟩ := h
    replace h := obd_of h; obtain ⟨μ9, hμ9, h⟩ := h
    refine jr_V6v_3 jf_228_70 hb8 (by omega) (r_R_term (by omega) _ _ _ _ _ _ hμ9) (Nat.le_of_ble_eq_true rfl) jml_217 (Nat.le_of_ble_eq_true rfl) ?_
    refine jr_aload_n jf_228_73 rfl hl0 ?_
    replace h := jgd_of h; obtain ⟨hb10, h⟩ := h
    replace h := jbd2_of h; obtain ⟨x11, μ12, hx11, h⟩ := h
    refine jr_V6_0 jf_228_74 hb10 (by omega) (r_R_comes (by omega) _ _ _ _ hx11) (Nat.le_of_ble_eq_true rfl) jml_221 (Nat.le_of_ble_eq_true rfl) ?_
    obtain ⟨rfl, rfl⟩ := Prod.mk.inj (Option.some.inj h)
    exact jr_retD jf_228_77 jmt_228
  · refine jsw_miss (by decide) hc (by decide : (0 : Int) + 1 = 1) ?_
    replace h := ite_or h; rcases h with ⟨hc, h⟩ | ⟨hc, h⟩
    · refine jsw_hit (by decide) hc ?_
      refine jr_aload_n jf_228_78 rfl hl0 ?_
      refine jr_iload_n jf_228_79 rfl hl1 ?_
      replace h := jgd_of h; obtain ⟨hb13, h⟩ := h
      replace h := obd_of h; obtain ⟨μ14, hμ14, h⟩ := h
      refine jr_V6v_1 jf_228_80 hb13 (by omega) (r_R_begins (by omega) _ _ _ _ hμ14) (Nat.le_of_ble_eq_true rfl) jml_215 (Nat.le_of_ble_eq_true rfl) ?_
      refine jr_aload_n jf_228_83 rfl hl0 ?_
      refine jr_aload_n jf_228_84 rfl hl0 ?_
      refine jr_iload_n jf_228_85 rfl hl1 ?_
      refine jr_iconst jf_228_86 jc_i_0 ?_
      replace h := jgd_of h; obtain ⟨hb15, h⟩ := h
      replace h := obd_of h; obtain ⟨x16, hx16, h⟩ := h
      refine jr_V6_2 jf_228_87 hb15 (by omega) (r_R_c (by omega) _ _ _ _ _ hx16) (Nat.le_of_ble_eq_true rfl) jml_216 (Nat.le_of_ble_eq_true rfl) ?_
      refine jr_dload_n jf_228_90 rfl hl2 ?_
      refine jr_iconst jf_228_91 jc_i_0 ?_
      replace h := jgd_of h; obtain ⟨hb17, h⟩ := h
      replace h := obd_of h; obtain ⟨μ18, hμ18, h⟩ := h
      refine jr_V6v_3 jf_228_92 hb17 (by omega) (r_R_term (by omega) _ _ _ _ _ _ hμ18) (Nat.le_of_ble_eq_true rfl) jml_217 (Nat.le_of_ble_eq_true rfl) ?_
      refine jr_aload_n jf_228_95 rfl hl0 ?_
      refine jr_aload_n jf_228_96 rfl hl0 ?_
      refine jr_iload_n jf_228_97 rfl hl1 ?_
      refine jr_iconst jf_228_98 jc_i_1 ?_
      replace h := jgd_of h; obtain ⟨hb19, h⟩ := h
      replace h := obd_of h; obtain ⟨x20, hx20, h⟩ := h
      refine jr_V6_2 jf_228_99 hb19 (by omega) (r_R_c (by omega) _ _ _ _ _ hx20) (Nat.le_of_ble_eq_true rfl) jml_216 (Nat.le_of_ble_eq_true rfl) ?_
      refine jr_aload_n jf_228_102 rfl hl0 ?_
      refine jr_iload_n jf_228_103 rfl hl1 ?_
      refine jr_iconst jf_228_104 jc_i_0 ?_
      replace h := jgd_of h; obtain ⟨hb21, h⟩ := h
      replace h := obd_of h; obtain ⟨x22, hx22, h⟩ := h
      refine jr_V6_2 jf_228_105 hb21 (by omega) (r_R_st (by omega) _ _ _ _ _ hx22) (Nat.le_of_ble_eq_true rfl) jml_225 (Nat.le_of_ble_eq_true rfl) ?_
      refine jr_iconst jf_228_108 jc_i_0 ?_
      replace h := jgd_of h; obtain ⟨hb23, h⟩ := h
      replace h := obd_of h; obtain ⟨μ24, hμ24, h⟩ := h
      refine jr_V6v_3 jf_228_109 hb23 (by omega) (r_R_term (by omega) _ _ _ _ _ _ hμ24) (Nat.le_of_ble_eq_true rfl) jml_217 (Nat.le_of_ble_eq_true rfl) ?_
      refine jr_aload_n jf_228_112 rfl hl0 ?_
      replace h := jgd_of h; obtain ⟨hb25, h⟩ := h
      replace h := jbd2_of h; obtain ⟨x26, μ27, hx26, h⟩ := h
      refine jr_V6_0 jf_228_113 hb25 (by omega) (r_R_comes (by omega) _ _ _ _ hx26) (Nat.le_of_ble_eq_true rfl) jml_221 (Nat.le_of_ble_eq_true rfl) ?_
      refine jr_dstore jf_228_116 jml_228 (by decide) ?_
      refine jr_aload_n jf_228_118 rfl (jg2_ne rfl hl0) ?_
      refine jr_iload_n jf_228_119 rfl (jg2_ne rfl hl1) ?_
      refine jr_iconst jf_228_120 jc_i_0 ?_
      refine jr_dload jf_228_121 jg2_same ?_
      replace h := jgd_of h; obtain ⟨hb28, h⟩ := h
      replace h := obd_of h; obtain ⟨μ29, hμ29, h⟩ := h
      refine jr_V6v_3 jf_228_123 hb28 (by omega) (r_R_st_2 (by omega) _ _ _ _ _ _ hμ29) (Nat.le_of_ble_eq_true rfl) jml_226 (Nat.le_of_ble_eq_true rfl) ?_
      refine jr_dload jf_228_126 jg2_same ?_
      obtain ⟨rfl, rfl⟩ := Prod.mk.inj (Option.some.inj h)
      exact jr_retD jf_228_128 jmt_228
    · refine jsw_miss (by decide) hc (by decide : (1 : Int) + 1 = 2) ?_
      replace h := ite_or h; rcases h with ⟨hc, h⟩ | ⟨hc, h⟩
      · refine jsw_hit (by decide) hc ?_
        refine jr_aload_n jf_228_129 rfl hl0 ?_
        refine jr_iload_n jf_228_130 rfl hl1 ?_
        replace h := jgd_of h; obtain ⟨hb30, h⟩ := h
        replace h := obd_of h; obtain ⟨μ31, hμ31, h⟩ := h
        refine jr_V6v_1 jf_228_131 hb30 (by omega) (r_R_begins (by omega) _ _ _ _ hμ31) (Nat.le_of_ble_eq_true rfl) jml_215 (Nat.le_of_ble_eq_true rfl) ?_
        refine jr_aload_n jf_228_134 rfl hl0 ?_
        refine jr_aload_n jf_228_135 rfl hl0 ?_
        refine jr_iload_n jf_228_136 rfl hl1 ?_
        refine jr_iconst jf_228_137 jc_i_0 ?_
        replace h := jgd_of h; obtain ⟨hb32, h⟩ := h
        replace h := obd_of h; obtain ⟨x33, hx33, h⟩ := h
        refine jr_V6_2 jf_228_138 hb32 (by omega) (r_R_c (by omega) _ _ _ _ _ hx33) (Nat.le_of_ble_eq_true rfl) jml_216 (Nat.le_of_ble_eq_true rfl) ?_
        refine jr_dload_n jf_228_141 rfl hl2 ?_
        refine jr_iconst jf_228_142 jc_i_0 ?_
        replace h := jgd_of h; obtain ⟨hb34, h⟩ := h
        replace h := obd_of h; obtain ⟨μ35, hμ35, h⟩ := h
        refine jr_V6v_3 jf_228_143 hb34 (by omega) (r_R_term (by omega) _ _ _ _ _ _ hμ35) (Nat.le_of_ble_eq_true rfl) jml_217 (Nat.le_of_ble_eq_true rfl) ?_
        refine jr_aload_n jf_228_146 rfl hl0 ?_
        refine jr_aload_n jf_228_147 rfl hl0 ?_
        refine jr_iload_n jf_228_148 rfl hl1 ?_
        refine jr_iconst jf_228_149 jc_i_1 ?_
        replace h := jgd_of h; obtain ⟨hb36, h⟩ := h
        replace h := obd_of h; obtain ⟨x37, hx37, h⟩ := h
        refine jr_V6_2 jf_228_150 hb36 (by omega) (r_R_c (by omega) _ _ _ _ _ hx37) (Nat.le_of_ble_eq_true rfl) jml_216 (Nat.le_of_ble_eq_true rfl) ?_
        refine jr_aload_n jf_228_153 rfl hl0 ?_
        refine jr_iload_n jf_228_154 rfl hl1 ?_
        refine jr_iconst jf_228_155 jc_i_0 ?_
        replace h := jgd_of h; obtain ⟨hb38, h⟩ := h
        replace h := obd_of h; obtain ⟨x39, hx39, h⟩ := h
        refine jr_V6_2 jf_228_156 hb38 (by omega) (r_R_st (by omega) _ _ _ _ _ hx39) (Nat.le_of_ble_eq_true rfl) jml_225 (Nat.le_of_ble_eq_true rfl) ?_
        refine jr_iconst jf_228_159 jc_i_0 ?_
        replace h := jgd_of h; obtain ⟨hb40, h⟩ := h
        replace h := obd_of h; obtain ⟨μ41, hμ41, h⟩ := h
        refine jr_V6v_3 jf_228_160 hb40 (by omega) (r_R_term (by omega) _ _ _ _ _ _ hμ41) (Nat.le_of_ble_eq_true rfl) jml_217 (Nat.le_of_ble_eq_true rfl) ?_
        refine jr_aload_n jf_228_163 rfl hl0 ?_
        refine jr_aload_n jf_228_164 rfl hl0 ?_
        refine jr_iload_n jf_228_165 rfl hl1 ?_
        refine jr_iconst jf_228_166 jc_i_2 ?_
        replace h := jgd_of h; obtain ⟨hb42, h⟩ := h
        replace h := obd_of h; obtain ⟨x43, hx43, h⟩ := h
        refine jr_V6_2 jf_228_167 hb42 (by omega) (r_R_c (by omega) _ _ _ _ _ hx43) (Nat.le_of_ble_eq_true rfl) jml_216 (Nat.le_of_ble_eq_true rfl) ?_
        refine jr_aload_n jf_228_170 rfl hl0 ?_
        refine jr_iload_n jf_228_171 rfl hl1 ?_
        refine jr_iconst jf_228_172 jc_i_1 ?_
        replace h := jgd_of h; obtain ⟨hb44, h⟩ := h
        replace h := obd_of h; obtain ⟨x45, hx45, h⟩ := h
        refine jr_V6_2 jf_228_173 hb44 (by omega) (r_R_st (by omega) _ _ _ _ _ hx45) (Nat.le_of_ble_eq_true rfl) jml_225 (Nat.le_of_ble_eq_true rfl) ?_
        refine jr_iconst jf_228_176 jc_i_0 ?_
        replace h := jgd_of h; obtain ⟨hb46, h⟩ := h
        replace h := obd_of h; obtain ⟨μ47, hμ47, h⟩ := h
        refine jr_V6v_3 jf_228_177 hb46 (by omega) (r_R_term (by omega) _ _ _ _ _ _ hμ47) (Nat.le_of_ble_eq_true rfl) jml_217 (Nat.le_of_ble_eq_true rfl) ?_
        refine jr_aload_n jf_228_180 rfl hl0 ?_
        refine jr_aload_n jf_228_181 rfl hl0 ?_
        refine jr_iload_n jf_228_182 rfl hl1 ?_
        refine jr_iconst jf_228_183 jc_i_3 ?_
        replace h := jgd_of h; obtain ⟨hb48, h⟩ := h
        replace h := obd_of h; obtain ⟨x49, hx49, h⟩ := h
        refine jr_V6_2 jf_228_184 hb48 (by omega) (r_R_c (by omega) _ _ _ _ _ hx49) (Nat.le_of_ble_eq_true rfl) jml_216 (Nat.le_of_ble_eq_true rfl) ?_
        refine jr_aload_n jf_228_187 rfl hl0 ?_
        refine jr_iload_n jf_228_188 rfl hl1 ?_
        refine jr_iconst jf_228_189 jc_i_2 ?_
        replace h := jgd_of h; obtain ⟨hb50, h⟩ := h
        replace h := obd_of h; obtain ⟨x51, hx51, h⟩ := h
        refine jr_V6_2 jf_228_190 hb50 (by omega) (r_R_st (by omega) _ _ _ _ _ hx51) (Nat.le_of_ble_eq_true rfl) jml_225 (Nat.le_of_ble_eq_true rfl) ?_
        refine jr_iconst jf_228_193 jc_i_1 ?_
        replace h := jgd_of h; obtain ⟨hb52, h⟩ := h
        replace h := obd_of h; obtain ⟨μ53, hμ53, h⟩ := h
        refine jr_V6v_3 jf_228_194 hb52 (by omega) (r_R_term (by omega) _ _ _ _ _ _ hμ53) (Nat.le_of_ble_eq_true rfl) jml_217 (Nat.le_of_ble_eq_true rfl) ?_
        refine jr_aload_n jf_228_197 rfl hl0 ?_
        refine jr_aload_n jf_228_198 rfl hl0 ?_
        refine jr_iload_n jf_228_199 rfl hl1 ?_
        refine jr_iconst jf_228_200 jc_i_4 ?_
        replace h := jgd_of h; obtain ⟨hb54, h⟩ := h
        replace h := obd_of h; obtain ⟨x55, hx55, h⟩ := h
        refine jr_V6_2 jf_228_201 hb54 (by omega) (r_R_c (by omega) _ _ _ _ _ hx55) (Nat.le_of_ble_eq_true rfl) jml_216 (Nat.le_of_ble_eq_true rfl) ?_
        refine jr_aload_n jf_228_204 rfl hl0 ?_
        refine jr_iload_n jf_228_205 rfl hl1 ?_
        refine jr_iconst jf_228_206 jc_i_3 ?_
        replace h := jgd_of h; obtain ⟨hb56, h⟩ := h
        replace h := obd_of h; obtain ⟨x57, hx57, h⟩ := h
        refine jr_V6_2 jf_228_207 hb56 (by omega) (r_R_st (by omega) _ _ _ _ _ hx57) (Nat.le_of_ble_eq_true rfl) jml_225 (Nat.le_of_ble_eq_true rfl) ?_
        refine jr_iconst jf_228_210 jc_i_1 ?_
        replace h := jgd_of h; obtain ⟨hb58, h⟩ := h
        replace h := obd_of h; obtain ⟨μ59, hμ59, h⟩ := h
        refine jr_V6v_3 jf_228_211 hb58 (by omega) (r_R_term (by omega) _ _ _ _ _ _ hμ59) (Nat.le_of_ble_eq_true rfl) jml_217 (Nat.le_of_ble_eq_true rfl) ?_
        refine jr_aload_n jf_228_214 rfl hl0 ?_
        replace h := jgd_of h; obtain ⟨hb60, h⟩ := h
        replace h := jbd2_of h; obtain ⟨x61, μ62, hx61, h⟩ := h
        refine jr_V6_0 jf_228_215 hb60 (by omega) (r_R_comes (by omega) _ _ _ _ hx61) (Nat.le_of_ble_eq_true rfl) jml_221 (Nat.le_of_ble_eq_true rfl) ?_
        refine jr_dstore jf_228_218 jml_228 (by decide) ?_
        refine jr_aload_n jf_228_220 rfl (jg2_ne rfl hl0) ?_
        refine jr_iload_n jf_228_221 rfl (jg2_ne rfl hl1) ?_
        refine jr_iconst jf_228_222 jc_i_1 ?_
        refine jr_aload_n jf_228_223 rfl (jg2_ne rfl hl0) ?_
        refine jr_iload_n jf_228_224 rfl (jg2_ne rfl hl1) ?_
        refine jr_iconst jf_228_225 jc_i_0 ?_
        replace h := jgd_of h; obtain ⟨hb63, h⟩ := h
        replace h := obd_of h; obtain ⟨x64, hx64, h⟩ := h
        refine jr_V6_2 jf_228_226 hb63 (by omega) (r_R_st (by omega) _ _ _ _ _ hx64) (Nat.le_of_ble_eq_true rfl) jml_225 (Nat.le_of_ble_eq_true rfl) ?_
        replace h := jgd_of h; obtain ⟨hb65, h⟩ := h
        replace h := obd_of h; obtain ⟨μ66, hμ66, h⟩ := h
        refine jr_V6v_3 jf_228_229 hb65 (by omega) (r_R_st_2 (by omega) _ _ _ _ _ _ hμ66) (Nat.le_of_ble_eq_true rfl) jml_226 (Nat.le_of_ble_eq_true rfl) ?_
        refine jr_aload_n jf_228_232 rfl (jg2_ne rfl hl0) ?_
        refine jr_iload_n jf_228_233 rfl (jg2_ne rfl hl1) ?_
        refine jr_iconst jf_228_234 jc_i_0 ?_
        refine jr_dload_n jf_228_235 rfl (jg2_ne rfl hl2) ?_
        replace h := jgd_of h; obtain ⟨hb67, h⟩ := h
        replace h := obd_of h; obtain ⟨μ68, hμ68, h⟩ := h
        refine jr_V6v_3 jf_228_236 hb67 (by omega) (r_R_st_2 (by omega) _ _ _ _ _ _ hμ68) (Nat.le_of_ble_eq_true rfl) jml_226 (Nat.le_of_ble_eq_true rfl) ?_
        refine jr_aload_n jf_228_239 rfl (jg2_ne rfl hl0) ?_
        refine jr_iload_n jf_228_240 rfl (jg2_ne rfl hl1) ?_
        refine jr_iconst jf_228_241 jc_i_3 ?_
        refine jr_aload_n jf_228_242 rfl (jg2_ne rfl hl0) ?_
        refine jr_iload_n jf_228_243 rfl (jg2_ne rfl hl1) ?_
        refine jr_iconst jf_228_244 jc_i_2 ?_
        replace h := jgd_of h; obtain ⟨hb69, h⟩ := h
        replace h := obd_of h; obtain ⟨x70, hx70, h⟩ := h
        refine jr_V6_2 jf_228_245 hb69 (by omega) (r_R_st (by omega) _ _ _ _ _ hx70) (Nat.le_of_ble_eq_true rfl) jml_225 (Nat.le_of_ble_eq_true rfl) ?_
        replace h := jgd_of h; obtain ⟨hb71, h⟩ := h
        replace h := obd_of h; obtain ⟨μ72, hμ72, h⟩ := h
        refine jr_V6v_3 jf_228_248 hb71 (by omega) (r_R_st_2 (by omega) _ _ _ _ _ _ hμ72) (Nat.le_of_ble_eq_true rfl) jml_226 (Nat.le_of_ble_eq_true rfl) ?_
        refine jr_aload_n jf_228_251 rfl (jg2_ne rfl hl0) ?_
        refine jr_iload_n jf_228_252 rfl (jg2_ne rfl hl1) ?_
        refine jr_iconst jf_228_253 jc_i_2 ?_
        refine jr_dload jf_228_254 jg2_same ?_
        replace h := jgd_of h; obtain ⟨hb73, h⟩ := h
        replace h := obd_of h; obtain ⟨μ74, hμ74, h⟩ := h
        refine jr_V6v_3 jf_228_256 hb73 (by omega) (r_R_st_2 (by omega) _ _ _ _ _ _ hμ74) (Nat.le_of_ble_eq_true rfl) jml_226 (Nat.le_of_ble_eq_true rfl) ?_
        refine jr_dload jf_228_259 jg2_same ?_
        obtain ⟨rfl, rfl⟩ := Prod.mk.inj (Option.some.inj h)
        exact jr_retD jf_228_261 jmt_228
      · refine jsw_miss (by decide) hc (by decide : (2 : Int) + 1 = 3) ?_
        replace h := ite_or h; rcases h with ⟨hc, h⟩ | ⟨hc, h⟩
        · refine jsw_hit (by decide) hc ?_
          refine jr_aload_n jf_228_262 rfl hl0 ?_
          refine jr_iload_n jf_228_263 rfl hl1 ?_
          replace h := jgd_of h; obtain ⟨hb75, h⟩ := h
          replace h := obd_of h; obtain ⟨μ76, hμ76, h⟩ := h
          refine jr_V6v_1 jf_228_264 hb75 (by omega) (r_R_begins (by omega) _ _ _ _ hμ76) (Nat.le_of_ble_eq_true rfl) jml_215 (Nat.le_of_ble_eq_true rfl) ?_
          refine jr_aload_n jf_228_267 rfl hl0 ?_
          refine jr_dload_n jf_228_268 rfl hl2 ?_
          refine jr_iconst jf_228_269 jc_i_0 ?_
          replace h := jgd_of h; obtain ⟨hb77, h⟩ := h
          replace h := obd_of h; obtain ⟨μ78, hμ78, h⟩ := h
          refine jr_V6v_2 jf_228_270 hb77 (by omega) (r_R_term_2 (by omega) _ _ _ _ _ hμ78) (Nat.le_of_ble_eq_true rfl) jml_224 (Nat.le_of_ble_eq_true rfl) ?_
          refine jr_aload_n jf_228_273 rfl hl0 ?_
          refine jr_aload_n jf_228_274 rfl hl0 ?_
          refine jr_iload_n jf_228_275 rfl hl1 ?_
          refine jr_iconst jf_228_276 jc_i_3 ?_
          replace h := jgd_of h; obtain ⟨hb79, h⟩ := h
          replace h := obd_of h; obtain ⟨x80, hx80, h⟩ := h
          refine jr_V6_2 jf_228_277 hb79 (by omega) (r_R_c (by omega) _ _ _ _ _ hx80) (Nat.le_of_ble_eq_true rfl) jml_216 (Nat.le_of_ble_eq_true rfl) ?_
          refine jr_aload_n jf_228_280 rfl hl0 ?_
          refine jr_iload_n jf_228_281 rfl hl1 ?_
          refine jr_iconst jf_228_282 jc_i_0 ?_
          replace h := jgd_of h; obtain ⟨hb81, h⟩ := h
          replace h := obd_of h; obtain ⟨x82, hx82, h⟩ := h
          refine jr_V6_2 jf_228_283 hb81 (by omega) (r_R_st (by omega) _ _ _ _ _ hx82) (Nat.le_of_ble_eq_true rfl) jml_225 (Nat.le_of_ble_eq_true rfl) ?_
          refine jr_iconst jf_228_286 jc_i_1 ?_
          replace h := jgd_of h; obtain ⟨hb83, h⟩ := h
          replace h := obd_of h; obtain ⟨μ84, hμ84, h⟩ := h
          refine jr_V6v_3 jf_228_287 hb83 (by omega) (r_R_term (by omega) _ _ _ _ _ _ hμ84) (Nat.le_of_ble_eq_true rfl) jml_217 (Nat.le_of_ble_eq_true rfl) ?_
          refine jr_aload_n jf_228_290 rfl hl0 ?_
          refine jr_aload_n jf_228_291 rfl hl0 ?_
          refine jr_iload_n jf_228_292 rfl hl1 ?_
          refine jr_iconst jf_228_293 jc_i_4 ?_
          replace h := jgd_of h; obtain ⟨hb85, h⟩ := h
          replace h := obd_of h; obtain ⟨x86, hx86, h⟩ := h
          refine jr_V6_2 jf_228_294 hb85 (by omega) (r_R_c (by omega) _ _ _ _ _ hx86) (Nat.le_of_ble_eq_true rfl) jml_216 (Nat.le_of_ble_eq_true rfl) ?_
          refine jr_aload_n jf_228_297 rfl hl0 ?_
          refine jr_iload_n jf_228_298 rfl hl1 ?_
          refine jr_iconst jf_228_299 jc_i_1 ?_
          replace h := jgd_of h; obtain ⟨hb87, h⟩ := h
          replace h := obd_of h; obtain ⟨x88, hx88, h⟩ := h
          refine jr_V6_2 jf_228_300 hb87 (by omega) (r_R_st (by omega) _ _ _ _ _ hx88) (Nat.le_of_ble_eq_true rfl) jml_225 (Nat.le_of_ble_eq_true rfl) ?_
          refine jr_iconst jf_228_303 jc_i_1 ?_
          replace h := jgd_of h; obtain ⟨hb89, h⟩ := h
          replace h := obd_of h; obtain ⟨μ90, hμ90, h⟩ := h
          refine jr_V6v_3 jf_228_304 hb89 (by omega) (r_R_term (by omega) _ _ _ _ _ _ hμ90) (Nat.le_of_ble_eq_true rfl) jml_217 (Nat.le_of_ble_eq_true rfl) ?_
          refine jr_aload_n jf_228_307 rfl hl0 ?_
          replace h := jgd_of h; obtain ⟨hb91, h⟩ := h
          replace h := jbd2_of h; obtain ⟨x92, μ93, hx92, h⟩ := h
          refine jr_V6_0 jf_228_308 hb91 (by omega) (r_R_comes (by omega) _ _ _ _ hx92) (Nat.le_of_ble_eq_true rfl) jml_221 (Nat.le_of_ble_eq_true rfl) ?_
          refine jr_dstore jf_228_311 jml_228 (by decide) ?_
          refine jr_aload_n jf_228_313 rfl (jg2_ne rfl hl0) ?_
          refine jr_iload_n jf_228_314 rfl (jg2_ne rfl hl1) ?_
          replace h := jgd_of h; obtain ⟨hb94, h⟩ := h
          replace h := obd_of h; obtain ⟨μ95, hμ95, h⟩ := h
          refine jr_V6v_1 jf_228_315 hb94 (by omega) (r_R_begins (by omega) _ _ _ _ hμ95) (Nat.le_of_ble_eq_true rfl) jml_215 (Nat.le_of_ble_eq_true rfl) ?_
          refine jr_aload_n jf_228_318 rfl (jg2_ne rfl hl0) ?_
          refine jr_aload_n jf_228_319 rfl (jg2_ne rfl hl0) ?_
          refine jr_iload_n jf_228_320 rfl (jg2_ne rfl hl1) ?_
          refine jr_iconst jf_228_321 jc_i_0 ?_
          replace h := jgd_of h; obtain ⟨hb96, h⟩ := h
          replace h := obd_of h; obtain ⟨x97, hx97, h⟩ := h
          refine jr_V6_2 jf_228_322 hb96 (by omega) (r_R_c (by omega) _ _ _ _ _ hx97) (Nat.le_of_ble_eq_true rfl) jml_216 (Nat.le_of_ble_eq_true rfl) ?_
          refine jr_dload jf_228_325 jg2_same ?_
          refine jr_iconst jf_228_327 jc_i_0 ?_
          replace h := jgd_of h; obtain ⟨hb98, h⟩ := h
          replace h := obd_of h; obtain ⟨μ99, hμ99, h⟩ := h
          refine jr_V6v_3 jf_228_328 hb98 (by omega) (r_R_term (by omega) _ _ _ _ _ _ hμ99) (Nat.le_of_ble_eq_true rfl) jml_217 (Nat.le_of_ble_eq_true rfl) ?_
          refine jr_aload_n jf_228_331 rfl (jg2_ne rfl hl0) ?_
          refine jr_aload_n jf_228_332 rfl (jg2_ne rfl hl0) ?_
          refine jr_iload_n jf_228_333 rfl (jg2_ne rfl hl1) ?_
          refine jr_iconst jf_228_334 jc_i_1 ?_
          replace h := jgd_of h; obtain ⟨hb100, h⟩ := h
          replace h := obd_of h; obtain ⟨x101, hx101, h⟩ := h
          refine jr_V6_2 jf_228_335 hb100 (by omega) (r_R_c (by omega) _ _ _ _ _ hx101) (Nat.le_of_ble_eq_true rfl) jml_216 (Nat.le_of_ble_eq_true rfl) ?_
          refine jr_aload_n jf_228_338 rfl (jg2_ne rfl hl0) ?_
          refine jr_iload_n jf_228_339 rfl (jg2_ne rfl hl1) ?_
          refine jr_iconst jf_228_340 jc_i_0 ?_
          replace h := jgd_of h; obtain ⟨hb102, h⟩ := h
          replace h := obd_of h; obtain ⟨x103, hx103, h⟩ := h
          refine jr_V6_2 jf_228_341 hb102 (by omega) (r_R_st (by omega) _ _ _ _ _ hx103) (Nat.le_of_ble_eq_true rfl) jml_225 (Nat.le_of_ble_eq_true rfl) ?_
          refine jr_iconst jf_228_344 jc_i_0 ?_
          replace h := jgd_of h; obtain ⟨hb104, h⟩ := h
          replace h := obd_of h; obtain ⟨μ105, hμ105, h⟩ := h
          refine jr_V6v_3 jf_228_345 hb104 (by omega) (r_R_term (by omega) _ _ _ _ _ _ hμ105) (Nat.le_of_ble_eq_true rfl) jml_217 (Nat.le_of_ble_eq_true rfl) ?_
          refine jr_aload_n jf_228_348 rfl (jg2_ne rfl hl0) ?_
          refine jr_aload_n jf_228_349 rfl (jg2_ne rfl hl0) ?_
          refine jr_iload_n jf_228_350 rfl (jg2_ne rfl hl1) ?_
          refine jr_iconst jf_228_351 jc_i_2 ?_
          replace h := jgd_of h; obtain ⟨hb106, h⟩ := h
          replace h := obd_of h; obtain ⟨x107, hx107, h⟩ := h
          refine jr_V6_2 jf_228_352 hb106 (by omega) (r_R_c (by omega) _ _ _ _ _ hx107) (Nat.le_of_ble_eq_true rfl) jml_216 (Nat.le_of_ble_eq_true rfl) ?_
          refine jr_aload_n jf_228_355 rfl (jg2_ne rfl hl0) ?_
          refine jr_iload_n jf_228_356 rfl (jg2_ne rfl hl1) ?_
          refine jr_iconst jf_228_357 jc_i_1 ?_
          replace h := jgd_of h; obtain ⟨hb108, h⟩ := h
          replace h := obd_of h; obtain ⟨x109, hx109, h⟩ := h
          refine jr_V6_2 jf_228_358 hb108 (by omega) (r_R_st (by omega) _ _ _ _ _ hx109) (Nat.le_of_ble_eq_true rfl) jml_225 (Nat.le_of_ble_eq_true rfl) ?_
          refine jr_iconst jf_228_361 jc_i_0 ?_
          replace h := jgd_of h; obtain ⟨hb110, h⟩ := h
          replace h := obd_of h; obtain ⟨μ111, hμ111, h⟩ := h
          refine jr_V6v_3 jf_228_362 hb110 (by omega) (r_R_term (by omega) _ _ _ _ _ _ hμ111) (Nat.le_of_ble_eq_true rfl) jml_217 (Nat.le_of_ble_eq_true rfl) ?_
          refine jr_aload_n jf_228_365 rfl (jg2_ne rfl hl0) ?_
          replace h := jgd_of h; obtain ⟨hb112, h⟩ := h
          replace h := jbd2_of h; obtain ⟨x113, μ114, hx113, h⟩ := h
          refine jr_V6_0 jf_228_366 hb112 (by omega) (r_R_comes (by omega) _ _ _ _ hx113) (Nat.le_of_ble_eq_true rfl) jml_221 (Nat.le_of_ble_eq_true rfl) ?_
          refine jr_dstore jf_228_369 jml_228 (by decide) ?_
          refine jr_aload_n jf_228_371 rfl (jg2_ne rfl (jg2_ne rfl hl0)) ?_
          refine jr_iload_n jf_228_372 rfl (jg2_ne rfl (jg2_ne rfl hl1)) ?_
          refine jr_iconst jf_228_373 jc_i_1 ?_
          refine jr_aload_n jf_228_374 rfl (jg2_ne rfl (jg2_ne rfl hl0)) ?_
          refine jr_iload_n jf_228_375 rfl (jg2_ne rfl (jg2_ne rfl hl1)) ?_
          refine jr_iconst jf_228_376 jc_i_0 ?_
          replace h := jgd_of h; obtain ⟨hb115, h⟩ := h
          replace h := obd_of h; obtain ⟨x116, hx116, h⟩ := h
          refine jr_V6_2 jf_228_377 hb115 (by omega) (r_R_st (by omega) _ _ _ _ _ hx116) (Nat.le_of_ble_eq_true rfl) jml_225 (Nat.le_of_ble_eq_true rfl) ?_
          replace h := jgd_of h; obtain ⟨hb117, h⟩ := h
          replace h := obd_of h; obtain ⟨μ118, hμ118, h⟩ := h
          refine jr_V6v_3 jf_228_380 hb117 (by omega) (r_R_st_2 (by omega) _ _ _ _ _ _ hμ118) (Nat.le_of_ble_eq_true rfl) jml_226 (Nat.le_of_ble_eq_true rfl) ?_
          refine jr_aload_n jf_228_383 rfl (jg2_ne rfl (jg2_ne rfl hl0)) ?_
          refine jr_iload_n jf_228_384 rfl (jg2_ne rfl (jg2_ne rfl hl1)) ?_
          refine jr_iconst jf_228_385 jc_i_0 ?_
          refine jr_dload jf_228_386 (jg2_ne rfl jg2_same) ?_
          replace h := jgd_of h; obtain ⟨hb119, h⟩ := h
          replace h := obd_of h; obtain ⟨μ120, hμ120, h⟩ := h
          refine jr_V6v_3 jf_228_388 hb119 (by omega) (r_R_st_2 (by omega) _ _ _ _ _ _ hμ120) (Nat.le_of_ble_eq_true rfl) jml_226 (Nat.le_of_ble_eq_true rfl) ?_
          refine jr_dload jf_228_391 jg2_same ?_
          obtain ⟨rfl, rfl⟩ := Prod.mk.inj (Option.some.inj h)
          exact jr_retD jf_228_393 jmt_228
        · refine jsw_miss (by decide) hc (by decide : (3 : Int) + 1 = 4) ?_
          replace h := ite_or h; rcases h with ⟨hc, h⟩ | ⟨hc, h⟩
          · refine jsw_hit (by decide) hc ?_
            refine jr_aload_n jf_228_394 rfl hl0 ?_
            refine jr_iload_n jf_228_395 rfl hl1 ?_
            replace h := jgd_of h; obtain ⟨hb121, h⟩ := h
            replace h := obd_of h; obtain ⟨μ122, hμ122, h⟩ := h
            refine jr_V6v_1 jf_228_396 hb121 (by omega) (r_R_begins (by omega) _ _ _ _ hμ122) (Nat.le_of_ble_eq_true rfl) jml_215 (Nat.le_of_ble_eq_true rfl) ?_
            refine jr_aload_n jf_228_399 rfl hl0 ?_
            refine jr_aload_n jf_228_400 rfl hl0 ?_
            refine jr_iload_n jf_228_401 rfl hl1 ?_
            refine jr_iconst jf_228_402 jc_i_0 ?_
            replace h := jgd_of h; obtain ⟨hb123, h⟩ := h
            replace h := obd_of h; obtain ⟨x124, hx124, h⟩ := h
            refine jr_V6_2 jf_228_403 hb123 (by omega) (r_R_c (by omega) _ _ _ _ _ hx124) (Nat.le_of_ble_eq_true rfl) jml_216 (Nat.le_of_ble_eq_true rfl) ?_
            refine jr_dload_n jf_228_406 rfl hl2 ?_
            refine jr_iconst jf_228_407 jc_i_0 ?_
            replace h := jgd_of h; obtain ⟨hb125, h⟩ := h
            replace h := obd_of h; obtain ⟨μ126, hμ126, h⟩ := h
            refine jr_V6v_3 jf_228_408 hb125 (by omega) (r_R_term (by omega) _ _ _ _ _ _ hμ126) (Nat.le_of_ble_eq_true rfl) jml_217 (Nat.le_of_ble_eq_true rfl) ?_
            refine jr_aload_n jf_228_411 rfl hl0 ?_
            refine jr_aload_n jf_228_412 rfl hl0 ?_
            refine jr_iload_n jf_228_413 rfl hl1 ?_
            refine jr_iconst jf_228_414 jc_i_0 ?_
            replace h := jgd_of h; obtain ⟨hb127, h⟩ := h
            replace h := obd_of h; obtain ⟨x128, hx128, h⟩ := h
            refine jr_V6_2 jf_228_415 hb127 (by omega) (r_R_st (by omega) _ _ _ _ _ hx128) (Nat.le_of_ble_eq_true rfl) jml_225 (Nat.le_of_ble_eq_true rfl) ?_
            refine jr_iconst jf_228_418 jc_i_0 ?_
            replace h := jgd_of h; obtain ⟨hb129, h⟩ := h
            replace h := obd_of h; obtain ⟨μ130, hμ130, h⟩ := h
            refine jr_V6v_2 jf_228_419 hb129 (by omega) (r_R_term_2 (by omega) _ _ _ _ _ hμ130) (Nat.le_of_ble_eq_true rfl) jml_224 (Nat.le_of_ble_eq_true rfl) ?_
            refine jr_aload_n jf_228_422 rfl hl0 ?_
            replace h := jgd_of h; obtain ⟨hb131, h⟩ := h
            replace h := jbd2_of h; obtain ⟨x132, μ133, hx132, h⟩ := h
            refine jr_V6_0 jf_228_423 hb131 (by omega) (r_R_comes (by omega) _ _ _ _ hx132) (Nat.le_of_ble_eq_true rfl) jml_221 (Nat.le_of_ble_eq_true rfl) ?_
            refine jr_dstore jf_228_426 jml_228 (by decide) ?_
            refine jr_aload_n jf_228_428 rfl (jg2_ne rfl hl0) ?_
            refine jr_iload_n jf_228_429 rfl (jg2_ne rfl hl1) ?_
            replace h := jgd_of h; obtain ⟨hb134, h⟩ := h
            replace h := obd_of h; obtain ⟨μ135, hμ135, h⟩ := h
            refine jr_V6v_1 jf_228_430 hb134 (by omega) (r_R_begins (by omega) _ _ _ _ hμ135) (Nat.le_of_ble_eq_true rfl) jml_215 (Nat.le_of_ble_eq_true rfl) ?_
            refine jr_aload_n jf_228_433 rfl (jg2_ne rfl hl0) ?_
            refine jr_aload_n jf_228_434 rfl (jg2_ne rfl hl0) ?_
            refine jr_iload_n jf_228_435 rfl (jg2_ne rfl hl1) ?_
            refine jr_iconst jf_228_436 jc_i_1 ?_
            replace h := jgd_of h; obtain ⟨hb136, h⟩ := h
            replace h := obd_of h; obtain ⟨x137, hx137, h⟩ := h
            refine jr_V6_2 jf_228_437 hb136 (by omega) (r_R_c (by omega) _ _ _ _ _ hx137) (Nat.le_of_ble_eq_true rfl) jml_216 (Nat.le_of_ble_eq_true rfl) ?_
            refine jr_dload_n jf_228_440 rfl (jg2_ne rfl hl2) ?_
            refine jr_iconst jf_228_441 jc_i_0 ?_
            replace h := jgd_of h; obtain ⟨hb138, h⟩ := h
            replace h := obd_of h; obtain ⟨μ139, hμ139, h⟩ := h
            refine jr_V6v_3 jf_228_442 hb138 (by omega) (r_R_term (by omega) _ _ _ _ _ _ hμ139) (Nat.le_of_ble_eq_true rfl) jml_217 (Nat.le_of_ble_eq_true rfl) ?_
            refine jr_aload_n jf_228_445 rfl (jg2_ne rfl hl0) ?_
            refine jr_aload_n jf_228_446 rfl (jg2_ne rfl hl0) ?_
            refine jr_iload_n jf_228_447 rfl (jg2_ne rfl hl1) ?_
            refine jr_iconst jf_228_448 jc_i_3 ?_
            replace h := jgd_of h; obtain ⟨hb140, h⟩ := h
            replace h := obd_of h; obtain ⟨x141, hx141, h⟩ := h
            refine jr_V6_2 jf_228_449 hb140 (by omega) (r_R_c (by omega) _ _ _ _ _ hx141) (Nat.le_of_ble_eq_true rfl) jml_216 (Nat.le_of_ble_eq_true rfl) ?_
            refine jr_dload jf_228_452 jg2_same ?_
            refine jr_iconst jf_228_454 jc_i_1 ?_
            replace h := jgd_of h; obtain ⟨hb142, h⟩ := h
            replace h := obd_of h; obtain ⟨μ143, hμ143, h⟩ := h
            refine jr_V6v_3 jf_228_455 hb142 (by omega) (r_R_term (by omega) _ _ _ _ _ _ hμ143) (Nat.le_of_ble_eq_true rfl) jml_217 (Nat.le_of_ble_eq_true rfl) ?_
            refine jr_aload_n jf_228_458 rfl (jg2_ne rfl hl0) ?_
            refine jr_aload_n jf_228_459 rfl (jg2_ne rfl hl0) ?_
            refine jr_iload_n jf_228_460 rfl (jg2_ne rfl hl1) ?_
            refine jr_iconst jf_228_461 jc_i_1 ?_
            replace h := jgd_of h; obtain ⟨hb144, h⟩ := h
            replace h := obd_of h; obtain ⟨x145, hx145, h⟩ := h
            refine jr_V6_2 jf_228_462 hb144 (by omega) (r_R_st (by omega) _ _ _ _ _ hx145) (Nat.le_of_ble_eq_true rfl) jml_225 (Nat.le_of_ble_eq_true rfl) ?_
            refine jr_iconst jf_228_465 jc_i_0 ?_
            replace h := jgd_of h; obtain ⟨hb146, h⟩ := h
            replace h := obd_of h; obtain ⟨μ147, hμ147, h⟩ := h
            refine jr_V6v_2 jf_228_466 hb146 (by omega) (r_R_term_2 (by omega) _ _ _ _ _ hμ147) (Nat.le_of_ble_eq_true rfl) jml_224 (Nat.le_of_ble_eq_true rfl) ?_
            refine jr_aload_n jf_228_469 rfl (jg2_ne rfl hl0) ?_
            refine jr_iload_n jf_228_470 rfl (jg2_ne rfl hl1) ?_
            refine jr_iconst jf_228_471 jc_i_0 ?_
            refine jr_aload_n jf_228_472 rfl (jg2_ne rfl hl0) ?_
            replace h := jgd_of h; obtain ⟨hb148, h⟩ := h
            replace h := jbd2_of h; obtain ⟨x149, μ150, hx149, h⟩ := h
            refine jr_V6_0 jf_228_473 hb148 (by omega) (r_R_comes (by omega) _ _ _ _ hx149) (Nat.le_of_ble_eq_true rfl) jml_221 (Nat.le_of_ble_eq_true rfl) ?_
            replace h := jgd_of h; obtain ⟨hb151, h⟩ := h
            replace h := obd_of h; obtain ⟨μ152, hμ152, h⟩ := h
            refine jr_V6v_3 jf_228_476 hb151 (by omega) (r_R_st_2 (by omega) _ _ _ _ _ _ hμ152) (Nat.le_of_ble_eq_true rfl) jml_226 (Nat.le_of_ble_eq_true rfl) ?_
            refine jr_aload_n jf_228_479 rfl (jg2_ne rfl hl0) ?_
            refine jr_iload_n jf_228_480 rfl (jg2_ne rfl hl1) ?_
            replace h := jgd_of h; obtain ⟨hb153, h⟩ := h
            replace h := obd_of h; obtain ⟨μ154, hμ154, h⟩ := h
            refine jr_V6v_1 jf_228_481 hb153 (by omega) (r_R_begins (by omega) _ _ _ _ hμ154) (Nat.le_of_ble_eq_true rfl) jml_215 (Nat.le_of_ble_eq_true rfl) ?_
            refine jr_aload_n jf_228_484 rfl (jg2_ne rfl hl0) ?_
            refine jr_aload_n jf_228_485 rfl (jg2_ne rfl hl0) ?_
            refine jr_iload_n jf_228_486 rfl (jg2_ne rfl hl1) ?_
            refine jr_iconst jf_228_487 jc_i_2 ?_
            replace h := jgd_of h; obtain ⟨hb155, h⟩ := h
            replace h := obd_of h; obtain ⟨x156, hx156, h⟩ := h
            refine jr_V6_2 jf_228_488 hb155 (by omega) (r_R_c (by omega) _ _ _ _ _ hx156) (Nat.le_of_ble_eq_true rfl) jml_216 (Nat.le_of_ble_eq_true rfl) ?_
            refine jr_dload_n jf_228_491 rfl (jg2_ne rfl hl2) ?_
            refine jr_iconst jf_228_492 jc_i_0 ?_
            replace h := jgd_of h; obtain ⟨hb157, h⟩ := h
            replace h := obd_of h; obtain ⟨μ158, hμ158, h⟩ := h
            refine jr_V6v_3 jf_228_493 hb157 (by omega) (r_R_term (by omega) _ _ _ _ _ _ hμ158) (Nat.le_of_ble_eq_true rfl) jml_217 (Nat.le_of_ble_eq_true rfl) ?_
            refine jr_aload_n jf_228_496 rfl (jg2_ne rfl hl0) ?_
            refine jr_aload_n jf_228_497 rfl (jg2_ne rfl hl0) ?_
            refine jr_iload_n jf_228_498 rfl (jg2_ne rfl hl1) ?_
            refine jr_iconst jf_228_499 jc_i_4 ?_
            replace h := jgd_of h; obtain ⟨hb159, h⟩ := h
            replace h := obd_of h; obtain ⟨x160, hx160, h⟩ := h
            refine jr_V6_2 jf_228_500 hb159 (by omega) (r_R_c (by omega) _ _ _ _ _ hx160) (Nat.le_of_ble_eq_true rfl) jml_216 (Nat.le_of_ble_eq_true rfl) ?_
            refine jr_dload jf_228_503 jg2_same ?_
            refine jr_iconst jf_228_505 jc_i_1 ?_
            replace h := jgd_of h; obtain ⟨hb161, h⟩ := h
            replace h := obd_of h; obtain ⟨μ162, hμ162, h⟩ := h
            refine jr_V6v_3 jf_228_506 hb161 (by omega) (r_R_term (by omega) _ _ _ _ _ _ hμ162) (Nat.le_of_ble_eq_true rfl) jml_217 (Nat.le_of_ble_eq_true rfl) ?_
            refine jr_aload_n jf_228_509 rfl (jg2_ne rfl hl0) ?_
            refine jr_iload_n jf_228_510 rfl (jg2_ne rfl hl1) ?_
            refine jr_iconst jf_228_511 jc_i_1 ?_
            refine jr_aload_n jf_228_512 rfl (jg2_ne rfl hl0) ?_
            replace h := jgd_of h; obtain ⟨hb163, h⟩ := h
            replace h := jbd2_of h; obtain ⟨x164, μ165, hx164, h⟩ := h
            refine jr_V6_0 jf_228_513 hb163 (by omega) (r_R_comes (by omega) _ _ _ _ hx164) (Nat.le_of_ble_eq_true rfl) jml_221 (Nat.le_of_ble_eq_true rfl) ?_
            replace h := jgd_of h; obtain ⟨hb166, h⟩ := h
            replace h := obd_of h; obtain ⟨μ167, hμ167, h⟩ := h
            refine jr_V6v_3 jf_228_516 hb166 (by omega) (r_R_st_2 (by omega) _ _ _ _ _ _ hμ167) (Nat.le_of_ble_eq_true rfl) jml_226 (Nat.le_of_ble_eq_true rfl) ?_
            refine jr_dload jf_228_519 jg2_same ?_
            obtain ⟨rfl, rfl⟩ := Prod.mk.inj (Option.some.inj h)
            exact jr_retD jf_228_521 jmt_228
          · refine jsw_miss (by decide) hc (by decide : (4 : Int) + 1 = 5) ?_
            replace h := ite_or h; rcases h with ⟨hc, h⟩ | ⟨hc, h⟩
            · refine jsw_hit (by decide) hc ?_
              refine jr_aload_n jf_228_522 rfl hl0 ?_
              refine jr_iload_n jf_228_523 rfl hl1 ?_
              replace h := jgd_of h; obtain ⟨hb168, h⟩ := h
              replace h := obd_of h; obtain ⟨μ169, hμ169, h⟩ := h
              refine jr_V6v_1 jf_228_524 hb168 (by omega) (r_R_begins (by omega) _ _ _ _ hμ169) (Nat.le_of_ble_eq_true rfl) jml_215 (Nat.le_of_ble_eq_true rfl) ?_
              refine jr_aload_n jf_228_527 rfl hl0 ?_
              refine jr_dload_n jf_228_528 rfl hl2 ?_
              refine jr_iconst jf_228_529 jc_i_0 ?_
              replace h := jgd_of h; obtain ⟨hb170, h⟩ := h
              replace h := obd_of h; obtain ⟨μ171, hμ171, h⟩ := h
              refine jr_V6v_2 jf_228_530 hb170 (by omega) (r_R_term_2 (by omega) _ _ _ _ _ hμ171) (Nat.le_of_ble_eq_true rfl) jml_224 (Nat.le_of_ble_eq_true rfl) ?_
              refine jr_aload_n jf_228_533 rfl hl0 ?_
              refine jr_aload_n jf_228_534 rfl hl0 ?_
              refine jr_iload_n jf_228_535 rfl hl1 ?_
              refine jr_iconst jf_228_536 jc_i_0 ?_
              replace h := jgd_of h; obtain ⟨hb172, h⟩ := h
              replace h := obd_of h; obtain ⟨x173, hx173, h⟩ := h
              refine jr_V6_2 jf_228_537 hb172 (by omega) (r_R_c (by omega) _ _ _ _ _ hx173) (Nat.le_of_ble_eq_true rfl) jml_216 (Nat.le_of_ble_eq_true rfl) ?_
              refine jr_aload_n jf_228_540 rfl hl0 ?_
              refine jr_iload_n jf_228_541 rfl hl1 ?_
              refine jr_iconst jf_228_542 jc_i_0 ?_
              replace h := jgd_of h; obtain ⟨hb174, h⟩ := h
              replace h := obd_of h; obtain ⟨x175, hx175, h⟩ := h
              refine jr_V6_2 jf_228_543 hb174 (by omega) (r_R_st (by omega) _ _ _ _ _ hx175) (Nat.le_of_ble_eq_true rfl) jml_225 (Nat.le_of_ble_eq_true rfl) ?_
              refine jr_iconst jf_228_546 jc_i_1 ?_
              replace h := jgd_of h; obtain ⟨hb176, h⟩ := h
              replace h := obd_of h; obtain ⟨μ177, hμ177, h⟩ := h
              refine jr_V6v_3 jf_228_547 hb176 (by omega) (r_R_term (by omega) _ _ _ _ _ _ hμ177) (Nat.le_of_ble_eq_true rfl) jml_217 (Nat.le_of_ble_eq_true rfl) ?_
              refine jr_aload_n jf_228_550 rfl hl0 ?_
              replace h := jgd_of h; obtain ⟨hb178, h⟩ := h
              replace h := jbd2_of h; obtain ⟨x179, μ180, hx179, h⟩ := h
              refine jr_V6_0 jf_228_551 hb178 (by omega) (r_R_comes (by omega) _ _ _ _ hx179) (Nat.le_of_ble_eq_true rfl) jml_221 (Nat.le_of_ble_eq_true rfl) ?_
              refine jr_dstore jf_228_554 jml_228 (by decide) ?_
              refine jr_aload_n jf_228_556 rfl (jg2_ne rfl hl0) ?_
              refine jr_iload_n jf_228_557 rfl (jg2_ne rfl hl1) ?_
              replace h := jgd_of h; obtain ⟨hb181, h⟩ := h
              replace h := obd_of h; obtain ⟨μ182, hμ182, h⟩ := h
              refine jr_V6v_1 jf_228_558 hb181 (by omega) (r_R_begins (by omega) _ _ _ _ hμ182) (Nat.le_of_ble_eq_true rfl) jml_215 (Nat.le_of_ble_eq_true rfl) ?_
              refine jr_aload_n jf_228_561 rfl (jg2_ne rfl hl0) ?_
              refine jr_aload_n jf_228_562 rfl (jg2_ne rfl hl0) ?_
              refine jr_iload_n jf_228_563 rfl (jg2_ne rfl hl1) ?_
              refine jr_iconst jf_228_564 jc_i_0 ?_
              replace h := jgd_of h; obtain ⟨hb183, h⟩ := h
              replace h := obd_of h; obtain ⟨x184, hx184, h⟩ := h
              refine jr_V6_2 jf_228_565 hb183 (by omega) (r_R_c (by omega) _ _ _ _ _ hx184) (Nat.le_of_ble_eq_true rfl) jml_216 (Nat.le_of_ble_eq_true rfl) ?_
              refine jr_dload jf_228_568 jg2_same ?_
              refine jr_iconst jf_228_570 jc_i_0 ?_
              replace h := jgd_of h; obtain ⟨hb185, h⟩ := h
              replace h := obd_of h; obtain ⟨μ186, hμ186, h⟩ := h
              refine jr_V6v_3 jf_228_571 hb185 (by omega) (r_R_term (by omega) _ _ _ _ _ _ hμ186) (Nat.le_of_ble_eq_true rfl) jml_217 (Nat.le_of_ble_eq_true rfl) ?_
              refine jr_aload_n jf_228_574 rfl (jg2_ne rfl hl0) ?_
              refine jr_aload_n jf_228_575 rfl (jg2_ne rfl hl0) ?_
              refine jr_iload_n jf_228_576 rfl (jg2_ne rfl hl1) ?_
              refine jr_iconst jf_228_577 jc_i_0 ?_
              replace h := jgd_of h; obtain ⟨hb187, h⟩ := h
              replace h := obd_of h; obtain ⟨x188, hx188, h⟩ := h
              refine jr_V6_2 jf_228_578 hb187 (by omega) (r_R_st (by omega) _ _ _ _ _ hx188) (Nat.le_of_ble_eq_true rfl) jml_225 (Nat.le_of_ble_eq_true rfl) ?_
              refine jr_iconst jf_228_581 jc_i_0 ?_
              replace h := jgd_of h; obtain ⟨hb189, h⟩ := h
              replace h := obd_of h; obtain ⟨μ190, hμ190, h⟩ := h
              refine jr_V6v_2 jf_228_582 hb189 (by omega) (r_R_term_2 (by omega) _ _ _ _ _ hμ190) (Nat.le_of_ble_eq_true rfl) jml_224 (Nat.le_of_ble_eq_true rfl) ?_
              refine jr_aload_n jf_228_585 rfl (jg2_ne rfl hl0) ?_
              refine jr_iload_n jf_228_586 rfl (jg2_ne rfl hl1) ?_
              refine jr_iconst jf_228_587 jc_i_0 ?_
              refine jr_dload jf_228_588 jg2_same ?_
              replace h := jgd_of h; obtain ⟨hb191, h⟩ := h
              replace h := obd_of h; obtain ⟨μ192, hμ192, h⟩ := h
              refine jr_V6v_3 jf_228_590 hb191 (by omega) (r_R_st_2 (by omega) _ _ _ _ _ _ hμ192) (Nat.le_of_ble_eq_true rfl) jml_226 (Nat.le_of_ble_eq_true rfl) ?_
              refine jr_aload_n jf_228_593 rfl (jg2_ne rfl hl0) ?_
              replace h := jgd_of h; obtain ⟨hb193, h⟩ := h
              replace h := jbd2_of h; obtain ⟨x194, μ195, hx194, h⟩ := h
              refine jr_V6_0 jf_228_594 hb193 (by omega) (r_R_comes (by omega) _ _ _ _ hx194) (Nat.le_of_ble_eq_true rfl) jml_221 (Nat.le_of_ble_eq_true rfl) ?_
              obtain ⟨rfl, rfl⟩ := Prod.mk.inj (Option.some.inj h)
              exact jr_retD jf_228_597 jmt_228
            · refine jsw_miss (by decide) hc (by decide : (5 : Int) + 1 = 6) ?_
              replace h := ite_or h; rcases h with ⟨hc, h⟩ | ⟨hc, h⟩
              · refine jsw_hit (by decide) hc ?_
                refine jr_aload_n jf_228_598 rfl hl0 ?_
                refine jr_iload_n jf_228_599 rfl hl1 ?_
                refine jr_dload_n jf_228_600 rfl hl2 ?_
                replace h := jgd_of h; obtain ⟨hb196, h⟩ := h
                replace h := jbd2_of h; obtain ⟨x197, μ198, hx197, h⟩ := h
                refine jr_V6_2 jf_228_601 hb196 (by omega) (r_R_rings (by omega) _ _ _ _ _ _ hx197) (Nat.le_of_ble_eq_true rfl) jml_229 (Nat.le_of_ble_eq_true rfl) ?_
                obtain ⟨rfl, rfl⟩ := Prod.mk.inj (Option.some.inj h)
                exact jr_retD jf_228_604 jmt_228
              · refine jsw_miss (by decide) hc (by decide : (6 : Int) + 1 = 7) ?_
                replace h := ite_or h; rcases h with ⟨hc, h⟩ | ⟨hc, h⟩
                · refine jsw_hit (by decide) hc ?_
                  refine jr_aload_n jf_228_605 rfl hl0 ?_
                  refine jr_iload_n jf_228_606 rfl hl1 ?_
                  refine jr_dload_n jf_228_607 rfl hl2 ?_
                  replace h := jgd_of h; obtain ⟨hb199, h⟩ := h
                  replace h := jbd2_of h; obtain ⟨x200, μ201, hx200, h⟩ := h
                  refine jr_V6_2 jf_228_608 hb199 (by omega) (r_R_rings (by omega) _ _ _ _ _ _ hx200) (Nat.le_of_ble_eq_true rfl) jml_229 (Nat.le_of_ble_eq_true rfl) ?_
                  refine jr_pop2 jf_228_611 rfl ?_
                  refine jr_aload_n jf_228_612 rfl hl0 ?_
                  refine jr_iload_n jf_228_613 rfl hl1 ?_
                  replace h := jgd_of h; obtain ⟨hb202, h⟩ := h
                  replace h := obd_of h; obtain ⟨μ203, hμ203, h⟩ := h
                  refine jr_V6v_1 jf_228_614 hb202 (by omega) (r_R_begins (by omega) _ _ _ _ hμ203) (Nat.le_of_ble_eq_true rfl) jml_215 (Nat.le_of_ble_eq_true rfl) ?_
                  refine jr_iconst jf_228_617 jc_i_0 ?_
                  refine jr_istore jf_228_618 jml_228 (by decide) ?_
                  exact r_R_works_620 hd _ _ _ _ _ _ _ _ (jg1_ne rfl hl0) (jg1_ne rfl hl1) jg1_same h
                · refine jsw_miss (by decide) hc (by decide : (7 : Int) + 1 = 8) ?_
                  replace h := ite_or h; rcases h with ⟨hc, h⟩ | ⟨hc, h⟩
                  · refine jsw_hit (by decide) hc ?_
                    refine jr_aload_n jf_228_692 rfl hl0 ?_
                    refine jr_iload_n jf_228_693 rfl hl1 ?_
                    replace h := jgd_of h; obtain ⟨hb204, h⟩ := h
                    replace h := obd_of h; obtain ⟨μ205, hμ205, h⟩ := h
                    refine jr_V6v_1 jf_228_694 hb204 (by omega) (r_R_begins (by omega) _ _ _ _ hμ205) (Nat.le_of_ble_eq_true rfl) jml_215 (Nat.le_of_ble_eq_true rfl) ?_
                    refine jr_aload_n jf_228_697 rfl hl0 ?_
                    refine jr_dload_n jf_228_698 rfl hl2 ?_
                    refine jr_iconst jf_228_699 jc_i_0 ?_
                    replace h := jgd_of h; obtain ⟨hb206, h⟩ := h
                    replace h := obd_of h; obtain ⟨μ207, hμ207, h⟩ := h
                    refine jr_V6v_2 jf_228_700 hb206 (by omega) (r_R_term_2 (by omega) _ _ _ _ _ hμ207) (Nat.le_of_ble_eq_true rfl) jml_224 (Nat.le_of_ble_eq_true rfl) ?_
                    refine jr_aload_n jf_228_703 rfl hl0 ?_
                    refine jr_aload_n jf_228_704 rfl hl0 ?_
                    refine jr_iload_n jf_228_705 rfl hl1 ?_
                    refine jr_iconst jf_228_706 jc_i_0 ?_
                    replace h := jgd_of h; obtain ⟨hb208, h⟩ := h
                    replace h := obd_of h; obtain ⟨x209, hx209, h⟩ := h
                    refine jr_V6_2 jf_228_707 hb208 (by omega) (r_R_c (by omega) _ _ _ _ _ hx209) (Nat.le_of_ble_eq_true rfl) jml_216 (Nat.le_of_ble_eq_true rfl) ?_
                    refine jr_aload_n jf_228_710 rfl hl0 ?_
                    refine jr_iload_n jf_228_711 rfl hl1 ?_
                    refine jr_aload_n jf_228_712 rfl hl0 ?_
                    replace h := obd_of h; obtain ⟨x210, hx210, h⟩ := h
                    refine jr_getA jf_228_713 hx210 ?_
                    refine jr_iload_n jf_228_716 rfl hl1 ?_
                    replace h := obd_of h; obtain ⟨a211, rfl, h⟩ := h
                    replace h := obd_of h; obtain ⟨x212, hx212, h⟩ := h
                    refine jr_iaload jf_228_717 hx212 ?_
                    replace h := jgd_of h; obtain ⟨hb213, h⟩ := h
                    replace h := obd_of h; obtain ⟨x214, hx214, h⟩ := h
                    refine jr_V6_2 jf_228_718 hb213 (by omega) (r_R_st (by omega) _ _ _ _ _ hx214) (Nat.le_of_ble_eq_true rfl) jml_225 (Nat.le_of_ble_eq_true rfl) ?_
                    refine jr_iconst jf_228_721 jc_i_0 ?_
                    replace h := jgd_of h; obtain ⟨hb215, h⟩ := h
                    replace h := obd_of h; obtain ⟨μ216, hμ216, h⟩ := h
                    refine jr_V6v_3 jf_228_722 hb215 (by omega) (r_R_term (by omega) _ _ _ _ _ _ hμ216) (Nat.le_of_ble_eq_true rfl) jml_217 (Nat.le_of_ble_eq_true rfl) ?_
                    refine jr_aload_n jf_228_725 rfl hl0 ?_
                    replace h := jgd_of h; obtain ⟨hb217, h⟩ := h
                    replace h := jbd2_of h; obtain ⟨x218, μ219, hx218, h⟩ := h
                    refine jr_V6_0 jf_228_726 hb217 (by omega) (r_R_comes (by omega) _ _ _ _ hx218) (Nat.le_of_ble_eq_true rfl) jml_221 (Nat.le_of_ble_eq_true rfl) ?_
                    refine jr_dstore jf_228_729 jml_228 (by decide) ?_
                    refine jr_aload_n jf_228_731 rfl (jg2_ne rfl hl0) ?_
                    refine jr_iload_n jf_228_732 rfl (jg2_ne rfl hl1) ?_
                    refine jr_dload jf_228_733 jg2_same ?_
                    replace h := jgd_of h; obtain ⟨hb220, h⟩ := h
                    replace h := jbd2_of h; obtain ⟨x221, μ222, hx221, h⟩ := h
                    refine jr_V6_2 jf_228_735 hb220 (by omega) (r_R_rings (by omega) _ _ _ _ _ _ hx221) (Nat.le_of_ble_eq_true rfl) jml_229 (Nat.le_of_ble_eq_true rfl) ?_
                    refine jr_pop2 jf_228_738 rfl ?_
                    refine jr_dload jf_228_739 jg2_same ?_
                    obtain ⟨rfl, rfl⟩ := Prod.mk.inj (Option.some.inj h)
                    exact jr_retD jf_228_741 jmt_228
                  · refine jsw_miss (by decide) hc (by decide : (8 : Int) + 1 = 9) ?_
                    refine jsw_end ?_
                    refine jr_aload_n jf_228_742 rfl hl0 ?_
                    refine jr_iload_n jf_228_743 rfl hl1 ?_
                    refine jr_dload_n jf_228_744 rfl hl2 ?_
                    replace h := jgd_of h; obtain ⟨hb223, h⟩ := h
                    replace h := jbd2_of h; obtain ⟨x224, μ225, hx224, h⟩ := h
                    refine jr_V6_2 jf_228_745 hb223 (by omega) (r_R_shapes (by omega) _ _ _ _ _ _ hx224) (Nat.le_of_ble_eq_true rfl) jml_230 (Nat.le_of_ble_eq_true rfl) ?_
                    obtain ⟨rfl, rfl⟩ := Prod.mk.inj (Option.some.inj h)
                    exact jr_retD jf_228_748 jmt_228
set_option maxRecDepth 10000 in
set_option maxHeartbeats 4000000 in
theorem r_R_works {N B : Nat} {SA : Nat → Nat} {d : Nat} (hd : 4 ≤ d) : ∀ (v0 : Nat) (v1 : Int32) (v2 : UInt64) (μ : JMem) (r : UInt64) (μ9 : JMem), g_R_works N B v0 v1 v2 μ = some (r, μ9) → jR B SA d m_R_works 0 (lv_args 0 [.ref v0, .int v1, .double v2]) [] μ (some (.double r)) μ9 := by
  intro v0 v1 v2 μ r μ9 h
  exact r_R_works_e hd (lv_args 0 _) _ _ _ _ _ _ (by simp [lv_args, jget, rv_cat, cat_int, cat_long, cat_double, cat_float, cat_ref]) (by simp [lv_args, jget, rv_cat, cat_int, cat_long, cat_double, cat_float, cat_ref]) (by simp [lv_args, jget, rv_cat, cat_int, cat_long, cat_double, cat_float, cat_ref]) h
/-! FilterBenchModel.goes(ID)I -/
set_option maxRecDepth 10000 in
set_option maxHeartbeats 4000000 in
theorem r_R_goes_113 {N B : Nat} {SA : Nat → Nat} {d : Nat} (hd : 5 ≤ d) {k26 : Nat → Int32 → Int32 → Bool → JMem → Option (Int32 × JMem)} (i26 : ∀ (L : JLoc) (v0 : Nat) (v1 : Int32) (v4 : Int32) (v5 : Bool) (μ : JMem) (r : Int32) (μ9 : JMem), jget L 0 = .ref v0 → jget L 1 = .int v1 → jget L 4 = .int v4 → jget L 5 = .int (jb v5) → k26 v0 v1 v4 v5 μ = some (r, μ9) → jR B SA d m_R_goes 26 L [] μ (some (.int r)) μ9) : ∀ (L : JLoc) (v0 : Nat) (v1 : Int32) (v4 : Int32) (μ : JMem) (r : Int32) (μ9 : JMem), jget L 0 = .ref v0 → jget L 1 = .int v1 → jget L 4 = .int v4 → g_R_goes_113 N B k26 v0 v1 v4 μ = some (r, μ9) → jR B SA d m_R_goes 113 L [] μ (some (.int r)) μ9 := by
  intro L v0 v1 v4 μ r μ9 hl0 hl1 hl4 h
  unfold g_R_goes_113 at h
  refine jr_aload_n jf_213_113 rfl hl0 ?_
  replace h := jgd_of h; obtain ⟨hb1, h⟩ := h
  replace h := jbd2_of h; obtain ⟨x2, μ3, hx2, h⟩ := h
  refine jr_V6_0 jf_213_114 hb1 (by omega) (r_R_goesOn (by omega) _ _ _ _ hx2) (Nat.le_of_ble_eq_true rfl) jml_214 (Nat.le_of_ble_eq_true rfl) ?_
  refine jr_istore jf_213_117 jml_213 (by decide) ?_
  refine jr_goto jf_213_119 ?_
  exact i26 _ _ _ _ _ _ _ _ (jg1_ne rfl hl0) (jg1_ne rfl hl1) (jg1_pre rfl hl4) jg1_same h
set_option maxRecDepth 10000 in
set_option maxHeartbeats 4000000 in
theorem r_R_goes_240 {N B : Nat} {SA : Nat → Nat} {d : Nat} (hd : 5 ≤ d) {k26 : Nat → Int32 → Int32 → Bool → JMem → Option (Int32 × JMem)} (i26 : ∀ (L : JLoc) (v0 : Nat) (v1 : Int32) (v4 : Int32) (v5 : Bool) (μ : JMem) (r : Int32) (μ9 : JMem), jget L 0 = .ref v0 → jget L 1 = .int v1 → jget L 4 = .int v4 → jget L 5 = .int (jb v5) → k26 v0 v1 v4 v5 μ = some (r, μ9) → jR B SA d m_R_goes 26 L [] μ (some (.int r)) μ9) {k149 : Nat → Int32 → Int32 → Bool → Int32 → Int32 → JMem → Option (Int32 × JMem)} (i149 : ∀ (L : JLoc) (v0 : Nat) (v1 : Int32) (v4 : Int32) (v5 : Bool) (v6 : Int32) (v7 : Int32) (μ : JMem) (r : Int32) (μ9 : JMem), jget L 0 = .ref v0 → jget L 1 = .int v1 → jget L 4 = .int v4 → jget L 5 = .int (jb v5) → jget L 6 = .int v6 → jget L 7 = .int v7 → k149 v0 v1 v4 v5 v6 v7 μ = some (r, μ9) → jR B SA d m_R_goes 149 L [] μ (some (.int r)) μ9) : ∀ (L : JLoc) (v0 : Nat) (v1 : Int32) (v4 : Int32) (v5 : Bool) (v6 : Int32) (v7 : Int32) (μ : JMem) (r : Int32) (μ9 : JMem), jget L 0 = .ref v0 → jget L 1 = .int v1 → jget L 4 = .int v4 → jget L 5 = .int (jb v5) → jget L 6 = .int v6 → jget L 7 = .int v7 → g_R_goes_240 N B k26 k149 v0 v1 v4 v5 v6 v7 μ = some (r, μ9) → jR B SA d m_R_goes 240 L [] μ (some (.int r)) μ9 := by
  intro L v0 v1 v4 v5 v6 v7 μ r μ9 hl0 hl1 hl4 hl5 hl6 hl7 h
  unfold g_R_goes_240 at h
  refine jr_iinc jf_213_240 jc_i_1 jml_213 (by decide) hl7 ?_
  refine jr_goto jf_213_243 ?_
  exact i149 _ _ _ _ _ _ _ _ _ _ (jg1_ne rfl hl0) (jg1_ne rfl hl1) (jg1_ne rfl hl4) (jg1_ne rfl hl5) (jg1_pre rfl hl6) jg1_same h
set_option maxRecDepth 10000 in
set_option maxHeartbeats 4000000 in
theorem r_R_goes_430 {N B : Nat} {SA : Nat → Nat} {d : Nat} (hd : 5 ≤ d) {k26 : Nat → Int32 → Int32 → Bool → JMem → Option (Int32 × JMem)} (i26 : ∀ (L : JLoc) (v0 : Nat) (v1 : Int32) (v4 : Int32) (v5 : Bool) (μ : JMem) (r : Int32) (μ9 : JMem), jget L 0 = .ref v0 → jget L 1 = .int v1 → jget L 4 = .int v4 → jget L 5 = .int (jb v5) → k26 v0 v1 v4 v5 μ = some (r, μ9) → jR B SA d m_R_goes 26 L [] μ (some (.int r)) μ9) : ∀ (L : JLoc) (v0 : Nat) (v1 : Int32) (v4 : Int32) (v5 : Bool) (μ : JMem) (r : Int32) (μ9 : JMem), jget L 0 = .ref v0 → jget L 1 = .int v1 → jget L 4 = .int v4 → jget L 5 = .int (jb v5) → g_R_goes_430 N B k26 v0 v1 v4 v5 μ = some (r, μ9) → jR B SA d m_R_goes 430 L [] μ (some (.int r)) μ9 := by
  intro L v0 v1 v4 v5 μ r μ9 hl0 hl1 hl4 hl5 h
  unfold g_R_goes_430 at h
  refine jr_goto jf_213_430 ?_
  exact i26 _ _ _ _ _ _ _ _ hl0 hl1 hl4 hl5 h
set_option maxRecDepth 10000 in
set_option maxHeartbeats 4000000 in
theorem r_R_goes_312 {N B : Nat} {SA : Nat → Nat} {d : Nat} (hd : 5 ≤ d) {k26 : Nat → Int32 → Int32 → Bool → JMem → Option (Int32 × JMem)} (i26 : ∀ (L : JLoc) (v0 : Nat) (v1 : Int32) (v4 : Int32) (v5 : Bool) (μ : JMem) (r : Int32) (μ9 : JMem), jget L 0 = .ref v0 → jget L 1 = .int v1 → jget L 4 = .int v4 → jget L 5 = .int (jb v5) → k26 v0 v1 v4 v5 μ = some (r, μ9) → jR B SA d m_R_goes 26 L [] μ (some (.int r)) μ9) : ∀ (L : JLoc) (v0 : Nat) (v1 : Int32) (v4 : Int32) (v5 : Bool) (μ : JMem) (r : Int32) (μ9 : JMem), jget L 0 = .ref v0 → jget L 1 = .int v1 → jget L 4 = .int v4 → jget L 5 = .int (jb v5) → g_R_goes_312 N B k26 v0 v1 v4 v5 μ = some (r, μ9) → jR B SA d m_R_goes 312 L [] μ (some (.int r)) μ9 := by
  intro L v0 v1 v4 v5 μ r μ9 hl0 hl1 hl4 hl5 h
  unfold g_R_goes_312 at h
  refine jr_goto jf_213_312 ?_
  exact r_R_goes_430 hd i26 _ _ _ _ _ _ _ _ hl0 hl1 hl4 hl5 h
set_option maxRecDepth 10000 in
set_option maxHeartbeats 4000000 in
theorem r_R_goes_339 {N B : Nat} {SA : Nat → Nat} {d : Nat} (hd : 5 ≤ d) {k26 : Nat → Int32 → Int32 → Bool → JMem → Option (Int32 × JMem)} (i26 : ∀ (L : JLoc) (v0 : Nat) (v1 : Int32) (v4 : Int32) (v5 : Bool) (μ : JMem) (r : Int32) (μ9 : JMem), jget L 0 = .ref v0 → jget L 1 = .int v1 → jget L 4 = .int v4 → jget L 5 = .int (jb v5) → k26 v0 v1 v4 v5 μ = some (r, μ9) → jR B SA d m_R_goes 26 L [] μ (some (.int r)) μ9) : ∀ (L : JLoc) (v0 : Nat) (v1 : Int32) (v4 : Int32) (v5 : Bool) (v6 : Int32) (μ : JMem) (r : Int32) (μ9 : JMem), jget L 0 = .ref v0 → jget L 1 = .int v1 → jget L 4 = .int v4 → jget L 5 = .int (jb v5) → jget L 6 = .int v6 → g_R_goes_339 N B k26 v0 v1 v4 v5 v6 μ = some (r, μ9) → jR B SA d m_R_goes 339 L [] μ (some (.int r)) μ9 := by
  intro L v0 v1 v4 v5 v6 μ r μ9 hl0 hl1 hl4 hl5 hl6 h
  unfold g_R_goes_339 at h
  refine jr_aload_n jf_213_339 rfl hl0 ?_
  refine jr_aload_n jf_213_340 rfl hl0 ?_
  replace h := obd_of h; obtain ⟨x1, hx1, h⟩ := h
  refine jr_getA jf_213_341 hx1 ?_
  refine jr_iload jf_213_344 hl6 ?_
  replace h := obd_of h; obtain ⟨a2, rfl, h⟩ := h
  replace h := obd_of h; obtain ⟨x3, hx3, h⟩ := h
  refine jr_iaload jf_213_346 hx3 ?_
  refine jr_iconst jf_213_347 jc_i_1 ?_
  refine jr_isub jf_213_348 ?_
  replace h := jgd_of h; obtain ⟨hb4, h⟩ := h
  replace h := obd_of h; obtain ⟨μ5, hμ5, h⟩ := h
  refine jr_V6v_1 jf_213_349 hb4 (by omega) (r_R_waits (by omega) _ _ _ _ hμ5) (Nat.le_of_ble_eq_true rfl) jml_227 (Nat.le_of_ble_eq_true rfl) ?_
  refine jr_aload_n jf_213_352 rfl hl0 ?_
  refine jr_dup jf_213_353 rfl ?_
  replace h := obd_of h; obtain ⟨x6, hx6, h⟩ := h
  refine jr_getI jf_213_354 hx6 ?_
  refine jr_iconst jf_213_357 jc_i_1 ?_
  refine jr_iadd jf_213_358 ?_
  replace h := obd_of h; obtain ⟨μ7, hμ7, h⟩ := h
  refine jr_putI jf_213_359 rfl hμ7 ?_
  refine jr_goto jf_213_362 ?_
  exact r_R_goes_430 hd i26 _ _ _ _ _ _ _ _ hl0 hl1 hl4 hl5 h
set_option maxRecDepth 10000 in
set_option maxHeartbeats 4000000 in
theorem r_R_goes_412 {N B : Nat} {SA : Nat → Nat} {d : Nat} (hd : 5 ≤ d) {k26 : Nat → Int32 → Int32 → Bool → JMem → Option (Int32 × JMem)} (i26 : ∀ (L : JLoc) (v0 : Nat) (v1 : Int32) (v4 : Int32) (v5 : Bool) (μ : JMem) (r : Int32) (μ9 : JMem), jget L 0 = .ref v0 → jget L 1 = .int v1 → jget L 4 = .int v4 → jget L 5 = .int (jb v5) → k26 v0 v1 v4 v5 μ = some (r, μ9) → jR B SA d m_R_goes 26 L [] μ (some (.int r)) μ9) : ∀ (L : JLoc) (v0 : Nat) (v1 : Int32) (v4 : Int32) (v5 : Bool) (v6 : Int32) (μ : JMem) (r : Int32) (μ9 : JMem), jget L 0 = .ref v0 → jget L 1 = .int v1 → jget L 4 = .int v4 → jget L 5 = .int (jb v5) → jget L 6 = .int v6 → g_R_goes_412 N B k26 v0 v1 v4 v5 v6 μ = some (r, μ9) → jR B SA d m_R_goes 412 L [] μ (some (.int r)) μ9 := by
  intro L v0 v1 v4 v5 v6 μ r μ9 hl0 hl1 hl4 hl5 hl6 h
  unfold g_R_goes_412 at h
  refine jr_aload_n jf_213_412 rfl hl0 ?_
  refine jr_aload_n jf_213_413 rfl hl0 ?_
  refine jr_iload jf_213_414 hl6 ?_
  refine jr_aload_n jf_213_416 rfl hl0 ?_
  replace h := obd_of h; obtain ⟨x1, hx1, h⟩ := h
  refine jr_getD jf_213_417 hx1 ?_
  replace h := jgd_of h; obtain ⟨hb2, h⟩ := h
  replace h := jbd2_of h; obtain ⟨x3, μ4, hx3, h⟩ := h
  refine jr_V6_2 jf_213_420 hb2 (by omega) (r_R_works (by omega) _ _ _ _ _ _ hx3) (Nat.le_of_ble_eq_true rfl) jml_228 (Nat.le_of_ble_eq_true rfl) ?_
  replace h := obd_of h; obtain ⟨μ5, hμ5, h⟩ := h
  refine jr_putD jf_213_423 rfl hμ5 ?_
  refine jr_aload_n jf_213_426 rfl hl0 ?_
  replace h := jgd_of h; obtain ⟨hb6, h⟩ := h
  replace h := obd_of h; obtain ⟨μ7, hμ7, h⟩ := h
  refine jr_V6v_0 jf_213_427 hb6 (by omega) (r_R_leaves (by omega) _ _ _ hμ7) (Nat.le_of_ble_eq_true rfl) jml_223 (Nat.le_of_ble_eq_true rfl) ?_
  exact r_R_goes_430 hd i26 _ _ _ _ _ _ _ _ hl0 hl1 hl4 hl5 h
set_option maxRecDepth 10000 in
set_option maxHeartbeats 4000000 in
theorem r_R_goes_149 {N B : Nat} {SA : Nat → Nat} {d : Nat} (hd : 5 ≤ d) {k26 : Nat → Int32 → Int32 → Bool → JMem → Option (Int32 × JMem)} (i26 : ∀ (L : JLoc) (v0 : Nat) (v1 : Int32) (v4 : Int32) (v5 : Bool) (μ : JMem) (r : Int32) (μ9 : JMem), jget L 0 = .ref v0 → jget L 1 = .int v1 → jget L 4 = .int v4 → jget L 5 = .int (jb v5) → k26 v0 v1 v4 v5 μ = some (r, μ9) → jR B SA d m_R_goes 26 L [] μ (some (.int r)) μ9) : ∀ (n : Nat), ∀ (L : JLoc) (v0 : Nat) (v1 : Int32) (v4 : Int32) (v5 : Bool) (v6 : Int32) (v7 : Int32) (μ : JMem) (r : Int32) (μ9 : JMem), jget L 0 = .ref v0 → jget L 1 = .int v1 → jget L 4 = .int v4 → jget L 5 = .int (jb v5) → jget L 6 = .int v6 → jget L 7 = .int v7 → g_R_goes_149 N B k26 n v0 v1 v4 v5 v6 v7 μ = some (r, μ9) → jR B SA d m_R_goes 149 L [] μ (some (.int r)) μ9 := by
  intro n
  induction n with
  | zero =>
    intro L v0 v1 v4 v5 v6 v7 μ r μ9 hl0 hl1 hl4 hl5 hl6 hl7 h
    unfold g_R_goes_149 at h
    cases h
  | succ n ih =>
    intro L v0 v1 v4 v5 v6 v7 μ r μ9 hl0 hl1 hl4 hl5 hl6 hl7 h
    unfold g_R_goes_149 at h
    refine jr_iload jf_213_149 hl7 ?_
    refine jr_iconst jf_213_151 jc_i_3 ?_
    refine jr_aload_n jf_213_152 rfl hl0 ?_
    replace h := obd_of h; obtain ⟨x1, hx1, h⟩ := h
    refine jr_getI jf_213_153 hx1 ?_
    refine jr_imul jf_213_156 ?_
    refine jr_aload_n jf_213_157 rfl hl0 ?_
    replace h := obd_of h; obtain ⟨x2, hx2, h⟩ := h
    refine jr_getA jf_213_158 hx2 ?_
    refine jr_aload_n jf_213_161 rfl hl0 ?_
    replace h := obd_of h; obtain ⟨x3, hx3, h⟩ := h
    refine jr_getI jf_213_162 hx3 ?_
    replace h := obd_of h; obtain ⟨a4, rfl, h⟩ := h
    replace h := obd_of h; obtain ⟨x5, hx5, h⟩ := h
    refine jr_iaload jf_213_165 hx5 ?_
    refine jr_iadd jf_213_166 ?_
    replace h := ite_or h; rcases h with ⟨hc, h⟩ | ⟨hc, h⟩
    · refine jr_if2_ge_t jf_213_167 hc ?_
      refine jr_aload_n jf_213_246 rfl hl0 ?_
      replace h := obd_of h; obtain ⟨x6, hx6, h⟩ := h
      refine jr_getA jf_213_247 hx6 ?_
      refine jr_iload jf_213_250 hl6 ?_
      replace h := obd_of h; obtain ⟨a7, rfl, h⟩ := h
      replace h := obd_of h; obtain ⟨x8, hx8, h⟩ := h
      refine jr_iaload jf_213_252 hx8 ?_
      refine jr_bipush jf_213_253 jc_b_12 ?_
      replace h := ite_or h; rcases h with ⟨hc, h⟩ | ⟨hc, h⟩
      · refine jr_if2_ne_f jf_213_255 hc ?_
        refine jr_aload_n jf_213_258 rfl hl0 ?_
        refine jr_iload jf_213_259 hl6 ?_
        refine jr_iconst jf_213_261 jc_i_0 ?_
        replace h := jgd_of h; obtain ⟨hb9, h⟩ := h
        replace h := obd_of h; obtain ⟨x10, hx10, h⟩ := h
        refine jr_V6_2 jf_213_262 hb9 (by omega) (r_R_st (by omega) _ _ _ _ _ hx10) (Nat.le_of_ble_eq_true rfl) jml_225 (Nat.le_of_ble_eq_true rfl) ?_
        refine jr_d2i jf_213_265 ?_
        refine jr_istore jf_213_266 jml_213 (by decide) ?_
        refine jr_aload_n jf_213_268 rfl (jg1_ne rfl hl0) ?_
        refine jr_iload jf_213_269 (jg1_pre rfl hl6) ?_
        refine jr_iconst jf_213_271 jc_i_0 ?_
        refine jr_iload jf_213_272 jg1_same ?_
        refine jr_iconst jf_213_274 jc_i_1 ?_
        refine jr_iadd jf_213_275 ?_
        refine jr_aload_n jf_213_276 rfl (jg1_ne rfl hl0) ?_
        replace h := obd_of h; obtain ⟨x11, hx11, h⟩ := h
        refine jr_getA jf_213_277 hx11 ?_
        refine jr_iload jf_213_280 (jg1_pre rfl hl6) ?_
        replace h := obd_of h; obtain ⟨a12, rfl, h⟩ := h
        replace h := obd_of h; obtain ⟨x13, hx13, h⟩ := h
        refine jr_iaload jf_213_282 hx13 ?_
        replace h := obd_of h; obtain ⟨x14, hx14, h⟩ := h
        refine jr_irem jf_213_283 hx14 ?_
        refine jr_i2d jf_213_284 ?_
        replace h := jgd_of h; obtain ⟨hb15, h⟩ := h
        replace h := obd_of h; obtain ⟨μ16, hμ16, h⟩ := h
        refine jr_V6v_3 jf_213_285 hb15 (by omega) (r_R_st_2 (by omega) _ _ _ _ _ _ hμ16) (Nat.le_of_ble_eq_true rfl) jml_226 (Nat.le_of_ble_eq_true rfl) ?_
        refine jr_iload jf_213_288 jg1_same ?_
        replace h := ite_or h; rcases h with ⟨hc, h⟩ | ⟨hc, h⟩
        · refine jr_if_le_t jf_213_290 hc ?_
          refine jr_aload_n jf_213_302 rfl (jg1_ne rfl hl0) ?_
          refine jr_dup jf_213_303 rfl ?_
          replace h := obd_of h; obtain ⟨x17, hx17, h⟩ := h
          refine jr_getI jf_213_304 hx17 ?_
          refine jr_iconst jf_213_307 jc_i_1 ?_
          refine jr_iadd jf_213_308 ?_
          replace h := obd_of h; obtain ⟨μ18, hμ18, h⟩ := h
          refine jr_putI jf_213_309 rfl hμ18 ?_
          exact r_R_goes_312 hd i26 _ _ _ _ _ _ _ _ (jg1_ne rfl hl0) (jg1_ne rfl hl1) (jg1_ne rfl hl4) (jg1_ne rfl hl5) h
        · refine jr_if_le_f jf_213_290 hc ?_
          refine jr_aload_n jf_213_293 rfl (jg1_ne rfl hl0) ?_
          replace h := jgd_of h; obtain ⟨hb19, h⟩ := h
          replace h := jbd2_of h; obtain ⟨x20, μ21, hx20, h⟩ := h
          refine jr_V6_0 jf_213_294 hb19 (by omega) (r_R_goesOn (by omega) _ _ _ _ hx20) (Nat.le_of_ble_eq_true rfl) jml_214 (Nat.le_of_ble_eq_true rfl) ?_
          refine jr_istore jf_213_297 jml_213 (by decide) ?_
          refine jr_goto jf_213_299 ?_
          exact r_R_goes_312 hd i26 _ _ _ _ _ _ _ _ (jg1_ne rfl (jg1_ne rfl hl0)) (jg1_ne rfl (jg1_ne rfl hl1)) (jg1_pre rfl (jg1_ne rfl hl4)) jg1_same h
      · refine jr_if2_ne_t jf_213_255 hc ?_
        refine jr_aload_n jf_213_315 rfl hl0 ?_
        replace h := obd_of h; obtain ⟨x22, hx22, h⟩ := h
        refine jr_getA jf_213_316 hx22 ?_
        refine jr_iload jf_213_319 hl6 ?_
        replace h := obd_of h; obtain ⟨a23, rfl, h⟩ := h
        replace h := obd_of h; obtain ⟨x24, hx24, h⟩ := h
        refine jr_iaload jf_213_321 hx24 ?_
        refine jr_bipush jf_213_322 jc_b_13 ?_
        replace h := ite_or h; rcases h with ⟨hc, h⟩ | ⟨hc, h⟩
        · refine jr_if2_eq_t jf_213_324 hc ?_
          exact r_R_goes_339 hd i26 _ _ _ _ _ _ _ _ _ hl0 hl1 hl4 hl5 hl6 h
        · refine jr_if2_eq_f jf_213_324 hc ?_
          refine jr_aload_n jf_213_327 rfl hl0 ?_
          replace h := obd_of h; obtain ⟨x25, hx25, h⟩ := h
          refine jr_getA jf_213_328 hx25 ?_
          refine jr_iload jf_213_331 hl6 ?_
          replace h := obd_of h; obtain ⟨a26, rfl, h⟩ := h
          replace h := obd_of h; obtain ⟨x27, hx27, h⟩ := h
          refine jr_iaload jf_213_333 hx27 ?_
          refine jr_bipush jf_213_334 jc_b_14 ?_
          replace h := ite_or h; rcases h with ⟨hc, h⟩ | ⟨hc, h⟩
          · refine jr_if2_ne_f jf_213_336 hc ?_
            exact r_R_goes_339 hd i26 _ _ _ _ _ _ _ _ _ hl0 hl1 hl4 hl5 hl6 h
          · refine jr_if2_ne_t jf_213_336 hc ?_
            refine jr_aload_n jf_213_365 rfl hl0 ?_
            replace h := obd_of h; obtain ⟨x28, hx28, h⟩ := h
            refine jr_getA jf_213_366 hx28 ?_
            refine jr_iload jf_213_369 hl6 ?_
            replace h := obd_of h; obtain ⟨a29, rfl, h⟩ := h
            replace h := obd_of h; obtain ⟨x30, hx30, h⟩ := h
            refine jr_iaload jf_213_371 hx30 ?_
            refine jr_bipush jf_213_372 jc_b_15 ?_
            replace h := ite_or h; rcases h with ⟨hc, h⟩ | ⟨hc, h⟩
            · refine jr_if2_ne_f jf_213_374 hc ?_
              refine jr_aload_n jf_213_377 rfl hl0 ?_
              replace h := obd_of h; obtain ⟨x31, hx31, h⟩ := h
              refine jr_getA jf_213_378 hx31 ?_
              refine jr_iload jf_213_381 hl6 ?_
              replace h := obd_of h; obtain ⟨a32, rfl, h⟩ := h
              replace h := obd_of h; obtain ⟨x33, hx33, h⟩ := h
              refine jr_iaload jf_213_383 hx33 ?_
              refine jr_iconst jf_213_384 jc_i_m1 ?_
              replace h := ite_or h; rcases h with ⟨hc, h⟩ | ⟨hc, h⟩
              · refine jr_if2_eq_t jf_213_385 hc ?_
                exact r_R_goes_412 hd i26 _ _ _ _ _ _ _ _ _ hl0 hl1 hl4 hl5 hl6 h
              · refine jr_if2_eq_f jf_213_385 hc ?_
                refine jr_aload_n jf_213_388 rfl hl0 ?_
                refine jr_iconst jf_213_389 jc_i_m1 ?_
                replace h := jgd_of h; obtain ⟨hb34, h⟩ := h
                replace h := obd_of h; obtain ⟨μ35, hμ35, h⟩ := h
                refine jr_V6v_1 jf_213_390 hb34 (by omega) (r_R_waits (by omega) _ _ _ _ hμ35) (Nat.le_of_ble_eq_true rfl) jml_227 (Nat.le_of_ble_eq_true rfl) ?_
                refine jr_aload_n jf_213_393 rfl hl0 ?_
                refine jr_aload_n jf_213_394 rfl hl0 ?_
                replace h := obd_of h; obtain ⟨x36, hx36, h⟩ := h
                refine jr_getA jf_213_395 hx36 ?_
                refine jr_iload jf_213_398 hl6 ?_
                replace h := obd_of h; obtain ⟨a37, rfl, h⟩ := h
                replace h := obd_of h; obtain ⟨x38, hx38, h⟩ := h
                refine jr_iaload jf_213_400 hx38 ?_
                replace h := obd_of h; obtain ⟨μ39, hμ39, h⟩ := h
                refine jr_putI jf_213_401 rfl hμ39 ?_
                refine jr_aload_n jf_213_404 rfl hl0 ?_
                refine jr_iconst jf_213_405 jc_i_0 ?_
                replace h := obd_of h; obtain ⟨μ40, hμ40, h⟩ := h
                refine jr_putI jf_213_406 rfl hμ40 ?_
                refine jr_goto jf_213_409 ?_
                exact r_R_goes_430 hd i26 _ _ _ _ _ _ _ _ hl0 hl1 hl4 hl5 h
            · refine jr_if2_ne_t jf_213_374 hc ?_
              exact r_R_goes_412 hd i26 _ _ _ _ _ _ _ _ _ hl0 hl1 hl4 hl5 hl6 h
    · refine jr_if2_ge_f jf_213_167 hc ?_
      refine jr_aload_n jf_213_170 rfl hl0 ?_
      replace h := obd_of h; obtain ⟨x41, hx41, h⟩ := h
      refine jr_getA jf_213_171 hx41 ?_
      refine jr_iload jf_213_174 hl7 ?_
      replace h := obd_of h; obtain ⟨a42, rfl, h⟩ := h
      replace h := obd_of h; obtain ⟨x43, hx43, h⟩ := h
      refine jr_iaload jf_213_176 hx43 ?_
      refine jr_aload_n jf_213_177 rfl hl0 ?_
      replace h := obd_of h; obtain ⟨x44, hx44, h⟩ := h
      refine jr_getI jf_213_178 hx44 ?_
      replace h := ite_or h; rcases h with ⟨hc, h⟩ | ⟨hc, h⟩
      · refine jr_if2_eq_t jf_213_181 hc ?_
        refine jr_aload_n jf_213_187 rfl hl0 ?_
        refine jr_iload jf_213_188 hl6 ?_
        replace h := jgd_of h; obtain ⟨hb45, h⟩ := h
        replace h := obd_of h; obtain ⟨μ46, hμ46, h⟩ := h
        refine jr_V6v_1 jf_213_190 hb45 (by omega) (r_R_begins (by omega) _ _ _ _ hμ46) (Nat.le_of_ble_eq_true rfl) jml_215 (Nat.le_of_ble_eq_true rfl) ?_
        refine jr_aload_n jf_213_193 rfl hl0 ?_
        refine jr_aload_n jf_213_194 rfl hl0 ?_
        replace h := obd_of h; obtain ⟨x47, hx47, h⟩ := h
        refine jr_getD jf_213_195 hx47 ?_
        refine jr_iconst jf_213_198 jc_i_0 ?_
        replace h := jgd_of h; obtain ⟨hb48, h⟩ := h
        replace h := obd_of h; obtain ⟨μ49, hμ49, h⟩ := h
        refine jr_V6v_2 jf_213_199 hb48 (by omega) (r_R_term_2 (by omega) _ _ _ _ _ hμ49) (Nat.le_of_ble_eq_true rfl) jml_224 (Nat.le_of_ble_eq_true rfl) ?_
        refine jr_aload_n jf_213_202 rfl hl0 ?_
        refine jr_aload_n jf_213_203 rfl hl0 ?_
        replace h := obd_of h; obtain ⟨x50, hx50, h⟩ := h
        refine jr_getA jf_213_204 hx50 ?_
        refine jr_iload jf_213_207 hl7 ?_
        replace h := obd_of h; obtain ⟨a51, rfl, h⟩ := h
        replace h := obd_of h; obtain ⟨x52, hx52, h⟩ := h
        refine jr_daload jf_213_209 hx52 ?_
        refine jr_aload_n jf_213_210 rfl hl0 ?_
        replace h := obd_of h; obtain ⟨x53, hx53, h⟩ := h
        refine jr_getA jf_213_211 hx53 ?_
        refine jr_bipush jf_213_214 jc_b_64 ?_
        refine jr_iload jf_213_216 hl7 ?_
        refine jr_imul jf_213_218 ?_
        refine jr_aload_n jf_213_219 rfl hl0 ?_
        replace h := obd_of h; obtain ⟨x54, hx54, h⟩ := h
        refine jr_getA jf_213_220 hx54 ?_
        refine jr_iload jf_213_223 hl7 ?_
        replace h := obd_of h; obtain ⟨a55, rfl, h⟩ := h
        replace h := obd_of h; obtain ⟨x56, hx56, h⟩ := h
        refine jr_iaload jf_213_225 hx56 ?_
        refine jr_iadd jf_213_226 ?_
        replace h := obd_of h; obtain ⟨a57, rfl, h⟩ := h
        replace h := obd_of h; obtain ⟨x58, hx58, h⟩ := h
        refine jr_daload jf_213_227 hx58 ?_
        refine jr_iconst jf_213_228 jc_i_0 ?_
        replace h := jgd_of h; obtain ⟨hb59, h⟩ := h
        replace h := obd_of h; obtain ⟨μ60, hμ60, h⟩ := h
        refine jr_V6v_3 jf_213_229 hb59 (by omega) (r_R_term (by omega) _ _ _ _ _ _ hμ60) (Nat.le_of_ble_eq_true rfl) jml_217 (Nat.le_of_ble_eq_true rfl) ?_
        refine jr_aload_n jf_213_232 rfl hl0 ?_
        refine jr_aload_n jf_213_233 rfl hl0 ?_
        replace h := jgd_of h; obtain ⟨hb61, h⟩ := h
        replace h := jbd2_of h; obtain ⟨x62, μ63, hx62, h⟩ := h
        refine jr_V6_0 jf_213_234 hb61 (by omega) (r_R_comes (by omega) _ _ _ _ hx62) (Nat.le_of_ble_eq_true rfl) jml_221 (Nat.le_of_ble_eq_true rfl) ?_
        replace h := obd_of h; obtain ⟨μ64, hμ64, h⟩ := h
        refine jr_putD jf_213_237 rfl hμ64 ?_
        exact r_R_goes_240 hd i26 ih _ _ _ _ _ _ _ _ _ _ hl0 hl1 hl4 hl5 hl6 hl7 h
      · refine jr_if2_eq_f jf_213_181 hc ?_
        refine jr_goto jf_213_184 ?_
        exact r_R_goes_240 hd i26 ih _ _ _ _ _ _ _ _ _ _ hl0 hl1 hl4 hl5 hl6 hl7 h
set_option maxRecDepth 10000 in
set_option maxHeartbeats 4000000 in
theorem r_R_goes_26 {N B : Nat} {SA : Nat → Nat} {d : Nat} (hd : 5 ≤ d) : ∀ (n : Nat), ∀ (L : JLoc) (v0 : Nat) (v1 : Int32) (v4 : Int32) (v5 : Bool) (μ : JMem) (r : Int32) (μ9 : JMem), jget L 0 = .ref v0 → jget L 1 = .int v1 → jget L 4 = .int v4 → jget L 5 = .int (jb v5) → g_R_goes_26 N B n v0 v1 v4 v5 μ = some (r, μ9) → jR B SA d m_R_goes 26 L [] μ (some (.int r)) μ9 := by
  intro n
  induction n with
  | zero =>
    intro L v0 v1 v4 v5 μ r μ9 hl0 hl1 hl4 hl5 h
    unfold g_R_goes_26 at h
    cases h
  | succ n ih =>
    intro L v0 v1 v4 v5 μ r μ9 hl0 hl1 hl4 hl5 h
    unfold g_R_goes_26 at h
    refine jr_iload jf_213_26 hl5 ?_
    replace h := ite_or h; rcases h with ⟨hc, h⟩ | ⟨hc, h⟩
    · refine jr_ifz_eq_f jf_213_28 hc ?_
      refine jr_aload_n jf_213_31 rfl hl0 ?_
      replace h := obd_of h; obtain ⟨x1, hx1, h⟩ := h
      refine jr_getI jf_213_32 hx1 ?_
      refine jr_aload_n jf_213_35 rfl hl0 ?_
      replace h := obd_of h; obtain ⟨x2, hx2, h⟩ := h
      refine jr_getA jf_213_36 hx2 ?_
      refine jr_aload_n jf_213_39 rfl hl0 ?_
      replace h := obd_of h; obtain ⟨x3, hx3, h⟩ := h
      refine jr_getI jf_213_40 hx3 ?_
      replace h := obd_of h; obtain ⟨a4, rfl, h⟩ := h
      replace h := obd_of h; obtain ⟨x5, hx5, h⟩ := h
      refine jr_iaload jf_213_43 hx5 ?_
      replace h := ite_or h; rcases h with ⟨hc, h⟩ | ⟨hc, h⟩
      · refine jr_if2_ne_f jf_213_44 hc ?_
        refine jr_aload_n jf_213_47 rfl hl0 ?_
        replace h := obd_of h; obtain ⟨x6, hx6, h⟩ := h
        refine jr_getA jf_213_48 hx6 ?_
        refine jr_sipush jf_213_51 jc_s_400 ?_
        refine jr_aload_n jf_213_54 rfl hl0 ?_
        replace h := obd_of h; obtain ⟨x7, hx7, h⟩ := h
        refine jr_getI jf_213_55 hx7 ?_
        refine jr_imul jf_213_58 ?_
        refine jr_aload_n jf_213_59 rfl hl0 ?_
        replace h := obd_of h; obtain ⟨x8, hx8, h⟩ := h
        refine jr_getA jf_213_60 hx8 ?_
        refine jr_aload_n jf_213_63 rfl hl0 ?_
        replace h := obd_of h; obtain ⟨x9, hx9, h⟩ := h
        refine jr_getI jf_213_64 hx9 ?_
        replace h := obd_of h; obtain ⟨a10, rfl, h⟩ := h
        replace h := obd_of h; obtain ⟨x11, hx11, h⟩ := h
        refine jr_iaload jf_213_67 hx11 ?_
        refine jr_ldc jf_213_68 ?_
        refine jr_iand jf_213_70 ?_
        refine jr_sipush jf_213_71 jc_s_400 ?_
        refine jr_irem jf_213_74 (by simp only [jremI]; exact if_neg (by decide)) ?_
        refine jr_iadd jf_213_75 ?_
        refine jr_aload_n jf_213_76 rfl hl0 ?_
        replace h := obd_of h; obtain ⟨x12, hx12, h⟩ := h
        refine jr_getD jf_213_77 hx12 ?_
        replace h := obd_of h; obtain ⟨a13, rfl, h⟩ := h
        replace h := obd_of h; obtain ⟨μ14, hμ14, h⟩ := h
        refine jr_dastore jf_213_80 hμ14 ?_
        refine jr_aload_n jf_213_81 rfl hl0 ?_
        replace h := obd_of h; obtain ⟨x15, hx15, h⟩ := h
        refine jr_getA jf_213_82 hx15 ?_
        refine jr_aload_n jf_213_85 rfl hl0 ?_
        replace h := obd_of h; obtain ⟨x16, hx16, h⟩ := h
        refine jr_getI jf_213_86 hx16 ?_
        refine jr_dup2_1 jf_213_89 rfl (rv_cat _) ?_
        replace h := obd_of h; obtain ⟨a17, rfl, h⟩ := h
        replace h := obd_of h; obtain ⟨x18, hx18, h⟩ := h
        refine jr_iaload jf_213_90 hx18 ?_
        refine jr_iconst jf_213_91 jc_i_1 ?_
        refine jr_iadd jf_213_92 ?_
        replace h := obd_of h; obtain ⟨μ19, hμ19, h⟩ := h
        refine jr_iastore jf_213_93 hμ19 ?_
        refine jr_aload_n jf_213_94 rfl hl0 ?_
        refine jr_aload_n jf_213_95 rfl hl0 ?_
        replace h := obd_of h; obtain ⟨x20, hx20, h⟩ := h
        refine jr_getD jf_213_96 hx20 ?_
        replace h := obd_of h; obtain ⟨μ21, hμ21, h⟩ := h
        refine jr_putD jf_213_99 rfl hμ21 ?_
        refine jr_aload_n jf_213_102 rfl hl0 ?_
        replace h := obd_of h; obtain ⟨x22, hx22, h⟩ := h
        refine jr_getI jf_213_103 hx22 ?_
        refine jr_iload_n jf_213_106 rfl hl1 ?_
        replace h := ite_or h; rcases h with ⟨hc, h⟩ | ⟨hc, h⟩
        · refine jr_if2_ne_f jf_213_107 hc ?_
          refine jr_iinc jf_213_110 jc_i_1 jml_213 (by decide) hl4 ?_
          exact r_R_goes_113 hd ih _ _ _ _ _ _ _ (jg1_ne rfl hl0) (jg1_ne rfl hl1) jg1_same h
        · refine jr_if2_ne_t jf_213_107 hc ?_
          exact r_R_goes_113 hd ih _ _ _ _ _ _ _ hl0 hl1 hl4 h
      · refine jr_if2_ne_t jf_213_44 hc ?_
        refine jr_aload_n jf_213_122 rfl hl0 ?_
        replace h := obd_of h; obtain ⟨x23, hx23, h⟩ := h
        refine jr_getA jf_213_123 hx23 ?_
        refine jr_bipush jf_213_126 jc_b_10 ?_
        refine jr_aload_n jf_213_128 rfl hl0 ?_
        replace h := obd_of h; obtain ⟨x24, hx24, h⟩ := h
        refine jr_getI jf_213_129 hx24 ?_
        refine jr_imul jf_213_132 ?_
        refine jr_aload_n jf_213_133 rfl hl0 ?_
        replace h := obd_of h; obtain ⟨x25, hx25, h⟩ := h
        refine jr_getI jf_213_134 hx25 ?_
        refine jr_iadd jf_213_137 ?_
        replace h := obd_of h; obtain ⟨a26, rfl, h⟩ := h
        replace h := obd_of h; obtain ⟨x27, hx27, h⟩ := h
        refine jr_iaload jf_213_138 hx27 ?_
        refine jr_istore jf_213_139 jml_213 (by decide) ?_
        refine jr_iconst jf_213_141 jc_i_3 ?_
        refine jr_aload_n jf_213_142 rfl (jg1_ne rfl hl0) ?_
        replace h := obd_of h; obtain ⟨x28, hx28, h⟩ := h
        refine jr_getI jf_213_143 hx28 ?_
        refine jr_imul jf_213_146 ?_
        refine jr_istore jf_213_147 jml_213 (by decide) ?_
        exact r_R_goes_149 hd ih _ _ _ _ _ _ _ _ _ _ _ (jg1_ne rfl (jg1_ne rfl hl0)) (jg1_ne rfl (jg1_ne rfl hl1)) (jg1_ne rfl (jg1_ne rfl hl4)) (jg1_ne rfl (jg1_pre rfl hl5)) (jg1_pre rfl jg1_same) jg1_same h
    · refine jr_ifz_eq_t jf_213_28 hc ?_
      refine jr_iload jf_213_433 hl4 ?_
      obtain ⟨rfl, rfl⟩ := Prod.mk.inj (Option.some.inj h)
      exact jr_retI jf_213_435 jmt_213
set_option maxRecDepth 10000 in
set_option maxHeartbeats 4000000 in
theorem r_R_goes_e {N B : Nat} {SA : Nat → Nat} {d : Nat} (hd : 5 ≤ d) : ∀ (L : JLoc) (v0 : Nat) (v1 : Int32) (v2 : UInt64) (μ : JMem) (r : Int32) (μ9 : JMem), jget L 0 = .ref v0 → jget L 1 = .int v1 → jget L 2 = .double v2 → g_R_goes N B v0 v1 v2 μ = some (r, μ9) → jR B SA d m_R_goes 0 L [] μ (some (.int r)) μ9 := by
  intro L v0 v1 v2 μ r μ9 hl0 hl1 hl2 h
  unfold g_R_goes at h
  refine jr_iconst jf_213_0 jc_i_0 ?_
  refine jr_istore jf_213_1 jml_213 (by decide) ?_
  refine jr_aload_n jf_213_3 rfl (jg1_ne rfl hl0) ?_
  refine jr_iconst jf_213_4 jc_i_0 ?_
  replace h := obd_of h; obtain ⟨μ1, hμ1, h⟩ := h
  refine jr_putI jf_213_5 rfl hμ1 ?_
  refine jr_aload_n jf_213_8 rfl (jg1_ne rfl hl0) ?_
  refine jr_iload_n jf_213_9 rfl (jg1_ne rfl hl1) ?_
  replace h := obd_of h; obtain ⟨μ2, hμ2, h⟩ := h
  refine jr_putI jf_213_10 rfl hμ2 ?_
  refine jr_aload_n jf_213_13 rfl (jg1_ne rfl hl0) ?_
  refine jr_iconst jf_213_14 jc_i_0 ?_
  replace h := obd_of h; obtain ⟨μ3, hμ3, h⟩ := h
  refine jr_putI jf_213_15 rfl hμ3 ?_
  refine jr_aload_n jf_213_18 rfl (jg1_ne rfl hl0) ?_
  refine jr_dload_n jf_213_19 rfl (jg1_ne rfl hl2) ?_
  replace h := obd_of h; obtain ⟨μ4, hμ4, h⟩ := h
  refine jr_putD jf_213_20 rfl hμ4 ?_
  refine jr_iconst jf_213_23 jc_i_1 ?_
  refine jr_istore jf_213_24 jml_213 (by decide) ?_
  exact r_R_goes_26 hd _ _ _ _ _ true _ _ _ (jg1_ne rfl (jg1_ne rfl hl0)) (jg1_ne rfl (jg1_ne rfl hl1)) (jg1_pre rfl jg1_same) jg1_same h
set_option maxRecDepth 10000 in
set_option maxHeartbeats 4000000 in
theorem r_R_goes {N B : Nat} {SA : Nat → Nat} {d : Nat} (hd : 5 ≤ d) : ∀ (v0 : Nat) (v1 : Int32) (v2 : UInt64) (μ : JMem) (r : Int32) (μ9 : JMem), g_R_goes N B v0 v1 v2 μ = some (r, μ9) → jR B SA d m_R_goes 0 (lv_args 0 [.ref v0, .int v1, .double v2]) [] μ (some (.int r)) μ9 := by
  intro v0 v1 v2 μ r μ9 h
  exact r_R_goes_e hd (lv_args 0 _) _ _ _ _ _ _ (by simp [lv_args, jget, rv_cat, cat_int, cat_long, cat_double, cat_float, cat_ref]) (by simp [lv_args, jget, rv_cat, cat_int, cat_long, cat_double, cat_float, cat_ref]) (by simp [lv_args, jget, rv_cat, cat_int, cat_long, cat_double, cat_float, cat_ref]) h
/-! FilterBenchModel.isFed(I)Z -/
set_option maxRecDepth 10000 in
set_option maxHeartbeats 4000000 in
theorem r_R_isFed_e {B : Nat} {SA : Nat → Nat} {d : Nat} (hd : 2 ≤ d) : ∀ (L : JLoc) (v0 : Nat) (v1 : Int32) (μ : JMem) (r : Bool), jget L 0 = .ref v0 → jget L 1 = .int v1 → g_R_isFed v0 v1 μ.1 = some r → jR B SA d m_R_isFed 0 L [] μ (some (.int (jb r))) μ := by
  intro L v0 v1 μ r hl0 hl1 h
  unfold g_R_isFed at h
  refine jr_aload_n jf_212_0 rfl hl0 ?_
  refine jr_iload_n jf_212_1 rfl hl1 ?_
  replace h := jgd_of h; obtain ⟨hb1, h⟩ := h
  replace h := obd_of h; obtain ⟨x2, hx2, h⟩ := h
  refine jr_V6_1 jf_212_2 hb1 (by omega) (r_R_isChain (by omega) _ _ _ _ hx2) (Nat.le_of_ble_eq_true rfl) jml_204 (Nat.le_of_ble_eq_true rfl) ?_
  replace h := ite_or h; rcases h with ⟨hc, h⟩ | ⟨hc, h⟩
  · refine jr_ifz_eq_f jf_212_5 hc ?_
    refine jr_aload_n jf_212_8 rfl hl0 ?_
    replace h := obd_of h; obtain ⟨x3, hx3, h⟩ := h
    refine jr_getA jf_212_9 hx3 ?_
    refine jr_iload_n jf_212_12 rfl hl1 ?_
    replace h := obd_of h; obtain ⟨a4, rfl, h⟩ := h
    replace h := obd_of h; obtain ⟨x5, hx5, h⟩ := h
    refine jr_iaload jf_212_13 hx5 ?_
    replace h := ite_or h; rcases h with ⟨hc, h⟩ | ⟨hc, h⟩
    · refine jr_if_le_t jf_212_14 hc ?_
      refine jr_iconst jf_212_31 jc_i_0 ?_
      obtain rfl := Option.some.inj h
      exact jr_retZ (x := false) jf_212_32 jmt_212
    · refine jr_if_le_f jf_212_14 hc ?_
      refine jr_aload_n jf_212_17 rfl hl0 ?_
      replace h := obd_of h; obtain ⟨x6, hx6, h⟩ := h
      refine jr_getA jf_212_18 hx6 ?_
      refine jr_iload_n jf_212_21 rfl hl1 ?_
      replace h := obd_of h; obtain ⟨a7, rfl, h⟩ := h
      replace h := obd_of h; obtain ⟨x8, hx8, h⟩ := h
      refine jr_iaload jf_212_22 hx8 ?_
      refine jr_iconst jf_212_23 jc_i_m1 ?_
      replace h := ite_or h; rcases h with ⟨hc, h⟩ | ⟨hc, h⟩
      · refine jr_if2_ne_f jf_212_24 hc ?_
        refine jr_iconst jf_212_27 jc_i_1 ?_
        refine jr_goto jf_212_28 ?_
        obtain rfl := Option.some.inj h
        exact jr_retZ (x := true) jf_212_32 jmt_212
      · refine jr_if2_ne_t jf_212_24 hc ?_
        refine jr_iconst jf_212_31 jc_i_0 ?_
        obtain rfl := Option.some.inj h
        exact jr_retZ (x := false) jf_212_32 jmt_212
  · refine jr_ifz_eq_t jf_212_5 hc ?_
    refine jr_iconst jf_212_31 jc_i_0 ?_
    obtain rfl := Option.some.inj h
    exact jr_retZ (x := false) jf_212_32 jmt_212
set_option maxRecDepth 10000 in
set_option maxHeartbeats 4000000 in
theorem r_R_isFed {B : Nat} {SA : Nat → Nat} {d : Nat} (hd : 2 ≤ d) : ∀ (v0 : Nat) (v1 : Int32) (μ : JMem) (r : Bool), g_R_isFed v0 v1 μ.1 = some r → jR B SA d m_R_isFed 0 (lv_args 0 [.ref v0, .int v1]) [] μ (some (.int (jb r))) μ := by
  intro v0 v1 μ r h
  exact r_R_isFed_e hd (lv_args 0 _) _ _ _ _ (by simp [lv_args, jget, rv_cat, cat_int, cat_long, cat_double, cat_float, cat_ref]) (by simp [lv_args, jget, rv_cat, cat_int, cat_long, cat_double, cat_float, cat_ref]) h
/-! FilterBenchModel.feed(IJ)I -/
set_option maxRecDepth 10000 in
set_option maxHeartbeats 4000000 in
theorem r_R_feed_e {N B : Nat} {SA : Nat → Nat} {d : Nat} (hd : 6 ≤ d) : ∀ (L : JLoc) (v0 : Nat) (v1 : Int32) (v2 : Int64) (μ : JMem) (r : Int32) (μ9 : JMem), jget L 0 = .ref v0 → jget L 1 = .int v1 → jget L 2 = .long v2 → g_R_feed N B v0 v1 v2 μ = some (r, μ9) → jR B SA d m_R_feed 0 L [] μ (some (.int r)) μ9 := by
  intro L v0 v1 v2 μ r μ9 hl0 hl1 hl2 h
  unfold g_R_feed at h
  refine jr_aload_n jf_211_0 rfl hl0 ?_
  refine jr_iload_n jf_211_1 rfl hl1 ?_
  replace h := jgd_of h; obtain ⟨hb1, h⟩ := h
  replace h := obd_of h; obtain ⟨x2, hx2, h⟩ := h
  refine jr_V6_1 jf_211_2 hb1 (by omega) (r_R_isFed (by omega) _ _ _ _ hx2) (Nat.le_of_ble_eq_true rfl) jml_212 (Nat.le_of_ble_eq_true rfl) ?_
  replace h := ite_or h; rcases h with ⟨hc, h⟩ | ⟨hc, h⟩
  · refine jr_ifz_eq_f jf_211_5 hc ?_
    refine jr_aload_n jf_211_8 rfl hl0 ?_
    refine jr_iload_n jf_211_9 rfl hl1 ?_
    replace h := jgd_of h; obtain ⟨hb3, h⟩ := h
    replace h := obd_of h; obtain ⟨x4, hx4, h⟩ := h
    refine jr_V6_1 jf_211_10 hb3 (by omega) (r_R_sortOf (by omega) _ _ _ _ hx4) (Nat.le_of_ble_eq_true rfl) jml_205 (Nat.le_of_ble_eq_true rfl) ?_
    refine jr_lload_n jf_211_13 rfl hl2 ?_
    refine jr_S3_2 jf_211_14 (by omega) (r_R_isValue (by omega) _ _ _ _ rfl) (Nat.le_of_ble_eq_true rfl) jml_195 (Nat.le_of_ble_eq_true rfl) ?_
    replace h := ite_or h; rcases h with ⟨hc, h⟩ | ⟨hc, h⟩
    · refine jr_ifz_ne_t jf_211_17 hc ?_
      refine jr_aload_n jf_211_22 rfl hl0 ?_
      refine jr_iload_n jf_211_23 rfl hl1 ?_
      refine jr_aload_n jf_211_24 rfl hl0 ?_
      refine jr_iload_n jf_211_25 rfl hl1 ?_
      replace h := jgd_of h; obtain ⟨hb5, h⟩ := h
      replace h := obd_of h; obtain ⟨x6, hx6, h⟩ := h
      refine jr_V6_1 jf_211_26 hb5 (by omega) (r_R_sortOf (by omega) _ _ _ _ hx6) (Nat.le_of_ble_eq_true rfl) jml_205 (Nat.le_of_ble_eq_true rfl) ?_
      refine jr_lload_n jf_211_29 rfl hl2 ?_
      replace h := obd_of h; obtain ⟨x7, hx7, h⟩ := h
      refine jr_S3_2 jf_211_30 (by omega) (r_R_valueOf (by omega) _ _ _ _ hx7) (Nat.le_of_ble_eq_true rfl) jml_196 (Nat.le_of_ble_eq_true rfl) ?_
      replace h := jgd_of h; obtain ⟨hb8, h⟩ := h
      replace h := jbd2_of h; obtain ⟨x9, μ10, hx9, h⟩ := h
      refine jr_V6_2 jf_211_33 hb8 (by omega) (r_R_goes (by omega) _ _ _ _ _ _ hx9) (Nat.le_of_ble_eq_true rfl) jml_213 (Nat.le_of_ble_eq_true rfl) ?_
      obtain ⟨rfl, rfl⟩ := Prod.mk.inj (Option.some.inj h)
      exact jr_retI jf_211_36 jmt_211
    · refine jr_ifz_ne_f jf_211_17 hc ?_
      refine jr_iconst jf_211_20 jc_i_m1 ?_
      obtain ⟨rfl, rfl⟩ := Prod.mk.inj (Option.some.inj h)
      exact jr_retI jf_211_21 jmt_211
  · refine jr_ifz_eq_t jf_211_5 hc ?_
    refine jr_iconst jf_211_20 jc_i_m1 ?_
    obtain ⟨rfl, rfl⟩ := Prod.mk.inj (Option.some.inj h)
    exact jr_retI jf_211_21 jmt_211
set_option maxRecDepth 10000 in
set_option maxHeartbeats 4000000 in
theorem r_R_feed {N B : Nat} {SA : Nat → Nat} {d : Nat} (hd : 6 ≤ d) : ∀ (v0 : Nat) (v1 : Int32) (v2 : Int64) (μ : JMem) (r : Int32) (μ9 : JMem), g_R_feed N B v0 v1 v2 μ = some (r, μ9) → jR B SA d m_R_feed 0 (lv_args 0 [.ref v0, .int v1, .long v2]) [] μ (some (.int r)) μ9 := by
  intro v0 v1 v2 μ r μ9 h
  exact r_R_feed_e hd (lv_args 0 _) _ _ _ _ _ _ (by simp [lv_args, jget, rv_cat, cat_int, cat_long, cat_double, cat_float, cat_ref]) (by simp [lv_args, jget, rv_cat, cat_int, cat_long, cat_double, cat_float, cat_ref]) (by simp [lv_args, jget, rv_cat, cat_int, cat_long, cat_double, cat_float, cat_ref]) h
/-! FilterBenchModel.run(III)I -/
set_option maxRecDepth 10000 in
set_option maxHeartbeats 4000000 in
theorem r_R_run_65 {N B : Nat} {SA : Nat → Nat} {d : Nat} (hd : 6 ≤ d) {k29 : Nat → Int32 → Int32 → Int32 → Int32 → Int32 → JMem → Option (Int32 × JMem)} (i29 : ∀ (L : JLoc) (v0 : Nat) (v1 : Int32) (v2 : Int32) (v4 : Int32) (v5 : Int32) (v6 : Int32) (μ : JMem) (r : Int32) (μ9 : JMem), jget L 0 = .ref v0 → jget L 1 = .int v1 → jget L 2 = .int v2 → jget L 4 = .int v4 → jget L 5 = .int v5 → jget L 6 = .int v6 → k29 v0 v1 v2 v4 v5 v6 μ = some (r, μ9) → jR B SA d m_R_run 29 L [] μ (some (.int r)) μ9) : ∀ (L : JLoc) (v0 : Nat) (v1 : Int32) (v2 : Int32) (v5 : Int32) (v6 : Int32) (s0 : UInt64) (s1 : Int32) (s2 : Nat) (s3 : Int32) (μ : JMem) (r : Int32) (μ9 : JMem), jget L 0 = .ref v0 → jget L 1 = .int v1 → jget L 2 = .int v2 → jget L 5 = .int v5 → jget L 6 = .int v6 → g_R_run_65 N B k29 v0 v1 v2 v5 v6 s0 s1 s2 s3 μ = some (r, μ9) → jR B SA d m_R_run 65 L [.double s0, .int s1, .ref s2, .int s3] μ (some (.int r)) μ9 := by
  intro L v0 v1 v2 v5 v6 s0 s1 s2 s3 μ r μ9 hl0 hl1 hl2 hl5 hl6 h
  unfold g_R_run_65 at h
  replace h := jgd_of h; obtain ⟨hb1, h⟩ := h
  replace h := jbd2_of h; obtain ⟨x2, μ3, hx2, h⟩ := h
  refine jr_V6_2 jf_232_65 hb1 (by omega) (r_R_goes (by omega) _ _ _ _ _ _ hx2) (Nat.le_of_ble_eq_true rfl) jml_213 (Nat.le_of_ble_eq_true rfl) ?_
  refine jr_iadd jf_232_68 ?_
  refine jr_istore jf_232_69 jml_232 (by decide) ?_
  refine jr_iload jf_232_71 (jg1_ne rfl hl5) ?_
  refine jr_ldc_w jf_232_73 ?_
  refine jr_imul jf_232_76 ?_
  refine jr_sipush jf_232_77 jc_s_12345 ?_
  refine jr_iadd jf_232_80 ?_
  refine jr_istore jf_232_81 jml_232 (by decide) ?_
  replace h := jlet_of h
  refine jr_iinc jf_232_83 jc_i_1 jml_232 (by decide) (jg1_ne rfl (jg1_ne rfl hl6)) ?_
  refine jr_goto jf_232_86 ?_
  exact i29 _ _ _ _ _ _ _ _ _ _ (jg1_ne rfl (jg1_ne rfl (jg1_ne rfl hl0))) (jg1_ne rfl (jg1_ne rfl (jg1_ne rfl hl1))) (jg1_ne rfl (jg1_ne rfl (jg1_ne rfl hl2))) (jg1_ne rfl (jg1_pre rfl jg1_same)) (jg1_pre rfl jg1_same) jg1_same h
set_option maxRecDepth 10000 in
set_option maxHeartbeats 4000000 in
theorem r_R_run_29 {N B : Nat} {SA : Nat → Nat} {d : Nat} (hd : 6 ≤ d) : ∀ (n : Nat), ∀ (L : JLoc) (v0 : Nat) (v1 : Int32) (v2 : Int32) (v4 : Int32) (v5 : Int32) (v6 : Int32) (μ : JMem) (r : Int32) (μ9 : JMem), jget L 0 = .ref v0 → jget L 1 = .int v1 → jget L 2 = .int v2 → jget L 4 = .int v4 → jget L 5 = .int v5 → jget L 6 = .int v6 → g_R_run_29 N B n v0 v1 v2 v4 v5 v6 μ = some (r, μ9) → jR B SA d m_R_run 29 L [] μ (some (.int r)) μ9 := by
  intro n
  induction n with
  | zero =>
    intro L v0 v1 v2 v4 v5 v6 μ r μ9 hl0 hl1 hl2 hl4 hl5 hl6 h
    unfold g_R_run_29 at h
    cases h
  | succ n ih =>
    intro L v0 v1 v2 v4 v5 v6 μ r μ9 hl0 hl1 hl2 hl4 hl5 hl6 h
    unfold g_R_run_29 at h
    refine jr_iload jf_232_29 hl6 ?_
    refine jr_iload_n jf_232_31 rfl hl2 ?_
    replace h := ite_or h; rcases h with ⟨hc, h⟩ | ⟨hc, h⟩
    · refine jr_if2_ge_t jf_232_32 hc ?_
      refine jr_iload jf_232_89 hl4 ?_
      obtain ⟨rfl, rfl⟩ := Prod.mk.inj (Option.some.inj h)
      exact jr_retI jf_232_91 jmt_232
    · refine jr_if2_ge_f jf_232_32 hc ?_
      refine jr_iload jf_232_35 hl5 ?_
      refine jr_i2s jf_232_37 ?_
      refine jr_i2d jf_232_38 ?_
      refine jr_dstore jf_232_39 jml_232 (by decide) ?_
      replace h := jlet_of h
      refine jr_iload jf_232_41 (jg2_ne rfl hl4) ?_
      refine jr_aload_n jf_232_43 rfl (jg2_ne rfl hl0) ?_
      refine jr_iload_n jf_232_44 rfl (jg2_ne rfl hl1) ?_
      refine jr_aload_n jf_232_45 rfl (jg2_ne rfl hl0) ?_
      refine jr_iload_n jf_232_46 rfl (jg2_ne rfl hl1) ?_
      replace h := jgd_of h; obtain ⟨hb2, h⟩ := h
      replace h := obd_of h; obtain ⟨x3, hx3, h⟩ := h
      refine jr_V6_1 jf_232_47 hb2 (by omega) (r_R_sortOf (by omega) _ _ _ _ hx3) (Nat.le_of_ble_eq_true rfl) jml_205 (Nat.le_of_ble_eq_true rfl) ?_
      refine jr_iconst jf_232_50 jc_i_2 ?_
      replace h := ite_or h; rcases h with ⟨hc, h⟩ | ⟨hc, h⟩
      · refine jr_if2_ne_f jf_232_51 hc ?_
        refine jr_dload jf_232_54 jg2_same ?_
        refine jr_goto jf_232_56 ?_
        exact r_R_run_65 hd ih _ _ _ _ _ _ _ _ _ _ _ _ _ (jg2_ne rfl hl0) (jg2_ne rfl hl1) (jg2_ne rfl hl2) (jg2_ne rfl hl5) (jg2_pre rfl hl6) h
      · refine jr_if2_ne_t jf_232_51 hc ?_
        refine jr_dload jf_232_59 jg2_same ?_
        refine jr_ldc2d jf_232_61 ?_
        replace h := obd_of h; obtain ⟨x4, hx4, h⟩ := h
        refine jr_ddiv jf_232_64 hx4 ?_
        exact r_R_run_65 hd ih _ _ _ _ _ _ _ _ _ _ _ _ _ (jg2_ne rfl hl0) (jg2_ne rfl hl1) (jg2_ne rfl hl2) (jg2_ne rfl hl5) (jg2_pre rfl hl6) h
set_option maxRecDepth 10000 in
set_option maxHeartbeats 4000000 in
theorem r_R_run_e {N B : Nat} {SA : Nat → Nat} {d : Nat} (hd : 6 ≤ d) : ∀ (L : JLoc) (v0 : Nat) (v1 : Int32) (v2 : Int32) (v3 : Int32) (μ : JMem) (r : Int32) (μ9 : JMem), jget L 0 = .ref v0 → jget L 1 = .int v1 → jget L 2 = .int v2 → jget L 3 = .int v3 → g_R_run N B v0 v1 v2 v3 μ = some (r, μ9) → jR B SA d m_R_run 0 L [] μ (some (.int r)) μ9 := by
  intro L v0 v1 v2 v3 μ r μ9 hl0 hl1 hl2 hl3 h
  unfold g_R_run at h
  refine jr_aload_n jf_232_0 rfl hl0 ?_
  refine jr_iload_n jf_232_1 rfl hl1 ?_
  replace h := jgd_of h; obtain ⟨hb1, h⟩ := h
  replace h := obd_of h; obtain ⟨x2, hx2, h⟩ := h
  refine jr_V6_1 jf_232_2 hb1 (by omega) (r_R_isFed (by omega) _ _ _ _ hx2) (Nat.le_of_ble_eq_true rfl) jml_212 (Nat.le_of_ble_eq_true rfl) ?_
  replace h := ite_or h; rcases h with ⟨hc, h⟩ | ⟨hc, h⟩
  · refine jr_ifz_eq_f jf_232_5 hc ?_
    refine jr_iload_n jf_232_8 rfl hl2 ?_
    refine jr_iconst jf_232_9 jc_i_1 ?_
    refine jr_bipush jf_232_10 jc_b_100 ?_
    refine jr_S3_3 jf_232_12 (by omega) (r_R_in (by omega) _ _ _ _ _ rfl) (Nat.le_of_ble_eq_true rfl) jml_187 (Nat.le_of_ble_eq_true rfl) ?_
    replace h := ite_or h; rcases h with ⟨hc, h⟩ | ⟨hc, h⟩
    · refine jr_ifz_ne_t jf_232_15 hc ?_
      refine jr_iconst jf_232_20 jc_i_0 ?_
      refine jr_istore jf_232_21 jml_232 (by decide) ?_
      refine jr_iload_n jf_232_23 rfl (jg1_pre rfl hl3) ?_
      refine jr_istore jf_232_24 jml_232 (by decide) ?_
      refine jr_iconst jf_232_26 jc_i_0 ?_
      refine jr_istore jf_232_27 jml_232 (by decide) ?_
      exact r_R_run_29 hd _ _ _ _ _ _ _ _ _ _ _ (jg1_ne rfl (jg1_ne rfl (jg1_ne rfl hl0))) (jg1_ne rfl (jg1_ne rfl (jg1_ne rfl hl1))) (jg1_ne rfl (jg1_ne rfl (jg1_ne rfl hl2))) (jg1_ne rfl (jg1_pre rfl jg1_same)) (jg1_pre rfl jg1_same) jg1_same h
    · refine jr_ifz_ne_f jf_232_15 hc ?_
      refine jr_iconst jf_232_18 jc_i_m1 ?_
      obtain ⟨rfl, rfl⟩ := Prod.mk.inj (Option.some.inj h)
      exact jr_retI jf_232_19 jmt_232
  · refine jr_ifz_eq_t jf_232_5 hc ?_
    refine jr_iconst jf_232_18 jc_i_m1 ?_
    obtain ⟨rfl, rfl⟩ := Prod.mk.inj (Option.some.inj h)
    exact jr_retI jf_232_19 jmt_232
set_option maxRecDepth 10000 in
set_option maxHeartbeats 4000000 in
theorem r_R_run {N B : Nat} {SA : Nat → Nat} {d : Nat} (hd : 6 ≤ d) : ∀ (v0 : Nat) (v1 : Int32) (v2 : Int32) (v3 : Int32) (μ : JMem) (r : Int32) (μ9 : JMem), g_R_run N B v0 v1 v2 v3 μ = some (r, μ9) → jR B SA d m_R_run 0 (lv_args 0 [.ref v0, .int v1, .int v2, .int v3]) [] μ (some (.int r)) μ9 := by
  intro v0 v1 v2 v3 μ r μ9 h
  exact r_R_run_e hd (lv_args 0 _) _ _ _ _ _ _ _ (by simp [lv_args, jget, rv_cat, cat_int, cat_long, cat_double, cat_float, cat_ref]) (by simp [lv_args, jget, rv_cat, cat_int, cat_long, cat_double, cat_float, cat_ref]) (by simp [lv_args, jget, rv_cat, cat_int, cat_long, cat_double, cat_float, cat_ref]) (by simp [lv_args, jget, rv_cat, cat_int, cat_long, cat_double, cat_float, cat_ref]) h
/-! java/lang/Double.isNaN(D)Z -/
set_option maxRecDepth 10000 in
set_option maxHeartbeats 4000000 in
theorem r_JDouble_isNaN_e {B : Nat} {SA : Nat → Nat} {d : Nat} (hd : 0 ≤ d) : ∀ (L : JLoc) (v0 : UInt64) (μ : JMem) (r : Bool), jget L 0 = .double v0 → g_JDouble_isNaN v0 = r → jR B SA d m_JDouble_isNaN 0 L [] μ (some (.int (jb r))) μ := by
  intro L v0 μ r hl0 h
  unfold g_JDouble_isNaN at h
  refine jr_dload_n jf_237_0 rfl hl0 ?_
  refine jr_dload_n jf_237_1 rfl hl0 ?_
  refine jr_dcmp jf_237_2 ?_
  replace h := ite_or h; rcases h with ⟨hc, h⟩ | ⟨hc, h⟩
  · refine jr_if_eq_t jf_237_3 hc ?_
    refine jr_iconst jf_237_10 jc_i_0 ?_
    subst h
    exact jr_retZ (x := false) jf_237_11 jmt_237
  · refine jr_if_eq_f jf_237_3 hc ?_
    refine jr_iconst jf_237_6 jc_i_1 ?_
    refine jr_goto jf_237_7 ?_
    subst h
    exact jr_retZ (x := true) jf_237_11 jmt_237
set_option maxRecDepth 10000 in
set_option maxHeartbeats 4000000 in
theorem r_JDouble_isNaN {B : Nat} {SA : Nat → Nat} {d : Nat} (hd : 0 ≤ d) : ∀ (v0 : UInt64) (μ : JMem) (r : Bool), g_JDouble_isNaN v0 = r → jR B SA d m_JDouble_isNaN 0 (lv_args 0 [.double v0]) [] μ (some (.int (jb r))) μ := by
  intro v0 μ r h
  exact r_JDouble_isNaN_e hd (lv_args 0 _) _ _ _ (by simp [lv_args, jget, rv_cat, cat_int, cat_long, cat_double, cat_float, cat_ref]) h
/-! java/lang/Double.doubleToLongBits(D)J -/
set_option maxRecDepth 10000 in
set_option maxHeartbeats 4000000 in
theorem r_JDouble_doubleToLongBits_e {B : Nat} {SA : Nat → Nat} {d : Nat} (hd : 1 ≤ d) : ∀ (L : JLoc) (v0 : UInt64) (μ : JMem) (r : Int64), jget L 0 = .double v0 → g_JDouble_doubleToLongBits v0 = r → jR B SA d m_JDouble_doubleToLongBits 0 L [] μ (some (.long r)) μ := by
  intro L v0 μ r hl0 h
  unfold g_JDouble_doubleToLongBits at h
  refine jr_dload_n jf_236_0 rfl hl0 ?_
  refine jr_S3_1 jf_236_1 (by omega) (r_JDouble_isNaN (by omega) _ _ _ rfl) (Nat.le_of_ble_eq_true rfl) jml_237 (Nat.le_of_ble_eq_true rfl) ?_
  replace h := ite_or h; rcases h with ⟨hc, h⟩ | ⟨hc, h⟩
  · refine jr_ifz_ne_t jf_236_4 hc ?_
    refine jr_ldc2l jf_236_12 ?_
    subst h
    exact jr_retJ jf_236_15 jmt_236
  · refine jr_ifz_ne_f jf_236_4 hc ?_
    refine jr_dload_n jf_236_7 rfl hl0 ?_
    refine jr_d2ln jf_236_8 (by omega) (Nat.le_of_ble_eq_true rfl) ?_
    subst h
    exact jr_retJ jf_236_11 jmt_236
set_option maxRecDepth 10000 in
set_option maxHeartbeats 4000000 in
theorem r_JDouble_doubleToLongBits {B : Nat} {SA : Nat → Nat} {d : Nat} (hd : 1 ≤ d) : ∀ (v0 : UInt64) (μ : JMem) (r : Int64), g_JDouble_doubleToLongBits v0 = r → jR B SA d m_JDouble_doubleToLongBits 0 (lv_args 0 [.double v0]) [] μ (some (.long r)) μ := by
  intro v0 μ r h
  exact r_JDouble_doubleToLongBits_e hd (lv_args 0 _) _ _ _ (by simp [lv_args, jget, rv_cat, cat_int, cat_long, cat_double, cat_float, cat_ref]) h
/-! java/lang/Float.isNaN(F)Z -/
set_option maxRecDepth 10000 in
set_option maxHeartbeats 4000000 in
theorem r_JFloat_isNaN_e {B : Nat} {SA : Nat → Nat} {d : Nat} (hd : 0 ≤ d) : ∀ (L : JLoc) (v0 : UInt32) (μ : JMem) (r : Bool), jget L 0 = .float v0 → g_JFloat_isNaN v0 = r → jR B SA d m_JFloat_isNaN 0 L [] μ (some (.int (jb r))) μ := by
  intro L v0 μ r hl0 h
  unfold g_JFloat_isNaN at h
  refine jr_fload_n jf_239_0 rfl hl0 ?_
  refine jr_fload_n jf_239_1 rfl hl0 ?_
  refine jr_fcmp jf_239_2 ?_
  replace h := ite_or h; rcases h with ⟨hc, h⟩ | ⟨hc, h⟩
  · refine jr_if_eq_t jf_239_3 hc ?_
    refine jr_iconst jf_239_10 jc_i_0 ?_
    subst h
    exact jr_retZ (x := false) jf_239_11 jmt_239
  · refine jr_if_eq_f jf_239_3 hc ?_
    refine jr_iconst jf_239_6 jc_i_1 ?_
    refine jr_goto jf_239_7 ?_
    subst h
    exact jr_retZ (x := true) jf_239_11 jmt_239
set_option maxRecDepth 10000 in
set_option maxHeartbeats 4000000 in
theorem r_JFloat_isNaN {B : Nat} {SA : Nat → Nat} {d : Nat} (hd : 0 ≤ d) : ∀ (v0 : UInt32) (μ : JMem) (r : Bool), g_JFloat_isNaN v0 = r → jR B SA d m_JFloat_isNaN 0 (lv_args 0 [.float v0]) [] μ (some (.int (jb r))) μ := by
  intro v0 μ r h
  exact r_JFloat_isNaN_e hd (lv_args 0 _) _ _ _ (by simp [lv_args, jget, rv_cat, cat_int, cat_long, cat_double, cat_float, cat_ref]) h
/-! java/lang/Float.floatToIntBits(F)I -/
set_option maxRecDepth 10000 in
set_option maxHeartbeats 4000000 in
theorem r_JFloat_floatToIntBits_e {B : Nat} {SA : Nat → Nat} {d : Nat} (hd : 1 ≤ d) : ∀ (L : JLoc) (v0 : UInt32) (μ : JMem) (r : Int32), jget L 0 = .float v0 → g_JFloat_floatToIntBits v0 = r → jR B SA d m_JFloat_floatToIntBits 0 L [] μ (some (.int r)) μ := by
  intro L v0 μ r hl0 h
  unfold g_JFloat_floatToIntBits at h
  refine jr_fload_n jf_238_0 rfl hl0 ?_
  refine jr_S3_1 jf_238_1 (by omega) (r_JFloat_isNaN (by omega) _ _ _ rfl) (Nat.le_of_ble_eq_true rfl) jml_239 (Nat.le_of_ble_eq_true rfl) ?_
  replace h := ite_or h; rcases h with ⟨hc, h⟩ | ⟨hc, h⟩
  · refine jr_ifz_ne_t jf_238_4 hc ?_
    refine jr_ldc jf_238_12 ?_
    subst h
    exact jr_retI jf_238_14 jmt_238
  · refine jr_ifz_ne_f jf_238_4 hc ?_
    refine jr_fload_n jf_238_7 rfl hl0 ?_
    refine jr_f2in jf_238_8 (by omega) (Nat.le_of_ble_eq_true rfl) ?_
    subst h
    exact jr_retI jf_238_11 jmt_238
set_option maxRecDepth 10000 in
set_option maxHeartbeats 4000000 in
theorem r_JFloat_floatToIntBits {B : Nat} {SA : Nat → Nat} {d : Nat} (hd : 1 ≤ d) : ∀ (v0 : UInt32) (μ : JMem) (r : Int32), g_JFloat_floatToIntBits v0 = r → jR B SA d m_JFloat_floatToIntBits 0 (lv_args 0 [.float v0]) [] μ (some (.int r)) μ := by
  intro v0 μ r h
  exact r_JFloat_floatToIntBits_e hd (lv_args 0 _) _ _ _ (by simp [lv_args, jget, rv_cat, cat_int, cat_long, cat_double, cat_float, cat_ref]) h
/-! FilterBenchModel.bitsOf(ID)J -/
set_option maxRecDepth 10000 in
set_option maxHeartbeats 4000000 in
theorem r_R_bitsOf_e {B : Nat} {SA : Nat → Nat} {d : Nat} (hd : 2 ≤ d) : ∀ (L : JLoc) (v0 : Int32) (v1 : UInt64) (μ : JMem) (r : Int64), jget L 0 = .int v0 → jget L 1 = .double v1 → g_R_bitsOf v0 v1 = some r → jR B SA d m_R_bitsOf 0 L [] μ (some (.long r)) μ := by
  intro L v0 v1 μ r hl0 hl1 h
  unfold g_R_bitsOf at h
  refine jr_dload_n jf_235_0 rfl hl1 ?_
  refine jr_dload_n jf_235_1 rfl hl1 ?_
  refine jr_dcmp jf_235_2 ?_
  replace h := ite_or h; rcases h with ⟨hc, h⟩ | ⟨hc, h⟩
  · refine jr_if_eq_t jf_235_3 hc ?_
    refine jr_iload_n jf_235_20 rfl hl0 ?_
    replace h := ite_or h; rcases h with ⟨hc, h⟩ | ⟨hc, h⟩
    · refine jr_if_ne_f jf_235_21 hc ?_
      refine jr_dload_n jf_235_24 rfl hl1 ?_
      refine jr_S3_1 jf_235_25 (by omega) (r_JDouble_doubleToLongBits (by omega) _ _ _ rfl) (Nat.le_of_ble_eq_true rfl) jml_236 (Nat.le_of_ble_eq_true rfl) ?_
      obtain rfl := Option.some.inj h
      exact jr_retJ jf_235_28 jmt_235
    · refine jr_if_ne_t jf_235_21 hc ?_
      refine jr_iload_n jf_235_29 rfl hl0 ?_
      refine jr_iconst jf_235_30 jc_i_1 ?_
      replace h := ite_or h; rcases h with ⟨hc, h⟩ | ⟨hc, h⟩
      · refine jr_if2_ne_f jf_235_31 hc ?_
        refine jr_dload_n jf_235_34 rfl hl1 ?_
        replace h := obd_of h; obtain ⟨x1, hx1, h⟩ := h
        refine jr_d2f jf_235_35 hx1 ?_
        refine jr_S3_1 jf_235_36 (by omega) (r_JFloat_floatToIntBits (by omega) _ _ _ rfl) (Nat.le_of_ble_eq_true rfl) jml_238 (Nat.le_of_ble_eq_true rfl) ?_
        refine jr_i2l jf_235_39 ?_
        obtain rfl := Option.some.inj h
        exact jr_retJ jf_235_40 jmt_235
      · refine jr_if2_ne_t jf_235_31 hc ?_
        refine jr_dload_n jf_235_41 rfl hl1 ?_
        refine jr_d2l jf_235_42 ?_
        obtain rfl := Option.some.inj h
        exact jr_retJ jf_235_43 jmt_235
  · refine jr_if_eq_f jf_235_3 hc ?_
    refine jr_iload_n jf_235_6 rfl hl0 ?_
    replace h := ite_or h; rcases h with ⟨hc, h⟩ | ⟨hc, h⟩
    · refine jr_if_ne_f jf_235_7 hc ?_
      refine jr_ldc2l jf_235_10 ?_
      refine jr_goto jf_235_13 ?_
      obtain rfl := Option.some.inj h
      exact jr_retJ jf_235_19 jmt_235
    · refine jr_if_ne_t jf_235_7 hc ?_
      refine jr_ldc2l jf_235_16 ?_
      obtain rfl := Option.some.inj h
      exact jr_retJ jf_235_19 jmt_235
set_option maxRecDepth 10000 in
set_option maxHeartbeats 4000000 in
theorem r_R_bitsOf {B : Nat} {SA : Nat → Nat} {d : Nat} (hd : 2 ≤ d) : ∀ (v0 : Int32) (v1 : UInt64) (μ : JMem) (r : Int64), g_R_bitsOf v0 v1 = some r → jR B SA d m_R_bitsOf 0 (lv_args 0 [.int v0, .double v1]) [] μ (some (.long r)) μ := by
  intro v0 v1 μ r h
  exact r_R_bitsOf_e hd (lv_args 0 _) _ _ _ _ (by simp [lv_args, jget, rv_cat, cat_int, cat_long, cat_double, cat_float, cat_ref]) (by simp [lv_args, jget, rv_cat, cat_int, cat_long, cat_double, cat_float, cat_ref]) h
/-! FilterBenchModel.isKeptOut(II)Z -/
set_option maxRecDepth 10000 in
set_option maxHeartbeats 4000000 in
theorem r_R_isKeptOut_e {B : Nat} {SA : Nat → Nat} {d : Nat} (hd : 0 ≤ d) : ∀ (L : JLoc) (v0 : Nat) (v1 : Int32) (v2 : Int32) (μ : JMem) (r : Bool), jget L 0 = .ref v0 → jget L 1 = .int v1 → jget L 2 = .int v2 → g_R_isKeptOut v0 v1 v2 μ.1 = some r → jR B SA d m_R_isKeptOut 0 L [] μ (some (.int (jb r))) μ := by
  intro L v0 v1 v2 μ r hl0 hl1 hl2 h
  unfold g_R_isKeptOut at h
  refine jr_iload_n jf_234_0 rfl hl2 ?_
  replace h := ite_or h; rcases h with ⟨hc, h⟩ | ⟨hc, h⟩
  · refine jr_if_lt_t jf_234_1 hc ?_
    refine jr_iconst jf_234_32 jc_i_0 ?_
    obtain rfl := Option.some.inj h
    exact jr_retZ (x := false) jf_234_33 jmt_234
  · refine jr_if_lt_f jf_234_1 hc ?_
    refine jr_iload_n jf_234_4 rfl hl2 ?_
    refine jr_aload_n jf_234_5 rfl hl0 ?_
    replace h := obd_of h; obtain ⟨x1, hx1, h⟩ := h
    refine jr_getA jf_234_6 hx1 ?_
    refine jr_iload_n jf_234_9 rfl hl1 ?_
    replace h := obd_of h; obtain ⟨a2, rfl, h⟩ := h
    replace h := obd_of h; obtain ⟨x3, hx3, h⟩ := h
    refine jr_iaload jf_234_10 hx3 ?_
    replace h := ite_or h; rcases h with ⟨hc, h⟩ | ⟨hc, h⟩
    · refine jr_if2_ge_t jf_234_11 hc ?_
      refine jr_iconst jf_234_32 jc_i_0 ?_
      obtain rfl := Option.some.inj h
      exact jr_retZ (x := false) jf_234_33 jmt_234
    · refine jr_if2_ge_f jf_234_11 hc ?_
      refine jr_iload_n jf_234_14 rfl hl2 ?_
      refine jr_aload_n jf_234_15 rfl hl0 ?_
      replace h := obd_of h; obtain ⟨x4, hx4, h⟩ := h
      refine jr_getA jf_234_16 hx4 ?_
      refine jr_iload_n jf_234_19 rfl hl1 ?_
      replace h := obd_of h; obtain ⟨a5, rfl, h⟩ := h
      replace h := obd_of h; obtain ⟨x6, hx6, h⟩ := h
      refine jr_iaload jf_234_20 hx6 ?_
      refine jr_sipush jf_234_21 jc_s_400 ?_
      refine jr_isub jf_234_24 ?_
      replace h := ite_or h; rcases h with ⟨hc, h⟩ | ⟨hc, h⟩
      · refine jr_if2_lt_t jf_234_25 hc ?_
        refine jr_iconst jf_234_32 jc_i_0 ?_
        obtain rfl := Option.some.inj h
        exact jr_retZ (x := false) jf_234_33 jmt_234
      · refine jr_if2_lt_f jf_234_25 hc ?_
        refine jr_iconst jf_234_28 jc_i_1 ?_
        refine jr_goto jf_234_29 ?_
        obtain rfl := Option.some.inj h
        exact jr_retZ (x := true) jf_234_33 jmt_234
set_option maxRecDepth 10000 in
set_option maxHeartbeats 4000000 in
theorem r_R_isKeptOut {B : Nat} {SA : Nat → Nat} {d : Nat} (hd : 0 ≤ d) : ∀ (v0 : Nat) (v1 : Int32) (v2 : Int32) (μ : JMem) (r : Bool), g_R_isKeptOut v0 v1 v2 μ.1 = some r → jR B SA d m_R_isKeptOut 0 (lv_args 0 [.ref v0, .int v1, .int v2]) [] μ (some (.int (jb r))) μ := by
  intro v0 v1 v2 μ r h
  exact r_R_isKeptOut_e hd (lv_args 0 _) _ _ _ _ _ (by simp [lv_args, jget, rv_cat, cat_int, cat_long, cat_double, cat_float, cat_ref]) (by simp [lv_args, jget, rv_cat, cat_int, cat_long, cat_double, cat_float, cat_ref]) (by simp [lv_args, jget, rv_cat, cat_int, cat_long, cat_double, cat_float, cat_ref]) h
/-! FilterBenchModel.output(II)J -/
set_option maxRecDepth 10000 in
set_option maxHeartbeats 4000000 in
theorem r_R_output_e {B : Nat} {SA : Nat → Nat} {d : Nat} (hd : 3 ≤ d) : ∀ (L : JLoc) (v0 : Nat) (v1 : Int32) (v2 : Int32) (μ : JMem) (r : Int64), jget L 0 = .ref v0 → jget L 1 = .int v1 → jget L 2 = .int v2 → g_R_output v0 v1 v2 μ.1 = some r → jR B SA d m_R_output 0 L [] μ (some (.long r)) μ := by
  intro L v0 v1 v2 μ r hl0 hl1 hl2 h
  unfold g_R_output at h
  refine jr_aload_n jf_233_0 rfl hl0 ?_
  refine jr_iload_n jf_233_1 rfl hl1 ?_
  replace h := jgd_of h; obtain ⟨hb1, h⟩ := h
  replace h := obd_of h; obtain ⟨x2, hx2, h⟩ := h
  refine jr_V6_1 jf_233_2 hb1 (by omega) (r_R_isChain (by omega) _ _ _ _ hx2) (Nat.le_of_ble_eq_true rfl) jml_204 (Nat.le_of_ble_eq_true rfl) ?_
  replace h := ite_or h; rcases h with ⟨hc, h⟩ | ⟨hc, h⟩
  · refine jr_ifz_eq_f jf_233_5 hc ?_
    refine jr_aload_n jf_233_8 rfl hl0 ?_
    refine jr_iload_n jf_233_9 rfl hl1 ?_
    refine jr_iload_n jf_233_10 rfl hl2 ?_
    replace h := jgd_of h; obtain ⟨hb3, h⟩ := h
    replace h := obd_of h; obtain ⟨x4, hx4, h⟩ := h
    refine jr_V6_2 jf_233_11 hb3 (by omega) (r_R_isKeptOut (by omega) _ _ _ _ _ hx4) (Nat.le_of_ble_eq_true rfl) jml_234 (Nat.le_of_ble_eq_true rfl) ?_
    replace h := ite_or h; rcases h with ⟨hc, h⟩ | ⟨hc, h⟩
    · refine jr_ifz_ne_t jf_233_14 hc ?_
      refine jr_aload_n jf_233_19 rfl hl0 ?_
      refine jr_iload_n jf_233_20 rfl hl1 ?_
      replace h := jgd_of h; obtain ⟨hb5, h⟩ := h
      replace h := obd_of h; obtain ⟨x6, hx6, h⟩ := h
      refine jr_V6_1 jf_233_21 hb5 (by omega) (r_R_sortOf (by omega) _ _ _ _ hx6) (Nat.le_of_ble_eq_true rfl) jml_205 (Nat.le_of_ble_eq_true rfl) ?_
      refine jr_aload_n jf_233_24 rfl hl0 ?_
      replace h := obd_of h; obtain ⟨x7, hx7, h⟩ := h
      refine jr_getA jf_233_25 hx7 ?_
      refine jr_sipush jf_233_28 jc_s_400 ?_
      refine jr_iload_n jf_233_31 rfl hl1 ?_
      refine jr_imul jf_233_32 ?_
      refine jr_iload_n jf_233_33 rfl hl2 ?_
      refine jr_sipush jf_233_34 jc_s_400 ?_
      refine jr_irem jf_233_37 (by simp only [jremI]; exact if_neg (by decide)) ?_
      refine jr_iadd jf_233_38 ?_
      replace h := obd_of h; obtain ⟨a8, rfl, h⟩ := h
      replace h := obd_of h; obtain ⟨x9, hx9, h⟩ := h
      refine jr_daload jf_233_39 hx9 ?_
      replace h := obd_of h; obtain ⟨x10, hx10, h⟩ := h
      refine jr_S3_2 jf_233_40 (by omega) (r_R_bitsOf (by omega) _ _ _ _ hx10) (Nat.le_of_ble_eq_true rfl) jml_235 (Nat.le_of_ble_eq_true rfl) ?_
      obtain rfl := Option.some.inj h
      exact jr_retJ jf_233_43 jmt_233
    · refine jr_ifz_ne_f jf_233_14 hc ?_
      refine jr_lconst0 jf_233_17 ?_
      obtain rfl := Option.some.inj h
      exact jr_retJ jf_233_18 jmt_233
  · refine jr_ifz_eq_t jf_233_5 hc ?_
    refine jr_lconst0 jf_233_17 ?_
    obtain rfl := Option.some.inj h
    exact jr_retJ jf_233_18 jmt_233
set_option maxRecDepth 10000 in
set_option maxHeartbeats 4000000 in
theorem r_R_output {B : Nat} {SA : Nat → Nat} {d : Nat} (hd : 3 ≤ d) : ∀ (v0 : Nat) (v1 : Int32) (v2 : Int32) (μ : JMem) (r : Int64), g_R_output v0 v1 v2 μ.1 = some r → jR B SA d m_R_output 0 (lv_args 0 [.ref v0, .int v1, .int v2]) [] μ (some (.long r)) μ := by
  intro v0 v1 v2 μ r h
  exact r_R_output_e hd (lv_args 0 _) _ _ _ _ _ (by simp [lv_args, jget, rv_cat, cat_int, cat_long, cat_double, cat_float, cat_ref]) (by simp [lv_args, jget, rv_cat, cat_int, cat_long, cat_double, cat_float, cat_ref]) (by simp [lv_args, jget, rv_cat, cat_int, cat_long, cat_double, cat_float, cat_ref]) h
/-! FilterBenchModel.state(II)J -/
set_option maxRecDepth 10000 in
set_option maxHeartbeats 4000000 in
theorem r_R_state_175 {B : Nat} {SA : Nat → Nat} {d : Nat} (hd : 3 ≤ d) : ∀ (L : JLoc) (v0 : Nat) (v1 : Int32) (v2 : Int32) (v3 : Int32) (μ : JMem) (r : Int64), jget L 0 = .ref v0 → jget L 1 = .int v1 → jget L 2 = .int v2 → jget L 3 = .int v3 → g_R_state_175 v0 v1 v2 v3 μ.1 = some r → jR B SA d m_R_state 175 L [] μ (some (.long r)) μ := by
  intro L v0 v1 v2 v3 μ r hl0 hl1 hl2 hl3 h
  unfold g_R_state_175 at h
  refine jr_iload_n jf_240_175 rfl hl2 ?_
  refine jr_iconst jf_240_176 jc_i_0 ?_
  refine jr_iload_n jf_240_177 rfl hl3 ?_
  refine jr_iconst jf_240_178 jc_i_1 ?_
  refine jr_isub jf_240_179 ?_
  refine jr_S3_3 jf_240_180 (by omega) (r_R_in (by omega) _ _ _ _ _ rfl) (Nat.le_of_ble_eq_true rfl) jml_187 (Nat.le_of_ble_eq_true rfl) ?_
  replace h := ite_or h; rcases h with ⟨hc, h⟩ | ⟨hc, h⟩
  · refine jr_ifz_eq_f jf_240_183 hc ?_
    refine jr_aload_n jf_240_186 rfl hl0 ?_
    replace h := obd_of h; obtain ⟨x1, hx1, h⟩ := h
    refine jr_getA jf_240_187 hx1 ?_
    refine jr_iload_n jf_240_190 rfl hl1 ?_
    replace h := obd_of h; obtain ⟨a2, rfl, h⟩ := h
    replace h := obd_of h; obtain ⟨x3, hx3, h⟩ := h
    refine jr_iaload jf_240_191 hx3 ?_
    refine jr_aload_n jf_240_192 rfl hl0 ?_
    refine jr_iload_n jf_240_193 rfl hl1 ?_
    refine jr_iload_n jf_240_194 rfl hl2 ?_
    replace h := jgd_of h; obtain ⟨hb4, h⟩ := h
    replace h := obd_of h; obtain ⟨x5, hx5, h⟩ := h
    refine jr_V6_2 jf_240_195 hb4 (by omega) (r_R_st (by omega) _ _ _ _ _ hx5) (Nat.le_of_ble_eq_true rfl) jml_225 (Nat.le_of_ble_eq_true rfl) ?_
    replace h := obd_of h; obtain ⟨x6, hx6, h⟩ := h
    refine jr_S3_2 jf_240_198 (by omega) (r_R_bitsOf (by omega) _ _ _ _ hx6) (Nat.le_of_ble_eq_true rfl) jml_235 (Nat.le_of_ble_eq_true rfl) ?_
    refine jr_goto jf_240_201 ?_
    obtain rfl := Option.some.inj h
    exact jr_retJ jf_240_205 jmt_240
  · refine jr_ifz_eq_t jf_240_183 hc ?_
    refine jr_lconst0 jf_240_204 ?_
    obtain rfl := Option.some.inj h
    exact jr_retJ jf_240_205 jmt_240
set_option maxRecDepth 10000 in
set_option maxHeartbeats 4000000 in
theorem r_R_state_92 {B : Nat} {SA : Nat → Nat} {d : Nat} (hd : 3 ≤ d) : ∀ (L : JLoc) (v0 : Nat) (v1 : Int32) (v2 : Int32) (μ : JMem) (r : Int64), jget L 0 = .ref v0 → jget L 1 = .int v1 → jget L 2 = .int v2 → g_R_state_92 v0 v1 v2 μ.1 = some r → jR B SA d m_R_state 92 L [] μ (some (.long r)) μ := by
  intro L v0 v1 v2 μ r hl0 hl1 hl2 h
  unfold g_R_state_92 at h
  refine jr_iconst jf_240_92 jc_i_1 ?_
  refine jr_istore_n jf_240_93 rfl jml_240 (by decide) ?_
  refine jr_goto jf_240_94 ?_
  exact r_R_state_175 hd _ _ _ _ _ _ _ (jg1_ne rfl hl0) (jg1_ne rfl hl1) (jg1_pre rfl hl2) jg1_same h
set_option maxRecDepth 10000 in
set_option maxHeartbeats 4000000 in
theorem r_R_state_102 {B : Nat} {SA : Nat → Nat} {d : Nat} (hd : 3 ≤ d) : ∀ (L : JLoc) (v0 : Nat) (v1 : Int32) (v2 : Int32) (μ : JMem) (r : Int64), jget L 0 = .ref v0 → jget L 1 = .int v1 → jget L 2 = .int v2 → g_R_state_102 v0 v1 v2 μ.1 = some r → jR B SA d m_R_state 102 L [] μ (some (.long r)) μ := by
  intro L v0 v1 v2 μ r hl0 hl1 hl2 h
  unfold g_R_state_102 at h
  refine jr_iconst jf_240_102 jc_i_2 ?_
  refine jr_istore_n jf_240_103 rfl jml_240 (by decide) ?_
  refine jr_goto jf_240_104 ?_
  exact r_R_state_175 hd _ _ _ _ _ _ _ (jg1_ne rfl hl0) (jg1_ne rfl hl1) (jg1_pre rfl hl2) jg1_same h
set_option maxRecDepth 10000 in
set_option maxHeartbeats 4000000 in
theorem r_R_state_107 {B : Nat} {SA : Nat → Nat} {d : Nat} (hd : 3 ≤ d) : ∀ (L : JLoc) (v0 : Nat) (v1 : Int32) (v2 : Int32) (μ : JMem) (r : Int64), jget L 0 = .ref v0 → jget L 1 = .int v1 → jget L 2 = .int v2 → g_R_state_107 v0 v1 v2 μ.1 = some r → jR B SA d m_R_state 107 L [] μ (some (.long r)) μ := by
  intro L v0 v1 v2 μ r hl0 hl1 hl2 h
  unfold g_R_state_107 at h
  refine jr_iload_n jf_240_107 rfl hl2 ?_
  refine jr_iconst jf_240_108 jc_i_0 ?_
  refine jr_aload_n jf_240_109 rfl hl0 ?_
  replace h := obd_of h; obtain ⟨x1, hx1, h⟩ := h
  refine jr_getA jf_240_110 hx1 ?_
  refine jr_iload_n jf_240_113 rfl hl1 ?_
  replace h := obd_of h; obtain ⟨a2, rfl, h⟩ := h
  replace h := obd_of h; obtain ⟨x3, hx3, h⟩ := h
  refine jr_iaload jf_240_114 hx3 ?_
  refine jr_iconst jf_240_115 jc_i_1 ?_
  refine jr_isub jf_240_116 ?_
  refine jr_S3_3 jf_240_117 (by omega) (r_R_in (by omega) _ _ _ _ _ rfl) (Nat.le_of_ble_eq_true rfl) jml_187 (Nat.le_of_ble_eq_true rfl) ?_
  replace h := ite_or h; rcases h with ⟨hc, h⟩ | ⟨hc, h⟩
  · refine jr_ifz_eq_f jf_240_120 hc ?_
    refine jr_aload_n jf_240_123 rfl hl0 ?_
    replace h := obd_of h; obtain ⟨x4, hx4, h⟩ := h
    refine jr_getA jf_240_124 hx4 ?_
    refine jr_iload_n jf_240_127 rfl hl1 ?_
    replace h := obd_of h; obtain ⟨a5, rfl, h⟩ := h
    replace h := obd_of h; obtain ⟨x6, hx6, h⟩ := h
    refine jr_iaload jf_240_128 hx6 ?_
    refine jr_aload_n jf_240_129 rfl hl0 ?_
    refine jr_iload_n jf_240_130 rfl hl1 ?_
    refine jr_aload_n jf_240_131 rfl hl0 ?_
    replace h := obd_of h; obtain ⟨x7, hx7, h⟩ := h
    refine jr_getA jf_240_132 hx7 ?_
    refine jr_iload_n jf_240_135 rfl hl1 ?_
    replace h := obd_of h; obtain ⟨a8, rfl, h⟩ := h
    replace h := obd_of h; obtain ⟨x9, hx9, h⟩ := h
    refine jr_iaload jf_240_136 hx9 ?_
    refine jr_iload_n jf_240_137 rfl hl2 ?_
    refine jr_iadd jf_240_138 ?_
    refine jr_aload_n jf_240_139 rfl hl0 ?_
    replace h := obd_of h; obtain ⟨x10, hx10, h⟩ := h
    refine jr_getA jf_240_140 hx10 ?_
    refine jr_iload_n jf_240_143 rfl hl1 ?_
    replace h := obd_of h; obtain ⟨a11, rfl, h⟩ := h
    replace h := obd_of h; obtain ⟨x12, hx12, h⟩ := h
    refine jr_iaload jf_240_144 hx12 ?_
    replace h := obd_of h; obtain ⟨x13, hx13, h⟩ := h
    refine jr_irem jf_240_145 hx13 ?_
    replace h := jgd_of h; obtain ⟨hb14, h⟩ := h
    replace h := obd_of h; obtain ⟨x15, hx15, h⟩ := h
    refine jr_V6_2 jf_240_146 hb14 (by omega) (r_R_st (by omega) _ _ _ _ _ hx15) (Nat.le_of_ble_eq_true rfl) jml_225 (Nat.le_of_ble_eq_true rfl) ?_
    replace h := obd_of h; obtain ⟨x16, hx16, h⟩ := h
    refine jr_S3_2 jf_240_149 (by omega) (r_R_bitsOf (by omega) _ _ _ _ hx16) (Nat.le_of_ble_eq_true rfl) jml_235 (Nat.le_of_ble_eq_true rfl) ?_
    refine jr_goto jf_240_152 ?_
    obtain rfl := Option.some.inj h
    exact jr_retJ jf_240_156 jmt_240
  · refine jr_ifz_eq_t jf_240_120 hc ?_
    refine jr_lconst0 jf_240_155 ?_
    obtain rfl := Option.some.inj h
    exact jr_retJ jf_240_156 jmt_240
set_option maxRecDepth 10000 in
set_option maxHeartbeats 4000000 in
theorem r_R_state_173 {B : Nat} {SA : Nat → Nat} {d : Nat} (hd : 3 ≤ d) : ∀ (L : JLoc) (v0 : Nat) (v1 : Int32) (v2 : Int32) (μ : JMem) (r : Int64), jget L 0 = .ref v0 → jget L 1 = .int v1 → jget L 2 = .int v2 → g_R_state_173 v0 v1 v2 μ.1 = some r → jR B SA d m_R_state 173 L [] μ (some (.long r)) μ := by
  intro L v0 v1 v2 μ r hl0 hl1 hl2 h
  unfold g_R_state_173 at h
  refine jr_iconst jf_240_173 jc_i_0 ?_
  refine jr_istore_n jf_240_174 rfl jml_240 (by decide) ?_
  exact r_R_state_175 hd _ _ _ _ _ _ _ (jg1_ne rfl hl0) (jg1_ne rfl hl1) (jg1_pre rfl hl2) jg1_same h
set_option maxRecDepth 10000 in
set_option maxHeartbeats 4000000 in
theorem r_R_state_e {B : Nat} {SA : Nat → Nat} {d : Nat} (hd : 3 ≤ d) : ∀ (L : JLoc) (v0 : Nat) (v1 : Int32) (v2 : Int32) (μ : JMem) (r : Int64), jget L 0 = .ref v0 → jget L 1 = .int v1 → jget L 2 = .int v2 → g_R_state v0 v1 v2 μ.1 = some r → jR B SA d m_R_state 0 L [] μ (some (.long r)) μ := by
  intro L v0 v1 v2 μ r hl0 hl1 hl2 h
  unfold g_R_state at h
  refine jr_aload_n jf_240_0 rfl hl0 ?_
  refine jr_iload_n jf_240_1 rfl hl1 ?_
  replace h := jgd_of h; obtain ⟨hb1, h⟩ := h
  replace h := obd_of h; obtain ⟨x2, hx2, h⟩ := h
  refine jr_V6_1 jf_240_2 hb1 (by omega) (r_R_isSection (by omega) _ _ _ _ hx2) (Nat.le_of_ble_eq_true rfl) jml_193 (Nat.le_of_ble_eq_true rfl) ?_
  replace h := ite_or h; rcases h with ⟨hc, h⟩ | ⟨hc, h⟩
  · refine jr_ifz_ne_t jf_240_5 hc ?_
    refine jr_iload_n jf_240_10 rfl hl2 ?_
    refine jr_bipush jf_240_11 jc_b_100 ?_
    replace h := ite_or h; rcases h with ⟨hc, h⟩ | ⟨hc, h⟩
    · refine jr_if2_ne_f jf_240_13 hc ?_
      refine jr_aload_n jf_240_16 rfl hl0 ?_
      replace h := obd_of h; obtain ⟨x3, hx3, h⟩ := h
      refine jr_getA jf_240_17 hx3 ?_
      refine jr_iload_n jf_240_20 rfl hl1 ?_
      replace h := obd_of h; obtain ⟨a4, rfl, h⟩ := h
      replace h := obd_of h; obtain ⟨x5, hx5, h⟩ := h
      refine jr_laload jf_240_21 hx5 ?_
      obtain rfl := Option.some.inj h
      exact jr_retJ jf_240_22 jmt_240
    · refine jr_if2_ne_t jf_240_13 hc ?_
      refine jr_iconst jf_240_23 jc_i_0 ?_
      refine jr_istore_n jf_240_24 rfl jml_240 (by decide) ?_
      refine jr_aload_n jf_240_25 rfl (jg1_ne rfl hl0) ?_
      replace h := obd_of h; obtain ⟨x6, hx6, h⟩ := h
      refine jr_getA jf_240_26 hx6 ?_
      refine jr_iload_n jf_240_29 rfl (jg1_ne rfl hl1) ?_
      replace h := obd_of h; obtain ⟨a7, rfl, h⟩ := h
      replace h := obd_of h; obtain ⟨x8, hx8, h⟩ := h
      refine jr_iaload jf_240_30 hx8 ?_
      refine jr_switch jf_240_31 ?_
      replace h := ite_or h; rcases h with ⟨hc, h⟩ | ⟨hc, h⟩
      · refine jsw_hit (by decide) hc ?_
        exact r_R_state_92 hd _ _ _ _ _ _ (jg1_ne rfl hl0) (jg1_ne rfl hl1) (jg1_pre rfl hl2) h
      · refine jsw_miss (by decide) hc (by decide : (1 : Int) + 1 = 2) ?_
        replace h := ite_or h; rcases h with ⟨hc, h⟩ | ⟨hc, h⟩
        · refine jsw_hit (by decide) hc ?_
          refine jr_iconst jf_240_97 jc_i_4 ?_
          refine jr_istore_n jf_240_98 rfl jml_240 (by decide) ?_
          refine jr_goto jf_240_99 ?_
          exact r_R_state_175 hd _ _ _ _ _ _ _ (jg1_ne rfl (jg1_ne rfl hl0)) (jg1_ne rfl (jg1_ne rfl hl1)) (jg1_pre rfl (jg1_pre rfl hl2)) jg1_same h
        · refine jsw_miss (by decide) hc (by decide : (2 : Int) + 1 = 3) ?_
          replace h := ite_or h; rcases h with ⟨hc, h⟩ | ⟨hc, h⟩
          · refine jsw_hit (by decide) hc ?_
            exact r_R_state_102 hd _ _ _ _ _ _ (jg1_ne rfl hl0) (jg1_ne rfl hl1) (jg1_pre rfl hl2) h
          · refine jsw_miss (by decide) hc (by decide : (3 : Int) + 1 = 4) ?_
            replace h := ite_or h; rcases h with ⟨hc, h⟩ | ⟨hc, h⟩
            · refine jsw_hit (by decide) hc ?_
              exact r_R_state_102 hd _ _ _ _ _ _ (jg1_ne rfl hl0) (jg1_ne rfl hl1) (jg1_pre rfl hl2) h
            · refine jsw_miss (by decide) hc (by decide : (4 : Int) + 1 = 5) ?_
              replace h := ite_or h; rcases h with ⟨hc, h⟩ | ⟨hc, h⟩
              · refine jsw_hit (by decide) hc ?_
                exact r_R_state_92 hd _ _ _ _ _ _ (jg1_ne rfl hl0) (jg1_ne rfl hl1) (jg1_pre rfl hl2) h
              · refine jsw_miss (by decide) hc (by decide : (5 : Int) + 1 = 6) ?_
                replace h := ite_or h; rcases h with ⟨hc, h⟩ | ⟨hc, h⟩
                · refine jsw_hit (by decide) hc ?_
                  exact r_R_state_107 hd _ _ _ _ _ _ (jg1_ne rfl hl0) (jg1_ne rfl hl1) (jg1_pre rfl hl2) h
                · refine jsw_miss (by decide) hc (by decide : (6 : Int) + 1 = 7) ?_
                  replace h := ite_or h; rcases h with ⟨hc, h⟩ | ⟨hc, h⟩
                  · refine jsw_hit (by decide) hc ?_
                    exact r_R_state_107 hd _ _ _ _ _ _ (jg1_ne rfl hl0) (jg1_ne rfl hl1) (jg1_pre rfl hl2) h
                  · refine jsw_miss (by decide) hc (by decide : (7 : Int) + 1 = 8) ?_
                    replace h := ite_or h; rcases h with ⟨hc, h⟩ | ⟨hc, h⟩
                    · refine jsw_hit (by decide) hc ?_
                      exact r_R_state_107 hd _ _ _ _ _ _ (jg1_ne rfl hl0) (jg1_ne rfl hl1) (jg1_pre rfl hl2) h
                    · refine jsw_miss (by decide) hc (by decide : (8 : Int) + 1 = 9) ?_
                      replace h := ite_or h; rcases h with ⟨hc, h⟩ | ⟨hc, h⟩
                      · refine jsw_hit (by decide) hc ?_
                        exact r_R_state_173 hd _ _ _ _ _ _ (jg1_ne rfl hl0) (jg1_ne rfl hl1) (jg1_pre rfl hl2) h
                      · refine jsw_miss (by decide) hc (by decide : (9 : Int) + 1 = 10) ?_
                        replace h := ite_or h; rcases h with ⟨hc, h⟩ | ⟨hc, h⟩
                        · refine jsw_hit (by decide) hc ?_
                          exact r_R_state_173 hd _ _ _ _ _ _ (jg1_ne rfl hl0) (jg1_ne rfl hl1) (jg1_pre rfl hl2) h
                        · refine jsw_miss (by decide) hc (by decide : (10 : Int) + 1 = 11) ?_
                          replace h := ite_or h; rcases h with ⟨hc, h⟩ | ⟨hc, h⟩
                          · refine jsw_hit (by decide) hc ?_
                            exact r_R_state_92 hd _ _ _ _ _ _ (jg1_ne rfl hl0) (jg1_ne rfl hl1) (jg1_pre rfl hl2) h
                          · refine jsw_miss (by decide) hc (by decide : (11 : Int) + 1 = 12) ?_
                            replace h := ite_or h; rcases h with ⟨hc, h⟩ | ⟨hc, h⟩
                            · refine jsw_hit (by decide) hc ?_
                              refine jr_iload_n jf_240_157 rfl (jg1_pre rfl hl2) ?_
                              replace h := ite_or h; rcases h with ⟨hc, h⟩ | ⟨hc, h⟩
                              · refine jr_if_ne_f jf_240_158 hc ?_
                                refine jr_aload_n jf_240_161 rfl (jg1_ne rfl hl0) ?_
                                refine jr_iload_n jf_240_162 rfl (jg1_ne rfl hl1) ?_
                                refine jr_iconst jf_240_163 jc_i_0 ?_
                                replace h := jgd_of h; obtain ⟨hb9, h⟩ := h
                                replace h := obd_of h; obtain ⟨x10, hx10, h⟩ := h
                                refine jr_V6_2 jf_240_164 hb9 (by omega) (r_R_st (by omega) _ _ _ _ _ hx10) (Nat.le_of_ble_eq_true rfl) jml_225 (Nat.le_of_ble_eq_true rfl) ?_
                                refine jr_d2l jf_240_167 ?_
                                refine jr_goto jf_240_168 ?_
                                obtain rfl := Option.some.inj h
                                exact jr_retJ jf_240_172 jmt_240
                              · refine jr_if_ne_t jf_240_158 hc ?_
                                refine jr_lconst0 jf_240_171 ?_
                                obtain rfl := Option.some.inj h
                                exact jr_retJ jf_240_172 jmt_240
                            · refine jsw_miss (by decide) hc (by decide : (12 : Int) + 1 = 13) ?_
                              refine jsw_end ?_
                              exact r_R_state_173 hd _ _ _ _ _ _ (jg1_ne rfl hl0) (jg1_ne rfl hl1) (jg1_pre rfl hl2) h
  · refine jr_ifz_ne_f jf_240_5 hc ?_
    refine jr_lconst0 jf_240_8 ?_
    obtain rfl := Option.some.inj h
    exact jr_retJ jf_240_9 jmt_240
set_option maxRecDepth 10000 in
set_option maxHeartbeats 4000000 in
theorem r_R_state {B : Nat} {SA : Nat → Nat} {d : Nat} (hd : 3 ≤ d) : ∀ (v0 : Nat) (v1 : Int32) (v2 : Int32) (μ : JMem) (r : Int64), g_R_state v0 v1 v2 μ.1 = some r → jR B SA d m_R_state 0 (lv_args 0 [.ref v0, .int v1, .int v2]) [] μ (some (.long r)) μ := by
  intro v0 v1 v2 μ r h
  exact r_R_state_e hd (lv_args 0 _) _ _ _ _ _ (by simp [lv_args, jget, rv_cat, cat_int, cat_long, cat_double, cat_float, cat_ref]) (by simp [lv_args, jget, rv_cat, cat_int, cat_long, cat_double, cat_float, cat_ref]) (by simp [lv_args, jget, rv_cat, cat_int, cat_long, cat_double, cat_float, cat_ref]) h
/-! FilterBenchModel.about(II)I -/
set_option maxRecDepth 10000 in
set_option maxHeartbeats 4000000 in
theorem r_R_about_e {B : Nat} {SA : Nat → Nat} {d : Nat} (hd : 2 ≤ d) : ∀ (L : JLoc) (v0 : Nat) (v1 : Int32) (v2 : Int32) (μ : JMem) (r : Int32), jget L 0 = .ref v0 → jget L 1 = .int v1 → jget L 2 = .int v2 → g_R_about v0 v1 v2 μ.1 = some r → jR B SA d m_R_about 0 L [] μ (some (.int r)) μ := by
  intro L v0 v1 v2 μ r hl0 hl1 hl2 h
  unfold g_R_about at h
  refine jr_aload_n jf_241_0 rfl hl0 ?_
  refine jr_iload_n jf_241_1 rfl hl1 ?_
  replace h := jgd_of h; obtain ⟨hb1, h⟩ := h
  replace h := obd_of h; obtain ⟨x2, hx2, h⟩ := h
  refine jr_V6_1 jf_241_2 hb1 (by omega) (r_R_isSection (by omega) _ _ _ _ hx2) (Nat.le_of_ble_eq_true rfl) jml_193 (Nat.le_of_ble_eq_true rfl) ?_
  replace h := ite_or h; rcases h with ⟨hc, h⟩ | ⟨hc, h⟩
  · refine jr_ifz_ne_t jf_241_5 hc ?_
    refine jr_iload_n jf_241_10 rfl hl2 ?_
    refine jr_switch jf_241_11 ?_
    replace h := ite_or h; rcases h with ⟨hc, h⟩ | ⟨hc, h⟩
    · refine jsw_hit (by decide) hc ?_
      refine jr_aload_n jf_241_64 rfl hl0 ?_
      replace h := obd_of h; obtain ⟨x3, hx3, h⟩ := h
      refine jr_getA jf_241_65 hx3 ?_
      refine jr_iload_n jf_241_68 rfl hl1 ?_
      replace h := obd_of h; obtain ⟨a4, rfl, h⟩ := h
      replace h := obd_of h; obtain ⟨x5, hx5, h⟩ := h
      refine jr_iaload jf_241_69 hx5 ?_
      obtain rfl := Option.some.inj h
      exact jr_retI jf_241_70 jmt_241
    · refine jsw_miss (by decide) hc (by decide : (0 : Int) + 1 = 1) ?_
      replace h := ite_or h; rcases h with ⟨hc, h⟩ | ⟨hc, h⟩
      · refine jsw_hit (by decide) hc ?_
        refine jr_aload_n jf_241_71 rfl hl0 ?_
        replace h := obd_of h; obtain ⟨x6, hx6, h⟩ := h
        refine jr_getA jf_241_72 hx6 ?_
        refine jr_iload_n jf_241_75 rfl hl1 ?_
        replace h := obd_of h; obtain ⟨a7, rfl, h⟩ := h
        replace h := obd_of h; obtain ⟨x8, hx8, h⟩ := h
        refine jr_iaload jf_241_76 hx8 ?_
        obtain rfl := Option.some.inj h
        exact jr_retI jf_241_77 jmt_241
      · refine jsw_miss (by decide) hc (by decide : (1 : Int) + 1 = 2) ?_
        replace h := ite_or h; rcases h with ⟨hc, h⟩ | ⟨hc, h⟩
        · refine jsw_hit (by decide) hc ?_
          refine jr_aload_n jf_241_78 rfl hl0 ?_
          replace h := obd_of h; obtain ⟨x9, hx9, h⟩ := h
          refine jr_getA jf_241_79 hx9 ?_
          refine jr_iload_n jf_241_82 rfl hl1 ?_
          replace h := obd_of h; obtain ⟨a10, rfl, h⟩ := h
          replace h := obd_of h; obtain ⟨x11, hx11, h⟩ := h
          refine jr_iaload jf_241_83 hx11 ?_
          obtain rfl := Option.some.inj h
          exact jr_retI jf_241_84 jmt_241
        · refine jsw_miss (by decide) hc (by decide : (2 : Int) + 1 = 3) ?_
          replace h := ite_or h; rcases h with ⟨hc, h⟩ | ⟨hc, h⟩
          · refine jsw_hit (by decide) hc ?_
            refine jr_aload_n jf_241_85 rfl hl0 ?_
            replace h := obd_of h; obtain ⟨x12, hx12, h⟩ := h
            refine jr_getA jf_241_86 hx12 ?_
            refine jr_iload_n jf_241_89 rfl hl1 ?_
            replace h := obd_of h; obtain ⟨a13, rfl, h⟩ := h
            replace h := obd_of h; obtain ⟨x14, hx14, h⟩ := h
            refine jr_iaload jf_241_90 hx14 ?_
            obtain rfl := Option.some.inj h
            exact jr_retI jf_241_91 jmt_241
          · refine jsw_miss (by decide) hc (by decide : (3 : Int) + 1 = 4) ?_
            replace h := ite_or h; rcases h with ⟨hc, h⟩ | ⟨hc, h⟩
            · refine jsw_hit (by decide) hc ?_
              refine jr_aload_n jf_241_92 rfl hl0 ?_
              replace h := obd_of h; obtain ⟨x15, hx15, h⟩ := h
              refine jr_getA jf_241_93 hx15 ?_
              refine jr_iload_n jf_241_96 rfl hl1 ?_
              replace h := obd_of h; obtain ⟨a16, rfl, h⟩ := h
              replace h := obd_of h; obtain ⟨x17, hx17, h⟩ := h
              refine jr_iaload jf_241_97 hx17 ?_
              obtain rfl := Option.some.inj h
              exact jr_retI jf_241_98 jmt_241
            · refine jsw_miss (by decide) hc (by decide : (4 : Int) + 1 = 5) ?_
              replace h := ite_or h; rcases h with ⟨hc, h⟩ | ⟨hc, h⟩
              · refine jsw_hit (by decide) hc ?_
                refine jr_aload_n jf_241_99 rfl hl0 ?_
                replace h := obd_of h; obtain ⟨x18, hx18, h⟩ := h
                refine jr_getA jf_241_100 hx18 ?_
                refine jr_iload_n jf_241_103 rfl hl1 ?_
                replace h := obd_of h; obtain ⟨a19, rfl, h⟩ := h
                replace h := obd_of h; obtain ⟨x20, hx20, h⟩ := h
                refine jr_iaload jf_241_104 hx20 ?_
                obtain rfl := Option.some.inj h
                exact jr_retI jf_241_105 jmt_241
              · refine jsw_miss (by decide) hc (by decide : (5 : Int) + 1 = 6) ?_
                replace h := ite_or h; rcases h with ⟨hc, h⟩ | ⟨hc, h⟩
                · refine jsw_hit (by decide) hc ?_
                  refine jr_aload_n jf_241_106 rfl hl0 ?_
                  replace h := obd_of h; obtain ⟨x21, hx21, h⟩ := h
                  refine jr_getA jf_241_107 hx21 ?_
                  refine jr_iload_n jf_241_110 rfl hl1 ?_
                  replace h := obd_of h; obtain ⟨a22, rfl, h⟩ := h
                  replace h := obd_of h; obtain ⟨x23, hx23, h⟩ := h
                  refine jr_iaload jf_241_111 hx23 ?_
                  obtain rfl := Option.some.inj h
                  exact jr_retI jf_241_112 jmt_241
                · refine jsw_miss (by decide) hc (by decide : (6 : Int) + 1 = 7) ?_
                  replace h := ite_or h; rcases h with ⟨hc, h⟩ | ⟨hc, h⟩
                  · refine jsw_hit (by decide) hc ?_
                    refine jr_aload_n jf_241_113 rfl hl0 ?_
                    replace h := obd_of h; obtain ⟨x24, hx24, h⟩ := h
                    refine jr_getA jf_241_114 hx24 ?_
                    refine jr_iload_n jf_241_117 rfl hl1 ?_
                    replace h := obd_of h; obtain ⟨a25, rfl, h⟩ := h
                    replace h := obd_of h; obtain ⟨x26, hx26, h⟩ := h
                    refine jr_iaload jf_241_118 hx26 ?_
                    obtain rfl := Option.some.inj h
                    exact jr_retI jf_241_119 jmt_241
                  · refine jsw_miss (by decide) hc (by decide : (7 : Int) + 1 = 8) ?_
                    replace h := ite_or h; rcases h with ⟨hc, h⟩ | ⟨hc, h⟩
                    · refine jsw_hit (by decide) hc ?_
                      refine jr_aload_n jf_241_120 rfl hl0 ?_
                      replace h := obd_of h; obtain ⟨x27, hx27, h⟩ := h
                      refine jr_getA jf_241_121 hx27 ?_
                      refine jr_iload_n jf_241_124 rfl hl1 ?_
                      replace h := obd_of h; obtain ⟨a28, rfl, h⟩ := h
                      replace h := obd_of h; obtain ⟨x29, hx29, h⟩ := h
                      refine jr_iaload jf_241_125 hx29 ?_
                      obtain rfl := Option.some.inj h
                      exact jr_retI jf_241_126 jmt_241
                    · refine jsw_miss (by decide) hc (by decide : (8 : Int) + 1 = 9) ?_
                      replace h := ite_or h; rcases h with ⟨hc, h⟩ | ⟨hc, h⟩
                      · refine jsw_hit (by decide) hc ?_
                        refine jr_aload_n jf_241_127 rfl hl0 ?_
                        replace h := obd_of h; obtain ⟨x30, hx30, h⟩ := h
                        refine jr_getA jf_241_128 hx30 ?_
                        refine jr_iload_n jf_241_131 rfl hl1 ?_
                        replace h := obd_of h; obtain ⟨a31, rfl, h⟩ := h
                        replace h := obd_of h; obtain ⟨x32, hx32, h⟩ := h
                        refine jr_iaload jf_241_132 hx32 ?_
                        obtain rfl := Option.some.inj h
                        exact jr_retI jf_241_133 jmt_241
                      · refine jsw_miss (by decide) hc (by decide : (9 : Int) + 1 = 10) ?_
                        refine jsw_end ?_
                        refine jr_iconst jf_241_134 jc_i_m1 ?_
                        obtain rfl := Option.some.inj h
                        exact jr_retI jf_241_135 jmt_241
  · refine jr_ifz_ne_f jf_241_5 hc ?_
    refine jr_iconst jf_241_8 jc_i_m1 ?_
    obtain rfl := Option.some.inj h
    exact jr_retI jf_241_9 jmt_241
set_option maxRecDepth 10000 in
set_option maxHeartbeats 4000000 in
theorem r_R_about {B : Nat} {SA : Nat → Nat} {d : Nat} (hd : 2 ≤ d) : ∀ (v0 : Nat) (v1 : Int32) (v2 : Int32) (μ : JMem) (r : Int32), g_R_about v0 v1 v2 μ.1 = some r → jR B SA d m_R_about 0 (lv_args 0 [.ref v0, .int v1, .int v2]) [] μ (some (.int r)) μ := by
  intro v0 v1 v2 μ r h
  exact r_R_about_e hd (lv_args 0 _) _ _ _ _ _ (by simp [lv_args, jget, rv_cat, cat_int, cat_long, cat_double, cat_float, cat_ref]) (by simp [lv_args, jget, rv_cat, cat_int, cat_long, cat_double, cat_float, cat_ref]) (by simp [lv_args, jget, rv_cat, cat_int, cat_long, cat_double, cat_float, cat_ref]) h
/-! FilterBenchModel.told(II)J -/
set_option maxRecDepth 10000 in
set_option maxHeartbeats 4000000 in
theorem r_R_told_e {B : Nat} {SA : Nat → Nat} {d : Nat} (hd : 3 ≤ d) : ∀ (L : JLoc) (v0 : Nat) (v1 : Int32) (v2 : Int32) (μ : JMem) (r : Int64), jget L 0 = .ref v0 → jget L 1 = .int v1 → jget L 2 = .int v2 → g_R_told v0 v1 v2 μ.1 = some r → jR B SA d m_R_told 0 L [] μ (some (.long r)) μ := by
  intro L v0 v1 v2 μ r hl0 hl1 hl2 h
  unfold g_R_told at h
  refine jr_aload_n jf_242_0 rfl hl0 ?_
  refine jr_iload_n jf_242_1 rfl hl1 ?_
  refine jr_iload_n jf_242_2 rfl hl2 ?_
  replace h := jgd_of h; obtain ⟨hb1, h⟩ := h
  replace h := obd_of h; obtain ⟨x2, hx2, h⟩ := h
  refine jr_V6_2 jf_242_3 hb1 (by omega) (r_R_isCoefficient (by omega) _ _ _ _ _ hx2) (Nat.le_of_ble_eq_true rfl) jml_192 (Nat.le_of_ble_eq_true rfl) ?_
  replace h := ite_or h; rcases h with ⟨hc, h⟩ | ⟨hc, h⟩
  · refine jr_ifz_eq_f jf_242_6 hc ?_
    refine jr_aload_n jf_242_9 rfl hl0 ?_
    replace h := obd_of h; obtain ⟨x3, hx3, h⟩ := h
    refine jr_getA jf_242_10 hx3 ?_
    refine jr_iload_n jf_242_13 rfl hl1 ?_
    replace h := obd_of h; obtain ⟨a4, rfl, h⟩ := h
    replace h := obd_of h; obtain ⟨x5, hx5, h⟩ := h
    refine jr_iaload jf_242_14 hx5 ?_
    refine jr_aload_n jf_242_15 rfl hl0 ?_
    refine jr_iload_n jf_242_16 rfl hl1 ?_
    refine jr_iload_n jf_242_17 rfl hl2 ?_
    replace h := jgd_of h; obtain ⟨hb6, h⟩ := h
    replace h := obd_of h; obtain ⟨x7, hx7, h⟩ := h
    refine jr_V6_2 jf_242_18 hb6 (by omega) (r_R_c (by omega) _ _ _ _ _ hx7) (Nat.le_of_ble_eq_true rfl) jml_216 (Nat.le_of_ble_eq_true rfl) ?_
    replace h := obd_of h; obtain ⟨x8, hx8, h⟩ := h
    refine jr_S3_2 jf_242_21 (by omega) (r_R_bitsOf (by omega) _ _ _ _ hx8) (Nat.le_of_ble_eq_true rfl) jml_235 (Nat.le_of_ble_eq_true rfl) ?_
    refine jr_goto jf_242_24 ?_
    obtain rfl := Option.some.inj h
    exact jr_retJ jf_242_28 jmt_242
  · refine jr_ifz_eq_t jf_242_6 hc ?_
    refine jr_lconst0 jf_242_27 ?_
    obtain rfl := Option.some.inj h
    exact jr_retJ jf_242_28 jmt_242
set_option maxRecDepth 10000 in
set_option maxHeartbeats 4000000 in
theorem r_R_told {B : Nat} {SA : Nat → Nat} {d : Nat} (hd : 3 ≤ d) : ∀ (v0 : Nat) (v1 : Int32) (v2 : Int32) (μ : JMem) (r : Int64), g_R_told v0 v1 v2 μ.1 = some r → jR B SA d m_R_told 0 (lv_args 0 [.ref v0, .int v1, .int v2]) [] μ (some (.long r)) μ := by
  intro v0 v1 v2 μ r h
  exact r_R_told_e hd (lv_args 0 _) _ _ _ _ _ (by simp [lv_args, jget, rv_cat, cat_int, cat_long, cat_double, cat_float, cat_ref]) (by simp [lv_args, jget, rv_cat, cat_int, cat_long, cat_double, cat_float, cat_ref]) (by simp [lv_args, jget, rv_cat, cat_int, cat_long, cat_double, cat_float, cat_ref]) h
/-! FilterBenchModel.empties(I)V -/
set_option maxRecDepth 10000 in
set_option maxHeartbeats 4000000 in
theorem r_R_empties_27 {N B : Nat} {SA : Nat → Nat} {d : Nat} (hd : 1 ≤ d) {k11 : Nat → Int32 → Int32 → JMem → Option JMem} (i11 : ∀ (L : JLoc) (v0 : Nat) (v1 : Int32) (v2 : Int32) (μ : JMem) (μ9 : JMem), jget L 0 = .ref v0 → jget L 1 = .int v1 → jget L 2 = .int v2 → k11 v0 v1 v2 μ = some μ9 → jR B SA d m_R_empties 11 L [] μ none μ9) : ∀ (n : Nat), ∀ (L : JLoc) (v0 : Nat) (v1 : Int32) (v2 : Int32) (v3 : Int32) (μ : JMem) (μ9 : JMem), jget L 0 = .ref v0 → jget L 1 = .int v1 → jget L 2 = .int v2 → jget L 3 = .int v3 → g_R_empties_27 N B k11 n v0 v1 v2 v3 μ = some μ9 → jR B SA d m_R_empties 27 L [] μ none μ9 := by
  intro n
  induction n with
  | zero =>
    intro L v0 v1 v2 v3 μ μ9 hl0 hl1 hl2 hl3 h
    unfold g_R_empties_27 at h
    cases h
  | succ n ih =>
    intro L v0 v1 v2 v3 μ μ9 hl0 hl1 hl2 hl3 h
    unfold g_R_empties_27 at h
    refine jr_iload_n jf_245_27 rfl hl3 ?_
    refine jr_bipush jf_245_28 jc_b_64 ?_
    replace h := ite_or h; rcases h with ⟨hc, h⟩ | ⟨hc, h⟩
    · refine jr_if2_ge_t jf_245_30 hc ?_
      refine jr_aload_n jf_245_51 rfl hl0 ?_
      replace h := obd_of h; obtain ⟨x1, hx1, h⟩ := h
      refine jr_getA jf_245_52 hx1 ?_
      refine jr_iload_n jf_245_55 rfl hl2 ?_
      refine jr_iconst jf_245_56 jc_i_0 ?_
      replace h := obd_of h; obtain ⟨a2, rfl, h⟩ := h
      replace h := obd_of h; obtain ⟨μ3, hμ3, h⟩ := h
      refine jr_iastore jf_245_57 hμ3 ?_
      refine jr_iinc jf_245_58 jc_i_1 jml_245 (by decide) hl2 ?_
      refine jr_goto jf_245_61 ?_
      exact i11 _ _ _ _ _ _ (jg1_ne rfl hl0) (jg1_pre rfl hl1) jg1_same h
    · refine jr_if2_ge_f jf_245_30 hc ?_
      refine jr_aload_n jf_245_33 rfl hl0 ?_
      replace h := obd_of h; obtain ⟨x4, hx4, h⟩ := h
      refine jr_getA jf_245_34 hx4 ?_
      refine jr_bipush jf_245_37 jc_b_64 ?_
      refine jr_iload_n jf_245_39 rfl hl2 ?_
      refine jr_imul jf_245_40 ?_
      refine jr_iload_n jf_245_41 rfl hl3 ?_
      refine jr_iadd jf_245_42 ?_
      refine jr_dconst0 jf_245_43 ?_
      replace h := obd_of h; obtain ⟨a5, rfl, h⟩ := h
      replace h := obd_of h; obtain ⟨μ6, hμ6, h⟩ := h
      refine jr_dastore jf_245_44 hμ6 ?_
      refine jr_iinc jf_245_45 jc_i_1 jml_245 (by decide) hl3 ?_
      refine jr_goto jf_245_48 ?_
      exact ih _ _ _ _ _ _ _ (jg1_ne rfl hl0) (jg1_ne rfl hl1) (jg1_pre rfl hl2) jg1_same h
set_option maxRecDepth 10000 in
set_option maxHeartbeats 4000000 in
theorem r_R_empties_66 {N B : Nat} {SA : Nat → Nat} {d : Nat} (hd : 1 ≤ d) : ∀ (n : Nat), ∀ (L : JLoc) (v0 : Nat) (v1 : Int32) (v2 : Int32) (μ : JMem) (μ9 : JMem), jget L 0 = .ref v0 → jget L 1 = .int v1 → jget L 2 = .int v2 → g_R_empties_66 N B n v0 v1 v2 μ = some μ9 → jR B SA d m_R_empties 66 L [] μ none μ9 := by
  intro n
  induction n with
  | zero =>
    intro L v0 v1 v2 μ μ9 hl0 hl1 hl2 h
    unfold g_R_empties_66 at h
    cases h
  | succ n ih =>
    intro L v0 v1 v2 μ μ9 hl0 hl1 hl2 h
    unfold g_R_empties_66 at h
    refine jr_iload_n jf_245_66 rfl hl2 ?_
    refine jr_aload_n jf_245_67 rfl hl0 ?_
    replace h := obd_of h; obtain ⟨x1, hx1, h⟩ := h
    refine jr_getA jf_245_68 hx1 ?_
    refine jr_iload_n jf_245_71 rfl hl1 ?_
    replace h := obd_of h; obtain ⟨a2, rfl, h⟩ := h
    replace h := obd_of h; obtain ⟨x3, hx3, h⟩ := h
    refine jr_iaload jf_245_72 hx3 ?_
    replace h := ite_or h; rcases h with ⟨hc, h⟩ | ⟨hc, h⟩
    · refine jr_if2_ge_t jf_245_73 hc ?_
      obtain rfl := Option.some.inj h
      exact jr_return jf_245_99 jmt_245
    · refine jr_if2_ge_f jf_245_73 hc ?_
      refine jr_aload_n jf_245_76 rfl hl0 ?_
      replace h := obd_of h; obtain ⟨x4, hx4, h⟩ := h
      refine jr_getA jf_245_77 hx4 ?_
      refine jr_bipush jf_245_80 jc_b_10 ?_
      refine jr_iload_n jf_245_82 rfl hl1 ?_
      refine jr_imul jf_245_83 ?_
      refine jr_iload_n jf_245_84 rfl hl2 ?_
      refine jr_iadd jf_245_85 ?_
      replace h := obd_of h; obtain ⟨a5, rfl, h⟩ := h
      replace h := obd_of h; obtain ⟨x6, hx6, h⟩ := h
      refine jr_iaload jf_245_86 hx6 ?_
      refine jr_istore_n jf_245_87 rfl jml_245 (by decide) ?_
      refine jr_aload_n jf_245_88 rfl (jg1_ne rfl hl0) ?_
      refine jr_iload_n jf_245_89 rfl jg1_same ?_
      replace h := jgd_of h; obtain ⟨hb7, h⟩ := h
      replace h := obd_of h; obtain ⟨μ8, hμ8, h⟩ := h
      refine jr_V6v_1 jf_245_90 hb7 (by omega) (r_R_clears (by omega) _ _ _ _ hμ8) (Nat.le_of_ble_eq_true rfl) jml_190 (Nat.le_of_ble_eq_true rfl) ?_
      refine jr_iinc jf_245_93 jc_i_1 jml_245 (by decide) (jg1_pre rfl hl2) ?_
      refine jr_goto jf_245_96 ?_
      exact ih _ _ _ _ _ _ (jg1_ne rfl (jg1_ne rfl hl0)) (jg1_pre rfl (jg1_ne rfl hl1)) jg1_same h
set_option maxRecDepth 10000 in
set_option maxHeartbeats 4000000 in
theorem r_R_empties_11 {N B : Nat} {SA : Nat → Nat} {d : Nat} (hd : 1 ≤ d) : ∀ (n : Nat), ∀ (L : JLoc) (v0 : Nat) (v1 : Int32) (v2 : Int32) (μ : JMem) (μ9 : JMem), jget L 0 = .ref v0 → jget L 1 = .int v1 → jget L 2 = .int v2 → g_R_empties_11 N B n v0 v1 v2 μ = some μ9 → jR B SA d m_R_empties 11 L [] μ none μ9 := by
  intro n
  induction n with
  | zero =>
    intro L v0 v1 v2 μ μ9 hl0 hl1 hl2 h
    unfold g_R_empties_11 at h
    cases h
  | succ n ih =>
    intro L v0 v1 v2 μ μ9 hl0 hl1 hl2 h
    unfold g_R_empties_11 at h
    refine jr_iload_n jf_245_11 rfl hl2 ?_
    refine jr_iconst jf_245_12 jc_i_3 ?_
    refine jr_iload_n jf_245_13 rfl hl1 ?_
    refine jr_imul jf_245_14 ?_
    refine jr_aload_n jf_245_15 rfl hl0 ?_
    replace h := obd_of h; obtain ⟨x1, hx1, h⟩ := h
    refine jr_getA jf_245_16 hx1 ?_
    refine jr_iload_n jf_245_19 rfl hl1 ?_
    replace h := obd_of h; obtain ⟨a2, rfl, h⟩ := h
    replace h := obd_of h; obtain ⟨x3, hx3, h⟩ := h
    refine jr_iaload jf_245_20 hx3 ?_
    refine jr_iadd jf_245_21 ?_
    replace h := ite_or h; rcases h with ⟨hc, h⟩ | ⟨hc, h⟩
    · refine jr_if2_ge_t jf_245_22 hc ?_
      refine jr_iconst jf_245_64 jc_i_0 ?_
      refine jr_istore_n jf_245_65 rfl jml_245 (by decide) ?_
      exact r_R_empties_66 hd _ _ _ _ _ _ _ (jg1_ne rfl hl0) (jg1_pre rfl hl1) jg1_same h
    · refine jr_if2_ge_f jf_245_22 hc ?_
      refine jr_iconst jf_245_25 jc_i_0 ?_
      refine jr_istore_n jf_245_26 rfl jml_245 (by decide) ?_
      exact r_R_empties_27 hd ih _ _ _ _ _ _ _ _ (jg1_ne rfl hl0) (jg1_ne rfl hl1) (jg1_pre rfl hl2) jg1_same h
set_option maxRecDepth 10000 in
set_option maxHeartbeats 4000000 in
theorem r_R_empties_e {N B : Nat} {SA : Nat → Nat} {d : Nat} (hd : 1 ≤ d) : ∀ (L : JLoc) (v0 : Nat) (v1 : Int32) (μ : JMem) (μ9 : JMem), jget L 0 = .ref v0 → jget L 1 = .int v1 → g_R_empties N B v0 v1 μ = some μ9 → jR B SA d m_R_empties 0 L [] μ none μ9 := by
  intro L v0 v1 μ μ9 hl0 hl1 h
  unfold g_R_empties at h
  refine jr_aload_n jf_245_0 rfl hl0 ?_
  replace h := obd_of h; obtain ⟨x1, hx1, h⟩ := h
  refine jr_getA jf_245_1 hx1 ?_
  refine jr_iload_n jf_245_4 rfl hl1 ?_
  refine jr_iconst jf_245_5 jc_i_0 ?_
  replace h := obd_of h; obtain ⟨a2, rfl, h⟩ := h
  replace h := obd_of h; obtain ⟨μ3, hμ3, h⟩ := h
  refine jr_iastore jf_245_6 hμ3 ?_
  refine jr_iconst jf_245_7 jc_i_3 ?_
  refine jr_iload_n jf_245_8 rfl hl1 ?_
  refine jr_imul jf_245_9 ?_
  refine jr_istore_n jf_245_10 rfl jml_245 (by decide) ?_
  exact r_R_empties_11 hd _ _ _ _ _ _ _ (jg1_ne rfl hl0) (jg1_pre rfl hl1) jg1_same h
set_option maxRecDepth 10000 in
set_option maxHeartbeats 4000000 in
theorem r_R_empties {N B : Nat} {SA : Nat → Nat} {d : Nat} (hd : 1 ≤ d) : ∀ (v0 : Nat) (v1 : Int32) (μ : JMem) (μ9 : JMem), g_R_empties N B v0 v1 μ = some μ9 → jR B SA d m_R_empties 0 (lv_args 0 [.ref v0, .int v1]) [] μ none μ9 := by
  intro v0 v1 μ μ9 h
  exact r_R_empties_e hd (lv_args 0 _) _ _ _ _ (by simp [lv_args, jget, rv_cat, cat_int, cat_long, cat_double, cat_float, cat_ref]) (by simp [lv_args, jget, rv_cat, cat_int, cat_long, cat_double, cat_float, cat_ref]) h
