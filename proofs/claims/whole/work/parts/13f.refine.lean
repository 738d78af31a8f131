/-! the machine refines the functions (printed by wip/whole/dec.py) -/
/-! FilterBenchModel.about(II)I -/
set_option maxRecDepth 10000 in
set_option maxHeartbeats 4000000 in
theorem r_R_about_e {B : Nat} {SA : Nat → Nat} {d : Nat} (hd : 2 ≤ d) : ∀ (L : JLoc) (v0 : Nat) (v1 : Int32) (v2 : Int32) (μ : JMem) (r : Int32), jget L 0 = .ref v0 → jget L 1 = .int v1 → jget L 2 = .int v2 → g_R_about v0 v1 v2 μ.1 = some r → jR B SA d m_R_about 0 L [] μ (some (.int r)) μ := by
  intro L v0 v1 v2 μ r hl0 hl1 hl2 h
  unfold g_R_about at h
  refine jr_aload_n jf_243_0 rfl hl0 ?_
  refine jr_iload_n jf_243_1 rfl hl1 ?_
  replace h := jgd_of h; obtain ⟨hb1, h⟩ := h
  replace h := obd_of h; obtain ⟨x2, hx2, h⟩ := h
  refine jr_V6_1 jf_243_2 hb1 (by omega) (r_R_isSection (by omega) _ _ _ _ hx2) (Nat.le_of_ble_eq_true rfl) jml_195 (Nat.le_of_ble_eq_true rfl) ?_
  replace h := ite_or h; rcases h with ⟨hc, h⟩ | ⟨hc, h⟩
  · refine jr_ifz_ne_t jf_243_5 hc ?_
    refine jr_iload_n jf_243_10 rfl hl2 ?_
    refine jr_switch jf_243_11 ?_
    replace h := ite_or h; rcases h with ⟨hc, h⟩ | ⟨hc, h⟩
    · refine jsw_hit (by decide) hc ?_
      refine jr_aload_n jf_243_64 rfl hl0 ?_
      replace h := obd_of h; obtain ⟨x3, hx3, h⟩ := h
      refine jr_getA jf_243_65 hx3 ?_
      refine jr_iload_n jf_243_68 rfl hl1 ?_
      replace h := obd_of h; obtain ⟨a4, rfl, h⟩ := h
      replace h := obd_of h; obtain ⟨x5, hx5, h⟩ := h
      refine jr_iaload jf_243_69 hx5 ?_
      obtain rfl := Option.some.inj h
      exact jr_retI jf_243_70 jmt_243
    · refine jsw_miss (by decide) hc (by decide : (0 : Int) + 1 = 1) ?_
      replace h := ite_or h; rcases h with ⟨hc, h⟩ | ⟨hc, h⟩
      · refine jsw_hit (by decide) hc ?_
        refine jr_aload_n jf_243_71 rfl hl0 ?_
        replace h := obd_of h; obtain ⟨x6, hx6, h⟩ := h
        refine jr_getA jf_243_72 hx6 ?_
        refine jr_iload_n jf_243_75 rfl hl1 ?_
        replace h := obd_of h; obtain ⟨a7, rfl, h⟩ := h
        replace h := obd_of h; obtain ⟨x8, hx8, h⟩ := h
        refine jr_iaload jf_243_76 hx8 ?_
        obtain rfl := Option.some.inj h
        exact jr_retI jf_243_77 jmt_243
      · refine jsw_miss (by decide) hc (by decide : (1 : Int) + 1 = 2) ?_
        replace h := ite_or h; rcases h with ⟨hc, h⟩ | ⟨hc, h⟩
        · refine jsw_hit (by decide) hc ?_
          refine jr_aload_n jf_243_78 rfl hl0 ?_
          replace h := obd_of h; obtain ⟨x9, hx9, h⟩ := h
          refine jr_getA jf_243_79 hx9 ?_
          refine jr_iload_n jf_243_82 rfl hl1 ?_
          replace h := obd_of h; obtain ⟨a10, rfl, h⟩ := h
          replace h := obd_of h; obtain ⟨x11, hx11, h⟩ := h
          refine jr_iaload jf_243_83 hx11 ?_
          obtain rfl := Option.some.inj h
          exact jr_retI jf_243_84 jmt_243
        · refine jsw_miss (by decide) hc (by decide : (2 : Int) + 1 = 3) ?_
          replace h := ite_or h; rcases h with ⟨hc, h⟩ | ⟨hc, h⟩
          · refine jsw_hit (by decide) hc ?_
            refine jr_aload_n jf_243_85 rfl hl0 ?_
            replace h := obd_of h; obtain ⟨x12, hx12, h⟩ := h
            refine jr_getA jf_243_86 hx12 ?_
            refine jr_iload_n jf_243_89 rfl hl1 ?_
            replace h := obd_of h; obtain ⟨a13, rfl, h⟩ := h
            replace h := obd_of h; obtain ⟨x14, hx14, h⟩ := h
            refine jr_iaload jf_243_90 hx14 ?_
            obtain rfl := Option.some.inj h
            exact jr_retI jf_243_91 jmt_243
          · refine jsw_miss (by decide) hc (by decide : (3 : Int) + 1 = 4) ?_
            replace h := ite_or h; rcases h with ⟨hc, h⟩ | ⟨hc, h⟩
            · refine jsw_hit (by decide) hc ?_
              refine jr_aload_n jf_243_92 rfl hl0 ?_
              replace h := obd_of h; obtain ⟨x15, hx15, h⟩ := h
              refine jr_getA jf_243_93 hx15 ?_
              refine jr_iload_n jf_243_96 rfl hl1 ?_
              replace h := obd_of h; obtain ⟨a16, rfl, h⟩ := h
              replace h := obd_of h; obtain ⟨x17, hx17, h⟩ := h
              refine jr_iaload jf_243_97 hx17 ?_
              obtain rfl := Option.some.inj h
              exact jr_retI jf_243_98 jmt_243
            · refine jsw_miss (by decide) hc (by decide : (4 : Int) + 1 = 5) ?_
              replace h := ite_or h; rcases h with ⟨hc, h⟩ | ⟨hc, h⟩
              · refine jsw_hit (by decide) hc ?_
                refine jr_aload_n jf_243_99 rfl hl0 ?_
                replace h := obd_of h; obtain ⟨x18, hx18, h⟩ := h
                refine jr_getA jf_243_100 hx18 ?_
                refine jr_iload_n jf_243_103 rfl hl1 ?_
                replace h := obd_of h; obtain ⟨a19, rfl, h⟩ := h
                replace h := obd_of h; obtain ⟨x20, hx20, h⟩ := h
                refine jr_iaload jf_243_104 hx20 ?_
                obtain rfl := Option.some.inj h
                exact jr_retI jf_243_105 jmt_243
              · refine jsw_miss (by decide) hc (by decide : (5 : Int) + 1 = 6) ?_
                replace h := ite_or h; rcases h with ⟨hc, h⟩ | ⟨hc, h⟩
                · refine jsw_hit (by decide) hc ?_
                  refine jr_aload_n jf_243_106 rfl hl0 ?_
                  replace h := obd_of h; obtain ⟨x21, hx21, h⟩ := h
                  refine jr_getA jf_243_107 hx21 ?_
                  refine jr_iload_n jf_243_110 rfl hl1 ?_
                  replace h := obd_of h; obtain ⟨a22, rfl, h⟩ := h
                  replace h := obd_of h; obtain ⟨x23, hx23, h⟩ := h
                  refine jr_iaload jf_243_111 hx23 ?_
                  obtain rfl := Option.some.inj h
                  exact jr_retI jf_243_112 jmt_243
                · refine jsw_miss (by decide) hc (by decide : (6 : Int) + 1 = 7) ?_
                  replace h := ite_or h; rcases h with ⟨hc, h⟩ | ⟨hc, h⟩
                  · refine jsw_hit (by decide) hc ?_
                    refine jr_aload_n jf_243_113 rfl hl0 ?_
                    replace h := obd_of h; obtain ⟨x24, hx24, h⟩ := h
                    refine jr_getA jf_243_114 hx24 ?_
                    refine jr_iload_n jf_243_117 rfl hl1 ?_
                    replace h := obd_of h; obtain ⟨a25, rfl, h⟩ := h
                    replace h := obd_of h; obtain ⟨x26, hx26, h⟩ := h
                    refine jr_iaload jf_243_118 hx26 ?_
                    obtain rfl := Option.some.inj h
                    exact jr_retI jf_243_119 jmt_243
                  · refine jsw_miss (by decide) hc (by decide : (7 : Int) + 1 = 8) ?_
                    replace h := ite_or h; rcases h with ⟨hc, h⟩ | ⟨hc, h⟩
                    · refine jsw_hit (by decide) hc ?_
                      refine jr_aload_n jf_243_120 rfl hl0 ?_
                      replace h := obd_of h; obtain ⟨x27, hx27, h⟩ := h
                      refine jr_getA jf_243_121 hx27 ?_
                      refine jr_iload_n jf_243_124 rfl hl1 ?_
                      replace h := obd_of h; obtain ⟨a28, rfl, h⟩ := h
                      replace h := obd_of h; obtain ⟨x29, hx29, h⟩ := h
                      refine jr_iaload jf_243_125 hx29 ?_
                      obtain rfl := Option.some.inj h
                      exact jr_retI jf_243_126 jmt_243
                    · refine jsw_miss (by decide) hc (by decide : (8 : Int) + 1 = 9) ?_
                      replace h := ite_or h; rcases h with ⟨hc, h⟩ | ⟨hc, h⟩
                      · refine jsw_hit (by decide) hc ?_
                        refine jr_aload_n jf_243_127 rfl hl0 ?_
                        replace h := obd_of h; obtain ⟨x30, hx30, h⟩ := h
                        refine jr_getA jf_243_128 hx30 ?_
                        refine jr_iload_n jf_243_131 rfl hl1 ?_
                        replace h := obd_of h; obtain ⟨a31, rfl, h⟩ := h
                        replace h := obd_of h; obtain ⟨x32, hx32, h⟩ := h
                        refine jr_iaload jf_243_132 hx32 ?_
                        obtain rfl := Option.some.inj h
                        exact jr_retI jf_243_133 jmt_243
                      · refine jsw_miss (by decide) hc (by decide : (9 : Int) + 1 = 10) ?_
                        refine jsw_end ?_
                        refine jr_iconst jf_243_134 jc_i_m1 ?_
                        obtain rfl := Option.some.inj h
                        exact jr_retI jf_243_135 jmt_243
  · refine jr_ifz_ne_f jf_243_5 hc ?_
    refine jr_iconst jf_243_8 jc_i_m1 ?_
    obtain rfl := Option.some.inj h
    exact jr_retI jf_243_9 jmt_243
set_option maxRecDepth 10000 in
set_option maxHeartbeats 4000000 in
theorem r_R_about {B : Nat} {SA : Nat → Nat} {d : Nat} (hd : 2 ≤ d) : ∀ (v0 : Nat) (v1 : Int32) (v2 : Int32) (μ : JMem) (r : Int32), g_R_about v0 v1 v2 μ.1 = some r → jR B SA d m_R_about 0 (lv_args 0 [.ref v0, .int v1, .int v2]) [] μ (some (.int r)) μ := by
  intro v0 v1 v2 μ r h
  exact r_R_about_e hd (lv_args 0 _) _ _ _ _ _ (by simp [lv_args, jget, rv_cat, cat_int, cat_long, cat_double, cat_float, cat_ref]) (by simp [lv_args, jget, rv_cat, cat_int, cat_long, cat_double, cat_float, cat_ref]) (by simp [lv_args, jget, rv_cat, cat_int, cat_long, cat_double, cat_float, cat_ref]) h
/-! FilterBenchModel.told(II)J -/
set_option maxRecDepth 10000 in
set_option maxHeartbeats 4000000 in
theorem r_R_told_e {B : Nat} {SA : Nat → Nat} {d : Nat} (hd : 3 ≤ d) : ∀ (L : JLoc) (v0 : Nat) (v1 : Int32) (v2 : Int32) (μ : JMem) (r : Int64), jget L 0 = .ref v0 → jget L 1 = .int v1 → jget L 2 = .int v2 → g_R_told v0 v1 v2 μ.1 = some r → jR B SA d m_R_told 0 L [] μ (some (.long r)) μ := by
  intro L v0 v1 v2 μ r hl0 hl1 hl2 h
  unfold g_R_told at h
  refine jr_aload_n jf_244_0 rfl hl0 ?_
  refine jr_iload_n jf_244_1 rfl hl1 ?_
  refine jr_iload_n jf_244_2 rfl hl2 ?_
  replace h := jgd_of h; obtain ⟨hb1, h⟩ := h
  replace h := obd_of h; obtain ⟨x2, hx2, h⟩ := h
  refine jr_V6_2 jf_244_3 hb1 (by omega) (r_R_isCoefficient (by omega) _ _ _ _ _ hx2) (Nat.le_of_ble_eq_true rfl) jml_194 (Nat.le_of_ble_eq_true rfl) ?_
  replace h := ite_or h; rcases h with ⟨hc, h⟩ | ⟨hc, h⟩
  · refine jr_ifz_eq_f jf_244_6 hc ?_
    refine jr_aload_n jf_244_9 rfl hl0 ?_
    replace h := obd_of h; obtain ⟨x3, hx3, h⟩ := h
    refine jr_getA jf_244_10 hx3 ?_
    refine jr_iload_n jf_244_13 rfl hl1 ?_
    replace h := obd_of h; obtain ⟨a4, rfl, h⟩ := h
    replace h := obd_of h; obtain ⟨x5, hx5, h⟩ := h
    refine jr_iaload jf_244_14 hx5 ?_
    refine jr_aload_n jf_244_15 rfl hl0 ?_
    refine jr_iload_n jf_244_16 rfl hl1 ?_
    refine jr_iload_n jf_244_17 rfl hl2 ?_
    replace h := jgd_of h; obtain ⟨hb6, h⟩ := h
    replace h := obd_of h; obtain ⟨x7, hx7, h⟩ := h
    refine jr_V6_2 jf_244_18 hb6 (by omega) (r_R_c (by omega) _ _ _ _ _ hx7) (Nat.le_of_ble_eq_true rfl) jml_218 (Nat.le_of_ble_eq_true rfl) ?_
    replace h := obd_of h; obtain ⟨x8, hx8, h⟩ := h
    refine jr_S3_2 jf_244_21 (by omega) (r_R_bitsOf (by omega) _ _ _ _ hx8) (Nat.le_of_ble_eq_true rfl) jml_237 (Nat.le_of_ble_eq_true rfl) ?_
    refine jr_goto jf_244_24 ?_
    obtain rfl := Option.some.inj h
    exact jr_retJ jf_244_28 jmt_244
  · refine jr_ifz_eq_t jf_244_6 hc ?_
    refine jr_lconst0 jf_244_27 ?_
    obtain rfl := Option.some.inj h
    exact jr_retJ jf_244_28 jmt_244
set_option maxRecDepth 10000 in
set_option maxHeartbeats 4000000 in
theorem r_R_told {B : Nat} {SA : Nat → Nat} {d : Nat} (hd : 3 ≤ d) : ∀ (v0 : Nat) (v1 : Int32) (v2 : Int32) (μ : JMem) (r : Int64), g_R_told v0 v1 v2 μ.1 = some r → jR B SA d m_R_told 0 (lv_args 0 [.ref v0, .int v1, .int v2]) [] μ (some (.long r)) μ := by
  intro v0 v1 v2 μ r h
  exact r_R_told_e hd (lv_args 0 _) _ _ _ _ _ (by simp [lv_args, jget, rv_cat, cat_int, cat_long, cat_double, cat_float, cat_ref]) (by simp [lv_args, jget, rv_cat, cat_int, cat_long, cat_double, cat_float, cat_ref]) (by simp [lv_args, jget, rv_cat, cat_int, cat_long, cat_double, cat_float, cat_ref]) h
/-! FilterBenchModel.empties(I)V -/
set_option maxRecDepth 10000 in
set_option maxHeartbeats 4000000 in
theorem r_R_empties_27 {N B : Nat} {SA : Nat → Nat} {d : Nat} (hd : 1 ≤ d) {k11 : Nat → Int32 → Int32 → JMem → Option JMem} (i11 : ∀ (L : JLoc) (v0 : Nat) (v1 : Int32) (v2 : Int32) (μ : JMem) (μ9 : JMem), jget L 0 = .ref v0 → jget L 1 = .int v1 → jget L 2 = .int v2 → k11 v0 v1 v2 μ = some μ9 → jR B SA d m_R_empties 11 L [] μ none μ9) : ∀ (n : Nat), ∀ (L : JLoc) (v0 : Nat) (v1 : Int32) (v2 : Int32) (v3 : Int32) (μ : JMem) (μ9 : JMem), jget L 0 = .ref v0 → jget L 1 = .int v1 → jget L 2 = .int v2 → jget L 3 = .int v3 → g_R_empties_27 N B k11 n v0 v1 v2 v3 μ = some μ9 → jR B SA d m_R_empties 27 L [] μ none μ9 := by
  intro n
  induction n with
  | zero =>
    intro L v0 v1 v2 v3 μ μ9 hl0 hl1 hl2 hl3 h
    unfold g_R_empties_27 at h
    cases h
  | succ n ih =>
    intro L v0 v1 v2 v3 μ μ9 hl0 hl1 hl2 hl3 h
    unfold g_R_empties_27 at h
    refine jr_iload_n jf_247_27 rfl hl3 ?_
    refine jr_bipush jf_247_28 jc_b_64 ?_
    replace h := ite_or h; rcases h with ⟨hc, h⟩ | ⟨hc, h⟩
    · refine jr_if2_ge_t jf_247_30 hc ?_
      refine jr_aload_n jf_247_51 rfl hl0 ?_
      replace h := obd_of h; obtain ⟨x1, hx1, h⟩ := h
      refine jr_getA jf_247_52 hx1 ?_
      refine jr_iload_n jf_247_55 rfl hl2 ?_
      refine jr_iconst jf_247_56 jc_i_0 ?_
      replace h := obd_of h; obtain ⟨a2, rfl, h⟩ := h
      replace h := obd_of h; obtain ⟨μ3, hμ3, h⟩ := h
      refine jr_iastore jf_247_57 hμ3 ?_
      refine jr_iinc jf_247_58 jc_i_1 jml_247 (by decide) hl2 ?_
      refine jr_goto jf_247_61 ?_
      exact i11 _ _ _ _ _ _ (jg1_ne rfl hl0) (jg1_pre rfl hl1) jg1_same h
    · refine jr_if2_ge_f jf_247_30 hc ?_
      refine jr_aload_n jf_247_33 rfl hl0 ?_
      replace h := obd_of h; obtain ⟨x4, hx4, h⟩ := h
      refine jr_getA jf_247_34 hx4 ?_
      refine jr_bipush jf_247_37 jc_b_64 ?_
      refine jr_iload_n jf_247_39 rfl hl2 ?_
      refine jr_imul jf_247_40 ?_
      refine jr_iload_n jf_247_41 rfl hl3 ?_
      refine jr_iadd jf_247_42 ?_
      refine jr_dconst0 jf_247_43 ?_
      replace h := obd_of h; obtain ⟨a5, rfl, h⟩ := h
      replace h := obd_of h; obtain ⟨μ6, hμ6, h⟩ := h
      refine jr_dastore jf_247_44 hμ6 ?_
      refine jr_iinc jf_247_45 jc_i_1 jml_247 (by decide) hl3 ?_
      refine jr_goto jf_247_48 ?_
      exact ih _ _ _ _ _ _ _ (jg1_ne rfl hl0) (jg1_ne rfl hl1) (jg1_pre rfl hl2) jg1_same h
set_option maxRecDepth 10000 in
set_option maxHeartbeats 4000000 in
theorem r_R_empties_66 {N B : Nat} {SA : Nat → Nat} {d : Nat} (hd : 1 ≤ d) : ∀ (n : Nat), ∀ (L : JLoc) (v0 : Nat) (v1 : Int32) (v2 : Int32) (μ : JMem) (μ9 : JMem), jget L 0 = .ref v0 → jget L 1 = .int v1 → jget L 2 = .int v2 → g_R_empties_66 N B n v0 v1 v2 μ = some μ9 → jR B SA d m_R_empties 66 L [] μ none μ9 := by
  intro n
  induction n with
  | zero =>
    intro L v0 v1 v2 μ μ9 hl0 hl1 hl2 h
    unfold g_R_empties_66 at h
    cases h
  | succ n ih =>
    intro L v0 v1 v2 μ μ9 hl0 hl1 hl2 h
    unfold g_R_empties_66 at h
    refine jr_iload_n jf_247_66 rfl hl2 ?_
    refine jr_aload_n jf_247_67 rfl hl0 ?_
    replace h := obd_of h; obtain ⟨x1, hx1, h⟩ := h
    refine jr_getA jf_247_68 hx1 ?_
    refine jr_iload_n jf_247_71 rfl hl1 ?_
    replace h := obd_of h; obtain ⟨a2, rfl, h⟩ := h
    replace h := obd_of h; obtain ⟨x3, hx3, h⟩ := h
    refine jr_iaload jf_247_72 hx3 ?_
    replace h := ite_or h; rcases h with ⟨hc, h⟩ | ⟨hc, h⟩
    · refine jr_if2_ge_t jf_247_73 hc ?_
      obtain rfl := Option.some.inj h
      exact jr_return jf_247_99 jmt_247
    · refine jr_if2_ge_f jf_247_73 hc ?_
      refine jr_aload_n jf_247_76 rfl hl0 ?_
      replace h := obd_of h; obtain ⟨x4, hx4, h⟩ := h
      refine jr_getA jf_247_77 hx4 ?_
      refine jr_bipush jf_247_80 jc_b_10 ?_
      refine jr_iload_n jf_247_82 rfl hl1 ?_
      refine jr_imul jf_247_83 ?_
      refine jr_iload_n jf_247_84 rfl hl2 ?_
      refine jr_iadd jf_247_85 ?_
      replace h := obd_of h; obtain ⟨a5, rfl, h⟩ := h
      replace h := obd_of h; obtain ⟨x6, hx6, h⟩ := h
      refine jr_iaload jf_247_86 hx6 ?_
      refine jr_istore_n jf_247_87 rfl jml_247 (by decide) ?_
      refine jr_aload_n jf_247_88 rfl (jg1_ne rfl hl0) ?_
      refine jr_iload_n jf_247_89 rfl jg1_same ?_
      replace h := jgd_of h; obtain ⟨hb7, h⟩ := h
      replace h := obd_of h; obtain ⟨μ8, hμ8, h⟩ := h
      refine jr_V6v_1 jf_247_90 hb7 (by omega) (r_R_clears (by omega) _ _ _ _ hμ8) (Nat.le_of_ble_eq_true rfl) jml_192 (Nat.le_of_ble_eq_true rfl) ?_
      refine jr_iinc jf_247_93 jc_i_1 jml_247 (by decide) (jg1_pre rfl hl2) ?_
      refine jr_goto jf_247_96 ?_
      exact ih _ _ _ _ _ _ (jg1_ne rfl (jg1_ne rfl hl0)) (jg1_pre rfl (jg1_ne rfl hl1)) jg1_same h
set_option maxRecDepth 10000 in
set_option maxHeartbeats 4000000 in
theorem r_R_empties_11 {N B : Nat} {SA : Nat → Nat} {d : Nat} (hd : 1 ≤ d) : ∀ (n : Nat), ∀ (L : JLoc) (v0 : Nat) (v1 : Int32) (v2 : Int32) (μ : JMem) (μ9 : JMem), jget L 0 = .ref v0 → jget L 1 = .int v1 → jget L 2 = .int v2 → g_R_empties_11 N B n v0 v1 v2 μ = some μ9 → jR B SA d m_R_empties 11 L [] μ none μ9 := by
  intro n
  induction n with
  | zero =>
    intro L v0 v1 v2 μ μ9 hl0 hl1 hl2 h
    unfold g_R_empties_11 at h
    cases h
  | succ n ih =>
    intro L v0 v1 v2 μ μ9 hl0 hl1 hl2 h
    unfold g_R_empties_11 at h
    refine jr_iload_n jf_247_11 rfl hl2 ?_
    refine jr_iconst jf_247_12 jc_i_3 ?_
    refine jr_iload_n jf_247_13 rfl hl1 ?_
    refine jr_imul jf_247_14 ?_
    refine jr_aload_n jf_247_15 rfl hl0 ?_
    replace h := obd_of h; obtain ⟨x1, hx1, h⟩ := h
    refine jr_getA jf_247_16 hx1 ?_
    refine jr_iload_n jf_247_19 rfl hl1 ?_
    replace h := obd_of h; obtain ⟨a2, rfl, h⟩ := h
    replace h := obd_of h; obtain ⟨x3, hx3, h⟩ := h
    refine jr_iaload jf_247_20 hx3 ?_
    refine jr_iadd jf_247_21 ?_
    replace h := ite_or h; rcases h with ⟨hc, h⟩ | ⟨hc, h⟩
    · refine jr_if2_ge_t jf_247_22 hc ?_
      refine jr_iconst jf_247_64 jc_i_0 ?_
      refine jr_istore_n jf_247_65 rfl jml_247 (by decide) ?_
      exact r_R_empties_66 hd _ _ _ _ _ _ _ (jg1_ne rfl hl0) (jg1_pre rfl hl1) jg1_same h
    · refine jr_if2_ge_f jf_247_22 hc ?_
      refine jr_iconst jf_247_25 jc_i_0 ?_
      refine jr_istore_n jf_247_26 rfl jml_247 (by decide) ?_
      exact r_R_empties_27 hd ih _ _ _ _ _ _ _ _ (jg1_ne rfl hl0) (jg1_ne rfl hl1) (jg1_pre rfl hl2) jg1_same h
set_option maxRecDepth 10000 in
set_option maxHeartbeats 4000000 in
theorem r_R_empties_e {N B : Nat} {SA : Nat → Nat} {d : Nat} (hd : 1 ≤ d) : ∀ (L : JLoc) (v0 : Nat) (v1 : Int32) (μ : JMem) (μ9 : JMem), jget L 0 = .ref v0 → jget L 1 = .int v1 → g_R_empties N B v0 v1 μ = some μ9 → jR B SA d m_R_empties 0 L [] μ none μ9 := by
  intro L v0 v1 μ μ9 hl0 hl1 h
  unfold g_R_empties at h
  refine jr_aload_n jf_247_0 rfl hl0 ?_
  replace h := obd_of h; obtain ⟨x1, hx1, h⟩ := h
  refine jr_getA jf_247_1 hx1 ?_
  refine jr_iload_n jf_247_4 rfl hl1 ?_
  refine jr_iconst jf_247_5 jc_i_0 ?_
  replace h := obd_of h; obtain ⟨a2, rfl, h⟩ := h
  replace h := obd_of h; obtain ⟨μ3, hμ3, h⟩ := h
  refine jr_iastore jf_247_6 hμ3 ?_
  refine jr_iconst jf_247_7 jc_i_3 ?_
  refine jr_iload_n jf_247_8 rfl hl1 ?_
  refine jr_imul jf_247_9 ?_
  refine jr_istore_n jf_247_10 rfl jml_247 (by decide) ?_
  exact r_R_empties_11 hd _ _ _ _ _ _ _ (jg1_ne rfl hl0) (jg1_pre rfl hl1) jg1_same h
set_option maxRecDepth 10000 in
set_option maxHeartbeats 4000000 in
theorem r_R_empties {N B : Nat} {SA : Nat → Nat} {d : Nat} (hd : 1 ≤ d) : ∀ (v0 : Nat) (v1 : Int32) (μ : JMem) (μ9 : JMem), g_R_empties N B v0 v1 μ = some μ9 → jR B SA d m_R_empties 0 (lv_args 0 [.ref v0, .int v1]) [] μ none μ9 := by
  intro v0 v1 μ μ9 h
  exact r_R_empties_e hd (lv_args 0 _) _ _ _ _ (by simp [lv_args, jget, rv_cat, cat_int, cat_long, cat_double, cat_float, cat_ref]) (by simp [lv_args, jget, rv_cat, cat_int, cat_long, cat_double, cat_float, cat_ref]) h
/-! FilterBenchModel.trees(I)V -/
set_option maxRecDepth 10000 in
set_option maxHeartbeats 4000000 in
theorem r_R_trees_97 {N B : Nat} {SA : Nat → Nat} {d : Nat} (hd : 0 ≤ d) {k14 : Nat → Int32 → JMem → Option JMem} (i14 : ∀ (L : JLoc) (v0 : Nat) (v2 : Int32) (μ : JMem) (μ9 : JMem), jget L 0 = .ref v0 → jget L 2 = .int v2 → k14 v0 v2 μ = some μ9 → jR B SA d m_R_trees 14 L [] μ none μ9) {k24 : Nat → Int32 → Int32 → JMem → Option JMem} (i24 : ∀ (L : JLoc) (v0 : Nat) (v2 : Int32) (v3 : Int32) (μ : JMem) (μ9 : JMem), jget L 0 = .ref v0 → jget L 2 = .int v2 → jget L 3 = .int v3 → k24 v0 v2 v3 μ = some μ9 → jR B SA d m_R_trees 24 L [] μ none μ9) : ∀ (L : JLoc) (v0 : Nat) (v2 : Int32) (v3 : Int32) (μ : JMem) (μ9 : JMem), jget L 0 = .ref v0 → jget L 2 = .int v2 → jget L 3 = .int v3 → g_R_trees_97 N B k14 k24 v0 v2 v3 μ = some μ9 → jR B SA d m_R_trees 97 L [] μ none μ9 := by
  intro L v0 v2 v3 μ μ9 hl0 hl2 hl3 h
  unfold g_R_trees_97 at h
  refine jr_iinc jf_246_97 jc_i_1 jml_246 (by decide) hl3 ?_
  refine jr_goto jf_246_100 ?_
  exact i24 _ _ _ _ _ _ (jg1_ne rfl hl0) (jg1_pre rfl hl2) jg1_same h
set_option maxRecDepth 10000 in
set_option maxHeartbeats 4000000 in
theorem r_R_trees_24 {N B : Nat} {SA : Nat → Nat} {d : Nat} (hd : 0 ≤ d) {k14 : Nat → Int32 → JMem → Option JMem} (i14 : ∀ (L : JLoc) (v0 : Nat) (v2 : Int32) (μ : JMem) (μ9 : JMem), jget L 0 = .ref v0 → jget L 2 = .int v2 → k14 v0 v2 μ = some μ9 → jR B SA d m_R_trees 14 L [] μ none μ9) : ∀ (n : Nat), ∀ (L : JLoc) (v0 : Nat) (v2 : Int32) (v3 : Int32) (μ : JMem) (μ9 : JMem), jget L 0 = .ref v0 → jget L 2 = .int v2 → jget L 3 = .int v3 → g_R_trees_24 N B k14 n v0 v2 v3 μ = some μ9 → jR B SA d m_R_trees 24 L [] μ none μ9 := by
  intro n
  induction n with
  | zero =>
    intro L v0 v2 v3 μ μ9 hl0 hl2 hl3 h
    unfold g_R_trees_24 at h
    cases h
  | succ n ih =>
    intro L v0 v2 v3 μ μ9 hl0 hl2 hl3 h
    unfold g_R_trees_24 at h
    refine jr_iload_n jf_246_24 rfl hl3 ?_
    refine jr_aload_n jf_246_25 rfl hl0 ?_
    replace h := obd_of h; obtain ⟨x1, hx1, h⟩ := h
    refine jr_getA jf_246_26 hx1 ?_
    refine jr_aload_n jf_246_29 rfl hl0 ?_
    replace h := obd_of h; obtain ⟨x2, hx2, h⟩ := h
    refine jr_getA jf_246_30 hx2 ?_
    refine jr_iload_n jf_246_33 rfl hl2 ?_
    replace h := obd_of h; obtain ⟨a3, rfl, h⟩ := h
    replace h := obd_of h; obtain ⟨x4, hx4, h⟩ := h
    refine jr_iaload jf_246_34 hx4 ?_
    replace h := obd_of h; obtain ⟨a5, rfl, h⟩ := h
    replace h := obd_of h; obtain ⟨x6, hx6, h⟩ := h
    refine jr_iaload jf_246_35 hx6 ?_
    replace h := ite_or h; rcases h with ⟨hc, h⟩ | ⟨hc, h⟩
    · refine jr_if2_ge_t jf_246_36 hc ?_
      refine jr_iinc jf_246_103 jc_i_1 jml_246 (by decide) hl2 ?_
      refine jr_goto jf_246_106 ?_
      exact i14 _ _ _ _ _ (jg1_ne rfl hl0) jg1_same h
    · refine jr_if2_ge_f jf_246_36 hc ?_
      refine jr_aload_n jf_246_39 rfl hl0 ?_
      replace h := obd_of h; obtain ⟨x7, hx7, h⟩ := h
      refine jr_getA jf_246_40 hx7 ?_
      refine jr_bipush jf_246_43 jc_b_10 ?_
      refine jr_aload_n jf_246_45 rfl hl0 ?_
      replace h := obd_of h; obtain ⟨x8, hx8, h⟩ := h
      refine jr_getA jf_246_46 hx8 ?_
      refine jr_iload_n jf_246_49 rfl hl2 ?_
      replace h := obd_of h; obtain ⟨a9, rfl, h⟩ := h
      replace h := obd_of h; obtain ⟨x10, hx10, h⟩ := h
      refine jr_iaload jf_246_50 hx10 ?_
      refine jr_imul jf_246_51 ?_
      refine jr_iload_n jf_246_52 rfl hl3 ?_
      refine jr_iadd jf_246_53 ?_
      replace h := obd_of h; obtain ⟨a11, rfl, h⟩ := h
      replace h := obd_of h; obtain ⟨x12, hx12, h⟩ := h
      refine jr_iaload jf_246_54 hx12 ?_
      refine jr_istore jf_246_55 jml_246 (by decide) ?_
      refine jr_aload_n jf_246_57 rfl (jg1_ne rfl hl0) ?_
      replace h := obd_of h; obtain ⟨x13, hx13, h⟩ := h
      refine jr_getA jf_246_58 hx13 ?_
      refine jr_iload jf_246_61 jg1_same ?_
      replace h := obd_of h; obtain ⟨a14, rfl, h⟩ := h
      replace h := obd_of h; obtain ⟨x15, hx15, h⟩ := h
      refine jr_iaload jf_246_63 hx15 ?_
      refine jr_iconst jf_246_64 jc_i_m1 ?_
      replace h := ite_or h; rcases h with ⟨hc, h⟩ | ⟨hc, h⟩
      · refine jr_if2_ne_f jf_246_65 hc ?_
        refine jr_goto jf_246_68 ?_
        exact r_R_trees_97 hd i14 ih _ _ _ _ _ _ (jg1_ne rfl hl0) (jg1_ne rfl hl2) (jg1_pre rfl hl3) h
      · refine jr_if2_ne_t jf_246_65 hc ?_
        refine jr_aload_n jf_246_71 rfl (jg1_ne rfl hl0) ?_
        replace h := obd_of h; obtain ⟨x16, hx16, h⟩ := h
        refine jr_getA jf_246_72 hx16 ?_
        refine jr_aload_n jf_246_75 rfl (jg1_ne rfl hl0) ?_
        replace h := obd_of h; obtain ⟨x17, hx17, h⟩ := h
        refine jr_getI jf_246_76 hx17 ?_
        refine jr_aload_n jf_246_79 rfl (jg1_ne rfl hl0) ?_
        replace h := obd_of h; obtain ⟨x18, hx18, h⟩ := h
        refine jr_getA jf_246_80 hx18 ?_
        refine jr_iload jf_246_83 jg1_same ?_
        replace h := obd_of h; obtain ⟨a19, rfl, h⟩ := h
        replace h := obd_of h; obtain ⟨x20, hx20, h⟩ := h
        refine jr_iaload jf_246_85 hx20 ?_
        replace h := obd_of h; obtain ⟨a21, rfl, h⟩ := h
        replace h := obd_of h; obtain ⟨μ22, hμ22, h⟩ := h
        refine jr_iastore jf_246_86 hμ22 ?_
        refine jr_aload_n jf_246_87 rfl (jg1_ne rfl hl0) ?_
        refine jr_dup jf_246_88 rfl ?_
        replace h := obd_of h; obtain ⟨x23, hx23, h⟩ := h
        refine jr_getI jf_246_89 hx23 ?_
        refine jr_iconst jf_246_92 jc_i_1 ?_
        refine jr_iadd jf_246_93 ?_
        replace h := obd_of h; obtain ⟨μ24, hμ24, h⟩ := h
        refine jr_putI jf_246_94 rfl hμ24 ?_
        exact r_R_trees_97 hd i14 ih _ _ _ _ _ _ (jg1_ne rfl hl0) (jg1_ne rfl hl2) (jg1_pre rfl hl3) h
set_option maxRecDepth 10000 in
set_option maxHeartbeats 4000000 in
theorem r_R_trees_14 {N B : Nat} {SA : Nat → Nat} {d : Nat} (hd : 0 ≤ d) : ∀ (n : Nat), ∀ (L : JLoc) (v0 : Nat) (v2 : Int32) (μ : JMem) (μ9 : JMem), jget L 0 = .ref v0 → jget L 2 = .int v2 → g_R_trees_14 N B n v0 v2 μ = some μ9 → jR B SA d m_R_trees 14 L [] μ none μ9 := by
  intro n
  induction n with
  | zero =>
    intro L v0 v2 μ μ9 hl0 hl2 h
    unfold g_R_trees_14 at h
    cases h
  | succ n ih =>
    intro L v0 v2 μ μ9 hl0 hl2 h
    unfold g_R_trees_14 at h
    refine jr_iload_n jf_246_14 rfl hl2 ?_
    refine jr_aload_n jf_246_15 rfl hl0 ?_
    replace h := obd_of h; obtain ⟨x1, hx1, h⟩ := h
    refine jr_getI jf_246_16 hx1 ?_
    replace h := ite_or h; rcases h with ⟨hc, h⟩ | ⟨hc, h⟩
    · refine jr_if2_ge_t jf_246_19 hc ?_
      obtain rfl := Option.some.inj h
      exact jr_return jf_246_109 jmt_246
    · refine jr_if2_ge_f jf_246_19 hc ?_
      refine jr_iconst jf_246_22 jc_i_0 ?_
      refine jr_istore_n jf_246_23 rfl jml_246 (by decide) ?_
      exact r_R_trees_24 hd ih _ _ _ _ _ _ _ (jg1_ne rfl hl0) (jg1_pre rfl hl2) jg1_same h
set_option maxRecDepth 10000 in
set_option maxHeartbeats 4000000 in
theorem r_R_trees_e {N B : Nat} {SA : Nat → Nat} {d : Nat} (hd : 0 ≤ d) : ∀ (L : JLoc) (v0 : Nat) (v1 : Int32) (μ : JMem) (μ9 : JMem), jget L 0 = .ref v0 → jget L 1 = .int v1 → g_R_trees N B v0 v1 μ = some μ9 → jR B SA d m_R_trees 0 L [] μ none μ9 := by
  intro L v0 v1 μ μ9 hl0 hl1 h
  unfold g_R_trees at h
  refine jr_aload_n jf_246_0 rfl hl0 ?_
  refine jr_iconst jf_246_1 jc_i_1 ?_
  replace h := obd_of h; obtain ⟨μ1, hμ1, h⟩ := h
  refine jr_putI jf_246_2 rfl hμ1 ?_
  refine jr_aload_n jf_246_5 rfl hl0 ?_
  replace h := obd_of h; obtain ⟨x2, hx2, h⟩ := h
  refine jr_getA jf_246_6 hx2 ?_
  refine jr_iconst jf_246_9 jc_i_0 ?_
  refine jr_iload_n jf_246_10 rfl hl1 ?_
  replace h := obd_of h; obtain ⟨a3, rfl, h⟩ := h
  replace h := obd_of h; obtain ⟨μ4, hμ4, h⟩ := h
  refine jr_iastore jf_246_11 hμ4 ?_
  refine jr_iconst jf_246_12 jc_i_0 ?_
  refine jr_istore_n jf_246_13 rfl jml_246 (by decide) ?_
  exact r_R_trees_14 hd _ _ _ _ _ _ (jg1_ne rfl hl0) jg1_same h
set_option maxRecDepth 10000 in
set_option maxHeartbeats 4000000 in
theorem r_R_trees {N B : Nat} {SA : Nat → Nat} {d : Nat} (hd : 0 ≤ d) : ∀ (v0 : Nat) (v1 : Int32) (μ : JMem) (μ9 : JMem), g_R_trees N B v0 v1 μ = some μ9 → jR B SA d m_R_trees 0 (lv_args 0 [.ref v0, .int v1]) [] μ none μ9 := by
  intro v0 v1 μ μ9 h
  exact r_R_trees_e hd (lv_args 0 _) _ _ _ _ (by simp [lv_args, jget, rv_cat, cat_int, cat_long, cat_double, cat_float, cat_ref]) (by simp [lv_args, jget, rv_cat, cat_int, cat_long, cat_double, cat_float, cat_ref]) h
/-! FilterBenchModel.reset(I)Z -/
set_option maxRecDepth 10000 in
set_option maxHeartbeats 4000000 in
theorem r_R_reset_17 {N B : Nat} {SA : Nat → Nat} {d : Nat} (hd : 2 ≤ d) : ∀ (n : Nat), ∀ (L : JLoc) (v0 : Nat) (v2 : Int32) (μ : JMem) (r : Bool) (μ9 : JMem), jget L 0 = .ref v0 → jget L 2 = .int v2 → g_R_reset_17 N B n v0 v2 μ = some (r, μ9) → jR B SA d m_R_reset 17 L [] μ (some (.int (jb r))) μ9 := by
  intro n
  induction n with
  | zero =>
    intro L v0 v2 μ r μ9 hl0 hl2 h
    unfold g_R_reset_17 at h
    cases h
  | succ n ih =>
    intro L v0 v2 μ r μ9 hl0 hl2 h
    unfold g_R_reset_17 at h
    refine jr_iload_n jf_245_17 rfl hl2 ?_
    refine jr_aload_n jf_245_18 rfl hl0 ?_
    replace h := obd_of h; obtain ⟨x1, hx1, h⟩ := h
    refine jr_getI jf_245_19 hx1 ?_
    replace h := ite_or h; rcases h with ⟨hc, h⟩ | ⟨hc, h⟩
    · refine jr_if2_ge_t jf_245_22 hc ?_
      refine jr_iconst jf_245_41 jc_i_1 ?_
      obtain ⟨rfl, rfl⟩ := Prod.mk.inj (Option.some.inj h)
      exact jr_retZ (x := true) jf_245_42 jmt_245
    · refine jr_if2_ge_f jf_245_22 hc ?_
      refine jr_aload_n jf_245_25 rfl hl0 ?_
      refine jr_aload_n jf_245_26 rfl hl0 ?_
      replace h := obd_of h; obtain ⟨x2, hx2, h⟩ := h
      refine jr_getA jf_245_27 hx2 ?_
      refine jr_iload_n jf_245_30 rfl hl2 ?_
      replace h := obd_of h; obtain ⟨a3, rfl, h⟩ := h
      replace h := obd_of h; obtain ⟨x4, hx4, h⟩ := h
      refine jr_iaload jf_245_31 hx4 ?_
      replace h := jgd_of h; obtain ⟨hb5, h⟩ := h
      replace h := obd_of h; obtain ⟨μ6, hμ6, h⟩ := h
      refine jr_V6v_1 jf_245_32 hb5 (by omega) (r_R_empties (by omega) _ _ _ _ hμ6) (Nat.le_of_ble_eq_true rfl) jml_247 (Nat.le_of_ble_eq_true rfl) ?_
      refine jr_iinc jf_245_35 jc_i_1 jml_245 (by decide) hl2 ?_
      refine jr_goto jf_245_38 ?_
      exact ih _ _ _ _ _ _ (jg1_ne rfl hl0) jg1_same h
set_option maxRecDepth 10000 in
set_option maxHeartbeats 4000000 in
theorem r_R_reset_e {N B : Nat} {SA : Nat → Nat} {d : Nat} (hd : 2 ≤ d) : ∀ (L : JLoc) (v0 : Nat) (v1 : Int32) (μ : JMem) (r : Bool) (μ9 : JMem), jget L 0 = .ref v0 → jget L 1 = .int v1 → g_R_reset N B v0 v1 μ = some (r, μ9) → jR B SA d m_R_reset 0 L [] μ (some (.int (jb r))) μ9 := by
  intro L v0 v1 μ r μ9 hl0 hl1 h
  unfold g_R_reset at h
  refine jr_aload_n jf_245_0 rfl hl0 ?_
  refine jr_iload_n jf_245_1 rfl hl1 ?_
  replace h := jgd_of h; obtain ⟨hb1, h⟩ := h
  replace h := obd_of h; obtain ⟨x2, hx2, h⟩ := h
  refine jr_V6_1 jf_245_2 hb1 (by omega) (r_R_isChain (by omega) _ _ _ _ hx2) (Nat.le_of_ble_eq_true rfl) jml_206 (Nat.le_of_ble_eq_true rfl) ?_
  replace h := ite_or h; rcases h with ⟨hc, h⟩ | ⟨hc, h⟩
  · refine jr_ifz_ne_t jf_245_5 hc ?_
    refine jr_aload_n jf_245_10 rfl hl0 ?_
    refine jr_iload_n jf_245_11 rfl hl1 ?_
    replace h := jgd_of h; obtain ⟨hb3, h⟩ := h
    replace h := obd_of h; obtain ⟨μ4, hμ4, h⟩ := h
    refine jr_V6v_1 jf_245_12 hb3 (by omega) (r_R_trees (by omega) _ _ _ _ hμ4) (Nat.le_of_ble_eq_true rfl) jml_246 (Nat.le_of_ble_eq_true rfl) ?_
    refine jr_iconst jf_245_15 jc_i_0 ?_
    refine jr_istore_n jf_245_16 rfl jml_245 (by decide) ?_
    exact r_R_reset_17 hd _ _ _ _ _ _ _ (jg1_ne rfl hl0) jg1_same h
  · refine jr_ifz_ne_f jf_245_5 hc ?_
    refine jr_iconst jf_245_8 jc_i_0 ?_
    obtain ⟨rfl, rfl⟩ := Prod.mk.inj (Option.some.inj h)
    exact jr_retZ (x := false) jf_245_9 jmt_245
set_option maxRecDepth 10000 in
set_option maxHeartbeats 4000000 in
theorem r_R_reset {N B : Nat} {SA : Nat → Nat} {d : Nat} (hd : 2 ≤ d) : ∀ (v0 : Nat) (v1 : Int32) (μ : JMem) (r : Bool) (μ9 : JMem), g_R_reset N B v0 v1 μ = some (r, μ9) → jR B SA d m_R_reset 0 (lv_args 0 [.ref v0, .int v1]) [] μ (some (.int (jb r))) μ9 := by
  intro v0 v1 μ r μ9 h
  exact r_R_reset_e hd (lv_args 0 _) _ _ _ _ _ (by simp [lv_args, jget, rv_cat, cat_int, cat_long, cat_double, cat_float, cat_ref]) (by simp [lv_args, jget, rv_cat, cat_int, cat_long, cat_double, cat_float, cat_ref]) h
/-! FilterBenchModel.keeps(II)V -/
set_option maxRecDepth 10000 in
set_option maxHeartbeats 4000000 in
theorem r_R_keeps_63 {N B : Nat} {SA : Nat → Nat} {d : Nat} (hd : 0 ≤ d) {k38 : Nat → Int32 → Int32 → Int32 → JMem → Option JMem} (i38 : ∀ (L : JLoc) (v0 : Nat) (v1 : Int32) (v2 : Int32) (v3 : Int32) (μ : JMem) (μ9 : JMem), jget L 0 = .ref v0 → jget L 1 = .int v1 → jget L 2 = .int v2 → jget L 3 = .int v3 → k38 v0 v1 v2 v3 μ = some μ9 → jR B SA d m_R_keeps 38 L [] μ none μ9) : ∀ (n : Nat), ∀ (L : JLoc) (v0 : Nat) (v1 : Int32) (v2 : Int32) (v3 : Int32) (v4 : Int32) (v5 : Int32) (μ : JMem) (μ9 : JMem), jget L 0 = .ref v0 → jget L 1 = .int v1 → jget L 2 = .int v2 → jget L 3 = .int v3 → jget L 4 = .int v4 → jget L 5 = .int v5 → g_R_keeps_63 N B k38 n v0 v1 v2 v3 v4 v5 μ = some μ9 → jR B SA d m_R_keeps 63 L [] μ none μ9 := by
  intro n
  induction n with
  | zero =>
    intro L v0 v1 v2 v3 v4 v5 μ μ9 hl0 hl1 hl2 hl3 hl4 hl5 h
    unfold g_R_keeps_63 at h
    cases h
  | succ n ih =>
    intro L v0 v1 v2 v3 v4 v5 μ μ9 hl0 hl1 hl2 hl3 hl4 hl5 h
    unfold g_R_keeps_63 at h
    refine jr_iload jf_249_63 hl5 ?_
    refine jr_bipush jf_249_65 jc_b_64 ?_
    replace h := ite_or h; rcases h with ⟨hc, h⟩ | ⟨hc, h⟩
    · refine jr_if2_ge_t jf_249_67 hc ?_
      refine jr_aload_n jf_249_101 rfl hl0 ?_
      replace h := obd_of h; obtain ⟨x1, hx1, h⟩ := h
      refine jr_getA jf_249_102 hx1 ?_
      refine jr_iload jf_249_105 hl4 ?_
      refine jr_aload_n jf_249_107 rfl hl0 ?_
      replace h := obd_of h; obtain ⟨x2, hx2, h⟩ := h
      refine jr_getA jf_249_108 hx2 ?_
      refine jr_iload_n jf_249_111 rfl hl3 ?_
      replace h := obd_of h; obtain ⟨a3, rfl, h⟩ := h
      replace h := obd_of h; obtain ⟨x4, hx4, h⟩ := h
      refine jr_iaload jf_249_112 hx4 ?_
      replace h := obd_of h; obtain ⟨a5, rfl, h⟩ := h
      replace h := obd_of h; obtain ⟨μ6, hμ6, h⟩ := h
      refine jr_iastore jf_249_113 hμ6 ?_
      refine jr_iinc jf_249_114 jc_i_1 jml_249 (by decide) hl3 ?_
      refine jr_goto jf_249_117 ?_
      exact i38 _ _ _ _ _ _ _ (jg1_ne rfl hl0) (jg1_ne rfl hl1) (jg1_pre rfl hl2) jg1_same h
    · refine jr_if2_ge_f jf_249_67 hc ?_
      refine jr_aload_n jf_249_70 rfl hl0 ?_
      replace h := obd_of h; obtain ⟨x7, hx7, h⟩ := h
      refine jr_getA jf_249_71 hx7 ?_
      refine jr_bipush jf_249_74 jc_b_64 ?_
      refine jr_iload jf_249_76 hl4 ?_
      refine jr_imul jf_249_78 ?_
      refine jr_iload jf_249_79 hl5 ?_
      refine jr_iadd jf_249_81 ?_
      refine jr_aload_n jf_249_82 rfl hl0 ?_
      replace h := obd_of h; obtain ⟨x8, hx8, h⟩ := h
      refine jr_getA jf_249_83 hx8 ?_
      refine jr_bipush jf_249_86 jc_b_64 ?_
      refine jr_iload_n jf_249_88 rfl hl3 ?_
      refine jr_imul jf_249_89 ?_
      refine jr_iload jf_249_90 hl5 ?_
      refine jr_iadd jf_249_92 ?_
      replace h := obd_of h; obtain ⟨a9, rfl, h⟩ := h
      replace h := obd_of h; obtain ⟨x10, hx10, h⟩ := h
      refine jr_daload jf_249_93 hx10 ?_
      replace h := obd_of h; obtain ⟨a11, rfl, h⟩ := h
      replace h := obd_of h; obtain ⟨μ12, hμ12, h⟩ := h
      refine jr_dastore jf_249_94 hμ12 ?_
      refine jr_iinc jf_249_95 jc_i_1 jml_249 (by decide) hl5 ?_
      refine jr_goto jf_249_98 ?_
      exact ih _ _ _ _ _ _ _ _ _ (jg1_ne rfl hl0) (jg1_ne rfl hl1) (jg1_ne rfl hl2) (jg1_ne rfl hl3) (jg1_pre rfl hl4) jg1_same h
set_option maxRecDepth 10000 in
set_option maxHeartbeats 4000000 in
theorem r_R_keeps_157 {N B : Nat} {SA : Nat → Nat} {d : Nat} (hd : 0 ≤ d) {k122 : Nat → Int32 → Int32 → Int32 → JMem → Option JMem} (i122 : ∀ (L : JLoc) (v0 : Nat) (v1 : Int32) (v2 : Int32) (v3 : Int32) (μ : JMem) (μ9 : JMem), jget L 0 = .ref v0 → jget L 1 = .int v1 → jget L 2 = .int v2 → jget L 3 = .int v3 → k122 v0 v1 v2 v3 μ = some μ9 → jR B SA d m_R_keeps 122 L [] μ none μ9) : ∀ (n : Nat), ∀ (L : JLoc) (v0 : Nat) (v1 : Int32) (v2 : Int32) (v3 : Int32) (v4 : Int32) (v5 : Int32) (v6 : Int32) (μ : JMem) (μ9 : JMem), jget L 0 = .ref v0 → jget L 1 = .int v1 → jget L 2 = .int v2 → jget L 3 = .int v3 → jget L 4 = .int v4 → jget L 5 = .int v5 → jget L 6 = .int v6 → g_R_keeps_157 N B k122 n v0 v1 v2 v3 v4 v5 v6 μ = some μ9 → jR B SA d m_R_keeps 157 L [] μ none μ9 := by
  intro n
  induction n with
  | zero =>
    intro L v0 v1 v2 v3 v4 v5 v6 μ μ9 hl0 hl1 hl2 hl3 hl4 hl5 hl6 h
    unfold g_R_keeps_157 at h
    cases h
  | succ n ih =>
    intro L v0 v1 v2 v3 v4 v5 v6 μ μ9 hl0 hl1 hl2 hl3 hl4 hl5 hl6 h
    unfold g_R_keeps_157 at h
    refine jr_iload jf_249_157 hl6 ?_
    refine jr_bipush jf_249_159 jc_b_64 ?_
    replace h := ite_or h; rcases h with ⟨hc, h⟩ | ⟨hc, h⟩
    · refine jr_if2_ge_t jf_249_161 hc ?_
      refine jr_aload_n jf_249_196 rfl hl0 ?_
      replace h := obd_of h; obtain ⟨x1, hx1, h⟩ := h
      refine jr_getA jf_249_197 hx1 ?_
      refine jr_iload jf_249_200 hl5 ?_
      refine jr_aload_n jf_249_202 rfl hl0 ?_
      replace h := obd_of h; obtain ⟨x2, hx2, h⟩ := h
      refine jr_getA jf_249_203 hx2 ?_
      refine jr_iload jf_249_206 hl4 ?_
      replace h := obd_of h; obtain ⟨a3, rfl, h⟩ := h
      replace h := obd_of h; obtain ⟨x4, hx4, h⟩ := h
      refine jr_iaload jf_249_208 hx4 ?_
      replace h := obd_of h; obtain ⟨a5, rfl, h⟩ := h
      replace h := obd_of h; obtain ⟨μ6, hμ6, h⟩ := h
      refine jr_iastore jf_249_209 hμ6 ?_
      refine jr_aload_n jf_249_210 rfl hl0 ?_
      replace h := obd_of h; obtain ⟨x7, hx7, h⟩ := h
      refine jr_getA jf_249_211 hx7 ?_
      refine jr_iload jf_249_214 hl5 ?_
      refine jr_aload_n jf_249_216 rfl hl0 ?_
      replace h := obd_of h; obtain ⟨x8, hx8, h⟩ := h
      refine jr_getA jf_249_217 hx8 ?_
      refine jr_iload jf_249_220 hl4 ?_
      replace h := obd_of h; obtain ⟨a9, rfl, h⟩ := h
      replace h := obd_of h; obtain ⟨x10, hx10, h⟩ := h
      refine jr_laload jf_249_222 hx10 ?_
      replace h := obd_of h; obtain ⟨a11, rfl, h⟩ := h
      replace h := obd_of h; obtain ⟨μ12, hμ12, h⟩ := h
      refine jr_lastore jf_249_223 hμ12 ?_
      refine jr_aload_n jf_249_224 rfl hl0 ?_
      replace h := obd_of h; obtain ⟨x13, hx13, h⟩ := h
      refine jr_getA jf_249_225 hx13 ?_
      refine jr_iload jf_249_228 hl5 ?_
      refine jr_aload_n jf_249_230 rfl hl0 ?_
      replace h := obd_of h; obtain ⟨x14, hx14, h⟩ := h
      refine jr_getA jf_249_231 hx14 ?_
      refine jr_iload jf_249_234 hl4 ?_
      replace h := obd_of h; obtain ⟨a15, rfl, h⟩ := h
      replace h := obd_of h; obtain ⟨x16, hx16, h⟩ := h
      refine jr_iaload jf_249_236 hx16 ?_
      replace h := obd_of h; obtain ⟨a17, rfl, h⟩ := h
      replace h := obd_of h; obtain ⟨μ18, hμ18, h⟩ := h
      refine jr_iastore jf_249_237 hμ18 ?_
      refine jr_iinc jf_249_238 jc_i_1 jml_249 (by decide) hl3 ?_
      refine jr_goto jf_249_241 ?_
      exact i122 _ _ _ _ _ _ _ (jg1_ne rfl hl0) (jg1_ne rfl hl1) (jg1_pre rfl hl2) jg1_same h
    · refine jr_if2_ge_f jf_249_161 hc ?_
      refine jr_aload_n jf_249_164 rfl hl0 ?_
      replace h := obd_of h; obtain ⟨x19, hx19, h⟩ := h
      refine jr_getA jf_249_165 hx19 ?_
      refine jr_bipush jf_249_168 jc_b_64 ?_
      refine jr_iload jf_249_170 hl5 ?_
      refine jr_imul jf_249_172 ?_
      refine jr_iload jf_249_173 hl6 ?_
      refine jr_iadd jf_249_175 ?_
      refine jr_aload_n jf_249_176 rfl hl0 ?_
      replace h := obd_of h; obtain ⟨x20, hx20, h⟩ := h
      refine jr_getA jf_249_177 hx20 ?_
      refine jr_bipush jf_249_180 jc_b_64 ?_
      refine jr_iload jf_249_182 hl4 ?_
      refine jr_imul jf_249_184 ?_
      refine jr_iload jf_249_185 hl6 ?_
      refine jr_iadd jf_249_187 ?_
      replace h := obd_of h; obtain ⟨a21, rfl, h⟩ := h
      replace h := obd_of h; obtain ⟨x22, hx22, h⟩ := h
      refine jr_daload jf_249_188 hx22 ?_
      replace h := obd_of h; obtain ⟨a23, rfl, h⟩ := h
      replace h := obd_of h; obtain ⟨μ24, hμ24, h⟩ := h
      refine jr_dastore jf_249_189 hμ24 ?_
      refine jr_iinc jf_249_190 jc_i_1 jml_249 (by decide) hl6 ?_
      refine jr_goto jf_249_193 ?_
      exact ih _ _ _ _ _ _ _ _ _ _ (jg1_ne rfl hl0) (jg1_ne rfl hl1) (jg1_ne rfl hl2) (jg1_ne rfl hl3) (jg1_ne rfl hl4) (jg1_pre rfl hl5) jg1_same h
set_option maxRecDepth 10000 in
set_option maxHeartbeats 4000000 in
theorem r_R_keeps_122 {N B : Nat} {SA : Nat → Nat} {d : Nat} (hd : 0 ≤ d) : ∀ (n : Nat), ∀ (L : JLoc) (v0 : Nat) (v1 : Int32) (v2 : Int32) (v3 : Int32) (μ : JMem) (μ9 : JMem), jget L 0 = .ref v0 → jget L 1 = .int v1 → jget L 2 = .int v2 → jget L 3 = .int v3 → g_R_keeps_122 N B n v0 v1 v2 v3 μ = some μ9 → jR B SA d m_R_keeps 122 L [] μ none μ9 := by
  intro n
  induction n with
  | zero =>
    intro L v0 v1 v2 v3 μ μ9 hl0 hl1 hl2 hl3 h
    unfold g_R_keeps_122 at h
    cases h
  | succ n ih =>
    intro L v0 v1 v2 v3 μ μ9 hl0 hl1 hl2 hl3 h
    unfold g_R_keeps_122 at h
    refine jr_iload_n jf_249_122 rfl hl3 ?_
    refine jr_aload_n jf_249_123 rfl hl0 ?_
    replace h := obd_of h; obtain ⟨x1, hx1, h⟩ := h
    refine jr_getA jf_249_124 hx1 ?_
    refine jr_iload_n jf_249_127 rfl hl2 ?_
    replace h := obd_of h; obtain ⟨a2, rfl, h⟩ := h
    replace h := obd_of h; obtain ⟨x3, hx3, h⟩ := h
    refine jr_iaload jf_249_128 hx3 ?_
    replace h := ite_or h; rcases h with ⟨hc, h⟩ | ⟨hc, h⟩
    · refine jr_if2_ge_t jf_249_129 hc ?_
      obtain rfl := Option.some.inj h
      exact jr_return jf_249_244 jmt_249
    · refine jr_if2_ge_f jf_249_129 hc ?_
      refine jr_aload_n jf_249_132 rfl hl0 ?_
      replace h := obd_of h; obtain ⟨x4, hx4, h⟩ := h
      refine jr_getA jf_249_133 hx4 ?_
      refine jr_bipush jf_249_136 jc_b_10 ?_
      refine jr_iload_n jf_249_138 rfl hl2 ?_
      refine jr_imul jf_249_139 ?_
      refine jr_iload_n jf_249_140 rfl hl3 ?_
      refine jr_iadd jf_249_141 ?_
      replace h := obd_of h; obtain ⟨a5, rfl, h⟩ := h
      replace h := obd_of h; obtain ⟨x6, hx6, h⟩ := h
      refine jr_iaload jf_249_142 hx6 ?_
      refine jr_istore jf_249_143 jml_249 (by decide) ?_
      refine jr_bipush jf_249_145 jc_b_60 ?_
      refine jr_iload_n jf_249_147 rfl (jg1_ne rfl hl1) ?_
      refine jr_imul jf_249_148 ?_
      refine jr_iload jf_249_149 jg1_same ?_
      refine jr_iadd jf_249_151 ?_
      refine jr_istore jf_249_152 jml_249 (by decide) ?_
      refine jr_iconst jf_249_154 jc_i_0 ?_
      refine jr_istore jf_249_155 jml_249 (by decide) ?_
      exact r_R_keeps_157 hd ih _ _ _ _ _ _ _ _ _ _ _ (jg1_ne rfl (jg1_ne rfl (jg1_ne rfl hl0))) (jg1_ne rfl (jg1_ne rfl (jg1_ne rfl hl1))) (jg1_ne rfl (jg1_ne rfl (jg1_ne rfl hl2))) (jg1_ne rfl (jg1_ne rfl (jg1_pre rfl hl3))) (jg1_ne rfl (jg1_pre rfl jg1_same)) (jg1_pre rfl jg1_same) jg1_same h
set_option maxRecDepth 10000 in
set_option maxHeartbeats 4000000 in
theorem r_R_keeps_38 {N B : Nat} {SA : Nat → Nat} {d : Nat} (hd : 0 ≤ d) : ∀ (n : Nat), ∀ (L : JLoc) (v0 : Nat) (v1 : Int32) (v2 : Int32) (v3 : Int32) (μ : JMem) (μ9 : JMem), jget L 0 = .ref v0 → jget L 1 = .int v1 → jget L 2 = .int v2 → jget L 3 = .int v3 → g_R_keeps_38 N B n v0 v1 v2 v3 μ = some μ9 → jR B SA d m_R_keeps 38 L [] μ none μ9 := by
  intro n
  induction n with
  | zero =>
    intro L v0 v1 v2 v3 μ μ9 hl0 hl1 hl2 hl3 h
    unfold g_R_keeps_38 at h
    cases h
  | succ n ih =>
    intro L v0 v1 v2 v3 μ μ9 hl0 hl1 hl2 hl3 h
    unfold g_R_keeps_38 at h
    refine jr_iload_n jf_249_38 rfl hl3 ?_
    refine jr_iconst jf_249_39 jc_i_3 ?_
    refine jr_iload_n jf_249_40 rfl hl2 ?_
    refine jr_imul jf_249_41 ?_
    refine jr_aload_n jf_249_42 rfl hl0 ?_
    replace h := obd_of h; obtain ⟨x1, hx1, h⟩ := h
    refine jr_getA jf_249_43 hx1 ?_
    refine jr_iload_n jf_249_46 rfl hl2 ?_
    replace h := obd_of h; obtain ⟨a2, rfl, h⟩ := h
    replace h := obd_of h; obtain ⟨x3, hx3, h⟩ := h
    refine jr_iaload jf_249_47 hx3 ?_
    refine jr_iadd jf_249_48 ?_
    replace h := ite_or h; rcases h with ⟨hc, h⟩ | ⟨hc, h⟩
    · refine jr_if2_ge_t jf_249_49 hc ?_
      refine jr_iconst jf_249_120 jc_i_0 ?_
      refine jr_istore_n jf_249_121 rfl jml_249 (by decide) ?_
      exact r_R_keeps_122 hd _ _ _ _ _ _ _ _ (jg1_ne rfl hl0) (jg1_ne rfl hl1) (jg1_pre rfl hl2) jg1_same h
    · refine jr_if2_ge_f jf_249_49 hc ?_
      refine jr_bipush jf_249_52 jc_b_60 ?_
      refine jr_iload_n jf_249_54 rfl hl1 ?_
      refine jr_imul jf_249_55 ?_
      refine jr_iload_n jf_249_56 rfl hl3 ?_
      refine jr_iadd jf_249_57 ?_
      refine jr_istore jf_249_58 jml_249 (by decide) ?_
      refine jr_iconst jf_249_60 jc_i_0 ?_
      refine jr_istore jf_249_61 jml_249 (by decide) ?_
      exact r_R_keeps_63 hd ih _ _ _ _ _ _ _ _ _ _ (jg1_ne rfl (jg1_ne rfl hl0)) (jg1_ne rfl (jg1_ne rfl hl1)) (jg1_ne rfl (jg1_ne rfl hl2)) (jg1_ne rfl (jg1_pre rfl hl3)) (jg1_pre rfl jg1_same) jg1_same h
set_option maxRecDepth 10000 in
set_option maxHeartbeats 4000000 in
theorem r_R_keeps_e {N B : Nat} {SA : Nat → Nat} {d : Nat} (hd : 0 ≤ d) : ∀ (L : JLoc) (v0 : Nat) (v1 : Int32) (v2 : Int32) (μ : JMem) (μ9 : JMem), jget L 0 = .ref v0 → jget L 1 = .int v1 → jget L 2 = .int v2 → g_R_keeps N B v0 v1 v2 μ = some μ9 → jR B SA d m_R_keeps 0 L [] μ none μ9 := by
  intro L v0 v1 v2 μ μ9 hl0 hl1 hl2 h
  unfold g_R_keeps at h
  refine jr_aload_n jf_249_0 rfl hl0 ?_
  replace h := obd_of h; obtain ⟨x1, hx1, h⟩ := h
  refine jr_getA jf_249_1 hx1 ?_
  refine jr_bipush jf_249_4 jc_b_20 ?_
  refine jr_iload_n jf_249_6 rfl hl1 ?_
  refine jr_imul jf_249_7 ?_
  refine jr_iload_n jf_249_8 rfl hl2 ?_
  refine jr_iadd jf_249_9 ?_
  refine jr_aload_n jf_249_10 rfl hl0 ?_
  replace h := obd_of h; obtain ⟨x2, hx2, h⟩ := h
  refine jr_getA jf_249_11 hx2 ?_
  refine jr_iload_n jf_249_14 rfl hl2 ?_
  replace h := obd_of h; obtain ⟨a3, rfl, h⟩ := h
  replace h := obd_of h; obtain ⟨x4, hx4, h⟩ := h
  refine jr_iaload jf_249_15 hx4 ?_
  replace h := obd_of h; obtain ⟨a5, rfl, h⟩ := h
  replace h := obd_of h; obtain ⟨μ6, hμ6, h⟩ := h
  refine jr_iastore jf_249_16 hμ6 ?_
  refine jr_aload_n jf_249_17 rfl hl0 ?_
  replace h := obd_of h; obtain ⟨x7, hx7, h⟩ := h
  refine jr_getA jf_249_18 hx7 ?_
  refine jr_bipush jf_249_21 jc_b_20 ?_
  refine jr_iload_n jf_249_23 rfl hl1 ?_
  refine jr_imul jf_249_24 ?_
  refine jr_iload_n jf_249_25 rfl hl2 ?_
  refine jr_iadd jf_249_26 ?_
  refine jr_aload_n jf_249_27 rfl hl0 ?_
  replace h := obd_of h; obtain ⟨x8, hx8, h⟩ := h
  refine jr_getA jf_249_28 hx8 ?_
  refine jr_iload_n jf_249_31 rfl hl2 ?_
  replace h := obd_of h; obtain ⟨a9, rfl, h⟩ := h
  replace h := obd_of h; obtain ⟨x10, hx10, h⟩ := h
  refine jr_iaload jf_249_32 hx10 ?_
  replace h := obd_of h; obtain ⟨a11, rfl, h⟩ := h
  replace h := obd_of h; obtain ⟨μ12, hμ12, h⟩ := h
  refine jr_iastore jf_249_33 hμ12 ?_
  refine jr_iconst jf_249_34 jc_i_3 ?_
  refine jr_iload_n jf_249_35 rfl hl2 ?_
  refine jr_imul jf_249_36 ?_
  refine jr_istore_n jf_249_37 rfl jml_249 (by decide) ?_
  exact r_R_keeps_38 hd _ _ _ _ _ _ _ _ (jg1_ne rfl hl0) (jg1_ne rfl hl1) (jg1_pre rfl hl2) jg1_same h
set_option maxRecDepth 10000 in
set_option maxHeartbeats 4000000 in
theorem r_R_keeps {N B : Nat} {SA : Nat → Nat} {d : Nat} (hd : 0 ≤ d) : ∀ (v0 : Nat) (v1 : Int32) (v2 : Int32) (μ : JMem) (μ9 : JMem), g_R_keeps N B v0 v1 v2 μ = some μ9 → jR B SA d m_R_keeps 0 (lv_args 0 [.ref v0, .int v1, .int v2]) [] μ none μ9 := by
  intro v0 v1 v2 μ μ9 h
  exact r_R_keeps_e hd (lv_args 0 _) _ _ _ _ _ (by simp [lv_args, jget, rv_cat, cat_int, cat_long, cat_double, cat_float, cat_ref]) (by simp [lv_args, jget, rv_cat, cat_int, cat_long, cat_double, cat_float, cat_ref]) (by simp [lv_args, jget, rv_cat, cat_int, cat_long, cat_double, cat_float, cat_ref]) h
/-! FilterBenchModel.keep(I)I -/
set_option maxRecDepth 10000 in
set_option maxHeartbeats 4000000 in
theorem r_R_keep_36 {N B : Nat} {SA : Nat → Nat} {d : Nat} (hd : 2 ≤ d) : ∀ (n : Nat), ∀ (L : JLoc) (v0 : Nat) (v2 : Int32) (μ : JMem) (r : Int32) (μ9 : JMem), jget L 0 = .ref v0 → jget L 2 = .int v2 → g_R_keep_36 N B n v0 v2 μ = some (r, μ9) → jR B SA d m_R_keep 36 L [] μ (some (.int r)) μ9 := by
  intro n
  induction n with
  | zero =>
    intro L v0 v2 μ r μ9 hl0 hl2 h
    unfold g_R_keep_36 at h
    cases h
  | succ n ih =>
    intro L v0 v2 μ r μ9 hl0 hl2 h
    unfold g_R_keep_36 at h
    refine jr_iload_n jf_248_36 rfl hl2 ?_
    refine jr_aload_n jf_248_37 rfl hl0 ?_
    replace h := obd_of h; obtain ⟨x1, hx1, h⟩ := h
    refine jr_getI jf_248_38 hx1 ?_
    replace h := ite_or h; rcases h with ⟨hc, h⟩ | ⟨hc, h⟩
    · refine jr_if2_ge_t jf_248_41 hc ?_
      refine jr_aload_n jf_248_64 rfl hl0 ?_
      refine jr_dup jf_248_65 rfl ?_
      replace h := obd_of h; obtain ⟨x2, hx2, h⟩ := h
      refine jr_getI jf_248_66 hx2 ?_
      refine jr_iconst jf_248_69 jc_i_1 ?_
      refine jr_iadd jf_248_70 ?_
      replace h := obd_of h; obtain ⟨μ3, hμ3, h⟩ := h
      refine jr_putI jf_248_71 rfl hμ3 ?_
      refine jr_aload_n jf_248_74 rfl hl0 ?_
      replace h := obd_of h; obtain ⟨x4, hx4, h⟩ := h
      refine jr_getI jf_248_75 hx4 ?_
      refine jr_iconst jf_248_78 jc_i_1 ?_
      refine jr_isub jf_248_79 ?_
      obtain ⟨rfl, rfl⟩ := Prod.mk.inj (Option.some.inj h)
      exact jr_retI jf_248_80 jmt_248
    · refine jr_if2_ge_f jf_248_41 hc ?_
      refine jr_aload_n jf_248_44 rfl hl0 ?_
      refine jr_aload_n jf_248_45 rfl hl0 ?_
      replace h := obd_of h; obtain ⟨x5, hx5, h⟩ := h
      refine jr_getI jf_248_46 hx5 ?_
      refine jr_aload_n jf_248_49 rfl hl0 ?_
      replace h := obd_of h; obtain ⟨x6, hx6, h⟩ := h
      refine jr_getA jf_248_50 hx6 ?_
      refine jr_iload_n jf_248_53 rfl hl2 ?_
      replace h := obd_of h; obtain ⟨a7, rfl, h⟩ := h
      replace h := obd_of h; obtain ⟨x8, hx8, h⟩ := h
      refine jr_iaload jf_248_54 hx8 ?_
      replace h := jgd_of h; obtain ⟨hb9, h⟩ := h
      replace h := obd_of h; obtain ⟨μ10, hμ10, h⟩ := h
      refine jr_V6v_2 jf_248_55 hb9 (by omega) (r_R_keeps (by omega) _ _ _ _ _ hμ10) (Nat.le_of_ble_eq_true rfl) jml_249 (Nat.le_of_ble_eq_true rfl) ?_
      refine jr_iinc jf_248_58 jc_i_1 jml_248 (by decide) hl2 ?_
      refine jr_goto jf_248_61 ?_
      exact ih _ _ _ _ _ _ (jg1_ne rfl hl0) jg1_same h
set_option maxRecDepth 10000 in
set_option maxHeartbeats 4000000 in
theorem r_R_keep_e {N B : Nat} {SA : Nat → Nat} {d : Nat} (hd : 2 ≤ d) : ∀ (L : JLoc) (v0 : Nat) (v1 : Int32) (μ : JMem) (r : Int32) (μ9 : JMem), jget L 0 = .ref v0 → jget L 1 = .int v1 → g_R_keep N B v0 v1 μ = some (r, μ9) → jR B SA d m_R_keep 0 L [] μ (some (.int r)) μ9 := by
  intro L v0 v1 μ r μ9 hl0 hl1 h
  unfold g_R_keep at h
  refine jr_aload_n jf_248_0 rfl hl0 ?_
  refine jr_iload_n jf_248_1 rfl hl1 ?_
  replace h := jgd_of h; obtain ⟨hb1, h⟩ := h
  replace h := obd_of h; obtain ⟨x2, hx2, h⟩ := h
  refine jr_V6_1 jf_248_2 hb1 (by omega) (r_R_isChain (by omega) _ _ _ _ hx2) (Nat.le_of_ble_eq_true rfl) jml_206 (Nat.le_of_ble_eq_true rfl) ?_
  replace h := ite_or h; rcases h with ⟨hc, h⟩ | ⟨hc, h⟩
  · refine jr_ifz_eq_f jf_248_5 hc ?_
    refine jr_aload_n jf_248_8 rfl hl0 ?_
    replace h := obd_of h; obtain ⟨x3, hx3, h⟩ := h
    refine jr_getI jf_248_9 hx3 ?_
    refine jr_bipush jf_248_12 jc_b_8 ?_
    replace h := ite_or h; rcases h with ⟨hc, h⟩ | ⟨hc, h⟩
    · refine jr_if2_ne_f jf_248_14 hc ?_
      refine jr_iconst jf_248_17 jc_i_m1 ?_
      obtain ⟨rfl, rfl⟩ := Prod.mk.inj (Option.some.inj h)
      exact jr_retI jf_248_18 jmt_248
    · refine jr_if2_ne_t jf_248_14 hc ?_
      refine jr_aload_n jf_248_19 rfl hl0 ?_
      replace h := obd_of h; obtain ⟨x4, hx4, h⟩ := h
      refine jr_getA jf_248_20 hx4 ?_
      refine jr_aload_n jf_248_23 rfl hl0 ?_
      replace h := obd_of h; obtain ⟨x5, hx5, h⟩ := h
      refine jr_getI jf_248_24 hx5 ?_
      refine jr_iload_n jf_248_27 rfl hl1 ?_
      replace h := obd_of h; obtain ⟨a6, rfl, h⟩ := h
      replace h := obd_of h; obtain ⟨μ7, hμ7, h⟩ := h
      refine jr_iastore jf_248_28 hμ7 ?_
      refine jr_aload_n jf_248_29 rfl hl0 ?_
      refine jr_iload_n jf_248_30 rfl hl1 ?_
      replace h := jgd_of h; obtain ⟨hb8, h⟩ := h
      replace h := obd_of h; obtain ⟨μ9, hμ9, h⟩ := h
      refine jr_V6v_1 jf_248_31 hb8 (by omega) (r_R_trees (by omega) _ _ _ _ hμ9) (Nat.le_of_ble_eq_true rfl) jml_246 (Nat.le_of_ble_eq_true rfl) ?_
      refine jr_iconst jf_248_34 jc_i_0 ?_
      refine jr_istore_n jf_248_35 rfl jml_248 (by decide) ?_
      exact r_R_keep_36 hd _ _ _ _ _ _ _ (jg1_ne rfl hl0) jg1_same h
  · refine jr_ifz_eq_t jf_248_5 hc ?_
    refine jr_iconst jf_248_17 jc_i_m1 ?_
    obtain ⟨rfl, rfl⟩ := Prod.mk.inj (Option.some.inj h)
    exact jr_retI jf_248_18 jmt_248
set_option maxRecDepth 10000 in
set_option maxHeartbeats 4000000 in
theorem r_R_keep {N B : Nat} {SA : Nat → Nat} {d : Nat} (hd : 2 ≤ d) : ∀ (v0 : Nat) (v1 : Int32) (μ : JMem) (r : Int32) (μ9 : JMem), g_R_keep N B v0 v1 μ = some (r, μ9) → jR B SA d m_R_keep 0 (lv_args 0 [.ref v0, .int v1]) [] μ (some (.int r)) μ9 := by
  intro v0 v1 μ r μ9 h
  exact r_R_keep_e hd (lv_args 0 _) _ _ _ _ _ (by simp [lv_args, jget, rv_cat, cat_int, cat_long, cat_double, cat_float, cat_ref]) (by simp [lv_args, jget, rv_cat, cat_int, cat_long, cat_double, cat_float, cat_ref]) h
/-! FilterBenchModel.backs(II)V -/
set_option maxRecDepth 10000 in
set_option maxHeartbeats 4000000 in
theorem r_R_backs_29 {N B : Nat} {SA : Nat → Nat} {d : Nat} (hd : 0 ≤ d) {k4 : Nat → Int32 → Int32 → Int32 → JMem → Option JMem} (i4 : ∀ (L : JLoc) (v0 : Nat) (v1 : Int32) (v2 : Int32) (v3 : Int32) (μ : JMem) (μ9 : JMem), jget L 0 = .ref v0 → jget L 1 = .int v1 → jget L 2 = .int v2 → jget L 3 = .int v3 → k4 v0 v1 v2 v3 μ = some μ9 → jR B SA d m_R_backs 4 L [] μ none μ9) : ∀ (n : Nat), ∀ (L : JLoc) (v0 : Nat) (v1 : Int32) (v2 : Int32) (v3 : Int32) (v4 : Int32) (v5 : Int32) (μ : JMem) (μ9 : JMem), jget L 0 = .ref v0 → jget L 1 = .int v1 → jget L 2 = .int v2 → jget L 3 = .int v3 → jget L 4 = .int v4 → jget L 5 = .int v5 → g_R_backs_29 N B k4 n v0 v1 v2 v3 v4 v5 μ = some μ9 → jR B SA d m_R_backs 29 L [] μ none μ9 := by
  intro n
  induction n with
  | zero =>
    intro L v0 v1 v2 v3 v4 v5 μ μ9 hl0 hl1 hl2 hl3 hl4 hl5 h
    unfold g_R_backs_29 at h
    cases h
  | succ n ih =>
    intro L v0 v1 v2 v3 v4 v5 μ μ9 hl0 hl1 hl2 hl3 hl4 hl5 h
    unfold g_R_backs_29 at h
    refine jr_iload jf_253_29 hl5 ?_
    refine jr_bipush jf_253_31 jc_b_64 ?_
    replace h := ite_or h; rcases h with ⟨hc, h⟩ | ⟨hc, h⟩
    · refine jr_if2_ge_t jf_253_33 hc ?_
      refine jr_aload_n jf_253_67 rfl hl0 ?_
      replace h := obd_of h; obtain ⟨x1, hx1, h⟩ := h
      refine jr_getA jf_253_68 hx1 ?_
      refine jr_iload_n jf_253_71 rfl hl3 ?_
      refine jr_aload_n jf_253_72 rfl hl0 ?_
      replace h := obd_of h; obtain ⟨x2, hx2, h⟩ := h
      refine jr_getA jf_253_73 hx2 ?_
      refine jr_iload jf_253_76 hl4 ?_
      replace h := obd_of h; obtain ⟨a3, rfl, h⟩ := h
      replace h := obd_of h; obtain ⟨x4, hx4, h⟩ := h
      refine jr_iaload jf_253_78 hx4 ?_
      replace h := obd_of h; obtain ⟨a5, rfl, h⟩ := h
      replace h := obd_of h; obtain ⟨μ6, hμ6, h⟩ := h
      refine jr_iastore jf_253_79 hμ6 ?_
      refine jr_iinc jf_253_80 jc_i_1 jml_253 (by decide) hl3 ?_
      refine jr_goto jf_253_83 ?_
      exact i4 _ _ _ _ _ _ _ (jg1_ne rfl hl0) (jg1_ne rfl hl1) (jg1_pre rfl hl2) jg1_same h
    · refine jr_if2_ge_f jf_253_33 hc ?_
      refine jr_aload_n jf_253_36 rfl hl0 ?_
      replace h := obd_of h; obtain ⟨x7, hx7, h⟩ := h
      refine jr_getA jf_253_37 hx7 ?_
      refine jr_bipush jf_253_40 jc_b_64 ?_
      refine jr_iload_n jf_253_42 rfl hl3 ?_
      refine jr_imul jf_253_43 ?_
      refine jr_iload jf_253_44 hl5 ?_
      refine jr_iadd jf_253_46 ?_
      refine jr_aload_n jf_253_47 rfl hl0 ?_
      replace h := obd_of h; obtain ⟨x8, hx8, h⟩ := h
      refine jr_getA jf_253_48 hx8 ?_
      refine jr_bipush jf_253_51 jc_b_64 ?_
      refine jr_iload jf_253_53 hl4 ?_
      refine jr_imul jf_253_55 ?_
      refine jr_iload jf_253_56 hl5 ?_
      refine jr_iadd jf_253_58 ?_
      replace h := obd_of h; obtain ⟨a9, rfl, h⟩ := h
      replace h := obd_of h; obtain ⟨x10, hx10, h⟩ := h
      refine jr_daload jf_253_59 hx10 ?_
      replace h := obd_of h; obtain ⟨a11, rfl, h⟩ := h
      replace h := obd_of h; obtain ⟨μ12, hμ12, h⟩ := h
      refine jr_dastore jf_253_60 hμ12 ?_
      refine jr_iinc jf_253_61 jc_i_1 jml_253 (by decide) hl5 ?_
      refine jr_goto jf_253_64 ?_
      exact ih _ _ _ _ _ _ _ _ _ (jg1_ne rfl hl0) (jg1_ne rfl hl1) (jg1_ne rfl hl2) (jg1_ne rfl hl3) (jg1_pre rfl hl4) jg1_same h
set_option maxRecDepth 10000 in
set_option maxHeartbeats 4000000 in
theorem r_R_backs_123 {N B : Nat} {SA : Nat → Nat} {d : Nat} (hd : 0 ≤ d) {k88 : Nat → Int32 → Int32 → Int32 → JMem → Option JMem} (i88 : ∀ (L : JLoc) (v0 : Nat) (v1 : Int32) (v2 : Int32) (v3 : Int32) (μ : JMem) (μ9 : JMem), jget L 0 = .ref v0 → jget L 1 = .int v1 → jget L 2 = .int v2 → jget L 3 = .int v3 → k88 v0 v1 v2 v3 μ = some μ9 → jR B SA d m_R_backs 88 L [] μ none μ9) : ∀ (n : Nat), ∀ (L : JLoc) (v0 : Nat) (v1 : Int32) (v2 : Int32) (v3 : Int32) (v4 : Int32) (v5 : Int32) (v6 : Int32) (μ : JMem) (μ9 : JMem), jget L 0 = .ref v0 → jget L 1 = .int v1 → jget L 2 = .int v2 → jget L 3 = .int v3 → jget L 4 = .int v4 → jget L 5 = .int v5 → jget L 6 = .int v6 → g_R_backs_123 N B k88 n v0 v1 v2 v3 v4 v5 v6 μ = some μ9 → jR B SA d m_R_backs 123 L [] μ none μ9 := by
  intro n
  induction n with
  | zero =>
    intro L v0 v1 v2 v3 v4 v5 v6 μ μ9 hl0 hl1 hl2 hl3 hl4 hl5 hl6 h
    unfold g_R_backs_123 at h
    cases h
  | succ n ih =>
    intro L v0 v1 v2 v3 v4 v5 v6 μ μ9 hl0 hl1 hl2 hl3 hl4 hl5 hl6 h
    unfold g_R_backs_123 at h
    refine jr_iload jf_253_123 hl6 ?_
    refine jr_bipush jf_253_125 jc_b_64 ?_
    replace h := ite_or h; rcases h with ⟨hc, h⟩ | ⟨hc, h⟩
    · refine jr_if2_ge_t jf_253_127 hc ?_
      refine jr_aload_n jf_253_162 rfl hl0 ?_
      replace h := obd_of h; obtain ⟨x1, hx1, h⟩ := h
      refine jr_getA jf_253_163 hx1 ?_
      refine jr_iload jf_253_166 hl4 ?_
      refine jr_aload_n jf_253_168 rfl hl0 ?_
      replace h := obd_of h; obtain ⟨x2, hx2, h⟩ := h
      refine jr_getA jf_253_169 hx2 ?_
      refine jr_iload jf_253_172 hl5 ?_
      replace h := obd_of h; obtain ⟨a3, rfl, h⟩ := h
      replace h := obd_of h; obtain ⟨x4, hx4, h⟩ := h
      refine jr_iaload jf_253_174 hx4 ?_
      replace h := obd_of h; obtain ⟨a5, rfl, h⟩ := h
      replace h := obd_of h; obtain ⟨μ6, hμ6, h⟩ := h
      refine jr_iastore jf_253_175 hμ6 ?_
      refine jr_aload_n jf_253_176 rfl hl0 ?_
      replace h := obd_of h; obtain ⟨x7, hx7, h⟩ := h
      refine jr_getA jf_253_177 hx7 ?_
      refine jr_iload jf_253_180 hl4 ?_
      refine jr_aload_n jf_253_182 rfl hl0 ?_
      replace h := obd_of h; obtain ⟨x8, hx8, h⟩ := h
      refine jr_getA jf_253_183 hx8 ?_
      refine jr_iload jf_253_186 hl5 ?_
      replace h := obd_of h; obtain ⟨a9, rfl, h⟩ := h
      replace h := obd_of h; obtain ⟨x10, hx10, h⟩ := h
      refine jr_laload jf_253_188 hx10 ?_
      replace h := obd_of h; obtain ⟨a11, rfl, h⟩ := h
      replace h := obd_of h; obtain ⟨μ12, hμ12, h⟩ := h
      refine jr_lastore jf_253_189 hμ12 ?_
      refine jr_iinc jf_253_190 jc_i_1 jml_253 (by decide) hl3 ?_
      refine jr_goto jf_253_193 ?_
      exact i88 _ _ _ _ _ _ _ (jg1_ne rfl hl0) (jg1_ne rfl hl1) (jg1_pre rfl hl2) jg1_same h
    · refine jr_if2_ge_f jf_253_127 hc ?_
      refine jr_aload_n jf_253_130 rfl hl0 ?_
      replace h := obd_of h; obtain ⟨x13, hx13, h⟩ := h
      refine jr_getA jf_253_131 hx13 ?_
      refine jr_bipush jf_253_134 jc_b_64 ?_
      refine jr_iload jf_253_136 hl4 ?_
      refine jr_imul jf_253_138 ?_
      refine jr_iload jf_253_139 hl6 ?_
      refine jr_iadd jf_253_141 ?_
      refine jr_aload_n jf_253_142 rfl hl0 ?_
      replace h := obd_of h; obtain ⟨x14, hx14, h⟩ := h
      refine jr_getA jf_253_143 hx14 ?_
      refine jr_bipush jf_253_146 jc_b_64 ?_
      refine jr_iload jf_253_148 hl5 ?_
      refine jr_imul jf_253_150 ?_
      refine jr_iload jf_253_151 hl6 ?_
      refine jr_iadd jf_253_153 ?_
      replace h := obd_of h; obtain ⟨a15, rfl, h⟩ := h
      replace h := obd_of h; obtain ⟨x16, hx16, h⟩ := h
      refine jr_daload jf_253_154 hx16 ?_
      replace h := obd_of h; obtain ⟨a17, rfl, h⟩ := h
      replace h := obd_of h; obtain ⟨μ18, hμ18, h⟩ := h
      refine jr_dastore jf_253_155 hμ18 ?_
      refine jr_iinc jf_253_156 jc_i_1 jml_253 (by decide) hl6 ?_
      refine jr_goto jf_253_159 ?_
      exact ih _ _ _ _ _ _ _ _ _ _ (jg1_ne rfl hl0) (jg1_ne rfl hl1) (jg1_ne rfl hl2) (jg1_ne rfl hl3) (jg1_ne rfl hl4) (jg1_pre rfl hl5) jg1_same h
set_option maxRecDepth 10000 in
set_option maxHeartbeats 4000000 in
theorem r_R_backs_88 {N B : Nat} {SA : Nat → Nat} {d : Nat} (hd : 0 ≤ d) : ∀ (n : Nat), ∀ (L : JLoc) (v0 : Nat) (v1 : Int32) (v2 : Int32) (v3 : Int32) (μ : JMem) (μ9 : JMem), jget L 0 = .ref v0 → jget L 1 = .int v1 → jget L 2 = .int v2 → jget L 3 = .int v3 → g_R_backs_88 N B n v0 v1 v2 v3 μ = some μ9 → jR B SA d m_R_backs 88 L [] μ none μ9 := by
  intro n
  induction n with
  | zero =>
    intro L v0 v1 v2 v3 μ μ9 hl0 hl1 hl2 hl3 h
    unfold g_R_backs_88 at h
    cases h
  | succ n ih =>
    intro L v0 v1 v2 v3 μ μ9 hl0 hl1 hl2 hl3 h
    unfold g_R_backs_88 at h
    refine jr_iload_n jf_253_88 rfl hl3 ?_
    refine jr_aload_n jf_253_89 rfl hl0 ?_
    replace h := obd_of h; obtain ⟨x1, hx1, h⟩ := h
    refine jr_getA jf_253_90 hx1 ?_
    refine jr_iload_n jf_253_93 rfl hl2 ?_
    replace h := obd_of h; obtain ⟨a2, rfl, h⟩ := h
    replace h := obd_of h; obtain ⟨x3, hx3, h⟩ := h
    refine jr_iaload jf_253_94 hx3 ?_
    replace h := ite_or h; rcases h with ⟨hc, h⟩ | ⟨hc, h⟩
    · refine jr_if2_ge_t jf_253_95 hc ?_
      obtain rfl := Option.some.inj h
      exact jr_return jf_253_196 jmt_253
    · refine jr_if2_ge_f jf_253_95 hc ?_
      refine jr_aload_n jf_253_98 rfl hl0 ?_
      replace h := obd_of h; obtain ⟨x4, hx4, h⟩ := h
      refine jr_getA jf_253_99 hx4 ?_
      refine jr_bipush jf_253_102 jc_b_10 ?_
      refine jr_iload_n jf_253_104 rfl hl2 ?_
      refine jr_imul jf_253_105 ?_
      refine jr_iload_n jf_253_106 rfl hl3 ?_
      refine jr_iadd jf_253_107 ?_
      replace h := obd_of h; obtain ⟨a5, rfl, h⟩ := h
      replace h := obd_of h; obtain ⟨x6, hx6, h⟩ := h
      refine jr_iaload jf_253_108 hx6 ?_
      refine jr_istore jf_253_109 jml_253 (by decide) ?_
      refine jr_bipush jf_253_111 jc_b_60 ?_
      refine jr_iload_n jf_253_113 rfl (jg1_ne rfl hl1) ?_
      refine jr_imul jf_253_114 ?_
      refine jr_iload jf_253_115 jg1_same ?_
      refine jr_iadd jf_253_117 ?_
      refine jr_istore jf_253_118 jml_253 (by decide) ?_
      refine jr_iconst jf_253_120 jc_i_0 ?_
      refine jr_istore jf_253_121 jml_253 (by decide) ?_
      exact r_R_backs_123 hd ih _ _ _ _ _ _ _ _ _ _ _ (jg1_ne rfl (jg1_ne rfl (jg1_ne rfl hl0))) (jg1_ne rfl (jg1_ne rfl (jg1_ne rfl hl1))) (jg1_ne rfl (jg1_ne rfl (jg1_ne rfl hl2))) (jg1_ne rfl (jg1_ne rfl (jg1_pre rfl hl3))) (jg1_ne rfl (jg1_pre rfl jg1_same)) (jg1_pre rfl jg1_same) jg1_same h
set_option maxRecDepth 10000 in
set_option maxHeartbeats 4000000 in
theorem r_R_backs_4 {N B : Nat} {SA : Nat → Nat} {d : Nat} (hd : 0 ≤ d) : ∀ (n : Nat), ∀ (L : JLoc) (v0 : Nat) (v1 : Int32) (v2 : Int32) (v3 : Int32) (μ : JMem) (μ9 : JMem), jget L 0 = .ref v0 → jget L 1 = .int v1 → jget L 2 = .int v2 → jget L 3 = .int v3 → g_R_backs_4 N B n v0 v1 v2 v3 μ = some μ9 → jR B SA d m_R_backs 4 L [] μ none μ9 := by
  intro n
  induction n with
  | zero =>
    intro L v0 v1 v2 v3 μ μ9 hl0 hl1 hl2 hl3 h
    unfold g_R_backs_4 at h
    cases h
  | succ n ih =>
    intro L v0 v1 v2 v3 μ μ9 hl0 hl1 hl2 hl3 h
    unfold g_R_backs_4 at h
    refine jr_iload_n jf_253_4 rfl hl3 ?_
    refine jr_iconst jf_253_5 jc_i_3 ?_
    refine jr_iload_n jf_253_6 rfl hl2 ?_
    refine jr_imul jf_253_7 ?_
    refine jr_aload_n jf_253_8 rfl hl0 ?_
    replace h := obd_of h; obtain ⟨x1, hx1, h⟩ := h
    refine jr_getA jf_253_9 hx1 ?_
    refine jr_iload_n jf_253_12 rfl hl2 ?_
    replace h := obd_of h; obtain ⟨a2, rfl, h⟩ := h
    replace h := obd_of h; obtain ⟨x3, hx3, h⟩ := h
    refine jr_iaload jf_253_13 hx3 ?_
    refine jr_iadd jf_253_14 ?_
    replace h := ite_or h; rcases h with ⟨hc, h⟩ | ⟨hc, h⟩
    · refine jr_if2_ge_t jf_253_15 hc ?_
      refine jr_iconst jf_253_86 jc_i_0 ?_
      refine jr_istore_n jf_253_87 rfl jml_253 (by decide) ?_
      exact r_R_backs_88 hd _ _ _ _ _ _ _ _ (jg1_ne rfl hl0) (jg1_ne rfl hl1) (jg1_pre rfl hl2) jg1_same h
    · refine jr_if2_ge_f jf_253_15 hc ?_
      refine jr_bipush jf_253_18 jc_b_60 ?_
      refine jr_iload_n jf_253_20 rfl hl1 ?_
      refine jr_imul jf_253_21 ?_
      refine jr_iload_n jf_253_22 rfl hl3 ?_
      refine jr_iadd jf_253_23 ?_
      refine jr_istore jf_253_24 jml_253 (by decide) ?_
      refine jr_iconst jf_253_26 jc_i_0 ?_
      refine jr_istore jf_253_27 jml_253 (by decide) ?_
      exact r_R_backs_29 hd ih _ _ _ _ _ _ _ _ _ _ (jg1_ne rfl (jg1_ne rfl hl0)) (jg1_ne rfl (jg1_ne rfl hl1)) (jg1_ne rfl (jg1_ne rfl hl2)) (jg1_ne rfl (jg1_pre rfl hl3)) (jg1_pre rfl jg1_same) jg1_same h
set_option maxRecDepth 10000 in
set_option maxHeartbeats 4000000 in
theorem r_R_backs_e {N B : Nat} {SA : Nat → Nat} {d : Nat} (hd : 0 ≤ d) : ∀ (L : JLoc) (v0 : Nat) (v1 : Int32) (v2 : Int32) (μ : JMem) (μ9 : JMem), jget L 0 = .ref v0 → jget L 1 = .int v1 → jget L 2 = .int v2 → g_R_backs N B v0 v1 v2 μ = some μ9 → jR B SA d m_R_backs 0 L [] μ none μ9 := by
  intro L v0 v1 v2 μ μ9 hl0 hl1 hl2 h
  unfold g_R_backs at h
  refine jr_iconst jf_253_0 jc_i_3 ?_
  refine jr_iload_n jf_253_1 rfl hl2 ?_
  refine jr_imul jf_253_2 ?_
  refine jr_istore_n jf_253_3 rfl jml_253 (by decide) ?_
  exact r_R_backs_4 hd _ _ _ _ _ _ _ _ (jg1_ne rfl hl0) (jg1_ne rfl hl1) (jg1_pre rfl hl2) jg1_same h
set_option maxRecDepth 10000 in
set_option maxHeartbeats 4000000 in
theorem r_R_backs {N B : Nat} {SA : Nat → Nat} {d : Nat} (hd : 0 ≤ d) : ∀ (v0 : Nat) (v1 : Int32) (v2 : Int32) (μ : JMem) (μ9 : JMem), g_R_backs N B v0 v1 v2 μ = some μ9 → jR B SA d m_R_backs 0 (lv_args 0 [.ref v0, .int v1, .int v2]) [] μ none μ9 := by
  intro v0 v1 v2 μ μ9 h
  exact r_R_backs_e hd (lv_args 0 _) _ _ _ _ _ (by simp [lv_args, jget, rv_cat, cat_int, cat_long, cat_double, cat_float, cat_ref]) (by simp [lv_args, jget, rv_cat, cat_int, cat_long, cat_double, cat_float, cat_ref]) (by simp [lv_args, jget, rv_cat, cat_int, cat_long, cat_double, cat_float, cat_ref]) h
/-! FilterBenchModel.fits(II)Z -/
set_option maxRecDepth 10000 in
set_option maxHeartbeats 4000000 in
theorem r_R_fits_44 {N B : Nat} {SA : Nat → Nat} {d : Nat} (hd : 0 ≤ d) : ∀ (n : Nat), ∀ (L : JLoc) (v0 : Nat) (v1 : Int32) (v2 : Int32) (v3 : Int32) (μ : JMem) (r : Bool), jget L 0 = .ref v0 → jget L 1 = .int v1 → jget L 2 = .int v2 → jget L 3 = .int v3 → g_R_fits_44 N n v0 v1 v2 v3 μ.1 = some r → jR B SA d m_R_fits 44 L [] μ (some (.int (jb r))) μ := by
  intro n
  induction n with
  | zero =>
    intro L v0 v1 v2 v3 μ r hl0 hl1 hl2 hl3 h
    unfold g_R_fits_44 at h
    cases h
  | succ n ih =>
    intro L v0 v1 v2 v3 μ r hl0 hl1 hl2 hl3 h
    unfold g_R_fits_44 at h
    refine jr_iload_n jf_252_44 rfl hl3 ?_
    refine jr_aload_n jf_252_45 rfl hl0 ?_
    replace h := obd_of h; obtain ⟨x1, hx1, h⟩ := h
    refine jr_getA jf_252_46 hx1 ?_
    refine jr_iload_n jf_252_49 rfl hl2 ?_
    replace h := obd_of h; obtain ⟨a2, rfl, h⟩ := h
    replace h := obd_of h; obtain ⟨x3, hx3, h⟩ := h
    refine jr_iaload jf_252_50 hx3 ?_
    replace h := ite_or h; rcases h with ⟨hc, h⟩ | ⟨hc, h⟩
    · refine jr_if2_ge_t jf_252_51 hc ?_
      refine jr_iconst jf_252_97 jc_i_1 ?_
      obtain rfl := Option.some.inj h
      exact jr_retZ (x := true) jf_252_98 jmt_252
    · refine jr_if2_ge_f jf_252_51 hc ?_
      refine jr_aload_n jf_252_54 rfl hl0 ?_
      replace h := obd_of h; obtain ⟨x4, hx4, h⟩ := h
      refine jr_getA jf_252_55 hx4 ?_
      refine jr_bipush jf_252_58 jc_b_10 ?_
      refine jr_iload_n jf_252_60 rfl hl2 ?_
      refine jr_imul jf_252_61 ?_
      refine jr_iload_n jf_252_62 rfl hl3 ?_
      refine jr_iadd jf_252_63 ?_
      replace h := obd_of h; obtain ⟨a5, rfl, h⟩ := h
      replace h := obd_of h; obtain ⟨x6, hx6, h⟩ := h
      refine jr_iaload jf_252_64 hx6 ?_
      refine jr_istore jf_252_65 jml_252 (by decide) ?_
      refine jr_aload_n jf_252_67 rfl (jg1_ne rfl hl0) ?_
      replace h := obd_of h; obtain ⟨x7, hx7, h⟩ := h
      refine jr_getA jf_252_68 hx7 ?_
      refine jr_bipush jf_252_71 jc_b_60 ?_
      refine jr_iload_n jf_252_73 rfl (jg1_ne rfl hl1) ?_
      refine jr_imul jf_252_74 ?_
      refine jr_iload jf_252_75 jg1_same ?_
      refine jr_iadd jf_252_77 ?_
      replace h := obd_of h; obtain ⟨a8, rfl, h⟩ := h
      replace h := obd_of h; obtain ⟨x9, hx9, h⟩ := h
      refine jr_iaload jf_252_78 hx9 ?_
      refine jr_aload_n jf_252_79 rfl (jg1_ne rfl hl0) ?_
      replace h := obd_of h; obtain ⟨x10, hx10, h⟩ := h
      refine jr_getA jf_252_80 hx10 ?_
      refine jr_iload jf_252_83 jg1_same ?_
      replace h := obd_of h; obtain ⟨a11, rfl, h⟩ := h
      replace h := obd_of h; obtain ⟨x12, hx12, h⟩ := h
      refine jr_iaload jf_252_85 hx12 ?_
      replace h := ite_or h; rcases h with ⟨hc, h⟩ | ⟨hc, h⟩
      · refine jr_if2_eq_t jf_252_86 hc ?_
        refine jr_iinc jf_252_91 jc_i_1 jml_252 (by decide) (jg1_pre rfl hl3) ?_
        refine jr_goto jf_252_94 ?_
        exact ih _ _ _ _ _ _ _ (jg1_ne rfl (jg1_ne rfl hl0)) (jg1_ne rfl (jg1_ne rfl hl1)) (jg1_pre rfl (jg1_ne rfl hl2)) jg1_same h
      · refine jr_if2_eq_f jf_252_86 hc ?_
        refine jr_iconst jf_252_89 jc_i_0 ?_
        obtain rfl := Option.some.inj h
        exact jr_retZ (x := false) jf_252_90 jmt_252
set_option maxRecDepth 10000 in
set_option maxHeartbeats 4000000 in
theorem r_R_fits_e {N B : Nat} {SA : Nat → Nat} {d : Nat} (hd : 0 ≤ d) : ∀ (L : JLoc) (v0 : Nat) (v1 : Int32) (v2 : Int32) (μ : JMem) (r : Bool), jget L 0 = .ref v0 → jget L 1 = .int v1 → jget L 2 = .int v2 → g_R_fits N v0 v1 v2 μ.1 = some r → jR B SA d m_R_fits 0 L [] μ (some (.int (jb r))) μ := by
  intro L v0 v1 v2 μ r hl0 hl1 hl2 h
  unfold g_R_fits at h
  refine jr_aload_n jf_252_0 rfl hl0 ?_
  replace h := obd_of h; obtain ⟨x1, hx1, h⟩ := h
  refine jr_getA jf_252_1 hx1 ?_
  refine jr_bipush jf_252_4 jc_b_20 ?_
  refine jr_iload_n jf_252_6 rfl hl1 ?_
  refine jr_imul jf_252_7 ?_
  refine jr_iload_n jf_252_8 rfl hl2 ?_
  refine jr_iadd jf_252_9 ?_
  replace h := obd_of h; obtain ⟨a2, rfl, h⟩ := h
  replace h := obd_of h; obtain ⟨x3, hx3, h⟩ := h
  refine jr_iaload jf_252_10 hx3 ?_
  refine jr_aload_n jf_252_11 rfl hl0 ?_
  replace h := obd_of h; obtain ⟨x4, hx4, h⟩ := h
  refine jr_getA jf_252_12 hx4 ?_
  refine jr_iload_n jf_252_15 rfl hl2 ?_
  replace h := obd_of h; obtain ⟨a5, rfl, h⟩ := h
  replace h := obd_of h; obtain ⟨x6, hx6, h⟩ := h
  refine jr_iaload jf_252_16 hx6 ?_
  replace h := ite_or h; rcases h with ⟨hc, h⟩ | ⟨hc, h⟩
  · refine jr_if2_ne_f jf_252_17 hc ?_
    refine jr_aload_n jf_252_20 rfl hl0 ?_
    replace h := obd_of h; obtain ⟨x7, hx7, h⟩ := h
    refine jr_getA jf_252_21 hx7 ?_
    refine jr_bipush jf_252_24 jc_b_20 ?_
    refine jr_iload_n jf_252_26 rfl hl1 ?_
    refine jr_imul jf_252_27 ?_
    refine jr_iload_n jf_252_28 rfl hl2 ?_
    refine jr_iadd jf_252_29 ?_
    replace h := obd_of h; obtain ⟨a8, rfl, h⟩ := h
    replace h := obd_of h; obtain ⟨x9, hx9, h⟩ := h
    refine jr_iaload jf_252_30 hx9 ?_
    refine jr_aload_n jf_252_31 rfl hl0 ?_
    replace h := obd_of h; obtain ⟨x10, hx10, h⟩ := h
    refine jr_getA jf_252_32 hx10 ?_
    refine jr_iload_n jf_252_35 rfl hl2 ?_
    replace h := obd_of h; obtain ⟨a11, rfl, h⟩ := h
    replace h := obd_of h; obtain ⟨x12, hx12, h⟩ := h
    refine jr_iaload jf_252_36 hx12 ?_
    replace h := ite_or h; rcases h with ⟨hc, h⟩ | ⟨hc, h⟩
    · refine jr_if2_eq_t jf_252_37 hc ?_
      refine jr_iconst jf_252_42 jc_i_0 ?_
      refine jr_istore_n jf_252_43 rfl jml_252 (by decide) ?_
      exact r_R_fits_44 hd _ _ _ _ _ _ _ _ (jg1_ne rfl hl0) (jg1_ne rfl hl1) (jg1_pre rfl hl2) jg1_same h
    · refine jr_if2_eq_f jf_252_37 hc ?_
      refine jr_iconst jf_252_40 jc_i_0 ?_
      obtain rfl := Option.some.inj h
      exact jr_retZ (x := false) jf_252_41 jmt_252
  · refine jr_if2_ne_t jf_252_17 hc ?_
    refine jr_iconst jf_252_40 jc_i_0 ?_
    obtain rfl := Option.some.inj h
    exact jr_retZ (x := false) jf_252_41 jmt_252
set_option maxRecDepth 10000 in
set_option maxHeartbeats 4000000 in
theorem r_R_fits {N B : Nat} {SA : Nat → Nat} {d : Nat} (hd : 0 ≤ d) : ∀ (v0 : Nat) (v1 : Int32) (v2 : Int32) (μ : JMem) (r : Bool), g_R_fits N v0 v1 v2 μ.1 = some r → jR B SA d m_R_fits 0 (lv_args 0 [.ref v0, .int v1, .int v2]) [] μ (some (.int (jb r))) μ := by
  intro v0 v1 v2 μ r h
  exact r_R_fits_e hd (lv_args 0 _) _ _ _ _ _ (by simp [lv_args, jget, rv_cat, cat_int, cat_long, cat_double, cat_float, cat_ref]) (by simp [lv_args, jget, rv_cat, cat_int, cat_long, cat_double, cat_float, cat_ref]) (by simp [lv_args, jget, rv_cat, cat_int, cat_long, cat_double, cat_float, cat_ref]) h
/-! FilterBenchModel.isKept(I)Z -/
set_option maxRecDepth 10000 in
set_option maxHeartbeats 4000000 in
theorem r_R_isKept_28 {N B : Nat} {SA : Nat → Nat} {d : Nat} (hd : 1 ≤ d) : ∀ (n : Nat), ∀ (L : JLoc) (v0 : Nat) (v1 : Int32) (v2 : Int32) (μ : JMem) (r : Bool) (μ9 : JMem), jget L 0 = .ref v0 → jget L 1 = .int v1 → jget L 2 = .int v2 → g_R_isKept_28 N B n v0 v1 v2 μ = some (r, μ9) → jR B SA d m_R_isKept 28 L [] μ (some (.int (jb r))) μ9 := by
  intro n
  induction n with
  | zero =>
    intro L v0 v1 v2 μ r μ9 hl0 hl1 hl2 h
    unfold g_R_isKept_28 at h
    cases h
  | succ n ih =>
    intro L v0 v1 v2 μ r μ9 hl0 hl1 hl2 h
    unfold g_R_isKept_28 at h
    refine jr_iload_n jf_251_28 rfl hl2 ?_
    refine jr_aload_n jf_251_29 rfl hl0 ?_
    replace h := obd_of h; obtain ⟨x1, hx1, h⟩ := h
    refine jr_getI jf_251_30 hx1 ?_
    replace h := ite_or h; rcases h with ⟨hc, h⟩ | ⟨hc, h⟩
    · refine jr_if2_ge_t jf_251_33 hc ?_
      refine jr_iconst jf_251_58 jc_i_1 ?_
      obtain ⟨rfl, rfl⟩ := Prod.mk.inj (Option.some.inj h)
      exact jr_retZ (x := true) jf_251_59 jmt_251
    · refine jr_if2_ge_f jf_251_33 hc ?_
      refine jr_aload_n jf_251_36 rfl hl0 ?_
      refine jr_iload_n jf_251_37 rfl hl1 ?_
      refine jr_aload_n jf_251_38 rfl hl0 ?_
      replace h := obd_of h; obtain ⟨x2, hx2, h⟩ := h
      refine jr_getA jf_251_39 hx2 ?_
      refine jr_iload_n jf_251_42 rfl hl2 ?_
      replace h := obd_of h; obtain ⟨a3, rfl, h⟩ := h
      replace h := obd_of h; obtain ⟨x4, hx4, h⟩ := h
      refine jr_iaload jf_251_43 hx4 ?_
      replace h := jgd_of h; obtain ⟨hb5, h⟩ := h
      replace h := obd_of h; obtain ⟨x6, hx6, h⟩ := h
      refine jr_V6_2 jf_251_44 hb5 (by omega) (r_R_fits (by omega) _ _ _ _ _ hx6) (Nat.le_of_ble_eq_true rfl) jml_252 (Nat.le_of_ble_eq_true rfl) ?_
      replace h := ite_or h; rcases h with ⟨hc, h⟩ | ⟨hc, h⟩
      · refine jr_ifz_ne_t jf_251_47 hc ?_
        refine jr_iinc jf_251_52 jc_i_1 jml_251 (by decide) hl2 ?_
        refine jr_goto jf_251_55 ?_
        exact ih _ _ _ _ _ _ _ (jg1_ne rfl hl0) (jg1_pre rfl hl1) jg1_same h
      · refine jr_ifz_ne_f jf_251_47 hc ?_
        refine jr_iconst jf_251_50 jc_i_0 ?_
        obtain ⟨rfl, rfl⟩ := Prod.mk.inj (Option.some.inj h)
        exact jr_retZ (x := false) jf_251_51 jmt_251
set_option maxRecDepth 10000 in
set_option maxHeartbeats 4000000 in
theorem r_R_isKept_e {N B : Nat} {SA : Nat → Nat} {d : Nat} (hd : 1 ≤ d) : ∀ (L : JLoc) (v0 : Nat) (v1 : Int32) (μ : JMem) (r : Bool) (μ9 : JMem), jget L 0 = .ref v0 → jget L 1 = .int v1 → g_R_isKept N B v0 v1 μ = some (r, μ9) → jR B SA d m_R_isKept 0 L [] μ (some (.int (jb r))) μ9 := by
  intro L v0 v1 μ r μ9 hl0 hl1 h
  unfold g_R_isKept at h
  refine jr_iload_n jf_251_0 rfl hl1 ?_
  refine jr_iconst jf_251_1 jc_i_0 ?_
  refine jr_aload_n jf_251_2 rfl hl0 ?_
  replace h := obd_of h; obtain ⟨x1, hx1, h⟩ := h
  refine jr_getI jf_251_3 hx1 ?_
  refine jr_iconst jf_251_6 jc_i_1 ?_
  refine jr_isub jf_251_7 ?_
  refine jr_S3_3 jf_251_8 (by omega) (r_R_in (by omega) _ _ _ _ _ rfl) (Nat.le_of_ble_eq_true rfl) jml_189 (Nat.le_of_ble_eq_true rfl) ?_
  replace h := ite_or h; rcases h with ⟨hc, h⟩ | ⟨hc, h⟩
  · refine jr_ifz_ne_t jf_251_11 hc ?_
    refine jr_aload_n jf_251_16 rfl hl0 ?_
    refine jr_aload_n jf_251_17 rfl hl0 ?_
    replace h := obd_of h; obtain ⟨x2, hx2, h⟩ := h
    refine jr_getA jf_251_18 hx2 ?_
    refine jr_iload_n jf_251_21 rfl hl1 ?_
    replace h := obd_of h; obtain ⟨a3, rfl, h⟩ := h
    replace h := obd_of h; obtain ⟨x4, hx4, h⟩ := h
    refine jr_iaload jf_251_22 hx4 ?_
    replace h := jgd_of h; obtain ⟨hb5, h⟩ := h
    replace h := obd_of h; obtain ⟨μ6, hμ6, h⟩ := h
    refine jr_V6v_1 jf_251_23 hb5 (by omega) (r_R_trees (by omega) _ _ _ _ hμ6) (Nat.le_of_ble_eq_true rfl) jml_246 (Nat.le_of_ble_eq_true rfl) ?_
    refine jr_iconst jf_251_26 jc_i_0 ?_
    refine jr_istore_n jf_251_27 rfl jml_251 (by decide) ?_
    exact r_R_isKept_28 hd _ _ _ _ _ _ _ _ (jg1_ne rfl hl0) (jg1_pre rfl hl1) jg1_same h
  · refine jr_ifz_ne_f jf_251_11 hc ?_
    refine jr_iconst jf_251_14 jc_i_0 ?_
    obtain ⟨rfl, rfl⟩ := Prod.mk.inj (Option.some.inj h)
    exact jr_retZ (x := false) jf_251_15 jmt_251
set_option maxRecDepth 10000 in
set_option maxHeartbeats 4000000 in
theorem r_R_isKept {N B : Nat} {SA : Nat → Nat} {d : Nat} (hd : 1 ≤ d) : ∀ (v0 : Nat) (v1 : Int32) (μ : JMem) (r : Bool) (μ9 : JMem), g_R_isKept N B v0 v1 μ = some (r, μ9) → jR B SA d m_R_isKept 0 (lv_args 0 [.ref v0, .int v1]) [] μ (some (.int (jb r))) μ9 := by
  intro v0 v1 μ r μ9 h
  exact r_R_isKept_e hd (lv_args 0 _) _ _ _ _ _ (by simp [lv_args, jget, rv_cat, cat_int, cat_long, cat_double, cat_float, cat_ref]) (by simp [lv_args, jget, rv_cat, cat_int, cat_long, cat_double, cat_float, cat_ref]) h
/-! FilterBenchModel.back(I)Z -/
set_option maxRecDepth 10000 in
set_option maxHeartbeats 4000000 in
theorem r_R_back_12 {N B : Nat} {SA : Nat → Nat} {d : Nat} (hd : 2 ≤ d) : ∀ (n : Nat), ∀ (L : JLoc) (v0 : Nat) (v1 : Int32) (v2 : Int32) (μ : JMem) (r : Bool) (μ9 : JMem), jget L 0 = .ref v0 → jget L 1 = .int v1 → jget L 2 = .int v2 → g_R_back_12 N B n v0 v1 v2 μ = some (r, μ9) → jR B SA d m_R_back 12 L [] μ (some (.int (jb r))) μ9 := by
  intro n
  induction n with
  | zero =>
    intro L v0 v1 v2 μ r μ9 hl0 hl1 hl2 h
    unfold g_R_back_12 at h
    cases h
  | succ n ih =>
    intro L v0 v1 v2 μ r μ9 hl0 hl1 hl2 h
    unfold g_R_back_12 at h
    refine jr_iload_n jf_250_12 rfl hl2 ?_
    refine jr_aload_n jf_250_13 rfl hl0 ?_
    replace h := obd_of h; obtain ⟨x1, hx1, h⟩ := h
    refine jr_getI jf_250_14 hx1 ?_
    replace h := ite_or h; rcases h with ⟨hc, h⟩ | ⟨hc, h⟩
    · refine jr_if2_ge_t jf_250_17 hc ?_
      refine jr_iconst jf_250_37 jc_i_1 ?_
      obtain ⟨rfl, rfl⟩ := Prod.mk.inj (Option.some.inj h)
      exact jr_retZ (x := true) jf_250_38 jmt_250
    · refine jr_if2_ge_f jf_250_17 hc ?_
      refine jr_aload_n jf_250_20 rfl hl0 ?_
      refine jr_iload_n jf_250_21 rfl hl1 ?_
      refine jr_aload_n jf_250_22 rfl hl0 ?_
      replace h := obd_of h; obtain ⟨x2, hx2, h⟩ := h
      refine jr_getA jf_250_23 hx2 ?_
      refine jr_iload_n jf_250_26 rfl hl2 ?_
      replace h := obd_of h; obtain ⟨a3, rfl, h⟩ := h
      replace h := obd_of h; obtain ⟨x4, hx4, h⟩ := h
      refine jr_iaload jf_250_27 hx4 ?_
      replace h := jgd_of h; obtain ⟨hb5, h⟩ := h
      replace h := obd_of h; obtain ⟨μ6, hμ6, h⟩ := h
      refine jr_V6v_2 jf_250_28 hb5 (by omega) (r_R_backs (by omega) _ _ _ _ _ hμ6) (Nat.le_of_ble_eq_true rfl) jml_253 (Nat.le_of_ble_eq_true rfl) ?_
      refine jr_iinc jf_250_31 jc_i_1 jml_250 (by decide) hl2 ?_
      refine jr_goto jf_250_34 ?_
      exact ih _ _ _ _ _ _ _ (jg1_ne rfl hl0) (jg1_pre rfl hl1) jg1_same h
set_option maxRecDepth 10000 in
set_option maxHeartbeats 4000000 in
theorem r_R_back_e {N B : Nat} {SA : Nat → Nat} {d : Nat} (hd : 2 ≤ d) : ∀ (L : JLoc) (v0 : Nat) (v1 : Int32) (μ : JMem) (r : Bool) (μ9 : JMem), jget L 0 = .ref v0 → jget L 1 = .int v1 → g_R_back N B v0 v1 μ = some (r, μ9) → jR B SA d m_R_back 0 L [] μ (some (.int (jb r))) μ9 := by
  intro L v0 v1 μ r μ9 hl0 hl1 h
  unfold g_R_back at h
  refine jr_aload_n jf_250_0 rfl hl0 ?_
  refine jr_iload_n jf_250_1 rfl hl1 ?_
  replace h := jgd_of h; obtain ⟨hb1, h⟩ := h
  replace h := jbd2_of h; obtain ⟨x2, μ3, hx2, h⟩ := h
  refine jr_V6_1 jf_250_2 hb1 (by omega) (r_R_isKept (by omega) _ _ _ _ _ hx2) (Nat.le_of_ble_eq_true rfl) jml_251 (Nat.le_of_ble_eq_true rfl) ?_
  replace h := ite_or h; rcases h with ⟨hc, h⟩ | ⟨hc, h⟩
  · refine jr_ifz_ne_t jf_250_5 hc ?_
    refine jr_iconst jf_250_10 jc_i_0 ?_
    refine jr_istore_n jf_250_11 rfl jml_250 (by decide) ?_
    exact r_R_back_12 hd _ _ _ _ _ _ _ _ (jg1_ne rfl hl0) (jg1_pre rfl hl1) jg1_same h
  · refine jr_ifz_ne_f jf_250_5 hc ?_
    refine jr_iconst jf_250_8 jc_i_0 ?_
    obtain ⟨rfl, rfl⟩ := Prod.mk.inj (Option.some.inj h)
    exact jr_retZ (x := false) jf_250_9 jmt_250
set_option maxRecDepth 10000 in
set_option maxHeartbeats 4000000 in
theorem r_R_back {N B : Nat} {SA : Nat → Nat} {d : Nat} (hd : 2 ≤ d) : ∀ (v0 : Nat) (v1 : Int32) (μ : JMem) (r : Bool) (μ9 : JMem), g_R_back N B v0 v1 μ = some (r, μ9) → jR B SA d m_R_back 0 (lv_args 0 [.ref v0, .int v1]) [] μ (some (.int (jb r))) μ9 := by
  intro v0 v1 μ r μ9 h
  exact r_R_back_e hd (lv_args 0 _) _ _ _ _ _ (by simp [lv_args, jget, rv_cat, cat_int, cat_long, cat_double, cat_float, cat_ref]) (by simp [lv_args, jget, rv_cat, cat_int, cat_long, cat_double, cat_float, cat_ref]) h
/-! FilterBenchModel.alike(II)Z -/
set_option maxRecDepth 10000 in
set_option maxHeartbeats 4000000 in
theorem r_R_alike_37 {N B : Nat} {SA : Nat → Nat} {d : Nat} (hd : 3 ≤ d) {k4 : Nat → Int32 → Int32 → Int32 → (Nat → Option JCell) → Option Bool} (i4 : ∀ (L : JLoc) (v0 : Nat) (v1 : Int32) (v2 : Int32) (v3 : Int32) (μ : JMem) (r : Bool), jget L 0 = .ref v0 → jget L 1 = .int v1 → jget L 2 = .int v2 → jget L 3 = .int v3 → k4 v0 v1 v2 v3 μ.1 = some r → jR B SA d m_R_alike 4 L [] μ (some (.int (jb r))) μ) : ∀ (n : Nat), ∀ (L : JLoc) (v0 : Nat) (v1 : Int32) (v2 : Int32) (v3 : Int32) (v4 : Int32) (v5 : Int32) (v6 : Int32) (μ : JMem) (r : Bool), jget L 0 = .ref v0 → jget L 1 = .int v1 → jget L 2 = .int v2 → jget L 3 = .int v3 → jget L 4 = .int v4 → jget L 5 = .int v5 → jget L 6 = .int v6 → g_R_alike_37 N k4 n v0 v1 v2 v3 v4 v5 v6 μ.1 = some r → jR B SA d m_R_alike 37 L [] μ (some (.int (jb r))) μ := by
  intro n
  induction n with
  | zero =>
    intro L v0 v1 v2 v3 v4 v5 v6 μ r hl0 hl1 hl2 hl3 hl4 hl5 hl6 h
    unfold g_R_alike_37 at h
    cases h
  | succ n ih =>
    intro L v0 v1 v2 v3 v4 v5 v6 μ r hl0 hl1 hl2 hl3 hl4 hl5 hl6 h
    unfold g_R_alike_37 at h
    refine jr_iload jf_255_37 hl6 ?_
    refine jr_iload jf_255_39 hl5 ?_
    replace h := ite_or h; rcases h with ⟨hc, h⟩ | ⟨hc, h⟩
    · refine jr_if2_ge_t jf_255_41 hc ?_
      refine jr_iinc jf_255_110 jc_i_1 jml_255 (by decide) hl3 ?_
      refine jr_goto jf_255_113 ?_
      exact i4 _ _ _ _ _ _ _ (jg1_ne rfl hl0) (jg1_ne rfl hl1) (jg1_pre rfl hl2) jg1_same h
    · refine jr_if2_ge_f jf_255_41 hc ?_
      refine jr_iconst jf_255_44 jc_i_0 ?_
      refine jr_aload_n jf_255_45 rfl hl0 ?_
      replace h := obd_of h; obtain ⟨x1, hx1, h⟩ := h
      refine jr_getA jf_255_46 hx1 ?_
      refine jr_bipush jf_255_49 jc_b_64 ?_
      refine jr_iload_n jf_255_51 rfl hl3 ?_
      refine jr_imul jf_255_52 ?_
      refine jr_aload_n jf_255_53 rfl hl0 ?_
      replace h := obd_of h; obtain ⟨x2, hx2, h⟩ := h
      refine jr_getA jf_255_54 hx2 ?_
      refine jr_iload_n jf_255_57 rfl hl3 ?_
      replace h := obd_of h; obtain ⟨a3, rfl, h⟩ := h
      replace h := obd_of h; obtain ⟨x4, hx4, h⟩ := h
      refine jr_iaload jf_255_58 hx4 ?_
      refine jr_iload jf_255_59 hl6 ?_
      refine jr_iadd jf_255_61 ?_
      refine jr_iload jf_255_62 hl5 ?_
      replace h := obd_of h; obtain ⟨x5, hx5, h⟩ := h
      refine jr_irem jf_255_64 hx5 ?_
      refine jr_iadd jf_255_65 ?_
      replace h := obd_of h; obtain ⟨a6, rfl, h⟩ := h
      replace h := obd_of h; obtain ⟨x7, hx7, h⟩ := h
      refine jr_daload jf_255_66 hx7 ?_
      replace h := obd_of h; obtain ⟨x8, hx8, h⟩ := h
      refine jr_S3_2 jf_255_67 (by omega) (r_R_bitsOf (by omega) _ _ _ _ hx8) (Nat.le_of_ble_eq_true rfl) jml_237 (Nat.le_of_ble_eq_true rfl) ?_
      refine jr_iconst jf_255_70 jc_i_0 ?_
      refine jr_aload_n jf_255_71 rfl hl0 ?_
      replace h := obd_of h; obtain ⟨x9, hx9, h⟩ := h
      refine jr_getA jf_255_72 hx9 ?_
      refine jr_bipush jf_255_75 jc_b_64 ?_
      refine jr_iload jf_255_77 hl4 ?_
      refine jr_imul jf_255_79 ?_
      refine jr_aload_n jf_255_80 rfl hl0 ?_
      replace h := obd_of h; obtain ⟨x10, hx10, h⟩ := h
      refine jr_getA jf_255_81 hx10 ?_
      refine jr_iload jf_255_84 hl4 ?_
      replace h := obd_of h; obtain ⟨a11, rfl, h⟩ := h
      replace h := obd_of h; obtain ⟨x12, hx12, h⟩ := h
      refine jr_iaload jf_255_86 hx12 ?_
      refine jr_iload jf_255_87 hl6 ?_
      refine jr_iadd jf_255_89 ?_
      refine jr_iload jf_255_90 hl5 ?_
      replace h := obd_of h; obtain ⟨x13, hx13, h⟩ := h
      refine jr_irem jf_255_92 hx13 ?_
      refine jr_iadd jf_255_93 ?_
      replace h := obd_of h; obtain ⟨a14, rfl, h⟩ := h
      replace h := obd_of h; obtain ⟨x15, hx15, h⟩ := h
      refine jr_daload jf_255_94 hx15 ?_
      replace h := obd_of h; obtain ⟨x16, hx16, h⟩ := h
      refine jr_S3_2 jf_255_95 (by omega) (r_R_bitsOf (by omega) _ _ _ _ hx16) (Nat.le_of_ble_eq_true rfl) jml_237 (Nat.le_of_ble_eq_true rfl) ?_
      refine jr_lcmp jf_255_98 ?_
      replace h := ite_or h; rcases h with ⟨hc, h⟩ | ⟨hc, h⟩
      · refine jr_ifl_eq_t jf_255_99 hc ?_
        refine jr_iinc jf_255_104 jc_i_1 jml_255 (by decide) hl6 ?_
        refine jr_goto jf_255_107 ?_
        exact ih _ _ _ _ _ _ _ _ _ _ (jg1_ne rfl hl0) (jg1_ne rfl hl1) (jg1_ne rfl hl2) (jg1_ne rfl hl3) (jg1_ne rfl hl4) (jg1_pre rfl hl5) jg1_same h
      · refine jr_ifl_eq_f jf_255_99 hc ?_
        refine jr_iconst jf_255_102 jc_i_0 ?_
        obtain rfl := Option.some.inj h
        exact jr_retZ (x := false) jf_255_103 jmt_255
set_option maxRecDepth 10000 in
set_option maxHeartbeats 4000000 in
theorem r_R_alike_277 {N B : Nat} {SA : Nat → Nat} {d : Nat} (hd : 3 ≤ d) {k118 : Nat → Int32 → Int32 → Int32 → (Nat → Option JCell) → Option Bool} (i118 : ∀ (L : JLoc) (v0 : Nat) (v1 : Int32) (v2 : Int32) (v3 : Int32) (μ : JMem) (r : Bool), jget L 0 = .ref v0 → jget L 1 = .int v1 → jget L 2 = .int v2 → jget L 3 = .int v3 → k118 v0 v1 v2 v3 μ.1 = some r → jR B SA d m_R_alike 118 L [] μ (some (.int (jb r))) μ) {k207 : Nat → Int32 → Int32 → Int32 → Int32 → Int32 → Bool → Int32 → Int32 → (Nat → Option JCell) → Option Bool} (i207 : ∀ (L : JLoc) (v0 : Nat) (v1 : Int32) (v2 : Int32) (v3 : Int32) (v4 : Int32) (v5 : Int32) (v6 : Bool) (v7 : Int32) (v8 : Int32) (μ : JMem) (r : Bool), jget L 0 = .ref v0 → jget L 1 = .int v1 → jget L 2 = .int v2 → jget L 3 = .int v3 → jget L 4 = .int v4 → jget L 5 = .int v5 → jget L 6 = .int (jb v6) → jget L 7 = .int v7 → jget L 8 = .int v8 → k207 v0 v1 v2 v3 v4 v5 v6 v7 v8 μ.1 = some r → jR B SA d m_R_alike 207 L [] μ (some (.int (jb r))) μ) : ∀ (L : JLoc) (v0 : Nat) (v1 : Int32) (v2 : Int32) (v3 : Int32) (v4 : Int32) (v5 : Int32) (v6 : Bool) (v7 : Int32) (v8 : Int32) (v9 : UInt64) (s0 : Int32) (s1 : Int32) (s2 : Option Nat) (μ : JMem) (r : Bool), jget L 0 = .ref v0 → jget L 1 = .int v1 → jget L 2 = .int v2 → jget L 3 = .int v3 → jget L 4 = .int v4 → jget L 5 = .int v5 → jget L 6 = .int (jb v6) → jget L 7 = .int v7 → jget L 8 = .int v8 → jget L 9 = .double v9 → g_R_alike_277 N k118 k207 v0 v1 v2 v3 v4 v5 v6 v7 v8 v9 s0 s1 s2 μ.1 = some r → jR B SA d m_R_alike 277 L [.int s0, .int s1, rv s2] μ (some (.int (jb r))) μ := by
  intro L v0 v1 v2 v3 v4 v5 v6 v7 v8 v9 s0 s1 s2 μ r hl0 hl1 hl2 hl3 hl4 hl5 hl6 hl7 hl8 hl9 h
  unfold g_R_alike_277 at h
  refine jr_iadd jf_255_277 ?_
  replace h := obd_of h; obtain ⟨a1, rfl, h⟩ := h
  replace h := obd_of h; obtain ⟨x2, hx2, h⟩ := h
  refine jr_daload jf_255_278 hx2 ?_
  refine jr_dstore jf_255_279 jml_255 (by decide) ?_
  refine jr_iconst jf_255_281 jc_i_0 ?_
  refine jr_dload jf_255_282 (jg2_ne rfl hl9) ?_
  replace h := obd_of h; obtain ⟨x3, hx3, h⟩ := h
  refine jr_S3_2 jf_255_284 (by omega) (r_R_bitsOf (by omega) _ _ _ _ hx3) (Nat.le_of_ble_eq_true rfl) jml_237 (Nat.le_of_ble_eq_true rfl) ?_
  refine jr_iconst jf_255_287 jc_i_0 ?_
  refine jr_dload jf_255_288 jg2_same ?_
  replace h := obd_of h; obtain ⟨x4, hx4, h⟩ := h
  refine jr_S3_2 jf_255_290 (by omega) (r_R_bitsOf (by omega) _ _ _ _ hx4) (Nat.le_of_ble_eq_true rfl) jml_237 (Nat.le_of_ble_eq_true rfl) ?_
  refine jr_lcmp jf_255_293 ?_
  replace h := ite_or h; rcases h with ⟨hc, h⟩ | ⟨hc, h⟩
  · refine jr_ifl_eq_t jf_255_294 hc ?_
    refine jr_iinc jf_255_299 jc_i_1 jml_255 (by decide) (jg2_ne rfl hl8) ?_
    refine jr_goto jf_255_302 ?_
    exact i207 _ _ _ _ _ _ _ _ _ _ _ _ (jg1_ne rfl (jg2_ne rfl hl0)) (jg1_ne rfl (jg2_ne rfl hl1)) (jg1_ne rfl (jg2_ne rfl hl2)) (jg1_ne rfl (jg2_ne rfl hl3)) (jg1_ne rfl (jg2_ne rfl hl4)) (jg1_ne rfl (jg2_ne rfl hl5)) (jg1_ne rfl (jg2_ne rfl hl6)) (jg1_pre rfl (jg2_ne rfl hl7)) jg1_same h
  · refine jr_ifl_eq_f jf_255_294 hc ?_
    refine jr_iconst jf_255_297 jc_i_0 ?_
    obtain rfl := Option.some.inj h
    exact jr_retZ (x := false) jf_255_298 jmt_255
set_option maxRecDepth 10000 in
set_option maxHeartbeats 4000000 in
theorem r_R_alike_240 {N B : Nat} {SA : Nat → Nat} {d : Nat} (hd : 3 ≤ d) {k118 : Nat → Int32 → Int32 → Int32 → (Nat → Option JCell) → Option Bool} (i118 : ∀ (L : JLoc) (v0 : Nat) (v1 : Int32) (v2 : Int32) (v3 : Int32) (μ : JMem) (r : Bool), jget L 0 = .ref v0 → jget L 1 = .int v1 → jget L 2 = .int v2 → jget L 3 = .int v3 → k118 v0 v1 v2 v3 μ.1 = some r → jR B SA d m_R_alike 118 L [] μ (some (.int (jb r))) μ) {k207 : Nat → Int32 → Int32 → Int32 → Int32 → Int32 → Bool → Int32 → Int32 → (Nat → Option JCell) → Option Bool} (i207 : ∀ (L : JLoc) (v0 : Nat) (v1 : Int32) (v2 : Int32) (v3 : Int32) (v4 : Int32) (v5 : Int32) (v6 : Bool) (v7 : Int32) (v8 : Int32) (μ : JMem) (r : Bool), jget L 0 = .ref v0 → jget L 1 = .int v1 → jget L 2 = .int v2 → jget L 3 = .int v3 → jget L 4 = .int v4 → jget L 5 = .int v5 → jget L 6 = .int (jb v6) → jget L 7 = .int v7 → jget L 8 = .int v8 → k207 v0 v1 v2 v3 v4 v5 v6 v7 v8 μ.1 = some r → jR B SA d m_R_alike 207 L [] μ (some (.int (jb r))) μ) : ∀ (L : JLoc) (v0 : Nat) (v1 : Int32) (v2 : Int32) (v3 : Int32) (v4 : Int32) (v5 : Int32) (v6 : Bool) (v7 : Int32) (v8 : Int32) (s0 : Int32) (s1 : Int32) (s2 : Nat) (μ : JMem) (r : Bool), jget L 0 = .ref v0 → jget L 1 = .int v1 → jget L 2 = .int v2 → jget L 3 = .int v3 → jget L 4 = .int v4 → jget L 5 = .int v5 → jget L 6 = .int (jb v6) → jget L 7 = .int v7 → jget L 8 = .int v8 → g_R_alike_240 N k118 k207 v0 v1 v2 v3 v4 v5 v6 v7 v8 s0 s1 s2 μ.1 = some r → jR B SA d m_R_alike 240 L [.int s0, .int s1, .ref s2] μ (some (.int (jb r))) μ := by
  intro L v0 v1 v2 v3 v4 v5 v6 v7 v8 s0 s1 s2 μ r hl0 hl1 hl2 hl3 hl4 hl5 hl6 hl7 hl8 h
  unfold g_R_alike_240 at h
  replace h := jgd_of h; obtain ⟨hb1, h⟩ := h
  replace h := obd_of h; obtain ⟨x2, hx2, h⟩ := h
  refine jr_V6_2 jf_255_240 hb1 (by omega) (r_R_st (by omega) _ _ _ _ _ hx2) (Nat.le_of_ble_eq_true rfl) jml_227 (Nat.le_of_ble_eq_true rfl) ?_
  refine jr_dstore jf_255_243 jml_255 (by decide) ?_
  refine jr_aload_n jf_255_245 rfl (jg2_ne rfl hl0) ?_
  replace h := obd_of h; obtain ⟨x3, hx3, h⟩ := h
  refine jr_getA jf_255_246 hx3 ?_
  refine jr_bipush jf_255_249 jc_b_64 ?_
  refine jr_iload jf_255_251 (jg2_ne rfl hl5) ?_
  refine jr_imul jf_255_253 ?_
  refine jr_iload jf_255_254 (jg2_ne rfl hl6) ?_
  replace h := ite_or h; rcases h with ⟨hc, h⟩ | ⟨hc, h⟩
  · refine jr_ifz_eq_f jf_255_256 hc ?_
    refine jr_aload_n jf_255_259 rfl (jg2_ne rfl hl0) ?_
    replace h := obd_of h; obtain ⟨x4, hx4, h⟩ := h
    refine jr_getA jf_255_260 hx4 ?_
    refine jr_iload jf_255_263 (jg2_ne rfl hl5) ?_
    replace h := obd_of h; obtain ⟨a5, rfl, h⟩ := h
    replace h := obd_of h; obtain ⟨x6, hx6, h⟩ := h
    refine jr_iaload jf_255_265 hx6 ?_
    refine jr_iload jf_255_266 (jg2_pre rfl hl8) ?_
    refine jr_iadd jf_255_268 ?_
    refine jr_iload jf_255_269 (jg2_ne rfl hl7) ?_
    replace h := obd_of h; obtain ⟨x7, hx7, h⟩ := h
    refine jr_irem jf_255_271 hx7 ?_
    refine jr_goto jf_255_272 ?_
    exact r_R_alike_277 hd i118 i207 _ _ _ _ _ _ _ _ _ _ _ _ _ _ _ _ (jg2_ne rfl hl0) (jg2_ne rfl hl1) (jg2_ne rfl hl2) (jg2_ne rfl hl3) (jg2_ne rfl hl4) (jg2_ne rfl hl5) (jg2_ne rfl hl6) (jg2_ne rfl hl7) (jg2_pre rfl hl8) jg2_same h
  · refine jr_ifz_eq_t jf_255_256 hc ?_
    refine jr_iload jf_255_275 (jg2_pre rfl hl8) ?_
    exact r_R_alike_277 hd i118 i207 _ _ _ _ _ _ _ _ _ _ _ _ _ _ _ _ (jg2_ne rfl hl0) (jg2_ne rfl hl1) (jg2_ne rfl hl2) (jg2_ne rfl hl3) (jg2_ne rfl hl4) (jg2_ne rfl hl5) (jg2_ne rfl hl6) (jg2_ne rfl hl7) (jg2_pre rfl hl8) jg2_same h
set_option maxRecDepth 10000 in
set_option maxHeartbeats 4000000 in
theorem r_R_alike_207 {N B : Nat} {SA : Nat → Nat} {d : Nat} (hd : 3 ≤ d) {k118 : Nat → Int32 → Int32 → Int32 → (Nat → Option JCell) → Option Bool} (i118 : ∀ (L : JLoc) (v0 : Nat) (v1 : Int32) (v2 : Int32) (v3 : Int32) (μ : JMem) (r : Bool), jget L 0 = .ref v0 → jget L 1 = .int v1 → jget L 2 = .int v2 → jget L 3 = .int v3 → k118 v0 v1 v2 v3 μ.1 = some r → jR B SA d m_R_alike 118 L [] μ (some (.int (jb r))) μ) : ∀ (n : Nat), ∀ (L : JLoc) (v0 : Nat) (v1 : Int32) (v2 : Int32) (v3 : Int32) (v4 : Int32) (v5 : Int32) (v6 : Bool) (v7 : Int32) (v8 : Int32) (μ : JMem) (r : Bool), jget L 0 = .ref v0 → jget L 1 = .int v1 → jget L 2 = .int v2 → jget L 3 = .int v3 → jget L 4 = .int v4 → jget L 5 = .int v5 → jget L 6 = .int (jb v6) → jget L 7 = .int v7 → jget L 8 = .int v8 → g_R_alike_207 N k118 n v0 v1 v2 v3 v4 v5 v6 v7 v8 μ.1 = some r → jR B SA d m_R_alike 207 L [] μ (some (.int (jb r))) μ := by
  intro n
  induction n with
  | zero =>
    intro L v0 v1 v2 v3 v4 v5 v6 v7 v8 μ r hl0 hl1 hl2 hl3 hl4 hl5 hl6 hl7 hl8 h
    unfold g_R_alike_207 at h
    cases h
  | succ n ih =>
    intro L v0 v1 v2 v3 v4 v5 v6 v7 v8 μ r hl0 hl1 hl2 hl3 hl4 hl5 hl6 hl7 hl8 h
    unfold g_R_alike_207 at h
    refine jr_iload jf_255_207 hl8 ?_
    refine jr_iload jf_255_209 hl7 ?_
    replace h := ite_or h; rcases h with ⟨hc, h⟩ | ⟨hc, h⟩
    · refine jr_if2_ge_t jf_255_211 hc ?_
      refine jr_iinc jf_255_305 jc_i_1 jml_255 (by decide) hl3 ?_
      refine jr_goto jf_255_308 ?_
      exact i118 _ _ _ _ _ _ _ (jg1_ne rfl hl0) (jg1_ne rfl hl1) (jg1_pre rfl hl2) jg1_same h
    · refine jr_if2_ge_f jf_255_211 hc ?_
      refine jr_aload_n jf_255_214 rfl hl0 ?_
      refine jr_iload jf_255_215 hl4 ?_
      refine jr_iload jf_255_217 hl6 ?_
      replace h := ite_or h; rcases h with ⟨hc, h⟩ | ⟨hc, h⟩
      · refine jr_ifz_eq_f jf_255_219 hc ?_
        refine jr_aload_n jf_255_222 rfl hl0 ?_
        replace h := obd_of h; obtain ⟨x1, hx1, h⟩ := h
        refine jr_getA jf_255_223 hx1 ?_
        refine jr_iload jf_255_226 hl4 ?_
        replace h := obd_of h; obtain ⟨a2, rfl, h⟩ := h
        replace h := obd_of h; obtain ⟨x3, hx3, h⟩ := h
        refine jr_iaload jf_255_228 hx3 ?_
        refine jr_iload jf_255_229 hl8 ?_
        refine jr_iadd jf_255_231 ?_
        refine jr_iload jf_255_232 hl7 ?_
        replace h := obd_of h; obtain ⟨x4, hx4, h⟩ := h
        refine jr_irem jf_255_234 hx4 ?_
        refine jr_goto jf_255_235 ?_
        exact r_R_alike_240 hd i118 ih _ _ _ _ _ _ _ _ _ _ _ _ _ _ _ hl0 hl1 hl2 hl3 hl4 hl5 hl6 hl7 hl8 h
      · refine jr_ifz_eq_t jf_255_219 hc ?_
        refine jr_iload jf_255_238 hl8 ?_
        exact r_R_alike_240 hd i118 ih _ _ _ _ _ _ _ _ _ _ _ _ _ _ _ hl0 hl1 hl2 hl3 hl4 hl5 hl6 hl7 hl8 h
set_option maxRecDepth 10000 in
set_option maxHeartbeats 4000000 in
theorem r_R_alike_202 {N B : Nat} {SA : Nat → Nat} {d : Nat} (hd : 3 ≤ d) {k118 : Nat → Int32 → Int32 → Int32 → (Nat → Option JCell) → Option Bool} (i118 : ∀ (L : JLoc) (v0 : Nat) (v1 : Int32) (v2 : Int32) (v3 : Int32) (μ : JMem) (r : Bool), jget L 0 = .ref v0 → jget L 1 = .int v1 → jget L 2 = .int v2 → jget L 3 = .int v3 → k118 v0 v1 v2 v3 μ.1 = some r → jR B SA d m_R_alike 118 L [] μ (some (.int (jb r))) μ) : ∀ (L : JLoc) (v0 : Nat) (v1 : Int32) (v2 : Int32) (v3 : Int32) (v4 : Int32) (v5 : Int32) (v6 : Bool) (s0 : Int32) (μ : JMem) (r : Bool), jget L 0 = .ref v0 → jget L 1 = .int v1 → jget L 2 = .int v2 → jget L 3 = .int v3 → jget L 4 = .int v4 → jget L 5 = .int v5 → jget L 6 = .int (jb v6) → g_R_alike_202 N k118 v0 v1 v2 v3 v4 v5 v6 s0 μ.1 = some r → jR B SA d m_R_alike 202 L [.int s0] μ (some (.int (jb r))) μ := by
  intro L v0 v1 v2 v3 v4 v5 v6 s0 μ r hl0 hl1 hl2 hl3 hl4 hl5 hl6 h
  unfold g_R_alike_202 at h
  refine jr_istore jf_255_202 jml_255 (by decide) ?_
  refine jr_iconst jf_255_204 jc_i_0 ?_
  refine jr_istore jf_255_205 jml_255 (by decide) ?_
  exact r_R_alike_207 hd i118 _ _ _ _ _ _ _ _ _ _ _ _ _ (jg1_ne rfl (jg1_ne rfl hl0)) (jg1_ne rfl (jg1_ne rfl hl1)) (jg1_ne rfl (jg1_ne rfl hl2)) (jg1_ne rfl (jg1_ne rfl hl3)) (jg1_ne rfl (jg1_ne rfl hl4)) (jg1_ne rfl (jg1_ne rfl hl5)) (jg1_ne rfl (jg1_pre rfl hl6)) (jg1_pre rfl jg1_same) jg1_same h
set_option maxRecDepth 10000 in
set_option maxHeartbeats 4000000 in
theorem r_R_alike_118 {N B : Nat} {SA : Nat → Nat} {d : Nat} (hd : 3 ≤ d) : ∀ (n : Nat), ∀ (L : JLoc) (v0 : Nat) (v1 : Int32) (v2 : Int32) (v3 : Int32) (μ : JMem) (r : Bool), jget L 0 = .ref v0 → jget L 1 = .int v1 → jget L 2 = .int v2 → jget L 3 = .int v3 → g_R_alike_118 N n v0 v1 v2 v3 μ.1 = some r → jR B SA d m_R_alike 118 L [] μ (some (.int (jb r))) μ := by
  intro n
  induction n with
  | zero =>
    intro L v0 v1 v2 v3 μ r hl0 hl1 hl2 hl3 h
    unfold g_R_alike_118 at h
    cases h
  | succ n ih =>
    intro L v0 v1 v2 v3 μ r hl0 hl1 hl2 hl3 h
    unfold g_R_alike_118 at h
    refine jr_iload_n jf_255_118 rfl hl3 ?_
    refine jr_aload_n jf_255_119 rfl hl0 ?_
    replace h := obd_of h; obtain ⟨x1, hx1, h⟩ := h
    refine jr_getA jf_255_120 hx1 ?_
    refine jr_iload_n jf_255_123 rfl hl2 ?_
    replace h := obd_of h; obtain ⟨a2, rfl, h⟩ := h
    replace h := obd_of h; obtain ⟨x3, hx3, h⟩ := h
    refine jr_iaload jf_255_124 hx3 ?_
    replace h := ite_or h; rcases h with ⟨hc, h⟩ | ⟨hc, h⟩
    · refine jr_if2_ge_t jf_255_125 hc ?_
      refine jr_iconst jf_255_311 jc_i_1 ?_
      obtain rfl := Option.some.inj h
      exact jr_retZ (x := true) jf_255_312 jmt_255
    · refine jr_if2_ge_f jf_255_125 hc ?_
      refine jr_aload_n jf_255_128 rfl hl0 ?_
      replace h := obd_of h; obtain ⟨x4, hx4, h⟩ := h
      refine jr_getA jf_255_129 hx4 ?_
      refine jr_bipush jf_255_132 jc_b_10 ?_
      refine jr_iload_n jf_255_134 rfl hl2 ?_
      refine jr_imul jf_255_135 ?_
      refine jr_iload_n jf_255_136 rfl hl3 ?_
      refine jr_iadd jf_255_137 ?_
      replace h := obd_of h; obtain ⟨a5, rfl, h⟩ := h
      replace h := obd_of h; obtain ⟨x6, hx6, h⟩ := h
      refine jr_iaload jf_255_138 hx6 ?_
      refine jr_istore jf_255_139 jml_255 (by decide) ?_
      refine jr_bipush jf_255_141 jc_b_60 ?_
      refine jr_iload_n jf_255_143 rfl (jg1_ne rfl hl1) ?_
      refine jr_imul jf_255_144 ?_
      refine jr_iload jf_255_145 jg1_same ?_
      refine jr_iadd jf_255_147 ?_
      refine jr_istore jf_255_148 jml_255 (by decide) ?_
      refine jr_aload_n jf_255_150 rfl (jg1_ne rfl (jg1_ne rfl hl0)) ?_
      replace h := obd_of h; obtain ⟨x7, hx7, h⟩ := h
      refine jr_getA jf_255_151 hx7 ?_
      refine jr_iload jf_255_154 (jg1_pre rfl jg1_same) ?_
      replace h := obd_of h; obtain ⟨a8, rfl, h⟩ := h
      replace h := obd_of h; obtain ⟨x9, hx9, h⟩ := h
      refine jr_laload jf_255_156 hx9 ?_
      refine jr_aload_n jf_255_157 rfl (jg1_ne rfl (jg1_ne rfl hl0)) ?_
      replace h := obd_of h; obtain ⟨x10, hx10, h⟩ := h
      refine jr_getA jf_255_158 hx10 ?_
      refine jr_iload jf_255_161 jg1_same ?_
      replace h := obd_of h; obtain ⟨a11, rfl, h⟩ := h
      replace h := obd_of h; obtain ⟨x12, hx12, h⟩ := h
      refine jr_laload jf_255_163 hx12 ?_
      refine jr_lcmp jf_255_164 ?_
      replace h := ite_or h; rcases h with ⟨hc, h⟩ | ⟨hc, h⟩
      · refine jr_ifl_eq_t jf_255_165 hc ?_
        refine jr_aload_n jf_255_170 rfl (jg1_ne rfl (jg1_ne rfl hl0)) ?_
        replace h := obd_of h; obtain ⟨x13, hx13, h⟩ := h
        refine jr_getA jf_255_171 hx13 ?_
        refine jr_iload jf_255_174 (jg1_pre rfl jg1_same) ?_
        replace h := obd_of h; obtain ⟨a14, rfl, h⟩ := h
        replace h := obd_of h; obtain ⟨x15, hx15, h⟩ := h
        refine jr_iaload jf_255_176 hx15 ?_
        refine jr_bipush jf_255_177 jc_b_6 ?_
        refine jr_bipush jf_255_179 jc_b_8 ?_
        refine jr_S3_3 jf_255_181 (by omega) (r_R_in (by omega) _ _ _ _ _ rfl) (Nat.le_of_ble_eq_true rfl) jml_189 (Nat.le_of_ble_eq_true rfl) ?_
        refine jr_istore jf_255_184 jml_255 (by decide) ?_
        replace h := jlet_of h
        refine jr_iload jf_255_186 jg1_same ?_
        replace h := ite_or h; rcases h with ⟨hc, h⟩ | ⟨hc, h⟩
        · refine jr_ifz_eq_f jf_255_188 hc ?_
          refine jr_aload_n jf_255_191 rfl (jg1_ne rfl (jg1_ne rfl (jg1_ne rfl hl0))) ?_
          replace h := obd_of h; obtain ⟨x17, hx17, h⟩ := h
          refine jr_getA jf_255_192 hx17 ?_
          refine jr_iload jf_255_195 (jg1_ne rfl (jg1_pre rfl jg1_same)) ?_
          replace h := obd_of h; obtain ⟨a18, rfl, h⟩ := h
          replace h := obd_of h; obtain ⟨x19, hx19, h⟩ := h
          refine jr_iaload jf_255_197 hx19 ?_
          refine jr_goto jf_255_198 ?_
          exact r_R_alike_202 hd ih _ _ _ _ _ _ _ _ _ _ _ (jg1_ne rfl (jg1_ne rfl (jg1_ne rfl hl0))) (jg1_ne rfl (jg1_ne rfl (jg1_ne rfl hl1))) (jg1_ne rfl (jg1_ne rfl (jg1_ne rfl hl2))) (jg1_ne rfl (jg1_ne rfl (jg1_pre rfl hl3))) (jg1_ne rfl (jg1_pre rfl jg1_same)) (jg1_pre rfl jg1_same) jg1_same h
        · refine jr_ifz_eq_t jf_255_188 hc ?_
          refine jr_iconst jf_255_201 jc_i_4 ?_
          exact r_R_alike_202 hd ih _ _ _ _ _ _ _ _ _ _ _ (jg1_ne rfl (jg1_ne rfl (jg1_ne rfl hl0))) (jg1_ne rfl (jg1_ne rfl (jg1_ne rfl hl1))) (jg1_ne rfl (jg1_ne rfl (jg1_ne rfl hl2))) (jg1_ne rfl (jg1_ne rfl (jg1_pre rfl hl3))) (jg1_ne rfl (jg1_pre rfl jg1_same)) (jg1_pre rfl jg1_same) jg1_same h
      · refine jr_ifl_eq_f jf_255_165 hc ?_
        refine jr_iconst jf_255_168 jc_i_0 ?_
        obtain rfl := Option.some.inj h
        exact jr_retZ (x := false) jf_255_169 jmt_255
set_option maxRecDepth 10000 in
set_option maxHeartbeats 4000000 in
theorem r_R_alike_4 {N B : Nat} {SA : Nat → Nat} {d : Nat} (hd : 3 ≤ d) : ∀ (n : Nat), ∀ (L : JLoc) (v0 : Nat) (v1 : Int32) (v2 : Int32) (v3 : Int32) (μ : JMem) (r : Bool), jget L 0 = .ref v0 → jget L 1 = .int v1 → jget L 2 = .int v2 → jget L 3 = .int v3 → g_R_alike_4 N n v0 v1 v2 v3 μ.1 = some r → jR B SA d m_R_alike 4 L [] μ (some (.int (jb r))) μ := by
  intro n
  induction n with
  | zero =>
    intro L v0 v1 v2 v3 μ r hl0 hl1 hl2 hl3 h
    unfold g_R_alike_4 at h
    cases h
  | succ n ih =>
    intro L v0 v1 v2 v3 μ r hl0 hl1 hl2 hl3 h
    unfold g_R_alike_4 at h
    refine jr_iload_n jf_255_4 rfl hl3 ?_
    refine jr_iconst jf_255_5 jc_i_3 ?_
    refine jr_iload_n jf_255_6 rfl hl2 ?_
    refine jr_imul jf_255_7 ?_
    refine jr_aload_n jf_255_8 rfl hl0 ?_
    replace h := obd_of h; obtain ⟨x1, hx1, h⟩ := h
    refine jr_getA jf_255_9 hx1 ?_
    refine jr_iload_n jf_255_12 rfl hl2 ?_
    replace h := obd_of h; obtain ⟨a2, rfl, h⟩ := h
    replace h := obd_of h; obtain ⟨x3, hx3, h⟩ := h
    refine jr_iaload jf_255_13 hx3 ?_
    refine jr_iadd jf_255_14 ?_
    replace h := ite_or h; rcases h with ⟨hc, h⟩ | ⟨hc, h⟩
    · refine jr_if2_ge_t jf_255_15 hc ?_
      refine jr_iconst jf_255_116 jc_i_0 ?_
      refine jr_istore_n jf_255_117 rfl jml_255 (by decide) ?_
      exact r_R_alike_118 hd _ _ _ _ _ _ _ _ (jg1_ne rfl hl0) (jg1_ne rfl hl1) (jg1_pre rfl hl2) jg1_same h
    · refine jr_if2_ge_f jf_255_15 hc ?_
      refine jr_bipush jf_255_18 jc_b_60 ?_
      refine jr_iload_n jf_255_20 rfl hl1 ?_
      refine jr_imul jf_255_21 ?_
      refine jr_iload_n jf_255_22 rfl hl3 ?_
      refine jr_iadd jf_255_23 ?_
      refine jr_istore jf_255_24 jml_255 (by decide) ?_
      refine jr_aload_n jf_255_26 rfl (jg1_ne rfl hl0) ?_
      replace h := obd_of h; obtain ⟨x4, hx4, h⟩ := h
      refine jr_getA jf_255_27 hx4 ?_
      refine jr_iload_n jf_255_30 rfl (jg1_pre rfl hl3) ?_
      replace h := obd_of h; obtain ⟨a5, rfl, h⟩ := h
      replace h := obd_of h; obtain ⟨x6, hx6, h⟩ := h
      refine jr_iaload jf_255_31 hx6 ?_
      refine jr_istore jf_255_32 jml_255 (by decide) ?_
      refine jr_iconst jf_255_34 jc_i_0 ?_
      refine jr_istore jf_255_35 jml_255 (by decide) ?_
      exact r_R_alike_37 hd ih _ _ _ _ _ _ _ _ _ _ _ (jg1_ne rfl (jg1_ne rfl (jg1_ne rfl hl0))) (jg1_ne rfl (jg1_ne rfl (jg1_ne rfl hl1))) (jg1_ne rfl (jg1_ne rfl (jg1_ne rfl hl2))) (jg1_ne rfl (jg1_ne rfl (jg1_pre rfl hl3))) (jg1_ne rfl (jg1_pre rfl jg1_same)) (jg1_pre rfl jg1_same) jg1_same h
set_option maxRecDepth 10000 in
set_option maxHeartbeats 4000000 in
theorem r_R_alike_e {N B : Nat} {SA : Nat → Nat} {d : Nat} (hd : 3 ≤ d) : ∀ (L : JLoc) (v0 : Nat) (v1 : Int32) (v2 : Int32) (μ : JMem) (r : Bool), jget L 0 = .ref v0 → jget L 1 = .int v1 → jget L 2 = .int v2 → g_R_alike N v0 v1 v2 μ.1 = some r → jR B SA d m_R_alike 0 L [] μ (some (.int (jb r))) μ := by
  intro L v0 v1 v2 μ r hl0 hl1 hl2 h
  unfold g_R_alike at h
  refine jr_iconst jf_255_0 jc_i_3 ?_
  refine jr_iload_n jf_255_1 rfl hl2 ?_
  refine jr_imul jf_255_2 ?_
  refine jr_istore_n jf_255_3 rfl jml_255 (by decide) ?_
  exact r_R_alike_4 hd _ _ _ _ _ _ _ _ (jg1_ne rfl hl0) (jg1_ne rfl hl1) (jg1_pre rfl hl2) jg1_same h
set_option maxRecDepth 10000 in
set_option maxHeartbeats 4000000 in
theorem r_R_alike {N B : Nat} {SA : Nat → Nat} {d : Nat} (hd : 3 ≤ d) : ∀ (v0 : Nat) (v1 : Int32) (v2 : Int32) (μ : JMem) (r : Bool), g_R_alike N v0 v1 v2 μ.1 = some r → jR B SA d m_R_alike 0 (lv_args 0 [.ref v0, .int v1, .int v2]) [] μ (some (.int (jb r))) μ := by
  intro v0 v1 v2 μ r h
  exact r_R_alike_e hd (lv_args 0 _) _ _ _ _ _ (by simp [lv_args, jget, rv_cat, cat_int, cat_long, cat_double, cat_float, cat_ref]) (by simp [lv_args, jget, rv_cat, cat_int, cat_long, cat_double, cat_float, cat_ref]) (by simp [lv_args, jget, rv_cat, cat_int, cat_long, cat_double, cat_float, cat_ref]) h
/-! FilterBenchModel.same(I)Z -/
set_option maxRecDepth 10000 in
set_option maxHeartbeats 4000000 in
theorem r_R_same_12 {N B : Nat} {SA : Nat → Nat} {d : Nat} (hd : 4 ≤ d) : ∀ (n : Nat), ∀ (L : JLoc) (v0 : Nat) (v1 : Int32) (v2 : Int32) (μ : JMem) (r : Bool) (μ9 : JMem), jget L 0 = .ref v0 → jget L 1 = .int v1 → jget L 2 = .int v2 → g_R_same_12 N B n v0 v1 v2 μ = some (r, μ9) → jR B SA d m_R_same 12 L [] μ (some (.int (jb r))) μ9 := by
  intro n
  induction n with
  | zero =>
    intro L v0 v1 v2 μ r μ9 hl0 hl1 hl2 h
    unfold g_R_same_12 at h
    cases h
  | succ n ih =>
    intro L v0 v1 v2 μ r μ9 hl0 hl1 hl2 h
    unfold g_R_same_12 at h
    refine jr_iload_n jf_254_12 rfl hl2 ?_
    refine jr_aload_n jf_254_13 rfl hl0 ?_
    replace h := obd_of h; obtain ⟨x1, hx1, h⟩ := h
    refine jr_getI jf_254_14 hx1 ?_
    replace h := ite_or h; rcases h with ⟨hc, h⟩ | ⟨hc, h⟩
    · refine jr_if2_ge_t jf_254_17 hc ?_
      refine jr_iconst jf_254_42 jc_i_1 ?_
      obtain ⟨rfl, rfl⟩ := Prod.mk.inj (Option.some.inj h)
      exact jr_retZ (x := true) jf_254_43 jmt_254
    · refine jr_if2_ge_f jf_254_17 hc ?_
      refine jr_aload_n jf_254_20 rfl hl0 ?_
      refine jr_iload_n jf_254_21 rfl hl1 ?_
      refine jr_aload_n jf_254_22 rfl hl0 ?_
      replace h := obd_of h; obtain ⟨x2, hx2, h⟩ := h
      refine jr_getA jf_254_23 hx2 ?_
      refine jr_iload_n jf_254_26 rfl hl2 ?_
      replace h := obd_of h; obtain ⟨a3, rfl, h⟩ := h
      replace h := obd_of h; obtain ⟨x4, hx4, h⟩ := h
      refine jr_iaload jf_254_27 hx4 ?_
      replace h := jgd_of h; obtain ⟨hb5, h⟩ := h
      replace h := obd_of h; obtain ⟨x6, hx6, h⟩ := h
      refine jr_V6_2 jf_254_28 hb5 (by omega) (r_R_alike (by omega) _ _ _ _ _ hx6) (Nat.le_of_ble_eq_true rfl) jml_255 (Nat.le_of_ble_eq_true rfl) ?_
      replace h := ite_or h; rcases h with ⟨hc, h⟩ | ⟨hc, h⟩
      · refine jr_ifz_ne_t jf_254_31 hc ?_
        refine jr_iinc jf_254_36 jc_i_1 jml_254 (by decide) hl2 ?_
        refine jr_goto jf_254_39 ?_
        exact ih _ _ _ _ _ _ _ (jg1_ne rfl hl0) (jg1_pre rfl hl1) jg1_same h
      · refine jr_ifz_ne_f jf_254_31 hc ?_
        refine jr_iconst jf_254_34 jc_i_0 ?_
        obtain ⟨rfl, rfl⟩ := Prod.mk.inj (Option.some.inj h)
        exact jr_retZ (x := false) jf_254_35 jmt_254
set_option maxRecDepth 10000 in
set_option maxHeartbeats 4000000 in
theorem r_R_same_e {N B : Nat} {SA : Nat → Nat} {d : Nat} (hd : 4 ≤ d) : ∀ (L : JLoc) (v0 : Nat) (v1 : Int32) (μ : JMem) (r : Bool) (μ9 : JMem), jget L 0 = .ref v0 → jget L 1 = .int v1 → g_R_same N B v0 v1 μ = some (r, μ9) → jR B SA d m_R_same 0 L [] μ (some (.int (jb r))) μ9 := by
  intro L v0 v1 μ r μ9 hl0 hl1 h
  unfold g_R_same at h
  refine jr_aload_n jf_254_0 rfl hl0 ?_
  refine jr_iload_n jf_254_1 rfl hl1 ?_
  replace h := jgd_of h; obtain ⟨hb1, h⟩ := h
  replace h := jbd2_of h; obtain ⟨x2, μ3, hx2, h⟩ := h
  refine jr_V6_1 jf_254_2 hb1 (by omega) (r_R_isKept (by omega) _ _ _ _ _ hx2) (Nat.le_of_ble_eq_true rfl) jml_251 (Nat.le_of_ble_eq_true rfl) ?_
  replace h := ite_or h; rcases h with ⟨hc, h⟩ | ⟨hc, h⟩
  · refine jr_ifz_ne_t jf_254_5 hc ?_
    refine jr_iconst jf_254_10 jc_i_0 ?_
    refine jr_istore_n jf_254_11 rfl jml_254 (by decide) ?_
    exact r_R_same_12 hd _ _ _ _ _ _ _ _ (jg1_ne rfl hl0) (jg1_pre rfl hl1) jg1_same h
  · refine jr_ifz_ne_f jf_254_5 hc ?_
    refine jr_iconst jf_254_8 jc_i_0 ?_
    obtain ⟨rfl, rfl⟩ := Prod.mk.inj (Option.some.inj h)
    exact jr_retZ (x := false) jf_254_9 jmt_254
set_option maxRecDepth 10000 in
set_option maxHeartbeats 4000000 in
theorem r_R_same {N B : Nat} {SA : Nat → Nat} {d : Nat} (hd : 4 ≤ d) : ∀ (v0 : Nat) (v1 : Int32) (μ : JMem) (r : Bool) (μ9 : JMem), g_R_same N B v0 v1 μ = some (r, μ9) → jR B SA d m_R_same 0 (lv_args 0 [.ref v0, .int v1]) [] μ (some (.int (jb r))) μ9 := by
  intro v0 v1 μ r μ9 h
  exact r_R_same_e hd (lv_args 0 _) _ _ _ _ _ (by simp [lv_args, jget, rv_cat, cat_int, cat_long, cat_double, cat_float, cat_ref]) (by simp [lv_args, jget, rv_cat, cat_int, cat_long, cat_double, cat_float, cat_ref]) h
/-! FilterBenchModel.against(DD)I -/
set_option maxRecDepth 10000 in
set_option maxHeartbeats 4000000 in
theorem r_R_against_e {B : Nat} {SA : Nat → Nat} {d : Nat} (hd : 0 ≤ d) : ∀ (L : JLoc) (v0 : UInt64) (v2 : UInt64) (μ : JMem) (r : Int32), jget L 0 = .double v0 → jget L 2 = .double v2 → g_R_against v0 v2 = some r → jR B SA d m_R_against 0 L [] μ (some (.int r)) μ := by
  intro L v0 v2 μ r hl0 hl2 h
  unfold g_R_against at h
  refine jr_dconst1 jf_258_0 ?_
  refine jr_dload_n jf_258_1 rfl hl2 ?_
  replace h := obd_of h; obtain ⟨x1, hx1, h⟩ := h
  refine jr_dadd jf_258_2 hx1 ?_
  refine jr_dstore jf_258_3 jml_258 (by decide) ?_
  refine jr_dload_n jf_258_5 rfl (jg2_ne rfl hl0) ?_
  refine jr_dload jf_258_6 jg2_same ?_
  refine jr_dcmp jf_258_8 ?_
  replace h := ite_or h; rcases h with ⟨hc, h⟩ | ⟨hc, h⟩
  · refine jr_if_eq_t jf_258_9 hc ?_
    refine jr_dload jf_258_25 jg2_same ?_
    refine jr_dconst1 jf_258_27 ?_
    replace h := obd_of h; obtain ⟨x2, hx2, h⟩ := h
    refine jr_dsub jf_258_28 hx2 ?_
    refine jr_dstore jf_258_29 jml_258 (by decide) ?_
    refine jr_dconst1 jf_258_31 ?_
    refine jr_dload jf_258_32 (jg2_ne rfl jg2_same) ?_
    refine jr_dload jf_258_34 jg2_same ?_
    replace h := obd_of h; obtain ⟨x3, hx3, h⟩ := h
    refine jr_dsub jf_258_36 hx3 ?_
    replace h := obd_of h; obtain ⟨x4, hx4, h⟩ := h
    refine jr_dsub jf_258_37 hx4 ?_
    refine jr_dload_n jf_258_38 rfl (jg2_ne rfl (jg2_ne rfl hl2)) ?_
    refine jr_dload jf_258_39 jg2_same ?_
    replace h := obd_of h; obtain ⟨x5, hx5, h⟩ := h
    refine jr_dsub jf_258_41 hx5 ?_
    replace h := obd_of h; obtain ⟨x6, hx6, h⟩ := h
    refine jr_dadd jf_258_42 hx6 ?_
    refine jr_dstore jf_258_43 jml_258 (by decide) ?_
    refine jr_dload jf_258_45 jg2_same ?_
    refine jr_dconst0 jf_258_47 ?_
    refine jr_dcmp jf_258_48 ?_
    replace h := ite_or h; rcases h with ⟨hc, h⟩ | ⟨hc, h⟩
    · refine jr_if_le_t jf_258_49 hc ?_
      refine jr_dload jf_258_56 jg2_same ?_
      refine jr_dconst0 jf_258_58 ?_
      refine jr_dcmp jf_258_59 ?_
      replace h := ite_or h; rcases h with ⟨hc, h⟩ | ⟨hc, h⟩
      · refine jr_if_ge_t jf_258_60 hc ?_
        refine jr_iconst jf_258_67 jc_i_0 ?_
        obtain rfl := Option.some.inj h
        exact jr_retI jf_258_68 jmt_258
      · refine jr_if_ge_f jf_258_60 hc ?_
        refine jr_iconst jf_258_63 jc_i_1 ?_
        refine jr_goto jf_258_64 ?_
        obtain rfl := Option.some.inj h
        exact jr_retI jf_258_68 jmt_258
    · refine jr_if_le_f jf_258_49 hc ?_
      refine jr_iconst jf_258_52 jc_i_m1 ?_
      refine jr_goto jf_258_53 ?_
      obtain rfl := Option.some.inj h
      exact jr_retI jf_258_68 jmt_258
  · refine jr_if_eq_f jf_258_9 hc ?_
    refine jr_dload_n jf_258_12 rfl (jg2_ne rfl hl0) ?_
    refine jr_dload jf_258_13 jg2_same ?_
    refine jr_dcmp jf_258_15 ?_
    replace h := ite_or h; rcases h with ⟨hc, h⟩ | ⟨hc, h⟩
    · refine jr_if_ge_t jf_258_16 hc ?_
      refine jr_iconst jf_258_23 jc_i_1 ?_
      obtain rfl := Option.some.inj h
      exact jr_retI jf_258_24 jmt_258
    · refine jr_if_ge_f jf_258_16 hc ?_
      refine jr_iconst jf_258_19 jc_i_m1 ?_
      refine jr_goto jf_258_20 ?_
      obtain rfl := Option.some.inj h
      exact jr_retI jf_258_24 jmt_258
set_option maxRecDepth 10000 in
set_option maxHeartbeats 4000000 in
theorem r_R_against {B : Nat} {SA : Nat → Nat} {d : Nat} (hd : 0 ≤ d) : ∀ (v0 : UInt64) (v2 : UInt64) (μ : JMem) (r : Int32), g_R_against v0 v2 = some r → jR B SA d m_R_against 0 (lv_args 0 [.double v0, .double v2]) [] μ (some (.int r)) μ := by
  intro v0 v2 μ r h
  exact r_R_against_e hd (lv_args 0 _) _ _ _ _ (by simp [lv_args, jget, rv_cat, cat_int, cat_long, cat_double, cat_float, cat_ref]) (by simp [lv_args, jget, rv_cat, cat_int, cat_long, cat_double, cat_float, cat_ref]) h
/-! FilterBenchModel.isFinite(D)Z -/
set_option maxRecDepth 10000 in
set_option maxHeartbeats 4000000 in
theorem r_R_isFinite_e {B : Nat} {SA : Nat → Nat} {d : Nat} (hd : 0 ≤ d) : ∀ (L : JLoc) (v0 : UInt64) (μ : JMem) (r : Bool), jget L 0 = .double v0 → g_R_isFinite v0 = r → jR B SA d m_R_isFinite 0 L [] μ (some (.int (jb r))) μ := by
  intro L v0 μ r hl0 h
  unfold g_R_isFinite at h
  refine jr_dload_n jf_257_0 rfl hl0 ?_
  refine jr_ldc2d jf_257_1 ?_
  refine jr_dcmp jf_257_4 ?_
  replace h := ite_or h; rcases h with ⟨hc, h⟩ | ⟨hc, h⟩
  · refine jr_if_le_t jf_257_5 hc ?_
    refine jr_iconst jf_257_20 jc_i_0 ?_
    subst h
    exact jr_retZ (x := false) jf_257_21 jmt_257
  · refine jr_if_le_f jf_257_5 hc ?_
    refine jr_dload_n jf_257_8 rfl hl0 ?_
    refine jr_ldc2d jf_257_9 ?_
    refine jr_dcmp jf_257_12 ?_
    replace h := ite_or h; rcases h with ⟨hc, h⟩ | ⟨hc, h⟩
    · refine jr_if_ge_t jf_257_13 hc ?_
      refine jr_iconst jf_257_20 jc_i_0 ?_
      subst h
      exact jr_retZ (x := false) jf_257_21 jmt_257
    · refine jr_if_ge_f jf_257_13 hc ?_
      refine jr_iconst jf_257_16 jc_i_1 ?_
      refine jr_goto jf_257_17 ?_
      subst h
      exact jr_retZ (x := true) jf_257_21 jmt_257
set_option maxRecDepth 10000 in
set_option maxHeartbeats 4000000 in
theorem r_R_isFinite {B : Nat} {SA : Nat → Nat} {d : Nat} (hd : 0 ≤ d) : ∀ (v0 : UInt64) (μ : JMem) (r : Bool), g_R_isFinite v0 = r → jR B SA d m_R_isFinite 0 (lv_args 0 [.double v0]) [] μ (some (.int (jb r))) μ := by
  intro v0 μ r h
  exact r_R_isFinite_e hd (lv_args 0 _) _ _ _ (by simp [lv_args, jget, rv_cat, cat_int, cat_long, cat_double, cat_float, cat_ref]) h
/-! FilterBenchModel.poles(I)I -/
set_option maxRecDepth 10000 in
set_option maxHeartbeats 4000000 in
theorem r_R_poles_112 {B : Nat} {SA : Nat → Nat} {d : Nat} (hd : 2 ≤ d) : ∀ (L : JLoc) (v0 : Nat) (v2 : UInt64) (v4 : UInt64) (s0 : UInt64) (μ : JMem) (r : Int32), jget L 0 = .ref v0 → jget L 2 = .double v2 → jget L 4 = .double v4 → g_R_poles_112 v0 v2 v4 s0 μ.1 = some r → jR B SA d m_R_poles 112 L [.double s0] μ (some (.int r)) μ := by
  intro L v0 v2 v4 s0 μ r hl0 hl2 hl4 h
  unfold g_R_poles_112 at h
  refine jr_dstore jf_256_112 jml_256 (by decide) ?_
  refine jr_dload jf_256_114 (jg2_ne rfl hl4) ?_
  refine jr_S3_1 jf_256_116 (by omega) (r_R_isFinite (by omega) _ _ _ rfl) (Nat.le_of_ble_eq_true rfl) jml_257 (Nat.le_of_ble_eq_true rfl) ?_
  replace h := ite_or h; rcases h with ⟨hc, h⟩ | ⟨hc, h⟩
  · refine jr_ifz_eq_f jf_256_119 hc ?_
    refine jr_dload jf_256_122 jg2_same ?_
    refine jr_S3_1 jf_256_124 (by omega) (r_R_isFinite (by omega) _ _ _ rfl) (Nat.le_of_ble_eq_true rfl) jml_257 (Nat.le_of_ble_eq_true rfl) ?_
    replace h := ite_or h; rcases h with ⟨hc, h⟩ | ⟨hc, h⟩
    · refine jr_ifz_ne_t jf_256_127 hc ?_
      refine jr_aload_n jf_256_132 rfl (jg2_ne rfl hl0) ?_
      refine jr_iconst jf_256_133 jc_i_0 ?_
      refine jr_dload jf_256_134 (jg2_ne rfl hl4) ?_
      replace h := jgd_of h; obtain ⟨hb1, h⟩ := h
      replace h := obd_of h; obtain ⟨x2, hx2, h⟩ := h
      refine jr_V6_2 jf_256_136 hb1 (by omega) (r_R_sizeOf (by omega) _ _ _ _ _ hx2) (Nat.le_of_ble_eq_true rfl) jml_233 (Nat.le_of_ble_eq_true rfl) ?_
      refine jr_dload_n jf_256_139 rfl (jg2_ne rfl hl2) ?_
      replace h := obd_of h; obtain ⟨x3, hx3, h⟩ := h
      refine jr_ddiv jf_256_140 hx3 ?_
      refine jr_dstore jf_256_141 jml_256 (by decide) ?_
      refine jr_dload jf_256_143 (jg2_ne rfl jg2_same) ?_
      refine jr_dload_n jf_256_145 rfl (jg2_ne rfl (jg2_ne rfl hl2)) ?_
      replace h := obd_of h; obtain ⟨x4, hx4, h⟩ := h
      refine jr_ddiv jf_256_146 hx4 ?_
      refine jr_dstore jf_256_147 jml_256 (by decide) ?_
      refine jr_dload jf_256_149 jg2_same ?_
      refine jr_dconst1 jf_256_151 ?_
      refine jr_dcmp jf_256_152 ?_
      replace h := ite_or h; rcases h with ⟨hc, h⟩ | ⟨hc, h⟩
      · refine jr_if_gt_t jf_256_153 hc ?_
        refine jr_iconst jf_256_165 jc_i_0 ?_
        obtain rfl := Option.some.inj h
        exact jr_retI jf_256_166 jmt_256
      · refine jr_if_gt_f jf_256_153 hc ?_
        refine jr_dload jf_256_156 jg2_same ?_
        refine jr_ldc2d jf_256_158 ?_
        refine jr_dcmp jf_256_161 ?_
        replace h := ite_or h; rcases h with ⟨hc, h⟩ | ⟨hc, h⟩
        · refine jr_if_ge_t jf_256_162 hc ?_
          refine jr_dload jf_256_167 (jg2_ne rfl jg2_same) ?_
          refine jr_dload jf_256_169 jg2_same ?_
          replace h := obd_of h; obtain ⟨x5, hx5, h⟩ := h
          refine jr_S3_2 jf_256_171 (by omega) (r_R_against (by omega) _ _ _ _ hx5) (Nat.le_of_ble_eq_true rfl) jml_258 (Nat.le_of_ble_eq_true rfl) ?_
          refine jr_istore jf_256_174 jml_256 (by decide) ?_
          refine jr_iload jf_256_176 jg1_same ?_
          replace h := ite_or h; rcases h with ⟨hc, h⟩ | ⟨hc, h⟩
          · refine jr_if_le_t jf_256_178 hc ?_
            refine jr_iload jf_256_183 jg1_same ?_
            replace h := ite_or h; rcases h with ⟨hc, h⟩ | ⟨hc, h⟩
            · refine jr_if_ge_t jf_256_185 hc ?_
              refine jr_iconst jf_256_208 jc_i_2 ?_
              obtain rfl := Option.some.inj h
              exact jr_retI jf_256_209 jmt_256
            · refine jr_if_ge_f jf_256_185 hc ?_
              refine jr_dload jf_256_188 (jg1_ne rfl jg2_same) ?_
              refine jr_dconst1 jf_256_190 ?_
              refine jr_dcmp jf_256_191 ?_
              replace h := ite_or h; rcases h with ⟨hc, h⟩ | ⟨hc, h⟩
              · refine jr_if_ge_t jf_256_192 hc ?_
                refine jr_iconst jf_256_208 jc_i_2 ?_
                obtain rfl := Option.some.inj h
                exact jr_retI jf_256_209 jmt_256
              · refine jr_if_ge_f jf_256_192 hc ?_
                refine jr_dload jf_256_195 (jg1_ne rfl jg2_same) ?_
                refine jr_ldc2d jf_256_197 ?_
                refine jr_dcmp jf_256_200 ?_
                replace h := ite_or h; rcases h with ⟨hc, h⟩ | ⟨hc, h⟩
                · refine jr_if_le_t jf_256_201 hc ?_
                  refine jr_iconst jf_256_208 jc_i_2 ?_
                  obtain rfl := Option.some.inj h
                  exact jr_retI jf_256_209 jmt_256
                · refine jr_if_le_f jf_256_201 hc ?_
                  refine jr_iconst jf_256_204 jc_i_1 ?_
                  refine jr_goto jf_256_205 ?_
                  obtain rfl := Option.some.inj h
                  exact jr_retI jf_256_209 jmt_256
          · refine jr_if_le_f jf_256_178 hc ?_
            refine jr_iconst jf_256_181 jc_i_0 ?_
            obtain rfl := Option.some.inj h
            exact jr_retI jf_256_182 jmt_256
        · refine jr_if_ge_f jf_256_162 hc ?_
          refine jr_iconst jf_256_165 jc_i_0 ?_
          obtain rfl := Option.some.inj h
          exact jr_retI jf_256_166 jmt_256
    · refine jr_ifz_ne_f jf_256_127 hc ?_
      refine jr_iconst jf_256_130 jc_i_0 ?_
      obtain rfl := Option.some.inj h
      exact jr_retI jf_256_131 jmt_256
  · refine jr_ifz_eq_t jf_256_119 hc ?_
    refine jr_iconst jf_256_130 jc_i_0 ?_
    obtain rfl := Option.some.inj h
    exact jr_retI jf_256_131 jmt_256
set_option maxRecDepth 10000 in
set_option maxHeartbeats 4000000 in
theorem r_R_poles_86 {B : Nat} {SA : Nat → Nat} {d : Nat} (hd : 2 ≤ d) : ∀ (L : JLoc) (v0 : Nat) (v1 : Int32) (v2 : UInt64) (s0 : UInt64) (μ : JMem) (r : Int32), jget L 0 = .ref v0 → jget L 1 = .int v1 → jget L 2 = .double v2 → g_R_poles_86 v0 v1 v2 s0 μ.1 = some r → jR B SA d m_R_poles 86 L [.double s0] μ (some (.int r)) μ := by
  intro L v0 v1 v2 s0 μ r hl0 hl1 hl2 h
  unfold g_R_poles_86 at h
  refine jr_dstore jf_256_86 jml_256 (by decide) ?_
  refine jr_aload_n jf_256_88 rfl (jg2_ne rfl hl0) ?_
  replace h := obd_of h; obtain ⟨x1, hx1, h⟩ := h
  refine jr_getA jf_256_89 hx1 ?_
  refine jr_iload_n jf_256_92 rfl (jg2_ne rfl hl1) ?_
  replace h := obd_of h; obtain ⟨a2, rfl, h⟩ := h
  replace h := obd_of h; obtain ⟨x3, hx3, h⟩ := h
  refine jr_iaload jf_256_93 hx3 ?_
  refine jr_iconst jf_256_94 jc_i_2 ?_
  refine jr_iconst jf_256_95 jc_i_4 ?_
  refine jr_S3_3 jf_256_96 (by omega) (r_R_in (by omega) _ _ _ _ _ rfl) (Nat.le_of_ble_eq_true rfl) jml_189 (Nat.le_of_ble_eq_true rfl) ?_
  replace h := ite_or h; rcases h with ⟨hc, h⟩ | ⟨hc, h⟩
  · refine jr_ifz_eq_f jf_256_99 hc ?_
    refine jr_aload_n jf_256_102 rfl (jg2_ne rfl hl0) ?_
    refine jr_iload_n jf_256_103 rfl (jg2_ne rfl hl1) ?_
    refine jr_iconst jf_256_104 jc_i_4 ?_
    replace h := jgd_of h; obtain ⟨hb4, h⟩ := h
    replace h := obd_of h; obtain ⟨x5, hx5, h⟩ := h
    refine jr_V6_2 jf_256_105 hb4 (by omega) (r_R_c (by omega) _ _ _ _ _ hx5) (Nat.le_of_ble_eq_true rfl) jml_218 (Nat.le_of_ble_eq_true rfl) ?_
    refine jr_goto jf_256_108 ?_
    exact r_R_poles_112 hd _ _ _ _ _ _ _ (jg2_ne rfl hl0) (jg2_ne rfl hl2) jg2_same h
  · refine jr_ifz_eq_t jf_256_99 hc ?_
    refine jr_dconst0 jf_256_111 ?_
    exact r_R_poles_112 hd _ _ _ _ _ _ _ (jg2_ne rfl hl0) (jg2_ne rfl hl2) jg2_same h
set_option maxRecDepth 10000 in
set_option maxHeartbeats 4000000 in
theorem r_R_poles_41 {B : Nat} {SA : Nat → Nat} {d : Nat} (hd : 2 ≤ d) : ∀ (L : JLoc) (v0 : Nat) (v1 : Int32) (s0 : UInt64) (μ : JMem) (r : Int32), jget L 0 = .ref v0 → jget L 1 = .int v1 → g_R_poles_41 v0 v1 s0 μ.1 = some r → jR B SA d m_R_poles 41 L [.double s0] μ (some (.int r)) μ := by
  intro L v0 v1 s0 μ r hl0 hl1 h
  unfold g_R_poles_41 at h
  refine jr_dstore_n jf_256_41 rfl jml_256 (by decide) ?_
  refine jr_aload_n jf_256_42 rfl (jg2_ne rfl hl0) ?_
  replace h := obd_of h; obtain ⟨x1, hx1, h⟩ := h
  refine jr_getA jf_256_43 hx1 ?_
  refine jr_iload_n jf_256_46 rfl (jg2_pre rfl hl1) ?_
  replace h := obd_of h; obtain ⟨a2, rfl, h⟩ := h
  replace h := obd_of h; obtain ⟨x3, hx3, h⟩ := h
  refine jr_iaload jf_256_47 hx3 ?_
  refine jr_iconst jf_256_48 jc_i_1 ?_
  replace h := ite_or h; rcases h with ⟨hc, h⟩ | ⟨hc, h⟩
  · refine jr_if2_ne_f jf_256_49 hc ?_
    refine jr_aload_n jf_256_52 rfl (jg2_ne rfl hl0) ?_
    refine jr_iload_n jf_256_53 rfl (jg2_pre rfl hl1) ?_
    refine jr_iconst jf_256_54 jc_i_1 ?_
    replace h := jgd_of h; obtain ⟨hb4, h⟩ := h
    replace h := obd_of h; obtain ⟨x5, hx5, h⟩ := h
    refine jr_V6_2 jf_256_55 hb4 (by omega) (r_R_c (by omega) _ _ _ _ _ hx5) (Nat.le_of_ble_eq_true rfl) jml_218 (Nat.le_of_ble_eq_true rfl) ?_
    refine jr_goto jf_256_58 ?_
    exact r_R_poles_86 hd _ _ _ _ _ _ _ (jg2_ne rfl hl0) (jg2_pre rfl hl1) jg2_same h
  · refine jr_if2_ne_t jf_256_49 hc ?_
    refine jr_aload_n jf_256_61 rfl (jg2_ne rfl hl0) ?_
    replace h := obd_of h; obtain ⟨x6, hx6, h⟩ := h
    refine jr_getA jf_256_62 hx6 ?_
    refine jr_iload_n jf_256_65 rfl (jg2_pre rfl hl1) ?_
    replace h := obd_of h; obtain ⟨a7, rfl, h⟩ := h
    replace h := obd_of h; obtain ⟨x8, hx8, h⟩ := h
    refine jr_iaload jf_256_66 hx8 ?_
    refine jr_iconst jf_256_67 jc_i_5 ?_
    replace h := ite_or h; rcases h with ⟨hc, h⟩ | ⟨hc, h⟩
    · refine jr_if2_ne_f jf_256_68 hc ?_
      refine jr_aload_n jf_256_71 rfl (jg2_ne rfl hl0) ?_
      refine jr_iload_n jf_256_72 rfl (jg2_pre rfl hl1) ?_
      refine jr_iconst jf_256_73 jc_i_0 ?_
      replace h := jgd_of h; obtain ⟨hb9, h⟩ := h
      replace h := obd_of h; obtain ⟨x10, hx10, h⟩ := h
      refine jr_V6_2 jf_256_74 hb9 (by omega) (r_R_c (by omega) _ _ _ _ _ hx10) (Nat.le_of_ble_eq_true rfl) jml_218 (Nat.le_of_ble_eq_true rfl) ?_
      refine jr_goto jf_256_77 ?_
      exact r_R_poles_86 hd _ _ _ _ _ _ _ (jg2_ne rfl hl0) (jg2_pre rfl hl1) jg2_same h
    · refine jr_if2_ne_t jf_256_68 hc ?_
      refine jr_aload_n jf_256_80 rfl (jg2_ne rfl hl0) ?_
      refine jr_iload_n jf_256_81 rfl (jg2_pre rfl hl1) ?_
      refine jr_iconst jf_256_82 jc_i_3 ?_
      replace h := jgd_of h; obtain ⟨hb11, h⟩ := h
      replace h := obd_of h; obtain ⟨x12, hx12, h⟩ := h
      refine jr_V6_2 jf_256_83 hb11 (by omega) (r_R_c (by omega) _ _ _ _ _ hx12) (Nat.le_of_ble_eq_true rfl) jml_218 (Nat.le_of_ble_eq_true rfl) ?_
      exact r_R_poles_86 hd _ _ _ _ _ _ _ (jg2_ne rfl hl0) (jg2_pre rfl hl1) jg2_same h
set_option maxRecDepth 10000 in
set_option maxHeartbeats 4000000 in
theorem r_R_poles_e {B : Nat} {SA : Nat → Nat} {d : Nat} (hd : 2 ≤ d) : ∀ (L : JLoc) (v0 : Nat) (v1 : Int32) (μ : JMem) (r : Int32), jget L 0 = .ref v0 → jget L 1 = .int v1 → g_R_poles v0 v1 μ.1 = some r → jR B SA d m_R_poles 0 L [] μ (some (.int r)) μ := by
  intro L v0 v1 μ r hl0 hl1 h
  unfold g_R_poles at h
  refine jr_aload_n jf_256_0 rfl hl0 ?_
  refine jr_iload_n jf_256_1 rfl hl1 ?_
  replace h := jgd_of h; obtain ⟨hb1, h⟩ := h
  replace h := obd_of h; obtain ⟨x2, hx2, h⟩ := h
  refine jr_V6_1 jf_256_2 hb1 (by omega) (r_R_isSection (by omega) _ _ _ _ hx2) (Nat.le_of_ble_eq_true rfl) jml_195 (Nat.le_of_ble_eq_true rfl) ?_
  replace h := ite_or h; rcases h with ⟨hc, h⟩ | ⟨hc, h⟩
  · refine jr_ifz_eq_f jf_256_5 hc ?_
    refine jr_aload_n jf_256_8 rfl hl0 ?_
    replace h := obd_of h; obtain ⟨x3, hx3, h⟩ := h
    refine jr_getA jf_256_9 hx3 ?_
    refine jr_iload_n jf_256_12 rfl hl1 ?_
    replace h := obd_of h; obtain ⟨a4, rfl, h⟩ := h
    replace h := obd_of h; obtain ⟨x5, hx5, h⟩ := h
    refine jr_iaload jf_256_13 hx5 ?_
    refine jr_iconst jf_256_14 jc_i_1 ?_
    refine jr_iconst jf_256_15 jc_i_5 ?_
    refine jr_S3_3 jf_256_16 (by omega) (r_R_in (by omega) _ _ _ _ _ rfl) (Nat.le_of_ble_eq_true rfl) jml_189 (Nat.le_of_ble_eq_true rfl) ?_
    replace h := ite_or h; rcases h with ⟨hc, h⟩ | ⟨hc, h⟩
    · refine jr_ifz_ne_t jf_256_19 hc ?_
      refine jr_aload_n jf_256_24 rfl hl0 ?_
      replace h := obd_of h; obtain ⟨x6, hx6, h⟩ := h
      refine jr_getA jf_256_25 hx6 ?_
      refine jr_iload_n jf_256_28 rfl hl1 ?_
      replace h := obd_of h; obtain ⟨a7, rfl, h⟩ := h
      replace h := obd_of h; obtain ⟨x8, hx8, h⟩ := h
      refine jr_iaload jf_256_29 hx8 ?_
      refine jr_iconst jf_256_30 jc_i_2 ?_
      replace h := ite_or h; rcases h with ⟨hc, h⟩ | ⟨hc, h⟩
      · refine jr_if2_ne_f jf_256_31 hc ?_
        refine jr_ldc2d jf_256_34 ?_
        refine jr_goto jf_256_37 ?_
        exact r_R_poles_41 hd _ _ _ _ _ _ hl0 hl1 h
      · refine jr_if2_ne_t jf_256_31 hc ?_
        refine jr_dconst1 jf_256_40 ?_
        exact r_R_poles_41 hd _ _ _ _ _ _ hl0 hl1 h
    · refine jr_ifz_ne_f jf_256_19 hc ?_
      refine jr_iconst jf_256_22 jc_i_m1 ?_
      obtain rfl := Option.some.inj h
      exact jr_retI jf_256_23 jmt_256
  · refine jr_ifz_eq_t jf_256_5 hc ?_
    refine jr_iconst jf_256_22 jc_i_m1 ?_
    obtain rfl := Option.some.inj h
    exact jr_retI jf_256_23 jmt_256
set_option maxRecDepth 10000 in
set_option maxHeartbeats 4000000 in
theorem r_R_poles {B : Nat} {SA : Nat → Nat} {d : Nat} (hd : 2 ≤ d) : ∀ (v0 : Nat) (v1 : Int32) (μ : JMem) (r : Int32), g_R_poles v0 v1 μ.1 = some r → jR B SA d m_R_poles 0 (lv_args 0 [.ref v0, .int v1]) [] μ (some (.int r)) μ := by
  intro v0 v1 μ r h
  exact r_R_poles_e hd (lv_args 0 _) _ _ _ _ (by simp [lv_args, jget, rv_cat, cat_int, cat_long, cat_double, cat_float, cat_ref]) (by simp [lv_args, jget, rv_cat, cat_int, cat_long, cat_double, cat_float, cat_ref]) h
/-! FilterBenchModel.finds(I)V -/
set_option maxRecDepth 10000 in
set_option maxHeartbeats 4000000 in
theorem r_R_finds_98 {N B : Nat} {SA : Nat → Nat} {d : Nat} (hd : 1 ≤ d) {k7 : Nat → Int32 → Int32 → JMem → Option JMem} (i7 : ∀ (L : JLoc) (v0 : Nat) (v1 : Int32) (v2 : Int32) (μ : JMem) (μ9 : JMem), jget L 0 = .ref v0 → jget L 1 = .int v1 → jget L 2 = .int v2 → k7 v0 v1 v2 μ = some μ9 → jR B SA d m_R_finds 7 L [] μ none μ9) : ∀ (L : JLoc) (v0 : Nat) (v1 : Int32) (v2 : Int32) (s0 : Int32) (s1 : Int32) (s2 : Option Nat) (μ : JMem) (μ9 : JMem), jget L 0 = .ref v0 → jget L 1 = .int v1 → jget L 2 = .int v2 → g_R_finds_98 N B k7 v0 v1 v2 s0 s1 s2 μ = some μ9 → jR B SA d m_R_finds 98 L [.int s0, .int s1, rv s2] μ none μ9 := by
  intro L v0 v1 v2 s0 s1 s2 μ μ9 hl0 hl1 hl2 h
  unfold g_R_finds_98 at h
  replace h := obd_of h; obtain ⟨a1, rfl, h⟩ := h
  replace h := obd_of h; obtain ⟨μ2, hμ2, h⟩ := h
  refine jr_iastore jf_261_98 hμ2 ?_
  refine jr_aload_n jf_261_99 rfl hl0 ?_
  replace h := obd_of h; obtain ⟨x3, hx3, h⟩ := h
  refine jr_getA jf_261_100 hx3 ?_
  refine jr_iload_n jf_261_103 rfl hl2 ?_
  refine jr_iconst jf_261_104 jc_i_0 ?_
  replace h := obd_of h; obtain ⟨a4, rfl, h⟩ := h
  replace h := obd_of h; obtain ⟨μ5, hμ5, h⟩ := h
  refine jr_iastore jf_261_105 hμ5 ?_
  refine jr_iinc jf_261_106 jc_i_1 jml_261 (by decide) hl2 ?_
  refine jr_goto jf_261_109 ?_
  exact i7 _ _ _ _ _ _ (jg1_ne rfl hl0) (jg1_pre rfl hl1) jg1_same h
set_option maxRecDepth 10000 in
set_option maxHeartbeats 4000000 in
theorem r_R_finds_56 {N B : Nat} {SA : Nat → Nat} {d : Nat} (hd : 1 ≤ d) {k7 : Nat → Int32 → Int32 → JMem → Option JMem} (i7 : ∀ (L : JLoc) (v0 : Nat) (v1 : Int32) (v2 : Int32) (μ : JMem) (μ9 : JMem), jget L 0 = .ref v0 → jget L 1 = .int v1 → jget L 2 = .int v2 → k7 v0 v1 v2 μ = some μ9 → jR B SA d m_R_finds 7 L [] μ none μ9) : ∀ (L : JLoc) (v0 : Nat) (v1 : Int32) (v2 : Int32) (s0 : Int64) (μ : JMem) (μ9 : JMem), jget L 0 = .ref v0 → jget L 1 = .int v1 → jget L 2 = .int v2 → g_R_finds_56 N B k7 v0 v1 v2 s0 μ = some μ9 → jR B SA d m_R_finds 56 L [.long s0] μ none μ9 := by
  intro L v0 v1 v2 s0 μ μ9 hl0 hl1 hl2 h
  unfold g_R_finds_56 at h
  refine jr_lstore jf_261_56 jml_261 (by decide) ?_
  refine jr_aload_n jf_261_58 rfl (jg2_ne rfl hl0) ?_
  replace h := obd_of h; obtain ⟨x1, hx1, h⟩ := h
  refine jr_getA jf_261_59 hx1 ?_
  refine jr_iload_n jf_261_62 rfl (jg2_ne rfl hl2) ?_
  refine jr_iconst jf_261_63 jc_i_2 ?_
  refine jr_lload jf_261_64 jg2_same ?_
  refine jr_S3_2 jf_261_66 (by omega) (r_R_isValue (by omega) _ _ _ _ rfl) (by simp only [jcats_cons, jcats_nil, cat_int, cat_long, cat_double, cat_float, cat_ref, rv_cat]; decide) jml_197 (Nat.le_of_ble_eq_true rfl) ?_
  replace h := ite_or h; rcases h with ⟨hc, h⟩ | ⟨hc, h⟩
  · refine jr_ifz_eq_f jf_261_69 hc ?_
    refine jr_lload jf_261_72 jg2_same ?_
    refine jr_l2i jf_261_74 ?_
    refine jr_ldc_w jf_261_75 ?_
    refine jr_iadd jf_261_78 ?_
    refine jr_goto jf_261_79 ?_
    exact r_R_finds_98 hd i7 _ _ _ _ _ _ _ _ _ (jg2_ne rfl hl0) (jg2_ne rfl hl1) (jg2_ne rfl hl2) h
  · refine jr_ifz_eq_t jf_261_69 hc ?_
    refine jr_lload jf_261_82 jg2_same ?_
    refine jr_aload_n jf_261_84 rfl (jg2_ne rfl hl0) ?_
    replace h := obd_of h; obtain ⟨x2, hx2, h⟩ := h
    refine jr_getA jf_261_85 hx2 ?_
    refine jr_iload_n jf_261_88 rfl (jg2_ne rfl hl1) ?_
    replace h := obd_of h; obtain ⟨a3, rfl, h⟩ := h
    replace h := obd_of h; obtain ⟨x4, hx4, h⟩ := h
    refine jr_iaload jf_261_89 hx4 ?_
    refine jr_S3_2 jf_261_90 (by omega) (r_R_cut (by omega) _ _ _ _ rfl) (by simp only [jcats_cons, jcats_nil, cat_int, cat_long, cat_double, cat_float, cat_ref, rv_cat]; decide) jml_224 (Nat.le_of_ble_eq_true rfl) ?_
    refine jr_d2i jf_261_93 ?_
    refine jr_ldc_w jf_261_94 ?_
    refine jr_iadd jf_261_97 ?_
    exact r_R_finds_98 hd i7 _ _ _ _ _ _ _ _ _ (jg2_ne rfl hl0) (jg2_ne rfl hl1) (jg2_ne rfl hl2) h
set_option maxRecDepth 10000 in
set_option maxHeartbeats 4000000 in
theorem r_R_finds_238 {N B : Nat} {SA : Nat → Nat} {d : Nat} (hd : 1 ≤ d) {k114 : Nat → Int32 → JMem → Option JMem} (i114 : ∀ (L : JLoc) (v0 : Nat) (v2 : Int32) (μ : JMem) (μ9 : JMem), jget L 0 = .ref v0 → jget L 2 = .int v2 → k114 v0 v2 μ = some μ9 → jR B SA d m_R_finds 114 L [] μ none μ9) {k194 : Nat → Int32 → Int32 → Int32 → Int32 → Int32 → Int32 → Bool → JMem → Option JMem} (i194 : ∀ (L : JLoc) (v0 : Nat) (v2 : Int32) (v3 : Int32) (v4 : Int32) (v5 : Int32) (v6 : Int32) (v7 : Int32) (v8 : Bool) (μ : JMem) (μ9 : JMem), jget L 0 = .ref v0 → jget L 2 = .int v2 → jget L 3 = .int v3 → jget L 4 = .int v4 → jget L 5 = .int v5 → jget L 6 = .int v6 → jget L 7 = .int v7 → jget L 8 = .int (jb v8) → k194 v0 v2 v3 v4 v5 v6 v7 v8 μ = some μ9 → jR B SA d m_R_finds 194 L [] μ none μ9) : ∀ (L : JLoc) (v0 : Nat) (v2 : Int32) (v3 : Int32) (v4 : Int32) (v5 : Int32) (v6 : Int32) (v7 : Int32) (s0 : Bool) (μ : JMem) (μ9 : JMem), jget L 0 = .ref v0 → jget L 2 = .int v2 → jget L 3 = .int v3 → jget L 4 = .int v4 → jget L 5 = .int v5 → jget L 6 = .int v6 → jget L 7 = .int v7 → g_R_finds_238 N B k114 k194 v0 v2 v3 v4 v5 v6 v7 s0 μ = some μ9 → jR B SA d m_R_finds 238 L [.int (jb s0)] μ none μ9 := by
  intro L v0 v2 v3 v4 v5 v6 v7 s0 μ μ9 hl0 hl2 hl3 hl4 hl5 hl6 hl7 h
  unfold g_R_finds_238 at h
  refine jr_istore jf_261_238 jml_261 (by decide) ?_
  refine jr_goto jf_261_240 ?_
  exact i194 _ _ _ _ _ _ _ _ _ _ _ (jg1_ne rfl hl0) (jg1_ne rfl hl2) (jg1_ne rfl hl3) (jg1_ne rfl hl4) (jg1_ne rfl hl5) (jg1_ne rfl hl6) (jg1_pre rfl hl7) jg1_same h
set_option maxRecDepth 10000 in
set_option maxHeartbeats 4000000 in
theorem r_R_finds_213 {N B : Nat} {SA : Nat → Nat} {d : Nat} (hd : 1 ≤ d) {k114 : Nat → Int32 → JMem → Option JMem} (i114 : ∀ (L : JLoc) (v0 : Nat) (v2 : Int32) (μ : JMem) (μ9 : JMem), jget L 0 = .ref v0 → jget L 2 = .int v2 → k114 v0 v2 μ = some μ9 → jR B SA d m_R_finds 114 L [] μ none μ9) {k194 : Nat → Int32 → Int32 → Int32 → Int32 → Int32 → Int32 → Bool → JMem → Option JMem} (i194 : ∀ (L : JLoc) (v0 : Nat) (v2 : Int32) (v3 : Int32) (v4 : Int32) (v5 : Int32) (v6 : Int32) (v7 : Int32) (v8 : Bool) (μ : JMem) (μ9 : JMem), jget L 0 = .ref v0 → jget L 2 = .int v2 → jget L 3 = .int v3 → jget L 4 = .int v4 → jget L 5 = .int v5 → jget L 6 = .int v6 → jget L 7 = .int v7 → jget L 8 = .int (jb v8) → k194 v0 v2 v3 v4 v5 v6 v7 v8 μ = some μ9 → jR B SA d m_R_finds 194 L [] μ none μ9) : ∀ (L : JLoc) (v0 : Nat) (v2 : Int32) (v3 : Int32) (v4 : Int32) (v5 : Int32) (v7 : Int32) (s0 : Int32) (μ : JMem) (μ9 : JMem), jget L 0 = .ref v0 → jget L 2 = .int v2 → jget L 3 = .int v3 → jget L 4 = .int v4 → jget L 5 = .int v5 → jget L 7 = .int v7 → g_R_finds_213 N B k114 k194 v0 v2 v3 v4 v5 v7 s0 μ = some μ9 → jR B SA d m_R_finds 213 L [.int s0] μ none μ9 := by
  intro L v0 v2 v3 v4 v5 v7 s0 μ μ9 hl0 hl2 hl3 hl4 hl5 hl7 h
  unfold g_R_finds_213 at h
  refine jr_istore jf_261_213 jml_261 (by decide) ?_
  refine jr_iinc jf_261_215 jc_i_1 jml_261 (by decide) (jg1_pre rfl hl5) ?_
  refine jr_aload_n jf_261_218 rfl (jg1_ne rfl (jg1_ne rfl hl0)) ?_
  replace h := obd_of h; obtain ⟨x1, hx1, h⟩ := h
  refine jr_getA jf_261_219 hx1 ?_
  refine jr_iload jf_261_222 (jg1_ne rfl (jg1_ne rfl hl7)) ?_
  replace h := obd_of h; obtain ⟨a2, rfl, h⟩ := h
  replace h := obd_of h; obtain ⟨x3, hx3, h⟩ := h
  refine jr_iaload jf_261_224 hx3 ?_
  refine jr_istore jf_261_225 jml_261 (by decide) ?_
  refine jr_iload jf_261_227 jg1_same ?_
  refine jr_iload_n jf_261_229 rfl (jg1_ne rfl (jg1_ne rfl (jg1_ne rfl hl3))) ?_
  replace h := ite_or h; rcases h with ⟨hc, h⟩ | ⟨hc, h⟩
  · refine jr_if2_eq_t jf_261_230 hc ?_
    refine jr_iconst jf_261_237 jc_i_0 ?_
    exact r_R_finds_238 hd i114 i194 _ _ _ _ _ _ _ _ false _ _ (jg1_ne rfl (jg1_ne rfl (jg1_ne rfl hl0))) (jg1_ne rfl (jg1_ne rfl (jg1_ne rfl hl2))) (jg1_ne rfl (jg1_ne rfl (jg1_ne rfl hl3))) (jg1_ne rfl (jg1_pre rfl (jg1_ne rfl hl4))) (jg1_ne rfl jg1_same) (jg1_pre rfl (jg1_ne rfl jg1_same)) jg1_same h
  · refine jr_if2_eq_f jf_261_230 hc ?_
    refine jr_iconst jf_261_233 jc_i_1 ?_
    refine jr_goto jf_261_234 ?_
    exact r_R_finds_238 hd i114 i194 _ _ _ _ _ _ _ _ true _ _ (jg1_ne rfl (jg1_ne rfl (jg1_ne rfl hl0))) (jg1_ne rfl (jg1_ne rfl (jg1_ne rfl hl2))) (jg1_ne rfl (jg1_ne rfl (jg1_ne rfl hl3))) (jg1_ne rfl (jg1_pre rfl (jg1_ne rfl hl4))) (jg1_ne rfl jg1_same) (jg1_pre rfl (jg1_ne rfl jg1_same)) jg1_same h
set_option maxRecDepth 10000 in
set_option maxHeartbeats 4000000 in
theorem r_R_finds_277 {N B : Nat} {SA : Nat → Nat} {d : Nat} (hd : 1 ≤ d) {k114 : Nat → Int32 → JMem → Option JMem} (i114 : ∀ (L : JLoc) (v0 : Nat) (v2 : Int32) (μ : JMem) (μ9 : JMem), jget L 0 = .ref v0 → jget L 2 = .int v2 → k114 v0 v2 μ = some μ9 → jR B SA d m_R_finds 114 L [] μ none μ9) : ∀ (n : Nat), ∀ (L : JLoc) (v0 : Nat) (v2 : Int32) (v3 : Int32) (v4 : Int32) (μ : JMem) (μ9 : JMem), jget L 0 = .ref v0 → jget L 2 = .int v2 → jget L 3 = .int v3 → jget L 4 = .int v4 → g_R_finds_277 N B k114 n v0 v2 v3 v4 μ = some μ9 → jR B SA d m_R_finds 277 L [] μ none μ9 := by
  intro n
  induction n with
  | zero =>
    intro L v0 v2 v3 v4 μ μ9 hl0 hl2 hl3 hl4 h
    unfold g_R_finds_277 at h
    cases h
  | succ n ih =>
    intro L v0 v2 v3 v4 μ μ9 hl0 hl2 hl3 hl4 h
    unfold g_R_finds_277 at h
    refine jr_aload_n jf_261_277 rfl hl0 ?_
    replace h := obd_of h; obtain ⟨x1, hx1, h⟩ := h
    refine jr_getA jf_261_278 hx1 ?_
    refine jr_iload_n jf_261_281 rfl hl3 ?_
    replace h := obd_of h; obtain ⟨a2, rfl, h⟩ := h
    replace h := obd_of h; obtain ⟨x3, hx3, h⟩ := h
    refine jr_iaload jf_261_282 hx3 ?_
    refine jr_iconst jf_261_283 jc_i_m1 ?_
    refine jr_iload_n jf_261_284 rfl hl2 ?_
    refine jr_isub jf_261_285 ?_
    replace h := ite_or h; rcases h with ⟨hc, h⟩ | ⟨hc, h⟩
    · refine jr_if2_ne_f jf_261_286 hc ?_
      refine jr_aload_n jf_261_289 rfl hl0 ?_
      replace h := obd_of h; obtain ⟨x4, hx4, h⟩ := h
      refine jr_getA jf_261_290 hx4 ?_
      refine jr_iload_n jf_261_293 rfl hl3 ?_
      refine jr_iload jf_261_294 hl4 ?_
      replace h := obd_of h; obtain ⟨a5, rfl, h⟩ := h
      replace h := obd_of h; obtain ⟨μ6, hμ6, h⟩ := h
      refine jr_iastore jf_261_296 hμ6 ?_
      refine jr_aload_n jf_261_297 rfl hl0 ?_
      replace h := obd_of h; obtain ⟨x7, hx7, h⟩ := h
      refine jr_getA jf_261_298 hx7 ?_
      refine jr_iload jf_261_301 hl4 ?_
      refine jr_iconst jf_261_303 jc_i_1 ?_
      refine jr_isub jf_261_304 ?_
      refine jr_dup2_1 jf_261_305 rfl (rv_cat _) ?_
      replace h := obd_of h; obtain ⟨a8, rfl, h⟩ := h
      replace h := obd_of h; obtain ⟨x9, hx9, h⟩ := h
      refine jr_iaload jf_261_306 hx9 ?_
      refine jr_iconst jf_261_307 jc_i_1 ?_
      refine jr_iadd jf_261_308 ?_
      replace h := obd_of h; obtain ⟨μ10, hμ10, h⟩ := h
      refine jr_iastore jf_261_309 hμ10 ?_
      refine jr_aload_n jf_261_310 rfl hl0 ?_
      replace h := obd_of h; obtain ⟨x11, hx11, h⟩ := h
      refine jr_getA jf_261_311 hx11 ?_
      refine jr_iload_n jf_261_314 rfl hl3 ?_
      replace h := obd_of h; obtain ⟨a12, rfl, h⟩ := h
      replace h := obd_of h; obtain ⟨x13, hx13, h⟩ := h
      refine jr_iaload jf_261_315 hx13 ?_
      refine jr_istore_n jf_261_316 rfl jml_261 (by decide) ?_
      refine jr_goto jf_261_317 ?_
      exact ih _ _ _ _ _ _ _ (jg1_ne rfl hl0) (jg1_pre rfl hl2) jg1_same (jg1_ne rfl hl4) h
    · refine jr_if2_ne_t jf_261_286 hc ?_
      refine jr_iinc jf_261_320 jc_i_1 jml_261 (by decide) hl2 ?_
      refine jr_goto jf_261_323 ?_
      exact i114 _ _ _ _ _ (jg1_ne rfl hl0) jg1_same h
set_option maxRecDepth 10000 in
set_option maxHeartbeats 4000000 in
theorem r_R_finds_275 {N B : Nat} {SA : Nat → Nat} {d : Nat} (hd : 1 ≤ d) {k114 : Nat → Int32 → JMem → Option JMem} (i114 : ∀ (L : JLoc) (v0 : Nat) (v2 : Int32) (μ : JMem) (μ9 : JMem), jget L 0 = .ref v0 → jget L 2 = .int v2 → k114 v0 v2 μ = some μ9 → jR B SA d m_R_finds 114 L [] μ none μ9) : ∀ (L : JLoc) (v0 : Nat) (v2 : Int32) (v4 : Int32) (μ : JMem) (μ9 : JMem), jget L 0 = .ref v0 → jget L 2 = .int v2 → jget L 4 = .int v4 → g_R_finds_275 N B k114 v0 v2 v4 μ = some μ9 → jR B SA d m_R_finds 275 L [] μ none μ9 := by
  intro L v0 v2 v4 μ μ9 hl0 hl2 hl4 h
  unfold g_R_finds_275 at h
  refine jr_iload_n jf_261_275 rfl hl2 ?_
  refine jr_istore_n jf_261_276 rfl jml_261 (by decide) ?_
  exact r_R_finds_277 hd i114 _ _ _ _ _ _ _ _ (jg1_ne rfl hl0) (jg1_pre rfl hl2) jg1_same (jg1_ne rfl hl4) h
set_option maxRecDepth 10000 in
set_option maxHeartbeats 4000000 in
theorem r_R_finds_194 {N B : Nat} {SA : Nat → Nat} {d : Nat} (hd : 1 ≤ d) {k114 : Nat → Int32 → JMem → Option JMem} (i114 : ∀ (L : JLoc) (v0 : Nat) (v2 : Int32) (μ : JMem) (μ9 : JMem), jget L 0 = .ref v0 → jget L 2 = .int v2 → k114 v0 v2 μ = some μ9 → jR B SA d m_R_finds 114 L [] μ none μ9) : ∀ (n : Nat), ∀ (L : JLoc) (v0 : Nat) (v2 : Int32) (v3 : Int32) (v4 : Int32) (v5 : Int32) (v6 : Int32) (v7 : Int32) (v8 : Bool) (μ : JMem) (μ9 : JMem), jget L 0 = .ref v0 → jget L 2 = .int v2 → jget L 3 = .int v3 → jget L 4 = .int v4 → jget L 5 = .int v5 → jget L 6 = .int v6 → jget L 7 = .int v7 → jget L 8 = .int (jb v8) → g_R_finds_194 N B k114 n v0 v2 v3 v4 v5 v6 v7 v8 μ = some μ9 → jR B SA d m_R_finds 194 L [] μ none μ9 := by
  intro n
  induction n with
  | zero =>
    intro L v0 v2 v3 v4 v5 v6 v7 v8 μ μ9 hl0 hl2 hl3 hl4 hl5 hl6 hl7 hl8 h
    unfold g_R_finds_194 at h
    cases h
  | succ n ih =>
    intro L v0 v2 v3 v4 v5 v6 v7 v8 μ μ9 hl0 hl2 hl3 hl4 hl5 hl6 hl7 hl8 h
    unfold g_R_finds_194 at h
    refine jr_iload jf_261_194 hl8 ?_
    replace h := ite_or h; rcases h with ⟨hc, h⟩ | ⟨hc, h⟩
    · refine jr_ifz_eq_f jf_261_196 hc ?_
      refine jr_iload jf_261_199 hl7 ?_
      refine jr_iload jf_261_201 hl6 ?_
      replace h := ite_or h; rcases h with ⟨hc, h⟩ | ⟨hc, h⟩
      · refine jr_if2_ge_t jf_261_203 hc ?_
        refine jr_iload jf_261_211 hl6 ?_
        exact r_R_finds_213 hd i114 ih _ _ _ _ _ _ _ _ _ _ hl0 hl2 hl3 hl4 hl5 hl7 h
      · refine jr_if2_ge_f jf_261_203 hc ?_
        refine jr_iload jf_261_206 hl7 ?_
        refine jr_goto jf_261_208 ?_
        exact r_R_finds_213 hd i114 ih _ _ _ _ _ _ _ _ _ _ hl0 hl2 hl3 hl4 hl5 hl7 h
    · refine jr_ifz_eq_t jf_261_196 hc ?_
      refine jr_aload_n jf_261_243 rfl hl0 ?_
      replace h := obd_of h; obtain ⟨x1, hx1, h⟩ := h
      refine jr_getA jf_261_244 hx1 ?_
      refine jr_iload jf_261_247 hl4 ?_
      refine jr_iconst jf_261_249 jc_i_1 ?_
      refine jr_isub jf_261_250 ?_
      refine jr_iload jf_261_251 hl6 ?_
      replace h := obd_of h; obtain ⟨a2, rfl, h⟩ := h
      replace h := obd_of h; obtain ⟨μ3, hμ3, h⟩ := h
      refine jr_iastore jf_261_253 hμ3 ?_
      refine jr_aload_n jf_261_254 rfl hl0 ?_
      replace h := obd_of h; obtain ⟨x4, hx4, h⟩ := h
      refine jr_getA jf_261_255 hx4 ?_
      refine jr_iload jf_261_258 hl4 ?_
      refine jr_iconst jf_261_260 jc_i_1 ?_
      refine jr_isub jf_261_261 ?_
      refine jr_iload jf_261_262 hl5 ?_
      replace h := obd_of h; obtain ⟨a5, rfl, h⟩ := h
      replace h := obd_of h; obtain ⟨μ6, hμ6, h⟩ := h
      refine jr_iastore jf_261_264 hμ6 ?_
      refine jr_aload_n jf_261_265 rfl hl0 ?_
      replace h := obd_of h; obtain ⟨x7, hx7, h⟩ := h
      refine jr_getA jf_261_266 hx7 ?_
      refine jr_iload jf_261_269 hl4 ?_
      refine jr_iconst jf_261_271 jc_i_1 ?_
      refine jr_isub jf_261_272 ?_
      refine jr_iconst jf_261_273 jc_i_0 ?_
      replace h := obd_of h; obtain ⟨a8, rfl, h⟩ := h
      replace h := obd_of h; obtain ⟨μ9, hμ9, h⟩ := h
      refine jr_iastore jf_261_274 hμ9 ?_
      exact r_R_finds_275 hd i114 _ _ _ _ _ _ hl0 hl2 hl4 h
set_option maxRecDepth 10000 in
set_option maxHeartbeats 4000000 in
theorem r_R_finds_122 {N B : Nat} {SA : Nat → Nat} {d : Nat} (hd : 1 ≤ d) {k114 : Nat → Int32 → JMem → Option JMem} (i114 : ∀ (L : JLoc) (v0 : Nat) (v2 : Int32) (μ : JMem) (μ9 : JMem), jget L 0 = .ref v0 → jget L 2 = .int v2 → k114 v0 v2 μ = some μ9 → jR B SA d m_R_finds 114 L [] μ none μ9) : ∀ (n : Nat), ∀ (L : JLoc) (v0 : Nat) (v2 : Int32) (v3 : Int32) (μ : JMem) (μ9 : JMem), jget L 0 = .ref v0 → jget L 2 = .int v2 → jget L 3 = .int v3 → g_R_finds_122 N B k114 n v0 v2 v3 μ = some μ9 → jR B SA d m_R_finds 122 L [] μ none μ9 := by
  intro n
  induction n with
  | zero =>
    intro L v0 v2 v3 μ μ9 hl0 hl2 hl3 h
    unfold g_R_finds_122 at h
    cases h
  | succ n ih =>
    intro L v0 v2 v3 μ μ9 hl0 hl2 hl3 h
    unfold g_R_finds_122 at h
    refine jr_aload_n jf_261_122 rfl hl0 ?_
    replace h := obd_of h; obtain ⟨x1, hx1, h⟩ := h
    refine jr_getA jf_261_123 hx1 ?_
    refine jr_iload_n jf_261_126 rfl hl3 ?_
    replace h := obd_of h; obtain ⟨a2, rfl, h⟩ := h
    replace h := obd_of h; obtain ⟨x3, hx3, h⟩ := h
    refine jr_iaload jf_261_127 hx3 ?_
    replace h := ite_or h; rcases h with ⟨hc, h⟩ | ⟨hc, h⟩
    · refine jr_if_ne_f jf_261_128 hc ?_
      refine jr_aload_n jf_261_131 rfl hl0 ?_
      replace h := obd_of h; obtain ⟨x4, hx4, h⟩ := h
      refine jr_getA jf_261_132 hx4 ?_
      refine jr_iload_n jf_261_135 rfl hl3 ?_
      refine jr_iconst jf_261_136 jc_i_m1 ?_
      refine jr_iload_n jf_261_137 rfl hl2 ?_
      refine jr_isub jf_261_138 ?_
      replace h := obd_of h; obtain ⟨a5, rfl, h⟩ := h
      replace h := obd_of h; obtain ⟨μ6, hμ6, h⟩ := h
      refine jr_iastore jf_261_139 hμ6 ?_
      refine jr_aload_n jf_261_140 rfl hl0 ?_
      replace h := obd_of h; obtain ⟨x7, hx7, h⟩ := h
      refine jr_getA jf_261_141 hx7 ?_
      refine jr_iload_n jf_261_144 rfl hl3 ?_
      replace h := obd_of h; obtain ⟨a8, rfl, h⟩ := h
      replace h := obd_of h; obtain ⟨x9, hx9, h⟩ := h
      refine jr_iaload jf_261_145 hx9 ?_
      refine jr_istore_n jf_261_146 rfl jml_261 (by decide) ?_
      refine jr_goto jf_261_147 ?_
      exact ih _ _ _ _ _ _ (jg1_ne rfl hl0) (jg1_pre rfl hl2) jg1_same h
    · refine jr_if_ne_t jf_261_128 hc ?_
      refine jr_aload_n jf_261_150 rfl hl0 ?_
      replace h := obd_of h; obtain ⟨x10, hx10, h⟩ := h
      refine jr_getA jf_261_151 hx10 ?_
      refine jr_iload_n jf_261_154 rfl hl3 ?_
      replace h := obd_of h; obtain ⟨a11, rfl, h⟩ := h
      replace h := obd_of h; obtain ⟨x12, hx12, h⟩ := h
      refine jr_iaload jf_261_155 hx12 ?_
      refine jr_istore jf_261_156 jml_261 (by decide) ?_
      refine jr_iload jf_261_158 jg1_same ?_
      refine jr_iconst jf_261_160 jc_i_m1 ?_
      refine jr_iload_n jf_261_161 rfl (jg1_ne rfl hl2) ?_
      refine jr_isub jf_261_162 ?_
      replace h := ite_or h; rcases h with ⟨hc, h⟩ | ⟨hc, h⟩
      · refine jr_if2_ne_f jf_261_163 hc ?_
        refine jr_aload_n jf_261_166 rfl (jg1_ne rfl hl0) ?_
        refine jr_dup jf_261_167 rfl ?_
        replace h := obd_of h; obtain ⟨x13, hx13, h⟩ := h
        refine jr_getI jf_261_168 hx13 ?_
        refine jr_iconst jf_261_171 jc_i_1 ?_
        refine jr_iadd jf_261_172 ?_
        replace h := obd_of h; obtain ⟨μ14, hμ14, h⟩ := h
        refine jr_putI jf_261_173 rfl hμ14 ?_
        refine jr_aload_n jf_261_176 rfl (jg1_ne rfl hl0) ?_
        replace h := obd_of h; obtain ⟨x15, hx15, h⟩ := h
        refine jr_getI jf_261_177 hx15 ?_
        refine jr_istore jf_261_180 jml_261 (by decide) ?_
        refine jr_iconst jf_261_182 jc_i_0 ?_
        refine jr_istore jf_261_183 jml_261 (by decide) ?_
        refine jr_iload_n jf_261_185 rfl (jg1_ne rfl (jg1_pre rfl (jg1_pre rfl hl3))) ?_
        refine jr_istore jf_261_186 jml_261 (by decide) ?_
        refine jr_iload_n jf_261_188 rfl (jg1_ne rfl (jg1_ne rfl (jg1_pre rfl (jg1_pre rfl hl3)))) ?_
        refine jr_istore jf_261_189 jml_261 (by decide) ?_
        refine jr_iconst jf_261_191 jc_i_1 ?_
        refine jr_istore jf_261_192 jml_261 (by decide) ?_
        exact r_R_finds_194 hd i114 _ _ _ _ _ _ _ _ _ true _ _ (jg1_ne rfl (jg1_ne rfl (jg1_ne rfl (jg1_ne rfl (jg1_ne rfl (jg1_ne rfl hl0)))))) (jg1_ne rfl (jg1_ne rfl (jg1_ne rfl (jg1_ne rfl (jg1_ne rfl (jg1_ne rfl hl2)))))) (jg1_ne rfl (jg1_ne rfl (jg1_ne rfl (jg1_ne rfl (jg1_pre rfl (jg1_pre rfl hl3)))))) (jg1_ne rfl (jg1_ne rfl (jg1_ne rfl (jg1_pre rfl jg1_same)))) (jg1_ne rfl (jg1_ne rfl (jg1_pre rfl jg1_same))) (jg1_ne rfl (jg1_pre rfl jg1_same)) (jg1_pre rfl jg1_same) jg1_same h
      · refine jr_if2_ne_t jf_261_163 hc ?_
        exact r_R_finds_275 hd i114 _ _ _ _ _ _ (jg1_ne rfl hl0) (jg1_ne rfl hl2) jg1_same h
set_option maxRecDepth 10000 in
set_option maxHeartbeats 4000000 in
theorem r_R_finds_114 {N B : Nat} {SA : Nat → Nat} {d : Nat} (hd : 1 ≤ d) : ∀ (n : Nat), ∀ (L : JLoc) (v0 : Nat) (v2 : Int32) (μ : JMem) (μ9 : JMem), jget L 0 = .ref v0 → jget L 2 = .int v2 → g_R_finds_114 N B n v0 v2 μ = some μ9 → jR B SA d m_R_finds 114 L [] μ none μ9 := by
  intro n
  induction n with
  | zero =>
    intro L v0 v2 μ μ9 hl0 hl2 h
    unfold g_R_finds_114 at h
    cases h
  | succ n ih =>
    intro L v0 v2 μ μ9 hl0 hl2 h
    unfold g_R_finds_114 at h
    refine jr_iload_n jf_261_114 rfl hl2 ?_
    refine jr_ldc jf_261_115 ?_
    replace h := ite_or h; rcases h with ⟨hc, h⟩ | ⟨hc, h⟩
    · refine jr_if2_ge_t jf_261_117 hc ?_
      obtain rfl := Option.some.inj h
      exact jr_return jf_261_326 jmt_261
    · refine jr_if2_ge_f jf_261_117 hc ?_
      refine jr_iload_n jf_261_120 rfl hl2 ?_
      refine jr_istore_n jf_261_121 rfl jml_261 (by decide) ?_
      exact r_R_finds_122 hd ih _ _ _ _ _ _ _ (jg1_ne rfl hl0) (jg1_pre rfl hl2) jg1_same h
set_option maxRecDepth 10000 in
set_option maxHeartbeats 4000000 in
theorem r_R_finds_7 {N B : Nat} {SA : Nat → Nat} {d : Nat} (hd : 1 ≤ d) : ∀ (n : Nat), ∀ (L : JLoc) (v0 : Nat) (v1 : Int32) (v2 : Int32) (μ : JMem) (μ9 : JMem), jget L 0 = .ref v0 → jget L 1 = .int v1 → jget L 2 = .int v2 → g_R_finds_7 N B n v0 v1 v2 μ = some μ9 → jR B SA d m_R_finds 7 L [] μ none μ9 := by
  intro n
  induction n with
  | zero =>
    intro L v0 v1 v2 μ μ9 hl0 hl1 hl2 h
    unfold g_R_finds_7 at h
    cases h
  | succ n ih =>
    intro L v0 v1 v2 μ μ9 hl0 hl1 hl2 h
    unfold g_R_finds_7 at h
    refine jr_iload_n jf_261_7 rfl hl2 ?_
    refine jr_ldc jf_261_8 ?_
    replace h := ite_or h; rcases h with ⟨hc, h⟩ | ⟨hc, h⟩
    · refine jr_if2_ge_t jf_261_10 hc ?_
      refine jr_iconst jf_261_112 jc_i_0 ?_
      refine jr_istore_n jf_261_113 rfl jml_261 (by decide) ?_
      exact r_R_finds_114 hd _ _ _ _ _ _ (jg1_ne rfl hl0) jg1_same h
    · refine jr_if2_ge_f jf_261_10 hc ?_
      refine jr_aload_n jf_261_13 rfl hl0 ?_
      refine jr_iload_n jf_261_14 rfl hl1 ?_
      refine jr_iconst jf_261_15 jc_i_1 ?_
      replace h := jgd_of h; obtain ⟨hb1, h⟩ := h
      replace h := obd_of h; obtain ⟨x2, hx2, h⟩ := h
      refine jr_V6_2 jf_261_16 hb1 (by omega) (r_R_c (by omega) _ _ _ _ _ hx2) (Nat.le_of_ble_eq_true rfl) jml_218 (Nat.le_of_ble_eq_true rfl) ?_
      refine jr_d2l jf_261_19 ?_
      refine jr_iload_n jf_261_20 rfl hl2 ?_
      refine jr_ldc_w jf_261_21 ?_
      refine jr_isub jf_261_24 ?_
      refine jr_i2l jf_261_25 ?_
      refine jr_lmul jf_261_26 ?_
      refine jr_lstore_n jf_261_27 rfl jml_261 (by decide) ?_
      replace h := jlet_of h
      refine jr_aload_n jf_261_28 rfl (jg2_ne rfl hl0) ?_
      replace h := obd_of h; obtain ⟨x4, hx4, h⟩ := h
      refine jr_getA jf_261_29 hx4 ?_
      refine jr_iload_n jf_261_32 rfl (jg2_ne rfl hl1) ?_
      replace h := obd_of h; obtain ⟨a5, rfl, h⟩ := h
      replace h := obd_of h; obtain ⟨x6, hx6, h⟩ := h
      refine jr_iaload jf_261_33 hx6 ?_
      replace h := ite_or h; rcases h with ⟨hc, h⟩ | ⟨hc, h⟩
      · refine jr_if_ne_f jf_261_34 hc ?_
        refine jr_lload_n jf_261_37 rfl jg2_same ?_
        refine jr_ldc2l jf_261_38 ?_
        refine jr_ladd jf_261_41 ?_
        refine jr_ldc2l jf_261_42 ?_
        replace h := obd_of h; obtain ⟨x7, hx7, h⟩ := h
        refine jr_S3_2 jf_261_45 (by omega) (r_R_floor (by omega) _ _ _ _ hx7) (Nat.le_of_ble_eq_true rfl) jml_201 (Nat.le_of_ble_eq_true rfl) ?_
        refine jr_goto jf_261_48 ?_
        exact r_R_finds_56 hd ih _ _ _ _ _ _ _ (jg2_ne rfl hl0) (jg2_ne rfl hl1) (jg2_pre rfl hl2) h
      · refine jr_if_ne_t jf_261_34 hc ?_
        refine jr_lload_n jf_261_51 rfl jg2_same ?_
        refine jr_ldc2l jf_261_52 ?_
        refine jr_ldiv jf_261_55 (by simp only [jdivL]; exact if_neg (by decide)) ?_
        exact r_R_finds_56 hd ih _ _ _ _ _ _ _ (jg2_ne rfl hl0) (jg2_ne rfl hl1) (jg2_pre rfl hl2) h
set_option maxRecDepth 10000 in
set_option maxHeartbeats 4000000 in
theorem r_R_finds_e {N B : Nat} {SA : Nat → Nat} {d : Nat} (hd : 1 ≤ d) : ∀ (L : JLoc) (v0 : Nat) (v1 : Int32) (μ : JMem) (μ9 : JMem), jget L 0 = .ref v0 → jget L 1 = .int v1 → g_R_finds N B v0 v1 μ = some μ9 → jR B SA d m_R_finds 0 L [] μ none μ9 := by
  intro L v0 v1 μ μ9 hl0 hl1 h
  unfold g_R_finds at h
  refine jr_aload_n jf_261_0 rfl hl0 ?_
  refine jr_iconst jf_261_1 jc_i_0 ?_
  replace h := obd_of h; obtain ⟨μ1, hμ1, h⟩ := h
  refine jr_putI jf_261_2 rfl hμ1 ?_
  refine jr_iconst jf_261_5 jc_i_0 ?_
  refine jr_istore_n jf_261_6 rfl jml_261 (by decide) ?_
  exact r_R_finds_7 hd _ _ _ _ _ _ _ (jg1_ne rfl hl0) (jg1_pre rfl hl1) jg1_same h
set_option maxRecDepth 10000 in
set_option maxHeartbeats 4000000 in
theorem r_R_finds {N B : Nat} {SA : Nat → Nat} {d : Nat} (hd : 1 ≤ d) : ∀ (v0 : Nat) (v1 : Int32) (μ : JMem) (μ9 : JMem), g_R_finds N B v0 v1 μ = some μ9 → jR B SA d m_R_finds 0 (lv_args 0 [.ref v0, .int v1]) [] μ none μ9 := by
  intro v0 v1 μ μ9 h
  exact r_R_finds_e hd (lv_args 0 _) _ _ _ _ (by simp [lv_args, jget, rv_cat, cat_int, cat_long, cat_double, cat_float, cat_ref]) (by simp [lv_args, jget, rv_cat, cat_int, cat_long, cat_double, cat_float, cat_ref]) h
/-! FilterBenchModel.isDead(I)Z -/
set_option maxRecDepth 10000 in
set_option maxHeartbeats 4000000 in
theorem r_R_isDead_e {B : Nat} {SA : Nat → Nat} {d : Nat} (hd : 2 ≤ d) : ∀ (L : JLoc) (v0 : Nat) (v1 : Int32) (μ : JMem) (r : Bool), jget L 0 = .ref v0 → jget L 1 = .int v1 → g_R_isDead v0 v1 μ.1 = some r → jR B SA d m_R_isDead 0 L [] μ (some (.int (jb r))) μ := by
  intro L v0 v1 μ r hl0 hl1 h
  unfold g_R_isDead at h
  refine jr_aload_n jf_260_0 rfl hl0 ?_
  refine jr_iload_n jf_260_1 rfl hl1 ?_
  replace h := jgd_of h; obtain ⟨hb1, h⟩ := h
  replace h := obd_of h; obtain ⟨x2, hx2, h⟩ := h
  refine jr_V6_1 jf_260_2 hb1 (by omega) (r_R_isSection (by omega) _ _ _ _ hx2) (Nat.le_of_ble_eq_true rfl) jml_195 (Nat.le_of_ble_eq_true rfl) ?_
  replace h := ite_or h; rcases h with ⟨hc, h⟩ | ⟨hc, h⟩
  · refine jr_ifz_eq_f jf_260_5 hc ?_
    refine jr_aload_n jf_260_8 rfl hl0 ?_
    replace h := obd_of h; obtain ⟨x3, hx3, h⟩ := h
    refine jr_getA jf_260_9 hx3 ?_
    refine jr_iload_n jf_260_12 rfl hl1 ?_
    replace h := obd_of h; obtain ⟨a4, rfl, h⟩ := h
    replace h := obd_of h; obtain ⟨x5, hx5, h⟩ := h
    refine jr_iaload jf_260_13 hx5 ?_
    refine jr_iconst jf_260_14 jc_i_1 ?_
    replace h := ite_or h; rcases h with ⟨hc, h⟩ | ⟨hc, h⟩
    · refine jr_if2_ne_f jf_260_15 hc ?_
      refine jr_aload_n jf_260_18 rfl hl0 ?_
      replace h := obd_of h; obtain ⟨x6, hx6, h⟩ := h
      refine jr_getA jf_260_19 hx6 ?_
      refine jr_iload_n jf_260_22 rfl hl1 ?_
      replace h := obd_of h; obtain ⟨a7, rfl, h⟩ := h
      replace h := obd_of h; obtain ⟨x8, hx8, h⟩ := h
      refine jr_iaload jf_260_23 hx8 ?_
      refine jr_iconst jf_260_24 jc_i_2 ?_
      replace h := ite_or h; rcases h with ⟨hc, h⟩ | ⟨hc, h⟩
      · refine jr_if2_ne_f jf_260_25 hc ?_
        refine jr_aload_n jf_260_28 rfl hl0 ?_
        replace h := obd_of h; obtain ⟨x9, hx9, h⟩ := h
        refine jr_getA jf_260_29 hx9 ?_
        refine jr_iload_n jf_260_32 rfl hl1 ?_
        replace h := obd_of h; obtain ⟨a10, rfl, h⟩ := h
        replace h := obd_of h; obtain ⟨x11, hx11, h⟩ := h
        refine jr_iaload jf_260_33 hx11 ?_
        refine jr_iconst jf_260_34 jc_i_2 ?_
        replace h := ite_or h; rcases h with ⟨hc, h⟩ | ⟨hc, h⟩
        · refine jr_if2_ge_t jf_260_35 hc ?_
          refine jr_iconst jf_260_42 jc_i_0 ?_
          obtain rfl := Option.some.inj h
          exact jr_retZ (x := false) jf_260_43 jmt_260
        · refine jr_if2_ge_f jf_260_35 hc ?_
          refine jr_iconst jf_260_38 jc_i_1 ?_
          refine jr_goto jf_260_39 ?_
          obtain rfl := Option.some.inj h
          exact jr_retZ (x := true) jf_260_43 jmt_260
      · refine jr_if2_ne_t jf_260_25 hc ?_
        refine jr_iconst jf_260_42 jc_i_0 ?_
        obtain rfl := Option.some.inj h
        exact jr_retZ (x := false) jf_260_43 jmt_260
    · refine jr_if2_ne_t jf_260_15 hc ?_
      refine jr_iconst jf_260_42 jc_i_0 ?_
      obtain rfl := Option.some.inj h
      exact jr_retZ (x := false) jf_260_43 jmt_260
  · refine jr_ifz_eq_t jf_260_5 hc ?_
    refine jr_iconst jf_260_42 jc_i_0 ?_
    obtain rfl := Option.some.inj h
    exact jr_retZ (x := false) jf_260_43 jmt_260
set_option maxRecDepth 10000 in
set_option maxHeartbeats 4000000 in
theorem r_R_isDead {B : Nat} {SA : Nat → Nat} {d : Nat} (hd : 2 ≤ d) : ∀ (v0 : Nat) (v1 : Int32) (μ : JMem) (r : Bool), g_R_isDead v0 v1 μ.1 = some r → jR B SA d m_R_isDead 0 (lv_args 0 [.ref v0, .int v1]) [] μ (some (.int (jb r))) μ := by
  intro v0 v1 μ r h
  exact r_R_isDead_e hd (lv_args 0 _) _ _ _ _ (by simp [lv_args, jget, rv_cat, cat_int, cat_long, cat_double, cat_float, cat_ref]) (by simp [lv_args, jget, rv_cat, cat_int, cat_long, cat_double, cat_float, cat_ref]) h
/-! FilterBenchModel.cycles(I)I -/
set_option maxRecDepth 10000 in
set_option maxHeartbeats 4000000 in
theorem r_R_cycles_e {N B : Nat} {SA : Nat → Nat} {d : Nat} (hd : 3 ≤ d) : ∀ (L : JLoc) (v0 : Nat) (v1 : Int32) (μ : JMem) (r : Int32) (μ9 : JMem), jget L 0 = .ref v0 → jget L 1 = .int v1 → g_R_cycles N B v0 v1 μ = some (r, μ9) → jR B SA d m_R_cycles 0 L [] μ (some (.int r)) μ9 := by
  intro L v0 v1 μ r μ9 hl0 hl1 h
  unfold g_R_cycles at h
  refine jr_aload_n jf_259_0 rfl hl0 ?_
  refine jr_iload_n jf_259_1 rfl hl1 ?_
  replace h := jgd_of h; obtain ⟨hb1, h⟩ := h
  replace h := obd_of h; obtain ⟨x2, hx2, h⟩ := h
  refine jr_V6_1 jf_259_2 hb1 (by omega) (r_R_isDead (by omega) _ _ _ _ hx2) (Nat.le_of_ble_eq_true rfl) jml_260 (Nat.le_of_ble_eq_true rfl) ?_
  replace h := ite_or h; rcases h with ⟨hc, h⟩ | ⟨hc, h⟩
  · refine jr_ifz_ne_t jf_259_5 hc ?_
    refine jr_aload_n jf_259_10 rfl hl0 ?_
    refine jr_iload_n jf_259_11 rfl hl1 ?_
    replace h := jgd_of h; obtain ⟨hb3, h⟩ := h
    replace h := obd_of h; obtain ⟨μ4, hμ4, h⟩ := h
    refine jr_V6v_1 jf_259_12 hb3 (by omega) (r_R_finds (by omega) _ _ _ _ hμ4) (Nat.le_of_ble_eq_true rfl) jml_261 (Nat.le_of_ble_eq_true rfl) ?_
    refine jr_aload_n jf_259_15 rfl hl0 ?_
    replace h := obd_of h; obtain ⟨x5, hx5, h⟩ := h
    refine jr_getI jf_259_16 hx5 ?_
    obtain ⟨rfl, rfl⟩ := Prod.mk.inj (Option.some.inj h)
    exact jr_retI jf_259_19 jmt_259
  · refine jr_ifz_ne_f jf_259_5 hc ?_
    refine jr_iconst jf_259_8 jc_i_m1 ?_
    obtain ⟨rfl, rfl⟩ := Prod.mk.inj (Option.some.inj h)
    exact jr_retI jf_259_9 jmt_259
set_option maxRecDepth 10000 in
set_option maxHeartbeats 4000000 in
theorem r_R_cycles {N B : Nat} {SA : Nat → Nat} {d : Nat} (hd : 3 ≤ d) : ∀ (v0 : Nat) (v1 : Int32) (μ : JMem) (r : Int32) (μ9 : JMem), g_R_cycles N B v0 v1 μ = some (r, μ9) → jR B SA d m_R_cycles 0 (lv_args 0 [.ref v0, .int v1]) [] μ (some (.int r)) μ9 := by
  intro v0 v1 μ r μ9 h
  exact r_R_cycles_e hd (lv_args 0 _) _ _ _ _ _ (by simp [lv_args, jget, rv_cat, cat_int, cat_long, cat_double, cat_float, cat_ref]) (by simp [lv_args, jget, rv_cat, cat_int, cat_long, cat_double, cat_float, cat_ref]) h
/-! FilterBenchModel.cycle(III)I -/
set_option maxRecDepth 10000 in
set_option maxHeartbeats 4000000 in
theorem r_R_cycle_94 {N B : Nat} {SA : Nat → Nat} {d : Nat} (hd : 3 ≤ d) {k40 : Nat → Int32 → Int32 → Int32 → Int32 → JMem → Option (Int32 × JMem)} (i40 : ∀ (L : JLoc) (v0 : Nat) (v3 : Int32) (v4 : Int32) (v5 : Int32) (v6 : Int32) (μ : JMem) (r : Int32) (μ9 : JMem), jget L 0 = .ref v0 → jget L 3 = .int v3 → jget L 4 = .int v4 → jget L 5 = .int v5 → jget L 6 = .int v6 → k40 v0 v3 v4 v5 v6 μ = some (r, μ9) → jR B SA d m_R_cycle 40 L [] μ (some (.int r)) μ9) : ∀ (L : JLoc) (v0 : Nat) (v3 : Int32) (v4 : Int32) (v5 : Int32) (v6 : Int32) (μ : JMem) (r : Int32) (μ9 : JMem), jget L 0 = .ref v0 → jget L 3 = .int v3 → jget L 4 = .int v4 → jget L 5 = .int v5 → jget L 6 = .int v6 → g_R_cycle_94 N B k40 v0 v3 v4 v5 v6 μ = some (r, μ9) → jR B SA d m_R_cycle 94 L [] μ (some (.int r)) μ9 := by
  intro L v0 v3 v4 v5 v6 μ r μ9 hl0 hl3 hl4 hl5 hl6 h
  unfold g_R_cycle_94 at h
  refine jr_iinc jf_262_94 jc_i_1 jml_262 (by decide) hl6 ?_
  refine jr_goto jf_262_97 ?_
  exact i40 _ _ _ _ _ _ _ _ _ (jg1_ne rfl hl0) (jg1_ne rfl hl3) (jg1_ne rfl hl4) (jg1_pre rfl hl5) jg1_same h
set_option maxRecDepth 10000 in
set_option maxHeartbeats 4000000 in
theorem r_R_cycle_91 {N B : Nat} {SA : Nat → Nat} {d : Nat} (hd : 3 ≤ d) {k40 : Nat → Int32 → Int32 → Int32 → Int32 → JMem → Option (Int32 × JMem)} (i40 : ∀ (L : JLoc) (v0 : Nat) (v3 : Int32) (v4 : Int32) (v5 : Int32) (v6 : Int32) (μ : JMem) (r : Int32) (μ9 : JMem), jget L 0 = .ref v0 → jget L 3 = .int v3 → jget L 4 = .int v4 → jget L 5 = .int v5 → jget L 6 = .int v6 → k40 v0 v3 v4 v5 v6 μ = some (r, μ9) → jR B SA d m_R_cycle 40 L [] μ (some (.int r)) μ9) : ∀ (L : JLoc) (v0 : Nat) (v3 : Int32) (v4 : Int32) (v5 : Int32) (v6 : Int32) (μ : JMem) (r : Int32) (μ9 : JMem), jget L 0 = .ref v0 → jget L 3 = .int v3 → jget L 4 = .int v4 → jget L 5 = .int v5 → jget L 6 = .int v6 → g_R_cycle_91 N B k40 v0 v3 v4 v5 v6 μ = some (r, μ9) → jR B SA d m_R_cycle 91 L [] μ (some (.int r)) μ9 := by
  intro L v0 v3 v4 v5 v6 μ r μ9 hl0 hl3 hl4 hl5 hl6 h
  unfold g_R_cycle_91 at h
  refine jr_iinc jf_262_91 jc_i_m1 jml_262 (by decide) hl5 ?_
  exact r_R_cycle_94 hd i40 _ _ _ _ _ _ _ _ _ (jg1_ne rfl hl0) (jg1_ne rfl hl3) (jg1_pre rfl hl4) jg1_same (jg1_ne rfl hl6) h
set_option maxRecDepth 10000 in
set_option maxHeartbeats 4000000 in
theorem r_R_cycle_100 {N B : Nat} {SA : Nat → Nat} {d : Nat} (hd : 3 ≤ d) : ∀ (L : JLoc) (v0 : Nat) (v3 : Int32) (v4 : Int32) (μ : JMem) (r : Int32) (μ9 : JMem), jget L 0 = .ref v0 → jget L 3 = .int v3 → jget L 4 = .int v4 → g_R_cycle_100 N B v0 v3 v4 μ = some (r, μ9) → jR B SA d m_R_cycle 100 L [] μ (some (.int r)) μ9 := by
  intro L v0 v3 v4 μ r μ9 hl0 hl3 hl4 h
  unfold g_R_cycle_100 at h
  refine jr_iload_n jf_262_100 rfl hl3 ?_
  replace h := ite_or h; rcases h with ⟨hc, h⟩ | ⟨hc, h⟩
  · refine jr_if_ne_f jf_262_101 hc ?_
    refine jr_aload_n jf_262_104 rfl hl0 ?_
    replace h := obd_of h; obtain ⟨x1, hx1, h⟩ := h
    refine jr_getA jf_262_105 hx1 ?_
    refine jr_iload jf_262_108 hl4 ?_
    replace h := obd_of h; obtain ⟨a2, rfl, h⟩ := h
    replace h := obd_of h; obtain ⟨x3, hx3, h⟩ := h
    refine jr_iaload jf_262_110 hx3 ?_
    refine jr_ldc_w jf_262_111 ?_
    refine jr_isub jf_262_114 ?_
    refine jr_goto jf_262_115 ?_
    obtain ⟨rfl, rfl⟩ := Prod.mk.inj (Option.some.inj h)
    exact jr_retI jf_262_149 jmt_262
  · refine jr_if_ne_t jf_262_101 hc ?_
    refine jr_iload_n jf_262_118 rfl hl3 ?_
    refine jr_iconst jf_262_119 jc_i_1 ?_
    replace h := ite_or h; rcases h with ⟨hc, h⟩ | ⟨hc, h⟩
    · refine jr_if2_ne_f jf_262_120 hc ?_
      refine jr_aload_n jf_262_123 rfl hl0 ?_
      replace h := obd_of h; obtain ⟨x4, hx4, h⟩ := h
      refine jr_getA jf_262_124 hx4 ?_
      refine jr_iload jf_262_127 hl4 ?_
      replace h := obd_of h; obtain ⟨a5, rfl, h⟩ := h
      replace h := obd_of h; obtain ⟨x6, hx6, h⟩ := h
      refine jr_iaload jf_262_129 hx6 ?_
      refine jr_goto jf_262_130 ?_
      obtain ⟨rfl, rfl⟩ := Prod.mk.inj (Option.some.inj h)
      exact jr_retI jf_262_149 jmt_262
    · refine jr_if2_ne_t jf_262_120 hc ?_
      refine jr_iload_n jf_262_133 rfl hl3 ?_
      refine jr_iconst jf_262_134 jc_i_2 ?_
      replace h := ite_or h; rcases h with ⟨hc, h⟩ | ⟨hc, h⟩
      · refine jr_if2_ne_f jf_262_135 hc ?_
        refine jr_aload_n jf_262_138 rfl hl0 ?_
        replace h := obd_of h; obtain ⟨x7, hx7, h⟩ := h
        refine jr_getA jf_262_139 hx7 ?_
        refine jr_iload jf_262_142 hl4 ?_
        replace h := obd_of h; obtain ⟨a8, rfl, h⟩ := h
        replace h := obd_of h; obtain ⟨x9, hx9, h⟩ := h
        refine jr_iaload jf_262_144 hx9 ?_
        refine jr_goto jf_262_145 ?_
        obtain ⟨rfl, rfl⟩ := Prod.mk.inj (Option.some.inj h)
        exact jr_retI jf_262_149 jmt_262
      · refine jr_if2_ne_t jf_262_135 hc ?_
        refine jr_iconst jf_262_148 jc_i_0 ?_
        obtain ⟨rfl, rfl⟩ := Prod.mk.inj (Option.some.inj h)
        exact jr_retI jf_262_149 jmt_262
set_option maxRecDepth 10000 in
set_option maxHeartbeats 4000000 in
theorem r_R_cycle_40 {N B : Nat} {SA : Nat → Nat} {d : Nat} (hd : 3 ≤ d) : ∀ (n : Nat), ∀ (L : JLoc) (v0 : Nat) (v3 : Int32) (v4 : Int32) (v5 : Int32) (v6 : Int32) (μ : JMem) (r : Int32) (μ9 : JMem), jget L 0 = .ref v0 → jget L 3 = .int v3 → jget L 4 = .int v4 → jget L 5 = .int v5 → jget L 6 = .int v6 → g_R_cycle_40 N B n v0 v3 v4 v5 v6 μ = some (r, μ9) → jR B SA d m_R_cycle 40 L [] μ (some (.int r)) μ9 := by
  intro n
  induction n with
  | zero =>
    intro L v0 v3 v4 v5 v6 μ r μ9 hl0 hl3 hl4 hl5 hl6 h
    unfold g_R_cycle_40 at h
    cases h
  | succ n ih =>
    intro L v0 v3 v4 v5 v6 μ r μ9 hl0 hl3 hl4 hl5 hl6 h
    unfold g_R_cycle_40 at h
    refine jr_iload jf_262_40 hl6 ?_
    refine jr_ldc jf_262_42 ?_
    replace h := ite_or h; rcases h with ⟨hc, h⟩ | ⟨hc, h⟩
    · refine jr_if2_ge_t jf_262_44 hc ?_
      exact r_R_cycle_100 hd _ _ _ _ _ _ _ hl0 hl3 hl4 h
    · refine jr_if2_ge_f jf_262_44 hc ?_
      refine jr_iload jf_262_47 hl4 ?_
      refine jr_iconst jf_262_49 jc_i_m1 ?_
      replace h := ite_or h; rcases h with ⟨hc, h⟩ | ⟨hc, h⟩
      · refine jr_if2_ne_f jf_262_50 hc ?_
        refine jr_aload_n jf_262_53 rfl hl0 ?_
        replace h := obd_of h; obtain ⟨x1, hx1, h⟩ := h
        refine jr_getA jf_262_54 hx1 ?_
        refine jr_aload_n jf_262_57 rfl hl0 ?_
        replace h := obd_of h; obtain ⟨x2, hx2, h⟩ := h
        refine jr_getA jf_262_58 hx2 ?_
        refine jr_iload jf_262_61 hl6 ?_
        replace h := obd_of h; obtain ⟨a3, rfl, h⟩ := h
        replace h := obd_of h; obtain ⟨x4, hx4, h⟩ := h
        refine jr_iaload jf_262_63 hx4 ?_
        refine jr_iconst jf_262_64 jc_i_1 ?_
        refine jr_isub jf_262_65 ?_
        replace h := obd_of h; obtain ⟨a5, rfl, h⟩ := h
        replace h := obd_of h; obtain ⟨x6, hx6, h⟩ := h
        refine jr_iaload jf_262_66 hx6 ?_
        refine jr_iload jf_262_67 hl6 ?_
        replace h := ite_or h; rcases h with ⟨hc, h⟩ | ⟨hc, h⟩
        · refine jr_if2_eq_t jf_262_69 hc ?_
          refine jr_iload jf_262_75 hl5 ?_
          replace h := ite_or h; rcases h with ⟨hc, h⟩ | ⟨hc, h⟩
          · refine jr_if_ne_f jf_262_77 hc ?_
            refine jr_aload_n jf_262_80 rfl hl0 ?_
            replace h := obd_of h; obtain ⟨x7, hx7, h⟩ := h
            refine jr_getA jf_262_81 hx7 ?_
            refine jr_iload jf_262_84 hl6 ?_
            replace h := obd_of h; obtain ⟨a8, rfl, h⟩ := h
            replace h := obd_of h; obtain ⟨x9, hx9, h⟩ := h
            refine jr_iaload jf_262_86 hx9 ?_
            refine jr_iconst jf_262_87 jc_i_1 ?_
            refine jr_isub jf_262_88 ?_
            refine jr_istore jf_262_89 jml_262 (by decide) ?_
            exact r_R_cycle_91 hd ih _ _ _ _ _ _ _ _ _ (jg1_ne rfl hl0) (jg1_pre rfl hl3) jg1_same (jg1_ne rfl hl5) (jg1_ne rfl hl6) h
          · refine jr_if_ne_t jf_262_77 hc ?_
            exact r_R_cycle_91 hd ih _ _ _ _ _ _ _ _ _ hl0 hl3 hl4 hl5 hl6 h
        · refine jr_if2_eq_f jf_262_69 hc ?_
          refine jr_goto jf_262_72 ?_
          exact r_R_cycle_94 hd ih _ _ _ _ _ _ _ _ _ hl0 hl3 hl4 hl5 hl6 h
      · refine jr_if2_ne_t jf_262_50 hc ?_
        exact r_R_cycle_100 hd _ _ _ _ _ _ _ hl0 hl3 hl4 h
set_option maxRecDepth 10000 in
set_option maxHeartbeats 4000000 in
theorem r_R_cycle_e {N B : Nat} {SA : Nat → Nat} {d : Nat} (hd : 3 ≤ d) : ∀ (L : JLoc) (v0 : Nat) (v1 : Int32) (v2 : Int32) (v3 : Int32) (μ : JMem) (r : Int32) (μ9 : JMem), jget L 0 = .ref v0 → jget L 1 = .int v1 → jget L 2 = .int v2 → jget L 3 = .int v3 → g_R_cycle N B v0 v1 v2 v3 μ = some (r, μ9) → jR B SA d m_R_cycle 0 L [] μ (some (.int r)) μ9 := by
  intro L v0 v1 v2 v3 μ r μ9 hl0 hl1 hl2 hl3 h
  unfold g_R_cycle at h
  refine jr_aload_n jf_262_0 rfl hl0 ?_
  refine jr_iload_n jf_262_1 rfl hl1 ?_
  replace h := jgd_of h; obtain ⟨hb1, h⟩ := h
  replace h := obd_of h; obtain ⟨x2, hx2, h⟩ := h
  refine jr_V6_1 jf_262_2 hb1 (by omega) (r_R_isDead (by omega) _ _ _ _ hx2) (Nat.le_of_ble_eq_true rfl) jml_260 (Nat.le_of_ble_eq_true rfl) ?_
  replace h := ite_or h; rcases h with ⟨hc, h⟩ | ⟨hc, h⟩
  · refine jr_ifz_ne_t jf_262_5 hc ?_
    refine jr_aload_n jf_262_10 rfl hl0 ?_
    refine jr_iload_n jf_262_11 rfl hl1 ?_
    replace h := jgd_of h; obtain ⟨hb3, h⟩ := h
    replace h := obd_of h; obtain ⟨μ4, hμ4, h⟩ := h
    refine jr_V6v_1 jf_262_12 hb3 (by omega) (r_R_finds (by omega) _ _ _ _ hμ4) (Nat.le_of_ble_eq_true rfl) jml_261 (Nat.le_of_ble_eq_true rfl) ?_
    refine jr_iload_n jf_262_15 rfl hl2 ?_
    refine jr_iconst jf_262_16 jc_i_0 ?_
    refine jr_aload_n jf_262_17 rfl hl0 ?_
    replace h := obd_of h; obtain ⟨x5, hx5, h⟩ := h
    refine jr_getI jf_262_18 hx5 ?_
    refine jr_iconst jf_262_21 jc_i_1 ?_
    refine jr_isub jf_262_22 ?_
    refine jr_S3_3 jf_262_23 (by omega) (r_R_in (by omega) _ _ _ _ _ rfl) (Nat.le_of_ble_eq_true rfl) jml_189 (Nat.le_of_ble_eq_true rfl) ?_
    replace h := ite_or h; rcases h with ⟨hc, h⟩ | ⟨hc, h⟩
    · refine jr_ifz_ne_t jf_262_26 hc ?_
      refine jr_iconst jf_262_31 jc_i_m1 ?_
      refine jr_istore jf_262_32 jml_262 (by decide) ?_
      refine jr_iload_n jf_262_34 rfl (jg1_ne rfl hl2) ?_
      refine jr_istore jf_262_35 jml_262 (by decide) ?_
      refine jr_iconst jf_262_37 jc_i_0 ?_
      refine jr_istore jf_262_38 jml_262 (by decide) ?_
      exact r_R_cycle_40 hd _ _ _ _ _ _ _ _ _ _ (jg1_ne rfl (jg1_ne rfl (jg1_ne rfl hl0))) (jg1_ne rfl (jg1_ne rfl (jg1_pre rfl hl3))) (jg1_ne rfl (jg1_pre rfl jg1_same)) (jg1_pre rfl jg1_same) jg1_same h
    · refine jr_ifz_ne_f jf_262_26 hc ?_
      refine jr_iconst jf_262_29 jc_i_0 ?_
      obtain ⟨rfl, rfl⟩ := Prod.mk.inj (Option.some.inj h)
      exact jr_retI jf_262_30 jmt_262
  · refine jr_ifz_ne_f jf_262_5 hc ?_
    refine jr_iconst jf_262_8 jc_i_0 ?_
    obtain ⟨rfl, rfl⟩ := Prod.mk.inj (Option.some.inj h)
    exact jr_retI jf_262_9 jmt_262
set_option maxRecDepth 10000 in
set_option maxHeartbeats 4000000 in
theorem r_R_cycle {N B : Nat} {SA : Nat → Nat} {d : Nat} (hd : 3 ≤ d) : ∀ (v0 : Nat) (v1 : Int32) (v2 : Int32) (v3 : Int32) (μ : JMem) (r : Int32) (μ9 : JMem), g_R_cycle N B v0 v1 v2 v3 μ = some (r, μ9) → jR B SA d m_R_cycle 0 (lv_args 0 [.ref v0, .int v1, .int v2, .int v3]) [] μ (some (.int r)) μ9 := by
  intro v0 v1 v2 v3 μ r μ9 h
  exact r_R_cycle_e hd (lv_args 0 _) _ _ _ _ _ _ _ (by simp [lv_args, jget, rv_cat, cat_int, cat_long, cat_double, cat_float, cat_ref]) (by simp [lv_args, jget, rv_cat, cat_int, cat_long, cat_double, cat_float, cat_ref]) (by simp [lv_args, jget, rv_cat, cat_int, cat_long, cat_double, cat_float, cat_ref]) (by simp [lv_args, jget, rv_cat, cat_int, cat_long, cat_double, cat_float, cat_ref]) h
/-! FilterBenchModel.turned(DIIZ)D -/
set_option maxRecDepth 10000 in
set_option maxHeartbeats 4000000 in
theorem r_R_turned_172 {B : Nat} {SA : Nat → Nat} {d : Nat} (hd : 0 ≤ d) : ∀ (L : JLoc) (v9 : UInt64) (μ : JMem) (r : UInt64), jget L 9 = .double v9 → g_R_turned_172 v9 = some r → jR B SA d m_R_turned 172 L [] μ (some (.double r)) μ := by
  intro L v9 μ r hl9 h
  unfold g_R_turned_172 at h
  refine jr_dload jf_265_172 hl9 ?_
  refine jr_ldc2d jf_265_174 ?_
  refine jr_dcmp jf_265_177 ?_
  replace h := ite_or h; rcases h with ⟨hc, h⟩ | ⟨hc, h⟩
  · refine jr_if_lt_t jf_265_178 hc ?_
    refine jr_ldc2d jf_265_197 ?_
    obtain rfl := Option.some.inj h
    exact jr_retD jf_265_200 jmt_265
  · refine jr_if_lt_f jf_265_178 hc ?_
    refine jr_dload jf_265_181 hl9 ?_
    refine jr_ldc2d jf_265_183 ?_
    refine jr_dcmp jf_265_186 ?_
    replace h := ite_or h; rcases h with ⟨hc, h⟩ | ⟨hc, h⟩
    · refine jr_if_gt_t jf_265_187 hc ?_
      refine jr_ldc2d jf_265_197 ?_
      obtain rfl := Option.some.inj h
      exact jr_retD jf_265_200 jmt_265
    · refine jr_if_gt_f jf_265_187 hc ?_
      refine jr_dload jf_265_190 hl9 ?_
      refine jr_dconst0 jf_265_192 ?_
      replace h := obd_of h; obtain ⟨x1, hx1, h⟩ := h
      refine jr_dadd jf_265_193 hx1 ?_
      refine jr_goto jf_265_194 ?_
      obtain rfl := Option.some.inj h
      exact jr_retD jf_265_200 jmt_265
set_option maxRecDepth 10000 in
set_option maxHeartbeats 4000000 in
theorem r_R_turned_166 {B : Nat} {SA : Nat → Nat} {d : Nat} (hd : 0 ≤ d) : ∀ (L : JLoc) (v9 : UInt64) (μ : JMem) (r : UInt64), jget L 9 = .double v9 → g_R_turned_166 v9 = some r → jR B SA d m_R_turned 166 L [] μ (some (.double r)) μ := by
  intro L v9 μ r hl9 h
  unfold g_R_turned_166 at h
  refine jr_dload jf_265_166 hl9 ?_
  refine jr_dconst1 jf_265_168 ?_
  replace h := obd_of h; obtain ⟨x1, hx1, h⟩ := h
  refine jr_dadd jf_265_169 hx1 ?_
  refine jr_dstore jf_265_170 jml_265 (by decide) ?_
  exact r_R_turned_172 hd _ _ _ _ jg2_same h
set_option maxRecDepth 10000 in
set_option maxHeartbeats 4000000 in
theorem r_R_turned_141 {B : Nat} {SA : Nat → Nat} {d : Nat} (hd : 0 ≤ d) : ∀ (L : JLoc) (v9 : UInt64) (v11 : UInt64) (s0 : Bool) (μ : JMem) (r : UInt64), jget L 9 = .double v9 → jget L 11 = .double v11 → g_R_turned_141 v9 v11 s0 = some r → jR B SA d m_R_turned 141 L [.int (jb s0)] μ (some (.double r)) μ := by
  intro L v9 v11 s0 μ r hl9 hl11 h
  unfold g_R_turned_141 at h
  refine jr_istore jf_265_141 jml_265 (by decide) ?_
  refine jr_dload jf_265_143 (jg1_ne rfl hl11) ?_
  refine jr_ldc2d jf_265_145 ?_
  refine jr_dcmp jf_265_148 ?_
  replace h := ite_or h; rcases h with ⟨hc, h⟩ | ⟨hc, h⟩
  · refine jr_if_gt_t jf_265_149 hc ?_
    exact r_R_turned_166 hd _ _ _ _ (jg1_ne rfl hl9) h
  · refine jr_if_gt_f jf_265_149 hc ?_
    refine jr_dload jf_265_152 (jg1_ne rfl hl11) ?_
    refine jr_ldc2d jf_265_154 ?_
    refine jr_dcmp jf_265_157 ?_
    replace h := ite_or h; rcases h with ⟨hc, h⟩ | ⟨hc, h⟩
    · refine jr_if_ne_f jf_265_158 hc ?_
      refine jr_iload jf_265_161 jg1_same ?_
      replace h := ite_or h; rcases h with ⟨hc, h⟩ | ⟨hc, h⟩
      · refine jr_ifz_eq_f jf_265_163 hc ?_
        exact r_R_turned_166 hd _ _ _ _ (jg1_ne rfl hl9) h
      · refine jr_ifz_eq_t jf_265_163 hc ?_
        exact r_R_turned_172 hd _ _ _ _ (jg1_ne rfl hl9) h
    · refine jr_if_ne_t jf_265_158 hc ?_
      exact r_R_turned_172 hd _ _ _ _ (jg1_ne rfl hl9) h
set_option maxRecDepth 10000 in
set_option maxHeartbeats 4000000 in
theorem r_R_turned_119 {B : Nat} {SA : Nat → Nat} {d : Nat} (hd : 0 ≤ d) : ∀ (L : JLoc) (v7 : UInt64) (v9 : UInt64) (μ : JMem) (r : UInt64), jget L 7 = .double v7 → jget L 9 = .double v9 → g_R_turned_119 v7 v9 = some r → jR B SA d m_R_turned 119 L [] μ (some (.double r)) μ := by
  intro L v7 v9 μ r hl7 hl9 h
  unfold g_R_turned_119 at h
  refine jr_dload jf_265_119 hl7 ?_
  refine jr_dload jf_265_121 hl9 ?_
  replace h := obd_of h; obtain ⟨x1, hx1, h⟩ := h
  refine jr_dsub jf_265_123 hx1 ?_
  refine jr_dstore jf_265_124 jml_265 (by decide) ?_
  refine jr_dload jf_265_126 (jg2_ne rfl hl9) ?_
  refine jr_d2l jf_265_128 ?_
  refine jr_lconst1 jf_265_129 ?_
  refine jr_land jf_265_130 ?_
  refine jr_lconst1 jf_265_131 ?_
  refine jr_lcmp jf_265_132 ?_
  replace h := ite_or h; rcases h with ⟨hc, h⟩ | ⟨hc, h⟩
  · refine jr_ifl_ne_f jf_265_133 hc ?_
    refine jr_iconst jf_265_136 jc_i_1 ?_
    refine jr_goto jf_265_137 ?_
    exact r_R_turned_141 hd _ _ _ true _ _ (jg2_ne rfl hl9) jg2_same h
  · refine jr_ifl_ne_t jf_265_133 hc ?_
    refine jr_iconst jf_265_140 jc_i_0 ?_
    exact r_R_turned_141 hd _ _ _ false _ _ (jg2_ne rfl hl9) jg2_same h
set_option maxRecDepth 10000 in
set_option maxHeartbeats 4000000 in
theorem r_R_turned_75 {B : Nat} {SA : Nat → Nat} {d : Nat} (hd : 0 ≤ d) : ∀ (L : JLoc) (s0 : UInt64) (μ : JMem) (r : UInt64), g_R_turned_75 s0 = some r → jR B SA d m_R_turned 75 L [.double s0] μ (some (.double r)) μ := by
  intro L s0 μ r h
  unfold g_R_turned_75 at h
  refine jr_dstore jf_265_75 jml_265 (by decide) ?_
  refine jr_dload jf_265_77 jg2_same ?_
  refine jr_ldc2d jf_265_79 ?_
  refine jr_dcmp jf_265_82 ?_
  replace h := ite_or h; rcases h with ⟨hc, h⟩ | ⟨hc, h⟩
  · refine jr_if_le_t jf_265_83 hc ?_
    refine jr_ldc2d jf_265_95 ?_
    obtain rfl := Option.some.inj h
    exact jr_retD jf_265_98 jmt_265
  · refine jr_if_le_f jf_265_83 hc ?_
    refine jr_dload jf_265_86 jg2_same ?_
    refine jr_ldc2d jf_265_88 ?_
    refine jr_dcmp jf_265_91 ?_
    replace h := ite_or h; rcases h with ⟨hc, h⟩ | ⟨hc, h⟩
    · refine jr_if_lt_t jf_265_92 hc ?_
      refine jr_dload jf_265_99 jg2_same ?_
      refine jr_d2l jf_265_101 ?_
      refine jr_l2d jf_265_102 ?_
      refine jr_dstore jf_265_103 jml_265 (by decide) ?_
      refine jr_dload jf_265_105 jg2_same ?_
      refine jr_dload jf_265_107 (jg2_ne rfl jg2_same) ?_
      refine jr_dcmp jf_265_109 ?_
      replace h := ite_or h; rcases h with ⟨hc, h⟩ | ⟨hc, h⟩
      · refine jr_if_le_t jf_265_110 hc ?_
        exact r_R_turned_119 hd _ _ _ _ _ (jg2_ne rfl jg2_same) jg2_same h
      · refine jr_if_le_f jf_265_110 hc ?_
        refine jr_dload jf_265_113 jg2_same ?_
        refine jr_dconst1 jf_265_115 ?_
        replace h := obd_of h; obtain ⟨x1, hx1, h⟩ := h
        refine jr_dsub jf_265_116 hx1 ?_
        refine jr_dstore jf_265_117 jml_265 (by decide) ?_
        exact r_R_turned_119 hd _ _ _ _ _ (jg2_ne rfl (jg2_ne rfl jg2_same)) jg2_same h
    · refine jr_if_lt_f jf_265_92 hc ?_
      refine jr_ldc2d jf_265_95 ?_
      obtain rfl := Option.some.inj h
      exact jr_retD jf_265_98 jmt_265
set_option maxRecDepth 10000 in
set_option maxHeartbeats 4000000 in
theorem r_R_turned_40 {B : Nat} {SA : Nat → Nat} {d : Nat} (hd : 0 ≤ d) : ∀ (L : JLoc) (v3 : Int32) (v4 : Bool) (s0 : UInt64) (μ : JMem) (r : UInt64), jget L 3 = .int v3 → jget L 4 = .int (jb v4) → g_R_turned_40 v3 v4 s0 = some r → jR B SA d m_R_turned 40 L [.double s0] μ (some (.double r)) μ := by
  intro L v3 v4 s0 μ r hl3 hl4 h
  unfold g_R_turned_40 at h
  refine jr_dstore jf_265_40 jml_265 (by decide) ?_
  refine jr_iload_n jf_265_42 rfl (jg2_ne rfl hl3) ?_
  replace h := ite_or h; rcases h with ⟨hc, h⟩ | ⟨hc, h⟩
  · refine jr_if_ne_f jf_265_43 hc ?_
    refine jr_dload jf_265_46 jg2_same ?_
    obtain rfl := Option.some.inj h
    exact jr_retD jf_265_48 jmt_265
  · refine jr_if_ne_t jf_265_43 hc ?_
    refine jr_iload_n jf_265_49 rfl (jg2_ne rfl hl3) ?_
    refine jr_iconst jf_265_50 jc_i_1 ?_
    replace h := ite_or h; rcases h with ⟨hc, h⟩ | ⟨hc, h⟩
    · refine jr_if2_ne_f jf_265_51 hc ?_
      refine jr_dload jf_265_54 jg2_same ?_
      replace h := obd_of h; obtain ⟨x1, hx1, h⟩ := h
      refine jr_d2f jf_265_56 hx1 ?_
      replace h := obd_of h; obtain ⟨x2, hx2, h⟩ := h
      refine jr_f2d jf_265_57 hx2 ?_
      obtain rfl := Option.some.inj h
      exact jr_retD jf_265_58 jmt_265
    · refine jr_if2_ne_t jf_265_51 hc ?_
      refine jr_iload jf_265_59 (jg2_pre rfl hl4) ?_
      replace h := ite_or h; rcases h with ⟨hc, h⟩ | ⟨hc, h⟩
      · refine jr_ifz_eq_f jf_265_61 hc ?_
        refine jr_dload jf_265_64 jg2_same ?_
        refine jr_goto jf_265_66 ?_
        exact r_R_turned_75 hd _ _ _ _ h
      · refine jr_ifz_eq_t jf_265_61 hc ?_
        refine jr_ldc2d jf_265_69 ?_
        refine jr_dload jf_265_72 jg2_same ?_
        replace h := obd_of h; obtain ⟨x3, hx3, h⟩ := h
        refine jr_dmul jf_265_74 hx3 ?_
        exact r_R_turned_75 hd _ _ _ _ h
set_option maxRecDepth 10000 in
set_option maxHeartbeats 4000000 in
theorem r_R_turned_39 {B : Nat} {SA : Nat → Nat} {d : Nat} (hd : 0 ≤ d) : ∀ (L : JLoc) (v0 : UInt64) (v3 : Int32) (v4 : Bool) (μ : JMem) (r : UInt64), jget L 0 = .double v0 → jget L 3 = .int v3 → jget L 4 = .int (jb v4) → g_R_turned_39 v0 v3 v4 = some r → jR B SA d m_R_turned 39 L [] μ (some (.double r)) μ := by
  intro L v0 v3 v4 μ r hl0 hl3 hl4 h
  unfold g_R_turned_39 at h
  refine jr_dload_n jf_265_39 rfl hl0 ?_
  exact r_R_turned_40 hd _ _ _ _ _ _ hl3 hl4 h
set_option maxRecDepth 10000 in
set_option maxHeartbeats 4000000 in
theorem r_R_turned_e {B : Nat} {SA : Nat → Nat} {d : Nat} (hd : 0 ≤ d) : ∀ (L : JLoc) (v0 : UInt64) (v2 : Int32) (v3 : Int32) (v4 : Bool) (μ : JMem) (r : UInt64), jget L 0 = .double v0 → jget L 2 = .int v2 → jget L 3 = .int v3 → jget L 4 = .int (jb v4) → g_R_turned v0 v2 v3 v4 = some r → jR B SA d m_R_turned 0 L [] μ (some (.double r)) μ := by
  intro L v0 v2 v3 v4 μ r hl0 hl2 hl3 hl4 h
  unfold g_R_turned at h
  refine jr_dload_n jf_265_0 rfl hl0 ?_
  refine jr_dload_n jf_265_1 rfl hl0 ?_
  refine jr_dcmp jf_265_2 ?_
  replace h := ite_or h; rcases h with ⟨hc, h⟩ | ⟨hc, h⟩
  · refine jr_if_eq_t jf_265_3 hc ?_
    refine jr_iload_n jf_265_21 rfl hl2 ?_
    refine jr_iconst jf_265_22 jc_i_2 ?_
    replace h := ite_or h; rcases h with ⟨hc, h⟩ | ⟨hc, h⟩
    · refine jr_if2_ne_f jf_265_23 hc ?_
      refine jr_iload jf_265_26 hl4 ?_
      replace h := ite_or h; rcases h with ⟨hc, h⟩ | ⟨hc, h⟩
      · refine jr_ifz_ne_t jf_265_28 hc ?_
        exact r_R_turned_39 hd _ _ _ _ _ _ hl0 hl3 hl4 h
      · refine jr_ifz_ne_f jf_265_28 hc ?_
        refine jr_dload_n jf_265_31 rfl hl0 ?_
        refine jr_ldc2d jf_265_32 ?_
        replace h := obd_of h; obtain ⟨x1, hx1, h⟩ := h
        refine jr_ddiv jf_265_35 hx1 ?_
        refine jr_goto jf_265_36 ?_
        exact r_R_turned_40 hd _ _ _ _ _ _ hl3 hl4 h
    · refine jr_if2_ne_t jf_265_23 hc ?_
      exact r_R_turned_39 hd _ _ _ _ _ _ hl0 hl3 hl4 h
  · refine jr_if_eq_f jf_265_3 hc ?_
    refine jr_iload_n jf_265_6 rfl hl3 ?_
    refine jr_iconst jf_265_7 jc_i_2 ?_
    replace h := ite_or h; rcases h with ⟨hc, h⟩ | ⟨hc, h⟩
    · refine jr_if2_ne_f jf_265_8 hc ?_
      refine jr_ldc2d jf_265_11 ?_
      refine jr_goto jf_265_14 ?_
      obtain rfl := Option.some.inj h
      exact jr_retD jf_265_20 jmt_265
    · refine jr_if2_ne_t jf_265_8 hc ?_
      refine jr_ldc2d jf_265_17 ?_
      obtain rfl := Option.some.inj h
      exact jr_retD jf_265_20 jmt_265
set_option maxRecDepth 10000 in
set_option maxHeartbeats 4000000 in
theorem r_R_turned {B : Nat} {SA : Nat → Nat} {d : Nat} (hd : 0 ≤ d) : ∀ (v0 : UInt64) (v2 : Int32) (v3 : Int32) (v4 : Bool) (μ : JMem) (r : UInt64), g_R_turned v0 v2 v3 v4 = some r → jR B SA d m_R_turned 0 (lv_args 0 [.double v0, .int v2, .int v3, .int (jb v4)]) [] μ (some (.double r)) μ := by
  intro v0 v2 v3 v4 μ r h
  exact r_R_turned_e hd (lv_args 0 _) _ _ _ _ _ _ (by simp [lv_args, jget, rv_cat, cat_int, cat_long, cat_double, cat_float, cat_ref]) (by simp [lv_args, jget, rv_cat, cat_int, cat_long, cat_double, cat_float, cat_ref]) (by simp [lv_args, jget, rv_cat, cat_int, cat_long, cat_double, cat_float, cat_ref]) (by simp [lv_args, jget, rv_cat, cat_int, cat_long, cat_double, cat_float, cat_ref]) h
/-! FilterBenchModel.gathers(III)I -/
set_option maxRecDepth 10000 in
set_option maxHeartbeats 4000000 in
theorem r_R_gathers_55 {N B : Nat} {SA : Nat → Nat} {d : Nat} (hd : 1 ≤ d) : ∀ (n : Nat), ∀ (L : JLoc) (v0 : Nat) (v1 : Int32) (v2 : Int32) (v3 : Int32) (v4 : Int32) (v5 : Int32) (μ : JMem) (r : Int32) (μ9 : JMem), jget L 0 = .ref v0 → jget L 1 = .int v1 → jget L 2 = .int v2 → jget L 3 = .int v3 → jget L 4 = .int v4 → jget L 5 = .int v5 → g_R_gathers_55 N B n v0 v1 v2 v3 v4 v5 μ = some (r, μ9) → jR B SA d m_R_gathers 55 L [] μ (some (.int r)) μ9 := by
  intro n
  induction n with
  | zero =>
    intro L v0 v1 v2 v3 v4 v5 μ r μ9 hl0 hl1 hl2 hl3 hl4 hl5 h
    unfold g_R_gathers_55 at h
    cases h
  | succ n ih =>
    intro L v0 v1 v2 v3 v4 v5 μ r μ9 hl0 hl1 hl2 hl3 hl4 hl5 h
    unfold g_R_gathers_55 at h
    refine jr_iload jf_267_55 hl5 ?_
    refine jr_iconst jf_267_57 jc_i_3 ?_
    refine jr_iload_n jf_267_58 rfl hl1 ?_
    refine jr_imul jf_267_59 ?_
    refine jr_aload_n jf_267_60 rfl hl0 ?_
    replace h := obd_of h; obtain ⟨x1, hx1, h⟩ := h
    refine jr_getA jf_267_61 hx1 ?_
    refine jr_iload_n jf_267_64 rfl hl1 ?_
    replace h := obd_of h; obtain ⟨a2, rfl, h⟩ := h
    replace h := obd_of h; obtain ⟨x3, hx3, h⟩ := h
    refine jr_iaload jf_267_65 hx3 ?_
    refine jr_iadd jf_267_66 ?_
    replace h := ite_or h; rcases h with ⟨hc, h⟩ | ⟨hc, h⟩
    · refine jr_if2_ge_t jf_267_67 hc ?_
      refine jr_iload jf_267_117 hl4 ?_
      obtain ⟨rfl, rfl⟩ := Prod.mk.inj (Option.some.inj h)
      exact jr_retI jf_267_119 jmt_267
    · refine jr_if2_ge_f jf_267_67 hc ?_
      refine jr_aload_n jf_267_70 rfl hl0 ?_
      refine jr_iload jf_267_71 hl4 ?_
      refine jr_aload_n jf_267_73 rfl hl0 ?_
      replace h := obd_of h; obtain ⟨x4, hx4, h⟩ := h
      refine jr_getA jf_267_74 hx4 ?_
      refine jr_iload jf_267_77 hl5 ?_
      replace h := obd_of h; obtain ⟨a5, rfl, h⟩ := h
      replace h := obd_of h; obtain ⟨x6, hx6, h⟩ := h
      refine jr_iaload jf_267_79 hx6 ?_
      refine jr_aload_n jf_267_80 rfl hl0 ?_
      replace h := obd_of h; obtain ⟨x7, hx7, h⟩ := h
      refine jr_getA jf_267_81 hx7 ?_
      refine jr_iload jf_267_84 hl5 ?_
      replace h := obd_of h; obtain ⟨a8, rfl, h⟩ := h
      replace h := obd_of h; obtain ⟨x9, hx9, h⟩ := h
      refine jr_iaload jf_267_86 hx9 ?_
      refine jr_aload_n jf_267_87 rfl hl0 ?_
      replace h := obd_of h; obtain ⟨x10, hx10, h⟩ := h
      refine jr_getA jf_267_88 hx10 ?_
      refine jr_iload jf_267_91 hl5 ?_
      replace h := obd_of h; obtain ⟨a11, rfl, h⟩ := h
      replace h := obd_of h; obtain ⟨x12, hx12, h⟩ := h
      refine jr_iaload jf_267_93 hx12 ?_
      refine jr_aload_n jf_267_94 rfl hl0 ?_
      replace h := obd_of h; obtain ⟨x13, hx13, h⟩ := h
      refine jr_getA jf_267_95 hx13 ?_
      refine jr_iload jf_267_98 hl5 ?_
      replace h := obd_of h; obtain ⟨a14, rfl, h⟩ := h
      replace h := obd_of h; obtain ⟨x15, hx15, h⟩ := h
      refine jr_daload jf_267_100 hx15 ?_
      refine jr_iload_n jf_267_101 rfl hl2 ?_
      refine jr_iload_n jf_267_102 rfl hl3 ?_
      refine jr_iconst jf_267_103 jc_i_0 ?_
      replace h := obd_of h; obtain ⟨x16, hx16, h⟩ := h
      refine jr_S3_4 jf_267_104 (by omega) (r_R_turned (by omega) _ _ _ _ _ _ hx16) (Nat.le_of_ble_eq_true rfl) jml_265 (Nat.le_of_ble_eq_true rfl) ?_
      replace h := jgd_of h; obtain ⟨hb17, h⟩ := h
      replace h := jbd2_of h; obtain ⟨x18, μ19, hx18, h⟩ := h
      refine jr_V6_5 jf_267_107 hb17 (by omega) (r_R_newLoop (by omega) _ _ _ _ _ _ _ _ _ hx18) (Nat.le_of_ble_eq_true rfl) jml_211 (Nat.le_of_ble_eq_true rfl) ?_
      refine jr_pop jf_267_110 rfl ?_
      refine jr_iinc jf_267_111 jc_i_1 jml_267 (by decide) hl5 ?_
      refine jr_goto jf_267_114 ?_
      exact ih _ _ _ _ _ _ _ _ _ _ (jg1_ne rfl hl0) (jg1_ne rfl hl1) (jg1_ne rfl hl2) (jg1_ne rfl hl3) (jg1_pre rfl hl4) jg1_same h
set_option maxRecDepth 10000 in
set_option maxHeartbeats 4000000 in
theorem r_R_gathers_9 {N B : Nat} {SA : Nat → Nat} {d : Nat} (hd : 1 ≤ d) : ∀ (n : Nat), ∀ (L : JLoc) (v0 : Nat) (v1 : Int32) (v2 : Int32) (v3 : Int32) (v4 : Int32) (v5 : Int32) (μ : JMem) (r : Int32) (μ9 : JMem), jget L 0 = .ref v0 → jget L 1 = .int v1 → jget L 2 = .int v2 → jget L 3 = .int v3 → jget L 4 = .int v4 → jget L 5 = .int v5 → g_R_gathers_9 N B n v0 v1 v2 v3 v4 v5 μ = some (r, μ9) → jR B SA d m_R_gathers 9 L [] μ (some (.int r)) μ9 := by
  intro n
  induction n with
  | zero =>
    intro L v0 v1 v2 v3 v4 v5 μ r μ9 hl0 hl1 hl2 hl3 hl4 hl5 h
    unfold g_R_gathers_9 at h
    cases h
  | succ n ih =>
    intro L v0 v1 v2 v3 v4 v5 μ r μ9 hl0 hl1 hl2 hl3 hl4 hl5 h
    unfold g_R_gathers_9 at h
    refine jr_iload jf_267_9 hl5 ?_
    refine jr_aload_n jf_267_11 rfl hl0 ?_
    replace h := obd_of h; obtain ⟨x1, hx1, h⟩ := h
    refine jr_getA jf_267_12 hx1 ?_
    refine jr_iload_n jf_267_15 rfl hl1 ?_
    replace h := obd_of h; obtain ⟨a2, rfl, h⟩ := h
    replace h := obd_of h; obtain ⟨x3, hx3, h⟩ := h
    refine jr_iaload jf_267_16 hx3 ?_
    replace h := ite_or h; rcases h with ⟨hc, h⟩ | ⟨hc, h⟩
    · refine jr_if2_ge_t jf_267_17 hc ?_
      refine jr_iconst jf_267_50 jc_i_3 ?_
      refine jr_iload_n jf_267_51 rfl hl1 ?_
      refine jr_imul jf_267_52 ?_
      refine jr_istore jf_267_53 jml_267 (by decide) ?_
      exact r_R_gathers_55 hd _ _ _ _ _ _ _ _ _ _ _ (jg1_ne rfl hl0) (jg1_ne rfl hl1) (jg1_ne rfl hl2) (jg1_ne rfl hl3) (jg1_pre rfl hl4) jg1_same h
    · refine jr_if2_ge_f jf_267_17 hc ?_
      refine jr_aload_n jf_267_20 rfl hl0 ?_
      refine jr_iload jf_267_21 hl4 ?_
      refine jr_aload_n jf_267_23 rfl hl0 ?_
      replace h := obd_of h; obtain ⟨x4, hx4, h⟩ := h
      refine jr_getA jf_267_24 hx4 ?_
      refine jr_aload_n jf_267_27 rfl hl0 ?_
      replace h := obd_of h; obtain ⟨x5, hx5, h⟩ := h
      refine jr_getA jf_267_28 hx5 ?_
      refine jr_bipush jf_267_31 jc_b_10 ?_
      refine jr_iload_n jf_267_33 rfl hl1 ?_
      refine jr_imul jf_267_34 ?_
      refine jr_iload jf_267_35 hl5 ?_
      refine jr_iadd jf_267_37 ?_
      replace h := obd_of h; obtain ⟨a6, rfl, h⟩ := h
      replace h := obd_of h; obtain ⟨x7, hx7, h⟩ := h
      refine jr_iaload jf_267_38 hx7 ?_
      replace h := obd_of h; obtain ⟨a8, rfl, h⟩ := h
      replace h := obd_of h; obtain ⟨x9, hx9, h⟩ := h
      refine jr_iaload jf_267_39 hx9 ?_
      replace h := jgd_of h; obtain ⟨hb10, h⟩ := h
      replace h := jbd2_of h; obtain ⟨x11, μ12, hx11, h⟩ := h
      refine jr_V6_2 jf_267_40 hb10 (by omega) (r_R_join (by omega) _ _ _ _ _ _ hx11) (Nat.le_of_ble_eq_true rfl) jml_209 (Nat.le_of_ble_eq_true rfl) ?_
      refine jr_pop jf_267_43 rfl ?_
      refine jr_iinc jf_267_44 jc_i_1 jml_267 (by decide) hl5 ?_
      refine jr_goto jf_267_47 ?_
      exact ih _ _ _ _ _ _ _ _ _ _ (jg1_ne rfl hl0) (jg1_ne rfl hl1) (jg1_ne rfl hl2) (jg1_ne rfl hl3) (jg1_pre rfl hl4) jg1_same h
set_option maxRecDepth 10000 in
set_option maxHeartbeats 4000000 in
theorem r_R_gathers_e {N B : Nat} {SA : Nat → Nat} {d : Nat} (hd : 1 ≤ d) : ∀ (L : JLoc) (v0 : Nat) (v1 : Int32) (v2 : Int32) (v3 : Int32) (μ : JMem) (r : Int32) (μ9 : JMem), jget L 0 = .ref v0 → jget L 1 = .int v1 → jget L 2 = .int v2 → jget L 3 = .int v3 → g_R_gathers N B v0 v1 v2 v3 μ = some (r, μ9) → jR B SA d m_R_gathers 0 L [] μ (some (.int r)) μ9 := by
  intro L v0 v1 v2 v3 μ r μ9 hl0 hl1 hl2 hl3 h
  unfold g_R_gathers at h
  refine jr_aload_n jf_267_0 rfl hl0 ?_
  replace h := jgd_of h; obtain ⟨hb1, h⟩ := h
  replace h := jbd2_of h; obtain ⟨x2, μ3, hx2, h⟩ := h
  refine jr_V6_0 jf_267_1 hb1 (by omega) (r_R_newChain (by omega) _ _ _ _ hx2) (Nat.le_of_ble_eq_true rfl) jml_204 (Nat.le_of_ble_eq_true rfl) ?_
  refine jr_istore jf_267_4 jml_267 (by decide) ?_
  refine jr_iconst jf_267_6 jc_i_0 ?_
  refine jr_istore jf_267_7 jml_267 (by decide) ?_
  exact r_R_gathers_9 hd _ _ _ _ _ _ _ _ _ _ _ (jg1_ne rfl (jg1_ne rfl hl0)) (jg1_ne rfl (jg1_ne rfl hl1)) (jg1_ne rfl (jg1_ne rfl hl2)) (jg1_ne rfl (jg1_pre rfl hl3)) (jg1_pre rfl jg1_same) jg1_same h
set_option maxRecDepth 10000 in
set_option maxHeartbeats 4000000 in
theorem r_R_gathers {N B : Nat} {SA : Nat → Nat} {d : Nat} (hd : 1 ≤ d) : ∀ (v0 : Nat) (v1 : Int32) (v2 : Int32) (v3 : Int32) (μ : JMem) (r : Int32) (μ9 : JMem), g_R_gathers N B v0 v1 v2 v3 μ = some (r, μ9) → jR B SA d m_R_gathers 0 (lv_args 0 [.ref v0, .int v1, .int v2, .int v3]) [] μ (some (.int r)) μ9 := by
  intro v0 v1 v2 v3 μ r μ9 h
  exact r_R_gathers_e hd (lv_args 0 _) _ _ _ _ _ _ _ (by simp [lv_args, jget, rv_cat, cat_int, cat_long, cat_double, cat_float, cat_ref]) (by simp [lv_args, jget, rv_cat, cat_int, cat_long, cat_double, cat_float, cat_ref]) (by simp [lv_args, jget, rv_cat, cat_int, cat_long, cat_double, cat_float, cat_ref]) (by simp [lv_args, jget, rv_cat, cat_int, cat_long, cat_double, cat_float, cat_ref]) h
/-! FilterBenchModel.anew(II)I -/
set_option maxRecDepth 10000 in
set_option maxHeartbeats 4000000 in
theorem r_R_anew_295 {N B : Nat} {SA : Nat → Nat} {d : Nat} (hd : 2 ≤ d) {k47 : Nat → Int32 → Int32 → Int32 → Int32 → JMem → Option (Int32 × JMem)} (i47 : ∀ (L : JLoc) (v0 : Nat) (v1 : Int32) (v2 : Int32) (v3 : Int32) (v4 : Int32) (μ : JMem) (r : Int32) (μ9 : JMem), jget L 0 = .ref v0 → jget L 1 = .int v1 → jget L 2 = .int v2 → jget L 3 = .int v3 → jget L 4 = .int v4 → k47 v0 v1 v2 v3 v4 μ = some (r, μ9) → jR B SA d m_R_anew 47 L [] μ (some (.int r)) μ9) : ∀ (L : JLoc) (v0 : Nat) (v1 : Int32) (v2 : Int32) (v3 : Int32) (v4 : Int32) (v7 : Int32) (v8 : Int32) (μ : JMem) (r : Int32) (μ9 : JMem), jget L 0 = .ref v0 → jget L 1 = .int v1 → jget L 2 = .int v2 → jget L 3 = .int v3 → jget L 4 = .int v4 → jget L 7 = .int v7 → jget L 8 = .int v8 → g_R_anew_295 N B k47 v0 v1 v2 v3 v4 v7 v8 μ = some (r, μ9) → jR B SA d m_R_anew 295 L [] μ (some (.int r)) μ9 := by
  intro L v0 v1 v2 v3 v4 v7 v8 μ r μ9 hl0 hl1 hl2 hl3 hl4 hl7 hl8 h
  unfold g_R_anew_295 at h
  refine jr_aload_n jf_266_295 rfl hl0 ?_
  replace h := obd_of h; obtain ⟨x1, hx1, h⟩ := h
  refine jr_getA jf_266_296 hx1 ?_
  refine jr_iload jf_266_299 hl7 ?_
  refine jr_iload jf_266_301 hl8 ?_
  replace h := obd_of h; obtain ⟨a2, rfl, h⟩ := h
  replace h := obd_of h; obtain ⟨μ3, hμ3, h⟩ := h
  refine jr_iastore jf_266_303 hμ3 ?_
  refine jr_aload_n jf_266_304 rfl hl0 ?_
  replace h := obd_of h; obtain ⟨x4, hx4, h⟩ := h
  refine jr_getA jf_266_305 hx4 ?_
  refine jr_iload jf_266_308 hl4 ?_
  refine jr_iconst jf_266_310 jc_i_1 ?_
  refine jr_isub jf_266_311 ?_
  refine jr_dup2_1 jf_266_312 rfl (rv_cat _) ?_
  replace h := obd_of h; obtain ⟨a5, rfl, h⟩ := h
  replace h := obd_of h; obtain ⟨x6, hx6, h⟩ := h
  refine jr_iaload jf_266_313 hx6 ?_
  refine jr_iconst jf_266_314 jc_i_1 ?_
  refine jr_iadd jf_266_315 ?_
  replace h := obd_of h; obtain ⟨μ7, hμ7, h⟩ := h
  refine jr_iastore jf_266_316 hμ7 ?_
  refine jr_aload_n jf_266_317 rfl hl0 ?_
  replace h := obd_of h; obtain ⟨x8, hx8, h⟩ := h
  refine jr_getA jf_266_318 hx8 ?_
  refine jr_iload jf_266_321 hl7 ?_
  replace h := obd_of h; obtain ⟨a9, rfl, h⟩ := h
  replace h := obd_of h; obtain ⟨x10, hx10, h⟩ := h
  refine jr_iaload jf_266_323 hx10 ?_
  refine jr_iconst jf_266_324 jc_i_m1 ?_
  replace h := ite_or h; rcases h with ⟨hc, h⟩ | ⟨hc, h⟩
  · refine jr_if2_ne_f jf_266_325 hc ?_
    refine jr_goto jf_266_328 ?_
    exact i47 _ _ _ _ _ _ _ _ _ hl0 hl1 hl2 hl3 hl4 h
  · refine jr_if2_ne_t jf_266_325 hc ?_
    refine jr_aload_n jf_266_331 rfl hl0 ?_
    replace h := obd_of h; obtain ⟨x11, hx11, h⟩ := h
    refine jr_getA jf_266_332 hx11 ?_
    refine jr_iload jf_266_335 hl8 ?_
    refine jr_aload_n jf_266_337 rfl hl0 ?_
    replace h := obd_of h; obtain ⟨x12, hx12, h⟩ := h
    refine jr_getA jf_266_338 hx12 ?_
    refine jr_aload_n jf_266_341 rfl hl0 ?_
    replace h := obd_of h; obtain ⟨x13, hx13, h⟩ := h
    refine jr_getA jf_266_342 hx13 ?_
    refine jr_iload jf_266_345 hl7 ?_
    replace h := obd_of h; obtain ⟨a14, rfl, h⟩ := h
    replace h := obd_of h; obtain ⟨x15, hx15, h⟩ := h
    refine jr_iaload jf_266_347 hx15 ?_
    replace h := obd_of h; obtain ⟨a16, rfl, h⟩ := h
    replace h := obd_of h; obtain ⟨x17, hx17, h⟩ := h
    refine jr_iaload jf_266_348 hx17 ?_
    replace h := obd_of h; obtain ⟨a18, rfl, h⟩ := h
    replace h := obd_of h; obtain ⟨μ19, hμ19, h⟩ := h
    refine jr_iastore jf_266_349 hμ19 ?_
    refine jr_aload_n jf_266_350 rfl hl0 ?_
    replace h := obd_of h; obtain ⟨x20, hx20, h⟩ := h
    refine jr_getA jf_266_351 hx20 ?_
    refine jr_aload_n jf_266_354 rfl hl0 ?_
    replace h := obd_of h; obtain ⟨x21, hx21, h⟩ := h
    refine jr_getA jf_266_355 hx21 ?_
    refine jr_iload jf_266_358 hl8 ?_
    replace h := obd_of h; obtain ⟨a22, rfl, h⟩ := h
    replace h := obd_of h; obtain ⟨x23, hx23, h⟩ := h
    refine jr_iaload jf_266_360 hx23 ?_
    refine jr_iload jf_266_361 hl8 ?_
    replace h := obd_of h; obtain ⟨a24, rfl, h⟩ := h
    replace h := obd_of h; obtain ⟨μ25, hμ25, h⟩ := h
    refine jr_iastore jf_266_363 hμ25 ?_
    refine jr_goto jf_266_364 ?_
    exact i47 _ _ _ _ _ _ _ _ _ hl0 hl1 hl2 hl3 hl4 h
set_option maxRecDepth 10000 in
set_option maxHeartbeats 4000000 in
theorem r_R_anew_201 {N B : Nat} {SA : Nat → Nat} {d : Nat} (hd : 2 ≤ d) {k47 : Nat → Int32 → Int32 → Int32 → Int32 → JMem → Option (Int32 × JMem)} (i47 : ∀ (L : JLoc) (v0 : Nat) (v1 : Int32) (v2 : Int32) (v3 : Int32) (v4 : Int32) (μ : JMem) (r : Int32) (μ9 : JMem), jget L 0 = .ref v0 → jget L 1 = .int v1 → jget L 2 = .int v2 → jget L 3 = .int v3 → jget L 4 = .int v4 → k47 v0 v1 v2 v3 v4 μ = some (r, μ9) → jR B SA d m_R_anew 47 L [] μ (some (.int r)) μ9) : ∀ (n : Nat), ∀ (L : JLoc) (v0 : Nat) (v1 : Int32) (v2 : Int32) (v3 : Int32) (v4 : Int32) (v7 : Int32) (v8 : Int32) (v9 : Int32) (μ : JMem) (r : Int32) (μ9 : JMem), jget L 0 = .ref v0 → jget L 1 = .int v1 → jget L 2 = .int v2 → jget L 3 = .int v3 → jget L 4 = .int v4 → jget L 7 = .int v7 → jget L 8 = .int v8 → jget L 9 = .int v9 → g_R_anew_201 N B k47 n v0 v1 v2 v3 v4 v7 v8 v9 μ = some (r, μ9) → jR B SA d m_R_anew 201 L [] μ (some (.int r)) μ9 := by
  intro n
  induction n with
  | zero =>
    intro L v0 v1 v2 v3 v4 v7 v8 v9 μ r μ9 hl0 hl1 hl2 hl3 hl4 hl7 hl8 hl9 h
    unfold g_R_anew_201 at h
    cases h
  | succ n ih =>
    intro L v0 v1 v2 v3 v4 v7 v8 v9 μ r μ9 hl0 hl1 hl2 hl3 hl4 hl7 hl8 hl9 h
    unfold g_R_anew_201 at h
    refine jr_iload jf_266_201 hl9 ?_
    refine jr_aload_n jf_266_203 rfl hl0 ?_
    replace h := obd_of h; obtain ⟨x1, hx1, h⟩ := h
    refine jr_getA jf_266_204 hx1 ?_
    refine jr_iload jf_266_207 hl7 ?_
    replace h := obd_of h; obtain ⟨a2, rfl, h⟩ := h
    replace h := obd_of h; obtain ⟨x3, hx3, h⟩ := h
    refine jr_iaload jf_266_209 hx3 ?_
    refine jr_S3_1 jf_266_210 (by omega) (r_R_coefficientsOf (by omega) _ _ _ rfl) (Nat.le_of_ble_eq_true rfl) jml_196 (Nat.le_of_ble_eq_true rfl) ?_
    replace h := ite_or h; rcases h with ⟨hc, h⟩ | ⟨hc, h⟩
    · refine jr_if2_ge_t jf_266_213 hc ?_
      refine jr_iload_n jf_266_257 rfl hl3 ?_
      refine jr_iconst jf_266_258 jc_i_2 ?_
      replace h := ite_or h; rcases h with ⟨hc, h⟩ | ⟨hc, h⟩
      · refine jr_if2_ne_f jf_266_259 hc ?_
        refine jr_iload_n jf_266_262 rfl hl2 ?_
        refine jr_iconst jf_266_263 jc_i_2 ?_
        replace h := ite_or h; rcases h with ⟨hc, h⟩ | ⟨hc, h⟩
        · refine jr_if2_ne_f jf_266_264 hc ?_
          refine jr_aload_n jf_266_267 rfl hl0 ?_
          replace h := obd_of h; obtain ⟨x4, hx4, h⟩ := h
          refine jr_getA jf_266_268 hx4 ?_
          refine jr_iload jf_266_271 hl8 ?_
          refine jr_aload_n jf_266_273 rfl hl0 ?_
          replace h := obd_of h; obtain ⟨x5, hx5, h⟩ := h
          refine jr_getA jf_266_274 hx5 ?_
          refine jr_iload jf_266_277 hl7 ?_
          replace h := obd_of h; obtain ⟨a6, rfl, h⟩ := h
          replace h := obd_of h; obtain ⟨x7, hx7, h⟩ := h
          refine jr_iaload jf_266_279 hx7 ?_
          replace h := obd_of h; obtain ⟨a8, rfl, h⟩ := h
          replace h := obd_of h; obtain ⟨μ9, hμ9, h⟩ := h
          refine jr_iastore jf_266_280 hμ9 ?_
          refine jr_aload_n jf_266_281 rfl hl0 ?_
          replace h := obd_of h; obtain ⟨x10, hx10, h⟩ := h
          refine jr_getA jf_266_282 hx10 ?_
          refine jr_iload jf_266_285 hl8 ?_
          refine jr_aload_n jf_266_287 rfl hl0 ?_
          replace h := obd_of h; obtain ⟨x11, hx11, h⟩ := h
          refine jr_getA jf_266_288 hx11 ?_
          refine jr_iload jf_266_291 hl7 ?_
          replace h := obd_of h; obtain ⟨a12, rfl, h⟩ := h
          replace h := obd_of h; obtain ⟨x13, hx13, h⟩ := h
          refine jr_iaload jf_266_293 hx13 ?_
          replace h := obd_of h; obtain ⟨a14, rfl, h⟩ := h
          replace h := obd_of h; obtain ⟨μ15, hμ15, h⟩ := h
          refine jr_iastore jf_266_294 hμ15 ?_
          exact r_R_anew_295 hd i47 _ _ _ _ _ _ _ _ _ _ _ hl0 hl1 hl2 hl3 hl4 hl7 hl8 h
        · refine jr_if2_ne_t jf_266_264 hc ?_
          exact r_R_anew_295 hd i47 _ _ _ _ _ _ _ _ _ _ _ hl0 hl1 hl2 hl3 hl4 hl7 hl8 h
      · refine jr_if2_ne_t jf_266_259 hc ?_
        exact r_R_anew_295 hd i47 _ _ _ _ _ _ _ _ _ _ _ hl0 hl1 hl2 hl3 hl4 hl7 hl8 h
    · refine jr_if2_ge_f jf_266_213 hc ?_
      refine jr_aload_n jf_266_216 rfl hl0 ?_
      replace h := obd_of h; obtain ⟨x16, hx16, h⟩ := h
      refine jr_getA jf_266_217 hx16 ?_
      refine jr_iconst jf_266_220 jc_i_5 ?_
      refine jr_iload jf_266_221 hl8 ?_
      refine jr_imul jf_266_223 ?_
      refine jr_iload jf_266_224 hl9 ?_
      refine jr_iadd jf_266_226 ?_
      refine jr_aload_n jf_266_227 rfl hl0 ?_
      refine jr_iload jf_266_228 hl7 ?_
      refine jr_iload jf_266_230 hl9 ?_
      replace h := jgd_of h; obtain ⟨hb17, h⟩ := h
      replace h := obd_of h; obtain ⟨x18, hx18, h⟩ := h
      refine jr_V6_2 jf_266_232 hb17 (by omega) (r_R_c (by omega) _ _ _ _ _ hx18) (by simp only [jcats_cons, jcats_nil, cat_int, cat_long, cat_double, cat_float, cat_ref, rv_cat]; decide) jml_218 (Nat.le_of_ble_eq_true rfl) ?_
      refine jr_iload_n jf_266_235 rfl hl3 ?_
      refine jr_iload_n jf_266_236 rfl hl2 ?_
      refine jr_aload_n jf_266_237 rfl hl0 ?_
      replace h := obd_of h; obtain ⟨x19, hx19, h⟩ := h
      refine jr_getA jf_266_238 hx19 ?_
      refine jr_iload jf_266_241 hl7 ?_
      replace h := obd_of h; obtain ⟨a20, rfl, h⟩ := h
      replace h := obd_of h; obtain ⟨x21, hx21, h⟩ := h
      refine jr_iaload jf_266_243 hx21 ?_
      refine jr_S3_1 jf_266_244 (by omega) (r_R_isPlain (by omega) _ _ _ rfl) (by simp only [jcats_cons, jcats_nil, cat_int, cat_long, cat_double, cat_float, cat_ref, rv_cat]; decide) jml_200 (Nat.le_of_ble_eq_true rfl) ?_
      replace h := obd_of h; obtain ⟨x22, hx22, h⟩ := h
      refine jr_S3_4 jf_266_247 (by omega) (r_R_turned (by omega) _ _ _ _ _ _ hx22) (by simp only [jcats_cons, jcats_nil, cat_int, cat_long, cat_double, cat_float, cat_ref, rv_cat]; decide) jml_265 (Nat.le_of_ble_eq_true rfl) ?_
      replace h := obd_of h; obtain ⟨a23, rfl, h⟩ := h
      replace h := obd_of h; obtain ⟨μ24, hμ24, h⟩ := h
      refine jr_dastore jf_266_250 hμ24 ?_
      refine jr_iinc jf_266_251 jc_i_1 jml_266 (by decide) hl9 ?_
      refine jr_goto jf_266_254 ?_
      exact ih _ _ _ _ _ _ _ _ _ _ _ _ (jg1_ne rfl hl0) (jg1_ne rfl hl1) (jg1_ne rfl hl2) (jg1_ne rfl hl3) (jg1_ne rfl hl4) (jg1_ne rfl hl7) (jg1_pre rfl hl8) jg1_same h
set_option maxRecDepth 10000 in
set_option maxHeartbeats 4000000 in
theorem r_R_anew_177 {N B : Nat} {SA : Nat → Nat} {d : Nat} (hd : 2 ≤ d) {k47 : Nat → Int32 → Int32 → Int32 → Int32 → JMem → Option (Int32 × JMem)} (i47 : ∀ (L : JLoc) (v0 : Nat) (v1 : Int32) (v2 : Int32) (v3 : Int32) (v4 : Int32) (μ : JMem) (r : Int32) (μ9 : JMem), jget L 0 = .ref v0 → jget L 1 = .int v1 → jget L 2 = .int v2 → jget L 3 = .int v3 → jget L 4 = .int v4 → k47 v0 v1 v2 v3 v4 μ = some (r, μ9) → jR B SA d m_R_anew 47 L [] μ (some (.int r)) μ9) : ∀ (L : JLoc) (v0 : Nat) (v1 : Int32) (v2 : Int32) (v3 : Int32) (v4 : Int32) (v7 : Int32) (μ : JMem) (r : Int32) (μ9 : JMem), jget L 0 = .ref v0 → jget L 1 = .int v1 → jget L 2 = .int v2 → jget L 3 = .int v3 → jget L 4 = .int v4 → jget L 7 = .int v7 → g_R_anew_177 N B k47 v0 v1 v2 v3 v4 v7 μ = some (r, μ9) → jR B SA d m_R_anew 177 L [] μ (some (.int r)) μ9 := by
  intro L v0 v1 v2 v3 v4 v7 μ r μ9 hl0 hl1 hl2 hl3 hl4 hl7 h
  unfold g_R_anew_177 at h
  refine jr_aload_n jf_266_177 rfl hl0 ?_
  refine jr_aload_n jf_266_178 rfl hl0 ?_
  replace h := obd_of h; obtain ⟨x1, hx1, h⟩ := h
  refine jr_getA jf_266_179 hx1 ?_
  refine jr_iload jf_266_182 hl7 ?_
  replace h := obd_of h; obtain ⟨a2, rfl, h⟩ := h
  replace h := obd_of h; obtain ⟨x3, hx3, h⟩ := h
  refine jr_iaload jf_266_184 hx3 ?_
  refine jr_iload_n jf_266_185 rfl hl2 ?_
  refine jr_aload_n jf_266_186 rfl hl0 ?_
  replace h := obd_of h; obtain ⟨x4, hx4, h⟩ := h
  refine jr_getA jf_266_187 hx4 ?_
  refine jr_iload jf_266_190 hl7 ?_
  replace h := obd_of h; obtain ⟨a5, rfl, h⟩ := h
  replace h := obd_of h; obtain ⟨x6, hx6, h⟩ := h
  refine jr_iaload jf_266_192 hx6 ?_
  replace h := jgd_of h; obtain ⟨hb7, h⟩ := h
  replace h := jbd2_of h; obtain ⟨x8, μ9, hx8, h⟩ := h
  refine jr_V6_3 jf_266_193 hb7 (by omega) (r_R_newSection (by omega) _ _ _ _ _ _ _ hx8) (Nat.le_of_ble_eq_true rfl) jml_191 (Nat.le_of_ble_eq_true rfl) ?_
  refine jr_istore jf_266_196 jml_266 (by decide) ?_
  refine jr_iconst jf_266_198 jc_i_0 ?_
  refine jr_istore jf_266_199 jml_266 (by decide) ?_
  exact r_R_anew_201 hd i47 _ _ _ _ _ _ _ _ _ _ _ _ _ (jg1_ne rfl (jg1_ne rfl hl0)) (jg1_ne rfl (jg1_ne rfl hl1)) (jg1_ne rfl (jg1_ne rfl hl2)) (jg1_ne rfl (jg1_ne rfl hl3)) (jg1_ne rfl (jg1_ne rfl hl4)) (jg1_ne rfl (jg1_pre rfl hl7)) (jg1_pre rfl jg1_same) jg1_same h
set_option maxRecDepth 10000 in
set_option maxHeartbeats 4000000 in
theorem r_R_anew_47 {N B : Nat} {SA : Nat → Nat} {d : Nat} (hd : 2 ≤ d) : ∀ (n : Nat), ∀ (L : JLoc) (v0 : Nat) (v1 : Int32) (v2 : Int32) (v3 : Int32) (v4 : Int32) (μ : JMem) (r : Int32) (μ9 : JMem), jget L 0 = .ref v0 → jget L 1 = .int v1 → jget L 2 = .int v2 → jget L 3 = .int v3 → jget L 4 = .int v4 → g_R_anew_47 N B n v0 v1 v2 v3 v4 μ = some (r, μ9) → jR B SA d m_R_anew 47 L [] μ (some (.int r)) μ9 := by
  intro n
  induction n with
  | zero =>
    intro L v0 v1 v2 v3 v4 μ r μ9 hl0 hl1 hl2 hl3 hl4 h
    unfold g_R_anew_47 at h
    cases h
  | succ n ih =>
    intro L v0 v1 v2 v3 v4 μ r μ9 hl0 hl1 hl2 hl3 hl4 h
    unfold g_R_anew_47 at h
    refine jr_iload jf_266_47 hl4 ?_
    replace h := ite_or h; rcases h with ⟨hc, h⟩ | ⟨hc, h⟩
    · refine jr_if_le_t jf_266_49 hc ?_
      refine jr_aload_n jf_266_367 rfl hl0 ?_
      replace h := obd_of h; obtain ⟨x1, hx1, h⟩ := h
      refine jr_getA jf_266_368 hx1 ?_
      refine jr_iload_n jf_266_371 rfl hl1 ?_
      replace h := obd_of h; obtain ⟨a2, rfl, h⟩ := h
      replace h := obd_of h; obtain ⟨x3, hx3, h⟩ := h
      refine jr_iaload jf_266_372 hx3 ?_
      obtain ⟨rfl, rfl⟩ := Prod.mk.inj (Option.some.inj h)
      exact jr_retI jf_266_373 jmt_266
    · refine jr_if_le_f jf_266_49 hc ?_
      refine jr_aload_n jf_266_52 rfl hl0 ?_
      replace h := obd_of h; obtain ⟨x4, hx4, h⟩ := h
      refine jr_getA jf_266_53 hx4 ?_
      refine jr_iload jf_266_56 hl4 ?_
      refine jr_iconst jf_266_58 jc_i_1 ?_
      refine jr_isub jf_266_59 ?_
      replace h := obd_of h; obtain ⟨a5, rfl, h⟩ := h
      replace h := obd_of h; obtain ⟨x6, hx6, h⟩ := h
      refine jr_iaload jf_266_60 hx6 ?_
      refine jr_istore jf_266_61 jml_266 (by decide) ?_
      refine jr_aload_n jf_266_63 rfl (jg1_ne rfl hl0) ?_
      replace h := obd_of h; obtain ⟨x7, hx7, h⟩ := h
      refine jr_getA jf_266_64 hx7 ?_
      refine jr_iload jf_266_67 (jg1_pre rfl hl4) ?_
      refine jr_iconst jf_266_69 jc_i_1 ?_
      refine jr_isub jf_266_70 ?_
      replace h := obd_of h; obtain ⟨a8, rfl, h⟩ := h
      replace h := obd_of h; obtain ⟨x9, hx9, h⟩ := h
      refine jr_iaload jf_266_71 hx9 ?_
      refine jr_istore jf_266_72 jml_266 (by decide) ?_
      refine jr_iload jf_266_74 jg1_same ?_
      refine jr_aload_n jf_266_76 rfl (jg1_ne rfl (jg1_ne rfl hl0)) ?_
      replace h := obd_of h; obtain ⟨x10, hx10, h⟩ := h
      refine jr_getA jf_266_77 hx10 ?_
      refine jr_iload jf_266_80 (jg1_pre rfl jg1_same) ?_
      replace h := obd_of h; obtain ⟨a11, rfl, h⟩ := h
      replace h := obd_of h; obtain ⟨x12, hx12, h⟩ := h
      refine jr_iaload jf_266_82 hx12 ?_
      replace h := ite_or h; rcases h with ⟨hc, h⟩ | ⟨hc, h⟩
      · refine jr_if2_ne_f jf_266_83 hc ?_
        refine jr_aload_n jf_266_86 rfl (jg1_ne rfl (jg1_ne rfl hl0)) ?_
        replace h := obd_of h; obtain ⟨x13, hx13, h⟩ := h
        refine jr_getA jf_266_87 hx13 ?_
        refine jr_iload jf_266_90 (jg1_pre rfl jg1_same) ?_
        refine jr_aload_n jf_266_92 rfl (jg1_ne rfl (jg1_ne rfl hl0)) ?_
        refine jr_iload jf_266_93 (jg1_pre rfl jg1_same) ?_
        refine jr_iload_n jf_266_95 rfl (jg1_ne rfl (jg1_ne rfl hl3)) ?_
        refine jr_iload_n jf_266_96 rfl (jg1_ne rfl (jg1_ne rfl hl2)) ?_
        replace h := jgd_of h; obtain ⟨hb14, h⟩ := h
        replace h := jbd2_of h; obtain ⟨x15, μ16, hx15, h⟩ := h
        refine jr_V6_3 jf_266_97 hb14 (by omega) (r_R_gathers (by omega) _ _ _ _ _ _ _ hx15) (by simp only [jcats_cons, jcats_nil, cat_int, cat_long, cat_double, cat_float, cat_ref, rv_cat]; decide) jml_267 (Nat.le_of_ble_eq_true rfl) ?_
        replace h := obd_of h; obtain ⟨a17, rfl, h⟩ := h
        replace h := obd_of h; obtain ⟨μ18, hμ18, h⟩ := h
        refine jr_iastore jf_266_100 hμ18 ?_
        refine jr_iinc jf_266_101 jc_i_m1 jml_266 (by decide) (jg1_ne rfl (jg1_pre rfl hl4)) ?_
        refine jr_goto jf_266_104 ?_
        exact ih _ _ _ _ _ _ _ _ _ (jg1_ne rfl (jg1_ne rfl (jg1_ne rfl hl0))) (jg1_ne rfl (jg1_ne rfl (jg1_ne rfl hl1))) (jg1_ne rfl (jg1_ne rfl (jg1_ne rfl hl2))) (jg1_pre rfl (jg1_ne rfl (jg1_ne rfl hl3))) jg1_same h
      · refine jr_if2_ne_t jf_266_83 hc ?_
        refine jr_aload_n jf_266_107 rfl (jg1_ne rfl (jg1_ne rfl hl0)) ?_
        replace h := obd_of h; obtain ⟨x19, hx19, h⟩ := h
        refine jr_getA jf_266_108 hx19 ?_
        refine jr_bipush jf_266_111 jc_b_10 ?_
        refine jr_iload jf_266_113 (jg1_pre rfl jg1_same) ?_
        refine jr_imul jf_266_115 ?_
        refine jr_iload jf_266_116 jg1_same ?_
        refine jr_iadd jf_266_118 ?_
        replace h := obd_of h; obtain ⟨a20, rfl, h⟩ := h
        replace h := obd_of h; obtain ⟨x21, hx21, h⟩ := h
        refine jr_iaload jf_266_119 hx21 ?_
        refine jr_istore jf_266_120 jml_266 (by decide) ?_
        refine jr_aload_n jf_266_122 rfl (jg1_ne rfl (jg1_ne rfl (jg1_ne rfl hl0))) ?_
        replace h := obd_of h; obtain ⟨x22, hx22, h⟩ := h
        refine jr_getA jf_266_123 hx22 ?_
        refine jr_iload jf_266_126 jg1_same ?_
        replace h := obd_of h; obtain ⟨a23, rfl, h⟩ := h
        replace h := obd_of h; obtain ⟨x24, hx24, h⟩ := h
        refine jr_iaload jf_266_128 hx24 ?_
        refine jr_iconst jf_266_129 jc_i_m1 ?_
        replace h := ite_or h; rcases h with ⟨hc, h⟩ | ⟨hc, h⟩
        · refine jr_if2_eq_t jf_266_130 hc ?_
          exact r_R_anew_177 hd ih _ _ _ _ _ _ _ _ _ _ (jg1_ne rfl (jg1_ne rfl (jg1_ne rfl hl0))) (jg1_ne rfl (jg1_ne rfl (jg1_ne rfl hl1))) (jg1_ne rfl (jg1_ne rfl (jg1_ne rfl hl2))) (jg1_ne rfl (jg1_ne rfl (jg1_ne rfl hl3))) (jg1_ne rfl (jg1_ne rfl (jg1_pre rfl hl4))) jg1_same h
        · refine jr_if2_eq_f jf_266_130 hc ?_
          refine jr_aload_n jf_266_133 rfl (jg1_ne rfl (jg1_ne rfl (jg1_ne rfl hl0))) ?_
          replace h := obd_of h; obtain ⟨x25, hx25, h⟩ := h
          refine jr_getA jf_266_134 hx25 ?_
          refine jr_aload_n jf_266_137 rfl (jg1_ne rfl (jg1_ne rfl (jg1_ne rfl hl0))) ?_
          replace h := obd_of h; obtain ⟨x26, hx26, h⟩ := h
          refine jr_getA jf_266_138 hx26 ?_
          refine jr_iload jf_266_141 jg1_same ?_
          replace h := obd_of h; obtain ⟨a27, rfl, h⟩ := h
          replace h := obd_of h; obtain ⟨x28, hx28, h⟩ := h
          refine jr_iaload jf_266_143 hx28 ?_
          replace h := obd_of h; obtain ⟨a29, rfl, h⟩ := h
          replace h := obd_of h; obtain ⟨x30, hx30, h⟩ := h
          refine jr_iaload jf_266_144 hx30 ?_
          refine jr_iconst jf_266_145 jc_i_m1 ?_
          replace h := ite_or h; rcases h with ⟨hc, h⟩ | ⟨hc, h⟩
          · refine jr_if2_ne_f jf_266_146 hc ?_
            refine jr_aload_n jf_266_149 rfl (jg1_ne rfl (jg1_ne rfl (jg1_ne rfl hl0))) ?_
            replace h := obd_of h; obtain ⟨x31, hx31, h⟩ := h
            refine jr_getA jf_266_150 hx31 ?_
            refine jr_iload jf_266_153 (jg1_ne rfl (jg1_ne rfl (jg1_pre rfl hl4))) ?_
            refine jr_aload_n jf_266_155 rfl (jg1_ne rfl (jg1_ne rfl (jg1_ne rfl hl0))) ?_
            replace h := obd_of h; obtain ⟨x32, hx32, h⟩ := h
            refine jr_getA jf_266_156 hx32 ?_
            refine jr_iload jf_266_159 jg1_same ?_
            replace h := obd_of h; obtain ⟨a33, rfl, h⟩ := h
            replace h := obd_of h; obtain ⟨x34, hx34, h⟩ := h
            refine jr_iaload jf_266_161 hx34 ?_
            replace h := obd_of h; obtain ⟨a35, rfl, h⟩ := h
            replace h := obd_of h; obtain ⟨μ36, hμ36, h⟩ := h
            refine jr_iastore jf_266_162 hμ36 ?_
            refine jr_aload_n jf_266_163 rfl (jg1_ne rfl (jg1_ne rfl (jg1_ne rfl hl0))) ?_
            replace h := obd_of h; obtain ⟨x37, hx37, h⟩ := h
            refine jr_getA jf_266_164 hx37 ?_
            refine jr_iload jf_266_167 (jg1_ne rfl (jg1_ne rfl (jg1_pre rfl hl4))) ?_
            refine jr_iconst jf_266_169 jc_i_0 ?_
            replace h := obd_of h; obtain ⟨a38, rfl, h⟩ := h
            replace h := obd_of h; obtain ⟨μ39, hμ39, h⟩ := h
            refine jr_iastore jf_266_170 hμ39 ?_
            refine jr_iinc jf_266_171 jc_i_1 jml_266 (by decide) (jg1_ne rfl (jg1_ne rfl (jg1_pre rfl hl4))) ?_
            refine jr_goto jf_266_174 ?_
            exact ih _ _ _ _ _ _ _ _ _ (jg1_ne rfl (jg1_ne rfl (jg1_ne rfl (jg1_ne rfl hl0)))) (jg1_ne rfl (jg1_ne rfl (jg1_ne rfl (jg1_ne rfl hl1)))) (jg1_ne rfl (jg1_ne rfl (jg1_ne rfl (jg1_ne rfl hl2)))) (jg1_pre rfl (jg1_ne rfl (jg1_ne rfl (jg1_ne rfl hl3)))) jg1_same h
          · refine jr_if2_ne_t jf_266_146 hc ?_
            exact r_R_anew_177 hd ih _ _ _ _ _ _ _ _ _ _ (jg1_ne rfl (jg1_ne rfl (jg1_ne rfl hl0))) (jg1_ne rfl (jg1_ne rfl (jg1_ne rfl hl1))) (jg1_ne rfl (jg1_ne rfl (jg1_ne rfl hl2))) (jg1_ne rfl (jg1_ne rfl (jg1_ne rfl hl3))) (jg1_ne rfl (jg1_ne rfl (jg1_pre rfl hl4))) jg1_same h
set_option maxRecDepth 10000 in
set_option maxHeartbeats 4000000 in
theorem r_R_anew_9 {N B : Nat} {SA : Nat → Nat} {d : Nat} (hd : 2 ≤ d) : ∀ (n : Nat), ∀ (L : JLoc) (v0 : Nat) (v1 : Int32) (v2 : Int32) (v3 : Int32) (v4 : Int32) (μ : JMem) (r : Int32) (μ9 : JMem), jget L 0 = .ref v0 → jget L 1 = .int v1 → jget L 2 = .int v2 → jget L 3 = .int v3 → jget L 4 = .int v4 → g_R_anew_9 N B n v0 v1 v2 v3 v4 μ = some (r, μ9) → jR B SA d m_R_anew 9 L [] μ (some (.int r)) μ9 := by
  intro n
  induction n with
  | zero =>
    intro L v0 v1 v2 v3 v4 μ r μ9 hl0 hl1 hl2 hl3 hl4 h
    unfold g_R_anew_9 at h
    cases h
  | succ n ih =>
    intro L v0 v1 v2 v3 v4 μ r μ9 hl0 hl1 hl2 hl3 hl4 h
    unfold g_R_anew_9 at h
    refine jr_iload jf_266_9 hl4 ?_
    refine jr_bipush jf_266_11 jc_b_20 ?_
    replace h := ite_or h; rcases h with ⟨hc, h⟩ | ⟨hc, h⟩
    · refine jr_if2_ge_t jf_266_13 hc ?_
      refine jr_iconst jf_266_30 jc_i_1 ?_
      refine jr_istore jf_266_31 jml_266 (by decide) ?_
      refine jr_aload_n jf_266_33 rfl (jg1_ne rfl hl0) ?_
      replace h := obd_of h; obtain ⟨x1, hx1, h⟩ := h
      refine jr_getA jf_266_34 hx1 ?_
      refine jr_iconst jf_266_37 jc_i_0 ?_
      refine jr_iload_n jf_266_38 rfl (jg1_ne rfl hl1) ?_
      replace h := obd_of h; obtain ⟨a2, rfl, h⟩ := h
      replace h := obd_of h; obtain ⟨μ3, hμ3, h⟩ := h
      refine jr_iastore jf_266_39 hμ3 ?_
      refine jr_aload_n jf_266_40 rfl (jg1_ne rfl hl0) ?_
      replace h := obd_of h; obtain ⟨x4, hx4, h⟩ := h
      refine jr_getA jf_266_41 hx4 ?_
      refine jr_iconst jf_266_44 jc_i_0 ?_
      refine jr_iconst jf_266_45 jc_i_0 ?_
      replace h := obd_of h; obtain ⟨a5, rfl, h⟩ := h
      replace h := obd_of h; obtain ⟨μ6, hμ6, h⟩ := h
      refine jr_iastore jf_266_46 hμ6 ?_
      exact r_R_anew_47 hd _ _ _ _ _ _ _ _ _ _ (jg1_ne rfl hl0) (jg1_ne rfl hl1) (jg1_ne rfl hl2) (jg1_pre rfl hl3) jg1_same h
    · refine jr_if2_ge_f jf_266_13 hc ?_
      refine jr_aload_n jf_266_16 rfl hl0 ?_
      replace h := obd_of h; obtain ⟨x7, hx7, h⟩ := h
      refine jr_getA jf_266_17 hx7 ?_
      refine jr_iload jf_266_20 hl4 ?_
      refine jr_iconst jf_266_22 jc_i_m1 ?_
      replace h := obd_of h; obtain ⟨a8, rfl, h⟩ := h
      replace h := obd_of h; obtain ⟨μ9, hμ9, h⟩ := h
      refine jr_iastore jf_266_23 hμ9 ?_
      refine jr_iinc jf_266_24 jc_i_1 jml_266 (by decide) hl4 ?_
      refine jr_goto jf_266_27 ?_
      exact ih _ _ _ _ _ _ _ _ _ (jg1_ne rfl hl0) (jg1_ne rfl hl1) (jg1_ne rfl hl2) (jg1_pre rfl hl3) jg1_same h
set_option maxRecDepth 10000 in
set_option maxHeartbeats 4000000 in
theorem r_R_anew_e {N B : Nat} {SA : Nat → Nat} {d : Nat} (hd : 2 ≤ d) : ∀ (L : JLoc) (v0 : Nat) (v1 : Int32) (v2 : Int32) (μ : JMem) (r : Int32) (μ9 : JMem), jget L 0 = .ref v0 → jget L 1 = .int v1 → jget L 2 = .int v2 → g_R_anew N B v0 v1 v2 μ = some (r, μ9) → jR B SA d m_R_anew 0 L [] μ (some (.int r)) μ9 := by
  intro L v0 v1 v2 μ r μ9 hl0 hl1 hl2 h
  unfold g_R_anew at h
  refine jr_aload_n jf_266_0 rfl hl0 ?_
  refine jr_iload_n jf_266_1 rfl hl1 ?_
  replace h := jgd_of h; obtain ⟨hb1, h⟩ := h
  replace h := obd_of h; obtain ⟨x2, hx2, h⟩ := h
  refine jr_V6_1 jf_266_2 hb1 (by omega) (r_R_sortOf (by omega) _ _ _ _ hx2) (Nat.le_of_ble_eq_true rfl) jml_207 (Nat.le_of_ble_eq_true rfl) ?_
  refine jr_istore_n jf_266_5 rfl jml_266 (by decide) ?_
  refine jr_iconst jf_266_6 jc_i_0 ?_
  refine jr_istore jf_266_7 jml_266 (by decide) ?_
  exact r_R_anew_9 hd _ _ _ _ _ _ _ _ _ _ (jg1_ne rfl (jg1_ne rfl hl0)) (jg1_ne rfl (jg1_ne rfl hl1)) (jg1_ne rfl (jg1_pre rfl hl2)) (jg1_pre rfl jg1_same) jg1_same h
set_option maxRecDepth 10000 in
set_option maxHeartbeats 4000000 in
theorem r_R_anew {N B : Nat} {SA : Nat → Nat} {d : Nat} (hd : 2 ≤ d) : ∀ (v0 : Nat) (v1 : Int32) (v2 : Int32) (μ : JMem) (r : Int32) (μ9 : JMem), g_R_anew N B v0 v1 v2 μ = some (r, μ9) → jR B SA d m_R_anew 0 (lv_args 0 [.ref v0, .int v1, .int v2]) [] μ (some (.int r)) μ9 := by
  intro v0 v1 v2 μ r μ9 h
  exact r_R_anew_e hd (lv_args 0 _) _ _ _ _ _ _ (by simp [lv_args, jget, rv_cat, cat_int, cat_long, cat_double, cat_float, cat_ref]) (by simp [lv_args, jget, rv_cat, cat_int, cat_long, cat_double, cat_float, cat_ref]) (by simp [lv_args, jget, rv_cat, cat_int, cat_long, cat_double, cat_float, cat_ref]) h
/-! FilterBenchModel.asks(II)V -/
set_option maxRecDepth 10000 in
set_option maxHeartbeats 4000000 in
theorem r_R_asks_74 {N B : Nat} {SA : Nat → Nat} {d : Nat} (hd : 1 ≤ d) {k21 : Nat → Int32 → Int32 → Int32 → Int32 → JMem → Option JMem} (i21 : ∀ (L : JLoc) (v0 : Nat) (v1 : Int32) (v2 : Int32) (v3 : Int32) (v4 : Int32) (μ : JMem) (μ9 : JMem), jget L 0 = .ref v0 → jget L 1 = .int v1 → jget L 2 = .int v2 → jget L 3 = .int v3 → jget L 4 = .int v4 → k21 v0 v1 v2 v3 v4 μ = some μ9 → jR B SA d m_R_asks 21 L [] μ none μ9) : ∀ (L : JLoc) (v0 : Nat) (v1 : Int32) (v2 : Int32) (v3 : Int32) (v4 : Int32) (s0 : Bool) (s1 : Nat) (μ : JMem) (μ9 : JMem), jget L 0 = .ref v0 → jget L 1 = .int v1 → jget L 2 = .int v2 → jget L 3 = .int v3 → jget L 4 = .int v4 → g_R_asks_74 N B k21 v0 v1 v2 v3 v4 s0 s1 μ = some μ9 → jR B SA d m_R_asks 74 L [.int (jb s0), .ref s1] μ none μ9 := by
  intro L v0 v1 v2 v3 v4 s0 s1 μ μ9 hl0 hl1 hl2 hl3 hl4 h
  unfold g_R_asks_74 at h
  replace h := obd_of h; obtain ⟨μ1, hμ1, h⟩ := h
  refine jr_putZ jf_264_74 rfl hμ1 ?_
  refine jr_iinc jf_264_77 jc_i_1 jml_264 (by decide) hl4 ?_
  refine jr_goto jf_264_80 ?_
  exact i21 _ _ _ _ _ _ _ _ (jg1_ne rfl hl0) (jg1_ne rfl hl1) (jg1_ne rfl hl2) (jg1_pre rfl hl3) jg1_same h
set_option maxRecDepth 10000 in
set_option maxHeartbeats 4000000 in
theorem r_R_asks_69 {N B : Nat} {SA : Nat → Nat} {d : Nat} (hd : 1 ≤ d) {k21 : Nat → Int32 → Int32 → Int32 → Int32 → JMem → Option JMem} (i21 : ∀ (L : JLoc) (v0 : Nat) (v1 : Int32) (v2 : Int32) (v3 : Int32) (v4 : Int32) (μ : JMem) (μ9 : JMem), jget L 0 = .ref v0 → jget L 1 = .int v1 → jget L 2 = .int v2 → jget L 3 = .int v3 → jget L 4 = .int v4 → k21 v0 v1 v2 v3 v4 μ = some μ9 → jR B SA d m_R_asks 21 L [] μ none μ9) : ∀ (L : JLoc) (v0 : Nat) (v1 : Int32) (v2 : Int32) (v3 : Int32) (v4 : Int32) (s0 : Nat) (μ : JMem) (μ9 : JMem), jget L 0 = .ref v0 → jget L 1 = .int v1 → jget L 2 = .int v2 → jget L 3 = .int v3 → jget L 4 = .int v4 → g_R_asks_69 N B k21 v0 v1 v2 v3 v4 s0 μ = some μ9 → jR B SA d m_R_asks 69 L [.ref s0] μ none μ9 := by
  intro L v0 v1 v2 v3 v4 s0 μ μ9 hl0 hl1 hl2 hl3 hl4 h
  unfold g_R_asks_69 at h
  refine jr_iconst jf_264_69 jc_i_1 ?_
  refine jr_goto jf_264_70 ?_
  exact r_R_asks_74 hd i21 _ _ _ _ _ _ true _ _ _ hl0 hl1 hl2 hl3 hl4 h
set_option maxRecDepth 10000 in
set_option maxHeartbeats 4000000 in
theorem r_R_asks_73 {N B : Nat} {SA : Nat → Nat} {d : Nat} (hd : 1 ≤ d) {k21 : Nat → Int32 → Int32 → Int32 → Int32 → JMem → Option JMem} (i21 : ∀ (L : JLoc) (v0 : Nat) (v1 : Int32) (v2 : Int32) (v3 : Int32) (v4 : Int32) (μ : JMem) (μ9 : JMem), jget L 0 = .ref v0 → jget L 1 = .int v1 → jget L 2 = .int v2 → jget L 3 = .int v3 → jget L 4 = .int v4 → k21 v0 v1 v2 v3 v4 μ = some μ9 → jR B SA d m_R_asks 21 L [] μ none μ9) : ∀ (L : JLoc) (v0 : Nat) (v1 : Int32) (v2 : Int32) (v3 : Int32) (v4 : Int32) (s0 : Nat) (μ : JMem) (μ9 : JMem), jget L 0 = .ref v0 → jget L 1 = .int v1 → jget L 2 = .int v2 → jget L 3 = .int v3 → jget L 4 = .int v4 → g_R_asks_73 N B k21 v0 v1 v2 v3 v4 s0 μ = some μ9 → jR B SA d m_R_asks 73 L [.ref s0] μ none μ9 := by
  intro L v0 v1 v2 v3 v4 s0 μ μ9 hl0 hl1 hl2 hl3 hl4 h
  unfold g_R_asks_73 at h
  refine jr_iconst jf_264_73 jc_i_0 ?_
  exact r_R_asks_74 hd i21 _ _ _ _ _ _ false _ _ _ hl0 hl1 hl2 hl3 hl4 h
set_option maxRecDepth 10000 in
set_option maxHeartbeats 4000000 in
theorem r_R_asks_187 {N B : Nat} {SA : Nat → Nat} {d : Nat} (hd : 1 ≤ d) {k86 : Nat → Int32 → Int32 → Int32 → Int32 → JMem → Option JMem} (i86 : ∀ (L : JLoc) (v0 : Nat) (v1 : Int32) (v2 : Int32) (v3 : Int32) (v4 : Int32) (μ : JMem) (μ9 : JMem), jget L 0 = .ref v0 → jget L 1 = .int v1 → jget L 2 = .int v2 → jget L 3 = .int v3 → jget L 4 = .int v4 → k86 v0 v1 v2 v3 v4 μ = some μ9 → jR B SA d m_R_asks 86 L [] μ none μ9) {k124 : Nat → Int32 → Int32 → Int32 → Int32 → Int32 → Int32 → JMem → Option JMem} (i124 : ∀ (L : JLoc) (v0 : Nat) (v1 : Int32) (v2 : Int32) (v3 : Int32) (v4 : Int32) (v5 : Int32) (v6 : Int32) (μ : JMem) (μ9 : JMem), jget L 0 = .ref v0 → jget L 1 = .int v1 → jget L 2 = .int v2 → jget L 3 = .int v3 → jget L 4 = .int v4 → jget L 5 = .int v5 → jget L 6 = .int v6 → k124 v0 v1 v2 v3 v4 v5 v6 μ = some μ9 → jR B SA d m_R_asks 124 L [] μ none μ9) : ∀ (L : JLoc) (v0 : Nat) (v1 : Int32) (v2 : Int32) (v3 : Int32) (v4 : Int32) (v5 : Int32) (v6 : Int32) (s0 : Bool) (s1 : Nat) (μ : JMem) (μ9 : JMem), jget L 0 = .ref v0 → jget L 1 = .int v1 → jget L 2 = .int v2 → jget L 3 = .int v3 → jget L 4 = .int v4 → jget L 5 = .int v5 → jget L 6 = .int v6 → g_R_asks_187 N B k86 k124 v0 v1 v2 v3 v4 v5 v6 s0 s1 μ = some μ9 → jR B SA d m_R_asks 187 L [.int (jb s0), .ref s1] μ none μ9 := by
  intro L v0 v1 v2 v3 v4 v5 v6 s0 s1 μ μ9 hl0 hl1 hl2 hl3 hl4 hl5 hl6 h
  unfold g_R_asks_187 at h
  replace h := obd_of h; obtain ⟨μ1, hμ1, h⟩ := h
  refine jr_putZ jf_264_187 rfl hμ1 ?_
  refine jr_iinc jf_264_190 jc_i_1 jml_264 (by decide) hl6 ?_
  refine jr_goto jf_264_193 ?_
  exact i124 _ _ _ _ _ _ _ _ _ _ (jg1_ne rfl hl0) (jg1_ne rfl hl1) (jg1_ne rfl hl2) (jg1_ne rfl hl3) (jg1_ne rfl hl4) (jg1_pre rfl hl5) jg1_same h
set_option maxRecDepth 10000 in
set_option maxHeartbeats 4000000 in
theorem r_R_asks_182 {N B : Nat} {SA : Nat → Nat} {d : Nat} (hd : 1 ≤ d) {k86 : Nat → Int32 → Int32 → Int32 → Int32 → JMem → Option JMem} (i86 : ∀ (L : JLoc) (v0 : Nat) (v1 : Int32) (v2 : Int32) (v3 : Int32) (v4 : Int32) (μ : JMem) (μ9 : JMem), jget L 0 = .ref v0 → jget L 1 = .int v1 → jget L 2 = .int v2 → jget L 3 = .int v3 → jget L 4 = .int v4 → k86 v0 v1 v2 v3 v4 μ = some μ9 → jR B SA d m_R_asks 86 L [] μ none μ9) {k124 : Nat → Int32 → Int32 → Int32 → Int32 → Int32 → Int32 → JMem → Option JMem} (i124 : ∀ (L : JLoc) (v0 : Nat) (v1 : Int32) (v2 : Int32) (v3 : Int32) (v4 : Int32) (v5 : Int32) (v6 : Int32) (μ : JMem) (μ9 : JMem), jget L 0 = .ref v0 → jget L 1 = .int v1 → jget L 2 = .int v2 → jget L 3 = .int v3 → jget L 4 = .int v4 → jget L 5 = .int v5 → jget L 6 = .int v6 → k124 v0 v1 v2 v3 v4 v5 v6 μ = some μ9 → jR B SA d m_R_asks 124 L [] μ none μ9) : ∀ (L : JLoc) (v0 : Nat) (v1 : Int32) (v2 : Int32) (v3 : Int32) (v4 : Int32) (v5 : Int32) (v6 : Int32) (s0 : Nat) (μ : JMem) (μ9 : JMem), jget L 0 = .ref v0 → jget L 1 = .int v1 → jget L 2 = .int v2 → jget L 3 = .int v3 → jget L 4 = .int v4 → jget L 5 = .int v5 → jget L 6 = .int v6 → g_R_asks_182 N B k86 k124 v0 v1 v2 v3 v4 v5 v6 s0 μ = some μ9 → jR B SA d m_R_asks 182 L [.ref s0] μ none μ9 := by
  intro L v0 v1 v2 v3 v4 v5 v6 s0 μ μ9 hl0 hl1 hl2 hl3 hl4 hl5 hl6 h
  unfold g_R_asks_182 at h
  refine jr_iconst jf_264_182 jc_i_1 ?_
  refine jr_goto jf_264_183 ?_
  exact r_R_asks_187 hd i86 i124 _ _ _ _ _ _ _ _ true _ _ _ hl0 hl1 hl2 hl3 hl4 hl5 hl6 h
set_option maxRecDepth 10000 in
set_option maxHeartbeats 4000000 in
theorem r_R_asks_186 {N B : Nat} {SA : Nat → Nat} {d : Nat} (hd : 1 ≤ d) {k86 : Nat → Int32 → Int32 → Int32 → Int32 → JMem → Option JMem} (i86 : ∀ (L : JLoc) (v0 : Nat) (v1 : Int32) (v2 : Int32) (v3 : Int32) (v4 : Int32) (μ : JMem) (μ9 : JMem), jget L 0 = .ref v0 → jget L 1 = .int v1 → jget L 2 = .int v2 → jget L 3 = .int v3 → jget L 4 = .int v4 → k86 v0 v1 v2 v3 v4 μ = some μ9 → jR B SA d m_R_asks 86 L [] μ none μ9) {k124 : Nat → Int32 → Int32 → Int32 → Int32 → Int32 → Int32 → JMem → Option JMem} (i124 : ∀ (L : JLoc) (v0 : Nat) (v1 : Int32) (v2 : Int32) (v3 : Int32) (v4 : Int32) (v5 : Int32) (v6 : Int32) (μ : JMem) (μ9 : JMem), jget L 0 = .ref v0 → jget L 1 = .int v1 → jget L 2 = .int v2 → jget L 3 = .int v3 → jget L 4 = .int v4 → jget L 5 = .int v5 → jget L 6 = .int v6 → k124 v0 v1 v2 v3 v4 v5 v6 μ = some μ9 → jR B SA d m_R_asks 124 L [] μ none μ9) : ∀ (L : JLoc) (v0 : Nat) (v1 : Int32) (v2 : Int32) (v3 : Int32) (v4 : Int32) (v5 : Int32) (v6 : Int32) (s0 : Nat) (μ : JMem) (μ9 : JMem), jget L 0 = .ref v0 → jget L 1 = .int v1 → jget L 2 = .int v2 → jget L 3 = .int v3 → jget L 4 = .int v4 → jget L 5 = .int v5 → jget L 6 = .int v6 → g_R_asks_186 N B k86 k124 v0 v1 v2 v3 v4 v5 v6 s0 μ = some μ9 → jR B SA d m_R_asks 186 L [.ref s0] μ none μ9 := by
  intro L v0 v1 v2 v3 v4 v5 v6 s0 μ μ9 hl0 hl1 hl2 hl3 hl4 hl5 hl6 h
  unfold g_R_asks_186 at h
  refine jr_iconst jf_264_186 jc_i_0 ?_
  exact r_R_asks_187 hd i86 i124 _ _ _ _ _ _ _ _ false _ _ _ hl0 hl1 hl2 hl3 hl4 hl5 hl6 h
set_option maxRecDepth 10000 in
set_option maxHeartbeats 4000000 in
theorem r_R_asks_124 {N B : Nat} {SA : Nat → Nat} {d : Nat} (hd : 1 ≤ d) {k86 : Nat → Int32 → Int32 → Int32 → Int32 → JMem → Option JMem} (i86 : ∀ (L : JLoc) (v0 : Nat) (v1 : Int32) (v2 : Int32) (v3 : Int32) (v4 : Int32) (μ : JMem) (μ9 : JMem), jget L 0 = .ref v0 → jget L 1 = .int v1 → jget L 2 = .int v2 → jget L 3 = .int v3 → jget L 4 = .int v4 → k86 v0 v1 v2 v3 v4 μ = some μ9 → jR B SA d m_R_asks 86 L [] μ none μ9) : ∀ (n : Nat), ∀ (L : JLoc) (v0 : Nat) (v1 : Int32) (v2 : Int32) (v3 : Int32) (v4 : Int32) (v5 : Int32) (v6 : Int32) (μ : JMem) (μ9 : JMem), jget L 0 = .ref v0 → jget L 1 = .int v1 → jget L 2 = .int v2 → jget L 3 = .int v3 → jget L 4 = .int v4 → jget L 5 = .int v5 → jget L 6 = .int v6 → g_R_asks_124 N B k86 n v0 v1 v2 v3 v4 v5 v6 μ = some μ9 → jR B SA d m_R_asks 124 L [] μ none μ9 := by
  intro n
  induction n with
  | zero =>
    intro L v0 v1 v2 v3 v4 v5 v6 μ μ9 hl0 hl1 hl2 hl3 hl4 hl5 hl6 h
    unfold g_R_asks_124 at h
    cases h
  | succ n ih =>
    intro L v0 v1 v2 v3 v4 v5 v6 μ μ9 hl0 hl1 hl2 hl3 hl4 hl5 hl6 h
    unfold g_R_asks_124 at h
    refine jr_iload jf_264_124 hl6 ?_
    refine jr_aload_n jf_264_126 rfl hl0 ?_
    replace h := obd_of h; obtain ⟨x1, hx1, h⟩ := h
    refine jr_getA jf_264_127 hx1 ?_
    refine jr_iload jf_264_130 hl5 ?_
    replace h := obd_of h; obtain ⟨a2, rfl, h⟩ := h
    replace h := obd_of h; obtain ⟨x3, hx3, h⟩ := h
    refine jr_iaload jf_264_132 hx3 ?_
    refine jr_S3_1 jf_264_133 (by omega) (r_R_coefficientsOf (by omega) _ _ _ rfl) (Nat.le_of_ble_eq_true rfl) jml_196 (Nat.le_of_ble_eq_true rfl) ?_
    replace h := ite_or h; rcases h with ⟨hc, h⟩ | ⟨hc, h⟩
    · refine jr_if2_ge_t jf_264_136 hc ?_
      refine jr_iinc jf_264_196 jc_i_1 jml_264 (by decide) hl4 ?_
      refine jr_goto jf_264_199 ?_
      exact i86 _ _ _ _ _ _ _ _ (jg1_ne rfl hl0) (jg1_ne rfl hl1) (jg1_ne rfl hl2) (jg1_pre rfl hl3) jg1_same h
    · refine jr_if2_ge_f jf_264_136 hc ?_
      refine jr_aload_n jf_264_139 rfl hl0 ?_
      refine jr_aload_n jf_264_140 rfl hl0 ?_
      replace h := obd_of h; obtain ⟨x4, hx4, h⟩ := h
      refine jr_getZ jf_264_141 hx4 ?_
      replace h := ite_or h; rcases h with ⟨hc, h⟩ | ⟨hc, h⟩
      · refine jr_ifz_eq_f jf_264_144 hc ?_
        refine jr_iload_n jf_264_147 rfl hl2 ?_
        refine jr_iconst jf_264_148 jc_i_2 ?_
        replace h := ite_or h; rcases h with ⟨hc, h⟩ | ⟨hc, h⟩
        · refine jr_if2_ne_f jf_264_149 hc ?_
          refine jr_aload_n jf_264_152 rfl hl0 ?_
          refine jr_iload jf_264_153 hl5 ?_
          refine jr_iload jf_264_155 hl6 ?_
          replace h := jgd_of h; obtain ⟨hb5, h⟩ := h
          replace h := obd_of h; obtain ⟨x6, hx6, h⟩ := h
          refine jr_V6_2 jf_264_157 hb5 (by omega) (r_R_c (by omega) _ _ _ _ _ hx6) (Nat.le_of_ble_eq_true rfl) jml_218 (Nat.le_of_ble_eq_true rfl) ?_
          refine jr_iload_n jf_264_160 rfl hl3 ?_
          refine jr_iload_n jf_264_161 rfl hl2 ?_
          refine jr_aload_n jf_264_162 rfl hl0 ?_
          replace h := obd_of h; obtain ⟨x7, hx7, h⟩ := h
          refine jr_getA jf_264_163 hx7 ?_
          refine jr_iload jf_264_166 hl5 ?_
          replace h := obd_of h; obtain ⟨a8, rfl, h⟩ := h
          replace h := obd_of h; obtain ⟨x9, hx9, h⟩ := h
          refine jr_iaload jf_264_168 hx9 ?_
          refine jr_S3_1 jf_264_169 (by omega) (r_R_isPlain (by omega) _ _ _ rfl) (Nat.le_of_ble_eq_true rfl) jml_200 (Nat.le_of_ble_eq_true rfl) ?_
          replace h := obd_of h; obtain ⟨x10, hx10, h⟩ := h
          refine jr_S3_4 jf_264_172 (by omega) (r_R_turned (by omega) _ _ _ _ _ _ hx10) (Nat.le_of_ble_eq_true rfl) jml_265 (Nat.le_of_ble_eq_true rfl) ?_
          refine jr_ldc2d jf_264_175 ?_
          refine jr_dcmp jf_264_178 ?_
          replace h := ite_or h; rcases h with ⟨hc, h⟩ | ⟨hc, h⟩
          · refine jr_if_eq_t jf_264_179 hc ?_
            exact r_R_asks_186 hd i86 ih _ _ _ _ _ _ _ _ _ _ _ hl0 hl1 hl2 hl3 hl4 hl5 hl6 h
          · refine jr_if_eq_f jf_264_179 hc ?_
            exact r_R_asks_182 hd i86 ih _ _ _ _ _ _ _ _ _ _ _ hl0 hl1 hl2 hl3 hl4 hl5 hl6 h
        · refine jr_if2_ne_t jf_264_149 hc ?_
          exact r_R_asks_182 hd i86 ih _ _ _ _ _ _ _ _ _ _ _ hl0 hl1 hl2 hl3 hl4 hl5 hl6 h
      · refine jr_ifz_eq_t jf_264_144 hc ?_
        exact r_R_asks_186 hd i86 ih _ _ _ _ _ _ _ _ _ _ _ hl0 hl1 hl2 hl3 hl4 hl5 hl6 h
set_option maxRecDepth 10000 in
set_option maxHeartbeats 4000000 in
theorem r_R_asks_86 {N B : Nat} {SA : Nat → Nat} {d : Nat} (hd : 1 ≤ d) : ∀ (n : Nat), ∀ (L : JLoc) (v0 : Nat) (v1 : Int32) (v2 : Int32) (v3 : Int32) (v4 : Int32) (μ : JMem) (μ9 : JMem), jget L 0 = .ref v0 → jget L 1 = .int v1 → jget L 2 = .int v2 → jget L 3 = .int v3 → jget L 4 = .int v4 → g_R_asks_86 N B n v0 v1 v2 v3 v4 μ = some μ9 → jR B SA d m_R_asks 86 L [] μ none μ9 := by
  intro n
  induction n with
  | zero =>
    intro L v0 v1 v2 v3 v4 μ μ9 hl0 hl1 hl2 hl3 hl4 h
    unfold g_R_asks_86 at h
    cases h
  | succ n ih =>
    intro L v0 v1 v2 v3 v4 μ μ9 hl0 hl1 hl2 hl3 hl4 h
    unfold g_R_asks_86 at h
    refine jr_iload jf_264_86 hl4 ?_
    refine jr_aload_n jf_264_88 rfl hl0 ?_
    replace h := obd_of h; obtain ⟨x1, hx1, h⟩ := h
    refine jr_getA jf_264_89 hx1 ?_
    refine jr_iload_n jf_264_92 rfl hl1 ?_
    replace h := obd_of h; obtain ⟨a2, rfl, h⟩ := h
    replace h := obd_of h; obtain ⟨x3, hx3, h⟩ := h
    refine jr_iaload jf_264_93 hx3 ?_
    replace h := ite_or h; rcases h with ⟨hc, h⟩ | ⟨hc, h⟩
    · refine jr_if2_ge_t jf_264_94 hc ?_
      obtain rfl := Option.some.inj h
      exact jr_return jf_264_202 jmt_264
    · refine jr_if2_ge_f jf_264_94 hc ?_
      refine jr_aload_n jf_264_97 rfl hl0 ?_
      replace h := obd_of h; obtain ⟨x4, hx4, h⟩ := h
      refine jr_getA jf_264_98 hx4 ?_
      refine jr_bipush jf_264_101 jc_b_10 ?_
      refine jr_iload_n jf_264_103 rfl hl1 ?_
      refine jr_imul jf_264_104 ?_
      refine jr_iload jf_264_105 hl4 ?_
      refine jr_iadd jf_264_107 ?_
      replace h := obd_of h; obtain ⟨a5, rfl, h⟩ := h
      replace h := obd_of h; obtain ⟨x6, hx6, h⟩ := h
      refine jr_iaload jf_264_108 hx6 ?_
      refine jr_istore jf_264_109 jml_264 (by decide) ?_
      refine jr_aload_n jf_264_111 rfl (jg1_ne rfl hl0) ?_
      refine jr_dup jf_264_112 rfl ?_
      replace h := obd_of h; obtain ⟨x7, hx7, h⟩ := h
      refine jr_getI jf_264_113 hx7 ?_
      refine jr_iconst jf_264_116 jc_i_1 ?_
      refine jr_iadd jf_264_117 ?_
      replace h := obd_of h; obtain ⟨μ8, hμ8, h⟩ := h
      refine jr_putI jf_264_118 rfl hμ8 ?_
      refine jr_iconst jf_264_121 jc_i_0 ?_
      refine jr_istore jf_264_122 jml_264 (by decide) ?_
      exact r_R_asks_124 hd ih _ _ _ _ _ _ _ _ _ _ _ (jg1_ne rfl (jg1_ne rfl hl0)) (jg1_ne rfl (jg1_ne rfl hl1)) (jg1_ne rfl (jg1_ne rfl hl2)) (jg1_ne rfl (jg1_ne rfl hl3)) (jg1_ne rfl (jg1_pre rfl hl4)) (jg1_pre rfl jg1_same) jg1_same h
set_option maxRecDepth 10000 in
set_option maxHeartbeats 4000000 in
theorem r_R_asks_21 {N B : Nat} {SA : Nat → Nat} {d : Nat} (hd : 1 ≤ d) : ∀ (n : Nat), ∀ (L : JLoc) (v0 : Nat) (v1 : Int32) (v2 : Int32) (v3 : Int32) (v4 : Int32) (μ : JMem) (μ9 : JMem), jget L 0 = .ref v0 → jget L 1 = .int v1 → jget L 2 = .int v2 → jget L 3 = .int v3 → jget L 4 = .int v4 → g_R_asks_21 N B n v0 v1 v2 v3 v4 μ = some μ9 → jR B SA d m_R_asks 21 L [] μ none μ9 := by
  intro n
  induction n with
  | zero =>
    intro L v0 v1 v2 v3 v4 μ μ9 hl0 hl1 hl2 hl3 hl4 h
    unfold g_R_asks_21 at h
    cases h
  | succ n ih =>
    intro L v0 v1 v2 v3 v4 μ μ9 hl0 hl1 hl2 hl3 hl4 h
    unfold g_R_asks_21 at h
    refine jr_iload jf_264_21 hl4 ?_
    refine jr_iconst jf_264_23 jc_i_3 ?_
    refine jr_iload_n jf_264_24 rfl hl1 ?_
    refine jr_imul jf_264_25 ?_
    refine jr_aload_n jf_264_26 rfl hl0 ?_
    replace h := obd_of h; obtain ⟨x1, hx1, h⟩ := h
    refine jr_getA jf_264_27 hx1 ?_
    refine jr_iload_n jf_264_30 rfl hl1 ?_
    replace h := obd_of h; obtain ⟨a2, rfl, h⟩ := h
    replace h := obd_of h; obtain ⟨x3, hx3, h⟩ := h
    refine jr_iaload jf_264_31 hx3 ?_
    refine jr_iadd jf_264_32 ?_
    replace h := ite_or h; rcases h with ⟨hc, h⟩ | ⟨hc, h⟩
    · refine jr_if2_ge_t jf_264_33 hc ?_
      refine jr_iconst jf_264_83 jc_i_0 ?_
      refine jr_istore jf_264_84 jml_264 (by decide) ?_
      exact r_R_asks_86 hd _ _ _ _ _ _ _ _ _ (jg1_ne rfl hl0) (jg1_ne rfl hl1) (jg1_ne rfl hl2) (jg1_pre rfl hl3) jg1_same h
    · refine jr_if2_ge_f jf_264_33 hc ?_
      refine jr_aload_n jf_264_36 rfl hl0 ?_
      refine jr_aload_n jf_264_37 rfl hl0 ?_
      replace h := obd_of h; obtain ⟨x4, hx4, h⟩ := h
      refine jr_getZ jf_264_38 hx4 ?_
      replace h := ite_or h; rcases h with ⟨hc, h⟩ | ⟨hc, h⟩
      · refine jr_ifz_eq_f jf_264_41 hc ?_
        refine jr_iload_n jf_264_44 rfl hl2 ?_
        refine jr_iconst jf_264_45 jc_i_2 ?_
        replace h := ite_or h; rcases h with ⟨hc, h⟩ | ⟨hc, h⟩
        · refine jr_if2_ne_f jf_264_46 hc ?_
          refine jr_aload_n jf_264_49 rfl hl0 ?_
          replace h := obd_of h; obtain ⟨x5, hx5, h⟩ := h
          refine jr_getA jf_264_50 hx5 ?_
          refine jr_iload jf_264_53 hl4 ?_
          replace h := obd_of h; obtain ⟨a6, rfl, h⟩ := h
          replace h := obd_of h; obtain ⟨x7, hx7, h⟩ := h
          refine jr_daload jf_264_55 hx7 ?_
          refine jr_iload_n jf_264_56 rfl hl3 ?_
          refine jr_iload_n jf_264_57 rfl hl2 ?_
          refine jr_iconst jf_264_58 jc_i_0 ?_
          replace h := obd_of h; obtain ⟨x8, hx8, h⟩ := h
          refine jr_S3_4 jf_264_59 (by omega) (r_R_turned (by omega) _ _ _ _ _ _ hx8) (Nat.le_of_ble_eq_true rfl) jml_265 (Nat.le_of_ble_eq_true rfl) ?_
          refine jr_ldc2d jf_264_62 ?_
          refine jr_dcmp jf_264_65 ?_
          replace h := ite_or h; rcases h with ⟨hc, h⟩ | ⟨hc, h⟩
          · refine jr_if_eq_t jf_264_66 hc ?_
            exact r_R_asks_73 hd ih _ _ _ _ _ _ _ _ _ hl0 hl1 hl2 hl3 hl4 h
          · refine jr_if_eq_f jf_264_66 hc ?_
            exact r_R_asks_69 hd ih _ _ _ _ _ _ _ _ _ hl0 hl1 hl2 hl3 hl4 h
        · refine jr_if2_ne_t jf_264_46 hc ?_
          exact r_R_asks_69 hd ih _ _ _ _ _ _ _ _ _ hl0 hl1 hl2 hl3 hl4 h
      · refine jr_ifz_eq_t jf_264_41 hc ?_
        exact r_R_asks_73 hd ih _ _ _ _ _ _ _ _ _ hl0 hl1 hl2 hl3 hl4 h
set_option maxRecDepth 10000 in
set_option maxHeartbeats 4000000 in
theorem r_R_asks_e {N B : Nat} {SA : Nat → Nat} {d : Nat} (hd : 1 ≤ d) : ∀ (L : JLoc) (v0 : Nat) (v1 : Int32) (v2 : Int32) (μ : JMem) (μ9 : JMem), jget L 0 = .ref v0 → jget L 1 = .int v1 → jget L 2 = .int v2 → g_R_asks N B v0 v1 v2 μ = some μ9 → jR B SA d m_R_asks 0 L [] μ none μ9 := by
  intro L v0 v1 v2 μ μ9 hl0 hl1 hl2 h
  unfold g_R_asks at h
  refine jr_aload_n jf_264_0 rfl hl0 ?_
  refine jr_dup jf_264_1 rfl ?_
  replace h := obd_of h; obtain ⟨x1, hx1, h⟩ := h
  refine jr_getI jf_264_2 hx1 ?_
  refine jr_iconst jf_264_5 jc_i_1 ?_
  refine jr_iadd jf_264_6 ?_
  replace h := obd_of h; obtain ⟨μ2, hμ2, h⟩ := h
  refine jr_putI jf_264_7 rfl hμ2 ?_
  refine jr_aload_n jf_264_10 rfl hl0 ?_
  refine jr_iload_n jf_264_11 rfl hl1 ?_
  replace h := jgd_of h; obtain ⟨hb3, h⟩ := h
  replace h := obd_of h; obtain ⟨x4, hx4, h⟩ := h
  refine jr_V6_1 jf_264_12 hb3 (by omega) (r_R_sortOf (by omega) _ _ _ _ hx4) (Nat.le_of_ble_eq_true rfl) jml_207 (Nat.le_of_ble_eq_true rfl) ?_
  refine jr_istore_n jf_264_15 rfl jml_264 (by decide) ?_
  refine jr_iconst jf_264_16 jc_i_3 ?_
  refine jr_iload_n jf_264_17 rfl (jg1_ne rfl hl1) ?_
  refine jr_imul jf_264_18 ?_
  refine jr_istore jf_264_19 jml_264 (by decide) ?_
  exact r_R_asks_21 hd _ _ _ _ _ _ _ _ _ (jg1_ne rfl (jg1_ne rfl hl0)) (jg1_ne rfl (jg1_ne rfl hl1)) (jg1_ne rfl (jg1_pre rfl hl2)) (jg1_pre rfl jg1_same) jg1_same h
set_option maxRecDepth 10000 in
set_option maxHeartbeats 4000000 in
theorem r_R_asks {N B : Nat} {SA : Nat → Nat} {d : Nat} (hd : 1 ≤ d) : ∀ (v0 : Nat) (v1 : Int32) (v2 : Int32) (μ : JMem) (μ9 : JMem), g_R_asks N B v0 v1 v2 μ = some μ9 → jR B SA d m_R_asks 0 (lv_args 0 [.ref v0, .int v1, .int v2]) [] μ none μ9 := by
  intro v0 v1 v2 μ μ9 h
  exact r_R_asks_e hd (lv_args 0 _) _ _ _ _ _ (by simp [lv_args, jget, rv_cat, cat_int, cat_long, cat_double, cat_float, cat_ref]) (by simp [lv_args, jget, rv_cat, cat_int, cat_long, cat_double, cat_float, cat_ref]) (by simp [lv_args, jget, rv_cat, cat_int, cat_long, cat_double, cat_float, cat_ref]) h
/-! FilterBenchModel.convert(II)I -/
set_option maxRecDepth 10000 in
set_option maxHeartbeats 4000000 in
theorem r_R_convert_41 {N B : Nat} {SA : Nat → Nat} {d : Nat} (hd : 3 ≤ d) : ∀ (n : Nat), ∀ (L : JLoc) (v0 : Nat) (v1 : Int32) (v2 : Int32) (v3 : Int32) (μ : JMem) (r : Int32) (μ9 : JMem), jget L 0 = .ref v0 → jget L 1 = .int v1 → jget L 2 = .int v2 → jget L 3 = .int v3 → g_R_convert_41 N B n v0 v1 v2 v3 μ = some (r, μ9) → jR B SA d m_R_convert 41 L [] μ (some (.int r)) μ9 := by
  intro n
  induction n with
  | zero =>
    intro L v0 v1 v2 v3 μ r μ9 hl0 hl1 hl2 hl3 h
    unfold g_R_convert_41 at h
    cases h
  | succ n ih =>
    intro L v0 v1 v2 v3 μ r μ9 hl0 hl1 hl2 hl3 h
    unfold g_R_convert_41 at h
    refine jr_iload_n jf_263_41 rfl hl3 ?_
    refine jr_aload_n jf_263_42 rfl hl0 ?_
    replace h := obd_of h; obtain ⟨x1, hx1, h⟩ := h
    refine jr_getI jf_263_43 hx1 ?_
    replace h := ite_or h; rcases h with ⟨hc, h⟩ | ⟨hc, h⟩
    · refine jr_if2_ge_t jf_263_46 hc ?_
      refine jr_aload_n jf_263_66 rfl hl0 ?_
      replace h := obd_of h; obtain ⟨x2, hx2, h⟩ := h
      refine jr_getZ jf_263_67 hx2 ?_
      replace h := ite_or h; rcases h with ⟨hc, h⟩ | ⟨hc, h⟩
      · refine jr_ifz_eq_f jf_263_70 hc ?_
        refine jr_aload_n jf_263_73 rfl hl0 ?_
        replace h := obd_of h; obtain ⟨x3, hx3, h⟩ := h
        refine jr_getI jf_263_74 hx3 ?_
        refine jr_aload_n jf_263_77 rfl hl0 ?_
        replace h := obd_of h; obtain ⟨x4, hx4, h⟩ := h
        refine jr_getI jf_263_78 hx4 ?_
        refine jr_iadd jf_263_81 ?_
        refine jr_bipush jf_263_82 jc_b_60 ?_
        replace h := ite_or h; rcases h with ⟨hc, h⟩ | ⟨hc, h⟩
        · refine jr_if2_gt_t jf_263_84 hc ?_
          refine jr_iconst jf_263_101 jc_i_m1 ?_
          obtain ⟨rfl, rfl⟩ := Prod.mk.inj (Option.some.inj h)
          exact jr_retI jf_263_102 jmt_263
        · refine jr_if2_gt_f jf_263_84 hc ?_
          refine jr_aload_n jf_263_87 rfl hl0 ?_
          replace h := obd_of h; obtain ⟨x5, hx5, h⟩ := h
          refine jr_getI jf_263_88 hx5 ?_
          refine jr_aload_n jf_263_91 rfl hl0 ?_
          replace h := obd_of h; obtain ⟨x6, hx6, h⟩ := h
          refine jr_getI jf_263_92 hx6 ?_
          refine jr_iadd jf_263_95 ?_
          refine jr_bipush jf_263_96 jc_b_20 ?_
          replace h := ite_or h; rcases h with ⟨hc, h⟩ | ⟨hc, h⟩
          · refine jr_if2_le_t jf_263_98 hc ?_
            refine jr_aload_n jf_263_103 rfl hl0 ?_
            refine jr_iload_n jf_263_104 rfl hl1 ?_
            refine jr_iload_n jf_263_105 rfl hl2 ?_
            replace h := jgd_of h; obtain ⟨hb7, h⟩ := h
            replace h := jbd2_of h; obtain ⟨x8, μ9, hx8, h⟩ := h
            refine jr_V6_2 jf_263_106 hb7 (by omega) (r_R_anew (by omega) _ _ _ _ _ _ hx8) (Nat.le_of_ble_eq_true rfl) jml_266 (Nat.le_of_ble_eq_true rfl) ?_
            obtain ⟨rfl, rfl⟩ := Prod.mk.inj (Option.some.inj h)
            exact jr_retI jf_263_109 jmt_263
          · refine jr_if2_le_f jf_263_98 hc ?_
            refine jr_iconst jf_263_101 jc_i_m1 ?_
            obtain ⟨rfl, rfl⟩ := Prod.mk.inj (Option.some.inj h)
            exact jr_retI jf_263_102 jmt_263
      · refine jr_ifz_eq_t jf_263_70 hc ?_
        refine jr_iconst jf_263_101 jc_i_m1 ?_
        obtain ⟨rfl, rfl⟩ := Prod.mk.inj (Option.some.inj h)
        exact jr_retI jf_263_102 jmt_263
    · refine jr_if2_ge_f jf_263_46 hc ?_
      refine jr_aload_n jf_263_49 rfl hl0 ?_
      refine jr_aload_n jf_263_50 rfl hl0 ?_
      replace h := obd_of h; obtain ⟨x10, hx10, h⟩ := h
      refine jr_getA jf_263_51 hx10 ?_
      refine jr_iload_n jf_263_54 rfl hl3 ?_
      replace h := obd_of h; obtain ⟨a11, rfl, h⟩ := h
      replace h := obd_of h; obtain ⟨x12, hx12, h⟩ := h
      refine jr_iaload jf_263_55 hx12 ?_
      refine jr_iload_n jf_263_56 rfl hl2 ?_
      replace h := jgd_of h; obtain ⟨hb13, h⟩ := h
      replace h := obd_of h; obtain ⟨μ14, hμ14, h⟩ := h
      refine jr_V6v_2 jf_263_57 hb13 (by omega) (r_R_asks (by omega) _ _ _ _ _ hμ14) (Nat.le_of_ble_eq_true rfl) jml_264 (Nat.le_of_ble_eq_true rfl) ?_
      refine jr_iinc jf_263_60 jc_i_1 jml_263 (by decide) hl3 ?_
      refine jr_goto jf_263_63 ?_
      exact ih _ _ _ _ _ _ _ _ (jg1_ne rfl hl0) (jg1_ne rfl hl1) (jg1_pre rfl hl2) jg1_same h
set_option maxRecDepth 10000 in
set_option maxHeartbeats 4000000 in
theorem r_R_convert_e {N B : Nat} {SA : Nat → Nat} {d : Nat} (hd : 3 ≤ d) : ∀ (L : JLoc) (v0 : Nat) (v1 : Int32) (v2 : Int32) (μ : JMem) (r : Int32) (μ9 : JMem), jget L 0 = .ref v0 → jget L 1 = .int v1 → jget L 2 = .int v2 → g_R_convert N B v0 v1 v2 μ = some (r, μ9) → jR B SA d m_R_convert 0 L [] μ (some (.int r)) μ9 := by
  intro L v0 v1 v2 μ r μ9 hl0 hl1 hl2 h
  unfold g_R_convert at h
  refine jr_aload_n jf_263_0 rfl hl0 ?_
  refine jr_iload_n jf_263_1 rfl hl1 ?_
  replace h := jgd_of h; obtain ⟨hb1, h⟩ := h
  replace h := obd_of h; obtain ⟨x2, hx2, h⟩ := h
  refine jr_V6_1 jf_263_2 hb1 (by omega) (r_R_isFed (by omega) _ _ _ _ hx2) (Nat.le_of_ble_eq_true rfl) jml_214 (Nat.le_of_ble_eq_true rfl) ?_
  replace h := ite_or h; rcases h with ⟨hc, h⟩ | ⟨hc, h⟩
  · refine jr_ifz_eq_f jf_263_5 hc ?_
    refine jr_iload_n jf_263_8 rfl hl2 ?_
    refine jr_iconst jf_263_9 jc_i_0 ?_
    refine jr_iconst jf_263_10 jc_i_2 ?_
    refine jr_S3_3 jf_263_11 (by omega) (r_R_in (by omega) _ _ _ _ _ rfl) (Nat.le_of_ble_eq_true rfl) jml_189 (Nat.le_of_ble_eq_true rfl) ?_
    replace h := ite_or h; rcases h with ⟨hc, h⟩ | ⟨hc, h⟩
    · refine jr_ifz_ne_t jf_263_14 hc ?_
      refine jr_aload_n jf_263_19 rfl hl0 ?_
      refine jr_iconst jf_263_20 jc_i_0 ?_
      replace h := obd_of h; obtain ⟨μ3, hμ3, h⟩ := h
      refine jr_putI jf_263_21 rfl hμ3 ?_
      refine jr_aload_n jf_263_24 rfl hl0 ?_
      refine jr_iconst jf_263_25 jc_i_0 ?_
      replace h := obd_of h; obtain ⟨μ4, hμ4, h⟩ := h
      refine jr_putI jf_263_26 rfl hμ4 ?_
      refine jr_aload_n jf_263_29 rfl hl0 ?_
      refine jr_iconst jf_263_30 jc_i_1 ?_
      replace h := obd_of h; obtain ⟨μ5, hμ5, h⟩ := h
      refine jr_putZ (x := true) jf_263_31 rfl hμ5 ?_
      refine jr_aload_n jf_263_34 rfl hl0 ?_
      refine jr_iload_n jf_263_35 rfl hl1 ?_
      replace h := jgd_of h; obtain ⟨hb6, h⟩ := h
      replace h := obd_of h; obtain ⟨μ7, hμ7, h⟩ := h
      refine jr_V6v_1 jf_263_36 hb6 (by omega) (r_R_trees (by omega) _ _ _ _ hμ7) (Nat.le_of_ble_eq_true rfl) jml_246 (Nat.le_of_ble_eq_true rfl) ?_
      refine jr_iconst jf_263_39 jc_i_0 ?_
      refine jr_istore_n jf_263_40 rfl jml_263 (by decide) ?_
      exact r_R_convert_41 hd _ _ _ _ _ _ _ _ _ (jg1_ne rfl hl0) (jg1_ne rfl hl1) (jg1_pre rfl hl2) jg1_same h
    · refine jr_ifz_ne_f jf_263_14 hc ?_
      refine jr_iconst jf_263_17 jc_i_m1 ?_
      obtain ⟨rfl, rfl⟩ := Prod.mk.inj (Option.some.inj h)
      exact jr_retI jf_263_18 jmt_263
  · refine jr_ifz_eq_t jf_263_5 hc ?_
    refine jr_iconst jf_263_17 jc_i_m1 ?_
    obtain ⟨rfl, rfl⟩ := Prod.mk.inj (Option.some.inj h)
    exact jr_retI jf_263_18 jmt_263
set_option maxRecDepth 10000 in
set_option maxHeartbeats 4000000 in
theorem r_R_convert {N B : Nat} {SA : Nat → Nat} {d : Nat} (hd : 3 ≤ d) : ∀ (v0 : Nat) (v1 : Int32) (v2 : Int32) (μ : JMem) (r : Int32) (μ9 : JMem), g_R_convert N B v0 v1 v2 μ = some (r, μ9) → jR B SA d m_R_convert 0 (lv_args 0 [.ref v0, .int v1, .int v2]) [] μ (some (.int r)) μ9 := by
  intro v0 v1 v2 μ r μ9 h
  exact r_R_convert_e hd (lv_args 0 _) _ _ _ _ _ _ (by simp [lv_args, jget, rv_cat, cat_int, cat_long, cat_double, cat_float, cat_ref]) (by simp [lv_args, jget, rv_cat, cat_int, cat_long, cat_double, cat_float, cat_ref]) (by simp [lv_args, jget, rv_cat, cat_int, cat_long, cat_double, cat_float, cat_ref]) h
/-! FilterBenchModel.measure(II)J -/
set_option maxRecDepth 10000 in
set_option maxHeartbeats 4000000 in
theorem r_R_measure_204 {N B : Nat} {SA : Nat → Nat} {d : Nat} (hd : 3 ≤ d) {k64 : Nat → Int32 → Int32 → UInt64 → Int64 → Int32 → Int64 → Int64 → Int32 → (Nat → Option JCell) → Option Int64} (i64 : ∀ (L : JLoc) (v0 : Nat) (v1 : Int32) (v2 : Int32) (v4 : UInt64) (v6 : Int64) (v8 : Int32) (v9 : Int64) (v11 : Int64) (v13 : Int32) (μ : JMem) (r : Int64), jget L 0 = .ref v0 → jget L 1 = .int v1 → jget L 2 = .int v2 → jget L 4 = .double v4 → jget L 6 = .long v6 → jget L 8 = .int v8 → jget L 9 = .long v9 → jget L 11 = .long v11 → jget L 13 = .int v13 → k64 v0 v1 v2 v4 v6 v8 v9 v11 v13 μ.1 = some r → jR B SA d m_R_measure 64 L [] μ (some (.long r)) μ) : ∀ (L : JLoc) (v0 : Nat) (v1 : Int32) (v2 : Int32) (v4 : UInt64) (v6 : Int64) (v8 : Int32) (v9 : Int64) (v11 : Int64) (v13 : Int32) (μ : JMem) (r : Int64), jget L 0 = .ref v0 → jget L 1 = .int v1 → jget L 2 = .int v2 → jget L 4 = .double v4 → jget L 6 = .long v6 → jget L 8 = .int v8 → jget L 9 = .long v9 → jget L 11 = .long v11 → jget L 13 = .int v13 → g_R_measure_204 N k64 v0 v1 v2 v4 v6 v8 v9 v11 v13 μ.1 = some r → jR B SA d m_R_measure 204 L [] μ (some (.long r)) μ := by
  intro L v0 v1 v2 v4 v6 v8 v9 v11 v13 μ r hl0 hl1 hl2 hl4 hl6 hl8 hl9 hl11 hl13 h
  unfold g_R_measure_204 at h
  refine jr_iinc jf_268_204 jc_i_1 jml_268 (by decide) hl13 ?_
  refine jr_goto jf_268_207 ?_
  exact i64 _ _ _ _ _ _ _ _ _ _ _ _ (jg1_ne rfl hl0) (jg1_ne rfl hl1) (jg1_ne rfl hl2) (jg1_ne rfl hl4) (jg1_ne rfl hl6) (jg1_ne rfl hl8) (jg1_ne rfl hl9) (jg1_ne rfl hl11) jg1_same h
set_option maxRecDepth 10000 in
set_option maxHeartbeats 4000000 in
theorem r_R_measure_200 {N B : Nat} {SA : Nat → Nat} {d : Nat} (hd : 3 ≤ d) {k64 : Nat → Int32 → Int32 → UInt64 → Int64 → Int32 → Int64 → Int64 → Int32 → (Nat → Option JCell) → Option Int64} (i64 : ∀ (L : JLoc) (v0 : Nat) (v1 : Int32) (v2 : Int32) (v4 : UInt64) (v6 : Int64) (v8 : Int32) (v9 : Int64) (v11 : Int64) (v13 : Int32) (μ : JMem) (r : Int64), jget L 0 = .ref v0 → jget L 1 = .int v1 → jget L 2 = .int v2 → jget L 4 = .double v4 → jget L 6 = .long v6 → jget L 8 = .int v8 → jget L 9 = .long v9 → jget L 11 = .long v11 → jget L 13 = .int v13 → k64 v0 v1 v2 v4 v6 v8 v9 v11 v13 μ.1 = some r → jR B SA d m_R_measure 64 L [] μ (some (.long r)) μ) : ∀ (L : JLoc) (v0 : Nat) (v1 : Int32) (v2 : Int32) (v4 : UInt64) (v6 : Int64) (v9 : Int64) (v11 : Int64) (v13 : Int32) (v18 : Int32) (μ : JMem) (r : Int64), jget L 0 = .ref v0 → jget L 1 = .int v1 → jget L 2 = .int v2 → jget L 4 = .double v4 → jget L 6 = .long v6 → jget L 9 = .long v9 → jget L 11 = .long v11 → jget L 13 = .int v13 → jget L 18 = .int v18 → g_R_measure_200 N k64 v0 v1 v2 v4 v6 v9 v11 v13 v18 μ.1 = some r → jR B SA d m_R_measure 200 L [] μ (some (.long r)) μ := by
  intro L v0 v1 v2 v4 v6 v9 v11 v13 v18 μ r hl0 hl1 hl2 hl4 hl6 hl9 hl11 hl13 hl18 h
  unfold g_R_measure_200 at h
  refine jr_iload jf_268_200 hl18 ?_
  refine jr_istore jf_268_202 jml_268 (by decide) ?_
  exact r_R_measure_204 hd i64 _ _ _ _ _ _ _ _ _ _ _ _ (jg1_ne rfl hl0) (jg1_ne rfl hl1) (jg1_ne rfl hl2) (jg1_ne rfl hl4) (jg1_ne rfl hl6) jg1_same (jg1_ne rfl hl9) (jg1_ne rfl hl11) (jg1_ne rfl hl13) h
set_option maxRecDepth 10000 in
set_option maxHeartbeats 4000000 in
theorem r_R_measure_176 {N B : Nat} {SA : Nat → Nat} {d : Nat} (hd : 3 ≤ d) {k64 : Nat → Int32 → Int32 → UInt64 → Int64 → Int32 → Int64 → Int64 → Int32 → (Nat → Option JCell) → Option Int64} (i64 : ∀ (L : JLoc) (v0 : Nat) (v1 : Int32) (v2 : Int32) (v4 : UInt64) (v6 : Int64) (v8 : Int32) (v9 : Int64) (v11 : Int64) (v13 : Int32) (μ : JMem) (r : Int64), jget L 0 = .ref v0 → jget L 1 = .int v1 → jget L 2 = .int v2 → jget L 4 = .double v4 → jget L 6 = .long v6 → jget L 8 = .int v8 → jget L 9 = .long v9 → jget L 11 = .long v11 → jget L 13 = .int v13 → k64 v0 v1 v2 v4 v6 v8 v9 v11 v13 μ.1 = some r → jR B SA d m_R_measure 64 L [] μ (some (.long r)) μ) : ∀ (L : JLoc) (v0 : Nat) (v1 : Int32) (v2 : Int32) (v4 : UInt64) (v6 : Int64) (v8 : Int32) (v9 : Int64) (v11 : Int64) (v13 : Int32) (s0 : Int32) (μ : JMem) (r : Int64), jget L 0 = .ref v0 → jget L 1 = .int v1 → jget L 2 = .int v2 → jget L 4 = .double v4 → jget L 6 = .long v6 → jget L 8 = .int v8 → jget L 9 = .long v9 → jget L 11 = .long v11 → jget L 13 = .int v13 → g_R_measure_176 N k64 v0 v1 v2 v4 v6 v8 v9 v11 v13 s0 μ.1 = some r → jR B SA d m_R_measure 176 L [.int s0] μ (some (.long r)) μ := by
  intro L v0 v1 v2 v4 v6 v8 v9 v11 v13 s0 μ r hl0 hl1 hl2 hl4 hl6 hl8 hl9 hl11 hl13 h
  unfold g_R_measure_176 at h
  refine jr_istore jf_268_176 jml_268 (by decide) ?_
  refine jr_iload jf_268_178 jg1_same ?_
  replace h := ite_or h; rcases h with ⟨hc, h⟩ | ⟨hc, h⟩
  · refine jr_if_ne_f jf_268_180 hc ?_
    refine jr_goto jf_268_183 ?_
    exact r_R_measure_204 hd i64 _ _ _ _ _ _ _ _ _ _ _ _ (jg1_ne rfl hl0) (jg1_ne rfl hl1) (jg1_ne rfl hl2) (jg1_ne rfl hl4) (jg1_ne rfl hl6) (jg1_ne rfl hl8) (jg1_ne rfl hl9) (jg1_ne rfl hl11) (jg1_ne rfl hl13) h
  · refine jr_if_ne_t jf_268_180 hc ?_
    refine jr_iload jf_268_186 (jg1_ne rfl hl8) ?_
    refine jr_iload jf_268_188 jg1_same ?_
    refine jr_ineg jf_268_190 ?_
    replace h := ite_or h; rcases h with ⟨hc, h⟩ | ⟨hc, h⟩
    · refine jr_if2_ne_f jf_268_191 hc ?_
      refine jr_lload jf_268_194 (jg1_ne rfl hl6) ?_
      refine jr_lconst1 jf_268_196 ?_
      refine jr_ladd jf_268_197 ?_
      refine jr_lstore jf_268_198 jml_268 (by decide) ?_
      exact r_R_measure_200 hd i64 _ _ _ _ _ _ _ _ _ _ _ _ (jg2_ne rfl (jg1_ne rfl hl0)) (jg2_ne rfl (jg1_ne rfl hl1)) (jg2_ne rfl (jg1_ne rfl hl2)) (jg2_ne rfl (jg1_ne rfl hl4)) jg2_same (jg2_ne rfl (jg1_ne rfl hl9)) (jg2_ne rfl (jg1_ne rfl hl11)) (jg2_ne rfl (jg1_ne rfl hl13)) (jg2_ne rfl jg1_same) h
    · refine jr_if2_ne_t jf_268_191 hc ?_
      exact r_R_measure_200 hd i64 _ _ _ _ _ _ _ _ _ _ _ _ (jg1_ne rfl hl0) (jg1_ne rfl hl1) (jg1_ne rfl hl2) (jg1_ne rfl hl4) (jg1_ne rfl hl6) (jg1_ne rfl hl9) (jg1_ne rfl hl11) (jg1_ne rfl hl13) jg1_same h
set_option maxRecDepth 10000 in
set_option maxHeartbeats 4000000 in
theorem r_R_measure_151 {N B : Nat} {SA : Nat → Nat} {d : Nat} (hd : 3 ≤ d) {k64 : Nat → Int32 → Int32 → UInt64 → Int64 → Int32 → Int64 → Int64 → Int32 → (Nat → Option JCell) → Option Int64} (i64 : ∀ (L : JLoc) (v0 : Nat) (v1 : Int32) (v2 : Int32) (v4 : UInt64) (v6 : Int64) (v8 : Int32) (v9 : Int64) (v11 : Int64) (v13 : Int32) (μ : JMem) (r : Int64), jget L 0 = .ref v0 → jget L 1 = .int v1 → jget L 2 = .int v2 → jget L 4 = .double v4 → jget L 6 = .long v6 → jget L 8 = .int v8 → jget L 9 = .long v9 → jget L 11 = .long v11 → jget L 13 = .int v13 → k64 v0 v1 v2 v4 v6 v8 v9 v11 v13 μ.1 = some r → jR B SA d m_R_measure 64 L [] μ (some (.long r)) μ) : ∀ (L : JLoc) (v0 : Nat) (v1 : Int32) (v2 : Int32) (v4 : UInt64) (v6 : Int64) (v8 : Int32) (v9 : Int64) (v13 : Int32) (v14 : UInt64) (s0 : Int64) (μ : JMem) (r : Int64), jget L 0 = .ref v0 → jget L 1 = .int v1 → jget L 2 = .int v2 → jget L 4 = .double v4 → jget L 6 = .long v6 → jget L 8 = .int v8 → jget L 9 = .long v9 → jget L 13 = .int v13 → jget L 14 = .double v14 → g_R_measure_151 N k64 v0 v1 v2 v4 v6 v8 v9 v13 v14 s0 μ.1 = some r → jR B SA d m_R_measure 151 L [.long s0] μ (some (.long r)) μ := by
  intro L v0 v1 v2 v4 v6 v8 v9 v13 v14 s0 μ r hl0 hl1 hl2 hl4 hl6 hl8 hl9 hl13 hl14 h
  unfold g_R_measure_151 at h
  refine jr_lstore jf_268_151 jml_268 (by decide) ?_
  refine jr_dload jf_268_153 (jg2_ne rfl hl14) ?_
  refine jr_dconst0 jf_268_155 ?_
  refine jr_dcmp jf_268_156 ?_
  replace h := ite_or h; rcases h with ⟨hc, h⟩ | ⟨hc, h⟩
  · refine jr_if_le_t jf_268_157 hc ?_
    refine jr_dload jf_268_164 (jg2_ne rfl hl14) ?_
    refine jr_dconst0 jf_268_166 ?_
    refine jr_dcmp jf_268_167 ?_
    replace h := ite_or h; rcases h with ⟨hc, h⟩ | ⟨hc, h⟩
    · refine jr_if_ge_t jf_268_168 hc ?_
      refine jr_iconst jf_268_175 jc_i_0 ?_
      exact r_R_measure_176 hd i64 _ _ _ _ _ _ _ _ _ _ _ _ _ (jg2_ne rfl hl0) (jg2_ne rfl hl1) (jg2_ne rfl hl2) (jg2_ne rfl hl4) (jg2_ne rfl hl6) (jg2_ne rfl hl8) (jg2_ne rfl hl9) jg2_same (jg2_ne rfl hl13) h
    · refine jr_if_ge_f jf_268_168 hc ?_
      refine jr_iconst jf_268_171 jc_i_m1 ?_
      refine jr_goto jf_268_172 ?_
      exact r_R_measure_176 hd i64 _ _ _ _ _ _ _ _ _ _ _ _ _ (jg2_ne rfl hl0) (jg2_ne rfl hl1) (jg2_ne rfl hl2) (jg2_ne rfl hl4) (jg2_ne rfl hl6) (jg2_ne rfl hl8) (jg2_ne rfl hl9) jg2_same (jg2_ne rfl hl13) h
  · refine jr_if_le_f jf_268_157 hc ?_
    refine jr_iconst jf_268_160 jc_i_1 ?_
    refine jr_goto jf_268_161 ?_
    exact r_R_measure_176 hd i64 _ _ _ _ _ _ _ _ _ _ _ _ _ (jg2_ne rfl hl0) (jg2_ne rfl hl1) (jg2_ne rfl hl2) (jg2_ne rfl hl4) (jg2_ne rfl hl6) (jg2_ne rfl hl8) (jg2_ne rfl hl9) jg2_same (jg2_ne rfl hl13) h
set_option maxRecDepth 10000 in
set_option maxHeartbeats 4000000 in
theorem r_R_measure_134 {N B : Nat} {SA : Nat → Nat} {d : Nat} (hd : 3 ≤ d) {k64 : Nat → Int32 → Int32 → UInt64 → Int64 → Int32 → Int64 → Int64 → Int32 → (Nat → Option JCell) → Option Int64} (i64 : ∀ (L : JLoc) (v0 : Nat) (v1 : Int32) (v2 : Int32) (v4 : UInt64) (v6 : Int64) (v8 : Int32) (v9 : Int64) (v11 : Int64) (v13 : Int32) (μ : JMem) (r : Int64), jget L 0 = .ref v0 → jget L 1 = .int v1 → jget L 2 = .int v2 → jget L 4 = .double v4 → jget L 6 = .long v6 → jget L 8 = .int v8 → jget L 9 = .long v9 → jget L 11 = .long v11 → jget L 13 = .int v13 → k64 v0 v1 v2 v4 v6 v8 v9 v11 v13 μ.1 = some r → jR B SA d m_R_measure 64 L [] μ (some (.long r)) μ) : ∀ (L : JLoc) (v0 : Nat) (v1 : Int32) (v2 : Int32) (v4 : UInt64) (v6 : Int64) (v8 : Int32) (v11 : Int64) (v13 : Int32) (v14 : UInt64) (s0 : Int64) (μ : JMem) (r : Int64), jget L 0 = .ref v0 → jget L 1 = .int v1 → jget L 2 = .int v2 → jget L 4 = .double v4 → jget L 6 = .long v6 → jget L 8 = .int v8 → jget L 11 = .long v11 → jget L 13 = .int v13 → jget L 14 = .double v14 → g_R_measure_134 N k64 v0 v1 v2 v4 v6 v8 v11 v13 v14 s0 μ.1 = some r → jR B SA d m_R_measure 134 L [.long s0] μ (some (.long r)) μ := by
  intro L v0 v1 v2 v4 v6 v8 v11 v13 v14 s0 μ r hl0 hl1 hl2 hl4 hl6 hl8 hl11 hl13 hl14 h
  unfold g_R_measure_134 at h
  refine jr_lstore jf_268_134 jml_268 (by decide) ?_
  refine jr_lload jf_268_136 jg2_same ?_
  refine jr_lload jf_268_138 (jg2_ne rfl hl11) ?_
  refine jr_lcmp jf_268_140 ?_
  replace h := ite_or h; rcases h with ⟨hc, h⟩ | ⟨hc, h⟩
  · refine jr_ifl_le_t jf_268_141 hc ?_
    refine jr_lload jf_268_149 (jg2_ne rfl hl11) ?_
    exact r_R_measure_151 hd i64 _ _ _ _ _ _ _ _ _ _ _ _ _ (jg2_ne rfl hl0) (jg2_ne rfl hl1) (jg2_ne rfl hl2) (jg2_ne rfl hl4) (jg2_ne rfl hl6) (jg2_pre rfl hl8) jg2_same (jg2_ne rfl hl13) (jg2_ne rfl hl14) h
  · refine jr_ifl_le_f jf_268_141 hc ?_
    refine jr_lload jf_268_144 jg2_same ?_
    refine jr_goto jf_268_146 ?_
    exact r_R_measure_151 hd i64 _ _ _ _ _ _ _ _ _ _ _ _ _ (jg2_ne rfl hl0) (jg2_ne rfl hl1) (jg2_ne rfl hl2) (jg2_ne rfl hl4) (jg2_ne rfl hl6) (jg2_pre rfl hl8) jg2_same (jg2_ne rfl hl13) (jg2_ne rfl hl14) h
set_option maxRecDepth 10000 in
set_option maxHeartbeats 4000000 in
theorem r_R_measure_119 {N B : Nat} {SA : Nat → Nat} {d : Nat} (hd : 3 ≤ d) {k64 : Nat → Int32 → Int32 → UInt64 → Int64 → Int32 → Int64 → Int64 → Int32 → (Nat → Option JCell) → Option Int64} (i64 : ∀ (L : JLoc) (v0 : Nat) (v1 : Int32) (v2 : Int32) (v4 : UInt64) (v6 : Int64) (v8 : Int32) (v9 : Int64) (v11 : Int64) (v13 : Int32) (μ : JMem) (r : Int64), jget L 0 = .ref v0 → jget L 1 = .int v1 → jget L 2 = .int v2 → jget L 4 = .double v4 → jget L 6 = .long v6 → jget L 8 = .int v8 → jget L 9 = .long v9 → jget L 11 = .long v11 → jget L 13 = .int v13 → k64 v0 v1 v2 v4 v6 v8 v9 v11 v13 μ.1 = some r → jR B SA d m_R_measure 64 L [] μ (some (.long r)) μ) : ∀ (L : JLoc) (v0 : Nat) (v1 : Int32) (v2 : Int32) (v4 : UInt64) (v6 : Int64) (v8 : Int32) (v9 : Int64) (v11 : Int64) (v13 : Int32) (v14 : UInt64) (μ : JMem) (r : Int64), jget L 0 = .ref v0 → jget L 1 = .int v1 → jget L 2 = .int v2 → jget L 4 = .double v4 → jget L 6 = .long v6 → jget L 8 = .int v8 → jget L 9 = .long v9 → jget L 11 = .long v11 → jget L 13 = .int v13 → jget L 14 = .double v14 → g_R_measure_119 N k64 v0 v1 v2 v4 v6 v8 v9 v11 v13 v14 μ.1 = some r → jR B SA d m_R_measure 119 L [] μ (some (.long r)) μ := by
  intro L v0 v1 v2 v4 v6 v8 v9 v11 v13 v14 μ r hl0 hl1 hl2 hl4 hl6 hl8 hl9 hl11 hl13 hl14 h
  unfold g_R_measure_119 at h
  refine jr_dload jf_268_119 hl14 ?_
  refine jr_dconst0 jf_268_121 ?_
  refine jr_dcmp jf_268_122 ?_
  replace h := ite_or h; rcases h with ⟨hc, h⟩ | ⟨hc, h⟩
  · refine jr_if_ne_f jf_268_123 hc ?_
    refine jr_lload jf_268_126 hl9 ?_
    refine jr_lconst1 jf_268_128 ?_
    refine jr_ladd jf_268_129 ?_
    refine jr_goto jf_268_130 ?_
    exact r_R_measure_134 hd i64 _ _ _ _ _ _ _ _ _ _ _ _ _ hl0 hl1 hl2 hl4 hl6 hl8 hl11 hl13 hl14 h
  · refine jr_if_ne_t jf_268_123 hc ?_
    refine jr_lconst0 jf_268_133 ?_
    exact r_R_measure_134 hd i64 _ _ _ _ _ _ _ _ _ _ _ _ _ hl0 hl1 hl2 hl4 hl6 hl8 hl11 hl13 hl14 h
set_option maxRecDepth 10000 in
set_option maxHeartbeats 4000000 in
theorem r_R_measure_64 {N B : Nat} {SA : Nat → Nat} {d : Nat} (hd : 3 ≤ d) : ∀ (n : Nat), ∀ (L : JLoc) (v0 : Nat) (v1 : Int32) (v2 : Int32) (v4 : UInt64) (v6 : Int64) (v8 : Int32) (v9 : Int64) (v11 : Int64) (v13 : Int32) (μ : JMem) (r : Int64), jget L 0 = .ref v0 → jget L 1 = .int v1 → jget L 2 = .int v2 → jget L 4 = .double v4 → jget L 6 = .long v6 → jget L 8 = .int v8 → jget L 9 = .long v9 → jget L 11 = .long v11 → jget L 13 = .int v13 → g_R_measure_64 N n v0 v1 v2 v4 v6 v8 v9 v11 v13 μ.1 = some r → jR B SA d m_R_measure 64 L [] μ (some (.long r)) μ := by
  intro n
  induction n with
  | zero =>
    intro L v0 v1 v2 v4 v6 v8 v9 v11 v13 μ r hl0 hl1 hl2 hl4 hl6 hl8 hl9 hl11 hl13 h
    unfold g_R_measure_64 at h
    cases h
  | succ n ih =>
    intro L v0 v1 v2 v4 v6 v8 v9 v11 v13 μ r hl0 hl1 hl2 hl4 hl6 hl8 hl9 hl11 hl13 h
    unfold g_R_measure_64 at h
    refine jr_iload jf_268_64 hl13 ?_
    refine jr_aload_n jf_268_66 rfl hl0 ?_
    replace h := obd_of h; obtain ⟨x1, hx1, h⟩ := h
    refine jr_getA jf_268_67 hx1 ?_
    refine jr_iload_n jf_268_70 rfl hl1 ?_
    replace h := obd_of h; obtain ⟨a2, rfl, h⟩ := h
    replace h := obd_of h; obtain ⟨x3, hx3, h⟩ := h
    refine jr_iaload jf_268_71 hx3 ?_
    replace h := ite_or h; rcases h with ⟨hc, h⟩ | ⟨hc, h⟩
    · refine jr_if2_ge_t jf_268_72 hc ?_
      refine jr_iload_n jf_268_210 rfl hl2 ?_
      replace h := ite_or h; rcases h with ⟨hc, h⟩ | ⟨hc, h⟩
      · refine jr_if_ne_f jf_268_211 hc ?_
        refine jr_aload_n jf_268_214 rfl hl0 ?_
        replace h := obd_of h; obtain ⟨x4, hx4, h⟩ := h
        refine jr_getA jf_268_215 hx4 ?_
        refine jr_iload_n jf_268_218 rfl hl1 ?_
        replace h := obd_of h; obtain ⟨a5, rfl, h⟩ := h
        replace h := obd_of h; obtain ⟨x6, hx6, h⟩ := h
        refine jr_iaload jf_268_219 hx6 ?_
        replace h := ite_or h; rcases h with ⟨hc, h⟩ | ⟨hc, h⟩
        · refine jr_if_ne_f jf_268_220 hc ?_
          refine jr_lconst0 jf_268_223 ?_
          refine jr_goto jf_268_224 ?_
          obtain rfl := Option.some.inj h
          exact jr_retJ jf_268_252 jmt_268
        · refine jr_if_ne_t jf_268_220 hc ?_
          refine jr_aload_n jf_268_227 rfl hl0 ?_
          refine jr_iload_n jf_268_228 rfl hl1 ?_
          replace h := jgd_of h; obtain ⟨hb7, h⟩ := h
          replace h := obd_of h; obtain ⟨x8, hx8, h⟩ := h
          refine jr_V6_1 jf_268_229 hb7 (by omega) (r_R_sortOf (by omega) _ _ _ _ hx8) (Nat.le_of_ble_eq_true rfl) jml_207 (Nat.le_of_ble_eq_true rfl) ?_
          refine jr_dload jf_268_232 hl4 ?_
          replace h := obd_of h; obtain ⟨x9, hx9, h⟩ := h
          refine jr_S3_2 jf_268_234 (by omega) (r_R_bitsOf (by omega) _ _ _ _ hx9) (Nat.le_of_ble_eq_true rfl) jml_237 (Nat.le_of_ble_eq_true rfl) ?_
          refine jr_goto jf_268_237 ?_
          obtain rfl := Option.some.inj h
          exact jr_retJ jf_268_252 jmt_268
      · refine jr_if_ne_t jf_268_211 hc ?_
        refine jr_iload_n jf_268_240 rfl hl2 ?_
        refine jr_iconst jf_268_241 jc_i_1 ?_
        replace h := ite_or h; rcases h with ⟨hc, h⟩ | ⟨hc, h⟩
        · refine jr_if2_ne_f jf_268_242 hc ?_
          refine jr_lload jf_268_245 hl6 ?_
          refine jr_goto jf_268_247 ?_
          obtain rfl := Option.some.inj h
          exact jr_retJ jf_268_252 jmt_268
        · refine jr_if2_ne_t jf_268_242 hc ?_
          refine jr_lload jf_268_250 hl11 ?_
          obtain rfl := Option.some.inj h
          exact jr_retJ jf_268_252 jmt_268
    · refine jr_if2_ge_f jf_268_72 hc ?_
      refine jr_aload_n jf_268_75 rfl hl0 ?_
      replace h := obd_of h; obtain ⟨x10, hx10, h⟩ := h
      refine jr_getA jf_268_76 hx10 ?_
      refine jr_sipush jf_268_79 jc_s_400 ?_
      refine jr_iload_n jf_268_82 rfl hl1 ?_
      refine jr_imul jf_268_83 ?_
      refine jr_iload jf_268_84 hl13 ?_
      refine jr_sipush jf_268_86 jc_s_400 ?_
      refine jr_irem jf_268_89 (by simp only [jremI]; exact if_neg (by decide)) ?_
      refine jr_iadd jf_268_90 ?_
      replace h := obd_of h; obtain ⟨a11, rfl, h⟩ := h
      replace h := obd_of h; obtain ⟨x12, hx12, h⟩ := h
      refine jr_daload jf_268_91 hx12 ?_
      refine jr_dstore jf_268_92 jml_268 (by decide) ?_
      refine jr_aload_n jf_268_94 rfl (jg2_ne rfl hl0) ?_
      refine jr_aload_n jf_268_95 rfl (jg2_ne rfl hl0) ?_
      refine jr_iload_n jf_268_96 rfl (jg2_ne rfl hl1) ?_
      replace h := jgd_of h; obtain ⟨hb13, h⟩ := h
      replace h := obd_of h; obtain ⟨x14, hx14, h⟩ := h
      refine jr_V6_1 jf_268_97 hb13 (by omega) (r_R_sortOf (by omega) _ _ _ _ hx14) (Nat.le_of_ble_eq_true rfl) jml_207 (Nat.le_of_ble_eq_true rfl) ?_
      refine jr_dload jf_268_100 jg2_same ?_
      replace h := jgd_of h; obtain ⟨hb15, h⟩ := h
      replace h := obd_of h; obtain ⟨x16, hx16, h⟩ := h
      refine jr_V6_2 jf_268_102 hb15 (by omega) (r_R_sizeOf (by omega) _ _ _ _ _ hx16) (Nat.le_of_ble_eq_true rfl) jml_233 (Nat.le_of_ble_eq_true rfl) ?_
      refine jr_dstore jf_268_105 jml_268 (by decide) ?_
      refine jr_dload jf_268_107 jg2_same ?_
      refine jr_dload jf_268_109 (jg2_ne rfl (jg2_ne rfl hl4)) ?_
      refine jr_dcmp jf_268_111 ?_
      replace h := ite_or h; rcases h with ⟨hc, h⟩ | ⟨hc, h⟩
      · refine jr_if_le_t jf_268_112 hc ?_
        exact r_R_measure_119 hd ih _ _ _ _ _ _ _ _ _ _ _ _ _ (jg2_ne rfl (jg2_ne rfl hl0)) (jg2_ne rfl (jg2_ne rfl hl1)) (jg2_ne rfl (jg2_ne rfl hl2)) (jg2_ne rfl (jg2_ne rfl hl4)) (jg2_ne rfl (jg2_ne rfl hl6)) (jg2_ne rfl (jg2_ne rfl hl8)) (jg2_ne rfl (jg2_ne rfl hl9)) (jg2_ne rfl (jg2_ne rfl hl11)) (jg2_ne rfl (jg2_pre rfl hl13)) (jg2_ne rfl jg2_same) h
      · refine jr_if_le_f jf_268_112 hc ?_
        refine jr_dload jf_268_115 jg2_same ?_
        refine jr_dstore jf_268_117 jml_268 (by decide) ?_
        exact r_R_measure_119 hd ih _ _ _ _ _ _ _ _ _ _ _ _ _ (jg2_ne rfl (jg2_ne rfl (jg2_ne rfl hl0))) (jg2_ne rfl (jg2_ne rfl (jg2_ne rfl hl1))) (jg2_ne rfl (jg2_ne rfl (jg2_ne rfl hl2))) jg2_same (jg2_ne rfl (jg2_ne rfl (jg2_ne rfl hl6))) (jg2_ne rfl (jg2_ne rfl (jg2_ne rfl hl8))) (jg2_ne rfl (jg2_ne rfl (jg2_ne rfl hl9))) (jg2_ne rfl (jg2_ne rfl (jg2_ne rfl hl11))) (jg2_ne rfl (jg2_ne rfl (jg2_pre rfl hl13))) (jg2_ne rfl (jg2_ne rfl jg2_same)) h
set_option maxRecDepth 10000 in
set_option maxHeartbeats 4000000 in
theorem r_R_measure_45 {N B : Nat} {SA : Nat → Nat} {d : Nat} (hd : 3 ≤ d) : ∀ (L : JLoc) (v0 : Nat) (v1 : Int32) (v2 : Int32) (s0 : Int32) (μ : JMem) (r : Int64), jget L 0 = .ref v0 → jget L 1 = .int v1 → jget L 2 = .int v2 → g_R_measure_45 N v0 v1 v2 s0 μ.1 = some r → jR B SA d m_R_measure 45 L [.int s0] μ (some (.long r)) μ := by
  intro L v0 v1 v2 s0 μ r hl0 hl1 hl2 h
  unfold g_R_measure_45 at h
  refine jr_istore_n jf_268_45 rfl jml_268 (by decide) ?_
  refine jr_dconst0 jf_268_46 ?_
  refine jr_dstore jf_268_47 jml_268 (by decide) ?_
  refine jr_lconst0 jf_268_49 ?_
  refine jr_lstore jf_268_50 jml_268 (by decide) ?_
  refine jr_iconst jf_268_52 jc_i_0 ?_
  refine jr_istore jf_268_53 jml_268 (by decide) ?_
  refine jr_lconst0 jf_268_55 ?_
  refine jr_lstore jf_268_56 jml_268 (by decide) ?_
  refine jr_lconst0 jf_268_58 ?_
  refine jr_lstore jf_268_59 jml_268 (by decide) ?_
  refine jr_iload_n jf_268_61 rfl (jg2_ne rfl (jg2_ne rfl (jg1_ne rfl (jg2_ne rfl (jg2_pre rfl jg1_same))))) ?_
  refine jr_istore jf_268_62 jml_268 (by decide) ?_
  exact r_R_measure_64 hd _ _ _ _ _ _ _ _ _ _ _ _ _ (jg1_ne rfl (jg2_ne rfl (jg2_ne rfl (jg1_ne rfl (jg2_ne rfl (jg2_ne rfl (jg1_ne rfl hl0))))))) (jg1_ne rfl (jg2_ne rfl (jg2_ne rfl (jg1_ne rfl (jg2_ne rfl (jg2_ne rfl (jg1_ne rfl hl1))))))) (jg1_ne rfl (jg2_ne rfl (jg2_ne rfl (jg1_ne rfl (jg2_ne rfl (jg2_ne rfl (jg1_pre rfl hl2))))))) (jg1_ne rfl (jg2_ne rfl (jg2_ne rfl (jg1_ne rfl (jg2_ne rfl jg2_same))))) (jg1_ne rfl (jg2_ne rfl (jg2_ne rfl (jg1_ne rfl jg2_same)))) (jg1_ne rfl (jg2_ne rfl (jg2_pre rfl jg1_same))) (jg1_ne rfl (jg2_ne rfl jg2_same)) (jg1_ne rfl jg2_same) jg1_same h
set_option maxRecDepth 10000 in
set_option maxHeartbeats 4000000 in
theorem r_R_measure_e {N B : Nat} {SA : Nat → Nat} {d : Nat} (hd : 3 ≤ d) : ∀ (L : JLoc) (v0 : Nat) (v1 : Int32) (v2 : Int32) (μ : JMem) (r : Int64), jget L 0 = .ref v0 → jget L 1 = .int v1 → jget L 2 = .int v2 → g_R_measure N v0 v1 v2 μ.1 = some r → jR B SA d m_R_measure 0 L [] μ (some (.long r)) μ := by
  intro L v0 v1 v2 μ r hl0 hl1 hl2 h
  unfold g_R_measure at h
  refine jr_aload_n jf_268_0 rfl hl0 ?_
  refine jr_iload_n jf_268_1 rfl hl1 ?_
  replace h := jgd_of h; obtain ⟨hb1, h⟩ := h
  replace h := obd_of h; obtain ⟨x2, hx2, h⟩ := h
  refine jr_V6_1 jf_268_2 hb1 (by omega) (r_R_isChain (by omega) _ _ _ _ hx2) (Nat.le_of_ble_eq_true rfl) jml_206 (Nat.le_of_ble_eq_true rfl) ?_
  replace h := ite_or h; rcases h with ⟨hc, h⟩ | ⟨hc, h⟩
  · refine jr_ifz_eq_f jf_268_5 hc ?_
    refine jr_iload_n jf_268_8 rfl hl2 ?_
    refine jr_iconst jf_268_9 jc_i_0 ?_
    refine jr_iconst jf_268_10 jc_i_2 ?_
    refine jr_S3_3 jf_268_11 (by omega) (r_R_in (by omega) _ _ _ _ _ rfl) (Nat.le_of_ble_eq_true rfl) jml_189 (Nat.le_of_ble_eq_true rfl) ?_
    replace h := ite_or h; rcases h with ⟨hc, h⟩ | ⟨hc, h⟩
    · refine jr_ifz_ne_t jf_268_14 hc ?_
      refine jr_aload_n jf_268_19 rfl hl0 ?_
      replace h := obd_of h; obtain ⟨x3, hx3, h⟩ := h
      refine jr_getA jf_268_20 hx3 ?_
      refine jr_iload_n jf_268_23 rfl hl1 ?_
      replace h := obd_of h; obtain ⟨a4, rfl, h⟩ := h
      replace h := obd_of h; obtain ⟨x5, hx5, h⟩ := h
      refine jr_iaload jf_268_24 hx5 ?_
      refine jr_sipush jf_268_25 jc_s_400 ?_
      replace h := ite_or h; rcases h with ⟨hc, h⟩ | ⟨hc, h⟩
      · refine jr_if2_le_t jf_268_28 hc ?_
        refine jr_iconst jf_268_44 jc_i_0 ?_
        exact r_R_measure_45 hd _ _ _ _ _ _ _ hl0 hl1 hl2 h
      · refine jr_if2_le_f jf_268_28 hc ?_
        refine jr_aload_n jf_268_31 rfl hl0 ?_
        replace h := obd_of h; obtain ⟨x6, hx6, h⟩ := h
        refine jr_getA jf_268_32 hx6 ?_
        refine jr_iload_n jf_268_35 rfl hl1 ?_
        replace h := obd_of h; obtain ⟨a7, rfl, h⟩ := h
        replace h := obd_of h; obtain ⟨x8, hx8, h⟩ := h
        refine jr_iaload jf_268_36 hx8 ?_
        refine jr_sipush jf_268_37 jc_s_400 ?_
        refine jr_isub jf_268_40 ?_
        refine jr_goto jf_268_41 ?_
        exact r_R_measure_45 hd _ _ _ _ _ _ _ hl0 hl1 hl2 h
    · refine jr_ifz_ne_f jf_268_14 hc ?_
      refine jr_lconst0 jf_268_17 ?_
      obtain rfl := Option.some.inj h
      exact jr_retJ jf_268_18 jmt_268
  · refine jr_ifz_eq_t jf_268_5 hc ?_
    refine jr_lconst0 jf_268_17 ?_
    obtain rfl := Option.some.inj h
    exact jr_retJ jf_268_18 jmt_268
set_option maxRecDepth 10000 in
set_option maxHeartbeats 4000000 in
theorem r_R_measure {N B : Nat} {SA : Nat → Nat} {d : Nat} (hd : 3 ≤ d) : ∀ (v0 : Nat) (v1 : Int32) (v2 : Int32) (μ : JMem) (r : Int64), g_R_measure N v0 v1 v2 μ.1 = some r → jR B SA d m_R_measure 0 (lv_args 0 [.ref v0, .int v1, .int v2]) [] μ (some (.long r)) μ := by
  intro v0 v1 v2 μ r h
  exact r_R_measure_e hd (lv_args 0 _) _ _ _ _ _ (by simp [lv_args, jget, rv_cat, cat_int, cat_long, cat_double, cat_float, cat_ref]) (by simp [lv_args, jget, rv_cat, cat_int, cat_long, cat_double, cat_float, cat_ref]) (by simp [lv_args, jget, rv_cat, cat_int, cat_long, cat_double, cat_float, cat_ref]) h
/-! FilterBenchModel.count(I)I -/
set_option maxRecDepth 10000 in
set_option maxHeartbeats 4000000 in
theorem r_R_count_e {B : Nat} {SA : Nat → Nat} {d : Nat} (hd : 0 ≤ d) : ∀ (L : JLoc) (v0 : Nat) (v1 : Int32) (μ : JMem) (r : Int32), jget L 0 = .ref v0 → jget L 1 = .int v1 → g_R_count v0 v1 μ.1 = some r → jR B SA d m_R_count 0 L [] μ (some (.int r)) μ := by
  intro L v0 v1 μ r hl0 hl1 h
  unfold g_R_count at h
  refine jr_iload_n jf_269_0 rfl hl1 ?_
  replace h := ite_or h; rcases h with ⟨hc, h⟩ | ⟨hc, h⟩
  · refine jr_if_ne_f jf_269_1 hc ?_
    refine jr_aload_n jf_269_4 rfl hl0 ?_
    replace h := obd_of h; obtain ⟨x1, hx1, h⟩ := h
    refine jr_getI jf_269_5 hx1 ?_
    refine jr_goto jf_269_8 ?_
    obtain rfl := Option.some.inj h
    exact jr_retI jf_269_36 jmt_269
  · refine jr_if_ne_t jf_269_1 hc ?_
    refine jr_iload_n jf_269_11 rfl hl1 ?_
    refine jr_iconst jf_269_12 jc_i_1 ?_
    replace h := ite_or h; rcases h with ⟨hc, h⟩ | ⟨hc, h⟩
    · refine jr_if2_ne_f jf_269_13 hc ?_
      refine jr_aload_n jf_269_16 rfl hl0 ?_
      replace h := obd_of h; obtain ⟨x2, hx2, h⟩ := h
      refine jr_getI jf_269_17 hx2 ?_
      refine jr_goto jf_269_20 ?_
      obtain rfl := Option.some.inj h
      exact jr_retI jf_269_36 jmt_269
    · refine jr_if2_ne_t jf_269_13 hc ?_
      refine jr_iload_n jf_269_23 rfl hl1 ?_
      refine jr_iconst jf_269_24 jc_i_2 ?_
      replace h := ite_or h; rcases h with ⟨hc, h⟩ | ⟨hc, h⟩
      · refine jr_if2_ne_f jf_269_25 hc ?_
        refine jr_aload_n jf_269_28 rfl hl0 ?_
        replace h := obd_of h; obtain ⟨x3, hx3, h⟩ := h
        refine jr_getI jf_269_29 hx3 ?_
        refine jr_goto jf_269_32 ?_
        obtain rfl := Option.some.inj h
        exact jr_retI jf_269_36 jmt_269
      · refine jr_if2_ne_t jf_269_25 hc ?_
        refine jr_iconst jf_269_35 jc_i_m1 ?_
        obtain rfl := Option.some.inj h
        exact jr_retI jf_269_36 jmt_269
set_option maxRecDepth 10000 in
set_option maxHeartbeats 4000000 in
theorem r_R_count {B : Nat} {SA : Nat → Nat} {d : Nat} (hd : 0 ≤ d) : ∀ (v0 : Nat) (v1 : Int32) (μ : JMem) (r : Int32), g_R_count v0 v1 μ.1 = some r → jR B SA d m_R_count 0 (lv_args 0 [.ref v0, .int v1]) [] μ (some (.int r)) μ := by
  intro v0 v1 μ r h
  exact r_R_count_e hd (lv_args 0 _) _ _ _ _ (by simp [lv_args, jget, rv_cat, cat_int, cat_long, cat_double, cat_float, cat_ref]) (by simp [lv_args, jget, rv_cat, cat_int, cat_long, cat_double, cat_float, cat_ref]) h
/-! FilterBenchModel.chain(II)I -/
set_option maxRecDepth 10000 in
set_option maxHeartbeats 4000000 in
theorem r_R_chain_2_e {B : Nat} {SA : Nat → Nat} {d : Nat} (hd : 2 ≤ d) : ∀ (L : JLoc) (v0 : Nat) (v1 : Int32) (v2 : Int32) (μ : JMem) (r : Int32), jget L 0 = .ref v0 → jget L 1 = .int v1 → jget L 2 = .int v2 → g_R_chain_2 v0 v1 v2 μ.1 = some r → jR B SA d m_R_chain_2 0 L [] μ (some (.int r)) μ := by
  intro L v0 v1 v2 μ r hl0 hl1 hl2 h
  unfold g_R_chain_2 at h
  refine jr_aload_n jf_270_0 rfl hl0 ?_
  refine jr_iload_n jf_270_1 rfl hl1 ?_
  replace h := jgd_of h; obtain ⟨hb1, h⟩ := h
  replace h := obd_of h; obtain ⟨x2, hx2, h⟩ := h
  refine jr_V6_1 jf_270_2 hb1 (by omega) (r_R_isChain (by omega) _ _ _ _ hx2) (Nat.le_of_ble_eq_true rfl) jml_206 (Nat.le_of_ble_eq_true rfl) ?_
  replace h := ite_or h; rcases h with ⟨hc, h⟩ | ⟨hc, h⟩
  · refine jr_ifz_ne_t jf_270_5 hc ?_
    refine jr_iload_n jf_270_10 rfl hl2 ?_
    refine jr_switch jf_270_11 ?_
    replace h := ite_or h; rcases h with ⟨hc, h⟩ | ⟨hc, h⟩
    · refine jsw_hit (by decide) hc ?_
      refine jr_aload_n jf_270_44 rfl hl0 ?_
      replace h := obd_of h; obtain ⟨x3, hx3, h⟩ := h
      refine jr_getA jf_270_45 hx3 ?_
      refine jr_iload_n jf_270_48 rfl hl1 ?_
      replace h := obd_of h; obtain ⟨a4, rfl, h⟩ := h
      replace h := obd_of h; obtain ⟨x5, hx5, h⟩ := h
      refine jr_iaload jf_270_49 hx5 ?_
      obtain rfl := Option.some.inj h
      exact jr_retI jf_270_50 jmt_270
    · refine jsw_miss (by decide) hc (by decide : (0 : Int) + 1 = 1) ?_
      replace h := ite_or h; rcases h with ⟨hc, h⟩ | ⟨hc, h⟩
      · refine jsw_hit (by decide) hc ?_
        refine jr_aload_n jf_270_51 rfl hl0 ?_
        replace h := obd_of h; obtain ⟨x6, hx6, h⟩ := h
        refine jr_getA jf_270_52 hx6 ?_
        refine jr_iload_n jf_270_55 rfl hl1 ?_
        replace h := obd_of h; obtain ⟨a7, rfl, h⟩ := h
        replace h := obd_of h; obtain ⟨x8, hx8, h⟩ := h
        refine jr_iaload jf_270_56 hx8 ?_
        obtain rfl := Option.some.inj h
        exact jr_retI jf_270_57 jmt_270
      · refine jsw_miss (by decide) hc (by decide : (1 : Int) + 1 = 2) ?_
        replace h := ite_or h; rcases h with ⟨hc, h⟩ | ⟨hc, h⟩
        · refine jsw_hit (by decide) hc ?_
          refine jr_aload_n jf_270_58 rfl hl0 ?_
          replace h := obd_of h; obtain ⟨x9, hx9, h⟩ := h
          refine jr_getA jf_270_59 hx9 ?_
          refine jr_iload_n jf_270_62 rfl hl1 ?_
          replace h := obd_of h; obtain ⟨a10, rfl, h⟩ := h
          replace h := obd_of h; obtain ⟨x11, hx11, h⟩ := h
          refine jr_iaload jf_270_63 hx11 ?_
          obtain rfl := Option.some.inj h
          exact jr_retI jf_270_64 jmt_270
        · refine jsw_miss (by decide) hc (by decide : (2 : Int) + 1 = 3) ?_
          replace h := ite_or h; rcases h with ⟨hc, h⟩ | ⟨hc, h⟩
          · refine jsw_hit (by decide) hc ?_
            refine jr_aload_n jf_270_65 rfl hl0 ?_
            replace h := obd_of h; obtain ⟨x12, hx12, h⟩ := h
            refine jr_getA jf_270_66 hx12 ?_
            refine jr_iload_n jf_270_69 rfl hl1 ?_
            replace h := obd_of h; obtain ⟨a13, rfl, h⟩ := h
            replace h := obd_of h; obtain ⟨x14, hx14, h⟩ := h
            refine jr_iaload jf_270_70 hx14 ?_
            obtain rfl := Option.some.inj h
            exact jr_retI jf_270_71 jmt_270
          · refine jsw_miss (by decide) hc (by decide : (3 : Int) + 1 = 4) ?_
            replace h := ite_or h; rcases h with ⟨hc, h⟩ | ⟨hc, h⟩
            · refine jsw_hit (by decide) hc ?_
              refine jr_aload_n jf_270_72 rfl hl0 ?_
              refine jr_iload_n jf_270_73 rfl hl1 ?_
              replace h := jgd_of h; obtain ⟨hb15, h⟩ := h
              replace h := obd_of h; obtain ⟨x16, hx16, h⟩ := h
              refine jr_V6_1 jf_270_74 hb15 (by omega) (r_R_sortOf (by omega) _ _ _ _ hx16) (Nat.le_of_ble_eq_true rfl) jml_207 (Nat.le_of_ble_eq_true rfl) ?_
              obtain rfl := Option.some.inj h
              exact jr_retI jf_270_77 jmt_270
            · refine jsw_miss (by decide) hc (by decide : (4 : Int) + 1 = 5) ?_
              refine jsw_end ?_
              refine jr_iconst jf_270_78 jc_i_m1 ?_
              obtain rfl := Option.some.inj h
              exact jr_retI jf_270_79 jmt_270
  · refine jr_ifz_ne_f jf_270_5 hc ?_
    refine jr_iconst jf_270_8 jc_i_m1 ?_
    obtain rfl := Option.some.inj h
    exact jr_retI jf_270_9 jmt_270
set_option maxRecDepth 10000 in
set_option maxHeartbeats 4000000 in
theorem r_R_chain_2 {B : Nat} {SA : Nat → Nat} {d : Nat} (hd : 2 ≤ d) : ∀ (v0 : Nat) (v1 : Int32) (v2 : Int32) (μ : JMem) (r : Int32), g_R_chain_2 v0 v1 v2 μ.1 = some r → jR B SA d m_R_chain_2 0 (lv_args 0 [.ref v0, .int v1, .int v2]) [] μ (some (.int r)) μ := by
  intro v0 v1 v2 μ r h
  exact r_R_chain_2_e hd (lv_args 0 _) _ _ _ _ _ (by simp [lv_args, jget, rv_cat, cat_int, cat_long, cat_double, cat_float, cat_ref]) (by simp [lv_args, jget, rv_cat, cat_int, cat_long, cat_double, cat_float, cat_ref]) (by simp [lv_args, jget, rv_cat, cat_int, cat_long, cat_double, cat_float, cat_ref]) h
/-! FilterBenchLaw.law([I)Z -/
set_option maxRecDepth 10000 in
set_option maxHeartbeats 4000000 in
theorem r_L_law_1079 {N M B : Nat} {SA : Nat → Nat} {d : Nat} (hd : M + 8 ≤ d) {k18 : Option Nat → Nat → Nat → Int32 → JMem → Option (Bool × JMem)} (i18 : ∀ (L : JLoc) (v0 : Option Nat) (v1 : Nat) (v2 : Nat) (v3 : Int32) (μ : JMem) (r : Bool) (μ9 : JMem), jget L 0 = rv v0 → jget L 1 = .ref v1 → jget L 2 = .ref v2 → jget L 3 = .int v3 → k18 v0 v1 v2 v3 μ = some (r, μ9) → jR B SA d m_L_law 18 L [] μ (some (.int (jb r))) μ9) : ∀ (L : JLoc) (v0 : Nat) (v1 : Nat) (v2 : Nat) (v3 : Int32) (μ : JMem) (r : Bool) (μ9 : JMem), jget L 0 = .ref v0 → jget L 1 = .ref v1 → jget L 2 = .ref v2 → jget L 3 = .int v3 → g_L_law_1079 N M B SA k18 v0 v1 v2 v3 μ = some (r, μ9) → jR B SA d m_L_law 1079 L [] μ (some (.int (jb r))) μ9 := by
  intro L v0 v1 v2 v3 μ r μ9 hl0 hl1 hl2 hl3 h
  unfold g_L_law_1079 at h
  refine jr_iinc jf_271_1079 jc_i_7 jml_271 (by decide) hl3 ?_
  refine jr_goto jf_271_1082 ?_
  exact i18 _ (some _) _ _ _ _ _ _ (jg1_ne rfl hl0) (jg1_ne rfl hl1) (jg1_pre (by first | rfl | exact rv_cat _) hl2) jg1_same h
set_option maxRecDepth 10000 in
set_option maxHeartbeats 4000000 in
theorem r_L_law_18 {N M B : Nat} {SA : Nat → Nat} {d : Nat} (hd : M + 8 ≤ d) : ∀ (n : Nat), ∀ (L : JLoc) (v0 : Option Nat) (v1 : Nat) (v2 : Nat) (v3 : Int32) (μ : JMem) (r : Bool) (μ9 : JMem), jget L 0 = rv v0 → jget L 1 = .ref v1 → jget L 2 = .ref v2 → jget L 3 = .int v3 → g_L_law_18 N M B SA n v0 v1 v2 v3 μ = some (r, μ9) → jR B SA d m_L_law 18 L [] μ (some (.int (jb r))) μ9 := by
  intro n
  induction n with
  | zero =>
    intro L v0 v1 v2 v3 μ r μ9 hl0 hl1 hl2 hl3 h
    unfold g_L_law_18 at h
    cases h
  | succ n ih =>
    intro L v0 v1 v2 v3 μ r μ9 hl0 hl1 hl2 hl3 h
    unfold g_L_law_18 at h
    refine jr_iload_n jf_271_18 rfl hl3 ?_
    refine jr_aload_n_A jf_271_19 rfl hl0 ?_
    replace h := obd_of h; obtain ⟨a1, rfl, h⟩ := h
    replace h := obd_of h; obtain ⟨x2, hx2, h⟩ := h
    refine jr_arraylength jf_271_20 hx2 ?_
    refine jr_bipush jf_271_21 jc_b_7 ?_
    refine jr_isub jf_271_23 ?_
    replace h := ite_or h; rcases h with ⟨hc, h⟩ | ⟨hc, h⟩
    · refine jr_if2_gt_t jf_271_24 hc ?_
      refine jr_iconst jf_271_1085 jc_i_1 ?_
      obtain ⟨rfl, rfl⟩ := Prod.mk.inj (Option.some.inj h)
      exact jr_retZ (x := true) jf_271_1086 jmt_271
    · refine jr_if2_gt_f jf_271_24 hc ?_
      refine jr_aload_n jf_271_27 rfl hl0 ?_
      refine jr_iload_n jf_271_28 rfl hl3 ?_
      replace h := obd_of h; obtain ⟨x3, hx3, h⟩ := h
      refine jr_iaload jf_271_29 hx3 ?_
      refine jr_bipush jf_271_30 jc_b_31 ?_
      refine jr_iand jf_271_32 ?_
      refine jr_switch jf_271_33 ?_
      replace h := ite_or h; rcases h with ⟨hc, h⟩ | ⟨hc, h⟩
      · refine jsw_hit (by decide) hc ?_
        refine jr_aload_n jf_271_148 rfl hl1 ?_
        refine jr_aload_n jf_271_149 rfl hl0 ?_
        refine jr_iload_n jf_271_150 rfl hl3 ?_
        refine jr_iconst jf_271_151 jc_i_1 ?_
        refine jr_iadd jf_271_152 ?_
        replace h := obd_of h; obtain ⟨x4, hx4, h⟩ := h
        refine jr_iaload jf_271_153 hx4 ?_
        refine jr_aload_n jf_271_154 rfl hl0 ?_
        refine jr_iload_n jf_271_155 rfl hl3 ?_
        refine jr_iconst jf_271_156 jc_i_2 ?_
        refine jr_iadd jf_271_157 ?_
        replace h := obd_of h; obtain ⟨x5, hx5, h⟩ := h
        refine jr_iaload jf_271_158 hx5 ?_
        refine jr_aload_n jf_271_159 rfl hl0 ?_
        refine jr_iload_n jf_271_160 rfl hl3 ?_
        refine jr_iconst jf_271_161 jc_i_3 ?_
        refine jr_iadd jf_271_162 ?_
        replace h := obd_of h; obtain ⟨x6, hx6, h⟩ := h
        refine jr_iaload jf_271_163 hx6 ?_
        replace h := jgd_of h; obtain ⟨hb7, h⟩ := h
        replace h := jbd2_of h; obtain ⟨x8, μ9, hx8, h⟩ := h
        refine jr_V6_3 jf_271_164 hb7 (by omega) (r_B_section (by omega) _ _ _ _ _ _ _ hx8) (Nat.le_of_ble_eq_true rfl) jml_5 (Nat.le_of_ble_eq_true rfl) ?_
        refine jr_aload_n jf_271_167 rfl hl2 ?_
        refine jr_aload_n jf_271_168 rfl hl0 ?_
        refine jr_iload_n jf_271_169 rfl hl3 ?_
        refine jr_iconst jf_271_170 jc_i_1 ?_
        refine jr_iadd jf_271_171 ?_
        replace h := obd_of h; obtain ⟨x10, hx10, h⟩ := h
        refine jr_iaload jf_271_172 hx10 ?_
        refine jr_aload_n jf_271_173 rfl hl0 ?_
        refine jr_iload_n jf_271_174 rfl hl3 ?_
        refine jr_iconst jf_271_175 jc_i_2 ?_
        refine jr_iadd jf_271_176 ?_
        replace h := obd_of h; obtain ⟨x11, hx11, h⟩ := h
        refine jr_iaload jf_271_177 hx11 ?_
        refine jr_aload_n jf_271_178 rfl hl0 ?_
        refine jr_iload_n jf_271_179 rfl hl3 ?_
        refine jr_iconst jf_271_180 jc_i_3 ?_
        refine jr_iadd jf_271_181 ?_
        replace h := obd_of h; obtain ⟨x12, hx12, h⟩ := h
        refine jr_iaload jf_271_182 hx12 ?_
        replace h := jgd_of h; obtain ⟨hb13, h⟩ := h
        replace h := jbd2_of h; obtain ⟨x14, μ15, hx14, h⟩ := h
        refine jr_V6_3 jf_271_183 hb13 (by omega) (r_R_section (by omega) _ _ _ _ _ _ _ hx14) (Nat.le_of_ble_eq_true rfl) jml_188 (Nat.le_of_ble_eq_true rfl) ?_
        replace h := ite_or h; rcases h with ⟨hc, h⟩ | ⟨hc, h⟩
        · refine jr_if2_eq_t jf_271_186 hc ?_
          exact r_L_law_1079 hd ih _ _ _ _ _ _ _ _ hl0 hl1 hl2 hl3 h
        · refine jr_if2_eq_f jf_271_186 hc ?_
          refine jr_iconst jf_271_189 jc_i_0 ?_
          obtain ⟨rfl, rfl⟩ := Prod.mk.inj (Option.some.inj h)
          exact jr_retZ (x := false) jf_271_190 jmt_271
      · refine jsw_miss (by decide) hc (by decide : (0 : Int) + 1 = 1) ?_
        replace h := ite_or h; rcases h with ⟨hc, h⟩ | ⟨hc, h⟩
        · refine jsw_hit (by decide) hc ?_
          refine jr_aload_n jf_271_191 rfl hl1 ?_
          refine jr_aload_n jf_271_192 rfl hl0 ?_
          refine jr_iload_n jf_271_193 rfl hl3 ?_
          refine jr_iconst jf_271_194 jc_i_1 ?_
          refine jr_iadd jf_271_195 ?_
          replace h := obd_of h; obtain ⟨x16, hx16, h⟩ := h
          refine jr_iaload jf_271_196 hx16 ?_
          refine jr_aload_n jf_271_197 rfl hl0 ?_
          refine jr_iload_n jf_271_198 rfl hl3 ?_
          refine jr_iconst jf_271_199 jc_i_2 ?_
          refine jr_iadd jf_271_200 ?_
          replace h := obd_of h; obtain ⟨x17, hx17, h⟩ := h
          refine jr_iaload jf_271_201 hx17 ?_
          refine jr_aload_n jf_271_202 rfl hl0 ?_
          refine jr_iload_n jf_271_203 rfl hl3 ?_
          refine jr_iconst jf_271_204 jc_i_3 ?_
          refine jr_iadd jf_271_205 ?_
          replace h := obd_of h; obtain ⟨x18, hx18, h⟩ := h
          refine jr_iaload jf_271_206 hx18 ?_
          refine jr_i2l jf_271_207 ?_
          refine jr_bipush jf_271_208 jc_b_32 ?_
          refine jr_lshl jf_271_210 ?_
          refine jr_aload_n jf_271_211 rfl hl0 ?_
          refine jr_iload_n jf_271_212 rfl hl3 ?_
          refine jr_iconst jf_271_213 jc_i_4 ?_
          refine jr_iadd jf_271_214 ?_
          replace h := obd_of h; obtain ⟨x19, hx19, h⟩ := h
          refine jr_iaload jf_271_215 hx19 ?_
          refine jr_i2l jf_271_216 ?_
          refine jr_ldc2l jf_271_217 ?_
          refine jr_land jf_271_220 ?_
          refine jr_lor jf_271_221 ?_
          replace h := jgd_of h; obtain ⟨hb20, h⟩ := h
          replace h := jbd2_of h; obtain ⟨x21, μ22, hx21, h⟩ := h
          refine jr_V6_3 jf_271_222 hb20 (by omega) (r_B_coefficient (by omega) _ _ _ _ _ _ _ hx21) (Nat.le_of_ble_eq_true rfl) jml_12 (Nat.le_of_ble_eq_true rfl) ?_
          refine jr_aload_n jf_271_225 rfl hl2 ?_
          refine jr_aload_n jf_271_226 rfl hl0 ?_
          refine jr_iload_n jf_271_227 rfl hl3 ?_
          refine jr_iconst jf_271_228 jc_i_1 ?_
          refine jr_iadd jf_271_229 ?_
          replace h := obd_of h; obtain ⟨x23, hx23, h⟩ := h
          refine jr_iaload jf_271_230 hx23 ?_
          refine jr_aload_n jf_271_231 rfl hl0 ?_
          refine jr_iload_n jf_271_232 rfl hl3 ?_
          refine jr_iconst jf_271_233 jc_i_2 ?_
          refine jr_iadd jf_271_234 ?_
          replace h := obd_of h; obtain ⟨x24, hx24, h⟩ := h
          refine jr_iaload jf_271_235 hx24 ?_
          refine jr_aload_n jf_271_236 rfl hl0 ?_
          refine jr_iload_n jf_271_237 rfl hl3 ?_
          refine jr_iconst jf_271_238 jc_i_3 ?_
          refine jr_iadd jf_271_239 ?_
          replace h := obd_of h; obtain ⟨x25, hx25, h⟩ := h
          refine jr_iaload jf_271_240 hx25 ?_
          refine jr_i2l jf_271_241 ?_
          refine jr_bipush jf_271_242 jc_b_32 ?_
          refine jr_lshl jf_271_244 ?_
          refine jr_aload_n jf_271_245 rfl hl0 ?_
          refine jr_iload_n jf_271_246 rfl hl3 ?_
          refine jr_iconst jf_271_247 jc_i_4 ?_
          refine jr_iadd jf_271_248 ?_
          replace h := obd_of h; obtain ⟨x26, hx26, h⟩ := h
          refine jr_iaload jf_271_249 hx26 ?_
          refine jr_i2l jf_271_250 ?_
          refine jr_ldc2l jf_271_251 ?_
          refine jr_land jf_271_254 ?_
          refine jr_lor jf_271_255 ?_
          replace h := jgd_of h; obtain ⟨hb27, h⟩ := h
          replace h := jbd2_of h; obtain ⟨x28, μ29, hx28, h⟩ := h
          refine jr_V6_3 jf_271_256 hb27 (by omega) (r_R_coefficient (by omega) _ _ _ _ _ _ _ hx28) (Nat.le_of_ble_eq_true rfl) jml_193 (Nat.le_of_ble_eq_true rfl) ?_
          replace h := ite_or h; rcases h with ⟨hc, h⟩ | ⟨hc, h⟩
          · refine jr_if2z_eq_t jf_271_259 hc ?_
            exact r_L_law_1079 hd ih _ _ _ _ _ _ _ _ hl0 hl1 hl2 hl3 h
          · refine jr_if2z_eq_f jf_271_259 hc ?_
            refine jr_iconst jf_271_262 jc_i_0 ?_
            obtain ⟨rfl, rfl⟩ := Prod.mk.inj (Option.some.inj h)
            exact jr_retZ (x := false) jf_271_263 jmt_271
        · refine jsw_miss (by decide) hc (by decide : (1 : Int) + 1 = 2) ?_
          replace h := ite_or h; rcases h with ⟨hc, h⟩ | ⟨hc, h⟩
          · refine jsw_hit (by decide) hc ?_
            refine jr_aload_n jf_271_264 rfl hl1 ?_
            refine jr_aload_n jf_271_265 rfl hl0 ?_
            refine jr_iload_n jf_271_266 rfl hl3 ?_
            refine jr_iconst jf_271_267 jc_i_1 ?_
            refine jr_iadd jf_271_268 ?_
            replace h := obd_of h; obtain ⟨x30, hx30, h⟩ := h
            refine jr_iaload jf_271_269 hx30 ?_
            refine jr_aload_n jf_271_270 rfl hl0 ?_
            refine jr_iload_n jf_271_271 rfl hl3 ?_
            refine jr_iconst jf_271_272 jc_i_2 ?_
            refine jr_iadd jf_271_273 ?_
            replace h := obd_of h; obtain ⟨x31, hx31, h⟩ := h
            refine jr_iaload jf_271_274 hx31 ?_
            refine jr_aload_n jf_271_275 rfl hl0 ?_
            refine jr_iload_n jf_271_276 rfl hl3 ?_
            refine jr_iconst jf_271_277 jc_i_3 ?_
            refine jr_iadd jf_271_278 ?_
            replace h := obd_of h; obtain ⟨x32, hx32, h⟩ := h
            refine jr_iaload jf_271_279 hx32 ?_
            refine jr_aload_n jf_271_280 rfl hl0 ?_
            refine jr_iload_n jf_271_281 rfl hl3 ?_
            refine jr_iconst jf_271_282 jc_i_4 ?_
            refine jr_iadd jf_271_283 ?_
            replace h := obd_of h; obtain ⟨x33, hx33, h⟩ := h
            refine jr_iaload jf_271_284 hx33 ?_
            replace h := jgd_of h; obtain ⟨hb34, h⟩ := h
            replace h := jbd2_of h; obtain ⟨x35, μ36, hx35, h⟩ := h
            refine jr_V6_4 jf_271_285 hb34 (by omega) (r_B_ratio (by omega) _ _ _ _ _ _ _ _ hx35) (Nat.le_of_ble_eq_true rfl) jml_21 (Nat.le_of_ble_eq_true rfl) ?_
            refine jr_aload_n jf_271_288 rfl hl2 ?_
            refine jr_aload_n jf_271_289 rfl hl0 ?_
            refine jr_iload_n jf_271_290 rfl hl3 ?_
            refine jr_iconst jf_271_291 jc_i_1 ?_
            refine jr_iadd jf_271_292 ?_
            replace h := obd_of h; obtain ⟨x37, hx37, h⟩ := h
            refine jr_iaload jf_271_293 hx37 ?_
            refine jr_aload_n jf_271_294 rfl hl0 ?_
            refine jr_iload_n jf_271_295 rfl hl3 ?_
            refine jr_iconst jf_271_296 jc_i_2 ?_
            refine jr_iadd jf_271_297 ?_
            replace h := obd_of h; obtain ⟨x38, hx38, h⟩ := h
            refine jr_iaload jf_271_298 hx38 ?_
            refine jr_aload_n jf_271_299 rfl hl0 ?_
            refine jr_iload_n jf_271_300 rfl hl3 ?_
            refine jr_iconst jf_271_301 jc_i_3 ?_
            refine jr_iadd jf_271_302 ?_
            replace h := obd_of h; obtain ⟨x39, hx39, h⟩ := h
            refine jr_iaload jf_271_303 hx39 ?_
            refine jr_aload_n jf_271_304 rfl hl0 ?_
            refine jr_iload_n jf_271_305 rfl hl3 ?_
            refine jr_iconst jf_271_306 jc_i_4 ?_
            refine jr_iadd jf_271_307 ?_
            replace h := obd_of h; obtain ⟨x40, hx40, h⟩ := h
            refine jr_iaload jf_271_308 hx40 ?_
            replace h := jgd_of h; obtain ⟨hb41, h⟩ := h
            replace h := jbd2_of h; obtain ⟨x42, μ43, hx42, h⟩ := h
            refine jr_V6_4 jf_271_309 hb41 (by omega) (r_R_ratio (by omega) _ _ _ _ _ _ _ _ hx42) (Nat.le_of_ble_eq_true rfl) jml_199 (Nat.le_of_ble_eq_true rfl) ?_
            replace h := ite_or h; rcases h with ⟨hc, h⟩ | ⟨hc, h⟩
            · refine jr_if2z_eq_t jf_271_312 hc ?_
              exact r_L_law_1079 hd ih _ _ _ _ _ _ _ _ hl0 hl1 hl2 hl3 h
            · refine jr_if2z_eq_f jf_271_312 hc ?_
              refine jr_iconst jf_271_315 jc_i_0 ?_
              obtain ⟨rfl, rfl⟩ := Prod.mk.inj (Option.some.inj h)
              exact jr_retZ (x := false) jf_271_316 jmt_271
          · refine jsw_miss (by decide) hc (by decide : (2 : Int) + 1 = 3) ?_
            replace h := ite_or h; rcases h with ⟨hc, h⟩ | ⟨hc, h⟩
            · refine jsw_hit (by decide) hc ?_
              refine jr_aload_n jf_271_317 rfl hl1 ?_
              refine jr_aload_n jf_271_318 rfl hl0 ?_
              refine jr_iload_n jf_271_319 rfl hl3 ?_
              refine jr_iconst jf_271_320 jc_i_1 ?_
              refine jr_iadd jf_271_321 ?_
              replace h := obd_of h; obtain ⟨x44, hx44, h⟩ := h
              refine jr_iaload jf_271_322 hx44 ?_
              refine jr_aload_n jf_271_323 rfl hl0 ?_
              refine jr_iload_n jf_271_324 rfl hl3 ?_
              refine jr_iconst jf_271_325 jc_i_2 ?_
              refine jr_iadd jf_271_326 ?_
              replace h := obd_of h; obtain ⟨x45, hx45, h⟩ := h
              refine jr_iaload jf_271_327 hx45 ?_
              refine jr_aload_n jf_271_328 rfl hl0 ?_
              refine jr_iload_n jf_271_329 rfl hl3 ?_
              refine jr_iconst jf_271_330 jc_i_3 ?_
              refine jr_iadd jf_271_331 ?_
              replace h := obd_of h; obtain ⟨x46, hx46, h⟩ := h
              refine jr_iaload jf_271_332 hx46 ?_
              replace h := jgd_of h; obtain ⟨hb47, h⟩ := h
              replace h := jbd2_of h; obtain ⟨x48, μ49, hx48, h⟩ := h
              refine jr_V6_3 jf_271_333 hb47 (by omega) (r_B_rule (by omega) _ _ _ _ _ _ _ hx48) (Nat.le_of_ble_eq_true rfl) jml_36 (Nat.le_of_ble_eq_true rfl) ?_
              refine jr_aload_n jf_271_336 rfl hl2 ?_
              refine jr_aload_n jf_271_337 rfl hl0 ?_
              refine jr_iload_n jf_271_338 rfl hl3 ?_
              refine jr_iconst jf_271_339 jc_i_1 ?_
              refine jr_iadd jf_271_340 ?_
              replace h := obd_of h; obtain ⟨x50, hx50, h⟩ := h
              refine jr_iaload jf_271_341 hx50 ?_
              refine jr_aload_n jf_271_342 rfl hl0 ?_
              refine jr_iload_n jf_271_343 rfl hl3 ?_
              refine jr_iconst jf_271_344 jc_i_2 ?_
              refine jr_iadd jf_271_345 ?_
              replace h := obd_of h; obtain ⟨x51, hx51, h⟩ := h
              refine jr_iaload jf_271_346 hx51 ?_
              refine jr_aload_n jf_271_347 rfl hl0 ?_
              refine jr_iload_n jf_271_348 rfl hl3 ?_
              refine jr_iconst jf_271_349 jc_i_3 ?_
              refine jr_iadd jf_271_350 ?_
              replace h := obd_of h; obtain ⟨x52, hx52, h⟩ := h
              refine jr_iaload jf_271_351 hx52 ?_
              replace h := jgd_of h; obtain ⟨hb53, h⟩ := h
              replace h := jbd2_of h; obtain ⟨x54, μ55, hx54, h⟩ := h
              refine jr_V6_3 jf_271_352 hb53 (by omega) (r_R_rule (by omega) _ _ _ _ _ _ _ hx54) (Nat.le_of_ble_eq_true rfl) jml_202 (Nat.le_of_ble_eq_true rfl) ?_
              replace h := ite_or h; rcases h with ⟨hc, h⟩ | ⟨hc, h⟩
              · refine jr_if2z_eq_t jf_271_355 hc ?_
                exact r_L_law_1079 hd ih _ _ _ _ _ _ _ _ hl0 hl1 hl2 hl3 h
              · refine jr_if2z_eq_f jf_271_355 hc ?_
                refine jr_iconst jf_271_358 jc_i_0 ?_
                obtain ⟨rfl, rfl⟩ := Prod.mk.inj (Option.some.inj h)
                exact jr_retZ (x := false) jf_271_359 jmt_271
            · refine jsw_miss (by decide) hc (by decide : (3 : Int) + 1 = 4) ?_
              replace h := ite_or h; rcases h with ⟨hc, h⟩ | ⟨hc, h⟩
              · refine jsw_hit (by decide) hc ?_
                refine jr_aload_n jf_271_360 rfl hl1 ?_
                replace h := jgd_of h; obtain ⟨hb56, h⟩ := h
                replace h := jbd2_of h; obtain ⟨x57, μ58, hx57, h⟩ := h
                refine jr_V6_0 jf_271_361 hb56 (by omega) (r_B_chain (by omega) _ _ _ _ hx57) (Nat.le_of_ble_eq_true rfl) jml_44 (Nat.le_of_ble_eq_true rfl) ?_
                refine jr_aload_n jf_271_364 rfl hl2 ?_
                replace h := jgd_of h; obtain ⟨hb59, h⟩ := h
                replace h := jbd2_of h; obtain ⟨x60, μ61, hx60, h⟩ := h
                refine jr_V6_0 jf_271_365 hb59 (by omega) (r_R_chain (by omega) _ _ _ _ hx60) (Nat.le_of_ble_eq_true rfl) jml_203 (Nat.le_of_ble_eq_true rfl) ?_
                replace h := ite_or h; rcases h with ⟨hc, h⟩ | ⟨hc, h⟩
                · refine jr_if2_eq_t jf_271_368 hc ?_
                  exact r_L_law_1079 hd ih _ _ _ _ _ _ _ _ hl0 hl1 hl2 hl3 h
                · refine jr_if2_eq_f jf_271_368 hc ?_
                  refine jr_iconst jf_271_371 jc_i_0 ?_
                  obtain ⟨rfl, rfl⟩ := Prod.mk.inj (Option.some.inj h)
                  exact jr_retZ (x := false) jf_271_372 jmt_271
              · refine jsw_miss (by decide) hc (by decide : (4 : Int) + 1 = 5) ?_
                replace h := ite_or h; rcases h with ⟨hc, h⟩ | ⟨hc, h⟩
                · refine jsw_hit (by decide) hc ?_
                  refine jr_aload_n jf_271_373 rfl hl1 ?_
                  refine jr_aload_n jf_271_374 rfl hl0 ?_
                  refine jr_iload_n jf_271_375 rfl hl3 ?_
                  refine jr_iconst jf_271_376 jc_i_1 ?_
                  refine jr_iadd jf_271_377 ?_
                  replace h := obd_of h; obtain ⟨x62, hx62, h⟩ := h
                  refine jr_iaload jf_271_378 hx62 ?_
                  refine jr_aload_n jf_271_379 rfl hl0 ?_
                  refine jr_iload_n jf_271_380 rfl hl3 ?_
                  refine jr_iconst jf_271_381 jc_i_2 ?_
                  refine jr_iadd jf_271_382 ?_
                  replace h := obd_of h; obtain ⟨x63, hx63, h⟩ := h
                  refine jr_iaload jf_271_383 hx63 ?_
                  replace h := jgd_of h; obtain ⟨hb64, h⟩ := h
                  replace h := jbd2_of h; obtain ⟨x65, μ66, hx65, h⟩ := h
                  refine jr_V6_2 jf_271_384 hb64 (by omega) (r_B_add (by omega) _ _ _ _ _ _ hx65) (Nat.le_of_ble_eq_true rfl) jml_47 (Nat.le_of_ble_eq_true rfl) ?_
                  refine jr_aload_n jf_271_387 rfl hl2 ?_
                  refine jr_aload_n jf_271_388 rfl hl0 ?_
                  refine jr_iload_n jf_271_389 rfl hl3 ?_
                  refine jr_iconst jf_271_390 jc_i_1 ?_
                  refine jr_iadd jf_271_391 ?_
                  replace h := obd_of h; obtain ⟨x67, hx67, h⟩ := h
                  refine jr_iaload jf_271_392 hx67 ?_
                  refine jr_aload_n jf_271_393 rfl hl0 ?_
                  refine jr_iload_n jf_271_394 rfl hl3 ?_
                  refine jr_iconst jf_271_395 jc_i_2 ?_
                  refine jr_iadd jf_271_396 ?_
                  replace h := obd_of h; obtain ⟨x68, hx68, h⟩ := h
                  refine jr_iaload jf_271_397 hx68 ?_
                  replace h := jgd_of h; obtain ⟨hb69, h⟩ := h
                  replace h := jbd2_of h; obtain ⟨x70, μ71, hx70, h⟩ := h
                  refine jr_V6_2 jf_271_398 hb69 (by omega) (r_R_add (by omega) _ _ _ _ _ _ hx70) (Nat.le_of_ble_eq_true rfl) jml_205 (Nat.le_of_ble_eq_true rfl) ?_
                  replace h := ite_or h; rcases h with ⟨hc, h⟩ | ⟨hc, h⟩
                  · refine jr_if2_eq_t jf_271_401 hc ?_
                    exact r_L_law_1079 hd ih _ _ _ _ _ _ _ _ hl0 hl1 hl2 hl3 h
                  · refine jr_if2_eq_f jf_271_401 hc ?_
                    refine jr_iconst jf_271_404 jc_i_0 ?_
                    obtain ⟨rfl, rfl⟩ := Prod.mk.inj (Option.some.inj h)
                    exact jr_retZ (x := false) jf_271_405 jmt_271
                · refine jsw_miss (by decide) hc (by decide : (5 : Int) + 1 = 6) ?_
                  replace h := ite_or h; rcases h with ⟨hc, h⟩ | ⟨hc, h⟩
                  · refine jsw_hit (by decide) hc ?_
                    refine jr_aload_n jf_271_406 rfl hl1 ?_
                    refine jr_aload_n jf_271_407 rfl hl0 ?_
                    refine jr_iload_n jf_271_408 rfl hl3 ?_
                    refine jr_iconst jf_271_409 jc_i_1 ?_
                    refine jr_iadd jf_271_410 ?_
                    replace h := obd_of h; obtain ⟨x72, hx72, h⟩ := h
                    refine jr_iaload jf_271_411 hx72 ?_
                    refine jr_aload_n jf_271_412 rfl hl0 ?_
                    refine jr_iload_n jf_271_413 rfl hl3 ?_
                    refine jr_iconst jf_271_414 jc_i_2 ?_
                    refine jr_iadd jf_271_415 ?_
                    replace h := obd_of h; obtain ⟨x73, hx73, h⟩ := h
                    refine jr_iaload jf_271_416 hx73 ?_
                    refine jr_aload_n jf_271_417 rfl hl0 ?_
                    refine jr_iload_n jf_271_418 rfl hl3 ?_
                    refine jr_iconst jf_271_419 jc_i_3 ?_
                    refine jr_iadd jf_271_420 ?_
                    replace h := obd_of h; obtain ⟨x74, hx74, h⟩ := h
                    refine jr_iaload jf_271_421 hx74 ?_
                    refine jr_aload_n jf_271_422 rfl hl0 ?_
                    refine jr_iload_n jf_271_423 rfl hl3 ?_
                    refine jr_iconst jf_271_424 jc_i_4 ?_
                    refine jr_iadd jf_271_425 ?_
                    replace h := obd_of h; obtain ⟨x75, hx75, h⟩ := h
                    refine jr_iaload jf_271_426 hx75 ?_
                    refine jr_aload_n jf_271_427 rfl hl0 ?_
                    refine jr_iload_n jf_271_428 rfl hl3 ?_
                    refine jr_iconst jf_271_429 jc_i_5 ?_
                    refine jr_iadd jf_271_430 ?_
                    replace h := obd_of h; obtain ⟨x76, hx76, h⟩ := h
                    refine jr_iaload jf_271_431 hx76 ?_
                    refine jr_i2l jf_271_432 ?_
                    refine jr_bipush jf_271_433 jc_b_32 ?_
                    refine jr_lshl jf_271_435 ?_
                    refine jr_aload_n jf_271_436 rfl hl0 ?_
                    refine jr_iload_n jf_271_437 rfl hl3 ?_
                    refine jr_bipush jf_271_438 jc_b_6 ?_
                    refine jr_iadd jf_271_440 ?_
                    replace h := obd_of h; obtain ⟨x77, hx77, h⟩ := h
                    refine jr_iaload jf_271_441 hx77 ?_
                    refine jr_i2l jf_271_442 ?_
                    refine jr_ldc2l jf_271_443 ?_
                    refine jr_land jf_271_446 ?_
                    refine jr_lor jf_271_447 ?_
                    replace h := jgd_of h; obtain ⟨hb78, h⟩ := h
                    replace h := jbd2_of h; obtain ⟨x79, μ80, hx79, h⟩ := h
                    refine jr_V6_5 jf_271_448 hb78 (by omega) (r_B_loop (by omega) _ _ _ _ _ _ _ _ _ hx79) (Nat.le_of_ble_eq_true rfl) jml_54 (Nat.le_of_ble_eq_true rfl) ?_
                    refine jr_aload_n jf_271_451 rfl hl2 ?_
                    refine jr_aload_n jf_271_452 rfl hl0 ?_
                    refine jr_iload_n jf_271_453 rfl hl3 ?_
                    refine jr_iconst jf_271_454 jc_i_1 ?_
                    refine jr_iadd jf_271_455 ?_
                    replace h := obd_of h; obtain ⟨x81, hx81, h⟩ := h
                    refine jr_iaload jf_271_456 hx81 ?_
                    refine jr_aload_n jf_271_457 rfl hl0 ?_
                    refine jr_iload_n jf_271_458 rfl hl3 ?_
                    refine jr_iconst jf_271_459 jc_i_2 ?_
                    refine jr_iadd jf_271_460 ?_
                    replace h := obd_of h; obtain ⟨x82, hx82, h⟩ := h
                    refine jr_iaload jf_271_461 hx82 ?_
                    refine jr_aload_n jf_271_462 rfl hl0 ?_
                    refine jr_iload_n jf_271_463 rfl hl3 ?_
                    refine jr_iconst jf_271_464 jc_i_3 ?_
                    refine jr_iadd jf_271_465 ?_
                    replace h := obd_of h; obtain ⟨x83, hx83, h⟩ := h
                    refine jr_iaload jf_271_466 hx83 ?_
                    refine jr_aload_n jf_271_467 rfl hl0 ?_
                    refine jr_iload_n jf_271_468 rfl hl3 ?_
                    refine jr_iconst jf_271_469 jc_i_4 ?_
                    refine jr_iadd jf_271_470 ?_
                    replace h := obd_of h; obtain ⟨x84, hx84, h⟩ := h
                    refine jr_iaload jf_271_471 hx84 ?_
                    refine jr_aload_n jf_271_472 rfl hl0 ?_
                    refine jr_iload_n jf_271_473 rfl hl3 ?_
                    refine jr_iconst jf_271_474 jc_i_5 ?_
                    refine jr_iadd jf_271_475 ?_
                    replace h := obd_of h; obtain ⟨x85, hx85, h⟩ := h
                    refine jr_iaload jf_271_476 hx85 ?_
                    refine jr_i2l jf_271_477 ?_
                    refine jr_bipush jf_271_478 jc_b_32 ?_
                    refine jr_lshl jf_271_480 ?_
                    refine jr_aload_n jf_271_481 rfl hl0 ?_
                    refine jr_iload_n jf_271_482 rfl hl3 ?_
                    refine jr_bipush jf_271_483 jc_b_6 ?_
                    refine jr_iadd jf_271_485 ?_
                    replace h := obd_of h; obtain ⟨x86, hx86, h⟩ := h
                    refine jr_iaload jf_271_486 hx86 ?_
                    refine jr_i2l jf_271_487 ?_
                    refine jr_ldc2l jf_271_488 ?_
                    refine jr_land jf_271_491 ?_
                    refine jr_lor jf_271_492 ?_
                    replace h := jgd_of h; obtain ⟨hb87, h⟩ := h
                    replace h := jbd2_of h; obtain ⟨x88, μ89, hx88, h⟩ := h
                    refine jr_V6_5 jf_271_493 hb87 (by omega) (r_R_loop (by omega) _ _ _ _ _ _ _ _ _ hx88) (Nat.le_of_ble_eq_true rfl) jml_210 (Nat.le_of_ble_eq_true rfl) ?_
                    replace h := ite_or h; rcases h with ⟨hc, h⟩ | ⟨hc, h⟩
                    · refine jr_if2_eq_t jf_271_496 hc ?_
                      exact r_L_law_1079 hd ih _ _ _ _ _ _ _ _ hl0 hl1 hl2 hl3 h
                    · refine jr_if2_eq_f jf_271_496 hc ?_
                      refine jr_iconst jf_271_499 jc_i_0 ?_
                      obtain ⟨rfl, rfl⟩ := Prod.mk.inj (Option.some.inj h)
                      exact jr_retZ (x := false) jf_271_500 jmt_271
                  · refine jsw_miss (by decide) hc (by decide : (6 : Int) + 1 = 7) ?_
                    replace h := ite_or h; rcases h with ⟨hc, h⟩ | ⟨hc, h⟩
                    · refine jsw_hit (by decide) hc ?_
                      refine jr_aload_n jf_271_501 rfl hl1 ?_
                      refine jr_aload_n jf_271_502 rfl hl0 ?_
                      refine jr_iload_n jf_271_503 rfl hl3 ?_
                      refine jr_iconst jf_271_504 jc_i_1 ?_
                      refine jr_iadd jf_271_505 ?_
                      replace h := obd_of h; obtain ⟨x90, hx90, h⟩ := h
                      refine jr_iaload jf_271_506 hx90 ?_
                      refine jr_aload_n jf_271_507 rfl hl0 ?_
                      refine jr_iload_n jf_271_508 rfl hl3 ?_
                      refine jr_iconst jf_271_509 jc_i_2 ?_
                      refine jr_iadd jf_271_510 ?_
                      replace h := obd_of h; obtain ⟨x91, hx91, h⟩ := h
                      refine jr_iaload jf_271_511 hx91 ?_
                      replace h := jgd_of h; obtain ⟨hb92, h⟩ := h
                      replace h := jbd2_of h; obtain ⟨x93, μ94, hx93, h⟩ := h
                      refine jr_V6_2 jf_271_512 hb92 (by omega) (r_B_within (by omega) _ _ _ _ _ _ hx93) (Nat.le_of_ble_eq_true rfl) jml_59 (Nat.le_of_ble_eq_true rfl) ?_
                      refine jr_aload_n jf_271_515 rfl hl2 ?_
                      refine jr_aload_n jf_271_516 rfl hl0 ?_
                      refine jr_iload_n jf_271_517 rfl hl3 ?_
                      refine jr_iconst jf_271_518 jc_i_1 ?_
                      refine jr_iadd jf_271_519 ?_
                      replace h := obd_of h; obtain ⟨x95, hx95, h⟩ := h
                      refine jr_iaload jf_271_520 hx95 ?_
                      refine jr_aload_n jf_271_521 rfl hl0 ?_
                      refine jr_iload_n jf_271_522 rfl hl3 ?_
                      refine jr_iconst jf_271_523 jc_i_2 ?_
                      refine jr_iadd jf_271_524 ?_
                      replace h := obd_of h; obtain ⟨x96, hx96, h⟩ := h
                      refine jr_iaload jf_271_525 hx96 ?_
                      replace h := jgd_of h; obtain ⟨hb97, h⟩ := h
                      replace h := jbd2_of h; obtain ⟨x98, μ99, hx98, h⟩ := h
                      refine jr_V6_2 jf_271_526 hb97 (by omega) (r_R_within (by omega) _ _ _ _ _ _ hx98) (Nat.le_of_ble_eq_true rfl) jml_212 (Nat.le_of_ble_eq_true rfl) ?_
                      replace h := ite_or h; rcases h with ⟨hc, h⟩ | ⟨hc, h⟩
                      · refine jr_if2z_eq_t jf_271_529 hc ?_
                        exact r_L_law_1079 hd ih _ _ _ _ _ _ _ _ hl0 hl1 hl2 hl3 h
                      · refine jr_if2z_eq_f jf_271_529 hc ?_
                        refine jr_iconst jf_271_532 jc_i_0 ?_
                        obtain ⟨rfl, rfl⟩ := Prod.mk.inj (Option.some.inj h)
                        exact jr_retZ (x := false) jf_271_533 jmt_271
                    · refine jsw_miss (by decide) hc (by decide : (7 : Int) + 1 = 8) ?_
                      replace h := ite_or h; rcases h with ⟨hc, h⟩ | ⟨hc, h⟩
                      · refine jsw_hit (by decide) hc ?_
                        refine jr_aload_n jf_271_534 rfl hl1 ?_
                        refine jr_aload_n jf_271_535 rfl hl0 ?_
                        refine jr_iload_n jf_271_536 rfl hl3 ?_
                        refine jr_iconst jf_271_537 jc_i_1 ?_
                        refine jr_iadd jf_271_538 ?_
                        replace h := obd_of h; obtain ⟨x100, hx100, h⟩ := h
                        refine jr_iaload jf_271_539 hx100 ?_
                        refine jr_aload_n jf_271_540 rfl hl0 ?_
                        refine jr_iload_n jf_271_541 rfl hl3 ?_
                        refine jr_iconst jf_271_542 jc_i_2 ?_
                        refine jr_iadd jf_271_543 ?_
                        replace h := obd_of h; obtain ⟨x101, hx101, h⟩ := h
                        refine jr_iaload jf_271_544 hx101 ?_
                        refine jr_i2l jf_271_545 ?_
                        refine jr_bipush jf_271_546 jc_b_32 ?_
                        refine jr_lshl jf_271_548 ?_
                        refine jr_aload_n jf_271_549 rfl hl0 ?_
                        refine jr_iload_n jf_271_550 rfl hl3 ?_
                        refine jr_iconst jf_271_551 jc_i_3 ?_
                        refine jr_iadd jf_271_552 ?_
                        replace h := obd_of h; obtain ⟨x102, hx102, h⟩ := h
                        refine jr_iaload jf_271_553 hx102 ?_
                        refine jr_i2l jf_271_554 ?_
                        refine jr_ldc2l jf_271_555 ?_
                        refine jr_land jf_271_558 ?_
                        refine jr_lor jf_271_559 ?_
                        replace h := jgd_of h; obtain ⟨hb103, h⟩ := h
                        replace h := jbd2_of h; obtain ⟨x104, μ105, hx104, h⟩ := h
                        refine jr_V6_2 jf_271_560 hb103 (by omega) (r_B_feed (by omega) _ _ _ _ _ _ hx104) (Nat.le_of_ble_eq_true rfl) jml_62 (Nat.le_of_ble_eq_true rfl) ?_
                        refine jr_aload_n jf_271_563 rfl hl2 ?_
                        refine jr_aload_n jf_271_564 rfl hl0 ?_
                        refine jr_iload_n jf_271_565 rfl hl3 ?_
                        refine jr_iconst jf_271_566 jc_i_1 ?_
                        refine jr_iadd jf_271_567 ?_
                        replace h := obd_of h; obtain ⟨x106, hx106, h⟩ := h
                        refine jr_iaload jf_271_568 hx106 ?_
                        refine jr_aload_n jf_271_569 rfl hl0 ?_
                        refine jr_iload_n jf_271_570 rfl hl3 ?_
                        refine jr_iconst jf_271_571 jc_i_2 ?_
                        refine jr_iadd jf_271_572 ?_
                        replace h := obd_of h; obtain ⟨x107, hx107, h⟩ := h
                        refine jr_iaload jf_271_573 hx107 ?_
                        refine jr_i2l jf_271_574 ?_
                        refine jr_bipush jf_271_575 jc_b_32 ?_
                        refine jr_lshl jf_271_577 ?_
                        refine jr_aload_n jf_271_578 rfl hl0 ?_
                        refine jr_iload_n jf_271_579 rfl hl3 ?_
                        refine jr_iconst jf_271_580 jc_i_3 ?_
                        refine jr_iadd jf_271_581 ?_
                        replace h := obd_of h; obtain ⟨x108, hx108, h⟩ := h
                        refine jr_iaload jf_271_582 hx108 ?_
                        refine jr_i2l jf_271_583 ?_
                        refine jr_ldc2l jf_271_584 ?_
                        refine jr_land jf_271_587 ?_
                        refine jr_lor jf_271_588 ?_
                        replace h := jgd_of h; obtain ⟨hb109, h⟩ := h
                        replace h := jbd2_of h; obtain ⟨x110, μ111, hx110, h⟩ := h
                        refine jr_V6_2 jf_271_589 hb109 (by omega) (r_R_feed (by omega) _ _ _ _ _ _ hx110) (Nat.le_of_ble_eq_true rfl) jml_213 (Nat.le_of_ble_eq_true rfl) ?_
                        replace h := ite_or h; rcases h with ⟨hc, h⟩ | ⟨hc, h⟩
                        · refine jr_if2_eq_t jf_271_592 hc ?_
                          exact r_L_law_1079 hd ih _ _ _ _ _ _ _ _ hl0 hl1 hl2 hl3 h
                        · refine jr_if2_eq_f jf_271_592 hc ?_
                          refine jr_iconst jf_271_595 jc_i_0 ?_
                          obtain ⟨rfl, rfl⟩ := Prod.mk.inj (Option.some.inj h)
                          exact jr_retZ (x := false) jf_271_596 jmt_271
                      · refine jsw_miss (by decide) hc (by decide : (8 : Int) + 1 = 9) ?_
                        replace h := ite_or h; rcases h with ⟨hc, h⟩ | ⟨hc, h⟩
                        · refine jsw_hit (by decide) hc ?_
                          refine jr_aload_n jf_271_597 rfl hl1 ?_
                          refine jr_aload_n jf_271_598 rfl hl0 ?_
                          refine jr_iload_n jf_271_599 rfl hl3 ?_
                          refine jr_iconst jf_271_600 jc_i_1 ?_
                          refine jr_iadd jf_271_601 ?_
                          replace h := obd_of h; obtain ⟨x112, hx112, h⟩ := h
                          refine jr_iaload jf_271_602 hx112 ?_
                          refine jr_aload_n jf_271_603 rfl hl0 ?_
                          refine jr_iload_n jf_271_604 rfl hl3 ?_
                          refine jr_iconst jf_271_605 jc_i_2 ?_
                          refine jr_iadd jf_271_606 ?_
                          replace h := obd_of h; obtain ⟨x113, hx113, h⟩ := h
                          refine jr_iaload jf_271_607 hx113 ?_
                          refine jr_aload_n jf_271_608 rfl hl0 ?_
                          refine jr_iload_n jf_271_609 rfl hl3 ?_
                          refine jr_iconst jf_271_610 jc_i_3 ?_
                          refine jr_iadd jf_271_611 ?_
                          replace h := obd_of h; obtain ⟨x114, hx114, h⟩ := h
                          refine jr_iaload jf_271_612 hx114 ?_
                          replace h := jgd_of h; obtain ⟨hb115, h⟩ := h
                          replace h := jbd2_of h; obtain ⟨x116, μ117, hx116, h⟩ := h
                          refine jr_V6_3 jf_271_613 hb115 (by omega) (r_B_run (by omega) _ _ _ _ _ _ _ hx116) (Nat.le_of_ble_eq_true rfl) jml_114 (Nat.le_of_ble_eq_true rfl) ?_
                          refine jr_aload_n jf_271_616 rfl hl2 ?_
                          refine jr_aload_n jf_271_617 rfl hl0 ?_
                          refine jr_iload_n jf_271_618 rfl hl3 ?_
                          refine jr_iconst jf_271_619 jc_i_1 ?_
                          refine jr_iadd jf_271_620 ?_
                          replace h := obd_of h; obtain ⟨x118, hx118, h⟩ := h
                          refine jr_iaload jf_271_621 hx118 ?_
                          refine jr_aload_n jf_271_622 rfl hl0 ?_
                          refine jr_iload_n jf_271_623 rfl hl3 ?_
                          refine jr_iconst jf_271_624 jc_i_2 ?_
                          refine jr_iadd jf_271_625 ?_
                          replace h := obd_of h; obtain ⟨x119, hx119, h⟩ := h
                          refine jr_iaload jf_271_626 hx119 ?_
                          refine jr_aload_n jf_271_627 rfl hl0 ?_
                          refine jr_iload_n jf_271_628 rfl hl3 ?_
                          refine jr_iconst jf_271_629 jc_i_3 ?_
                          refine jr_iadd jf_271_630 ?_
                          replace h := obd_of h; obtain ⟨x120, hx120, h⟩ := h
                          refine jr_iaload jf_271_631 hx120 ?_
                          replace h := jgd_of h; obtain ⟨hb121, h⟩ := h
                          replace h := jbd2_of h; obtain ⟨x122, μ123, hx122, h⟩ := h
                          refine jr_V6_3 jf_271_632 hb121 (by omega) (r_R_run (by omega) _ _ _ _ _ _ _ hx122) (Nat.le_of_ble_eq_true rfl) jml_234 (Nat.le_of_ble_eq_true rfl) ?_
                          replace h := ite_or h; rcases h with ⟨hc, h⟩ | ⟨hc, h⟩
                          · refine jr_if2_eq_t jf_271_635 hc ?_
                            exact r_L_law_1079 hd ih _ _ _ _ _ _ _ _ hl0 hl1 hl2 hl3 h
                          · refine jr_if2_eq_f jf_271_635 hc ?_
                            refine jr_iconst jf_271_638 jc_i_0 ?_
                            obtain ⟨rfl, rfl⟩ := Prod.mk.inj (Option.some.inj h)
                            exact jr_retZ (x := false) jf_271_639 jmt_271
                        · refine jsw_miss (by decide) hc (by decide : (9 : Int) + 1 = 10) ?_
                          replace h := ite_or h; rcases h with ⟨hc, h⟩ | ⟨hc, h⟩
                          · refine jsw_hit (by decide) hc ?_
                            refine jr_aload_n jf_271_640 rfl hl1 ?_
                            refine jr_aload_n jf_271_641 rfl hl0 ?_
                            refine jr_iload_n jf_271_642 rfl hl3 ?_
                            refine jr_iconst jf_271_643 jc_i_1 ?_
                            refine jr_iadd jf_271_644 ?_
                            replace h := obd_of h; obtain ⟨x124, hx124, h⟩ := h
                            refine jr_iaload jf_271_645 hx124 ?_
                            refine jr_aload_n jf_271_646 rfl hl0 ?_
                            refine jr_iload_n jf_271_647 rfl hl3 ?_
                            refine jr_iconst jf_271_648 jc_i_2 ?_
                            refine jr_iadd jf_271_649 ?_
                            replace h := obd_of h; obtain ⟨x125, hx125, h⟩ := h
                            refine jr_iaload jf_271_650 hx125 ?_
                            replace h := jgd_of h; obtain ⟨hb126, h⟩ := h
                            replace h := obd_of h; obtain ⟨x127, hx127, h⟩ := h
                            refine jr_V6_2 jf_271_651 hb126 (by omega) (r_B_output (by omega) _ _ _ _ _ hx127) (Nat.le_of_ble_eq_true rfl) jml_118 (Nat.le_of_ble_eq_true rfl) ?_
                            refine jr_aload_n jf_271_654 rfl hl2 ?_
                            refine jr_aload_n jf_271_655 rfl hl0 ?_
                            refine jr_iload_n jf_271_656 rfl hl3 ?_
                            refine jr_iconst jf_271_657 jc_i_1 ?_
                            refine jr_iadd jf_271_658 ?_
                            replace h := obd_of h; obtain ⟨x128, hx128, h⟩ := h
                            refine jr_iaload jf_271_659 hx128 ?_
                            refine jr_aload_n jf_271_660 rfl hl0 ?_
                            refine jr_iload_n jf_271_661 rfl hl3 ?_
                            refine jr_iconst jf_271_662 jc_i_2 ?_
                            refine jr_iadd jf_271_663 ?_
                            replace h := obd_of h; obtain ⟨x129, hx129, h⟩ := h
                            refine jr_iaload jf_271_664 hx129 ?_
                            replace h := jgd_of h; obtain ⟨hb130, h⟩ := h
                            replace h := obd_of h; obtain ⟨x131, hx131, h⟩ := h
                            refine jr_V6_2 jf_271_665 hb130 (by omega) (r_R_output (by omega) _ _ _ _ _ hx131) (Nat.le_of_ble_eq_true rfl) jml_235 (Nat.le_of_ble_eq_true rfl) ?_
                            refine jr_lcmp jf_271_668 ?_
                            replace h := ite_or h; rcases h with ⟨hc, h⟩ | ⟨hc, h⟩
                            · refine jr_ifl_eq_t jf_271_669 hc ?_
                              exact r_L_law_1079 hd ih _ _ _ _ _ _ _ _ hl0 hl1 hl2 hl3 h
                            · refine jr_ifl_eq_f jf_271_669 hc ?_
                              refine jr_iconst jf_271_672 jc_i_0 ?_
                              obtain ⟨rfl, rfl⟩ := Prod.mk.inj (Option.some.inj h)
                              exact jr_retZ (x := false) jf_271_673 jmt_271
                          · refine jsw_miss (by decide) hc (by decide : (10 : Int) + 1 = 11) ?_
                            replace h := ite_or h; rcases h with ⟨hc, h⟩ | ⟨hc, h⟩
                            · refine jsw_hit (by decide) hc ?_
                              refine jr_aload_n jf_271_674 rfl hl1 ?_
                              refine jr_aload_n jf_271_675 rfl hl0 ?_
                              refine jr_iload_n jf_271_676 rfl hl3 ?_
                              refine jr_iconst jf_271_677 jc_i_1 ?_
                              refine jr_iadd jf_271_678 ?_
                              replace h := obd_of h; obtain ⟨x132, hx132, h⟩ := h
                              refine jr_iaload jf_271_679 hx132 ?_
                              refine jr_aload_n jf_271_680 rfl hl0 ?_
                              refine jr_iload_n jf_271_681 rfl hl3 ?_
                              refine jr_iconst jf_271_682 jc_i_2 ?_
                              refine jr_iadd jf_271_683 ?_
                              replace h := obd_of h; obtain ⟨x133, hx133, h⟩ := h
                              refine jr_iaload jf_271_684 hx133 ?_
                              replace h := jgd_of h; obtain ⟨hb134, h⟩ := h
                              replace h := obd_of h; obtain ⟨x135, hx135, h⟩ := h
                              refine jr_V6_2 jf_271_685 hb134 (by omega) (r_B_state (by omega) _ _ _ _ _ hx135) (Nat.le_of_ble_eq_true rfl) jml_37 (Nat.le_of_ble_eq_true rfl) ?_
                              refine jr_aload_n jf_271_688 rfl hl2 ?_
                              refine jr_aload_n jf_271_689 rfl hl0 ?_
                              refine jr_iload_n jf_271_690 rfl hl3 ?_
                              refine jr_iconst jf_271_691 jc_i_1 ?_
                              refine jr_iadd jf_271_692 ?_
                              replace h := obd_of h; obtain ⟨x136, hx136, h⟩ := h
                              refine jr_iaload jf_271_693 hx136 ?_
                              refine jr_aload_n jf_271_694 rfl hl0 ?_
                              refine jr_iload_n jf_271_695 rfl hl3 ?_
                              refine jr_iconst jf_271_696 jc_i_2 ?_
                              refine jr_iadd jf_271_697 ?_
                              replace h := obd_of h; obtain ⟨x137, hx137, h⟩ := h
                              refine jr_iaload jf_271_698 hx137 ?_
                              replace h := jgd_of h; obtain ⟨hb138, h⟩ := h
                              replace h := obd_of h; obtain ⟨x139, hx139, h⟩ := h
                              refine jr_V6_2 jf_271_699 hb138 (by omega) (r_R_state (by omega) _ _ _ _ _ hx139) (Nat.le_of_ble_eq_true rfl) jml_242 (Nat.le_of_ble_eq_true rfl) ?_
                              refine jr_lcmp jf_271_702 ?_
                              replace h := ite_or h; rcases h with ⟨hc, h⟩ | ⟨hc, h⟩
                              · refine jr_ifl_eq_t jf_271_703 hc ?_
                                exact r_L_law_1079 hd ih _ _ _ _ _ _ _ _ hl0 hl1 hl2 hl3 h
                              · refine jr_ifl_eq_f jf_271_703 hc ?_
                                refine jr_iconst jf_271_706 jc_i_0 ?_
                                obtain ⟨rfl, rfl⟩ := Prod.mk.inj (Option.some.inj h)
                                exact jr_retZ (x := false) jf_271_707 jmt_271
                            · refine jsw_miss (by decide) hc (by decide : (11 : Int) + 1 = 12) ?_
                              replace h := ite_or h; rcases h with ⟨hc, h⟩ | ⟨hc, h⟩
                              · refine jsw_hit (by decide) hc ?_
                                refine jr_aload_n jf_271_708 rfl hl1 ?_
                                refine jr_aload_n jf_271_709 rfl hl0 ?_
                                refine jr_iload_n jf_271_710 rfl hl3 ?_
                                refine jr_iconst jf_271_711 jc_i_1 ?_
                                refine jr_iadd jf_271_712 ?_
                                replace h := obd_of h; obtain ⟨x140, hx140, h⟩ := h
                                refine jr_iaload jf_271_713 hx140 ?_
                                refine jr_aload_n jf_271_714 rfl hl0 ?_
                                refine jr_iload_n jf_271_715 rfl hl3 ?_
                                refine jr_iconst jf_271_716 jc_i_2 ?_
                                refine jr_iadd jf_271_717 ?_
                                replace h := obd_of h; obtain ⟨x141, hx141, h⟩ := h
                                refine jr_iaload jf_271_718 hx141 ?_
                                replace h := jgd_of h; obtain ⟨hb142, h⟩ := h
                                replace h := obd_of h; obtain ⟨x143, hx143, h⟩ := h
                                refine jr_V6_2 jf_271_719 hb142 (by omega) (r_B_about (by omega) _ _ _ _ _ hx143) (Nat.le_of_ble_eq_true rfl) jml_40 (Nat.le_of_ble_eq_true rfl) ?_
                                refine jr_aload_n jf_271_722 rfl hl2 ?_
                                refine jr_aload_n jf_271_723 rfl hl0 ?_
                                refine jr_iload_n jf_271_724 rfl hl3 ?_
                                refine jr_iconst jf_271_725 jc_i_1 ?_
                                refine jr_iadd jf_271_726 ?_
                                replace h := obd_of h; obtain ⟨x144, hx144, h⟩ := h
                                refine jr_iaload jf_271_727 hx144 ?_
                                refine jr_aload_n jf_271_728 rfl hl0 ?_
                                refine jr_iload_n jf_271_729 rfl hl3 ?_
                                refine jr_iconst jf_271_730 jc_i_2 ?_
                                refine jr_iadd jf_271_731 ?_
                                replace h := obd_of h; obtain ⟨x145, hx145, h⟩ := h
                                refine jr_iaload jf_271_732 hx145 ?_
                                replace h := jgd_of h; obtain ⟨hb146, h⟩ := h
                                replace h := obd_of h; obtain ⟨x147, hx147, h⟩ := h
                                refine jr_V6_2 jf_271_733 hb146 (by omega) (r_R_about (by omega) _ _ _ _ _ hx147) (Nat.le_of_ble_eq_true rfl) jml_243 (Nat.le_of_ble_eq_true rfl) ?_
                                replace h := ite_or h; rcases h with ⟨hc, h⟩ | ⟨hc, h⟩
                                · refine jr_if2_eq_t jf_271_736 hc ?_
                                  exact r_L_law_1079 hd ih _ _ _ _ _ _ _ _ hl0 hl1 hl2 hl3 h
                                · refine jr_if2_eq_f jf_271_736 hc ?_
                                  refine jr_iconst jf_271_739 jc_i_0 ?_
                                  obtain ⟨rfl, rfl⟩ := Prod.mk.inj (Option.some.inj h)
                                  exact jr_retZ (x := false) jf_271_740 jmt_271
                              · refine jsw_miss (by decide) hc (by decide : (12 : Int) + 1 = 13) ?_
                                replace h := ite_or h; rcases h with ⟨hc, h⟩ | ⟨hc, h⟩
                                · refine jsw_hit (by decide) hc ?_
                                  refine jr_aload_n jf_271_741 rfl hl1 ?_
                                  refine jr_aload_n jf_271_742 rfl hl0 ?_
                                  refine jr_iload_n jf_271_743 rfl hl3 ?_
                                  refine jr_iconst jf_271_744 jc_i_1 ?_
                                  refine jr_iadd jf_271_745 ?_
                                  replace h := obd_of h; obtain ⟨x148, hx148, h⟩ := h
                                  refine jr_iaload jf_271_746 hx148 ?_
                                  refine jr_aload_n jf_271_747 rfl hl0 ?_
                                  refine jr_iload_n jf_271_748 rfl hl3 ?_
                                  refine jr_iconst jf_271_749 jc_i_2 ?_
                                  refine jr_iadd jf_271_750 ?_
                                  replace h := obd_of h; obtain ⟨x149, hx149, h⟩ := h
                                  refine jr_iaload jf_271_751 hx149 ?_
                                  replace h := jgd_of h; obtain ⟨hb150, h⟩ := h
                                  replace h := obd_of h; obtain ⟨x151, hx151, h⟩ := h
                                  refine jr_V6_2 jf_271_752 hb150 (by omega) (r_B_told (by omega) _ _ _ _ _ hx151) (Nat.le_of_ble_eq_true rfl) jml_42 (Nat.le_of_ble_eq_true rfl) ?_
                                  refine jr_aload_n jf_271_755 rfl hl2 ?_
                                  refine jr_aload_n jf_271_756 rfl hl0 ?_
                                  refine jr_iload_n jf_271_757 rfl hl3 ?_
                                  refine jr_iconst jf_271_758 jc_i_1 ?_
                                  refine jr_iadd jf_271_759 ?_
                                  replace h := obd_of h; obtain ⟨x152, hx152, h⟩ := h
                                  refine jr_iaload jf_271_760 hx152 ?_
                                  refine jr_aload_n jf_271_761 rfl hl0 ?_
                                  refine jr_iload_n jf_271_762 rfl hl3 ?_
                                  refine jr_iconst jf_271_763 jc_i_2 ?_
                                  refine jr_iadd jf_271_764 ?_
                                  replace h := obd_of h; obtain ⟨x153, hx153, h⟩ := h
                                  refine jr_iaload jf_271_765 hx153 ?_
                                  replace h := jgd_of h; obtain ⟨hb154, h⟩ := h
                                  replace h := obd_of h; obtain ⟨x155, hx155, h⟩ := h
                                  refine jr_V6_2 jf_271_766 hb154 (by omega) (r_R_told (by omega) _ _ _ _ _ hx155) (Nat.le_of_ble_eq_true rfl) jml_244 (Nat.le_of_ble_eq_true rfl) ?_
                                  refine jr_lcmp jf_271_769 ?_
                                  replace h := ite_or h; rcases h with ⟨hc, h⟩ | ⟨hc, h⟩
                                  · refine jr_ifl_eq_t jf_271_770 hc ?_
                                    exact r_L_law_1079 hd ih _ _ _ _ _ _ _ _ hl0 hl1 hl2 hl3 h
                                  · refine jr_ifl_eq_f jf_271_770 hc ?_
                                    refine jr_iconst jf_271_773 jc_i_0 ?_
                                    obtain ⟨rfl, rfl⟩ := Prod.mk.inj (Option.some.inj h)
                                    exact jr_retZ (x := false) jf_271_774 jmt_271
                                · refine jsw_miss (by decide) hc (by decide : (13 : Int) + 1 = 14) ?_
                                  replace h := ite_or h; rcases h with ⟨hc, h⟩ | ⟨hc, h⟩
                                  · refine jsw_hit (by decide) hc ?_
                                    refine jr_aload_n jf_271_775 rfl hl1 ?_
                                    refine jr_aload_n jf_271_776 rfl hl0 ?_
                                    refine jr_iload_n jf_271_777 rfl hl3 ?_
                                    refine jr_iconst jf_271_778 jc_i_1 ?_
                                    refine jr_iadd jf_271_779 ?_
                                    replace h := obd_of h; obtain ⟨x156, hx156, h⟩ := h
                                    refine jr_iaload jf_271_780 hx156 ?_
                                    replace h := jgd_of h; obtain ⟨hb157, h⟩ := h
                                    replace h := jbd2_of h; obtain ⟨x158, μ159, hx158, h⟩ := h
                                    refine jr_V6_1 jf_271_781 hb157 (by omega) (r_B_reset (by omega) _ _ _ _ _ hx158) (Nat.le_of_ble_eq_true rfl) jml_125 (Nat.le_of_ble_eq_true rfl) ?_
                                    refine jr_aload_n jf_271_784 rfl hl2 ?_
                                    refine jr_aload_n jf_271_785 rfl hl0 ?_
                                    refine jr_iload_n jf_271_786 rfl hl3 ?_
                                    refine jr_iconst jf_271_787 jc_i_1 ?_
                                    refine jr_iadd jf_271_788 ?_
                                    replace h := obd_of h; obtain ⟨x160, hx160, h⟩ := h
                                    refine jr_iaload jf_271_789 hx160 ?_
                                    replace h := jgd_of h; obtain ⟨hb161, h⟩ := h
                                    replace h := jbd2_of h; obtain ⟨x162, μ163, hx162, h⟩ := h
                                    refine jr_V6_1 jf_271_790 hb161 (by omega) (r_R_reset (by omega) _ _ _ _ _ hx162) (Nat.le_of_ble_eq_true rfl) jml_245 (Nat.le_of_ble_eq_true rfl) ?_
                                    replace h := ite_or h; rcases h with ⟨hc, h⟩ | ⟨hc, h⟩
                                    · refine jr_if2z_eq_t jf_271_793 hc ?_
                                      exact r_L_law_1079 hd ih _ _ _ _ _ _ _ _ hl0 hl1 hl2 hl3 h
                                    · refine jr_if2z_eq_f jf_271_793 hc ?_
                                      refine jr_iconst jf_271_796 jc_i_0 ?_
                                      obtain ⟨rfl, rfl⟩ := Prod.mk.inj (Option.some.inj h)
                                      exact jr_retZ (x := false) jf_271_797 jmt_271
                                  · refine jsw_miss (by decide) hc (by decide : (14 : Int) + 1 = 15) ?_
                                    replace h := ite_or h; rcases h with ⟨hc, h⟩ | ⟨hc, h⟩
                                    · refine jsw_hit (by decide) hc ?_
                                      refine jr_aload_n jf_271_798 rfl hl1 ?_
                                      refine jr_aload_n jf_271_799 rfl hl0 ?_
                                      refine jr_iload_n jf_271_800 rfl hl3 ?_
                                      refine jr_iconst jf_271_801 jc_i_1 ?_
                                      refine jr_iadd jf_271_802 ?_
                                      replace h := obd_of h; obtain ⟨x164, hx164, h⟩ := h
                                      refine jr_iaload jf_271_803 hx164 ?_
                                      replace h := jgd_of h; obtain ⟨hb165, h⟩ := h
                                      replace h := jbd2_of h; obtain ⟨x166, μ167, hx166, h⟩ := h
                                      refine jr_V6_1 jf_271_804 hb165 (by omega) (r_B_keep (by omega) _ _ _ _ _ hx166) (Nat.le_of_ble_eq_true rfl) jml_131 (Nat.le_of_ble_eq_true rfl) ?_
                                      refine jr_aload_n jf_271_807 rfl hl2 ?_
                                      refine jr_aload_n jf_271_808 rfl hl0 ?_
                                      refine jr_iload_n jf_271_809 rfl hl3 ?_
                                      refine jr_iconst jf_271_810 jc_i_1 ?_
                                      refine jr_iadd jf_271_811 ?_
                                      replace h := obd_of h; obtain ⟨x168, hx168, h⟩ := h
                                      refine jr_iaload jf_271_812 hx168 ?_
                                      replace h := jgd_of h; obtain ⟨hb169, h⟩ := h
                                      replace h := jbd2_of h; obtain ⟨x170, μ171, hx170, h⟩ := h
                                      refine jr_V6_1 jf_271_813 hb169 (by omega) (r_R_keep (by omega) _ _ _ _ _ hx170) (Nat.le_of_ble_eq_true rfl) jml_248 (Nat.le_of_ble_eq_true rfl) ?_
                                      replace h := ite_or h; rcases h with ⟨hc, h⟩ | ⟨hc, h⟩
                                      · refine jr_if2_eq_t jf_271_816 hc ?_
                                        exact r_L_law_1079 hd ih _ _ _ _ _ _ _ _ hl0 hl1 hl2 hl3 h
                                      · refine jr_if2_eq_f jf_271_816 hc ?_
                                        refine jr_iconst jf_271_819 jc_i_0 ?_
                                        obtain ⟨rfl, rfl⟩ := Prod.mk.inj (Option.some.inj h)
                                        exact jr_retZ (x := false) jf_271_820 jmt_271
                                    · refine jsw_miss (by decide) hc (by decide : (15 : Int) + 1 = 16) ?_
                                      replace h := ite_or h; rcases h with ⟨hc, h⟩ | ⟨hc, h⟩
                                      · refine jsw_hit (by decide) hc ?_
                                        refine jr_aload_n jf_271_821 rfl hl1 ?_
                                        refine jr_aload_n jf_271_822 rfl hl0 ?_
                                        refine jr_iload_n jf_271_823 rfl hl3 ?_
                                        refine jr_iconst jf_271_824 jc_i_1 ?_
                                        refine jr_iadd jf_271_825 ?_
                                        replace h := obd_of h; obtain ⟨x172, hx172, h⟩ := h
                                        refine jr_iaload jf_271_826 hx172 ?_
                                        replace h := jgd_of h; obtain ⟨hb173, h⟩ := h
                                        replace h := jbd2_of h; obtain ⟨x174, μ175, hx174, h⟩ := h
                                        refine jr_V6_1 jf_271_827 hb173 (by omega) (r_B_back (by omega) _ _ _ _ _ hx174) (Nat.le_of_ble_eq_true rfl) jml_139 (Nat.le_of_ble_eq_true rfl) ?_
                                        refine jr_aload_n jf_271_830 rfl hl2 ?_
                                        refine jr_aload_n jf_271_831 rfl hl0 ?_
                                        refine jr_iload_n jf_271_832 rfl hl3 ?_
                                        refine jr_iconst jf_271_833 jc_i_1 ?_
                                        refine jr_iadd jf_271_834 ?_
                                        replace h := obd_of h; obtain ⟨x176, hx176, h⟩ := h
                                        refine jr_iaload jf_271_835 hx176 ?_
                                        replace h := jgd_of h; obtain ⟨hb177, h⟩ := h
                                        replace h := jbd2_of h; obtain ⟨x178, μ179, hx178, h⟩ := h
                                        refine jr_V6_1 jf_271_836 hb177 (by omega) (r_R_back (by omega) _ _ _ _ _ hx178) (Nat.le_of_ble_eq_true rfl) jml_250 (Nat.le_of_ble_eq_true rfl) ?_
                                        replace h := ite_or h; rcases h with ⟨hc, h⟩ | ⟨hc, h⟩
                                        · refine jr_if2z_eq_t jf_271_839 hc ?_
                                          exact r_L_law_1079 hd ih _ _ _ _ _ _ _ _ hl0 hl1 hl2 hl3 h
                                        · refine jr_if2z_eq_f jf_271_839 hc ?_
                                          refine jr_iconst jf_271_842 jc_i_0 ?_
                                          obtain ⟨rfl, rfl⟩ := Prod.mk.inj (Option.some.inj h)
                                          exact jr_retZ (x := false) jf_271_843 jmt_271
                                      · refine jsw_miss (by decide) hc (by decide : (16 : Int) + 1 = 17) ?_
                                        replace h := ite_or h; rcases h with ⟨hc, h⟩ | ⟨hc, h⟩
                                        · refine jsw_hit (by decide) hc ?_
                                          refine jr_aload_n jf_271_844 rfl hl1 ?_
                                          refine jr_aload_n jf_271_845 rfl hl0 ?_
                                          refine jr_iload_n jf_271_846 rfl hl3 ?_
                                          refine jr_iconst jf_271_847 jc_i_1 ?_
                                          refine jr_iadd jf_271_848 ?_
                                          replace h := obd_of h; obtain ⟨x180, hx180, h⟩ := h
                                          refine jr_iaload jf_271_849 hx180 ?_
                                          replace h := jgd_of h; obtain ⟨hb181, h⟩ := h
                                          replace h := jbd2_of h; obtain ⟨x182, μ183, hx182, h⟩ := h
                                          refine jr_V6_1 jf_271_850 hb181 (by omega) (r_B_same (by omega) _ _ _ _ _ hx182) (Nat.le_of_ble_eq_true rfl) jml_147 (Nat.le_of_ble_eq_true rfl) ?_
                                          refine jr_aload_n jf_271_853 rfl hl2 ?_
                                          refine jr_aload_n jf_271_854 rfl hl0 ?_
                                          refine jr_iload_n jf_271_855 rfl hl3 ?_
                                          refine jr_iconst jf_271_856 jc_i_1 ?_
                                          refine jr_iadd jf_271_857 ?_
                                          replace h := obd_of h; obtain ⟨x184, hx184, h⟩ := h
                                          refine jr_iaload jf_271_858 hx184 ?_
                                          replace h := jgd_of h; obtain ⟨hb185, h⟩ := h
                                          replace h := jbd2_of h; obtain ⟨x186, μ187, hx186, h⟩ := h
                                          refine jr_V6_1 jf_271_859 hb185 (by omega) (r_R_same (by omega) _ _ _ _ _ hx186) (Nat.le_of_ble_eq_true rfl) jml_254 (Nat.le_of_ble_eq_true rfl) ?_
                                          replace h := ite_or h; rcases h with ⟨hc, h⟩ | ⟨hc, h⟩
                                          · refine jr_if2z_eq_t jf_271_862 hc ?_
                                            exact r_L_law_1079 hd ih _ _ _ _ _ _ _ _ hl0 hl1 hl2 hl3 h
                                          · refine jr_if2z_eq_f jf_271_862 hc ?_
                                            refine jr_iconst jf_271_865 jc_i_0 ?_
                                            obtain ⟨rfl, rfl⟩ := Prod.mk.inj (Option.some.inj h)
                                            exact jr_retZ (x := false) jf_271_866 jmt_271
                                        · refine jsw_miss (by decide) hc (by decide : (17 : Int) + 1 = 18) ?_
                                          replace h := ite_or h; rcases h with ⟨hc, h⟩ | ⟨hc, h⟩
                                          · refine jsw_hit (by decide) hc ?_
                                            refine jr_aload_n jf_271_867 rfl hl1 ?_
                                            refine jr_aload_n jf_271_868 rfl hl0 ?_
                                            refine jr_iload_n jf_271_869 rfl hl3 ?_
                                            refine jr_iconst jf_271_870 jc_i_1 ?_
                                            refine jr_iadd jf_271_871 ?_
                                            replace h := obd_of h; obtain ⟨x188, hx188, h⟩ := h
                                            refine jr_iaload jf_271_872 hx188 ?_
                                            replace h := jgd_of h; obtain ⟨hb189, h⟩ := h
                                            replace h := obd_of h; obtain ⟨x190, hx190, h⟩ := h
                                            refine jr_V6_1 jf_271_873 hb189 (by omega) (r_B_poles (by omega) _ _ _ _ hx190) (Nat.le_of_ble_eq_true rfl) jml_151 (Nat.le_of_ble_eq_true rfl) ?_
                                            refine jr_aload_n jf_271_876 rfl hl2 ?_
                                            refine jr_aload_n jf_271_877 rfl hl0 ?_
                                            refine jr_iload_n jf_271_878 rfl hl3 ?_
                                            refine jr_iconst jf_271_879 jc_i_1 ?_
                                            refine jr_iadd jf_271_880 ?_
                                            replace h := obd_of h; obtain ⟨x191, hx191, h⟩ := h
                                            refine jr_iaload jf_271_881 hx191 ?_
                                            replace h := jgd_of h; obtain ⟨hb192, h⟩ := h
                                            replace h := obd_of h; obtain ⟨x193, hx193, h⟩ := h
                                            refine jr_V6_1 jf_271_882 hb192 (by omega) (r_R_poles (by omega) _ _ _ _ hx193) (Nat.le_of_ble_eq_true rfl) jml_256 (Nat.le_of_ble_eq_true rfl) ?_
                                            replace h := ite_or h; rcases h with ⟨hc, h⟩ | ⟨hc, h⟩
                                            · refine jr_if2_eq_t jf_271_885 hc ?_
                                              exact r_L_law_1079 hd ih _ _ _ _ _ _ _ _ hl0 hl1 hl2 hl3 h
                                            · refine jr_if2_eq_f jf_271_885 hc ?_
                                              refine jr_iconst jf_271_888 jc_i_0 ?_
                                              obtain ⟨rfl, rfl⟩ := Prod.mk.inj (Option.some.inj h)
                                              exact jr_retZ (x := false) jf_271_889 jmt_271
                                          · refine jsw_miss (by decide) hc (by decide : (18 : Int) + 1 = 19) ?_
                                            replace h := ite_or h; rcases h with ⟨hc, h⟩ | ⟨hc, h⟩
                                            · refine jsw_hit (by decide) hc ?_
                                              refine jr_aload_n jf_271_890 rfl hl1 ?_
                                              refine jr_aload_n jf_271_891 rfl hl0 ?_
                                              refine jr_iload_n jf_271_892 rfl hl3 ?_
                                              refine jr_iconst jf_271_893 jc_i_1 ?_
                                              refine jr_iadd jf_271_894 ?_
                                              replace h := obd_of h; obtain ⟨x194, hx194, h⟩ := h
                                              refine jr_iaload jf_271_895 hx194 ?_
                                              replace h := jgd_of h; obtain ⟨hb195, h⟩ := h
                                              replace h := jbd2_of h; obtain ⟨x196, μ197, hx196, h⟩ := h
                                              refine jr_V6_1 jf_271_896 hb195 (by omega) (r_B_cycles (by omega) _ _ _ _ _ hx196) (Nat.le_of_ble_eq_true rfl) jml_160 (Nat.le_of_ble_eq_true rfl) ?_
                                              refine jr_aload_n jf_271_899 rfl hl2 ?_
                                              refine jr_aload_n jf_271_900 rfl hl0 ?_
                                              refine jr_iload_n jf_271_901 rfl hl3 ?_
                                              refine jr_iconst jf_271_902 jc_i_1 ?_
                                              refine jr_iadd jf_271_903 ?_
                                              replace h := obd_of h; obtain ⟨x198, hx198, h⟩ := h
                                              refine jr_iaload jf_271_904 hx198 ?_
                                              replace h := jgd_of h; obtain ⟨hb199, h⟩ := h
                                              replace h := jbd2_of h; obtain ⟨x200, μ201, hx200, h⟩ := h
                                              refine jr_V6_1 jf_271_905 hb199 (by omega) (r_R_cycles (by omega) _ _ _ _ _ hx200) (Nat.le_of_ble_eq_true rfl) jml_259 (Nat.le_of_ble_eq_true rfl) ?_
                                              replace h := ite_or h; rcases h with ⟨hc, h⟩ | ⟨hc, h⟩
                                              · refine jr_if2_eq_t jf_271_908 hc ?_
                                                exact r_L_law_1079 hd ih _ _ _ _ _ _ _ _ hl0 hl1 hl2 hl3 h
                                              · refine jr_if2_eq_f jf_271_908 hc ?_
                                                refine jr_iconst jf_271_911 jc_i_0 ?_
                                                obtain ⟨rfl, rfl⟩ := Prod.mk.inj (Option.some.inj h)
                                                exact jr_retZ (x := false) jf_271_912 jmt_271
                                            · refine jsw_miss (by decide) hc (by decide : (19 : Int) + 1 = 20) ?_
                                              replace h := ite_or h; rcases h with ⟨hc, h⟩ | ⟨hc, h⟩
                                              · refine jsw_hit (by decide) hc ?_
                                                refine jr_aload_n jf_271_913 rfl hl1 ?_
                                                refine jr_aload_n jf_271_914 rfl hl0 ?_
                                                refine jr_iload_n jf_271_915 rfl hl3 ?_
                                                refine jr_iconst jf_271_916 jc_i_1 ?_
                                                refine jr_iadd jf_271_917 ?_
                                                replace h := obd_of h; obtain ⟨x202, hx202, h⟩ := h
                                                refine jr_iaload jf_271_918 hx202 ?_
                                                refine jr_aload_n jf_271_919 rfl hl0 ?_
                                                refine jr_iload_n jf_271_920 rfl hl3 ?_
                                                refine jr_iconst jf_271_921 jc_i_2 ?_
                                                refine jr_iadd jf_271_922 ?_
                                                replace h := obd_of h; obtain ⟨x203, hx203, h⟩ := h
                                                refine jr_iaload jf_271_923 hx203 ?_
                                                refine jr_aload_n jf_271_924 rfl hl0 ?_
                                                refine jr_iload_n jf_271_925 rfl hl3 ?_
                                                refine jr_iconst jf_271_926 jc_i_3 ?_
                                                refine jr_iadd jf_271_927 ?_
                                                replace h := obd_of h; obtain ⟨x204, hx204, h⟩ := h
                                                refine jr_iaload jf_271_928 hx204 ?_
                                                replace h := jgd_of h; obtain ⟨hb205, h⟩ := h
                                                replace h := jbd2_of h; obtain ⟨x206, μ207, hx206, h⟩ := h
                                                refine jr_V6_3 jf_271_929 hb205 (by omega) (r_B_cycle (by omega) _ _ _ _ _ _ _ hx206) (Nat.le_of_ble_eq_true rfl) jml_173 (Nat.le_of_ble_eq_true rfl) ?_
                                                refine jr_aload_n jf_271_932 rfl hl2 ?_
                                                refine jr_aload_n jf_271_933 rfl hl0 ?_
                                                refine jr_iload_n jf_271_934 rfl hl3 ?_
                                                refine jr_iconst jf_271_935 jc_i_1 ?_
                                                refine jr_iadd jf_271_936 ?_
                                                replace h := obd_of h; obtain ⟨x208, hx208, h⟩ := h
                                                refine jr_iaload jf_271_937 hx208 ?_
                                                refine jr_aload_n jf_271_938 rfl hl0 ?_
                                                refine jr_iload_n jf_271_939 rfl hl3 ?_
                                                refine jr_iconst jf_271_940 jc_i_2 ?_
                                                refine jr_iadd jf_271_941 ?_
                                                replace h := obd_of h; obtain ⟨x209, hx209, h⟩ := h
                                                refine jr_iaload jf_271_942 hx209 ?_
                                                refine jr_aload_n jf_271_943 rfl hl0 ?_
                                                refine jr_iload_n jf_271_944 rfl hl3 ?_
                                                refine jr_iconst jf_271_945 jc_i_3 ?_
                                                refine jr_iadd jf_271_946 ?_
                                                replace h := obd_of h; obtain ⟨x210, hx210, h⟩ := h
                                                refine jr_iaload jf_271_947 hx210 ?_
                                                replace h := jgd_of h; obtain ⟨hb211, h⟩ := h
                                                replace h := jbd2_of h; obtain ⟨x212, μ213, hx212, h⟩ := h
                                                refine jr_V6_3 jf_271_948 hb211 (by omega) (r_R_cycle (by omega) _ _ _ _ _ _ _ hx212) (Nat.le_of_ble_eq_true rfl) jml_262 (Nat.le_of_ble_eq_true rfl) ?_
                                                replace h := ite_or h; rcases h with ⟨hc, h⟩ | ⟨hc, h⟩
                                                · refine jr_if2_eq_t jf_271_951 hc ?_
                                                  exact r_L_law_1079 hd ih _ _ _ _ _ _ _ _ hl0 hl1 hl2 hl3 h
                                                · refine jr_if2_eq_f jf_271_951 hc ?_
                                                  refine jr_iconst jf_271_954 jc_i_0 ?_
                                                  obtain ⟨rfl, rfl⟩ := Prod.mk.inj (Option.some.inj h)
                                                  exact jr_retZ (x := false) jf_271_955 jmt_271
                                              · refine jsw_miss (by decide) hc (by decide : (20 : Int) + 1 = 21) ?_
                                                replace h := ite_or h; rcases h with ⟨hc, h⟩ | ⟨hc, h⟩
                                                · refine jsw_hit (by decide) hc ?_
                                                  refine jr_aload_n jf_271_956 rfl hl1 ?_
                                                  refine jr_aload_n jf_271_957 rfl hl0 ?_
                                                  refine jr_iload_n jf_271_958 rfl hl3 ?_
                                                  refine jr_iconst jf_271_959 jc_i_1 ?_
                                                  refine jr_iadd jf_271_960 ?_
                                                  replace h := obd_of h; obtain ⟨x214, hx214, h⟩ := h
                                                  refine jr_iaload jf_271_961 hx214 ?_
                                                  refine jr_aload_n jf_271_962 rfl hl0 ?_
                                                  refine jr_iload_n jf_271_963 rfl hl3 ?_
                                                  refine jr_iconst jf_271_964 jc_i_2 ?_
                                                  refine jr_iadd jf_271_965 ?_
                                                  replace h := obd_of h; obtain ⟨x215, hx215, h⟩ := h
                                                  refine jr_iaload jf_271_966 hx215 ?_
                                                  replace h := jgd_of h; obtain ⟨hb216, h⟩ := h
                                                  replace h := jbd2_of h; obtain ⟨x217, μ218, hx217, h⟩ := h
                                                  refine jr_V6_2 jf_271_967 hb216 (by omega) (r_B_convert (by omega) _ _ _ _ _ _ hx217) (Nat.le_of_ble_eq_true rfl) jml_177 (Nat.le_of_ble_eq_true rfl) ?_
                                                  refine jr_aload_n jf_271_970 rfl hl2 ?_
                                                  refine jr_aload_n jf_271_971 rfl hl0 ?_
                                                  refine jr_iload_n jf_271_972 rfl hl3 ?_
                                                  refine jr_iconst jf_271_973 jc_i_1 ?_
                                                  refine jr_iadd jf_271_974 ?_
                                                  replace h := obd_of h; obtain ⟨x219, hx219, h⟩ := h
                                                  refine jr_iaload jf_271_975 hx219 ?_
                                                  refine jr_aload_n jf_271_976 rfl hl0 ?_
                                                  refine jr_iload_n jf_271_977 rfl hl3 ?_
                                                  refine jr_iconst jf_271_978 jc_i_2 ?_
                                                  refine jr_iadd jf_271_979 ?_
                                                  replace h := obd_of h; obtain ⟨x220, hx220, h⟩ := h
                                                  refine jr_iaload jf_271_980 hx220 ?_
                                                  replace h := jgd_of h; obtain ⟨hb221, h⟩ := h
                                                  replace h := jbd2_of h; obtain ⟨x222, μ223, hx222, h⟩ := h
                                                  refine jr_V6_2 jf_271_981 hb221 (by omega) (r_R_convert (by omega) _ _ _ _ _ _ hx222) (Nat.le_of_ble_eq_true rfl) jml_263 (Nat.le_of_ble_eq_true rfl) ?_
                                                  replace h := ite_or h; rcases h with ⟨hc, h⟩ | ⟨hc, h⟩
                                                  · refine jr_if2_eq_t jf_271_984 hc ?_
                                                    exact r_L_law_1079 hd ih _ _ _ _ _ _ _ _ hl0 hl1 hl2 hl3 h
                                                  · refine jr_if2_eq_f jf_271_984 hc ?_
                                                    refine jr_iconst jf_271_987 jc_i_0 ?_
                                                    obtain ⟨rfl, rfl⟩ := Prod.mk.inj (Option.some.inj h)
                                                    exact jr_retZ (x := false) jf_271_988 jmt_271
                                                · refine jsw_miss (by decide) hc (by decide : (21 : Int) + 1 = 22) ?_
                                                  replace h := ite_or h; rcases h with ⟨hc, h⟩ | ⟨hc, h⟩
                                                  · refine jsw_hit (by decide) hc ?_
                                                    refine jr_aload_n jf_271_989 rfl hl1 ?_
                                                    refine jr_aload_n jf_271_990 rfl hl0 ?_
                                                    refine jr_iload_n jf_271_991 rfl hl3 ?_
                                                    refine jr_iconst jf_271_992 jc_i_1 ?_
                                                    refine jr_iadd jf_271_993 ?_
                                                    replace h := obd_of h; obtain ⟨x224, hx224, h⟩ := h
                                                    refine jr_iaload jf_271_994 hx224 ?_
                                                    refine jr_aload_n jf_271_995 rfl hl0 ?_
                                                    refine jr_iload_n jf_271_996 rfl hl3 ?_
                                                    refine jr_iconst jf_271_997 jc_i_2 ?_
                                                    refine jr_iadd jf_271_998 ?_
                                                    replace h := obd_of h; obtain ⟨x225, hx225, h⟩ := h
                                                    refine jr_iaload jf_271_999 hx225 ?_
                                                    replace h := jgd_of h; obtain ⟨hb226, h⟩ := h
                                                    replace h := obd_of h; obtain ⟨x227, hx227, h⟩ := h
                                                    refine jr_V6_2 jf_271_1000 hb226 (by omega) (r_B_measure (by omega) _ _ _ _ _ hx227) (Nat.le_of_ble_eq_true rfl) jml_120 (Nat.le_of_ble_eq_true rfl) ?_
                                                    refine jr_aload_n jf_271_1003 rfl hl2 ?_
                                                    refine jr_aload_n jf_271_1004 rfl hl0 ?_
                                                    refine jr_iload_n jf_271_1005 rfl hl3 ?_
                                                    refine jr_iconst jf_271_1006 jc_i_1 ?_
                                                    refine jr_iadd jf_271_1007 ?_
                                                    replace h := obd_of h; obtain ⟨x228, hx228, h⟩ := h
                                                    refine jr_iaload jf_271_1008 hx228 ?_
                                                    refine jr_aload_n jf_271_1009 rfl hl0 ?_
                                                    refine jr_iload_n jf_271_1010 rfl hl3 ?_
                                                    refine jr_iconst jf_271_1011 jc_i_2 ?_
                                                    refine jr_iadd jf_271_1012 ?_
                                                    replace h := obd_of h; obtain ⟨x229, hx229, h⟩ := h
                                                    refine jr_iaload jf_271_1013 hx229 ?_
                                                    replace h := jgd_of h; obtain ⟨hb230, h⟩ := h
                                                    replace h := obd_of h; obtain ⟨x231, hx231, h⟩ := h
                                                    refine jr_V6_2 jf_271_1014 hb230 (by omega) (r_R_measure (by omega) _ _ _ _ _ hx231) (Nat.le_of_ble_eq_true rfl) jml_268 (Nat.le_of_ble_eq_true rfl) ?_
                                                    refine jr_lcmp jf_271_1017 ?_
                                                    replace h := ite_or h; rcases h with ⟨hc, h⟩ | ⟨hc, h⟩
                                                    · refine jr_ifl_eq_t jf_271_1018 hc ?_
                                                      exact r_L_law_1079 hd ih _ _ _ _ _ _ _ _ hl0 hl1 hl2 hl3 h
                                                    · refine jr_ifl_eq_f jf_271_1018 hc ?_
                                                      refine jr_iconst jf_271_1021 jc_i_0 ?_
                                                      obtain ⟨rfl, rfl⟩ := Prod.mk.inj (Option.some.inj h)
                                                      exact jr_retZ (x := false) jf_271_1022 jmt_271
                                                  · refine jsw_miss (by decide) hc (by decide : (22 : Int) + 1 = 23) ?_
                                                    replace h := ite_or h; rcases h with ⟨hc, h⟩ | ⟨hc, h⟩
                                                    · refine jsw_hit (by decide) hc ?_
                                                      refine jr_aload_n jf_271_1023 rfl hl1 ?_
                                                      refine jr_aload_n jf_271_1024 rfl hl0 ?_
                                                      refine jr_iload_n jf_271_1025 rfl hl3 ?_
                                                      refine jr_iconst jf_271_1026 jc_i_1 ?_
                                                      refine jr_iadd jf_271_1027 ?_
                                                      replace h := obd_of h; obtain ⟨x232, hx232, h⟩ := h
                                                      refine jr_iaload jf_271_1028 hx232 ?_
                                                      replace h := jgd_of h; obtain ⟨hb233, h⟩ := h
                                                      replace h := obd_of h; obtain ⟨x234, hx234, h⟩ := h
                                                      refine jr_V6_1 jf_271_1029 hb233 (by omega) (r_B_count (by omega) _ _ _ _ hx234) (Nat.le_of_ble_eq_true rfl) jml_61 (Nat.le_of_ble_eq_true rfl) ?_
                                                      refine jr_aload_n jf_271_1032 rfl hl2 ?_
                                                      refine jr_aload_n jf_271_1033 rfl hl0 ?_
                                                      refine jr_iload_n jf_271_1034 rfl hl3 ?_
                                                      refine jr_iconst jf_271_1035 jc_i_1 ?_
                                                      refine jr_iadd jf_271_1036 ?_
                                                      replace h := obd_of h; obtain ⟨x235, hx235, h⟩ := h
                                                      refine jr_iaload jf_271_1037 hx235 ?_
                                                      replace h := jgd_of h; obtain ⟨hb236, h⟩ := h
                                                      replace h := obd_of h; obtain ⟨x237, hx237, h⟩ := h
                                                      refine jr_V6_1 jf_271_1038 hb236 (by omega) (r_R_count (by omega) _ _ _ _ hx237) (Nat.le_of_ble_eq_true rfl) jml_269 (Nat.le_of_ble_eq_true rfl) ?_
                                                      replace h := ite_or h; rcases h with ⟨hc, h⟩ | ⟨hc, h⟩
                                                      · refine jr_if2_eq_t jf_271_1041 hc ?_
                                                        exact r_L_law_1079 hd ih _ _ _ _ _ _ _ _ hl0 hl1 hl2 hl3 h
                                                      · refine jr_if2_eq_f jf_271_1041 hc ?_
                                                        refine jr_iconst jf_271_1044 jc_i_0 ?_
                                                        obtain ⟨rfl, rfl⟩ := Prod.mk.inj (Option.some.inj h)
                                                        exact jr_retZ (x := false) jf_271_1045 jmt_271
                                                    · refine jsw_miss (by decide) hc (by decide : (23 : Int) + 1 = 24) ?_
                                                      replace h := ite_or h; rcases h with ⟨hc, h⟩ | ⟨hc, h⟩
                                                      · refine jsw_hit (by decide) hc ?_
                                                        refine jr_aload_n jf_271_1046 rfl hl1 ?_
                                                        refine jr_aload_n jf_271_1047 rfl hl0 ?_
                                                        refine jr_iload_n jf_271_1048 rfl hl3 ?_
                                                        refine jr_iconst jf_271_1049 jc_i_1 ?_
                                                        refine jr_iadd jf_271_1050 ?_
                                                        replace h := obd_of h; obtain ⟨x238, hx238, h⟩ := h
                                                        refine jr_iaload jf_271_1051 hx238 ?_
                                                        refine jr_aload_n jf_271_1052 rfl hl0 ?_
                                                        refine jr_iload_n jf_271_1053 rfl hl3 ?_
                                                        refine jr_iconst jf_271_1054 jc_i_2 ?_
                                                        refine jr_iadd jf_271_1055 ?_
                                                        replace h := obd_of h; obtain ⟨x239, hx239, h⟩ := h
                                                        refine jr_iaload jf_271_1056 hx239 ?_
                                                        replace h := jgd_of h; obtain ⟨hb240, h⟩ := h
                                                        replace h := obd_of h; obtain ⟨x241, hx241, h⟩ := h
                                                        refine jr_V6_2 jf_271_1057 hb240 (by omega) (r_B_chain_2 (by omega) _ _ _ _ _ hx241) (Nat.le_of_ble_eq_true rfl) jml_60 (Nat.le_of_ble_eq_true rfl) ?_
                                                        refine jr_aload_n jf_271_1060 rfl hl2 ?_
                                                        refine jr_aload_n jf_271_1061 rfl hl0 ?_
                                                        refine jr_iload_n jf_271_1062 rfl hl3 ?_
                                                        refine jr_iconst jf_271_1063 jc_i_1 ?_
                                                        refine jr_iadd jf_271_1064 ?_
                                                        replace h := obd_of h; obtain ⟨x242, hx242, h⟩ := h
                                                        refine jr_iaload jf_271_1065 hx242 ?_
                                                        refine jr_aload_n jf_271_1066 rfl hl0 ?_
                                                        refine jr_iload_n jf_271_1067 rfl hl3 ?_
                                                        refine jr_iconst jf_271_1068 jc_i_2 ?_
                                                        refine jr_iadd jf_271_1069 ?_
                                                        replace h := obd_of h; obtain ⟨x243, hx243, h⟩ := h
                                                        refine jr_iaload jf_271_1070 hx243 ?_
                                                        replace h := jgd_of h; obtain ⟨hb244, h⟩ := h
                                                        replace h := obd_of h; obtain ⟨x245, hx245, h⟩ := h
                                                        refine jr_V6_2 jf_271_1071 hb244 (by omega) (r_R_chain_2 (by omega) _ _ _ _ _ hx245) (Nat.le_of_ble_eq_true rfl) jml_270 (Nat.le_of_ble_eq_true rfl) ?_
                                                        replace h := ite_or h; rcases h with ⟨hc, h⟩ | ⟨hc, h⟩
                                                        · refine jr_if2_eq_t jf_271_1074 hc ?_
                                                          exact r_L_law_1079 hd ih _ _ _ _ _ _ _ _ hl0 hl1 hl2 hl3 h
                                                        · refine jr_if2_eq_f jf_271_1074 hc ?_
                                                          refine jr_iconst jf_271_1077 jc_i_0 ?_
                                                          obtain ⟨rfl, rfl⟩ := Prod.mk.inj (Option.some.inj h)
                                                          exact jr_retZ (x := false) jf_271_1078 jmt_271
                                                      · refine jsw_miss (by decide) hc (by decide : (24 : Int) + 1 = 25) ?_
                                                        refine jsw_end ?_
                                                        exact r_L_law_1079 hd ih _ _ _ _ _ _ _ _ hl0 hl1 hl2 hl3 h
set_option maxRecDepth 10000 in
set_option maxHeartbeats 4000000 in
theorem r_L_law_e {N M B : Nat} {SA : Nat → Nat} {d : Nat} (hd : M + 8 ≤ d) : ∀ (L : JLoc) (v0 : Option Nat) (μ : JMem) (r : Bool) (μ9 : JMem), jget L 0 = rv v0 → g_L_law N M B SA v0 μ = some (r, μ9) → jR B SA d m_L_law 0 L [] μ (some (.int (jb r))) μ9 := by
  intro L v0 μ r μ9 hl0 h
  unfold g_L_law at h
  replace h := jnew_of h
  refine jr_new jf_271_0 ?_
  refine jr_dup jf_271_3 rfl ?_
  replace h := obd_of h; obtain ⟨μ3, hμ3, h⟩ := h
  refine jr_P1v_0 jf_271_4 (by omega) (r_B_init (by omega) _ _ _ hμ3) (Nat.le_of_ble_eq_true rfl) jml_0 (Nat.le_of_ble_eq_true rfl) ?_
  refine jr_astore_n jf_271_7 rfl jml_271 (by decide) ?_
  replace h := jnew_of h
  refine jr_new jf_271_8 ?_
  refine jr_dup jf_271_11 rfl ?_
  replace h := obd_of h; obtain ⟨μ6, hμ6, h⟩ := h
  refine jr_P1v_0 jf_271_12 (by omega) (r_R_init (by omega) _ _ _ hμ6) (Nat.le_of_ble_eq_true rfl) jml_187 (Nat.le_of_ble_eq_true rfl) ?_
  refine jr_astore_n jf_271_15 rfl jml_271 (by decide) ?_
  refine jr_iconst jf_271_16 jc_i_0 ?_
  refine jr_istore_n jf_271_17 rfl jml_271 (by decide) ?_
  exact r_L_law_18 hd _ _ _ _ _ _ _ _ _ (jg1_ne rfl (jg1_ne rfl (jg1_pre (by first | rfl | exact rv_cat _) hl0))) (jg1_ne rfl (jg1_pre (by first | rfl | exact rv_cat _) jg1_same)) (jg1_pre (by first | rfl | exact rv_cat _) jg1_same) jg1_same h
set_option maxRecDepth 10000 in
set_option maxHeartbeats 4000000 in
theorem r_L_law {N M B : Nat} {SA : Nat → Nat} {d : Nat} (hd : M + 8 ≤ d) : ∀ (v0 : Option Nat) (μ : JMem) (r : Bool) (μ9 : JMem), g_L_law N M B SA v0 μ = some (r, μ9) → jR B SA d m_L_law 0 (lv_args 0 [rv v0]) [] μ (some (.int (jb r))) μ9 := by
  intro v0 μ r μ9 h
  exact r_L_law_e hd (lv_args 0 _) _ _ _ _ (by simp [lv_args, jget, rv_cat, cat_int, cat_long, cat_double, cat_float, cat_ref]) h
