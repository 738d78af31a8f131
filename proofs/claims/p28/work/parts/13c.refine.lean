/-! the machine refines the functions (printed by wip/p28/dec.py) -/
/-! FilterBench$Section.turned(J)J -/
set_option maxRecDepth 10000 in
set_option maxHeartbeats 4000000 in
theorem r_Section_turned_e {B : Nat} {SA : Nat → Nat} {d : Nat} (hd : 4 ≤ d) : ∀ (L : JLoc) (v0 : Nat) (v1 : Int64) (μ : JMem) (r : Int64) (μ9 : JMem), jget L 0 = .ref v0 → jget L 1 = .long v1 → g_Section_turned B v0 v1 μ = some (r, μ9) → jR B SA d m_Section_turned 0 L [] μ (some (.long r)) μ9 := by
  intro L v0 v1 μ r μ9 hl0 hl1 h
  unfold g_Section_turned at h
  refine jr_aload_n jf_86_0 rfl hl0 ?_
  refine jr_aload_n jf_86_1 rfl hl0 ?_
  replace h := obd_of h; obtain ⟨x1, hx1, h⟩ := h
  refine jr_getA jf_86_2 hx1 ?_
  refine jr_aload_n jf_86_5 rfl hl0 ?_
  refine jr_iconst jf_86_6 jc_i_0 ?_
  refine jr_lload_n jf_86_7 rfl hl1 ?_
  replace h := jgd_of h; obtain ⟨hb2, h⟩ := h
  replace h := obd_of h; obtain ⟨x3, hx3, h⟩ := h
  refine jr_V6_2 jf_86_8 hb2 (by omega) (r_Section_times (by omega) _ _ _ _ _ hx3) (by simp only [jcats_cons, jcats_nil, cat_int, cat_long, cat_double, cat_float, cat_ref, rv_cat]; decide) jml_78 (Nat.le_of_ble_eq_true rfl) ?_
  refine jr_aload_n jf_86_11 rfl hl0 ?_
  replace h := obd_of h; obtain ⟨x4, hx4, h⟩ := h
  refine jr_getA jf_86_12 hx4 ?_
  refine jr_aload_n jf_86_15 rfl hl0 ?_
  replace h := obd_of h; obtain ⟨x5, hx5, h⟩ := h
  refine jr_getA jf_86_16 hx5 ?_
  refine jr_iconst jf_86_19 jc_i_0 ?_
  replace h := obd_of h; obtain ⟨a6, rfl, h⟩ := h
  replace h := jgd_of h; obtain ⟨hb7, h⟩ := h
  replace h := obd_of h; obtain ⟨x8, hx8, h⟩ := h
  refine jr_V6_1 jf_86_20 hb7 (by omega) (r_Row_at (by omega) _ _ _ _ hx8) (by simp only [jcats_cons, jcats_nil, cat_int, cat_long, cat_double, cat_float, cat_ref, rv_cat]; decide) jml_23 (Nat.le_of_ble_eq_true rfl) ?_
  replace h := obd_of h; obtain ⟨a9, rfl, h⟩ := h
  replace h := obd_of h; obtain ⟨x10, hx10, h⟩ := h
  rcases ite_or hx10 with ⟨hb, hx⟩ | ⟨hb0, hx⟩
  · obtain hx := Option.some.inj hx
    refine jr_V8a_1 jf_86_23 hb (by omega) (r_Real_term (by omega) _ _ _ _ hx) (by simp only [jcats_cons, jcats_nil, cat_int, cat_long, cat_double, cat_float, cat_ref, rv_cat]; decide) jml_63 (Nat.le_of_ble_eq_true rfl) ?_
    replace h := obd_of h; obtain ⟨a11, rfl, h⟩ := h
    replace h := obd_of h; obtain ⟨x12, hx12, h⟩ := h
    rcases ite_or hx12 with ⟨hb, hx⟩ | ⟨hb0, hx⟩
    · refine jr_V8a_2 jf_86_26 hb (by omega) (r_Real_plus (by omega) _ _ _ _ _ hx) (Nat.le_of_ble_eq_true rfl) jml_65 (Nat.le_of_ble_eq_true rfl) ?_
      replace h := jgd_of h; obtain ⟨hb13, h⟩ := h
      replace h := jbd2_of h; obtain ⟨x14, μ15, hx14, h⟩ := h
      refine jr_V6_1 jf_86_29 hb13 (by omega) (r_Section_settled (by omega) _ _ _ _ _ hx14) (Nat.le_of_ble_eq_true rfl) jml_70 (Nat.le_of_ble_eq_true rfl) ?_
      refine jr_lstore_n jf_86_32 rfl jml_86 (by decide) ?_
      refine jr_aload_n jf_86_33 rfl (jg2_ne rfl hl0) ?_
      replace h := obd_of h; obtain ⟨x16, hx16, h⟩ := h
      refine jr_getA jf_86_34 hx16 ?_
      refine jr_aload_n jf_86_37 rfl (jg2_ne rfl hl0) ?_
      refine jr_iconst jf_86_38 jc_i_1 ?_
      refine jr_lload_n jf_86_39 rfl (jg2_ne rfl hl1) ?_
      replace h := jgd_of h; obtain ⟨hb17, h⟩ := h
      replace h := obd_of h; obtain ⟨x18, hx18, h⟩ := h
      refine jr_V6_2 jf_86_40 hb17 (by omega) (r_Section_times (by omega) _ _ _ _ _ hx18) (by simp only [jcats_cons, jcats_nil, cat_int, cat_long, cat_double, cat_float, cat_ref, rv_cat]; decide) jml_78 (Nat.le_of_ble_eq_true rfl) ?_
      refine jr_aload_n jf_86_43 rfl (jg2_ne rfl hl0) ?_
      refine jr_iconst jf_86_44 jc_i_3 ?_
      refine jr_lload_n jf_86_45 rfl jg2_same ?_
      replace h := jgd_of h; obtain ⟨hb19, h⟩ := h
      replace h := obd_of h; obtain ⟨x20, hx20, h⟩ := h
      refine jr_V6_2 jf_86_46 hb19 (by omega) (r_Section_lessTimes (by omega) _ _ _ _ _ hx20) (by simp only [jcats_cons, jcats_nil, cat_int, cat_long, cat_double, cat_float, cat_ref, rv_cat]; decide) jml_81 (Nat.le_of_ble_eq_true rfl) ?_
      replace h := obd_of h; obtain ⟨a21, rfl, h⟩ := h
      replace h := obd_of h; obtain ⟨x22, hx22, h⟩ := h
      rcases ite_or hx22 with ⟨hb, hx⟩ | ⟨hb0, hx⟩
      · refine jr_V8a_2 jf_86_49 hb (by omega) (r_Real_plus (by omega) _ _ _ _ _ hx) (Nat.le_of_ble_eq_true rfl) jml_65 (Nat.le_of_ble_eq_true rfl) ?_
        refine jr_lstore jf_86_52 jml_86 (by decide) ?_
        refine jr_aload_n jf_86_54 rfl (jg2_ne rfl (jg2_ne rfl hl0)) ?_
        replace h := obd_of h; obtain ⟨x23, hx23, h⟩ := h
        refine jr_getA jf_86_55 hx23 ?_
        refine jr_iconst jf_86_58 jc_i_0 ?_
        refine jr_aload_n jf_86_59 rfl (jg2_ne rfl (jg2_ne rfl hl0)) ?_
        refine jr_aload_n jf_86_60 rfl (jg2_ne rfl (jg2_ne rfl hl0)) ?_
        replace h := obd_of h; obtain ⟨x24, hx24, h⟩ := h
        refine jr_getA jf_86_61 hx24 ?_
        refine jr_lload jf_86_64 jg2_same ?_
        refine jr_aload_n jf_86_66 rfl (jg2_ne rfl (jg2_ne rfl hl0)) ?_
        replace h := obd_of h; obtain ⟨x25, hx25, h⟩ := h
        refine jr_getA jf_86_67 hx25 ?_
        refine jr_aload_n jf_86_70 rfl (jg2_ne rfl (jg2_ne rfl hl0)) ?_
        replace h := obd_of h; obtain ⟨x26, hx26, h⟩ := h
        refine jr_getA jf_86_71 hx26 ?_
        refine jr_iconst jf_86_74 jc_i_1 ?_
        replace h := obd_of h; obtain ⟨a27, rfl, h⟩ := h
        replace h := jgd_of h; obtain ⟨hb28, h⟩ := h
        replace h := obd_of h; obtain ⟨x29, hx29, h⟩ := h
        refine jr_V6_1 jf_86_75 hb28 (by omega) (r_Row_at (by omega) _ _ _ _ hx29) (by simp only [jcats_cons, jcats_nil, cat_int, cat_long, cat_double, cat_float, cat_ref, rv_cat]; decide) jml_23 (Nat.le_of_ble_eq_true rfl) ?_
        replace h := obd_of h; obtain ⟨a30, rfl, h⟩ := h
        replace h := obd_of h; obtain ⟨x31, hx31, h⟩ := h
        rcases ite_or hx31 with ⟨hb, hx⟩ | ⟨hb0, hx⟩
        · obtain hx := Option.some.inj hx
          refine jr_V8a_1 jf_86_78 hb (by omega) (r_Real_term (by omega) _ _ _ _ hx) (by simp only [jcats_cons, jcats_nil, cat_int, cat_long, cat_double, cat_float, cat_ref, rv_cat]; decide) jml_63 (Nat.le_of_ble_eq_true rfl) ?_
          replace h := obd_of h; obtain ⟨a32, rfl, h⟩ := h
          replace h := obd_of h; obtain ⟨x33, hx33, h⟩ := h
          rcases ite_or hx33 with ⟨hb, hx⟩ | ⟨hb0, hx⟩
          · refine jr_V8a_2 jf_86_81 hb (by omega) (r_Real_plus (by omega) _ _ _ _ _ hx) (by simp only [jcats_cons, jcats_nil, cat_int, cat_long, cat_double, cat_float, cat_ref, rv_cat]; decide) jml_65 (Nat.le_of_ble_eq_true rfl) ?_
            replace h := jgd_of h; obtain ⟨hb34, h⟩ := h
            replace h := jbd2_of h; obtain ⟨x35, μ36, hx35, h⟩ := h
            refine jr_V6_1 jf_86_84 hb34 (by omega) (r_Section_settled (by omega) _ _ _ _ _ hx35) (by simp only [jcats_cons, jcats_nil, cat_int, cat_long, cat_double, cat_float, cat_ref, rv_cat]; decide) jml_70 (Nat.le_of_ble_eq_true rfl) ?_
            replace h := obd_of h; obtain ⟨a37, rfl, h⟩ := h
            replace h := jgd_of h; obtain ⟨hb38, h⟩ := h
            replace h := obd_of h; obtain ⟨μ39, hμ39, h⟩ := h
            refine jr_V6v_2 jf_86_87 hb38 (by omega) (r_Row_put (by omega) _ _ _ _ _ hμ39) (Nat.le_of_ble_eq_true rfl) jml_50 (Nat.le_of_ble_eq_true rfl) ?_
            refine jr_aload_n jf_86_90 rfl (jg2_ne rfl (jg2_ne rfl hl0)) ?_
            replace h := obd_of h; obtain ⟨x40, hx40, h⟩ := h
            refine jr_getA jf_86_91 hx40 ?_
            refine jr_iconst jf_86_94 jc_i_1 ?_
            refine jr_aload_n jf_86_95 rfl (jg2_ne rfl (jg2_ne rfl hl0)) ?_
            refine jr_aload_n jf_86_96 rfl (jg2_ne rfl (jg2_ne rfl hl0)) ?_
            replace h := obd_of h; obtain ⟨x41, hx41, h⟩ := h
            refine jr_getA jf_86_97 hx41 ?_
            refine jr_aload_n jf_86_100 rfl (jg2_ne rfl (jg2_ne rfl hl0)) ?_
            refine jr_iconst jf_86_101 jc_i_2 ?_
            refine jr_lload_n jf_86_102 rfl (jg2_ne rfl (jg2_ne rfl hl1)) ?_
            replace h := jgd_of h; obtain ⟨hb42, h⟩ := h
            replace h := obd_of h; obtain ⟨x43, hx43, h⟩ := h
            refine jr_V6_2 jf_86_103 hb42 (by omega) (r_Section_times (by omega) _ _ _ _ _ hx43) (by simp only [jcats_cons, jcats_nil, cat_int, cat_long, cat_double, cat_float, cat_ref, rv_cat]; decide) jml_78 (Nat.le_of_ble_eq_true rfl) ?_
            refine jr_aload_n jf_86_106 rfl (jg2_ne rfl (jg2_ne rfl hl0)) ?_
            refine jr_iconst jf_86_107 jc_i_4 ?_
            refine jr_lload_n jf_86_108 rfl (jg2_ne rfl jg2_same) ?_
            replace h := jgd_of h; obtain ⟨hb44, h⟩ := h
            replace h := obd_of h; obtain ⟨x45, hx45, h⟩ := h
            refine jr_V6_2 jf_86_109 hb44 (by omega) (r_Section_lessTimes (by omega) _ _ _ _ _ hx45) (by simp only [jcats_cons, jcats_nil, cat_int, cat_long, cat_double, cat_float, cat_ref, rv_cat]; decide) jml_81 (Nat.le_of_ble_eq_true rfl) ?_
            replace h := obd_of h; obtain ⟨a46, rfl, h⟩ := h
            replace h := obd_of h; obtain ⟨x47, hx47, h⟩ := h
            rcases ite_or hx47 with ⟨hb, hx⟩ | ⟨hb0, hx⟩
            · refine jr_V8a_2 jf_86_112 hb (by omega) (r_Real_plus (by omega) _ _ _ _ _ hx) (by simp only [jcats_cons, jcats_nil, cat_int, cat_long, cat_double, cat_float, cat_ref, rv_cat]; decide) jml_65 (Nat.le_of_ble_eq_true rfl) ?_
              replace h := jgd_of h; obtain ⟨hb48, h⟩ := h
              replace h := jbd2_of h; obtain ⟨x49, μ50, hx49, h⟩ := h
              refine jr_V6_1 jf_86_115 hb48 (by omega) (r_Section_settled (by omega) _ _ _ _ _ hx49) (by simp only [jcats_cons, jcats_nil, cat_int, cat_long, cat_double, cat_float, cat_ref, rv_cat]; decide) jml_70 (Nat.le_of_ble_eq_true rfl) ?_
              replace h := obd_of h; obtain ⟨a51, rfl, h⟩ := h
              replace h := jgd_of h; obtain ⟨hb52, h⟩ := h
              replace h := obd_of h; obtain ⟨μ53, hμ53, h⟩ := h
              refine jr_V6v_2 jf_86_118 hb52 (by omega) (r_Row_put (by omega) _ _ _ _ _ hμ53) (Nat.le_of_ble_eq_true rfl) jml_50 (Nat.le_of_ble_eq_true rfl) ?_
              refine jr_lload_n jf_86_121 rfl (jg2_ne rfl jg2_same) ?_
              obtain ⟨rfl, rfl⟩ := Prod.mk.inj (Option.some.inj h)
              exact jr_retJ jf_86_122 jmt_86
            · obtain ⟨hb, hx⟩ := jgd_of hx
              obtain hx := Option.some.inj hx
              refine jr_V8b_2 jf_86_112 hb0 hb (by omega) (r_Shorts_plus (by omega) _ _ _ _ _ hx) (by simp only [jcats_cons, jcats_nil, cat_int, cat_long, cat_double, cat_float, cat_ref, rv_cat]; decide) jml_69 (Nat.le_of_ble_eq_true rfl) ?_
              replace h := jgd_of h; obtain ⟨hb48, h⟩ := h
              replace h := jbd2_of h; obtain ⟨x49, μ50, hx49, h⟩ := h
              refine jr_V6_1 jf_86_115 hb48 (by omega) (r_Section_settled (by omega) _ _ _ _ _ hx49) (by simp only [jcats_cons, jcats_nil, cat_int, cat_long, cat_double, cat_float, cat_ref, rv_cat]; decide) jml_70 (Nat.le_of_ble_eq_true rfl) ?_
              replace h := obd_of h; obtain ⟨a51, rfl, h⟩ := h
              replace h := jgd_of h; obtain ⟨hb52, h⟩ := h
              replace h := obd_of h; obtain ⟨μ53, hμ53, h⟩ := h
              refine jr_V6v_2 jf_86_118 hb52 (by omega) (r_Row_put (by omega) _ _ _ _ _ hμ53) (Nat.le_of_ble_eq_true rfl) jml_50 (Nat.le_of_ble_eq_true rfl) ?_
              refine jr_lload_n jf_86_121 rfl (jg2_ne rfl jg2_same) ?_
              obtain ⟨rfl, rfl⟩ := Prod.mk.inj (Option.some.inj h)
              exact jr_retJ jf_86_122 jmt_86
          · obtain ⟨hb, hx⟩ := jgd_of hx
            obtain hx := Option.some.inj hx
            refine jr_V8b_2 jf_86_81 hb0 hb (by omega) (r_Shorts_plus (by omega) _ _ _ _ _ hx) (by simp only [jcats_cons, jcats_nil, cat_int, cat_long, cat_double, cat_float, cat_ref, rv_cat]; decide) jml_69 (Nat.le_of_ble_eq_true rfl) ?_
            replace h := jgd_of h; obtain ⟨hb34, h⟩ := h
            replace h := jbd2_of h; obtain ⟨x35, μ36, hx35, h⟩ := h
            refine jr_V6_1 jf_86_84 hb34 (by omega) (r_Section_settled (by omega) _ _ _ _ _ hx35) (by simp only [jcats_cons, jcats_nil, cat_int, cat_long, cat_double, cat_float, cat_ref, rv_cat]; decide) jml_70 (Nat.le_of_ble_eq_true rfl) ?_
            replace h := obd_of h; obtain ⟨a37, rfl, h⟩ := h
            replace h := jgd_of h; obtain ⟨hb38, h⟩ := h
            replace h := obd_of h; obtain ⟨μ39, hμ39, h⟩ := h
            refine jr_V6v_2 jf_86_87 hb38 (by omega) (r_Row_put (by omega) _ _ _ _ _ hμ39) (Nat.le_of_ble_eq_true rfl) jml_50 (Nat.le_of_ble_eq_true rfl) ?_
            refine jr_aload_n jf_86_90 rfl (jg2_ne rfl (jg2_ne rfl hl0)) ?_
            replace h := obd_of h; obtain ⟨x40, hx40, h⟩ := h
            refine jr_getA jf_86_91 hx40 ?_
            refine jr_iconst jf_86_94 jc_i_1 ?_
            refine jr_aload_n jf_86_95 rfl (jg2_ne rfl (jg2_ne rfl hl0)) ?_
            refine jr_aload_n jf_86_96 rfl (jg2_ne rfl (jg2_ne rfl hl0)) ?_
            replace h := obd_of h; obtain ⟨x41, hx41, h⟩ := h
            refine jr_getA jf_86_97 hx41 ?_
            refine jr_aload_n jf_86_100 rfl (jg2_ne rfl (jg2_ne rfl hl0)) ?_
            refine jr_iconst jf_86_101 jc_i_2 ?_
            refine jr_lload_n jf_86_102 rfl (jg2_ne rfl (jg2_ne rfl hl1)) ?_
            replace h := jgd_of h; obtain ⟨hb42, h⟩ := h
            replace h := obd_of h; obtain ⟨x43, hx43, h⟩ := h
            refine jr_V6_2 jf_86_103 hb42 (by omega) (r_Section_times (by omega) _ _ _ _ _ hx43) (by simp only [jcats_cons, jcats_nil, cat_int, cat_long, cat_double, cat_float, cat_ref, rv_cat]; decide) jml_78 (Nat.le_of_ble_eq_true rfl) ?_
            refine jr_aload_n jf_86_106 rfl (jg2_ne rfl (jg2_ne rfl hl0)) ?_
            refine jr_iconst jf_86_107 jc_i_4 ?_
            refine jr_lload_n jf_86_108 rfl (jg2_ne rfl jg2_same) ?_
            replace h := jgd_of h; obtain ⟨hb44, h⟩ := h
            replace h := obd_of h; obtain ⟨x45, hx45, h⟩ := h
            refine jr_V6_2 jf_86_109 hb44 (by omega) (r_Section_lessTimes (by omega) _ _ _ _ _ hx45) (by simp only [jcats_cons, jcats_nil, cat_int, cat_long, cat_double, cat_float, cat_ref, rv_cat]; decide) jml_81 (Nat.le_of_ble_eq_true rfl) ?_
            replace h := obd_of h; obtain ⟨a46, rfl, h⟩ := h
            replace h := obd_of h; obtain ⟨x47, hx47, h⟩ := h
            rcases ite_or hx47 with ⟨hb, hx⟩ | ⟨hb0, hx⟩
            · refine jr_V8a_2 jf_86_112 hb (by omega) (r_Real_plus (by omega) _ _ _ _ _ hx) (by simp only [jcats_cons, jcats_nil, cat_int, cat_long, cat_double, cat_float, cat_ref, rv_cat]; decide) jml_65 (Nat.le_of_ble_eq_true rfl) ?_
              replace h := jgd_of h; obtain ⟨hb48, h⟩ := h
              replace h := jbd2_of h; obtain ⟨x49, μ50, hx49, h⟩ := h
              refine jr_V6_1 jf_86_115 hb48 (by omega) (r_Section_settled (by omega) _ _ _ _ _ hx49) (by simp only [jcats_cons, jcats_nil, cat_int, cat_long, cat_double, cat_float, cat_ref, rv_cat]; decide) jml_70 (Nat.le_of_ble_eq_true rfl) ?_
              replace h := obd_of h; obtain ⟨a51, rfl, h⟩ := h
              replace h := jgd_of h; obtain ⟨hb52, h⟩ := h
              replace h := obd_of h; obtain ⟨μ53, hμ53, h⟩ := h
              refine jr_V6v_2 jf_86_118 hb52 (by omega) (r_Row_put (by omega) _ _ _ _ _ hμ53) (Nat.le_of_ble_eq_true rfl) jml_50 (Nat.le_of_ble_eq_true rfl) ?_
              refine jr_lload_n jf_86_121 rfl (jg2_ne rfl jg2_same) ?_
              obtain ⟨rfl, rfl⟩ := Prod.mk.inj (Option.some.inj h)
              exact jr_retJ jf_86_122 jmt_86
            · obtain ⟨hb, hx⟩ := jgd_of hx
              obtain hx := Option.some.inj hx
              refine jr_V8b_2 jf_86_112 hb0 hb (by omega) (r_Shorts_plus (by omega) _ _ _ _ _ hx) (by simp only [jcats_cons, jcats_nil, cat_int, cat_long, cat_double, cat_float, cat_ref, rv_cat]; decide) jml_69 (Nat.le_of_ble_eq_true rfl) ?_
              replace h := jgd_of h; obtain ⟨hb48, h⟩ := h
              replace h := jbd2_of h; obtain ⟨x49, μ50, hx49, h⟩ := h
              refine jr_V6_1 jf_86_115 hb48 (by omega) (r_Section_settled (by omega) _ _ _ _ _ hx49) (by simp only [jcats_cons, jcats_nil, cat_int, cat_long, cat_double, cat_float, cat_ref, rv_cat]; decide) jml_70 (Nat.le_of_ble_eq_true rfl) ?_
              replace h := obd_of h; obtain ⟨a51, rfl, h⟩ := h
              replace h := jgd_of h; obtain ⟨hb52, h⟩ := h
              replace h := obd_of h; obtain ⟨μ53, hμ53, h⟩ := h
              refine jr_V6v_2 jf_86_118 hb52 (by omega) (r_Row_put (by omega) _ _ _ _ _ hμ53) (Nat.le_of_ble_eq_true rfl) jml_50 (Nat.le_of_ble_eq_true rfl) ?_
              refine jr_lload_n jf_86_121 rfl (jg2_ne rfl jg2_same) ?_
              obtain ⟨rfl, rfl⟩ := Prod.mk.inj (Option.some.inj h)
              exact jr_retJ jf_86_122 jmt_86
        · obtain ⟨hb, hx⟩ := jgd_of hx
          obtain hx := Option.some.inj hx
          refine jr_V8b_1 jf_86_78 hb0 hb (by omega) (r_Shorts_term (by omega) _ _ _ _ hx) (by simp only [jcats_cons, jcats_nil, cat_int, cat_long, cat_double, cat_float, cat_ref, rv_cat]; decide) jml_64 (Nat.le_of_ble_eq_true rfl) ?_
          replace h := obd_of h; obtain ⟨a32, rfl, h⟩ := h
          replace h := obd_of h; obtain ⟨x33, hx33, h⟩ := h
          rcases ite_or hx33 with ⟨hb, hx⟩ | ⟨hb0, hx⟩
          · refine jr_V8a_2 jf_86_81 hb (by omega) (r_Real_plus (by omega) _ _ _ _ _ hx) (by simp only [jcats_cons, jcats_nil, cat_int, cat_long, cat_double, cat_float, cat_ref, rv_cat]; decide) jml_65 (Nat.le_of_ble_eq_true rfl) ?_
            replace h := jgd_of h; obtain ⟨hb34, h⟩ := h
            replace h := jbd2_of h; obtain ⟨x35, μ36, hx35, h⟩ := h
            refine jr_V6_1 jf_86_84 hb34 (by omega) (r_Section_settled (by omega) _ _ _ _ _ hx35) (by simp only [jcats_cons, jcats_nil, cat_int, cat_long, cat_double, cat_float, cat_ref, rv_cat]; decide) jml_70 (Nat.le_of_ble_eq_true rfl) ?_
            replace h := obd_of h; obtain ⟨a37, rfl, h⟩ := h
            replace h := jgd_of h; obtain ⟨hb38, h⟩ := h
            replace h := obd_of h; obtain ⟨μ39, hμ39, h⟩ := h
            refine jr_V6v_2 jf_86_87 hb38 (by omega) (r_Row_put (by omega) _ _ _ _ _ hμ39) (Nat.le_of_ble_eq_true rfl) jml_50 (Nat.le_of_ble_eq_true rfl) ?_
            refine jr_aload_n jf_86_90 rfl (jg2_ne rfl (jg2_ne rfl hl0)) ?_
            replace h := obd_of h; obtain ⟨x40, hx40, h⟩ := h
            refine jr_getA jf_86_91 hx40 ?_
            refine jr_iconst jf_86_94 jc_i_1 ?_
            refine jr_aload_n jf_86_95 rfl (jg2_ne rfl (jg2_ne rfl hl0)) ?_
            refine jr_aload_n jf_86_96 rfl (jg2_ne rfl (jg2_ne rfl hl0)) ?_
            replace h := obd_of h; obtain ⟨x41, hx41, h⟩ := h
            refine jr_getA jf_86_97 hx41 ?_
            refine jr_aload_n jf_86_100 rfl (jg2_ne rfl (jg2_ne rfl hl0)) ?_
            refine jr_iconst jf_86_101 jc_i_2 ?_
            refine jr_lload_n jf_86_102 rfl (jg2_ne rfl (jg2_ne rfl hl1)) ?_
            replace h := jgd_of h; obtain ⟨hb42, h⟩ := h
            replace h := obd_of h; obtain ⟨x43, hx43, h⟩ := h
            refine jr_V6_2 jf_86_103 hb42 (by omega) (r_Section_times (by omega) _ _ _ _ _ hx43) (by simp only [jcats_cons, jcats_nil, cat_int, cat_long, cat_double, cat_float, cat_ref, rv_cat]; decide) jml_78 (Nat.le_of_ble_eq_true rfl) ?_
            refine jr_aload_n jf_86_106 rfl (jg2_ne rfl (jg2_ne rfl hl0)) ?_
            refine jr_iconst jf_86_107 jc_i_4 ?_
            refine jr_lload_n jf_86_108 rfl (jg2_ne rfl jg2_same) ?_
            replace h := jgd_of h; obtain ⟨hb44, h⟩ := h
            replace h := obd_of h; obtain ⟨x45, hx45, h⟩ := h
            refine jr_V6_2 jf_86_109 hb44 (by omega) (r_Section_lessTimes (by omega) _ _ _ _ _ hx45) (by simp only [jcats_cons, jcats_nil, cat_int, cat_long, cat_double, cat_float, cat_ref, rv_cat]; decide) jml_81 (Nat.le_of_ble_eq_true rfl) ?_
            replace h := obd_of h; obtain ⟨a46, rfl, h⟩ := h
            replace h := obd_of h; obtain ⟨x47, hx47, h⟩ := h
            rcases ite_or hx47 with ⟨hb, hx⟩ | ⟨hb0, hx⟩
            · refine jr_V8a_2 jf_86_112 hb (by omega) (r_Real_plus (by omega) _ _ _ _ _ hx) (by simp only [jcats_cons, jcats_nil, cat_int, cat_long, cat_double, cat_float, cat_ref, rv_cat]; decide) jml_65 (Nat.le_of_ble_eq_true rfl) ?_
              replace h := jgd_of h; obtain ⟨hb48, h⟩ := h
              replace h := jbd2_of h; obtain ⟨x49, μ50, hx49, h⟩ := h
              refine jr_V6_1 jf_86_115 hb48 (by omega) (r_Section_settled (by omega) _ _ _ _ _ hx49) (by simp only [jcats_cons, jcats_nil, cat_int, cat_long, cat_double, cat_float, cat_ref, rv_cat]; decide) jml_70 (Nat.le_of_ble_eq_true rfl) ?_
              replace h := obd_of h; obtain ⟨a51, rfl, h⟩ := h
              replace h := jgd_of h; obtain ⟨hb52, h⟩ := h
              replace h := obd_of h; obtain ⟨μ53, hμ53, h⟩ := h
              refine jr_V6v_2 jf_86_118 hb52 (by omega) (r_Row_put (by omega) _ _ _ _ _ hμ53) (Nat.le_of_ble_eq_true rfl) jml_50 (Nat.le_of_ble_eq_true rfl) ?_
              refine jr_lload_n jf_86_121 rfl (jg2_ne rfl jg2_same) ?_
              obtain ⟨rfl, rfl⟩ := Prod.mk.inj (Option.some.inj h)
              exact jr_retJ jf_86_122 jmt_86
            · obtain ⟨hb, hx⟩ := jgd_of hx
              obtain hx := Option.some.inj hx
              refine jr_V8b_2 jf_86_112 hb0 hb (by omega) (r_Shorts_plus (by omega) _ _ _ _ _ hx) (by simp only [jcats_cons, jcats_nil, cat_int, cat_long, cat_double, cat_float, cat_ref, rv_cat]; decide) jml_69 (Nat.le_of_ble_eq_true rfl) ?_
              replace h := jgd_of h; obtain ⟨hb48, h⟩ := h
              replace h := jbd2_of h; obtain ⟨x49, μ50, hx49, h⟩ := h
              refine jr_V6_1 jf_86_115 hb48 (by omega) (r_Section_settled (by omega) _ _ _ _ _ hx49) (by simp only [jcats_cons, jcats_nil, cat_int, cat_long, cat_double, cat_float, cat_ref, rv_cat]; decide) jml_70 (Nat.le_of_ble_eq_true rfl) ?_
              replace h := obd_of h; obtain ⟨a51, rfl, h⟩ := h
              replace h := jgd_of h; obtain ⟨hb52, h⟩ := h
              replace h := obd_of h; obtain ⟨μ53, hμ53, h⟩ := h
              refine jr_V6v_2 jf_86_118 hb52 (by omega) (r_Row_put (by omega) _ _ _ _ _ hμ53) (Nat.le_of_ble_eq_true rfl) jml_50 (Nat.le_of_ble_eq_true rfl) ?_
              refine jr_lload_n jf_86_121 rfl (jg2_ne rfl jg2_same) ?_
              obtain ⟨rfl, rfl⟩ := Prod.mk.inj (Option.some.inj h)
              exact jr_retJ jf_86_122 jmt_86
          · obtain ⟨hb, hx⟩ := jgd_of hx
            obtain hx := Option.some.inj hx
            refine jr_V8b_2 jf_86_81 hb0 hb (by omega) (r_Shorts_plus (by omega) _ _ _ _ _ hx) (by simp only [jcats_cons, jcats_nil, cat_int, cat_long, cat_double, cat_float, cat_ref, rv_cat]; decide) jml_69 (Nat.le_of_ble_eq_true rfl) ?_
            replace h := jgd_of h; obtain ⟨hb34, h⟩ := h
            replace h := jbd2_of h; obtain ⟨x35, μ36, hx35, h⟩ := h
            refine jr_V6_1 jf_86_84 hb34 (by omega) (r_Section_settled (by omega) _ _ _ _ _ hx35) (by simp only [jcats_cons, jcats_nil, cat_int, cat_long, cat_double, cat_float, cat_ref, rv_cat]; decide) jml_70 (Nat.le_of_ble_eq_true rfl) ?_
            replace h := obd_of h; obtain ⟨a37, rfl, h⟩ := h
            replace h := jgd_of h; obtain ⟨hb38, h⟩ := h
            replace h := obd_of h; obtain ⟨μ39, hμ39, h⟩ := h
            refine jr_V6v_2 jf_86_87 hb38 (by omega) (r_Row_put (by omega) _ _ _ _ _ hμ39) (Nat.le_of_ble_eq_true rfl) jml_50 (Nat.le_of_ble_eq_true rfl) ?_
            refine jr_aload_n jf_86_90 rfl (jg2_ne rfl (jg2_ne rfl hl0)) ?_
            replace h := obd_of h; obtain ⟨x40, hx40, h⟩ := h
            refine jr_getA jf_86_91 hx40 ?_
            refine jr_iconst jf_86_94 jc_i_1 ?_
            refine jr_aload_n jf_86_95 rfl (jg2_ne rfl (jg2_ne rfl hl0)) ?_
            refine jr_aload_n jf_86_96 rfl (jg2_ne rfl (jg2_ne rfl hl0)) ?_
            replace h := obd_of h; obtain ⟨x41, hx41, h⟩ := h
            refine jr_getA jf_86_97 hx41 ?_
            refine jr_aload_n jf_86_100 rfl (jg2_ne rfl (jg2_ne rfl hl0)) ?_
            refine jr_iconst jf_86_101 jc_i_2 ?_
            refine jr_lload_n jf_86_102 rfl (jg2_ne rfl (jg2_ne rfl hl1)) ?_
            replace h := jgd_of h; obtain ⟨hb42, h⟩ := h
            replace h := obd_of h; obtain ⟨x43, hx43, h⟩ := h
            refine jr_V6_2 jf_86_103 hb42 (by omega) (r_Section_times (by omega) _ _ _ _ _ hx43) (by simp only [jcats_cons, jcats_nil, cat_int, cat_long, cat_double, cat_float, cat_ref, rv_cat]; decide) jml_78 (Nat.le_of_ble_eq_true rfl) ?_
            refine jr_aload_n jf_86_106 rfl (jg2_ne rfl (jg2_ne rfl hl0)) ?_
            refine jr_iconst jf_86_107 jc_i_4 ?_
            refine jr_lload_n jf_86_108 rfl (jg2_ne rfl jg2_same) ?_
            replace h := jgd_of h; obtain ⟨hb44, h⟩ := h
            replace h := obd_of h; obtain ⟨x45, hx45, h⟩ := h
            refine jr_V6_2 jf_86_109 hb44 (by omega) (r_Section_lessTimes (by omega) _ _ _ _ _ hx45) (by simp only [jcats_cons, jcats_nil, cat_int, cat_long, cat_double, cat_float, cat_ref, rv_cat]; decide) jml_81 (Nat.le_of_ble_eq_true rfl) ?_
            replace h := obd_of h; obtain ⟨a46, rfl, h⟩ := h
            replace h := obd_of h; obtain ⟨x47, hx47, h⟩ := h
            rcases ite_or hx47 with ⟨hb, hx⟩ | ⟨hb0, hx⟩
            · refine jr_V8a_2 jf_86_112 hb (by omega) (r_Real_plus (by omega) _ _ _ _ _ hx) (by simp only [jcats_cons, jcats_nil, cat_int, cat_long, cat_double, cat_float, cat_ref, rv_cat]; decide) jml_65 (Nat.le_of_ble_eq_true rfl) ?_
              replace h := jgd_of h; obtain ⟨hb48, h⟩ := h
              replace h := jbd2_of h; obtain ⟨x49, μ50, hx49, h⟩ := h
              refine jr_V6_1 jf_86_115 hb48 (by omega) (r_Section_settled (by omega) _ _ _ _ _ hx49) (by simp only [jcats_cons, jcats_nil, cat_int, cat_long, cat_double, cat_float, cat_ref, rv_cat]; decide) jml_70 (Nat.le_of_ble_eq_true rfl) ?_
              replace h := obd_of h; obtain ⟨a51, rfl, h⟩ := h
              replace h := jgd_of h; obtain ⟨hb52, h⟩ := h
              replace h := obd_of h; obtain ⟨μ53, hμ53, h⟩ := h
              refine jr_V6v_2 jf_86_118 hb52 (by omega) (r_Row_put (by omega) _ _ _ _ _ hμ53) (Nat.le_of_ble_eq_true rfl) jml_50 (Nat.le_of_ble_eq_true rfl) ?_
              refine jr_lload_n jf_86_121 rfl (jg2_ne rfl jg2_same) ?_
              obtain ⟨rfl, rfl⟩ := Prod.mk.inj (Option.some.inj h)
              exact jr_retJ jf_86_122 jmt_86
            · obtain ⟨hb, hx⟩ := jgd_of hx
              obtain hx := Option.some.inj hx
              refine jr_V8b_2 jf_86_112 hb0 hb (by omega) (r_Shorts_plus (by omega) _ _ _ _ _ hx) (by simp only [jcats_cons, jcats_nil, cat_int, cat_long, cat_double, cat_float, cat_ref, rv_cat]; decide) jml_69 (Nat.le_of_ble_eq_true rfl) ?_
              replace h := jgd_of h; obtain ⟨hb48, h⟩ := h
              replace h := jbd2_of h; obtain ⟨x49, μ50, hx49, h⟩ := h
              refine jr_V6_1 jf_86_115 hb48 (by omega) (r_Section_settled (by omega) _ _ _ _ _ hx49) (by simp only [jcats_cons, jcats_nil, cat_int, cat_long, cat_double, cat_float, cat_ref, rv_cat]; decide) jml_70 (Nat.le_of_ble_eq_true rfl) ?_
              replace h := obd_of h; obtain ⟨a51, rfl, h⟩ := h
              replace h := jgd_of h; obtain ⟨hb52, h⟩ := h
              replace h := obd_of h; obtain ⟨μ53, hμ53, h⟩ := h
              refine jr_V6v_2 jf_86_118 hb52 (by omega) (r_Row_put (by omega) _ _ _ _ _ hμ53) (Nat.le_of_ble_eq_true rfl) jml_50 (Nat.le_of_ble_eq_true rfl) ?_
              refine jr_lload_n jf_86_121 rfl (jg2_ne rfl jg2_same) ?_
              obtain ⟨rfl, rfl⟩ := Prod.mk.inj (Option.some.inj h)
              exact jr_retJ jf_86_122 jmt_86
      · obtain ⟨hb, hx⟩ := jgd_of hx
        obtain hx := Option.some.inj hx
        refine jr_V8b_2 jf_86_49 hb0 hb (by omega) (r_Shorts_plus (by omega) _ _ _ _ _ hx) (Nat.le_of_ble_eq_true rfl) jml_69 (Nat.le_of_ble_eq_true rfl) ?_
        refine jr_lstore jf_86_52 jml_86 (by decide) ?_
        refine jr_aload_n jf_86_54 rfl (jg2_ne rfl (jg2_ne rfl hl0)) ?_
        replace h := obd_of h; obtain ⟨x23, hx23, h⟩ := h
        refine jr_getA jf_86_55 hx23 ?_
        refine jr_iconst jf_86_58 jc_i_0 ?_
        refine jr_aload_n jf_86_59 rfl (jg2_ne rfl (jg2_ne rfl hl0)) ?_
        refine jr_aload_n jf_86_60 rfl (jg2_ne rfl (jg2_ne rfl hl0)) ?_
        replace h := obd_of h; obtain ⟨x24, hx24, h⟩ := h
        refine jr_getA jf_86_61 hx24 ?_
        refine jr_lload jf_86_64 jg2_same ?_
        refine jr_aload_n jf_86_66 rfl (jg2_ne rfl (jg2_ne rfl hl0)) ?_
        replace h := obd_of h; obtain ⟨x25, hx25, h⟩ := h
        refine jr_getA jf_86_67 hx25 ?_
        refine jr_aload_n jf_86_70 rfl (jg2_ne rfl (jg2_ne rfl hl0)) ?_
        replace h := obd_of h; obtain ⟨x26, hx26, h⟩ := h
        refine jr_getA jf_86_71 hx26 ?_
        refine jr_iconst jf_86_74 jc_i_1 ?_
        replace h := obd_of h; obtain ⟨a27, rfl, h⟩ := h
        replace h := jgd_of h; obtain ⟨hb28, h⟩ := h
        replace h := obd_of h; obtain ⟨x29, hx29, h⟩ := h
        refine jr_V6_1 jf_86_75 hb28 (by omega) (r_Row_at (by omega) _ _ _ _ hx29) (by simp only [jcats_cons, jcats_nil, cat_int, cat_long, cat_double, cat_float, cat_ref, rv_cat]; decide) jml_23 (Nat.le_of_ble_eq_true rfl) ?_
        replace h := obd_of h; obtain ⟨a30, rfl, h⟩ := h
        replace h := obd_of h; obtain ⟨x31, hx31, h⟩ := h
        rcases ite_or hx31 with ⟨hb, hx⟩ | ⟨hb0, hx⟩
        · obtain hx := Option.some.inj hx
          refine jr_V8a_1 jf_86_78 hb (by omega) (r_Real_term (by omega) _ _ _ _ hx) (by simp only [jcats_cons, jcats_nil, cat_int, cat_long, cat_double, cat_float, cat_ref, rv_cat]; decide) jml_63 (Nat.le_of_ble_eq_true rfl) ?_
          replace h := obd_of h; obtain ⟨a32, rfl, h⟩ := h
          replace h := obd_of h; obtain ⟨x33, hx33, h⟩ := h
          rcases ite_or hx33 with ⟨hb, hx⟩ | ⟨hb0, hx⟩
          · refine jr_V8a_2 jf_86_81 hb (by omega) (r_Real_plus (by omega) _ _ _ _ _ hx) (by simp only [jcats_cons, jcats_nil, cat_int, cat_long, cat_double, cat_float, cat_ref, rv_cat]; decide) jml_65 (Nat.le_of_ble_eq_true rfl) ?_
            replace h := jgd_of h; obtain ⟨hb34, h⟩ := h
            replace h := jbd2_of h; obtain ⟨x35, μ36, hx35, h⟩ := h
            refine jr_V6_1 jf_86_84 hb34 (by omega) (r_Section_settled (by omega) _ _ _ _ _ hx35) (by simp only [jcats_cons, jcats_nil, cat_int, cat_long, cat_double, cat_float, cat_ref, rv_cat]; decide) jml_70 (Nat.le_of_ble_eq_true rfl) ?_
            replace h := obd_of h; obtain ⟨a37, rfl, h⟩ := h
            replace h := jgd_of h; obtain ⟨hb38, h⟩ := h
            replace h := obd_of h; obtain ⟨μ39, hμ39, h⟩ := h
            refine jr_V6v_2 jf_86_87 hb38 (by omega) (r_Row_put (by omega) _ _ _ _ _ hμ39) (Nat.le_of_ble_eq_true rfl) jml_50 (Nat.le_of_ble_eq_true rfl) ?_
            refine jr_aload_n jf_86_90 rfl (jg2_ne rfl (jg2_ne rfl hl0)) ?_
            replace h := obd_of h; obtain ⟨x40, hx40, h⟩ := h
            refine jr_getA jf_86_91 hx40 ?_
            refine jr_iconst jf_86_94 jc_i_1 ?_
            refine jr_aload_n jf_86_95 rfl (jg2_ne rfl (jg2_ne rfl hl0)) ?_
            refine jr_aload_n jf_86_96 rfl (jg2_ne rfl (jg2_ne rfl hl0)) ?_
            replace h := obd_of h; obtain ⟨x41, hx41, h⟩ := h
            refine jr_getA jf_86_97 hx41 ?_
            refine jr_aload_n jf_86_100 rfl (jg2_ne rfl (jg2_ne rfl hl0)) ?_
            refine jr_iconst jf_86_101 jc_i_2 ?_
            refine jr_lload_n jf_86_102 rfl (jg2_ne rfl (jg2_ne rfl hl1)) ?_
            replace h := jgd_of h; obtain ⟨hb42, h⟩ := h
            replace h := obd_of h; obtain ⟨x43, hx43, h⟩ := h
            refine jr_V6_2 jf_86_103 hb42 (by omega) (r_Section_times (by omega) _ _ _ _ _ hx43) (by simp only [jcats_cons, jcats_nil, cat_int, cat_long, cat_double, cat_float, cat_ref, rv_cat]; decide) jml_78 (Nat.le_of_ble_eq_true rfl) ?_
            refine jr_aload_n jf_86_106 rfl (jg2_ne rfl (jg2_ne rfl hl0)) ?_
            refine jr_iconst jf_86_107 jc_i_4 ?_
            refine jr_lload_n jf_86_108 rfl (jg2_ne rfl jg2_same) ?_
            replace h := jgd_of h; obtain ⟨hb44, h⟩ := h
            replace h := obd_of h; obtain ⟨x45, hx45, h⟩ := h
            refine jr_V6_2 jf_86_109 hb44 (by omega) (r_Section_lessTimes (by omega) _ _ _ _ _ hx45) (by simp only [jcats_cons, jcats_nil, cat_int, cat_long, cat_double, cat_float, cat_ref, rv_cat]; decide) jml_81 (Nat.le_of_ble_eq_true rfl) ?_
            replace h := obd_of h; obtain ⟨a46, rfl, h⟩ := h
            replace h := obd_of h; obtain ⟨x47, hx47, h⟩ := h
            rcases ite_or hx47 with ⟨hb, hx⟩ | ⟨hb0, hx⟩
            · refine jr_V8a_2 jf_86_112 hb (by omega) (r_Real_plus (by omega) _ _ _ _ _ hx) (by simp only [jcats_cons, jcats_nil, cat_int, cat_long, cat_double, cat_float, cat_ref, rv_cat]; decide) jml_65 (Nat.le_of_ble_eq_true rfl) ?_
              replace h := jgd_of h; obtain ⟨hb48, h⟩ := h
              replace h := jbd2_of h; obtain ⟨x49, μ50, hx49, h⟩ := h
              refine jr_V6_1 jf_86_115 hb48 (by omega) (r_Section_settled (by omega) _ _ _ _ _ hx49) (by simp only [jcats_cons, jcats_nil, cat_int, cat_long, cat_double, cat_float, cat_ref, rv_cat]; decide) jml_70 (Nat.le_of_ble_eq_true rfl) ?_
              replace h := obd_of h; obtain ⟨a51, rfl, h⟩ := h
              replace h := jgd_of h; obtain ⟨hb52, h⟩ := h
              replace h := obd_of h; obtain ⟨μ53, hμ53, h⟩ := h
              refine jr_V6v_2 jf_86_118 hb52 (by omega) (r_Row_put (by omega) _ _ _ _ _ hμ53) (Nat.le_of_ble_eq_true rfl) jml_50 (Nat.le_of_ble_eq_true rfl) ?_
              refine jr_lload_n jf_86_121 rfl (jg2_ne rfl jg2_same) ?_
              obtain ⟨rfl, rfl⟩ := Prod.mk.inj (Option.some.inj h)
              exact jr_retJ jf_86_122 jmt_86
            · obtain ⟨hb, hx⟩ := jgd_of hx
              obtain hx := Option.some.inj hx
              refine jr_V8b_2 jf_86_112 hb0 hb (by omega) (r_Shorts_plus (by omega) _ _ _ _ _ hx) (by simp only [jcats_cons, jcats_nil, cat_int, cat_long, cat_double, cat_float, cat_ref, rv_cat]; decide) jml_69 (Nat.le_of_ble_eq_true rfl) ?_
              replace h := jgd_of h; obtain ⟨hb48, h⟩ := h
              replace h := jbd2_of h; obtain ⟨x49, μ50, hx49, h⟩ := h
              refine jr_V6_1 jf_86_115 hb48 (by omega) (r_Section_settled (by omega) _ _ _ _ _ hx49) (by simp only [jcats_cons, jcats_nil, cat_int, cat_long, cat_double, cat_float, cat_ref, rv_cat]; decide) jml_70 (Nat.le_of_ble_eq_true rfl) ?_
              replace h := obd_of h; obtain ⟨a51, rfl, h⟩ := h
              replace h := jgd_of h; obtain ⟨hb52, h⟩ := h
              replace h := obd_of h; obtain ⟨μ53, hμ53, h⟩ := h
              refine jr_V6v_2 jf_86_118 hb52 (by omega) (r_Row_put (by omega) _ _ _ _ _ hμ53) (Nat.le_of_ble_eq_true rfl) jml_50 (Nat.le_of_ble_eq_true rfl) ?_
              refine jr_lload_n jf_86_121 rfl (jg2_ne rfl jg2_same) ?_
              obtain ⟨rfl, rfl⟩ := Prod.mk.inj (Option.some.inj h)
              exact jr_retJ jf_86_122 jmt_86
          · obtain ⟨hb, hx⟩ := jgd_of hx
            obtain hx := Option.some.inj hx
            refine jr_V8b_2 jf_86_81 hb0 hb (by omega) (r_Shorts_plus (by omega) _ _ _ _ _ hx) (by simp only [jcats_cons, jcats_nil, cat_int, cat_long, cat_double, cat_float, cat_ref, rv_cat]; decide) jml_69 (Nat.le_of_ble_eq_true rfl) ?_
            replace h := jgd_of h; obtain ⟨hb34, h⟩ := h
            replace h := jbd2_of h; obtain ⟨x35, μ36, hx35, h⟩ := h
            refine jr_V6_1 jf_86_84 hb34 (by omega) (r_Section_settled (by omega) _ _ _ _ _ hx35) (by simp only [jcats_cons, jcats_nil, cat_int, cat_long, cat_double, cat_float, cat_ref, rv_cat]; decide) jml_70 (Nat.le_of_ble_eq_true rfl) ?_
            replace h := obd_of h; obtain ⟨a37, rfl, h⟩ := h
            replace h := jgd_of h; obtain ⟨hb38, h⟩ := h
            replace h := obd_of h; obtain ⟨μ39, hμ39, h⟩ := h
            refine jr_V6v_2 jf_86_87 hb38 (by omega) (r_Row_put (by omega) _ _ _ _ _ hμ39) (Nat.le_of_ble_eq_true rfl) jml_50 (Nat.le_of_ble_eq_true rfl) ?_
            refine jr_aload_n jf_86_90 rfl (jg2_ne rfl (jg2_ne rfl hl0)) ?_
            replace h := obd_of h; obtain ⟨x40, hx40, h⟩ := h
            refine jr_getA jf_86_91 hx40 ?_
            refine jr_iconst jf_86_94 jc_i_1 ?_
            refine jr_aload_n jf_86_95 rfl (jg2_ne rfl (jg2_ne rfl hl0)) ?_
            refine jr_aload_n jf_86_96 rfl (jg2_ne rfl (jg2_ne rfl hl0)) ?_
            replace h := obd_of h; obtain ⟨x41, hx41, h⟩ := h
            refine jr_getA jf_86_97 hx41 ?_
            refine jr_aload_n jf_86_100 rfl (jg2_ne rfl (jg2_ne rfl hl0)) ?_
            refine jr_iconst jf_86_101 jc_i_2 ?_
            refine jr_lload_n jf_86_102 rfl (jg2_ne rfl (jg2_ne rfl hl1)) ?_
            replace h := jgd_of h; obtain ⟨hb42, h⟩ := h
            replace h := obd_of h; obtain ⟨x43, hx43, h⟩ := h
            refine jr_V6_2 jf_86_103 hb42 (by omega) (r_Section_times (by omega) _ _ _ _ _ hx43) (by simp only [jcats_cons, jcats_nil, cat_int, cat_long, cat_double, cat_float, cat_ref, rv_cat]; decide) jml_78 (Nat.le_of_ble_eq_true rfl) ?_
            refine jr_aload_n jf_86_106 rfl (jg2_ne rfl (jg2_ne rfl hl0)) ?_
            refine jr_iconst jf_86_107 jc_i_4 ?_
            refine jr_lload_n jf_86_108 rfl (jg2_ne rfl jg2_same) ?_
            replace h := jgd_of h; obtain ⟨hb44, h⟩ := h
            replace h := obd_of h; obtain ⟨x45, hx45, h⟩ := h
            refine jr_V6_2 jf_86_109 hb44 (by omega) (r_Section_lessTimes (by omega) _ _ _ _ _ hx45) (by simp only [jcats_cons, jcats_nil, cat_int, cat_long, cat_double, cat_float, cat_ref, rv_cat]; decide) jml_81 (Nat.le_of_ble_eq_true rfl) ?_
            replace h := obd_of h; obtain ⟨a46, rfl, h⟩ := h
            replace h := obd_of h; obtain ⟨x47, hx47, h⟩ := h
            rcases ite_or hx47 with ⟨hb, hx⟩ | ⟨hb0, hx⟩
            · refine jr_V8a_2 jf_86_112 hb (by omega) (r_Real_plus (by omega) _ _ _ _ _ hx) (by simp only [jcats_cons, jcats_nil, cat_int, cat_long, cat_double, cat_float, cat_ref, rv_cat]; decide) jml_65 (Nat.le_of_ble_eq_true rfl) ?_
              replace h := jgd_of h; obtain ⟨hb48, h⟩ := h
              replace h := jbd2_of h; obtain ⟨x49, μ50, hx49, h⟩ := h
              refine jr_V6_1 jf_86_115 hb48 (by omega) (r_Section_settled (by omega) _ _ _ _ _ hx49) (by simp only [jcats_cons, jcats_nil, cat_int, cat_long, cat_double, cat_float, cat_ref, rv_cat]; decide) jml_70 (Nat.le_of_ble_eq_true rfl) ?_
              replace h := obd_of h; obtain ⟨a51, rfl, h⟩ := h
              replace h := jgd_of h; obtain ⟨hb52, h⟩ := h
              replace h := obd_of h; obtain ⟨μ53, hμ53, h⟩ := h
              refine jr_V6v_2 jf_86_118 hb52 (by omega) (r_Row_put (by omega) _ _ _ _ _ hμ53) (Nat.le_of_ble_eq_true rfl) jml_50 (Nat.le_of_ble_eq_true rfl) ?_
              refine jr_lload_n jf_86_121 rfl (jg2_ne rfl jg2_same) ?_
              obtain ⟨rfl, rfl⟩ := Prod.mk.inj (Option.some.inj h)
              exact jr_retJ jf_86_122 jmt_86
            · obtain ⟨hb, hx⟩ := jgd_of hx
              obtain hx := Option.some.inj hx
              refine jr_V8b_2 jf_86_112 hb0 hb (by omega) (r_Shorts_plus (by omega) _ _ _ _ _ hx) (by simp only [jcats_cons, jcats_nil, cat_int, cat_long, cat_double, cat_float, cat_ref, rv_cat]; decide) jml_69 (Nat.le_of_ble_eq_true rfl) ?_
              replace h := jgd_of h; obtain ⟨hb48, h⟩ := h
              replace h := jbd2_of h; obtain ⟨x49, μ50, hx49, h⟩ := h
              refine jr_V6_1 jf_86_115 hb48 (by omega) (r_Section_settled (by omega) _ _ _ _ _ hx49) (by simp only [jcats_cons, jcats_nil, cat_int, cat_long, cat_double, cat_float, cat_ref, rv_cat]; decide) jml_70 (Nat.le_of_ble_eq_true rfl) ?_
              replace h := obd_of h; obtain ⟨a51, rfl, h⟩ := h
              replace h := jgd_of h; obtain ⟨hb52, h⟩ := h
              replace h := obd_of h; obtain ⟨μ53, hμ53, h⟩ := h
              refine jr_V6v_2 jf_86_118 hb52 (by omega) (r_Row_put (by omega) _ _ _ _ _ hμ53) (Nat.le_of_ble_eq_true rfl) jml_50 (Nat.le_of_ble_eq_true rfl) ?_
              refine jr_lload_n jf_86_121 rfl (jg2_ne rfl jg2_same) ?_
              obtain ⟨rfl, rfl⟩ := Prod.mk.inj (Option.some.inj h)
              exact jr_retJ jf_86_122 jmt_86
        · obtain ⟨hb, hx⟩ := jgd_of hx
          obtain hx := Option.some.inj hx
          refine jr_V8b_1 jf_86_78 hb0 hb (by omega) (r_Shorts_term (by omega) _ _ _ _ hx) (by simp only [jcats_cons, jcats_nil, cat_int, cat_long, cat_double, cat_float, cat_ref, rv_cat]; decide) jml_64 (Nat.le_of_ble_eq_true rfl) ?_
          replace h := obd_of h; obtain ⟨a32, rfl, h⟩ := h
          replace h := obd_of h; obtain ⟨x33, hx33, h⟩ := h
          rcases ite_or hx33 with ⟨hb, hx⟩ | ⟨hb0, hx⟩
          · refine jr_V8a_2 jf_86_81 hb (by omega) (r_Real_plus (by omega) _ _ _ _ _ hx) (by simp only [jcats_cons, jcats_nil, cat_int, cat_long, cat_double, cat_float, cat_ref, rv_cat]; decide) jml_65 (Nat.le_of_ble_eq_true rfl) ?_
            replace h := jgd_of h; obtain ⟨hb34, h⟩ := h
            replace h := jbd2_of h; obtain ⟨x35, μ36, hx35, h⟩ := h
            refine jr_V6_1 jf_86_84 hb34 (by omega) (r_Section_settled (by omega) _ _ _ _ _ hx35) (by simp only [jcats_cons, jcats_nil, cat_int, cat_long, cat_double, cat_float, cat_ref, rv_cat]; decide) jml_70 (Nat.le_of_ble_eq_true rfl) ?_
            replace h := obd_of h; obtain ⟨a37, rfl, h⟩ := h
            replace h := jgd_of h; obtain ⟨hb38, h⟩ := h
            replace h := obd_of h; obtain ⟨μ39, hμ39, h⟩ := h
            refine jr_V6v_2 jf_86_87 hb38 (by omega) (r_Row_put (by omega) _ _ _ _ _ hμ39) (Nat.le_of_ble_eq_true rfl) jml_50 (Nat.le_of_ble_eq_true rfl) ?_
            refine jr_aload_n jf_86_90 rfl (jg2_ne rfl (jg2_ne rfl hl0)) ?_
            replace h := obd_of h; obtain ⟨x40, hx40, h⟩ := h
            refine jr_getA jf_86_91 hx40 ?_
            refine jr_iconst jf_86_94 jc_i_1 ?_
            refine jr_aload_n jf_86_95 rfl (jg2_ne rfl (jg2_ne rfl hl0)) ?_
            refine jr_aload_n jf_86_96 rfl (jg2_ne rfl (jg2_ne rfl hl0)) ?_
            replace h := obd_of h; obtain ⟨x41, hx41, h⟩ := h
            refine jr_getA jf_86_97 hx41 ?_
            refine jr_aload_n jf_86_100 rfl (jg2_ne rfl (jg2_ne rfl hl0)) ?_
            refine jr_iconst jf_86_101 jc_i_2 ?_
            refine jr_lload_n jf_86_102 rfl (jg2_ne rfl (jg2_ne rfl hl1)) ?_
            replace h := jgd_of h; obtain ⟨hb42, h⟩ := h
            replace h := obd_of h; obtain ⟨x43, hx43, h⟩ := h
            refine jr_V6_2 jf_86_103 hb42 (by omega) (r_Section_times (by omega) _ _ _ _ _ hx43) (by simp only [jcats_cons, jcats_nil, cat_int, cat_long, cat_double, cat_float, cat_ref, rv_cat]; decide) jml_78 (Nat.le_of_ble_eq_true rfl) ?_
            refine jr_aload_n jf_86_106 rfl (jg2_ne rfl (jg2_ne rfl hl0)) ?_
            refine jr_iconst jf_86_107 jc_i_4 ?_
            refine jr_lload_n jf_86_108 rfl (jg2_ne rfl jg2_same) ?_
            replace h := jgd_of h; obtain ⟨hb44, h⟩ := h
            replace h := obd_of h; obtain ⟨x45, hx45, h⟩ := h
            refine jr_V6_2 jf_86_109 hb44 (by omega) (r_Section_lessTimes (by omega) _ _ _ _ _ hx45) (by simp only [jcats_cons, jcats_nil, cat_int, cat_long, cat_double, cat_float, cat_ref, rv_cat]; decide) jml_81 (Nat.le_of_ble_eq_true rfl) ?_
            replace h := obd_of h; obtain ⟨a46, rfl, h⟩ := h
            replace h := obd_of h; obtain ⟨x47, hx47, h⟩ := h
            rcases ite_or hx47 with ⟨hb, hx⟩ | ⟨hb0, hx⟩
            · refine jr_V8a_2 jf_86_112 hb (by omega) (r_Real_plus (by omega) _ _ _ _ _ hx) (by simp only [jcats_cons, jcats_nil, cat_int, cat_long, cat_double, cat_float, cat_ref, rv_cat]; decide) jml_65 (Nat.le_of_ble_eq_true rfl) ?_
              replace h := jgd_of h; obtain ⟨hb48, h⟩ := h
              replace h := jbd2_of h; obtain ⟨x49, μ50, hx49, h⟩ := h
              refine jr_V6_1 jf_86_115 hb48 (by omega) (r_Section_settled (by omega) _ _ _ _ _ hx49) (by simp only [jcats_cons, jcats_nil, cat_int, cat_long, cat_double, cat_float, cat_ref, rv_cat]; decide) jml_70 (Nat.le_of_ble_eq_true rfl) ?_
              replace h := obd_of h; obtain ⟨a51, rfl, h⟩ := h
              replace h := jgd_of h; obtain ⟨hb52, h⟩ := h
              replace h := obd_of h; obtain ⟨μ53, hμ53, h⟩ := h
              refine jr_V6v_2 jf_86_118 hb52 (by omega) (r_Row_put (by omega) _ _ _ _ _ hμ53) (Nat.le_of_ble_eq_true rfl) jml_50 (Nat.le_of_ble_eq_true rfl) ?_
              refine jr_lload_n jf_86_121 rfl (jg2_ne rfl jg2_same) ?_
              obtain ⟨rfl, rfl⟩ := Prod.mk.inj (Option.some.inj h)
              exact jr_retJ jf_86_122 jmt_86
            · obtain ⟨hb, hx⟩ := jgd_of hx
              obtain hx := Option.some.inj hx
              refine jr_V8b_2 jf_86_112 hb0 hb (by omega) (r_Shorts_plus (by omega) _ _ _ _ _ hx) (by simp only [jcats_cons, jcats_nil, cat_int, cat_long, cat_double, cat_float, cat_ref, rv_cat]; decide) jml_69 (Nat.le_of_ble_eq_true rfl) ?_
              replace h := jgd_of h; obtain ⟨hb48, h⟩ := h
              replace h := jbd2_of h; obtain ⟨x49, μ50, hx49, h⟩ := h
              refine jr_V6_1 jf_86_115 hb48 (by omega) (r_Section_settled (by omega) _ _ _ _ _ hx49) (by simp only [jcats_cons, jcats_nil, cat_int, cat_long, cat_double, cat_float, cat_ref, rv_cat]; decide) jml_70 (Nat.le_of_ble_eq_true rfl) ?_
              replace h := obd_of h; obtain ⟨a51, rfl, h⟩ := h
              replace h := jgd_of h; obtain ⟨hb52, h⟩ := h
              replace h := obd_of h; obtain ⟨μ53, hμ53, h⟩ := h
              refine jr_V6v_2 jf_86_118 hb52 (by omega) (r_Row_put (by omega) _ _ _ _ _ hμ53) (Nat.le_of_ble_eq_true rfl) jml_50 (Nat.le_of_ble_eq_true rfl) ?_
              refine jr_lload_n jf_86_121 rfl (jg2_ne rfl jg2_same) ?_
              obtain ⟨rfl, rfl⟩ := Prod.mk.inj (Option.some.inj h)
              exact jr_retJ jf_86_122 jmt_86
          · obtain ⟨hb, hx⟩ := jgd_of hx
            obtain hx := Option.some.inj hx
            refine jr_V8b_2 jf_86_81 hb0 hb (by omega) (r_Shorts_plus (by omega) _ _ _ _ _ hx) (by simp only [jcats_cons, jcats_nil, cat_int, cat_long, cat_double, cat_float, cat_ref, rv_cat]; decide) jml_69 (Nat.le_of_ble_eq_true rfl) ?_
            replace h := jgd_of h; obtain ⟨hb34, h⟩ := h
            replace h := jbd2_of h; obtain ⟨x35, μ36, hx35, h⟩ := h
            refine jr_V6_1 jf_86_84 hb34 (by omega) (r_Section_settled (by omega) _ _ _ _ _ hx35) (by simp only [jcats_cons, jcats_nil, cat_int, cat_long, cat_double, cat_float, cat_ref, rv_cat]; decide) jml_70 (Nat.le_of_ble_eq_true rfl) ?_
            replace h := obd_of h; obtain ⟨a37, rfl, h⟩ := h
            replace h := jgd_of h; obtain ⟨hb38, h⟩ := h
            replace h := obd_of h; obtain ⟨μ39, hμ39, h⟩ := h
            refine jr_V6v_2 jf_86_87 hb38 (by omega) (r_Row_put (by omega) _ _ _ _ _ hμ39) (Nat.le_of_ble_eq_true rfl) jml_50 (Nat.le_of_ble_eq_true rfl) ?_
            refine jr_aload_n jf_86_90 rfl (jg2_ne rfl (jg2_ne rfl hl0)) ?_
            replace h := obd_of h; obtain ⟨x40, hx40, h⟩ := h
            refine jr_getA jf_86_91 hx40 ?_
            refine jr_iconst jf_86_94 jc_i_1 ?_
            refine jr_aload_n jf_86_95 rfl (jg2_ne rfl (jg2_ne rfl hl0)) ?_
            refine jr_aload_n jf_86_96 rfl (jg2_ne rfl (jg2_ne rfl hl0)) ?_
            replace h := obd_of h; obtain ⟨x41, hx41, h⟩ := h
            refine jr_getA jf_86_97 hx41 ?_
            refine jr_aload_n jf_86_100 rfl (jg2_ne rfl (jg2_ne rfl hl0)) ?_
            refine jr_iconst jf_86_101 jc_i_2 ?_
            refine jr_lload_n jf_86_102 rfl (jg2_ne rfl (jg2_ne rfl hl1)) ?_
            replace h := jgd_of h; obtain ⟨hb42, h⟩ := h
            replace h := obd_of h; obtain ⟨x43, hx43, h⟩ := h
            refine jr_V6_2 jf_86_103 hb42 (by omega) (r_Section_times (by omega) _ _ _ _ _ hx43) (by simp only [jcats_cons, jcats_nil, cat_int, cat_long, cat_double, cat_float, cat_ref, rv_cat]; decide) jml_78 (Nat.le_of_ble_eq_true rfl) ?_
            refine jr_aload_n jf_86_106 rfl (jg2_ne rfl (jg2_ne rfl hl0)) ?_
            refine jr_iconst jf_86_107 jc_i_4 ?_
            refine jr_lload_n jf_86_108 rfl (jg2_ne rfl jg2_same) ?_
            replace h := jgd_of h; obtain ⟨hb44, h⟩ := h
            replace h := obd_of h; obtain ⟨x45, hx45, h⟩ := h
            refine jr_V6_2 jf_86_109 hb44 (by omega) (r_Section_lessTimes (by omega) _ _ _ _ _ hx45) (by simp only [jcats_cons, jcats_nil, cat_int, cat_long, cat_double, cat_float, cat_ref, rv_cat]; decide) jml_81 (Nat.le_of_ble_eq_true rfl) ?_
            replace h := obd_of h; obtain ⟨a46, rfl, h⟩ := h
            replace h := obd_of h; obtain ⟨x47, hx47, h⟩ := h
            rcases ite_or hx47 with ⟨hb, hx⟩ | ⟨hb0, hx⟩
            · refine jr_V8a_2 jf_86_112 hb (by omega) (r_Real_plus (by omega) _ _ _ _ _ hx) (by simp only [jcats_cons, jcats_nil, cat_int, cat_long, cat_double, cat_float, cat_ref, rv_cat]; decide) jml_65 (Nat.le_of_ble_eq_true rfl) ?_
              replace h := jgd_of h; obtain ⟨hb48, h⟩ := h
              replace h := jbd2_of h; obtain ⟨x49, μ50, hx49, h⟩ := h
              refine jr_V6_1 jf_86_115 hb48 (by omega) (r_Section_settled (by omega) _ _ _ _ _ hx49) (by simp only [jcats_cons, jcats_nil, cat_int, cat_long, cat_double, cat_float, cat_ref, rv_cat]; decide) jml_70 (Nat.le_of_ble_eq_true rfl) ?_
              replace h := obd_of h; obtain ⟨a51, rfl, h⟩ := h
              replace h := jgd_of h; obtain ⟨hb52, h⟩ := h
              replace h := obd_of h; obtain ⟨μ53, hμ53, h⟩ := h
              refine jr_V6v_2 jf_86_118 hb52 (by omega) (r_Row_put (by omega) _ _ _ _ _ hμ53) (Nat.le_of_ble_eq_true rfl) jml_50 (Nat.le_of_ble_eq_true rfl) ?_
              refine jr_lload_n jf_86_121 rfl (jg2_ne rfl jg2_same) ?_
              obtain ⟨rfl, rfl⟩ := Prod.mk.inj (Option.some.inj h)
              exact jr_retJ jf_86_122 jmt_86
            · obtain ⟨hb, hx⟩ := jgd_of hx
              obtain hx := Option.some.inj hx
              refine jr_V8b_2 jf_86_112 hb0 hb (by omega) (r_Shorts_plus (by omega) _ _ _ _ _ hx) (by simp only [jcats_cons, jcats_nil, cat_int, cat_long, cat_double, cat_float, cat_ref, rv_cat]; decide) jml_69 (Nat.le_of_ble_eq_true rfl) ?_
              replace h := jgd_of h; obtain ⟨hb48, h⟩ := h
              replace h := jbd2_of h; obtain ⟨x49, μ50, hx49, h⟩ := h
              refine jr_V6_1 jf_86_115 hb48 (by omega) (r_Section_settled (by omega) _ _ _ _ _ hx49) (by simp only [jcats_cons, jcats_nil, cat_int, cat_long, cat_double, cat_float, cat_ref, rv_cat]; decide) jml_70 (Nat.le_of_ble_eq_true rfl) ?_
              replace h := obd_of h; obtain ⟨a51, rfl, h⟩ := h
              replace h := jgd_of h; obtain ⟨hb52, h⟩ := h
              replace h := obd_of h; obtain ⟨μ53, hμ53, h⟩ := h
              refine jr_V6v_2 jf_86_118 hb52 (by omega) (r_Row_put (by omega) _ _ _ _ _ hμ53) (Nat.le_of_ble_eq_true rfl) jml_50 (Nat.le_of_ble_eq_true rfl) ?_
              refine jr_lload_n jf_86_121 rfl (jg2_ne rfl jg2_same) ?_
              obtain ⟨rfl, rfl⟩ := Prod.mk.inj (Option.some.inj h)
              exact jr_retJ jf_86_122 jmt_86
    · obtain ⟨hb, hx⟩ := jgd_of hx
      obtain hx := Option.some.inj hx
      refine jr_V8b_2 jf_86_26 hb0 hb (by omega) (r_Shorts_plus (by omega) _ _ _ _ _ hx) (Nat.le_of_ble_eq_true rfl) jml_69 (Nat.le_of_ble_eq_true rfl) ?_
      replace h := jgd_of h; obtain ⟨hb13, h⟩ := h
      replace h := jbd2_of h; obtain ⟨x14, μ15, hx14, h⟩ := h
      refine jr_V6_1 jf_86_29 hb13 (by omega) (r_Section_settled (by omega) _ _ _ _ _ hx14) (Nat.le_of_ble_eq_true rfl) jml_70 (Nat.le_of_ble_eq_true rfl) ?_
      refine jr_lstore_n jf_86_32 rfl jml_86 (by decide) ?_
      refine jr_aload_n jf_86_33 rfl (jg2_ne rfl hl0) ?_
      replace h := obd_of h; obtain ⟨x16, hx16, h⟩ := h
      refine jr_getA jf_86_34 hx16 ?_
      refine jr_aload_n jf_86_37 rfl (jg2_ne rfl hl0) ?_
      refine jr_iconst jf_86_38 jc_i_1 ?_
      refine jr_lload_n jf_86_39 rfl (jg2_ne rfl hl1) ?_
      replace h := jgd_of h; obtain ⟨hb17, h⟩ := h
      replace h := obd_of h; obtain ⟨x18, hx18, h⟩ := h
      refine jr_V6_2 jf_86_40 hb17 (by omega) (r_Section_times (by omega) _ _ _ _ _ hx18) (by simp only [jcats_cons, jcats_nil, cat_int, cat_long, cat_double, cat_float, cat_ref, rv_cat]; decide) jml_78 (Nat.le_of_ble_eq_true rfl) ?_
      refine jr_aload_n jf_86_43 rfl (jg2_ne rfl hl0) ?_
      refine jr_iconst jf_86_44 jc_i_3 ?_
      refine jr_lload_n jf_86_45 rfl jg2_same ?_
      replace h := jgd_of h; obtain ⟨hb19, h⟩ := h
      replace h := obd_of h; obtain ⟨x20, hx20, h⟩ := h
      refine jr_V6_2 jf_86_46 hb19 (by omega) (r_Section_lessTimes (by omega) _ _ _ _ _ hx20) (by simp only [jcats_cons, jcats_nil, cat_int, cat_long, cat_double, cat_float, cat_ref, rv_cat]; decide) jml_81 (Nat.le_of_ble_eq_true rfl) ?_
      replace h := obd_of h; obtain ⟨a21, rfl, h⟩ := h
      replace h := obd_of h; obtain ⟨x22, hx22, h⟩ := h
      rcases ite_or hx22 with ⟨hb, hx⟩ | ⟨hb0, hx⟩
      · refine jr_V8a_2 jf_86_49 hb (by omega) (r_Real_plus (by omega) _ _ _ _ _ hx) (Nat.le_of_ble_eq_true rfl) jml_65 (Nat.le_of_ble_eq_true rfl) ?_
        refine jr_lstore jf_86_52 jml_86 (by decide) ?_
        refine jr_aload_n jf_86_54 rfl (jg2_ne rfl (jg2_ne rfl hl0)) ?_
        replace h := obd_of h; obtain ⟨x23, hx23, h⟩ := h
        refine jr_getA jf_86_55 hx23 ?_
        refine jr_iconst jf_86_58 jc_i_0 ?_
        refine jr_aload_n jf_86_59 rfl (jg2_ne rfl (jg2_ne rfl hl0)) ?_
        refine jr_aload_n jf_86_60 rfl (jg2_ne rfl (jg2_ne rfl hl0)) ?_
        replace h := obd_of h; obtain ⟨x24, hx24, h⟩ := h
        refine jr_getA jf_86_61 hx24 ?_
        refine jr_lload jf_86_64 jg2_same ?_
        refine jr_aload_n jf_86_66 rfl (jg2_ne rfl (jg2_ne rfl hl0)) ?_
        replace h := obd_of h; obtain ⟨x25, hx25, h⟩ := h
        refine jr_getA jf_86_67 hx25 ?_
        refine jr_aload_n jf_86_70 rfl (jg2_ne rfl (jg2_ne rfl hl0)) ?_
        replace h := obd_of h; obtain ⟨x26, hx26, h⟩ := h
        refine jr_getA jf_86_71 hx26 ?_
        refine jr_iconst jf_86_74 jc_i_1 ?_
        replace h := obd_of h; obtain ⟨a27, rfl, h⟩ := h
        replace h := jgd_of h; obtain ⟨hb28, h⟩ := h
        replace h := obd_of h; obtain ⟨x29, hx29, h⟩ := h
        refine jr_V6_1 jf_86_75 hb28 (by omega) (r_Row_at (by omega) _ _ _ _ hx29) (by simp only [jcats_cons, jcats_nil, cat_int, cat_long, cat_double, cat_float, cat_ref, rv_cat]; decide) jml_23 (Nat.le_of_ble_eq_true rfl) ?_
        replace h := obd_of h; obtain ⟨a30, rfl, h⟩ := h
        replace h := obd_of h; obtain ⟨x31, hx31, h⟩ := h
        rcases ite_or hx31 with ⟨hb, hx⟩ | ⟨hb0, hx⟩
        · obtain hx := Option.some.inj hx
          refine jr_V8a_1 jf_86_78 hb (by omega) (r_Real_term (by omega) _ _ _ _ hx) (by simp only [jcats_cons, jcats_nil, cat_int, cat_long, cat_double, cat_float, cat_ref, rv_cat]; decide) jml_63 (Nat.le_of_ble_eq_true rfl) ?_
          replace h := obd_of h; obtain ⟨a32, rfl, h⟩ := h
          replace h := obd_of h; obtain ⟨x33, hx33, h⟩ := h
          rcases ite_or hx33 with ⟨hb, hx⟩ | ⟨hb0, hx⟩
          · refine jr_V8a_2 jf_86_81 hb (by omega) (r_Real_plus (by omega) _ _ _ _ _ hx) (by simp only [jcats_cons, jcats_nil, cat_int, cat_long, cat_double, cat_float, cat_ref, rv_cat]; decide) jml_65 (Nat.le_of_ble_eq_true rfl) ?_
            replace h := jgd_of h; obtain ⟨hb34, h⟩ := h
            replace h := jbd2_of h; obtain ⟨x35, μ36, hx35, h⟩ := h
            refine jr_V6_1 jf_86_84 hb34 (by omega) (r_Section_settled (by omega) _ _ _ _ _ hx35) (by simp only [jcats_cons, jcats_nil, cat_int, cat_long, cat_double, cat_float, cat_ref, rv_cat]; decide) jml_70 (Nat.le_of_ble_eq_true rfl) ?_
            replace h := obd_of h; obtain ⟨a37, rfl, h⟩ := h
            replace h := jgd_of h; obtain ⟨hb38, h⟩ := h
            replace h := obd_of h; obtain ⟨μ39, hμ39, h⟩ := h
            refine jr_V6v_2 jf_86_87 hb38 (by omega) (r_Row_put (by omega) _ _ _ _ _ hμ39) (Nat.le_of_ble_eq_true rfl) jml_50 (Nat.le_of_ble_eq_true rfl) ?_
            refine jr_aload_n jf_86_90 rfl (jg2_ne rfl (jg2_ne rfl hl0)) ?_
            replace h := obd_of h; obtain ⟨x40, hx40, h⟩ := h
            refine jr_getA jf_86_91 hx40 ?_
            refine jr_iconst jf_86_94 jc_i_1 ?_
            refine jr_aload_n jf_86_95 rfl (jg2_ne rfl (jg2_ne rfl hl0)) ?_
            refine jr_aload_n jf_86_96 rfl (jg2_ne rfl (jg2_ne rfl hl0)) ?_
            replace h := obd_of h; obtain ⟨x41, hx41, h⟩ := h
            refine jr_getA jf_86_97 hx41 ?_
            refine jr_aload_n jf_86_100 rfl (jg2_ne rfl (jg2_ne rfl hl0)) ?_
            refine jr_iconst jf_86_101 jc_i_2 ?_
            refine jr_lload_n jf_86_102 rfl (jg2_ne rfl (jg2_ne rfl hl1)) ?_
            replace h := jgd_of h; obtain ⟨hb42, h⟩ := h
            replace h := obd_of h; obtain ⟨x43, hx43, h⟩ := h
            refine jr_V6_2 jf_86_103 hb42 (by omega) (r_Section_times (by omega) _ _ _ _ _ hx43) (by simp only [jcats_cons, jcats_nil, cat_int, cat_long, cat_double, cat_float, cat_ref, rv_cat]; decide) jml_78 (Nat.le_of_ble_eq_true rfl) ?_
            refine jr_aload_n jf_86_106 rfl (jg2_ne rfl (jg2_ne rfl hl0)) ?_
            refine jr_iconst jf_86_107 jc_i_4 ?_
            refine jr_lload_n jf_86_108 rfl (jg2_ne rfl jg2_same) ?_
            replace h := jgd_of h; obtain ⟨hb44, h⟩ := h
            replace h := obd_of h; obtain ⟨x45, hx45, h⟩ := h
            refine jr_V6_2 jf_86_109 hb44 (by omega) (r_Section_lessTimes (by omega) _ _ _ _ _ hx45) (by simp only [jcats_cons, jcats_nil, cat_int, cat_long, cat_double, cat_float, cat_ref, rv_cat]; decide) jml_81 (Nat.le_of_ble_eq_true rfl) ?_
            replace h := obd_of h; obtain ⟨a46, rfl, h⟩ := h
            replace h := obd_of h; obtain ⟨x47, hx47, h⟩ := h
            rcases ite_or hx47 with ⟨hb, hx⟩ | ⟨hb0, hx⟩
            · refine jr_V8a_2 jf_86_112 hb (by omega) (r_Real_plus (by omega) _ _ _ _ _ hx) (by simp only [jcats_cons, jcats_nil, cat_int, cat_long, cat_double, cat_float, cat_ref, rv_cat]; decide) jml_65 (Nat.le_of_ble_eq_true rfl) ?_
              replace h := jgd_of h; obtain ⟨hb48, h⟩ := h
              replace h := jbd2_of h; obtain ⟨x49, μ50, hx49, h⟩ := h
              refine jr_V6_1 jf_86_115 hb48 (by omega) (r_Section_settled (by omega) _ _ _ _ _ hx49) (by simp only [jcats_cons, jcats_nil, cat_int, cat_long, cat_double, cat_float, cat_ref, rv_cat]; decide) jml_70 (Nat.le_of_ble_eq_true rfl) ?_
              replace h := obd_of h; obtain ⟨a51, rfl, h⟩ := h
              replace h := jgd_of h; obtain ⟨hb52, h⟩ := h
              replace h := obd_of h; obtain ⟨μ53, hμ53, h⟩ := h
              refine jr_V6v_2 jf_86_118 hb52 (by omega) (r_Row_put (by omega) _ _ _ _ _ hμ53) (Nat.le_of_ble_eq_true rfl) jml_50 (Nat.le_of_ble_eq_true rfl) ?_
              refine jr_lload_n jf_86_121 rfl (jg2_ne rfl jg2_same) ?_
              obtain ⟨rfl, rfl⟩ := Prod.mk.inj (Option.some.inj h)
              exact jr_retJ jf_86_122 jmt_86
            · obtain ⟨hb, hx⟩ := jgd_of hx
              obtain hx := Option.some.inj hx
              refine jr_V8b_2 jf_86_112 hb0 hb (by omega) (r_Shorts_plus (by omega) _ _ _ _ _ hx) (by simp only [jcats_cons, jcats_nil, cat_int, cat_long, cat_double, cat_float, cat_ref, rv_cat]; decide) jml_69 (Nat.le_of_ble_eq_true rfl) ?_
              replace h := jgd_of h; obtain ⟨hb48, h⟩ := h
              replace h := jbd2_of h; obtain ⟨x49, μ50, hx49, h⟩ := h
              refine jr_V6_1 jf_86_115 hb48 (by omega) (r_Section_settled (by omega) _ _ _ _ _ hx49) (by simp only [jcats_cons, jcats_nil, cat_int, cat_long, cat_double, cat_float, cat_ref, rv_cat]; decide) jml_70 (Nat.le_of_ble_eq_true rfl) ?_
              replace h := obd_of h; obtain ⟨a51, rfl, h⟩ := h
              replace h := jgd_of h; obtain ⟨hb52, h⟩ := h
              replace h := obd_of h; obtain ⟨μ53, hμ53, h⟩ := h
              refine jr_V6v_2 jf_86_118 hb52 (by omega) (r_Row_put (by omega) _ _ _ _ _ hμ53) (Nat.le_of_ble_eq_true rfl) jml_50 (Nat.le_of_ble_eq_true rfl) ?_
              refine jr_lload_n jf_86_121 rfl (jg2_ne rfl jg2_same) ?_
              obtain ⟨rfl, rfl⟩ := Prod.mk.inj (Option.some.inj h)
              exact jr_retJ jf_86_122 jmt_86
          · obtain ⟨hb, hx⟩ := jgd_of hx
            obtain hx := Option.some.inj hx
            refine jr_V8b_2 jf_86_81 hb0 hb (by omega) (r_Shorts_plus (by omega) _ _ _ _ _ hx) (by simp only [jcats_cons, jcats_nil, cat_int, cat_long, cat_double, cat_float, cat_ref, rv_cat]; decide) jml_69 (Nat.le_of_ble_eq_true rfl) ?_
            replace h := jgd_of h; obtain ⟨hb34, h⟩ := h
            replace h := jbd2_of h; obtain ⟨x35, μ36, hx35, h⟩ := h
            refine jr_V6_1 jf_86_84 hb34 (by omega) (r_Section_settled (by omega) _ _ _ _ _ hx35) (by simp only [jcats_cons, jcats_nil, cat_int, cat_long, cat_double, cat_float, cat_ref, rv_cat]; decide) jml_70 (Nat.le_of_ble_eq_true rfl) ?_
            replace h := obd_of h; obtain ⟨a37, rfl, h⟩ := h
            replace h := jgd_of h; obtain ⟨hb38, h⟩ := h
            replace h := obd_of h; obtain ⟨μ39, hμ39, h⟩ := h
            refine jr_V6v_2 jf_86_87 hb38 (by omega) (r_Row_put (by omega) _ _ _ _ _ hμ39) (Nat.le_of_ble_eq_true rfl) jml_50 (Nat.le_of_ble_eq_true rfl) ?_
            refine jr_aload_n jf_86_90 rfl (jg2_ne rfl (jg2_ne rfl hl0)) ?_
            replace h := obd_of h; obtain ⟨x40, hx40, h⟩ := h
            refine jr_getA jf_86_91 hx40 ?_
            refine jr_iconst jf_86_94 jc_i_1 ?_
            refine jr_aload_n jf_86_95 rfl (jg2_ne rfl (jg2_ne rfl hl0)) ?_
            refine jr_aload_n jf_86_96 rfl (jg2_ne rfl (jg2_ne rfl hl0)) ?_
            replace h := obd_of h; obtain ⟨x41, hx41, h⟩ := h
            refine jr_getA jf_86_97 hx41 ?_
            refine jr_aload_n jf_86_100 rfl (jg2_ne rfl (jg2_ne rfl hl0)) ?_
            refine jr_iconst jf_86_101 jc_i_2 ?_
            refine jr_lload_n jf_86_102 rfl (jg2_ne rfl (jg2_ne rfl hl1)) ?_
            replace h := jgd_of h; obtain ⟨hb42, h⟩ := h
            replace h := obd_of h; obtain ⟨x43, hx43, h⟩ := h
            refine jr_V6_2 jf_86_103 hb42 (by omega) (r_Section_times (by omega) _ _ _ _ _ hx43) (by simp only [jcats_cons, jcats_nil, cat_int, cat_long, cat_double, cat_float, cat_ref, rv_cat]; decide) jml_78 (Nat.le_of_ble_eq_true rfl) ?_
            refine jr_aload_n jf_86_106 rfl (jg2_ne rfl (jg2_ne rfl hl0)) ?_
            refine jr_iconst jf_86_107 jc_i_4 ?_
            refine jr_lload_n jf_86_108 rfl (jg2_ne rfl jg2_same) ?_
            replace h := jgd_of h; obtain ⟨hb44, h⟩ := h
            replace h := obd_of h; obtain ⟨x45, hx45, h⟩ := h
            refine jr_V6_2 jf_86_109 hb44 (by omega) (r_Section_lessTimes (by omega) _ _ _ _ _ hx45) (by simp only [jcats_cons, jcats_nil, cat_int, cat_long, cat_double, cat_float, cat_ref, rv_cat]; decide) jml_81 (Nat.le_of_ble_eq_true rfl) ?_
            replace h := obd_of h; obtain ⟨a46, rfl, h⟩ := h
            replace h := obd_of h; obtain ⟨x47, hx47, h⟩ := h
            rcases ite_or hx47 with ⟨hb, hx⟩ | ⟨hb0, hx⟩
            · refine jr_V8a_2 jf_86_112 hb (by omega) (r_Real_plus (by omega) _ _ _ _ _ hx) (by simp only [jcats_cons, jcats_nil, cat_int, cat_long, cat_double, cat_float, cat_ref, rv_cat]; decide) jml_65 (Nat.le_of_ble_eq_true rfl) ?_
              replace h := jgd_of h; obtain ⟨hb48, h⟩ := h
              replace h := jbd2_of h; obtain ⟨x49, μ50, hx49, h⟩ := h
              refine jr_V6_1 jf_86_115 hb48 (by omega) (r_Section_settled (by omega) _ _ _ _ _ hx49) (by simp only [jcats_cons, jcats_nil, cat_int, cat_long, cat_double, cat_float, cat_ref, rv_cat]; decide) jml_70 (Nat.le_of_ble_eq_true rfl) ?_
              replace h := obd_of h; obtain ⟨a51, rfl, h⟩ := h
              replace h := jgd_of h; obtain ⟨hb52, h⟩ := h
              replace h := obd_of h; obtain ⟨μ53, hμ53, h⟩ := h
              refine jr_V6v_2 jf_86_118 hb52 (by omega) (r_Row_put (by omega) _ _ _ _ _ hμ53) (Nat.le_of_ble_eq_true rfl) jml_50 (Nat.le_of_ble_eq_true rfl) ?_
              refine jr_lload_n jf_86_121 rfl (jg2_ne rfl jg2_same) ?_
              obtain ⟨rfl, rfl⟩ := Prod.mk.inj (Option.some.inj h)
              exact jr_retJ jf_86_122 jmt_86
            · obtain ⟨hb, hx⟩ := jgd_of hx
              obtain hx := Option.some.inj hx
              refine jr_V8b_2 jf_86_112 hb0 hb (by omega) (r_Shorts_plus (by omega) _ _ _ _ _ hx) (by simp only [jcats_cons, jcats_nil, cat_int, cat_long, cat_double, cat_float, cat_ref, rv_cat]; decide) jml_69 (Nat.le_of_ble_eq_true rfl) ?_
              replace h := jgd_of h; obtain ⟨hb48, h⟩ := h
              replace h := jbd2_of h; obtain ⟨x49, μ50, hx49, h⟩ := h
              refine jr_V6_1 jf_86_115 hb48 (by omega) (r_Section_settled (by omega) _ _ _ _ _ hx49) (by simp only [jcats_cons, jcats_nil, cat_int, cat_long, cat_double, cat_float, cat_ref, rv_cat]; decide) jml_70 (Nat.le_of_ble_eq_true rfl) ?_
              replace h := obd_of h; obtain ⟨a51, rfl, h⟩ := h
              replace h := jgd_of h; obtain ⟨hb52, h⟩ := h
              replace h := obd_of h; obtain ⟨μ53, hμ53, h⟩ := h
              refine jr_V6v_2 jf_86_118 hb52 (by omega) (r_Row_put (by omega) _ _ _ _ _ hμ53) (Nat.le_of_ble_eq_true rfl) jml_50 (Nat.le_of_ble_eq_true rfl) ?_
              refine jr_lload_n jf_86_121 rfl (jg2_ne rfl jg2_same) ?_
              obtain ⟨rfl, rfl⟩ := Prod.mk.inj (Option.some.inj h)
              exact jr_retJ jf_86_122 jmt_86
        · obtain ⟨hb, hx⟩ := jgd_of hx
          obtain hx := Option.some.inj hx
          refine jr_V8b_1 jf_86_78 hb0 hb (by omega) (r_Shorts_term (by omega) _ _ _ _ hx) (by simp only [jcats_cons, jcats_nil, cat_int, cat_long, cat_double, cat_float, cat_ref, rv_cat]; decide) jml_64 (Nat.le_of_ble_eq_true rfl) ?_
          replace h := obd_of h; obtain ⟨a32, rfl, h⟩ := h
          replace h := obd_of h; obtain ⟨x33, hx33, h⟩ := h
          rcases ite_or hx33 with ⟨hb, hx⟩ | ⟨hb0, hx⟩
          · refine jr_V8a_2 jf_86_81 hb (by omega) (r_Real_plus (by omega) _ _ _ _ _ hx) (by simp only [jcats_cons, jcats_nil, cat_int, cat_long, cat_double, cat_float, cat_ref, rv_cat]; decide) jml_65 (Nat.le_of_ble_eq_true rfl) ?_
            replace h := jgd_of h; obtain ⟨hb34, h⟩ := h
            replace h := jbd2_of h; obtain ⟨x35, μ36, hx35, h⟩ := h
            refine jr_V6_1 jf_86_84 hb34 (by omega) (r_Section_settled (by omega) _ _ _ _ _ hx35) (by simp only [jcats_cons, jcats_nil, cat_int, cat_long, cat_double, cat_float, cat_ref, rv_cat]; decide) jml_70 (Nat.le_of_ble_eq_true rfl) ?_
            replace h := obd_of h; obtain ⟨a37, rfl, h⟩ := h
            replace h := jgd_of h; obtain ⟨hb38, h⟩ := h
            replace h := obd_of h; obtain ⟨μ39, hμ39, h⟩ := h
            refine jr_V6v_2 jf_86_87 hb38 (by omega) (r_Row_put (by omega) _ _ _ _ _ hμ39) (Nat.le_of_ble_eq_true rfl) jml_50 (Nat.le_of_ble_eq_true rfl) ?_
            refine jr_aload_n jf_86_90 rfl (jg2_ne rfl (jg2_ne rfl hl0)) ?_
            replace h := obd_of h; obtain ⟨x40, hx40, h⟩ := h
            refine jr_getA jf_86_91 hx40 ?_
            refine jr_iconst jf_86_94 jc_i_1 ?_
            refine jr_aload_n jf_86_95 rfl (jg2_ne rfl (jg2_ne rfl hl0)) ?_
            refine jr_aload_n jf_86_96 rfl (jg2_ne rfl (jg2_ne rfl hl0)) ?_
            replace h := obd_of h; obtain ⟨x41, hx41, h⟩ := h
            refine jr_getA jf_86_97 hx41 ?_
            refine jr_aload_n jf_86_100 rfl (jg2_ne rfl (jg2_ne rfl hl0)) ?_
            refine jr_iconst jf_86_101 jc_i_2 ?_
            refine jr_lload_n jf_86_102 rfl (jg2_ne rfl (jg2_ne rfl hl1)) ?_
            replace h := jgd_of h; obtain ⟨hb42, h⟩ := h
            replace h := obd_of h; obtain ⟨x43, hx43, h⟩ := h
            refine jr_V6_2 jf_86_103 hb42 (by omega) (r_Section_times (by omega) _ _ _ _ _ hx43) (by simp only [jcats_cons, jcats_nil, cat_int, cat_long, cat_double, cat_float, cat_ref, rv_cat]; decide) jml_78 (Nat.le_of_ble_eq_true rfl) ?_
            refine jr_aload_n jf_86_106 rfl (jg2_ne rfl (jg2_ne rfl hl0)) ?_
            refine jr_iconst jf_86_107 jc_i_4 ?_
            refine jr_lload_n jf_86_108 rfl (jg2_ne rfl jg2_same) ?_
            replace h := jgd_of h; obtain ⟨hb44, h⟩ := h
            replace h := obd_of h; obtain ⟨x45, hx45, h⟩ := h
            refine jr_V6_2 jf_86_109 hb44 (by omega) (r_Section_lessTimes (by omega) _ _ _ _ _ hx45) (by simp only [jcats_cons, jcats_nil, cat_int, cat_long, cat_double, cat_float, cat_ref, rv_cat]; decide) jml_81 (Nat.le_of_ble_eq_true rfl) ?_
            replace h := obd_of h; obtain ⟨a46, rfl, h⟩ := h
            replace h := obd_of h; obtain ⟨x47, hx47, h⟩ := h
            rcases ite_or hx47 with ⟨hb, hx⟩ | ⟨hb0, hx⟩
            · refine jr_V8a_2 jf_86_112 hb (by omega) (r_Real_plus (by omega) _ _ _ _ _ hx) (by simp only [jcats_cons, jcats_nil, cat_int, cat_long, cat_double, cat_float, cat_ref, rv_cat]; decide) jml_65 (Nat.le_of_ble_eq_true rfl) ?_
              replace h := jgd_of h; obtain ⟨hb48, h⟩ := h
              replace h := jbd2_of h; obtain ⟨x49, μ50, hx49, h⟩ := h
              refine jr_V6_1 jf_86_115 hb48 (by omega) (r_Section_settled (by omega) _ _ _ _ _ hx49) (by simp only [jcats_cons, jcats_nil, cat_int, cat_long, cat_double, cat_float, cat_ref, rv_cat]; decide) jml_70 (Nat.le_of_ble_eq_true rfl) ?_
              replace h := obd_of h; obtain ⟨a51, rfl, h⟩ := h
              replace h := jgd_of h; obtain ⟨hb52, h⟩ := h
              replace h := obd_of h; obtain ⟨μ53, hμ53, h⟩ := h
              refine jr_V6v_2 jf_86_118 hb52 (by omega) (r_Row_put (by omega) _ _ _ _ _ hμ53) (Nat.le_of_ble_eq_true rfl) jml_50 (Nat.le_of_ble_eq_true rfl) ?_
              refine jr_lload_n jf_86_121 rfl (jg2_ne rfl jg2_same) ?_
              obtain ⟨rfl, rfl⟩ := Prod.mk.inj (Option.some.inj h)
              exact jr_retJ jf_86_122 jmt_86
            · obtain ⟨hb, hx⟩ := jgd_of hx
              obtain hx := Option.some.inj hx
              refine jr_V8b_2 jf_86_112 hb0 hb (by omega) (r_Shorts_plus (by omega) _ _ _ _ _ hx) (by simp only [jcats_cons, jcats_nil, cat_int, cat_long, cat_double, cat_float, cat_ref, rv_cat]; decide) jml_69 (Nat.le_of_ble_eq_true rfl) ?_
              replace h := jgd_of h; obtain ⟨hb48, h⟩ := h
              replace h := jbd2_of h; obtain ⟨x49, μ50, hx49, h⟩ := h
              refine jr_V6_1 jf_86_115 hb48 (by omega) (r_Section_settled (by omega) _ _ _ _ _ hx49) (by simp only [jcats_cons, jcats_nil, cat_int, cat_long, cat_double, cat_float, cat_ref, rv_cat]; decide) jml_70 (Nat.le_of_ble_eq_true rfl) ?_
              replace h := obd_of h; obtain ⟨a51, rfl, h⟩ := h
              replace h := jgd_of h; obtain ⟨hb52, h⟩ := h
              replace h := obd_of h; obtain ⟨μ53, hμ53, h⟩ := h
              refine jr_V6v_2 jf_86_118 hb52 (by omega) (r_Row_put (by omega) _ _ _ _ _ hμ53) (Nat.le_of_ble_eq_true rfl) jml_50 (Nat.le_of_ble_eq_true rfl) ?_
              refine jr_lload_n jf_86_121 rfl (jg2_ne rfl jg2_same) ?_
              obtain ⟨rfl, rfl⟩ := Prod.mk.inj (Option.some.inj h)
              exact jr_retJ jf_86_122 jmt_86
          · obtain ⟨hb, hx⟩ := jgd_of hx
            obtain hx := Option.some.inj hx
            refine jr_V8b_2 jf_86_81 hb0 hb (by omega) (r_Shorts_plus (by omega) _ _ _ _ _ hx) (by simp only [jcats_cons, jcats_nil, cat_int, cat_long, cat_double, cat_float, cat_ref, rv_cat]; decide) jml_69 (Nat.le_of_ble_eq_true rfl) ?_
            replace h := jgd_of h; obtain ⟨hb34, h⟩ := h
            replace h := jbd2_of h; obtain ⟨x35, μ36, hx35, h⟩ := h
            refine jr_V6_1 jf_86_84 hb34 (by omega) (r_Section_settled (by omega) _ _ _ _ _ hx35) (by simp only [jcats_cons, jcats_nil, cat_int, cat_long, cat_double, cat_float, cat_ref, rv_cat]; decide) jml_70 (Nat.le_of_ble_eq_true rfl) ?_
            replace h := obd_of h; obtain ⟨a37, rfl, h⟩ := h
            replace h := jgd_of h; obtain ⟨hb38, h⟩ := h
            replace h := obd_of h; obtain ⟨μ39, hμ39, h⟩ := h
            refine jr_V6v_2 jf_86_87 hb38 (by omega) (r_Row_put (by omega) _ _ _ _ _ hμ39) (Nat.le_of_ble_eq_true rfl) jml_50 (Nat.le_of_ble_eq_true rfl) ?_
            refine jr_aload_n jf_86_90 rfl (jg2_ne rfl (jg2_ne rfl hl0)) ?_
            replace h := obd_of h; obtain ⟨x40, hx40, h⟩ := h
            refine jr_getA jf_86_91 hx40 ?_
            refine jr_iconst jf_86_94 jc_i_1 ?_
            refine jr_aload_n jf_86_95 rfl (jg2_ne rfl (jg2_ne rfl hl0)) ?_
            refine jr_aload_n jf_86_96 rfl (jg2_ne rfl (jg2_ne rfl hl0)) ?_
            replace h := obd_of h; obtain ⟨x41, hx41, h⟩ := h
            refine jr_getA jf_86_97 hx41 ?_
            refine jr_aload_n jf_86_100 rfl (jg2_ne rfl (jg2_ne rfl hl0)) ?_
            refine jr_iconst jf_86_101 jc_i_2 ?_
            refine jr_lload_n jf_86_102 rfl (jg2_ne rfl (jg2_ne rfl hl1)) ?_
            replace h := jgd_of h; obtain ⟨hb42, h⟩ := h
            replace h := obd_of h; obtain ⟨x43, hx43, h⟩ := h
            refine jr_V6_2 jf_86_103 hb42 (by omega) (r_Section_times (by omega) _ _ _ _ _ hx43) (by simp only [jcats_cons, jcats_nil, cat_int, cat_long, cat_double, cat_float, cat_ref, rv_cat]; decide) jml_78 (Nat.le_of_ble_eq_true rfl) ?_
            refine jr_aload_n jf_86_106 rfl (jg2_ne rfl (jg2_ne rfl hl0)) ?_
            refine jr_iconst jf_86_107 jc_i_4 ?_
            refine jr_lload_n jf_86_108 rfl (jg2_ne rfl jg2_same) ?_
            replace h := jgd_of h; obtain ⟨hb44, h⟩ := h
            replace h := obd_of h; obtain ⟨x45, hx45, h⟩ := h
            refine jr_V6_2 jf_86_109 hb44 (by omega) (r_Section_lessTimes (by omega) _ _ _ _ _ hx45) (by simp only [jcats_cons, jcats_nil, cat_int, cat_long, cat_double, cat_float, cat_ref, rv_cat]; decide) jml_81 (Nat.le_of_ble_eq_true rfl) ?_
            replace h := obd_of h; obtain ⟨a46, rfl, h⟩ := h
            replace h := obd_of h; obtain ⟨x47, hx47, h⟩ := h
            rcases ite_or hx47 with ⟨hb, hx⟩ | ⟨hb0, hx⟩
            · refine jr_V8a_2 jf_86_112 hb (by omega) (r_Real_plus (by omega) _ _ _ _ _ hx) (by simp only [jcats_cons, jcats_nil, cat_int, cat_long, cat_double, cat_float, cat_ref, rv_cat]; decide) jml_65 (Nat.le_of_ble_eq_true rfl) ?_
              replace h := jgd_of h; obtain ⟨hb48, h⟩ := h
              replace h := jbd2_of h; obtain ⟨x49, μ50, hx49, h⟩ := h
              refine jr_V6_1 jf_86_115 hb48 (by omega) (r_Section_settled (by omega) _ _ _ _ _ hx49) (by simp only [jcats_cons, jcats_nil, cat_int, cat_long, cat_double, cat_float, cat_ref, rv_cat]; decide) jml_70 (Nat.le_of_ble_eq_true rfl) ?_
              replace h := obd_of h; obtain ⟨a51, rfl, h⟩ := h
              replace h := jgd_of h; obtain ⟨hb52, h⟩ := h
              replace h := obd_of h; obtain ⟨μ53, hμ53, h⟩ := h
              refine jr_V6v_2 jf_86_118 hb52 (by omega) (r_Row_put (by omega) _ _ _ _ _ hμ53) (Nat.le_of_ble_eq_true rfl) jml_50 (Nat.le_of_ble_eq_true rfl) ?_
              refine jr_lload_n jf_86_121 rfl (jg2_ne rfl jg2_same) ?_
              obtain ⟨rfl, rfl⟩ := Prod.mk.inj (Option.some.inj h)
              exact jr_retJ jf_86_122 jmt_86
            · obtain ⟨hb, hx⟩ := jgd_of hx
              obtain hx := Option.some.inj hx
              refine jr_V8b_2 jf_86_112 hb0 hb (by omega) (r_Shorts_plus (by omega) _ _ _ _ _ hx) (by simp only [jcats_cons, jcats_nil, cat_int, cat_long, cat_double, cat_float, cat_ref, rv_cat]; decide) jml_69 (Nat.le_of_ble_eq_true rfl) ?_
              replace h := jgd_of h; obtain ⟨hb48, h⟩ := h
              replace h := jbd2_of h; obtain ⟨x49, μ50, hx49, h⟩ := h
              refine jr_V6_1 jf_86_115 hb48 (by omega) (r_Section_settled (by omega) _ _ _ _ _ hx49) (by simp only [jcats_cons, jcats_nil, cat_int, cat_long, cat_double, cat_float, cat_ref, rv_cat]; decide) jml_70 (Nat.le_of_ble_eq_true rfl) ?_
              replace h := obd_of h; obtain ⟨a51, rfl, h⟩ := h
              replace h := jgd_of h; obtain ⟨hb52, h⟩ := h
              replace h := obd_of h; obtain ⟨μ53, hμ53, h⟩ := h
              refine jr_V6v_2 jf_86_118 hb52 (by omega) (r_Row_put (by omega) _ _ _ _ _ hμ53) (Nat.le_of_ble_eq_true rfl) jml_50 (Nat.le_of_ble_eq_true rfl) ?_
              refine jr_lload_n jf_86_121 rfl (jg2_ne rfl jg2_same) ?_
              obtain ⟨rfl, rfl⟩ := Prod.mk.inj (Option.some.inj h)
              exact jr_retJ jf_86_122 jmt_86
      · obtain ⟨hb, hx⟩ := jgd_of hx
        obtain hx := Option.some.inj hx
        refine jr_V8b_2 jf_86_49 hb0 hb (by omega) (r_Shorts_plus (by omega) _ _ _ _ _ hx) (Nat.le_of_ble_eq_true rfl) jml_69 (Nat.le_of_ble_eq_true rfl) ?_
        refine jr_lstore jf_86_52 jml_86 (by decide) ?_
        refine jr_aload_n jf_86_54 rfl (jg2_ne rfl (jg2_ne rfl hl0)) ?_
        replace h := obd_of h; obtain ⟨x23, hx23, h⟩ := h
        refine jr_getA jf_86_55 hx23 ?_
        refine jr_iconst jf_86_58 jc_i_0 ?_
        refine jr_aload_n jf_86_59 rfl (jg2_ne rfl (jg2_ne rfl hl0)) ?_
        refine jr_aload_n jf_86_60 rfl (jg2_ne rfl (jg2_ne rfl hl0)) ?_
        replace h := obd_of h; obtain ⟨x24, hx24, h⟩ := h
        refine jr_getA jf_86_61 hx24 ?_
        refine jr_lload jf_86_64 jg2_same ?_
        refine jr_aload_n jf_86_66 rfl (jg2_ne rfl (jg2_ne rfl hl0)) ?_
        replace h := obd_of h; obtain ⟨x25, hx25, h⟩ := h
        refine jr_getA jf_86_67 hx25 ?_
        refine jr_aload_n jf_86_70 rfl (jg2_ne rfl (jg2_ne rfl hl0)) ?_
        replace h := obd_of h; obtain ⟨x26, hx26, h⟩ := h
        refine jr_getA jf_86_71 hx26 ?_
        refine jr_iconst jf_86_74 jc_i_1 ?_
        replace h := obd_of h; obtain ⟨a27, rfl, h⟩ := h
        replace h := jgd_of h; obtain ⟨hb28, h⟩ := h
        replace h := obd_of h; obtain ⟨x29, hx29, h⟩ := h
        refine jr_V6_1 jf_86_75 hb28 (by omega) (r_Row_at (by omega) _ _ _ _ hx29) (by simp only [jcats_cons, jcats_nil, cat_int, cat_long, cat_double, cat_float, cat_ref, rv_cat]; decide) jml_23 (Nat.le_of_ble_eq_true rfl) ?_
        replace h := obd_of h; obtain ⟨a30, rfl, h⟩ := h
        replace h := obd_of h; obtain ⟨x31, hx31, h⟩ := h
        rcases ite_or hx31 with ⟨hb, hx⟩ | ⟨hb0, hx⟩
        · obtain hx := Option.some.inj hx
          refine jr_V8a_1 jf_86_78 hb (by omega) (r_Real_term (by omega) _ _ _ _ hx) (by simp only [jcats_cons, jcats_nil, cat_int, cat_long, cat_double, cat_float, cat_ref, rv_cat]; decide) jml_63 (Nat.le_of_ble_eq_true rfl) ?_
          replace h := obd_of h; obtain ⟨a32, rfl, h⟩ := h
          replace h := obd_of h; obtain ⟨x33, hx33, h⟩ := h
          rcases ite_or hx33 with ⟨hb, hx⟩ | ⟨hb0, hx⟩
          · refine jr_V8a_2 jf_86_81 hb (by omega) (r_Real_plus (by omega) _ _ _ _ _ hx) (by simp only [jcats_cons, jcats_nil, cat_int, cat_long, cat_double, cat_float, cat_ref, rv_cat]; decide) jml_65 (Nat.le_of_ble_eq_true rfl) ?_
            replace h := jgd_of h; obtain ⟨hb34, h⟩ := h
            replace h := jbd2_of h; obtain ⟨x35, μ36, hx35, h⟩ := h
            refine jr_V6_1 jf_86_84 hb34 (by omega) (r_Section_settled (by omega) _ _ _ _ _ hx35) (by simp only [jcats_cons, jcats_nil, cat_int, cat_long, cat_double, cat_float, cat_ref, rv_cat]; decide) jml_70 (Nat.le_of_ble_eq_true rfl) ?_
            replace h := obd_of h; obtain ⟨a37, rfl, h⟩ := h
            replace h := jgd_of h; obtain ⟨hb38, h⟩ := h
            replace h := obd_of h; obtain ⟨μ39, hμ39, h⟩ := h
            refine jr_V6v_2 jf_86_87 hb38 (by omega) (r_Row_put (by omega) _ _ _ _ _ hμ39) (Nat.le_of_ble_eq_true rfl) jml_50 (Nat.le_of_ble_eq_true rfl) ?_
            refine jr_aload_n jf_86_90 rfl (jg2_ne rfl (jg2_ne rfl hl0)) ?_
            replace h := obd_of h; obtain ⟨x40, hx40, h⟩ := h
            refine jr_getA jf_86_91 hx40 ?_
            refine jr_iconst jf_86_94 jc_i_1 ?_
            refine jr_aload_n jf_86_95 rfl (jg2_ne rfl (jg2_ne rfl hl0)) ?_
            refine jr_aload_n jf_86_96 rfl (jg2_ne rfl (jg2_ne rfl hl0)) ?_
            replace h := obd_of h; obtain ⟨x41, hx41, h⟩ := h
            refine jr_getA jf_86_97 hx41 ?_
            refine jr_aload_n jf_86_100 rfl (jg2_ne rfl (jg2_ne rfl hl0)) ?_
            refine jr_iconst jf_86_101 jc_i_2 ?_
            refine jr_lload_n jf_86_102 rfl (jg2_ne rfl (jg2_ne rfl hl1)) ?_
            replace h := jgd_of h; obtain ⟨hb42, h⟩ := h
            replace h := obd_of h; obtain ⟨x43, hx43, h⟩ := h
            refine jr_V6_2 jf_86_103 hb42 (by omega) (r_Section_times (by omega) _ _ _ _ _ hx43) (by simp only [jcats_cons, jcats_nil, cat_int, cat_long, cat_double, cat_float, cat_ref, rv_cat]; decide) jml_78 (Nat.le_of_ble_eq_true rfl) ?_
            refine jr_aload_n jf_86_106 rfl (jg2_ne rfl (jg2_ne rfl hl0)) ?_
            refine jr_iconst jf_86_107 jc_i_4 ?_
            refine jr_lload_n jf_86_108 rfl (jg2_ne rfl jg2_same) ?_
            replace h := jgd_of h; obtain ⟨hb44, h⟩ := h
            replace h := obd_of h; obtain ⟨x45, hx45, h⟩ := h
            refine jr_V6_2 jf_86_109 hb44 (by omega) (r_Section_lessTimes (by omega) _ _ _ _ _ hx45) (by simp only [jcats_cons, jcats_nil, cat_int, cat_long, cat_double, cat_float, cat_ref, rv_cat]; decide) jml_81 (Nat.le_of_ble_eq_true rfl) ?_
            replace h := obd_of h; obtain ⟨a46, rfl, h⟩ := h
            replace h := obd_of h; obtain ⟨x47, hx47, h⟩ := h
            rcases ite_or hx47 with ⟨hb, hx⟩ | ⟨hb0, hx⟩
            · refine jr_V8a_2 jf_86_112 hb (by omega) (r_Real_plus (by omega) _ _ _ _ _ hx) (by simp only [jcats_cons, jcats_nil, cat_int, cat_long, cat_double, cat_float, cat_ref, rv_cat]; decide) jml_65 (Nat.le_of_ble_eq_true rfl) ?_
              replace h := jgd_of h; obtain ⟨hb48, h⟩ := h
              replace h := jbd2_of h; obtain ⟨x49, μ50, hx49, h⟩ := h
              refine jr_V6_1 jf_86_115 hb48 (by omega) (r_Section_settled (by omega) _ _ _ _ _ hx49) (by simp only [jcats_cons, jcats_nil, cat_int, cat_long, cat_double, cat_float, cat_ref, rv_cat]; decide) jml_70 (Nat.le_of_ble_eq_true rfl) ?_
              replace h := obd_of h; obtain ⟨a51, rfl, h⟩ := h
              replace h := jgd_of h; obtain ⟨hb52, h⟩ := h
              replace h := obd_of h; obtain ⟨μ53, hμ53, h⟩ := h
              refine jr_V6v_2 jf_86_118 hb52 (by omega) (r_Row_put (by omega) _ _ _ _ _ hμ53) (Nat.le_of_ble_eq_true rfl) jml_50 (Nat.le_of_ble_eq_true rfl) ?_
              refine jr_lload_n jf_86_121 rfl (jg2_ne rfl jg2_same) ?_
              obtain ⟨rfl, rfl⟩ := Prod.mk.inj (Option.some.inj h)
              exact jr_retJ jf_86_122 jmt_86
            · obtain ⟨hb, hx⟩ := jgd_of hx
              obtain hx := Option.some.inj hx
              refine jr_V8b_2 jf_86_112 hb0 hb (by omega) (r_Shorts_plus (by omega) _ _ _ _ _ hx) (by simp only [jcats_cons, jcats_nil, cat_int, cat_long, cat_double, cat_float, cat_ref, rv_cat]; decide) jml_69 (Nat.le_of_ble_eq_true rfl) ?_
              replace h := jgd_of h; obtain ⟨hb48, h⟩ := h
              replace h := jbd2_of h; obtain ⟨x49, μ50, hx49, h⟩ := h
              refine jr_V6_1 jf_86_115 hb48 (by omega) (r_Section_settled (by omega) _ _ _ _ _ hx49) (by simp only [jcats_cons, jcats_nil, cat_int, cat_long, cat_double, cat_float, cat_ref, rv_cat]; decide) jml_70 (Nat.le_of_ble_eq_true rfl) ?_
              replace h := obd_of h; obtain ⟨a51, rfl, h⟩ := h
              replace h := jgd_of h; obtain ⟨hb52, h⟩ := h
              replace h := obd_of h; obtain ⟨μ53, hμ53, h⟩ := h
              refine jr_V6v_2 jf_86_118 hb52 (by omega) (r_Row_put (by omega) _ _ _ _ _ hμ53) (Nat.le_of_ble_eq_true rfl) jml_50 (Nat.le_of_ble_eq_true rfl) ?_
              refine jr_lload_n jf_86_121 rfl (jg2_ne rfl jg2_same) ?_
              obtain ⟨rfl, rfl⟩ := Prod.mk.inj (Option.some.inj h)
              exact jr_retJ jf_86_122 jmt_86
          · obtain ⟨hb, hx⟩ := jgd_of hx
            obtain hx := Option.some.inj hx
            refine jr_V8b_2 jf_86_81 hb0 hb (by omega) (r_Shorts_plus (by omega) _ _ _ _ _ hx) (by simp only [jcats_cons, jcats_nil, cat_int, cat_long, cat_double, cat_float, cat_ref, rv_cat]; decide) jml_69 (Nat.le_of_ble_eq_true rfl) ?_
            replace h := jgd_of h; obtain ⟨hb34, h⟩ := h
            replace h := jbd2_of h; obtain ⟨x35, μ36, hx35, h⟩ := h
            refine jr_V6_1 jf_86_84 hb34 (by omega) (r_Section_settled (by omega) _ _ _ _ _ hx35) (by simp only [jcats_cons, jcats_nil, cat_int, cat_long, cat_double, cat_float, cat_ref, rv_cat]; decide) jml_70 (Nat.le_of_ble_eq_true rfl) ?_
            replace h := obd_of h; obtain ⟨a37, rfl, h⟩ := h
            replace h := jgd_of h; obtain ⟨hb38, h⟩ := h
            replace h := obd_of h; obtain ⟨μ39, hμ39, h⟩ := h
            refine jr_V6v_2 jf_86_87 hb38 (by omega) (r_Row_put (by omega) _ _ _ _ _ hμ39) (Nat.le_of_ble_eq_true rfl) jml_50 (Nat.le_of_ble_eq_true rfl) ?_
            refine jr_aload_n jf_86_90 rfl (jg2_ne rfl (jg2_ne rfl hl0)) ?_
            replace h := obd_of h; obtain ⟨x40, hx40, h⟩ := h
            refine jr_getA jf_86_91 hx40 ?_
            refine jr_iconst jf_86_94 jc_i_1 ?_
            refine jr_aload_n jf_86_95 rfl (jg2_ne rfl (jg2_ne rfl hl0)) ?_
            refine jr_aload_n jf_86_96 rfl (jg2_ne rfl (jg2_ne rfl hl0)) ?_
            replace h := obd_of h; obtain ⟨x41, hx41, h⟩ := h
            refine jr_getA jf_86_97 hx41 ?_
            refine jr_aload_n jf_86_100 rfl (jg2_ne rfl (jg2_ne rfl hl0)) ?_
            refine jr_iconst jf_86_101 jc_i_2 ?_
            refine jr_lload_n jf_86_102 rfl (jg2_ne rfl (jg2_ne rfl hl1)) ?_
            replace h := jgd_of h; obtain ⟨hb42, h⟩ := h
            replace h := obd_of h; obtain ⟨x43, hx43, h⟩ := h
            refine jr_V6_2 jf_86_103 hb42 (by omega) (r_Section_times (by omega) _ _ _ _ _ hx43) (by simp only [jcats_cons, jcats_nil, cat_int, cat_long, cat_double, cat_float, cat_ref, rv_cat]; decide) jml_78 (Nat.le_of_ble_eq_true rfl) ?_
            refine jr_aload_n jf_86_106 rfl (jg2_ne rfl (jg2_ne rfl hl0)) ?_
            refine jr_iconst jf_86_107 jc_i_4 ?_
            refine jr_lload_n jf_86_108 rfl (jg2_ne rfl jg2_same) ?_
            replace h := jgd_of h; obtain ⟨hb44, h⟩ := h
            replace h := obd_of h; obtain ⟨x45, hx45, h⟩ := h
            refine jr_V6_2 jf_86_109 hb44 (by omega) (r_Section_lessTimes (by omega) _ _ _ _ _ hx45) (by simp only [jcats_cons, jcats_nil, cat_int, cat_long, cat_double, cat_float, cat_ref, rv_cat]; decide) jml_81 (Nat.le_of_ble_eq_true rfl) ?_
            replace h := obd_of h; obtain ⟨a46, rfl, h⟩ := h
            replace h := obd_of h; obtain ⟨x47, hx47, h⟩ := h
            rcases ite_or hx47 with ⟨hb, hx⟩ | ⟨hb0, hx⟩
            · refine jr_V8a_2 jf_86_112 hb (by omega) (r_Real_plus (by omega) _ _ _ _ _ hx) (by simp only [jcats_cons, jcats_nil, cat_int, cat_long, cat_double, cat_float, cat_ref, rv_cat]; decide) jml_65 (Nat.le_of_ble_eq_true rfl) ?_
              replace h := jgd_of h; obtain ⟨hb48, h⟩ := h
              replace h := jbd2_of h; obtain ⟨x49, μ50, hx49, h⟩ := h
              refine jr_V6_1 jf_86_115 hb48 (by omega) (r_Section_settled (by omega) _ _ _ _ _ hx49) (by simp only [jcats_cons, jcats_nil, cat_int, cat_long, cat_double, cat_float, cat_ref, rv_cat]; decide) jml_70 (Nat.le_of_ble_eq_true rfl) ?_
              replace h := obd_of h; obtain ⟨a51, rfl, h⟩ := h
              replace h := jgd_of h; obtain ⟨hb52, h⟩ := h
              replace h := obd_of h; obtain ⟨μ53, hμ53, h⟩ := h
              refine jr_V6v_2 jf_86_118 hb52 (by omega) (r_Row_put (by omega) _ _ _ _ _ hμ53) (Nat.le_of_ble_eq_true rfl) jml_50 (Nat.le_of_ble_eq_true rfl) ?_
              refine jr_lload_n jf_86_121 rfl (jg2_ne rfl jg2_same) ?_
              obtain ⟨rfl, rfl⟩ := Prod.mk.inj (Option.some.inj h)
              exact jr_retJ jf_86_122 jmt_86
            · obtain ⟨hb, hx⟩ := jgd_of hx
              obtain hx := Option.some.inj hx
              refine jr_V8b_2 jf_86_112 hb0 hb (by omega) (r_Shorts_plus (by omega) _ _ _ _ _ hx) (by simp only [jcats_cons, jcats_nil, cat_int, cat_long, cat_double, cat_float, cat_ref, rv_cat]; decide) jml_69 (Nat.le_of_ble_eq_true rfl) ?_
              replace h := jgd_of h; obtain ⟨hb48, h⟩ := h
              replace h := jbd2_of h; obtain ⟨x49, μ50, hx49, h⟩ := h
              refine jr_V6_1 jf_86_115 hb48 (by omega) (r_Section_settled (by omega) _ _ _ _ _ hx49) (by simp only [jcats_cons, jcats_nil, cat_int, cat_long, cat_double, cat_float, cat_ref, rv_cat]; decide) jml_70 (Nat.le_of_ble_eq_true rfl) ?_
              replace h := obd_of h; obtain ⟨a51, rfl, h⟩ := h
              replace h := jgd_of h; obtain ⟨hb52, h⟩ := h
              replace h := obd_of h; obtain ⟨μ53, hμ53, h⟩ := h
              refine jr_V6v_2 jf_86_118 hb52 (by omega) (r_Row_put (by omega) _ _ _ _ _ hμ53) (Nat.le_of_ble_eq_true rfl) jml_50 (Nat.le_of_ble_eq_true rfl) ?_
              refine jr_lload_n jf_86_121 rfl (jg2_ne rfl jg2_same) ?_
              obtain ⟨rfl, rfl⟩ := Prod.mk.inj (Option.some.inj h)
              exact jr_retJ jf_86_122 jmt_86
        · obtain ⟨hb, hx⟩ := jgd_of hx
          obtain hx := Option.some.inj hx
          refine jr_V8b_1 jf_86_78 hb0 hb (by omega) (r_Shorts_term (by omega) _ _ _ _ hx) (by simp only [jcats_cons, jcats_nil, cat_int, cat_long, cat_double, cat_float, cat_ref, rv_cat]; decide) jml_64 (Nat.le_of_ble_eq_true rfl) ?_
          replace h := obd_of h; obtain ⟨a32, rfl, h⟩ := h
          replace h := obd_of h; obtain ⟨x33, hx33, h⟩ := h
          rcases ite_or hx33 with ⟨hb, hx⟩ | ⟨hb0, hx⟩
          · refine jr_V8a_2 jf_86_81 hb (by omega) (r_Real_plus (by omega) _ _ _ _ _ hx) (by simp only [jcats_cons, jcats_nil, cat_int, cat_long, cat_double, cat_float, cat_ref, rv_cat]; decide) jml_65 (Nat.le_of_ble_eq_true rfl) ?_
            replace h := jgd_of h; obtain ⟨hb34, h⟩ := h
            replace h := jbd2_of h; obtain ⟨x35, μ36, hx35, h⟩ := h
            refine jr_V6_1 jf_86_84 hb34 (by omega) (r_Section_settled (by omega) _ _ _ _ _ hx35) (by simp only [jcats_cons, jcats_nil, cat_int, cat_long, cat_double, cat_float, cat_ref, rv_cat]; decide) jml_70 (Nat.le_of_ble_eq_true rfl) ?_
            replace h := obd_of h; obtain ⟨a37, rfl, h⟩ := h
            replace h := jgd_of h; obtain ⟨hb38, h⟩ := h
            replace h := obd_of h; obtain ⟨μ39, hμ39, h⟩ := h
            refine jr_V6v_2 jf_86_87 hb38 (by omega) (r_Row_put (by omega) _ _ _ _ _ hμ39) (Nat.le_of_ble_eq_true rfl) jml_50 (Nat.le_of_ble_eq_true rfl) ?_
            refine jr_aload_n jf_86_90 rfl (jg2_ne rfl (jg2_ne rfl hl0)) ?_
            replace h := obd_of h; obtain ⟨x40, hx40, h⟩ := h
            refine jr_getA jf_86_91 hx40 ?_
            refine jr_iconst jf_86_94 jc_i_1 ?_
            refine jr_aload_n jf_86_95 rfl (jg2_ne rfl (jg2_ne rfl hl0)) ?_
            refine jr_aload_n jf_86_96 rfl (jg2_ne rfl (jg2_ne rfl hl0)) ?_
            replace h := obd_of h; obtain ⟨x41, hx41, h⟩ := h
            refine jr_getA jf_86_97 hx41 ?_
            refine jr_aload_n jf_86_100 rfl (jg2_ne rfl (jg2_ne rfl hl0)) ?_
            refine jr_iconst jf_86_101 jc_i_2 ?_
            refine jr_lload_n jf_86_102 rfl (jg2_ne rfl (jg2_ne rfl hl1)) ?_
            replace h := jgd_of h; obtain ⟨hb42, h⟩ := h
            replace h := obd_of h; obtain ⟨x43, hx43, h⟩ := h
            refine jr_V6_2 jf_86_103 hb42 (by omega) (r_Section_times (by omega) _ _ _ _ _ hx43) (by simp only [jcats_cons, jcats_nil, cat_int, cat_long, cat_double, cat_float, cat_ref, rv_cat]; decide) jml_78 (Nat.le_of_ble_eq_true rfl) ?_
            refine jr_aload_n jf_86_106 rfl (jg2_ne rfl (jg2_ne rfl hl0)) ?_
            refine jr_iconst jf_86_107 jc_i_4 ?_
            refine jr_lload_n jf_86_108 rfl (jg2_ne rfl jg2_same) ?_
            replace h := jgd_of h; obtain ⟨hb44, h⟩ := h
            replace h := obd_of h; obtain ⟨x45, hx45, h⟩ := h
            refine jr_V6_2 jf_86_109 hb44 (by omega) (r_Section_lessTimes (by omega) _ _ _ _ _ hx45) (by simp only [jcats_cons, jcats_nil, cat_int, cat_long, cat_double, cat_float, cat_ref, rv_cat]; decide) jml_81 (Nat.le_of_ble_eq_true rfl) ?_
            replace h := obd_of h; obtain ⟨a46, rfl, h⟩ := h
            replace h := obd_of h; obtain ⟨x47, hx47, h⟩ := h
            rcases ite_or hx47 with ⟨hb, hx⟩ | ⟨hb0, hx⟩
            · refine jr_V8a_2 jf_86_112 hb (by omega) (r_Real_plus (by omega) _ _ _ _ _ hx) (by simp only [jcats_cons, jcats_nil, cat_int, cat_long, cat_double, cat_float, cat_ref, rv_cat]; decide) jml_65 (Nat.le_of_ble_eq_true rfl) ?_
              replace h := jgd_of h; obtain ⟨hb48, h⟩ := h
              replace h := jbd2_of h; obtain ⟨x49, μ50, hx49, h⟩ := h
              refine jr_V6_1 jf_86_115 hb48 (by omega) (r_Section_settled (by omega) _ _ _ _ _ hx49) (by simp only [jcats_cons, jcats_nil, cat_int, cat_long, cat_double, cat_float, cat_ref, rv_cat]; decide) jml_70 (Nat.le_of_ble_eq_true rfl) ?_
              replace h := obd_of h; obtain ⟨a51, rfl, h⟩ := h
              replace h := jgd_of h; obtain ⟨hb52, h⟩ := h
              replace h := obd_of h; obtain ⟨μ53, hμ53, h⟩ := h
              refine jr_V6v_2 jf_86_118 hb52 (by omega) (r_Row_put (by omega) _ _ _ _ _ hμ53) (Nat.le_of_ble_eq_true rfl) jml_50 (Nat.le_of_ble_eq_true rfl) ?_
              refine jr_lload_n jf_86_121 rfl (jg2_ne rfl jg2_same) ?_
              obtain ⟨rfl, rfl⟩ := Prod.mk.inj (Option.some.inj h)
              exact jr_retJ jf_86_122 jmt_86
            · obtain ⟨hb, hx⟩ := jgd_of hx
              obtain hx := Option.some.inj hx
              refine jr_V8b_2 jf_86_112 hb0 hb (by omega) (r_Shorts_plus (by omega) _ _ _ _ _ hx) (by simp only [jcats_cons, jcats_nil, cat_int, cat_long, cat_double, cat_float, cat_ref, rv_cat]; decide) jml_69 (Nat.le_of_ble_eq_true rfl) ?_
              replace h := jgd_of h; obtain ⟨hb48, h⟩ := h
              replace h := jbd2_of h; obtain ⟨x49, μ50, hx49, h⟩ := h
              refine jr_V6_1 jf_86_115 hb48 (by omega) (r_Section_settled (by omega) _ _ _ _ _ hx49) (by simp only [jcats_cons, jcats_nil, cat_int, cat_long, cat_double, cat_float, cat_ref, rv_cat]; decide) jml_70 (Nat.le_of_ble_eq_true rfl) ?_
              replace h := obd_of h; obtain ⟨a51, rfl, h⟩ := h
              replace h := jgd_of h; obtain ⟨hb52, h⟩ := h
              replace h := obd_of h; obtain ⟨μ53, hμ53, h⟩ := h
              refine jr_V6v_2 jf_86_118 hb52 (by omega) (r_Row_put (by omega) _ _ _ _ _ hμ53) (Nat.le_of_ble_eq_true rfl) jml_50 (Nat.le_of_ble_eq_true rfl) ?_
              refine jr_lload_n jf_86_121 rfl (jg2_ne rfl jg2_same) ?_
              obtain ⟨rfl, rfl⟩ := Prod.mk.inj (Option.some.inj h)
              exact jr_retJ jf_86_122 jmt_86
          · obtain ⟨hb, hx⟩ := jgd_of hx
            obtain hx := Option.some.inj hx
            refine jr_V8b_2 jf_86_81 hb0 hb (by omega) (r_Shorts_plus (by omega) _ _ _ _ _ hx) (by simp only [jcats_cons, jcats_nil, cat_int, cat_long, cat_double, cat_float, cat_ref, rv_cat]; decide) jml_69 (Nat.le_of_ble_eq_true rfl) ?_
            replace h := jgd_of h; obtain ⟨hb34, h⟩ := h
            replace h := jbd2_of h; obtain ⟨x35, μ36, hx35, h⟩ := h
            refine jr_V6_1 jf_86_84 hb34 (by omega) (r_Section_settled (by omega) _ _ _ _ _ hx35) (by simp only [jcats_cons, jcats_nil, cat_int, cat_long, cat_double, cat_float, cat_ref, rv_cat]; decide) jml_70 (Nat.le_of_ble_eq_true rfl) ?_
            replace h := obd_of h; obtain ⟨a37, rfl, h⟩ := h
            replace h := jgd_of h; obtain ⟨hb38, h⟩ := h
            replace h := obd_of h; obtain ⟨μ39, hμ39, h⟩ := h
            refine jr_V6v_2 jf_86_87 hb38 (by omega) (r_Row_put (by omega) _ _ _ _ _ hμ39) (Nat.le_of_ble_eq_true rfl) jml_50 (Nat.le_of_ble_eq_true rfl) ?_
            refine jr_aload_n jf_86_90 rfl (jg2_ne rfl (jg2_ne rfl hl0)) ?_
            replace h := obd_of h; obtain ⟨x40, hx40, h⟩ := h
            refine jr_getA jf_86_91 hx40 ?_
            refine jr_iconst jf_86_94 jc_i_1 ?_
            refine jr_aload_n jf_86_95 rfl (jg2_ne rfl (jg2_ne rfl hl0)) ?_
            refine jr_aload_n jf_86_96 rfl (jg2_ne rfl (jg2_ne rfl hl0)) ?_
            replace h := obd_of h; obtain ⟨x41, hx41, h⟩ := h
            refine jr_getA jf_86_97 hx41 ?_
            refine jr_aload_n jf_86_100 rfl (jg2_ne rfl (jg2_ne rfl hl0)) ?_
            refine jr_iconst jf_86_101 jc_i_2 ?_
            refine jr_lload_n jf_86_102 rfl (jg2_ne rfl (jg2_ne rfl hl1)) ?_
            replace h := jgd_of h; obtain ⟨hb42, h⟩ := h
            replace h := obd_of h; obtain ⟨x43, hx43, h⟩ := h
            refine jr_V6_2 jf_86_103 hb42 (by omega) (r_Section_times (by omega) _ _ _ _ _ hx43) (by simp only [jcats_cons, jcats_nil, cat_int, cat_long, cat_double, cat_float, cat_ref, rv_cat]; decide) jml_78 (Nat.le_of_ble_eq_true rfl) ?_
            refine jr_aload_n jf_86_106 rfl (jg2_ne rfl (jg2_ne rfl hl0)) ?_
            refine jr_iconst jf_86_107 jc_i_4 ?_
            refine jr_lload_n jf_86_108 rfl (jg2_ne rfl jg2_same) ?_
            replace h := jgd_of h; obtain ⟨hb44, h⟩ := h
            replace h := obd_of h; obtain ⟨x45, hx45, h⟩ := h
            refine jr_V6_2 jf_86_109 hb44 (by omega) (r_Section_lessTimes (by omega) _ _ _ _ _ hx45) (by simp only [jcats_cons, jcats_nil, cat_int, cat_long, cat_double, cat_float, cat_ref, rv_cat]; decide) jml_81 (Nat.le_of_ble_eq_true rfl) ?_
            replace h := obd_of h; obtain ⟨a46, rfl, h⟩ := h
            replace h := obd_of h; obtain ⟨x47, hx47, h⟩ := h
            rcases ite_or hx47 with ⟨hb, hx⟩ | ⟨hb0, hx⟩
            · refine jr_V8a_2 jf_86_112 hb (by omega) (r_Real_plus (by omega) _ _ _ _ _ hx) (by simp only [jcats_cons, jcats_nil, cat_int, cat_long, cat_double, cat_float, cat_ref, rv_cat]; decide) jml_65 (Nat.le_of_ble_eq_true rfl) ?_
              replace h := jgd_of h; obtain ⟨hb48, h⟩ := h
              replace h := jbd2_of h; obtain ⟨x49, μ50, hx49, h⟩ := h
              refine jr_V6_1 jf_86_115 hb48 (by omega) (r_Section_settled (by omega) _ _ _ _ _ hx49) (by simp only [jcats_cons, jcats_nil, cat_int, cat_long, cat_double, cat_float, cat_ref, rv_cat]; decide) jml_70 (Nat.le_of_ble_eq_true rfl) ?_
              replace h := obd_of h; obtain ⟨a51, rfl, h⟩ := h
              replace h := jgd_of h; obtain ⟨hb52, h⟩ := h
              replace h := obd_of h; obtain ⟨μ53, hμ53, h⟩ := h
              refine jr_V6v_2 jf_86_118 hb52 (by omega) (r_Row_put (by omega) _ _ _ _ _ hμ53) (Nat.le_of_ble_eq_true rfl) jml_50 (Nat.le_of_ble_eq_true rfl) ?_
              refine jr_lload_n jf_86_121 rfl (jg2_ne rfl jg2_same) ?_
              obtain ⟨rfl, rfl⟩ := Prod.mk.inj (Option.some.inj h)
              exact jr_retJ jf_86_122 jmt_86
            · obtain ⟨hb, hx⟩ := jgd_of hx
              obtain hx := Option.some.inj hx
              refine jr_V8b_2 jf_86_112 hb0 hb (by omega) (r_Shorts_plus (by omega) _ _ _ _ _ hx) (by simp only [jcats_cons, jcats_nil, cat_int, cat_long, cat_double, cat_float, cat_ref, rv_cat]; decide) jml_69 (Nat.le_of_ble_eq_true rfl) ?_
              replace h := jgd_of h; obtain ⟨hb48, h⟩ := h
              replace h := jbd2_of h; obtain ⟨x49, μ50, hx49, h⟩ := h
              refine jr_V6_1 jf_86_115 hb48 (by omega) (r_Section_settled (by omega) _ _ _ _ _ hx49) (by simp only [jcats_cons, jcats_nil, cat_int, cat_long, cat_double, cat_float, cat_ref, rv_cat]; decide) jml_70 (Nat.le_of_ble_eq_true rfl) ?_
              replace h := obd_of h; obtain ⟨a51, rfl, h⟩ := h
              replace h := jgd_of h; obtain ⟨hb52, h⟩ := h
              replace h := obd_of h; obtain ⟨μ53, hμ53, h⟩ := h
              refine jr_V6v_2 jf_86_118 hb52 (by omega) (r_Row_put (by omega) _ _ _ _ _ hμ53) (Nat.le_of_ble_eq_true rfl) jml_50 (Nat.le_of_ble_eq_true rfl) ?_
              refine jr_lload_n jf_86_121 rfl (jg2_ne rfl jg2_same) ?_
              obtain ⟨rfl, rfl⟩ := Prod.mk.inj (Option.some.inj h)
              exact jr_retJ jf_86_122 jmt_86
  · obtain ⟨hb, hx⟩ := jgd_of hx
    obtain hx := Option.some.inj hx
    refine jr_V8b_1 jf_86_23 hb0 hb (by omega) (r_Shorts_term (by omega) _ _ _ _ hx) (by simp only [jcats_cons, jcats_nil, cat_int, cat_long, cat_double, cat_float, cat_ref, rv_cat]; decide) jml_64 (Nat.le_of_ble_eq_true rfl) ?_
    replace h := obd_of h; obtain ⟨a11, rfl, h⟩ := h
    replace h := obd_of h; obtain ⟨x12, hx12, h⟩ := h
    rcases ite_or hx12 with ⟨hb, hx⟩ | ⟨hb0, hx⟩
    · refine jr_V8a_2 jf_86_26 hb (by omega) (r_Real_plus (by omega) _ _ _ _ _ hx) (Nat.le_of_ble_eq_true rfl) jml_65 (Nat.le_of_ble_eq_true rfl) ?_
      replace h := jgd_of h; obtain ⟨hb13, h⟩ := h
      replace h := jbd2_of h; obtain ⟨x14, μ15, hx14, h⟩ := h
      refine jr_V6_1 jf_86_29 hb13 (by omega) (r_Section_settled (by omega) _ _ _ _ _ hx14) (Nat.le_of_ble_eq_true rfl) jml_70 (Nat.le_of_ble_eq_true rfl) ?_
      refine jr_lstore_n jf_86_32 rfl jml_86 (by decide) ?_
      refine jr_aload_n jf_86_33 rfl (jg2_ne rfl hl0) ?_
      replace h := obd_of h; obtain ⟨x16, hx16, h⟩ := h
      refine jr_getA jf_86_34 hx16 ?_
      refine jr_aload_n jf_86_37 rfl (jg2_ne rfl hl0) ?_
      refine jr_iconst jf_86_38 jc_i_1 ?_
      refine jr_lload_n jf_86_39 rfl (jg2_ne rfl hl1) ?_
      replace h := jgd_of h; obtain ⟨hb17, h⟩ := h
      replace h := obd_of h; obtain ⟨x18, hx18, h⟩ := h
      refine jr_V6_2 jf_86_40 hb17 (by omega) (r_Section_times (by omega) _ _ _ _ _ hx18) (by simp only [jcats_cons, jcats_nil, cat_int, cat_long, cat_double, cat_float, cat_ref, rv_cat]; decide) jml_78 (Nat.le_of_ble_eq_true rfl) ?_
      refine jr_aload_n jf_86_43 rfl (jg2_ne rfl hl0) ?_
      refine jr_iconst jf_86_44 jc_i_3 ?_
      refine jr_lload_n jf_86_45 rfl jg2_same ?_
      replace h := jgd_of h; obtain ⟨hb19, h⟩ := h
      replace h := obd_of h; obtain ⟨x20, hx20, h⟩ := h
      refine jr_V6_2 jf_86_46 hb19 (by omega) (r_Section_lessTimes (by omega) _ _ _ _ _ hx20) (by simp only [jcats_cons, jcats_nil, cat_int, cat_long, cat_double, cat_float, cat_ref, rv_cat]; decide) jml_81 (Nat.le_of_ble_eq_true rfl) ?_
      replace h := obd_of h; obtain ⟨a21, rfl, h⟩ := h
      replace h := obd_of h; obtain ⟨x22, hx22, h⟩ := h
      rcases ite_or hx22 with ⟨hb, hx⟩ | ⟨hb0, hx⟩
      · refine jr_V8a_2 jf_86_49 hb (by omega) (r_Real_plus (by omega) _ _ _ _ _ hx) (Nat.le_of_ble_eq_true rfl) jml_65 (Nat.le_of_ble_eq_true rfl) ?_
        refine jr_lstore jf_86_52 jml_86 (by decide) ?_
        refine jr_aload_n jf_86_54 rfl (jg2_ne rfl (jg2_ne rfl hl0)) ?_
        replace h := obd_of h; obtain ⟨x23, hx23, h⟩ := h
        refine jr_getA jf_86_55 hx23 ?_
        refine jr_iconst jf_86_58 jc_i_0 ?_
        refine jr_aload_n jf_86_59 rfl (jg2_ne rfl (jg2_ne rfl hl0)) ?_
        refine jr_aload_n jf_86_60 rfl (jg2_ne rfl (jg2_ne rfl hl0)) ?_
        replace h := obd_of h; obtain ⟨x24, hx24, h⟩ := h
        refine jr_getA jf_86_61 hx24 ?_
        refine jr_lload jf_86_64 jg2_same ?_
        refine jr_aload_n jf_86_66 rfl (jg2_ne rfl (jg2_ne rfl hl0)) ?_
        replace h := obd_of h; obtain ⟨x25, hx25, h⟩ := h
        refine jr_getA jf_86_67 hx25 ?_
        refine jr_aload_n jf_86_70 rfl (jg2_ne rfl (jg2_ne rfl hl0)) ?_
        replace h := obd_of h; obtain ⟨x26, hx26, h⟩ := h
        refine jr_getA jf_86_71 hx26 ?_
        refine jr_iconst jf_86_74 jc_i_1 ?_
        replace h := obd_of h; obtain ⟨a27, rfl, h⟩ := h
        replace h := jgd_of h; obtain ⟨hb28, h⟩ := h
        replace h := obd_of h; obtain ⟨x29, hx29, h⟩ := h
        refine jr_V6_1 jf_86_75 hb28 (by omega) (r_Row_at (by omega) _ _ _ _ hx29) (by simp only [jcats_cons, jcats_nil, cat_int, cat_long, cat_double, cat_float, cat_ref, rv_cat]; decide) jml_23 (Nat.le_of_ble_eq_true rfl) ?_
        replace h := obd_of h; obtain ⟨a30, rfl, h⟩ := h
        replace h := obd_of h; obtain ⟨x31, hx31, h⟩ := h
        rcases ite_or hx31 with ⟨hb, hx⟩ | ⟨hb0, hx⟩
        · obtain hx := Option.some.inj hx
          refine jr_V8a_1 jf_86_78 hb (by omega) (r_Real_term (by omega) _ _ _ _ hx) (by simp only [jcats_cons, jcats_nil, cat_int, cat_long, cat_double, cat_float, cat_ref, rv_cat]; decide) jml_63 (Nat.le_of_ble_eq_true rfl) ?_
          replace h := obd_of h; obtain ⟨a32, rfl, h⟩ := h
          replace h := obd_of h; obtain ⟨x33, hx33, h⟩ := h
          rcases ite_or hx33 with ⟨hb, hx⟩ | ⟨hb0, hx⟩
          · refine jr_V8a_2 jf_86_81 hb (by omega) (r_Real_plus (by omega) _ _ _ _ _ hx) (by simp only [jcats_cons, jcats_nil, cat_int, cat_long, cat_double, cat_float, cat_ref, rv_cat]; decide) jml_65 (Nat.le_of_ble_eq_true rfl) ?_
            replace h := jgd_of h; obtain ⟨hb34, h⟩ := h
            replace h := jbd2_of h; obtain ⟨x35, μ36, hx35, h⟩ := h
            refine jr_V6_1 jf_86_84 hb34 (by omega) (r_Section_settled (by omega) _ _ _ _ _ hx35) (by simp only [jcats_cons, jcats_nil, cat_int, cat_long, cat_double, cat_float, cat_ref, rv_cat]; decide) jml_70 (Nat.le_of_ble_eq_true rfl) ?_
            replace h := obd_of h; obtain ⟨a37, rfl, h⟩ := h
            replace h := jgd_of h; obtain ⟨hb38, h⟩ := h
            replace h := obd_of h; obtain ⟨μ39, hμ39, h⟩ := h
            refine jr_V6v_2 jf_86_87 hb38 (by omega) (r_Row_put (by omega) _ _ _ _ _ hμ39) (Nat.le_of_ble_eq_true rfl) jml_50 (Nat.le_of_ble_eq_true rfl) ?_
            refine jr_aload_n jf_86_90 rfl (jg2_ne rfl (jg2_ne rfl hl0)) ?_
            replace h := obd_of h; obtain ⟨x40, hx40, h⟩ := h
            refine jr_getA jf_86_91 hx40 ?_
            refine jr_iconst jf_86_94 jc_i_1 ?_
            refine jr_aload_n jf_86_95 rfl (jg2_ne rfl (jg2_ne rfl hl0)) ?_
            refine jr_aload_n jf_86_96 rfl (jg2_ne rfl (jg2_ne rfl hl0)) ?_
            replace h := obd_of h; obtain ⟨x41, hx41, h⟩ := h
            refine jr_getA jf_86_97 hx41 ?_
            refine jr_aload_n jf_86_100 rfl (jg2_ne rfl (jg2_ne rfl hl0)) ?_
            refine jr_iconst jf_86_101 jc_i_2 ?_
            refine jr_lload_n jf_86_102 rfl (jg2_ne rfl (jg2_ne rfl hl1)) ?_
            replace h := jgd_of h; obtain ⟨hb42, h⟩ := h
            replace h := obd_of h; obtain ⟨x43, hx43, h⟩ := h
            refine jr_V6_2 jf_86_103 hb42 (by omega) (r_Section_times (by omega) _ _ _ _ _ hx43) (by simp only [jcats_cons, jcats_nil, cat_int, cat_long, cat_double, cat_float, cat_ref, rv_cat]; decide) jml_78 (Nat.le_of_ble_eq_true rfl) ?_
            refine jr_aload_n jf_86_106 rfl (jg2_ne rfl (jg2_ne rfl hl0)) ?_
            refine jr_iconst jf_86_107 jc_i_4 ?_
            refine jr_lload_n jf_86_108 rfl (jg2_ne rfl jg2_same) ?_
            replace h := jgd_of h; obtain ⟨hb44, h⟩ := h
            replace h := obd_of h; obtain ⟨x45, hx45, h⟩ := h
            refine jr_V6_2 jf_86_109 hb44 (by omega) (r_Section_lessTimes (by omega) _ _ _ _ _ hx45) (by simp only [jcats_cons, jcats_nil, cat_int, cat_long, cat_double, cat_float, cat_ref, rv_cat]; decide) jml_81 (Nat.le_of_ble_eq_true rfl) ?_
            replace h := obd_of h; obtain ⟨a46, rfl, h⟩ := h
            replace h := obd_of h; obtain ⟨x47, hx47, h⟩ := h
            rcases ite_or hx47 with ⟨hb, hx⟩ | ⟨hb0, hx⟩
            · refine jr_V8a_2 jf_86_112 hb (by omega) (r_Real_plus (by omega) _ _ _ _ _ hx) (by simp only [jcats_cons, jcats_nil, cat_int, cat_long, cat_double, cat_float, cat_ref, rv_cat]; decide) jml_65 (Nat.le_of_ble_eq_true rfl) ?_
              replace h := jgd_of h; obtain ⟨hb48, h⟩ := h
              replace h := jbd2_of h; obtain ⟨x49, μ50, hx49, h⟩ := h
              refine jr_V6_1 jf_86_115 hb48 (by omega) (r_Section_settled (by omega) _ _ _ _ _ hx49) (by simp only [jcats_cons, jcats_nil, cat_int, cat_long, cat_double, cat_float, cat_ref, rv_cat]; decide) jml_70 (Nat.le_of_ble_eq_true rfl) ?_
              replace h := obd_of h; obtain ⟨a51, rfl, h⟩ := h
              replace h := jgd_of h; obtain ⟨hb52, h⟩ := h
              replace h := obd_of h; obtain ⟨μ53, hμ53, h⟩ := h
              refine jr_V6v_2 jf_86_118 hb52 (by omega) (r_Row_put (by omega) _ _ _ _ _ hμ53) (Nat.le_of_ble_eq_true rfl) jml_50 (Nat.le_of_ble_eq_true rfl) ?_
              refine jr_lload_n jf_86_121 rfl (jg2_ne rfl jg2_same) ?_
              obtain ⟨rfl, rfl⟩ := Prod.mk.inj (Option.some.inj h)
              exact jr_retJ jf_86_122 jmt_86
            · obtain ⟨hb, hx⟩ := jgd_of hx
              obtain hx := Option.some.inj hx
              refine jr_V8b_2 jf_86_112 hb0 hb (by omega) (r_Shorts_plus (by omega) _ _ _ _ _ hx) (by simp only [jcats_cons, jcats_nil, cat_int, cat_long, cat_double, cat_float, cat_ref, rv_cat]; decide) jml_69 (Nat.le_of_ble_eq_true rfl) ?_
              replace h := jgd_of h; obtain ⟨hb48, h⟩ := h
              replace h := jbd2_of h; obtain ⟨x49, μ50, hx49, h⟩ := h
              refine jr_V6_1 jf_86_115 hb48 (by omega) (r_Section_settled (by omega) _ _ _ _ _ hx49) (by simp only [jcats_cons, jcats_nil, cat_int, cat_long, cat_double, cat_float, cat_ref, rv_cat]; decide) jml_70 (Nat.le_of_ble_eq_true rfl) ?_
              replace h := obd_of h; obtain ⟨a51, rfl, h⟩ := h
              replace h := jgd_of h; obtain ⟨hb52, h⟩ := h
              replace h := obd_of h; obtain ⟨μ53, hμ53, h⟩ := h
              refine jr_V6v_2 jf_86_118 hb52 (by omega) (r_Row_put (by omega) _ _ _ _ _ hμ53) (Nat.le_of_ble_eq_true rfl) jml_50 (Nat.le_of_ble_eq_true rfl) ?_
              refine jr_lload_n jf_86_121 rfl (jg2_ne rfl jg2_same) ?_
              obtain ⟨rfl, rfl⟩ := Prod.mk.inj (Option.some.inj h)
              exact jr_retJ jf_86_122 jmt_86
          · obtain ⟨hb, hx⟩ := jgd_of hx
            obtain hx := Option.some.inj hx
            refine jr_V8b_2 jf_86_81 hb0 hb (by omega) (r_Shorts_plus (by omega) _ _ _ _ _ hx) (by simp only [jcats_cons, jcats_nil, cat_int, cat_long, cat_double, cat_float, cat_ref, rv_cat]; decide) jml_69 (Nat.le_of_ble_eq_true rfl) ?_
            replace h := jgd_of h; obtain ⟨hb34, h⟩ := h
            replace h := jbd2_of h; obtain ⟨x35, μ36, hx35, h⟩ := h
            refine jr_V6_1 jf_86_84 hb34 (by omega) (r_Section_settled (by omega) _ _ _ _ _ hx35) (by simp only [jcats_cons, jcats_nil, cat_int, cat_long, cat_double, cat_float, cat_ref, rv_cat]; decide) jml_70 (Nat.le_of_ble_eq_true rfl) ?_
            replace h := obd_of h; obtain ⟨a37, rfl, h⟩ := h
            replace h := jgd_of h; obtain ⟨hb38, h⟩ := h
            replace h := obd_of h; obtain ⟨μ39, hμ39, h⟩ := h
            refine jr_V6v_2 jf_86_87 hb38 (by omega) (r_Row_put (by omega) _ _ _ _ _ hμ39) (Nat.le_of_ble_eq_true rfl) jml_50 (Nat.le_of_ble_eq_true rfl) ?_
            refine jr_aload_n jf_86_90 rfl (jg2_ne rfl (jg2_ne rfl hl0)) ?_
            replace h := obd_of h; obtain ⟨x40, hx40, h⟩ := h
            refine jr_getA jf_86_91 hx40 ?_
            refine jr_iconst jf_86_94 jc_i_1 ?_
            refine jr_aload_n jf_86_95 rfl (jg2_ne rfl (jg2_ne rfl hl0)) ?_
            refine jr_aload_n jf_86_96 rfl (jg2_ne rfl (jg2_ne rfl hl0)) ?_
            replace h := obd_of h; obtain ⟨x41, hx41, h⟩ := h
            refine jr_getA jf_86_97 hx41 ?_
            refine jr_aload_n jf_86_100 rfl (jg2_ne rfl (jg2_ne rfl hl0)) ?_
            refine jr_iconst jf_86_101 jc_i_2 ?_
            refine jr_lload_n jf_86_102 rfl (jg2_ne rfl (jg2_ne rfl hl1)) ?_
            replace h := jgd_of h; obtain ⟨hb42, h⟩ := h
            replace h := obd_of h; obtain ⟨x43, hx43, h⟩ := h
            refine jr_V6_2 jf_86_103 hb42 (by omega) (r_Section_times (by omega) _ _ _ _ _ hx43) (by simp only [jcats_cons, jcats_nil, cat_int, cat_long, cat_double, cat_float, cat_ref, rv_cat]; decide) jml_78 (Nat.le_of_ble_eq_true rfl) ?_
            refine jr_aload_n jf_86_106 rfl (jg2_ne rfl (jg2_ne rfl hl0)) ?_
            refine jr_iconst jf_86_107 jc_i_4 ?_
            refine jr_lload_n jf_86_108 rfl (jg2_ne rfl jg2_same) ?_
            replace h := jgd_of h; obtain ⟨hb44, h⟩ := h
            replace h := obd_of h; obtain ⟨x45, hx45, h⟩ := h
            refine jr_V6_2 jf_86_109 hb44 (by omega) (r_Section_lessTimes (by omega) _ _ _ _ _ hx45) (by simp only [jcats_cons, jcats_nil, cat_int, cat_long, cat_double, cat_float, cat_ref, rv_cat]; decide) jml_81 (Nat.le_of_ble_eq_true rfl) ?_
            replace h := obd_of h; obtain ⟨a46, rfl, h⟩ := h
            replace h := obd_of h; obtain ⟨x47, hx47, h⟩ := h
            rcases ite_or hx47 with ⟨hb, hx⟩ | ⟨hb0, hx⟩
            · refine jr_V8a_2 jf_86_112 hb (by omega) (r_Real_plus (by omega) _ _ _ _ _ hx) (by simp only [jcats_cons, jcats_nil, cat_int, cat_long, cat_double, cat_float, cat_ref, rv_cat]; decide) jml_65 (Nat.le_of_ble_eq_true rfl) ?_
              replace h := jgd_of h; obtain ⟨hb48, h⟩ := h
              replace h := jbd2_of h; obtain ⟨x49, μ50, hx49, h⟩ := h
              refine jr_V6_1 jf_86_115 hb48 (by omega) (r_Section_settled (by omega) _ _ _ _ _ hx49) (by simp only [jcats_cons, jcats_nil, cat_int, cat_long, cat_double, cat_float, cat_ref, rv_cat]; decide) jml_70 (Nat.le_of_ble_eq_true rfl) ?_
              replace h := obd_of h; obtain ⟨a51, rfl, h⟩ := h
              replace h := jgd_of h; obtain ⟨hb52, h⟩ := h
              replace h := obd_of h; obtain ⟨μ53, hμ53, h⟩ := h
              refine jr_V6v_2 jf_86_118 hb52 (by omega) (r_Row_put (by omega) _ _ _ _ _ hμ53) (Nat.le_of_ble_eq_true rfl) jml_50 (Nat.le_of_ble_eq_true rfl) ?_
              refine jr_lload_n jf_86_121 rfl (jg2_ne rfl jg2_same) ?_
              obtain ⟨rfl, rfl⟩ := Prod.mk.inj (Option.some.inj h)
              exact jr_retJ jf_86_122 jmt_86
            · obtain ⟨hb, hx⟩ := jgd_of hx
              obtain hx := Option.some.inj hx
              refine jr_V8b_2 jf_86_112 hb0 hb (by omega) (r_Shorts_plus (by omega) _ _ _ _ _ hx) (by simp only [jcats_cons, jcats_nil, cat_int, cat_long, cat_double, cat_float, cat_ref, rv_cat]; decide) jml_69 (Nat.le_of_ble_eq_true rfl) ?_
              replace h := jgd_of h; obtain ⟨hb48, h⟩ := h
              replace h := jbd2_of h; obtain ⟨x49, μ50, hx49, h⟩ := h
              refine jr_V6_1 jf_86_115 hb48 (by omega) (r_Section_settled (by omega) _ _ _ _ _ hx49) (by simp only [jcats_cons, jcats_nil, cat_int, cat_long, cat_double, cat_float, cat_ref, rv_cat]; decide) jml_70 (Nat.le_of_ble_eq_true rfl) ?_
              replace h := obd_of h; obtain ⟨a51, rfl, h⟩ := h
              replace h := jgd_of h; obtain ⟨hb52, h⟩ := h
              replace h := obd_of h; obtain ⟨μ53, hμ53, h⟩ := h
              refine jr_V6v_2 jf_86_118 hb52 (by omega) (r_Row_put (by omega) _ _ _ _ _ hμ53) (Nat.le_of_ble_eq_true rfl) jml_50 (Nat.le_of_ble_eq_true rfl) ?_
              refine jr_lload_n jf_86_121 rfl (jg2_ne rfl jg2_same) ?_
              obtain ⟨rfl, rfl⟩ := Prod.mk.inj (Option.some.inj h)
              exact jr_retJ jf_86_122 jmt_86
        · obtain ⟨hb, hx⟩ := jgd_of hx
          obtain hx := Option.some.inj hx
          refine jr_V8b_1 jf_86_78 hb0 hb (by omega) (r_Shorts_term (by omega) _ _ _ _ hx) (by simp only [jcats_cons, jcats_nil, cat_int, cat_long, cat_double, cat_float, cat_ref, rv_cat]; decide) jml_64 (Nat.le_of_ble_eq_true rfl) ?_
          replace h := obd_of h; obtain ⟨a32, rfl, h⟩ := h
          replace h := obd_of h; obtain ⟨x33, hx33, h⟩ := h
          rcases ite_or hx33 with ⟨hb, hx⟩ | ⟨hb0, hx⟩
          · refine jr_V8a_2 jf_86_81 hb (by omega) (r_Real_plus (by omega) _ _ _ _ _ hx) (by simp only [jcats_cons, jcats_nil, cat_int, cat_long, cat_double, cat_float, cat_ref, rv_cat]; decide) jml_65 (Nat.le_of_ble_eq_true rfl) ?_
            replace h := jgd_of h; obtain ⟨hb34, h⟩ := h
            replace h := jbd2_of h; obtain ⟨x35, μ36, hx35, h⟩ := h
            refine jr_V6_1 jf_86_84 hb34 (by omega) (r_Section_settled (by omega) _ _ _ _ _ hx35) (by simp only [jcats_cons, jcats_nil, cat_int, cat_long, cat_double, cat_float, cat_ref, rv_cat]; decide) jml_70 (Nat.le_of_ble_eq_true rfl) ?_
            replace h := obd_of h; obtain ⟨a37, rfl, h⟩ := h
            replace h := jgd_of h; obtain ⟨hb38, h⟩ := h
            replace h := obd_of h; obtain ⟨μ39, hμ39, h⟩ := h
            refine jr_V6v_2 jf_86_87 hb38 (by omega) (r_Row_put (by omega) _ _ _ _ _ hμ39) (Nat.le_of_ble_eq_true rfl) jml_50 (Nat.le_of_ble_eq_true rfl) ?_
            refine jr_aload_n jf_86_90 rfl (jg2_ne rfl (jg2_ne rfl hl0)) ?_
            replace h := obd_of h; obtain ⟨x40, hx40, h⟩ := h
            refine jr_getA jf_86_91 hx40 ?_
            refine jr_iconst jf_86_94 jc_i_1 ?_
            refine jr_aload_n jf_86_95 rfl (jg2_ne rfl (jg2_ne rfl hl0)) ?_
            refine jr_aload_n jf_86_96 rfl (jg2_ne rfl (jg2_ne rfl hl0)) ?_
            replace h := obd_of h; obtain ⟨x41, hx41, h⟩ := h
            refine jr_getA jf_86_97 hx41 ?_
            refine jr_aload_n jf_86_100 rfl (jg2_ne rfl (jg2_ne rfl hl0)) ?_
            refine jr_iconst jf_86_101 jc_i_2 ?_
            refine jr_lload_n jf_86_102 rfl (jg2_ne rfl (jg2_ne rfl hl1)) ?_
            replace h := jgd_of h; obtain ⟨hb42, h⟩ := h
            replace h := obd_of h; obtain ⟨x43, hx43, h⟩ := h
            refine jr_V6_2 jf_86_103 hb42 (by omega) (r_Section_times (by omega) _ _ _ _ _ hx43) (by simp only [jcats_cons, jcats_nil, cat_int, cat_long, cat_double, cat_float, cat_ref, rv_cat]; decide) jml_78 (Nat.le_of_ble_eq_true rfl) ?_
            refine jr_aload_n jf_86_106 rfl (jg2_ne rfl (jg2_ne rfl hl0)) ?_
            refine jr_iconst jf_86_107 jc_i_4 ?_
            refine jr_lload_n jf_86_108 rfl (jg2_ne rfl jg2_same) ?_
            replace h := jgd_of h; obtain ⟨hb44, h⟩ := h
            replace h := obd_of h; obtain ⟨x45, hx45, h⟩ := h
            refine jr_V6_2 jf_86_109 hb44 (by omega) (r_Section_lessTimes (by omega) _ _ _ _ _ hx45) (by simp only [jcats_cons, jcats_nil, cat_int, cat_long, cat_double, cat_float, cat_ref, rv_cat]; decide) jml_81 (Nat.le_of_ble_eq_true rfl) ?_
            replace h := obd_of h; obtain ⟨a46, rfl, h⟩ := h
            replace h := obd_of h; obtain ⟨x47, hx47, h⟩ := h
            rcases ite_or hx47 with ⟨hb, hx⟩ | ⟨hb0, hx⟩
            · refine jr_V8a_2 jf_86_112 hb (by omega) (r_Real_plus (by omega) _ _ _ _ _ hx) (by simp only [jcats_cons, jcats_nil, cat_int, cat_long, cat_double, cat_float, cat_ref, rv_cat]; decide) jml_65 (Nat.le_of_ble_eq_true rfl) ?_
              replace h := jgd_of h; obtain ⟨hb48, h⟩ := h
              replace h := jbd2_of h; obtain ⟨x49, μ50, hx49, h⟩ := h
              refine jr_V6_1 jf_86_115 hb48 (by omega) (r_Section_settled (by omega) _ _ _ _ _ hx49) (by simp only [jcats_cons, jcats_nil, cat_int, cat_long, cat_double, cat_float, cat_ref, rv_cat]; decide) jml_70 (Nat.le_of_ble_eq_true rfl) ?_
              replace h := obd_of h; obtain ⟨a51, rfl, h⟩ := h
              replace h := jgd_of h; obtain ⟨hb52, h⟩ := h
              replace h := obd_of h; obtain ⟨μ53, hμ53, h⟩ := h
              refine jr_V6v_2 jf_86_118 hb52 (by omega) (r_Row_put (by omega) _ _ _ _ _ hμ53) (Nat.le_of_ble_eq_true rfl) jml_50 (Nat.le_of_ble_eq_true rfl) ?_
              refine jr_lload_n jf_86_121 rfl (jg2_ne rfl jg2_same) ?_
              obtain ⟨rfl, rfl⟩ := Prod.mk.inj (Option.some.inj h)
              exact jr_retJ jf_86_122 jmt_86
            · obtain ⟨hb, hx⟩ := jgd_of hx
              obtain hx := Option.some.inj hx
              refine jr_V8b_2 jf_86_112 hb0 hb (by omega) (r_Shorts_plus (by omega) _ _ _ _ _ hx) (by simp only [jcats_cons, jcats_nil, cat_int, cat_long, cat_double, cat_float, cat_ref, rv_cat]; decide) jml_69 (Nat.le_of_ble_eq_true rfl) ?_
              replace h := jgd_of h; obtain ⟨hb48, h⟩ := h
              replace h := jbd2_of h; obtain ⟨x49, μ50, hx49, h⟩ := h
              refine jr_V6_1 jf_86_115 hb48 (by omega) (r_Section_settled (by omega) _ _ _ _ _ hx49) (by simp only [jcats_cons, jcats_nil, cat_int, cat_long, cat_double, cat_float, cat_ref, rv_cat]; decide) jml_70 (Nat.le_of_ble_eq_true rfl) ?_
              replace h := obd_of h; obtain ⟨a51, rfl, h⟩ := h
              replace h := jgd_of h; obtain ⟨hb52, h⟩ := h
              replace h := obd_of h; obtain ⟨μ53, hμ53, h⟩ := h
              refine jr_V6v_2 jf_86_118 hb52 (by omega) (r_Row_put (by omega) _ _ _ _ _ hμ53) (Nat.le_of_ble_eq_true rfl) jml_50 (Nat.le_of_ble_eq_true rfl) ?_
              refine jr_lload_n jf_86_121 rfl (jg2_ne rfl jg2_same) ?_
              obtain ⟨rfl, rfl⟩ := Prod.mk.inj (Option.some.inj h)
              exact jr_retJ jf_86_122 jmt_86
          · obtain ⟨hb, hx⟩ := jgd_of hx
            obtain hx := Option.some.inj hx
            refine jr_V8b_2 jf_86_81 hb0 hb (by omega) (r_Shorts_plus (by omega) _ _ _ _ _ hx) (by simp only [jcats_cons, jcats_nil, cat_int, cat_long, cat_double, cat_float, cat_ref, rv_cat]; decide) jml_69 (Nat.le_of_ble_eq_true rfl) ?_
            replace h := jgd_of h; obtain ⟨hb34, h⟩ := h
            replace h := jbd2_of h; obtain ⟨x35, μ36, hx35, h⟩ := h
            refine jr_V6_1 jf_86_84 hb34 (by omega) (r_Section_settled (by omega) _ _ _ _ _ hx35) (by simp only [jcats_cons, jcats_nil, cat_int, cat_long, cat_double, cat_float, cat_ref, rv_cat]; decide) jml_70 (Nat.le_of_ble_eq_true rfl) ?_
            replace h := obd_of h; obtain ⟨a37, rfl, h⟩ := h
            replace h := jgd_of h; obtain ⟨hb38, h⟩ := h
            replace h := obd_of h; obtain ⟨μ39, hμ39, h⟩ := h
            refine jr_V6v_2 jf_86_87 hb38 (by omega) (r_Row_put (by omega) _ _ _ _ _ hμ39) (Nat.le_of_ble_eq_true rfl) jml_50 (Nat.le_of_ble_eq_true rfl) ?_
            refine jr_aload_n jf_86_90 rfl (jg2_ne rfl (jg2_ne rfl hl0)) ?_
            replace h := obd_of h; obtain ⟨x40, hx40, h⟩ := h
            refine jr_getA jf_86_91 hx40 ?_
            refine jr_iconst jf_86_94 jc_i_1 ?_
            refine jr_aload_n jf_86_95 rfl (jg2_ne rfl (jg2_ne rfl hl0)) ?_
            refine jr_aload_n jf_86_96 rfl (jg2_ne rfl (jg2_ne rfl hl0)) ?_
            replace h := obd_of h; obtain ⟨x41, hx41, h⟩ := h
            refine jr_getA jf_86_97 hx41 ?_
            refine jr_aload_n jf_86_100 rfl (jg2_ne rfl (jg2_ne rfl hl0)) ?_
            refine jr_iconst jf_86_101 jc_i_2 ?_
            refine jr_lload_n jf_86_102 rfl (jg2_ne rfl (jg2_ne rfl hl1)) ?_
            replace h := jgd_of h; obtain ⟨hb42, h⟩ := h
            replace h := obd_of h; obtain ⟨x43, hx43, h⟩ := h
            refine jr_V6_2 jf_86_103 hb42 (by omega) (r_Section_times (by omega) _ _ _ _ _ hx43) (by simp only [jcats_cons, jcats_nil, cat_int, cat_long, cat_double, cat_float, cat_ref, rv_cat]; decide) jml_78 (Nat.le_of_ble_eq_true rfl) ?_
            refine jr_aload_n jf_86_106 rfl (jg2_ne rfl (jg2_ne rfl hl0)) ?_
            refine jr_iconst jf_86_107 jc_i_4 ?_
            refine jr_lload_n jf_86_108 rfl (jg2_ne rfl jg2_same) ?_
            replace h := jgd_of h; obtain ⟨hb44, h⟩ := h
            replace h := obd_of h; obtain ⟨x45, hx45, h⟩ := h
            refine jr_V6_2 jf_86_109 hb44 (by omega) (r_Section_lessTimes (by omega) _ _ _ _ _ hx45) (by simp only [jcats_cons, jcats_nil, cat_int, cat_long, cat_double, cat_float, cat_ref, rv_cat]; decide) jml_81 (Nat.le_of_ble_eq_true rfl) ?_
            replace h := obd_of h; obtain ⟨a46, rfl, h⟩ := h
            replace h := obd_of h; obtain ⟨x47, hx47, h⟩ := h
            rcases ite_or hx47 with ⟨hb, hx⟩ | ⟨hb0, hx⟩
            · refine jr_V8a_2 jf_86_112 hb (by omega) (r_Real_plus (by omega) _ _ _ _ _ hx) (by simp only [jcats_cons, jcats_nil, cat_int, cat_long, cat_double, cat_float, cat_ref, rv_cat]; decide) jml_65 (Nat.le_of_ble_eq_true rfl) ?_
              replace h := jgd_of h; obtain ⟨hb48, h⟩ := h
              replace h := jbd2_of h; obtain ⟨x49, μ50, hx49, h⟩ := h
              refine jr_V6_1 jf_86_115 hb48 (by omega) (r_Section_settled (by omega) _ _ _ _ _ hx49) (by simp only [jcats_cons, jcats_nil, cat_int, cat_long, cat_double, cat_float, cat_ref, rv_cat]; decide) jml_70 (Nat.le_of_ble_eq_true rfl) ?_
              replace h := obd_of h; obtain ⟨a51, rfl, h⟩ := h
              replace h := jgd_of h; obtain ⟨hb52, h⟩ := h
              replace h := obd_of h; obtain ⟨μ53, hμ53, h⟩ := h
              refine jr_V6v_2 jf_86_118 hb52 (by omega) (r_Row_put (by omega) _ _ _ _ _ hμ53) (Nat.le_of_ble_eq_true rfl) jml_50 (Nat.le_of_ble_eq_true rfl) ?_
              refine jr_lload_n jf_86_121 rfl (jg2_ne rfl jg2_same) ?_
              obtain ⟨rfl, rfl⟩ := Prod.mk.inj (Option.some.inj h)
              exact jr_retJ jf_86_122 jmt_86
            · obtain ⟨hb, hx⟩ := jgd_of hx
              obtain hx := Option.some.inj hx
              refine jr_V8b_2 jf_86_112 hb0 hb (by omega) (r_Shorts_plus (by omega) _ _ _ _ _ hx) (by simp only [jcats_cons, jcats_nil, cat_int, cat_long, cat_double, cat_float, cat_ref, rv_cat]; decide) jml_69 (Nat.le_of_ble_eq_true rfl) ?_
              replace h := jgd_of h; obtain ⟨hb48, h⟩ := h
              replace h := jbd2_of h; obtain ⟨x49, μ50, hx49, h⟩ := h
              refine jr_V6_1 jf_86_115 hb48 (by omega) (r_Section_settled (by omega) _ _ _ _ _ hx49) (by simp only [jcats_cons, jcats_nil, cat_int, cat_long, cat_double, cat_float, cat_ref, rv_cat]; decide) jml_70 (Nat.le_of_ble_eq_true rfl) ?_
              replace h := obd_of h; obtain ⟨a51, rfl, h⟩ := h
              replace h := jgd_of h; obtain ⟨hb52, h⟩ := h
              replace h := obd_of h; obtain ⟨μ53, hμ53, h⟩ := h
              refine jr_V6v_2 jf_86_118 hb52 (by omega) (r_Row_put (by omega) _ _ _ _ _ hμ53) (Nat.le_of_ble_eq_true rfl) jml_50 (Nat.le_of_ble_eq_true rfl) ?_
              refine jr_lload_n jf_86_121 rfl (jg2_ne rfl jg2_same) ?_
              obtain ⟨rfl, rfl⟩ := Prod.mk.inj (Option.some.inj h)
              exact jr_retJ jf_86_122 jmt_86
      · obtain ⟨hb, hx⟩ := jgd_of hx
        obtain hx := Option.some.inj hx
        refine jr_V8b_2 jf_86_49 hb0 hb (by omega) (r_Shorts_plus (by omega) _ _ _ _ _ hx) (Nat.le_of_ble_eq_true rfl) jml_69 (Nat.le_of_ble_eq_true rfl) ?_
        refine jr_lstore jf_86_52 jml_86 (by decide) ?_
        refine jr_aload_n jf_86_54 rfl (jg2_ne rfl (jg2_ne rfl hl0)) ?_
        replace h := obd_of h; obtain ⟨x23, hx23, h⟩ := h
        refine jr_getA jf_86_55 hx23 ?_
        refine jr_iconst jf_86_58 jc_i_0 ?_
        refine jr_aload_n jf_86_59 rfl (jg2_ne rfl (jg2_ne rfl hl0)) ?_
        refine jr_aload_n jf_86_60 rfl (jg2_ne rfl (jg2_ne rfl hl0)) ?_
        replace h := obd_of h; obtain ⟨x24, hx24, h⟩ := h
        refine jr_getA jf_86_61 hx24 ?_
        refine jr_lload jf_86_64 jg2_same ?_
        refine jr_aload_n jf_86_66 rfl (jg2_ne rfl (jg2_ne rfl hl0)) ?_
        replace h := obd_of h; obtain ⟨x25, hx25, h⟩ := h
        refine jr_getA jf_86_67 hx25 ?_
        refine jr_aload_n jf_86_70 rfl (jg2_ne rfl (jg2_ne rfl hl0)) ?_
        replace h := obd_of h; obtain ⟨x26, hx26, h⟩ := h
        refine jr_getA jf_86_71 hx26 ?_
        refine jr_iconst jf_86_74 jc_i_1 ?_
        replace h := obd_of h; obtain ⟨a27, rfl, h⟩ := h
        replace h := jgd_of h; obtain ⟨hb28, h⟩ := h
        replace h := obd_of h; obtain ⟨x29, hx29, h⟩ := h
        refine jr_V6_1 jf_86_75 hb28 (by omega) (r_Row_at (by omega) _ _ _ _ hx29) (by simp only [jcats_cons, jcats_nil, cat_int, cat_long, cat_double, cat_float, cat_ref, rv_cat]; decide) jml_23 (Nat.le_of_ble_eq_true rfl) ?_
        replace h := obd_of h; obtain ⟨a30, rfl, h⟩ := h
        replace h := obd_of h; obtain ⟨x31, hx31, h⟩ := h
        rcases ite_or hx31 with ⟨hb, hx⟩ | ⟨hb0, hx⟩
        · obtain hx := Option.some.inj hx
          refine jr_V8a_1 jf_86_78 hb (by omega) (r_Real_term (by omega) _ _ _ _ hx) (by simp only [jcats_cons, jcats_nil, cat_int, cat_long, cat_double, cat_float, cat_ref, rv_cat]; decide) jml_63 (Nat.le_of_ble_eq_true rfl) ?_
          replace h := obd_of h; obtain ⟨a32, rfl, h⟩ := h
          replace h := obd_of h; obtain ⟨x33, hx33, h⟩ := h
          rcases ite_or hx33 with ⟨hb, hx⟩ | ⟨hb0, hx⟩
          · refine jr_V8a_2 jf_86_81 hb (by omega) (r_Real_plus (by omega) _ _ _ _ _ hx) (by simp only [jcats_cons, jcats_nil, cat_int, cat_long, cat_double, cat_float, cat_ref, rv_cat]; decide) jml_65 (Nat.le_of_ble_eq_true rfl) ?_
            replace h := jgd_of h; obtain ⟨hb34, h⟩ := h
            replace h := jbd2_of h; obtain ⟨x35, μ36, hx35, h⟩ := h
            refine jr_V6_1 jf_86_84 hb34 (by omega) (r_Section_settled (by omega) _ _ _ _ _ hx35) (by simp only [jcats_cons, jcats_nil, cat_int, cat_long, cat_double, cat_float, cat_ref, rv_cat]; decide) jml_70 (Nat.le_of_ble_eq_true rfl) ?_
            replace h := obd_of h; obtain ⟨a37, rfl, h⟩ := h
            replace h := jgd_of h; obtain ⟨hb38, h⟩ := h
            replace h := obd_of h; obtain ⟨μ39, hμ39, h⟩ := h
            refine jr_V6v_2 jf_86_87 hb38 (by omega) (r_Row_put (by omega) _ _ _ _ _ hμ39) (Nat.le_of_ble_eq_true rfl) jml_50 (Nat.le_of_ble_eq_true rfl) ?_
            refine jr_aload_n jf_86_90 rfl (jg2_ne rfl (jg2_ne rfl hl0)) ?_
            replace h := obd_of h; obtain ⟨x40, hx40, h⟩ := h
            refine jr_getA jf_86_91 hx40 ?_
            refine jr_iconst jf_86_94 jc_i_1 ?_
            refine jr_aload_n jf_86_95 rfl (jg2_ne rfl (jg2_ne rfl hl0)) ?_
            refine jr_aload_n jf_86_96 rfl (jg2_ne rfl (jg2_ne rfl hl0)) ?_
            replace h := obd_of h; obtain ⟨x41, hx41, h⟩ := h
            refine jr_getA jf_86_97 hx41 ?_
            refine jr_aload_n jf_86_100 rfl (jg2_ne rfl (jg2_ne rfl hl0)) ?_
            refine jr_iconst jf_86_101 jc_i_2 ?_
            refine jr_lload_n jf_86_102 rfl (jg2_ne rfl (jg2_ne rfl hl1)) ?_
            replace h := jgd_of h; obtain ⟨hb42, h⟩ := h
            replace h := obd_of h; obtain ⟨x43, hx43, h⟩ := h
            refine jr_V6_2 jf_86_103 hb42 (by omega) (r_Section_times (by omega) _ _ _ _ _ hx43) (by simp only [jcats_cons, jcats_nil, cat_int, cat_long, cat_double, cat_float, cat_ref, rv_cat]; decide) jml_78 (Nat.le_of_ble_eq_true rfl) ?_
            refine jr_aload_n jf_86_106 rfl (jg2_ne rfl (jg2_ne rfl hl0)) ?_
            refine jr_iconst jf_86_107 jc_i_4 ?_
            refine jr_lload_n jf_86_108 rfl (jg2_ne rfl jg2_same) ?_
            replace h := jgd_of h; obtain ⟨hb44, h⟩ := h
            replace h := obd_of h; obtain ⟨x45, hx45, h⟩ := h
            refine jr_V6_2 jf_86_109 hb44 (by omega) (r_Section_lessTimes (by omega) _ _ _ _ _ hx45) (by simp only [jcats_cons, jcats_nil, cat_int, cat_long, cat_double, cat_float, cat_ref, rv_cat]; decide) jml_81 (Nat.le_of_ble_eq_true rfl) ?_
            replace h := obd_of h; obtain ⟨a46, rfl, h⟩ := h
            replace h := obd_of h; obtain ⟨x47, hx47, h⟩ := h
            rcases ite_or hx47 with ⟨hb, hx⟩ | ⟨hb0, hx⟩
            · refine jr_V8a_2 jf_86_112 hb (by omega) (r_Real_plus (by omega) _ _ _ _ _ hx) (by simp only [jcats_cons, jcats_nil, cat_int, cat_long, cat_double, cat_float, cat_ref, rv_cat]; decide) jml_65 (Nat.le_of_ble_eq_true rfl) ?_
              replace h := jgd_of h; obtain ⟨hb48, h⟩ := h
              replace h := jbd2_of h; obtain ⟨x49, μ50, hx49, h⟩ := h
              refine jr_V6_1 jf_86_115 hb48 (by omega) (r_Section_settled (by omega) _ _ _ _ _ hx49) (by simp only [jcats_cons, jcats_nil, cat_int, cat_long, cat_double, cat_float, cat_ref, rv_cat]; decide) jml_70 (Nat.le_of_ble_eq_true rfl) ?_
              replace h := obd_of h; obtain ⟨a51, rfl, h⟩ := h
              replace h := jgd_of h; obtain ⟨hb52, h⟩ := h
              replace h := obd_of h; obtain ⟨μ53, hμ53, h⟩ := h
              refine jr_V6v_2 jf_86_118 hb52 (by omega) (r_Row_put (by omega) _ _ _ _ _ hμ53) (Nat.le_of_ble_eq_true rfl) jml_50 (Nat.le_of_ble_eq_true rfl) ?_
              refine jr_lload_n jf_86_121 rfl (jg2_ne rfl jg2_same) ?_
              obtain ⟨rfl, rfl⟩ := Prod.mk.inj (Option.some.inj h)
              exact jr_retJ jf_86_122 jmt_86
            · obtain ⟨hb, hx⟩ := jgd_of hx
              obtain hx := Option.some.inj hx
              refine jr_V8b_2 jf_86_112 hb0 hb (by omega) (r_Shorts_plus (by omega) _ _ _ _ _ hx) (by simp only [jcats_cons, jcats_nil, cat_int, cat_long, cat_double, cat_float, cat_ref, rv_cat]; decide) jml_69 (Nat.le_of_ble_eq_true rfl) ?_
              replace h := jgd_of h; obtain ⟨hb48, h⟩ := h
              replace h := jbd2_of h; obtain ⟨x49, μ50, hx49, h⟩ := h
              refine jr_V6_1 jf_86_115 hb48 (by omega) (r_Section_settled (by omega) _ _ _ _ _ hx49) (by simp only [jcats_cons, jcats_nil, cat_int, cat_long, cat_double, cat_float, cat_ref, rv_cat]; decide) jml_70 (Nat.le_of_ble_eq_true rfl) ?_
              replace h := obd_of h; obtain ⟨a51, rfl, h⟩ := h
              replace h := jgd_of h; obtain ⟨hb52, h⟩ := h
              replace h := obd_of h; obtain ⟨μ53, hμ53, h⟩ := h
              refine jr_V6v_2 jf_86_118 hb52 (by omega) (r_Row_put (by omega) _ _ _ _ _ hμ53) (Nat.le_of_ble_eq_true rfl) jml_50 (Nat.le_of_ble_eq_true rfl) ?_
              refine jr_lload_n jf_86_121 rfl (jg2_ne rfl jg2_same) ?_
              obtain ⟨rfl, rfl⟩ := Prod.mk.inj (Option.some.inj h)
              exact jr_retJ jf_86_122 jmt_86
          · obtain ⟨hb, hx⟩ := jgd_of hx
            obtain hx := Option.some.inj hx
            refine jr_V8b_2 jf_86_81 hb0 hb (by omega) (r_Shorts_plus (by omega) _ _ _ _ _ hx) (by simp only [jcats_cons, jcats_nil, cat_int, cat_long, cat_double, cat_float, cat_ref, rv_cat]; decide) jml_69 (Nat.le_of_ble_eq_true rfl) ?_
            replace h := jgd_of h; obtain ⟨hb34, h⟩ := h
            replace h := jbd2_of h; obtain ⟨x35, μ36, hx35, h⟩ := h
            refine jr_V6_1 jf_86_84 hb34 (by omega) (r_Section_settled (by omega) _ _ _ _ _ hx35) (by simp only [jcats_cons, jcats_nil, cat_int, cat_long, cat_double, cat_float, cat_ref, rv_cat]; decide) jml_70 (Nat.le_of_ble_eq_true rfl) ?_
            replace h := obd_of h; obtain ⟨a37, rfl, h⟩ := h
            replace h := jgd_of h; obtain ⟨hb38, h⟩ := h
            replace h := obd_of h; obtain ⟨μ39, hμ39, h⟩ := h
            refine jr_V6v_2 jf_86_87 hb38 (by omega) (r_Row_put (by omega) _ _ _ _ _ hμ39) (Nat.le_of_ble_eq_true rfl) jml_50 (Nat.le_of_ble_eq_true rfl) ?_
            refine jr_aload_n jf_86_90 rfl (jg2_ne rfl (jg2_ne rfl hl0)) ?_
            replace h := obd_of h; obtain ⟨x40, hx40, h⟩ := h
            refine jr_getA jf_86_91 hx40 ?_
            refine jr_iconst jf_86_94 jc_i_1 ?_
            refine jr_aload_n jf_86_95 rfl (jg2_ne rfl (jg2_ne rfl hl0)) ?_
            refine jr_aload_n jf_86_96 rfl (jg2_ne rfl (jg2_ne rfl hl0)) ?_
            replace h := obd_of h; obtain ⟨x41, hx41, h⟩ := h
            refine jr_getA jf_86_97 hx41 ?_
            refine jr_aload_n jf_86_100 rfl (jg2_ne rfl (jg2_ne rfl hl0)) ?_
            refine jr_iconst jf_86_101 jc_i_2 ?_
            refine jr_lload_n jf_86_102 rfl (jg2_ne rfl (jg2_ne rfl hl1)) ?_
            replace h := jgd_of h; obtain ⟨hb42, h⟩ := h
            replace h := obd_of h; obtain ⟨x43, hx43, h⟩ := h
            refine jr_V6_2 jf_86_103 hb42 (by omega) (r_Section_times (by omega) _ _ _ _ _ hx43) (by simp only [jcats_cons, jcats_nil, cat_int, cat_long, cat_double, cat_float, cat_ref, rv_cat]; decide) jml_78 (Nat.le_of_ble_eq_true rfl) ?_
            refine jr_aload_n jf_86_106 rfl (jg2_ne rfl (jg2_ne rfl hl0)) ?_
            refine jr_iconst jf_86_107 jc_i_4 ?_
            refine jr_lload_n jf_86_108 rfl (jg2_ne rfl jg2_same) ?_
            replace h := jgd_of h; obtain ⟨hb44, h⟩ := h
            replace h := obd_of h; obtain ⟨x45, hx45, h⟩ := h
            refine jr_V6_2 jf_86_109 hb44 (by omega) (r_Section_lessTimes (by omega) _ _ _ _ _ hx45) (by simp only [jcats_cons, jcats_nil, cat_int, cat_long, cat_double, cat_float, cat_ref, rv_cat]; decide) jml_81 (Nat.le_of_ble_eq_true rfl) ?_
            replace h := obd_of h; obtain ⟨a46, rfl, h⟩ := h
            replace h := obd_of h; obtain ⟨x47, hx47, h⟩ := h
            rcases ite_or hx47 with ⟨hb, hx⟩ | ⟨hb0, hx⟩
            · refine jr_V8a_2 jf_86_112 hb (by omega) (r_Real_plus (by omega) _ _ _ _ _ hx) (by simp only [jcats_cons, jcats_nil, cat_int, cat_long, cat_double, cat_float, cat_ref, rv_cat]; decide) jml_65 (Nat.le_of_ble_eq_true rfl) ?_
              replace h := jgd_of h; obtain ⟨hb48, h⟩ := h
              replace h := jbd2_of h; obtain ⟨x49, μ50, hx49, h⟩ := h
              refine jr_V6_1 jf_86_115 hb48 (by omega) (r_Section_settled (by omega) _ _ _ _ _ hx49) (by simp only [jcats_cons, jcats_nil, cat_int, cat_long, cat_double, cat_float, cat_ref, rv_cat]; decide) jml_70 (Nat.le_of_ble_eq_true rfl) ?_
              replace h := obd_of h; obtain ⟨a51, rfl, h⟩ := h
              replace h := jgd_of h; obtain ⟨hb52, h⟩ := h
              replace h := obd_of h; obtain ⟨μ53, hμ53, h⟩ := h
              refine jr_V6v_2 jf_86_118 hb52 (by omega) (r_Row_put (by omega) _ _ _ _ _ hμ53) (Nat.le_of_ble_eq_true rfl) jml_50 (Nat.le_of_ble_eq_true rfl) ?_
              refine jr_lload_n jf_86_121 rfl (jg2_ne rfl jg2_same) ?_
              obtain ⟨rfl, rfl⟩ := Prod.mk.inj (Option.some.inj h)
              exact jr_retJ jf_86_122 jmt_86
            · obtain ⟨hb, hx⟩ := jgd_of hx
              obtain hx := Option.some.inj hx
              refine jr_V8b_2 jf_86_112 hb0 hb (by omega) (r_Shorts_plus (by omega) _ _ _ _ _ hx) (by simp only [jcats_cons, jcats_nil, cat_int, cat_long, cat_double, cat_float, cat_ref, rv_cat]; decide) jml_69 (Nat.le_of_ble_eq_true rfl) ?_
              replace h := jgd_of h; obtain ⟨hb48, h⟩ := h
              replace h := jbd2_of h; obtain ⟨x49, μ50, hx49, h⟩ := h
              refine jr_V6_1 jf_86_115 hb48 (by omega) (r_Section_settled (by omega) _ _ _ _ _ hx49) (by simp only [jcats_cons, jcats_nil, cat_int, cat_long, cat_double, cat_float, cat_ref, rv_cat]; decide) jml_70 (Nat.le_of_ble_eq_true rfl) ?_
              replace h := obd_of h; obtain ⟨a51, rfl, h⟩ := h
              replace h := jgd_of h; obtain ⟨hb52, h⟩ := h
              replace h := obd_of h; obtain ⟨μ53, hμ53, h⟩ := h
              refine jr_V6v_2 jf_86_118 hb52 (by omega) (r_Row_put (by omega) _ _ _ _ _ hμ53) (Nat.le_of_ble_eq_true rfl) jml_50 (Nat.le_of_ble_eq_true rfl) ?_
              refine jr_lload_n jf_86_121 rfl (jg2_ne rfl jg2_same) ?_
              obtain ⟨rfl, rfl⟩ := Prod.mk.inj (Option.some.inj h)
              exact jr_retJ jf_86_122 jmt_86
        · obtain ⟨hb, hx⟩ := jgd_of hx
          obtain hx := Option.some.inj hx
          refine jr_V8b_1 jf_86_78 hb0 hb (by omega) (r_Shorts_term (by omega) _ _ _ _ hx) (by simp only [jcats_cons, jcats_nil, cat_int, cat_long, cat_double, cat_float, cat_ref, rv_cat]; decide) jml_64 (Nat.le_of_ble_eq_true rfl) ?_
          replace h := obd_of h; obtain ⟨a32, rfl, h⟩ := h
          replace h := obd_of h; obtain ⟨x33, hx33, h⟩ := h
          rcases ite_or hx33 with ⟨hb, hx⟩ | ⟨hb0, hx⟩
          · refine jr_V8a_2 jf_86_81 hb (by omega) (r_Real_plus (by omega) _ _ _ _ _ hx) (by simp only [jcats_cons, jcats_nil, cat_int, cat_long, cat_double, cat_float, cat_ref, rv_cat]; decide) jml_65 (Nat.le_of_ble_eq_true rfl) ?_
            replace h := jgd_of h; obtain ⟨hb34, h⟩ := h
            replace h := jbd2_of h; obtain ⟨x35, μ36, hx35, h⟩ := h
            refine jr_V6_1 jf_86_84 hb34 (by omega) (r_Section_settled (by omega) _ _ _ _ _ hx35) (by simp only [jcats_cons, jcats_nil, cat_int, cat_long, cat_double, cat_float, cat_ref, rv_cat]; decide) jml_70 (Nat.le_of_ble_eq_true rfl) ?_
            replace h := obd_of h; obtain ⟨a37, rfl, h⟩ := h
            replace h := jgd_of h; obtain ⟨hb38, h⟩ := h
            replace h := obd_of h; obtain ⟨μ39, hμ39, h⟩ := h
            refine jr_V6v_2 jf_86_87 hb38 (by omega) (r_Row_put (by omega) _ _ _ _ _ hμ39) (Nat.le_of_ble_eq_true rfl) jml_50 (Nat.le_of_ble_eq_true rfl) ?_
            refine jr_aload_n jf_86_90 rfl (jg2_ne rfl (jg2_ne rfl hl0)) ?_
            replace h := obd_of h; obtain ⟨x40, hx40, h⟩ := h
            refine jr_getA jf_86_91 hx40 ?_
            refine jr_iconst jf_86_94 jc_i_1 ?_
            refine jr_aload_n jf_86_95 rfl (jg2_ne rfl (jg2_ne rfl hl0)) ?_
            refine jr_aload_n jf_86_96 rfl (jg2_ne rfl (jg2_ne rfl hl0)) ?_
            replace h := obd_of h; obtain ⟨x41, hx41, h⟩ := h
            refine jr_getA jf_86_97 hx41 ?_
            refine jr_aload_n jf_86_100 rfl (jg2_ne rfl (jg2_ne rfl hl0)) ?_
            refine jr_iconst jf_86_101 jc_i_2 ?_
            refine jr_lload_n jf_86_102 rfl (jg2_ne rfl (jg2_ne rfl hl1)) ?_
            replace h := jgd_of h; obtain ⟨hb42, h⟩ := h
            replace h := obd_of h; obtain ⟨x43, hx43, h⟩ := h
            refine jr_V6_2 jf_86_103 hb42 (by omega) (r_Section_times (by omega) _ _ _ _ _ hx43) (by simp only [jcats_cons, jcats_nil, cat_int, cat_long, cat_double, cat_float, cat_ref, rv_cat]; decide) jml_78 (Nat.le_of_ble_eq_true rfl) ?_
            refine jr_aload_n jf_86_106 rfl (jg2_ne rfl (jg2_ne rfl hl0)) ?_
            refine jr_iconst jf_86_107 jc_i_4 ?_
            refine jr_lload_n jf_86_108 rfl (jg2_ne rfl jg2_same) ?_
            replace h := jgd_of h; obtain ⟨hb44, h⟩ := h
            replace h := obd_of h; obtain ⟨x45, hx45, h⟩ := h
            refine jr_V6_2 jf_86_109 hb44 (by omega) (r_Section_lessTimes (by omega) _ _ _ _ _ hx45) (by simp only [jcats_cons, jcats_nil, cat_int, cat_long, cat_double, cat_float, cat_ref, rv_cat]; decide) jml_81 (Nat.le_of_ble_eq_true rfl) ?_
            replace h := obd_of h; obtain ⟨a46, rfl, h⟩ := h
            replace h := obd_of h; obtain ⟨x47, hx47, h⟩ := h
            rcases ite_or hx47 with ⟨hb, hx⟩ | ⟨hb0, hx⟩
            · refine jr_V8a_2 jf_86_112 hb (by omega) (r_Real_plus (by omega) _ _ _ _ _ hx) (by simp only [jcats_cons, jcats_nil, cat_int, cat_long, cat_double, cat_float, cat_ref, rv_cat]; decide) jml_65 (Nat.le_of_ble_eq_true rfl) ?_
              replace h := jgd_of h; obtain ⟨hb48, h⟩ := h
              replace h := jbd2_of h; obtain ⟨x49, μ50, hx49, h⟩ := h
              refine jr_V6_1 jf_86_115 hb48 (by omega) (r_Section_settled (by omega) _ _ _ _ _ hx49) (by simp only [jcats_cons, jcats_nil, cat_int, cat_long, cat_double, cat_float, cat_ref, rv_cat]; decide) jml_70 (Nat.le_of_ble_eq_true rfl) ?_
              replace h := obd_of h; obtain ⟨a51, rfl, h⟩ := h
              replace h := jgd_of h; obtain ⟨hb52, h⟩ := h
              replace h := obd_of h; obtain ⟨μ53, hμ53, h⟩ := h
              refine jr_V6v_2 jf_86_118 hb52 (by omega) (r_Row_put (by omega) _ _ _ _ _ hμ53) (Nat.le_of_ble_eq_true rfl) jml_50 (Nat.le_of_ble_eq_true rfl) ?_
              refine jr_lload_n jf_86_121 rfl (jg2_ne rfl jg2_same) ?_
              obtain ⟨rfl, rfl⟩ := Prod.mk.inj (Option.some.inj h)
              exact jr_retJ jf_86_122 jmt_86
            · obtain ⟨hb, hx⟩ := jgd_of hx
              obtain hx := Option.some.inj hx
              refine jr_V8b_2 jf_86_112 hb0 hb (by omega) (r_Shorts_plus (by omega) _ _ _ _ _ hx) (by simp only [jcats_cons, jcats_nil, cat_int, cat_long, cat_double, cat_float, cat_ref, rv_cat]; decide) jml_69 (Nat.le_of_ble_eq_true rfl) ?_
              replace h := jgd_of h; obtain ⟨hb48, h⟩ := h
              replace h := jbd2_of h; obtain ⟨x49, μ50, hx49, h⟩ := h
              refine jr_V6_1 jf_86_115 hb48 (by omega) (r_Section_settled (by omega) _ _ _ _ _ hx49) (by simp only [jcats_cons, jcats_nil, cat_int, cat_long, cat_double, cat_float, cat_ref, rv_cat]; decide) jml_70 (Nat.le_of_ble_eq_true rfl) ?_
              replace h := obd_of h; obtain ⟨a51, rfl, h⟩ := h
              replace h := jgd_of h; obtain ⟨hb52, h⟩ := h
              replace h := obd_of h; obtain ⟨μ53, hμ53, h⟩ := h
              refine jr_V6v_2 jf_86_118 hb52 (by omega) (r_Row_put (by omega) _ _ _ _ _ hμ53) (Nat.le_of_ble_eq_true rfl) jml_50 (Nat.le_of_ble_eq_true rfl) ?_
              refine jr_lload_n jf_86_121 rfl (jg2_ne rfl jg2_same) ?_
              obtain ⟨rfl, rfl⟩ := Prod.mk.inj (Option.some.inj h)
              exact jr_retJ jf_86_122 jmt_86
          · obtain ⟨hb, hx⟩ := jgd_of hx
            obtain hx := Option.some.inj hx
            refine jr_V8b_2 jf_86_81 hb0 hb (by omega) (r_Shorts_plus (by omega) _ _ _ _ _ hx) (by simp only [jcats_cons, jcats_nil, cat_int, cat_long, cat_double, cat_float, cat_ref, rv_cat]; decide) jml_69 (Nat.le_of_ble_eq_true rfl) ?_
            replace h := jgd_of h; obtain ⟨hb34, h⟩ := h
            replace h := jbd2_of h; obtain ⟨x35, μ36, hx35, h⟩ := h
            refine jr_V6_1 jf_86_84 hb34 (by omega) (r_Section_settled (by omega) _ _ _ _ _ hx35) (by simp only [jcats_cons, jcats_nil, cat_int, cat_long, cat_double, cat_float, cat_ref, rv_cat]; decide) jml_70 (Nat.le_of_ble_eq_true rfl) ?_
            replace h := obd_of h; obtain ⟨a37, rfl, h⟩ := h
            replace h := jgd_of h; obtain ⟨hb38, h⟩ := h
            replace h := obd_of h; obtain ⟨μ39, hμ39, h⟩ := h
            refine jr_V6v_2 jf_86_87 hb38 (by omega) (r_Row_put (by omega) _ _ _ _ _ hμ39) (Nat.le_of_ble_eq_true rfl) jml_50 (Nat.le_of_ble_eq_true rfl) ?_
            refine jr_aload_n jf_86_90 rfl (jg2_ne rfl (jg2_ne rfl hl0)) ?_
            replace h := obd_of h; obtain ⟨x40, hx40, h⟩ := h
            refine jr_getA jf_86_91 hx40 ?_
            refine jr_iconst jf_86_94 jc_i_1 ?_
            refine jr_aload_n jf_86_95 rfl (jg2_ne rfl (jg2_ne rfl hl0)) ?_
            refine jr_aload_n jf_86_96 rfl (jg2_ne rfl (jg2_ne rfl hl0)) ?_
            replace h := obd_of h; obtain ⟨x41, hx41, h⟩ := h
            refine jr_getA jf_86_97 hx41 ?_
            refine jr_aload_n jf_86_100 rfl (jg2_ne rfl (jg2_ne rfl hl0)) ?_
            refine jr_iconst jf_86_101 jc_i_2 ?_
            refine jr_lload_n jf_86_102 rfl (jg2_ne rfl (jg2_ne rfl hl1)) ?_
            replace h := jgd_of h; obtain ⟨hb42, h⟩ := h
            replace h := obd_of h; obtain ⟨x43, hx43, h⟩ := h
            refine jr_V6_2 jf_86_103 hb42 (by omega) (r_Section_times (by omega) _ _ _ _ _ hx43) (by simp only [jcats_cons, jcats_nil, cat_int, cat_long, cat_double, cat_float, cat_ref, rv_cat]; decide) jml_78 (Nat.le_of_ble_eq_true rfl) ?_
            refine jr_aload_n jf_86_106 rfl (jg2_ne rfl (jg2_ne rfl hl0)) ?_
            refine jr_iconst jf_86_107 jc_i_4 ?_
            refine jr_lload_n jf_86_108 rfl (jg2_ne rfl jg2_same) ?_
            replace h := jgd_of h; obtain ⟨hb44, h⟩ := h
            replace h := obd_of h; obtain ⟨x45, hx45, h⟩ := h
            refine jr_V6_2 jf_86_109 hb44 (by omega) (r_Section_lessTimes (by omega) _ _ _ _ _ hx45) (by simp only [jcats_cons, jcats_nil, cat_int, cat_long, cat_double, cat_float, cat_ref, rv_cat]; decide) jml_81 (Nat.le_of_ble_eq_true rfl) ?_
            replace h := obd_of h; obtain ⟨a46, rfl, h⟩ := h
            replace h := obd_of h; obtain ⟨x47, hx47, h⟩ := h
            rcases ite_or hx47 with ⟨hb, hx⟩ | ⟨hb0, hx⟩
            · refine jr_V8a_2 jf_86_112 hb (by omega) (r_Real_plus (by omega) _ _ _ _ _ hx) (by simp only [jcats_cons, jcats_nil, cat_int, cat_long, cat_double, cat_float, cat_ref, rv_cat]; decide) jml_65 (Nat.le_of_ble_eq_true rfl) ?_
              replace h := jgd_of h; obtain ⟨hb48, h⟩ := h
              replace h := jbd2_of h; obtain ⟨x49, μ50, hx49, h⟩ := h
              refine jr_V6_1 jf_86_115 hb48 (by omega) (r_Section_settled (by omega) _ _ _ _ _ hx49) (by simp only [jcats_cons, jcats_nil, cat_int, cat_long, cat_double, cat_float, cat_ref, rv_cat]; decide) jml_70 (Nat.le_of_ble_eq_true rfl) ?_
              replace h := obd_of h; obtain ⟨a51, rfl, h⟩ := h
              replace h := jgd_of h; obtain ⟨hb52, h⟩ := h
              replace h := obd_of h; obtain ⟨μ53, hμ53, h⟩ := h
              refine jr_V6v_2 jf_86_118 hb52 (by omega) (r_Row_put (by omega) _ _ _ _ _ hμ53) (Nat.le_of_ble_eq_true rfl) jml_50 (Nat.le_of_ble_eq_true rfl) ?_
              refine jr_lload_n jf_86_121 rfl (jg2_ne rfl jg2_same) ?_
              obtain ⟨rfl, rfl⟩ := Prod.mk.inj (Option.some.inj h)
              exact jr_retJ jf_86_122 jmt_86
            · obtain ⟨hb, hx⟩ := jgd_of hx
              obtain hx := Option.some.inj hx
              refine jr_V8b_2 jf_86_112 hb0 hb (by omega) (r_Shorts_plus (by omega) _ _ _ _ _ hx) (by simp only [jcats_cons, jcats_nil, cat_int, cat_long, cat_double, cat_float, cat_ref, rv_cat]; decide) jml_69 (Nat.le_of_ble_eq_true rfl) ?_
              replace h := jgd_of h; obtain ⟨hb48, h⟩ := h
              replace h := jbd2_of h; obtain ⟨x49, μ50, hx49, h⟩ := h
              refine jr_V6_1 jf_86_115 hb48 (by omega) (r_Section_settled (by omega) _ _ _ _ _ hx49) (by simp only [jcats_cons, jcats_nil, cat_int, cat_long, cat_double, cat_float, cat_ref, rv_cat]; decide) jml_70 (Nat.le_of_ble_eq_true rfl) ?_
              replace h := obd_of h; obtain ⟨a51, rfl, h⟩ := h
              replace h := jgd_of h; obtain ⟨hb52, h⟩ := h
              replace h := obd_of h; obtain ⟨μ53, hμ53, h⟩ := h
              refine jr_V6v_2 jf_86_118 hb52 (by omega) (r_Row_put (by omega) _ _ _ _ _ hμ53) (Nat.le_of_ble_eq_true rfl) jml_50 (Nat.le_of_ble_eq_true rfl) ?_
              refine jr_lload_n jf_86_121 rfl (jg2_ne rfl jg2_same) ?_
              obtain ⟨rfl, rfl⟩ := Prod.mk.inj (Option.some.inj h)
              exact jr_retJ jf_86_122 jmt_86
    · obtain ⟨hb, hx⟩ := jgd_of hx
      obtain hx := Option.some.inj hx
      refine jr_V8b_2 jf_86_26 hb0 hb (by omega) (r_Shorts_plus (by omega) _ _ _ _ _ hx) (Nat.le_of_ble_eq_true rfl) jml_69 (Nat.le_of_ble_eq_true rfl) ?_
      replace h := jgd_of h; obtain ⟨hb13, h⟩ := h
      replace h := jbd2_of h; obtain ⟨x14, μ15, hx14, h⟩ := h
      refine jr_V6_1 jf_86_29 hb13 (by omega) (r_Section_settled (by omega) _ _ _ _ _ hx14) (Nat.le_of_ble_eq_true rfl) jml_70 (Nat.le_of_ble_eq_true rfl) ?_
      refine jr_lstore_n jf_86_32 rfl jml_86 (by decide) ?_
      refine jr_aload_n jf_86_33 rfl (jg2_ne rfl hl0) ?_
      replace h := obd_of h; obtain ⟨x16, hx16, h⟩ := h
      refine jr_getA jf_86_34 hx16 ?_
      refine jr_aload_n jf_86_37 rfl (jg2_ne rfl hl0) ?_
      refine jr_iconst jf_86_38 jc_i_1 ?_
      refine jr_lload_n jf_86_39 rfl (jg2_ne rfl hl1) ?_
      replace h := jgd_of h; obtain ⟨hb17, h⟩ := h
      replace h := obd_of h; obtain ⟨x18, hx18, h⟩ := h
      refine jr_V6_2 jf_86_40 hb17 (by omega) (r_Section_times (by omega) _ _ _ _ _ hx18) (by simp only [jcats_cons, jcats_nil, cat_int, cat_long, cat_double, cat_float, cat_ref, rv_cat]; decide) jml_78 (Nat.le_of_ble_eq_true rfl) ?_
      refine jr_aload_n jf_86_43 rfl (jg2_ne rfl hl0) ?_
      refine jr_iconst jf_86_44 jc_i_3 ?_
      refine jr_lload_n jf_86_45 rfl jg2_same ?_
      replace h := jgd_of h; obtain ⟨hb19, h⟩ := h
      replace h := obd_of h; obtain ⟨x20, hx20, h⟩ := h
      refine jr_V6_2 jf_86_46 hb19 (by omega) (r_Section_lessTimes (by omega) _ _ _ _ _ hx20) (by simp only [jcats_cons, jcats_nil, cat_int, cat_long, cat_double, cat_float, cat_ref, rv_cat]; decide) jml_81 (Nat.le_of_ble_eq_true rfl) ?_
      replace h := obd_of h; obtain ⟨a21, rfl, h⟩ := h
      replace h := obd_of h; obtain ⟨x22, hx22, h⟩ := h
      rcases ite_or hx22 with ⟨hb, hx⟩ | ⟨hb0, hx⟩
      · refine jr_V8a_2 jf_86_49 hb (by omega) (r_Real_plus (by omega) _ _ _ _ _ hx) (Nat.le_of_ble_eq_true rfl) jml_65 (Nat.le_of_ble_eq_true rfl) ?_
        refine jr_lstore jf_86_52 jml_86 (by decide) ?_
        refine jr_aload_n jf_86_54 rfl (jg2_ne rfl (jg2_ne rfl hl0)) ?_
        replace h := obd_of h; obtain ⟨x23, hx23, h⟩ := h
        refine jr_getA jf_86_55 hx23 ?_
        refine jr_iconst jf_86_58 jc_i_0 ?_
        refine jr_aload_n jf_86_59 rfl (jg2_ne rfl (jg2_ne rfl hl0)) ?_
        refine jr_aload_n jf_86_60 rfl (jg2_ne rfl (jg2_ne rfl hl0)) ?_
        replace h := obd_of h; obtain ⟨x24, hx24, h⟩ := h
        refine jr_getA jf_86_61 hx24 ?_
        refine jr_lload jf_86_64 jg2_same ?_
        refine jr_aload_n jf_86_66 rfl (jg2_ne rfl (jg2_ne rfl hl0)) ?_
        replace h := obd_of h; obtain ⟨x25, hx25, h⟩ := h
        refine jr_getA jf_86_67 hx25 ?_
        refine jr_aload_n jf_86_70 rfl (jg2_ne rfl (jg2_ne rfl hl0)) ?_
        replace h := obd_of h; obtain ⟨x26, hx26, h⟩ := h
        refine jr_getA jf_86_71 hx26 ?_
        refine jr_iconst jf_86_74 jc_i_1 ?_
        replace h := obd_of h; obtain ⟨a27, rfl, h⟩ := h
        replace h := jgd_of h; obtain ⟨hb28, h⟩ := h
        replace h := obd_of h; obtain ⟨x29, hx29, h⟩ := h
        refine jr_V6_1 jf_86_75 hb28 (by omega) (r_Row_at (by omega) _ _ _ _ hx29) (by simp only [jcats_cons, jcats_nil, cat_int, cat_long, cat_double, cat_float, cat_ref, rv_cat]; decide) jml_23 (Nat.le_of_ble_eq_true rfl) ?_
        replace h := obd_of h; obtain ⟨a30, rfl, h⟩ := h
        replace h := obd_of h; obtain ⟨x31, hx31, h⟩ := h
        rcases ite_or hx31 with ⟨hb, hx⟩ | ⟨hb0, hx⟩
        · obtain hx := Option.some.inj hx
          refine jr_V8a_1 jf_86_78 hb (by omega) (r_Real_term (by omega) _ _ _ _ hx) (by simp only [jcats_cons, jcats_nil, cat_int, cat_long, cat_double, cat_float, cat_ref, rv_cat]; decide) jml_63 (Nat.le_of_ble_eq_true rfl) ?_
          replace h := obd_of h; obtain ⟨a32, rfl, h⟩ := h
          replace h := obd_of h; obtain ⟨x33, hx33, h⟩ := h
          rcases ite_or hx33 with ⟨hb, hx⟩ | ⟨hb0, hx⟩
          · refine jr_V8a_2 jf_86_81 hb (by omega) (r_Real_plus (by omega) _ _ _ _ _ hx) (by simp only [jcats_cons, jcats_nil, cat_int, cat_long, cat_double, cat_float, cat_ref, rv_cat]; decide) jml_65 (Nat.le_of_ble_eq_true rfl) ?_
            replace h := jgd_of h; obtain ⟨hb34, h⟩ := h
            replace h := jbd2_of h; obtain ⟨x35, μ36, hx35, h⟩ := h
            refine jr_V6_1 jf_86_84 hb34 (by omega) (r_Section_settled (by omega) _ _ _ _ _ hx35) (by simp only [jcats_cons, jcats_nil, cat_int, cat_long, cat_double, cat_float, cat_ref, rv_cat]; decide) jml_70 (Nat.le_of_ble_eq_true rfl) ?_
            replace h := obd_of h; obtain ⟨a37, rfl, h⟩ := h
            replace h := jgd_of h; obtain ⟨hb38, h⟩ := h
            replace h := obd_of h; obtain ⟨μ39, hμ39, h⟩ := h
            refine jr_V6v_2 jf_86_87 hb38 (by omega) (r_Row_put (by omega) _ _ _ _ _ hμ39) (Nat.le_of_ble_eq_true rfl) jml_50 (Nat.le_of_ble_eq_true rfl) ?_
            refine jr_aload_n jf_86_90 rfl (jg2_ne rfl (jg2_ne rfl hl0)) ?_
            replace h := obd_of h; obtain ⟨x40, hx40, h⟩ := h
            refine jr_getA jf_86_91 hx40 ?_
            refine jr_iconst jf_86_94 jc_i_1 ?_
            refine jr_aload_n jf_86_95 rfl (jg2_ne rfl (jg2_ne rfl hl0)) ?_
            refine jr_aload_n jf_86_96 rfl (jg2_ne rfl (jg2_ne rfl hl0)) ?_
            replace h := obd_of h; obtain ⟨x41, hx41, h⟩ := h
            refine jr_getA jf_86_97 hx41 ?_
            refine jr_aload_n jf_86_100 rfl (jg2_ne rfl (jg2_ne rfl hl0)) ?_
            refine jr_iconst jf_86_101 jc_i_2 ?_
            refine jr_lload_n jf_86_102 rfl (jg2_ne rfl (jg2_ne rfl hl1)) ?_
            replace h := jgd_of h; obtain ⟨hb42, h⟩ := h
            replace h := obd_of h; obtain ⟨x43, hx43, h⟩ := h
            refine jr_V6_2 jf_86_103 hb42 (by omega) (r_Section_times (by omega) _ _ _ _ _ hx43) (by simp only [jcats_cons, jcats_nil, cat_int, cat_long, cat_double, cat_float, cat_ref, rv_cat]; decide) jml_78 (Nat.le_of_ble_eq_true rfl) ?_
            refine jr_aload_n jf_86_106 rfl (jg2_ne rfl (jg2_ne rfl hl0)) ?_
            refine jr_iconst jf_86_107 jc_i_4 ?_
            refine jr_lload_n jf_86_108 rfl (jg2_ne rfl jg2_same) ?_
            replace h := jgd_of h; obtain ⟨hb44, h⟩ := h
            replace h := obd_of h; obtain ⟨x45, hx45, h⟩ := h
            refine jr_V6_2 jf_86_109 hb44 (by omega) (r_Section_lessTimes (by omega) _ _ _ _ _ hx45) (by simp only [jcats_cons, jcats_nil, cat_int, cat_long, cat_double, cat_float, cat_ref, rv_cat]; decide) jml_81 (Nat.le_of_ble_eq_true rfl) ?_
            replace h := obd_of h; obtain ⟨a46, rfl, h⟩ := h
            replace h := obd_of h; obtain ⟨x47, hx47, h⟩ := h
            rcases ite_or hx47 with ⟨hb, hx⟩ | ⟨hb0, hx⟩
            · refine jr_V8a_2 jf_86_112 hb (by omega) (r_Real_plus (by omega) _ _ _ _ _ hx) (by simp only [jcats_cons, jcats_nil, cat_int, cat_long, cat_double, cat_float, cat_ref, rv_cat]; decide) jml_65 (Nat.le_of_ble_eq_true rfl) ?_
              replace h := jgd_of h; obtain ⟨hb48, h⟩ := h
              replace h := jbd2_of h; obtain ⟨x49, μ50, hx49, h⟩ := h
              refine jr_V6_1 jf_86_115 hb48 (by omega) (r_Section_settled (by omega) _ _ _ _ _ hx49) (by simp only [jcats_cons, jcats_nil, cat_int, cat_long, cat_double, cat_float, cat_ref, rv_cat]; decide) jml_70 (Nat.le_of_ble_eq_true rfl) ?_
              replace h := obd_of h; obtain ⟨a51, rfl, h⟩ := h
              replace h := jgd_of h; obtain ⟨hb52, h⟩ := h
              replace h := obd_of h; obtain ⟨μ53, hμ53, h⟩ := h
              refine jr_V6v_2 jf_86_118 hb52 (by omega) (r_Row_put (by omega) _ _ _ _ _ hμ53) (Nat.le_of_ble_eq_true rfl) jml_50 (Nat.le_of_ble_eq_true rfl) ?_
              refine jr_lload_n jf_86_121 rfl (jg2_ne rfl jg2_same) ?_
              obtain ⟨rfl, rfl⟩ := Prod.mk.inj (Option.some.inj h)
              exact jr_retJ jf_86_122 jmt_86
            · obtain ⟨hb, hx⟩ := jgd_of hx
              obtain hx := Option.some.inj hx
              refine jr_V8b_2 jf_86_112 hb0 hb (by omega) (r_Shorts_plus (by omega) _ _ _ _ _ hx) (by simp only [jcats_cons, jcats_nil, cat_int, cat_long, cat_double, cat_float, cat_ref, rv_cat]; decide) jml_69 (Nat.le_of_ble_eq_true rfl) ?_
              replace h := jgd_of h; obtain ⟨hb48, h⟩ := h
              replace h := jbd2_of h; obtain ⟨x49, μ50, hx49, h⟩ := h
              refine jr_V6_1 jf_86_115 hb48 (by omega) (r_Section_settled (by omega) _ _ _ _ _ hx49) (by simp only [jcats_cons, jcats_nil, cat_int, cat_long, cat_double, cat_float, cat_ref, rv_cat]; decide) jml_70 (Nat.le_of_ble_eq_true rfl) ?_
              replace h := obd_of h; obtain ⟨a51, rfl, h⟩ := h
              replace h := jgd_of h; obtain ⟨hb52, h⟩ := h
              replace h := obd_of h; obtain ⟨μ53, hμ53, h⟩ := h
              refine jr_V6v_2 jf_86_118 hb52 (by omega) (r_Row_put (by omega) _ _ _ _ _ hμ53) (Nat.le_of_ble_eq_true rfl) jml_50 (Nat.le_of_ble_eq_true rfl) ?_
              refine jr_lload_n jf_86_121 rfl (jg2_ne rfl jg2_same) ?_
              obtain ⟨rfl, rfl⟩ := Prod.mk.inj (Option.some.inj h)
              exact jr_retJ jf_86_122 jmt_86
          · obtain ⟨hb, hx⟩ := jgd_of hx
            obtain hx := Option.some.inj hx
            refine jr_V8b_2 jf_86_81 hb0 hb (by omega) (r_Shorts_plus (by omega) _ _ _ _ _ hx) (by simp only [jcats_cons, jcats_nil, cat_int, cat_long, cat_double, cat_float, cat_ref, rv_cat]; decide) jml_69 (Nat.le_of_ble_eq_true rfl) ?_
            replace h := jgd_of h; obtain ⟨hb34, h⟩ := h
            replace h := jbd2_of h; obtain ⟨x35, μ36, hx35, h⟩ := h
            refine jr_V6_1 jf_86_84 hb34 (by omega) (r_Section_settled (by omega) _ _ _ _ _ hx35) (by simp only [jcats_cons, jcats_nil, cat_int, cat_long, cat_double, cat_float, cat_ref, rv_cat]; decide) jml_70 (Nat.le_of_ble_eq_true rfl) ?_
            replace h := obd_of h; obtain ⟨a37, rfl, h⟩ := h
            replace h := jgd_of h; obtain ⟨hb38, h⟩ := h
            replace h := obd_of h; obtain ⟨μ39, hμ39, h⟩ := h
            refine jr_V6v_2 jf_86_87 hb38 (by omega) (r_Row_put (by omega) _ _ _ _ _ hμ39) (Nat.le_of_ble_eq_true rfl) jml_50 (Nat.le_of_ble_eq_true rfl) ?_
            refine jr_aload_n jf_86_90 rfl (jg2_ne rfl (jg2_ne rfl hl0)) ?_
            replace h := obd_of h; obtain ⟨x40, hx40, h⟩ := h
            refine jr_getA jf_86_91 hx40 ?_
            refine jr_iconst jf_86_94 jc_i_1 ?_
            refine jr_aload_n jf_86_95 rfl (jg2_ne rfl (jg2_ne rfl hl0)) ?_
            refine jr_aload_n jf_86_96 rfl (jg2_ne rfl (jg2_ne rfl hl0)) ?_
            replace h := obd_of h; obtain ⟨x41, hx41, h⟩ := h
            refine jr_getA jf_86_97 hx41 ?_
            refine jr_aload_n jf_86_100 rfl (jg2_ne rfl (jg2_ne rfl hl0)) ?_
            refine jr_iconst jf_86_101 jc_i_2 ?_
            refine jr_lload_n jf_86_102 rfl (jg2_ne rfl (jg2_ne rfl hl1)) ?_
            replace h := jgd_of h; obtain ⟨hb42, h⟩ := h
            replace h := obd_of h; obtain ⟨x43, hx43, h⟩ := h
            refine jr_V6_2 jf_86_103 hb42 (by omega) (r_Section_times (by omega) _ _ _ _ _ hx43) (by simp only [jcats_cons, jcats_nil, cat_int, cat_long, cat_double, cat_float, cat_ref, rv_cat]; decide) jml_78 (Nat.le_of_ble_eq_true rfl) ?_
            refine jr_aload_n jf_86_106 rfl (jg2_ne rfl (jg2_ne rfl hl0)) ?_
            refine jr_iconst jf_86_107 jc_i_4 ?_
            refine jr_lload_n jf_86_108 rfl (jg2_ne rfl jg2_same) ?_
            replace h := jgd_of h; obtain ⟨hb44, h⟩ := h
            replace h := obd_of h; obtain ⟨x45, hx45, h⟩ := h
            refine jr_V6_2 jf_86_109 hb44 (by omega) (r_Section_lessTimes (by omega) _ _ _ _ _ hx45) (by simp only [jcats_cons, jcats_nil, cat_int, cat_long, cat_double, cat_float, cat_ref, rv_cat]; decide) jml_81 (Nat.le_of_ble_eq_true rfl) ?_
            replace h := obd_of h; obtain ⟨a46, rfl, h⟩ := h
            replace h := obd_of h; obtain ⟨x47, hx47, h⟩ := h
            rcases ite_or hx47 with ⟨hb, hx⟩ | ⟨hb0, hx⟩
            · refine jr_V8a_2 jf_86_112 hb (by omega) (r_Real_plus (by omega) _ _ _ _ _ hx) (by simp only [jcats_cons, jcats_nil, cat_int, cat_long, cat_double, cat_float, cat_ref, rv_cat]; decide) jml_65 (Nat.le_of_ble_eq_true rfl) ?_
              replace h := jgd_of h; obtain ⟨hb48, h⟩ := h
              replace h := jbd2_of h; obtain ⟨x49, μ50, hx49, h⟩ := h
              refine jr_V6_1 jf_86_115 hb48 (by omega) (r_Section_settled (by omega) _ _ _ _ _ hx49) (by simp only [jcats_cons, jcats_nil, cat_int, cat_long, cat_double, cat_float, cat_ref, rv_cat]; decide) jml_70 (Nat.le_of_ble_eq_true rfl) ?_
              replace h := obd_of h; obtain ⟨a51, rfl, h⟩ := h
              replace h := jgd_of h; obtain ⟨hb52, h⟩ := h
              replace h := obd_of h; obtain ⟨μ53, hμ53, h⟩ := h
              refine jr_V6v_2 jf_86_118 hb52 (by omega) (r_Row_put (by omega) _ _ _ _ _ hμ53) (Nat.le_of_ble_eq_true rfl) jml_50 (Nat.le_of_ble_eq_true rfl) ?_
              refine jr_lload_n jf_86_121 rfl (jg2_ne rfl jg2_same) ?_
              obtain ⟨rfl, rfl⟩ := Prod.mk.inj (Option.some.inj h)
              exact jr_retJ jf_86_122 jmt_86
            · obtain ⟨hb, hx⟩ := jgd_of hx
              obtain hx := Option.some.inj hx
              refine jr_V8b_2 jf_86_112 hb0 hb (by omega) (r_Shorts_plus (by omega) _ _ _ _ _ hx) (by simp only [jcats_cons, jcats_nil, cat_int, cat_long, cat_double, cat_float, cat_ref, rv_cat]; decide) jml_69 (Nat.le_of_ble_eq_true rfl) ?_
              replace h := jgd_of h; obtain ⟨hb48, h⟩ := h
              replace h := jbd2_of h; obtain ⟨x49, μ50, hx49, h⟩ := h
              refine jr_V6_1 jf_86_115 hb48 (by omega) (r_Section_settled (by omega) _ _ _ _ _ hx49) (by simp only [jcats_cons, jcats_nil, cat_int, cat_long, cat_double, cat_float, cat_ref, rv_cat]; decide) jml_70 (Nat.le_of_ble_eq_true rfl) ?_
              replace h := obd_of h; obtain ⟨a51, rfl, h⟩ := h
              replace h := jgd_of h; obtain ⟨hb52, h⟩ := h
              replace h := obd_of h; obtain ⟨μ53, hμ53, h⟩ := h
              refine jr_V6v_2 jf_86_118 hb52 (by omega) (r_Row_put (by omega) _ _ _ _ _ hμ53) (Nat.le_of_ble_eq_true rfl) jml_50 (Nat.le_of_ble_eq_true rfl) ?_
              refine jr_lload_n jf_86_121 rfl (jg2_ne rfl jg2_same) ?_
              obtain ⟨rfl, rfl⟩ := Prod.mk.inj (Option.some.inj h)
              exact jr_retJ jf_86_122 jmt_86
        · obtain ⟨hb, hx⟩ := jgd_of hx
          obtain hx := Option.some.inj hx
          refine jr_V8b_1 jf_86_78 hb0 hb (by omega) (r_Shorts_term (by omega) _ _ _ _ hx) (by simp only [jcats_cons, jcats_nil, cat_int, cat_long, cat_double, cat_float, cat_ref, rv_cat]; decide) jml_64 (Nat.le_of_ble_eq_true rfl) ?_
          replace h := obd_of h; obtain ⟨a32, rfl, h⟩ := h
          replace h := obd_of h; obtain ⟨x33, hx33, h⟩ := h
          rcases ite_or hx33 with ⟨hb, hx⟩ | ⟨hb0, hx⟩
          · refine jr_V8a_2 jf_86_81 hb (by omega) (r_Real_plus (by omega) _ _ _ _ _ hx) (by simp only [jcats_cons, jcats_nil, cat_int, cat_long, cat_double, cat_float, cat_ref, rv_cat]; decide) jml_65 (Nat.le_of_ble_eq_true rfl) ?_
            replace h := jgd_of h; obtain ⟨hb34, h⟩ := h
            replace h := jbd2_of h; obtain ⟨x35, μ36, hx35, h⟩ := h
            refine jr_V6_1 jf_86_84 hb34 (by omega) (r_Section_settled (by omega) _ _ _ _ _ hx35) (by simp only [jcats_cons, jcats_nil, cat_int, cat_long, cat_double, cat_float, cat_ref, rv_cat]; decide) jml_70 (Nat.le_of_ble_eq_true rfl) ?_
            replace h := obd_of h; obtain ⟨a37, rfl, h⟩ := h
            replace h := jgd_of h; obtain ⟨hb38, h⟩ := h
            replace h := obd_of h; obtain ⟨μ39, hμ39, h⟩ := h
            refine jr_V6v_2 jf_86_87 hb38 (by omega) (r_Row_put (by omega) _ _ _ _ _ hμ39) (Nat.le_of_ble_eq_true rfl) jml_50 (Nat.le_of_ble_eq_true rfl) ?_
            refine jr_aload_n jf_86_90 rfl (jg2_ne rfl (jg2_ne rfl hl0)) ?_
            replace h := obd_of h; obtain ⟨x40, hx40, h⟩ := h
            refine jr_getA jf_86_91 hx40 ?_
            refine jr_iconst jf_86_94 jc_i_1 ?_
            refine jr_aload_n jf_86_95 rfl (jg2_ne rfl (jg2_ne rfl hl0)) ?_
            refine jr_aload_n jf_86_96 rfl (jg2_ne rfl (jg2_ne rfl hl0)) ?_
            replace h := obd_of h; obtain ⟨x41, hx41, h⟩ := h
            refine jr_getA jf_86_97 hx41 ?_
            refine jr_aload_n jf_86_100 rfl (jg2_ne rfl (jg2_ne rfl hl0)) ?_
            refine jr_iconst jf_86_101 jc_i_2 ?_
            refine jr_lload_n jf_86_102 rfl (jg2_ne rfl (jg2_ne rfl hl1)) ?_
            replace h := jgd_of h; obtain ⟨hb42, h⟩ := h
            replace h := obd_of h; obtain ⟨x43, hx43, h⟩ := h
            refine jr_V6_2 jf_86_103 hb42 (by omega) (r_Section_times (by omega) _ _ _ _ _ hx43) (by simp only [jcats_cons, jcats_nil, cat_int, cat_long, cat_double, cat_float, cat_ref, rv_cat]; decide) jml_78 (Nat.le_of_ble_eq_true rfl) ?_
            refine jr_aload_n jf_86_106 rfl (jg2_ne rfl (jg2_ne rfl hl0)) ?_
            refine jr_iconst jf_86_107 jc_i_4 ?_
            refine jr_lload_n jf_86_108 rfl (jg2_ne rfl jg2_same) ?_
            replace h := jgd_of h; obtain ⟨hb44, h⟩ := h
            replace h := obd_of h; obtain ⟨x45, hx45, h⟩ := h
            refine jr_V6_2 jf_86_109 hb44 (by omega) (r_Section_lessTimes (by omega) _ _ _ _ _ hx45) (by simp only [jcats_cons, jcats_nil, cat_int, cat_long, cat_double, cat_float, cat_ref, rv_cat]; decide) jml_81 (Nat.le_of_ble_eq_true rfl) ?_
            replace h := obd_of h; obtain ⟨a46, rfl, h⟩ := h
            replace h := obd_of h; obtain ⟨x47, hx47, h⟩ := h
            rcases ite_or hx47 with ⟨hb, hx⟩ | ⟨hb0, hx⟩
            · refine jr_V8a_2 jf_86_112 hb (by omega) (r_Real_plus (by omega) _ _ _ _ _ hx) (by simp only [jcats_cons, jcats_nil, cat_int, cat_long, cat_double, cat_float, cat_ref, rv_cat]; decide) jml_65 (Nat.le_of_ble_eq_true rfl) ?_
              replace h := jgd_of h; obtain ⟨hb48, h⟩ := h
              replace h := jbd2_of h; obtain ⟨x49, μ50, hx49, h⟩ := h
              refine jr_V6_1 jf_86_115 hb48 (by omega) (r_Section_settled (by omega) _ _ _ _ _ hx49) (by simp only [jcats_cons, jcats_nil, cat_int, cat_long, cat_double, cat_float, cat_ref, rv_cat]; decide) jml_70 (Nat.le_of_ble_eq_true rfl) ?_
              replace h := obd_of h; obtain ⟨a51, rfl, h⟩ := h
              replace h := jgd_of h; obtain ⟨hb52, h⟩ := h
              replace h := obd_of h; obtain ⟨μ53, hμ53, h⟩ := h
              refine jr_V6v_2 jf_86_118 hb52 (by omega) (r_Row_put (by omega) _ _ _ _ _ hμ53) (Nat.le_of_ble_eq_true rfl) jml_50 (Nat.le_of_ble_eq_true rfl) ?_
              refine jr_lload_n jf_86_121 rfl (jg2_ne rfl jg2_same) ?_
              obtain ⟨rfl, rfl⟩ := Prod.mk.inj (Option.some.inj h)
              exact jr_retJ jf_86_122 jmt_86
            · obtain ⟨hb, hx⟩ := jgd_of hx
              obtain hx := Option.some.inj hx
              refine jr_V8b_2 jf_86_112 hb0 hb (by omega) (r_Shorts_plus (by omega) _ _ _ _ _ hx) (by simp only [jcats_cons, jcats_nil, cat_int, cat_long, cat_double, cat_float, cat_ref, rv_cat]; decide) jml_69 (Nat.le_of_ble_eq_true rfl) ?_
              replace h := jgd_of h; obtain ⟨hb48, h⟩ := h
              replace h := jbd2_of h; obtain ⟨x49, μ50, hx49, h⟩ := h
              refine jr_V6_1 jf_86_115 hb48 (by omega) (r_Section_settled (by omega) _ _ _ _ _ hx49) (by simp only [jcats_cons, jcats_nil, cat_int, cat_long, cat_double, cat_float, cat_ref, rv_cat]; decide) jml_70 (Nat.le_of_ble_eq_true rfl) ?_
              replace h := obd_of h; obtain ⟨a51, rfl, h⟩ := h
              replace h := jgd_of h; obtain ⟨hb52, h⟩ := h
              replace h := obd_of h; obtain ⟨μ53, hμ53, h⟩ := h
              refine jr_V6v_2 jf_86_118 hb52 (by omega) (r_Row_put (by omega) _ _ _ _ _ hμ53) (Nat.le_of_ble_eq_true rfl) jml_50 (Nat.le_of_ble_eq_true rfl) ?_
              refine jr_lload_n jf_86_121 rfl (jg2_ne rfl jg2_same) ?_
              obtain ⟨rfl, rfl⟩ := Prod.mk.inj (Option.some.inj h)
              exact jr_retJ jf_86_122 jmt_86
          · obtain ⟨hb, hx⟩ := jgd_of hx
            obtain hx := Option.some.inj hx
            refine jr_V8b_2 jf_86_81 hb0 hb (by omega) (r_Shorts_plus (by omega) _ _ _ _ _ hx) (by simp only [jcats_cons, jcats_nil, cat_int, cat_long, cat_double, cat_float, cat_ref, rv_cat]; decide) jml_69 (Nat.le_of_ble_eq_true rfl) ?_
            replace h := jgd_of h; obtain ⟨hb34, h⟩ := h
            replace h := jbd2_of h; obtain ⟨x35, μ36, hx35, h⟩ := h
            refine jr_V6_1 jf_86_84 hb34 (by omega) (r_Section_settled (by omega) _ _ _ _ _ hx35) (by simp only [jcats_cons, jcats_nil, cat_int, cat_long, cat_double, cat_float, cat_ref, rv_cat]; decide) jml_70 (Nat.le_of_ble_eq_true rfl) ?_
            replace h := obd_of h; obtain ⟨a37, rfl, h⟩ := h
            replace h := jgd_of h; obtain ⟨hb38, h⟩ := h
            replace h := obd_of h; obtain ⟨μ39, hμ39, h⟩ := h
            refine jr_V6v_2 jf_86_87 hb38 (by omega) (r_Row_put (by omega) _ _ _ _ _ hμ39) (Nat.le_of_ble_eq_true rfl) jml_50 (Nat.le_of_ble_eq_true rfl) ?_
            refine jr_aload_n jf_86_90 rfl (jg2_ne rfl (jg2_ne rfl hl0)) ?_
            replace h := obd_of h; obtain ⟨x40, hx40, h⟩ := h
            refine jr_getA jf_86_91 hx40 ?_
            refine jr_iconst jf_86_94 jc_i_1 ?_
            refine jr_aload_n jf_86_95 rfl (jg2_ne rfl (jg2_ne rfl hl0)) ?_
            refine jr_aload_n jf_86_96 rfl (jg2_ne rfl (jg2_ne rfl hl0)) ?_
            replace h := obd_of h; obtain ⟨x41, hx41, h⟩ := h
            refine jr_getA jf_86_97 hx41 ?_
            refine jr_aload_n jf_86_100 rfl (jg2_ne rfl (jg2_ne rfl hl0)) ?_
            refine jr_iconst jf_86_101 jc_i_2 ?_
            refine jr_lload_n jf_86_102 rfl (jg2_ne rfl (jg2_ne rfl hl1)) ?_
            replace h := jgd_of h; obtain ⟨hb42, h⟩ := h
            replace h := obd_of h; obtain ⟨x43, hx43, h⟩ := h
            refine jr_V6_2 jf_86_103 hb42 (by omega) (r_Section_times (by omega) _ _ _ _ _ hx43) (by simp only [jcats_cons, jcats_nil, cat_int, cat_long, cat_double, cat_float, cat_ref, rv_cat]; decide) jml_78 (Nat.le_of_ble_eq_true rfl) ?_
            refine jr_aload_n jf_86_106 rfl (jg2_ne rfl (jg2_ne rfl hl0)) ?_
            refine jr_iconst jf_86_107 jc_i_4 ?_
            refine jr_lload_n jf_86_108 rfl (jg2_ne rfl jg2_same) ?_
            replace h := jgd_of h; obtain ⟨hb44, h⟩ := h
            replace h := obd_of h; obtain ⟨x45, hx45, h⟩ := h
            refine jr_V6_2 jf_86_109 hb44 (by omega) (r_Section_lessTimes (by omega) _ _ _ _ _ hx45) (by simp only [jcats_cons, jcats_nil, cat_int, cat_long, cat_double, cat_float, cat_ref, rv_cat]; decide) jml_81 (Nat.le_of_ble_eq_true rfl) ?_
            replace h := obd_of h; obtain ⟨a46, rfl, h⟩ := h
            replace h := obd_of h; obtain ⟨x47, hx47, h⟩ := h
            rcases ite_or hx47 with ⟨hb, hx⟩ | ⟨hb0, hx⟩
            · refine jr_V8a_2 jf_86_112 hb (by omega) (r_Real_plus (by omega) _ _ _ _ _ hx) (by simp only [jcats_cons, jcats_nil, cat_int, cat_long, cat_double, cat_float, cat_ref, rv_cat]; decide) jml_65 (Nat.le_of_ble_eq_true rfl) ?_
              replace h := jgd_of h; obtain ⟨hb48, h⟩ := h
              replace h := jbd2_of h; obtain ⟨x49, μ50, hx49, h⟩ := h
              refine jr_V6_1 jf_86_115 hb48 (by omega) (r_Section_settled (by omega) _ _ _ _ _ hx49) (by simp only [jcats_cons, jcats_nil, cat_int, cat_long, cat_double, cat_float, cat_ref, rv_cat]; decide) jml_70 (Nat.le_of_ble_eq_true rfl) ?_
              replace h := obd_of h; obtain ⟨a51, rfl, h⟩ := h
              replace h := jgd_of h; obtain ⟨hb52, h⟩ := h
              replace h := obd_of h; obtain ⟨μ53, hμ53, h⟩ := h
              refine jr_V6v_2 jf_86_118 hb52 (by omega) (r_Row_put (by omega) _ _ _ _ _ hμ53) (Nat.le_of_ble_eq_true rfl) jml_50 (Nat.le_of_ble_eq_true rfl) ?_
              refine jr_lload_n jf_86_121 rfl (jg2_ne rfl jg2_same) ?_
              obtain ⟨rfl, rfl⟩ := Prod.mk.inj (Option.some.inj h)
              exact jr_retJ jf_86_122 jmt_86
            · obtain ⟨hb, hx⟩ := jgd_of hx
              obtain hx := Option.some.inj hx
              refine jr_V8b_2 jf_86_112 hb0 hb (by omega) (r_Shorts_plus (by omega) _ _ _ _ _ hx) (by simp only [jcats_cons, jcats_nil, cat_int, cat_long, cat_double, cat_float, cat_ref, rv_cat]; decide) jml_69 (Nat.le_of_ble_eq_true rfl) ?_
              replace h := jgd_of h; obtain ⟨hb48, h⟩ := h
              replace h := jbd2_of h; obtain ⟨x49, μ50, hx49, h⟩ := h
              refine jr_V6_1 jf_86_115 hb48 (by omega) (r_Section_settled (by omega) _ _ _ _ _ hx49) (by simp only [jcats_cons, jcats_nil, cat_int, cat_long, cat_double, cat_float, cat_ref, rv_cat]; decide) jml_70 (Nat.le_of_ble_eq_true rfl) ?_
              replace h := obd_of h; obtain ⟨a51, rfl, h⟩ := h
              replace h := jgd_of h; obtain ⟨hb52, h⟩ := h
              replace h := obd_of h; obtain ⟨μ53, hμ53, h⟩ := h
              refine jr_V6v_2 jf_86_118 hb52 (by omega) (r_Row_put (by omega) _ _ _ _ _ hμ53) (Nat.le_of_ble_eq_true rfl) jml_50 (Nat.le_of_ble_eq_true rfl) ?_
              refine jr_lload_n jf_86_121 rfl (jg2_ne rfl jg2_same) ?_
              obtain ⟨rfl, rfl⟩ := Prod.mk.inj (Option.some.inj h)
              exact jr_retJ jf_86_122 jmt_86
      · obtain ⟨hb, hx⟩ := jgd_of hx
        obtain hx := Option.some.inj hx
        refine jr_V8b_2 jf_86_49 hb0 hb (by omega) (r_Shorts_plus (by omega) _ _ _ _ _ hx) (Nat.le_of_ble_eq_true rfl) jml_69 (Nat.le_of_ble_eq_true rfl) ?_
        refine jr_lstore jf_86_52 jml_86 (by decide) ?_
        refine jr_aload_n jf_86_54 rfl (jg2_ne rfl (jg2_ne rfl hl0)) ?_
        replace h := obd_of h; obtain ⟨x23, hx23, h⟩ := h
        refine jr_getA jf_86_55 hx23 ?_
        refine jr_iconst jf_86_58 jc_i_0 ?_
        refine jr_aload_n jf_86_59 rfl (jg2_ne rfl (jg2_ne rfl hl0)) ?_
        refine jr_aload_n jf_86_60 rfl (jg2_ne rfl (jg2_ne rfl hl0)) ?_
        replace h := obd_of h; obtain ⟨x24, hx24, h⟩ := h
        refine jr_getA jf_86_61 hx24 ?_
        refine jr_lload jf_86_64 jg2_same ?_
        refine jr_aload_n jf_86_66 rfl (jg2_ne rfl (jg2_ne rfl hl0)) ?_
        replace h := obd_of h; obtain ⟨x25, hx25, h⟩ := h
        refine jr_getA jf_86_67 hx25 ?_
        refine jr_aload_n jf_86_70 rfl (jg2_ne rfl (jg2_ne rfl hl0)) ?_
        replace h := obd_of h; obtain ⟨x26, hx26, h⟩ := h
        refine jr_getA jf_86_71 hx26 ?_
        refine jr_iconst jf_86_74 jc_i_1 ?_
        replace h := obd_of h; obtain ⟨a27, rfl, h⟩ := h
        replace h := jgd_of h; obtain ⟨hb28, h⟩ := h
        replace h := obd_of h; obtain ⟨x29, hx29, h⟩ := h
        refine jr_V6_1 jf_86_75 hb28 (by omega) (r_Row_at (by omega) _ _ _ _ hx29) (by simp only [jcats_cons, jcats_nil, cat_int, cat_long, cat_double, cat_float, cat_ref, rv_cat]; decide) jml_23 (Nat.le_of_ble_eq_true rfl) ?_
        replace h := obd_of h; obtain ⟨a30, rfl, h⟩ := h
        replace h := obd_of h; obtain ⟨x31, hx31, h⟩ := h
        rcases ite_or hx31 with ⟨hb, hx⟩ | ⟨hb0, hx⟩
        · obtain hx := Option.some.inj hx
          refine jr_V8a_1 jf_86_78 hb (by omega) (r_Real_term (by omega) _ _ _ _ hx) (by simp only [jcats_cons, jcats_nil, cat_int, cat_long, cat_double, cat_float, cat_ref, rv_cat]; decide) jml_63 (Nat.le_of_ble_eq_true rfl) ?_
          replace h := obd_of h; obtain ⟨a32, rfl, h⟩ := h
          replace h := obd_of h; obtain ⟨x33, hx33, h⟩ := h
          rcases ite_or hx33 with ⟨hb, hx⟩ | ⟨hb0, hx⟩
          · refine jr_V8a_2 jf_86_81 hb (by omega) (r_Real_plus (by omega) _ _ _ _ _ hx) (by simp only [jcats_cons, jcats_nil, cat_int, cat_long, cat_double, cat_float, cat_ref, rv_cat]; decide) jml_65 (Nat.le_of_ble_eq_true rfl) ?_
            replace h := jgd_of h; obtain ⟨hb34, h⟩ := h
            replace h := jbd2_of h; obtain ⟨x35, μ36, hx35, h⟩ := h
            refine jr_V6_1 jf_86_84 hb34 (by omega) (r_Section_settled (by omega) _ _ _ _ _ hx35) (by simp only [jcats_cons, jcats_nil, cat_int, cat_long, cat_double, cat_float, cat_ref, rv_cat]; decide) jml_70 (Nat.le_of_ble_eq_true rfl) ?_
            replace h := obd_of h; obtain ⟨a37, rfl, h⟩ := h
            replace h := jgd_of h; obtain ⟨hb38, h⟩ := h
            replace h := obd_of h; obtain ⟨μ39, hμ39, h⟩ := h
            refine jr_V6v_2 jf_86_87 hb38 (by omega) (r_Row_put (by omega) _ _ _ _ _ hμ39) (Nat.le_of_ble_eq_true rfl) jml_50 (Nat.le_of_ble_eq_true rfl) ?_
            refine jr_aload_n jf_86_90 rfl (jg2_ne rfl (jg2_ne rfl hl0)) ?_
            replace h := obd_of h; obtain ⟨x40, hx40, h⟩ := h
            refine jr_getA jf_86_91 hx40 ?_
            refine jr_iconst jf_86_94 jc_i_1 ?_
            refine jr_aload_n jf_86_95 rfl (jg2_ne rfl (jg2_ne rfl hl0)) ?_
            refine jr_aload_n jf_86_96 rfl (jg2_ne rfl (jg2_ne rfl hl0)) ?_
            replace h := obd_of h; obtain ⟨x41, hx41, h⟩ := h
            refine jr_getA jf_86_97 hx41 ?_
            refine jr_aload_n jf_86_100 rfl (jg2_ne rfl (jg2_ne rfl hl0)) ?_
            refine jr_iconst jf_86_101 jc_i_2 ?_
            refine jr_lload_n jf_86_102 rfl (jg2_ne rfl (jg2_ne rfl hl1)) ?_
            replace h := jgd_of h; obtain ⟨hb42, h⟩ := h
            replace h := obd_of h; obtain ⟨x43, hx43, h⟩ := h
            refine jr_V6_2 jf_86_103 hb42 (by omega) (r_Section_times (by omega) _ _ _ _ _ hx43) (by simp only [jcats_cons, jcats_nil, cat_int, cat_long, cat_double, cat_float, cat_ref, rv_cat]; decide) jml_78 (Nat.le_of_ble_eq_true rfl) ?_
            refine jr_aload_n jf_86_106 rfl (jg2_ne rfl (jg2_ne rfl hl0)) ?_
            refine jr_iconst jf_86_107 jc_i_4 ?_
            refine jr_lload_n jf_86_108 rfl (jg2_ne rfl jg2_same) ?_
            replace h := jgd_of h; obtain ⟨hb44, h⟩ := h
            replace h := obd_of h; obtain ⟨x45, hx45, h⟩ := h
            refine jr_V6_2 jf_86_109 hb44 (by omega) (r_Section_lessTimes (by omega) _ _ _ _ _ hx45) (by simp only [jcats_cons, jcats_nil, cat_int, cat_long, cat_double, cat_float, cat_ref, rv_cat]; decide) jml_81 (Nat.le_of_ble_eq_true rfl) ?_
            replace h := obd_of h; obtain ⟨a46, rfl, h⟩ := h
            replace h := obd_of h; obtain ⟨x47, hx47, h⟩ := h
            rcases ite_or hx47 with ⟨hb, hx⟩ | ⟨hb0, hx⟩
            · refine jr_V8a_2 jf_86_112 hb (by omega) (r_Real_plus (by omega) _ _ _ _ _ hx) (by simp only [jcats_cons, jcats_nil, cat_int, cat_long, cat_double, cat_float, cat_ref, rv_cat]; decide) jml_65 (Nat.le_of_ble_eq_true rfl) ?_
              replace h := jgd_of h; obtain ⟨hb48, h⟩ := h
              replace h := jbd2_of h; obtain ⟨x49, μ50, hx49, h⟩ := h
              refine jr_V6_1 jf_86_115 hb48 (by omega) (r_Section_settled (by omega) _ _ _ _ _ hx49) (by simp only [jcats_cons, jcats_nil, cat_int, cat_long, cat_double, cat_float, cat_ref, rv_cat]; decide) jml_70 (Nat.le_of_ble_eq_true rfl) ?_
              replace h := obd_of h; obtain ⟨a51, rfl, h⟩ := h
              replace h := jgd_of h; obtain ⟨hb52, h⟩ := h
              replace h := obd_of h; obtain ⟨μ53, hμ53, h⟩ := h
              refine jr_V6v_2 jf_86_118 hb52 (by omega) (r_Row_put (by omega) _ _ _ _ _ hμ53) (Nat.le_of_ble_eq_true rfl) jml_50 (Nat.le_of_ble_eq_true rfl) ?_
              refine jr_lload_n jf_86_121 rfl (jg2_ne rfl jg2_same) ?_
              obtain ⟨rfl, rfl⟩ := Prod.mk.inj (Option.some.inj h)
              exact jr_retJ jf_86_122 jmt_86
            · obtain ⟨hb, hx⟩ := jgd_of hx
              obtain hx := Option.some.inj hx
              refine jr_V8b_2 jf_86_112 hb0 hb (by omega) (r_Shorts_plus (by omega) _ _ _ _ _ hx) (by simp only [jcats_cons, jcats_nil, cat_int, cat_long, cat_double, cat_float, cat_ref, rv_cat]; decide) jml_69 (Nat.le_of_ble_eq_true rfl) ?_
              replace h := jgd_of h; obtain ⟨hb48, h⟩ := h
              replace h := jbd2_of h; obtain ⟨x49, μ50, hx49, h⟩ := h
              refine jr_V6_1 jf_86_115 hb48 (by omega) (r_Section_settled (by omega) _ _ _ _ _ hx49) (by simp only [jcats_cons, jcats_nil, cat_int, cat_long, cat_double, cat_float, cat_ref, rv_cat]; decide) jml_70 (Nat.le_of_ble_eq_true rfl) ?_
              replace h := obd_of h; obtain ⟨a51, rfl, h⟩ := h
              replace h := jgd_of h; obtain ⟨hb52, h⟩ := h
              replace h := obd_of h; obtain ⟨μ53, hμ53, h⟩ := h
              refine jr_V6v_2 jf_86_118 hb52 (by omega) (r_Row_put (by omega) _ _ _ _ _ hμ53) (Nat.le_of_ble_eq_true rfl) jml_50 (Nat.le_of_ble_eq_true rfl) ?_
              refine jr_lload_n jf_86_121 rfl (jg2_ne rfl jg2_same) ?_
              obtain ⟨rfl, rfl⟩ := Prod.mk.inj (Option.some.inj h)
              exact jr_retJ jf_86_122 jmt_86
          · obtain ⟨hb, hx⟩ := jgd_of hx
            obtain hx := Option.some.inj hx
            refine jr_V8b_2 jf_86_81 hb0 hb (by omega) (r_Shorts_plus (by omega) _ _ _ _ _ hx) (by simp only [jcats_cons, jcats_nil, cat_int, cat_long, cat_double, cat_float, cat_ref, rv_cat]; decide) jml_69 (Nat.le_of_ble_eq_true rfl) ?_
            replace h := jgd_of h; obtain ⟨hb34, h⟩ := h
            replace h := jbd2_of h; obtain ⟨x35, μ36, hx35, h⟩ := h
            refine jr_V6_1 jf_86_84 hb34 (by omega) (r_Section_settled (by omega) _ _ _ _ _ hx35) (by simp only [jcats_cons, jcats_nil, cat_int, cat_long, cat_double, cat_float, cat_ref, rv_cat]; decide) jml_70 (Nat.le_of_ble_eq_true rfl) ?_
            replace h := obd_of h; obtain ⟨a37, rfl, h⟩ := h
            replace h := jgd_of h; obtain ⟨hb38, h⟩ := h
            replace h := obd_of h; obtain ⟨μ39, hμ39, h⟩ := h
            refine jr_V6v_2 jf_86_87 hb38 (by omega) (r_Row_put (by omega) _ _ _ _ _ hμ39) (Nat.le_of_ble_eq_true rfl) jml_50 (Nat.le_of_ble_eq_true rfl) ?_
            refine jr_aload_n jf_86_90 rfl (jg2_ne rfl (jg2_ne rfl hl0)) ?_
            replace h := obd_of h; obtain ⟨x40, hx40, h⟩ := h
            refine jr_getA jf_86_91 hx40 ?_
            refine jr_iconst jf_86_94 jc_i_1 ?_
            refine jr_aload_n jf_86_95 rfl (jg2_ne rfl (jg2_ne rfl hl0)) ?_
            refine jr_aload_n jf_86_96 rfl (jg2_ne rfl (jg2_ne rfl hl0)) ?_
            replace h := obd_of h; obtain ⟨x41, hx41, h⟩ := h
            refine jr_getA jf_86_97 hx41 ?_
            refine jr_aload_n jf_86_100 rfl (jg2_ne rfl (jg2_ne rfl hl0)) ?_
            refine jr_iconst jf_86_101 jc_i_2 ?_
            refine jr_lload_n jf_86_102 rfl (jg2_ne rfl (jg2_ne rfl hl1)) ?_
            replace h := jgd_of h; obtain ⟨hb42, h⟩ := h
            replace h := obd_of h; obtain ⟨x43, hx43, h⟩ := h
            refine jr_V6_2 jf_86_103 hb42 (by omega) (r_Section_times (by omega) _ _ _ _ _ hx43) (by simp only [jcats_cons, jcats_nil, cat_int, cat_long, cat_double, cat_float, cat_ref, rv_cat]; decide) jml_78 (Nat.le_of_ble_eq_true rfl) ?_
            refine jr_aload_n jf_86_106 rfl (jg2_ne rfl (jg2_ne rfl hl0)) ?_
            refine jr_iconst jf_86_107 jc_i_4 ?_
            refine jr_lload_n jf_86_108 rfl (jg2_ne rfl jg2_same) ?_
            replace h := jgd_of h; obtain ⟨hb44, h⟩ := h
            replace h := obd_of h; obtain ⟨x45, hx45, h⟩ := h
            refine jr_V6_2 jf_86_109 hb44 (by omega) (r_Section_lessTimes (by omega) _ _ _ _ _ hx45) (by simp only [jcats_cons, jcats_nil, cat_int, cat_long, cat_double, cat_float, cat_ref, rv_cat]; decide) jml_81 (Nat.le_of_ble_eq_true rfl) ?_
            replace h := obd_of h; obtain ⟨a46, rfl, h⟩ := h
            replace h := obd_of h; obtain ⟨x47, hx47, h⟩ := h
            rcases ite_or hx47 with ⟨hb, hx⟩ | ⟨hb0, hx⟩
            · refine jr_V8a_2 jf_86_112 hb (by omega) (r_Real_plus (by omega) _ _ _ _ _ hx) (by simp only [jcats_cons, jcats_nil, cat_int, cat_long, cat_double, cat_float, cat_ref, rv_cat]; decide) jml_65 (Nat.le_of_ble_eq_true rfl) ?_
              replace h := jgd_of h; obtain ⟨hb48, h⟩ := h
              replace h := jbd2_of h; obtain ⟨x49, μ50, hx49, h⟩ := h
              refine jr_V6_1 jf_86_115 hb48 (by omega) (r_Section_settled (by omega) _ _ _ _ _ hx49) (by simp only [jcats_cons, jcats_nil, cat_int, cat_long, cat_double, cat_float, cat_ref, rv_cat]; decide) jml_70 (Nat.le_of_ble_eq_true rfl) ?_
              replace h := obd_of h; obtain ⟨a51, rfl, h⟩ := h
              replace h := jgd_of h; obtain ⟨hb52, h⟩ := h
              replace h := obd_of h; obtain ⟨μ53, hμ53, h⟩ := h
              refine jr_V6v_2 jf_86_118 hb52 (by omega) (r_Row_put (by omega) _ _ _ _ _ hμ53) (Nat.le_of_ble_eq_true rfl) jml_50 (Nat.le_of_ble_eq_true rfl) ?_
              refine jr_lload_n jf_86_121 rfl (jg2_ne rfl jg2_same) ?_
              obtain ⟨rfl, rfl⟩ := Prod.mk.inj (Option.some.inj h)
              exact jr_retJ jf_86_122 jmt_86
            · obtain ⟨hb, hx⟩ := jgd_of hx
              obtain hx := Option.some.inj hx
              refine jr_V8b_2 jf_86_112 hb0 hb (by omega) (r_Shorts_plus (by omega) _ _ _ _ _ hx) (by simp only [jcats_cons, jcats_nil, cat_int, cat_long, cat_double, cat_float, cat_ref, rv_cat]; decide) jml_69 (Nat.le_of_ble_eq_true rfl) ?_
              replace h := jgd_of h; obtain ⟨hb48, h⟩ := h
              replace h := jbd2_of h; obtain ⟨x49, μ50, hx49, h⟩ := h
              refine jr_V6_1 jf_86_115 hb48 (by omega) (r_Section_settled (by omega) _ _ _ _ _ hx49) (by simp only [jcats_cons, jcats_nil, cat_int, cat_long, cat_double, cat_float, cat_ref, rv_cat]; decide) jml_70 (Nat.le_of_ble_eq_true rfl) ?_
              replace h := obd_of h; obtain ⟨a51, rfl, h⟩ := h
              replace h := jgd_of h; obtain ⟨hb52, h⟩ := h
              replace h := obd_of h; obtain ⟨μ53, hμ53, h⟩ := h
              refine jr_V6v_2 jf_86_118 hb52 (by omega) (r_Row_put (by omega) _ _ _ _ _ hμ53) (Nat.le_of_ble_eq_true rfl) jml_50 (Nat.le_of_ble_eq_true rfl) ?_
              refine jr_lload_n jf_86_121 rfl (jg2_ne rfl jg2_same) ?_
              obtain ⟨rfl, rfl⟩ := Prod.mk.inj (Option.some.inj h)
              exact jr_retJ jf_86_122 jmt_86
        · obtain ⟨hb, hx⟩ := jgd_of hx
          obtain hx := Option.some.inj hx
          refine jr_V8b_1 jf_86_78 hb0 hb (by omega) (r_Shorts_term (by omega) _ _ _ _ hx) (by simp only [jcats_cons, jcats_nil, cat_int, cat_long, cat_double, cat_float, cat_ref, rv_cat]; decide) jml_64 (Nat.le_of_ble_eq_true rfl) ?_
          replace h := obd_of h; obtain ⟨a32, rfl, h⟩ := h
          replace h := obd_of h; obtain ⟨x33, hx33, h⟩ := h
          rcases ite_or hx33 with ⟨hb, hx⟩ | ⟨hb0, hx⟩
          · refine jr_V8a_2 jf_86_81 hb (by omega) (r_Real_plus (by omega) _ _ _ _ _ hx) (by simp only [jcats_cons, jcats_nil, cat_int, cat_long, cat_double, cat_float, cat_ref, rv_cat]; decide) jml_65 (Nat.le_of_ble_eq_true rfl) ?_
            replace h := jgd_of h; obtain ⟨hb34, h⟩ := h
            replace h := jbd2_of h; obtain ⟨x35, μ36, hx35, h⟩ := h
            refine jr_V6_1 jf_86_84 hb34 (by omega) (r_Section_settled (by omega) _ _ _ _ _ hx35) (by simp only [jcats_cons, jcats_nil, cat_int, cat_long, cat_double, cat_float, cat_ref, rv_cat]; decide) jml_70 (Nat.le_of_ble_eq_true rfl) ?_
            replace h := obd_of h; obtain ⟨a37, rfl, h⟩ := h
            replace h := jgd_of h; obtain ⟨hb38, h⟩ := h
            replace h := obd_of h; obtain ⟨μ39, hμ39, h⟩ := h
            refine jr_V6v_2 jf_86_87 hb38 (by omega) (r_Row_put (by omega) _ _ _ _ _ hμ39) (Nat.le_of_ble_eq_true rfl) jml_50 (Nat.le_of_ble_eq_true rfl) ?_
            refine jr_aload_n jf_86_90 rfl (jg2_ne rfl (jg2_ne rfl hl0)) ?_
            replace h := obd_of h; obtain ⟨x40, hx40, h⟩ := h
            refine jr_getA jf_86_91 hx40 ?_
            refine jr_iconst jf_86_94 jc_i_1 ?_
            refine jr_aload_n jf_86_95 rfl (jg2_ne rfl (jg2_ne rfl hl0)) ?_
            refine jr_aload_n jf_86_96 rfl (jg2_ne rfl (jg2_ne rfl hl0)) ?_
            replace h := obd_of h; obtain ⟨x41, hx41, h⟩ := h
            refine jr_getA jf_86_97 hx41 ?_
            refine jr_aload_n jf_86_100 rfl (jg2_ne rfl (jg2_ne rfl hl0)) ?_
            refine jr_iconst jf_86_101 jc_i_2 ?_
            refine jr_lload_n jf_86_102 rfl (jg2_ne rfl (jg2_ne rfl hl1)) ?_
            replace h := jgd_of h; obtain ⟨hb42, h⟩ := h
            replace h := obd_of h; obtain ⟨x43, hx43, h⟩ := h
            refine jr_V6_2 jf_86_103 hb42 (by omega) (r_Section_times (by omega) _ _ _ _ _ hx43) (by simp only [jcats_cons, jcats_nil, cat_int, cat_long, cat_double, cat_float, cat_ref, rv_cat]; decide) jml_78 (Nat.le_of_ble_eq_true rfl) ?_
            refine jr_aload_n jf_86_106 rfl (jg2_ne rfl (jg2_ne rfl hl0)) ?_
            refine jr_iconst jf_86_107 jc_i_4 ?_
            refine jr_lload_n jf_86_108 rfl (jg2_ne rfl jg2_same) ?_
            replace h := jgd_of h; obtain ⟨hb44, h⟩ := h
            replace h := obd_of h; obtain ⟨x45, hx45, h⟩ := h
            refine jr_V6_2 jf_86_109 hb44 (by omega) (r_Section_lessTimes (by omega) _ _ _ _ _ hx45) (by simp only [jcats_cons, jcats_nil, cat_int, cat_long, cat_double, cat_float, cat_ref, rv_cat]; decide) jml_81 (Nat.le_of_ble_eq_true rfl) ?_
            replace h := obd_of h; obtain ⟨a46, rfl, h⟩ := h
            replace h := obd_of h; obtain ⟨x47, hx47, h⟩ := h
            rcases ite_or hx47 with ⟨hb, hx⟩ | ⟨hb0, hx⟩
            · refine jr_V8a_2 jf_86_112 hb (by omega) (r_Real_plus (by omega) _ _ _ _ _ hx) (by simp only [jcats_cons, jcats_nil, cat_int, cat_long, cat_double, cat_float, cat_ref, rv_cat]; decide) jml_65 (Nat.le_of_ble_eq_true rfl) ?_
              replace h := jgd_of h; obtain ⟨hb48, h⟩ := h
              replace h := jbd2_of h; obtain ⟨x49, μ50, hx49, h⟩ := h
              refine jr_V6_1 jf_86_115 hb48 (by omega) (r_Section_settled (by omega) _ _ _ _ _ hx49) (by simp only [jcats_cons, jcats_nil, cat_int, cat_long, cat_double, cat_float, cat_ref, rv_cat]; decide) jml_70 (Nat.le_of_ble_eq_true rfl) ?_
              replace h := obd_of h; obtain ⟨a51, rfl, h⟩ := h
              replace h := jgd_of h; obtain ⟨hb52, h⟩ := h
              replace h := obd_of h; obtain ⟨μ53, hμ53, h⟩ := h
              refine jr_V6v_2 jf_86_118 hb52 (by omega) (r_Row_put (by omega) _ _ _ _ _ hμ53) (Nat.le_of_ble_eq_true rfl) jml_50 (Nat.le_of_ble_eq_true rfl) ?_
              refine jr_lload_n jf_86_121 rfl (jg2_ne rfl jg2_same) ?_
              obtain ⟨rfl, rfl⟩ := Prod.mk.inj (Option.some.inj h)
              exact jr_retJ jf_86_122 jmt_86
            · obtain ⟨hb, hx⟩ := jgd_of hx
              obtain hx := Option.some.inj hx
              refine jr_V8b_2 jf_86_112 hb0 hb (by omega) (r_Shorts_plus (by omega) _ _ _ _ _ hx) (by simp only [jcats_cons, jcats_nil, cat_int, cat_long, cat_double, cat_float, cat_ref, rv_cat]; decide) jml_69 (Nat.le_of_ble_eq_true rfl) ?_
              replace h := jgd_of h; obtain ⟨hb48, h⟩ := h
              replace h := jbd2_of h; obtain ⟨x49, μ50, hx49, h⟩ := h
              refine jr_V6_1 jf_86_115 hb48 (by omega) (r_Section_settled (by omega) _ _ _ _ _ hx49) (by simp only [jcats_cons, jcats_nil, cat_int, cat_long, cat_double, cat_float, cat_ref, rv_cat]; decide) jml_70 (Nat.le_of_ble_eq_true rfl) ?_
              replace h := obd_of h; obtain ⟨a51, rfl, h⟩ := h
              replace h := jgd_of h; obtain ⟨hb52, h⟩ := h
              replace h := obd_of h; obtain ⟨μ53, hμ53, h⟩ := h
              refine jr_V6v_2 jf_86_118 hb52 (by omega) (r_Row_put (by omega) _ _ _ _ _ hμ53) (Nat.le_of_ble_eq_true rfl) jml_50 (Nat.le_of_ble_eq_true rfl) ?_
              refine jr_lload_n jf_86_121 rfl (jg2_ne rfl jg2_same) ?_
              obtain ⟨rfl, rfl⟩ := Prod.mk.inj (Option.some.inj h)
              exact jr_retJ jf_86_122 jmt_86
          · obtain ⟨hb, hx⟩ := jgd_of hx
            obtain hx := Option.some.inj hx
            refine jr_V8b_2 jf_86_81 hb0 hb (by omega) (r_Shorts_plus (by omega) _ _ _ _ _ hx) (by simp only [jcats_cons, jcats_nil, cat_int, cat_long, cat_double, cat_float, cat_ref, rv_cat]; decide) jml_69 (Nat.le_of_ble_eq_true rfl) ?_
            replace h := jgd_of h; obtain ⟨hb34, h⟩ := h
            replace h := jbd2_of h; obtain ⟨x35, μ36, hx35, h⟩ := h
            refine jr_V6_1 jf_86_84 hb34 (by omega) (r_Section_settled (by omega) _ _ _ _ _ hx35) (by simp only [jcats_cons, jcats_nil, cat_int, cat_long, cat_double, cat_float, cat_ref, rv_cat]; decide) jml_70 (Nat.le_of_ble_eq_true rfl) ?_
            replace h := obd_of h; obtain ⟨a37, rfl, h⟩ := h
            replace h := jgd_of h; obtain ⟨hb38, h⟩ := h
            replace h := obd_of h; obtain ⟨μ39, hμ39, h⟩ := h
            refine jr_V6v_2 jf_86_87 hb38 (by omega) (r_Row_put (by omega) _ _ _ _ _ hμ39) (Nat.le_of_ble_eq_true rfl) jml_50 (Nat.le_of_ble_eq_true rfl) ?_
            refine jr_aload_n jf_86_90 rfl (jg2_ne rfl (jg2_ne rfl hl0)) ?_
            replace h := obd_of h; obtain ⟨x40, hx40, h⟩ := h
            refine jr_getA jf_86_91 hx40 ?_
            refine jr_iconst jf_86_94 jc_i_1 ?_
            refine jr_aload_n jf_86_95 rfl (jg2_ne rfl (jg2_ne rfl hl0)) ?_
            refine jr_aload_n jf_86_96 rfl (jg2_ne rfl (jg2_ne rfl hl0)) ?_
            replace h := obd_of h; obtain ⟨x41, hx41, h⟩ := h
            refine jr_getA jf_86_97 hx41 ?_
            refine jr_aload_n jf_86_100 rfl (jg2_ne rfl (jg2_ne rfl hl0)) ?_
            refine jr_iconst jf_86_101 jc_i_2 ?_
            refine jr_lload_n jf_86_102 rfl (jg2_ne rfl (jg2_ne rfl hl1)) ?_
            replace h := jgd_of h; obtain ⟨hb42, h⟩ := h
            replace h := obd_of h; obtain ⟨x43, hx43, h⟩ := h
            refine jr_V6_2 jf_86_103 hb42 (by omega) (r_Section_times (by omega) _ _ _ _ _ hx43) (by simp only [jcats_cons, jcats_nil, cat_int, cat_long, cat_double, cat_float, cat_ref, rv_cat]; decide) jml_78 (Nat.le_of_ble_eq_true rfl) ?_
            refine jr_aload_n jf_86_106 rfl (jg2_ne rfl (jg2_ne rfl hl0)) ?_
            refine jr_iconst jf_86_107 jc_i_4 ?_
            refine jr_lload_n jf_86_108 rfl (jg2_ne rfl jg2_same) ?_
            replace h := jgd_of h; obtain ⟨hb44, h⟩ := h
            replace h := obd_of h; obtain ⟨x45, hx45, h⟩ := h
            refine jr_V6_2 jf_86_109 hb44 (by omega) (r_Section_lessTimes (by omega) _ _ _ _ _ hx45) (by simp only [jcats_cons, jcats_nil, cat_int, cat_long, cat_double, cat_float, cat_ref, rv_cat]; decide) jml_81 (Nat.le_of_ble_eq_true rfl) ?_
            replace h := obd_of h; obtain ⟨a46, rfl, h⟩ := h
            replace h := obd_of h; obtain ⟨x47, hx47, h⟩ := h
            rcases ite_or hx47 with ⟨hb, hx⟩ | ⟨hb0, hx⟩
            · refine jr_V8a_2 jf_86_112 hb (by omega) (r_Real_plus (by omega) _ _ _ _ _ hx) (by simp only [jcats_cons, jcats_nil, cat_int, cat_long, cat_double, cat_float, cat_ref, rv_cat]; decide) jml_65 (Nat.le_of_ble_eq_true rfl) ?_
              replace h := jgd_of h; obtain ⟨hb48, h⟩ := h
              replace h := jbd2_of h; obtain ⟨x49, μ50, hx49, h⟩ := h
              refine jr_V6_1 jf_86_115 hb48 (by omega) (r_Section_settled (by omega) _ _ _ _ _ hx49) (by simp only [jcats_cons, jcats_nil, cat_int, cat_long, cat_double, cat_float, cat_ref, rv_cat]; decide) jml_70 (Nat.le_of_ble_eq_true rfl) ?_
              replace h := obd_of h; obtain ⟨a51, rfl, h⟩ := h
              replace h := jgd_of h; obtain ⟨hb52, h⟩ := h
              replace h := obd_of h; obtain ⟨μ53, hμ53, h⟩ := h
              refine jr_V6v_2 jf_86_118 hb52 (by omega) (r_Row_put (by omega) _ _ _ _ _ hμ53) (Nat.le_of_ble_eq_true rfl) jml_50 (Nat.le_of_ble_eq_true rfl) ?_
              refine jr_lload_n jf_86_121 rfl (jg2_ne rfl jg2_same) ?_
              obtain ⟨rfl, rfl⟩ := Prod.mk.inj (Option.some.inj h)
              exact jr_retJ jf_86_122 jmt_86
            · obtain ⟨hb, hx⟩ := jgd_of hx
              obtain hx := Option.some.inj hx
              refine jr_V8b_2 jf_86_112 hb0 hb (by omega) (r_Shorts_plus (by omega) _ _ _ _ _ hx) (by simp only [jcats_cons, jcats_nil, cat_int, cat_long, cat_double, cat_float, cat_ref, rv_cat]; decide) jml_69 (Nat.le_of_ble_eq_true rfl) ?_
              replace h := jgd_of h; obtain ⟨hb48, h⟩ := h
              replace h := jbd2_of h; obtain ⟨x49, μ50, hx49, h⟩ := h
              refine jr_V6_1 jf_86_115 hb48 (by omega) (r_Section_settled (by omega) _ _ _ _ _ hx49) (by simp only [jcats_cons, jcats_nil, cat_int, cat_long, cat_double, cat_float, cat_ref, rv_cat]; decide) jml_70 (Nat.le_of_ble_eq_true rfl) ?_
              replace h := obd_of h; obtain ⟨a51, rfl, h⟩ := h
              replace h := jgd_of h; obtain ⟨hb52, h⟩ := h
              replace h := obd_of h; obtain ⟨μ53, hμ53, h⟩ := h
              refine jr_V6v_2 jf_86_118 hb52 (by omega) (r_Row_put (by omega) _ _ _ _ _ hμ53) (Nat.le_of_ble_eq_true rfl) jml_50 (Nat.le_of_ble_eq_true rfl) ?_
              refine jr_lload_n jf_86_121 rfl (jg2_ne rfl jg2_same) ?_
              obtain ⟨rfl, rfl⟩ := Prod.mk.inj (Option.some.inj h)
              exact jr_retJ jf_86_122 jmt_86
set_option maxRecDepth 10000 in
set_option maxHeartbeats 4000000 in
theorem r_Section_turned {B : Nat} {SA : Nat → Nat} {d : Nat} (hd : 4 ≤ d) : ∀ (v0 : Nat) (v1 : Int64) (μ : JMem) (r : Int64) (μ9 : JMem), g_Section_turned B v0 v1 μ = some (r, μ9) → jR B SA d m_Section_turned 0 (lv_args 0 [.ref v0, .long v1]) [] μ (some (.long r)) μ9 := by
  intro v0 v1 μ r μ9 h
  exact r_Section_turned_e hd (lv_args 0 _) _ _ _ _ _ (by simp [lv_args, jget, rv_cat, cat_int, cat_long, cat_double, cat_float, cat_ref]) (by simp [lv_args, jget, rv_cat, cat_int, cat_long, cat_double, cat_float, cat_ref]) h
/-! FilterBench$Section.step(JJ)J -/
set_option maxRecDepth 10000 in
set_option maxHeartbeats 4000000 in
theorem r_Section_step_e {N B : Nat} {SA : Nat → Nat} {d : Nat} (hd : 5 ≤ d) : ∀ (L : JLoc) (v0 : Nat) (v1 : Int64) (v3 : Int64) (μ : JMem) (r : Int64) (μ9 : JMem), jget L 0 = .ref v0 → jget L 1 = .long v1 → jget L 3 = .long v3 → g_Section_step N B v0 v1 v3 μ = some (r, μ9) → jR B SA d m_Section_step 0 L [] μ (some (.long r)) μ9 := by
  intro L v0 v1 v3 μ r μ9 hl0 hl1 hl3 h
  unfold g_Section_step at h
  refine jr_aload_n jf_77_0 rfl hl0 ?_
  replace h := obd_of h; obtain ⟨x1, hx1, h⟩ := h
  refine jr_getI jf_77_1 hx1 ?_
  refine jr_switch jf_77_4 ?_
  replace h := ite_or h; rcases h with ⟨hc, h⟩ | ⟨hc, h⟩
  · refine jsw_hit (by decide) hc ?_
    refine jr_aload_n jf_77_84 rfl hl0 ?_
    refine jr_aload_n jf_77_85 rfl hl0 ?_
    refine jr_iconst jf_77_86 jc_i_0 ?_
    refine jr_lload_n jf_77_87 rfl hl1 ?_
    replace h := jgd_of h; obtain ⟨hb2, h⟩ := h
    replace h := obd_of h; obtain ⟨x3, hx3, h⟩ := h
    refine jr_V6_2 jf_77_88 hb2 (by omega) (r_Section_times (by omega) _ _ _ _ _ hx3) (Nat.le_of_ble_eq_true rfl) jml_78 (Nat.le_of_ble_eq_true rfl) ?_
    replace h := jgd_of h; obtain ⟨hb4, h⟩ := h
    replace h := jbd2_of h; obtain ⟨x5, μ6, hx5, h⟩ := h
    refine jr_V6_1 jf_77_91 hb4 (by omega) (r_Section_settled (by omega) _ _ _ _ _ hx5) (Nat.le_of_ble_eq_true rfl) jml_70 (Nat.le_of_ble_eq_true rfl) ?_
    obtain ⟨rfl, rfl⟩ := Prod.mk.inj (Option.some.inj h)
    exact jr_retJ jf_77_94 jmt_77
  · refine jsw_miss (by decide) hc (by decide : (0 : Int) + 1 = 1) ?_
    replace h := ite_or h; rcases h with ⟨hc, h⟩ | ⟨hc, h⟩
    · refine jsw_hit (by decide) hc ?_
      refine jr_aload_n jf_77_95 rfl hl0 ?_
      refine jr_lload_n jf_77_96 rfl hl1 ?_
      replace h := jgd_of h; obtain ⟨hb7, h⟩ := h
      replace h := jbd2_of h; obtain ⟨x8, μ9, hx8, h⟩ := h
      refine jr_V6_1 jf_77_97 hb7 (by omega) (r_Section_pole (by omega) _ _ _ _ _ hx8) (Nat.le_of_ble_eq_true rfl) jml_79 (Nat.le_of_ble_eq_true rfl) ?_
      obtain ⟨rfl, rfl⟩ := Prod.mk.inj (Option.some.inj h)
      exact jr_retJ jf_77_100 jmt_77
    · refine jsw_miss (by decide) hc (by decide : (1 : Int) + 1 = 2) ?_
      replace h := ite_or h; rcases h with ⟨hc, h⟩ | ⟨hc, h⟩
      · refine jsw_hit (by decide) hc ?_
        refine jr_aload_n jf_77_101 rfl hl0 ?_
        refine jr_lload_n jf_77_102 rfl hl1 ?_
        replace h := jgd_of h; obtain ⟨hb10, h⟩ := h
        replace h := jbd2_of h; obtain ⟨x11, μ12, hx11, h⟩ := h
        refine jr_V6_1 jf_77_103 hb10 (by omega) (r_Section_direct (by omega) _ _ _ _ _ hx11) (Nat.le_of_ble_eq_true rfl) jml_80 (Nat.le_of_ble_eq_true rfl) ?_
        obtain ⟨rfl, rfl⟩ := Prod.mk.inj (Option.some.inj h)
        exact jr_retJ jf_77_106 jmt_77
      · refine jsw_miss (by decide) hc (by decide : (2 : Int) + 1 = 3) ?_
        replace h := ite_or h; rcases h with ⟨hc, h⟩ | ⟨hc, h⟩
        · refine jsw_hit (by decide) hc ?_
          refine jr_aload_n jf_77_107 rfl hl0 ?_
          refine jr_lload_n jf_77_108 rfl hl1 ?_
          replace h := jgd_of h; obtain ⟨hb13, h⟩ := h
          replace h := jbd2_of h; obtain ⟨x14, μ15, hx14, h⟩ := h
          refine jr_V6_1 jf_77_109 hb13 (by omega) (r_Section_second (by omega) _ _ _ _ _ hx14) (Nat.le_of_ble_eq_true rfl) jml_85 (Nat.le_of_ble_eq_true rfl) ?_
          obtain ⟨rfl, rfl⟩ := Prod.mk.inj (Option.some.inj h)
          exact jr_retJ jf_77_112 jmt_77
        · refine jsw_miss (by decide) hc (by decide : (3 : Int) + 1 = 4) ?_
          replace h := ite_or h; rcases h with ⟨hc, h⟩ | ⟨hc, h⟩
          · refine jsw_hit (by decide) hc ?_
            refine jr_aload_n jf_77_113 rfl hl0 ?_
            refine jr_lload_n jf_77_114 rfl hl1 ?_
            replace h := jgd_of h; obtain ⟨hb16, h⟩ := h
            replace h := jbd2_of h; obtain ⟨x17, μ18, hx17, h⟩ := h
            refine jr_V6_1 jf_77_115 hb16 (by omega) (r_Section_turned (by omega) _ _ _ _ _ hx17) (Nat.le_of_ble_eq_true rfl) jml_86 (Nat.le_of_ble_eq_true rfl) ?_
            obtain ⟨rfl, rfl⟩ := Prod.mk.inj (Option.some.inj h)
            exact jr_retJ jf_77_118 jmt_77
          · refine jsw_miss (by decide) hc (by decide : (4 : Int) + 1 = 5) ?_
            replace h := ite_or h; rcases h with ⟨hc, h⟩ | ⟨hc, h⟩
            · refine jsw_hit (by decide) hc ?_
              refine jr_aload_n jf_77_119 rfl hl0 ?_
              refine jr_lload_n jf_77_120 rfl hl1 ?_
              replace h := jgd_of h; obtain ⟨hb19, h⟩ := h
              replace h := jbd2_of h; obtain ⟨x20, μ21, hx20, h⟩ := h
              refine jr_V6_1 jf_77_121 hb19 (by omega) (r_Section_pass (by omega) _ _ _ _ _ hx20) (Nat.le_of_ble_eq_true rfl) jml_87 (Nat.le_of_ble_eq_true rfl) ?_
              obtain ⟨rfl, rfl⟩ := Prod.mk.inj (Option.some.inj h)
              exact jr_retJ jf_77_124 jmt_77
            · refine jsw_miss (by decide) hc (by decide : (5 : Int) + 1 = 6) ?_
              replace h := ite_or h; rcases h with ⟨hc, h⟩ | ⟨hc, h⟩
              · refine jsw_hit (by decide) hc ?_
                refine jr_aload_n jf_77_125 rfl hl0 ?_
                refine jr_lload_n jf_77_126 rfl hl1 ?_
                replace h := jgd_of h; obtain ⟨hb22, h⟩ := h
                replace h := jbd2_of h; obtain ⟨x23, μ24, hx23, h⟩ := h
                refine jr_V6_1 jf_77_127 hb22 (by omega) (r_Section_delayed (by omega) _ _ _ _ _ hx23) (Nat.le_of_ble_eq_true rfl) jml_88 (Nat.le_of_ble_eq_true rfl) ?_
                obtain ⟨rfl, rfl⟩ := Prod.mk.inj (Option.some.inj h)
                exact jr_retJ jf_77_130 jmt_77
              · refine jsw_miss (by decide) hc (by decide : (6 : Int) + 1 = 7) ?_
                replace h := ite_or h; rcases h with ⟨hc, h⟩ | ⟨hc, h⟩
                · refine jsw_hit (by decide) hc ?_
                  refine jr_aload_n jf_77_131 rfl hl0 ?_
                  refine jr_lload_n jf_77_132 rfl hl1 ?_
                  replace h := jgd_of h; obtain ⟨hb25, h⟩ := h
                  replace h := jbd2_of h; obtain ⟨x26, μ27, hx26, h⟩ := h
                  refine jr_V6_1 jf_77_133 hb25 (by omega) (r_Section_mean (by omega) _ _ _ _ _ hx26) (Nat.le_of_ble_eq_true rfl) jml_90 (Nat.le_of_ble_eq_true rfl) ?_
                  obtain ⟨rfl, rfl⟩ := Prod.mk.inj (Option.some.inj h)
                  exact jr_retJ jf_77_136 jmt_77
                · refine jsw_miss (by decide) hc (by decide : (7 : Int) + 1 = 8) ?_
                  replace h := ite_or h; rcases h with ⟨hc, h⟩ | ⟨hc, h⟩
                  · refine jsw_hit (by decide) hc ?_
                    refine jr_aload_n jf_77_137 rfl hl0 ?_
                    refine jr_lload_n jf_77_138 rfl hl1 ?_
                    replace h := jgd_of h; obtain ⟨hb28, h⟩ := h
                    replace h := jbd2_of h; obtain ⟨x29, μ30, hx29, h⟩ := h
                    refine jr_V6_1 jf_77_139 hb28 (by omega) (r_Section_comb (by omega) _ _ _ _ _ hx29) (Nat.le_of_ble_eq_true rfl) jml_92 (Nat.le_of_ble_eq_true rfl) ?_
                    obtain ⟨rfl, rfl⟩ := Prod.mk.inj (Option.some.inj h)
                    exact jr_retJ jf_77_142 jmt_77
                  · refine jsw_miss (by decide) hc (by decide : (8 : Int) + 1 = 9) ?_
                    replace h := ite_or h; rcases h with ⟨hc, h⟩ | ⟨hc, h⟩
                    · refine jsw_hit (by decide) hc ?_
                      refine jr_aload_n jf_77_143 rfl hl0 ?_
                      refine jr_lload_n jf_77_144 rfl hl1 ?_
                      replace h := jgd_of h; obtain ⟨hb31, h⟩ := h
                      replace h := jbd2_of h; obtain ⟨x32, μ33, hx32, h⟩ := h
                      refine jr_V6_1 jf_77_145 hb31 (by omega) (r_Section_clipped (by omega) _ _ _ _ _ hx32) (Nat.le_of_ble_eq_true rfl) jml_93 (Nat.le_of_ble_eq_true rfl) ?_
                      obtain ⟨rfl, rfl⟩ := Prod.mk.inj (Option.some.inj h)
                      exact jr_retJ jf_77_148 jmt_77
                    · refine jsw_miss (by decide) hc (by decide : (9 : Int) + 1 = 10) ?_
                      replace h := ite_or h; rcases h with ⟨hc, h⟩ | ⟨hc, h⟩
                      · refine jsw_hit (by decide) hc ?_
                        refine jr_aload_n jf_77_149 rfl hl0 ?_
                        refine jr_lload_n jf_77_150 rfl hl1 ?_
                        replace h := jgd_of h; obtain ⟨hb34, h⟩ := h
                        replace h := jbd2_of h; obtain ⟨x35, μ36, hx35, h⟩ := h
                        refine jr_V6_1 jf_77_151 hb34 (by omega) (r_Section_deadened (by omega) _ _ _ _ _ hx35) (Nat.le_of_ble_eq_true rfl) jml_100 (Nat.le_of_ble_eq_true rfl) ?_
                        obtain ⟨rfl, rfl⟩ := Prod.mk.inj (Option.some.inj h)
                        exact jr_retJ jf_77_154 jmt_77
                      · refine jsw_miss (by decide) hc (by decide : (10 : Int) + 1 = 11) ?_
                        replace h := ite_or h; rcases h with ⟨hc, h⟩ | ⟨hc, h⟩
                        · refine jsw_hit (by decide) hc ?_
                          refine jr_aload_n jf_77_155 rfl hl0 ?_
                          refine jr_lload_n jf_77_156 rfl hl1 ?_
                          replace h := jgd_of h; obtain ⟨hb37, h⟩ := h
                          replace h := jbd2_of h; obtain ⟨x38, μ39, hx38, h⟩ := h
                          refine jr_V6_1 jf_77_157 hb37 (by omega) (r_Section_peak (by omega) _ _ _ _ _ hx38) (Nat.le_of_ble_eq_true rfl) jml_102 (Nat.le_of_ble_eq_true rfl) ?_
                          obtain ⟨rfl, rfl⟩ := Prod.mk.inj (Option.some.inj h)
                          exact jr_retJ jf_77_160 jmt_77
                        · refine jsw_miss (by decide) hc (by decide : (11 : Int) + 1 = 12) ?_
                          replace h := ite_or h; rcases h with ⟨hc, h⟩ | ⟨hc, h⟩
                          · refine jsw_hit (by decide) hc ?_
                            refine jr_lload_n jf_77_185 rfl hl1 ?_
                            obtain ⟨rfl, rfl⟩ := Prod.mk.inj (Option.some.inj h)
                            exact jr_retJ jf_77_186 jmt_77
                          · refine jsw_miss (by decide) hc (by decide : (12 : Int) + 1 = 13) ?_
                            replace h := ite_or h; rcases h with ⟨hc, h⟩ | ⟨hc, h⟩
                            · refine jsw_hit (by decide) hc ?_
                              refine jr_lload_n jf_77_185 rfl hl1 ?_
                              obtain ⟨rfl, rfl⟩ := Prod.mk.inj (Option.some.inj h)
                              exact jr_retJ jf_77_186 jmt_77
                            · refine jsw_miss (by decide) hc (by decide : (13 : Int) + 1 = 14) ?_
                              replace h := ite_or h; rcases h with ⟨hc, h⟩ | ⟨hc, h⟩
                              · refine jsw_hit (by decide) hc ?_
                                refine jr_lload_n jf_77_185 rfl hl1 ?_
                                obtain ⟨rfl, rfl⟩ := Prod.mk.inj (Option.some.inj h)
                                exact jr_retJ jf_77_186 jmt_77
                              · refine jsw_miss (by decide) hc (by decide : (14 : Int) + 1 = 15) ?_
                                replace h := ite_or h; rcases h with ⟨hc, h⟩ | ⟨hc, h⟩
                                · refine jsw_hit (by decide) hc ?_
                                  refine jr_aload_n jf_77_161 rfl hl0 ?_
                                  refine jr_aload_n jf_77_162 rfl hl0 ?_
                                  replace h := obd_of h; obtain ⟨x40, hx40, h⟩ := h
                                  refine jr_getA jf_77_163 hx40 ?_
                                  refine jr_aload_n jf_77_166 rfl hl0 ?_
                                  refine jr_iconst jf_77_167 jc_i_0 ?_
                                  refine jr_lload_n jf_77_168 rfl hl1 ?_
                                  replace h := jgd_of h; obtain ⟨hb41, h⟩ := h
                                  replace h := obd_of h; obtain ⟨x42, hx42, h⟩ := h
                                  refine jr_V6_2 jf_77_169 hb41 (by omega) (r_Section_times (by omega) _ _ _ _ _ hx42) (by simp only [jcats_cons, jcats_nil, cat_int, cat_long, cat_double, cat_float, cat_ref, rv_cat]; decide) jml_78 (Nat.le_of_ble_eq_true rfl) ?_
                                  refine jr_aload_n jf_77_172 rfl hl0 ?_
                                  refine jr_iconst jf_77_173 jc_i_1 ?_
                                  refine jr_lload_n jf_77_174 rfl hl3 ?_
                                  replace h := jgd_of h; obtain ⟨hb43, h⟩ := h
                                  replace h := obd_of h; obtain ⟨x44, hx44, h⟩ := h
                                  refine jr_V6_2 jf_77_175 hb43 (by omega) (r_Section_times (by omega) _ _ _ _ _ hx44) (by simp only [jcats_cons, jcats_nil, cat_int, cat_long, cat_double, cat_float, cat_ref, rv_cat]; decide) jml_78 (Nat.le_of_ble_eq_true rfl) ?_
                                  replace h := obd_of h; obtain ⟨a45, rfl, h⟩ := h
                                  replace h := obd_of h; obtain ⟨x46, hx46, h⟩ := h
                                  rcases ite_or hx46 with ⟨hb, hx⟩ | ⟨hb0, hx⟩
                                  · refine jr_V8a_2 jf_77_178 hb (by omega) (r_Real_plus (by omega) _ _ _ _ _ hx) (Nat.le_of_ble_eq_true rfl) jml_65 (Nat.le_of_ble_eq_true rfl) ?_
                                    replace h := jgd_of h; obtain ⟨hb47, h⟩ := h
                                    replace h := jbd2_of h; obtain ⟨x48, μ49, hx48, h⟩ := h
                                    refine jr_V6_1 jf_77_181 hb47 (by omega) (r_Section_settled (by omega) _ _ _ _ _ hx48) (Nat.le_of_ble_eq_true rfl) jml_70 (Nat.le_of_ble_eq_true rfl) ?_
                                    obtain ⟨rfl, rfl⟩ := Prod.mk.inj (Option.some.inj h)
                                    exact jr_retJ jf_77_184 jmt_77
                                  · obtain ⟨hb, hx⟩ := jgd_of hx
                                    obtain hx := Option.some.inj hx
                                    refine jr_V8b_2 jf_77_178 hb0 hb (by omega) (r_Shorts_plus (by omega) _ _ _ _ _ hx) (Nat.le_of_ble_eq_true rfl) jml_69 (Nat.le_of_ble_eq_true rfl) ?_
                                    replace h := jgd_of h; obtain ⟨hb47, h⟩ := h
                                    replace h := jbd2_of h; obtain ⟨x48, μ49, hx48, h⟩ := h
                                    refine jr_V6_1 jf_77_181 hb47 (by omega) (r_Section_settled (by omega) _ _ _ _ _ hx48) (Nat.le_of_ble_eq_true rfl) jml_70 (Nat.le_of_ble_eq_true rfl) ?_
                                    obtain ⟨rfl, rfl⟩ := Prod.mk.inj (Option.some.inj h)
                                    exact jr_retJ jf_77_184 jmt_77
                                · refine jsw_miss (by decide) hc (by decide : (15 : Int) + 1 = 16) ?_
                                  refine jsw_end ?_
                                  refine jr_lload_n jf_77_185 rfl hl1 ?_
                                  obtain ⟨rfl, rfl⟩ := Prod.mk.inj (Option.some.inj h)
                                  exact jr_retJ jf_77_186 jmt_77
set_option maxRecDepth 10000 in
set_option maxHeartbeats 4000000 in
theorem r_Section_step {N B : Nat} {SA : Nat → Nat} {d : Nat} (hd : 5 ≤ d) : ∀ (v0 : Nat) (v1 : Int64) (v3 : Int64) (μ : JMem) (r : Int64) (μ9 : JMem), g_Section_step N B v0 v1 v3 μ = some (r, μ9) → jR B SA d m_Section_step 0 (lv_args 0 [.ref v0, .long v1, .long v3]) [] μ (some (.long r)) μ9 := by
  intro v0 v1 v3 μ r μ9 h
  exact r_Section_step_e hd (lv_args 0 _) _ _ _ _ _ _ (by simp [lv_args, jget, rv_cat, cat_int, cat_long, cat_double, cat_float, cat_ref]) (by simp [lv_args, jget, rv_cat, cat_int, cat_long, cat_double, cat_float, cat_ref]) (by simp [lv_args, jget, rv_cat, cat_int, cat_long, cat_double, cat_float, cat_ref]) h
/-! FilterBench.send(LFilterBench$Chain;IJI)I -/
set_option maxRecDepth 10000 in
set_option maxHeartbeats 4000000 in
theorem r_B_send_111 {N B : Nat} {SA : Nat → Nat} {d : Nat} (hd : 6 ≤ d) {kS : Option Nat → Int32 → Int64 → Int32 → JMem → Option (Int32 × JMem)} (iS : ∀ (v0 : Option Nat) (v1 : Int32) (v2 : Int64) (v4 : Int32) (μ : JMem) (r : Int32) (μ9 : JMem), kS v0 v1 v2 v4 μ = some (r, μ9) → jR B SA (d - 1) m_B_send 0 (lv_args 0 [rv v0, .int v1, .long v2, .int v4]) [] μ (some (.int r)) μ9) {k73 : Nat → Int32 → Int64 → Int32 → Nat → Int32 → Int32 → JMem → Option (Int32 × JMem)} (i73 : ∀ (L : JLoc) (v0 : Nat) (v4 : Int32) (v5 : Int64) (v7 : Int32) (v8 : Nat) (v9 : Int32) (v10 : Int32) (μ : JMem) (r : Int32) (μ9 : JMem), jget L 0 = .ref v0 → jget L 4 = .int v4 → jget L 5 = .long v5 → jget L 7 = .int v7 → jget L 8 = .ref v8 → jget L 9 = .int v9 → jget L 10 = .int v10 → k73 v0 v4 v5 v7 v8 v9 v10 μ = some (r, μ9) → jR B SA d m_B_send 73 L [] μ (some (.int r)) μ9) : ∀ (L : JLoc) (v0 : Nat) (v4 : Int32) (v5 : Int64) (v7 : Int32) (v8 : Nat) (v10 : Int32) (s0 : Int64) (s1 : Int32) (s2 : Nat) (s3 : Int32) (μ : JMem) (r : Int32) (μ9 : JMem), jget L 0 = .ref v0 → jget L 4 = .int v4 → jget L 5 = .long v5 → jget L 7 = .int v7 → jget L 8 = .ref v8 → jget L 10 = .int v10 → g_B_send_111 N B kS k73 v0 v4 v5 v7 v8 v10 s0 s1 s2 s3 μ = some (r, μ9) → jR B SA d m_B_send 111 L [.long s0, .int s1, .ref s2, .int s3] μ (some (.int r)) μ9 := by
  intro L v0 v4 v5 v7 v8 v10 s0 s1 s2 s3 μ r μ9 hl0 hl4 hl5 hl7 hl8 hl10 h
  unfold g_B_send_111 at h
  refine jr_iload jf_48_111 hl4 ?_
  refine jr_iconst jf_48_113 jc_i_1 ?_
  refine jr_iadd jf_48_114 ?_
  replace h := jbd2_of h; obtain ⟨x1, μ2, hx1, h⟩ := h
  refine jr_S3_4 jf_48_115 (by omega) (iS _ _ _ _ _ _ _ hx1) (Nat.le_of_ble_eq_true rfl) jml_48 (by simp only [jcats_cons, jcats_nil, cat_int, cat_long, cat_double, cat_float, cat_ref, rv_cat]; decide) ?_
  refine jr_iadd jf_48_118 ?_
  refine jr_istore jf_48_119 jml_48 (by decide) ?_
  refine jr_iinc jf_48_121 jc_i_1 jml_48 (by decide) (jg1_ne rfl hl10) ?_
  refine jr_goto jf_48_124 ?_
  exact i73 _ _ _ _ _ _ _ _ _ _ _ (jg1_ne rfl (jg1_ne rfl hl0)) (jg1_ne rfl (jg1_ne rfl hl4)) (jg1_ne rfl (jg1_ne rfl hl5)) (jg1_ne rfl (jg1_ne rfl hl7)) (jg1_ne rfl (jg1_pre (by first | rfl | exact rv_cat _) hl8)) (jg1_pre rfl jg1_same) jg1_same h
set_option maxRecDepth 10000 in
set_option maxHeartbeats 4000000 in
theorem r_B_send_105 {N B : Nat} {SA : Nat → Nat} {d : Nat} (hd : 6 ≤ d) {kS : Option Nat → Int32 → Int64 → Int32 → JMem → Option (Int32 × JMem)} (iS : ∀ (v0 : Option Nat) (v1 : Int32) (v2 : Int64) (v4 : Int32) (μ : JMem) (r : Int32) (μ9 : JMem), kS v0 v1 v2 v4 μ = some (r, μ9) → jR B SA (d - 1) m_B_send 0 (lv_args 0 [rv v0, .int v1, .long v2, .int v4]) [] μ (some (.int r)) μ9) {k73 : Nat → Int32 → Int64 → Int32 → Nat → Int32 → Int32 → JMem → Option (Int32 × JMem)} (i73 : ∀ (L : JLoc) (v0 : Nat) (v4 : Int32) (v5 : Int64) (v7 : Int32) (v8 : Nat) (v9 : Int32) (v10 : Int32) (μ : JMem) (r : Int32) (μ9 : JMem), jget L 0 = .ref v0 → jget L 4 = .int v4 → jget L 5 = .long v5 → jget L 7 = .int v7 → jget L 8 = .ref v8 → jget L 9 = .int v9 → jget L 10 = .int v10 → k73 v0 v4 v5 v7 v8 v9 v10 μ = some (r, μ9) → jR B SA d m_B_send 73 L [] μ (some (.int r)) μ9) : ∀ (L : JLoc) (v0 : Nat) (v4 : Int32) (v5 : Int64) (v7 : Int32) (v8 : Nat) (v10 : Int32) (s0 : Int32) (s1 : Nat) (s2 : Int32) (μ : JMem) (r : Int32) (μ9 : JMem), jget L 0 = .ref v0 → jget L 4 = .int v4 → jget L 5 = .long v5 → jget L 7 = .int v7 → jget L 8 = .ref v8 → jget L 10 = .int v10 → g_B_send_105 N B kS k73 v0 v4 v5 v7 v8 v10 s0 s1 s2 μ = some (r, μ9) → jR B SA d m_B_send 105 L [.int s0, .ref s1, .int s2] μ (some (.int r)) μ9 := by
  intro L v0 v4 v5 v7 v8 v10 s0 s1 s2 μ r μ9 hl0 hl4 hl5 hl7 hl8 hl10 h
  unfold g_B_send_105 at h
  refine jr_lload jf_48_105 hl5 ?_
  refine jr_goto jf_48_107 ?_
  exact r_B_send_111 hd iS i73 _ _ _ _ _ _ _ _ _ _ _ _ _ _ hl0 hl4 hl5 hl7 hl8 hl10 h
set_option maxRecDepth 10000 in
set_option maxHeartbeats 4000000 in
theorem r_B_send_73 {N B : Nat} {SA : Nat → Nat} {d : Nat} (hd : 6 ≤ d) {kS : Option Nat → Int32 → Int64 → Int32 → JMem → Option (Int32 × JMem)} (iS : ∀ (v0 : Option Nat) (v1 : Int32) (v2 : Int64) (v4 : Int32) (μ : JMem) (r : Int32) (μ9 : JMem), kS v0 v1 v2 v4 μ = some (r, μ9) → jR B SA (d - 1) m_B_send 0 (lv_args 0 [rv v0, .int v1, .long v2, .int v4]) [] μ (some (.int r)) μ9) : ∀ (n : Nat), ∀ (L : JLoc) (v0 : Nat) (v4 : Int32) (v5 : Int64) (v7 : Int32) (v8 : Nat) (v9 : Int32) (v10 : Int32) (μ : JMem) (r : Int32) (μ9 : JMem), jget L 0 = .ref v0 → jget L 4 = .int v4 → jget L 5 = .long v5 → jget L 7 = .int v7 → jget L 8 = .ref v8 → jget L 9 = .int v9 → jget L 10 = .int v10 → g_B_send_73 N B kS n v0 v4 v5 v7 v8 v9 v10 μ = some (r, μ9) → jR B SA d m_B_send 73 L [] μ (some (.int r)) μ9 := by
  intro n
  induction n with
  | zero =>
    intro L v0 v4 v5 v7 v8 v9 v10 μ r μ9 hl0 hl4 hl5 hl7 hl8 hl9 hl10 h
    unfold g_B_send_73 at h
    cases h
  | succ n ih =>
    intro L v0 v4 v5 v7 v8 v9 v10 μ r μ9 hl0 hl4 hl5 hl7 hl8 hl9 hl10 h
    unfold g_B_send_73 at h
    refine jr_iload jf_48_73 hl10 ?_
    refine jr_aload jf_48_75 hl8 ?_
    replace h := obd_of h; obtain ⟨x1, hx1, h⟩ := h
    refine jr_getI jf_48_77 hx1 ?_
    replace h := ite_or h; rcases h with ⟨hc, h⟩ | ⟨hc, h⟩
    · refine jr_if2_ge_t jf_48_80 hc ?_
      refine jr_iload jf_48_127 hl9 ?_
      obtain ⟨rfl, rfl⟩ := Prod.mk.inj (Option.some.inj h)
      exact jr_retI jf_48_129 jmt_48
    · refine jr_if2_ge_f jf_48_80 hc ?_
      refine jr_iload jf_48_83 hl9 ?_
      refine jr_aload_n jf_48_85 rfl hl0 ?_
      refine jr_iload jf_48_86 hl7 ?_
      refine jr_iconst jf_48_88 jc_i_1 ?_
      refine jr_iadd jf_48_89 ?_
      refine jr_iload jf_48_90 hl10 ?_
      replace h := ite_or h; rcases h with ⟨hc, h⟩ | ⟨hc, h⟩
      · refine jr_if_eq_t jf_48_92 hc ?_
        exact r_B_send_105 hd iS ih _ _ _ _ _ _ _ _ _ _ _ _ _ hl0 hl4 hl5 hl7 hl8 hl10 h
      · refine jr_if_eq_f jf_48_92 hc ?_
        refine jr_aload jf_48_95 hl8 ?_
        replace h := obd_of h; obtain ⟨x2, hx2, h⟩ := h
        refine jr_getI jf_48_97 hx2 ?_
        refine jr_bipush jf_48_100 jc_b_14 ?_
        replace h := ite_or h; rcases h with ⟨hc, h⟩ | ⟨hc, h⟩
        · refine jr_if2_ne_f jf_48_102 hc ?_
          exact r_B_send_105 hd iS ih _ _ _ _ _ _ _ _ _ _ _ _ _ hl0 hl4 hl5 hl7 hl8 hl10 h
        · refine jr_if2_ne_t jf_48_102 hc ?_
          refine jr_lconst0 jf_48_110 ?_
          exact r_B_send_111 hd iS ih _ _ _ _ _ _ _ _ _ _ _ _ _ _ hl0 hl4 hl5 hl7 hl8 hl10 h
set_option maxRecDepth 10000 in
set_option maxHeartbeats 4000000 in
theorem r_B_send_198 {N B : Nat} {SA : Nat → Nat} {d : Nat} (hd : 6 ≤ d) {kS : Option Nat → Int32 → Int64 → Int32 → JMem → Option (Int32 × JMem)} (iS : ∀ (v0 : Option Nat) (v1 : Int32) (v2 : Int64) (v4 : Int32) (μ : JMem) (r : Int32) (μ9 : JMem), kS v0 v1 v2 v4 μ = some (r, μ9) → jR B SA (d - 1) m_B_send 0 (lv_args 0 [rv v0, .int v1, .long v2, .int v4]) [] μ (some (.int r)) μ9) {k15 : Option Nat → Int32 → Int64 → Int32 → JMem → Option (Int32 × JMem)} (i15 : ∀ (L : JLoc) (v0 : Option Nat) (v4 : Int32) (v5 : Int64) (v7 : Int32) (μ : JMem) (r : Int32) (μ9 : JMem), jget L 0 = rv v0 → jget L 4 = .int v4 → jget L 5 = .long v5 → jget L 7 = .int v7 → k15 v0 v4 v5 v7 μ = some (r, μ9) → jR B SA d m_B_send 15 L [] μ (some (.int r)) μ9) : ∀ (L : JLoc) (v0 : Nat) (v4 : Int32) (v5 : Int64) (v7 : Int32) (μ : JMem) (r : Int32) (μ9 : JMem), jget L 0 = .ref v0 → jget L 4 = .int v4 → jget L 5 = .long v5 → jget L 7 = .int v7 → g_B_send_198 N B kS k15 v0 v4 v5 v7 μ = some (r, μ9) → jR B SA d m_B_send 198 L [] μ (some (.int r)) μ9 := by
  intro L v0 v4 v5 v7 μ r μ9 hl0 hl4 hl5 hl7 h
  unfold g_B_send_198 at h
  refine jr_iinc jf_48_198 jc_i_1 jml_48 (by decide) hl7 ?_
  refine jr_goto jf_48_201 ?_
  exact i15 _ (some _) _ _ _ _ _ _ (jg1_ne rfl hl0) (jg1_ne rfl hl4) (jg1_ne rfl hl5) jg1_same h
set_option maxRecDepth 10000 in
set_option maxHeartbeats 4000000 in
theorem r_B_send_179 {N B : Nat} {SA : Nat → Nat} {d : Nat} (hd : 6 ≤ d) {kS : Option Nat → Int32 → Int64 → Int32 → JMem → Option (Int32 × JMem)} (iS : ∀ (v0 : Option Nat) (v1 : Int32) (v2 : Int64) (v4 : Int32) (μ : JMem) (r : Int32) (μ9 : JMem), kS v0 v1 v2 v4 μ = some (r, μ9) → jR B SA (d - 1) m_B_send 0 (lv_args 0 [rv v0, .int v1, .long v2, .int v4]) [] μ (some (.int r)) μ9) {k15 : Option Nat → Int32 → Int64 → Int32 → JMem → Option (Int32 × JMem)} (i15 : ∀ (L : JLoc) (v0 : Option Nat) (v4 : Int32) (v5 : Int64) (v7 : Int32) (μ : JMem) (r : Int32) (μ9 : JMem), jget L 0 = rv v0 → jget L 4 = .int v4 → jget L 5 = .long v5 → jget L 7 = .int v7 → k15 v0 v4 v5 v7 μ = some (r, μ9) → jR B SA d m_B_send 15 L [] μ (some (.int r)) μ9) : ∀ (L : JLoc) (v0 : Nat) (v4 : Int32) (v5 : Int64) (v7 : Int32) (v8 : Nat) (v9 : Int64) (μ : JMem) (r : Int32) (μ9 : JMem), jget L 0 = .ref v0 → jget L 4 = .int v4 → jget L 5 = .long v5 → jget L 7 = .int v7 → jget L 8 = .ref v8 → jget L 9 = .long v9 → g_B_send_179 N B kS k15 v0 v4 v5 v7 v8 v9 μ = some (r, μ9) → jR B SA d m_B_send 179 L [] μ (some (.int r)) μ9 := by
  intro L v0 v4 v5 v7 v8 v9 μ r μ9 hl0 hl4 hl5 hl7 hl8 hl9 h
  unfold g_B_send_179 at h
  refine jr_aload jf_48_179 hl8 ?_
  refine jr_lload jf_48_181 hl5 ?_
  refine jr_lload jf_48_183 hl9 ?_
  replace h := jgd_of h; obtain ⟨hb1, h⟩ := h
  replace h := jbd2_of h; obtain ⟨x2, μ3, hx2, h⟩ := h
  refine jr_V6_2 jf_48_185 hb1 (by omega) (r_Section_step (by omega) _ _ _ _ _ _ hx2) (Nat.le_of_ble_eq_true rfl) jml_77 (Nat.le_of_ble_eq_true rfl) ?_
  refine jr_lstore jf_48_188 jml_48 (by decide) ?_
  refine jr_aload_n jf_48_190 rfl (jg2_ne rfl hl0) ?_
  refine jr_iload jf_48_191 (jg2_ne rfl hl7) ?_
  refine jr_lload jf_48_193 jg2_same ?_
  replace h := jgd_of h; obtain ⟨hb4, h⟩ := h
  replace h := obd_of h; obtain ⟨μ5, hμ5, h⟩ := h
  refine jr_V6v_2 jf_48_195 hb4 (by omega) (r_Chain_note (by omega) _ _ _ _ _ hμ5) (Nat.le_of_ble_eq_true rfl) jml_103 (Nat.le_of_ble_eq_true rfl) ?_
  exact r_B_send_198 hd iS i15 _ _ _ _ _ _ _ _ (jg2_ne rfl hl0) (jg2_pre rfl hl4) jg2_same (jg2_ne rfl hl7) h
set_option maxRecDepth 10000 in
set_option maxHeartbeats 4000000 in
theorem r_B_send_15 {N B : Nat} {SA : Nat → Nat} {d : Nat} (hd : 6 ≤ d) {kS : Option Nat → Int32 → Int64 → Int32 → JMem → Option (Int32 × JMem)} (iS : ∀ (v0 : Option Nat) (v1 : Int32) (v2 : Int64) (v4 : Int32) (μ : JMem) (r : Int32) (μ9 : JMem), kS v0 v1 v2 v4 μ = some (r, μ9) → jR B SA (d - 1) m_B_send 0 (lv_args 0 [rv v0, .int v1, .long v2, .int v4]) [] μ (some (.int r)) μ9) : ∀ (n : Nat), ∀ (L : JLoc) (v0 : Option Nat) (v4 : Int32) (v5 : Int64) (v7 : Int32) (μ : JMem) (r : Int32) (μ9 : JMem), jget L 0 = rv v0 → jget L 4 = .int v4 → jget L 5 = .long v5 → jget L 7 = .int v7 → g_B_send_15 N B kS n v0 v4 v5 v7 μ = some (r, μ9) → jR B SA d m_B_send 15 L [] μ (some (.int r)) μ9 := by
  intro n
  induction n with
  | zero =>
    intro L v0 v4 v5 v7 μ r μ9 hl0 hl4 hl5 hl7 h
    unfold g_B_send_15 at h
    cases h
  | succ n ih =>
    intro L v0 v4 v5 v7 μ r μ9 hl0 hl4 hl5 hl7 h
    unfold g_B_send_15 at h
    refine jr_iload jf_48_15 hl7 ?_
    refine jr_aload_n_A jf_48_17 rfl hl0 ?_
    replace h := obd_of h; obtain ⟨a1, rfl, h⟩ := h
    replace h := obd_of h; obtain ⟨x2, hx2, h⟩ := h
    refine jr_getI jf_48_18 hx2 ?_
    replace h := ite_or h; rcases h with ⟨hc, h⟩ | ⟨hc, h⟩
    · refine jr_if2_ge_t jf_48_21 hc ?_
      refine jr_aload_n jf_48_204 rfl hl0 ?_
      refine jr_lload jf_48_205 hl5 ?_
      replace h := jgd_of h; obtain ⟨hb3, h⟩ := h
      replace h := obd_of h; obtain ⟨μ4, hμ4, h⟩ := h
      refine jr_V6v_1 jf_48_207 hb3 (by omega) (r_Chain_emit (by omega) _ _ _ _ hμ4) (Nat.le_of_ble_eq_true rfl) jml_104 (Nat.le_of_ble_eq_true rfl) ?_
      refine jr_iconst jf_48_210 jc_i_1 ?_
      obtain ⟨rfl, rfl⟩ := Prod.mk.inj (Option.some.inj h)
      exact jr_retI jf_48_211 jmt_48
    · refine jr_if2_ge_f jf_48_21 hc ?_
      refine jr_aload_n jf_48_24 rfl hl0 ?_
      refine jr_iload jf_48_25 hl7 ?_
      replace h := jgd_of h; obtain ⟨hb5, h⟩ := h
      replace h := obd_of h; obtain ⟨x6, hx6, h⟩ := h
      refine jr_V6_1 jf_48_27 hb5 (by omega) (r_Chain_memberAt (by omega) _ _ _ _ hx6) (Nat.le_of_ble_eq_true rfl) jml_35 (Nat.le_of_ble_eq_true rfl) ?_
      refine jr_astore_A jf_48_30 jml_48 (by decide) ?_
      refine jr_aload_A jf_48_32 jg1_same ?_
      replace h := jon_or h; rcases h with ⟨rfl, h⟩ | ⟨a7, rfl, h⟩
      · refine jr_ifnonnull_n jf_48_34 ?_
        refine jr_iconst jf_48_37 jc_i_0 ?_
        obtain ⟨rfl, rfl⟩ := Prod.mk.inj (Option.some.inj h)
        exact jr_retI jf_48_38 jmt_48
      · refine jr_ifnonnull_s jf_48_34 ?_
        refine jr_aload jf_48_39 jg1_same ?_
        replace h := obd_of h; obtain ⟨x8, hx8, h⟩ := h
        refine jr_getI jf_48_41 hx8 ?_
        refine jr_bipush jf_48_44 jc_b_12 ?_
        replace h := ite_or h; rcases h with ⟨hc, h⟩ | ⟨hc, h⟩
        · refine jr_if2_ne_f jf_48_46 hc ?_
          refine jr_aload jf_48_49 jg1_same ?_
          replace h := jgd_of h; obtain ⟨hb9, h⟩ := h
          replace h := jbd2_of h; obtain ⟨x10, μ11, hx10, h⟩ := h
          refine jr_V6_0 jf_48_51 hb9 (by omega) (r_Section_letsThrough (by omega) _ _ _ _ hx10) (Nat.le_of_ble_eq_true rfl) jml_49 (Nat.le_of_ble_eq_true rfl) ?_
          replace h := ite_or h; rcases h with ⟨hc, h⟩ | ⟨hc, h⟩
          · refine jr_ifz_ne_t jf_48_54 hc ?_
            exact r_B_send_198 hd iS ih _ _ _ _ _ _ _ _ (jg1_ne rfl hl0) (jg1_ne rfl hl4) (jg1_ne rfl hl5) (jg1_pre rfl hl7) h
          · refine jr_ifz_ne_f jf_48_54 hc ?_
            refine jr_iconst jf_48_57 jc_i_0 ?_
            obtain ⟨rfl, rfl⟩ := Prod.mk.inj (Option.some.inj h)
            exact jr_retI jf_48_58 jmt_48
        · refine jr_if2_ne_t jf_48_46 hc ?_
          refine jr_aload jf_48_59 jg1_same ?_
          replace h := jgd_of h; obtain ⟨hb12, h⟩ := h
          replace h := obd_of h; obtain ⟨x13, hx13, h⟩ := h
          refine jr_V6_0 jf_48_61 hb12 (by omega) (r_Section_spreads (by omega) _ _ _ hx13) (Nat.le_of_ble_eq_true rfl) jml_36 (Nat.le_of_ble_eq_true rfl) ?_
          replace h := ite_or h; rcases h with ⟨hc, h⟩ | ⟨hc, h⟩
          · refine jr_ifz_eq_f jf_48_64 hc ?_
            refine jr_iconst jf_48_67 jc_i_0 ?_
            refine jr_istore jf_48_68 jml_48 (by decide) ?_
            refine jr_iconst jf_48_70 jc_i_0 ?_
            refine jr_istore jf_48_71 jml_48 (by decide) ?_
            exact r_B_send_73 hd iS _ _ _ _ _ _ _ _ _ _ _ _ (jg1_ne rfl (jg1_ne rfl (jg1_ne rfl hl0))) (jg1_ne rfl (jg1_ne rfl (jg1_ne rfl hl4))) (jg1_ne rfl (jg1_ne rfl (jg1_ne rfl hl5))) (jg1_ne rfl (jg1_ne rfl (jg1_pre rfl hl7))) (jg1_ne rfl (jg1_pre (by first | rfl | exact rv_cat _) jg1_same)) (jg1_pre rfl jg1_same) jg1_same h
          · refine jr_ifz_eq_t jf_48_64 hc ?_
            refine jr_aload_n jf_48_130 rfl (jg1_ne rfl hl0) ?_
            refine jr_iload jf_48_131 (jg1_pre rfl hl7) ?_
            refine jr_aload jf_48_133 jg1_same ?_
            refine jr_lload jf_48_135 (jg1_ne rfl hl5) ?_
            replace h := jgd_of h; obtain ⟨hb14, h⟩ := h
            replace h := jbd2_of h; obtain ⟨x15, μ16, hx15, h⟩ := h
            refine jr_V6_3 jf_48_137 hb14 (by omega) (r_Chain_looped (by omega) _ _ _ _ _ _ _ hx15) (Nat.le_of_ble_eq_true rfl) jml_51 (by simp only [jcats_cons, jcats_nil, cat_int, cat_long, cat_double, cat_float, cat_ref, rv_cat]; decide) ?_
            refine jr_lstore jf_48_140 jml_48 (by decide) ?_
            refine jr_lconst0 jf_48_142 ?_
            refine jr_lstore jf_48_143 jml_48 (by decide) ?_
            refine jr_aload jf_48_145 (jg2_pre (by first | rfl | exact rv_cat _) (jg2_ne rfl jg1_same)) ?_
            replace h := obd_of h; obtain ⟨x17, hx17, h⟩ := h
            refine jr_getA jf_48_147 hx17 ?_
            replace h := jon_or h; rcases h with ⟨rfl, h⟩ | ⟨a18, rfl, h⟩
            · refine jr_ifnull_n jf_48_150 ?_
              exact r_B_send_179 hd iS ih _ _ _ _ _ _ _ _ _ _ (jg2_ne rfl (jg2_ne rfl (jg1_ne rfl hl0))) (jg2_ne rfl (jg2_pre rfl (jg1_ne rfl hl4))) (jg2_ne rfl jg2_same) (jg2_ne rfl (jg2_ne rfl (jg1_pre rfl hl7))) (jg2_pre (by first | rfl | exact rv_cat _) (jg2_ne rfl jg1_same)) jg2_same h
            · refine jr_ifnull_s jf_48_150 ?_
              refine jr_aload jf_48_153 (jg2_pre (by first | rfl | exact rv_cat _) (jg2_ne rfl jg1_same)) ?_
              replace h := obd_of h; obtain ⟨x19, hx19, h⟩ := h
              refine jr_getA jf_48_155 hx19 ?_
              refine jr_iconst jf_48_158 jc_i_0 ?_
              refine jr_lload jf_48_159 (jg2_ne rfl jg2_same) ?_
              refine jr_iload jf_48_161 (jg2_ne rfl (jg2_pre rfl (jg1_ne rfl hl4))) ?_
              refine jr_iconst jf_48_163 jc_i_1 ?_
              refine jr_iadd jf_48_164 ?_
              replace h := jbd2_of h; obtain ⟨x20, μ21, hx20, h⟩ := h
              refine jr_S3_4 jf_48_165 (by omega) (iS _ _ _ _ _ _ _ hx20) (Nat.le_of_ble_eq_true rfl) jml_48 (by simp only [jcats_cons, jcats_nil, cat_int, cat_long, cat_double, cat_float, cat_ref, rv_cat]; decide) ?_
              refine jr_pop jf_48_168 rfl ?_
              refine jr_aload jf_48_169 (jg2_pre (by first | rfl | exact rv_cat _) (jg2_ne rfl jg1_same)) ?_
              replace h := obd_of h; obtain ⟨x22, hx22, h⟩ := h
              refine jr_getA jf_48_171 hx22 ?_
              replace h := obd_of h; obtain ⟨a23, rfl, h⟩ := h
              replace h := jgd_of h; obtain ⟨hb24, h⟩ := h
              replace h := obd_of h; obtain ⟨x25, hx25, h⟩ := h
              refine jr_V6_0 jf_48_174 hb24 (by omega) (r_Chain_madeLast (by omega) _ _ _ hx25) (Nat.le_of_ble_eq_true rfl) jml_75 (Nat.le_of_ble_eq_true rfl) ?_
              refine jr_lstore jf_48_177 jml_48 (by decide) ?_
              exact r_B_send_179 hd iS ih _ _ _ _ _ _ _ _ _ _ (jg2_ne rfl (jg2_ne rfl (jg2_ne rfl (jg1_ne rfl hl0)))) (jg2_ne rfl (jg2_ne rfl (jg2_pre rfl (jg1_ne rfl hl4)))) (jg2_ne rfl (jg2_ne rfl jg2_same)) (jg2_ne rfl (jg2_ne rfl (jg2_ne rfl (jg1_pre rfl hl7)))) (jg2_pre (by first | rfl | exact rv_cat _) (jg2_pre (by first | rfl | exact rv_cat _) (jg2_ne rfl jg1_same))) jg2_same h
set_option maxRecDepth 10000 in
set_option maxHeartbeats 4000000 in
theorem r_B_send_b {N B : Nat} {SA : Nat → Nat} {d : Nat} (hd : 6 ≤ d) {kS : Option Nat → Int32 → Int64 → Int32 → JMem → Option (Int32 × JMem)} (iS : ∀ (v0 : Option Nat) (v1 : Int32) (v2 : Int64) (v4 : Int32) (μ : JMem) (r : Int32) (μ9 : JMem), kS v0 v1 v2 v4 μ = some (r, μ9) → jR B SA (d - 1) m_B_send 0 (lv_args 0 [rv v0, .int v1, .long v2, .int v4]) [] μ (some (.int r)) μ9) : ∀ (L : JLoc) (v0 : Option Nat) (v1 : Int32) (v2 : Int64) (v4 : Int32) (μ : JMem) (r : Int32) (μ9 : JMem), jget L 0 = rv v0 → jget L 1 = .int v1 → jget L 2 = .long v2 → jget L 4 = .int v4 → g_B_send_b N B kS v0 v1 v2 v4 μ = some (r, μ9) → jR B SA d m_B_send 0 L [] μ (some (.int r)) μ9 := by
  intro L v0 v1 v2 v4 μ r μ9 hl0 hl1 hl2 hl4 h
  unfold g_B_send_b at h
  refine jr_iload jf_48_0 hl4 ?_
  refine jr_bipush jf_48_2 jc_b_30 ?_
  replace h := ite_or h; rcases h with ⟨hc, h⟩ | ⟨hc, h⟩
  · refine jr_if2_le_t jf_48_4 hc ?_
    refine jr_lload_n jf_48_9 rfl hl2 ?_
    refine jr_lstore jf_48_10 jml_48 (by decide) ?_
    refine jr_iload_n jf_48_12 rfl (jg2_ne rfl hl1) ?_
    refine jr_istore jf_48_13 jml_48 (by decide) ?_
    exact r_B_send_15 hd iS _ _ _ _ _ _ _ _ _ (jg1_ne rfl (jg2_ne rfl hl0)) (jg1_ne rfl (jg2_pre rfl hl4)) (jg1_ne rfl jg2_same) jg1_same h
  · refine jr_if2_le_f jf_48_4 hc ?_
    refine jr_iconst jf_48_7 jc_i_0 ?_
    obtain ⟨rfl, rfl⟩ := Prod.mk.inj (Option.some.inj h)
    exact jr_retI jf_48_8 jmt_48
set_option maxRecDepth 10000 in
set_option maxHeartbeats 4000000 in
theorem r_B_send {N B : Nat} {SA : Nat → Nat} : ∀ (n d : Nat), n + 6 ≤ d → ∀ (v0 : Option Nat) (v1 : Int32) (v2 : Int64) (v4 : Int32) (μ : JMem) (r : Int32) (μ9 : JMem), g_B_send N B n v0 v1 v2 v4 μ = some (r, μ9) → jR B SA d m_B_send 0 (lv_args 0 [rv v0, .int v1, .long v2, .int v4]) [] μ (some (.int r)) μ9 := by
  intro n
  induction n with
  | zero =>
    intro d hd v0 v1 v2 v4 μ r μ9 h
    unfold g_B_send at h
    cases h
  | succ n ih =>
    intro d hd v0 v1 v2 v4 μ r μ9 h
    unfold g_B_send at h
    exact r_B_send_b (by omega) (ih (d - 1) (by omega)) (lv_args 0 _) _ _ _ _ _ _ _ (by simp [lv_args, jget, rv_cat, cat_int, cat_long, cat_double, cat_float, cat_ref]) (by simp [lv_args, jget, rv_cat, cat_int, cat_long, cat_double, cat_float, cat_ref]) (by simp [lv_args, jget, rv_cat, cat_int, cat_long, cat_double, cat_float, cat_ref]) (by simp [lv_args, jget, rv_cat, cat_int, cat_long, cat_double, cat_float, cat_ref]) h
/-! FilterBench.feed(IJ)I -/
set_option maxRecDepth 10000 in
set_option maxHeartbeats 4000000 in
theorem r_B_feed_e {N M B : Nat} {SA : Nat → Nat} {d : Nat} (hd : M + 7 ≤ d) : ∀ (L : JLoc) (v0 : Nat) (v1 : Int32) (v2 : Int64) (μ : JMem) (r : Int32) (μ9 : JMem), jget L 0 = .ref v0 → jget L 1 = .int v1 → jget L 2 = .long v2 → g_B_feed N M B v0 v1 v2 μ = some (r, μ9) → jR B SA d m_B_feed 0 L [] μ (some (.int r)) μ9 := by
  intro L v0 v1 v2 μ r μ9 hl0 hl1 hl2 h
  unfold g_B_feed at h
  refine jr_aload_n jf_46_0 rfl hl0 ?_
  refine jr_iload_n jf_46_1 rfl hl1 ?_
  replace h := jgd_of h; obtain ⟨hb1, h⟩ := h
  replace h := obd_of h; obtain ⟨x2, hx2, h⟩ := h
  refine jr_V6_1 jf_46_2 hb1 (by omega) (r_B_fedAlone (by omega) _ _ _ _ hx2) (Nat.le_of_ble_eq_true rfl) jml_47 (Nat.le_of_ble_eq_true rfl) ?_
  refine jr_astore_A jf_46_5 jml_46 (by decide) ?_
  refine jr_aload_A jf_46_7 jg1_same ?_
  replace h := jon_or h; rcases h with ⟨rfl, h⟩ | ⟨a3, rfl, h⟩
  · refine jr_ifnonnull_n jf_46_9 ?_
    refine jr_iconst jf_46_12 jc_i_m1 ?_
    obtain ⟨rfl, rfl⟩ := Prod.mk.inj (Option.some.inj h)
    exact jr_retI jf_46_13 jmt_46
  · refine jr_ifnonnull_s jf_46_9 ?_
    refine jr_aload_n jf_46_14 rfl (jg1_ne rfl hl0) ?_
    refine jr_aload jf_46_15 jg1_same ?_
    replace h := jgd_of h; obtain ⟨hb4, h⟩ := h
    replace h := obd_of h; obtain ⟨x5, hx5, h⟩ := h
    refine jr_V6_0 jf_46_17 hb4 (by omega) (r_Chain_sort (by omega) _ _ _ hx5) (Nat.le_of_ble_eq_true rfl) jml_34 (Nat.le_of_ble_eq_true rfl) ?_
    replace h := jgd_of h; obtain ⟨hb6, h⟩ := h
    replace h := obd_of h; obtain ⟨x7, hx7, h⟩ := h
    refine jr_V6_1 jf_46_20 hb6 (by omega) (r_B_numbersOf (by omega) _ _ _ _ hx7) (Nat.le_of_ble_eq_true rfl) jml_6 (Nat.le_of_ble_eq_true rfl) ?_
    refine jr_astore_A jf_46_23 jml_46 (by decide) ?_
    refine jr_aload_A jf_46_25 jg1_same ?_
    replace h := jon_or h; rcases h with ⟨rfl, h⟩ | ⟨a8, rfl, h⟩
    · refine jr_ifnull_n jf_46_27 ?_
      refine jr_iconst jf_46_39 jc_i_m1 ?_
      obtain ⟨rfl, rfl⟩ := Prod.mk.inj (Option.some.inj h)
      exact jr_retI jf_46_40 jmt_46
    · refine jr_ifnull_s jf_46_27 ?_
      refine jr_aload jf_46_30 jg1_same ?_
      refine jr_lload_n jf_46_32 rfl (jg1_ne rfl (jg1_ne rfl hl2)) ?_
      replace h := obd_of h; obtain ⟨x9, hx9, h⟩ := h
      rcases ite_or hx9 with ⟨hb, hx⟩ | ⟨hb0, hx⟩
      · refine jr_V8a_1 jf_46_33 hb (by omega) (r_Real_holds (by omega) _ _ _ _ hx) (Nat.le_of_ble_eq_true rfl) jml_15 (Nat.le_of_ble_eq_true rfl) ?_
        replace h := ite_or h; rcases h with ⟨hc, h⟩ | ⟨hc, h⟩
        · refine jr_ifz_ne_t jf_46_36 hc ?_
          refine jr_aload jf_46_41 (jg1_pre (by first | rfl | exact rv_cat _) jg1_same) ?_
          refine jr_iconst jf_46_43 jc_i_0 ?_
          refine jr_aload jf_46_44 jg1_same ?_
          refine jr_lload_n jf_46_46 rfl (jg1_ne rfl (jg1_ne rfl hl2)) ?_
          replace h := obd_of h; obtain ⟨x10, hx10, h⟩ := h
          rcases ite_or hx10 with ⟨hb, hx⟩ | ⟨hb0, hx⟩
          · refine jr_V8a_1 jf_46_47 hb (by omega) (r_Real_clean (by omega) _ _ _ _ hx) (Nat.le_of_ble_eq_true rfl) jml_17 (Nat.le_of_ble_eq_true rfl) ?_
            refine jr_iconst jf_46_50 jc_i_0 ?_
            replace h := jbd2_of h; obtain ⟨x11, μ12, hx11, h⟩ := h
            refine jr_S3_4 jf_46_51 (by omega) (r_B_send M _ (by omega) _ _ _ _ _ _ _ hx11) (Nat.le_of_ble_eq_true rfl) jml_48 (by simp only [jcats_cons, jcats_nil, cat_int, cat_long, cat_double, cat_float, cat_ref, rv_cat]; decide) ?_
            obtain ⟨rfl, rfl⟩ := Prod.mk.inj (Option.some.inj h)
            exact jr_retI jf_46_54 jmt_46
          · obtain ⟨hb, hx⟩ := jgd_of hx
            obtain hx := Option.some.inj hx
            refine jr_V8b_1 jf_46_47 hb0 hb (by omega) (r_Shorts_clean (by omega) _ _ _ _ hx) (Nat.le_of_ble_eq_true rfl) jml_19 (Nat.le_of_ble_eq_true rfl) ?_
            refine jr_iconst jf_46_50 jc_i_0 ?_
            replace h := jbd2_of h; obtain ⟨x11, μ12, hx11, h⟩ := h
            refine jr_S3_4 jf_46_51 (by omega) (r_B_send M _ (by omega) _ _ _ _ _ _ _ hx11) (Nat.le_of_ble_eq_true rfl) jml_48 (by simp only [jcats_cons, jcats_nil, cat_int, cat_long, cat_double, cat_float, cat_ref, rv_cat]; decide) ?_
            obtain ⟨rfl, rfl⟩ := Prod.mk.inj (Option.some.inj h)
            exact jr_retI jf_46_54 jmt_46
        · refine jr_ifz_ne_f jf_46_36 hc ?_
          refine jr_iconst jf_46_39 jc_i_m1 ?_
          obtain ⟨rfl, rfl⟩ := Prod.mk.inj (Option.some.inj h)
          exact jr_retI jf_46_40 jmt_46
      · obtain ⟨hb, hx⟩ := jgd_of hx
        obtain hx := Option.some.inj hx
        refine jr_V8b_1 jf_46_33 hb0 hb (by omega) (r_Shorts_holds (by omega) _ _ _ _ hx) (Nat.le_of_ble_eq_true rfl) jml_16 (Nat.le_of_ble_eq_true rfl) ?_
        replace h := ite_or h; rcases h with ⟨hc, h⟩ | ⟨hc, h⟩
        · refine jr_ifz_ne_t jf_46_36 hc ?_
          refine jr_aload jf_46_41 (jg1_pre (by first | rfl | exact rv_cat _) jg1_same) ?_
          refine jr_iconst jf_46_43 jc_i_0 ?_
          refine jr_aload jf_46_44 jg1_same ?_
          refine jr_lload_n jf_46_46 rfl (jg1_ne rfl (jg1_ne rfl hl2)) ?_
          replace h := obd_of h; obtain ⟨x10, hx10, h⟩ := h
          rcases ite_or hx10 with ⟨hb, hx⟩ | ⟨hb0, hx⟩
          · refine jr_V8a_1 jf_46_47 hb (by omega) (r_Real_clean (by omega) _ _ _ _ hx) (Nat.le_of_ble_eq_true rfl) jml_17 (Nat.le_of_ble_eq_true rfl) ?_
            refine jr_iconst jf_46_50 jc_i_0 ?_
            replace h := jbd2_of h; obtain ⟨x11, μ12, hx11, h⟩ := h
            refine jr_S3_4 jf_46_51 (by omega) (r_B_send M _ (by omega) _ _ _ _ _ _ _ hx11) (Nat.le_of_ble_eq_true rfl) jml_48 (by simp only [jcats_cons, jcats_nil, cat_int, cat_long, cat_double, cat_float, cat_ref, rv_cat]; decide) ?_
            obtain ⟨rfl, rfl⟩ := Prod.mk.inj (Option.some.inj h)
            exact jr_retI jf_46_54 jmt_46
          · obtain ⟨hb, hx⟩ := jgd_of hx
            obtain hx := Option.some.inj hx
            refine jr_V8b_1 jf_46_47 hb0 hb (by omega) (r_Shorts_clean (by omega) _ _ _ _ hx) (Nat.le_of_ble_eq_true rfl) jml_19 (Nat.le_of_ble_eq_true rfl) ?_
            refine jr_iconst jf_46_50 jc_i_0 ?_
            replace h := jbd2_of h; obtain ⟨x11, μ12, hx11, h⟩ := h
            refine jr_S3_4 jf_46_51 (by omega) (r_B_send M _ (by omega) _ _ _ _ _ _ _ hx11) (Nat.le_of_ble_eq_true rfl) jml_48 (by simp only [jcats_cons, jcats_nil, cat_int, cat_long, cat_double, cat_float, cat_ref, rv_cat]; decide) ?_
            obtain ⟨rfl, rfl⟩ := Prod.mk.inj (Option.some.inj h)
            exact jr_retI jf_46_54 jmt_46
        · refine jr_ifz_ne_f jf_46_36 hc ?_
          refine jr_iconst jf_46_39 jc_i_m1 ?_
          obtain ⟨rfl, rfl⟩ := Prod.mk.inj (Option.some.inj h)
          exact jr_retI jf_46_40 jmt_46
set_option maxRecDepth 10000 in
set_option maxHeartbeats 4000000 in
theorem r_B_feed {N M B : Nat} {SA : Nat → Nat} {d : Nat} (hd : M + 7 ≤ d) : ∀ (v0 : Nat) (v1 : Int32) (v2 : Int64) (μ : JMem) (r : Int32) (μ9 : JMem), g_B_feed N M B v0 v1 v2 μ = some (r, μ9) → jR B SA d m_B_feed 0 (lv_args 0 [.ref v0, .int v1, .long v2]) [] μ (some (.int r)) μ9 := by
  intro v0 v1 v2 μ r μ9 h
  exact r_B_feed_e hd (lv_args 0 _) _ _ _ _ _ _ (by simp [lv_args, jget, rv_cat, cat_int, cat_long, cat_double, cat_float, cat_ref]) (by simp [lv_args, jget, rv_cat, cat_int, cat_long, cat_double, cat_float, cat_ref]) (by simp [lv_args, jget, rv_cat, cat_int, cat_long, cat_double, cat_float, cat_ref]) h
/-! FilterBench$Chain.madeAs(I)J -/
set_option maxRecDepth 10000 in
set_option maxHeartbeats 4000000 in
theorem r_Chain_madeAs_12 {B : Nat} {SA : Nat → Nat} {d : Nat} (hd : 1 ≤ d) : ∀ (L : JLoc) (μ : JMem) (r : Int64), g_Chain_madeAs_12 μ.1 = some r → jR B SA d m_Chain_madeAs 12 L [] μ (some (.long r)) μ := by
  intro L μ r h
  unfold g_Chain_madeAs_12 at h
  refine jr_lconst0 jf_106_12 ?_
  refine jr_goto jf_106_13 ?_
  obtain rfl := Option.some.inj h
  exact jr_retJ jf_106_28 jmt_106
set_option maxRecDepth 10000 in
set_option maxHeartbeats 4000000 in
theorem r_Chain_madeAs_e {B : Nat} {SA : Nat → Nat} {d : Nat} (hd : 1 ≤ d) : ∀ (L : JLoc) (v0 : Nat) (v1 : Int32) (μ : JMem) (r : Int64), jget L 0 = .ref v0 → jget L 1 = .int v1 → g_Chain_madeAs v0 v1 μ.1 = some r → jR B SA d m_Chain_madeAs 0 L [] μ (some (.long r)) μ := by
  intro L v0 v1 μ r hl0 hl1 h
  unfold g_Chain_madeAs at h
  refine jr_iload_n jf_106_0 rfl hl1 ?_
  replace h := ite_or h; rcases h with ⟨hc, h⟩ | ⟨hc, h⟩
  · refine jr_if_lt_t jf_106_1 hc ?_
    exact r_Chain_madeAs_12 hd _  _ _ h
  · refine jr_if_lt_f jf_106_1 hc ?_
    refine jr_iload_n jf_106_4 rfl hl1 ?_
    refine jr_aload_n jf_106_5 rfl hl0 ?_
    replace h := obd_of h; obtain ⟨x1, hx1, h⟩ := h
    refine jr_getI jf_106_6 hx1 ?_
    replace h := ite_or h; rcases h with ⟨hc, h⟩ | ⟨hc, h⟩
    · refine jr_if2_lt_t jf_106_9 hc ?_
      refine jr_aload_n jf_106_16 rfl hl0 ?_
      refine jr_aload_n jf_106_17 rfl hl0 ?_
      replace h := obd_of h; obtain ⟨x2, hx2, h⟩ := h
      refine jr_getI jf_106_18 hx2 ?_
      refine jr_iconst jf_106_21 jc_i_1 ?_
      refine jr_isub jf_106_22 ?_
      refine jr_iload_n jf_106_23 rfl hl1 ?_
      refine jr_isub jf_106_24 ?_
      replace h := jgd_of h; obtain ⟨hb3, h⟩ := h
      replace h := obd_of h; obtain ⟨x4, hx4, h⟩ := h
      refine jr_V6_1 jf_106_25 hb3 (by omega) (r_Chain_madeBefore (by omega) _ _ _ _ hx4) (Nat.le_of_ble_eq_true rfl) jml_76 (Nat.le_of_ble_eq_true rfl) ?_
      obtain rfl := Option.some.inj h
      exact jr_retJ jf_106_28 jmt_106
    · refine jr_if2_lt_f jf_106_9 hc ?_
      exact r_Chain_madeAs_12 hd _  _ _ h
set_option maxRecDepth 10000 in
set_option maxHeartbeats 4000000 in
theorem r_Chain_madeAs {B : Nat} {SA : Nat → Nat} {d : Nat} (hd : 1 ≤ d) : ∀ (v0 : Nat) (v1 : Int32) (μ : JMem) (r : Int64), g_Chain_madeAs v0 v1 μ.1 = some r → jR B SA d m_Chain_madeAs 0 (lv_args 0 [.ref v0, .int v1]) [] μ (some (.long r)) μ := by
  intro v0 v1 μ r h
  exact r_Chain_madeAs_e hd (lv_args 0 _) _ _ _ _ (by simp [lv_args, jget, rv_cat, cat_int, cat_long, cat_double, cat_float, cat_ref]) (by simp [lv_args, jget, rv_cat, cat_int, cat_long, cat_double, cat_float, cat_ref]) h
/-! FilterBench.output(II)J -/
set_option maxRecDepth 10000 in
set_option maxHeartbeats 4000000 in
theorem r_B_output_e {B : Nat} {SA : Nat → Nat} {d : Nat} (hd : 2 ≤ d) : ∀ (L : JLoc) (v0 : Nat) (v1 : Int32) (v2 : Int32) (μ : JMem) (r : Int64), jget L 0 = .ref v0 → jget L 1 = .int v1 → jget L 2 = .int v2 → g_B_output v0 v1 v2 μ.1 = some r → jR B SA d m_B_output 0 L [] μ (some (.long r)) μ := by
  intro L v0 v1 v2 μ r hl0 hl1 hl2 h
  unfold g_B_output at h
  refine jr_aload_n jf_105_0 rfl hl0 ?_
  refine jr_iload_n jf_105_1 rfl hl1 ?_
  replace h := jgd_of h; obtain ⟨hb1, h⟩ := h
  replace h := obd_of h; obtain ⟨x2, hx2, h⟩ := h
  refine jr_V6_1 jf_105_2 hb1 (by omega) (r_B_chainAt (by omega) _ _ _ _ hx2) (Nat.le_of_ble_eq_true rfl) jml_33 (Nat.le_of_ble_eq_true rfl) ?_
  refine jr_astore_n_A jf_105_5 rfl jml_105 (by decide) ?_
  refine jr_aload_n_A jf_105_6 rfl jg1_same ?_
  replace h := jon_or h; rcases h with ⟨rfl, h⟩ | ⟨a3, rfl, h⟩
  · refine jr_ifnonnull_n jf_105_7 ?_
    refine jr_lconst0 jf_105_10 ?_
    refine jr_goto jf_105_11 ?_
    obtain rfl := Option.some.inj h
    exact jr_retJ jf_105_19 jmt_105
  · refine jr_ifnonnull_s jf_105_7 ?_
    refine jr_aload_n jf_105_14 rfl jg1_same ?_
    refine jr_iload_n jf_105_15 rfl (jg1_pre rfl hl2) ?_
    replace h := jgd_of h; obtain ⟨hb4, h⟩ := h
    replace h := obd_of h; obtain ⟨x5, hx5, h⟩ := h
    refine jr_V6_1 jf_105_16 hb4 (by omega) (r_Chain_madeAs (by omega) _ _ _ _ hx5) (Nat.le_of_ble_eq_true rfl) jml_106 (Nat.le_of_ble_eq_true rfl) ?_
    obtain rfl := Option.some.inj h
    exact jr_retJ jf_105_19 jmt_105
set_option maxRecDepth 10000 in
set_option maxHeartbeats 4000000 in
theorem r_B_output {B : Nat} {SA : Nat → Nat} {d : Nat} (hd : 2 ≤ d) : ∀ (v0 : Nat) (v1 : Int32) (v2 : Int32) (μ : JMem) (r : Int64), g_B_output v0 v1 v2 μ.1 = some r → jR B SA d m_B_output 0 (lv_args 0 [.ref v0, .int v1, .int v2]) [] μ (some (.long r)) μ := by
  intro v0 v1 v2 μ r h
  exact r_B_output_e hd (lv_args 0 _) _ _ _ _ _ (by simp [lv_args, jget, rv_cat, cat_int, cat_long, cat_double, cat_float, cat_ref]) (by simp [lv_args, jget, rv_cat, cat_int, cat_long, cat_double, cat_float, cat_ref]) (by simp [lv_args, jget, rv_cat, cat_int, cat_long, cat_double, cat_float, cat_ref]) h
/-! FilterBench.gathered(LFilterBench$Chain;I)I -/
set_option maxRecDepth 10000 in
set_option maxHeartbeats 4000000 in
theorem r_B_gathered_e {B : Nat} {SA : Nat → Nat} {d : Nat} (hd : 0 ≤ d) : ∀ (L : JLoc) (v0 : Nat) (v1 : Option Nat) (v2 : Int32) (μ : JMem) (r : Int32) (μ9 : JMem), jget L 0 = .ref v0 → jget L 1 = rv v1 → jget L 2 = .int v2 → g_B_gathered B v0 v1 v2 μ = some (r, μ9) → jR B SA d m_B_gathered 0 L [] μ (some (.int r)) μ9 := by
  intro L v0 v1 v2 μ r μ9 hl0 hl1 hl2 h
  unfold g_B_gathered at h
  refine jr_aload_n_A jf_109_0 rfl hl1 ?_
  replace h := jon_or h; rcases h with ⟨rfl, h⟩ | ⟨a1, rfl, h⟩
  · refine jr_ifnull_n jf_109_1 ?_
    refine jr_iload_n jf_109_17 rfl hl2 ?_
    obtain ⟨rfl, rfl⟩ := Prod.mk.inj (Option.some.inj h)
    exact jr_retI jf_109_18 jmt_109
  · refine jr_ifnull_s jf_109_1 ?_
    refine jr_iload_n jf_109_4 rfl hl2 ?_
    replace h := ite_or h; rcases h with ⟨hc, h⟩ | ⟨hc, h⟩
    · refine jr_if_lt_t jf_109_5 hc ?_
      refine jr_iload_n jf_109_17 rfl hl2 ?_
      obtain ⟨rfl, rfl⟩ := Prod.mk.inj (Option.some.inj h)
      exact jr_retI jf_109_18 jmt_109
    · refine jr_if_lt_f jf_109_5 hc ?_
      refine jr_iload_n jf_109_8 rfl hl2 ?_
      refine jr_aload_n jf_109_9 rfl hl0 ?_
      replace h := obd_of h; obtain ⟨x2, hx2, h⟩ := h
      refine jr_getA jf_109_10 hx2 ?_
      replace h := obd_of h; obtain ⟨a3, rfl, h⟩ := h
      replace h := obd_of h; obtain ⟨x4, hx4, h⟩ := h
      refine jr_arraylength jf_109_13 hx4 ?_
      replace h := ite_or h; rcases h with ⟨hc, h⟩ | ⟨hc, h⟩
      · refine jr_if2_lt_t jf_109_14 hc ?_
        refine jr_aload_n jf_109_19 rfl hl0 ?_
        replace h := obd_of h; obtain ⟨x5, hx5, h⟩ := h
        refine jr_getA jf_109_20 hx5 ?_
        refine jr_iload_n jf_109_23 rfl hl2 ?_
        refine jr_aload_n jf_109_24 rfl hl1 ?_
        replace h := obd_of h; obtain ⟨a6, rfl, h⟩ := h
        replace h := obd_of h; obtain ⟨μ7, hμ7, h⟩ := h
        refine jr_aastore jf_109_25 hμ7 ?_
        refine jr_iload_n jf_109_26 rfl hl2 ?_
        refine jr_iconst jf_109_27 jc_i_1 ?_
        refine jr_iadd jf_109_28 ?_
        obtain ⟨rfl, rfl⟩ := Prod.mk.inj (Option.some.inj h)
        exact jr_retI jf_109_29 jmt_109
      · refine jr_if2_lt_f jf_109_14 hc ?_
        refine jr_iload_n jf_109_17 rfl hl2 ?_
        obtain ⟨rfl, rfl⟩ := Prod.mk.inj (Option.some.inj h)
        exact jr_retI jf_109_18 jmt_109
set_option maxRecDepth 10000 in
set_option maxHeartbeats 4000000 in
theorem r_B_gathered {B : Nat} {SA : Nat → Nat} {d : Nat} (hd : 0 ≤ d) : ∀ (v0 : Nat) (v1 : Option Nat) (v2 : Int32) (μ : JMem) (r : Int32) (μ9 : JMem), g_B_gathered B v0 v1 v2 μ = some (r, μ9) → jR B SA d m_B_gathered 0 (lv_args 0 [.ref v0, rv v1, .int v2]) [] μ (some (.int r)) μ9 := by
  intro v0 v1 v2 μ r μ9 h
  exact r_B_gathered_e hd (lv_args 0 _) _ _ _ _ _ _ (by simp [lv_args, jget, rv_cat, cat_int, cat_long, cat_double, cat_float, cat_ref]) (by simp [lv_args, jget, rv_cat, cat_int, cat_long, cat_double, cat_float, cat_ref]) (by simp [lv_args, jget, rv_cat, cat_int, cat_long, cat_double, cat_float, cat_ref]) h
/-! FilterBench.gather(LFilterBench$Chain;)I -/
set_option maxRecDepth 10000 in
set_option maxHeartbeats 4000000 in
theorem r_B_gather_77 {N B : Nat} {SA : Nat → Nat} {d : Nat} (hd : 1 ≤ d) {k9 : Nat → Int32 → Int32 → JMem → Option (Int32 × JMem)} (i9 : ∀ (L : JLoc) (v0 : Nat) (v2 : Int32) (v3 : Int32) (μ : JMem) (r : Int32) (μ9 : JMem), jget L 0 = .ref v0 → jget L 2 = .int v2 → jget L 3 = .int v3 → k9 v0 v2 v3 μ = some (r, μ9) → jR B SA d m_B_gather 9 L [] μ (some (.int r)) μ9) {k34 : Nat → Int32 → Int32 → Option Nat → Int32 → JMem → Option (Int32 × JMem)} (i34 : ∀ (L : JLoc) (v0 : Nat) (v2 : Int32) (v3 : Int32) (v4 : Option Nat) (v5 : Int32) (μ : JMem) (r : Int32) (μ9 : JMem), jget L 0 = .ref v0 → jget L 2 = .int v2 → jget L 3 = .int v3 → jget L 4 = rv v4 → jget L 5 = .int v5 → k34 v0 v2 v3 v4 v5 μ = some (r, μ9) → jR B SA d m_B_gather 34 L [] μ (some (.int r)) μ9) : ∀ (L : JLoc) (v0 : Nat) (v3 : Int32) (v4 : Nat) (v5 : Int32) (s0 : Int32) (μ : JMem) (r : Int32) (μ9 : JMem), jget L 0 = .ref v0 → jget L 3 = .int v3 → jget L 4 = .ref v4 → jget L 5 = .int v5 → g_B_gather_77 N B k9 k34 v0 v3 v4 v5 s0 μ = some (r, μ9) → jR B SA d m_B_gather 77 L [.int s0] μ (some (.int r)) μ9 := by
  intro L v0 v3 v4 v5 s0 μ r μ9 hl0 hl3 hl4 hl5 h
  unfold g_B_gather_77 at h
  refine jr_istore_n jf_108_77 rfl jml_108 (by decide) ?_
  refine jr_iinc jf_108_78 jc_i_1 jml_108 (by decide) (jg1_ne rfl hl5) ?_
  refine jr_goto jf_108_81 ?_
  exact i34 _ _ _ _ (some _) _ _ _ _ (jg1_ne rfl (jg1_ne rfl hl0)) (jg1_ne rfl jg1_same) (jg1_ne rfl (jg1_ne rfl hl3)) (jg1_pre (by first | rfl | exact rv_cat _) (jg1_ne rfl hl4)) jg1_same h
set_option maxRecDepth 10000 in
set_option maxHeartbeats 4000000 in
theorem r_B_gather_84 {N B : Nat} {SA : Nat → Nat} {d : Nat} (hd : 1 ≤ d) {k9 : Nat → Int32 → Int32 → JMem → Option (Int32 × JMem)} (i9 : ∀ (L : JLoc) (v0 : Nat) (v2 : Int32) (v3 : Int32) (μ : JMem) (r : Int32) (μ9 : JMem), jget L 0 = .ref v0 → jget L 2 = .int v2 → jget L 3 = .int v3 → k9 v0 v2 v3 μ = some (r, μ9) → jR B SA d m_B_gather 9 L [] μ (some (.int r)) μ9) : ∀ (L : JLoc) (v0 : Nat) (v2 : Int32) (v3 : Int32) (μ : JMem) (r : Int32) (μ9 : JMem), jget L 0 = .ref v0 → jget L 2 = .int v2 → jget L 3 = .int v3 → g_B_gather_84 N B k9 v0 v2 v3 μ = some (r, μ9) → jR B SA d m_B_gather 84 L [] μ (some (.int r)) μ9 := by
  intro L v0 v2 v3 μ r μ9 hl0 hl2 hl3 h
  unfold g_B_gather_84 at h
  refine jr_iinc jf_108_84 jc_i_1 jml_108 (by decide) hl3 ?_
  refine jr_goto jf_108_87 ?_
  exact i9 _ _ _ _ _ _ _ (jg1_ne rfl hl0) (jg1_pre rfl hl2) jg1_same h
set_option maxRecDepth 10000 in
set_option maxHeartbeats 4000000 in
theorem r_B_gather_34 {N B : Nat} {SA : Nat → Nat} {d : Nat} (hd : 1 ≤ d) {k9 : Nat → Int32 → Int32 → JMem → Option (Int32 × JMem)} (i9 : ∀ (L : JLoc) (v0 : Nat) (v2 : Int32) (v3 : Int32) (μ : JMem) (r : Int32) (μ9 : JMem), jget L 0 = .ref v0 → jget L 2 = .int v2 → jget L 3 = .int v3 → k9 v0 v2 v3 μ = some (r, μ9) → jR B SA d m_B_gather 9 L [] μ (some (.int r)) μ9) : ∀ (n : Nat), ∀ (L : JLoc) (v0 : Nat) (v2 : Int32) (v3 : Int32) (v4 : Option Nat) (v5 : Int32) (μ : JMem) (r : Int32) (μ9 : JMem), jget L 0 = .ref v0 → jget L 2 = .int v2 → jget L 3 = .int v3 → jget L 4 = rv v4 → jget L 5 = .int v5 → g_B_gather_34 N B k9 n v0 v2 v3 v4 v5 μ = some (r, μ9) → jR B SA d m_B_gather 34 L [] μ (some (.int r)) μ9 := by
  intro n
  induction n with
  | zero =>
    intro L v0 v2 v3 v4 v5 μ r μ9 hl0 hl2 hl3 hl4 hl5 h
    unfold g_B_gather_34 at h
    cases h
  | succ n ih =>
    intro L v0 v2 v3 v4 v5 μ r μ9 hl0 hl2 hl3 hl4 hl5 h
    unfold g_B_gather_34 at h
    refine jr_aload_A jf_108_34 hl4 ?_
    replace h := jon_or h; rcases h with ⟨rfl, h⟩ | ⟨a1, rfl, h⟩
    · refine jr_ifnull_n jf_108_36 ?_
      exact r_B_gather_84 hd i9 _ _ _ _ _ _ _ hl0 hl2 hl3 h
    · refine jr_ifnull_s jf_108_36 ?_
      refine jr_iload jf_108_39 hl5 ?_
      refine jr_aload jf_108_41 hl4 ?_
      replace h := obd_of h; obtain ⟨x2, hx2, h⟩ := h
      refine jr_getI jf_108_43 hx2 ?_
      replace h := ite_or h; rcases h with ⟨hc, h⟩ | ⟨hc, h⟩
      · refine jr_if2_ge_t jf_108_46 hc ?_
        exact r_B_gather_84 hd i9 _ _ _ _ _ _ _ hl0 hl2 hl3 h
      · refine jr_if2_ge_f jf_108_46 hc ?_
        refine jr_aload jf_108_49 hl4 ?_
        refine jr_iload jf_108_51 hl5 ?_
        replace h := jgd_of h; obtain ⟨hb3, h⟩ := h
        replace h := obd_of h; obtain ⟨x4, hx4, h⟩ := h
        refine jr_V6_1 jf_108_53 hb3 (by omega) (r_Chain_memberAt (by omega) _ _ _ _ hx4) (Nat.le_of_ble_eq_true rfl) jml_35 (Nat.le_of_ble_eq_true rfl) ?_
        refine jr_astore_A jf_108_56 jml_108 (by decide) ?_
        refine jr_aload_A jf_108_58 jg1_same ?_
        replace h := jon_or h; rcases h with ⟨rfl, h⟩ | ⟨a5, rfl, h⟩
        · refine jr_ifnonnull_n jf_108_60 ?_
          refine jr_iload_n jf_108_63 rfl (jg1_ne rfl hl2) ?_
          refine jr_goto jf_108_64 ?_
          exact r_B_gather_77 hd i9 ih _ _ _ _ _ _ _ _ _ (jg1_ne rfl hl0) (jg1_ne rfl hl3) (jg1_ne rfl hl4) (jg1_pre rfl hl5) h
        · refine jr_ifnonnull_s jf_108_60 ?_
          refine jr_aload_n jf_108_67 rfl (jg1_ne rfl hl0) ?_
          refine jr_aload jf_108_68 jg1_same ?_
          replace h := obd_of h; obtain ⟨x6, hx6, h⟩ := h
          refine jr_getA jf_108_70 hx6 ?_
          refine jr_iload_n jf_108_73 rfl (jg1_ne rfl hl2) ?_
          replace h := jgd_of h; obtain ⟨hb7, h⟩ := h
          replace h := jbd2_of h; obtain ⟨x8, μ9, hx8, h⟩ := h
          refine jr_V6_2 jf_108_74 hb7 (by omega) (r_B_gathered (by omega) _ _ _ _ _ _ hx8) (Nat.le_of_ble_eq_true rfl) jml_109 (by simp only [jcats_cons, jcats_nil, cat_int, cat_long, cat_double, cat_float, cat_ref, rv_cat]; decide) ?_
          exact r_B_gather_77 hd i9 ih _ _ _ _ _ _ _ _ _ (jg1_ne rfl hl0) (jg1_ne rfl hl3) (jg1_ne rfl hl4) (jg1_pre rfl hl5) h
set_option maxRecDepth 10000 in
set_option maxHeartbeats 4000000 in
theorem r_B_gather_9 {N B : Nat} {SA : Nat → Nat} {d : Nat} (hd : 1 ≤ d) : ∀ (n : Nat), ∀ (L : JLoc) (v0 : Nat) (v2 : Int32) (v3 : Int32) (μ : JMem) (r : Int32) (μ9 : JMem), jget L 0 = .ref v0 → jget L 2 = .int v2 → jget L 3 = .int v3 → g_B_gather_9 N B n v0 v2 v3 μ = some (r, μ9) → jR B SA d m_B_gather 9 L [] μ (some (.int r)) μ9 := by
  intro n
  induction n with
  | zero =>
    intro L v0 v2 v3 μ r μ9 hl0 hl2 hl3 h
    unfold g_B_gather_9 at h
    cases h
  | succ n ih =>
    intro L v0 v2 v3 μ r μ9 hl0 hl2 hl3 h
    unfold g_B_gather_9 at h
    refine jr_iload_n jf_108_9 rfl hl3 ?_
    refine jr_iload_n jf_108_10 rfl hl2 ?_
    replace h := ite_or h; rcases h with ⟨hc, h⟩ | ⟨hc, h⟩
    · refine jr_if2_ge_t jf_108_11 hc ?_
      refine jr_iload_n jf_108_90 rfl hl2 ?_
      obtain ⟨rfl, rfl⟩ := Prod.mk.inj (Option.some.inj h)
      exact jr_retI jf_108_91 jmt_108
    · refine jr_if2_ge_f jf_108_11 hc ?_
      refine jr_iload_n jf_108_14 rfl hl3 ?_
      refine jr_aload_n jf_108_15 rfl hl0 ?_
      replace h := obd_of h; obtain ⟨x1, hx1, h⟩ := h
      refine jr_getA jf_108_16 hx1 ?_
      replace h := obd_of h; obtain ⟨a2, rfl, h⟩ := h
      replace h := obd_of h; obtain ⟨x3, hx3, h⟩ := h
      refine jr_arraylength jf_108_19 hx3 ?_
      replace h := ite_or h; rcases h with ⟨hc, h⟩ | ⟨hc, h⟩
      · refine jr_if2_ge_t jf_108_20 hc ?_
        refine jr_iload_n jf_108_90 rfl hl2 ?_
        obtain ⟨rfl, rfl⟩ := Prod.mk.inj (Option.some.inj h)
        exact jr_retI jf_108_91 jmt_108
      · refine jr_if2_ge_f jf_108_20 hc ?_
        refine jr_aload_n jf_108_23 rfl hl0 ?_
        replace h := obd_of h; obtain ⟨x4, hx4, h⟩ := h
        refine jr_getA jf_108_24 hx4 ?_
        refine jr_iload_n jf_108_27 rfl hl3 ?_
        replace h := obd_of h; obtain ⟨a5, rfl, h⟩ := h
        replace h := obd_of h; obtain ⟨x6, hx6, h⟩ := h
        refine jr_aaload jf_108_28 hx6 ?_
        refine jr_astore_A jf_108_29 jml_108 (by decide) ?_
        refine jr_iconst jf_108_31 jc_i_0 ?_
        refine jr_istore jf_108_32 jml_108 (by decide) ?_
        exact r_B_gather_34 hd ih _ _ _ _ _ _ _ _ _ _ (jg1_ne rfl (jg1_ne rfl hl0)) (jg1_ne rfl (jg1_ne rfl hl2)) (jg1_ne rfl (jg1_pre rfl hl3)) (jg1_pre (by first | rfl | exact rv_cat _) jg1_same) jg1_same h
set_option maxRecDepth 10000 in
set_option maxHeartbeats 4000000 in
theorem r_B_gather_e {N B : Nat} {SA : Nat → Nat} {d : Nat} (hd : 1 ≤ d) : ∀ (L : JLoc) (v0 : Nat) (v1 : Option Nat) (μ : JMem) (r : Int32) (μ9 : JMem), jget L 0 = .ref v0 → jget L 1 = rv v1 → g_B_gather N B v0 v1 μ = some (r, μ9) → jR B SA d m_B_gather 0 L [] μ (some (.int r)) μ9 := by
  intro L v0 v1 μ r μ9 hl0 hl1 h
  unfold g_B_gather at h
  refine jr_aload_n jf_108_0 rfl hl0 ?_
  refine jr_aload_n_A jf_108_1 rfl hl1 ?_
  refine jr_iconst jf_108_2 jc_i_0 ?_
  replace h := jgd_of h; obtain ⟨hb1, h⟩ := h
  replace h := jbd2_of h; obtain ⟨x2, μ3, hx2, h⟩ := h
  refine jr_V6_2 jf_108_3 hb1 (by omega) (r_B_gathered (by omega) _ _ _ _ _ _ hx2) (Nat.le_of_ble_eq_true rfl) jml_109 (by simp only [jcats_cons, jcats_nil, cat_int, cat_long, cat_double, cat_float, cat_ref, rv_cat]; decide) ?_
  refine jr_istore_n jf_108_6 rfl jml_108 (by decide) ?_
  refine jr_iconst jf_108_7 jc_i_0 ?_
  refine jr_istore_n jf_108_8 rfl jml_108 (by decide) ?_
  exact r_B_gather_9 hd _ _ _ _ _ _ _ _ (jg1_ne rfl (jg1_ne rfl hl0)) (jg1_pre rfl jg1_same) jg1_same h
set_option maxRecDepth 10000 in
set_option maxHeartbeats 4000000 in
theorem r_B_gather {N B : Nat} {SA : Nat → Nat} {d : Nat} (hd : 1 ≤ d) : ∀ (v0 : Nat) (v1 : Option Nat) (μ : JMem) (r : Int32) (μ9 : JMem), g_B_gather N B v0 v1 μ = some (r, μ9) → jR B SA d m_B_gather 0 (lv_args 0 [.ref v0, rv v1]) [] μ (some (.int r)) μ9 := by
  intro v0 v1 μ r μ9 h
  exact r_B_gather_e hd (lv_args 0 _) _ _ _ _ _ (by simp [lv_args, jget, rv_cat, cat_int, cat_long, cat_double, cat_float, cat_ref]) (by simp [lv_args, jget, rv_cat, cat_int, cat_long, cat_double, cat_float, cat_ref]) h
/-! FilterBench$Chain.rowAt(I)LFilterBench$Row; -/
set_option maxRecDepth 10000 in
set_option maxHeartbeats 4000000 in
theorem r_Chain_rowAt_e {B : Nat} {SA : Nat → Nat} {d : Nat} (hd : 1 ≤ d) : ∀ (L : JLoc) (v0 : Nat) (v1 : Int32) (μ : JMem) (r : Option Nat), jget L 0 = .ref v0 → jget L 1 = .int v1 → g_Chain_rowAt v0 v1 μ.1 = some r → jR B SA d m_Chain_rowAt 0 L [] μ (some (rv r)) μ := by
  intro L v0 v1 μ r hl0 hl1 h
  unfold g_Chain_rowAt at h
  refine jr_iload_n jf_112_0 rfl hl1 ?_
  refine jr_iconst jf_112_1 jc_i_2 ?_
  refine jr_aload_n jf_112_2 rfl hl0 ?_
  replace h := obd_of h; obtain ⟨x1, hx1, h⟩ := h
  refine jr_getI jf_112_3 hx1 ?_
  refine jr_imul jf_112_6 ?_
  replace h := ite_or h; rcases h with ⟨hc, h⟩ | ⟨hc, h⟩
  · refine jr_if2_ge_t jf_112_7 hc ?_
    refine jr_aload_n jf_112_44 rfl hl0 ?_
    refine jr_iload_n jf_112_45 rfl hl1 ?_
    refine jr_iconst jf_112_46 jc_i_2 ?_
    refine jr_aload_n jf_112_47 rfl hl0 ?_
    replace h := obd_of h; obtain ⟨x2, hx2, h⟩ := h
    refine jr_getI jf_112_48 hx2 ?_
    refine jr_imul jf_112_51 ?_
    refine jr_isub jf_112_52 ?_
    replace h := jgd_of h; obtain ⟨hb3, h⟩ := h
    replace h := obd_of h; obtain ⟨x4, hx4, h⟩ := h
    refine jr_V6_1 jf_112_53 hb3 (by omega) (r_Chain_loopAt (by omega) _ _ _ _ hx4) (Nat.le_of_ble_eq_true rfl) jml_52 (Nat.le_of_ble_eq_true rfl) ?_
    refine jr_astore_n_A jf_112_56 rfl jml_112 (by decide) ?_
    refine jr_aload_n_A jf_112_57 rfl jg1_same ?_
    replace h := jon_or h; rcases h with ⟨rfl, h⟩ | ⟨a5, rfl, h⟩
    · refine jr_ifnonnull_n jf_112_58 ?_
      refine jr_aconst_null jf_112_61 ?_
      refine jr_goto jf_112_62 ?_
      obtain rfl := Option.some.inj h
      exact jr_retA jf_112_69 jmt_112
    · refine jr_ifnonnull_s jf_112_58 ?_
      refine jr_aload_n jf_112_65 rfl jg1_same ?_
      replace h := obd_of h; obtain ⟨x6, hx6, h⟩ := h
      refine jr_getA jf_112_66 hx6 ?_
      obtain rfl := Option.some.inj h
      exact jr_retA jf_112_69 jmt_112
  · refine jr_if2_ge_f jf_112_7 hc ?_
    refine jr_aload_n jf_112_10 rfl hl0 ?_
    refine jr_iload_n jf_112_11 rfl hl1 ?_
    refine jr_iconst jf_112_12 jc_i_1 ?_
    refine jr_ishr jf_112_13 ?_
    replace h := jgd_of h; obtain ⟨hb7, h⟩ := h
    replace h := obd_of h; obtain ⟨x8, hx8, h⟩ := h
    refine jr_V6_1 jf_112_14 hb7 (by omega) (r_Chain_memberAt (by omega) _ _ _ _ hx8) (Nat.le_of_ble_eq_true rfl) jml_35 (Nat.le_of_ble_eq_true rfl) ?_
    refine jr_astore_n_A jf_112_17 rfl jml_112 (by decide) ?_
    refine jr_aload_n_A jf_112_18 rfl jg1_same ?_
    replace h := jon_or h; rcases h with ⟨rfl, h⟩ | ⟨a9, rfl, h⟩
    · refine jr_ifnonnull_n jf_112_19 ?_
      refine jr_aconst_null jf_112_22 ?_
      refine jr_goto jf_112_23 ?_
      obtain rfl := Option.some.inj h
      exact jr_retA jf_112_43 jmt_112
    · refine jr_ifnonnull_s jf_112_19 ?_
      refine jr_iload_n jf_112_26 rfl (jg1_pre rfl hl1) ?_
      refine jr_iconst jf_112_27 jc_i_1 ?_
      refine jr_iand jf_112_28 ?_
      replace h := ite_or h; rcases h with ⟨hc, h⟩ | ⟨hc, h⟩
      · refine jr_if_ne_f jf_112_29 hc ?_
        refine jr_aload_n jf_112_32 rfl jg1_same ?_
        replace h := obd_of h; obtain ⟨x10, hx10, h⟩ := h
        refine jr_getA jf_112_33 hx10 ?_
        refine jr_goto jf_112_36 ?_
        obtain rfl := Option.some.inj h
        exact jr_retA jf_112_43 jmt_112
      · refine jr_if_ne_t jf_112_29 hc ?_
        refine jr_aload_n jf_112_39 rfl jg1_same ?_
        replace h := obd_of h; obtain ⟨x11, hx11, h⟩ := h
        refine jr_getA jf_112_40 hx11 ?_
        obtain rfl := Option.some.inj h
        exact jr_retA jf_112_43 jmt_112
set_option maxRecDepth 10000 in
set_option maxHeartbeats 4000000 in
theorem r_Chain_rowAt {B : Nat} {SA : Nat → Nat} {d : Nat} (hd : 1 ≤ d) : ∀ (v0 : Nat) (v1 : Int32) (μ : JMem) (r : Option Nat), g_Chain_rowAt v0 v1 μ.1 = some r → jR B SA d m_Chain_rowAt 0 (lv_args 0 [.ref v0, .int v1]) [] μ (some (rv r)) μ := by
  intro v0 v1 μ r h
  exact r_Chain_rowAt_e hd (lv_args 0 _) _ _ _ _ (by simp [lv_args, jget, rv_cat, cat_int, cat_long, cat_double, cat_float, cat_ref]) (by simp [lv_args, jget, rv_cat, cat_int, cat_long, cat_double, cat_float, cat_ref]) h
/-! FilterBench$Chain.rowCount()I -/
set_option maxRecDepth 10000 in
set_option maxHeartbeats 4000000 in
theorem r_Chain_rowCount_e {B : Nat} {SA : Nat → Nat} {d : Nat} (hd : 0 ≤ d) : ∀ (L : JLoc) (v0 : Nat) (μ : JMem) (r : Int32), jget L 0 = .ref v0 → g_Chain_rowCount v0 μ.1 = some r → jR B SA d m_Chain_rowCount 0 L [] μ (some (.int r)) μ := by
  intro L v0 μ r hl0 h
  unfold g_Chain_rowCount at h
  refine jr_iconst jf_111_0 jc_i_2 ?_
  refine jr_aload_n jf_111_1 rfl hl0 ?_
  replace h := obd_of h; obtain ⟨x1, hx1, h⟩ := h
  refine jr_getI jf_111_2 hx1 ?_
  refine jr_imul jf_111_5 ?_
  refine jr_aload_n jf_111_6 rfl hl0 ?_
  replace h := obd_of h; obtain ⟨x2, hx2, h⟩ := h
  refine jr_getI jf_111_7 hx2 ?_
  refine jr_iadd jf_111_10 ?_
  obtain rfl := Option.some.inj h
  exact jr_retI jf_111_11 jmt_111
set_option maxRecDepth 10000 in
set_option maxHeartbeats 4000000 in
theorem r_Chain_rowCount {B : Nat} {SA : Nat → Nat} {d : Nat} (hd : 0 ≤ d) : ∀ (v0 : Nat) (μ : JMem) (r : Int32), g_Chain_rowCount v0 μ.1 = some r → jR B SA d m_Chain_rowCount 0 (lv_args 0 [.ref v0]) [] μ (some (.int r)) μ := by
  intro v0 μ r h
  exact r_Chain_rowCount_e hd (lv_args 0 _) _ _ _ (by simp [lv_args, jget, rv_cat, cat_int, cat_long, cat_double, cat_float, cat_ref]) h
/-! FilterBench$Row.save([JI)I -/
set_option maxRecDepth 10000 in
set_option maxHeartbeats 4000000 in
theorem r_Row_save_35 {N B : Nat} {SA : Nat → Nat} {d : Nat} (hd : 2 ≤ d) {k2 : Nat → Option Nat → Int32 → Int32 → JMem → Option (Int32 × JMem)} (i2 : ∀ (L : JLoc) (v0 : Nat) (v1 : Option Nat) (v2 : Int32) (v3 : Int32) (μ : JMem) (r : Int32) (μ9 : JMem), jget L 0 = .ref v0 → jget L 1 = rv v1 → jget L 2 = .int v2 → jget L 3 = .int v3 → k2 v0 v1 v2 v3 μ = some (r, μ9) → jR B SA d m_Row_save 2 L [] μ (some (.int r)) μ9) : ∀ (L : JLoc) (v0 : Nat) (v1 : Option Nat) (v2 : Int32) (v3 : Int32) (μ : JMem) (r : Int32) (μ9 : JMem), jget L 0 = .ref v0 → jget L 1 = rv v1 → jget L 2 = .int v2 → jget L 3 = .int v3 → g_Row_save_35 N B k2 v0 v1 v2 v3 μ = some (r, μ9) → jR B SA d m_Row_save 35 L [] μ (some (.int r)) μ9 := by
  intro L v0 v1 v2 v3 μ r μ9 hl0 hl1 hl2 hl3 h
  unfold g_Row_save_35 at h
  refine jr_iinc jf_116_35 jc_i_1 jml_116 (by decide) hl3 ?_
  refine jr_goto jf_116_38 ?_
  exact i2 _ _ _ _ _ _ _ _ (jg1_ne rfl hl0) (jg1_ne rfl hl1) (jg1_pre rfl hl2) jg1_same h
set_option maxRecDepth 10000 in
set_option maxHeartbeats 4000000 in
theorem r_Row_save_2 {N B : Nat} {SA : Nat → Nat} {d : Nat} (hd : 2 ≤ d) : ∀ (n : Nat), ∀ (L : JLoc) (v0 : Nat) (v1 : Option Nat) (v2 : Int32) (v3 : Int32) (μ : JMem) (r : Int32) (μ9 : JMem), jget L 0 = .ref v0 → jget L 1 = rv v1 → jget L 2 = .int v2 → jget L 3 = .int v3 → g_Row_save_2 N B n v0 v1 v2 v3 μ = some (r, μ9) → jR B SA d m_Row_save 2 L [] μ (some (.int r)) μ9 := by
  intro n
  induction n with
  | zero =>
    intro L v0 v1 v2 v3 μ r μ9 hl0 hl1 hl2 hl3 h
    unfold g_Row_save_2 at h
    cases h
  | succ n ih =>
    intro L v0 v1 v2 v3 μ r μ9 hl0 hl1 hl2 hl3 h
    unfold g_Row_save_2 at h
    refine jr_iload_n jf_116_2 rfl hl3 ?_
    refine jr_aload_n jf_116_3 rfl hl0 ?_
    replace h := obd_of h; obtain ⟨x1, hx1, h⟩ := h
    refine jr_getA jf_116_4 hx1 ?_
    replace h := obd_of h; obtain ⟨a2, rfl, h⟩ := h
    replace h := obd_of h; obtain ⟨x3, hx3, h⟩ := h
    refine jr_arraylength jf_116_7 hx3 ?_
    replace h := ite_or h; rcases h with ⟨hc, h⟩ | ⟨hc, h⟩
    · refine jr_if2_ge_t jf_116_8 hc ?_
      refine jr_iload_n jf_116_41 rfl hl2 ?_
      refine jr_aload_n jf_116_42 rfl hl0 ?_
      replace h := obd_of h; obtain ⟨x4, hx4, h⟩ := h
      refine jr_getA jf_116_43 hx4 ?_
      replace h := obd_of h; obtain ⟨a5, rfl, h⟩ := h
      replace h := obd_of h; obtain ⟨x6, hx6, h⟩ := h
      refine jr_arraylength jf_116_46 hx6 ?_
      refine jr_iadd jf_116_47 ?_
      obtain ⟨rfl, rfl⟩ := Prod.mk.inj (Option.some.inj h)
      exact jr_retI jf_116_48 jmt_116
    · refine jr_if2_ge_f jf_116_8 hc ?_
      refine jr_iload_n jf_116_11 rfl hl2 ?_
      refine jr_iload_n jf_116_12 rfl hl3 ?_
      refine jr_iadd jf_116_13 ?_
      replace h := ite_or h; rcases h with ⟨hc, h⟩ | ⟨hc, h⟩
      · refine jr_if_lt_t jf_116_14 hc ?_
        exact r_Row_save_35 hd ih _ _ _ _ _ _ _ _ hl0 hl1 hl2 hl3 h
      · refine jr_if_lt_f jf_116_14 hc ?_
        refine jr_iload_n jf_116_17 rfl hl2 ?_
        refine jr_iload_n jf_116_18 rfl hl3 ?_
        refine jr_iadd jf_116_19 ?_
        refine jr_aload_n_A jf_116_20 rfl hl1 ?_
        replace h := obd_of h; obtain ⟨a7, rfl, h⟩ := h
        replace h := obd_of h; obtain ⟨x8, hx8, h⟩ := h
        refine jr_arraylength jf_116_21 hx8 ?_
        replace h := ite_or h; rcases h with ⟨hc, h⟩ | ⟨hc, h⟩
        · refine jr_if2_ge_t jf_116_22 hc ?_
          exact r_Row_save_35 hd ih _ _ (some _) _ _ _ _ _ hl0 hl1 hl2 hl3 h
        · refine jr_if2_ge_f jf_116_22 hc ?_
          refine jr_aload_n jf_116_25 rfl hl1 ?_
          refine jr_iload_n jf_116_26 rfl hl2 ?_
          refine jr_iload_n jf_116_27 rfl hl3 ?_
          refine jr_iadd jf_116_28 ?_
          refine jr_aload_n jf_116_29 rfl hl0 ?_
          refine jr_iload_n jf_116_30 rfl hl3 ?_
          replace h := jgd_of h; obtain ⟨hb9, h⟩ := h
          replace h := obd_of h; obtain ⟨x10, hx10, h⟩ := h
          refine jr_V6_1 jf_116_31 hb9 (by omega) (r_Row_at (by omega) _ _ _ _ hx10) (Nat.le_of_ble_eq_true rfl) jml_23 (Nat.le_of_ble_eq_true rfl) ?_
          replace h := obd_of h; obtain ⟨μ11, hμ11, h⟩ := h
          refine jr_lastore jf_116_34 hμ11 ?_
          exact r_Row_save_35 hd ih _ _ (some _) _ _ _ _ _ hl0 hl1 hl2 hl3 h
set_option maxRecDepth 10000 in
set_option maxHeartbeats 4000000 in
theorem r_Row_save_e {N B : Nat} {SA : Nat → Nat} {d : Nat} (hd : 2 ≤ d) : ∀ (L : JLoc) (v0 : Nat) (v1 : Option Nat) (v2 : Int32) (μ : JMem) (r : Int32) (μ9 : JMem), jget L 0 = .ref v0 → jget L 1 = rv v1 → jget L 2 = .int v2 → g_Row_save N B v0 v1 v2 μ = some (r, μ9) → jR B SA d m_Row_save 0 L [] μ (some (.int r)) μ9 := by
  intro L v0 v1 v2 μ r μ9 hl0 hl1 hl2 h
  unfold g_Row_save at h
  refine jr_iconst jf_116_0 jc_i_0 ?_
  refine jr_istore_n jf_116_1 rfl jml_116 (by decide) ?_
  exact r_Row_save_2 hd _ _ _ _ _ _ _ _ _ (jg1_ne rfl hl0) (jg1_ne rfl hl1) (jg1_pre rfl hl2) jg1_same h
set_option maxRecDepth 10000 in
set_option maxHeartbeats 4000000 in
theorem r_Row_save {N B : Nat} {SA : Nat → Nat} {d : Nat} (hd : 2 ≤ d) : ∀ (v0 : Nat) (v1 : Option Nat) (v2 : Int32) (μ : JMem) (r : Int32) (μ9 : JMem), g_Row_save N B v0 v1 v2 μ = some (r, μ9) → jR B SA d m_Row_save 0 (lv_args 0 [.ref v0, rv v1, .int v2]) [] μ (some (.int r)) μ9 := by
  intro v0 v1 v2 μ r μ9 h
  exact r_Row_save_e hd (lv_args 0 _) _ _ _ _ _ _ (by simp [lv_args, jget, rv_cat, cat_int, cat_long, cat_double, cat_float, cat_ref]) (by simp [lv_args, jget, rv_cat, cat_int, cat_long, cat_double, cat_float, cat_ref]) (by simp [lv_args, jget, rv_cat, cat_int, cat_long, cat_double, cat_float, cat_ref]) h
/-! FilterBench$Chain.save([JI)I -/
set_option maxRecDepth 10000 in
set_option maxHeartbeats 4000000 in
theorem r_Chain_save_38 {N B : Nat} {SA : Nat → Nat} {d : Nat} (hd : 3 ≤ d) {k5 : Nat → Option Nat → Int32 → Int32 → JMem → Option (Int32 × JMem)} (i5 : ∀ (L : JLoc) (v0 : Nat) (v1 : Option Nat) (v3 : Int32) (v4 : Int32) (μ : JMem) (r : Int32) (μ9 : JMem), jget L 0 = .ref v0 → jget L 1 = rv v1 → jget L 3 = .int v3 → jget L 4 = .int v4 → k5 v0 v1 v3 v4 μ = some (r, μ9) → jR B SA d m_Chain_save 5 L [] μ (some (.int r)) μ9) : ∀ (L : JLoc) (v0 : Nat) (v1 : Option Nat) (v4 : Int32) (s0 : Int32) (μ : JMem) (r : Int32) (μ9 : JMem), jget L 0 = .ref v0 → jget L 1 = rv v1 → jget L 4 = .int v4 → g_Chain_save_38 N B k5 v0 v1 v4 s0 μ = some (r, μ9) → jR B SA d m_Chain_save 38 L [.int s0] μ (some (.int r)) μ9 := by
  intro L v0 v1 v4 s0 μ r μ9 hl0 hl1 hl4 h
  unfold g_Chain_save_38 at h
  refine jr_istore_n jf_115_38 rfl jml_115 (by decide) ?_
  refine jr_iinc jf_115_39 jc_i_1 jml_115 (by decide) (jg1_ne rfl hl4) ?_
  refine jr_goto jf_115_42 ?_
  exact i5 _ _ _ _ _ _ _ _ (jg1_ne rfl (jg1_ne rfl hl0)) (jg1_ne rfl (jg1_ne rfl hl1)) (jg1_pre rfl jg1_same) jg1_same h
set_option maxRecDepth 10000 in
set_option maxHeartbeats 4000000 in
theorem r_Chain_save_5 {N B : Nat} {SA : Nat → Nat} {d : Nat} (hd : 3 ≤ d) : ∀ (n : Nat), ∀ (L : JLoc) (v0 : Nat) (v1 : Option Nat) (v3 : Int32) (v4 : Int32) (μ : JMem) (r : Int32) (μ9 : JMem), jget L 0 = .ref v0 → jget L 1 = rv v1 → jget L 3 = .int v3 → jget L 4 = .int v4 → g_Chain_save_5 N B n v0 v1 v3 v4 μ = some (r, μ9) → jR B SA d m_Chain_save 5 L [] μ (some (.int r)) μ9 := by
  intro n
  induction n with
  | zero =>
    intro L v0 v1 v3 v4 μ r μ9 hl0 hl1 hl3 hl4 h
    unfold g_Chain_save_5 at h
    cases h
  | succ n ih =>
    intro L v0 v1 v3 v4 μ r μ9 hl0 hl1 hl3 hl4 h
    unfold g_Chain_save_5 at h
    refine jr_iload jf_115_5 hl4 ?_
    refine jr_aload_n jf_115_7 rfl hl0 ?_
    replace h := jgd_of h; obtain ⟨hb1, h⟩ := h
    replace h := obd_of h; obtain ⟨x2, hx2, h⟩ := h
    refine jr_V6_0 jf_115_8 hb1 (by omega) (r_Chain_rowCount (by omega) _ _ _ hx2) (Nat.le_of_ble_eq_true rfl) jml_111 (Nat.le_of_ble_eq_true rfl) ?_
    replace h := ite_or h; rcases h with ⟨hc, h⟩ | ⟨hc, h⟩
    · refine jr_if2_ge_t jf_115_11 hc ?_
      refine jr_iload_n jf_115_45 rfl hl3 ?_
      obtain ⟨rfl, rfl⟩ := Prod.mk.inj (Option.some.inj h)
      exact jr_retI jf_115_46 jmt_115
    · refine jr_if2_ge_f jf_115_11 hc ?_
      refine jr_aload_n jf_115_14 rfl hl0 ?_
      refine jr_iload jf_115_15 hl4 ?_
      replace h := jgd_of h; obtain ⟨hb3, h⟩ := h
      replace h := obd_of h; obtain ⟨x4, hx4, h⟩ := h
      refine jr_V6_1 jf_115_17 hb3 (by omega) (r_Chain_rowAt (by omega) _ _ _ _ hx4) (Nat.le_of_ble_eq_true rfl) jml_112 (Nat.le_of_ble_eq_true rfl) ?_
      refine jr_astore_A jf_115_20 jml_115 (by decide) ?_
      refine jr_aload_A jf_115_22 jg1_same ?_
      replace h := jon_or h; rcases h with ⟨rfl, h⟩ | ⟨a5, rfl, h⟩
      · refine jr_ifnonnull_n jf_115_24 ?_
        refine jr_iload_n jf_115_27 rfl (jg1_ne rfl hl3) ?_
        refine jr_goto jf_115_28 ?_
        exact r_Chain_save_38 hd ih _ _ _ _ _ _ _ _ (jg1_ne rfl hl0) (jg1_ne rfl hl1) (jg1_pre rfl hl4) h
      · refine jr_ifnonnull_s jf_115_24 ?_
        refine jr_aload jf_115_31 jg1_same ?_
        refine jr_aload_n_A jf_115_33 rfl (jg1_ne rfl hl1) ?_
        refine jr_iload_n jf_115_34 rfl (jg1_ne rfl hl3) ?_
        replace h := jgd_of h; obtain ⟨hb6, h⟩ := h
        replace h := jbd2_of h; obtain ⟨x7, μ8, hx7, h⟩ := h
        refine jr_V6_2 jf_115_35 hb6 (by omega) (r_Row_save (by omega) _ _ _ _ _ _ hx7) (Nat.le_of_ble_eq_true rfl) jml_116 (by simp only [jcats_cons, jcats_nil, cat_int, cat_long, cat_double, cat_float, cat_ref, rv_cat]; decide) ?_
        exact r_Chain_save_38 hd ih _ _ _ _ _ _ _ _ (jg1_ne rfl hl0) (jg1_ne rfl hl1) (jg1_pre rfl hl4) h
set_option maxRecDepth 10000 in
set_option maxHeartbeats 4000000 in
theorem r_Chain_save_e {N B : Nat} {SA : Nat → Nat} {d : Nat} (hd : 3 ≤ d) : ∀ (L : JLoc) (v0 : Nat) (v1 : Option Nat) (v2 : Int32) (μ : JMem) (r : Int32) (μ9 : JMem), jget L 0 = .ref v0 → jget L 1 = rv v1 → jget L 2 = .int v2 → g_Chain_save N B v0 v1 v2 μ = some (r, μ9) → jR B SA d m_Chain_save 0 L [] μ (some (.int r)) μ9 := by
  intro L v0 v1 v2 μ r μ9 hl0 hl1 hl2 h
  unfold g_Chain_save at h
  refine jr_iload_n jf_115_0 rfl hl2 ?_
  refine jr_istore_n jf_115_1 rfl jml_115 (by decide) ?_
  refine jr_iconst jf_115_2 jc_i_0 ?_
  refine jr_istore jf_115_3 jml_115 (by decide) ?_
  exact r_Chain_save_5 hd _ _ _ _ _ _ _ _ _ (jg1_ne rfl (jg1_ne rfl hl0)) (jg1_ne rfl (jg1_ne rfl hl1)) (jg1_pre rfl jg1_same) jg1_same h
set_option maxRecDepth 10000 in
set_option maxHeartbeats 4000000 in
theorem r_Chain_save {N B : Nat} {SA : Nat → Nat} {d : Nat} (hd : 3 ≤ d) : ∀ (v0 : Nat) (v1 : Option Nat) (v2 : Int32) (μ : JMem) (r : Int32) (μ9 : JMem), g_Chain_save N B v0 v1 v2 μ = some (r, μ9) → jR B SA d m_Chain_save 0 (lv_args 0 [.ref v0, rv v1, .int v2]) [] μ (some (.int r)) μ9 := by
  intro v0 v1 v2 μ r μ9 h
  exact r_Chain_save_e hd (lv_args 0 _) _ _ _ _ _ _ (by simp [lv_args, jget, rv_cat, cat_int, cat_long, cat_double, cat_float, cat_ref]) (by simp [lv_args, jget, rv_cat, cat_int, cat_long, cat_double, cat_float, cat_ref]) (by simp [lv_args, jget, rv_cat, cat_int, cat_long, cat_double, cat_float, cat_ref]) h
/-! FilterBench$Chain.valueCount()I -/
set_option maxRecDepth 10000 in
set_option maxHeartbeats 4000000 in
theorem r_Chain_valueCount_31 {N B : Nat} {SA : Nat → Nat} {d : Nat} (hd : 2 ≤ d) {k4 : Nat → Int32 → Int32 → (Nat → Option JCell) → Option Int32} (i4 : ∀ (L : JLoc) (v0 : Nat) (v1 : Int32) (v2 : Int32) (μ : JMem) (r : Int32), jget L 0 = .ref v0 → jget L 1 = .int v1 → jget L 2 = .int v2 → k4 v0 v1 v2 μ.1 = some r → jR B SA d m_Chain_valueCount 4 L [] μ (some (.int r)) μ) : ∀ (L : JLoc) (v0 : Nat) (v2 : Int32) (s0 : Int32) (s1 : Int32) (μ : JMem) (r : Int32), jget L 0 = .ref v0 → jget L 2 = .int v2 → g_Chain_valueCount_31 N k4 v0 v2 s0 s1 μ.1 = some r → jR B SA d m_Chain_valueCount 31 L [.int s0, .int s1] μ (some (.int r)) μ := by
  intro L v0 v2 s0 s1 μ r hl0 hl2 h
  unfold g_Chain_valueCount_31 at h
  refine jr_iadd jf_110_31 ?_
  refine jr_istore_n jf_110_32 rfl jml_110 (by decide) ?_
  refine jr_iinc jf_110_33 jc_i_1 jml_110 (by decide) (jg1_ne rfl hl2) ?_
  refine jr_goto jf_110_36 ?_
  exact i4 _ _ _ _ _ _ (jg1_ne rfl (jg1_pre (by first | rfl | exact rv_cat _) hl0)) (jg1_pre rfl jg1_same) jg1_same h
set_option maxRecDepth 10000 in
set_option maxHeartbeats 4000000 in
theorem r_Chain_valueCount_4 {N B : Nat} {SA : Nat → Nat} {d : Nat} (hd : 2 ≤ d) : ∀ (n : Nat), ∀ (L : JLoc) (v0 : Nat) (v1 : Int32) (v2 : Int32) (μ : JMem) (r : Int32), jget L 0 = .ref v0 → jget L 1 = .int v1 → jget L 2 = .int v2 → g_Chain_valueCount_4 N n v0 v1 v2 μ.1 = some r → jR B SA d m_Chain_valueCount 4 L [] μ (some (.int r)) μ := by
  intro n
  induction n with
  | zero =>
    intro L v0 v1 v2 μ r hl0 hl1 hl2 h
    unfold g_Chain_valueCount_4 at h
    cases h
  | succ n ih =>
    intro L v0 v1 v2 μ r hl0 hl1 hl2 h
    unfold g_Chain_valueCount_4 at h
    refine jr_iload_n jf_110_4 rfl hl2 ?_
    refine jr_aload_n jf_110_5 rfl hl0 ?_
    replace h := jgd_of h; obtain ⟨hb1, h⟩ := h
    replace h := obd_of h; obtain ⟨x2, hx2, h⟩ := h
    refine jr_V6_0 jf_110_6 hb1 (by omega) (r_Chain_rowCount (by omega) _ _ _ hx2) (Nat.le_of_ble_eq_true rfl) jml_111 (Nat.le_of_ble_eq_true rfl) ?_
    replace h := ite_or h; rcases h with ⟨hc, h⟩ | ⟨hc, h⟩
    · refine jr_if2_ge_t jf_110_9 hc ?_
      refine jr_iload_n jf_110_39 rfl hl1 ?_
      obtain rfl := Option.some.inj h
      exact jr_retI jf_110_40 jmt_110
    · refine jr_if2_ge_f jf_110_9 hc ?_
      refine jr_aload_n jf_110_12 rfl hl0 ?_
      refine jr_iload_n jf_110_13 rfl hl2 ?_
      replace h := jgd_of h; obtain ⟨hb3, h⟩ := h
      replace h := obd_of h; obtain ⟨x4, hx4, h⟩ := h
      refine jr_V6_1 jf_110_14 hb3 (by omega) (r_Chain_rowAt (by omega) _ _ _ _ hx4) (Nat.le_of_ble_eq_true rfl) jml_112 (Nat.le_of_ble_eq_true rfl) ?_
      refine jr_astore_n_A jf_110_17 rfl jml_110 (by decide) ?_
      refine jr_iload_n jf_110_18 rfl (jg1_ne rfl hl1) ?_
      refine jr_aload_n_A jf_110_19 rfl jg1_same ?_
      replace h := jon_or h; rcases h with ⟨rfl, h⟩ | ⟨a5, rfl, h⟩
      · refine jr_ifnonnull_n jf_110_20 ?_
        refine jr_iconst jf_110_23 jc_i_0 ?_
        refine jr_goto jf_110_24 ?_
        exact r_Chain_valueCount_31 hd ih _ _ _ _ _ _ _ (jg1_ne rfl hl0) (jg1_pre rfl hl2) h
      · refine jr_ifnonnull_s jf_110_20 ?_
        refine jr_aload_n jf_110_27 rfl jg1_same ?_
        replace h := jgd_of h; obtain ⟨hb6, h⟩ := h
        replace h := obd_of h; obtain ⟨x7, hx7, h⟩ := h
        refine jr_V6_0 jf_110_28 hb6 (by omega) (r_Row_size (by omega) _ _ _ hx7) (Nat.le_of_ble_eq_true rfl) jml_91 (Nat.le_of_ble_eq_true rfl) ?_
        exact r_Chain_valueCount_31 hd ih _ _ _ _ _ _ _ (jg1_ne rfl hl0) (jg1_pre rfl hl2) h
set_option maxRecDepth 10000 in
set_option maxHeartbeats 4000000 in
theorem r_Chain_valueCount_e {N B : Nat} {SA : Nat → Nat} {d : Nat} (hd : 2 ≤ d) : ∀ (L : JLoc) (v0 : Nat) (μ : JMem) (r : Int32), jget L 0 = .ref v0 → g_Chain_valueCount N v0 μ.1 = some r → jR B SA d m_Chain_valueCount 0 L [] μ (some (.int r)) μ := by
  intro L v0 μ r hl0 h
  unfold g_Chain_valueCount at h
  refine jr_iconst jf_110_0 jc_i_0 ?_
  refine jr_istore_n jf_110_1 rfl jml_110 (by decide) ?_
  refine jr_iconst jf_110_2 jc_i_0 ?_
  refine jr_istore_n jf_110_3 rfl jml_110 (by decide) ?_
  exact r_Chain_valueCount_4 hd _ _ _ _ _ _ _ (jg1_ne rfl (jg1_pre (by first | rfl | exact rv_cat _) hl0)) (jg1_pre rfl jg1_same) jg1_same h
set_option maxRecDepth 10000 in
set_option maxHeartbeats 4000000 in
theorem r_Chain_valueCount {N B : Nat} {SA : Nat → Nat} {d : Nat} (hd : 2 ≤ d) : ∀ (v0 : Nat) (μ : JMem) (r : Int32), g_Chain_valueCount N v0 μ.1 = some r → jR B SA d m_Chain_valueCount 0 (lv_args 0 [.ref v0]) [] μ (some (.int r)) μ := by
  intro v0 μ r h
  exact r_Chain_valueCount_e hd (lv_args 0 _) _ _ _ (by simp [lv_args, jget, rv_cat, cat_int, cat_long, cat_double, cat_float, cat_ref]) h
/-! FilterBench$Kept.<init>(LFilterBench$Chain;II)V -/
set_option maxRecDepth 10000 in
set_option maxHeartbeats 4000000 in
theorem r_Kept_init_36 {B : Nat} {SA : Nat → Nat} {d : Nat} (hd : 1 ≤ d) : ∀ (L : JLoc) (s0 : Int32) (s1 : Nat) (μ : JMem) (μ9 : JMem), g_Kept_init_36 B s0 s1 μ = some μ9 → jR B SA d m_Kept_init 36 L [.int s0, .ref s1] μ none μ9 := by
  intro L s0 s1 μ μ9 h
  unfold g_Kept_init_36 at h
  replace h := jbd2_of h; obtain ⟨a1, μ2, ha1, h⟩ := h
  refine jr_newarray jf_113_36 rfl ha1 ?_
  replace h := obd_of h; obtain ⟨μ3, hμ3, h⟩ := h
  refine jr_putA (x := some _) jf_113_38 rfl hμ3 ?_
  obtain rfl := Option.some.inj h
  exact jr_return jf_113_41 jmt_113
set_option maxRecDepth 10000 in
set_option maxHeartbeats 4000000 in
theorem r_Kept_init_21 {B : Nat} {SA : Nat → Nat} {d : Nat} (hd : 1 ≤ d) : ∀ (L : JLoc) (v0 : Nat) (v3 : Int32) (s0 : Int32) (s1 : Nat) (μ : JMem) (μ9 : JMem), jget L 0 = .ref v0 → jget L 3 = .int v3 → g_Kept_init_21 B v0 v3 s0 s1 μ = some μ9 → jR B SA d m_Kept_init 21 L [.int s0, .ref s1] μ none μ9 := by
  intro L v0 v3 s0 s1 μ μ9 hl0 hl3 h
  unfold g_Kept_init_21 at h
  replace h := jbd2_of h; obtain ⟨a1, μ2, ha1, h⟩ := h
  refine jr_newarray jf_113_21 rfl ha1 ?_
  replace h := obd_of h; obtain ⟨μ3, hμ3, h⟩ := h
  refine jr_putA (x := some _) jf_113_23 rfl hμ3 ?_
  refine jr_aload_n jf_113_26 rfl hl0 ?_
  refine jr_iload_n jf_113_27 rfl hl3 ?_
  replace h := ite_or h; rcases h with ⟨hc, h⟩ | ⟨hc, h⟩
  · refine jr_if_ge_t jf_113_28 hc ?_
    refine jr_iload_n jf_113_35 rfl hl3 ?_
    exact r_Kept_init_36 hd _ _ _ _ _ h
  · refine jr_if_ge_f jf_113_28 hc ?_
    refine jr_iconst jf_113_31 jc_i_0 ?_
    refine jr_goto jf_113_32 ?_
    exact r_Kept_init_36 hd _ _ _ _ _ h
set_option maxRecDepth 10000 in
set_option maxHeartbeats 4000000 in
theorem r_Kept_init_e {B : Nat} {SA : Nat → Nat} {d : Nat} (hd : 1 ≤ d) : ∀ (L : JLoc) (v0 : Nat) (v1 : Option Nat) (v2 : Int32) (v3 : Int32) (μ : JMem) (μ9 : JMem), jget L 0 = .ref v0 → jget L 1 = rv v1 → jget L 2 = .int v2 → jget L 3 = .int v3 → g_Kept_init B v0 v1 v2 v3 μ = some μ9 → jR B SA d m_Kept_init 0 L [] μ none μ9 := by
  intro L v0 v1 v2 v3 μ μ9 hl0 hl1 hl2 hl3 h
  unfold g_Kept_init at h
  refine jr_aload_n jf_113_0 rfl hl0 ?_
  refine jr_oinit jf_113_1 (by omega) (Nat.le_of_ble_eq_true rfl) ?_
  refine jr_aload_n jf_113_4 rfl hl0 ?_
  refine jr_aload_n_A jf_113_5 rfl hl1 ?_
  replace h := obd_of h; obtain ⟨μ1, hμ1, h⟩ := h
  refine jr_putA jf_113_6 rfl hμ1 ?_
  refine jr_aload_n jf_113_9 rfl hl0 ?_
  refine jr_iload_n jf_113_10 rfl hl2 ?_
  replace h := ite_or h; rcases h with ⟨hc, h⟩ | ⟨hc, h⟩
  · refine jr_if_ge_t jf_113_11 hc ?_
    refine jr_iload_n jf_113_18 rfl hl2 ?_
    refine jr_iconst jf_113_19 jc_i_3 ?_
    refine jr_imul jf_113_20 ?_
    exact r_Kept_init_21 hd _ _ _ _ _ _ _ hl0 hl3 h
  · refine jr_if_ge_f jf_113_11 hc ?_
    refine jr_iconst jf_113_14 jc_i_0 ?_
    refine jr_goto jf_113_15 ?_
    exact r_Kept_init_21 hd _ _ _ _ _ _ _ hl0 hl3 h
set_option maxRecDepth 10000 in
set_option maxHeartbeats 4000000 in
theorem r_Kept_init {B : Nat} {SA : Nat → Nat} {d : Nat} (hd : 1 ≤ d) : ∀ (v0 : Nat) (v1 : Option Nat) (v2 : Int32) (v3 : Int32) (μ : JMem) (μ9 : JMem), g_Kept_init B v0 v1 v2 v3 μ = some μ9 → jR B SA d m_Kept_init 0 (lv_args 0 [.ref v0, rv v1, .int v2, .int v3]) [] μ none μ9 := by
  intro v0 v1 v2 v3 μ μ9 h
  exact r_Kept_init_e hd (lv_args 0 _) _ _ _ _ _ _ (by simp [lv_args, jget, rv_cat, cat_int, cat_long, cat_double, cat_float, cat_ref]) (by simp [lv_args, jget, rv_cat, cat_int, cat_long, cat_double, cat_float, cat_ref]) (by simp [lv_args, jget, rv_cat, cat_int, cat_long, cat_double, cat_float, cat_ref]) (by simp [lv_args, jget, rv_cat, cat_int, cat_long, cat_double, cat_float, cat_ref]) h
/-! FilterBench$Kept.shape(ILFilterBench$Chain;)V -/
set_option maxRecDepth 10000 in
set_option maxHeartbeats 4000000 in
theorem r_Kept_shape_e {B : Nat} {SA : Nat → Nat} {d : Nat} (hd : 0 ≤ d) : ∀ (L : JLoc) (v0 : Nat) (v1 : Int32) (v2 : Option Nat) (μ : JMem) (μ9 : JMem), jget L 0 = .ref v0 → jget L 1 = .int v1 → jget L 2 = rv v2 → g_Kept_shape B v0 v1 v2 μ = some μ9 → jR B SA d m_Kept_shape 0 L [] μ none μ9 := by
  intro L v0 v1 v2 μ μ9 hl0 hl1 hl2 h
  unfold g_Kept_shape at h
  refine jr_iload_n jf_114_0 rfl hl1 ?_
  refine jr_iconst jf_114_1 jc_i_3 ?_
  refine jr_imul jf_114_2 ?_
  refine jr_istore_n jf_114_3 rfl jml_114 (by decide) ?_
  refine jr_iload_n jf_114_4 rfl jg1_same ?_
  replace h := ite_or h; rcases h with ⟨hc, h⟩ | ⟨hc, h⟩
  · refine jr_if_lt_t jf_114_5 hc ?_
    obtain rfl := Option.some.inj h
    exact jr_return jf_114_53 jmt_114
  · refine jr_if_lt_f jf_114_5 hc ?_
    refine jr_iload_n jf_114_8 rfl jg1_same ?_
    refine jr_iconst jf_114_9 jc_i_2 ?_
    refine jr_iadd jf_114_10 ?_
    refine jr_aload_n jf_114_11 rfl (jg1_ne rfl hl0) ?_
    replace h := obd_of h; obtain ⟨x1, hx1, h⟩ := h
    refine jr_getA jf_114_12 hx1 ?_
    replace h := obd_of h; obtain ⟨a2, rfl, h⟩ := h
    replace h := obd_of h; obtain ⟨x3, hx3, h⟩ := h
    refine jr_arraylength jf_114_15 hx3 ?_
    replace h := ite_or h; rcases h with ⟨hc, h⟩ | ⟨hc, h⟩
    · refine jr_if2_ge_t jf_114_16 hc ?_
      obtain rfl := Option.some.inj h
      exact jr_return jf_114_53 jmt_114
    · refine jr_if2_ge_f jf_114_16 hc ?_
      refine jr_aload_n jf_114_19 rfl (jg1_ne rfl hl0) ?_
      replace h := obd_of h; obtain ⟨x4, hx4, h⟩ := h
      refine jr_getA jf_114_20 hx4 ?_
      refine jr_iload_n jf_114_23 rfl jg1_same ?_
      refine jr_aload_n_A jf_114_24 rfl (jg1_pre (by first | rfl | exact rv_cat _) hl2) ?_
      replace h := obd_of h; obtain ⟨a5, rfl, h⟩ := h
      replace h := obd_of h; obtain ⟨x6, hx6, h⟩ := h
      refine jr_getI jf_114_25 hx6 ?_
      replace h := obd_of h; obtain ⟨a7, rfl, h⟩ := h
      replace h := obd_of h; obtain ⟨μ8, hμ8, h⟩ := h
      refine jr_iastore jf_114_28 hμ8 ?_
      refine jr_aload_n jf_114_29 rfl (jg1_ne rfl hl0) ?_
      replace h := obd_of h; obtain ⟨x9, hx9, h⟩ := h
      refine jr_getA jf_114_30 hx9 ?_
      refine jr_iload_n jf_114_33 rfl jg1_same ?_
      refine jr_iconst jf_114_34 jc_i_1 ?_
      refine jr_iadd jf_114_35 ?_
      refine jr_aload_n jf_114_36 rfl (jg1_pre (by first | rfl | exact rv_cat _) hl2) ?_
      replace h := obd_of h; obtain ⟨x10, hx10, h⟩ := h
      refine jr_getI jf_114_37 hx10 ?_
      replace h := obd_of h; obtain ⟨a11, rfl, h⟩ := h
      replace h := obd_of h; obtain ⟨μ12, hμ12, h⟩ := h
      refine jr_iastore jf_114_40 hμ12 ?_
      refine jr_aload_n jf_114_41 rfl (jg1_ne rfl hl0) ?_
      replace h := obd_of h; obtain ⟨x13, hx13, h⟩ := h
      refine jr_getA jf_114_42 hx13 ?_
      refine jr_iload_n jf_114_45 rfl jg1_same ?_
      refine jr_iconst jf_114_46 jc_i_2 ?_
      refine jr_iadd jf_114_47 ?_
      refine jr_aload_n jf_114_48 rfl (jg1_pre (by first | rfl | exact rv_cat _) hl2) ?_
      replace h := obd_of h; obtain ⟨x14, hx14, h⟩ := h
      refine jr_getI jf_114_49 hx14 ?_
      replace h := obd_of h; obtain ⟨a15, rfl, h⟩ := h
      replace h := obd_of h; obtain ⟨μ16, hμ16, h⟩ := h
      refine jr_iastore jf_114_52 hμ16 ?_
      obtain rfl := Option.some.inj h
      exact jr_return jf_114_53 jmt_114
set_option maxRecDepth 10000 in
set_option maxHeartbeats 4000000 in
theorem r_Kept_shape {B : Nat} {SA : Nat → Nat} {d : Nat} (hd : 0 ≤ d) : ∀ (v0 : Nat) (v1 : Int32) (v2 : Option Nat) (μ : JMem) (μ9 : JMem), g_Kept_shape B v0 v1 v2 μ = some μ9 → jR B SA d m_Kept_shape 0 (lv_args 0 [.ref v0, .int v1, rv v2]) [] μ none μ9 := by
  intro v0 v1 v2 μ μ9 h
  exact r_Kept_shape_e hd (lv_args 0 _) _ _ _ _ _ (by simp [lv_args, jget, rv_cat, cat_int, cat_long, cat_double, cat_float, cat_ref]) (by simp [lv_args, jget, rv_cat, cat_int, cat_long, cat_double, cat_float, cat_ref]) (by simp [lv_args, jget, rv_cat, cat_int, cat_long, cat_double, cat_float, cat_ref]) h
/-! FilterBench.keep(I)I -/
set_option maxRecDepth 10000 in
set_option maxHeartbeats 4000000 in
theorem r_B_keep_85 {N B : Nat} {SA : Nat → Nat} {d : Nat} (hd : 4 ≤ d) {k43 : Nat → Nat → Int32 → Int32 → Int32 → JMem → Option (Int32 × JMem)} (i43 : ∀ (L : JLoc) (v0 : Nat) (v2 : Nat) (v3 : Int32) (v4 : Int32) (v5 : Int32) (μ : JMem) (r : Int32) (μ9 : JMem), jget L 0 = .ref v0 → jget L 2 = .ref v2 → jget L 3 = .int v3 → jget L 4 = .int v4 → jget L 5 = .int v5 → k43 v0 v2 v3 v4 v5 μ = some (r, μ9) → jR B SA d m_B_keep 43 L [] μ (some (.int r)) μ9) : ∀ (L : JLoc) (v0 : Nat) (v2 : Nat) (v3 : Int32) (v5 : Int32) (s0 : Int32) (s1 : Int32) (μ : JMem) (r : Int32) (μ9 : JMem), jget L 0 = .ref v0 → jget L 2 = .ref v2 → jget L 3 = .int v3 → jget L 5 = .int v5 → g_B_keep_85 N B k43 v0 v2 v3 v5 s0 s1 μ = some (r, μ9) → jR B SA d m_B_keep 85 L [.int s0, .int s1] μ (some (.int r)) μ9 := by
  intro L v0 v2 v3 v5 s0 s1 μ r μ9 hl0 hl2 hl3 hl5 h
  unfold g_B_keep_85 at h
  refine jr_iadd jf_107_85 ?_
  refine jr_istore jf_107_86 jml_107 (by decide) ?_
  refine jr_iinc jf_107_88 jc_i_1 jml_107 (by decide) (jg1_ne rfl hl5) ?_
  refine jr_goto jf_107_91 ?_
  exact i43 _ _ _ _ _ _ _ _ _ (jg1_ne rfl (jg1_ne rfl hl0)) (jg1_ne rfl (jg1_ne rfl hl2)) (jg1_ne rfl (jg1_pre rfl hl3)) (jg1_pre rfl jg1_same) jg1_same h
set_option maxRecDepth 10000 in
set_option maxHeartbeats 4000000 in
theorem r_B_keep_172 {N B : Nat} {SA : Nat → Nat} {d : Nat} (hd : 4 ≤ d) {k113 : Nat → Int32 → Nat → Int32 → Int32 → JMem → Option (Int32 × JMem)} (i113 : ∀ (L : JLoc) (v0 : Nat) (v3 : Int32) (v5 : Nat) (v6 : Int32) (v7 : Int32) (μ : JMem) (r : Int32) (μ9 : JMem), jget L 0 = .ref v0 → jget L 3 = .int v3 → jget L 5 = .ref v5 → jget L 6 = .int v6 → jget L 7 = .int v7 → k113 v0 v3 v5 v6 v7 μ = some (r, μ9) → jR B SA d m_B_keep 113 L [] μ (some (.int r)) μ9) : ∀ (L : JLoc) (v0 : Nat) (v3 : Int32) (v5 : Nat) (v6 : Int32) (v7 : Int32) (μ : JMem) (r : Int32) (μ9 : JMem), jget L 0 = .ref v0 → jget L 3 = .int v3 → jget L 5 = .ref v5 → jget L 6 = .int v6 → jget L 7 = .int v7 → g_B_keep_172 N B k113 v0 v3 v5 v6 v7 μ = some (r, μ9) → jR B SA d m_B_keep 172 L [] μ (some (.int r)) μ9 := by
  intro L v0 v3 v5 v6 v7 μ r μ9 hl0 hl3 hl5 hl6 hl7 h
  unfold g_B_keep_172 at h
  refine jr_iinc jf_107_172 jc_i_1 jml_107 (by decide) hl7 ?_
  refine jr_goto jf_107_175 ?_
  exact i113 _ _ _ _ _ _ _ _ _ (jg1_ne rfl hl0) (jg1_ne rfl hl3) (jg1_ne rfl hl5) (jg1_pre rfl hl6) jg1_same h
set_option maxRecDepth 10000 in
set_option maxHeartbeats 4000000 in
theorem r_B_keep_178 {N B : Nat} {SA : Nat → Nat} {d : Nat} (hd : 4 ≤ d) : ∀ (L : JLoc) (v0 : Nat) (v5 : Nat) (μ : JMem) (r : Int32) (μ9 : JMem), jget L 0 = .ref v0 → jget L 5 = .ref v5 → g_B_keep_178 N B v0 v5 μ = some (r, μ9) → jR B SA d m_B_keep 178 L [] μ (some (.int r)) μ9 := by
  intro L v0 v5 μ r μ9 hl0 hl5 h
  unfold g_B_keep_178 at h
  refine jr_aload_n jf_107_178 rfl hl0 ?_
  replace h := obd_of h; obtain ⟨x1, hx1, h⟩ := h
  refine jr_getA jf_107_179 hx1 ?_
  refine jr_aload_n jf_107_182 rfl hl0 ?_
  replace h := obd_of h; obtain ⟨x2, hx2, h⟩ := h
  refine jr_getI jf_107_183 hx2 ?_
  refine jr_aload jf_107_186 hl5 ?_
  replace h := obd_of h; obtain ⟨a3, rfl, h⟩ := h
  replace h := obd_of h; obtain ⟨μ4, hμ4, h⟩ := h
  refine jr_aastore jf_107_188 hμ4 ?_
  refine jr_aload_n jf_107_189 rfl hl0 ?_
  refine jr_dup jf_107_190 rfl ?_
  replace h := obd_of h; obtain ⟨x5, hx5, h⟩ := h
  refine jr_getI jf_107_191 hx5 ?_
  refine jr_iconst jf_107_194 jc_i_1 ?_
  refine jr_iadd jf_107_195 ?_
  replace h := obd_of h; obtain ⟨μ6, hμ6, h⟩ := h
  refine jr_putI jf_107_196 rfl hμ6 ?_
  refine jr_aload_n jf_107_199 rfl hl0 ?_
  replace h := obd_of h; obtain ⟨x7, hx7, h⟩ := h
  refine jr_getI jf_107_200 hx7 ?_
  refine jr_iconst jf_107_203 jc_i_1 ?_
  refine jr_isub jf_107_204 ?_
  obtain ⟨rfl, rfl⟩ := Prod.mk.inj (Option.some.inj h)
  exact jr_retI jf_107_205 jmt_107
set_option maxRecDepth 10000 in
set_option maxHeartbeats 4000000 in
theorem r_B_keep_113 {N B : Nat} {SA : Nat → Nat} {d : Nat} (hd : 4 ≤ d) : ∀ (n : Nat), ∀ (L : JLoc) (v0 : Nat) (v3 : Int32) (v5 : Nat) (v6 : Int32) (v7 : Int32) (μ : JMem) (r : Int32) (μ9 : JMem), jget L 0 = .ref v0 → jget L 3 = .int v3 → jget L 5 = .ref v5 → jget L 6 = .int v6 → jget L 7 = .int v7 → g_B_keep_113 N B n v0 v3 v5 v6 v7 μ = some (r, μ9) → jR B SA d m_B_keep 113 L [] μ (some (.int r)) μ9 := by
  intro n
  induction n with
  | zero =>
    intro L v0 v3 v5 v6 v7 μ r μ9 hl0 hl3 hl5 hl6 hl7 h
    unfold g_B_keep_113 at h
    cases h
  | succ n ih =>
    intro L v0 v3 v5 v6 v7 μ r μ9 hl0 hl3 hl5 hl6 hl7 h
    unfold g_B_keep_113 at h
    refine jr_iload jf_107_113 hl7 ?_
    refine jr_iload_n jf_107_115 rfl hl3 ?_
    replace h := ite_or h; rcases h with ⟨hc, h⟩ | ⟨hc, h⟩
    · refine jr_if2_ge_t jf_107_116 hc ?_
      exact r_B_keep_178 hd _ _ _ _ _ _ hl0 hl5 h
    · refine jr_if2_ge_f jf_107_116 hc ?_
      refine jr_iload jf_107_119 hl7 ?_
      refine jr_aload_n jf_107_121 rfl hl0 ?_
      replace h := obd_of h; obtain ⟨x1, hx1, h⟩ := h
      refine jr_getA jf_107_122 hx1 ?_
      replace h := obd_of h; obtain ⟨a2, rfl, h⟩ := h
      replace h := obd_of h; obtain ⟨x3, hx3, h⟩ := h
      refine jr_arraylength jf_107_125 hx3 ?_
      replace h := ite_or h; rcases h with ⟨hc, h⟩ | ⟨hc, h⟩
      · refine jr_if2_ge_t jf_107_126 hc ?_
        exact r_B_keep_178 hd _ _ _ _ _ _ hl0 hl5 h
      · refine jr_if2_ge_f jf_107_126 hc ?_
        refine jr_aload_n jf_107_129 rfl hl0 ?_
        replace h := obd_of h; obtain ⟨x4, hx4, h⟩ := h
        refine jr_getA jf_107_130 hx4 ?_
        refine jr_iload jf_107_133 hl7 ?_
        replace h := obd_of h; obtain ⟨a5, rfl, h⟩ := h
        replace h := obd_of h; obtain ⟨x6, hx6, h⟩ := h
        refine jr_aaload jf_107_135 hx6 ?_
        replace h := jon_or h; rcases h with ⟨rfl, h⟩ | ⟨a7, rfl, h⟩
        · refine jr_ifnull_n jf_107_136 ?_
          exact r_B_keep_172 hd ih _ _ _ _ _ _ _ _ _ hl0 hl3 hl5 hl6 hl7 h
        · refine jr_ifnull_s jf_107_136 ?_
          refine jr_aload jf_107_139 hl5 ?_
          refine jr_iload jf_107_141 hl7 ?_
          refine jr_aload_n jf_107_143 rfl hl0 ?_
          replace h := obd_of h; obtain ⟨x8, hx8, h⟩ := h
          refine jr_getA jf_107_144 hx8 ?_
          refine jr_iload jf_107_147 hl7 ?_
          replace h := obd_of h; obtain ⟨a9, rfl, h⟩ := h
          replace h := obd_of h; obtain ⟨x10, hx10, h⟩ := h
          refine jr_aaload jf_107_149 hx10 ?_
          replace h := jgd_of h; obtain ⟨hb11, h⟩ := h
          replace h := obd_of h; obtain ⟨μ12, hμ12, h⟩ := h
          refine jr_V6v_2 jf_107_150 hb11 (by omega) (r_Kept_shape (by omega) _ _ _ _ _ hμ12) (Nat.le_of_ble_eq_true rfl) jml_114 (by simp only [jcats_cons, jcats_nil, cat_int, cat_long, cat_double, cat_float, cat_ref, rv_cat]; decide) ?_
          refine jr_aload_n jf_107_153 rfl hl0 ?_
          replace h := obd_of h; obtain ⟨x13, hx13, h⟩ := h
          refine jr_getA jf_107_154 hx13 ?_
          refine jr_iload jf_107_157 hl7 ?_
          replace h := obd_of h; obtain ⟨a14, rfl, h⟩ := h
          replace h := obd_of h; obtain ⟨x15, hx15, h⟩ := h
          refine jr_aaload jf_107_159 hx15 ?_
          refine jr_aload jf_107_160 hl5 ?_
          replace h := obd_of h; obtain ⟨x16, hx16, h⟩ := h
          refine jr_getA jf_107_162 hx16 ?_
          refine jr_iload jf_107_165 hl6 ?_
          replace h := obd_of h; obtain ⟨a17, rfl, h⟩ := h
          replace h := jgd_of h; obtain ⟨hb18, h⟩ := h
          replace h := jbd2_of h; obtain ⟨x19, μ20, hx19, h⟩ := h
          refine jr_V6_2 jf_107_167 hb18 (by omega) (r_Chain_save (by omega) _ _ _ _ _ _ hx19) (Nat.le_of_ble_eq_true rfl) jml_115 (by simp only [jcats_cons, jcats_nil, cat_int, cat_long, cat_double, cat_float, cat_ref, rv_cat]; decide) ?_
          refine jr_istore jf_107_170 jml_107 (by decide) ?_
          exact r_B_keep_172 hd ih _ _ _ _ _ _ _ _ _ (jg1_ne rfl hl0) (jg1_ne rfl hl3) (jg1_pre (by first | rfl | exact rv_cat _) hl5) jg1_same (jg1_ne rfl hl7) h
set_option maxRecDepth 10000 in
set_option maxHeartbeats 4000000 in
theorem r_B_keep_94 {N B : Nat} {SA : Nat → Nat} {d : Nat} (hd : 4 ≤ d) : ∀ (L : JLoc) (v0 : Nat) (v2 : Nat) (v3 : Int32) (v4 : Int32) (μ : JMem) (r : Int32) (μ9 : JMem), jget L 0 = .ref v0 → jget L 2 = .ref v2 → jget L 3 = .int v3 → jget L 4 = .int v4 → g_B_keep_94 N B v0 v2 v3 v4 μ = some (r, μ9) → jR B SA d m_B_keep 94 L [] μ (some (.int r)) μ9 := by
  intro L v0 v2 v3 v4 μ r μ9 hl0 hl2 hl3 hl4 h
  unfold g_B_keep_94 at h
  replace h := jnew_of h
  refine jr_new jf_107_94 ?_
  refine jr_dup jf_107_97 rfl ?_
  refine jr_aload_n jf_107_98 rfl hl2 ?_
  refine jr_iload_n jf_107_99 rfl hl3 ?_
  refine jr_iload jf_107_100 hl4 ?_
  replace h := obd_of h; obtain ⟨μ3, hμ3, h⟩ := h
  refine jr_P1v_3 jf_107_102 (by omega) (r_Kept_init (by omega) _ _ _ _ _ _ hμ3) (Nat.le_of_ble_eq_true rfl) jml_113 (by simp only [jcats_cons, jcats_nil, cat_int, cat_long, cat_double, cat_float, cat_ref, rv_cat]; decide) ?_
  refine jr_astore jf_107_105 jml_107 (by decide) ?_
  refine jr_iconst jf_107_107 jc_i_0 ?_
  refine jr_istore jf_107_108 jml_107 (by decide) ?_
  refine jr_iconst jf_107_110 jc_i_0 ?_
  refine jr_istore jf_107_111 jml_107 (by decide) ?_
  exact r_B_keep_113 hd _ _ _ _ _ _ _ _ _ _ (jg1_ne rfl (jg1_ne rfl (jg1_ne rfl hl0))) (jg1_ne rfl (jg1_ne rfl (jg1_ne rfl hl3))) (jg1_ne rfl (jg1_pre (by first | rfl | exact rv_cat _) jg1_same)) (jg1_pre rfl jg1_same) jg1_same h
set_option maxRecDepth 10000 in
set_option maxHeartbeats 4000000 in
theorem r_B_keep_43 {N B : Nat} {SA : Nat → Nat} {d : Nat} (hd : 4 ≤ d) : ∀ (n : Nat), ∀ (L : JLoc) (v0 : Nat) (v2 : Nat) (v3 : Int32) (v4 : Int32) (v5 : Int32) (μ : JMem) (r : Int32) (μ9 : JMem), jget L 0 = .ref v0 → jget L 2 = .ref v2 → jget L 3 = .int v3 → jget L 4 = .int v4 → jget L 5 = .int v5 → g_B_keep_43 N B n v0 v2 v3 v4 v5 μ = some (r, μ9) → jR B SA d m_B_keep 43 L [] μ (some (.int r)) μ9 := by
  intro n
  induction n with
  | zero =>
    intro L v0 v2 v3 v4 v5 μ r μ9 hl0 hl2 hl3 hl4 hl5 h
    unfold g_B_keep_43 at h
    cases h
  | succ n ih =>
    intro L v0 v2 v3 v4 v5 μ r μ9 hl0 hl2 hl3 hl4 hl5 h
    unfold g_B_keep_43 at h
    refine jr_iload jf_107_43 hl5 ?_
    refine jr_iload_n jf_107_45 rfl hl3 ?_
    replace h := ite_or h; rcases h with ⟨hc, h⟩ | ⟨hc, h⟩
    · refine jr_if2_ge_t jf_107_46 hc ?_
      exact r_B_keep_94 hd _ _ _ _ _ _ _ _ hl0 hl2 hl3 hl4 h
    · refine jr_if2_ge_f jf_107_46 hc ?_
      refine jr_iload jf_107_49 hl5 ?_
      refine jr_aload_n jf_107_51 rfl hl0 ?_
      replace h := obd_of h; obtain ⟨x1, hx1, h⟩ := h
      refine jr_getA jf_107_52 hx1 ?_
      replace h := obd_of h; obtain ⟨a2, rfl, h⟩ := h
      replace h := obd_of h; obtain ⟨x3, hx3, h⟩ := h
      refine jr_arraylength jf_107_55 hx3 ?_
      replace h := ite_or h; rcases h with ⟨hc, h⟩ | ⟨hc, h⟩
      · refine jr_if2_ge_t jf_107_56 hc ?_
        exact r_B_keep_94 hd _ _ _ _ _ _ _ _ hl0 hl2 hl3 hl4 h
      · refine jr_if2_ge_f jf_107_56 hc ?_
        refine jr_iload jf_107_59 hl4 ?_
        refine jr_aload_n jf_107_61 rfl hl0 ?_
        replace h := obd_of h; obtain ⟨x4, hx4, h⟩ := h
        refine jr_getA jf_107_62 hx4 ?_
        refine jr_iload jf_107_65 hl5 ?_
        replace h := obd_of h; obtain ⟨a5, rfl, h⟩ := h
        replace h := obd_of h; obtain ⟨x6, hx6, h⟩ := h
        refine jr_aaload jf_107_67 hx6 ?_
        replace h := jon_or h; rcases h with ⟨rfl, h⟩ | ⟨a7, rfl, h⟩
        · refine jr_ifnonnull_n jf_107_68 ?_
          refine jr_iconst jf_107_71 jc_i_0 ?_
          refine jr_goto jf_107_72 ?_
          exact r_B_keep_85 hd ih _ _ _ _ _ _ _ _ _ _ hl0 hl2 hl3 hl5 h
        · refine jr_ifnonnull_s jf_107_68 ?_
          refine jr_aload_n jf_107_75 rfl hl0 ?_
          replace h := obd_of h; obtain ⟨x8, hx8, h⟩ := h
          refine jr_getA jf_107_76 hx8 ?_
          refine jr_iload jf_107_79 hl5 ?_
          replace h := obd_of h; obtain ⟨a9, rfl, h⟩ := h
          replace h := obd_of h; obtain ⟨x10, hx10, h⟩ := h
          refine jr_aaload jf_107_81 hx10 ?_
          replace h := obd_of h; obtain ⟨a11, rfl, h⟩ := h
          replace h := jgd_of h; obtain ⟨hb12, h⟩ := h
          replace h := obd_of h; obtain ⟨x13, hx13, h⟩ := h
          refine jr_V6_0 jf_107_82 hb12 (by omega) (r_Chain_valueCount (by omega) _ _ _ hx13) (Nat.le_of_ble_eq_true rfl) jml_110 (Nat.le_of_ble_eq_true rfl) ?_
          exact r_B_keep_85 hd ih _ _ _ _ _ _ _ _ _ _ hl0 hl2 hl3 hl5 h
set_option maxRecDepth 10000 in
set_option maxHeartbeats 4000000 in
theorem r_B_keep_e {N B : Nat} {SA : Nat → Nat} {d : Nat} (hd : 4 ≤ d) : ∀ (L : JLoc) (v0 : Nat) (v1 : Int32) (μ : JMem) (r : Int32) (μ9 : JMem), jget L 0 = .ref v0 → jget L 1 = .int v1 → g_B_keep N B v0 v1 μ = some (r, μ9) → jR B SA d m_B_keep 0 L [] μ (some (.int r)) μ9 := by
  intro L v0 v1 μ r μ9 hl0 hl1 h
  unfold g_B_keep at h
  refine jr_aload_n jf_107_0 rfl hl0 ?_
  refine jr_iload_n jf_107_1 rfl hl1 ?_
  replace h := jgd_of h; obtain ⟨hb1, h⟩ := h
  replace h := obd_of h; obtain ⟨x2, hx2, h⟩ := h
  refine jr_V6_1 jf_107_2 hb1 (by omega) (r_B_chainAt (by omega) _ _ _ _ hx2) (Nat.le_of_ble_eq_true rfl) jml_33 (Nat.le_of_ble_eq_true rfl) ?_
  refine jr_astore_n_A jf_107_5 rfl jml_107 (by decide) ?_
  refine jr_aload_n_A jf_107_6 rfl jg1_same ?_
  replace h := jon_or h; rcases h with ⟨rfl, h⟩ | ⟨a3, rfl, h⟩
  · refine jr_ifnull_n jf_107_7 ?_
    refine jr_iconst jf_107_29 jc_i_m1 ?_
    obtain ⟨rfl, rfl⟩ := Prod.mk.inj (Option.some.inj h)
    exact jr_retI jf_107_30 jmt_107
  · refine jr_ifnull_s jf_107_7 ?_
    refine jr_aload_n jf_107_10 rfl (jg1_ne rfl hl0) ?_
    replace h := obd_of h; obtain ⟨x4, hx4, h⟩ := h
    refine jr_getI jf_107_11 hx4 ?_
    replace h := ite_or h; rcases h with ⟨hc, h⟩ | ⟨hc, h⟩
    · refine jr_if_lt_t jf_107_14 hc ?_
      refine jr_iconst jf_107_29 jc_i_m1 ?_
      obtain ⟨rfl, rfl⟩ := Prod.mk.inj (Option.some.inj h)
      exact jr_retI jf_107_30 jmt_107
    · refine jr_if_lt_f jf_107_14 hc ?_
      refine jr_aload_n jf_107_17 rfl (jg1_ne rfl hl0) ?_
      replace h := obd_of h; obtain ⟨x5, hx5, h⟩ := h
      refine jr_getI jf_107_18 hx5 ?_
      refine jr_aload_n jf_107_21 rfl (jg1_ne rfl hl0) ?_
      replace h := obd_of h; obtain ⟨x6, hx6, h⟩ := h
      refine jr_getA jf_107_22 hx6 ?_
      replace h := obd_of h; obtain ⟨a7, rfl, h⟩ := h
      replace h := obd_of h; obtain ⟨x8, hx8, h⟩ := h
      refine jr_arraylength jf_107_25 hx8 ?_
      replace h := ite_or h; rcases h with ⟨hc, h⟩ | ⟨hc, h⟩
      · refine jr_if2_lt_t jf_107_26 hc ?_
        refine jr_aload_n jf_107_31 rfl (jg1_ne rfl hl0) ?_
        refine jr_aload_n jf_107_32 rfl jg1_same ?_
        replace h := jgd_of h; obtain ⟨hb9, h⟩ := h
        replace h := jbd2_of h; obtain ⟨x10, μ11, hx10, h⟩ := h
        refine jr_V6_1 jf_107_33 hb9 (by omega) (r_B_gather (by omega) _ _ _ _ _ hx10) (Nat.le_of_ble_eq_true rfl) jml_108 (by simp only [jcats_cons, jcats_nil, cat_int, cat_long, cat_double, cat_float, cat_ref, rv_cat]; decide) ?_
        refine jr_istore_n jf_107_36 rfl jml_107 (by decide) ?_
        refine jr_iconst jf_107_37 jc_i_0 ?_
        refine jr_istore jf_107_38 jml_107 (by decide) ?_
        refine jr_iconst jf_107_40 jc_i_0 ?_
        refine jr_istore jf_107_41 jml_107 (by decide) ?_
        exact r_B_keep_43 hd _ _ _ _ _ _ _ _ _ _ (jg1_ne rfl (jg1_ne rfl (jg1_ne rfl (jg1_ne rfl hl0)))) (jg1_ne rfl (jg1_ne rfl (jg1_pre (by first | rfl | exact rv_cat _) jg1_same))) (jg1_ne rfl (jg1_pre rfl jg1_same)) (jg1_pre rfl jg1_same) jg1_same h
      · refine jr_if2_lt_f jf_107_26 hc ?_
        refine jr_iconst jf_107_29 jc_i_m1 ?_
        obtain ⟨rfl, rfl⟩ := Prod.mk.inj (Option.some.inj h)
        exact jr_retI jf_107_30 jmt_107
set_option maxRecDepth 10000 in
set_option maxHeartbeats 4000000 in
theorem r_B_keep {N B : Nat} {SA : Nat → Nat} {d : Nat} (hd : 4 ≤ d) : ∀ (v0 : Nat) (v1 : Int32) (μ : JMem) (r : Int32) (μ9 : JMem), g_B_keep N B v0 v1 μ = some (r, μ9) → jR B SA d m_B_keep 0 (lv_args 0 [.ref v0, .int v1]) [] μ (some (.int r)) μ9 := by
  intro v0 v1 μ r μ9 h
  exact r_B_keep_e hd (lv_args 0 _) _ _ _ _ _ (by simp [lv_args, jget, rv_cat, cat_int, cat_long, cat_double, cat_float, cat_ref]) (by simp [lv_args, jget, rv_cat, cat_int, cat_long, cat_double, cat_float, cat_ref]) h
/-! FilterBench$Kept.chainCount()I -/
set_option maxRecDepth 10000 in
set_option maxHeartbeats 4000000 in
theorem r_Kept_chainCount_e {B : Nat} {SA : Nat → Nat} {d : Nat} (hd : 0 ≤ d) : ∀ (L : JLoc) (v0 : Nat) (μ : JMem) (r : Int32), jget L 0 = .ref v0 → g_Kept_chainCount v0 μ.1 = some r → jR B SA d m_Kept_chainCount 0 L [] μ (some (.int r)) μ := by
  intro L v0 μ r hl0 h
  unfold g_Kept_chainCount at h
  refine jr_aload_n jf_120_0 rfl hl0 ?_
  replace h := obd_of h; obtain ⟨x1, hx1, h⟩ := h
  refine jr_getA jf_120_1 hx1 ?_
  replace h := obd_of h; obtain ⟨a2, rfl, h⟩ := h
  replace h := obd_of h; obtain ⟨x3, hx3, h⟩ := h
  refine jr_arraylength jf_120_4 hx3 ?_
  refine jr_iconst jf_120_5 jc_i_3 ?_
  refine jr_idiv jf_120_6 (by simp only [jdivI]; exact if_neg (by decide)) ?_
  obtain rfl := Option.some.inj h
  exact jr_retI jf_120_7 jmt_120
set_option maxRecDepth 10000 in
set_option maxHeartbeats 4000000 in
theorem r_Kept_chainCount {B : Nat} {SA : Nat → Nat} {d : Nat} (hd : 0 ≤ d) : ∀ (v0 : Nat) (μ : JMem) (r : Int32), g_Kept_chainCount v0 μ.1 = some r → jR B SA d m_Kept_chainCount 0 (lv_args 0 [.ref v0]) [] μ (some (.int r)) μ := by
  intro v0 μ r h
  exact r_Kept_chainCount_e hd (lv_args 0 _) _ _ _ (by simp [lv_args, jget, rv_cat, cat_int, cat_long, cat_double, cat_float, cat_ref]) h
/-! FilterBench$Kept.isShaped(ILFilterBench$Chain;)Z -/
set_option maxRecDepth 10000 in
set_option maxHeartbeats 4000000 in
theorem r_Kept_isShaped_e {B : Nat} {SA : Nat → Nat} {d : Nat} (hd : 0 ≤ d) : ∀ (L : JLoc) (v0 : Nat) (v1 : Int32) (v2 : Option Nat) (μ : JMem) (r : Bool), jget L 0 = .ref v0 → jget L 1 = .int v1 → jget L 2 = rv v2 → g_Kept_isShaped v0 v1 v2 μ.1 = some r → jR B SA d m_Kept_isShaped 0 L [] μ (some (.int (jb r))) μ := by
  intro L v0 v1 v2 μ r hl0 hl1 hl2 h
  unfold g_Kept_isShaped at h
  refine jr_iload_n jf_121_0 rfl hl1 ?_
  refine jr_iconst jf_121_1 jc_i_3 ?_
  refine jr_imul jf_121_2 ?_
  refine jr_istore_n jf_121_3 rfl jml_121 (by decide) ?_
  refine jr_iload_n jf_121_4 rfl jg1_same ?_
  replace h := ite_or h; rcases h with ⟨hc, h⟩ | ⟨hc, h⟩
  · refine jr_if_lt_t jf_121_5 hc ?_
    refine jr_iconst jf_121_66 jc_i_0 ?_
    obtain rfl := Option.some.inj h
    exact jr_retZ (x := false) jf_121_67 jmt_121
  · refine jr_if_lt_f jf_121_5 hc ?_
    refine jr_iload_n jf_121_8 rfl jg1_same ?_
    refine jr_iconst jf_121_9 jc_i_2 ?_
    refine jr_iadd jf_121_10 ?_
    refine jr_aload_n jf_121_11 rfl (jg1_ne rfl hl0) ?_
    replace h := obd_of h; obtain ⟨x1, hx1, h⟩ := h
    refine jr_getA jf_121_12 hx1 ?_
    replace h := obd_of h; obtain ⟨a2, rfl, h⟩ := h
    replace h := obd_of h; obtain ⟨x3, hx3, h⟩ := h
    refine jr_arraylength jf_121_15 hx3 ?_
    replace h := ite_or h; rcases h with ⟨hc, h⟩ | ⟨hc, h⟩
    · refine jr_if2_ge_t jf_121_16 hc ?_
      refine jr_iconst jf_121_66 jc_i_0 ?_
      obtain rfl := Option.some.inj h
      exact jr_retZ (x := false) jf_121_67 jmt_121
    · refine jr_if2_ge_f jf_121_16 hc ?_
      refine jr_aload_n jf_121_19 rfl (jg1_ne rfl hl0) ?_
      replace h := obd_of h; obtain ⟨x4, hx4, h⟩ := h
      refine jr_getA jf_121_20 hx4 ?_
      refine jr_iload_n jf_121_23 rfl jg1_same ?_
      replace h := obd_of h; obtain ⟨a5, rfl, h⟩ := h
      replace h := obd_of h; obtain ⟨x6, hx6, h⟩ := h
      refine jr_iaload jf_121_24 hx6 ?_
      refine jr_aload_n_A jf_121_25 rfl (jg1_pre (by first | rfl | exact rv_cat _) hl2) ?_
      replace h := obd_of h; obtain ⟨a7, rfl, h⟩ := h
      replace h := obd_of h; obtain ⟨x8, hx8, h⟩ := h
      refine jr_getI jf_121_26 hx8 ?_
      replace h := ite_or h; rcases h with ⟨hc, h⟩ | ⟨hc, h⟩
      · refine jr_if2_ne_f jf_121_29 hc ?_
        refine jr_aload_n jf_121_32 rfl (jg1_ne rfl hl0) ?_
        replace h := obd_of h; obtain ⟨x9, hx9, h⟩ := h
        refine jr_getA jf_121_33 hx9 ?_
        refine jr_iload_n jf_121_36 rfl jg1_same ?_
        refine jr_iconst jf_121_37 jc_i_1 ?_
        refine jr_iadd jf_121_38 ?_
        replace h := obd_of h; obtain ⟨a10, rfl, h⟩ := h
        replace h := obd_of h; obtain ⟨x11, hx11, h⟩ := h
        refine jr_iaload jf_121_39 hx11 ?_
        refine jr_aload_n jf_121_40 rfl (jg1_pre (by first | rfl | exact rv_cat _) hl2) ?_
        replace h := obd_of h; obtain ⟨x12, hx12, h⟩ := h
        refine jr_getI jf_121_41 hx12 ?_
        replace h := ite_or h; rcases h with ⟨hc, h⟩ | ⟨hc, h⟩
        · refine jr_if2_ne_f jf_121_44 hc ?_
          refine jr_aload_n jf_121_47 rfl (jg1_ne rfl hl0) ?_
          replace h := obd_of h; obtain ⟨x13, hx13, h⟩ := h
          refine jr_getA jf_121_48 hx13 ?_
          refine jr_iload_n jf_121_51 rfl jg1_same ?_
          refine jr_iconst jf_121_52 jc_i_2 ?_
          refine jr_iadd jf_121_53 ?_
          replace h := obd_of h; obtain ⟨a14, rfl, h⟩ := h
          replace h := obd_of h; obtain ⟨x15, hx15, h⟩ := h
          refine jr_iaload jf_121_54 hx15 ?_
          refine jr_aload_n jf_121_55 rfl (jg1_pre (by first | rfl | exact rv_cat _) hl2) ?_
          replace h := obd_of h; obtain ⟨x16, hx16, h⟩ := h
          refine jr_getI jf_121_56 hx16 ?_
          replace h := ite_or h; rcases h with ⟨hc, h⟩ | ⟨hc, h⟩
          · refine jr_if2_ne_f jf_121_59 hc ?_
            refine jr_iconst jf_121_62 jc_i_1 ?_
            refine jr_goto jf_121_63 ?_
            obtain rfl := Option.some.inj h
            exact jr_retZ (x := true) jf_121_67 jmt_121
          · refine jr_if2_ne_t jf_121_59 hc ?_
            refine jr_iconst jf_121_66 jc_i_0 ?_
            obtain rfl := Option.some.inj h
            exact jr_retZ (x := false) jf_121_67 jmt_121
        · refine jr_if2_ne_t jf_121_44 hc ?_
          refine jr_iconst jf_121_66 jc_i_0 ?_
          obtain rfl := Option.some.inj h
          exact jr_retZ (x := false) jf_121_67 jmt_121
      · refine jr_if2_ne_t jf_121_29 hc ?_
        refine jr_iconst jf_121_66 jc_i_0 ?_
        obtain rfl := Option.some.inj h
        exact jr_retZ (x := false) jf_121_67 jmt_121
set_option maxRecDepth 10000 in
set_option maxHeartbeats 4000000 in
theorem r_Kept_isShaped {B : Nat} {SA : Nat → Nat} {d : Nat} (hd : 0 ≤ d) : ∀ (v0 : Nat) (v1 : Int32) (v2 : Option Nat) (μ : JMem) (r : Bool), g_Kept_isShaped v0 v1 v2 μ.1 = some r → jR B SA d m_Kept_isShaped 0 (lv_args 0 [.ref v0, .int v1, rv v2]) [] μ (some (.int (jb r))) μ := by
  intro v0 v1 v2 μ r h
  exact r_Kept_isShaped_e hd (lv_args 0 _) _ _ _ _ _ (by simp [lv_args, jget, rv_cat, cat_int, cat_long, cat_double, cat_float, cat_ref]) (by simp [lv_args, jget, rv_cat, cat_int, cat_long, cat_double, cat_float, cat_ref]) (by simp [lv_args, jget, rv_cat, cat_int, cat_long, cat_double, cat_float, cat_ref]) h
/-! FilterBench.gatherAsKept(LFilterBench$Kept;)Z -/
set_option maxRecDepth 10000 in
set_option maxHeartbeats 4000000 in
theorem r_B_gatherAsKept_21 {N B : Nat} {SA : Nat → Nat} {d : Nat} (hd : 2 ≤ d) : ∀ (n : Nat), ∀ (L : JLoc) (v0 : Nat) (v1 : Nat) (v2 : Int32) (v3 : Int32) (μ : JMem) (r : Bool) (μ9 : JMem), jget L 0 = .ref v0 → jget L 1 = .ref v1 → jget L 2 = .int v2 → jget L 3 = .int v3 → g_B_gatherAsKept_21 N B n v0 v1 v2 v3 μ = some (r, μ9) → jR B SA d m_B_gatherAsKept 21 L [] μ (some (.int (jb r))) μ9 := by
  intro n
  induction n with
  | zero =>
    intro L v0 v1 v2 v3 μ r μ9 hl0 hl1 hl2 hl3 h
    unfold g_B_gatherAsKept_21 at h
    cases h
  | succ n ih =>
    intro L v0 v1 v2 v3 μ r μ9 hl0 hl1 hl2 hl3 h
    unfold g_B_gatherAsKept_21 at h
    refine jr_iload_n jf_119_21 rfl hl3 ?_
    refine jr_iload_n jf_119_22 rfl hl2 ?_
    replace h := ite_or h; rcases h with ⟨hc, h⟩ | ⟨hc, h⟩
    · refine jr_if2_ge_t jf_119_23 hc ?_
      refine jr_iconst jf_119_66 jc_i_1 ?_
      obtain ⟨rfl, rfl⟩ := Prod.mk.inj (Option.some.inj h)
      exact jr_retZ (x := true) jf_119_67 jmt_119
    · refine jr_if2_ge_f jf_119_23 hc ?_
      refine jr_iload_n jf_119_26 rfl hl3 ?_
      refine jr_aload_n jf_119_27 rfl hl0 ?_
      replace h := obd_of h; obtain ⟨x1, hx1, h⟩ := h
      refine jr_getA jf_119_28 hx1 ?_
      replace h := obd_of h; obtain ⟨a2, rfl, h⟩ := h
      replace h := obd_of h; obtain ⟨x3, hx3, h⟩ := h
      refine jr_arraylength jf_119_31 hx3 ?_
      replace h := ite_or h; rcases h with ⟨hc, h⟩ | ⟨hc, h⟩
      · refine jr_if2_ge_t jf_119_32 hc ?_
        refine jr_iconst jf_119_66 jc_i_1 ?_
        obtain ⟨rfl, rfl⟩ := Prod.mk.inj (Option.some.inj h)
        exact jr_retZ (x := true) jf_119_67 jmt_119
      · refine jr_if2_ge_f jf_119_32 hc ?_
        refine jr_aload_n jf_119_35 rfl hl0 ?_
        replace h := obd_of h; obtain ⟨x4, hx4, h⟩ := h
        refine jr_getA jf_119_36 hx4 ?_
        refine jr_iload_n jf_119_39 rfl hl3 ?_
        replace h := obd_of h; obtain ⟨a5, rfl, h⟩ := h
        replace h := obd_of h; obtain ⟨x6, hx6, h⟩ := h
        refine jr_aaload jf_119_40 hx6 ?_
        replace h := jon_or h; rcases h with ⟨rfl, h⟩ | ⟨a7, rfl, h⟩
        · refine jr_ifnull_n jf_119_41 ?_
          refine jr_iconst jf_119_58 jc_i_0 ?_
          obtain ⟨rfl, rfl⟩ := Prod.mk.inj (Option.some.inj h)
          exact jr_retZ (x := false) jf_119_59 jmt_119
        · refine jr_ifnull_s jf_119_41 ?_
          refine jr_aload_n jf_119_44 rfl hl1 ?_
          refine jr_iload_n jf_119_45 rfl hl3 ?_
          refine jr_aload_n jf_119_46 rfl hl0 ?_
          replace h := obd_of h; obtain ⟨x8, hx8, h⟩ := h
          refine jr_getA jf_119_47 hx8 ?_
          refine jr_iload_n jf_119_50 rfl hl3 ?_
          replace h := obd_of h; obtain ⟨a9, rfl, h⟩ := h
          replace h := obd_of h; obtain ⟨x10, hx10, h⟩ := h
          refine jr_aaload jf_119_51 hx10 ?_
          replace h := jgd_of h; obtain ⟨hb11, h⟩ := h
          replace h := obd_of h; obtain ⟨x12, hx12, h⟩ := h
          refine jr_V6_2 jf_119_52 hb11 (by omega) (r_Kept_isShaped (by omega) _ _ _ _ _ hx12) (Nat.le_of_ble_eq_true rfl) jml_121 (by simp only [jcats_cons, jcats_nil, cat_int, cat_long, cat_double, cat_float, cat_ref, rv_cat]; decide) ?_
          replace h := ite_or h; rcases h with ⟨hc, h⟩ | ⟨hc, h⟩
          · refine jr_ifz_ne_t jf_119_55 hc ?_
            refine jr_iinc jf_119_60 jc_i_1 jml_119 (by decide) hl3 ?_
            refine jr_goto jf_119_63 ?_
            exact ih _ _ _ _ _ _ _ _ (jg1_ne rfl hl0) (jg1_ne rfl hl1) (jg1_pre rfl hl2) jg1_same h
          · refine jr_ifz_ne_f jf_119_55 hc ?_
            refine jr_iconst jf_119_58 jc_i_0 ?_
            obtain ⟨rfl, rfl⟩ := Prod.mk.inj (Option.some.inj h)
            exact jr_retZ (x := false) jf_119_59 jmt_119
set_option maxRecDepth 10000 in
set_option maxHeartbeats 4000000 in
theorem r_B_gatherAsKept_e {N B : Nat} {SA : Nat → Nat} {d : Nat} (hd : 2 ≤ d) : ∀ (L : JLoc) (v0 : Nat) (v1 : Option Nat) (μ : JMem) (r : Bool) (μ9 : JMem), jget L 0 = .ref v0 → jget L 1 = rv v1 → g_B_gatherAsKept N B v0 v1 μ = some (r, μ9) → jR B SA d m_B_gatherAsKept 0 L [] μ (some (.int (jb r))) μ9 := by
  intro L v0 v1 μ r μ9 hl0 hl1 h
  unfold g_B_gatherAsKept at h
  refine jr_aload_n jf_119_0 rfl hl0 ?_
  refine jr_aload_n_A jf_119_1 rfl hl1 ?_
  replace h := obd_of h; obtain ⟨a1, rfl, h⟩ := h
  replace h := obd_of h; obtain ⟨x2, hx2, h⟩ := h
  refine jr_getA jf_119_2 hx2 ?_
  replace h := jgd_of h; obtain ⟨hb3, h⟩ := h
  replace h := jbd2_of h; obtain ⟨x4, μ5, hx4, h⟩ := h
  refine jr_V6_1 jf_119_5 hb3 (by omega) (r_B_gather (by omega) _ _ _ _ _ hx4) (Nat.le_of_ble_eq_true rfl) jml_108 (by simp only [jcats_cons, jcats_nil, cat_int, cat_long, cat_double, cat_float, cat_ref, rv_cat]; decide) ?_
  refine jr_istore_n jf_119_8 rfl jml_119 (by decide) ?_
  refine jr_iload_n jf_119_9 rfl jg1_same ?_
  refine jr_aload_n jf_119_10 rfl (jg1_pre (by first | rfl | exact rv_cat _) hl1) ?_
  replace h := jgd_of h; obtain ⟨hb6, h⟩ := h
  replace h := obd_of h; obtain ⟨x7, hx7, h⟩ := h
  refine jr_V6_0 jf_119_11 hb6 (by omega) (r_Kept_chainCount (by omega) _ _ _ hx7) (Nat.le_of_ble_eq_true rfl) jml_120 (Nat.le_of_ble_eq_true rfl) ?_
  replace h := ite_or h; rcases h with ⟨hc, h⟩ | ⟨hc, h⟩
  · refine jr_if2_eq_t jf_119_14 hc ?_
    refine jr_iconst jf_119_19 jc_i_0 ?_
    refine jr_istore_n jf_119_20 rfl jml_119 (by decide) ?_
    exact r_B_gatherAsKept_21 hd _ _ _ _ _ _ _ _ _ (jg1_ne rfl (jg1_ne rfl hl0)) (jg1_ne rfl (jg1_pre (by first | rfl | exact rv_cat _) hl1)) (jg1_pre rfl jg1_same) jg1_same h
  · refine jr_if2_eq_f jf_119_14 hc ?_
    refine jr_iconst jf_119_17 jc_i_0 ?_
    obtain ⟨rfl, rfl⟩ := Prod.mk.inj (Option.some.inj h)
    exact jr_retZ (x := false) jf_119_18 jmt_119
set_option maxRecDepth 10000 in
set_option maxHeartbeats 4000000 in
theorem r_B_gatherAsKept {N B : Nat} {SA : Nat → Nat} {d : Nat} (hd : 2 ≤ d) : ∀ (v0 : Nat) (v1 : Option Nat) (μ : JMem) (r : Bool) (μ9 : JMem), g_B_gatherAsKept N B v0 v1 μ = some (r, μ9) → jR B SA d m_B_gatherAsKept 0 (lv_args 0 [.ref v0, rv v1]) [] μ (some (.int (jb r))) μ9 := by
  intro v0 v1 μ r μ9 h
  exact r_B_gatherAsKept_e hd (lv_args 0 _) _ _ _ _ _ (by simp [lv_args, jget, rv_cat, cat_int, cat_long, cat_double, cat_float, cat_ref]) (by simp [lv_args, jget, rv_cat, cat_int, cat_long, cat_double, cat_float, cat_ref]) h
/-! FilterBench.keptAt(I)LFilterBench$Kept; -/
set_option maxRecDepth 10000 in
set_option maxHeartbeats 4000000 in
theorem r_B_keptAt_21 {B : Nat} {SA : Nat → Nat} {d : Nat} (hd : 0 ≤ d) : ∀ (L : JLoc) (μ : JMem) (r : Option Nat), g_B_keptAt_21 μ.1 = some r → jR B SA d m_B_keptAt 21 L [] μ (some (rv r)) μ := by
  intro L μ r h
  unfold g_B_keptAt_21 at h
  refine jr_aconst_null jf_118_21 ?_
  refine jr_goto jf_118_22 ?_
  obtain rfl := Option.some.inj h
  exact jr_retA jf_118_31 jmt_118
set_option maxRecDepth 10000 in
set_option maxHeartbeats 4000000 in
theorem r_B_keptAt_e {B : Nat} {SA : Nat → Nat} {d : Nat} (hd : 0 ≤ d) : ∀ (L : JLoc) (v0 : Nat) (v1 : Int32) (μ : JMem) (r : Option Nat), jget L 0 = .ref v0 → jget L 1 = .int v1 → g_B_keptAt v0 v1 μ.1 = some r → jR B SA d m_B_keptAt 0 L [] μ (some (rv r)) μ := by
  intro L v0 v1 μ r hl0 hl1 h
  unfold g_B_keptAt at h
  refine jr_iload_n jf_118_0 rfl hl1 ?_
  replace h := ite_or h; rcases h with ⟨hc, h⟩ | ⟨hc, h⟩
  · refine jr_if_lt_t jf_118_1 hc ?_
    exact r_B_keptAt_21 hd _  _ _ h
  · refine jr_if_lt_f jf_118_1 hc ?_
    refine jr_iload_n jf_118_4 rfl hl1 ?_
    refine jr_aload_n jf_118_5 rfl hl0 ?_
    replace h := obd_of h; obtain ⟨x1, hx1, h⟩ := h
    refine jr_getI jf_118_6 hx1 ?_
    replace h := ite_or h; rcases h with ⟨hc, h⟩ | ⟨hc, h⟩
    · refine jr_if2_ge_t jf_118_9 hc ?_
      exact r_B_keptAt_21 hd _  _ _ h
    · refine jr_if2_ge_f jf_118_9 hc ?_
      refine jr_iload_n jf_118_12 rfl hl1 ?_
      refine jr_aload_n jf_118_13 rfl hl0 ?_
      replace h := obd_of h; obtain ⟨x2, hx2, h⟩ := h
      refine jr_getA jf_118_14 hx2 ?_
      replace h := obd_of h; obtain ⟨a3, rfl, h⟩ := h
      replace h := obd_of h; obtain ⟨x4, hx4, h⟩ := h
      refine jr_arraylength jf_118_17 hx4 ?_
      replace h := ite_or h; rcases h with ⟨hc, h⟩ | ⟨hc, h⟩
      · refine jr_if2_lt_t jf_118_18 hc ?_
        refine jr_aload_n jf_118_25 rfl hl0 ?_
        replace h := obd_of h; obtain ⟨x5, hx5, h⟩ := h
        refine jr_getA jf_118_26 hx5 ?_
        refine jr_iload_n jf_118_29 rfl hl1 ?_
        replace h := obd_of h; obtain ⟨a6, rfl, h⟩ := h
        replace h := obd_of h; obtain ⟨x7, hx7, h⟩ := h
        refine jr_aaload jf_118_30 hx7 ?_
        obtain rfl := Option.some.inj h
        exact jr_retA jf_118_31 jmt_118
      · refine jr_if2_lt_f jf_118_18 hc ?_
        exact r_B_keptAt_21 hd _  _ _ h
set_option maxRecDepth 10000 in
set_option maxHeartbeats 4000000 in
theorem r_B_keptAt {B : Nat} {SA : Nat → Nat} {d : Nat} (hd : 0 ≤ d) : ∀ (v0 : Nat) (v1 : Int32) (μ : JMem) (r : Option Nat), g_B_keptAt v0 v1 μ.1 = some r → jR B SA d m_B_keptAt 0 (lv_args 0 [.ref v0, .int v1]) [] μ (some (rv r)) μ := by
  intro v0 v1 μ r h
  exact r_B_keptAt_e hd (lv_args 0 _) _ _ _ _ (by simp [lv_args, jget, rv_cat, cat_int, cat_long, cat_double, cat_float, cat_ref]) (by simp [lv_args, jget, rv_cat, cat_int, cat_long, cat_double, cat_float, cat_ref]) h
/-! FilterBench$Row.load([JI)I -/
set_option maxRecDepth 10000 in
set_option maxHeartbeats 4000000 in
theorem r_Row_load_35 {N B : Nat} {SA : Nat → Nat} {d : Nat} (hd : 2 ≤ d) {k2 : Nat → Option Nat → Int32 → Int32 → JMem → Option (Int32 × JMem)} (i2 : ∀ (L : JLoc) (v0 : Nat) (v1 : Option Nat) (v2 : Int32) (v3 : Int32) (μ : JMem) (r : Int32) (μ9 : JMem), jget L 0 = .ref v0 → jget L 1 = rv v1 → jget L 2 = .int v2 → jget L 3 = .int v3 → k2 v0 v1 v2 v3 μ = some (r, μ9) → jR B SA d m_Row_load 2 L [] μ (some (.int r)) μ9) : ∀ (L : JLoc) (v0 : Nat) (v1 : Option Nat) (v2 : Int32) (v3 : Int32) (μ : JMem) (r : Int32) (μ9 : JMem), jget L 0 = .ref v0 → jget L 1 = rv v1 → jget L 2 = .int v2 → jget L 3 = .int v3 → g_Row_load_35 N B k2 v0 v1 v2 v3 μ = some (r, μ9) → jR B SA d m_Row_load 35 L [] μ (some (.int r)) μ9 := by
  intro L v0 v1 v2 v3 μ r μ9 hl0 hl1 hl2 hl3 h
  unfold g_Row_load_35 at h
  refine jr_iinc jf_123_35 jc_i_1 jml_123 (by decide) hl3 ?_
  refine jr_goto jf_123_38 ?_
  exact i2 _ _ _ _ _ _ _ _ (jg1_ne rfl hl0) (jg1_ne rfl hl1) (jg1_pre rfl hl2) jg1_same h
set_option maxRecDepth 10000 in
set_option maxHeartbeats 4000000 in
theorem r_Row_load_2 {N B : Nat} {SA : Nat → Nat} {d : Nat} (hd : 2 ≤ d) : ∀ (n : Nat), ∀ (L : JLoc) (v0 : Nat) (v1 : Option Nat) (v2 : Int32) (v3 : Int32) (μ : JMem) (r : Int32) (μ9 : JMem), jget L 0 = .ref v0 → jget L 1 = rv v1 → jget L 2 = .int v2 → jget L 3 = .int v3 → g_Row_load_2 N B n v0 v1 v2 v3 μ = some (r, μ9) → jR B SA d m_Row_load 2 L [] μ (some (.int r)) μ9 := by
  intro n
  induction n with
  | zero =>
    intro L v0 v1 v2 v3 μ r μ9 hl0 hl1 hl2 hl3 h
    unfold g_Row_load_2 at h
    cases h
  | succ n ih =>
    intro L v0 v1 v2 v3 μ r μ9 hl0 hl1 hl2 hl3 h
    unfold g_Row_load_2 at h
    refine jr_iload_n jf_123_2 rfl hl3 ?_
    refine jr_aload_n jf_123_3 rfl hl0 ?_
    replace h := obd_of h; obtain ⟨x1, hx1, h⟩ := h
    refine jr_getA jf_123_4 hx1 ?_
    replace h := obd_of h; obtain ⟨a2, rfl, h⟩ := h
    replace h := obd_of h; obtain ⟨x3, hx3, h⟩ := h
    refine jr_arraylength jf_123_7 hx3 ?_
    replace h := ite_or h; rcases h with ⟨hc, h⟩ | ⟨hc, h⟩
    · refine jr_if2_ge_t jf_123_8 hc ?_
      refine jr_iload_n jf_123_41 rfl hl2 ?_
      refine jr_aload_n jf_123_42 rfl hl0 ?_
      replace h := obd_of h; obtain ⟨x4, hx4, h⟩ := h
      refine jr_getA jf_123_43 hx4 ?_
      replace h := obd_of h; obtain ⟨a5, rfl, h⟩ := h
      replace h := obd_of h; obtain ⟨x6, hx6, h⟩ := h
      refine jr_arraylength jf_123_46 hx6 ?_
      refine jr_iadd jf_123_47 ?_
      obtain ⟨rfl, rfl⟩ := Prod.mk.inj (Option.some.inj h)
      exact jr_retI jf_123_48 jmt_123
    · refine jr_if2_ge_f jf_123_8 hc ?_
      refine jr_iload_n jf_123_11 rfl hl2 ?_
      refine jr_iload_n jf_123_12 rfl hl3 ?_
      refine jr_iadd jf_123_13 ?_
      replace h := ite_or h; rcases h with ⟨hc, h⟩ | ⟨hc, h⟩
      · refine jr_if_lt_t jf_123_14 hc ?_
        exact r_Row_load_35 hd ih _ _ _ _ _ _ _ _ hl0 hl1 hl2 hl3 h
      · refine jr_if_lt_f jf_123_14 hc ?_
        refine jr_iload_n jf_123_17 rfl hl2 ?_
        refine jr_iload_n jf_123_18 rfl hl3 ?_
        refine jr_iadd jf_123_19 ?_
        refine jr_aload_n_A jf_123_20 rfl hl1 ?_
        replace h := obd_of h; obtain ⟨a7, rfl, h⟩ := h
        replace h := obd_of h; obtain ⟨x8, hx8, h⟩ := h
        refine jr_arraylength jf_123_21 hx8 ?_
        replace h := ite_or h; rcases h with ⟨hc, h⟩ | ⟨hc, h⟩
        · refine jr_if2_ge_t jf_123_22 hc ?_
          exact r_Row_load_35 hd ih _ _ (some _) _ _ _ _ _ hl0 hl1 hl2 hl3 h
        · refine jr_if2_ge_f jf_123_22 hc ?_
          refine jr_aload_n jf_123_25 rfl hl0 ?_
          refine jr_iload_n jf_123_26 rfl hl3 ?_
          refine jr_aload_n jf_123_27 rfl hl1 ?_
          refine jr_iload_n jf_123_28 rfl hl2 ?_
          refine jr_iload_n jf_123_29 rfl hl3 ?_
          refine jr_iadd jf_123_30 ?_
          replace h := obd_of h; obtain ⟨x9, hx9, h⟩ := h
          refine jr_laload jf_123_31 hx9 ?_
          replace h := jgd_of h; obtain ⟨hb10, h⟩ := h
          replace h := obd_of h; obtain ⟨μ11, hμ11, h⟩ := h
          refine jr_V6v_2 jf_123_32 hb10 (by omega) (r_Row_put (by omega) _ _ _ _ _ hμ11) (Nat.le_of_ble_eq_true rfl) jml_50 (Nat.le_of_ble_eq_true rfl) ?_
          exact r_Row_load_35 hd ih _ _ (some _) _ _ _ _ _ hl0 hl1 hl2 hl3 h
set_option maxRecDepth 10000 in
set_option maxHeartbeats 4000000 in
theorem r_Row_load_e {N B : Nat} {SA : Nat → Nat} {d : Nat} (hd : 2 ≤ d) : ∀ (L : JLoc) (v0 : Nat) (v1 : Option Nat) (v2 : Int32) (μ : JMem) (r : Int32) (μ9 : JMem), jget L 0 = .ref v0 → jget L 1 = rv v1 → jget L 2 = .int v2 → g_Row_load N B v0 v1 v2 μ = some (r, μ9) → jR B SA d m_Row_load 0 L [] μ (some (.int r)) μ9 := by
  intro L v0 v1 v2 μ r μ9 hl0 hl1 hl2 h
  unfold g_Row_load at h
  refine jr_iconst jf_123_0 jc_i_0 ?_
  refine jr_istore_n jf_123_1 rfl jml_123 (by decide) ?_
  exact r_Row_load_2 hd _ _ _ _ _ _ _ _ _ (jg1_ne rfl hl0) (jg1_ne rfl hl1) (jg1_pre rfl hl2) jg1_same h
set_option maxRecDepth 10000 in
set_option maxHeartbeats 4000000 in
theorem r_Row_load {N B : Nat} {SA : Nat → Nat} {d : Nat} (hd : 2 ≤ d) : ∀ (v0 : Nat) (v1 : Option Nat) (v2 : Int32) (μ : JMem) (r : Int32) (μ9 : JMem), g_Row_load N B v0 v1 v2 μ = some (r, μ9) → jR B SA d m_Row_load 0 (lv_args 0 [.ref v0, rv v1, .int v2]) [] μ (some (.int r)) μ9 := by
  intro v0 v1 v2 μ r μ9 h
  exact r_Row_load_e hd (lv_args 0 _) _ _ _ _ _ _ (by simp [lv_args, jget, rv_cat, cat_int, cat_long, cat_double, cat_float, cat_ref]) (by simp [lv_args, jget, rv_cat, cat_int, cat_long, cat_double, cat_float, cat_ref]) (by simp [lv_args, jget, rv_cat, cat_int, cat_long, cat_double, cat_float, cat_ref]) h
/-! FilterBench$Chain.load([JI)I -/
set_option maxRecDepth 10000 in
set_option maxHeartbeats 4000000 in
theorem r_Chain_load_38 {N B : Nat} {SA : Nat → Nat} {d : Nat} (hd : 3 ≤ d) {k5 : Nat → Option Nat → Int32 → Int32 → JMem → Option (Int32 × JMem)} (i5 : ∀ (L : JLoc) (v0 : Nat) (v1 : Option Nat) (v3 : Int32) (v4 : Int32) (μ : JMem) (r : Int32) (μ9 : JMem), jget L 0 = .ref v0 → jget L 1 = rv v1 → jget L 3 = .int v3 → jget L 4 = .int v4 → k5 v0 v1 v3 v4 μ = some (r, μ9) → jR B SA d m_Chain_load 5 L [] μ (some (.int r)) μ9) : ∀ (L : JLoc) (v0 : Nat) (v1 : Option Nat) (v4 : Int32) (s0 : Int32) (μ : JMem) (r : Int32) (μ9 : JMem), jget L 0 = .ref v0 → jget L 1 = rv v1 → jget L 4 = .int v4 → g_Chain_load_38 N B k5 v0 v1 v4 s0 μ = some (r, μ9) → jR B SA d m_Chain_load 38 L [.int s0] μ (some (.int r)) μ9 := by
  intro L v0 v1 v4 s0 μ r μ9 hl0 hl1 hl4 h
  unfold g_Chain_load_38 at h
  refine jr_istore_n jf_122_38 rfl jml_122 (by decide) ?_
  refine jr_iinc jf_122_39 jc_i_1 jml_122 (by decide) (jg1_ne rfl hl4) ?_
  refine jr_goto jf_122_42 ?_
  exact i5 _ _ _ _ _ _ _ _ (jg1_ne rfl (jg1_ne rfl hl0)) (jg1_ne rfl (jg1_ne rfl hl1)) (jg1_pre rfl jg1_same) jg1_same h
set_option maxRecDepth 10000 in
set_option maxHeartbeats 4000000 in
theorem r_Chain_load_5 {N B : Nat} {SA : Nat → Nat} {d : Nat} (hd : 3 ≤ d) : ∀ (n : Nat), ∀ (L : JLoc) (v0 : Nat) (v1 : Option Nat) (v3 : Int32) (v4 : Int32) (μ : JMem) (r : Int32) (μ9 : JMem), jget L 0 = .ref v0 → jget L 1 = rv v1 → jget L 3 = .int v3 → jget L 4 = .int v4 → g_Chain_load_5 N B n v0 v1 v3 v4 μ = some (r, μ9) → jR B SA d m_Chain_load 5 L [] μ (some (.int r)) μ9 := by
  intro n
  induction n with
  | zero =>
    intro L v0 v1 v3 v4 μ r μ9 hl0 hl1 hl3 hl4 h
    unfold g_Chain_load_5 at h
    cases h
  | succ n ih =>
    intro L v0 v1 v3 v4 μ r μ9 hl0 hl1 hl3 hl4 h
    unfold g_Chain_load_5 at h
    refine jr_iload jf_122_5 hl4 ?_
    refine jr_aload_n jf_122_7 rfl hl0 ?_
    replace h := jgd_of h; obtain ⟨hb1, h⟩ := h
    replace h := obd_of h; obtain ⟨x2, hx2, h⟩ := h
    refine jr_V6_0 jf_122_8 hb1 (by omega) (r_Chain_rowCount (by omega) _ _ _ hx2) (Nat.le_of_ble_eq_true rfl) jml_111 (Nat.le_of_ble_eq_true rfl) ?_
    replace h := ite_or h; rcases h with ⟨hc, h⟩ | ⟨hc, h⟩
    · refine jr_if2_ge_t jf_122_11 hc ?_
      refine jr_iload_n jf_122_45 rfl hl3 ?_
      obtain ⟨rfl, rfl⟩ := Prod.mk.inj (Option.some.inj h)
      exact jr_retI jf_122_46 jmt_122
    · refine jr_if2_ge_f jf_122_11 hc ?_
      refine jr_aload_n jf_122_14 rfl hl0 ?_
      refine jr_iload jf_122_15 hl4 ?_
      replace h := jgd_of h; obtain ⟨hb3, h⟩ := h
      replace h := obd_of h; obtain ⟨x4, hx4, h⟩ := h
      refine jr_V6_1 jf_122_17 hb3 (by omega) (r_Chain_rowAt (by omega) _ _ _ _ hx4) (Nat.le_of_ble_eq_true rfl) jml_112 (Nat.le_of_ble_eq_true rfl) ?_
      refine jr_astore_A jf_122_20 jml_122 (by decide) ?_
      refine jr_aload_A jf_122_22 jg1_same ?_
      replace h := jon_or h; rcases h with ⟨rfl, h⟩ | ⟨a5, rfl, h⟩
      · refine jr_ifnonnull_n jf_122_24 ?_
        refine jr_iload_n jf_122_27 rfl (jg1_ne rfl hl3) ?_
        refine jr_goto jf_122_28 ?_
        exact r_Chain_load_38 hd ih _ _ _ _ _ _ _ _ (jg1_ne rfl hl0) (jg1_ne rfl hl1) (jg1_pre rfl hl4) h
      · refine jr_ifnonnull_s jf_122_24 ?_
        refine jr_aload jf_122_31 jg1_same ?_
        refine jr_aload_n_A jf_122_33 rfl (jg1_ne rfl hl1) ?_
        refine jr_iload_n jf_122_34 rfl (jg1_ne rfl hl3) ?_
        replace h := jgd_of h; obtain ⟨hb6, h⟩ := h
        replace h := jbd2_of h; obtain ⟨x7, μ8, hx7, h⟩ := h
        refine jr_V6_2 jf_122_35 hb6 (by omega) (r_Row_load (by omega) _ _ _ _ _ _ hx7) (Nat.le_of_ble_eq_true rfl) jml_123 (by simp only [jcats_cons, jcats_nil, cat_int, cat_long, cat_double, cat_float, cat_ref, rv_cat]; decide) ?_
        exact r_Chain_load_38 hd ih _ _ _ _ _ _ _ _ (jg1_ne rfl hl0) (jg1_ne rfl hl1) (jg1_pre rfl hl4) h
set_option maxRecDepth 10000 in
set_option maxHeartbeats 4000000 in
theorem r_Chain_load_e {N B : Nat} {SA : Nat → Nat} {d : Nat} (hd : 3 ≤ d) : ∀ (L : JLoc) (v0 : Nat) (v1 : Option Nat) (v2 : Int32) (μ : JMem) (r : Int32) (μ9 : JMem), jget L 0 = .ref v0 → jget L 1 = rv v1 → jget L 2 = .int v2 → g_Chain_load N B v0 v1 v2 μ = some (r, μ9) → jR B SA d m_Chain_load 0 L [] μ (some (.int r)) μ9 := by
  intro L v0 v1 v2 μ r μ9 hl0 hl1 hl2 h
  unfold g_Chain_load at h
  refine jr_iload_n jf_122_0 rfl hl2 ?_
  refine jr_istore_n jf_122_1 rfl jml_122 (by decide) ?_
  refine jr_iconst jf_122_2 jc_i_0 ?_
  refine jr_istore jf_122_3 jml_122 (by decide) ?_
  exact r_Chain_load_5 hd _ _ _ _ _ _ _ _ _ (jg1_ne rfl (jg1_ne rfl hl0)) (jg1_ne rfl (jg1_ne rfl hl1)) (jg1_pre rfl jg1_same) jg1_same h
set_option maxRecDepth 10000 in
set_option maxHeartbeats 4000000 in
theorem r_Chain_load {N B : Nat} {SA : Nat → Nat} {d : Nat} (hd : 3 ≤ d) : ∀ (v0 : Nat) (v1 : Option Nat) (v2 : Int32) (μ : JMem) (r : Int32) (μ9 : JMem), g_Chain_load N B v0 v1 v2 μ = some (r, μ9) → jR B SA d m_Chain_load 0 (lv_args 0 [.ref v0, rv v1, .int v2]) [] μ (some (.int r)) μ9 := by
  intro v0 v1 v2 μ r μ9 h
  exact r_Chain_load_e hd (lv_args 0 _) _ _ _ _ _ _ (by simp [lv_args, jget, rv_cat, cat_int, cat_long, cat_double, cat_float, cat_ref]) (by simp [lv_args, jget, rv_cat, cat_int, cat_long, cat_double, cat_float, cat_ref]) (by simp [lv_args, jget, rv_cat, cat_int, cat_long, cat_double, cat_float, cat_ref]) h
/-! FilterBench.back(I)Z -/
set_option maxRecDepth 10000 in
set_option maxHeartbeats 4000000 in
theorem r_B_back_70 {N B : Nat} {SA : Nat → Nat} {d : Nat} (hd : 4 ≤ d) {k25 : Nat → Nat → Int32 → Int32 → JMem → Option (Bool × JMem)} (i25 : ∀ (L : JLoc) (v0 : Nat) (v2 : Nat) (v3 : Int32) (v4 : Int32) (μ : JMem) (r : Bool) (μ9 : JMem), jget L 0 = .ref v0 → jget L 2 = .ref v2 → jget L 3 = .int v3 → jget L 4 = .int v4 → k25 v0 v2 v3 v4 μ = some (r, μ9) → jR B SA d m_B_back 25 L [] μ (some (.int (jb r))) μ9) : ∀ (L : JLoc) (v0 : Nat) (v2 : Nat) (v3 : Int32) (v4 : Int32) (μ : JMem) (r : Bool) (μ9 : JMem), jget L 0 = .ref v0 → jget L 2 = .ref v2 → jget L 3 = .int v3 → jget L 4 = .int v4 → g_B_back_70 N B k25 v0 v2 v3 v4 μ = some (r, μ9) → jR B SA d m_B_back 70 L [] μ (some (.int (jb r))) μ9 := by
  intro L v0 v2 v3 v4 μ r μ9 hl0 hl2 hl3 hl4 h
  unfold g_B_back_70 at h
  refine jr_iinc jf_117_70 jc_i_1 jml_117 (by decide) hl4 ?_
  refine jr_goto jf_117_73 ?_
  exact i25 _ _ _ _ _ _ _ _ (jg1_ne rfl hl0) (jg1_ne rfl hl2) (jg1_pre rfl hl3) jg1_same h
set_option maxRecDepth 10000 in
set_option maxHeartbeats 4000000 in
theorem r_B_back_25 {N B : Nat} {SA : Nat → Nat} {d : Nat} (hd : 4 ≤ d) : ∀ (n : Nat), ∀ (L : JLoc) (v0 : Nat) (v2 : Nat) (v3 : Int32) (v4 : Int32) (μ : JMem) (r : Bool) (μ9 : JMem), jget L 0 = .ref v0 → jget L 2 = .ref v2 → jget L 3 = .int v3 → jget L 4 = .int v4 → g_B_back_25 N B n v0 v2 v3 v4 μ = some (r, μ9) → jR B SA d m_B_back 25 L [] μ (some (.int (jb r))) μ9 := by
  intro n
  induction n with
  | zero =>
    intro L v0 v2 v3 v4 μ r μ9 hl0 hl2 hl3 hl4 h
    unfold g_B_back_25 at h
    cases h
  | succ n ih =>
    intro L v0 v2 v3 v4 μ r μ9 hl0 hl2 hl3 hl4 h
    unfold g_B_back_25 at h
    refine jr_iload jf_117_25 hl4 ?_
    refine jr_aload_n jf_117_27 rfl hl2 ?_
    replace h := jgd_of h; obtain ⟨hb1, h⟩ := h
    replace h := obd_of h; obtain ⟨x2, hx2, h⟩ := h
    refine jr_V6_0 jf_117_28 hb1 (by omega) (r_Kept_chainCount (by omega) _ _ _ hx2) (Nat.le_of_ble_eq_true rfl) jml_120 (Nat.le_of_ble_eq_true rfl) ?_
    replace h := ite_or h; rcases h with ⟨hc, h⟩ | ⟨hc, h⟩
    · refine jr_if2_ge_t jf_117_31 hc ?_
      refine jr_iconst jf_117_76 jc_i_1 ?_
      obtain ⟨rfl, rfl⟩ := Prod.mk.inj (Option.some.inj h)
      exact jr_retZ (x := true) jf_117_77 jmt_117
    · refine jr_if2_ge_f jf_117_31 hc ?_
      refine jr_iload jf_117_34 hl4 ?_
      refine jr_aload_n jf_117_36 rfl hl0 ?_
      replace h := obd_of h; obtain ⟨x3, hx3, h⟩ := h
      refine jr_getA jf_117_37 hx3 ?_
      replace h := obd_of h; obtain ⟨a4, rfl, h⟩ := h
      replace h := obd_of h; obtain ⟨x5, hx5, h⟩ := h
      refine jr_arraylength jf_117_40 hx5 ?_
      replace h := ite_or h; rcases h with ⟨hc, h⟩ | ⟨hc, h⟩
      · refine jr_if2_ge_t jf_117_41 hc ?_
        refine jr_iconst jf_117_76 jc_i_1 ?_
        obtain ⟨rfl, rfl⟩ := Prod.mk.inj (Option.some.inj h)
        exact jr_retZ (x := true) jf_117_77 jmt_117
      · refine jr_if2_ge_f jf_117_41 hc ?_
        refine jr_aload_n jf_117_44 rfl hl0 ?_
        replace h := obd_of h; obtain ⟨x6, hx6, h⟩ := h
        refine jr_getA jf_117_45 hx6 ?_
        refine jr_iload jf_117_48 hl4 ?_
        replace h := obd_of h; obtain ⟨a7, rfl, h⟩ := h
        replace h := obd_of h; obtain ⟨x8, hx8, h⟩ := h
        refine jr_aaload jf_117_50 hx8 ?_
        replace h := jon_or h; rcases h with ⟨rfl, h⟩ | ⟨a9, rfl, h⟩
        · refine jr_ifnull_n jf_117_51 ?_
          exact r_B_back_70 hd ih _ _ _ _ _ _ _ _ hl0 hl2 hl3 hl4 h
        · refine jr_ifnull_s jf_117_51 ?_
          refine jr_aload_n jf_117_54 rfl hl0 ?_
          replace h := obd_of h; obtain ⟨x10, hx10, h⟩ := h
          refine jr_getA jf_117_55 hx10 ?_
          refine jr_iload jf_117_58 hl4 ?_
          replace h := obd_of h; obtain ⟨a11, rfl, h⟩ := h
          replace h := obd_of h; obtain ⟨x12, hx12, h⟩ := h
          refine jr_aaload jf_117_60 hx12 ?_
          refine jr_aload_n jf_117_61 rfl hl2 ?_
          replace h := obd_of h; obtain ⟨x13, hx13, h⟩ := h
          refine jr_getA jf_117_62 hx13 ?_
          refine jr_iload_n jf_117_65 rfl hl3 ?_
          replace h := obd_of h; obtain ⟨a14, rfl, h⟩ := h
          replace h := jgd_of h; obtain ⟨hb15, h⟩ := h
          replace h := jbd2_of h; obtain ⟨x16, μ17, hx16, h⟩ := h
          refine jr_V6_2 jf_117_66 hb15 (by omega) (r_Chain_load (by omega) _ _ _ _ _ _ hx16) (Nat.le_of_ble_eq_true rfl) jml_122 (by simp only [jcats_cons, jcats_nil, cat_int, cat_long, cat_double, cat_float, cat_ref, rv_cat]; decide) ?_
          refine jr_istore_n jf_117_69 rfl jml_117 (by decide) ?_
          exact r_B_back_70 hd ih _ _ _ _ _ _ _ _ (jg1_ne rfl hl0) (jg1_pre (by first | rfl | exact rv_cat _) hl2) jg1_same (jg1_ne rfl hl4) h
set_option maxRecDepth 10000 in
set_option maxHeartbeats 4000000 in
theorem r_B_back_e {N B : Nat} {SA : Nat → Nat} {d : Nat} (hd : 4 ≤ d) : ∀ (L : JLoc) (v0 : Nat) (v1 : Int32) (μ : JMem) (r : Bool) (μ9 : JMem), jget L 0 = .ref v0 → jget L 1 = .int v1 → g_B_back N B v0 v1 μ = some (r, μ9) → jR B SA d m_B_back 0 L [] μ (some (.int (jb r))) μ9 := by
  intro L v0 v1 μ r μ9 hl0 hl1 h
  unfold g_B_back at h
  refine jr_aload_n jf_117_0 rfl hl0 ?_
  refine jr_iload_n jf_117_1 rfl hl1 ?_
  replace h := jgd_of h; obtain ⟨hb1, h⟩ := h
  replace h := obd_of h; obtain ⟨x2, hx2, h⟩ := h
  refine jr_V6_1 jf_117_2 hb1 (by omega) (r_B_keptAt (by omega) _ _ _ _ hx2) (Nat.le_of_ble_eq_true rfl) jml_118 (Nat.le_of_ble_eq_true rfl) ?_
  refine jr_astore_n_A jf_117_5 rfl jml_117 (by decide) ?_
  refine jr_aload_n_A jf_117_6 rfl jg1_same ?_
  replace h := jon_or h; rcases h with ⟨rfl, h⟩ | ⟨a3, rfl, h⟩
  · refine jr_ifnull_n jf_117_7 ?_
    refine jr_iconst jf_117_18 jc_i_0 ?_
    obtain ⟨rfl, rfl⟩ := Prod.mk.inj (Option.some.inj h)
    exact jr_retZ (x := false) jf_117_19 jmt_117
  · refine jr_ifnull_s jf_117_7 ?_
    refine jr_aload_n jf_117_10 rfl (jg1_ne rfl hl0) ?_
    refine jr_aload_n jf_117_11 rfl jg1_same ?_
    replace h := jgd_of h; obtain ⟨hb4, h⟩ := h
    replace h := jbd2_of h; obtain ⟨x5, μ6, hx5, h⟩ := h
    refine jr_V6_1 jf_117_12 hb4 (by omega) (r_B_gatherAsKept (by omega) _ _ _ _ _ hx5) (Nat.le_of_ble_eq_true rfl) jml_119 (by simp only [jcats_cons, jcats_nil, cat_int, cat_long, cat_double, cat_float, cat_ref, rv_cat]; decide) ?_
    replace h := ite_or h; rcases h with ⟨hc, h⟩ | ⟨hc, h⟩
    · refine jr_ifz_ne_t jf_117_15 hc ?_
      refine jr_iconst jf_117_20 jc_i_0 ?_
      refine jr_istore_n jf_117_21 rfl jml_117 (by decide) ?_
      refine jr_iconst jf_117_22 jc_i_0 ?_
      refine jr_istore jf_117_23 jml_117 (by decide) ?_
      exact r_B_back_25 hd _ _ _ _ _ _ _ _ _ (jg1_ne rfl (jg1_ne rfl (jg1_ne rfl hl0))) (jg1_ne rfl (jg1_pre (by first | rfl | exact rv_cat _) jg1_same)) (jg1_pre rfl jg1_same) jg1_same h
    · refine jr_ifz_ne_f jf_117_15 hc ?_
      refine jr_iconst jf_117_18 jc_i_0 ?_
      obtain ⟨rfl, rfl⟩ := Prod.mk.inj (Option.some.inj h)
      exact jr_retZ (x := false) jf_117_19 jmt_117
set_option maxRecDepth 10000 in
set_option maxHeartbeats 4000000 in
theorem r_B_back {N B : Nat} {SA : Nat → Nat} {d : Nat} (hd : 4 ≤ d) : ∀ (v0 : Nat) (v1 : Int32) (μ : JMem) (r : Bool) (μ9 : JMem), g_B_back N B v0 v1 μ = some (r, μ9) → jR B SA d m_B_back 0 (lv_args 0 [.ref v0, .int v1]) [] μ (some (.int (jb r))) μ9 := by
  intro v0 v1 μ r μ9 h
  exact r_B_back_e hd (lv_args 0 _) _ _ _ _ _ (by simp [lv_args, jget, rv_cat, cat_int, cat_long, cat_double, cat_float, cat_ref]) (by simp [lv_args, jget, rv_cat, cat_int, cat_long, cat_double, cat_float, cat_ref]) h
/-! FilterBench$Row.holdsValues([JI)Z -/
set_option maxRecDepth 10000 in
set_option maxHeartbeats 4000000 in
theorem r_Row_holdsValues_2 {N B : Nat} {SA : Nat → Nat} {d : Nat} (hd : 2 ≤ d) : ∀ (n : Nat), ∀ (L : JLoc) (v0 : Nat) (v1 : Option Nat) (v2 : Int32) (v3 : Int32) (μ : JMem) (r : Bool), jget L 0 = .ref v0 → jget L 1 = rv v1 → jget L 2 = .int v2 → jget L 3 = .int v3 → g_Row_holdsValues_2 N n v0 v1 v2 v3 μ.1 = some r → jR B SA d m_Row_holdsValues 2 L [] μ (some (.int (jb r))) μ := by
  intro n
  induction n with
  | zero =>
    intro L v0 v1 v2 v3 μ r hl0 hl1 hl2 hl3 h
    unfold g_Row_holdsValues_2 at h
    cases h
  | succ n ih =>
    intro L v0 v1 v2 v3 μ r hl0 hl1 hl2 hl3 h
    unfold g_Row_holdsValues_2 at h
    refine jr_iload_n jf_126_2 rfl hl3 ?_
    refine jr_aload_n jf_126_3 rfl hl0 ?_
    replace h := obd_of h; obtain ⟨x1, hx1, h⟩ := h
    refine jr_getA jf_126_4 hx1 ?_
    replace h := obd_of h; obtain ⟨a2, rfl, h⟩ := h
    replace h := obd_of h; obtain ⟨x3, hx3, h⟩ := h
    refine jr_arraylength jf_126_7 hx3 ?_
    replace h := ite_or h; rcases h with ⟨hc, h⟩ | ⟨hc, h⟩
    · refine jr_if2_ge_t jf_126_8 hc ?_
      refine jr_iconst jf_126_47 jc_i_1 ?_
      obtain rfl := Option.some.inj h
      exact jr_retZ (x := true) jf_126_48 jmt_126
    · refine jr_if2_ge_f jf_126_8 hc ?_
      refine jr_iload_n jf_126_11 rfl hl2 ?_
      refine jr_iload_n jf_126_12 rfl hl3 ?_
      refine jr_iadd jf_126_13 ?_
      replace h := ite_or h; rcases h with ⟨hc, h⟩ | ⟨hc, h⟩
      · refine jr_if_lt_t jf_126_14 hc ?_
        refine jr_iconst jf_126_39 jc_i_0 ?_
        obtain rfl := Option.some.inj h
        exact jr_retZ (x := false) jf_126_40 jmt_126
      · refine jr_if_lt_f jf_126_14 hc ?_
        refine jr_iload_n jf_126_17 rfl hl2 ?_
        refine jr_iload_n jf_126_18 rfl hl3 ?_
        refine jr_iadd jf_126_19 ?_
        refine jr_aload_n_A jf_126_20 rfl hl1 ?_
        replace h := obd_of h; obtain ⟨a4, rfl, h⟩ := h
        replace h := obd_of h; obtain ⟨x5, hx5, h⟩ := h
        refine jr_arraylength jf_126_21 hx5 ?_
        replace h := ite_or h; rcases h with ⟨hc, h⟩ | ⟨hc, h⟩
        · refine jr_if2_ge_t jf_126_22 hc ?_
          refine jr_iconst jf_126_39 jc_i_0 ?_
          obtain rfl := Option.some.inj h
          exact jr_retZ (x := false) jf_126_40 jmt_126
        · refine jr_if2_ge_f jf_126_22 hc ?_
          refine jr_aload_n jf_126_25 rfl hl1 ?_
          refine jr_iload_n jf_126_26 rfl hl2 ?_
          refine jr_iload_n jf_126_27 rfl hl3 ?_
          refine jr_iadd jf_126_28 ?_
          replace h := obd_of h; obtain ⟨x6, hx6, h⟩ := h
          refine jr_laload jf_126_29 hx6 ?_
          refine jr_aload_n jf_126_30 rfl hl0 ?_
          refine jr_iload_n jf_126_31 rfl hl3 ?_
          replace h := jgd_of h; obtain ⟨hb7, h⟩ := h
          replace h := obd_of h; obtain ⟨x8, hx8, h⟩ := h
          refine jr_V6_1 jf_126_32 hb7 (by omega) (r_Row_at (by omega) _ _ _ _ hx8) (Nat.le_of_ble_eq_true rfl) jml_23 (Nat.le_of_ble_eq_true rfl) ?_
          refine jr_lcmp jf_126_35 ?_
          replace h := ite_or h; rcases h with ⟨hc, h⟩ | ⟨hc, h⟩
          · refine jr_ifl_eq_t jf_126_36 hc ?_
            refine jr_iinc jf_126_41 jc_i_1 jml_126 (by decide) hl3 ?_
            refine jr_goto jf_126_44 ?_
            exact ih _ _ (some _) _ _ _ _ (jg1_ne rfl hl0) (jg1_ne rfl hl1) (jg1_pre rfl hl2) jg1_same h
          · refine jr_ifl_eq_f jf_126_36 hc ?_
            refine jr_iconst jf_126_39 jc_i_0 ?_
            obtain rfl := Option.some.inj h
            exact jr_retZ (x := false) jf_126_40 jmt_126
set_option maxRecDepth 10000 in
set_option maxHeartbeats 4000000 in
theorem r_Row_holdsValues_e {N B : Nat} {SA : Nat → Nat} {d : Nat} (hd : 2 ≤ d) : ∀ (L : JLoc) (v0 : Nat) (v1 : Option Nat) (v2 : Int32) (μ : JMem) (r : Bool), jget L 0 = .ref v0 → jget L 1 = rv v1 → jget L 2 = .int v2 → g_Row_holdsValues N v0 v1 v2 μ.1 = some r → jR B SA d m_Row_holdsValues 0 L [] μ (some (.int (jb r))) μ := by
  intro L v0 v1 v2 μ r hl0 hl1 hl2 h
  unfold g_Row_holdsValues at h
  refine jr_iconst jf_126_0 jc_i_0 ?_
  refine jr_istore_n jf_126_1 rfl jml_126 (by decide) ?_
  exact r_Row_holdsValues_2 hd _ _ _ _ _ _ _ _ (jg1_ne rfl hl0) (jg1_ne rfl hl1) (jg1_pre rfl hl2) jg1_same h
set_option maxRecDepth 10000 in
set_option maxHeartbeats 4000000 in
theorem r_Row_holdsValues {N B : Nat} {SA : Nat → Nat} {d : Nat} (hd : 2 ≤ d) : ∀ (v0 : Nat) (v1 : Option Nat) (v2 : Int32) (μ : JMem) (r : Bool), g_Row_holdsValues N v0 v1 v2 μ.1 = some r → jR B SA d m_Row_holdsValues 0 (lv_args 0 [.ref v0, rv v1, .int v2]) [] μ (some (.int (jb r))) μ := by
  intro v0 v1 v2 μ r h
  exact r_Row_holdsValues_e hd (lv_args 0 _) _ _ _ _ _ (by simp [lv_args, jget, rv_cat, cat_int, cat_long, cat_double, cat_float, cat_ref]) (by simp [lv_args, jget, rv_cat, cat_int, cat_long, cat_double, cat_float, cat_ref]) (by simp [lv_args, jget, rv_cat, cat_int, cat_long, cat_double, cat_float, cat_ref]) h
/-! FilterBench$Chain.holdsValues([JI)Z -/
set_option maxRecDepth 10000 in
set_option maxHeartbeats 4000000 in
theorem r_Chain_holdsValues_5 {N B : Nat} {SA : Nat → Nat} {d : Nat} (hd : 3 ≤ d) : ∀ (n : Nat), ∀ (L : JLoc) (v0 : Nat) (v1 : Option Nat) (v3 : Int32) (v4 : Int32) (μ : JMem) (r : Bool), jget L 0 = .ref v0 → jget L 1 = rv v1 → jget L 3 = .int v3 → jget L 4 = .int v4 → g_Chain_holdsValues_5 N n v0 v1 v3 v4 μ.1 = some r → jR B SA d m_Chain_holdsValues 5 L [] μ (some (.int (jb r))) μ := by
  intro n
  induction n with
  | zero =>
    intro L v0 v1 v3 v4 μ r hl0 hl1 hl3 hl4 h
    unfold g_Chain_holdsValues_5 at h
    cases h
  | succ n ih =>
    intro L v0 v1 v3 v4 μ r hl0 hl1 hl3 hl4 h
    unfold g_Chain_holdsValues_5 at h
    refine jr_iload jf_125_5 hl4 ?_
    refine jr_aload_n jf_125_7 rfl hl0 ?_
    replace h := jgd_of h; obtain ⟨hb1, h⟩ := h
    replace h := obd_of h; obtain ⟨x2, hx2, h⟩ := h
    refine jr_V6_0 jf_125_8 hb1 (by omega) (r_Chain_rowCount (by omega) _ _ _ hx2) (Nat.le_of_ble_eq_true rfl) jml_111 (Nat.le_of_ble_eq_true rfl) ?_
    replace h := ite_or h; rcases h with ⟨hc, h⟩ | ⟨hc, h⟩
    · refine jr_if2_ge_t jf_125_11 hc ?_
      refine jr_iconst jf_125_53 jc_i_1 ?_
      obtain rfl := Option.some.inj h
      exact jr_retZ (x := true) jf_125_54 jmt_125
    · refine jr_if2_ge_f jf_125_11 hc ?_
      refine jr_aload_n jf_125_14 rfl hl0 ?_
      refine jr_iload jf_125_15 hl4 ?_
      replace h := jgd_of h; obtain ⟨hb3, h⟩ := h
      replace h := obd_of h; obtain ⟨x4, hx4, h⟩ := h
      refine jr_V6_1 jf_125_17 hb3 (by omega) (r_Chain_rowAt (by omega) _ _ _ _ hx4) (Nat.le_of_ble_eq_true rfl) jml_112 (Nat.le_of_ble_eq_true rfl) ?_
      refine jr_astore_A jf_125_20 jml_125 (by decide) ?_
      refine jr_aload_A jf_125_22 jg1_same ?_
      replace h := jon_or h; rcases h with ⟨rfl, h⟩ | ⟨a5, rfl, h⟩
      · refine jr_ifnull_n jf_125_24 ?_
        refine jr_iconst jf_125_37 jc_i_0 ?_
        obtain rfl := Option.some.inj h
        exact jr_retZ (x := false) jf_125_38 jmt_125
      · refine jr_ifnull_s jf_125_24 ?_
        refine jr_aload jf_125_27 jg1_same ?_
        refine jr_aload_n_A jf_125_29 rfl (jg1_ne rfl hl1) ?_
        refine jr_iload_n jf_125_30 rfl (jg1_ne rfl hl3) ?_
        replace h := jgd_of h; obtain ⟨hb6, h⟩ := h
        replace h := obd_of h; obtain ⟨x7, hx7, h⟩ := h
        refine jr_V6_2 jf_125_31 hb6 (by omega) (r_Row_holdsValues (by omega) _ _ _ _ _ hx7) (Nat.le_of_ble_eq_true rfl) jml_126 (by simp only [jcats_cons, jcats_nil, cat_int, cat_long, cat_double, cat_float, cat_ref, rv_cat]; decide) ?_
        replace h := ite_or h; rcases h with ⟨hc, h⟩ | ⟨hc, h⟩
        · refine jr_ifz_ne_t jf_125_34 hc ?_
          refine jr_iload_n jf_125_39 rfl (jg1_ne rfl hl3) ?_
          refine jr_aload jf_125_40 jg1_same ?_
          replace h := jgd_of h; obtain ⟨hb8, h⟩ := h
          replace h := obd_of h; obtain ⟨x9, hx9, h⟩ := h
          refine jr_V6_0 jf_125_42 hb8 (by omega) (r_Row_size (by omega) _ _ _ hx9) (Nat.le_of_ble_eq_true rfl) jml_91 (Nat.le_of_ble_eq_true rfl) ?_
          refine jr_iadd jf_125_45 ?_
          refine jr_istore_n jf_125_46 rfl jml_125 (by decide) ?_
          refine jr_iinc jf_125_47 jc_i_1 jml_125 (by decide) (jg1_ne rfl (jg1_pre rfl hl4)) ?_
          refine jr_goto jf_125_50 ?_
          exact ih _ _ _ _ _ _ _ (jg1_ne rfl (jg1_ne rfl (jg1_ne rfl hl0))) (jg1_ne rfl (jg1_ne rfl (jg1_ne rfl hl1))) (jg1_pre rfl jg1_same) jg1_same h
        · refine jr_ifz_ne_f jf_125_34 hc ?_
          refine jr_iconst jf_125_37 jc_i_0 ?_
          obtain rfl := Option.some.inj h
          exact jr_retZ (x := false) jf_125_38 jmt_125
set_option maxRecDepth 10000 in
set_option maxHeartbeats 4000000 in
theorem r_Chain_holdsValues_e {N B : Nat} {SA : Nat → Nat} {d : Nat} (hd : 3 ≤ d) : ∀ (L : JLoc) (v0 : Nat) (v1 : Option Nat) (v2 : Int32) (μ : JMem) (r : Bool), jget L 0 = .ref v0 → jget L 1 = rv v1 → jget L 2 = .int v2 → g_Chain_holdsValues N v0 v1 v2 μ.1 = some r → jR B SA d m_Chain_holdsValues 0 L [] μ (some (.int (jb r))) μ := by
  intro L v0 v1 v2 μ r hl0 hl1 hl2 h
  unfold g_Chain_holdsValues at h
  refine jr_iload_n jf_125_0 rfl hl2 ?_
  refine jr_istore_n jf_125_1 rfl jml_125 (by decide) ?_
  refine jr_iconst jf_125_2 jc_i_0 ?_
  refine jr_istore jf_125_3 jml_125 (by decide) ?_
  exact r_Chain_holdsValues_5 hd _ _ _ _ _ _ _ _ (jg1_ne rfl (jg1_ne rfl hl0)) (jg1_ne rfl (jg1_ne rfl hl1)) (jg1_pre rfl jg1_same) jg1_same h
set_option maxRecDepth 10000 in
set_option maxHeartbeats 4000000 in
theorem r_Chain_holdsValues {N B : Nat} {SA : Nat → Nat} {d : Nat} (hd : 3 ≤ d) : ∀ (v0 : Nat) (v1 : Option Nat) (v2 : Int32) (μ : JMem) (r : Bool), g_Chain_holdsValues N v0 v1 v2 μ.1 = some r → jR B SA d m_Chain_holdsValues 0 (lv_args 0 [.ref v0, rv v1, .int v2]) [] μ (some (.int (jb r))) μ := by
  intro v0 v1 v2 μ r h
  exact r_Chain_holdsValues_e hd (lv_args 0 _) _ _ _ _ _ (by simp [lv_args, jget, rv_cat, cat_int, cat_long, cat_double, cat_float, cat_ref]) (by simp [lv_args, jget, rv_cat, cat_int, cat_long, cat_double, cat_float, cat_ref]) (by simp [lv_args, jget, rv_cat, cat_int, cat_long, cat_double, cat_float, cat_ref]) h
/-! FilterBench.same(I)Z -/
set_option maxRecDepth 10000 in
set_option maxHeartbeats 4000000 in
theorem r_B_same_25 {N B : Nat} {SA : Nat → Nat} {d : Nat} (hd : 4 ≤ d) : ∀ (n : Nat), ∀ (L : JLoc) (v0 : Nat) (v2 : Nat) (v3 : Int32) (v4 : Int32) (μ : JMem) (r : Bool) (μ9 : JMem), jget L 0 = .ref v0 → jget L 2 = .ref v2 → jget L 3 = .int v3 → jget L 4 = .int v4 → g_B_same_25 N B n v0 v2 v3 v4 μ = some (r, μ9) → jR B SA d m_B_same 25 L [] μ (some (.int (jb r))) μ9 := by
  intro n
  induction n with
  | zero =>
    intro L v0 v2 v3 v4 μ r μ9 hl0 hl2 hl3 hl4 h
    unfold g_B_same_25 at h
    cases h
  | succ n ih =>
    intro L v0 v2 v3 v4 μ r μ9 hl0 hl2 hl3 hl4 h
    unfold g_B_same_25 at h
    refine jr_iload jf_124_25 hl4 ?_
    refine jr_aload_n jf_124_27 rfl hl2 ?_
    replace h := jgd_of h; obtain ⟨hb1, h⟩ := h
    replace h := obd_of h; obtain ⟨x2, hx2, h⟩ := h
    refine jr_V6_0 jf_124_28 hb1 (by omega) (r_Kept_chainCount (by omega) _ _ _ hx2) (Nat.le_of_ble_eq_true rfl) jml_120 (Nat.le_of_ble_eq_true rfl) ?_
    replace h := ite_or h; rcases h with ⟨hc, h⟩ | ⟨hc, h⟩
    · refine jr_if2_ge_t jf_124_31 hc ?_
      refine jr_iconst jf_124_93 jc_i_1 ?_
      obtain ⟨rfl, rfl⟩ := Prod.mk.inj (Option.some.inj h)
      exact jr_retZ (x := true) jf_124_94 jmt_124
    · refine jr_if2_ge_f jf_124_31 hc ?_
      refine jr_iload jf_124_34 hl4 ?_
      refine jr_aload_n jf_124_36 rfl hl0 ?_
      replace h := obd_of h; obtain ⟨x3, hx3, h⟩ := h
      refine jr_getA jf_124_37 hx3 ?_
      replace h := obd_of h; obtain ⟨a4, rfl, h⟩ := h
      replace h := obd_of h; obtain ⟨x5, hx5, h⟩ := h
      refine jr_arraylength jf_124_40 hx5 ?_
      replace h := ite_or h; rcases h with ⟨hc, h⟩ | ⟨hc, h⟩
      · refine jr_if2_ge_t jf_124_41 hc ?_
        refine jr_iconst jf_124_93 jc_i_1 ?_
        obtain ⟨rfl, rfl⟩ := Prod.mk.inj (Option.some.inj h)
        exact jr_retZ (x := true) jf_124_94 jmt_124
      · refine jr_if2_ge_f jf_124_41 hc ?_
        refine jr_aload_n jf_124_44 rfl hl0 ?_
        replace h := obd_of h; obtain ⟨x6, hx6, h⟩ := h
        refine jr_getA jf_124_45 hx6 ?_
        refine jr_iload jf_124_48 hl4 ?_
        replace h := obd_of h; obtain ⟨a7, rfl, h⟩ := h
        replace h := obd_of h; obtain ⟨x8, hx8, h⟩ := h
        refine jr_aaload jf_124_50 hx8 ?_
        replace h := jon_or h; rcases h with ⟨rfl, h⟩ | ⟨a9, rfl, h⟩
        · refine jr_ifnull_n jf_124_51 ?_
          refine jr_iconst jf_124_72 jc_i_0 ?_
          obtain ⟨rfl, rfl⟩ := Prod.mk.inj (Option.some.inj h)
          exact jr_retZ (x := false) jf_124_73 jmt_124
        · refine jr_ifnull_s jf_124_51 ?_
          refine jr_aload_n jf_124_54 rfl hl0 ?_
          replace h := obd_of h; obtain ⟨x10, hx10, h⟩ := h
          refine jr_getA jf_124_55 hx10 ?_
          refine jr_iload jf_124_58 hl4 ?_
          replace h := obd_of h; obtain ⟨a11, rfl, h⟩ := h
          replace h := obd_of h; obtain ⟨x12, hx12, h⟩ := h
          refine jr_aaload jf_124_60 hx12 ?_
          refine jr_aload_n jf_124_61 rfl hl2 ?_
          replace h := obd_of h; obtain ⟨x13, hx13, h⟩ := h
          refine jr_getA jf_124_62 hx13 ?_
          refine jr_iload_n jf_124_65 rfl hl3 ?_
          replace h := obd_of h; obtain ⟨a14, rfl, h⟩ := h
          replace h := jgd_of h; obtain ⟨hb15, h⟩ := h
          replace h := obd_of h; obtain ⟨x16, hx16, h⟩ := h
          refine jr_V6_2 jf_124_66 hb15 (by omega) (r_Chain_holdsValues (by omega) _ _ _ _ _ hx16) (Nat.le_of_ble_eq_true rfl) jml_125 (by simp only [jcats_cons, jcats_nil, cat_int, cat_long, cat_double, cat_float, cat_ref, rv_cat]; decide) ?_
          replace h := ite_or h; rcases h with ⟨hc, h⟩ | ⟨hc, h⟩
          · refine jr_ifz_ne_t jf_124_69 hc ?_
            refine jr_iload_n jf_124_74 rfl hl3 ?_
            refine jr_aload_n jf_124_75 rfl hl0 ?_
            replace h := obd_of h; obtain ⟨x17, hx17, h⟩ := h
            refine jr_getA jf_124_76 hx17 ?_
            refine jr_iload jf_124_79 hl4 ?_
            replace h := obd_of h; obtain ⟨a18, rfl, h⟩ := h
            replace h := obd_of h; obtain ⟨x19, hx19, h⟩ := h
            refine jr_aaload jf_124_81 hx19 ?_
            replace h := obd_of h; obtain ⟨a20, rfl, h⟩ := h
            replace h := jgd_of h; obtain ⟨hb21, h⟩ := h
            replace h := obd_of h; obtain ⟨x22, hx22, h⟩ := h
            refine jr_V6_0 jf_124_82 hb21 (by omega) (r_Chain_valueCount (by omega) _ _ _ hx22) (Nat.le_of_ble_eq_true rfl) jml_110 (Nat.le_of_ble_eq_true rfl) ?_
            refine jr_iadd jf_124_85 ?_
            refine jr_istore_n jf_124_86 rfl jml_124 (by decide) ?_
            refine jr_iinc jf_124_87 jc_i_1 jml_124 (by decide) (jg1_ne rfl hl4) ?_
            refine jr_goto jf_124_90 ?_
            exact ih _ _ _ _ _ _ _ _ (jg1_ne rfl (jg1_ne rfl hl0)) (jg1_ne rfl (jg1_pre (by first | rfl | exact rv_cat _) hl2)) (jg1_pre rfl jg1_same) jg1_same h
          · refine jr_ifz_ne_f jf_124_69 hc ?_
            refine jr_iconst jf_124_72 jc_i_0 ?_
            obtain ⟨rfl, rfl⟩ := Prod.mk.inj (Option.some.inj h)
            exact jr_retZ (x := false) jf_124_73 jmt_124
set_option maxRecDepth 10000 in
set_option maxHeartbeats 4000000 in
theorem r_B_same_e {N B : Nat} {SA : Nat → Nat} {d : Nat} (hd : 4 ≤ d) : ∀ (L : JLoc) (v0 : Nat) (v1 : Int32) (μ : JMem) (r : Bool) (μ9 : JMem), jget L 0 = .ref v0 → jget L 1 = .int v1 → g_B_same N B v0 v1 μ = some (r, μ9) → jR B SA d m_B_same 0 L [] μ (some (.int (jb r))) μ9 := by
  intro L v0 v1 μ r μ9 hl0 hl1 h
  unfold g_B_same at h
  refine jr_aload_n jf_124_0 rfl hl0 ?_
  refine jr_iload_n jf_124_1 rfl hl1 ?_
  replace h := jgd_of h; obtain ⟨hb1, h⟩ := h
  replace h := obd_of h; obtain ⟨x2, hx2, h⟩ := h
  refine jr_V6_1 jf_124_2 hb1 (by omega) (r_B_keptAt (by omega) _ _ _ _ hx2) (Nat.le_of_ble_eq_true rfl) jml_118 (Nat.le_of_ble_eq_true rfl) ?_
  refine jr_astore_n_A jf_124_5 rfl jml_124 (by decide) ?_
  refine jr_aload_n_A jf_124_6 rfl jg1_same ?_
  replace h := jon_or h; rcases h with ⟨rfl, h⟩ | ⟨a3, rfl, h⟩
  · refine jr_ifnull_n jf_124_7 ?_
    refine jr_iconst jf_124_18 jc_i_0 ?_
    obtain ⟨rfl, rfl⟩ := Prod.mk.inj (Option.some.inj h)
    exact jr_retZ (x := false) jf_124_19 jmt_124
  · refine jr_ifnull_s jf_124_7 ?_
    refine jr_aload_n jf_124_10 rfl (jg1_ne rfl hl0) ?_
    refine jr_aload_n jf_124_11 rfl jg1_same ?_
    replace h := jgd_of h; obtain ⟨hb4, h⟩ := h
    replace h := jbd2_of h; obtain ⟨x5, μ6, hx5, h⟩ := h
    refine jr_V6_1 jf_124_12 hb4 (by omega) (r_B_gatherAsKept (by omega) _ _ _ _ _ hx5) (Nat.le_of_ble_eq_true rfl) jml_119 (by simp only [jcats_cons, jcats_nil, cat_int, cat_long, cat_double, cat_float, cat_ref, rv_cat]; decide) ?_
    replace h := ite_or h; rcases h with ⟨hc, h⟩ | ⟨hc, h⟩
    · refine jr_ifz_ne_t jf_124_15 hc ?_
      refine jr_iconst jf_124_20 jc_i_0 ?_
      refine jr_istore_n jf_124_21 rfl jml_124 (by decide) ?_
      refine jr_iconst jf_124_22 jc_i_0 ?_
      refine jr_istore jf_124_23 jml_124 (by decide) ?_
      exact r_B_same_25 hd _ _ _ _ _ _ _ _ _ (jg1_ne rfl (jg1_ne rfl (jg1_ne rfl hl0))) (jg1_ne rfl (jg1_pre (by first | rfl | exact rv_cat _) jg1_same)) (jg1_pre rfl jg1_same) jg1_same h
    · refine jr_ifz_ne_f jf_124_15 hc ?_
      refine jr_iconst jf_124_18 jc_i_0 ?_
      obtain ⟨rfl, rfl⟩ := Prod.mk.inj (Option.some.inj h)
      exact jr_retZ (x := false) jf_124_19 jmt_124
set_option maxRecDepth 10000 in
set_option maxHeartbeats 4000000 in
theorem r_B_same {N B : Nat} {SA : Nat → Nat} {d : Nat} (hd : 4 ≤ d) : ∀ (v0 : Nat) (v1 : Int32) (μ : JMem) (r : Bool) (μ9 : JMem), g_B_same N B v0 v1 μ = some (r, μ9) → jR B SA d m_B_same 0 (lv_args 0 [.ref v0, .int v1]) [] μ (some (.int (jb r))) μ9 := by
  intro v0 v1 μ r μ9 h
  exact r_B_same_e hd (lv_args 0 _) _ _ _ _ _ (by simp [lv_args, jget, rv_cat, cat_int, cat_long, cat_double, cat_float, cat_ref]) (by simp [lv_args, jget, rv_cat, cat_int, cat_long, cat_double, cat_float, cat_ref]) h
/-! FilterBench$Real.taken(LFilterBench$Real;J)J -/
set_option maxRecDepth 10000 in
set_option maxHeartbeats 4000000 in
theorem r_Real_taken_66 {B : Nat} {SA : Nat → Nat} {d : Nat} (hd : 2 ≤ d) : ∀ (L : JLoc) (s0 : Int64) (s1 : Bool) (s2 : Nat) (μ : JMem) (r : Int64), g_Real_taken_66 s0 s1 s2 μ.1 = some r → jR B SA d m_Real_taken 66 L [.long s0, .int (jb s1), .ref s2] μ (some (.long r)) μ := by
  intro L s0 s1 s2 μ r h
  unfold g_Real_taken_66 at h
  replace h := jgd_of h; obtain ⟨hb1, h⟩ := h
  replace h := obd_of h; obtain ⟨x2, hx2, h⟩ := h
  refine jr_V6_2 jf_134_66 hb1 (by omega) (r_Real_signed (by omega) _ _ _ _ _ hx2) (Nat.le_of_ble_eq_true rfl) jml_55 (Nat.le_of_ble_eq_true rfl) ?_
  obtain rfl := Option.some.inj h
  exact jr_retJ jf_134_69 jmt_134
set_option maxRecDepth 10000 in
set_option maxHeartbeats 4000000 in
theorem r_Real_taken_51 {B : Nat} {SA : Nat → Nat} {d : Nat} (hd : 2 ≤ d) : ∀ (L : JLoc) (v0 : Nat) (v4 : Int64) (s0 : Bool) (s1 : Nat) (μ : JMem) (r : Int64), jget L 0 = .ref v0 → jget L 4 = .long v4 → g_Real_taken_51 v0 v4 s0 s1 μ.1 = some r → jR B SA d m_Real_taken 51 L [.int (jb s0), .ref s1] μ (some (.long r)) μ := by
  intro L v0 v4 s0 s1 μ r hl0 hl4 h
  unfold g_Real_taken_51 at h
  refine jr_lload jf_134_51 hl4 ?_
  refine jr_lconst0 jf_134_53 ?_
  refine jr_lcmp jf_134_54 ?_
  replace h := ite_or h; rcases h with ⟨hc, h⟩ | ⟨hc, h⟩
  · refine jr_ifl_ne_f jf_134_55 hc ?_
    refine jr_lconst0 jf_134_58 ?_
    refine jr_goto jf_134_59 ?_
    exact r_Real_taken_66 hd _ _ _ _ _ _ h
  · refine jr_ifl_ne_t jf_134_55 hc ?_
    refine jr_aload_n jf_134_62 rfl hl0 ?_
    replace h := obd_of h; obtain ⟨x1, hx1, h⟩ := h
    refine jr_getJ jf_134_63 hx1 ?_
    exact r_Real_taken_66 hd _ _ _ _ _ _ h
set_option maxRecDepth 10000 in
set_option maxHeartbeats 4000000 in
theorem r_Real_taken_39 {B : Nat} {SA : Nat → Nat} {d : Nat} (hd : 2 ≤ d) : ∀ (L : JLoc) (v0 : Nat) (v2 : Int64) (v4 : Int64) (μ : JMem) (r : Int64), jget L 0 = .ref v0 → jget L 2 = .long v2 → jget L 4 = .long v4 → g_Real_taken_39 v0 v2 v4 μ.1 = some r → jR B SA d m_Real_taken 39 L [] μ (some (.long r)) μ := by
  intro L v0 v2 v4 μ r hl0 hl2 hl4 h
  unfold g_Real_taken_39 at h
  refine jr_aload_n jf_134_39 rfl hl0 ?_
  refine jr_lload_n jf_134_40 rfl hl2 ?_
  refine jr_lconst0 jf_134_41 ?_
  refine jr_lcmp jf_134_42 ?_
  replace h := ite_or h; rcases h with ⟨hc, h⟩ | ⟨hc, h⟩
  · refine jr_ifl_ge_t jf_134_43 hc ?_
    refine jr_iconst jf_134_50 jc_i_0 ?_
    exact r_Real_taken_51 hd _ _ _ false _ _ _ hl0 hl4 h
  · refine jr_ifl_ge_f jf_134_43 hc ?_
    refine jr_iconst jf_134_46 jc_i_1 ?_
    refine jr_goto jf_134_47 ?_
    exact r_Real_taken_51 hd _ _ _ true _ _ _ hl0 hl4 h
set_option maxRecDepth 10000 in
set_option maxHeartbeats 4000000 in
theorem r_Real_taken_82 {B : Nat} {SA : Nat → Nat} {d : Nat} (hd : 2 ≤ d) : ∀ (L : JLoc) (v1 : Nat) (v4 : Int64) (s0 : Bool) (s1 : Nat) (μ : JMem) (r : Int64), jget L 1 = .ref v1 → jget L 4 = .long v4 → g_Real_taken_82 v1 v4 s0 s1 μ.1 = some r → jR B SA d m_Real_taken 82 L [.int (jb s0), .ref s1] μ (some (.long r)) μ := by
  intro L v1 v4 s0 s1 μ r hl1 hl4 h
  unfold g_Real_taken_82 at h
  refine jr_aload_n jf_134_82 rfl hl1 ?_
  refine jr_lload jf_134_83 hl4 ?_
  replace h := jgd_of h; obtain ⟨hb1, h⟩ := h
  replace h := obd_of h; obtain ⟨x2, hx2, h⟩ := h
  refine jr_V6_1 jf_134_85 hb1 (by omega) (r_Real_exponent (by omega) _ _ _ _ hx2) (Nat.le_of_ble_eq_true rfl) jml_58 (Nat.le_of_ble_eq_true rfl) ?_
  refine jr_aload_n jf_134_88 rfl hl1 ?_
  refine jr_lload jf_134_89 hl4 ?_
  replace h := jgd_of h; obtain ⟨hb3, h⟩ := h
  replace h := obd_of h; obtain ⟨x4, hx4, h⟩ := h
  refine jr_V6_1 jf_134_91 hb3 (by omega) (r_Real_mantissa (by omega) _ _ _ _ hx4) (Nat.le_of_ble_eq_true rfl) jml_56 (Nat.le_of_ble_eq_true rfl) ?_
  replace h := jgd_of h; obtain ⟨hb5, h⟩ := h
  replace h := obd_of h; obtain ⟨x6, hx6, h⟩ := h
  refine jr_V6_3 jf_134_94 hb5 (by omega) (r_Real_packed (by omega) _ _ _ _ _ _ hx6) (Nat.le_of_ble_eq_true rfl) jml_60 (Nat.le_of_ble_eq_true rfl) ?_
  obtain rfl := Option.some.inj h
  exact jr_retJ jf_134_97 jmt_134
set_option maxRecDepth 10000 in
set_option maxHeartbeats 4000000 in
theorem r_Real_taken_e {B : Nat} {SA : Nat → Nat} {d : Nat} (hd : 2 ≤ d) : ∀ (L : JLoc) (v0 : Nat) (v1 : Option Nat) (v2 : Int64) (μ : JMem) (r : Int64), jget L 0 = .ref v0 → jget L 1 = rv v1 → jget L 2 = .long v2 → g_Real_taken v0 v1 v2 μ.1 = some r → jR B SA d m_Real_taken 0 L [] μ (some (.long r)) μ := by
  intro L v0 v1 v2 μ r hl0 hl1 hl2 h
  unfold g_Real_taken at h
  refine jr_aload_n_A jf_134_0 rfl hl1 ?_
  refine jr_lload_n jf_134_1 rfl hl2 ?_
  replace h := obd_of h; obtain ⟨a1, rfl, h⟩ := h
  replace h := jgd_of h; obtain ⟨hb2, h⟩ := h
  replace h := obd_of h; obtain ⟨x3, hx3, h⟩ := h
  refine jr_V6_1 jf_134_2 hb2 (by omega) (r_Real_sizeOf (by omega) _ _ _ _ hx3) (Nat.le_of_ble_eq_true rfl) jml_54 (Nat.le_of_ble_eq_true rfl) ?_
  refine jr_lstore jf_134_5 jml_134 (by decide) ?_
  refine jr_lload jf_134_7 jg2_same ?_
  refine jr_aload_n jf_134_9 rfl (jg2_ne rfl hl1) ?_
  replace h := obd_of h; obtain ⟨x4, hx4, h⟩ := h
  refine jr_getJ jf_134_10 hx4 ?_
  refine jr_lcmp jf_134_13 ?_
  replace h := ite_or h; rcases h with ⟨hc, h⟩ | ⟨hc, h⟩
  · refine jr_ifl_le_t jf_134_14 hc ?_
    refine jr_lload jf_134_22 jg2_same ?_
    refine jr_lconst0 jf_134_24 ?_
    refine jr_lcmp jf_134_25 ?_
    replace h := ite_or h; rcases h with ⟨hc, h⟩ | ⟨hc, h⟩
    · refine jr_ifl_eq_t jf_134_26 hc ?_
      exact r_Real_taken_39 hd _ _ _ _ _ _ (jg2_ne rfl hl0) (jg2_ne rfl hl2) jg2_same h
    · refine jr_ifl_eq_f jf_134_26 hc ?_
      refine jr_lload jf_134_29 jg2_same ?_
      refine jr_aload_n jf_134_31 rfl (jg2_ne rfl hl1) ?_
      replace h := obd_of h; obtain ⟨x5, hx5, h⟩ := h
      refine jr_getJ jf_134_32 hx5 ?_
      refine jr_lcmp jf_134_35 ?_
      replace h := ite_or h; rcases h with ⟨hc, h⟩ | ⟨hc, h⟩
      · refine jr_ifl_ne_f jf_134_36 hc ?_
        exact r_Real_taken_39 hd _ _ _ _ _ _ (jg2_ne rfl hl0) (jg2_ne rfl hl2) jg2_same h
      · refine jr_ifl_ne_t jf_134_36 hc ?_
        refine jr_aload_n jf_134_70 rfl (jg2_ne rfl hl0) ?_
        refine jr_lload_n jf_134_71 rfl (jg2_ne rfl hl2) ?_
        refine jr_lconst0 jf_134_72 ?_
        refine jr_lcmp jf_134_73 ?_
        replace h := ite_or h; rcases h with ⟨hc, h⟩ | ⟨hc, h⟩
        · refine jr_ifl_ge_t jf_134_74 hc ?_
          refine jr_iconst jf_134_81 jc_i_0 ?_
          exact r_Real_taken_82 hd _ _ _ false _ _ _ (jg2_ne rfl hl1) jg2_same h
        · refine jr_ifl_ge_f jf_134_74 hc ?_
          refine jr_iconst jf_134_77 jc_i_1 ?_
          refine jr_goto jf_134_78 ?_
          exact r_Real_taken_82 hd _ _ _ true _ _ _ (jg2_ne rfl hl1) jg2_same h
  · refine jr_ifl_le_f jf_134_14 hc ?_
    refine jr_aload_n jf_134_17 rfl (jg2_ne rfl hl0) ?_
    replace h := obd_of h; obtain ⟨x6, hx6, h⟩ := h
    refine jr_getJ jf_134_18 hx6 ?_
    obtain rfl := Option.some.inj h
    exact jr_retJ jf_134_21 jmt_134
set_option maxRecDepth 10000 in
set_option maxHeartbeats 4000000 in
theorem r_Real_taken {B : Nat} {SA : Nat → Nat} {d : Nat} (hd : 2 ≤ d) : ∀ (v0 : Nat) (v1 : Option Nat) (v2 : Int64) (μ : JMem) (r : Int64), g_Real_taken v0 v1 v2 μ.1 = some r → jR B SA d m_Real_taken 0 (lv_args 0 [.ref v0, rv v1, .long v2]) [] μ (some (.long r)) μ := by
  intro v0 v1 v2 μ r h
  exact r_Real_taken_e hd (lv_args 0 _) _ _ _ _ _ (by simp [lv_args, jget, rv_cat, cat_int, cat_long, cat_double, cat_float, cat_ref]) (by simp [lv_args, jget, rv_cat, cat_int, cat_long, cat_double, cat_float, cat_ref]) (by simp [lv_args, jget, rv_cat, cat_int, cat_long, cat_double, cat_float, cat_ref]) h
