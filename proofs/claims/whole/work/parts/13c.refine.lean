/-! the machine refines the functions (printed by wip/whole/dec.py) -/
/-! FilterBench$Section.turned(J)J -/
set_option maxRecDepth 10000 in
set_option maxHeartbeats 4000000 in
theorem r_Section_turned_e {B : Nat} {SA : Nat → Nat} {d : Nat} (hd : 4 ≤ d) : ∀ (L : JLoc) (v0 : Nat) (v1 : Int64) (μ : JMem) (r : Int64) (μ9 : JMem), jget L 0 = .ref v0 → jget L 1 = .long v1 → g_Section_turned B v0 v1 μ = some (r, μ9) → jR B SA d m_Section_turned 0 L [] μ (some (.long r)) μ9 := by
  intro L v0 v1 μ r μ9 hl0 hl1 h
  unfold g_Section_turned at h
  refine jr_aload_n jf_95_0 rfl hl0 ?_
  refine jr_aload_n jf_95_1 rfl hl0 ?_
  replace h := obd_of h; obtain ⟨x1, hx1, h⟩ := h
  refine jr_getA jf_95_2 hx1 ?_
  refine jr_aload_n jf_95_5 rfl hl0 ?_
  refine jr_iconst jf_95_6 jc_i_0 ?_
  refine jr_lload_n jf_95_7 rfl hl1 ?_
  replace h := jgd_of h; obtain ⟨hb2, h⟩ := h
  replace h := obd_of h; obtain ⟨x3, hx3, h⟩ := h
  refine jr_V6_2 jf_95_8 hb2 (by omega) (r_Section_times (by omega) _ _ _ _ _ hx3) (by simp only [jcats_cons, jcats_nil, cat_int, cat_long, cat_double, cat_float, cat_ref, rv_cat]; decide) jml_87 (Nat.le_of_ble_eq_true rfl) ?_
  refine jr_aload_n jf_95_11 rfl hl0 ?_
  replace h := obd_of h; obtain ⟨x4, hx4, h⟩ := h
  refine jr_getA jf_95_12 hx4 ?_
  refine jr_aload_n jf_95_15 rfl hl0 ?_
  replace h := obd_of h; obtain ⟨x5, hx5, h⟩ := h
  refine jr_getA jf_95_16 hx5 ?_
  refine jr_iconst jf_95_19 jc_i_0 ?_
  replace h := obd_of h; obtain ⟨a6, rfl, h⟩ := h
  replace h := jgd_of h; obtain ⟨hb7, h⟩ := h
  replace h := obd_of h; obtain ⟨x8, hx8, h⟩ := h
  refine jr_V6_1 jf_95_20 hb7 (by omega) (r_Row_at (by omega) _ _ _ _ hx8) (by simp only [jcats_cons, jcats_nil, cat_int, cat_long, cat_double, cat_float, cat_ref, rv_cat]; decide) jml_38 (Nat.le_of_ble_eq_true rfl) ?_
  replace h := obd_of h; obtain ⟨a9, rfl, h⟩ := h
  replace h := obd_of h; obtain ⟨x10, hx10, h⟩ := h
  rcases ite_or hx10 with ⟨hb, hx⟩ | ⟨hb0, hx⟩
  · obtain hx := Option.some.inj hx
    refine jr_V8a_1 jf_95_23 hb (by omega) (r_Real_term (by omega) _ _ _ _ hx) (by simp only [jcats_cons, jcats_nil, cat_int, cat_long, cat_double, cat_float, cat_ref, rv_cat]; decide) jml_72 (Nat.le_of_ble_eq_true rfl) ?_
    replace h := obd_of h; obtain ⟨a11, rfl, h⟩ := h
    replace h := obd_of h; obtain ⟨x12, hx12, h⟩ := h
    rcases ite_or hx12 with ⟨hb, hx⟩ | ⟨hb0, hx⟩
    · refine jr_V8a_2 jf_95_26 hb (by omega) (r_Real_plus (by omega) _ _ _ _ _ hx) (Nat.le_of_ble_eq_true rfl) jml_74 (Nat.le_of_ble_eq_true rfl) ?_
      replace h := jgd_of h; obtain ⟨hb13, h⟩ := h
      replace h := jbd2_of h; obtain ⟨x14, μ15, hx14, h⟩ := h
      refine jr_V6_1 jf_95_29 hb13 (by omega) (r_Section_settled (by omega) _ _ _ _ _ hx14) (Nat.le_of_ble_eq_true rfl) jml_79 (Nat.le_of_ble_eq_true rfl) ?_
      refine jr_lstore_n jf_95_32 rfl jml_95 (by decide) ?_
      refine jr_aload_n jf_95_33 rfl (jg2_ne rfl hl0) ?_
      replace h := obd_of h; obtain ⟨x16, hx16, h⟩ := h
      refine jr_getA jf_95_34 hx16 ?_
      refine jr_aload_n jf_95_37 rfl (jg2_ne rfl hl0) ?_
      refine jr_iconst jf_95_38 jc_i_1 ?_
      refine jr_lload_n jf_95_39 rfl (jg2_ne rfl hl1) ?_
      replace h := jgd_of h; obtain ⟨hb17, h⟩ := h
      replace h := obd_of h; obtain ⟨x18, hx18, h⟩ := h
      refine jr_V6_2 jf_95_40 hb17 (by omega) (r_Section_times (by omega) _ _ _ _ _ hx18) (by simp only [jcats_cons, jcats_nil, cat_int, cat_long, cat_double, cat_float, cat_ref, rv_cat]; decide) jml_87 (Nat.le_of_ble_eq_true rfl) ?_
      refine jr_aload_n jf_95_43 rfl (jg2_ne rfl hl0) ?_
      refine jr_iconst jf_95_44 jc_i_3 ?_
      refine jr_lload_n jf_95_45 rfl jg2_same ?_
      replace h := jgd_of h; obtain ⟨hb19, h⟩ := h
      replace h := obd_of h; obtain ⟨x20, hx20, h⟩ := h
      refine jr_V6_2 jf_95_46 hb19 (by omega) (r_Section_lessTimes (by omega) _ _ _ _ _ hx20) (by simp only [jcats_cons, jcats_nil, cat_int, cat_long, cat_double, cat_float, cat_ref, rv_cat]; decide) jml_90 (Nat.le_of_ble_eq_true rfl) ?_
      replace h := obd_of h; obtain ⟨a21, rfl, h⟩ := h
      replace h := obd_of h; obtain ⟨x22, hx22, h⟩ := h
      rcases ite_or hx22 with ⟨hb, hx⟩ | ⟨hb0, hx⟩
      · refine jr_V8a_2 jf_95_49 hb (by omega) (r_Real_plus (by omega) _ _ _ _ _ hx) (Nat.le_of_ble_eq_true rfl) jml_74 (Nat.le_of_ble_eq_true rfl) ?_
        refine jr_lstore jf_95_52 jml_95 (by decide) ?_
        refine jr_aload_n jf_95_54 rfl (jg2_ne rfl (jg2_ne rfl hl0)) ?_
        replace h := obd_of h; obtain ⟨x23, hx23, h⟩ := h
        refine jr_getA jf_95_55 hx23 ?_
        refine jr_iconst jf_95_58 jc_i_0 ?_
        refine jr_aload_n jf_95_59 rfl (jg2_ne rfl (jg2_ne rfl hl0)) ?_
        refine jr_aload_n jf_95_60 rfl (jg2_ne rfl (jg2_ne rfl hl0)) ?_
        replace h := obd_of h; obtain ⟨x24, hx24, h⟩ := h
        refine jr_getA jf_95_61 hx24 ?_
        refine jr_lload jf_95_64 jg2_same ?_
        refine jr_aload_n jf_95_66 rfl (jg2_ne rfl (jg2_ne rfl hl0)) ?_
        replace h := obd_of h; obtain ⟨x25, hx25, h⟩ := h
        refine jr_getA jf_95_67 hx25 ?_
        refine jr_aload_n jf_95_70 rfl (jg2_ne rfl (jg2_ne rfl hl0)) ?_
        replace h := obd_of h; obtain ⟨x26, hx26, h⟩ := h
        refine jr_getA jf_95_71 hx26 ?_
        refine jr_iconst jf_95_74 jc_i_1 ?_
        replace h := obd_of h; obtain ⟨a27, rfl, h⟩ := h
        replace h := jgd_of h; obtain ⟨hb28, h⟩ := h
        replace h := obd_of h; obtain ⟨x29, hx29, h⟩ := h
        refine jr_V6_1 jf_95_75 hb28 (by omega) (r_Row_at (by omega) _ _ _ _ hx29) (by simp only [jcats_cons, jcats_nil, cat_int, cat_long, cat_double, cat_float, cat_ref, rv_cat]; decide) jml_38 (Nat.le_of_ble_eq_true rfl) ?_
        replace h := obd_of h; obtain ⟨a30, rfl, h⟩ := h
        replace h := obd_of h; obtain ⟨x31, hx31, h⟩ := h
        rcases ite_or hx31 with ⟨hb, hx⟩ | ⟨hb0, hx⟩
        · obtain hx := Option.some.inj hx
          refine jr_V8a_1 jf_95_78 hb (by omega) (r_Real_term (by omega) _ _ _ _ hx) (by simp only [jcats_cons, jcats_nil, cat_int, cat_long, cat_double, cat_float, cat_ref, rv_cat]; decide) jml_72 (Nat.le_of_ble_eq_true rfl) ?_
          replace h := obd_of h; obtain ⟨a32, rfl, h⟩ := h
          replace h := obd_of h; obtain ⟨x33, hx33, h⟩ := h
          rcases ite_or hx33 with ⟨hb, hx⟩ | ⟨hb0, hx⟩
          · refine jr_V8a_2 jf_95_81 hb (by omega) (r_Real_plus (by omega) _ _ _ _ _ hx) (by simp only [jcats_cons, jcats_nil, cat_int, cat_long, cat_double, cat_float, cat_ref, rv_cat]; decide) jml_74 (Nat.le_of_ble_eq_true rfl) ?_
            replace h := jgd_of h; obtain ⟨hb34, h⟩ := h
            replace h := jbd2_of h; obtain ⟨x35, μ36, hx35, h⟩ := h
            refine jr_V6_1 jf_95_84 hb34 (by omega) (r_Section_settled (by omega) _ _ _ _ _ hx35) (by simp only [jcats_cons, jcats_nil, cat_int, cat_long, cat_double, cat_float, cat_ref, rv_cat]; decide) jml_79 (Nat.le_of_ble_eq_true rfl) ?_
            replace h := obd_of h; obtain ⟨a37, rfl, h⟩ := h
            replace h := jgd_of h; obtain ⟨hb38, h⟩ := h
            replace h := obd_of h; obtain ⟨μ39, hμ39, h⟩ := h
            refine jr_V6v_2 jf_95_87 hb38 (by omega) (r_Row_put (by omega) _ _ _ _ _ hμ39) (Nat.le_of_ble_eq_true rfl) jml_66 (Nat.le_of_ble_eq_true rfl) ?_
            refine jr_aload_n jf_95_90 rfl (jg2_ne rfl (jg2_ne rfl hl0)) ?_
            replace h := obd_of h; obtain ⟨x40, hx40, h⟩ := h
            refine jr_getA jf_95_91 hx40 ?_
            refine jr_iconst jf_95_94 jc_i_1 ?_
            refine jr_aload_n jf_95_95 rfl (jg2_ne rfl (jg2_ne rfl hl0)) ?_
            refine jr_aload_n jf_95_96 rfl (jg2_ne rfl (jg2_ne rfl hl0)) ?_
            replace h := obd_of h; obtain ⟨x41, hx41, h⟩ := h
            refine jr_getA jf_95_97 hx41 ?_
            refine jr_aload_n jf_95_100 rfl (jg2_ne rfl (jg2_ne rfl hl0)) ?_
            refine jr_iconst jf_95_101 jc_i_2 ?_
            refine jr_lload_n jf_95_102 rfl (jg2_ne rfl (jg2_ne rfl hl1)) ?_
            replace h := jgd_of h; obtain ⟨hb42, h⟩ := h
            replace h := obd_of h; obtain ⟨x43, hx43, h⟩ := h
            refine jr_V6_2 jf_95_103 hb42 (by omega) (r_Section_times (by omega) _ _ _ _ _ hx43) (by simp only [jcats_cons, jcats_nil, cat_int, cat_long, cat_double, cat_float, cat_ref, rv_cat]; decide) jml_87 (Nat.le_of_ble_eq_true rfl) ?_
            refine jr_aload_n jf_95_106 rfl (jg2_ne rfl (jg2_ne rfl hl0)) ?_
            refine jr_iconst jf_95_107 jc_i_4 ?_
            refine jr_lload_n jf_95_108 rfl (jg2_ne rfl jg2_same) ?_
            replace h := jgd_of h; obtain ⟨hb44, h⟩ := h
            replace h := obd_of h; obtain ⟨x45, hx45, h⟩ := h
            refine jr_V6_2 jf_95_109 hb44 (by omega) (r_Section_lessTimes (by omega) _ _ _ _ _ hx45) (by simp only [jcats_cons, jcats_nil, cat_int, cat_long, cat_double, cat_float, cat_ref, rv_cat]; decide) jml_90 (Nat.le_of_ble_eq_true rfl) ?_
            replace h := obd_of h; obtain ⟨a46, rfl, h⟩ := h
            replace h := obd_of h; obtain ⟨x47, hx47, h⟩ := h
            rcases ite_or hx47 with ⟨hb, hx⟩ | ⟨hb0, hx⟩
            · refine jr_V8a_2 jf_95_112 hb (by omega) (r_Real_plus (by omega) _ _ _ _ _ hx) (by simp only [jcats_cons, jcats_nil, cat_int, cat_long, cat_double, cat_float, cat_ref, rv_cat]; decide) jml_74 (Nat.le_of_ble_eq_true rfl) ?_
              replace h := jgd_of h; obtain ⟨hb48, h⟩ := h
              replace h := jbd2_of h; obtain ⟨x49, μ50, hx49, h⟩ := h
              refine jr_V6_1 jf_95_115 hb48 (by omega) (r_Section_settled (by omega) _ _ _ _ _ hx49) (by simp only [jcats_cons, jcats_nil, cat_int, cat_long, cat_double, cat_float, cat_ref, rv_cat]; decide) jml_79 (Nat.le_of_ble_eq_true rfl) ?_
              replace h := obd_of h; obtain ⟨a51, rfl, h⟩ := h
              replace h := jgd_of h; obtain ⟨hb52, h⟩ := h
              replace h := obd_of h; obtain ⟨μ53, hμ53, h⟩ := h
              refine jr_V6v_2 jf_95_118 hb52 (by omega) (r_Row_put (by omega) _ _ _ _ _ hμ53) (Nat.le_of_ble_eq_true rfl) jml_66 (Nat.le_of_ble_eq_true rfl) ?_
              refine jr_lload_n jf_95_121 rfl (jg2_ne rfl jg2_same) ?_
              obtain ⟨rfl, rfl⟩ := Prod.mk.inj (Option.some.inj h)
              exact jr_retJ jf_95_122 jmt_95
            · obtain ⟨hb, hx⟩ := jgd_of hx
              obtain hx := Option.some.inj hx
              refine jr_V8b_2 jf_95_112 hb0 hb (by omega) (r_Shorts_plus (by omega) _ _ _ _ _ hx) (by simp only [jcats_cons, jcats_nil, cat_int, cat_long, cat_double, cat_float, cat_ref, rv_cat]; decide) jml_78 (Nat.le_of_ble_eq_true rfl) ?_
              replace h := jgd_of h; obtain ⟨hb48, h⟩ := h
              replace h := jbd2_of h; obtain ⟨x49, μ50, hx49, h⟩ := h
              refine jr_V6_1 jf_95_115 hb48 (by omega) (r_Section_settled (by omega) _ _ _ _ _ hx49) (by simp only [jcats_cons, jcats_nil, cat_int, cat_long, cat_double, cat_float, cat_ref, rv_cat]; decide) jml_79 (Nat.le_of_ble_eq_true rfl) ?_
              replace h := obd_of h; obtain ⟨a51, rfl, h⟩ := h
              replace h := jgd_of h; obtain ⟨hb52, h⟩ := h
              replace h := obd_of h; obtain ⟨μ53, hμ53, h⟩ := h
              refine jr_V6v_2 jf_95_118 hb52 (by omega) (r_Row_put (by omega) _ _ _ _ _ hμ53) (Nat.le_of_ble_eq_true rfl) jml_66 (Nat.le_of_ble_eq_true rfl) ?_
              refine jr_lload_n jf_95_121 rfl (jg2_ne rfl jg2_same) ?_
              obtain ⟨rfl, rfl⟩ := Prod.mk.inj (Option.some.inj h)
              exact jr_retJ jf_95_122 jmt_95
          · obtain ⟨hb, hx⟩ := jgd_of hx
            obtain hx := Option.some.inj hx
            refine jr_V8b_2 jf_95_81 hb0 hb (by omega) (r_Shorts_plus (by omega) _ _ _ _ _ hx) (by simp only [jcats_cons, jcats_nil, cat_int, cat_long, cat_double, cat_float, cat_ref, rv_cat]; decide) jml_78 (Nat.le_of_ble_eq_true rfl) ?_
            replace h := jgd_of h; obtain ⟨hb34, h⟩ := h
            replace h := jbd2_of h; obtain ⟨x35, μ36, hx35, h⟩ := h
            refine jr_V6_1 jf_95_84 hb34 (by omega) (r_Section_settled (by omega) _ _ _ _ _ hx35) (by simp only [jcats_cons, jcats_nil, cat_int, cat_long, cat_double, cat_float, cat_ref, rv_cat]; decide) jml_79 (Nat.le_of_ble_eq_true rfl) ?_
            replace h := obd_of h; obtain ⟨a37, rfl, h⟩ := h
            replace h := jgd_of h; obtain ⟨hb38, h⟩ := h
            replace h := obd_of h; obtain ⟨μ39, hμ39, h⟩ := h
            refine jr_V6v_2 jf_95_87 hb38 (by omega) (r_Row_put (by omega) _ _ _ _ _ hμ39) (Nat.le_of_ble_eq_true rfl) jml_66 (Nat.le_of_ble_eq_true rfl) ?_
            refine jr_aload_n jf_95_90 rfl (jg2_ne rfl (jg2_ne rfl hl0)) ?_
            replace h := obd_of h; obtain ⟨x40, hx40, h⟩ := h
            refine jr_getA jf_95_91 hx40 ?_
            refine jr_iconst jf_95_94 jc_i_1 ?_
            refine jr_aload_n jf_95_95 rfl (jg2_ne rfl (jg2_ne rfl hl0)) ?_
            refine jr_aload_n jf_95_96 rfl (jg2_ne rfl (jg2_ne rfl hl0)) ?_
            replace h := obd_of h; obtain ⟨x41, hx41, h⟩ := h
            refine jr_getA jf_95_97 hx41 ?_
            refine jr_aload_n jf_95_100 rfl (jg2_ne rfl (jg2_ne rfl hl0)) ?_
            refine jr_iconst jf_95_101 jc_i_2 ?_
            refine jr_lload_n jf_95_102 rfl (jg2_ne rfl (jg2_ne rfl hl1)) ?_
            replace h := jgd_of h; obtain ⟨hb42, h⟩ := h
            replace h := obd_of h; obtain ⟨x43, hx43, h⟩ := h
            refine jr_V6_2 jf_95_103 hb42 (by omega) (r_Section_times (by omega) _ _ _ _ _ hx43) (by simp only [jcats_cons, jcats_nil, cat_int, cat_long, cat_double, cat_float, cat_ref, rv_cat]; decide) jml_87 (Nat.le_of_ble_eq_true rfl) ?_
            refine jr_aload_n jf_95_106 rfl (jg2_ne rfl (jg2_ne rfl hl0)) ?_
            refine jr_iconst jf_95_107 jc_i_4 ?_
            refine jr_lload_n jf_95_108 rfl (jg2_ne rfl jg2_same) ?_
            replace h := jgd_of h; obtain ⟨hb44, h⟩ := h
            replace h := obd_of h; obtain ⟨x45, hx45, h⟩ := h
            refine jr_V6_2 jf_95_109 hb44 (by omega) (r_Section_lessTimes (by omega) _ _ _ _ _ hx45) (by simp only [jcats_cons, jcats_nil, cat_int, cat_long, cat_double, cat_float, cat_ref, rv_cat]; decide) jml_90 (Nat.le_of_ble_eq_true rfl) ?_
            replace h := obd_of h; obtain ⟨a46, rfl, h⟩ := h
            replace h := obd_of h; obtain ⟨x47, hx47, h⟩ := h
            rcases ite_or hx47 with ⟨hb, hx⟩ | ⟨hb0, hx⟩
            · refine jr_V8a_2 jf_95_112 hb (by omega) (r_Real_plus (by omega) _ _ _ _ _ hx) (by simp only [jcats_cons, jcats_nil, cat_int, cat_long, cat_double, cat_float, cat_ref, rv_cat]; decide) jml_74 (Nat.le_of_ble_eq_true rfl) ?_
              replace h := jgd_of h; obtain ⟨hb48, h⟩ := h
              replace h := jbd2_of h; obtain ⟨x49, μ50, hx49, h⟩ := h
              refine jr_V6_1 jf_95_115 hb48 (by omega) (r_Section_settled (by omega) _ _ _ _ _ hx49) (by simp only [jcats_cons, jcats_nil, cat_int, cat_long, cat_double, cat_float, cat_ref, rv_cat]; decide) jml_79 (Nat.le_of_ble_eq_true rfl) ?_
              replace h := obd_of h; obtain ⟨a51, rfl, h⟩ := h
              replace h := jgd_of h; obtain ⟨hb52, h⟩ := h
              replace h := obd_of h; obtain ⟨μ53, hμ53, h⟩ := h
              refine jr_V6v_2 jf_95_118 hb52 (by omega) (r_Row_put (by omega) _ _ _ _ _ hμ53) (Nat.le_of_ble_eq_true rfl) jml_66 (Nat.le_of_ble_eq_true rfl) ?_
              refine jr_lload_n jf_95_121 rfl (jg2_ne rfl jg2_same) ?_
              obtain ⟨rfl, rfl⟩ := Prod.mk.inj (Option.some.inj h)
              exact jr_retJ jf_95_122 jmt_95
            · obtain ⟨hb, hx⟩ := jgd_of hx
              obtain hx := Option.some.inj hx
              refine jr_V8b_2 jf_95_112 hb0 hb (by omega) (r_Shorts_plus (by omega) _ _ _ _ _ hx) (by simp only [jcats_cons, jcats_nil, cat_int, cat_long, cat_double, cat_float, cat_ref, rv_cat]; decide) jml_78 (Nat.le_of_ble_eq_true rfl) ?_
              replace h := jgd_of h; obtain ⟨hb48, h⟩ := h
              replace h := jbd2_of h; obtain ⟨x49, μ50, hx49, h⟩ := h
              refine jr_V6_1 jf_95_115 hb48 (by omega) (r_Section_settled (by omega) _ _ _ _ _ hx49) (by simp only [jcats_cons, jcats_nil, cat_int, cat_long, cat_double, cat_float, cat_ref, rv_cat]; decide) jml_79 (Nat.le_of_ble_eq_true rfl) ?_
              replace h := obd_of h; obtain ⟨a51, rfl, h⟩ := h
              replace h := jgd_of h; obtain ⟨hb52, h⟩ := h
              replace h := obd_of h; obtain ⟨μ53, hμ53, h⟩ := h
              refine jr_V6v_2 jf_95_118 hb52 (by omega) (r_Row_put (by omega) _ _ _ _ _ hμ53) (Nat.le_of_ble_eq_true rfl) jml_66 (Nat.le_of_ble_eq_true rfl) ?_
              refine jr_lload_n jf_95_121 rfl (jg2_ne rfl jg2_same) ?_
              obtain ⟨rfl, rfl⟩ := Prod.mk.inj (Option.some.inj h)
              exact jr_retJ jf_95_122 jmt_95
        · obtain ⟨hb, hx⟩ := jgd_of hx
          obtain hx := Option.some.inj hx
          refine jr_V8b_1 jf_95_78 hb0 hb (by omega) (r_Shorts_term (by omega) _ _ _ _ hx) (by simp only [jcats_cons, jcats_nil, cat_int, cat_long, cat_double, cat_float, cat_ref, rv_cat]; decide) jml_73 (Nat.le_of_ble_eq_true rfl) ?_
          replace h := obd_of h; obtain ⟨a32, rfl, h⟩ := h
          replace h := obd_of h; obtain ⟨x33, hx33, h⟩ := h
          rcases ite_or hx33 with ⟨hb, hx⟩ | ⟨hb0, hx⟩
          · refine jr_V8a_2 jf_95_81 hb (by omega) (r_Real_plus (by omega) _ _ _ _ _ hx) (by simp only [jcats_cons, jcats_nil, cat_int, cat_long, cat_double, cat_float, cat_ref, rv_cat]; decide) jml_74 (Nat.le_of_ble_eq_true rfl) ?_
            replace h := jgd_of h; obtain ⟨hb34, h⟩ := h
            replace h := jbd2_of h; obtain ⟨x35, μ36, hx35, h⟩ := h
            refine jr_V6_1 jf_95_84 hb34 (by omega) (r_Section_settled (by omega) _ _ _ _ _ hx35) (by simp only [jcats_cons, jcats_nil, cat_int, cat_long, cat_double, cat_float, cat_ref, rv_cat]; decide) jml_79 (Nat.le_of_ble_eq_true rfl) ?_
            replace h := obd_of h; obtain ⟨a37, rfl, h⟩ := h
            replace h := jgd_of h; obtain ⟨hb38, h⟩ := h
            replace h := obd_of h; obtain ⟨μ39, hμ39, h⟩ := h
            refine jr_V6v_2 jf_95_87 hb38 (by omega) (r_Row_put (by omega) _ _ _ _ _ hμ39) (Nat.le_of_ble_eq_true rfl) jml_66 (Nat.le_of_ble_eq_true rfl) ?_
            refine jr_aload_n jf_95_90 rfl (jg2_ne rfl (jg2_ne rfl hl0)) ?_
            replace h := obd_of h; obtain ⟨x40, hx40, h⟩ := h
            refine jr_getA jf_95_91 hx40 ?_
            refine jr_iconst jf_95_94 jc_i_1 ?_
            refine jr_aload_n jf_95_95 rfl (jg2_ne rfl (jg2_ne rfl hl0)) ?_
            refine jr_aload_n jf_95_96 rfl (jg2_ne rfl (jg2_ne rfl hl0)) ?_
            replace h := obd_of h; obtain ⟨x41, hx41, h⟩ := h
            refine jr_getA jf_95_97 hx41 ?_
            refine jr_aload_n jf_95_100 rfl (jg2_ne rfl (jg2_ne rfl hl0)) ?_
            refine jr_iconst jf_95_101 jc_i_2 ?_
            refine jr_lload_n jf_95_102 rfl (jg2_ne rfl (jg2_ne rfl hl1)) ?_
            replace h := jgd_of h; obtain ⟨hb42, h⟩ := h
            replace h := obd_of h; obtain ⟨x43, hx43, h⟩ := h
            refine jr_V6_2 jf_95_103 hb42 (by omega) (r_Section_times (by omega) _ _ _ _ _ hx43) (by simp only [jcats_cons, jcats_nil, cat_int, cat_long, cat_double, cat_float, cat_ref, rv_cat]; decide) jml_87 (Nat.le_of_ble_eq_true rfl) ?_
            refine jr_aload_n jf_95_106 rfl (jg2_ne rfl (jg2_ne rfl hl0)) ?_
            refine jr_iconst jf_95_107 jc_i_4 ?_
            refine jr_lload_n jf_95_108 rfl (jg2_ne rfl jg2_same) ?_
            replace h := jgd_of h; obtain ⟨hb44, h⟩ := h
            replace h := obd_of h; obtain ⟨x45, hx45, h⟩ := h
            refine jr_V6_2 jf_95_109 hb44 (by omega) (r_Section_lessTimes (by omega) _ _ _ _ _ hx45) (by simp only [jcats_cons, jcats_nil, cat_int, cat_long, cat_double, cat_float, cat_ref, rv_cat]; decide) jml_90 (Nat.le_of_ble_eq_true rfl) ?_
            replace h := obd_of h; obtain ⟨a46, rfl, h⟩ := h
            replace h := obd_of h; obtain ⟨x47, hx47, h⟩ := h
            rcases ite_or hx47 with ⟨hb, hx⟩ | ⟨hb0, hx⟩
            · refine jr_V8a_2 jf_95_112 hb (by omega) (r_Real_plus (by omega) _ _ _ _ _ hx) (by simp only [jcats_cons, jcats_nil, cat_int, cat_long, cat_double, cat_float, cat_ref, rv_cat]; decide) jml_74 (Nat.le_of_ble_eq_true rfl) ?_
              replace h := jgd_of h; obtain ⟨hb48, h⟩ := h
              replace h := jbd2_of h; obtain ⟨x49, μ50, hx49, h⟩ := h
              refine jr_V6_1 jf_95_115 hb48 (by omega) (r_Section_settled (by omega) _ _ _ _ _ hx49) (by simp only [jcats_cons, jcats_nil, cat_int, cat_long, cat_double, cat_float, cat_ref, rv_cat]; decide) jml_79 (Nat.le_of_ble_eq_true rfl) ?_
              replace h := obd_of h; obtain ⟨a51, rfl, h⟩ := h
              replace h := jgd_of h; obtain ⟨hb52, h⟩ := h
              replace h := obd_of h; obtain ⟨μ53, hμ53, h⟩ := h
              refine jr_V6v_2 jf_95_118 hb52 (by omega) (r_Row_put (by omega) _ _ _ _ _ hμ53) (Nat.le_of_ble_eq_true rfl) jml_66 (Nat.le_of_ble_eq_true rfl) ?_
              refine jr_lload_n jf_95_121 rfl (jg2_ne rfl jg2_same) ?_
              obtain ⟨rfl, rfl⟩ := Prod.mk.inj (Option.some.inj h)
              exact jr_retJ jf_95_122 jmt_95
            · obtain ⟨hb, hx⟩ := jgd_of hx
              obtain hx := Option.some.inj hx
              refine jr_V8b_2 jf_95_112 hb0 hb (by omega) (r_Shorts_plus (by omega) _ _ _ _ _ hx) (by simp only [jcats_cons, jcats_nil, cat_int, cat_long, cat_double, cat_float, cat_ref, rv_cat]; decide) jml_78 (Nat.le_of_ble_eq_true rfl) ?_
              replace h := jgd_of h; obtain ⟨hb48, h⟩ := h
              replace h := jbd2_of h; obtain ⟨x49, μ50, hx49, h⟩ := h
              refine jr_V6_1 jf_95_115 hb48 (by omega) (r_Section_settled (by omega) _ _ _ _ _ hx49) (by simp only [jcats_cons, jcats_nil, cat_int, cat_long, cat_double, cat_float, cat_ref, rv_cat]; decide) jml_79 (Nat.le_of_ble_eq_true rfl) ?_
              replace h := obd_of h; obtain ⟨a51, rfl, h⟩ := h
              replace h := jgd_of h; obtain ⟨hb52, h⟩ := h
              replace h := obd_of h; obtain ⟨μ53, hμ53, h⟩ := h
              refine jr_V6v_2 jf_95_118 hb52 (by omega) (r_Row_put (by omega) _ _ _ _ _ hμ53) (Nat.le_of_ble_eq_true rfl) jml_66 (Nat.le_of_ble_eq_true rfl) ?_
              refine jr_lload_n jf_95_121 rfl (jg2_ne rfl jg2_same) ?_
              obtain ⟨rfl, rfl⟩ := Prod.mk.inj (Option.some.inj h)
              exact jr_retJ jf_95_122 jmt_95
          · obtain ⟨hb, hx⟩ := jgd_of hx
            obtain hx := Option.some.inj hx
            refine jr_V8b_2 jf_95_81 hb0 hb (by omega) (r_Shorts_plus (by omega) _ _ _ _ _ hx) (by simp only [jcats_cons, jcats_nil, cat_int, cat_long, cat_double, cat_float, cat_ref, rv_cat]; decide) jml_78 (Nat.le_of_ble_eq_true rfl) ?_
            replace h := jgd_of h; obtain ⟨hb34, h⟩ := h
            replace h := jbd2_of h; obtain ⟨x35, μ36, hx35, h⟩ := h
            refine jr_V6_1 jf_95_84 hb34 (by omega) (r_Section_settled (by omega) _ _ _ _ _ hx35) (by simp only [jcats_cons, jcats_nil, cat_int, cat_long, cat_double, cat_float, cat_ref, rv_cat]; decide) jml_79 (Nat.le_of_ble_eq_true rfl) ?_
            replace h := obd_of h; obtain ⟨a37, rfl, h⟩ := h
            replace h := jgd_of h; obtain ⟨hb38, h⟩ := h
            replace h := obd_of h; obtain ⟨μ39, hμ39, h⟩ := h
            refine jr_V6v_2 jf_95_87 hb38 (by omega) (r_Row_put (by omega) _ _ _ _ _ hμ39) (Nat.le_of_ble_eq_true rfl) jml_66 (Nat.le_of_ble_eq_true rfl) ?_
            refine jr_aload_n jf_95_90 rfl (jg2_ne rfl (jg2_ne rfl hl0)) ?_
            replace h := obd_of h; obtain ⟨x40, hx40, h⟩ := h
            refine jr_getA jf_95_91 hx40 ?_
            refine jr_iconst jf_95_94 jc_i_1 ?_
            refine jr_aload_n jf_95_95 rfl (jg2_ne rfl (jg2_ne rfl hl0)) ?_
            refine jr_aload_n jf_95_96 rfl (jg2_ne rfl (jg2_ne rfl hl0)) ?_
            replace h := obd_of h; obtain ⟨x41, hx41, h⟩ := h
            refine jr_getA jf_95_97 hx41 ?_
            refine jr_aload_n jf_95_100 rfl (jg2_ne rfl (jg2_ne rfl hl0)) ?_
            refine jr_iconst jf_95_101 jc_i_2 ?_
            refine jr_lload_n jf_95_102 rfl (jg2_ne rfl (jg2_ne rfl hl1)) ?_
            replace h := jgd_of h; obtain ⟨hb42, h⟩ := h
            replace h := obd_of h; obtain ⟨x43, hx43, h⟩ := h
            refine jr_V6_2 jf_95_103 hb42 (by omega) (r_Section_times (by omega) _ _ _ _ _ hx43) (by simp only [jcats_cons, jcats_nil, cat_int, cat_long, cat_double, cat_float, cat_ref, rv_cat]; decide) jml_87 (Nat.le_of_ble_eq_true rfl) ?_
            refine jr_aload_n jf_95_106 rfl (jg2_ne rfl (jg2_ne rfl hl0)) ?_
            refine jr_iconst jf_95_107 jc_i_4 ?_
            refine jr_lload_n jf_95_108 rfl (jg2_ne rfl jg2_same) ?_
            replace h := jgd_of h; obtain ⟨hb44, h⟩ := h
            replace h := obd_of h; obtain ⟨x45, hx45, h⟩ := h
            refine jr_V6_2 jf_95_109 hb44 (by omega) (r_Section_lessTimes (by omega) _ _ _ _ _ hx45) (by simp only [jcats_cons, jcats_nil, cat_int, cat_long, cat_double, cat_float, cat_ref, rv_cat]; decide) jml_90 (Nat.le_of_ble_eq_true rfl) ?_
            replace h := obd_of h; obtain ⟨a46, rfl, h⟩ := h
            replace h := obd_of h; obtain ⟨x47, hx47, h⟩ := h
            rcases ite_or hx47 with ⟨hb, hx⟩ | ⟨hb0, hx⟩
            · refine jr_V8a_2 jf_95_112 hb (by omega) (r_Real_plus (by omega) _ _ _ _ _ hx) (by simp only [jcats_cons, jcats_nil, cat_int, cat_long, cat_double, cat_float, cat_ref, rv_cat]; decide) jml_74 (Nat.le_of_ble_eq_true rfl) ?_
              replace h := jgd_of h; obtain ⟨hb48, h⟩ := h
              replace h := jbd2_of h; obtain ⟨x49, μ50, hx49, h⟩ := h
              refine jr_V6_1 jf_95_115 hb48 (by omega) (r_Section_settled (by omega) _ _ _ _ _ hx49) (by simp only [jcats_cons, jcats_nil, cat_int, cat_long, cat_double, cat_float, cat_ref, rv_cat]; decide) jml_79 (Nat.le_of_ble_eq_true rfl) ?_
              replace h := obd_of h; obtain ⟨a51, rfl, h⟩ := h
              replace h := jgd_of h; obtain ⟨hb52, h⟩ := h
              replace h := obd_of h; obtain ⟨μ53, hμ53, h⟩ := h
              refine jr_V6v_2 jf_95_118 hb52 (by omega) (r_Row_put (by omega) _ _ _ _ _ hμ53) (Nat.le_of_ble_eq_true rfl) jml_66 (Nat.le_of_ble_eq_true rfl) ?_
              refine jr_lload_n jf_95_121 rfl (jg2_ne rfl jg2_same) ?_
              obtain ⟨rfl, rfl⟩ := Prod.mk.inj (Option.some.inj h)
              exact jr_retJ jf_95_122 jmt_95
            · obtain ⟨hb, hx⟩ := jgd_of hx
              obtain hx := Option.some.inj hx
              refine jr_V8b_2 jf_95_112 hb0 hb (by omega) (r_Shorts_plus (by omega) _ _ _ _ _ hx) (by simp only [jcats_cons, jcats_nil, cat_int, cat_long, cat_double, cat_float, cat_ref, rv_cat]; decide) jml_78 (Nat.le_of_ble_eq_true rfl) ?_
              replace h := jgd_of h; obtain ⟨hb48, h⟩ := h
              replace h := jbd2_of h; obtain ⟨x49, μ50, hx49, h⟩ := h
              refine jr_V6_1 jf_95_115 hb48 (by omega) (r_Section_settled (by omega) _ _ _ _ _ hx49) (by simp only [jcats_cons, jcats_nil, cat_int, cat_long, cat_double, cat_float, cat_ref, rv_cat]; decide) jml_79 (Nat.le_of_ble_eq_true rfl) ?_
              replace h := obd_of h; obtain ⟨a51, rfl, h⟩ := h
              replace h := jgd_of h; obtain ⟨hb52, h⟩ := h
              replace h := obd_of h; obtain ⟨μ53, hμ53, h⟩ := h
              refine jr_V6v_2 jf_95_118 hb52 (by omega) (r_Row_put (by omega) _ _ _ _ _ hμ53) (Nat.le_of_ble_eq_true rfl) jml_66 (Nat.le_of_ble_eq_true rfl) ?_
              refine jr_lload_n jf_95_121 rfl (jg2_ne rfl jg2_same) ?_
              obtain ⟨rfl, rfl⟩ := Prod.mk.inj (Option.some.inj h)
              exact jr_retJ jf_95_122 jmt_95
      · obtain ⟨hb, hx⟩ := jgd_of hx
        obtain hx := Option.some.inj hx
        refine jr_V8b_2 jf_95_49 hb0 hb (by omega) (r_Shorts_plus (by omega) _ _ _ _ _ hx) (Nat.le_of_ble_eq_true rfl) jml_78 (Nat.le_of_ble_eq_true rfl) ?_
        refine jr_lstore jf_95_52 jml_95 (by decide) ?_
        refine jr_aload_n jf_95_54 rfl (jg2_ne rfl (jg2_ne rfl hl0)) ?_
        replace h := obd_of h; obtain ⟨x23, hx23, h⟩ := h
        refine jr_getA jf_95_55 hx23 ?_
        refine jr_iconst jf_95_58 jc_i_0 ?_
        refine jr_aload_n jf_95_59 rfl (jg2_ne rfl (jg2_ne rfl hl0)) ?_
        refine jr_aload_n jf_95_60 rfl (jg2_ne rfl (jg2_ne rfl hl0)) ?_
        replace h := obd_of h; obtain ⟨x24, hx24, h⟩ := h
        refine jr_getA jf_95_61 hx24 ?_
        refine jr_lload jf_95_64 jg2_same ?_
        refine jr_aload_n jf_95_66 rfl (jg2_ne rfl (jg2_ne rfl hl0)) ?_
        replace h := obd_of h; obtain ⟨x25, hx25, h⟩ := h
        refine jr_getA jf_95_67 hx25 ?_
        refine jr_aload_n jf_95_70 rfl (jg2_ne rfl (jg2_ne rfl hl0)) ?_
        replace h := obd_of h; obtain ⟨x26, hx26, h⟩ := h
        refine jr_getA jf_95_71 hx26 ?_
        refine jr_iconst jf_95_74 jc_i_1 ?_
        replace h := obd_of h; obtain ⟨a27, rfl, h⟩ := h
        replace h := jgd_of h; obtain ⟨hb28, h⟩ := h
        replace h := obd_of h; obtain ⟨x29, hx29, h⟩ := h
        refine jr_V6_1 jf_95_75 hb28 (by omega) (r_Row_at (by omega) _ _ _ _ hx29) (by simp only [jcats_cons, jcats_nil, cat_int, cat_long, cat_double, cat_float, cat_ref, rv_cat]; decide) jml_38 (Nat.le_of_ble_eq_true rfl) ?_
        replace h := obd_of h; obtain ⟨a30, rfl, h⟩ := h
        replace h := obd_of h; obtain ⟨x31, hx31, h⟩ := h
        rcases ite_or hx31 with ⟨hb, hx⟩ | ⟨hb0, hx⟩
        · obtain hx := Option.some.inj hx
          refine jr_V8a_1 jf_95_78 hb (by omega) (r_Real_term (by omega) _ _ _ _ hx) (by simp only [jcats_cons, jcats_nil, cat_int, cat_long, cat_double, cat_float, cat_ref, rv_cat]; decide) jml_72 (Nat.le_of_ble_eq_true rfl) ?_
          replace h := obd_of h; obtain ⟨a32, rfl, h⟩ := h
          replace h := obd_of h; obtain ⟨x33, hx33, h⟩ := h
          rcases ite_or hx33 with ⟨hb, hx⟩ | ⟨hb0, hx⟩
          · refine jr_V8a_2 jf_95_81 hb (by omega) (r_Real_plus (by omega) _ _ _ _ _ hx) (by simp only [jcats_cons, jcats_nil, cat_int, cat_long, cat_double, cat_float, cat_ref, rv_cat]; decide) jml_74 (Nat.le_of_ble_eq_true rfl) ?_
            replace h := jgd_of h; obtain ⟨hb34, h⟩ := h
            replace h := jbd2_of h; obtain ⟨x35, μ36, hx35, h⟩ := h
            refine jr_V6_1 jf_95_84 hb34 (by omega) (r_Section_settled (by omega) _ _ _ _ _ hx35) (by simp only [jcats_cons, jcats_nil, cat_int, cat_long, cat_double, cat_float, cat_ref, rv_cat]; decide) jml_79 (Nat.le_of_ble_eq_true rfl) ?_
            replace h := obd_of h; obtain ⟨a37, rfl, h⟩ := h
            replace h := jgd_of h; obtain ⟨hb38, h⟩ := h
            replace h := obd_of h; obtain ⟨μ39, hμ39, h⟩ := h
            refine jr_V6v_2 jf_95_87 hb38 (by omega) (r_Row_put (by omega) _ _ _ _ _ hμ39) (Nat.le_of_ble_eq_true rfl) jml_66 (Nat.le_of_ble_eq_true rfl) ?_
            refine jr_aload_n jf_95_90 rfl (jg2_ne rfl (jg2_ne rfl hl0)) ?_
            replace h := obd_of h; obtain ⟨x40, hx40, h⟩ := h
            refine jr_getA jf_95_91 hx40 ?_
            refine jr_iconst jf_95_94 jc_i_1 ?_
            refine jr_aload_n jf_95_95 rfl (jg2_ne rfl (jg2_ne rfl hl0)) ?_
            refine jr_aload_n jf_95_96 rfl (jg2_ne rfl (jg2_ne rfl hl0)) ?_
            replace h := obd_of h; obtain ⟨x41, hx41, h⟩ := h
            refine jr_getA jf_95_97 hx41 ?_
            refine jr_aload_n jf_95_100 rfl (jg2_ne rfl (jg2_ne rfl hl0)) ?_
            refine jr_iconst jf_95_101 jc_i_2 ?_
            refine jr_lload_n jf_95_102 rfl (jg2_ne rfl (jg2_ne rfl hl1)) ?_
            replace h := jgd_of h; obtain ⟨hb42, h⟩ := h
            replace h := obd_of h; obtain ⟨x43, hx43, h⟩ := h
            refine jr_V6_2 jf_95_103 hb42 (by omega) (r_Section_times (by omega) _ _ _ _ _ hx43) (by simp only [jcats_cons, jcats_nil, cat_int, cat_long, cat_double, cat_float, cat_ref, rv_cat]; decide) jml_87 (Nat.le_of_ble_eq_true rfl) ?_
            refine jr_aload_n jf_95_106 rfl (jg2_ne rfl (jg2_ne rfl hl0)) ?_
            refine jr_iconst jf_95_107 jc_i_4 ?_
            refine jr_lload_n jf_95_108 rfl (jg2_ne rfl jg2_same) ?_
            replace h := jgd_of h; obtain ⟨hb44, h⟩ := h
            replace h := obd_of h; obtain ⟨x45, hx45, h⟩ := h
            refine jr_V6_2 jf_95_109 hb44 (by omega) (r_Section_lessTimes (by omega) _ _ _ _ _ hx45) (by simp only [jcats_cons, jcats_nil, cat_int, cat_long, cat_double, cat_float, cat_ref, rv_cat]; decide) jml_90 (Nat.le_of_ble_eq_true rfl) ?_
            replace h := obd_of h; obtain ⟨a46, rfl, h⟩ := h
            replace h := obd_of h; obtain ⟨x47, hx47, h⟩ := h
            rcases ite_or hx47 with ⟨hb, hx⟩ | ⟨hb0, hx⟩
            · refine jr_V8a_2 jf_95_112 hb (by omega) (r_Real_plus (by omega) _ _ _ _ _ hx) (by simp only [jcats_cons, jcats_nil, cat_int, cat_long, cat_double, cat_float, cat_ref, rv_cat]; decide) jml_74 (Nat.le_of_ble_eq_true rfl) ?_
              replace h := jgd_of h; obtain ⟨hb48, h⟩ := h
              replace h := jbd2_of h; obtain ⟨x49, μ50, hx49, h⟩ := h
              refine jr_V6_1 jf_95_115 hb48 (by omega) (r_Section_settled (by omega) _ _ _ _ _ hx49) (by simp only [jcats_cons, jcats_nil, cat_int, cat_long, cat_double, cat_float, cat_ref, rv_cat]; decide) jml_79 (Nat.le_of_ble_eq_true rfl) ?_
              replace h := obd_of h; obtain ⟨a51, rfl, h⟩ := h
              replace h := jgd_of h; obtain ⟨hb52, h⟩ := h
              replace h := obd_of h; obtain ⟨μ53, hμ53, h⟩ := h
              refine jr_V6v_2 jf_95_118 hb52 (by omega) (r_Row_put (by omega) _ _ _ _ _ hμ53) (Nat.le_of_ble_eq_true rfl) jml_66 (Nat.le_of_ble_eq_true rfl) ?_
              refine jr_lload_n jf_95_121 rfl (jg2_ne rfl jg2_same) ?_
              obtain ⟨rfl, rfl⟩ := Prod.mk.inj (Option.some.inj h)
              exact jr_retJ jf_95_122 jmt_95
            · obtain ⟨hb, hx⟩ := jgd_of hx
              obtain hx := Option.some.inj hx
              refine jr_V8b_2 jf_95_112 hb0 hb (by omega) (r_Shorts_plus (by omega) _ _ _ _ _ hx) (by simp only [jcats_cons, jcats_nil, cat_int, cat_long, cat_double, cat_float, cat_ref, rv_cat]; decide) jml_78 (Nat.le_of_ble_eq_true rfl) ?_
              replace h := jgd_of h; obtain ⟨hb48, h⟩ := h
              replace h := jbd2_of h; obtain ⟨x49, μ50, hx49, h⟩ := h
              refine jr_V6_1 jf_95_115 hb48 (by omega) (r_Section_settled (by omega) _ _ _ _ _ hx49) (by simp only [jcats_cons, jcats_nil, cat_int, cat_long, cat_double, cat_float, cat_ref, rv_cat]; decide) jml_79 (Nat.le_of_ble_eq_true rfl) ?_
              replace h := obd_of h; obtain ⟨a51, rfl, h⟩ := h
              replace h := jgd_of h; obtain ⟨hb52, h⟩ := h
              replace h := obd_of h; obtain ⟨μ53, hμ53, h⟩ := h
              refine jr_V6v_2 jf_95_118 hb52 (by omega) (r_Row_put (by omega) _ _ _ _ _ hμ53) (Nat.le_of_ble_eq_true rfl) jml_66 (Nat.le_of_ble_eq_true rfl) ?_
              refine jr_lload_n jf_95_121 rfl (jg2_ne rfl jg2_same) ?_
              obtain ⟨rfl, rfl⟩ := Prod.mk.inj (Option.some.inj h)
              exact jr_retJ jf_95_122 jmt_95
          · obtain ⟨hb, hx⟩ := jgd_of hx
            obtain hx := Option.some.inj hx
            refine jr_V8b_2 jf_95_81 hb0 hb (by omega) (r_Shorts_plus (by omega) _ _ _ _ _ hx) (by simp only [jcats_cons, jcats_nil, cat_int, cat_long, cat_double, cat_float, cat_ref, rv_cat]; decide) jml_78 (Nat.le_of_ble_eq_true rfl) ?_
            replace h := jgd_of h; obtain ⟨hb34, h⟩ := h
            replace h := jbd2_of h; obtain ⟨x35, μ36, hx35, h⟩ := h
            refine jr_V6_1 jf_95_84 hb34 (by omega) (r_Section_settled (by omega) _ _ _ _ _ hx35) (by simp only [jcats_cons, jcats_nil, cat_int, cat_long, cat_double, cat_float, cat_ref, rv_cat]; decide) jml_79 (Nat.le_of_ble_eq_true rfl) ?_
            replace h := obd_of h; obtain ⟨a37, rfl, h⟩ := h
            replace h := jgd_of h; obtain ⟨hb38, h⟩ := h
            replace h := obd_of h; obtain ⟨μ39, hμ39, h⟩ := h
            refine jr_V6v_2 jf_95_87 hb38 (by omega) (r_Row_put (by omega) _ _ _ _ _ hμ39) (Nat.le_of_ble_eq_true rfl) jml_66 (Nat.le_of_ble_eq_true rfl) ?_
            refine jr_aload_n jf_95_90 rfl (jg2_ne rfl (jg2_ne rfl hl0)) ?_
            replace h := obd_of h; obtain ⟨x40, hx40, h⟩ := h
            refine jr_getA jf_95_91 hx40 ?_
            refine jr_iconst jf_95_94 jc_i_1 ?_
            refine jr_aload_n jf_95_95 rfl (jg2_ne rfl (jg2_ne rfl hl0)) ?_
            refine jr_aload_n jf_95_96 rfl (jg2_ne rfl (jg2_ne rfl hl0)) ?_
            replace h := obd_of h; obtain ⟨x41, hx41, h⟩ := h
            refine jr_getA jf_95_97 hx41 ?_
            refine jr_aload_n jf_95_100 rfl (jg2_ne rfl (jg2_ne rfl hl0)) ?_
            refine jr_iconst jf_95_101 jc_i_2 ?_
            refine jr_lload_n jf_95_102 rfl (jg2_ne rfl (jg2_ne rfl hl1)) ?_
            replace h := jgd_of h; obtain ⟨hb42, h⟩ := h
            replace h := obd_of h; obtain ⟨x43, hx43, h⟩ := h
            refine jr_V6_2 jf_95_103 hb42 (by omega) (r_Section_times (by omega) _ _ _ _ _ hx43) (by simp only [jcats_cons, jcats_nil, cat_int, cat_long, cat_double, cat_float, cat_ref, rv_cat]; decide) jml_87 (Nat.le_of_ble_eq_true rfl) ?_
            refine jr_aload_n jf_95_106 rfl (jg2_ne rfl (jg2_ne rfl hl0)) ?_
            refine jr_iconst jf_95_107 jc_i_4 ?_
            refine jr_lload_n jf_95_108 rfl (jg2_ne rfl jg2_same) ?_
            replace h := jgd_of h; obtain ⟨hb44, h⟩ := h
            replace h := obd_of h; obtain ⟨x45, hx45, h⟩ := h
            refine jr_V6_2 jf_95_109 hb44 (by omega) (r_Section_lessTimes (by omega) _ _ _ _ _ hx45) (by simp only [jcats_cons, jcats_nil, cat_int, cat_long, cat_double, cat_float, cat_ref, rv_cat]; decide) jml_90 (Nat.le_of_ble_eq_true rfl) ?_
            replace h := obd_of h; obtain ⟨a46, rfl, h⟩ := h
            replace h := obd_of h; obtain ⟨x47, hx47, h⟩ := h
            rcases ite_or hx47 with ⟨hb, hx⟩ | ⟨hb0, hx⟩
            · refine jr_V8a_2 jf_95_112 hb (by omega) (r_Real_plus (by omega) _ _ _ _ _ hx) (by simp only [jcats_cons, jcats_nil, cat_int, cat_long, cat_double, cat_float, cat_ref, rv_cat]; decide) jml_74 (Nat.le_of_ble_eq_true rfl) ?_
              replace h := jgd_of h; obtain ⟨hb48, h⟩ := h
              replace h := jbd2_of h; obtain ⟨x49, μ50, hx49, h⟩ := h
              refine jr_V6_1 jf_95_115 hb48 (by omega) (r_Section_settled (by omega) _ _ _ _ _ hx49) (by simp only [jcats_cons, jcats_nil, cat_int, cat_long, cat_double, cat_float, cat_ref, rv_cat]; decide) jml_79 (Nat.le_of_ble_eq_true rfl) ?_
              replace h := obd_of h; obtain ⟨a51, rfl, h⟩ := h
              replace h := jgd_of h; obtain ⟨hb52, h⟩ := h
              replace h := obd_of h; obtain ⟨μ53, hμ53, h⟩ := h
              refine jr_V6v_2 jf_95_118 hb52 (by omega) (r_Row_put (by omega) _ _ _ _ _ hμ53) (Nat.le_of_ble_eq_true rfl) jml_66 (Nat.le_of_ble_eq_true rfl) ?_
              refine jr_lload_n jf_95_121 rfl (jg2_ne rfl jg2_same) ?_
              obtain ⟨rfl, rfl⟩ := Prod.mk.inj (Option.some.inj h)
              exact jr_retJ jf_95_122 jmt_95
            · obtain ⟨hb, hx⟩ := jgd_of hx
              obtain hx := Option.some.inj hx
              refine jr_V8b_2 jf_95_112 hb0 hb (by omega) (r_Shorts_plus (by omega) _ _ _ _ _ hx) (by simp only [jcats_cons, jcats_nil, cat_int, cat_long, cat_double, cat_float, cat_ref, rv_cat]; decide) jml_78 (Nat.le_of_ble_eq_true rfl) ?_
              replace h := jgd_of h; obtain ⟨hb48, h⟩ := h
              replace h := jbd2_of h; obtain ⟨x49, μ50, hx49, h⟩ := h
              refine jr_V6_1 jf_95_115 hb48 (by omega) (r_Section_settled (by omega) _ _ _ _ _ hx49) (by simp only [jcats_cons, jcats_nil, cat_int, cat_long, cat_double, cat_float, cat_ref, rv_cat]; decide) jml_79 (Nat.le_of_ble_eq_true rfl) ?_
              replace h := obd_of h; obtain ⟨a51, rfl, h⟩ := h
              replace h := jgd_of h; obtain ⟨hb52, h⟩ := h
              replace h := obd_of h; obtain ⟨μ53, hμ53, h⟩ := h
              refine jr_V6v_2 jf_95_118 hb52 (by omega) (r_Row_put (by omega) _ _ _ _ _ hμ53) (Nat.le_of_ble_eq_true rfl) jml_66 (Nat.le_of_ble_eq_true rfl) ?_
              refine jr_lload_n jf_95_121 rfl (jg2_ne rfl jg2_same) ?_
              obtain ⟨rfl, rfl⟩ := Prod.mk.inj (Option.some.inj h)
              exact jr_retJ jf_95_122 jmt_95
        · obtain ⟨hb, hx⟩ := jgd_of hx
          obtain hx := Option.some.inj hx
          refine jr_V8b_1 jf_95_78 hb0 hb (by omega) (r_Shorts_term (by omega) _ _ _ _ hx) (by simp only [jcats_cons, jcats_nil, cat_int, cat_long, cat_double, cat_float, cat_ref, rv_cat]; decide) jml_73 (Nat.le_of_ble_eq_true rfl) ?_
          replace h := obd_of h; obtain ⟨a32, rfl, h⟩ := h
          replace h := obd_of h; obtain ⟨x33, hx33, h⟩ := h
          rcases ite_or hx33 with ⟨hb, hx⟩ | ⟨hb0, hx⟩
          · refine jr_V8a_2 jf_95_81 hb (by omega) (r_Real_plus (by omega) _ _ _ _ _ hx) (by simp only [jcats_cons, jcats_nil, cat_int, cat_long, cat_double, cat_float, cat_ref, rv_cat]; decide) jml_74 (Nat.le_of_ble_eq_true rfl) ?_
            replace h := jgd_of h; obtain ⟨hb34, h⟩ := h
            replace h := jbd2_of h; obtain ⟨x35, μ36, hx35, h⟩ := h
            refine jr_V6_1 jf_95_84 hb34 (by omega) (r_Section_settled (by omega) _ _ _ _ _ hx35) (by simp only [jcats_cons, jcats_nil, cat_int, cat_long, cat_double, cat_float, cat_ref, rv_cat]; decide) jml_79 (Nat.le_of_ble_eq_true rfl) ?_
            replace h := obd_of h; obtain ⟨a37, rfl, h⟩ := h
            replace h := jgd_of h; obtain ⟨hb38, h⟩ := h
            replace h := obd_of h; obtain ⟨μ39, hμ39, h⟩ := h
            refine jr_V6v_2 jf_95_87 hb38 (by omega) (r_Row_put (by omega) _ _ _ _ _ hμ39) (Nat.le_of_ble_eq_true rfl) jml_66 (Nat.le_of_ble_eq_true rfl) ?_
            refine jr_aload_n jf_95_90 rfl (jg2_ne rfl (jg2_ne rfl hl0)) ?_
            replace h := obd_of h; obtain ⟨x40, hx40, h⟩ := h
            refine jr_getA jf_95_91 hx40 ?_
            refine jr_iconst jf_95_94 jc_i_1 ?_
            refine jr_aload_n jf_95_95 rfl (jg2_ne rfl (jg2_ne rfl hl0)) ?_
            refine jr_aload_n jf_95_96 rfl (jg2_ne rfl (jg2_ne rfl hl0)) ?_
            replace h := obd_of h; obtain ⟨x41, hx41, h⟩ := h
            refine jr_getA jf_95_97 hx41 ?_
            refine jr_aload_n jf_95_100 rfl (jg2_ne rfl (jg2_ne rfl hl0)) ?_
            refine jr_iconst jf_95_101 jc_i_2 ?_
            refine jr_lload_n jf_95_102 rfl (jg2_ne rfl (jg2_ne rfl hl1)) ?_
            replace h := jgd_of h; obtain ⟨hb42, h⟩ := h
            replace h := obd_of h; obtain ⟨x43, hx43, h⟩ := h
            refine jr_V6_2 jf_95_103 hb42 (by omega) (r_Section_times (by omega) _ _ _ _ _ hx43) (by simp only [jcats_cons, jcats_nil, cat_int, cat_long, cat_double, cat_float, cat_ref, rv_cat]; decide) jml_87 (Nat.le_of_ble_eq_true rfl) ?_
            refine jr_aload_n jf_95_106 rfl (jg2_ne rfl (jg2_ne rfl hl0)) ?_
            refine jr_iconst jf_95_107 jc_i_4 ?_
            refine jr_lload_n jf_95_108 rfl (jg2_ne rfl jg2_same) ?_
            replace h := jgd_of h; obtain ⟨hb44, h⟩ := h
            replace h := obd_of h; obtain ⟨x45, hx45, h⟩ := h
            refine jr_V6_2 jf_95_109 hb44 (by omega) (r_Section_lessTimes (by omega) _ _ _ _ _ hx45) (by simp only [jcats_cons, jcats_nil, cat_int, cat_long, cat_double, cat_float, cat_ref, rv_cat]; decide) jml_90 (Nat.le_of_ble_eq_true rfl) ?_
            replace h := obd_of h; obtain ⟨a46, rfl, h⟩ := h
            replace h := obd_of h; obtain ⟨x47, hx47, h⟩ := h
            rcases ite_or hx47 with ⟨hb, hx⟩ | ⟨hb0, hx⟩
            · refine jr_V8a_2 jf_95_112 hb (by omega) (r_Real_plus (by omega) _ _ _ _ _ hx) (by simp only [jcats_cons, jcats_nil, cat_int, cat_long, cat_double, cat_float, cat_ref, rv_cat]; decide) jml_74 (Nat.le_of_ble_eq_true rfl) ?_
              replace h := jgd_of h; obtain ⟨hb48, h⟩ := h
              replace h := jbd2_of h; obtain ⟨x49, μ50, hx49, h⟩ := h
              refine jr_V6_1 jf_95_115 hb48 (by omega) (r_Section_settled (by omega) _ _ _ _ _ hx49) (by simp only [jcats_cons, jcats_nil, cat_int, cat_long, cat_double, cat_float, cat_ref, rv_cat]; decide) jml_79 (Nat.le_of_ble_eq_true rfl) ?_
              replace h := obd_of h; obtain ⟨a51, rfl, h⟩ := h
              replace h := jgd_of h; obtain ⟨hb52, h⟩ := h
              replace h := obd_of h; obtain ⟨μ53, hμ53, h⟩ := h
              refine jr_V6v_2 jf_95_118 hb52 (by omega) (r_Row_put (by omega) _ _ _ _ _ hμ53) (Nat.le_of_ble_eq_true rfl) jml_66 (Nat.le_of_ble_eq_true rfl) ?_
              refine jr_lload_n jf_95_121 rfl (jg2_ne rfl jg2_same) ?_
              obtain ⟨rfl, rfl⟩ := Prod.mk.inj (Option.some.inj h)
              exact jr_retJ jf_95_122 jmt_95
            · obtain ⟨hb, hx⟩ := jgd_of hx
              obtain hx := Option.some.inj hx
              refine jr_V8b_2 jf_95_112 hb0 hb (by omega) (r_Shorts_plus (by omega) _ _ _ _ _ hx) (by simp only [jcats_cons, jcats_nil, cat_int, cat_long, cat_double, cat_float, cat_ref, rv_cat]; decide) jml_78 (Nat.le_of_ble_eq_true rfl) ?_
              replace h := jgd_of h; obtain ⟨hb48, h⟩ := h
              replace h := jbd2_of h; obtain ⟨x49, μ50, hx49, h⟩ := h
              refine jr_V6_1 jf_95_115 hb48 (by omega) (r_Section_settled (by omega) _ _ _ _ _ hx49) (by simp only [jcats_cons, jcats_nil, cat_int, cat_long, cat_double, cat_float, cat_ref, rv_cat]; decide) jml_79 (Nat.le_of_ble_eq_true rfl) ?_
              replace h := obd_of h; obtain ⟨a51, rfl, h⟩ := h
              replace h := jgd_of h; obtain ⟨hb52, h⟩ := h
              replace h := obd_of h; obtain ⟨μ53, hμ53, h⟩ := h
              refine jr_V6v_2 jf_95_118 hb52 (by omega) (r_Row_put (by omega) _ _ _ _ _ hμ53) (Nat.le_of_ble_eq_true rfl) jml_66 (Nat.le_of_ble_eq_true rfl) ?_
              refine jr_lload_n jf_95_121 rfl (jg2_ne rfl jg2_same) ?_
              obtain ⟨rfl, rfl⟩ := Prod.mk.inj (Option.some.inj h)
              exact jr_retJ jf_95_122 jmt_95
          · obtain ⟨hb, hx⟩ := jgd_of hx
            obtain hx := Option.some.inj hx
            refine jr_V8b_2 jf_95_81 hb0 hb (by omega) (r_Shorts_plus (by omega) _ _ _ _ _ hx) (by simp only [jcats_cons, jcats_nil, cat_int, cat_long, cat_double, cat_float, cat_ref, rv_cat]; decide) jml_78 (Nat.le_of_ble_eq_true rfl) ?_
            replace h := jgd_of h; obtain ⟨hb34, h⟩ := h
            replace h := jbd2_of h; obtain ⟨x35, μ36, hx35, h⟩ := h
            refine jr_V6_1 jf_95_84 hb34 (by omega) (r_Section_settled (by omega) _ _ _ _ _ hx35) (by simp only [jcats_cons, jcats_nil, cat_int, cat_long, cat_double, cat_float, cat_ref, rv_cat]; decide) jml_79 (Nat.le_of_ble_eq_true rfl) ?_
            replace h := obd_of h; obtain ⟨a37, rfl, h⟩ := h
            replace h := jgd_of h; obtain ⟨hb38, h⟩ := h
            replace h := obd_of h; obtain ⟨μ39, hμ39, h⟩ := h
            refine jr_V6v_2 jf_95_87 hb38 (by omega) (r_Row_put (by omega) _ _ _ _ _ hμ39) (Nat.le_of_ble_eq_true rfl) jml_66 (Nat.le_of_ble_eq_true rfl) ?_
            refine jr_aload_n jf_95_90 rfl (jg2_ne rfl (jg2_ne rfl hl0)) ?_
            replace h := obd_of h; obtain ⟨x40, hx40, h⟩ := h
            refine jr_getA jf_95_91 hx40 ?_
            refine jr_iconst jf_95_94 jc_i_1 ?_
            refine jr_aload_n jf_95_95 rfl (jg2_ne rfl (jg2_ne rfl hl0)) ?_
            refine jr_aload_n jf_95_96 rfl (jg2_ne rfl (jg2_ne rfl hl0)) ?_
            replace h := obd_of h; obtain ⟨x41, hx41, h⟩ := h
            refine jr_getA jf_95_97 hx41 ?_
            refine jr_aload_n jf_95_100 rfl (jg2_ne rfl (jg2_ne rfl hl0)) ?_
            refine jr_iconst jf_95_101 jc_i_2 ?_
            refine jr_lload_n jf_95_102 rfl (jg2_ne rfl (jg2_ne rfl hl1)) ?_
            replace h := jgd_of h; obtain ⟨hb42, h⟩ := h
            replace h := obd_of h; obtain ⟨x43, hx43, h⟩ := h
            refine jr_V6_2 jf_95_103 hb42 (by omega) (r_Section_times (by omega) _ _ _ _ _ hx43) (by simp only [jcats_cons, jcats_nil, cat_int, cat_long, cat_double, cat_float, cat_ref, rv_cat]; decide) jml_87 (Nat.le_of_ble_eq_true rfl) ?_
            refine jr_aload_n jf_95_106 rfl (jg2_ne rfl (jg2_ne rfl hl0)) ?_
            refine jr_iconst jf_95_107 jc_i_4 ?_
            refine jr_lload_n jf_95_108 rfl (jg2_ne rfl jg2_same) ?_
            replace h := jgd_of h; obtain ⟨hb44, h⟩ := h
            replace h := obd_of h; obtain ⟨x45, hx45, h⟩ := h
            refine jr_V6_2 jf_95_109 hb44 (by omega) (r_Section_lessTimes (by omega) _ _ _ _ _ hx45) (by simp only [jcats_cons, jcats_nil, cat_int, cat_long, cat_double, cat_float, cat_ref, rv_cat]; decide) jml_90 (Nat.le_of_ble_eq_true rfl) ?_
            replace h := obd_of h; obtain ⟨a46, rfl, h⟩ := h
            replace h := obd_of h; obtain ⟨x47, hx47, h⟩ := h
            rcases ite_or hx47 with ⟨hb, hx⟩ | ⟨hb0, hx⟩
            · refine jr_V8a_2 jf_95_112 hb (by omega) (r_Real_plus (by omega) _ _ _ _ _ hx) (by simp only [jcats_cons, jcats_nil, cat_int, cat_long, cat_double, cat_float, cat_ref, rv_cat]; decide) jml_74 (Nat.le_of_ble_eq_true rfl) ?_
              replace h := jgd_of h; obtain ⟨hb48, h⟩ := h
              replace h := jbd2_of h; obtain ⟨x49, μ50, hx49, h⟩ := h
              refine jr_V6_1 jf_95_115 hb48 (by omega) (r_Section_settled (by omega) _ _ _ _ _ hx49) (by simp only [jcats_cons, jcats_nil, cat_int, cat_long, cat_double, cat_float, cat_ref, rv_cat]; decide) jml_79 (Nat.le_of_ble_eq_true rfl) ?_
              replace h := obd_of h; obtain ⟨a51, rfl, h⟩ := h
              replace h := jgd_of h; obtain ⟨hb52, h⟩ := h
              replace h := obd_of h; obtain ⟨μ53, hμ53, h⟩ := h
              refine jr_V6v_2 jf_95_118 hb52 (by omega) (r_Row_put (by omega) _ _ _ _ _ hμ53) (Nat.le_of_ble_eq_true rfl) jml_66 (Nat.le_of_ble_eq_true rfl) ?_
              refine jr_lload_n jf_95_121 rfl (jg2_ne rfl jg2_same) ?_
              obtain ⟨rfl, rfl⟩ := Prod.mk.inj (Option.some.inj h)
              exact jr_retJ jf_95_122 jmt_95
            · obtain ⟨hb, hx⟩ := jgd_of hx
              obtain hx := Option.some.inj hx
              refine jr_V8b_2 jf_95_112 hb0 hb (by omega) (r_Shorts_plus (by omega) _ _ _ _ _ hx) (by simp only [jcats_cons, jcats_nil, cat_int, cat_long, cat_double, cat_float, cat_ref, rv_cat]; decide) jml_78 (Nat.le_of_ble_eq_true rfl) ?_
              replace h := jgd_of h; obtain ⟨hb48, h⟩ := h
              replace h := jbd2_of h; obtain ⟨x49, μ50, hx49, h⟩ := h
              refine jr_V6_1 jf_95_115 hb48 (by omega) (r_Section_settled (by omega) _ _ _ _ _ hx49) (by simp only [jcats_cons, jcats_nil, cat_int, cat_long, cat_double, cat_float, cat_ref, rv_cat]; decide) jml_79 (Nat.le_of_ble_eq_true rfl) ?_
              replace h := obd_of h; obtain ⟨a51, rfl, h⟩ := h
              replace h := jgd_of h; obtain ⟨hb52, h⟩ := h
              replace h := obd_of h; obtain ⟨μ53, hμ53, h⟩ := h
              refine jr_V6v_2 jf_95_118 hb52 (by omega) (r_Row_put (by omega) _ _ _ _ _ hμ53) (Nat.le_of_ble_eq_true rfl) jml_66 (Nat.le_of_ble_eq_true rfl) ?_
              refine jr_lload_n jf_95_121 rfl (jg2_ne rfl jg2_same) ?_
              obtain ⟨rfl, rfl⟩ := Prod.mk.inj (Option.some.inj h)
              exact jr_retJ jf_95_122 jmt_95
    · obtain ⟨hb, hx⟩ := jgd_of hx
      obtain hx := Option.some.inj hx
      refine jr_V8b_2 jf_95_26 hb0 hb (by omega) (r_Shorts_plus (by omega) _ _ _ _ _ hx) (Nat.le_of_ble_eq_true rfl) jml_78 (Nat.le_of_ble_eq_true rfl) ?_
      replace h := jgd_of h; obtain ⟨hb13, h⟩ := h
      replace h := jbd2_of h; obtain ⟨x14, μ15, hx14, h⟩ := h
      refine jr_V6_1 jf_95_29 hb13 (by omega) (r_Section_settled (by omega) _ _ _ _ _ hx14) (Nat.le_of_ble_eq_true rfl) jml_79 (Nat.le_of_ble_eq_true rfl) ?_
      refine jr_lstore_n jf_95_32 rfl jml_95 (by decide) ?_
      refine jr_aload_n jf_95_33 rfl (jg2_ne rfl hl0) ?_
      replace h := obd_of h; obtain ⟨x16, hx16, h⟩ := h
      refine jr_getA jf_95_34 hx16 ?_
      refine jr_aload_n jf_95_37 rfl (jg2_ne rfl hl0) ?_
      refine jr_iconst jf_95_38 jc_i_1 ?_
      refine jr_lload_n jf_95_39 rfl (jg2_ne rfl hl1) ?_
      replace h := jgd_of h; obtain ⟨hb17, h⟩ := h
      replace h := obd_of h; obtain ⟨x18, hx18, h⟩ := h
      refine jr_V6_2 jf_95_40 hb17 (by omega) (r_Section_times (by omega) _ _ _ _ _ hx18) (by simp only [jcats_cons, jcats_nil, cat_int, cat_long, cat_double, cat_float, cat_ref, rv_cat]; decide) jml_87 (Nat.le_of_ble_eq_true rfl) ?_
      refine jr_aload_n jf_95_43 rfl (jg2_ne rfl hl0) ?_
      refine jr_iconst jf_95_44 jc_i_3 ?_
      refine jr_lload_n jf_95_45 rfl jg2_same ?_
      replace h := jgd_of h; obtain ⟨hb19, h⟩ := h
      replace h := obd_of h; obtain ⟨x20, hx20, h⟩ := h
      refine jr_V6_2 jf_95_46 hb19 (by omega) (r_Section_lessTimes (by omega) _ _ _ _ _ hx20) (by simp only [jcats_cons, jcats_nil, cat_int, cat_long, cat_double, cat_float, cat_ref, rv_cat]; decide) jml_90 (Nat.le_of_ble_eq_true rfl) ?_
      replace h := obd_of h; obtain ⟨a21, rfl, h⟩ := h
      replace h := obd_of h; obtain ⟨x22, hx22, h⟩ := h
      rcases ite_or hx22 with ⟨hb, hx⟩ | ⟨hb0, hx⟩
      · refine jr_V8a_2 jf_95_49 hb (by omega) (r_Real_plus (by omega) _ _ _ _ _ hx) (Nat.le_of_ble_eq_true rfl) jml_74 (Nat.le_of_ble_eq_true rfl) ?_
        refine jr_lstore jf_95_52 jml_95 (by decide) ?_
        refine jr_aload_n jf_95_54 rfl (jg2_ne rfl (jg2_ne rfl hl0)) ?_
        replace h := obd_of h; obtain ⟨x23, hx23, h⟩ := h
        refine jr_getA jf_95_55 hx23 ?_
        refine jr_iconst jf_95_58 jc_i_0 ?_
        refine jr_aload_n jf_95_59 rfl (jg2_ne rfl (jg2_ne rfl hl0)) ?_
        refine jr_aload_n jf_95_60 rfl (jg2_ne rfl (jg2_ne rfl hl0)) ?_
        replace h := obd_of h; obtain ⟨x24, hx24, h⟩ := h
        refine jr_getA jf_95_61 hx24 ?_
        refine jr_lload jf_95_64 jg2_same ?_
        refine jr_aload_n jf_95_66 rfl (jg2_ne rfl (jg2_ne rfl hl0)) ?_
        replace h := obd_of h; obtain ⟨x25, hx25, h⟩ := h
        refine jr_getA jf_95_67 hx25 ?_
        refine jr_aload_n jf_95_70 rfl (jg2_ne rfl (jg2_ne rfl hl0)) ?_
        replace h := obd_of h; obtain ⟨x26, hx26, h⟩ := h
        refine jr_getA jf_95_71 hx26 ?_
        refine jr_iconst jf_95_74 jc_i_1 ?_
        replace h := obd_of h; obtain ⟨a27, rfl, h⟩ := h
        replace h := jgd_of h; obtain ⟨hb28, h⟩ := h
        replace h := obd_of h; obtain ⟨x29, hx29, h⟩ := h
        refine jr_V6_1 jf_95_75 hb28 (by omega) (r_Row_at (by omega) _ _ _ _ hx29) (by simp only [jcats_cons, jcats_nil, cat_int, cat_long, cat_double, cat_float, cat_ref, rv_cat]; decide) jml_38 (Nat.le_of_ble_eq_true rfl) ?_
        replace h := obd_of h; obtain ⟨a30, rfl, h⟩ := h
        replace h := obd_of h; obtain ⟨x31, hx31, h⟩ := h
        rcases ite_or hx31 with ⟨hb, hx⟩ | ⟨hb0, hx⟩
        · obtain hx := Option.some.inj hx
          refine jr_V8a_1 jf_95_78 hb (by omega) (r_Real_term (by omega) _ _ _ _ hx) (by simp only [jcats_cons, jcats_nil, cat_int, cat_long, cat_double, cat_float, cat_ref, rv_cat]; decide) jml_72 (Nat.le_of_ble_eq_true rfl) ?_
          replace h := obd_of h; obtain ⟨a32, rfl, h⟩ := h
          replace h := obd_of h; obtain ⟨x33, hx33, h⟩ := h
          rcases ite_or hx33 with ⟨hb, hx⟩ | ⟨hb0, hx⟩
          · refine jr_V8a_2 jf_95_81 hb (by omega) (r_Real_plus (by omega) _ _ _ _ _ hx) (by simp only [jcats_cons, jcats_nil, cat_int, cat_long, cat_double, cat_float, cat_ref, rv_cat]; decide) jml_74 (Nat.le_of_ble_eq_true rfl) ?_
            replace h := jgd_of h; obtain ⟨hb34, h⟩ := h
            replace h := jbd2_of h; obtain ⟨x35, μ36, hx35, h⟩ := h
            refine jr_V6_1 jf_95_84 hb34 (by omega) (r_Section_settled (by omega) _ _ _ _ _ hx35) (by simp only [jcats_cons, jcats_nil, cat_int, cat_long, cat_double, cat_float, cat_ref, rv_cat]; decide) jml_79 (Nat.le_of_ble_eq_true rfl) ?_
            replace h := obd_of h; obtain ⟨a37, rfl, h⟩ := h
            replace h := jgd_of h; obtain ⟨hb38, h⟩ := h
            replace h := obd_of h; obtain ⟨μ39, hμ39, h⟩ := h
            refine jr_V6v_2 jf_95_87 hb38 (by omega) (r_Row_put (by omega) _ _ _ _ _ hμ39) (Nat.le_of_ble_eq_true rfl) jml_66 (Nat.le_of_ble_eq_true rfl) ?_
            refine jr_aload_n jf_95_90 rfl (jg2_ne rfl (jg2_ne rfl hl0)) ?_
            replace h := obd_of h; obtain ⟨x40, hx40, h⟩ := h
            refine jr_getA jf_95_91 hx40 ?_
            refine jr_iconst jf_95_94 jc_i_1 ?_
            refine jr_aload_n jf_95_95 rfl (jg2_ne rfl (jg2_ne rfl hl0)) ?_
            refine jr_aload_n jf_95_96 rfl (jg2_ne rfl (jg2_ne rfl hl0)) ?_
            replace h := obd_of h; obtain ⟨x41, hx41, h⟩ := h
            refine jr_getA jf_95_97 hx41 ?_
            refine jr_aload_n jf_95_100 rfl (jg2_ne rfl (jg2_ne rfl hl0)) ?_
            refine jr_iconst jf_95_101 jc_i_2 ?_
            refine jr_lload_n jf_95_102 rfl (jg2_ne rfl (jg2_ne rfl hl1)) ?_
            replace h := jgd_of h; obtain ⟨hb42, h⟩ := h
            replace h := obd_of h; obtain ⟨x43, hx43, h⟩ := h
            refine jr_V6_2 jf_95_103 hb42 (by omega) (r_Section_times (by omega) _ _ _ _ _ hx43) (by simp only [jcats_cons, jcats_nil, cat_int, cat_long, cat_double, cat_float, cat_ref, rv_cat]; decide) jml_87 (Nat.le_of_ble_eq_true rfl) ?_
            refine jr_aload_n jf_95_106 rfl (jg2_ne rfl (jg2_ne rfl hl0)) ?_
            refine jr_iconst jf_95_107 jc_i_4 ?_
            refine jr_lload_n jf_95_108 rfl (jg2_ne rfl jg2_same) ?_
            replace h := jgd_of h; obtain ⟨hb44, h⟩ := h
            replace h := obd_of h; obtain ⟨x45, hx45, h⟩ := h
            refine jr_V6_2 jf_95_109 hb44 (by omega) (r_Section_lessTimes (by omega) _ _ _ _ _ hx45) (by simp only [jcats_cons, jcats_nil, cat_int, cat_long, cat_double, cat_float, cat_ref, rv_cat]; decide) jml_90 (Nat.le_of_ble_eq_true rfl) ?_
            replace h := obd_of h; obtain ⟨a46, rfl, h⟩ := h
            replace h := obd_of h; obtain ⟨x47, hx47, h⟩ := h
            rcases ite_or hx47 with ⟨hb, hx⟩ | ⟨hb0, hx⟩
            · refine jr_V8a_2 jf_95_112 hb (by omega) (r_Real_plus (by omega) _ _ _ _ _ hx) (by simp only [jcats_cons, jcats_nil, cat_int, cat_long, cat_double, cat_float, cat_ref, rv_cat]; decide) jml_74 (Nat.le_of_ble_eq_true rfl) ?_
              replace h := jgd_of h; obtain ⟨hb48, h⟩ := h
              replace h := jbd2_of h; obtain ⟨x49, μ50, hx49, h⟩ := h
              refine jr_V6_1 jf_95_115 hb48 (by omega) (r_Section_settled (by omega) _ _ _ _ _ hx49) (by simp only [jcats_cons, jcats_nil, cat_int, cat_long, cat_double, cat_float, cat_ref, rv_cat]; decide) jml_79 (Nat.le_of_ble_eq_true rfl) ?_
              replace h := obd_of h; obtain ⟨a51, rfl, h⟩ := h
              replace h := jgd_of h; obtain ⟨hb52, h⟩ := h
              replace h := obd_of h; obtain ⟨μ53, hμ53, h⟩ := h
              refine jr_V6v_2 jf_95_118 hb52 (by omega) (r_Row_put (by omega) _ _ _ _ _ hμ53) (Nat.le_of_ble_eq_true rfl) jml_66 (Nat.le_of_ble_eq_true rfl) ?_
              refine jr_lload_n jf_95_121 rfl (jg2_ne rfl jg2_same) ?_
              obtain ⟨rfl, rfl⟩ := Prod.mk.inj (Option.some.inj h)
              exact jr_retJ jf_95_122 jmt_95
            · obtain ⟨hb, hx⟩ := jgd_of hx
              obtain hx := Option.some.inj hx
              refine jr_V8b_2 jf_95_112 hb0 hb (by omega) (r_Shorts_plus (by omega) _ _ _ _ _ hx) (by simp only [jcats_cons, jcats_nil, cat_int, cat_long, cat_double, cat_float, cat_ref, rv_cat]; decide) jml_78 (Nat.le_of_ble_eq_true rfl) ?_
              replace h := jgd_of h; obtain ⟨hb48, h⟩ := h
              replace h := jbd2_of h; obtain ⟨x49, μ50, hx49, h⟩ := h
              refine jr_V6_1 jf_95_115 hb48 (by omega) (r_Section_settled (by omega) _ _ _ _ _ hx49) (by simp only [jcats_cons, jcats_nil, cat_int, cat_long, cat_double, cat_float, cat_ref, rv_cat]; decide) jml_79 (Nat.le_of_ble_eq_true rfl) ?_
              replace h := obd_of h; obtain ⟨a51, rfl, h⟩ := h
              replace h := jgd_of h; obtain ⟨hb52, h⟩ := h
              replace h := obd_of h; obtain ⟨μ53, hμ53, h⟩ := h
              refine jr_V6v_2 jf_95_118 hb52 (by omega) (r_Row_put (by omega) _ _ _ _ _ hμ53) (Nat.le_of_ble_eq_true rfl) jml_66 (Nat.le_of_ble_eq_true rfl) ?_
              refine jr_lload_n jf_95_121 rfl (jg2_ne rfl jg2_same) ?_
              obtain ⟨rfl, rfl⟩ := Prod.mk.inj (Option.some.inj h)
              exact jr_retJ jf_95_122 jmt_95
          · obtain ⟨hb, hx⟩ := jgd_of hx
            obtain hx := Option.some.inj hx
            refine jr_V8b_2 jf_95_81 hb0 hb (by omega) (r_Shorts_plus (by omega) _ _ _ _ _ hx) (by simp only [jcats_cons, jcats_nil, cat_int, cat_long, cat_double, cat_float, cat_ref, rv_cat]; decide) jml_78 (Nat.le_of_ble_eq_true rfl) ?_
            replace h := jgd_of h; obtain ⟨hb34, h⟩ := h
            replace h := jbd2_of h; obtain ⟨x35, μ36, hx35, h⟩ := h
            refine jr_V6_1 jf_95_84 hb34 (by omega) (r_Section_settled (by omega) _ _ _ _ _ hx35) (by simp only [jcats_cons, jcats_nil, cat_int, cat_long, cat_double, cat_float, cat_ref, rv_cat]; decide) jml_79 (Nat.le_of_ble_eq_true rfl) ?_
            replace h := obd_of h; obtain ⟨a37, rfl, h⟩ := h
            replace h := jgd_of h; obtain ⟨hb38, h⟩ := h
            replace h := obd_of h; obtain ⟨μ39, hμ39, h⟩ := h
            refine jr_V6v_2 jf_95_87 hb38 (by omega) (r_Row_put (by omega) _ _ _ _ _ hμ39) (Nat.le_of_ble_eq_true rfl) jml_66 (Nat.le_of_ble_eq_true rfl) ?_
            refine jr_aload_n jf_95_90 rfl (jg2_ne rfl (jg2_ne rfl hl0)) ?_
            replace h := obd_of h; obtain ⟨x40, hx40, h⟩ := h
            refine jr_getA jf_95_91 hx40 ?_
            refine jr_iconst jf_95_94 jc_i_1 ?_
            refine jr_aload_n jf_95_95 rfl (jg2_ne rfl (jg2_ne rfl hl0)) ?_
            refine jr_aload_n jf_95_96 rfl (jg2_ne rfl (jg2_ne rfl hl0)) ?_
            replace h := obd_of h; obtain ⟨x41, hx41, h⟩ := h
            refine jr_getA jf_95_97 hx41 ?_
            refine jr_aload_n jf_95_100 rfl (jg2_ne rfl (jg2_ne rfl hl0)) ?_
            refine jr_iconst jf_95_101 jc_i_2 ?_
            refine jr_lload_n jf_95_102 rfl (jg2_ne rfl (jg2_ne rfl hl1)) ?_
            replace h := jgd_of h; obtain ⟨hb42, h⟩ := h
            replace h := obd_of h; obtain ⟨x43, hx43, h⟩ := h
            refine jr_V6_2 jf_95_103 hb42 (by omega) (r_Section_times (by omega) _ _ _ _ _ hx43) (by simp only [jcats_cons, jcats_nil, cat_int, cat_long, cat_double, cat_float, cat_ref, rv_cat]; decide) jml_87 (Nat.le_of_ble_eq_true rfl) ?_
            refine jr_aload_n jf_95_106 rfl (jg2_ne rfl (jg2_ne rfl hl0)) ?_
            refine jr_iconst jf_95_107 jc_i_4 ?_
            refine jr_lload_n jf_95_108 rfl (jg2_ne rfl jg2_same) ?_
            replace h := jgd_of h; obtain ⟨hb44, h⟩ := h
            replace h := obd_of h; obtain ⟨x45, hx45, h⟩ := h
            refine jr_V6_2 jf_95_109 hb44 (by omega) (r_Section_lessTimes (by omega) _ _ _ _ _ hx45) (by simp only [jcats_cons, jcats_nil, cat_int, cat_long, cat_double, cat_float, cat_ref, rv_cat]; decide) jml_90 (Nat.le_of_ble_eq_true rfl) ?_
            replace h := obd_of h; obtain ⟨a46, rfl, h⟩ := h
            replace h := obd_of h; obtain ⟨x47, hx47, h⟩ := h
            rcases ite_or hx47 with ⟨hb, hx⟩ | ⟨hb0, hx⟩
            · refine jr_V8a_2 jf_95_112 hb (by omega) (r_Real_plus (by omega) _ _ _ _ _ hx) (by simp only [jcats_cons, jcats_nil, cat_int, cat_long, cat_double, cat_float, cat_ref, rv_cat]; decide) jml_74 (Nat.le_of_ble_eq_true rfl) ?_
              replace h := jgd_of h; obtain ⟨hb48, h⟩ := h
              replace h := jbd2_of h; obtain ⟨x49, μ50, hx49, h⟩ := h
              refine jr_V6_1 jf_95_115 hb48 (by omega) (r_Section_settled (by omega) _ _ _ _ _ hx49) (by simp only [jcats_cons, jcats_nil, cat_int, cat_long, cat_double, cat_float, cat_ref, rv_cat]; decide) jml_79 (Nat.le_of_ble_eq_true rfl) ?_
              replace h := obd_of h; obtain ⟨a51, rfl, h⟩ := h
              replace h := jgd_of h; obtain ⟨hb52, h⟩ := h
              replace h := obd_of h; obtain ⟨μ53, hμ53, h⟩ := h
              refine jr_V6v_2 jf_95_118 hb52 (by omega) (r_Row_put (by omega) _ _ _ _ _ hμ53) (Nat.le_of_ble_eq_true rfl) jml_66 (Nat.le_of_ble_eq_true rfl) ?_
              refine jr_lload_n jf_95_121 rfl (jg2_ne rfl jg2_same) ?_
              obtain ⟨rfl, rfl⟩ := Prod.mk.inj (Option.some.inj h)
              exact jr_retJ jf_95_122 jmt_95
            · obtain ⟨hb, hx⟩ := jgd_of hx
              obtain hx := Option.some.inj hx
              refine jr_V8b_2 jf_95_112 hb0 hb (by omega) (r_Shorts_plus (by omega) _ _ _ _ _ hx) (by simp only [jcats_cons, jcats_nil, cat_int, cat_long, cat_double, cat_float, cat_ref, rv_cat]; decide) jml_78 (Nat.le_of_ble_eq_true rfl) ?_
              replace h := jgd_of h; obtain ⟨hb48, h⟩ := h
              replace h := jbd2_of h; obtain ⟨x49, μ50, hx49, h⟩ := h
              refine jr_V6_1 jf_95_115 hb48 (by omega) (r_Section_settled (by omega) _ _ _ _ _ hx49) (by simp only [jcats_cons, jcats_nil, cat_int, cat_long, cat_double, cat_float, cat_ref, rv_cat]; decide) jml_79 (Nat.le_of_ble_eq_true rfl) ?_
              replace h := obd_of h; obtain ⟨a51, rfl, h⟩ := h
              replace h := jgd_of h; obtain ⟨hb52, h⟩ := h
              replace h := obd_of h; obtain ⟨μ53, hμ53, h⟩ := h
              refine jr_V6v_2 jf_95_118 hb52 (by omega) (r_Row_put (by omega) _ _ _ _ _ hμ53) (Nat.le_of_ble_eq_true rfl) jml_66 (Nat.le_of_ble_eq_true rfl) ?_
              refine jr_lload_n jf_95_121 rfl (jg2_ne rfl jg2_same) ?_
              obtain ⟨rfl, rfl⟩ := Prod.mk.inj (Option.some.inj h)
              exact jr_retJ jf_95_122 jmt_95
        · obtain ⟨hb, hx⟩ := jgd_of hx
          obtain hx := Option.some.inj hx
          refine jr_V8b_1 jf_95_78 hb0 hb (by omega) (r_Shorts_term (by omega) _ _ _ _ hx) (by simp only [jcats_cons, jcats_nil, cat_int, cat_long, cat_double, cat_float, cat_ref, rv_cat]; decide) jml_73 (Nat.le_of_ble_eq_true rfl) ?_
          replace h := obd_of h; obtain ⟨a32, rfl, h⟩ := h
          replace h := obd_of h; obtain ⟨x33, hx33, h⟩ := h
          rcases ite_or hx33 with ⟨hb, hx⟩ | ⟨hb0, hx⟩
          · refine jr_V8a_2 jf_95_81 hb (by omega) (r_Real_plus (by omega) _ _ _ _ _ hx) (by simp only [jcats_cons, jcats_nil, cat_int, cat_long, cat_double, cat_float, cat_ref, rv_cat]; decide) jml_74 (Nat.le_of_ble_eq_true rfl) ?_
            replace h := jgd_of h; obtain ⟨hb34, h⟩ := h
            replace h := jbd2_of h; obtain ⟨x35, μ36, hx35, h⟩ := h
            refine jr_V6_1 jf_95_84 hb34 (by omega) (r_Section_settled (by omega) _ _ _ _ _ hx35) (by simp only [jcats_cons, jcats_nil, cat_int, cat_long, cat_double, cat_float, cat_ref, rv_cat]; decide) jml_79 (Nat.le_of_ble_eq_true rfl) ?_
            replace h := obd_of h; obtain ⟨a37, rfl, h⟩ := h
            replace h := jgd_of h; obtain ⟨hb38, h⟩ := h
            replace h := obd_of h; obtain ⟨μ39, hμ39, h⟩ := h
            refine jr_V6v_2 jf_95_87 hb38 (by omega) (r_Row_put (by omega) _ _ _ _ _ hμ39) (Nat.le_of_ble_eq_true rfl) jml_66 (Nat.le_of_ble_eq_true rfl) ?_
            refine jr_aload_n jf_95_90 rfl (jg2_ne rfl (jg2_ne rfl hl0)) ?_
            replace h := obd_of h; obtain ⟨x40, hx40, h⟩ := h
            refine jr_getA jf_95_91 hx40 ?_
            refine jr_iconst jf_95_94 jc_i_1 ?_
            refine jr_aload_n jf_95_95 rfl (jg2_ne rfl (jg2_ne rfl hl0)) ?_
            refine jr_aload_n jf_95_96 rfl (jg2_ne rfl (jg2_ne rfl hl0)) ?_
            replace h := obd_of h; obtain ⟨x41, hx41, h⟩ := h
            refine jr_getA jf_95_97 hx41 ?_
            refine jr_aload_n jf_95_100 rfl (jg2_ne rfl (jg2_ne rfl hl0)) ?_
            refine jr_iconst jf_95_101 jc_i_2 ?_
            refine jr_lload_n jf_95_102 rfl (jg2_ne rfl (jg2_ne rfl hl1)) ?_
            replace h := jgd_of h; obtain ⟨hb42, h⟩ := h
            replace h := obd_of h; obtain ⟨x43, hx43, h⟩ := h
            refine jr_V6_2 jf_95_103 hb42 (by omega) (r_Section_times (by omega) _ _ _ _ _ hx43) (by simp only [jcats_cons, jcats_nil, cat_int, cat_long, cat_double, cat_float, cat_ref, rv_cat]; decide) jml_87 (Nat.le_of_ble_eq_true rfl) ?_
            refine jr_aload_n jf_95_106 rfl (jg2_ne rfl (jg2_ne rfl hl0)) ?_
            refine jr_iconst jf_95_107 jc_i_4 ?_
            refine jr_lload_n jf_95_108 rfl (jg2_ne rfl jg2_same) ?_
            replace h := jgd_of h; obtain ⟨hb44, h⟩ := h
            replace h := obd_of h; obtain ⟨x45, hx45, h⟩ := h
            refine jr_V6_2 jf_95_109 hb44 (by omega) (r_Section_lessTimes (by omega) _ _ _ _ _ hx45) (by simp only [jcats_cons, jcats_nil, cat_int, cat_long, cat_double, cat_float, cat_ref, rv_cat]; decide) jml_90 (Nat.le_of_ble_eq_true rfl) ?_
            replace h := obd_of h; obtain ⟨a46, rfl, h⟩ := h
            replace h := obd_of h; obtain ⟨x47, hx47, h⟩ := h
            rcases ite_or hx47 with ⟨hb, hx⟩ | ⟨hb0, hx⟩
            · refine jr_V8a_2 jf_95_112 hb (by omega) (r_Real_plus (by omega) _ _ _ _ _ hx) (by simp only [jcats_cons, jcats_nil, cat_int, cat_long, cat_double, cat_float, cat_ref, rv_cat]; decide) jml_74 (Nat.le_of_ble_eq_true rfl) ?_
              replace h := jgd_of h; obtain ⟨hb48, h⟩ := h
              replace h := jbd2_of h; obtain ⟨x49, μ50, hx49, h⟩ := h
              refine jr_V6_1 jf_95_115 hb48 (by omega) (r_Section_settled (by omega) _ _ _ _ _ hx49) (by simp only [jcats_cons, jcats_nil, cat_int, cat_long, cat_double, cat_float, cat_ref, rv_cat]; decide) jml_79 (Nat.le_of_ble_eq_true rfl) ?_
              replace h := obd_of h; obtain ⟨a51, rfl, h⟩ := h
              replace h := jgd_of h; obtain ⟨hb52, h⟩ := h
              replace h := obd_of h; obtain ⟨μ53, hμ53, h⟩ := h
              refine jr_V6v_2 jf_95_118 hb52 (by omega) (r_Row_put (by omega) _ _ _ _ _ hμ53) (Nat.le_of_ble_eq_true rfl) jml_66 (Nat.le_of_ble_eq_true rfl) ?_
              refine jr_lload_n jf_95_121 rfl (jg2_ne rfl jg2_same) ?_
              obtain ⟨rfl, rfl⟩ := Prod.mk.inj (Option.some.inj h)
              exact jr_retJ jf_95_122 jmt_95
            · obtain ⟨hb, hx⟩ := jgd_of hx
              obtain hx := Option.some.inj hx
              refine jr_V8b_2 jf_95_112 hb0 hb (by omega) (r_Shorts_plus (by omega) _ _ _ _ _ hx) (by simp only [jcats_cons, jcats_nil, cat_int, cat_long, cat_double, cat_float, cat_ref, rv_cat]; decide) jml_78 (Nat.le_of_ble_eq_true rfl) ?_
              replace h := jgd_of h; obtain ⟨hb48, h⟩ := h
              replace h := jbd2_of h; obtain ⟨x49, μ50, hx49, h⟩ := h
              refine jr_V6_1 jf_95_115 hb48 (by omega) (r_Section_settled (by omega) _ _ _ _ _ hx49) (by simp only [jcats_cons, jcats_nil, cat_int, cat_long, cat_double, cat_float, cat_ref, rv_cat]; decide) jml_79 (Nat.le_of_ble_eq_true rfl) ?_
              replace h := obd_of h; obtain ⟨a51, rfl, h⟩ := h
              replace h := jgd_of h; obtain ⟨hb52, h⟩ := h
              replace h := obd_of h; obtain ⟨μ53, hμ53, h⟩ := h
              refine jr_V6v_2 jf_95_118 hb52 (by omega) (r_Row_put (by omega) _ _ _ _ _ hμ53) (Nat.le_of_ble_eq_true rfl) jml_66 (Nat.le_of_ble_eq_true rfl) ?_
              refine jr_lload_n jf_95_121 rfl (jg2_ne rfl jg2_same) ?_
              obtain ⟨rfl, rfl⟩ := Prod.mk.inj (Option.some.inj h)
              exact jr_retJ jf_95_122 jmt_95
          · obtain ⟨hb, hx⟩ := jgd_of hx
            obtain hx := Option.some.inj hx
            refine jr_V8b_2 jf_95_81 hb0 hb (by omega) (r_Shorts_plus (by omega) _ _ _ _ _ hx) (by simp only [jcats_cons, jcats_nil, cat_int, cat_long, cat_double, cat_float, cat_ref, rv_cat]; decide) jml_78 (Nat.le_of_ble_eq_true rfl) ?_
            replace h := jgd_of h; obtain ⟨hb34, h⟩ := h
            replace h := jbd2_of h; obtain ⟨x35, μ36, hx35, h⟩ := h
            refine jr_V6_1 jf_95_84 hb34 (by omega) (r_Section_settled (by omega) _ _ _ _ _ hx35) (by simp only [jcats_cons, jcats_nil, cat_int, cat_long, cat_double, cat_float, cat_ref, rv_cat]; decide) jml_79 (Nat.le_of_ble_eq_true rfl) ?_
            replace h := obd_of h; obtain ⟨a37, rfl, h⟩ := h
            replace h := jgd_of h; obtain ⟨hb38, h⟩ := h
            replace h := obd_of h; obtain ⟨μ39, hμ39, h⟩ := h
            refine jr_V6v_2 jf_95_87 hb38 (by omega) (r_Row_put (by omega) _ _ _ _ _ hμ39) (Nat.le_of_ble_eq_true rfl) jml_66 (Nat.le_of_ble_eq_true rfl) ?_
            refine jr_aload_n jf_95_90 rfl (jg2_ne rfl (jg2_ne rfl hl0)) ?_
            replace h := obd_of h; obtain ⟨x40, hx40, h⟩ := h
            refine jr_getA jf_95_91 hx40 ?_
            refine jr_iconst jf_95_94 jc_i_1 ?_
            refine jr_aload_n jf_95_95 rfl (jg2_ne rfl (jg2_ne rfl hl0)) ?_
            refine jr_aload_n jf_95_96 rfl (jg2_ne rfl (jg2_ne rfl hl0)) ?_
            replace h := obd_of h; obtain ⟨x41, hx41, h⟩ := h
            refine jr_getA jf_95_97 hx41 ?_
            refine jr_aload_n jf_95_100 rfl (jg2_ne rfl (jg2_ne rfl hl0)) ?_
            refine jr_iconst jf_95_101 jc_i_2 ?_
            refine jr_lload_n jf_95_102 rfl (jg2_ne rfl (jg2_ne rfl hl1)) ?_
            replace h := jgd_of h; obtain ⟨hb42, h⟩ := h
            replace h := obd_of h; obtain ⟨x43, hx43, h⟩ := h
            refine jr_V6_2 jf_95_103 hb42 (by omega) (r_Section_times (by omega) _ _ _ _ _ hx43) (by simp only [jcats_cons, jcats_nil, cat_int, cat_long, cat_double, cat_float, cat_ref, rv_cat]; decide) jml_87 (Nat.le_of_ble_eq_true rfl) ?_
            refine jr_aload_n jf_95_106 rfl (jg2_ne rfl (jg2_ne rfl hl0)) ?_
            refine jr_iconst jf_95_107 jc_i_4 ?_
            refine jr_lload_n jf_95_108 rfl (jg2_ne rfl jg2_same) ?_
            replace h := jgd_of h; obtain ⟨hb44, h⟩ := h
            replace h := obd_of h; obtain ⟨x45, hx45, h⟩ := h
            refine jr_V6_2 jf_95_109 hb44 (by omega) (r_Section_lessTimes (by omega) _ _ _ _ _ hx45) (by simp only [jcats_cons, jcats_nil, cat_int, cat_long, cat_double, cat_float, cat_ref, rv_cat]; decide) jml_90 (Nat.le_of_ble_eq_true rfl) ?_
            replace h := obd_of h; obtain ⟨a46, rfl, h⟩ := h
            replace h := obd_of h; obtain ⟨x47, hx47, h⟩ := h
            rcases ite_or hx47 with ⟨hb, hx⟩ | ⟨hb0, hx⟩
            · refine jr_V8a_2 jf_95_112 hb (by omega) (r_Real_plus (by omega) _ _ _ _ _ hx) (by simp only [jcats_cons, jcats_nil, cat_int, cat_long, cat_double, cat_float, cat_ref, rv_cat]; decide) jml_74 (Nat.le_of_ble_eq_true rfl) ?_
              replace h := jgd_of h; obtain ⟨hb48, h⟩ := h
              replace h := jbd2_of h; obtain ⟨x49, μ50, hx49, h⟩ := h
              refine jr_V6_1 jf_95_115 hb48 (by omega) (r_Section_settled (by omega) _ _ _ _ _ hx49) (by simp only [jcats_cons, jcats_nil, cat_int, cat_long, cat_double, cat_float, cat_ref, rv_cat]; decide) jml_79 (Nat.le_of_ble_eq_true rfl) ?_
              replace h := obd_of h; obtain ⟨a51, rfl, h⟩ := h
              replace h := jgd_of h; obtain ⟨hb52, h⟩ := h
              replace h := obd_of h; obtain ⟨μ53, hμ53, h⟩ := h
              refine jr_V6v_2 jf_95_118 hb52 (by omega) (r_Row_put (by omega) _ _ _ _ _ hμ53) (Nat.le_of_ble_eq_true rfl) jml_66 (Nat.le_of_ble_eq_true rfl) ?_
              refine jr_lload_n jf_95_121 rfl (jg2_ne rfl jg2_same) ?_
              obtain ⟨rfl, rfl⟩ := Prod.mk.inj (Option.some.inj h)
              exact jr_retJ jf_95_122 jmt_95
            · obtain ⟨hb, hx⟩ := jgd_of hx
              obtain hx := Option.some.inj hx
              refine jr_V8b_2 jf_95_112 hb0 hb (by omega) (r_Shorts_plus (by omega) _ _ _ _ _ hx) (by simp only [jcats_cons, jcats_nil, cat_int, cat_long, cat_double, cat_float, cat_ref, rv_cat]; decide) jml_78 (Nat.le_of_ble_eq_true rfl) ?_
              replace h := jgd_of h; obtain ⟨hb48, h⟩ := h
              replace h := jbd2_of h; obtain ⟨x49, μ50, hx49, h⟩ := h
              refine jr_V6_1 jf_95_115 hb48 (by omega) (r_Section_settled (by omega) _ _ _ _ _ hx49) (by simp only [jcats_cons, jcats_nil, cat_int, cat_long, cat_double, cat_float, cat_ref, rv_cat]; decide) jml_79 (Nat.le_of_ble_eq_true rfl) ?_
              replace h := obd_of h; obtain ⟨a51, rfl, h⟩ := h
              replace h := jgd_of h; obtain ⟨hb52, h⟩ := h
              replace h := obd_of h; obtain ⟨μ53, hμ53, h⟩ := h
              refine jr_V6v_2 jf_95_118 hb52 (by omega) (r_Row_put (by omega) _ _ _ _ _ hμ53) (Nat.le_of_ble_eq_true rfl) jml_66 (Nat.le_of_ble_eq_true rfl) ?_
              refine jr_lload_n jf_95_121 rfl (jg2_ne rfl jg2_same) ?_
              obtain ⟨rfl, rfl⟩ := Prod.mk.inj (Option.some.inj h)
              exact jr_retJ jf_95_122 jmt_95
      · obtain ⟨hb, hx⟩ := jgd_of hx
        obtain hx := Option.some.inj hx
        refine jr_V8b_2 jf_95_49 hb0 hb (by omega) (r_Shorts_plus (by omega) _ _ _ _ _ hx) (Nat.le_of_ble_eq_true rfl) jml_78 (Nat.le_of_ble_eq_true rfl) ?_
        refine jr_lstore jf_95_52 jml_95 (by decide) ?_
        refine jr_aload_n jf_95_54 rfl (jg2_ne rfl (jg2_ne rfl hl0)) ?_
        replace h := obd_of h; obtain ⟨x23, hx23, h⟩ := h
        refine jr_getA jf_95_55 hx23 ?_
        refine jr_iconst jf_95_58 jc_i_0 ?_
        refine jr_aload_n jf_95_59 rfl (jg2_ne rfl (jg2_ne rfl hl0)) ?_
        refine jr_aload_n jf_95_60 rfl (jg2_ne rfl (jg2_ne rfl hl0)) ?_
        replace h := obd_of h; obtain ⟨x24, hx24, h⟩ := h
        refine jr_getA jf_95_61 hx24 ?_
        refine jr_lload jf_95_64 jg2_same ?_
        refine jr_aload_n jf_95_66 rfl (jg2_ne rfl (jg2_ne rfl hl0)) ?_
        replace h := obd_of h; obtain ⟨x25, hx25, h⟩ := h
        refine jr_getA jf_95_67 hx25 ?_
        refine jr_aload_n jf_95_70 rfl (jg2_ne rfl (jg2_ne rfl hl0)) ?_
        replace h := obd_of h; obtain ⟨x26, hx26, h⟩ := h
        refine jr_getA jf_95_71 hx26 ?_
        refine jr_iconst jf_95_74 jc_i_1 ?_
        replace h := obd_of h; obtain ⟨a27, rfl, h⟩ := h
        replace h := jgd_of h; obtain ⟨hb28, h⟩ := h
        replace h := obd_of h; obtain ⟨x29, hx29, h⟩ := h
        refine jr_V6_1 jf_95_75 hb28 (by omega) (r_Row_at (by omega) _ _ _ _ hx29) (by simp only [jcats_cons, jcats_nil, cat_int, cat_long, cat_double, cat_float, cat_ref, rv_cat]; decide) jml_38 (Nat.le_of_ble_eq_true rfl) ?_
        replace h := obd_of h; obtain ⟨a30, rfl, h⟩ := h
        replace h := obd_of h; obtain ⟨x31, hx31, h⟩ := h
        rcases ite_or hx31 with ⟨hb, hx⟩ | ⟨hb0, hx⟩
        · obtain hx := Option.some.inj hx
          refine jr_V8a_1 jf_95_78 hb (by omega) (r_Real_term (by omega) _ _ _ _ hx) (by simp only [jcats_cons, jcats_nil, cat_int, cat_long, cat_double, cat_float, cat_ref, rv_cat]; decide) jml_72 (Nat.le_of_ble_eq_true rfl) ?_
          replace h := obd_of h; obtain ⟨a32, rfl, h⟩ := h
          replace h := obd_of h; obtain ⟨x33, hx33, h⟩ := h
          rcases ite_or hx33 with ⟨hb, hx⟩ | ⟨hb0, hx⟩
          · refine jr_V8a_2 jf_95_81 hb (by omega) (r_Real_plus (by omega) _ _ _ _ _ hx) (by simp only [jcats_cons, jcats_nil, cat_int, cat_long, cat_double, cat_float, cat_ref, rv_cat]; decide) jml_74 (Nat.le_of_ble_eq_true rfl) ?_
            replace h := jgd_of h; obtain ⟨hb34, h⟩ := h
            replace h := jbd2_of h; obtain ⟨x35, μ36, hx35, h⟩ := h
            refine jr_V6_1 jf_95_84 hb34 (by omega) (r_Section_settled (by omega) _ _ _ _ _ hx35) (by simp only [jcats_cons, jcats_nil, cat_int, cat_long, cat_double, cat_float, cat_ref, rv_cat]; decide) jml_79 (Nat.le_of_ble_eq_true rfl) ?_
            replace h := obd_of h; obtain ⟨a37, rfl, h⟩ := h
            replace h := jgd_of h; obtain ⟨hb38, h⟩ := h
            replace h := obd_of h; obtain ⟨μ39, hμ39, h⟩ := h
            refine jr_V6v_2 jf_95_87 hb38 (by omega) (r_Row_put (by omega) _ _ _ _ _ hμ39) (Nat.le_of_ble_eq_true rfl) jml_66 (Nat.le_of_ble_eq_true rfl) ?_
            refine jr_aload_n jf_95_90 rfl (jg2_ne rfl (jg2_ne rfl hl0)) ?_
            replace h := obd_of h; obtain ⟨x40, hx40, h⟩ := h
            refine jr_getA jf_95_91 hx40 ?_
            refine jr_iconst jf_95_94 jc_i_1 ?_
            refine jr_aload_n jf_95_95 rfl (jg2_ne rfl (jg2_ne rfl hl0)) ?_
            refine jr_aload_n jf_95_96 rfl (jg2_ne rfl (jg2_ne rfl hl0)) ?_
            replace h := obd_of h; obtain ⟨x41, hx41, h⟩ := h
            refine jr_getA jf_95_97 hx41 ?_
            refine jr_aload_n jf_95_100 rfl (jg2_ne rfl (jg2_ne rfl hl0)) ?_
            refine jr_iconst jf_95_101 jc_i_2 ?_
            refine jr_lload_n jf_95_102 rfl (jg2_ne rfl (jg2_ne rfl hl1)) ?_
            replace h := jgd_of h; obtain ⟨hb42, h⟩ := h
            replace h := obd_of h; obtain ⟨x43, hx43, h⟩ := h
            refine jr_V6_2 jf_95_103 hb42 (by omega) (r_Section_times (by omega) _ _ _ _ _ hx43) (by simp only [jcats_cons, jcats_nil, cat_int, cat_long, cat_double, cat_float, cat_ref, rv_cat]; decide) jml_87 (Nat.le_of_ble_eq_true rfl) ?_
            refine jr_aload_n jf_95_106 rfl (jg2_ne rfl (jg2_ne rfl hl0)) ?_
            refine jr_iconst jf_95_107 jc_i_4 ?_
            refine jr_lload_n jf_95_108 rfl (jg2_ne rfl jg2_same) ?_
            replace h := jgd_of h; obtain ⟨hb44, h⟩ := h
            replace h := obd_of h; obtain ⟨x45, hx45, h⟩ := h
            refine jr_V6_2 jf_95_109 hb44 (by omega) (r_Section_lessTimes (by omega) _ _ _ _ _ hx45) (by simp only [jcats_cons, jcats_nil, cat_int, cat_long, cat_double, cat_float, cat_ref, rv_cat]; decide) jml_90 (Nat.le_of_ble_eq_true rfl) ?_
            replace h := obd_of h; obtain ⟨a46, rfl, h⟩ := h
            replace h := obd_of h; obtain ⟨x47, hx47, h⟩ := h
            rcases ite_or hx47 with ⟨hb, hx⟩ | ⟨hb0, hx⟩
            · refine jr_V8a_2 jf_95_112 hb (by omega) (r_Real_plus (by omega) _ _ _ _ _ hx) (by simp only [jcats_cons, jcats_nil, cat_int, cat_long, cat_double, cat_float, cat_ref, rv_cat]; decide) jml_74 (Nat.le_of_ble_eq_true rfl) ?_
              replace h := jgd_of h; obtain ⟨hb48, h⟩ := h
              replace h := jbd2_of h; obtain ⟨x49, μ50, hx49, h⟩ := h
              refine jr_V6_1 jf_95_115 hb48 (by omega) (r_Section_settled (by omega) _ _ _ _ _ hx49) (by simp only [jcats_cons, jcats_nil, cat_int, cat_long, cat_double, cat_float, cat_ref, rv_cat]; decide) jml_79 (Nat.le_of_ble_eq_true rfl) ?_
              replace h := obd_of h; obtain ⟨a51, rfl, h⟩ := h
              replace h := jgd_of h; obtain ⟨hb52, h⟩ := h
              replace h := obd_of h; obtain ⟨μ53, hμ53, h⟩ := h
              refine jr_V6v_2 jf_95_118 hb52 (by omega) (r_Row_put (by omega) _ _ _ _ _ hμ53) (Nat.le_of_ble_eq_true rfl) jml_66 (Nat.le_of_ble_eq_true rfl) ?_
              refine jr_lload_n jf_95_121 rfl (jg2_ne rfl jg2_same) ?_
              obtain ⟨rfl, rfl⟩ := Prod.mk.inj (Option.some.inj h)
              exact jr_retJ jf_95_122 jmt_95
            · obtain ⟨hb, hx⟩ := jgd_of hx
              obtain hx := Option.some.inj hx
              refine jr_V8b_2 jf_95_112 hb0 hb (by omega) (r_Shorts_plus (by omega) _ _ _ _ _ hx) (by simp only [jcats_cons, jcats_nil, cat_int, cat_long, cat_double, cat_float, cat_ref, rv_cat]; decide) jml_78 (Nat.le_of_ble_eq_true rfl) ?_
              replace h := jgd_of h; obtain ⟨hb48, h⟩ := h
              replace h := jbd2_of h; obtain ⟨x49, μ50, hx49, h⟩ := h
              refine jr_V6_1 jf_95_115 hb48 (by omega) (r_Section_settled (by omega) _ _ _ _ _ hx49) (by simp only [jcats_cons, jcats_nil, cat_int, cat_long, cat_double, cat_float, cat_ref, rv_cat]; decide) jml_79 (Nat.le_of_ble_eq_true rfl) ?_
              replace h := obd_of h; obtain ⟨a51, rfl, h⟩ := h
              replace h := jgd_of h; obtain ⟨hb52, h⟩ := h
              replace h := obd_of h; obtain ⟨μ53, hμ53, h⟩ := h
              refine jr_V6v_2 jf_95_118 hb52 (by omega) (r_Row_put (by omega) _ _ _ _ _ hμ53) (Nat.le_of_ble_eq_true rfl) jml_66 (Nat.le_of_ble_eq_true rfl) ?_
              refine jr_lload_n jf_95_121 rfl (jg2_ne rfl jg2_same) ?_
              obtain ⟨rfl, rfl⟩ := Prod.mk.inj (Option.some.inj h)
              exact jr_retJ jf_95_122 jmt_95
          · obtain ⟨hb, hx⟩ := jgd_of hx
            obtain hx := Option.some.inj hx
            refine jr_V8b_2 jf_95_81 hb0 hb (by omega) (r_Shorts_plus (by omega) _ _ _ _ _ hx) (by simp only [jcats_cons, jcats_nil, cat_int, cat_long, cat_double, cat_float, cat_ref, rv_cat]; decide) jml_78 (Nat.le_of_ble_eq_true rfl) ?_
            replace h := jgd_of h; obtain ⟨hb34, h⟩ := h
            replace h := jbd2_of h; obtain ⟨x35, μ36, hx35, h⟩ := h
            refine jr_V6_1 jf_95_84 hb34 (by omega) (r_Section_settled (by omega) _ _ _ _ _ hx35) (by simp only [jcats_cons, jcats_nil, cat_int, cat_long, cat_double, cat_float, cat_ref, rv_cat]; decide) jml_79 (Nat.le_of_ble_eq_true rfl) ?_
            replace h := obd_of h; obtain ⟨a37, rfl, h⟩ := h
            replace h := jgd_of h; obtain ⟨hb38, h⟩ := h
            replace h := obd_of h; obtain ⟨μ39, hμ39, h⟩ := h
            refine jr_V6v_2 jf_95_87 hb38 (by omega) (r_Row_put (by omega) _ _ _ _ _ hμ39) (Nat.le_of_ble_eq_true rfl) jml_66 (Nat.le_of_ble_eq_true rfl) ?_
            refine jr_aload_n jf_95_90 rfl (jg2_ne rfl (jg2_ne rfl hl0)) ?_
            replace h := obd_of h; obtain ⟨x40, hx40, h⟩ := h
            refine jr_getA jf_95_91 hx40 ?_
            refine jr_iconst jf_95_94 jc_i_1 ?_
            refine jr_aload_n jf_95_95 rfl (jg2_ne rfl (jg2_ne rfl hl0)) ?_
            refine jr_aload_n jf_95_96 rfl (jg2_ne rfl (jg2_ne rfl hl0)) ?_
            replace h := obd_of h; obtain ⟨x41, hx41, h⟩ := h
            refine jr_getA jf_95_97 hx41 ?_
            refine jr_aload_n jf_95_100 rfl (jg2_ne rfl (jg2_ne rfl hl0)) ?_
            refine jr_iconst jf_95_101 jc_i_2 ?_
            refine jr_lload_n jf_95_102 rfl (jg2_ne rfl (jg2_ne rfl hl1)) ?_
            replace h := jgd_of h; obtain ⟨hb42, h⟩ := h
            replace h := obd_of h; obtain ⟨x43, hx43, h⟩ := h
            refine jr_V6_2 jf_95_103 hb42 (by omega) (r_Section_times (by omega) _ _ _ _ _ hx43) (by simp only [jcats_cons, jcats_nil, cat_int, cat_long, cat_double, cat_float, cat_ref, rv_cat]; decide) jml_87 (Nat.le_of_ble_eq_true rfl) ?_
            refine jr_aload_n jf_95_106 rfl (jg2_ne rfl (jg2_ne rfl hl0)) ?_
            refine jr_iconst jf_95_107 jc_i_4 ?_
            refine jr_lload_n jf_95_108 rfl (jg2_ne rfl jg2_same) ?_
            replace h := jgd_of h; obtain ⟨hb44, h⟩ := h
            replace h := obd_of h; obtain ⟨x45, hx45, h⟩ := h
            refine jr_V6_2 jf_95_109 hb44 (by omega) (r_Section_lessTimes (by omega) _ _ _ _ _ hx45) (by simp only [jcats_cons, jcats_nil, cat_int, cat_long, cat_double, cat_float, cat_ref, rv_cat]; decide) jml_90 (Nat.le_of_ble_eq_true rfl) ?_
            replace h := obd_of h; obtain ⟨a46, rfl, h⟩ := h
            replace h := obd_of h; obtain ⟨x47, hx47, h⟩ := h
            rcases ite_or hx47 with ⟨hb, hx⟩ | ⟨hb0, hx⟩
            · refine jr_V8a_2 jf_95_112 hb (by omega) (r_Real_plus (by omega) _ _ _ _ _ hx) (by simp only [jcats_cons, jcats_nil, cat_int, cat_long, cat_double, cat_float, cat_ref, rv_cat]; decide) jml_74 (Nat.le_of_ble_eq_true rfl) ?_
              replace h := jgd_of h; obtain ⟨hb48, h⟩ := h
              replace h := jbd2_of h; obtain ⟨x49, μ50, hx49, h⟩ := h
              refine jr_V6_1 jf_95_115 hb48 (by omega) (r_Section_settled (by omega) _ _ _ _ _ hx49) (by simp only [jcats_cons, jcats_nil, cat_int, cat_long, cat_double, cat_float, cat_ref, rv_cat]; decide) jml_79 (Nat.le_of_ble_eq_true rfl) ?_
              replace h := obd_of h; obtain ⟨a51, rfl, h⟩ := h
              replace h := jgd_of h; obtain ⟨hb52, h⟩ := h
              replace h := obd_of h; obtain ⟨μ53, hμ53, h⟩ := h
              refine jr_V6v_2 jf_95_118 hb52 (by omega) (r_Row_put (by omega) _ _ _ _ _ hμ53) (Nat.le_of_ble_eq_true rfl) jml_66 (Nat.le_of_ble_eq_true rfl) ?_
              refine jr_lload_n jf_95_121 rfl (jg2_ne rfl jg2_same) ?_
              obtain ⟨rfl, rfl⟩ := Prod.mk.inj (Option.some.inj h)
              exact jr_retJ jf_95_122 jmt_95
            · obtain ⟨hb, hx⟩ := jgd_of hx
              obtain hx := Option.some.inj hx
              refine jr_V8b_2 jf_95_112 hb0 hb (by omega) (r_Shorts_plus (by omega) _ _ _ _ _ hx) (by simp only [jcats_cons, jcats_nil, cat_int, cat_long, cat_double, cat_float, cat_ref, rv_cat]; decide) jml_78 (Nat.le_of_ble_eq_true rfl) ?_
              replace h := jgd_of h; obtain ⟨hb48, h⟩ := h
              replace h := jbd2_of h; obtain ⟨x49, μ50, hx49, h⟩ := h
              refine jr_V6_1 jf_95_115 hb48 (by omega) (r_Section_settled (by omega) _ _ _ _ _ hx49) (by simp only [jcats_cons, jcats_nil, cat_int, cat_long, cat_double, cat_float, cat_ref, rv_cat]; decide) jml_79 (Nat.le_of_ble_eq_true rfl) ?_
              replace h := obd_of h; obtain ⟨a51, rfl, h⟩ := h
              replace h := jgd_of h; obtain ⟨hb52, h⟩ := h
              replace h := obd_of h; obtain ⟨μ53, hμ53, h⟩ := h
              refine jr_V6v_2 jf_95_118 hb52 (by omega) (r_Row_put (by omega) _ _ _ _ _ hμ53) (Nat.le_of_ble_eq_true rfl) jml_66 (Nat.le_of_ble_eq_true rfl) ?_
              refine jr_lload_n jf_95_121 rfl (jg2_ne rfl jg2_same) ?_
              obtain ⟨rfl, rfl⟩ := Prod.mk.inj (Option.some.inj h)
              exact jr_retJ jf_95_122 jmt_95
        · obtain ⟨hb, hx⟩ := jgd_of hx
          obtain hx := Option.some.inj hx
          refine jr_V8b_1 jf_95_78 hb0 hb (by omega) (r_Shorts_term (by omega) _ _ _ _ hx) (by simp only [jcats_cons, jcats_nil, cat_int, cat_long, cat_double, cat_float, cat_ref, rv_cat]; decide) jml_73 (Nat.le_of_ble_eq_true rfl) ?_
          replace h := obd_of h; obtain ⟨a32, rfl, h⟩ := h
          replace h := obd_of h; obtain ⟨x33, hx33, h⟩ := h
          rcases ite_or hx33 with ⟨hb, hx⟩ | ⟨hb0, hx⟩
          · refine jr_V8a_2 jf_95_81 hb (by omega) (r_Real_plus (by omega) _ _ _ _ _ hx) (by simp only [jcats_cons, jcats_nil, cat_int, cat_long, cat_double, cat_float, cat_ref, rv_cat]; decide) jml_74 (Nat.le_of_ble_eq_true rfl) ?_
            replace h := jgd_of h; obtain ⟨hb34, h⟩ := h
            replace h := jbd2_of h; obtain ⟨x35, μ36, hx35, h⟩ := h
            refine jr_V6_1 jf_95_84 hb34 (by omega) (r_Section_settled (by omega) _ _ _ _ _ hx35) (by simp only [jcats_cons, jcats_nil, cat_int, cat_long, cat_double, cat_float, cat_ref, rv_cat]; decide) jml_79 (Nat.le_of_ble_eq_true rfl) ?_
            replace h := obd_of h; obtain ⟨a37, rfl, h⟩ := h
            replace h := jgd_of h; obtain ⟨hb38, h⟩ := h
            replace h := obd_of h; obtain ⟨μ39, hμ39, h⟩ := h
            refine jr_V6v_2 jf_95_87 hb38 (by omega) (r_Row_put (by omega) _ _ _ _ _ hμ39) (Nat.le_of_ble_eq_true rfl) jml_66 (Nat.le_of_ble_eq_true rfl) ?_
            refine jr_aload_n jf_95_90 rfl (jg2_ne rfl (jg2_ne rfl hl0)) ?_
            replace h := obd_of h; obtain ⟨x40, hx40, h⟩ := h
            refine jr_getA jf_95_91 hx40 ?_
            refine jr_iconst jf_95_94 jc_i_1 ?_
            refine jr_aload_n jf_95_95 rfl (jg2_ne rfl (jg2_ne rfl hl0)) ?_
            refine jr_aload_n jf_95_96 rfl (jg2_ne rfl (jg2_ne rfl hl0)) ?_
            replace h := obd_of h; obtain ⟨x41, hx41, h⟩ := h
            refine jr_getA jf_95_97 hx41 ?_
            refine jr_aload_n jf_95_100 rfl (jg2_ne rfl (jg2_ne rfl hl0)) ?_
            refine jr_iconst jf_95_101 jc_i_2 ?_
            refine jr_lload_n jf_95_102 rfl (jg2_ne rfl (jg2_ne rfl hl1)) ?_
            replace h := jgd_of h; obtain ⟨hb42, h⟩ := h
            replace h := obd_of h; obtain ⟨x43, hx43, h⟩ := h
            refine jr_V6_2 jf_95_103 hb42 (by omega) (r_Section_times (by omega) _ _ _ _ _ hx43) (by simp only [jcats_cons, jcats_nil, cat_int, cat_long, cat_double, cat_float, cat_ref, rv_cat]; decide) jml_87 (Nat.le_of_ble_eq_true rfl) ?_
            refine jr_aload_n jf_95_106 rfl (jg2_ne rfl (jg2_ne rfl hl0)) ?_
            refine jr_iconst jf_95_107 jc_i_4 ?_
            refine jr_lload_n jf_95_108 rfl (jg2_ne rfl jg2_same) ?_
            replace h := jgd_of h; obtain ⟨hb44, h⟩ := h
            replace h := obd_of h; obtain ⟨x45, hx45, h⟩ := h
            refine jr_V6_2 jf_95_109 hb44 (by omega) (r_Section_lessTimes (by omega) _ _ _ _ _ hx45) (by simp only [jcats_cons, jcats_nil, cat_int, cat_long, cat_double, cat_float, cat_ref, rv_cat]; decide) jml_90 (Nat.le_of_ble_eq_true rfl) ?_
            replace h := obd_of h; obtain ⟨a46, rfl, h⟩ := h
            replace h := obd_of h; obtain ⟨x47, hx47, h⟩ := h
            rcases ite_or hx47 with ⟨hb, hx⟩ | ⟨hb0, hx⟩
            · refine jr_V8a_2 jf_95_112 hb (by omega) (r_Real_plus (by omega) _ _ _ _ _ hx) (by simp only [jcats_cons, jcats_nil, cat_int, cat_long, cat_double, cat_float, cat_ref, rv_cat]; decide) jml_74 (Nat.le_of_ble_eq_true rfl) ?_
              replace h := jgd_of h; obtain ⟨hb48, h⟩ := h
              replace h := jbd2_of h; obtain ⟨x49, μ50, hx49, h⟩ := h
              refine jr_V6_1 jf_95_115 hb48 (by omega) (r_Section_settled (by omega) _ _ _ _ _ hx49) (by simp only [jcats_cons, jcats_nil, cat_int, cat_long, cat_double, cat_float, cat_ref, rv_cat]; decide) jml_79 (Nat.le_of_ble_eq_true rfl) ?_
              replace h := obd_of h; obtain ⟨a51, rfl, h⟩ := h
              replace h := jgd_of h; obtain ⟨hb52, h⟩ := h
              replace h := obd_of h; obtain ⟨μ53, hμ53, h⟩ := h
              refine jr_V6v_2 jf_95_118 hb52 (by omega) (r_Row_put (by omega) _ _ _ _ _ hμ53) (Nat.le_of_ble_eq_true rfl) jml_66 (Nat.le_of_ble_eq_true rfl) ?_
              refine jr_lload_n jf_95_121 rfl (jg2_ne rfl jg2_same) ?_
              obtain ⟨rfl, rfl⟩ := Prod.mk.inj (Option.some.inj h)
              exact jr_retJ jf_95_122 jmt_95
            · obtain ⟨hb, hx⟩ := jgd_of hx
              obtain hx := Option.some.inj hx
              refine jr_V8b_2 jf_95_112 hb0 hb (by omega) (r_Shorts_plus (by omega) _ _ _ _ _ hx) (by simp only [jcats_cons, jcats_nil, cat_int, cat_long, cat_double, cat_float, cat_ref, rv_cat]; decide) jml_78 (Nat.le_of_ble_eq_true rfl) ?_
              replace h := jgd_of h; obtain ⟨hb48, h⟩ := h
              replace h := jbd2_of h; obtain ⟨x49, μ50, hx49, h⟩ := h
              refine jr_V6_1 jf_95_115 hb48 (by omega) (r_Section_settled (by omega) _ _ _ _ _ hx49) (by simp only [jcats_cons, jcats_nil, cat_int, cat_long, cat_double, cat_float, cat_ref, rv_cat]; decide) jml_79 (Nat.le_of_ble_eq_true rfl) ?_
              replace h := obd_of h; obtain ⟨a51, rfl, h⟩ := h
              replace h := jgd_of h; obtain ⟨hb52, h⟩ := h
              replace h := obd_of h; obtain ⟨μ53, hμ53, h⟩ := h
              refine jr_V6v_2 jf_95_118 hb52 (by omega) (r_Row_put (by omega) _ _ _ _ _ hμ53) (Nat.le_of_ble_eq_true rfl) jml_66 (Nat.le_of_ble_eq_true rfl) ?_
              refine jr_lload_n jf_95_121 rfl (jg2_ne rfl jg2_same) ?_
              obtain ⟨rfl, rfl⟩ := Prod.mk.inj (Option.some.inj h)
              exact jr_retJ jf_95_122 jmt_95
          · obtain ⟨hb, hx⟩ := jgd_of hx
            obtain hx := Option.some.inj hx
            refine jr_V8b_2 jf_95_81 hb0 hb (by omega) (r_Shorts_plus (by omega) _ _ _ _ _ hx) (by simp only [jcats_cons, jcats_nil, cat_int, cat_long, cat_double, cat_float, cat_ref, rv_cat]; decide) jml_78 (Nat.le_of_ble_eq_true rfl) ?_
            replace h := jgd_of h; obtain ⟨hb34, h⟩ := h
            replace h := jbd2_of h; obtain ⟨x35, μ36, hx35, h⟩ := h
            refine jr_V6_1 jf_95_84 hb34 (by omega) (r_Section_settled (by omega) _ _ _ _ _ hx35) (by simp only [jcats_cons, jcats_nil, cat_int, cat_long, cat_double, cat_float, cat_ref, rv_cat]; decide) jml_79 (Nat.le_of_ble_eq_true rfl) ?_
            replace h := obd_of h; obtain ⟨a37, rfl, h⟩ := h
            replace h := jgd_of h; obtain ⟨hb38, h⟩ := h
            replace h := obd_of h; obtain ⟨μ39, hμ39, h⟩ := h
            refine jr_V6v_2 jf_95_87 hb38 (by omega) (r_Row_put (by omega) _ _ _ _ _ hμ39) (Nat.le_of_ble_eq_true rfl) jml_66 (Nat.le_of_ble_eq_true rfl) ?_
            refine jr_aload_n jf_95_90 rfl (jg2_ne rfl (jg2_ne rfl hl0)) ?_
            replace h := obd_of h; obtain ⟨x40, hx40, h⟩ := h
            refine jr_getA jf_95_91 hx40 ?_
            refine jr_iconst jf_95_94 jc_i_1 ?_
            refine jr_aload_n jf_95_95 rfl (jg2_ne rfl (jg2_ne rfl hl0)) ?_
            refine jr_aload_n jf_95_96 rfl (jg2_ne rfl (jg2_ne rfl hl0)) ?_
            replace h := obd_of h; obtain ⟨x41, hx41, h⟩ := h
            refine jr_getA jf_95_97 hx41 ?_
            refine jr_aload_n jf_95_100 rfl (jg2_ne rfl (jg2_ne rfl hl0)) ?_
            refine jr_iconst jf_95_101 jc_i_2 ?_
            refine jr_lload_n jf_95_102 rfl (jg2_ne rfl (jg2_ne rfl hl1)) ?_
            replace h := jgd_of h; obtain ⟨hb42, h⟩ := h
            replace h := obd_of h; obtain ⟨x43, hx43, h⟩ := h
            refine jr_V6_2 jf_95_103 hb42 (by omega) (r_Section_times (by omega) _ _ _ _ _ hx43) (by simp only [jcats_cons, jcats_nil, cat_int, cat_long, cat_double, cat_float, cat_ref, rv_cat]; decide) jml_87 (Nat.le_of_ble_eq_true rfl) ?_
            refine jr_aload_n jf_95_106 rfl (jg2_ne rfl (jg2_ne rfl hl0)) ?_
            refine jr_iconst jf_95_107 jc_i_4 ?_
            refine jr_lload_n jf_95_108 rfl (jg2_ne rfl jg2_same) ?_
            replace h := jgd_of h; obtain ⟨hb44, h⟩ := h
            replace h := obd_of h; obtain ⟨x45, hx45, h⟩ := h
            refine jr_V6_2 jf_95_109 hb44 (by omega) (r_Section_lessTimes (by omega) _ _ _ _ _ hx45) (by simp only [jcats_cons, jcats_nil, cat_int, cat_long, cat_double, cat_float, cat_ref, rv_cat]; decide) jml_90 (Nat.le_of_ble_eq_true rfl) ?_
            replace h := obd_of h; obtain ⟨a46, rfl, h⟩ := h
            replace h := obd_of h; obtain ⟨x47, hx47, h⟩ := h
            rcases ite_or hx47 with ⟨hb, hx⟩ | ⟨hb0, hx⟩
            · refine jr_V8a_2 jf_95_112 hb (by omega) (r_Real_plus (by omega) _ _ _ _ _ hx) (by simp only [jcats_cons, jcats_nil, cat_int, cat_long, cat_double, cat_float, cat_ref, rv_cat]; decide) jml_74 (Nat.le_of_ble_eq_true rfl) ?_
              replace h := jgd_of h; obtain ⟨hb48, h⟩ := h
              replace h := jbd2_of h; obtain ⟨x49, μ50, hx49, h⟩ := h
              refine jr_V6_1 jf_95_115 hb48 (by omega) (r_Section_settled (by omega) _ _ _ _ _ hx49) (by simp only [jcats_cons, jcats_nil, cat_int, cat_long, cat_double, cat_float, cat_ref, rv_cat]; decide) jml_79 (Nat.le_of_ble_eq_true rfl) ?_
              replace h := obd_of h; obtain ⟨a51, rfl, h⟩ := h
              replace h := jgd_of h; obtain ⟨hb52, h⟩ := h
              replace h := obd_of h; obtain ⟨μ53, hμ53, h⟩ := h
              refine jr_V6v_2 jf_95_118 hb52 (by omega) (r_Row_put (by omega) _ _ _ _ _ hμ53) (Nat.le_of_ble_eq_true rfl) jml_66 (Nat.le_of_ble_eq_true rfl) ?_
              refine jr_lload_n jf_95_121 rfl (jg2_ne rfl jg2_same) ?_
              obtain ⟨rfl, rfl⟩ := Prod.mk.inj (Option.some.inj h)
              exact jr_retJ jf_95_122 jmt_95
            · obtain ⟨hb, hx⟩ := jgd_of hx
              obtain hx := Option.some.inj hx
              refine jr_V8b_2 jf_95_112 hb0 hb (by omega) (r_Shorts_plus (by omega) _ _ _ _ _ hx) (by simp only [jcats_cons, jcats_nil, cat_int, cat_long, cat_double, cat_float, cat_ref, rv_cat]; decide) jml_78 (Nat.le_of_ble_eq_true rfl) ?_
              replace h := jgd_of h; obtain ⟨hb48, h⟩ := h
              replace h := jbd2_of h; obtain ⟨x49, μ50, hx49, h⟩ := h
              refine jr_V6_1 jf_95_115 hb48 (by omega) (r_Section_settled (by omega) _ _ _ _ _ hx49) (by simp only [jcats_cons, jcats_nil, cat_int, cat_long, cat_double, cat_float, cat_ref, rv_cat]; decide) jml_79 (Nat.le_of_ble_eq_true rfl) ?_
              replace h := obd_of h; obtain ⟨a51, rfl, h⟩ := h
              replace h := jgd_of h; obtain ⟨hb52, h⟩ := h
              replace h := obd_of h; obtain ⟨μ53, hμ53, h⟩ := h
              refine jr_V6v_2 jf_95_118 hb52 (by omega) (r_Row_put (by omega) _ _ _ _ _ hμ53) (Nat.le_of_ble_eq_true rfl) jml_66 (Nat.le_of_ble_eq_true rfl) ?_
              refine jr_lload_n jf_95_121 rfl (jg2_ne rfl jg2_same) ?_
              obtain ⟨rfl, rfl⟩ := Prod.mk.inj (Option.some.inj h)
              exact jr_retJ jf_95_122 jmt_95
  · obtain ⟨hb, hx⟩ := jgd_of hx
    obtain hx := Option.some.inj hx
    refine jr_V8b_1 jf_95_23 hb0 hb (by omega) (r_Shorts_term (by omega) _ _ _ _ hx) (by simp only [jcats_cons, jcats_nil, cat_int, cat_long, cat_double, cat_float, cat_ref, rv_cat]; decide) jml_73 (Nat.le_of_ble_eq_true rfl) ?_
    replace h := obd_of h; obtain ⟨a11, rfl, h⟩ := h
    replace h := obd_of h; obtain ⟨x12, hx12, h⟩ := h
    rcases ite_or hx12 with ⟨hb, hx⟩ | ⟨hb0, hx⟩
    · refine jr_V8a_2 jf_95_26 hb (by omega) (r_Real_plus (by omega) _ _ _ _ _ hx) (Nat.le_of_ble_eq_true rfl) jml_74 (Nat.le_of_ble_eq_true rfl) ?_
      replace h := jgd_of h; obtain ⟨hb13, h⟩ := h
      replace h := jbd2_of h; obtain ⟨x14, μ15, hx14, h⟩ := h
      refine jr_V6_1 jf_95_29 hb13 (by omega) (r_Section_settled (by omega) _ _ _ _ _ hx14) (Nat.le_of_ble_eq_true rfl) jml_79 (Nat.le_of_ble_eq_true rfl) ?_
      refine jr_lstore_n jf_95_32 rfl jml_95 (by decide) ?_
      refine jr_aload_n jf_95_33 rfl (jg2_ne rfl hl0) ?_
      replace h := obd_of h; obtain ⟨x16, hx16, h⟩ := h
      refine jr_getA jf_95_34 hx16 ?_
      refine jr_aload_n jf_95_37 rfl (jg2_ne rfl hl0) ?_
      refine jr_iconst jf_95_38 jc_i_1 ?_
      refine jr_lload_n jf_95_39 rfl (jg2_ne rfl hl1) ?_
      replace h := jgd_of h; obtain ⟨hb17, h⟩ := h
      replace h := obd_of h; obtain ⟨x18, hx18, h⟩ := h
      refine jr_V6_2 jf_95_40 hb17 (by omega) (r_Section_times (by omega) _ _ _ _ _ hx18) (by simp only [jcats_cons, jcats_nil, cat_int, cat_long, cat_double, cat_float, cat_ref, rv_cat]; decide) jml_87 (Nat.le_of_ble_eq_true rfl) ?_
      refine jr_aload_n jf_95_43 rfl (jg2_ne rfl hl0) ?_
      refine jr_iconst jf_95_44 jc_i_3 ?_
      refine jr_lload_n jf_95_45 rfl jg2_same ?_
      replace h := jgd_of h; obtain ⟨hb19, h⟩ := h
      replace h := obd_of h; obtain ⟨x20, hx20, h⟩ := h
      refine jr_V6_2 jf_95_46 hb19 (by omega) (r_Section_lessTimes (by omega) _ _ _ _ _ hx20) (by simp only [jcats_cons, jcats_nil, cat_int, cat_long, cat_double, cat_float, cat_ref, rv_cat]; decide) jml_90 (Nat.le_of_ble_eq_true rfl) ?_
      replace h := obd_of h; obtain ⟨a21, rfl, h⟩ := h
      replace h := obd_of h; obtain ⟨x22, hx22, h⟩ := h
      rcases ite_or hx22 with ⟨hb, hx⟩ | ⟨hb0, hx⟩
      · refine jr_V8a_2 jf_95_49 hb (by omega) (r_Real_plus (by omega) _ _ _ _ _ hx) (Nat.le_of_ble_eq_true rfl) jml_74 (Nat.le_of_ble_eq_true rfl) ?_
        refine jr_lstore jf_95_52 jml_95 (by decide) ?_
        refine jr_aload_n jf_95_54 rfl (jg2_ne rfl (jg2_ne rfl hl0)) ?_
        replace h := obd_of h; obtain ⟨x23, hx23, h⟩ := h
        refine jr_getA jf_95_55 hx23 ?_
        refine jr_iconst jf_95_58 jc_i_0 ?_
        refine jr_aload_n jf_95_59 rfl (jg2_ne rfl (jg2_ne rfl hl0)) ?_
        refine jr_aload_n jf_95_60 rfl (jg2_ne rfl (jg2_ne rfl hl0)) ?_
        replace h := obd_of h; obtain ⟨x24, hx24, h⟩ := h
        refine jr_getA jf_95_61 hx24 ?_
        refine jr_lload jf_95_64 jg2_same ?_
        refine jr_aload_n jf_95_66 rfl (jg2_ne rfl (jg2_ne rfl hl0)) ?_
        replace h := obd_of h; obtain ⟨x25, hx25, h⟩ := h
        refine jr_getA jf_95_67 hx25 ?_
        refine jr_aload_n jf_95_70 rfl (jg2_ne rfl (jg2_ne rfl hl0)) ?_
        replace h := obd_of h; obtain ⟨x26, hx26, h⟩ := h
        refine jr_getA jf_95_71 hx26 ?_
        refine jr_iconst jf_95_74 jc_i_1 ?_
        replace h := obd_of h; obtain ⟨a27, rfl, h⟩ := h
        replace h := jgd_of h; obtain ⟨hb28, h⟩ := h
        replace h := obd_of h; obtain ⟨x29, hx29, h⟩ := h
        refine jr_V6_1 jf_95_75 hb28 (by omega) (r_Row_at (by omega) _ _ _ _ hx29) (by simp only [jcats_cons, jcats_nil, cat_int, cat_long, cat_double, cat_float, cat_ref, rv_cat]; decide) jml_38 (Nat.le_of_ble_eq_true rfl) ?_
        replace h := obd_of h; obtain ⟨a30, rfl, h⟩ := h
        replace h := obd_of h; obtain ⟨x31, hx31, h⟩ := h
        rcases ite_or hx31 with ⟨hb, hx⟩ | ⟨hb0, hx⟩
        · obtain hx := Option.some.inj hx
          refine jr_V8a_1 jf_95_78 hb (by omega) (r_Real_term (by omega) _ _ _ _ hx) (by simp only [jcats_cons, jcats_nil, cat_int, cat_long, cat_double, cat_float, cat_ref, rv_cat]; decide) jml_72 (Nat.le_of_ble_eq_true rfl) ?_
          replace h := obd_of h; obtain ⟨a32, rfl, h⟩ := h
          replace h := obd_of h; obtain ⟨x33, hx33, h⟩ := h
          rcases ite_or hx33 with ⟨hb, hx⟩ | ⟨hb0, hx⟩
          · refine jr_V8a_2 jf_95_81 hb (by omega) (r_Real_plus (by omega) _ _ _ _ _ hx) (by simp only [jcats_cons, jcats_nil, cat_int, cat_long, cat_double, cat_float, cat_ref, rv_cat]; decide) jml_74 (Nat.le_of_ble_eq_true rfl) ?_
            replace h := jgd_of h; obtain ⟨hb34, h⟩ := h
            replace h := jbd2_of h; obtain ⟨x35, μ36, hx35, h⟩ := h
            refine jr_V6_1 jf_95_84 hb34 (by omega) (r_Section_settled (by omega) _ _ _ _ _ hx35) (by simp only [jcats_cons, jcats_nil, cat_int, cat_long, cat_double, cat_float, cat_ref, rv_cat]; decide) jml_79 (Nat.le_of_ble_eq_true rfl) ?_
            replace h := obd_of h; obtain ⟨a37, rfl, h⟩ := h
            replace h := jgd_of h; obtain ⟨hb38, h⟩ := h
            replace h := obd_of h; obtain ⟨μ39, hμ39, h⟩ := h
            refine jr_V6v_2 jf_95_87 hb38 (by omega) (r_Row_put (by omega) _ _ _ _ _ hμ39) (Nat.le_of_ble_eq_true rfl) jml_66 (Nat.le_of_ble_eq_true rfl) ?_
            refine jr_aload_n jf_95_90 rfl (jg2_ne rfl (jg2_ne rfl hl0)) ?_
            replace h := obd_of h; obtain ⟨x40, hx40, h⟩ := h
            refine jr_getA jf_95_91 hx40 ?_
            refine jr_iconst jf_95_94 jc_i_1 ?_
            refine jr_aload_n jf_95_95 rfl (jg2_ne rfl (jg2_ne rfl hl0)) ?_
            refine jr_aload_n jf_95_96 rfl (jg2_ne rfl (jg2_ne rfl hl0)) ?_
            replace h := obd_of h; obtain ⟨x41, hx41, h⟩ := h
            refine jr_getA jf_95_97 hx41 ?_
            refine jr_aload_n jf_95_100 rfl (jg2_ne rfl (jg2_ne rfl hl0)) ?_
            refine jr_iconst jf_95_101 jc_i_2 ?_
            refine jr_lload_n jf_95_102 rfl (jg2_ne rfl (jg2_ne rfl hl1)) ?_
            replace h := jgd_of h; obtain ⟨hb42, h⟩ := h
            replace h := obd_of h; obtain ⟨x43, hx43, h⟩ := h
            refine jr_V6_2 jf_95_103 hb42 (by omega) (r_Section_times (by omega) _ _ _ _ _ hx43) (by simp only [jcats_cons, jcats_nil, cat_int, cat_long, cat_double, cat_float, cat_ref, rv_cat]; decide) jml_87 (Nat.le_of_ble_eq_true rfl) ?_
            refine jr_aload_n jf_95_106 rfl (jg2_ne rfl (jg2_ne rfl hl0)) ?_
            refine jr_iconst jf_95_107 jc_i_4 ?_
            refine jr_lload_n jf_95_108 rfl (jg2_ne rfl jg2_same) ?_
            replace h := jgd_of h; obtain ⟨hb44, h⟩ := h
            replace h := obd_of h; obtain ⟨x45, hx45, h⟩ := h
            refine jr_V6_2 jf_95_109 hb44 (by omega) (r_Section_lessTimes (by omega) _ _ _ _ _ hx45) (by simp only [jcats_cons, jcats_nil, cat_int, cat_long, cat_double, cat_float, cat_ref, rv_cat]; decide) jml_90 (Nat.le_of_ble_eq_true rfl) ?_
            replace h := obd_of h; obtain ⟨a46, rfl, h⟩ := h
            replace h := obd_of h; obtain ⟨x47, hx47, h⟩ := h
            rcases ite_or hx47 with ⟨hb, hx⟩ | ⟨hb0, hx⟩
            · refine jr_V8a_2 jf_95_112 hb (by omega) (r_Real_plus (by omega) _ _ _ _ _ hx) (by simp only [jcats_cons, jcats_nil, cat_int, cat_long, cat_double, cat_float, cat_ref, rv_cat]; decide) jml_74 (Nat.le_of_ble_eq_true rfl) ?_
              replace h := jgd_of h; obtain ⟨hb48, h⟩ := h
              replace h := jbd2_of h; obtain ⟨x49, μ50, hx49, h⟩ := h
              refine jr_V6_1 jf_95_115 hb48 (by omega) (r_Section_settled (by omega) _ _ _ _ _ hx49) (by simp only [jcats_cons, jcats_nil, cat_int, cat_long, cat_double, cat_float, cat_ref, rv_cat]; decide) jml_79 (Nat.le_of_ble_eq_true rfl) ?_
              replace h := obd_of h; obtain ⟨a51, rfl, h⟩ := h
              replace h := jgd_of h; obtain ⟨hb52, h⟩ := h
              replace h := obd_of h; obtain ⟨μ53, hμ53, h⟩ := h
              refine jr_V6v_2 jf_95_118 hb52 (by omega) (r_Row_put (by omega) _ _ _ _ _ hμ53) (Nat.le_of_ble_eq_true rfl) jml_66 (Nat.le_of_ble_eq_true rfl) ?_
              refine jr_lload_n jf_95_121 rfl (jg2_ne rfl jg2_same) ?_
              obtain ⟨rfl, rfl⟩ := Prod.mk.inj (Option.some.inj h)
              exact jr_retJ jf_95_122 jmt_95
            · obtain ⟨hb, hx⟩ := jgd_of hx
              obtain hx := Option.some.inj hx
              refine jr_V8b_2 jf_95_112 hb0 hb (by omega) (r_Shorts_plus (by omega) _ _ _ _ _ hx) (by simp only [jcats_cons, jcats_nil, cat_int, cat_long, cat_double, cat_float, cat_ref, rv_cat]; decide) jml_78 (Nat.le_of_ble_eq_true rfl) ?_
              replace h := jgd_of h; obtain ⟨hb48, h⟩ := h
              replace h := jbd2_of h; obtain ⟨x49, μ50, hx49, h⟩ := h
              refine jr_V6_1 jf_95_115 hb48 (by omega) (r_Section_settled (by omega) _ _ _ _ _ hx49) (by simp only [jcats_cons, jcats_nil, cat_int, cat_long, cat_double, cat_float, cat_ref, rv_cat]; decide) jml_79 (Nat.le_of_ble_eq_true rfl) ?_
              replace h := obd_of h; obtain ⟨a51, rfl, h⟩ := h
              replace h := jgd_of h; obtain ⟨hb52, h⟩ := h
              replace h := obd_of h; obtain ⟨μ53, hμ53, h⟩ := h
              refine jr_V6v_2 jf_95_118 hb52 (by omega) (r_Row_put (by omega) _ _ _ _ _ hμ53) (Nat.le_of_ble_eq_true rfl) jml_66 (Nat.le_of_ble_eq_true rfl) ?_
              refine jr_lload_n jf_95_121 rfl (jg2_ne rfl jg2_same) ?_
              obtain ⟨rfl, rfl⟩ := Prod.mk.inj (Option.some.inj h)
              exact jr_retJ jf_95_122 jmt_95
          · obtain ⟨hb, hx⟩ := jgd_of hx
            obtain hx := Option.some.inj hx
            refine jr_V8b_2 jf_95_81 hb0 hb (by omega) (r_Shorts_plus (by omega) _ _ _ _ _ hx) (by simp only [jcats_cons, jcats_nil, cat_int, cat_long, cat_double, cat_float, cat_ref, rv_cat]; decide) jml_78 (Nat.le_of_ble_eq_true rfl) ?_
            replace h := jgd_of h; obtain ⟨hb34, h⟩ := h
            replace h := jbd2_of h; obtain ⟨x35, μ36, hx35, h⟩ := h
            refine jr_V6_1 jf_95_84 hb34 (by omega) (r_Section_settled (by omega) _ _ _ _ _ hx35) (by simp only [jcats_cons, jcats_nil, cat_int, cat_long, cat_double, cat_float, cat_ref, rv_cat]; decide) jml_79 (Nat.le_of_ble_eq_true rfl) ?_
            replace h := obd_of h; obtain ⟨a37, rfl, h⟩ := h
            replace h := jgd_of h; obtain ⟨hb38, h⟩ := h
            replace h := obd_of h; obtain ⟨μ39, hμ39, h⟩ := h
            refine jr_V6v_2 jf_95_87 hb38 (by omega) (r_Row_put (by omega) _ _ _ _ _ hμ39) (Nat.le_of_ble_eq_true rfl) jml_66 (Nat.le_of_ble_eq_true rfl) ?_
            refine jr_aload_n jf_95_90 rfl (jg2_ne rfl (jg2_ne rfl hl0)) ?_
            replace h := obd_of h; obtain ⟨x40, hx40, h⟩ := h
            refine jr_getA jf_95_91 hx40 ?_
            refine jr_iconst jf_95_94 jc_i_1 ?_
            refine jr_aload_n jf_95_95 rfl (jg2_ne rfl (jg2_ne rfl hl0)) ?_
            refine jr_aload_n jf_95_96 rfl (jg2_ne rfl (jg2_ne rfl hl0)) ?_
            replace h := obd_of h; obtain ⟨x41, hx41, h⟩ := h
            refine jr_getA jf_95_97 hx41 ?_
            refine jr_aload_n jf_95_100 rfl (jg2_ne rfl (jg2_ne rfl hl0)) ?_
            refine jr_iconst jf_95_101 jc_i_2 ?_
            refine jr_lload_n jf_95_102 rfl (jg2_ne rfl (jg2_ne rfl hl1)) ?_
            replace h := jgd_of h; obtain ⟨hb42, h⟩ := h
            replace h := obd_of h; obtain ⟨x43, hx43, h⟩ := h
            refine jr_V6_2 jf_95_103 hb42 (by omega) (r_Section_times (by omega) _ _ _ _ _ hx43) (by simp only [jcats_cons, jcats_nil, cat_int, cat_long, cat_double, cat_float, cat_ref, rv_cat]; decide) jml_87 (Nat.le_of_ble_eq_true rfl) ?_
            refine jr_aload_n jf_95_106 rfl (jg2_ne rfl (jg2_ne rfl hl0)) ?_
            refine jr_iconst jf_95_107 jc_i_4 ?_
            refine jr_lload_n jf_95_108 rfl (jg2_ne rfl jg2_same) ?_
            replace h := jgd_of h; obtain ⟨hb44, h⟩ := h
            replace h := obd_of h; obtain ⟨x45, hx45, h⟩ := h
            refine jr_V6_2 jf_95_109 hb44 (by omega) (r_Section_lessTimes (by omega) _ _ _ _ _ hx45) (by simp only [jcats_cons, jcats_nil, cat_int, cat_long, cat_double, cat_float, cat_ref, rv_cat]; decide) jml_90 (Nat.le_of_ble_eq_true rfl) ?_
            replace h := obd_of h; obtain ⟨a46, rfl, h⟩ := h
            replace h := obd_of h; obtain ⟨x47, hx47, h⟩ := h
            rcases ite_or hx47 with ⟨hb, hx⟩ | ⟨hb0, hx⟩
            · refine jr_V8a_2 jf_95_112 hb (by omega) (r_Real_plus (by omega) _ _ _ _ _ hx) (by simp only [jcats_cons, jcats_nil, cat_int, cat_long, cat_double, cat_float, cat_ref, rv_cat]; decide) jml_74 (Nat.le_of_ble_eq_true rfl) ?_
              replace h := jgd_of h; obtain ⟨hb48, h⟩ := h
              replace h := jbd2_of h; obtain ⟨x49, μ50, hx49, h⟩ := h
              refine jr_V6_1 jf_95_115 hb48 (by omega) (r_Section_settled (by omega) _ _ _ _ _ hx49) (by simp only [jcats_cons, jcats_nil, cat_int, cat_long, cat_double, cat_float, cat_ref, rv_cat]; decide) jml_79 (Nat.le_of_ble_eq_true rfl) ?_
              replace h := obd_of h; obtain ⟨a51, rfl, h⟩ := h
              replace h := jgd_of h; obtain ⟨hb52, h⟩ := h
              replace h := obd_of h; obtain ⟨μ53, hμ53, h⟩ := h
              refine jr_V6v_2 jf_95_118 hb52 (by omega) (r_Row_put (by omega) _ _ _ _ _ hμ53) (Nat.le_of_ble_eq_true rfl) jml_66 (Nat.le_of_ble_eq_true rfl) ?_
              refine jr_lload_n jf_95_121 rfl (jg2_ne rfl jg2_same) ?_
              obtain ⟨rfl, rfl⟩ := Prod.mk.inj (Option.some.inj h)
              exact jr_retJ jf_95_122 jmt_95
            · obtain ⟨hb, hx⟩ := jgd_of hx
              obtain hx := Option.some.inj hx
              refine jr_V8b_2 jf_95_112 hb0 hb (by omega) (r_Shorts_plus (by omega) _ _ _ _ _ hx) (by simp only [jcats_cons, jcats_nil, cat_int, cat_long, cat_double, cat_float, cat_ref, rv_cat]; decide) jml_78 (Nat.le_of_ble_eq_true rfl) ?_
              replace h := jgd_of h; obtain ⟨hb48, h⟩ := h
              replace h := jbd2_of h; obtain ⟨x49, μ50, hx49, h⟩ := h
              refine jr_V6_1 jf_95_115 hb48 (by omega) (r_Section_settled (by omega) _ _ _ _ _ hx49) (by simp only [jcats_cons, jcats_nil, cat_int, cat_long, cat_double, cat_float, cat_ref, rv_cat]; decide) jml_79 (Nat.le_of_ble_eq_true rfl) ?_
              replace h := obd_of h; obtain ⟨a51, rfl, h⟩ := h
              replace h := jgd_of h; obtain ⟨hb52, h⟩ := h
              replace h := obd_of h; obtain ⟨μ53, hμ53, h⟩ := h
              refine jr_V6v_2 jf_95_118 hb52 (by omega) (r_Row_put (by omega) _ _ _ _ _ hμ53) (Nat.le_of_ble_eq_true rfl) jml_66 (Nat.le_of_ble_eq_true rfl) ?_
              refine jr_lload_n jf_95_121 rfl (jg2_ne rfl jg2_same) ?_
              obtain ⟨rfl, rfl⟩ := Prod.mk.inj (Option.some.inj h)
              exact jr_retJ jf_95_122 jmt_95
        · obtain ⟨hb, hx⟩ := jgd_of hx
          obtain hx := Option.some.inj hx
          refine jr_V8b_1 jf_95_78 hb0 hb (by omega) (r_Shorts_term (by omega) _ _ _ _ hx) (by simp only [jcats_cons, jcats_nil, cat_int, cat_long, cat_double, cat_float, cat_ref, rv_cat]; decide) jml_73 (Nat.le_of_ble_eq_true rfl) ?_
          replace h := obd_of h; obtain ⟨a32, rfl, h⟩ := h
          replace h := obd_of h; obtain ⟨x33, hx33, h⟩ := h
          rcases ite_or hx33 with ⟨hb, hx⟩ | ⟨hb0, hx⟩
          · refine jr_V8a_2 jf_95_81 hb (by omega) (r_Real_plus (by omega) _ _ _ _ _ hx) (by simp only [jcats_cons, jcats_nil, cat_int, cat_long, cat_double, cat_float, cat_ref, rv_cat]; decide) jml_74 (Nat.le_of_ble_eq_true rfl) ?_
            replace h := jgd_of h; obtain ⟨hb34, h⟩ := h
            replace h := jbd2_of h; obtain ⟨x35, μ36, hx35, h⟩ := h
            refine jr_V6_1 jf_95_84 hb34 (by omega) (r_Section_settled (by omega) _ _ _ _ _ hx35) (by simp only [jcats_cons, jcats_nil, cat_int, cat_long, cat_double, cat_float, cat_ref, rv_cat]; decide) jml_79 (Nat.le_of_ble_eq_true rfl) ?_
            replace h := obd_of h; obtain ⟨a37, rfl, h⟩ := h
            replace h := jgd_of h; obtain ⟨hb38, h⟩ := h
            replace h := obd_of h; obtain ⟨μ39, hμ39, h⟩ := h
            refine jr_V6v_2 jf_95_87 hb38 (by omega) (r_Row_put (by omega) _ _ _ _ _ hμ39) (Nat.le_of_ble_eq_true rfl) jml_66 (Nat.le_of_ble_eq_true rfl) ?_
            refine jr_aload_n jf_95_90 rfl (jg2_ne rfl (jg2_ne rfl hl0)) ?_
            replace h := obd_of h; obtain ⟨x40, hx40, h⟩ := h
            refine jr_getA jf_95_91 hx40 ?_
            refine jr_iconst jf_95_94 jc_i_1 ?_
            refine jr_aload_n jf_95_95 rfl (jg2_ne rfl (jg2_ne rfl hl0)) ?_
            refine jr_aload_n jf_95_96 rfl (jg2_ne rfl (jg2_ne rfl hl0)) ?_
            replace h := obd_of h; obtain ⟨x41, hx41, h⟩ := h
            refine jr_getA jf_95_97 hx41 ?_
            refine jr_aload_n jf_95_100 rfl (jg2_ne rfl (jg2_ne rfl hl0)) ?_
            refine jr_iconst jf_95_101 jc_i_2 ?_
            refine jr_lload_n jf_95_102 rfl (jg2_ne rfl (jg2_ne rfl hl1)) ?_
            replace h := jgd_of h; obtain ⟨hb42, h⟩ := h
            replace h := obd_of h; obtain ⟨x43, hx43, h⟩ := h
            refine jr_V6_2 jf_95_103 hb42 (by omega) (r_Section_times (by omega) _ _ _ _ _ hx43) (by simp only [jcats_cons, jcats_nil, cat_int, cat_long, cat_double, cat_float, cat_ref, rv_cat]; decide) jml_87 (Nat.le_of_ble_eq_true rfl) ?_
            refine jr_aload_n jf_95_106 rfl (jg2_ne rfl (jg2_ne rfl hl0)) ?_
            refine jr_iconst jf_95_107 jc_i_4 ?_
            refine jr_lload_n jf_95_108 rfl (jg2_ne rfl jg2_same) ?_
            replace h := jgd_of h; obtain ⟨hb44, h⟩ := h
            replace h := obd_of h; obtain ⟨x45, hx45, h⟩ := h
            refine jr_V6_2 jf_95_109 hb44 (by omega) (r_Section_lessTimes (by omega) _ _ _ _ _ hx45) (by simp only [jcats_cons, jcats_nil, cat_int, cat_long, cat_double, cat_float, cat_ref, rv_cat]; decide) jml_90 (Nat.le_of_ble_eq_true rfl) ?_
            replace h := obd_of h; obtain ⟨a46, rfl, h⟩ := h
            replace h := obd_of h; obtain ⟨x47, hx47, h⟩ := h
            rcases ite_or hx47 with ⟨hb, hx⟩ | ⟨hb0, hx⟩
            · refine jr_V8a_2 jf_95_112 hb (by omega) (r_Real_plus (by omega) _ _ _ _ _ hx) (by simp only [jcats_cons, jcats_nil, cat_int, cat_long, cat_double, cat_float, cat_ref, rv_cat]; decide) jml_74 (Nat.le_of_ble_eq_true rfl) ?_
              replace h := jgd_of h; obtain ⟨hb48, h⟩ := h
              replace h := jbd2_of h; obtain ⟨x49, μ50, hx49, h⟩ := h
              refine jr_V6_1 jf_95_115 hb48 (by omega) (r_Section_settled (by omega) _ _ _ _ _ hx49) (by simp only [jcats_cons, jcats_nil, cat_int, cat_long, cat_double, cat_float, cat_ref, rv_cat]; decide) jml_79 (Nat.le_of_ble_eq_true rfl) ?_
              replace h := obd_of h; obtain ⟨a51, rfl, h⟩ := h
              replace h := jgd_of h; obtain ⟨hb52, h⟩ := h
              replace h := obd_of h; obtain ⟨μ53, hμ53, h⟩ := h
              refine jr_V6v_2 jf_95_118 hb52 (by omega) (r_Row_put (by omega) _ _ _ _ _ hμ53) (Nat.le_of_ble_eq_true rfl) jml_66 (Nat.le_of_ble_eq_true rfl) ?_
              refine jr_lload_n jf_95_121 rfl (jg2_ne rfl jg2_same) ?_
              obtain ⟨rfl, rfl⟩ := Prod.mk.inj (Option.some.inj h)
              exact jr_retJ jf_95_122 jmt_95
            · obtain ⟨hb, hx⟩ := jgd_of hx
              obtain hx := Option.some.inj hx
              refine jr_V8b_2 jf_95_112 hb0 hb (by omega) (r_Shorts_plus (by omega) _ _ _ _ _ hx) (by simp only [jcats_cons, jcats_nil, cat_int, cat_long, cat_double, cat_float, cat_ref, rv_cat]; decide) jml_78 (Nat.le_of_ble_eq_true rfl) ?_
              replace h := jgd_of h; obtain ⟨hb48, h⟩ := h
              replace h := jbd2_of h; obtain ⟨x49, μ50, hx49, h⟩ := h
              refine jr_V6_1 jf_95_115 hb48 (by omega) (r_Section_settled (by omega) _ _ _ _ _ hx49) (by simp only [jcats_cons, jcats_nil, cat_int, cat_long, cat_double, cat_float, cat_ref, rv_cat]; decide) jml_79 (Nat.le_of_ble_eq_true rfl) ?_
              replace h := obd_of h; obtain ⟨a51, rfl, h⟩ := h
              replace h := jgd_of h; obtain ⟨hb52, h⟩ := h
              replace h := obd_of h; obtain ⟨μ53, hμ53, h⟩ := h
              refine jr_V6v_2 jf_95_118 hb52 (by omega) (r_Row_put (by omega) _ _ _ _ _ hμ53) (Nat.le_of_ble_eq_true rfl) jml_66 (Nat.le_of_ble_eq_true rfl) ?_
              refine jr_lload_n jf_95_121 rfl (jg2_ne rfl jg2_same) ?_
              obtain ⟨rfl, rfl⟩ := Prod.mk.inj (Option.some.inj h)
              exact jr_retJ jf_95_122 jmt_95
          · obtain ⟨hb, hx⟩ := jgd_of hx
            obtain hx := Option.some.inj hx
            refine jr_V8b_2 jf_95_81 hb0 hb (by omega) (r_Shorts_plus (by omega) _ _ _ _ _ hx) (by simp only [jcats_cons, jcats_nil, cat_int, cat_long, cat_double, cat_float, cat_ref, rv_cat]; decide) jml_78 (Nat.le_of_ble_eq_true rfl) ?_
            replace h := jgd_of h; obtain ⟨hb34, h⟩ := h
            replace h := jbd2_of h; obtain ⟨x35, μ36, hx35, h⟩ := h
            refine jr_V6_1 jf_95_84 hb34 (by omega) (r_Section_settled (by omega) _ _ _ _ _ hx35) (by simp only [jcats_cons, jcats_nil, cat_int, cat_long, cat_double, cat_float, cat_ref, rv_cat]; decide) jml_79 (Nat.le_of_ble_eq_true rfl) ?_
            replace h := obd_of h; obtain ⟨a37, rfl, h⟩ := h
            replace h := jgd_of h; obtain ⟨hb38, h⟩ := h
            replace h := obd_of h; obtain ⟨μ39, hμ39, h⟩ := h
            refine jr_V6v_2 jf_95_87 hb38 (by omega) (r_Row_put (by omega) _ _ _ _ _ hμ39) (Nat.le_of_ble_eq_true rfl) jml_66 (Nat.le_of_ble_eq_true rfl) ?_
            refine jr_aload_n jf_95_90 rfl (jg2_ne rfl (jg2_ne rfl hl0)) ?_
            replace h := obd_of h; obtain ⟨x40, hx40, h⟩ := h
            refine jr_getA jf_95_91 hx40 ?_
            refine jr_iconst jf_95_94 jc_i_1 ?_
            refine jr_aload_n jf_95_95 rfl (jg2_ne rfl (jg2_ne rfl hl0)) ?_
            refine jr_aload_n jf_95_96 rfl (jg2_ne rfl (jg2_ne rfl hl0)) ?_
            replace h := obd_of h; obtain ⟨x41, hx41, h⟩ := h
            refine jr_getA jf_95_97 hx41 ?_
            refine jr_aload_n jf_95_100 rfl (jg2_ne rfl (jg2_ne rfl hl0)) ?_
            refine jr_iconst jf_95_101 jc_i_2 ?_
            refine jr_lload_n jf_95_102 rfl (jg2_ne rfl (jg2_ne rfl hl1)) ?_
            replace h := jgd_of h; obtain ⟨hb42, h⟩ := h
            replace h := obd_of h; obtain ⟨x43, hx43, h⟩ := h
            refine jr_V6_2 jf_95_103 hb42 (by omega) (r_Section_times (by omega) _ _ _ _ _ hx43) (by simp only [jcats_cons, jcats_nil, cat_int, cat_long, cat_double, cat_float, cat_ref, rv_cat]; decide) jml_87 (Nat.le_of_ble_eq_true rfl) ?_
            refine jr_aload_n jf_95_106 rfl (jg2_ne rfl (jg2_ne rfl hl0)) ?_
            refine jr_iconst jf_95_107 jc_i_4 ?_
            refine jr_lload_n jf_95_108 rfl (jg2_ne rfl jg2_same) ?_
            replace h := jgd_of h; obtain ⟨hb44, h⟩ := h
            replace h := obd_of h; obtain ⟨x45, hx45, h⟩ := h
            refine jr_V6_2 jf_95_109 hb44 (by omega) (r_Section_lessTimes (by omega) _ _ _ _ _ hx45) (by simp only [jcats_cons, jcats_nil, cat_int, cat_long, cat_double, cat_float, cat_ref, rv_cat]; decide) jml_90 (Nat.le_of_ble_eq_true rfl) ?_
            replace h := obd_of h; obtain ⟨a46, rfl, h⟩ := h
            replace h := obd_of h; obtain ⟨x47, hx47, h⟩ := h
            rcases ite_or hx47 with ⟨hb, hx⟩ | ⟨hb0, hx⟩
            · refine jr_V8a_2 jf_95_112 hb (by omega) (r_Real_plus (by omega) _ _ _ _ _ hx) (by simp only [jcats_cons, jcats_nil, cat_int, cat_long, cat_double, cat_float, cat_ref, rv_cat]; decide) jml_74 (Nat.le_of_ble_eq_true rfl) ?_
              replace h := jgd_of h; obtain ⟨hb48, h⟩ := h
              replace h := jbd2_of h; obtain ⟨x49, μ50, hx49, h⟩ := h
              refine jr_V6_1 jf_95_115 hb48 (by omega) (r_Section_settled (by omega) _ _ _ _ _ hx49) (by simp only [jcats_cons, jcats_nil, cat_int, cat_long, cat_double, cat_float, cat_ref, rv_cat]; decide) jml_79 (Nat.le_of_ble_eq_true rfl) ?_
              replace h := obd_of h; obtain ⟨a51, rfl, h⟩ := h
              replace h := jgd_of h; obtain ⟨hb52, h⟩ := h
              replace h := obd_of h; obtain ⟨μ53, hμ53, h⟩ := h
              refine jr_V6v_2 jf_95_118 hb52 (by omega) (r_Row_put (by omega) _ _ _ _ _ hμ53) (Nat.le_of_ble_eq_true rfl) jml_66 (Nat.le_of_ble_eq_true rfl) ?_
              refine jr_lload_n jf_95_121 rfl (jg2_ne rfl jg2_same) ?_
              obtain ⟨rfl, rfl⟩ := Prod.mk.inj (Option.some.inj h)
              exact jr_retJ jf_95_122 jmt_95
            · obtain ⟨hb, hx⟩ := jgd_of hx
              obtain hx := Option.some.inj hx
              refine jr_V8b_2 jf_95_112 hb0 hb (by omega) (r_Shorts_plus (by omega) _ _ _ _ _ hx) (by simp only [jcats_cons, jcats_nil, cat_int, cat_long, cat_double, cat_float, cat_ref, rv_cat]; decide) jml_78 (Nat.le_of_ble_eq_true rfl) ?_
              replace h := jgd_of h; obtain ⟨hb48, h⟩ := h
              replace h := jbd2_of h; obtain ⟨x49, μ50, hx49, h⟩ := h
              refine jr_V6_1 jf_95_115 hb48 (by omega) (r_Section_settled (by omega) _ _ _ _ _ hx49) (by simp only [jcats_cons, jcats_nil, cat_int, cat_long, cat_double, cat_float, cat_ref, rv_cat]; decide) jml_79 (Nat.le_of_ble_eq_true rfl) ?_
              replace h := obd_of h; obtain ⟨a51, rfl, h⟩ := h
              replace h := jgd_of h; obtain ⟨hb52, h⟩ := h
              replace h := obd_of h; obtain ⟨μ53, hμ53, h⟩ := h
              refine jr_V6v_2 jf_95_118 hb52 (by omega) (r_Row_put (by omega) _ _ _ _ _ hμ53) (Nat.le_of_ble_eq_true rfl) jml_66 (Nat.le_of_ble_eq_true rfl) ?_
              refine jr_lload_n jf_95_121 rfl (jg2_ne rfl jg2_same) ?_
              obtain ⟨rfl, rfl⟩ := Prod.mk.inj (Option.some.inj h)
              exact jr_retJ jf_95_122 jmt_95
      · obtain ⟨hb, hx⟩ := jgd_of hx
        obtain hx := Option.some.inj hx
        refine jr_V8b_2 jf_95_49 hb0 hb (by omega) (r_Shorts_plus (by omega) _ _ _ _ _ hx) (Nat.le_of_ble_eq_true rfl) jml_78 (Nat.le_of_ble_eq_true rfl) ?_
        refine jr_lstore jf_95_52 jml_95 (by decide) ?_
        refine jr_aload_n jf_95_54 rfl (jg2_ne rfl (jg2_ne rfl hl0)) ?_
        replace h := obd_of h; obtain ⟨x23, hx23, h⟩ := h
        refine jr_getA jf_95_55 hx23 ?_
        refine jr_iconst jf_95_58 jc_i_0 ?_
        refine jr_aload_n jf_95_59 rfl (jg2_ne rfl (jg2_ne rfl hl0)) ?_
        refine jr_aload_n jf_95_60 rfl (jg2_ne rfl (jg2_ne rfl hl0)) ?_
        replace h := obd_of h; obtain ⟨x24, hx24, h⟩ := h
        refine jr_getA jf_95_61 hx24 ?_
        refine jr_lload jf_95_64 jg2_same ?_
        refine jr_aload_n jf_95_66 rfl (jg2_ne rfl (jg2_ne rfl hl0)) ?_
        replace h := obd_of h; obtain ⟨x25, hx25, h⟩ := h
        refine jr_getA jf_95_67 hx25 ?_
        refine jr_aload_n jf_95_70 rfl (jg2_ne rfl (jg2_ne rfl hl0)) ?_
        replace h := obd_of h; obtain ⟨x26, hx26, h⟩ := h
        refine jr_getA jf_95_71 hx26 ?_
        refine jr_iconst jf_95_74 jc_i_1 ?_
        replace h := obd_of h; obtain ⟨a27, rfl, h⟩ := h
        replace h := jgd_of h; obtain ⟨hb28, h⟩ := h
        replace h := obd_of h; obtain ⟨x29, hx29, h⟩ := h
        refine jr_V6_1 jf_95_75 hb28 (by omega) (r_Row_at (by omega) _ _ _ _ hx29) (by simp only [jcats_cons, jcats_nil, cat_int, cat_long, cat_double, cat_float, cat_ref, rv_cat]; decide) jml_38 (Nat.le_of_ble_eq_true rfl) ?_
        replace h := obd_of h; obtain ⟨a30, rfl, h⟩ := h
        replace h := obd_of h; obtain ⟨x31, hx31, h⟩ := h
        rcases ite_or hx31 with ⟨hb, hx⟩ | ⟨hb0, hx⟩
        · obtain hx := Option.some.inj hx
          refine jr_V8a_1 jf_95_78 hb (by omega) (r_Real_term (by omega) _ _ _ _ hx) (by simp only [jcats_cons, jcats_nil, cat_int, cat_long, cat_double, cat_float, cat_ref, rv_cat]; decide) jml_72 (Nat.le_of_ble_eq_true rfl) ?_
          replace h := obd_of h; obtain ⟨a32, rfl, h⟩ := h
          replace h := obd_of h; obtain ⟨x33, hx33, h⟩ := h
          rcases ite_or hx33 with ⟨hb, hx⟩ | ⟨hb0, hx⟩
          · refine jr_V8a_2 jf_95_81 hb (by omega) (r_Real_plus (by omega) _ _ _ _ _ hx) (by simp only [jcats_cons, jcats_nil, cat_int, cat_long, cat_double, cat_float, cat_ref, rv_cat]; decide) jml_74 (Nat.le_of_ble_eq_true rfl) ?_
            replace h := jgd_of h; obtain ⟨hb34, h⟩ := h
            replace h := jbd2_of h; obtain ⟨x35, μ36, hx35, h⟩ := h
            refine jr_V6_1 jf_95_84 hb34 (by omega) (r_Section_settled (by omega) _ _ _ _ _ hx35) (by simp only [jcats_cons, jcats_nil, cat_int, cat_long, cat_double, cat_float, cat_ref, rv_cat]; decide) jml_79 (Nat.le_of_ble_eq_true rfl) ?_
            replace h := obd_of h; obtain ⟨a37, rfl, h⟩ := h
            replace h := jgd_of h; obtain ⟨hb38, h⟩ := h
            replace h := obd_of h; obtain ⟨μ39, hμ39, h⟩ := h
            refine jr_V6v_2 jf_95_87 hb38 (by omega) (r_Row_put (by omega) _ _ _ _ _ hμ39) (Nat.le_of_ble_eq_true rfl) jml_66 (Nat.le_of_ble_eq_true rfl) ?_
            refine jr_aload_n jf_95_90 rfl (jg2_ne rfl (jg2_ne rfl hl0)) ?_
            replace h := obd_of h; obtain ⟨x40, hx40, h⟩ := h
            refine jr_getA jf_95_91 hx40 ?_
            refine jr_iconst jf_95_94 jc_i_1 ?_
            refine jr_aload_n jf_95_95 rfl (jg2_ne rfl (jg2_ne rfl hl0)) ?_
            refine jr_aload_n jf_95_96 rfl (jg2_ne rfl (jg2_ne rfl hl0)) ?_
            replace h := obd_of h; obtain ⟨x41, hx41, h⟩ := h
            refine jr_getA jf_95_97 hx41 ?_
            refine jr_aload_n jf_95_100 rfl (jg2_ne rfl (jg2_ne rfl hl0)) ?_
            refine jr_iconst jf_95_101 jc_i_2 ?_
            refine jr_lload_n jf_95_102 rfl (jg2_ne rfl (jg2_ne rfl hl1)) ?_
            replace h := jgd_of h; obtain ⟨hb42, h⟩ := h
            replace h := obd_of h; obtain ⟨x43, hx43, h⟩ := h
            refine jr_V6_2 jf_95_103 hb42 (by omega) (r_Section_times (by omega) _ _ _ _ _ hx43) (by simp only [jcats_cons, jcats_nil, cat_int, cat_long, cat_double, cat_float, cat_ref, rv_cat]; decide) jml_87 (Nat.le_of_ble_eq_true rfl) ?_
            refine jr_aload_n jf_95_106 rfl (jg2_ne rfl (jg2_ne rfl hl0)) ?_
            refine jr_iconst jf_95_107 jc_i_4 ?_
            refine jr_lload_n jf_95_108 rfl (jg2_ne rfl jg2_same) ?_
            replace h := jgd_of h; obtain ⟨hb44, h⟩ := h
            replace h := obd_of h; obtain ⟨x45, hx45, h⟩ := h
            refine jr_V6_2 jf_95_109 hb44 (by omega) (r_Section_lessTimes (by omega) _ _ _ _ _ hx45) (by simp only [jcats_cons, jcats_nil, cat_int, cat_long, cat_double, cat_float, cat_ref, rv_cat]; decide) jml_90 (Nat.le_of_ble_eq_true rfl) ?_
            replace h := obd_of h; obtain ⟨a46, rfl, h⟩ := h
            replace h := obd_of h; obtain ⟨x47, hx47, h⟩ := h
            rcases ite_or hx47 with ⟨hb, hx⟩ | ⟨hb0, hx⟩
            · refine jr_V8a_2 jf_95_112 hb (by omega) (r_Real_plus (by omega) _ _ _ _ _ hx) (by simp only [jcats_cons, jcats_nil, cat_int, cat_long, cat_double, cat_float, cat_ref, rv_cat]; decide) jml_74 (Nat.le_of_ble_eq_true rfl) ?_
              replace h := jgd_of h; obtain ⟨hb48, h⟩ := h
              replace h := jbd2_of h; obtain ⟨x49, μ50, hx49, h⟩ := h
              refine jr_V6_1 jf_95_115 hb48 (by omega) (r_Section_settled (by omega) _ _ _ _ _ hx49) (by simp only [jcats_cons, jcats_nil, cat_int, cat_long, cat_double, cat_float, cat_ref, rv_cat]; decide) jml_79 (Nat.le_of_ble_eq_true rfl) ?_
              replace h := obd_of h; obtain ⟨a51, rfl, h⟩ := h
              replace h := jgd_of h; obtain ⟨hb52, h⟩ := h
              replace h := obd_of h; obtain ⟨μ53, hμ53, h⟩ := h
              refine jr_V6v_2 jf_95_118 hb52 (by omega) (r_Row_put (by omega) _ _ _ _ _ hμ53) (Nat.le_of_ble_eq_true rfl) jml_66 (Nat.le_of_ble_eq_true rfl) ?_
              refine jr_lload_n jf_95_121 rfl (jg2_ne rfl jg2_same) ?_
              obtain ⟨rfl, rfl⟩ := Prod.mk.inj (Option.some.inj h)
              exact jr_retJ jf_95_122 jmt_95
            · obtain ⟨hb, hx⟩ := jgd_of hx
              obtain hx := Option.some.inj hx
              refine jr_V8b_2 jf_95_112 hb0 hb (by omega) (r_Shorts_plus (by omega) _ _ _ _ _ hx) (by simp only [jcats_cons, jcats_nil, cat_int, cat_long, cat_double, cat_float, cat_ref, rv_cat]; decide) jml_78 (Nat.le_of_ble_eq_true rfl) ?_
              replace h := jgd_of h; obtain ⟨hb48, h⟩ := h
              replace h := jbd2_of h; obtain ⟨x49, μ50, hx49, h⟩ := h
              refine jr_V6_1 jf_95_115 hb48 (by omega) (r_Section_settled (by omega) _ _ _ _ _ hx49) (by simp only [jcats_cons, jcats_nil, cat_int, cat_long, cat_double, cat_float, cat_ref, rv_cat]; decide) jml_79 (Nat.le_of_ble_eq_true rfl) ?_
              replace h := obd_of h; obtain ⟨a51, rfl, h⟩ := h
              replace h := jgd_of h; obtain ⟨hb52, h⟩ := h
              replace h := obd_of h; obtain ⟨μ53, hμ53, h⟩ := h
              refine jr_V6v_2 jf_95_118 hb52 (by omega) (r_Row_put (by omega) _ _ _ _ _ hμ53) (Nat.le_of_ble_eq_true rfl) jml_66 (Nat.le_of_ble_eq_true rfl) ?_
              refine jr_lload_n jf_95_121 rfl (jg2_ne rfl jg2_same) ?_
              obtain ⟨rfl, rfl⟩ := Prod.mk.inj (Option.some.inj h)
              exact jr_retJ jf_95_122 jmt_95
          · obtain ⟨hb, hx⟩ := jgd_of hx
            obtain hx := Option.some.inj hx
            refine jr_V8b_2 jf_95_81 hb0 hb (by omega) (r_Shorts_plus (by omega) _ _ _ _ _ hx) (by simp only [jcats_cons, jcats_nil, cat_int, cat_long, cat_double, cat_float, cat_ref, rv_cat]; decide) jml_78 (Nat.le_of_ble_eq_true rfl) ?_
            replace h := jgd_of h; obtain ⟨hb34, h⟩ := h
            replace h := jbd2_of h; obtain ⟨x35, μ36, hx35, h⟩ := h
            refine jr_V6_1 jf_95_84 hb34 (by omega) (r_Section_settled (by omega) _ _ _ _ _ hx35) (by simp only [jcats_cons, jcats_nil, cat_int, cat_long, cat_double, cat_float, cat_ref, rv_cat]; decide) jml_79 (Nat.le_of_ble_eq_true rfl) ?_
            replace h := obd_of h; obtain ⟨a37, rfl, h⟩ := h
            replace h := jgd_of h; obtain ⟨hb38, h⟩ := h
            replace h := obd_of h; obtain ⟨μ39, hμ39, h⟩ := h
            refine jr_V6v_2 jf_95_87 hb38 (by omega) (r_Row_put (by omega) _ _ _ _ _ hμ39) (Nat.le_of_ble_eq_true rfl) jml_66 (Nat.le_of_ble_eq_true rfl) ?_
            refine jr_aload_n jf_95_90 rfl (jg2_ne rfl (jg2_ne rfl hl0)) ?_
            replace h := obd_of h; obtain ⟨x40, hx40, h⟩ := h
            refine jr_getA jf_95_91 hx40 ?_
            refine jr_iconst jf_95_94 jc_i_1 ?_
            refine jr_aload_n jf_95_95 rfl (jg2_ne rfl (jg2_ne rfl hl0)) ?_
            refine jr_aload_n jf_95_96 rfl (jg2_ne rfl (jg2_ne rfl hl0)) ?_
            replace h := obd_of h; obtain ⟨x41, hx41, h⟩ := h
            refine jr_getA jf_95_97 hx41 ?_
            refine jr_aload_n jf_95_100 rfl (jg2_ne rfl (jg2_ne rfl hl0)) ?_
            refine jr_iconst jf_95_101 jc_i_2 ?_
            refine jr_lload_n jf_95_102 rfl (jg2_ne rfl (jg2_ne rfl hl1)) ?_
            replace h := jgd_of h; obtain ⟨hb42, h⟩ := h
            replace h := obd_of h; obtain ⟨x43, hx43, h⟩ := h
            refine jr_V6_2 jf_95_103 hb42 (by omega) (r_Section_times (by omega) _ _ _ _ _ hx43) (by simp only [jcats_cons, jcats_nil, cat_int, cat_long, cat_double, cat_float, cat_ref, rv_cat]; decide) jml_87 (Nat.le_of_ble_eq_true rfl) ?_
            refine jr_aload_n jf_95_106 rfl (jg2_ne rfl (jg2_ne rfl hl0)) ?_
            refine jr_iconst jf_95_107 jc_i_4 ?_
            refine jr_lload_n jf_95_108 rfl (jg2_ne rfl jg2_same) ?_
            replace h := jgd_of h; obtain ⟨hb44, h⟩ := h
            replace h := obd_of h; obtain ⟨x45, hx45, h⟩ := h
            refine jr_V6_2 jf_95_109 hb44 (by omega) (r_Section_lessTimes (by omega) _ _ _ _ _ hx45) (by simp only [jcats_cons, jcats_nil, cat_int, cat_long, cat_double, cat_float, cat_ref, rv_cat]; decide) jml_90 (Nat.le_of_ble_eq_true rfl) ?_
            replace h := obd_of h; obtain ⟨a46, rfl, h⟩ := h
            replace h := obd_of h; obtain ⟨x47, hx47, h⟩ := h
            rcases ite_or hx47 with ⟨hb, hx⟩ | ⟨hb0, hx⟩
            · refine jr_V8a_2 jf_95_112 hb (by omega) (r_Real_plus (by omega) _ _ _ _ _ hx) (by simp only [jcats_cons, jcats_nil, cat_int, cat_long, cat_double, cat_float, cat_ref, rv_cat]; decide) jml_74 (Nat.le_of_ble_eq_true rfl) ?_
              replace h := jgd_of h; obtain ⟨hb48, h⟩ := h
              replace h := jbd2_of h; obtain ⟨x49, μ50, hx49, h⟩ := h
              refine jr_V6_1 jf_95_115 hb48 (by omega) (r_Section_settled (by omega) _ _ _ _ _ hx49) (by simp only [jcats_cons, jcats_nil, cat_int, cat_long, cat_double, cat_float, cat_ref, rv_cat]; decide) jml_79 (Nat.le_of_ble_eq_true rfl) ?_
              replace h := obd_of h; obtain ⟨a51, rfl, h⟩ := h
              replace h := jgd_of h; obtain ⟨hb52, h⟩ := h
              replace h := obd_of h; obtain ⟨μ53, hμ53, h⟩ := h
              refine jr_V6v_2 jf_95_118 hb52 (by omega) (r_Row_put (by omega) _ _ _ _ _ hμ53) (Nat.le_of_ble_eq_true rfl) jml_66 (Nat.le_of_ble_eq_true rfl) ?_
              refine jr_lload_n jf_95_121 rfl (jg2_ne rfl jg2_same) ?_
              obtain ⟨rfl, rfl⟩ := Prod.mk.inj (Option.some.inj h)
              exact jr_retJ jf_95_122 jmt_95
            · obtain ⟨hb, hx⟩ := jgd_of hx
              obtain hx := Option.some.inj hx
              refine jr_V8b_2 jf_95_112 hb0 hb (by omega) (r_Shorts_plus (by omega) _ _ _ _ _ hx) (by simp only [jcats_cons, jcats_nil, cat_int, cat_long, cat_double, cat_float, cat_ref, rv_cat]; decide) jml_78 (Nat.le_of_ble_eq_true rfl) ?_
              replace h := jgd_of h; obtain ⟨hb48, h⟩ := h
              replace h := jbd2_of h; obtain ⟨x49, μ50, hx49, h⟩ := h
              refine jr_V6_1 jf_95_115 hb48 (by omega) (r_Section_settled (by omega) _ _ _ _ _ hx49) (by simp only [jcats_cons, jcats_nil, cat_int, cat_long, cat_double, cat_float, cat_ref, rv_cat]; decide) jml_79 (Nat.le_of_ble_eq_true rfl) ?_
              replace h := obd_of h; obtain ⟨a51, rfl, h⟩ := h
              replace h := jgd_of h; obtain ⟨hb52, h⟩ := h
              replace h := obd_of h; obtain ⟨μ53, hμ53, h⟩ := h
              refine jr_V6v_2 jf_95_118 hb52 (by omega) (r_Row_put (by omega) _ _ _ _ _ hμ53) (Nat.le_of_ble_eq_true rfl) jml_66 (Nat.le_of_ble_eq_true rfl) ?_
              refine jr_lload_n jf_95_121 rfl (jg2_ne rfl jg2_same) ?_
              obtain ⟨rfl, rfl⟩ := Prod.mk.inj (Option.some.inj h)
              exact jr_retJ jf_95_122 jmt_95
        · obtain ⟨hb, hx⟩ := jgd_of hx
          obtain hx := Option.some.inj hx
          refine jr_V8b_1 jf_95_78 hb0 hb (by omega) (r_Shorts_term (by omega) _ _ _ _ hx) (by simp only [jcats_cons, jcats_nil, cat_int, cat_long, cat_double, cat_float, cat_ref, rv_cat]; decide) jml_73 (Nat.le_of_ble_eq_true rfl) ?_
          replace h := obd_of h; obtain ⟨a32, rfl, h⟩ := h
          replace h := obd_of h; obtain ⟨x33, hx33, h⟩ := h
          rcases ite_or hx33 with ⟨hb, hx⟩ | ⟨hb0, hx⟩
          · refine jr_V8a_2 jf_95_81 hb (by omega) (r_Real_plus (by omega) _ _ _ _ _ hx) (by simp only [jcats_cons, jcats_nil, cat_int, cat_long, cat_double, cat_float, cat_ref, rv_cat]; decide) jml_74 (Nat.le_of_ble_eq_true rfl) ?_
            replace h := jgd_of h; obtain ⟨hb34, h⟩ := h
            replace h := jbd2_of h; obtain ⟨x35, μ36, hx35, h⟩ := h
            refine jr_V6_1 jf_95_84 hb34 (by omega) (r_Section_settled (by omega) _ _ _ _ _ hx35) (by simp only [jcats_cons, jcats_nil, cat_int, cat_long, cat_double, cat_float, cat_ref, rv_cat]; decide) jml_79 (Nat.le_of_ble_eq_true rfl) ?_
            replace h := obd_of h; obtain ⟨a37, rfl, h⟩ := h
            replace h := jgd_of h; obtain ⟨hb38, h⟩ := h
            replace h := obd_of h; obtain ⟨μ39, hμ39, h⟩ := h
            refine jr_V6v_2 jf_95_87 hb38 (by omega) (r_Row_put (by omega) _ _ _ _ _ hμ39) (Nat.le_of_ble_eq_true rfl) jml_66 (Nat.le_of_ble_eq_true rfl) ?_
            refine jr_aload_n jf_95_90 rfl (jg2_ne rfl (jg2_ne rfl hl0)) ?_
            replace h := obd_of h; obtain ⟨x40, hx40, h⟩ := h
            refine jr_getA jf_95_91 hx40 ?_
            refine jr_iconst jf_95_94 jc_i_1 ?_
            refine jr_aload_n jf_95_95 rfl (jg2_ne rfl (jg2_ne rfl hl0)) ?_
            refine jr_aload_n jf_95_96 rfl (jg2_ne rfl (jg2_ne rfl hl0)) ?_
            replace h := obd_of h; obtain ⟨x41, hx41, h⟩ := h
            refine jr_getA jf_95_97 hx41 ?_
            refine jr_aload_n jf_95_100 rfl (jg2_ne rfl (jg2_ne rfl hl0)) ?_
            refine jr_iconst jf_95_101 jc_i_2 ?_
            refine jr_lload_n jf_95_102 rfl (jg2_ne rfl (jg2_ne rfl hl1)) ?_
            replace h := jgd_of h; obtain ⟨hb42, h⟩ := h
            replace h := obd_of h; obtain ⟨x43, hx43, h⟩ := h
            refine jr_V6_2 jf_95_103 hb42 (by omega) (r_Section_times (by omega) _ _ _ _ _ hx43) (by simp only [jcats_cons, jcats_nil, cat_int, cat_long, cat_double, cat_float, cat_ref, rv_cat]; decide) jml_87 (Nat.le_of_ble_eq_true rfl) ?_
            refine jr_aload_n jf_95_106 rfl (jg2_ne rfl (jg2_ne rfl hl0)) ?_
            refine jr_iconst jf_95_107 jc_i_4 ?_
            refine jr_lload_n jf_95_108 rfl (jg2_ne rfl jg2_same) ?_
            replace h := jgd_of h; obtain ⟨hb44, h⟩ := h
            replace h := obd_of h; obtain ⟨x45, hx45, h⟩ := h
            refine jr_V6_2 jf_95_109 hb44 (by omega) (r_Section_lessTimes (by omega) _ _ _ _ _ hx45) (by simp only [jcats_cons, jcats_nil, cat_int, cat_long, cat_double, cat_float, cat_ref, rv_cat]; decide) jml_90 (Nat.le_of_ble_eq_true rfl) ?_
            replace h := obd_of h; obtain ⟨a46, rfl, h⟩ := h
            replace h := obd_of h; obtain ⟨x47, hx47, h⟩ := h
            rcases ite_or hx47 with ⟨hb, hx⟩ | ⟨hb0, hx⟩
            · refine jr_V8a_2 jf_95_112 hb (by omega) (r_Real_plus (by omega) _ _ _ _ _ hx) (by simp only [jcats_cons, jcats_nil, cat_int, cat_long, cat_double, cat_float, cat_ref, rv_cat]; decide) jml_74 (Nat.le_of_ble_eq_true rfl) ?_
              replace h := jgd_of h; obtain ⟨hb48, h⟩ := h
              replace h := jbd2_of h; obtain ⟨x49, μ50, hx49, h⟩ := h
              refine jr_V6_1 jf_95_115 hb48 (by omega) (r_Section_settled (by omega) _ _ _ _ _ hx49) (by simp only [jcats_cons, jcats_nil, cat_int, cat_long, cat_double, cat_float, cat_ref, rv_cat]; decide) jml_79 (Nat.le_of_ble_eq_true rfl) ?_
              replace h := obd_of h; obtain ⟨a51, rfl, h⟩ := h
              replace h := jgd_of h; obtain ⟨hb52, h⟩ := h
              replace h := obd_of h; obtain ⟨μ53, hμ53, h⟩ := h
              refine jr_V6v_2 jf_95_118 hb52 (by omega) (r_Row_put (by omega) _ _ _ _ _ hμ53) (Nat.le_of_ble_eq_true rfl) jml_66 (Nat.le_of_ble_eq_true rfl) ?_
              refine jr_lload_n jf_95_121 rfl (jg2_ne rfl jg2_same) ?_
              obtain ⟨rfl, rfl⟩ := Prod.mk.inj (Option.some.inj h)
              exact jr_retJ jf_95_122 jmt_95
            · obtain ⟨hb, hx⟩ := jgd_of hx
              obtain hx := Option.some.inj hx
              refine jr_V8b_2 jf_95_112 hb0 hb (by omega) (r_Shorts_plus (by omega) _ _ _ _ _ hx) (by simp only [jcats_cons, jcats_nil, cat_int, cat_long, cat_double, cat_float, cat_ref, rv_cat]; decide) jml_78 (Nat.le_of_ble_eq_true rfl) ?_
              replace h := jgd_of h; obtain ⟨hb48, h⟩ := h
              replace h := jbd2_of h; obtain ⟨x49, μ50, hx49, h⟩ := h
              refine jr_V6_1 jf_95_115 hb48 (by omega) (r_Section_settled (by omega) _ _ _ _ _ hx49) (by simp only [jcats_cons, jcats_nil, cat_int, cat_long, cat_double, cat_float, cat_ref, rv_cat]; decide) jml_79 (Nat.le_of_ble_eq_true rfl) ?_
              replace h := obd_of h; obtain ⟨a51, rfl, h⟩ := h
              replace h := jgd_of h; obtain ⟨hb52, h⟩ := h
              replace h := obd_of h; obtain ⟨μ53, hμ53, h⟩ := h
              refine jr_V6v_2 jf_95_118 hb52 (by omega) (r_Row_put (by omega) _ _ _ _ _ hμ53) (Nat.le_of_ble_eq_true rfl) jml_66 (Nat.le_of_ble_eq_true rfl) ?_
              refine jr_lload_n jf_95_121 rfl (jg2_ne rfl jg2_same) ?_
              obtain ⟨rfl, rfl⟩ := Prod.mk.inj (Option.some.inj h)
              exact jr_retJ jf_95_122 jmt_95
          · obtain ⟨hb, hx⟩ := jgd_of hx
            obtain hx := Option.some.inj hx
            refine jr_V8b_2 jf_95_81 hb0 hb (by omega) (r_Shorts_plus (by omega) _ _ _ _ _ hx) (by simp only [jcats_cons, jcats_nil, cat_int, cat_long, cat_double, cat_float, cat_ref, rv_cat]; decide) jml_78 (Nat.le_of_ble_eq_true rfl) ?_
            replace h := jgd_of h; obtain ⟨hb34, h⟩ := h
            replace h := jbd2_of h; obtain ⟨x35, μ36, hx35, h⟩ := h
            refine jr_V6_1 jf_95_84 hb34 (by omega) (r_Section_settled (by omega) _ _ _ _ _ hx35) (by simp only [jcats_cons, jcats_nil, cat_int, cat_long, cat_double, cat_float, cat_ref, rv_cat]; decide) jml_79 (Nat.le_of_ble_eq_true rfl) ?_
            replace h := obd_of h; obtain ⟨a37, rfl, h⟩ := h
            replace h := jgd_of h; obtain ⟨hb38, h⟩ := h
            replace h := obd_of h; obtain ⟨μ39, hμ39, h⟩ := h
            refine jr_V6v_2 jf_95_87 hb38 (by omega) (r_Row_put (by omega) _ _ _ _ _ hμ39) (Nat.le_of_ble_eq_true rfl) jml_66 (Nat.le_of_ble_eq_true rfl) ?_
            refine jr_aload_n jf_95_90 rfl (jg2_ne rfl (jg2_ne rfl hl0)) ?_
            replace h := obd_of h; obtain ⟨x40, hx40, h⟩ := h
            refine jr_getA jf_95_91 hx40 ?_
            refine jr_iconst jf_95_94 jc_i_1 ?_
            refine jr_aload_n jf_95_95 rfl (jg2_ne rfl (jg2_ne rfl hl0)) ?_
            refine jr_aload_n jf_95_96 rfl (jg2_ne rfl (jg2_ne rfl hl0)) ?_
            replace h := obd_of h; obtain ⟨x41, hx41, h⟩ := h
            refine jr_getA jf_95_97 hx41 ?_
            refine jr_aload_n jf_95_100 rfl (jg2_ne rfl (jg2_ne rfl hl0)) ?_
            refine jr_iconst jf_95_101 jc_i_2 ?_
            refine jr_lload_n jf_95_102 rfl (jg2_ne rfl (jg2_ne rfl hl1)) ?_
            replace h := jgd_of h; obtain ⟨hb42, h⟩ := h
            replace h := obd_of h; obtain ⟨x43, hx43, h⟩ := h
            refine jr_V6_2 jf_95_103 hb42 (by omega) (r_Section_times (by omega) _ _ _ _ _ hx43) (by simp only [jcats_cons, jcats_nil, cat_int, cat_long, cat_double, cat_float, cat_ref, rv_cat]; decide) jml_87 (Nat.le_of_ble_eq_true rfl) ?_
            refine jr_aload_n jf_95_106 rfl (jg2_ne rfl (jg2_ne rfl hl0)) ?_
            refine jr_iconst jf_95_107 jc_i_4 ?_
            refine jr_lload_n jf_95_108 rfl (jg2_ne rfl jg2_same) ?_
            replace h := jgd_of h; obtain ⟨hb44, h⟩ := h
            replace h := obd_of h; obtain ⟨x45, hx45, h⟩ := h
            refine jr_V6_2 jf_95_109 hb44 (by omega) (r_Section_lessTimes (by omega) _ _ _ _ _ hx45) (by simp only [jcats_cons, jcats_nil, cat_int, cat_long, cat_double, cat_float, cat_ref, rv_cat]; decide) jml_90 (Nat.le_of_ble_eq_true rfl) ?_
            replace h := obd_of h; obtain ⟨a46, rfl, h⟩ := h
            replace h := obd_of h; obtain ⟨x47, hx47, h⟩ := h
            rcases ite_or hx47 with ⟨hb, hx⟩ | ⟨hb0, hx⟩
            · refine jr_V8a_2 jf_95_112 hb (by omega) (r_Real_plus (by omega) _ _ _ _ _ hx) (by simp only [jcats_cons, jcats_nil, cat_int, cat_long, cat_double, cat_float, cat_ref, rv_cat]; decide) jml_74 (Nat.le_of_ble_eq_true rfl) ?_
              replace h := jgd_of h; obtain ⟨hb48, h⟩ := h
              replace h := jbd2_of h; obtain ⟨x49, μ50, hx49, h⟩ := h
              refine jr_V6_1 jf_95_115 hb48 (by omega) (r_Section_settled (by omega) _ _ _ _ _ hx49) (by simp only [jcats_cons, jcats_nil, cat_int, cat_long, cat_double, cat_float, cat_ref, rv_cat]; decide) jml_79 (Nat.le_of_ble_eq_true rfl) ?_
              replace h := obd_of h; obtain ⟨a51, rfl, h⟩ := h
              replace h := jgd_of h; obtain ⟨hb52, h⟩ := h
              replace h := obd_of h; obtain ⟨μ53, hμ53, h⟩ := h
              refine jr_V6v_2 jf_95_118 hb52 (by omega) (r_Row_put (by omega) _ _ _ _ _ hμ53) (Nat.le_of_ble_eq_true rfl) jml_66 (Nat.le_of_ble_eq_true rfl) ?_
              refine jr_lload_n jf_95_121 rfl (jg2_ne rfl jg2_same) ?_
              obtain ⟨rfl, rfl⟩ := Prod.mk.inj (Option.some.inj h)
              exact jr_retJ jf_95_122 jmt_95
            · obtain ⟨hb, hx⟩ := jgd_of hx
              obtain hx := Option.some.inj hx
              refine jr_V8b_2 jf_95_112 hb0 hb (by omega) (r_Shorts_plus (by omega) _ _ _ _ _ hx) (by simp only [jcats_cons, jcats_nil, cat_int, cat_long, cat_double, cat_float, cat_ref, rv_cat]; decide) jml_78 (Nat.le_of_ble_eq_true rfl) ?_
              replace h := jgd_of h; obtain ⟨hb48, h⟩ := h
              replace h := jbd2_of h; obtain ⟨x49, μ50, hx49, h⟩ := h
              refine jr_V6_1 jf_95_115 hb48 (by omega) (r_Section_settled (by omega) _ _ _ _ _ hx49) (by simp only [jcats_cons, jcats_nil, cat_int, cat_long, cat_double, cat_float, cat_ref, rv_cat]; decide) jml_79 (Nat.le_of_ble_eq_true rfl) ?_
              replace h := obd_of h; obtain ⟨a51, rfl, h⟩ := h
              replace h := jgd_of h; obtain ⟨hb52, h⟩ := h
              replace h := obd_of h; obtain ⟨μ53, hμ53, h⟩ := h
              refine jr_V6v_2 jf_95_118 hb52 (by omega) (r_Row_put (by omega) _ _ _ _ _ hμ53) (Nat.le_of_ble_eq_true rfl) jml_66 (Nat.le_of_ble_eq_true rfl) ?_
              refine jr_lload_n jf_95_121 rfl (jg2_ne rfl jg2_same) ?_
              obtain ⟨rfl, rfl⟩ := Prod.mk.inj (Option.some.inj h)
              exact jr_retJ jf_95_122 jmt_95
    · obtain ⟨hb, hx⟩ := jgd_of hx
      obtain hx := Option.some.inj hx
      refine jr_V8b_2 jf_95_26 hb0 hb (by omega) (r_Shorts_plus (by omega) _ _ _ _ _ hx) (Nat.le_of_ble_eq_true rfl) jml_78 (Nat.le_of_ble_eq_true rfl) ?_
      replace h := jgd_of h; obtain ⟨hb13, h⟩ := h
      replace h := jbd2_of h; obtain ⟨x14, μ15, hx14, h⟩ := h
      refine jr_V6_1 jf_95_29 hb13 (by omega) (r_Section_settled (by omega) _ _ _ _ _ hx14) (Nat.le_of_ble_eq_true rfl) jml_79 (Nat.le_of_ble_eq_true rfl) ?_
      refine jr_lstore_n jf_95_32 rfl jml_95 (by decide) ?_
      refine jr_aload_n jf_95_33 rfl (jg2_ne rfl hl0) ?_
      replace h := obd_of h; obtain ⟨x16, hx16, h⟩ := h
      refine jr_getA jf_95_34 hx16 ?_
      refine jr_aload_n jf_95_37 rfl (jg2_ne rfl hl0) ?_
      refine jr_iconst jf_95_38 jc_i_1 ?_
      refine jr_lload_n jf_95_39 rfl (jg2_ne rfl hl1) ?_
      replace h := jgd_of h; obtain ⟨hb17, h⟩ := h
      replace h := obd_of h; obtain ⟨x18, hx18, h⟩ := h
      refine jr_V6_2 jf_95_40 hb17 (by omega) (r_Section_times (by omega) _ _ _ _ _ hx18) (by simp only [jcats_cons, jcats_nil, cat_int, cat_long, cat_double, cat_float, cat_ref, rv_cat]; decide) jml_87 (Nat.le_of_ble_eq_true rfl) ?_
      refine jr_aload_n jf_95_43 rfl (jg2_ne rfl hl0) ?_
      refine jr_iconst jf_95_44 jc_i_3 ?_
      refine jr_lload_n jf_95_45 rfl jg2_same ?_
      replace h := jgd_of h; obtain ⟨hb19, h⟩ := h
      replace h := obd_of h; obtain ⟨x20, hx20, h⟩ := h
      refine jr_V6_2 jf_95_46 hb19 (by omega) (r_Section_lessTimes (by omega) _ _ _ _ _ hx20) (by simp only [jcats_cons, jcats_nil, cat_int, cat_long, cat_double, cat_float, cat_ref, rv_cat]; decide) jml_90 (Nat.le_of_ble_eq_true rfl) ?_
      replace h := obd_of h; obtain ⟨a21, rfl, h⟩ := h
      replace h := obd_of h; obtain ⟨x22, hx22, h⟩ := h
      rcases ite_or hx22 with ⟨hb, hx⟩ | ⟨hb0, hx⟩
      · refine jr_V8a_2 jf_95_49 hb (by omega) (r_Real_plus (by omega) _ _ _ _ _ hx) (Nat.le_of_ble_eq_true rfl) jml_74 (Nat.le_of_ble_eq_true rfl) ?_
        refine jr_lstore jf_95_52 jml_95 (by decide) ?_
        refine jr_aload_n jf_95_54 rfl (jg2_ne rfl (jg2_ne rfl hl0)) ?_
        replace h := obd_of h; obtain ⟨x23, hx23, h⟩ := h
        refine jr_getA jf_95_55 hx23 ?_
        refine jr_iconst jf_95_58 jc_i_0 ?_
        refine jr_aload_n jf_95_59 rfl (jg2_ne rfl (jg2_ne rfl hl0)) ?_
        refine jr_aload_n jf_95_60 rfl (jg2_ne rfl (jg2_ne rfl hl0)) ?_
        replace h := obd_of h; obtain ⟨x24, hx24, h⟩ := h
        refine jr_getA jf_95_61 hx24 ?_
        refine jr_lload jf_95_64 jg2_same ?_
        refine jr_aload_n jf_95_66 rfl (jg2_ne rfl (jg2_ne rfl hl0)) ?_
        replace h := obd_of h; obtain ⟨x25, hx25, h⟩ := h
        refine jr_getA jf_95_67 hx25 ?_
        refine jr_aload_n jf_95_70 rfl (jg2_ne rfl (jg2_ne rfl hl0)) ?_
        replace h := obd_of h; obtain ⟨x26, hx26, h⟩ := h
        refine jr_getA jf_95_71 hx26 ?_
        refine jr_iconst jf_95_74 jc_i_1 ?_
        replace h := obd_of h; obtain ⟨a27, rfl, h⟩ := h
        replace h := jgd_of h; obtain ⟨hb28, h⟩ := h
        replace h := obd_of h; obtain ⟨x29, hx29, h⟩ := h
        refine jr_V6_1 jf_95_75 hb28 (by omega) (r_Row_at (by omega) _ _ _ _ hx29) (by simp only [jcats_cons, jcats_nil, cat_int, cat_long, cat_double, cat_float, cat_ref, rv_cat]; decide) jml_38 (Nat.le_of_ble_eq_true rfl) ?_
        replace h := obd_of h; obtain ⟨a30, rfl, h⟩ := h
        replace h := obd_of h; obtain ⟨x31, hx31, h⟩ := h
        rcases ite_or hx31 with ⟨hb, hx⟩ | ⟨hb0, hx⟩
        · obtain hx := Option.some.inj hx
          refine jr_V8a_1 jf_95_78 hb (by omega) (r_Real_term (by omega) _ _ _ _ hx) (by simp only [jcats_cons, jcats_nil, cat_int, cat_long, cat_double, cat_float, cat_ref, rv_cat]; decide) jml_72 (Nat.le_of_ble_eq_true rfl) ?_
          replace h := obd_of h; obtain ⟨a32, rfl, h⟩ := h
          replace h := obd_of h; obtain ⟨x33, hx33, h⟩ := h
          rcases ite_or hx33 with ⟨hb, hx⟩ | ⟨hb0, hx⟩
          · refine jr_V8a_2 jf_95_81 hb (by omega) (r_Real_plus (by omega) _ _ _ _ _ hx) (by simp only [jcats_cons, jcats_nil, cat_int, cat_long, cat_double, cat_float, cat_ref, rv_cat]; decide) jml_74 (Nat.le_of_ble_eq_true rfl) ?_
            replace h := jgd_of h; obtain ⟨hb34, h⟩ := h
            replace h := jbd2_of h; obtain ⟨x35, μ36, hx35, h⟩ := h
            refine jr_V6_1 jf_95_84 hb34 (by omega) (r_Section_settled (by omega) _ _ _ _ _ hx35) (by simp only [jcats_cons, jcats_nil, cat_int, cat_long, cat_double, cat_float, cat_ref, rv_cat]; decide) jml_79 (Nat.le_of_ble_eq_true rfl) ?_
            replace h := obd_of h; obtain ⟨a37, rfl, h⟩ := h
            replace h := jgd_of h; obtain ⟨hb38, h⟩ := h
            replace h := obd_of h; obtain ⟨μ39, hμ39, h⟩ := h
            refine jr_V6v_2 jf_95_87 hb38 (by omega) (r_Row_put (by omega) _ _ _ _ _ hμ39) (Nat.le_of_ble_eq_true rfl) jml_66 (Nat.le_of_ble_eq_true rfl) ?_
            refine jr_aload_n jf_95_90 rfl (jg2_ne rfl (jg2_ne rfl hl0)) ?_
            replace h := obd_of h; obtain ⟨x40, hx40, h⟩ := h
            refine jr_getA jf_95_91 hx40 ?_
            refine jr_iconst jf_95_94 jc_i_1 ?_
            refine jr_aload_n jf_95_95 rfl (jg2_ne rfl (jg2_ne rfl hl0)) ?_
            refine jr_aload_n jf_95_96 rfl (jg2_ne rfl (jg2_ne rfl hl0)) ?_
            replace h := obd_of h; obtain ⟨x41, hx41, h⟩ := h
            refine jr_getA jf_95_97 hx41 ?_
            refine jr_aload_n jf_95_100 rfl (jg2_ne rfl (jg2_ne rfl hl0)) ?_
            refine jr_iconst jf_95_101 jc_i_2 ?_
            refine jr_lload_n jf_95_102 rfl (jg2_ne rfl (jg2_ne rfl hl1)) ?_
            replace h := jgd_of h; obtain ⟨hb42, h⟩ := h
            replace h := obd_of h; obtain ⟨x43, hx43, h⟩ := h
            refine jr_V6_2 jf_95_103 hb42 (by omega) (r_Section_times (by omega) _ _ _ _ _ hx43) (by simp only [jcats_cons, jcats_nil, cat_int, cat_long, cat_double, cat_float, cat_ref, rv_cat]; decide) jml_87 (Nat.le_of_ble_eq_true rfl) ?_
            refine jr_aload_n jf_95_106 rfl (jg2_ne rfl (jg2_ne rfl hl0)) ?_
            refine jr_iconst jf_95_107 jc_i_4 ?_
            refine jr_lload_n jf_95_108 rfl (jg2_ne rfl jg2_same) ?_
            replace h := jgd_of h; obtain ⟨hb44, h⟩ := h
            replace h := obd_of h; obtain ⟨x45, hx45, h⟩ := h
            refine jr_V6_2 jf_95_109 hb44 (by omega) (r_Section_lessTimes (by omega) _ _ _ _ _ hx45) (by simp only [jcats_cons, jcats_nil, cat_int, cat_long, cat_double, cat_float, cat_ref, rv_cat]; decide) jml_90 (Nat.le_of_ble_eq_true rfl) ?_
            replace h := obd_of h; obtain ⟨a46, rfl, h⟩ := h
            replace h := obd_of h; obtain ⟨x47, hx47, h⟩ := h
            rcases ite_or hx47 with ⟨hb, hx⟩ | ⟨hb0, hx⟩
            · refine jr_V8a_2 jf_95_112 hb (by omega) (r_Real_plus (by omega) _ _ _ _ _ hx) (by simp only [jcats_cons, jcats_nil, cat_int, cat_long, cat_double, cat_float, cat_ref, rv_cat]; decide) jml_74 (Nat.le_of_ble_eq_true rfl) ?_
              replace h := jgd_of h; obtain ⟨hb48, h⟩ := h
              replace h := jbd2_of h; obtain ⟨x49, μ50, hx49, h⟩ := h
              refine jr_V6_1 jf_95_115 hb48 (by omega) (r_Section_settled (by omega) _ _ _ _ _ hx49) (by simp only [jcats_cons, jcats_nil, cat_int, cat_long, cat_double, cat_float, cat_ref, rv_cat]; decide) jml_79 (Nat.le_of_ble_eq_true rfl) ?_
              replace h := obd_of h; obtain ⟨a51, rfl, h⟩ := h
              replace h := jgd_of h; obtain ⟨hb52, h⟩ := h
              replace h := obd_of h; obtain ⟨μ53, hμ53, h⟩ := h
              refine jr_V6v_2 jf_95_118 hb52 (by omega) (r_Row_put (by omega) _ _ _ _ _ hμ53) (Nat.le_of_ble_eq_true rfl) jml_66 (Nat.le_of_ble_eq_true rfl) ?_
              refine jr_lload_n jf_95_121 rfl (jg2_ne rfl jg2_same) ?_
              obtain ⟨rfl, rfl⟩ := Prod.mk.inj (Option.some.inj h)
              exact jr_retJ jf_95_122 jmt_95
            · obtain ⟨hb, hx⟩ := jgd_of hx
              obtain hx := Option.some.inj hx
              refine jr_V8b_2 jf_95_112 hb0 hb (by omega) (r_Shorts_plus (by omega) _ _ _ _ _ hx) (by simp only [jcats_cons, jcats_nil, cat_int, cat_long, cat_double, cat_float, cat_ref, rv_cat]; decide) jml_78 (Nat.le_of_ble_eq_true rfl) ?_
              replace h := jgd_of h; obtain ⟨hb48, h⟩ := h
              replace h := jbd2_of h; obtain ⟨x49, μ50, hx49, h⟩ := h
              refine jr_V6_1 jf_95_115 hb48 (by omega) (r_Section_settled (by omega) _ _ _ _ _ hx49) (by simp only [jcats_cons, jcats_nil, cat_int, cat_long, cat_double, cat_float, cat_ref, rv_cat]; decide) jml_79 (Nat.le_of_ble_eq_true rfl) ?_
              replace h := obd_of h; obtain ⟨a51, rfl, h⟩ := h
              replace h := jgd_of h; obtain ⟨hb52, h⟩ := h
              replace h := obd_of h; obtain ⟨μ53, hμ53, h⟩ := h
              refine jr_V6v_2 jf_95_118 hb52 (by omega) (r_Row_put (by omega) _ _ _ _ _ hμ53) (Nat.le_of_ble_eq_true rfl) jml_66 (Nat.le_of_ble_eq_true rfl) ?_
              refine jr_lload_n jf_95_121 rfl (jg2_ne rfl jg2_same) ?_
              obtain ⟨rfl, rfl⟩ := Prod.mk.inj (Option.some.inj h)
              exact jr_retJ jf_95_122 jmt_95
          · obtain ⟨hb, hx⟩ := jgd_of hx
            obtain hx := Option.some.inj hx
            refine jr_V8b_2 jf_95_81 hb0 hb (by omega) (r_Shorts_plus (by omega) _ _ _ _ _ hx) (by simp only [jcats_cons, jcats_nil, cat_int, cat_long, cat_double, cat_float, cat_ref, rv_cat]; decide) jml_78 (Nat.le_of_ble_eq_true rfl) ?_
            replace h := jgd_of h; obtain ⟨hb34, h⟩ := h
            replace h := jbd2_of h; obtain ⟨x35, μ36, hx35, h⟩ := h
            refine jr_V6_1 jf_95_84 hb34 (by omega) (r_Section_settled (by omega) _ _ _ _ _ hx35) (by simp only [jcats_cons, jcats_nil, cat_int, cat_long, cat_double, cat_float, cat_ref, rv_cat]; decide) jml_79 (Nat.le_of_ble_eq_true rfl) ?_
            replace h := obd_of h; obtain ⟨a37, rfl, h⟩ := h
            replace h := jgd_of h; obtain ⟨hb38, h⟩ := h
            replace h := obd_of h; obtain ⟨μ39, hμ39, h⟩ := h
            refine jr_V6v_2 jf_95_87 hb38 (by omega) (r_Row_put (by omega) _ _ _ _ _ hμ39) (Nat.le_of_ble_eq_true rfl) jml_66 (Nat.le_of_ble_eq_true rfl) ?_
            refine jr_aload_n jf_95_90 rfl (jg2_ne rfl (jg2_ne rfl hl0)) ?_
            replace h := obd_of h; obtain ⟨x40, hx40, h⟩ := h
            refine jr_getA jf_95_91 hx40 ?_
            refine jr_iconst jf_95_94 jc_i_1 ?_
            refine jr_aload_n jf_95_95 rfl (jg2_ne rfl (jg2_ne rfl hl0)) ?_
            refine jr_aload_n jf_95_96 rfl (jg2_ne rfl (jg2_ne rfl hl0)) ?_
            replace h := obd_of h; obtain ⟨x41, hx41, h⟩ := h
            refine jr_getA jf_95_97 hx41 ?_
            refine jr_aload_n jf_95_100 rfl (jg2_ne rfl (jg2_ne rfl hl0)) ?_
            refine jr_iconst jf_95_101 jc_i_2 ?_
            refine jr_lload_n jf_95_102 rfl (jg2_ne rfl (jg2_ne rfl hl1)) ?_
            replace h := jgd_of h; obtain ⟨hb42, h⟩ := h
            replace h := obd_of h; obtain ⟨x43, hx43, h⟩ := h
            refine jr_V6_2 jf_95_103 hb42 (by omega) (r_Section_times (by omega) _ _ _ _ _ hx43) (by simp only [jcats_cons, jcats_nil, cat_int, cat_long, cat_double, cat_float, cat_ref, rv_cat]; decide) jml_87 (Nat.le_of_ble_eq_true rfl) ?_
            refine jr_aload_n jf_95_106 rfl (jg2_ne rfl (jg2_ne rfl hl0)) ?_
            refine jr_iconst jf_95_107 jc_i_4 ?_
            refine jr_lload_n jf_95_108 rfl (jg2_ne rfl jg2_same) ?_
            replace h := jgd_of h; obtain ⟨hb44, h⟩ := h
            replace h := obd_of h; obtain ⟨x45, hx45, h⟩ := h
            refine jr_V6_2 jf_95_109 hb44 (by omega) (r_Section_lessTimes (by omega) _ _ _ _ _ hx45) (by simp only [jcats_cons, jcats_nil, cat_int, cat_long, cat_double, cat_float, cat_ref, rv_cat]; decide) jml_90 (Nat.le_of_ble_eq_true rfl) ?_
            replace h := obd_of h; obtain ⟨a46, rfl, h⟩ := h
            replace h := obd_of h; obtain ⟨x47, hx47, h⟩ := h
            rcases ite_or hx47 with ⟨hb, hx⟩ | ⟨hb0, hx⟩
            · refine jr_V8a_2 jf_95_112 hb (by omega) (r_Real_plus (by omega) _ _ _ _ _ hx) (by simp only [jcats_cons, jcats_nil, cat_int, cat_long, cat_double, cat_float, cat_ref, rv_cat]; decide) jml_74 (Nat.le_of_ble_eq_true rfl) ?_
              replace h := jgd_of h; obtain ⟨hb48, h⟩ := h
              replace h := jbd2_of h; obtain ⟨x49, μ50, hx49, h⟩ := h
              refine jr_V6_1 jf_95_115 hb48 (by omega) (r_Section_settled (by omega) _ _ _ _ _ hx49) (by simp only [jcats_cons, jcats_nil, cat_int, cat_long, cat_double, cat_float, cat_ref, rv_cat]; decide) jml_79 (Nat.le_of_ble_eq_true rfl) ?_
              replace h := obd_of h; obtain ⟨a51, rfl, h⟩ := h
              replace h := jgd_of h; obtain ⟨hb52, h⟩ := h
              replace h := obd_of h; obtain ⟨μ53, hμ53, h⟩ := h
              refine jr_V6v_2 jf_95_118 hb52 (by omega) (r_Row_put (by omega) _ _ _ _ _ hμ53) (Nat.le_of_ble_eq_true rfl) jml_66 (Nat.le_of_ble_eq_true rfl) ?_
              refine jr_lload_n jf_95_121 rfl (jg2_ne rfl jg2_same) ?_
              obtain ⟨rfl, rfl⟩ := Prod.mk.inj (Option.some.inj h)
              exact jr_retJ jf_95_122 jmt_95
            · obtain ⟨hb, hx⟩ := jgd_of hx
              obtain hx := Option.some.inj hx
              refine jr_V8b_2 jf_95_112 hb0 hb (by omega) (r_Shorts_plus (by omega) _ _ _ _ _ hx) (by simp only [jcats_cons, jcats_nil, cat_int, cat_long, cat_double, cat_float, cat_ref, rv_cat]; decide) jml_78 (Nat.le_of_ble_eq_true rfl) ?_
              replace h := jgd_of h; obtain ⟨hb48, h⟩ := h
              replace h := jbd2_of h; obtain ⟨x49, μ50, hx49, h⟩ := h
              refine jr_V6_1 jf_95_115 hb48 (by omega) (r_Section_settled (by omega) _ _ _ _ _ hx49) (by simp only [jcats_cons, jcats_nil, cat_int, cat_long, cat_double, cat_float, cat_ref, rv_cat]; decide) jml_79 (Nat.le_of_ble_eq_true rfl) ?_
              replace h := obd_of h; obtain ⟨a51, rfl, h⟩ := h
              replace h := jgd_of h; obtain ⟨hb52, h⟩ := h
              replace h := obd_of h; obtain ⟨μ53, hμ53, h⟩ := h
              refine jr_V6v_2 jf_95_118 hb52 (by omega) (r_Row_put (by omega) _ _ _ _ _ hμ53) (Nat.le_of_ble_eq_true rfl) jml_66 (Nat.le_of_ble_eq_true rfl) ?_
              refine jr_lload_n jf_95_121 rfl (jg2_ne rfl jg2_same) ?_
              obtain ⟨rfl, rfl⟩ := Prod.mk.inj (Option.some.inj h)
              exact jr_retJ jf_95_122 jmt_95
        · obtain ⟨hb, hx⟩ := jgd_of hx
          obtain hx := Option.some.inj hx
          refine jr_V8b_1 jf_95_78 hb0 hb (by omega) (r_Shorts_term (by omega) _ _ _ _ hx) (by simp only [jcats_cons, jcats_nil, cat_int, cat_long, cat_double, cat_float, cat_ref, rv_cat]; decide) jml_73 (Nat.le_of_ble_eq_true rfl) ?_
          replace h := obd_of h; obtain ⟨a32, rfl, h⟩ := h
          replace h := obd_of h; obtain ⟨x33, hx33, h⟩ := h
          rcases ite_or hx33 with ⟨hb, hx⟩ | ⟨hb0, hx⟩
          · refine jr_V8a_2 jf_95_81 hb (by omega) (r_Real_plus (by omega) _ _ _ _ _ hx) (by simp only [jcats_cons, jcats_nil, cat_int, cat_long, cat_double, cat_float, cat_ref, rv_cat]; decide) jml_74 (Nat.le_of_ble_eq_true rfl) ?_
            replace h := jgd_of h; obtain ⟨hb34, h⟩ := h
            replace h := jbd2_of h; obtain ⟨x35, μ36, hx35, h⟩ := h
            refine jr_V6_1 jf_95_84 hb34 (by omega) (r_Section_settled (by omega) _ _ _ _ _ hx35) (by simp only [jcats_cons, jcats_nil, cat_int, cat_long, cat_double, cat_float, cat_ref, rv_cat]; decide) jml_79 (Nat.le_of_ble_eq_true rfl) ?_
            replace h := obd_of h; obtain ⟨a37, rfl, h⟩ := h
            replace h := jgd_of h; obtain ⟨hb38, h⟩ := h
            replace h := obd_of h; obtain ⟨μ39, hμ39, h⟩ := h
            refine jr_V6v_2 jf_95_87 hb38 (by omega) (r_Row_put (by omega) _ _ _ _ _ hμ39) (Nat.le_of_ble_eq_true rfl) jml_66 (Nat.le_of_ble_eq_true rfl) ?_
            refine jr_aload_n jf_95_90 rfl (jg2_ne rfl (jg2_ne rfl hl0)) ?_
            replace h := obd_of h; obtain ⟨x40, hx40, h⟩ := h
            refine jr_getA jf_95_91 hx40 ?_
            refine jr_iconst jf_95_94 jc_i_1 ?_
            refine jr_aload_n jf_95_95 rfl (jg2_ne rfl (jg2_ne rfl hl0)) ?_
            refine jr_aload_n jf_95_96 rfl (jg2_ne rfl (jg2_ne rfl hl0)) ?_
            replace h := obd_of h; obtain ⟨x41, hx41, h⟩ := h
            refine jr_getA jf_95_97 hx41 ?_
            refine jr_aload_n jf_95_100 rfl (jg2_ne rfl (jg2_ne rfl hl0)) ?_
            refine jr_iconst jf_95_101 jc_i_2 ?_
            refine jr_lload_n jf_95_102 rfl (jg2_ne rfl (jg2_ne rfl hl1)) ?_
            replace h := jgd_of h; obtain ⟨hb42, h⟩ := h
            replace h := obd_of h; obtain ⟨x43, hx43, h⟩ := h
            refine jr_V6_2 jf_95_103 hb42 (by omega) (r_Section_times (by omega) _ _ _ _ _ hx43) (by simp only [jcats_cons, jcats_nil, cat_int, cat_long, cat_double, cat_float, cat_ref, rv_cat]; decide) jml_87 (Nat.le_of_ble_eq_true rfl) ?_
            refine jr_aload_n jf_95_106 rfl (jg2_ne rfl (jg2_ne rfl hl0)) ?_
            refine jr_iconst jf_95_107 jc_i_4 ?_
            refine jr_lload_n jf_95_108 rfl (jg2_ne rfl jg2_same) ?_
            replace h := jgd_of h; obtain ⟨hb44, h⟩ := h
            replace h := obd_of h; obtain ⟨x45, hx45, h⟩ := h
            refine jr_V6_2 jf_95_109 hb44 (by omega) (r_Section_lessTimes (by omega) _ _ _ _ _ hx45) (by simp only [jcats_cons, jcats_nil, cat_int, cat_long, cat_double, cat_float, cat_ref, rv_cat]; decide) jml_90 (Nat.le_of_ble_eq_true rfl) ?_
            replace h := obd_of h; obtain ⟨a46, rfl, h⟩ := h
            replace h := obd_of h; obtain ⟨x47, hx47, h⟩ := h
            rcases ite_or hx47 with ⟨hb, hx⟩ | ⟨hb0, hx⟩
            · refine jr_V8a_2 jf_95_112 hb (by omega) (r_Real_plus (by omega) _ _ _ _ _ hx) (by simp only [jcats_cons, jcats_nil, cat_int, cat_long, cat_double, cat_float, cat_ref, rv_cat]; decide) jml_74 (Nat.le_of_ble_eq_true rfl) ?_
              replace h := jgd_of h; obtain ⟨hb48, h⟩ := h
              replace h := jbd2_of h; obtain ⟨x49, μ50, hx49, h⟩ := h
              refine jr_V6_1 jf_95_115 hb48 (by omega) (r_Section_settled (by omega) _ _ _ _ _ hx49) (by simp only [jcats_cons, jcats_nil, cat_int, cat_long, cat_double, cat_float, cat_ref, rv_cat]; decide) jml_79 (Nat.le_of_ble_eq_true rfl) ?_
              replace h := obd_of h; obtain ⟨a51, rfl, h⟩ := h
              replace h := jgd_of h; obtain ⟨hb52, h⟩ := h
              replace h := obd_of h; obtain ⟨μ53, hμ53, h⟩ := h
              refine jr_V6v_2 jf_95_118 hb52 (by omega) (r_Row_put (by omega) _ _ _ _ _ hμ53) (Nat.le_of_ble_eq_true rfl) jml_66 (Nat.le_of_ble_eq_true rfl) ?_
              refine jr_lload_n jf_95_121 rfl (jg2_ne rfl jg2_same) ?_
              obtain ⟨rfl, rfl⟩ := Prod.mk.inj (Option.some.inj h)
              exact jr_retJ jf_95_122 jmt_95
            · obtain ⟨hb, hx⟩ := jgd_of hx
              obtain hx := Option.some.inj hx
              refine jr_V8b_2 jf_95_112 hb0 hb (by omega) (r_Shorts_plus (by omega) _ _ _ _ _ hx) (by simp only [jcats_cons, jcats_nil, cat_int, cat_long, cat_double, cat_float, cat_ref, rv_cat]; decide) jml_78 (Nat.le_of_ble_eq_true rfl) ?_
              replace h := jgd_of h; obtain ⟨hb48, h⟩ := h
              replace h := jbd2_of h; obtain ⟨x49, μ50, hx49, h⟩ := h
              refine jr_V6_1 jf_95_115 hb48 (by omega) (r_Section_settled (by omega) _ _ _ _ _ hx49) (by simp only [jcats_cons, jcats_nil, cat_int, cat_long, cat_double, cat_float, cat_ref, rv_cat]; decide) jml_79 (Nat.le_of_ble_eq_true rfl) ?_
              replace h := obd_of h; obtain ⟨a51, rfl, h⟩ := h
              replace h := jgd_of h; obtain ⟨hb52, h⟩ := h
              replace h := obd_of h; obtain ⟨μ53, hμ53, h⟩ := h
              refine jr_V6v_2 jf_95_118 hb52 (by omega) (r_Row_put (by omega) _ _ _ _ _ hμ53) (Nat.le_of_ble_eq_true rfl) jml_66 (Nat.le_of_ble_eq_true rfl) ?_
              refine jr_lload_n jf_95_121 rfl (jg2_ne rfl jg2_same) ?_
              obtain ⟨rfl, rfl⟩ := Prod.mk.inj (Option.some.inj h)
              exact jr_retJ jf_95_122 jmt_95
          · obtain ⟨hb, hx⟩ := jgd_of hx
            obtain hx := Option.some.inj hx
            refine jr_V8b_2 jf_95_81 hb0 hb (by omega) (r_Shorts_plus (by omega) _ _ _ _ _ hx) (by simp only [jcats_cons, jcats_nil, cat_int, cat_long, cat_double, cat_float, cat_ref, rv_cat]; decide) jml_78 (Nat.le_of_ble_eq_true rfl) ?_
            replace h := jgd_of h; obtain ⟨hb34, h⟩ := h
            replace h := jbd2_of h; obtain ⟨x35, μ36, hx35, h⟩ := h
            refine jr_V6_1 jf_95_84 hb34 (by omega) (r_Section_settled (by omega) _ _ _ _ _ hx35) (by simp only [jcats_cons, jcats_nil, cat_int, cat_long, cat_double, cat_float, cat_ref, rv_cat]; decide) jml_79 (Nat.le_of_ble_eq_true rfl) ?_
            replace h := obd_of h; obtain ⟨a37, rfl, h⟩ := h
            replace h := jgd_of h; obtain ⟨hb38, h⟩ := h
            replace h := obd_of h; obtain ⟨μ39, hμ39, h⟩ := h
            refine jr_V6v_2 jf_95_87 hb38 (by omega) (r_Row_put (by omega) _ _ _ _ _ hμ39) (Nat.le_of_ble_eq_true rfl) jml_66 (Nat.le_of_ble_eq_true rfl) ?_
            refine jr_aload_n jf_95_90 rfl (jg2_ne rfl (jg2_ne rfl hl0)) ?_
            replace h := obd_of h; obtain ⟨x40, hx40, h⟩ := h
            refine jr_getA jf_95_91 hx40 ?_
            refine jr_iconst jf_95_94 jc_i_1 ?_
            refine jr_aload_n jf_95_95 rfl (jg2_ne rfl (jg2_ne rfl hl0)) ?_
            refine jr_aload_n jf_95_96 rfl (jg2_ne rfl (jg2_ne rfl hl0)) ?_
            replace h := obd_of h; obtain ⟨x41, hx41, h⟩ := h
            refine jr_getA jf_95_97 hx41 ?_
            refine jr_aload_n jf_95_100 rfl (jg2_ne rfl (jg2_ne rfl hl0)) ?_
            refine jr_iconst jf_95_101 jc_i_2 ?_
            refine jr_lload_n jf_95_102 rfl (jg2_ne rfl (jg2_ne rfl hl1)) ?_
            replace h := jgd_of h; obtain ⟨hb42, h⟩ := h
            replace h := obd_of h; obtain ⟨x43, hx43, h⟩ := h
            refine jr_V6_2 jf_95_103 hb42 (by omega) (r_Section_times (by omega) _ _ _ _ _ hx43) (by simp only [jcats_cons, jcats_nil, cat_int, cat_long, cat_double, cat_float, cat_ref, rv_cat]; decide) jml_87 (Nat.le_of_ble_eq_true rfl) ?_
            refine jr_aload_n jf_95_106 rfl (jg2_ne rfl (jg2_ne rfl hl0)) ?_
            refine jr_iconst jf_95_107 jc_i_4 ?_
            refine jr_lload_n jf_95_108 rfl (jg2_ne rfl jg2_same) ?_
            replace h := jgd_of h; obtain ⟨hb44, h⟩ := h
            replace h := obd_of h; obtain ⟨x45, hx45, h⟩ := h
            refine jr_V6_2 jf_95_109 hb44 (by omega) (r_Section_lessTimes (by omega) _ _ _ _ _ hx45) (by simp only [jcats_cons, jcats_nil, cat_int, cat_long, cat_double, cat_float, cat_ref, rv_cat]; decide) jml_90 (Nat.le_of_ble_eq_true rfl) ?_
            replace h := obd_of h; obtain ⟨a46, rfl, h⟩ := h
            replace h := obd_of h; obtain ⟨x47, hx47, h⟩ := h
            rcases ite_or hx47 with ⟨hb, hx⟩ | ⟨hb0, hx⟩
            · refine jr_V8a_2 jf_95_112 hb (by omega) (r_Real_plus (by omega) _ _ _ _ _ hx) (by simp only [jcats_cons, jcats_nil, cat_int, cat_long, cat_double, cat_float, cat_ref, rv_cat]; decide) jml_74 (Nat.le_of_ble_eq_true rfl) ?_
              replace h := jgd_of h; obtain ⟨hb48, h⟩ := h
              replace h := jbd2_of h; obtain ⟨x49, μ50, hx49, h⟩ := h
              refine jr_V6_1 jf_95_115 hb48 (by omega) (r_Section_settled (by omega) _ _ _ _ _ hx49) (by simp only [jcats_cons, jcats_nil, cat_int, cat_long, cat_double, cat_float, cat_ref, rv_cat]; decide) jml_79 (Nat.le_of_ble_eq_true rfl) ?_
              replace h := obd_of h; obtain ⟨a51, rfl, h⟩ := h
              replace h := jgd_of h; obtain ⟨hb52, h⟩ := h
              replace h := obd_of h; obtain ⟨μ53, hμ53, h⟩ := h
              refine jr_V6v_2 jf_95_118 hb52 (by omega) (r_Row_put (by omega) _ _ _ _ _ hμ53) (Nat.le_of_ble_eq_true rfl) jml_66 (Nat.le_of_ble_eq_true rfl) ?_
              refine jr_lload_n jf_95_121 rfl (jg2_ne rfl jg2_same) ?_
              obtain ⟨rfl, rfl⟩ := Prod.mk.inj (Option.some.inj h)
              exact jr_retJ jf_95_122 jmt_95
            · obtain ⟨hb, hx⟩ := jgd_of hx
              obtain hx := Option.some.inj hx
              refine jr_V8b_2 jf_95_112 hb0 hb (by omega) (r_Shorts_plus (by omega) _ _ _ _ _ hx) (by simp only [jcats_cons, jcats_nil, cat_int, cat_long, cat_double, cat_float, cat_ref, rv_cat]; decide) jml_78 (Nat.le_of_ble_eq_true rfl) ?_
              replace h := jgd_of h; obtain ⟨hb48, h⟩ := h
              replace h := jbd2_of h; obtain ⟨x49, μ50, hx49, h⟩ := h
              refine jr_V6_1 jf_95_115 hb48 (by omega) (r_Section_settled (by omega) _ _ _ _ _ hx49) (by simp only [jcats_cons, jcats_nil, cat_int, cat_long, cat_double, cat_float, cat_ref, rv_cat]; decide) jml_79 (Nat.le_of_ble_eq_true rfl) ?_
              replace h := obd_of h; obtain ⟨a51, rfl, h⟩ := h
              replace h := jgd_of h; obtain ⟨hb52, h⟩ := h
              replace h := obd_of h; obtain ⟨μ53, hμ53, h⟩ := h
              refine jr_V6v_2 jf_95_118 hb52 (by omega) (r_Row_put (by omega) _ _ _ _ _ hμ53) (Nat.le_of_ble_eq_true rfl) jml_66 (Nat.le_of_ble_eq_true rfl) ?_
              refine jr_lload_n jf_95_121 rfl (jg2_ne rfl jg2_same) ?_
              obtain ⟨rfl, rfl⟩ := Prod.mk.inj (Option.some.inj h)
              exact jr_retJ jf_95_122 jmt_95
      · obtain ⟨hb, hx⟩ := jgd_of hx
        obtain hx := Option.some.inj hx
        refine jr_V8b_2 jf_95_49 hb0 hb (by omega) (r_Shorts_plus (by omega) _ _ _ _ _ hx) (Nat.le_of_ble_eq_true rfl) jml_78 (Nat.le_of_ble_eq_true rfl) ?_
        refine jr_lstore jf_95_52 jml_95 (by decide) ?_
        refine jr_aload_n jf_95_54 rfl (jg2_ne rfl (jg2_ne rfl hl0)) ?_
        replace h := obd_of h; obtain ⟨x23, hx23, h⟩ := h
        refine jr_getA jf_95_55 hx23 ?_
        refine jr_iconst jf_95_58 jc_i_0 ?_
        refine jr_aload_n jf_95_59 rfl (jg2_ne rfl (jg2_ne rfl hl0)) ?_
        refine jr_aload_n jf_95_60 rfl (jg2_ne rfl (jg2_ne rfl hl0)) ?_
        replace h := obd_of h; obtain ⟨x24, hx24, h⟩ := h
        refine jr_getA jf_95_61 hx24 ?_
        refine jr_lload jf_95_64 jg2_same ?_
        refine jr_aload_n jf_95_66 rfl (jg2_ne rfl (jg2_ne rfl hl0)) ?_
        replace h := obd_of h; obtain ⟨x25, hx25, h⟩ := h
        refine jr_getA jf_95_67 hx25 ?_
        refine jr_aload_n jf_95_70 rfl (jg2_ne rfl (jg2_ne rfl hl0)) ?_
        replace h := obd_of h; obtain ⟨x26, hx26, h⟩ := h
        refine jr_getA jf_95_71 hx26 ?_
        refine jr_iconst jf_95_74 jc_i_1 ?_
        replace h := obd_of h; obtain ⟨a27, rfl, h⟩ := h
        replace h := jgd_of h; obtain ⟨hb28, h⟩ := h
        replace h := obd_of h; obtain ⟨x29, hx29, h⟩ := h
        refine jr_V6_1 jf_95_75 hb28 (by omega) (r_Row_at (by omega) _ _ _ _ hx29) (by simp only [jcats_cons, jcats_nil, cat_int, cat_long, cat_double, cat_float, cat_ref, rv_cat]; decide) jml_38 (Nat.le_of_ble_eq_true rfl) ?_
        replace h := obd_of h; obtain ⟨a30, rfl, h⟩ := h
        replace h := obd_of h; obtain ⟨x31, hx31, h⟩ := h
        rcases ite_or hx31 with ⟨hb, hx⟩ | ⟨hb0, hx⟩
        · obtain hx := Option.some.inj hx
          refine jr_V8a_1 jf_95_78 hb (by omega) (r_Real_term (by omega) _ _ _ _ hx) (by simp only [jcats_cons, jcats_nil, cat_int, cat_long, cat_double, cat_float, cat_ref, rv_cat]; decide) jml_72 (Nat.le_of_ble_eq_true rfl) ?_
          replace h := obd_of h; obtain ⟨a32, rfl, h⟩ := h
          replace h := obd_of h; obtain ⟨x33, hx33, h⟩ := h
          rcases ite_or hx33 with ⟨hb, hx⟩ | ⟨hb0, hx⟩
          · refine jr_V8a_2 jf_95_81 hb (by omega) (r_Real_plus (by omega) _ _ _ _ _ hx) (by simp only [jcats_cons, jcats_nil, cat_int, cat_long, cat_double, cat_float, cat_ref, rv_cat]; decide) jml_74 (Nat.le_of_ble_eq_true rfl) ?_
            replace h := jgd_of h; obtain ⟨hb34, h⟩ := h
            replace h := jbd2_of h; obtain ⟨x35, μ36, hx35, h⟩ := h
            refine jr_V6_1 jf_95_84 hb34 (by omega) (r_Section_settled (by omega) _ _ _ _ _ hx35) (by simp only [jcats_cons, jcats_nil, cat_int, cat_long, cat_double, cat_float, cat_ref, rv_cat]; decide) jml_79 (Nat.le_of_ble_eq_true rfl) ?_
            replace h := obd_of h; obtain ⟨a37, rfl, h⟩ := h
            replace h := jgd_of h; obtain ⟨hb38, h⟩ := h
            replace h := obd_of h; obtain ⟨μ39, hμ39, h⟩ := h
            refine jr_V6v_2 jf_95_87 hb38 (by omega) (r_Row_put (by omega) _ _ _ _ _ hμ39) (Nat.le_of_ble_eq_true rfl) jml_66 (Nat.le_of_ble_eq_true rfl) ?_
            refine jr_aload_n jf_95_90 rfl (jg2_ne rfl (jg2_ne rfl hl0)) ?_
            replace h := obd_of h; obtain ⟨x40, hx40, h⟩ := h
            refine jr_getA jf_95_91 hx40 ?_
            refine jr_iconst jf_95_94 jc_i_1 ?_
            refine jr_aload_n jf_95_95 rfl (jg2_ne rfl (jg2_ne rfl hl0)) ?_
            refine jr_aload_n jf_95_96 rfl (jg2_ne rfl (jg2_ne rfl hl0)) ?_
            replace h := obd_of h; obtain ⟨x41, hx41, h⟩ := h
            refine jr_getA jf_95_97 hx41 ?_
            refine jr_aload_n jf_95_100 rfl (jg2_ne rfl (jg2_ne rfl hl0)) ?_
            refine jr_iconst jf_95_101 jc_i_2 ?_
            refine jr_lload_n jf_95_102 rfl (jg2_ne rfl (jg2_ne rfl hl1)) ?_
            replace h := jgd_of h; obtain ⟨hb42, h⟩ := h
            replace h := obd_of h; obtain ⟨x43, hx43, h⟩ := h
            refine jr_V6_2 jf_95_103 hb42 (by omega) (r_Section_times (by omega) _ _ _ _ _ hx43) (by simp only [jcats_cons, jcats_nil, cat_int, cat_long, cat_double, cat_float, cat_ref, rv_cat]; decide) jml_87 (Nat.le_of_ble_eq_true rfl) ?_
            refine jr_aload_n jf_95_106 rfl (jg2_ne rfl (jg2_ne rfl hl0)) ?_
            refine jr_iconst jf_95_107 jc_i_4 ?_
            refine jr_lload_n jf_95_108 rfl (jg2_ne rfl jg2_same) ?_
            replace h := jgd_of h; obtain ⟨hb44, h⟩ := h
            replace h := obd_of h; obtain ⟨x45, hx45, h⟩ := h
            refine jr_V6_2 jf_95_109 hb44 (by omega) (r_Section_lessTimes (by omega) _ _ _ _ _ hx45) (by simp only [jcats_cons, jcats_nil, cat_int, cat_long, cat_double, cat_float, cat_ref, rv_cat]; decide) jml_90 (Nat.le_of_ble_eq_true rfl) ?_
            replace h := obd_of h; obtain ⟨a46, rfl, h⟩ := h
            replace h := obd_of h; obtain ⟨x47, hx47, h⟩ := h
            rcases ite_or hx47 with ⟨hb, hx⟩ | ⟨hb0, hx⟩
            · refine jr_V8a_2 jf_95_112 hb (by omega) (r_Real_plus (by omega) _ _ _ _ _ hx) (by simp only [jcats_cons, jcats_nil, cat_int, cat_long, cat_double, cat_float, cat_ref, rv_cat]; decide) jml_74 (Nat.le_of_ble_eq_true rfl) ?_
              replace h := jgd_of h; obtain ⟨hb48, h⟩ := h
              replace h := jbd2_of h; obtain ⟨x49, μ50, hx49, h⟩ := h
              refine jr_V6_1 jf_95_115 hb48 (by omega) (r_Section_settled (by omega) _ _ _ _ _ hx49) (by simp only [jcats_cons, jcats_nil, cat_int, cat_long, cat_double, cat_float, cat_ref, rv_cat]; decide) jml_79 (Nat.le_of_ble_eq_true rfl) ?_
              replace h := obd_of h; obtain ⟨a51, rfl, h⟩ := h
              replace h := jgd_of h; obtain ⟨hb52, h⟩ := h
              replace h := obd_of h; obtain ⟨μ53, hμ53, h⟩ := h
              refine jr_V6v_2 jf_95_118 hb52 (by omega) (r_Row_put (by omega) _ _ _ _ _ hμ53) (Nat.le_of_ble_eq_true rfl) jml_66 (Nat.le_of_ble_eq_true rfl) ?_
              refine jr_lload_n jf_95_121 rfl (jg2_ne rfl jg2_same) ?_
              obtain ⟨rfl, rfl⟩ := Prod.mk.inj (Option.some.inj h)
              exact jr_retJ jf_95_122 jmt_95
            · obtain ⟨hb, hx⟩ := jgd_of hx
              obtain hx := Option.some.inj hx
              refine jr_V8b_2 jf_95_112 hb0 hb (by omega) (r_Shorts_plus (by omega) _ _ _ _ _ hx) (by simp only [jcats_cons, jcats_nil, cat_int, cat_long, cat_double, cat_float, cat_ref, rv_cat]; decide) jml_78 (Nat.le_of_ble_eq_true rfl) ?_
              replace h := jgd_of h; obtain ⟨hb48, h⟩ := h
              replace h := jbd2_of h; obtain ⟨x49, μ50, hx49, h⟩ := h
              refine jr_V6_1 jf_95_115 hb48 (by omega) (r_Section_settled (by omega) _ _ _ _ _ hx49) (by simp only [jcats_cons, jcats_nil, cat_int, cat_long, cat_double, cat_float, cat_ref, rv_cat]; decide) jml_79 (Nat.le_of_ble_eq_true rfl) ?_
              replace h := obd_of h; obtain ⟨a51, rfl, h⟩ := h
              replace h := jgd_of h; obtain ⟨hb52, h⟩ := h
              replace h := obd_of h; obtain ⟨μ53, hμ53, h⟩ := h
              refine jr_V6v_2 jf_95_118 hb52 (by omega) (r_Row_put (by omega) _ _ _ _ _ hμ53) (Nat.le_of_ble_eq_true rfl) jml_66 (Nat.le_of_ble_eq_true rfl) ?_
              refine jr_lload_n jf_95_121 rfl (jg2_ne rfl jg2_same) ?_
              obtain ⟨rfl, rfl⟩ := Prod.mk.inj (Option.some.inj h)
              exact jr_retJ jf_95_122 jmt_95
          · obtain ⟨hb, hx⟩ := jgd_of hx
            obtain hx := Option.some.inj hx
            refine jr_V8b_2 jf_95_81 hb0 hb (by omega) (r_Shorts_plus (by omega) _ _ _ _ _ hx) (by simp only [jcats_cons, jcats_nil, cat_int, cat_long, cat_double, cat_float, cat_ref, rv_cat]; decide) jml_78 (Nat.le_of_ble_eq_true rfl) ?_
            replace h := jgd_of h; obtain ⟨hb34, h⟩ := h
            replace h := jbd2_of h; obtain ⟨x35, μ36, hx35, h⟩ := h
            refine jr_V6_1 jf_95_84 hb34 (by omega) (r_Section_settled (by omega) _ _ _ _ _ hx35) (by simp only [jcats_cons, jcats_nil, cat_int, cat_long, cat_double, cat_float, cat_ref, rv_cat]; decide) jml_79 (Nat.le_of_ble_eq_true rfl) ?_
            replace h := obd_of h; obtain ⟨a37, rfl, h⟩ := h
            replace h := jgd_of h; obtain ⟨hb38, h⟩ := h
            replace h := obd_of h; obtain ⟨μ39, hμ39, h⟩ := h
            refine jr_V6v_2 jf_95_87 hb38 (by omega) (r_Row_put (by omega) _ _ _ _ _ hμ39) (Nat.le_of_ble_eq_true rfl) jml_66 (Nat.le_of_ble_eq_true rfl) ?_
            refine jr_aload_n jf_95_90 rfl (jg2_ne rfl (jg2_ne rfl hl0)) ?_
            replace h := obd_of h; obtain ⟨x40, hx40, h⟩ := h
            refine jr_getA jf_95_91 hx40 ?_
            refine jr_iconst jf_95_94 jc_i_1 ?_
            refine jr_aload_n jf_95_95 rfl (jg2_ne rfl (jg2_ne rfl hl0)) ?_
            refine jr_aload_n jf_95_96 rfl (jg2_ne rfl (jg2_ne rfl hl0)) ?_
            replace h := obd_of h; obtain ⟨x41, hx41, h⟩ := h
            refine jr_getA jf_95_97 hx41 ?_
            refine jr_aload_n jf_95_100 rfl (jg2_ne rfl (jg2_ne rfl hl0)) ?_
            refine jr_iconst jf_95_101 jc_i_2 ?_
            refine jr_lload_n jf_95_102 rfl (jg2_ne rfl (jg2_ne rfl hl1)) ?_
            replace h := jgd_of h; obtain ⟨hb42, h⟩ := h
            replace h := obd_of h; obtain ⟨x43, hx43, h⟩ := h
            refine jr_V6_2 jf_95_103 hb42 (by omega) (r_Section_times (by omega) _ _ _ _ _ hx43) (by simp only [jcats_cons, jcats_nil, cat_int, cat_long, cat_double, cat_float, cat_ref, rv_cat]; decide) jml_87 (Nat.le_of_ble_eq_true rfl) ?_
            refine jr_aload_n jf_95_106 rfl (jg2_ne rfl (jg2_ne rfl hl0)) ?_
            refine jr_iconst jf_95_107 jc_i_4 ?_
            refine jr_lload_n jf_95_108 rfl (jg2_ne rfl jg2_same) ?_
            replace h := jgd_of h; obtain ⟨hb44, h⟩ := h
            replace h := obd_of h; obtain ⟨x45, hx45, h⟩ := h
            refine jr_V6_2 jf_95_109 hb44 (by omega) (r_Section_lessTimes (by omega) _ _ _ _ _ hx45) (by simp only [jcats_cons, jcats_nil, cat_int, cat_long, cat_double, cat_float, cat_ref, rv_cat]; decide) jml_90 (Nat.le_of_ble_eq_true rfl) ?_
            replace h := obd_of h; obtain ⟨a46, rfl, h⟩ := h
            replace h := obd_of h; obtain ⟨x47, hx47, h⟩ := h
            rcases ite_or hx47 with ⟨hb, hx⟩ | ⟨hb0, hx⟩
            · refine jr_V8a_2 jf_95_112 hb (by omega) (r_Real_plus (by omega) _ _ _ _ _ hx) (by simp only [jcats_cons, jcats_nil, cat_int, cat_long, cat_double, cat_float, cat_ref, rv_cat]; decide) jml_74 (Nat.le_of_ble_eq_true rfl) ?_
              replace h := jgd_of h; obtain ⟨hb48, h⟩ := h
              replace h := jbd2_of h; obtain ⟨x49, μ50, hx49, h⟩ := h
              refine jr_V6_1 jf_95_115 hb48 (by omega) (r_Section_settled (by omega) _ _ _ _ _ hx49) (by simp only [jcats_cons, jcats_nil, cat_int, cat_long, cat_double, cat_float, cat_ref, rv_cat]; decide) jml_79 (Nat.le_of_ble_eq_true rfl) ?_
              replace h := obd_of h; obtain ⟨a51, rfl, h⟩ := h
              replace h := jgd_of h; obtain ⟨hb52, h⟩ := h
              replace h := obd_of h; obtain ⟨μ53, hμ53, h⟩ := h
              refine jr_V6v_2 jf_95_118 hb52 (by omega) (r_Row_put (by omega) _ _ _ _ _ hμ53) (Nat.le_of_ble_eq_true rfl) jml_66 (Nat.le_of_ble_eq_true rfl) ?_
              refine jr_lload_n jf_95_121 rfl (jg2_ne rfl jg2_same) ?_
              obtain ⟨rfl, rfl⟩ := Prod.mk.inj (Option.some.inj h)
              exact jr_retJ jf_95_122 jmt_95
            · obtain ⟨hb, hx⟩ := jgd_of hx
              obtain hx := Option.some.inj hx
              refine jr_V8b_2 jf_95_112 hb0 hb (by omega) (r_Shorts_plus (by omega) _ _ _ _ _ hx) (by simp only [jcats_cons, jcats_nil, cat_int, cat_long, cat_double, cat_float, cat_ref, rv_cat]; decide) jml_78 (Nat.le_of_ble_eq_true rfl) ?_
              replace h := jgd_of h; obtain ⟨hb48, h⟩ := h
              replace h := jbd2_of h; obtain ⟨x49, μ50, hx49, h⟩ := h
              refine jr_V6_1 jf_95_115 hb48 (by omega) (r_Section_settled (by omega) _ _ _ _ _ hx49) (by simp only [jcats_cons, jcats_nil, cat_int, cat_long, cat_double, cat_float, cat_ref, rv_cat]; decide) jml_79 (Nat.le_of_ble_eq_true rfl) ?_
              replace h := obd_of h; obtain ⟨a51, rfl, h⟩ := h
              replace h := jgd_of h; obtain ⟨hb52, h⟩ := h
              replace h := obd_of h; obtain ⟨μ53, hμ53, h⟩ := h
              refine jr_V6v_2 jf_95_118 hb52 (by omega) (r_Row_put (by omega) _ _ _ _ _ hμ53) (Nat.le_of_ble_eq_true rfl) jml_66 (Nat.le_of_ble_eq_true rfl) ?_
              refine jr_lload_n jf_95_121 rfl (jg2_ne rfl jg2_same) ?_
              obtain ⟨rfl, rfl⟩ := Prod.mk.inj (Option.some.inj h)
              exact jr_retJ jf_95_122 jmt_95
        · obtain ⟨hb, hx⟩ := jgd_of hx
          obtain hx := Option.some.inj hx
          refine jr_V8b_1 jf_95_78 hb0 hb (by omega) (r_Shorts_term (by omega) _ _ _ _ hx) (by simp only [jcats_cons, jcats_nil, cat_int, cat_long, cat_double, cat_float, cat_ref, rv_cat]; decide) jml_73 (Nat.le_of_ble_eq_true rfl) ?_
          replace h := obd_of h; obtain ⟨a32, rfl, h⟩ := h
          replace h := obd_of h; obtain ⟨x33, hx33, h⟩ := h
          rcases ite_or hx33 with ⟨hb, hx⟩ | ⟨hb0, hx⟩
          · refine jr_V8a_2 jf_95_81 hb (by omega) (r_Real_plus (by omega) _ _ _ _ _ hx) (by simp only [jcats_cons, jcats_nil, cat_int, cat_long, cat_double, cat_float, cat_ref, rv_cat]; decide) jml_74 (Nat.le_of_ble_eq_true rfl) ?_
            replace h := jgd_of h; obtain ⟨hb34, h⟩ := h
            replace h := jbd2_of h; obtain ⟨x35, μ36, hx35, h⟩ := h
            refine jr_V6_1 jf_95_84 hb34 (by omega) (r_Section_settled (by omega) _ _ _ _ _ hx35) (by simp only [jcats_cons, jcats_nil, cat_int, cat_long, cat_double, cat_float, cat_ref, rv_cat]; decide) jml_79 (Nat.le_of_ble_eq_true rfl) ?_
            replace h := obd_of h; obtain ⟨a37, rfl, h⟩ := h
            replace h := jgd_of h; obtain ⟨hb38, h⟩ := h
            replace h := obd_of h; obtain ⟨μ39, hμ39, h⟩ := h
            refine jr_V6v_2 jf_95_87 hb38 (by omega) (r_Row_put (by omega) _ _ _ _ _ hμ39) (Nat.le_of_ble_eq_true rfl) jml_66 (Nat.le_of_ble_eq_true rfl) ?_
            refine jr_aload_n jf_95_90 rfl (jg2_ne rfl (jg2_ne rfl hl0)) ?_
            replace h := obd_of h; obtain ⟨x40, hx40, h⟩ := h
            refine jr_getA jf_95_91 hx40 ?_
            refine jr_iconst jf_95_94 jc_i_1 ?_
            refine jr_aload_n jf_95_95 rfl (jg2_ne rfl (jg2_ne rfl hl0)) ?_
            refine jr_aload_n jf_95_96 rfl (jg2_ne rfl (jg2_ne rfl hl0)) ?_
            replace h := obd_of h; obtain ⟨x41, hx41, h⟩ := h
            refine jr_getA jf_95_97 hx41 ?_
            refine jr_aload_n jf_95_100 rfl (jg2_ne rfl (jg2_ne rfl hl0)) ?_
            refine jr_iconst jf_95_101 jc_i_2 ?_
            refine jr_lload_n jf_95_102 rfl (jg2_ne rfl (jg2_ne rfl hl1)) ?_
            replace h := jgd_of h; obtain ⟨hb42, h⟩ := h
            replace h := obd_of h; obtain ⟨x43, hx43, h⟩ := h
            refine jr_V6_2 jf_95_103 hb42 (by omega) (r_Section_times (by omega) _ _ _ _ _ hx43) (by simp only [jcats_cons, jcats_nil, cat_int, cat_long, cat_double, cat_float, cat_ref, rv_cat]; decide) jml_87 (Nat.le_of_ble_eq_true rfl) ?_
            refine jr_aload_n jf_95_106 rfl (jg2_ne rfl (jg2_ne rfl hl0)) ?_
            refine jr_iconst jf_95_107 jc_i_4 ?_
            refine jr_lload_n jf_95_108 rfl (jg2_ne rfl jg2_same) ?_
            replace h := jgd_of h; obtain ⟨hb44, h⟩ := h
            replace h := obd_of h; obtain ⟨x45, hx45, h⟩ := h
            refine jr_V6_2 jf_95_109 hb44 (by omega) (r_Section_lessTimes (by omega) _ _ _ _ _ hx45) (by simp only [jcats_cons, jcats_nil, cat_int, cat_long, cat_double, cat_float, cat_ref, rv_cat]; decide) jml_90 (Nat.le_of_ble_eq_true rfl) ?_
            replace h := obd_of h; obtain ⟨a46, rfl, h⟩ := h
            replace h := obd_of h; obtain ⟨x47, hx47, h⟩ := h
            rcases ite_or hx47 with ⟨hb, hx⟩ | ⟨hb0, hx⟩
            · refine jr_V8a_2 jf_95_112 hb (by omega) (r_Real_plus (by omega) _ _ _ _ _ hx) (by simp only [jcats_cons, jcats_nil, cat_int, cat_long, cat_double, cat_float, cat_ref, rv_cat]; decide) jml_74 (Nat.le_of_ble_eq_true rfl) ?_
              replace h := jgd_of h; obtain ⟨hb48, h⟩ := h
              replace h := jbd2_of h; obtain ⟨x49, μ50, hx49, h⟩ := h
              refine jr_V6_1 jf_95_115 hb48 (by omega) (r_Section_settled (by omega) _ _ _ _ _ hx49) (by simp only [jcats_cons, jcats_nil, cat_int, cat_long, cat_double, cat_float, cat_ref, rv_cat]; decide) jml_79 (Nat.le_of_ble_eq_true rfl) ?_
              replace h := obd_of h; obtain ⟨a51, rfl, h⟩ := h
              replace h := jgd_of h; obtain ⟨hb52, h⟩ := h
              replace h := obd_of h; obtain ⟨μ53, hμ53, h⟩ := h
              refine jr_V6v_2 jf_95_118 hb52 (by omega) (r_Row_put (by omega) _ _ _ _ _ hμ53) (Nat.le_of_ble_eq_true rfl) jml_66 (Nat.le_of_ble_eq_true rfl) ?_
              refine jr_lload_n jf_95_121 rfl (jg2_ne rfl jg2_same) ?_
              obtain ⟨rfl, rfl⟩ := Prod.mk.inj (Option.some.inj h)
              exact jr_retJ jf_95_122 jmt_95
            · obtain ⟨hb, hx⟩ := jgd_of hx
              obtain hx := Option.some.inj hx
              refine jr_V8b_2 jf_95_112 hb0 hb (by omega) (r_Shorts_plus (by omega) _ _ _ _ _ hx) (by simp only [jcats_cons, jcats_nil, cat_int, cat_long, cat_double, cat_float, cat_ref, rv_cat]; decide) jml_78 (Nat.le_of_ble_eq_true rfl) ?_
              replace h := jgd_of h; obtain ⟨hb48, h⟩ := h
              replace h := jbd2_of h; obtain ⟨x49, μ50, hx49, h⟩ := h
              refine jr_V6_1 jf_95_115 hb48 (by omega) (r_Section_settled (by omega) _ _ _ _ _ hx49) (by simp only [jcats_cons, jcats_nil, cat_int, cat_long, cat_double, cat_float, cat_ref, rv_cat]; decide) jml_79 (Nat.le_of_ble_eq_true rfl) ?_
              replace h := obd_of h; obtain ⟨a51, rfl, h⟩ := h
              replace h := jgd_of h; obtain ⟨hb52, h⟩ := h
              replace h := obd_of h; obtain ⟨μ53, hμ53, h⟩ := h
              refine jr_V6v_2 jf_95_118 hb52 (by omega) (r_Row_put (by omega) _ _ _ _ _ hμ53) (Nat.le_of_ble_eq_true rfl) jml_66 (Nat.le_of_ble_eq_true rfl) ?_
              refine jr_lload_n jf_95_121 rfl (jg2_ne rfl jg2_same) ?_
              obtain ⟨rfl, rfl⟩ := Prod.mk.inj (Option.some.inj h)
              exact jr_retJ jf_95_122 jmt_95
          · obtain ⟨hb, hx⟩ := jgd_of hx
            obtain hx := Option.some.inj hx
            refine jr_V8b_2 jf_95_81 hb0 hb (by omega) (r_Shorts_plus (by omega) _ _ _ _ _ hx) (by simp only [jcats_cons, jcats_nil, cat_int, cat_long, cat_double, cat_float, cat_ref, rv_cat]; decide) jml_78 (Nat.le_of_ble_eq_true rfl) ?_
            replace h := jgd_of h; obtain ⟨hb34, h⟩ := h
            replace h := jbd2_of h; obtain ⟨x35, μ36, hx35, h⟩ := h
            refine jr_V6_1 jf_95_84 hb34 (by omega) (r_Section_settled (by omega) _ _ _ _ _ hx35) (by simp only [jcats_cons, jcats_nil, cat_int, cat_long, cat_double, cat_float, cat_ref, rv_cat]; decide) jml_79 (Nat.le_of_ble_eq_true rfl) ?_
            replace h := obd_of h; obtain ⟨a37, rfl, h⟩ := h
            replace h := jgd_of h; obtain ⟨hb38, h⟩ := h
            replace h := obd_of h; obtain ⟨μ39, hμ39, h⟩ := h
            refine jr_V6v_2 jf_95_87 hb38 (by omega) (r_Row_put (by omega) _ _ _ _ _ hμ39) (Nat.le_of_ble_eq_true rfl) jml_66 (Nat.le_of_ble_eq_true rfl) ?_
            refine jr_aload_n jf_95_90 rfl (jg2_ne rfl (jg2_ne rfl hl0)) ?_
            replace h := obd_of h; obtain ⟨x40, hx40, h⟩ := h
            refine jr_getA jf_95_91 hx40 ?_
            refine jr_iconst jf_95_94 jc_i_1 ?_
            refine jr_aload_n jf_95_95 rfl (jg2_ne rfl (jg2_ne rfl hl0)) ?_
            refine jr_aload_n jf_95_96 rfl (jg2_ne rfl (jg2_ne rfl hl0)) ?_
            replace h := obd_of h; obtain ⟨x41, hx41, h⟩ := h
            refine jr_getA jf_95_97 hx41 ?_
            refine jr_aload_n jf_95_100 rfl (jg2_ne rfl (jg2_ne rfl hl0)) ?_
            refine jr_iconst jf_95_101 jc_i_2 ?_
            refine jr_lload_n jf_95_102 rfl (jg2_ne rfl (jg2_ne rfl hl1)) ?_
            replace h := jgd_of h; obtain ⟨hb42, h⟩ := h
            replace h := obd_of h; obtain ⟨x43, hx43, h⟩ := h
            refine jr_V6_2 jf_95_103 hb42 (by omega) (r_Section_times (by omega) _ _ _ _ _ hx43) (by simp only [jcats_cons, jcats_nil, cat_int, cat_long, cat_double, cat_float, cat_ref, rv_cat]; decide) jml_87 (Nat.le_of_ble_eq_true rfl) ?_
            refine jr_aload_n jf_95_106 rfl (jg2_ne rfl (jg2_ne rfl hl0)) ?_
            refine jr_iconst jf_95_107 jc_i_4 ?_
            refine jr_lload_n jf_95_108 rfl (jg2_ne rfl jg2_same) ?_
            replace h := jgd_of h; obtain ⟨hb44, h⟩ := h
            replace h := obd_of h; obtain ⟨x45, hx45, h⟩ := h
            refine jr_V6_2 jf_95_109 hb44 (by omega) (r_Section_lessTimes (by omega) _ _ _ _ _ hx45) (by simp only [jcats_cons, jcats_nil, cat_int, cat_long, cat_double, cat_float, cat_ref, rv_cat]; decide) jml_90 (Nat.le_of_ble_eq_true rfl) ?_
            replace h := obd_of h; obtain ⟨a46, rfl, h⟩ := h
            replace h := obd_of h; obtain ⟨x47, hx47, h⟩ := h
            rcases ite_or hx47 with ⟨hb, hx⟩ | ⟨hb0, hx⟩
            · refine jr_V8a_2 jf_95_112 hb (by omega) (r_Real_plus (by omega) _ _ _ _ _ hx) (by simp only [jcats_cons, jcats_nil, cat_int, cat_long, cat_double, cat_float, cat_ref, rv_cat]; decide) jml_74 (Nat.le_of_ble_eq_true rfl) ?_
              replace h := jgd_of h; obtain ⟨hb48, h⟩ := h
              replace h := jbd2_of h; obtain ⟨x49, μ50, hx49, h⟩ := h
              refine jr_V6_1 jf_95_115 hb48 (by omega) (r_Section_settled (by omega) _ _ _ _ _ hx49) (by simp only [jcats_cons, jcats_nil, cat_int, cat_long, cat_double, cat_float, cat_ref, rv_cat]; decide) jml_79 (Nat.le_of_ble_eq_true rfl) ?_
              replace h := obd_of h; obtain ⟨a51, rfl, h⟩ := h
              replace h := jgd_of h; obtain ⟨hb52, h⟩ := h
              replace h := obd_of h; obtain ⟨μ53, hμ53, h⟩ := h
              refine jr_V6v_2 jf_95_118 hb52 (by omega) (r_Row_put (by omega) _ _ _ _ _ hμ53) (Nat.le_of_ble_eq_true rfl) jml_66 (Nat.le_of_ble_eq_true rfl) ?_
              refine jr_lload_n jf_95_121 rfl (jg2_ne rfl jg2_same) ?_
              obtain ⟨rfl, rfl⟩ := Prod.mk.inj (Option.some.inj h)
              exact jr_retJ jf_95_122 jmt_95
            · obtain ⟨hb, hx⟩ := jgd_of hx
              obtain hx := Option.some.inj hx
              refine jr_V8b_2 jf_95_112 hb0 hb (by omega) (r_Shorts_plus (by omega) _ _ _ _ _ hx) (by simp only [jcats_cons, jcats_nil, cat_int, cat_long, cat_double, cat_float, cat_ref, rv_cat]; decide) jml_78 (Nat.le_of_ble_eq_true rfl) ?_
              replace h := jgd_of h; obtain ⟨hb48, h⟩ := h
              replace h := jbd2_of h; obtain ⟨x49, μ50, hx49, h⟩ := h
              refine jr_V6_1 jf_95_115 hb48 (by omega) (r_Section_settled (by omega) _ _ _ _ _ hx49) (by simp only [jcats_cons, jcats_nil, cat_int, cat_long, cat_double, cat_float, cat_ref, rv_cat]; decide) jml_79 (Nat.le_of_ble_eq_true rfl) ?_
              replace h := obd_of h; obtain ⟨a51, rfl, h⟩ := h
              replace h := jgd_of h; obtain ⟨hb52, h⟩ := h
              replace h := obd_of h; obtain ⟨μ53, hμ53, h⟩ := h
              refine jr_V6v_2 jf_95_118 hb52 (by omega) (r_Row_put (by omega) _ _ _ _ _ hμ53) (Nat.le_of_ble_eq_true rfl) jml_66 (Nat.le_of_ble_eq_true rfl) ?_
              refine jr_lload_n jf_95_121 rfl (jg2_ne rfl jg2_same) ?_
              obtain ⟨rfl, rfl⟩ := Prod.mk.inj (Option.some.inj h)
              exact jr_retJ jf_95_122 jmt_95
set_option maxRecDepth 10000 in
set_option maxHeartbeats 4000000 in
theorem r_Section_turned {B : Nat} {SA : Nat → Nat} {d : Nat} (hd : 4 ≤ d) : ∀ (v0 : Nat) (v1 : Int64) (μ : JMem) (r : Int64) (μ9 : JMem), g_Section_turned B v0 v1 μ = some (r, μ9) → jR B SA d m_Section_turned 0 (lv_args 0 [.ref v0, .long v1]) [] μ (some (.long r)) μ9 := by
  intro v0 v1 μ r μ9 h
  exact r_Section_turned_e hd (lv_args 0 _) _ _ _ _ _ (by simp [lv_args, jget, rv_cat, cat_int, cat_long, cat_double, cat_float, cat_ref]) (by simp [lv_args, jget, rv_cat, cat_int, cat_long, cat_double, cat_float, cat_ref]) h
/-! FilterBench$Section.step(JJ)J -/
set_option maxRecDepth 10000 in
set_option maxHeartbeats 4000000 in
theorem r_Section_step_e {N B : Nat} {SA : Nat → Nat} {d : Nat} (hd : 5 ≤ d) : ∀ (L : JLoc) (v0 : Nat) (v1 : Int64) (v3 : Int64) (μ : JMem) (r : Int64) (μ9 : JMem), jget L 0 = .ref v0 → jget L 1 = .long v1 → jget L 3 = .long v3 → g_Section_step N B v0 v1 v3 μ = some (r, μ9) → jR B SA d m_Section_step 0 L [] μ (some (.long r)) μ9 := by
  intro L v0 v1 v3 μ r μ9 hl0 hl1 hl3 h
  unfold g_Section_step at h
  refine jr_aload_n jf_86_0 rfl hl0 ?_
  replace h := obd_of h; obtain ⟨x1, hx1, h⟩ := h
  refine jr_getI jf_86_1 hx1 ?_
  refine jr_switch jf_86_4 ?_
  replace h := ite_or h; rcases h with ⟨hc, h⟩ | ⟨hc, h⟩
  · refine jsw_hit (by decide) hc ?_
    refine jr_aload_n jf_86_84 rfl hl0 ?_
    refine jr_aload_n jf_86_85 rfl hl0 ?_
    refine jr_iconst jf_86_86 jc_i_0 ?_
    refine jr_lload_n jf_86_87 rfl hl1 ?_
    replace h := jgd_of h; obtain ⟨hb2, h⟩ := h
    replace h := obd_of h; obtain ⟨x3, hx3, h⟩ := h
    refine jr_V6_2 jf_86_88 hb2 (by omega) (r_Section_times (by omega) _ _ _ _ _ hx3) (Nat.le_of_ble_eq_true rfl) jml_87 (Nat.le_of_ble_eq_true rfl) ?_
    replace h := jgd_of h; obtain ⟨hb4, h⟩ := h
    replace h := jbd2_of h; obtain ⟨x5, μ6, hx5, h⟩ := h
    refine jr_V6_1 jf_86_91 hb4 (by omega) (r_Section_settled (by omega) _ _ _ _ _ hx5) (Nat.le_of_ble_eq_true rfl) jml_79 (Nat.le_of_ble_eq_true rfl) ?_
    obtain ⟨rfl, rfl⟩ := Prod.mk.inj (Option.some.inj h)
    exact jr_retJ jf_86_94 jmt_86
  · refine jsw_miss (by decide) hc (by decide : (0 : Int) + 1 = 1) ?_
    replace h := ite_or h; rcases h with ⟨hc, h⟩ | ⟨hc, h⟩
    · refine jsw_hit (by decide) hc ?_
      refine jr_aload_n jf_86_95 rfl hl0 ?_
      refine jr_lload_n jf_86_96 rfl hl1 ?_
      replace h := jgd_of h; obtain ⟨hb7, h⟩ := h
      replace h := jbd2_of h; obtain ⟨x8, μ9, hx8, h⟩ := h
      refine jr_V6_1 jf_86_97 hb7 (by omega) (r_Section_pole (by omega) _ _ _ _ _ hx8) (Nat.le_of_ble_eq_true rfl) jml_88 (Nat.le_of_ble_eq_true rfl) ?_
      obtain ⟨rfl, rfl⟩ := Prod.mk.inj (Option.some.inj h)
      exact jr_retJ jf_86_100 jmt_86
    · refine jsw_miss (by decide) hc (by decide : (1 : Int) + 1 = 2) ?_
      replace h := ite_or h; rcases h with ⟨hc, h⟩ | ⟨hc, h⟩
      · refine jsw_hit (by decide) hc ?_
        refine jr_aload_n jf_86_101 rfl hl0 ?_
        refine jr_lload_n jf_86_102 rfl hl1 ?_
        replace h := jgd_of h; obtain ⟨hb10, h⟩ := h
        replace h := jbd2_of h; obtain ⟨x11, μ12, hx11, h⟩ := h
        refine jr_V6_1 jf_86_103 hb10 (by omega) (r_Section_direct (by omega) _ _ _ _ _ hx11) (Nat.le_of_ble_eq_true rfl) jml_89 (Nat.le_of_ble_eq_true rfl) ?_
        obtain ⟨rfl, rfl⟩ := Prod.mk.inj (Option.some.inj h)
        exact jr_retJ jf_86_106 jmt_86
      · refine jsw_miss (by decide) hc (by decide : (2 : Int) + 1 = 3) ?_
        replace h := ite_or h; rcases h with ⟨hc, h⟩ | ⟨hc, h⟩
        · refine jsw_hit (by decide) hc ?_
          refine jr_aload_n jf_86_107 rfl hl0 ?_
          refine jr_lload_n jf_86_108 rfl hl1 ?_
          replace h := jgd_of h; obtain ⟨hb13, h⟩ := h
          replace h := jbd2_of h; obtain ⟨x14, μ15, hx14, h⟩ := h
          refine jr_V6_1 jf_86_109 hb13 (by omega) (r_Section_second (by omega) _ _ _ _ _ hx14) (Nat.le_of_ble_eq_true rfl) jml_94 (Nat.le_of_ble_eq_true rfl) ?_
          obtain ⟨rfl, rfl⟩ := Prod.mk.inj (Option.some.inj h)
          exact jr_retJ jf_86_112 jmt_86
        · refine jsw_miss (by decide) hc (by decide : (3 : Int) + 1 = 4) ?_
          replace h := ite_or h; rcases h with ⟨hc, h⟩ | ⟨hc, h⟩
          · refine jsw_hit (by decide) hc ?_
            refine jr_aload_n jf_86_113 rfl hl0 ?_
            refine jr_lload_n jf_86_114 rfl hl1 ?_
            replace h := jgd_of h; obtain ⟨hb16, h⟩ := h
            replace h := jbd2_of h; obtain ⟨x17, μ18, hx17, h⟩ := h
            refine jr_V6_1 jf_86_115 hb16 (by omega) (r_Section_turned (by omega) _ _ _ _ _ hx17) (Nat.le_of_ble_eq_true rfl) jml_95 (Nat.le_of_ble_eq_true rfl) ?_
            obtain ⟨rfl, rfl⟩ := Prod.mk.inj (Option.some.inj h)
            exact jr_retJ jf_86_118 jmt_86
          · refine jsw_miss (by decide) hc (by decide : (4 : Int) + 1 = 5) ?_
            replace h := ite_or h; rcases h with ⟨hc, h⟩ | ⟨hc, h⟩
            · refine jsw_hit (by decide) hc ?_
              refine jr_aload_n jf_86_119 rfl hl0 ?_
              refine jr_lload_n jf_86_120 rfl hl1 ?_
              replace h := jgd_of h; obtain ⟨hb19, h⟩ := h
              replace h := jbd2_of h; obtain ⟨x20, μ21, hx20, h⟩ := h
              refine jr_V6_1 jf_86_121 hb19 (by omega) (r_Section_pass (by omega) _ _ _ _ _ hx20) (Nat.le_of_ble_eq_true rfl) jml_96 (Nat.le_of_ble_eq_true rfl) ?_
              obtain ⟨rfl, rfl⟩ := Prod.mk.inj (Option.some.inj h)
              exact jr_retJ jf_86_124 jmt_86
            · refine jsw_miss (by decide) hc (by decide : (5 : Int) + 1 = 6) ?_
              replace h := ite_or h; rcases h with ⟨hc, h⟩ | ⟨hc, h⟩
              · refine jsw_hit (by decide) hc ?_
                refine jr_aload_n jf_86_125 rfl hl0 ?_
                refine jr_lload_n jf_86_126 rfl hl1 ?_
                replace h := jgd_of h; obtain ⟨hb22, h⟩ := h
                replace h := jbd2_of h; obtain ⟨x23, μ24, hx23, h⟩ := h
                refine jr_V6_1 jf_86_127 hb22 (by omega) (r_Section_delayed (by omega) _ _ _ _ _ hx23) (Nat.le_of_ble_eq_true rfl) jml_97 (Nat.le_of_ble_eq_true rfl) ?_
                obtain ⟨rfl, rfl⟩ := Prod.mk.inj (Option.some.inj h)
                exact jr_retJ jf_86_130 jmt_86
              · refine jsw_miss (by decide) hc (by decide : (6 : Int) + 1 = 7) ?_
                replace h := ite_or h; rcases h with ⟨hc, h⟩ | ⟨hc, h⟩
                · refine jsw_hit (by decide) hc ?_
                  refine jr_aload_n jf_86_131 rfl hl0 ?_
                  refine jr_lload_n jf_86_132 rfl hl1 ?_
                  replace h := jgd_of h; obtain ⟨hb25, h⟩ := h
                  replace h := jbd2_of h; obtain ⟨x26, μ27, hx26, h⟩ := h
                  refine jr_V6_1 jf_86_133 hb25 (by omega) (r_Section_mean (by omega) _ _ _ _ _ hx26) (Nat.le_of_ble_eq_true rfl) jml_99 (Nat.le_of_ble_eq_true rfl) ?_
                  obtain ⟨rfl, rfl⟩ := Prod.mk.inj (Option.some.inj h)
                  exact jr_retJ jf_86_136 jmt_86
                · refine jsw_miss (by decide) hc (by decide : (7 : Int) + 1 = 8) ?_
                  replace h := ite_or h; rcases h with ⟨hc, h⟩ | ⟨hc, h⟩
                  · refine jsw_hit (by decide) hc ?_
                    refine jr_aload_n jf_86_137 rfl hl0 ?_
                    refine jr_lload_n jf_86_138 rfl hl1 ?_
                    replace h := jgd_of h; obtain ⟨hb28, h⟩ := h
                    replace h := jbd2_of h; obtain ⟨x29, μ30, hx29, h⟩ := h
                    refine jr_V6_1 jf_86_139 hb28 (by omega) (r_Section_comb (by omega) _ _ _ _ _ hx29) (Nat.le_of_ble_eq_true rfl) jml_101 (Nat.le_of_ble_eq_true rfl) ?_
                    obtain ⟨rfl, rfl⟩ := Prod.mk.inj (Option.some.inj h)
                    exact jr_retJ jf_86_142 jmt_86
                  · refine jsw_miss (by decide) hc (by decide : (8 : Int) + 1 = 9) ?_
                    replace h := ite_or h; rcases h with ⟨hc, h⟩ | ⟨hc, h⟩
                    · refine jsw_hit (by decide) hc ?_
                      refine jr_aload_n jf_86_143 rfl hl0 ?_
                      refine jr_lload_n jf_86_144 rfl hl1 ?_
                      replace h := jgd_of h; obtain ⟨hb31, h⟩ := h
                      replace h := jbd2_of h; obtain ⟨x32, μ33, hx32, h⟩ := h
                      refine jr_V6_1 jf_86_145 hb31 (by omega) (r_Section_clipped (by omega) _ _ _ _ _ hx32) (Nat.le_of_ble_eq_true rfl) jml_102 (Nat.le_of_ble_eq_true rfl) ?_
                      obtain ⟨rfl, rfl⟩ := Prod.mk.inj (Option.some.inj h)
                      exact jr_retJ jf_86_148 jmt_86
                    · refine jsw_miss (by decide) hc (by decide : (9 : Int) + 1 = 10) ?_
                      replace h := ite_or h; rcases h with ⟨hc, h⟩ | ⟨hc, h⟩
                      · refine jsw_hit (by decide) hc ?_
                        refine jr_aload_n jf_86_149 rfl hl0 ?_
                        refine jr_lload_n jf_86_150 rfl hl1 ?_
                        replace h := jgd_of h; obtain ⟨hb34, h⟩ := h
                        replace h := jbd2_of h; obtain ⟨x35, μ36, hx35, h⟩ := h
                        refine jr_V6_1 jf_86_151 hb34 (by omega) (r_Section_deadened (by omega) _ _ _ _ _ hx35) (Nat.le_of_ble_eq_true rfl) jml_109 (Nat.le_of_ble_eq_true rfl) ?_
                        obtain ⟨rfl, rfl⟩ := Prod.mk.inj (Option.some.inj h)
                        exact jr_retJ jf_86_154 jmt_86
                      · refine jsw_miss (by decide) hc (by decide : (10 : Int) + 1 = 11) ?_
                        replace h := ite_or h; rcases h with ⟨hc, h⟩ | ⟨hc, h⟩
                        · refine jsw_hit (by decide) hc ?_
                          refine jr_aload_n jf_86_155 rfl hl0 ?_
                          refine jr_lload_n jf_86_156 rfl hl1 ?_
                          replace h := jgd_of h; obtain ⟨hb37, h⟩ := h
                          replace h := jbd2_of h; obtain ⟨x38, μ39, hx38, h⟩ := h
                          refine jr_V6_1 jf_86_157 hb37 (by omega) (r_Section_peak (by omega) _ _ _ _ _ hx38) (Nat.le_of_ble_eq_true rfl) jml_111 (Nat.le_of_ble_eq_true rfl) ?_
                          obtain ⟨rfl, rfl⟩ := Prod.mk.inj (Option.some.inj h)
                          exact jr_retJ jf_86_160 jmt_86
                        · refine jsw_miss (by decide) hc (by decide : (11 : Int) + 1 = 12) ?_
                          replace h := ite_or h; rcases h with ⟨hc, h⟩ | ⟨hc, h⟩
                          · refine jsw_hit (by decide) hc ?_
                            refine jr_lload_n jf_86_185 rfl hl1 ?_
                            obtain ⟨rfl, rfl⟩ := Prod.mk.inj (Option.some.inj h)
                            exact jr_retJ jf_86_186 jmt_86
                          · refine jsw_miss (by decide) hc (by decide : (12 : Int) + 1 = 13) ?_
                            replace h := ite_or h; rcases h with ⟨hc, h⟩ | ⟨hc, h⟩
                            · refine jsw_hit (by decide) hc ?_
                              refine jr_lload_n jf_86_185 rfl hl1 ?_
                              obtain ⟨rfl, rfl⟩ := Prod.mk.inj (Option.some.inj h)
                              exact jr_retJ jf_86_186 jmt_86
                            · refine jsw_miss (by decide) hc (by decide : (13 : Int) + 1 = 14) ?_
                              replace h := ite_or h; rcases h with ⟨hc, h⟩ | ⟨hc, h⟩
                              · refine jsw_hit (by decide) hc ?_
                                refine jr_lload_n jf_86_185 rfl hl1 ?_
                                obtain ⟨rfl, rfl⟩ := Prod.mk.inj (Option.some.inj h)
                                exact jr_retJ jf_86_186 jmt_86
                              · refine jsw_miss (by decide) hc (by decide : (14 : Int) + 1 = 15) ?_
                                replace h := ite_or h; rcases h with ⟨hc, h⟩ | ⟨hc, h⟩
                                · refine jsw_hit (by decide) hc ?_
                                  refine jr_aload_n jf_86_161 rfl hl0 ?_
                                  refine jr_aload_n jf_86_162 rfl hl0 ?_
                                  replace h := obd_of h; obtain ⟨x40, hx40, h⟩ := h
                                  refine jr_getA jf_86_163 hx40 ?_
                                  refine jr_aload_n jf_86_166 rfl hl0 ?_
                                  refine jr_iconst jf_86_167 jc_i_0 ?_
                                  refine jr_lload_n jf_86_168 rfl hl1 ?_
                                  replace h := jgd_of h; obtain ⟨hb41, h⟩ := h
                                  replace h := obd_of h; obtain ⟨x42, hx42, h⟩ := h
                                  refine jr_V6_2 jf_86_169 hb41 (by omega) (r_Section_times (by omega) _ _ _ _ _ hx42) (by simp only [jcats_cons, jcats_nil, cat_int, cat_long, cat_double, cat_float, cat_ref, rv_cat]; decide) jml_87 (Nat.le_of_ble_eq_true rfl) ?_
                                  refine jr_aload_n jf_86_172 rfl hl0 ?_
                                  refine jr_iconst jf_86_173 jc_i_1 ?_
                                  refine jr_lload_n jf_86_174 rfl hl3 ?_
                                  replace h := jgd_of h; obtain ⟨hb43, h⟩ := h
                                  replace h := obd_of h; obtain ⟨x44, hx44, h⟩ := h
                                  refine jr_V6_2 jf_86_175 hb43 (by omega) (r_Section_times (by omega) _ _ _ _ _ hx44) (by simp only [jcats_cons, jcats_nil, cat_int, cat_long, cat_double, cat_float, cat_ref, rv_cat]; decide) jml_87 (Nat.le_of_ble_eq_true rfl) ?_
                                  replace h := obd_of h; obtain ⟨a45, rfl, h⟩ := h
                                  replace h := obd_of h; obtain ⟨x46, hx46, h⟩ := h
                                  rcases ite_or hx46 with ⟨hb, hx⟩ | ⟨hb0, hx⟩
                                  · refine jr_V8a_2 jf_86_178 hb (by omega) (r_Real_plus (by omega) _ _ _ _ _ hx) (Nat.le_of_ble_eq_true rfl) jml_74 (Nat.le_of_ble_eq_true rfl) ?_
                                    replace h := jgd_of h; obtain ⟨hb47, h⟩ := h
                                    replace h := jbd2_of h; obtain ⟨x48, μ49, hx48, h⟩ := h
                                    refine jr_V6_1 jf_86_181 hb47 (by omega) (r_Section_settled (by omega) _ _ _ _ _ hx48) (Nat.le_of_ble_eq_true rfl) jml_79 (Nat.le_of_ble_eq_true rfl) ?_
                                    obtain ⟨rfl, rfl⟩ := Prod.mk.inj (Option.some.inj h)
                                    exact jr_retJ jf_86_184 jmt_86
                                  · obtain ⟨hb, hx⟩ := jgd_of hx
                                    obtain hx := Option.some.inj hx
                                    refine jr_V8b_2 jf_86_178 hb0 hb (by omega) (r_Shorts_plus (by omega) _ _ _ _ _ hx) (Nat.le_of_ble_eq_true rfl) jml_78 (Nat.le_of_ble_eq_true rfl) ?_
                                    replace h := jgd_of h; obtain ⟨hb47, h⟩ := h
                                    replace h := jbd2_of h; obtain ⟨x48, μ49, hx48, h⟩ := h
                                    refine jr_V6_1 jf_86_181 hb47 (by omega) (r_Section_settled (by omega) _ _ _ _ _ hx48) (Nat.le_of_ble_eq_true rfl) jml_79 (Nat.le_of_ble_eq_true rfl) ?_
                                    obtain ⟨rfl, rfl⟩ := Prod.mk.inj (Option.some.inj h)
                                    exact jr_retJ jf_86_184 jmt_86
                                · refine jsw_miss (by decide) hc (by decide : (15 : Int) + 1 = 16) ?_
                                  refine jsw_end ?_
                                  refine jr_lload_n jf_86_185 rfl hl1 ?_
                                  obtain ⟨rfl, rfl⟩ := Prod.mk.inj (Option.some.inj h)
                                  exact jr_retJ jf_86_186 jmt_86
set_option maxRecDepth 10000 in
set_option maxHeartbeats 4000000 in
theorem r_Section_step {N B : Nat} {SA : Nat → Nat} {d : Nat} (hd : 5 ≤ d) : ∀ (v0 : Nat) (v1 : Int64) (v3 : Int64) (μ : JMem) (r : Int64) (μ9 : JMem), g_Section_step N B v0 v1 v3 μ = some (r, μ9) → jR B SA d m_Section_step 0 (lv_args 0 [.ref v0, .long v1, .long v3]) [] μ (some (.long r)) μ9 := by
  intro v0 v1 v3 μ r μ9 h
  exact r_Section_step_e hd (lv_args 0 _) _ _ _ _ _ _ (by simp [lv_args, jget, rv_cat, cat_int, cat_long, cat_double, cat_float, cat_ref]) (by simp [lv_args, jget, rv_cat, cat_int, cat_long, cat_double, cat_float, cat_ref]) (by simp [lv_args, jget, rv_cat, cat_int, cat_long, cat_double, cat_float, cat_ref]) h
/-! FilterBench.send(LFilterBench$Chain;IJI)I -/
set_option maxRecDepth 10000 in
set_option maxHeartbeats 4000000 in
theorem r_B_send_111 {N B : Nat} {SA : Nat → Nat} {d : Nat} (hd : 6 ≤ d) {kS : Option Nat → Int32 → Int64 → Int32 → JMem → Option (Int32 × JMem)} (iS : ∀ (v0 : Option Nat) (v1 : Int32) (v2 : Int64) (v4 : Int32) (μ : JMem) (r : Int32) (μ9 : JMem), kS v0 v1 v2 v4 μ = some (r, μ9) → jR B SA (d - 1) m_B_send 0 (lv_args 0 [rv v0, .int v1, .long v2, .int v4]) [] μ (some (.int r)) μ9) {k73 : Nat → Int32 → Int64 → Int32 → Nat → Int32 → Int32 → JMem → Option (Int32 × JMem)} (i73 : ∀ (L : JLoc) (v0 : Nat) (v4 : Int32) (v5 : Int64) (v7 : Int32) (v8 : Nat) (v9 : Int32) (v10 : Int32) (μ : JMem) (r : Int32) (μ9 : JMem), jget L 0 = .ref v0 → jget L 4 = .int v4 → jget L 5 = .long v5 → jget L 7 = .int v7 → jget L 8 = .ref v8 → jget L 9 = .int v9 → jget L 10 = .int v10 → k73 v0 v4 v5 v7 v8 v9 v10 μ = some (r, μ9) → jR B SA d m_B_send 73 L [] μ (some (.int r)) μ9) : ∀ (L : JLoc) (v0 : Nat) (v4 : Int32) (v5 : Int64) (v7 : Int32) (v8 : Nat) (v10 : Int32) (s0 : Int64) (s1 : Int32) (s2 : Nat) (s3 : Int32) (μ : JMem) (r : Int32) (μ9 : JMem), jget L 0 = .ref v0 → jget L 4 = .int v4 → jget L 5 = .long v5 → jget L 7 = .int v7 → jget L 8 = .ref v8 → jget L 10 = .int v10 → g_B_send_111 N B kS k73 v0 v4 v5 v7 v8 v10 s0 s1 s2 s3 μ = some (r, μ9) → jR B SA d m_B_send 111 L [.long s0, .int s1, .ref s2, .int s3] μ (some (.int r)) μ9 := by
  intro L v0 v4 v5 v7 v8 v10 s0 s1 s2 s3 μ r μ9 hl0 hl4 hl5 hl7 hl8 hl10 h
  unfold g_B_send_111 at h
  refine jr_iload jf_64_111 hl4 ?_
  refine jr_iconst jf_64_113 jc_i_1 ?_
  refine jr_iadd jf_64_114 ?_
  replace h := jbd2_of h; obtain ⟨x1, μ2, hx1, h⟩ := h
  refine jr_S3_4 jf_64_115 (by omega) (iS _ _ _ _ _ _ _ hx1) (Nat.le_of_ble_eq_true rfl) jml_64 (by simp only [jcats_cons, jcats_nil, cat_int, cat_long, cat_double, cat_float, cat_ref, rv_cat]; decide) ?_
  refine jr_iadd jf_64_118 ?_
  refine jr_istore jf_64_119 jml_64 (by decide) ?_
  refine jr_iinc jf_64_121 jc_i_1 jml_64 (by decide) (jg1_ne rfl hl10) ?_
  refine jr_goto jf_64_124 ?_
  exact i73 _ _ _ _ _ _ _ _ _ _ _ (jg1_ne rfl (jg1_ne rfl hl0)) (jg1_ne rfl (jg1_ne rfl hl4)) (jg1_ne rfl (jg1_ne rfl hl5)) (jg1_ne rfl (jg1_ne rfl hl7)) (jg1_ne rfl (jg1_pre (by first | rfl | exact rv_cat _) hl8)) (jg1_pre rfl jg1_same) jg1_same h
set_option maxRecDepth 10000 in
set_option maxHeartbeats 4000000 in
theorem r_B_send_105 {N B : Nat} {SA : Nat → Nat} {d : Nat} (hd : 6 ≤ d) {kS : Option Nat → Int32 → Int64 → Int32 → JMem → Option (Int32 × JMem)} (iS : ∀ (v0 : Option Nat) (v1 : Int32) (v2 : Int64) (v4 : Int32) (μ : JMem) (r : Int32) (μ9 : JMem), kS v0 v1 v2 v4 μ = some (r, μ9) → jR B SA (d - 1) m_B_send 0 (lv_args 0 [rv v0, .int v1, .long v2, .int v4]) [] μ (some (.int r)) μ9) {k73 : Nat → Int32 → Int64 → Int32 → Nat → Int32 → Int32 → JMem → Option (Int32 × JMem)} (i73 : ∀ (L : JLoc) (v0 : Nat) (v4 : Int32) (v5 : Int64) (v7 : Int32) (v8 : Nat) (v9 : Int32) (v10 : Int32) (μ : JMem) (r : Int32) (μ9 : JMem), jget L 0 = .ref v0 → jget L 4 = .int v4 → jget L 5 = .long v5 → jget L 7 = .int v7 → jget L 8 = .ref v8 → jget L 9 = .int v9 → jget L 10 = .int v10 → k73 v0 v4 v5 v7 v8 v9 v10 μ = some (r, μ9) → jR B SA d m_B_send 73 L [] μ (some (.int r)) μ9) : ∀ (L : JLoc) (v0 : Nat) (v4 : Int32) (v5 : Int64) (v7 : Int32) (v8 : Nat) (v10 : Int32) (s0 : Int32) (s1 : Nat) (s2 : Int32) (μ : JMem) (r : Int32) (μ9 : JMem), jget L 0 = .ref v0 → jget L 4 = .int v4 → jget L 5 = .long v5 → jget L 7 = .int v7 → jget L 8 = .ref v8 → jget L 10 = .int v10 → g_B_send_105 N B kS k73 v0 v4 v5 v7 v8 v10 s0 s1 s2 μ = some (r, μ9) → jR B SA d m_B_send 105 L [.int s0, .ref s1, .int s2] μ (some (.int r)) μ9 := by
  intro L v0 v4 v5 v7 v8 v10 s0 s1 s2 μ r μ9 hl0 hl4 hl5 hl7 hl8 hl10 h
  unfold g_B_send_105 at h
  refine jr_lload jf_64_105 hl5 ?_
  refine jr_goto jf_64_107 ?_
  exact r_B_send_111 hd iS i73 _ _ _ _ _ _ _ _ _ _ _ _ _ _ hl0 hl4 hl5 hl7 hl8 hl10 h
set_option maxRecDepth 10000 in
set_option maxHeartbeats 4000000 in
theorem r_B_send_73 {N B : Nat} {SA : Nat → Nat} {d : Nat} (hd : 6 ≤ d) {kS : Option Nat → Int32 → Int64 → Int32 → JMem → Option (Int32 × JMem)} (iS : ∀ (v0 : Option Nat) (v1 : Int32) (v2 : Int64) (v4 : Int32) (μ : JMem) (r : Int32) (μ9 : JMem), kS v0 v1 v2 v4 μ = some (r, μ9) → jR B SA (d - 1) m_B_send 0 (lv_args 0 [rv v0, .int v1, .long v2, .int v4]) [] μ (some (.int r)) μ9) : ∀ (n : Nat), ∀ (L : JLoc) (v0 : Nat) (v4 : Int32) (v5 : Int64) (v7 : Int32) (v8 : Nat) (v9 : Int32) (v10 : Int32) (μ : JMem) (r : Int32) (μ9 : JMem), jget L 0 = .ref v0 → jget L 4 = .int v4 → jget L 5 = .long v5 → jget L 7 = .int v7 → jget L 8 = .ref v8 → jget L 9 = .int v9 → jget L 10 = .int v10 → g_B_send_73 N B kS n v0 v4 v5 v7 v8 v9 v10 μ = some (r, μ9) → jR B SA d m_B_send 73 L [] μ (some (.int r)) μ9 := by
  intro n
  induction n with
  | zero =>
    intro L v0 v4 v5 v7 v8 v9 v10 μ r μ9 hl0 hl4 hl5 hl7 hl8 hl9 hl10 h
    unfold g_B_send_73 at h
    cases h
  | succ n ih =>
    intro L v0 v4 v5 v7 v8 v9 v10 μ r μ9 hl0 hl4 hl5 hl7 hl8 hl9 hl10 h
    unfold g_B_send_73 at h
    refine jr_iload jf_64_73 hl10 ?_
    refine jr_aload jf_64_75 hl8 ?_
    replace h := obd_of h; obtain ⟨x1, hx1, h⟩ := h
    refine jr_getI jf_64_77 hx1 ?_
    replace h := ite_or h; rcases h with ⟨hc, h⟩ | ⟨hc, h⟩
    · refine jr_if2_ge_t jf_64_80 hc ?_
      refine jr_iload jf_64_127 hl9 ?_
      obtain ⟨rfl, rfl⟩ := Prod.mk.inj (Option.some.inj h)
      exact jr_retI jf_64_129 jmt_64
    · refine jr_if2_ge_f jf_64_80 hc ?_
      refine jr_iload jf_64_83 hl9 ?_
      refine jr_aload_n jf_64_85 rfl hl0 ?_
      refine jr_iload jf_64_86 hl7 ?_
      refine jr_iconst jf_64_88 jc_i_1 ?_
      refine jr_iadd jf_64_89 ?_
      refine jr_iload jf_64_90 hl10 ?_
      replace h := ite_or h; rcases h with ⟨hc, h⟩ | ⟨hc, h⟩
      · refine jr_if_eq_t jf_64_92 hc ?_
        exact r_B_send_105 hd iS ih _ _ _ _ _ _ _ _ _ _ _ _ _ hl0 hl4 hl5 hl7 hl8 hl10 h
      · refine jr_if_eq_f jf_64_92 hc ?_
        refine jr_aload jf_64_95 hl8 ?_
        replace h := obd_of h; obtain ⟨x2, hx2, h⟩ := h
        refine jr_getI jf_64_97 hx2 ?_
        refine jr_bipush jf_64_100 jc_b_14 ?_
        replace h := ite_or h; rcases h with ⟨hc, h⟩ | ⟨hc, h⟩
        · refine jr_if2_ne_f jf_64_102 hc ?_
          exact r_B_send_105 hd iS ih _ _ _ _ _ _ _ _ _ _ _ _ _ hl0 hl4 hl5 hl7 hl8 hl10 h
        · refine jr_if2_ne_t jf_64_102 hc ?_
          refine jr_lconst0 jf_64_110 ?_
          exact r_B_send_111 hd iS ih _ _ _ _ _ _ _ _ _ _ _ _ _ _ hl0 hl4 hl5 hl7 hl8 hl10 h
set_option maxRecDepth 10000 in
set_option maxHeartbeats 4000000 in
theorem r_B_send_198 {N B : Nat} {SA : Nat → Nat} {d : Nat} (hd : 6 ≤ d) {kS : Option Nat → Int32 → Int64 → Int32 → JMem → Option (Int32 × JMem)} (iS : ∀ (v0 : Option Nat) (v1 : Int32) (v2 : Int64) (v4 : Int32) (μ : JMem) (r : Int32) (μ9 : JMem), kS v0 v1 v2 v4 μ = some (r, μ9) → jR B SA (d - 1) m_B_send 0 (lv_args 0 [rv v0, .int v1, .long v2, .int v4]) [] μ (some (.int r)) μ9) {k15 : Option Nat → Int32 → Int64 → Int32 → JMem → Option (Int32 × JMem)} (i15 : ∀ (L : JLoc) (v0 : Option Nat) (v4 : Int32) (v5 : Int64) (v7 : Int32) (μ : JMem) (r : Int32) (μ9 : JMem), jget L 0 = rv v0 → jget L 4 = .int v4 → jget L 5 = .long v5 → jget L 7 = .int v7 → k15 v0 v4 v5 v7 μ = some (r, μ9) → jR B SA d m_B_send 15 L [] μ (some (.int r)) μ9) : ∀ (L : JLoc) (v0 : Nat) (v4 : Int32) (v5 : Int64) (v7 : Int32) (μ : JMem) (r : Int32) (μ9 : JMem), jget L 0 = .ref v0 → jget L 4 = .int v4 → jget L 5 = .long v5 → jget L 7 = .int v7 → g_B_send_198 N B kS k15 v0 v4 v5 v7 μ = some (r, μ9) → jR B SA d m_B_send 198 L [] μ (some (.int r)) μ9 := by
  intro L v0 v4 v5 v7 μ r μ9 hl0 hl4 hl5 hl7 h
  unfold g_B_send_198 at h
  refine jr_iinc jf_64_198 jc_i_1 jml_64 (by decide) hl7 ?_
  refine jr_goto jf_64_201 ?_
  exact i15 _ (some _) _ _ _ _ _ _ (jg1_ne rfl hl0) (jg1_ne rfl hl4) (jg1_ne rfl hl5) jg1_same h
set_option maxRecDepth 10000 in
set_option maxHeartbeats 4000000 in
theorem r_B_send_179 {N B : Nat} {SA : Nat → Nat} {d : Nat} (hd : 6 ≤ d) {kS : Option Nat → Int32 → Int64 → Int32 → JMem → Option (Int32 × JMem)} (iS : ∀ (v0 : Option Nat) (v1 : Int32) (v2 : Int64) (v4 : Int32) (μ : JMem) (r : Int32) (μ9 : JMem), kS v0 v1 v2 v4 μ = some (r, μ9) → jR B SA (d - 1) m_B_send 0 (lv_args 0 [rv v0, .int v1, .long v2, .int v4]) [] μ (some (.int r)) μ9) {k15 : Option Nat → Int32 → Int64 → Int32 → JMem → Option (Int32 × JMem)} (i15 : ∀ (L : JLoc) (v0 : Option Nat) (v4 : Int32) (v5 : Int64) (v7 : Int32) (μ : JMem) (r : Int32) (μ9 : JMem), jget L 0 = rv v0 → jget L 4 = .int v4 → jget L 5 = .long v5 → jget L 7 = .int v7 → k15 v0 v4 v5 v7 μ = some (r, μ9) → jR B SA d m_B_send 15 L [] μ (some (.int r)) μ9) : ∀ (L : JLoc) (v0 : Nat) (v4 : Int32) (v5 : Int64) (v7 : Int32) (v8 : Nat) (v9 : Int64) (μ : JMem) (r : Int32) (μ9 : JMem), jget L 0 = .ref v0 → jget L 4 = .int v4 → jget L 5 = .long v5 → jget L 7 = .int v7 → jget L 8 = .ref v8 → jget L 9 = .long v9 → g_B_send_179 N B kS k15 v0 v4 v5 v7 v8 v9 μ = some (r, μ9) → jR B SA d m_B_send 179 L [] μ (some (.int r)) μ9 := by
  intro L v0 v4 v5 v7 v8 v9 μ r μ9 hl0 hl4 hl5 hl7 hl8 hl9 h
  unfold g_B_send_179 at h
  refine jr_aload jf_64_179 hl8 ?_
  refine jr_lload jf_64_181 hl5 ?_
  refine jr_lload jf_64_183 hl9 ?_
  replace h := jgd_of h; obtain ⟨hb1, h⟩ := h
  replace h := jbd2_of h; obtain ⟨x2, μ3, hx2, h⟩ := h
  refine jr_V6_2 jf_64_185 hb1 (by omega) (r_Section_step (by omega) _ _ _ _ _ _ hx2) (Nat.le_of_ble_eq_true rfl) jml_86 (Nat.le_of_ble_eq_true rfl) ?_
  refine jr_lstore jf_64_188 jml_64 (by decide) ?_
  refine jr_aload_n jf_64_190 rfl (jg2_ne rfl hl0) ?_
  refine jr_iload jf_64_191 (jg2_ne rfl hl7) ?_
  refine jr_lload jf_64_193 jg2_same ?_
  replace h := jgd_of h; obtain ⟨hb4, h⟩ := h
  replace h := obd_of h; obtain ⟨μ5, hμ5, h⟩ := h
  refine jr_V6v_2 jf_64_195 hb4 (by omega) (r_Chain_note (by omega) _ _ _ _ _ hμ5) (Nat.le_of_ble_eq_true rfl) jml_112 (Nat.le_of_ble_eq_true rfl) ?_
  exact r_B_send_198 hd iS i15 _ _ _ _ _ _ _ _ (jg2_ne rfl hl0) (jg2_pre rfl hl4) jg2_same (jg2_ne rfl hl7) h
set_option maxRecDepth 10000 in
set_option maxHeartbeats 4000000 in
theorem r_B_send_15 {N B : Nat} {SA : Nat → Nat} {d : Nat} (hd : 6 ≤ d) {kS : Option Nat → Int32 → Int64 → Int32 → JMem → Option (Int32 × JMem)} (iS : ∀ (v0 : Option Nat) (v1 : Int32) (v2 : Int64) (v4 : Int32) (μ : JMem) (r : Int32) (μ9 : JMem), kS v0 v1 v2 v4 μ = some (r, μ9) → jR B SA (d - 1) m_B_send 0 (lv_args 0 [rv v0, .int v1, .long v2, .int v4]) [] μ (some (.int r)) μ9) : ∀ (n : Nat), ∀ (L : JLoc) (v0 : Option Nat) (v4 : Int32) (v5 : Int64) (v7 : Int32) (μ : JMem) (r : Int32) (μ9 : JMem), jget L 0 = rv v0 → jget L 4 = .int v4 → jget L 5 = .long v5 → jget L 7 = .int v7 → g_B_send_15 N B kS n v0 v4 v5 v7 μ = some (r, μ9) → jR B SA d m_B_send 15 L [] μ (some (.int r)) μ9 := by
  intro n
  induction n with
  | zero =>
    intro L v0 v4 v5 v7 μ r μ9 hl0 hl4 hl5 hl7 h
    unfold g_B_send_15 at h
    cases h
  | succ n ih =>
    intro L v0 v4 v5 v7 μ r μ9 hl0 hl4 hl5 hl7 h
    unfold g_B_send_15 at h
    refine jr_iload jf_64_15 hl7 ?_
    refine jr_aload_n_A jf_64_17 rfl hl0 ?_
    replace h := obd_of h; obtain ⟨a1, rfl, h⟩ := h
    replace h := obd_of h; obtain ⟨x2, hx2, h⟩ := h
    refine jr_getI jf_64_18 hx2 ?_
    replace h := ite_or h; rcases h with ⟨hc, h⟩ | ⟨hc, h⟩
    · refine jr_if2_ge_t jf_64_21 hc ?_
      refine jr_aload_n jf_64_204 rfl hl0 ?_
      refine jr_lload jf_64_205 hl5 ?_
      replace h := jgd_of h; obtain ⟨hb3, h⟩ := h
      replace h := obd_of h; obtain ⟨μ4, hμ4, h⟩ := h
      refine jr_V6v_1 jf_64_207 hb3 (by omega) (r_Chain_emit (by omega) _ _ _ _ hμ4) (Nat.le_of_ble_eq_true rfl) jml_113 (Nat.le_of_ble_eq_true rfl) ?_
      refine jr_iconst jf_64_210 jc_i_1 ?_
      obtain ⟨rfl, rfl⟩ := Prod.mk.inj (Option.some.inj h)
      exact jr_retI jf_64_211 jmt_64
    · refine jr_if2_ge_f jf_64_21 hc ?_
      refine jr_aload_n jf_64_24 rfl hl0 ?_
      refine jr_iload jf_64_25 hl7 ?_
      replace h := jgd_of h; obtain ⟨hb5, h⟩ := h
      replace h := obd_of h; obtain ⟨x6, hx6, h⟩ := h
      refine jr_V6_1 jf_64_27 hb5 (by omega) (r_Chain_memberAt (by omega) _ _ _ _ hx6) (Nat.le_of_ble_eq_true rfl) jml_50 (Nat.le_of_ble_eq_true rfl) ?_
      refine jr_astore_A jf_64_30 jml_64 (by decide) ?_
      refine jr_aload_A jf_64_32 jg1_same ?_
      replace h := jon_or h; rcases h with ⟨rfl, h⟩ | ⟨a7, rfl, h⟩
      · refine jr_ifnonnull_n jf_64_34 ?_
        refine jr_iconst jf_64_37 jc_i_0 ?_
        obtain ⟨rfl, rfl⟩ := Prod.mk.inj (Option.some.inj h)
        exact jr_retI jf_64_38 jmt_64
      · refine jr_ifnonnull_s jf_64_34 ?_
        refine jr_aload jf_64_39 jg1_same ?_
        replace h := obd_of h; obtain ⟨x8, hx8, h⟩ := h
        refine jr_getI jf_64_41 hx8 ?_
        refine jr_bipush jf_64_44 jc_b_12 ?_
        replace h := ite_or h; rcases h with ⟨hc, h⟩ | ⟨hc, h⟩
        · refine jr_if2_ne_f jf_64_46 hc ?_
          refine jr_aload jf_64_49 jg1_same ?_
          replace h := jgd_of h; obtain ⟨hb9, h⟩ := h
          replace h := jbd2_of h; obtain ⟨x10, μ11, hx10, h⟩ := h
          refine jr_V6_0 jf_64_51 hb9 (by omega) (r_Section_letsThrough (by omega) _ _ _ _ hx10) (Nat.le_of_ble_eq_true rfl) jml_65 (Nat.le_of_ble_eq_true rfl) ?_
          replace h := ite_or h; rcases h with ⟨hc, h⟩ | ⟨hc, h⟩
          · refine jr_ifz_ne_t jf_64_54 hc ?_
            exact r_B_send_198 hd iS ih _ _ _ _ _ _ _ _ (jg1_ne rfl hl0) (jg1_ne rfl hl4) (jg1_ne rfl hl5) (jg1_pre rfl hl7) h
          · refine jr_ifz_ne_f jf_64_54 hc ?_
            refine jr_iconst jf_64_57 jc_i_0 ?_
            obtain ⟨rfl, rfl⟩ := Prod.mk.inj (Option.some.inj h)
            exact jr_retI jf_64_58 jmt_64
        · refine jr_if2_ne_t jf_64_46 hc ?_
          refine jr_aload jf_64_59 jg1_same ?_
          replace h := jgd_of h; obtain ⟨hb12, h⟩ := h
          replace h := obd_of h; obtain ⟨x13, hx13, h⟩ := h
          refine jr_V6_0 jf_64_61 hb12 (by omega) (r_Section_spreads (by omega) _ _ _ hx13) (Nat.le_of_ble_eq_true rfl) jml_51 (Nat.le_of_ble_eq_true rfl) ?_
          replace h := ite_or h; rcases h with ⟨hc, h⟩ | ⟨hc, h⟩
          · refine jr_ifz_eq_f jf_64_64 hc ?_
            refine jr_iconst jf_64_67 jc_i_0 ?_
            refine jr_istore jf_64_68 jml_64 (by decide) ?_
            refine jr_iconst jf_64_70 jc_i_0 ?_
            refine jr_istore jf_64_71 jml_64 (by decide) ?_
            exact r_B_send_73 hd iS _ _ _ _ _ _ _ _ _ _ _ _ (jg1_ne rfl (jg1_ne rfl (jg1_ne rfl hl0))) (jg1_ne rfl (jg1_ne rfl (jg1_ne rfl hl4))) (jg1_ne rfl (jg1_ne rfl (jg1_ne rfl hl5))) (jg1_ne rfl (jg1_ne rfl (jg1_pre rfl hl7))) (jg1_ne rfl (jg1_pre (by first | rfl | exact rv_cat _) jg1_same)) (jg1_pre rfl jg1_same) jg1_same h
          · refine jr_ifz_eq_t jf_64_64 hc ?_
            refine jr_aload_n jf_64_130 rfl (jg1_ne rfl hl0) ?_
            refine jr_iload jf_64_131 (jg1_pre rfl hl7) ?_
            refine jr_aload jf_64_133 jg1_same ?_
            refine jr_lload jf_64_135 (jg1_ne rfl hl5) ?_
            replace h := jgd_of h; obtain ⟨hb14, h⟩ := h
            replace h := jbd2_of h; obtain ⟨x15, μ16, hx15, h⟩ := h
            refine jr_V6_3 jf_64_137 hb14 (by omega) (r_Chain_looped (by omega) _ _ _ _ _ _ _ hx15) (Nat.le_of_ble_eq_true rfl) jml_67 (by simp only [jcats_cons, jcats_nil, cat_int, cat_long, cat_double, cat_float, cat_ref, rv_cat]; decide) ?_
            refine jr_lstore jf_64_140 jml_64 (by decide) ?_
            refine jr_lconst0 jf_64_142 ?_
            refine jr_lstore jf_64_143 jml_64 (by decide) ?_
            refine jr_aload jf_64_145 (jg2_pre (by first | rfl | exact rv_cat _) (jg2_ne rfl jg1_same)) ?_
            replace h := obd_of h; obtain ⟨x17, hx17, h⟩ := h
            refine jr_getA jf_64_147 hx17 ?_
            replace h := jon_or h; rcases h with ⟨rfl, h⟩ | ⟨a18, rfl, h⟩
            · refine jr_ifnull_n jf_64_150 ?_
              exact r_B_send_179 hd iS ih _ _ _ _ _ _ _ _ _ _ (jg2_ne rfl (jg2_ne rfl (jg1_ne rfl hl0))) (jg2_ne rfl (jg2_pre rfl (jg1_ne rfl hl4))) (jg2_ne rfl jg2_same) (jg2_ne rfl (jg2_ne rfl (jg1_pre rfl hl7))) (jg2_pre (by first | rfl | exact rv_cat _) (jg2_ne rfl jg1_same)) jg2_same h
            · refine jr_ifnull_s jf_64_150 ?_
              refine jr_aload jf_64_153 (jg2_pre (by first | rfl | exact rv_cat _) (jg2_ne rfl jg1_same)) ?_
              replace h := obd_of h; obtain ⟨x19, hx19, h⟩ := h
              refine jr_getA jf_64_155 hx19 ?_
              refine jr_iconst jf_64_158 jc_i_0 ?_
              refine jr_lload jf_64_159 (jg2_ne rfl jg2_same) ?_
              refine jr_iload jf_64_161 (jg2_ne rfl (jg2_pre rfl (jg1_ne rfl hl4))) ?_
              refine jr_iconst jf_64_163 jc_i_1 ?_
              refine jr_iadd jf_64_164 ?_
              replace h := jbd2_of h; obtain ⟨x20, μ21, hx20, h⟩ := h
              refine jr_S3_4 jf_64_165 (by omega) (iS _ _ _ _ _ _ _ hx20) (Nat.le_of_ble_eq_true rfl) jml_64 (by simp only [jcats_cons, jcats_nil, cat_int, cat_long, cat_double, cat_float, cat_ref, rv_cat]; decide) ?_
              refine jr_pop jf_64_168 rfl ?_
              refine jr_aload jf_64_169 (jg2_pre (by first | rfl | exact rv_cat _) (jg2_ne rfl jg1_same)) ?_
              replace h := obd_of h; obtain ⟨x22, hx22, h⟩ := h
              refine jr_getA jf_64_171 hx22 ?_
              replace h := obd_of h; obtain ⟨a23, rfl, h⟩ := h
              replace h := jgd_of h; obtain ⟨hb24, h⟩ := h
              replace h := obd_of h; obtain ⟨x25, hx25, h⟩ := h
              refine jr_V6_0 jf_64_174 hb24 (by omega) (r_Chain_madeLast (by omega) _ _ _ hx25) (Nat.le_of_ble_eq_true rfl) jml_84 (Nat.le_of_ble_eq_true rfl) ?_
              refine jr_lstore jf_64_177 jml_64 (by decide) ?_
              exact r_B_send_179 hd iS ih _ _ _ _ _ _ _ _ _ _ (jg2_ne rfl (jg2_ne rfl (jg2_ne rfl (jg1_ne rfl hl0)))) (jg2_ne rfl (jg2_ne rfl (jg2_pre rfl (jg1_ne rfl hl4)))) (jg2_ne rfl (jg2_ne rfl jg2_same)) (jg2_ne rfl (jg2_ne rfl (jg2_ne rfl (jg1_pre rfl hl7)))) (jg2_pre (by first | rfl | exact rv_cat _) (jg2_pre (by first | rfl | exact rv_cat _) (jg2_ne rfl jg1_same))) jg2_same h
set_option maxRecDepth 10000 in
set_option maxHeartbeats 4000000 in
theorem r_B_send_b {N B : Nat} {SA : Nat → Nat} {d : Nat} (hd : 6 ≤ d) {kS : Option Nat → Int32 → Int64 → Int32 → JMem → Option (Int32 × JMem)} (iS : ∀ (v0 : Option Nat) (v1 : Int32) (v2 : Int64) (v4 : Int32) (μ : JMem) (r : Int32) (μ9 : JMem), kS v0 v1 v2 v4 μ = some (r, μ9) → jR B SA (d - 1) m_B_send 0 (lv_args 0 [rv v0, .int v1, .long v2, .int v4]) [] μ (some (.int r)) μ9) : ∀ (L : JLoc) (v0 : Option Nat) (v1 : Int32) (v2 : Int64) (v4 : Int32) (μ : JMem) (r : Int32) (μ9 : JMem), jget L 0 = rv v0 → jget L 1 = .int v1 → jget L 2 = .long v2 → jget L 4 = .int v4 → g_B_send_b N B kS v0 v1 v2 v4 μ = some (r, μ9) → jR B SA d m_B_send 0 L [] μ (some (.int r)) μ9 := by
  intro L v0 v1 v2 v4 μ r μ9 hl0 hl1 hl2 hl4 h
  unfold g_B_send_b at h
  refine jr_iload jf_64_0 hl4 ?_
  refine jr_bipush jf_64_2 jc_b_30 ?_
  replace h := ite_or h; rcases h with ⟨hc, h⟩ | ⟨hc, h⟩
  · refine jr_if2_le_t jf_64_4 hc ?_
    refine jr_lload_n jf_64_9 rfl hl2 ?_
    refine jr_lstore jf_64_10 jml_64 (by decide) ?_
    refine jr_iload_n jf_64_12 rfl (jg2_ne rfl hl1) ?_
    refine jr_istore jf_64_13 jml_64 (by decide) ?_
    exact r_B_send_15 hd iS _ _ _ _ _ _ _ _ _ (jg1_ne rfl (jg2_ne rfl hl0)) (jg1_ne rfl (jg2_pre rfl hl4)) (jg1_ne rfl jg2_same) jg1_same h
  · refine jr_if2_le_f jf_64_4 hc ?_
    refine jr_iconst jf_64_7 jc_i_0 ?_
    obtain ⟨rfl, rfl⟩ := Prod.mk.inj (Option.some.inj h)
    exact jr_retI jf_64_8 jmt_64
set_option maxRecDepth 10000 in
set_option maxHeartbeats 4000000 in
theorem r_B_send {N B : Nat} {SA : Nat → Nat} : ∀ (n d : Nat), n + 6 ≤ d → ∀ (v0 : Option Nat) (v1 : Int32) (v2 : Int64) (v4 : Int32) (μ : JMem) (r : Int32) (μ9 : JMem), g_B_send N B n v0 v1 v2 v4 μ = some (r, μ9) → jR B SA d m_B_send 0 (lv_args 0 [rv v0, .int v1, .long v2, .int v4]) [] μ (some (.int r)) μ9 := by
  intro n
  induction n with
  | zero =>
    intro d hd v0 v1 v2 v4 μ r μ9 h
    unfold g_B_send at h
    cases h
  | succ n ih =>
    intro d hd v0 v1 v2 v4 μ r μ9 h
    unfold g_B_send at h
    exact r_B_send_b (by omega) (ih (d - 1) (by omega)) (lv_args 0 _) _ _ _ _ _ _ _ (by simp [lv_args, jget, rv_cat, cat_int, cat_long, cat_double, cat_float, cat_ref]) (by simp [lv_args, jget, rv_cat, cat_int, cat_long, cat_double, cat_float, cat_ref]) (by simp [lv_args, jget, rv_cat, cat_int, cat_long, cat_double, cat_float, cat_ref]) (by simp [lv_args, jget, rv_cat, cat_int, cat_long, cat_double, cat_float, cat_ref]) h
/-! FilterBench.feed(IJ)I -/
set_option maxRecDepth 10000 in
set_option maxHeartbeats 4000000 in
theorem r_B_feed_e {N M B : Nat} {SA : Nat → Nat} {d : Nat} (hd : M + 7 ≤ d) : ∀ (L : JLoc) (v0 : Nat) (v1 : Int32) (v2 : Int64) (μ : JMem) (r : Int32) (μ9 : JMem), jget L 0 = .ref v0 → jget L 1 = .int v1 → jget L 2 = .long v2 → g_B_feed N M B v0 v1 v2 μ = some (r, μ9) → jR B SA d m_B_feed 0 L [] μ (some (.int r)) μ9 := by
  intro L v0 v1 v2 μ r μ9 hl0 hl1 hl2 h
  unfold g_B_feed at h
  refine jr_aload_n jf_62_0 rfl hl0 ?_
  refine jr_iload_n jf_62_1 rfl hl1 ?_
  replace h := jgd_of h; obtain ⟨hb1, h⟩ := h
  replace h := obd_of h; obtain ⟨x2, hx2, h⟩ := h
  refine jr_V6_1 jf_62_2 hb1 (by omega) (r_B_fedAlone (by omega) _ _ _ _ hx2) (Nat.le_of_ble_eq_true rfl) jml_63 (Nat.le_of_ble_eq_true rfl) ?_
  refine jr_astore_A jf_62_5 jml_62 (by decide) ?_
  refine jr_aload_A jf_62_7 jg1_same ?_
  replace h := jon_or h; rcases h with ⟨rfl, h⟩ | ⟨a3, rfl, h⟩
  · refine jr_ifnonnull_n jf_62_9 ?_
    refine jr_iconst jf_62_12 jc_i_m1 ?_
    obtain ⟨rfl, rfl⟩ := Prod.mk.inj (Option.some.inj h)
    exact jr_retI jf_62_13 jmt_62
  · refine jr_ifnonnull_s jf_62_9 ?_
    refine jr_aload_n jf_62_14 rfl (jg1_ne rfl hl0) ?_
    refine jr_aload jf_62_15 jg1_same ?_
    replace h := jgd_of h; obtain ⟨hb4, h⟩ := h
    replace h := obd_of h; obtain ⟨x5, hx5, h⟩ := h
    refine jr_V6_0 jf_62_17 hb4 (by omega) (r_Chain_sort (by omega) _ _ _ hx5) (Nat.le_of_ble_eq_true rfl) jml_49 (Nat.le_of_ble_eq_true rfl) ?_
    replace h := jgd_of h; obtain ⟨hb6, h⟩ := h
    replace h := obd_of h; obtain ⟨x7, hx7, h⟩ := h
    refine jr_V6_1 jf_62_20 hb6 (by omega) (r_B_numbersOf (by omega) _ _ _ _ hx7) (Nat.le_of_ble_eq_true rfl) jml_6 (Nat.le_of_ble_eq_true rfl) ?_
    refine jr_astore_A jf_62_23 jml_62 (by decide) ?_
    refine jr_aload_A jf_62_25 jg1_same ?_
    replace h := jon_or h; rcases h with ⟨rfl, h⟩ | ⟨a8, rfl, h⟩
    · refine jr_ifnull_n jf_62_27 ?_
      refine jr_iconst jf_62_39 jc_i_m1 ?_
      obtain ⟨rfl, rfl⟩ := Prod.mk.inj (Option.some.inj h)
      exact jr_retI jf_62_40 jmt_62
    · refine jr_ifnull_s jf_62_27 ?_
      refine jr_aload jf_62_30 jg1_same ?_
      refine jr_lload_n jf_62_32 rfl (jg1_ne rfl (jg1_ne rfl hl2)) ?_
      replace h := obd_of h; obtain ⟨x9, hx9, h⟩ := h
      rcases ite_or hx9 with ⟨hb, hx⟩ | ⟨hb0, hx⟩
      · refine jr_V8a_1 jf_62_33 hb (by omega) (r_Real_holds (by omega) _ _ _ _ hx) (Nat.le_of_ble_eq_true rfl) jml_15 (Nat.le_of_ble_eq_true rfl) ?_
        replace h := ite_or h; rcases h with ⟨hc, h⟩ | ⟨hc, h⟩
        · refine jr_ifz_ne_t jf_62_36 hc ?_
          refine jr_aload jf_62_41 (jg1_pre (by first | rfl | exact rv_cat _) jg1_same) ?_
          refine jr_iconst jf_62_43 jc_i_0 ?_
          refine jr_aload jf_62_44 jg1_same ?_
          refine jr_lload_n jf_62_46 rfl (jg1_ne rfl (jg1_ne rfl hl2)) ?_
          replace h := obd_of h; obtain ⟨x10, hx10, h⟩ := h
          rcases ite_or hx10 with ⟨hb, hx⟩ | ⟨hb0, hx⟩
          · refine jr_V8a_1 jf_62_47 hb (by omega) (r_Real_clean (by omega) _ _ _ _ hx) (Nat.le_of_ble_eq_true rfl) jml_17 (Nat.le_of_ble_eq_true rfl) ?_
            refine jr_iconst jf_62_50 jc_i_0 ?_
            replace h := jbd2_of h; obtain ⟨x11, μ12, hx11, h⟩ := h
            refine jr_S3_4 jf_62_51 (by omega) (r_B_send M _ (by omega) _ _ _ _ _ _ _ hx11) (Nat.le_of_ble_eq_true rfl) jml_64 (by simp only [jcats_cons, jcats_nil, cat_int, cat_long, cat_double, cat_float, cat_ref, rv_cat]; decide) ?_
            obtain ⟨rfl, rfl⟩ := Prod.mk.inj (Option.some.inj h)
            exact jr_retI jf_62_54 jmt_62
          · obtain ⟨hb, hx⟩ := jgd_of hx
            obtain hx := Option.some.inj hx
            refine jr_V8b_1 jf_62_47 hb0 hb (by omega) (r_Shorts_clean (by omega) _ _ _ _ hx) (Nat.le_of_ble_eq_true rfl) jml_19 (Nat.le_of_ble_eq_true rfl) ?_
            refine jr_iconst jf_62_50 jc_i_0 ?_
            replace h := jbd2_of h; obtain ⟨x11, μ12, hx11, h⟩ := h
            refine jr_S3_4 jf_62_51 (by omega) (r_B_send M _ (by omega) _ _ _ _ _ _ _ hx11) (Nat.le_of_ble_eq_true rfl) jml_64 (by simp only [jcats_cons, jcats_nil, cat_int, cat_long, cat_double, cat_float, cat_ref, rv_cat]; decide) ?_
            obtain ⟨rfl, rfl⟩ := Prod.mk.inj (Option.some.inj h)
            exact jr_retI jf_62_54 jmt_62
        · refine jr_ifz_ne_f jf_62_36 hc ?_
          refine jr_iconst jf_62_39 jc_i_m1 ?_
          obtain ⟨rfl, rfl⟩ := Prod.mk.inj (Option.some.inj h)
          exact jr_retI jf_62_40 jmt_62
      · obtain ⟨hb, hx⟩ := jgd_of hx
        obtain hx := Option.some.inj hx
        refine jr_V8b_1 jf_62_33 hb0 hb (by omega) (r_Shorts_holds (by omega) _ _ _ _ hx) (Nat.le_of_ble_eq_true rfl) jml_16 (Nat.le_of_ble_eq_true rfl) ?_
        replace h := ite_or h; rcases h with ⟨hc, h⟩ | ⟨hc, h⟩
        · refine jr_ifz_ne_t jf_62_36 hc ?_
          refine jr_aload jf_62_41 (jg1_pre (by first | rfl | exact rv_cat _) jg1_same) ?_
          refine jr_iconst jf_62_43 jc_i_0 ?_
          refine jr_aload jf_62_44 jg1_same ?_
          refine jr_lload_n jf_62_46 rfl (jg1_ne rfl (jg1_ne rfl hl2)) ?_
          replace h := obd_of h; obtain ⟨x10, hx10, h⟩ := h
          rcases ite_or hx10 with ⟨hb, hx⟩ | ⟨hb0, hx⟩
          · refine jr_V8a_1 jf_62_47 hb (by omega) (r_Real_clean (by omega) _ _ _ _ hx) (Nat.le_of_ble_eq_true rfl) jml_17 (Nat.le_of_ble_eq_true rfl) ?_
            refine jr_iconst jf_62_50 jc_i_0 ?_
            replace h := jbd2_of h; obtain ⟨x11, μ12, hx11, h⟩ := h
            refine jr_S3_4 jf_62_51 (by omega) (r_B_send M _ (by omega) _ _ _ _ _ _ _ hx11) (Nat.le_of_ble_eq_true rfl) jml_64 (by simp only [jcats_cons, jcats_nil, cat_int, cat_long, cat_double, cat_float, cat_ref, rv_cat]; decide) ?_
            obtain ⟨rfl, rfl⟩ := Prod.mk.inj (Option.some.inj h)
            exact jr_retI jf_62_54 jmt_62
          · obtain ⟨hb, hx⟩ := jgd_of hx
            obtain hx := Option.some.inj hx
            refine jr_V8b_1 jf_62_47 hb0 hb (by omega) (r_Shorts_clean (by omega) _ _ _ _ hx) (Nat.le_of_ble_eq_true rfl) jml_19 (Nat.le_of_ble_eq_true rfl) ?_
            refine jr_iconst jf_62_50 jc_i_0 ?_
            replace h := jbd2_of h; obtain ⟨x11, μ12, hx11, h⟩ := h
            refine jr_S3_4 jf_62_51 (by omega) (r_B_send M _ (by omega) _ _ _ _ _ _ _ hx11) (Nat.le_of_ble_eq_true rfl) jml_64 (by simp only [jcats_cons, jcats_nil, cat_int, cat_long, cat_double, cat_float, cat_ref, rv_cat]; decide) ?_
            obtain ⟨rfl, rfl⟩ := Prod.mk.inj (Option.some.inj h)
            exact jr_retI jf_62_54 jmt_62
        · refine jr_ifz_ne_f jf_62_36 hc ?_
          refine jr_iconst jf_62_39 jc_i_m1 ?_
          obtain ⟨rfl, rfl⟩ := Prod.mk.inj (Option.some.inj h)
          exact jr_retI jf_62_40 jmt_62
set_option maxRecDepth 10000 in
set_option maxHeartbeats 4000000 in
theorem r_B_feed {N M B : Nat} {SA : Nat → Nat} {d : Nat} (hd : M + 7 ≤ d) : ∀ (v0 : Nat) (v1 : Int32) (v2 : Int64) (μ : JMem) (r : Int32) (μ9 : JMem), g_B_feed N M B v0 v1 v2 μ = some (r, μ9) → jR B SA d m_B_feed 0 (lv_args 0 [.ref v0, .int v1, .long v2]) [] μ (some (.int r)) μ9 := by
  intro v0 v1 v2 μ r μ9 h
  exact r_B_feed_e hd (lv_args 0 _) _ _ _ _ _ _ (by simp [lv_args, jget, rv_cat, cat_int, cat_long, cat_double, cat_float, cat_ref]) (by simp [lv_args, jget, rv_cat, cat_int, cat_long, cat_double, cat_float, cat_ref]) (by simp [lv_args, jget, rv_cat, cat_int, cat_long, cat_double, cat_float, cat_ref]) h
/-! FilterBench$Real.scaled(JI)J -/
set_option maxRecDepth 10000 in
set_option maxHeartbeats 4000000 in
theorem r_Real_scaled_22 {B : Nat} {SA : Nat → Nat} {d : Nat} (hd : 2 ≤ d) : ∀ (L : JLoc) (v1 : Int64) (v3 : Int32) (s0 : Bool) (s1 : Nat) (μ : JMem) (r : Int64), jget L 1 = .long v1 → jget L 3 = .int v3 → g_Real_scaled_22 v1 v3 s0 s1 μ.1 = some r → jR B SA d m_Real_scaled 22 L [.int (jb s0), .ref s1] μ (some (.long r)) μ := by
  intro L v1 v3 s0 s1 μ r hl1 hl3 h
  unfold g_Real_scaled_22 at h
  refine jr_iload_n jf_116_22 rfl hl3 ?_
  refine jr_lload_n jf_116_23 rfl hl1 ?_
  refine jr_S3_1 jf_116_24 (by omega) (r_JMath_abs (by omega) _ _ _ rfl) (Nat.le_of_ble_eq_true rfl) jml_25 (Nat.le_of_ble_eq_true rfl) ?_
  replace h := jgd_of h; obtain ⟨hb1, h⟩ := h
  replace h := obd_of h; obtain ⟨x2, hx2, h⟩ := h
  refine jr_V6_3 jf_116_27 hb1 (by omega) (r_Real_packed (by omega) _ _ _ _ _ _ hx2) (Nat.le_of_ble_eq_true rfl) jml_28 (Nat.le_of_ble_eq_true rfl) ?_
  obtain rfl := Option.some.inj h
  exact jr_retJ jf_116_30 jmt_116
set_option maxRecDepth 10000 in
set_option maxHeartbeats 4000000 in
theorem r_Real_scaled_e {B : Nat} {SA : Nat → Nat} {d : Nat} (hd : 2 ≤ d) : ∀ (L : JLoc) (v0 : Nat) (v1 : Int64) (v3 : Int32) (μ : JMem) (r : Int64), jget L 0 = .ref v0 → jget L 1 = .long v1 → jget L 3 = .int v3 → g_Real_scaled v0 v1 v3 μ.1 = some r → jR B SA d m_Real_scaled 0 L [] μ (some (.long r)) μ := by
  intro L v0 v1 v3 μ r hl0 hl1 hl3 h
  unfold g_Real_scaled at h
  refine jr_lload_n jf_116_0 rfl hl1 ?_
  refine jr_lconst0 jf_116_1 ?_
  refine jr_lcmp jf_116_2 ?_
  replace h := ite_or h; rcases h with ⟨hc, h⟩ | ⟨hc, h⟩
  · refine jr_ifl_ne_f jf_116_3 hc ?_
    refine jr_lconst0 jf_116_6 ?_
    refine jr_goto jf_116_7 ?_
    obtain rfl := Option.some.inj h
    exact jr_retJ jf_116_30 jmt_116
  · refine jr_ifl_ne_t jf_116_3 hc ?_
    refine jr_aload_n jf_116_10 rfl hl0 ?_
    refine jr_lload_n jf_116_11 rfl hl1 ?_
    refine jr_lconst0 jf_116_12 ?_
    refine jr_lcmp jf_116_13 ?_
    replace h := ite_or h; rcases h with ⟨hc, h⟩ | ⟨hc, h⟩
    · refine jr_ifl_ge_t jf_116_14 hc ?_
      refine jr_iconst jf_116_21 jc_i_0 ?_
      exact r_Real_scaled_22 hd _ _ _ false _ _ _ hl1 hl3 h
    · refine jr_ifl_ge_f jf_116_14 hc ?_
      refine jr_iconst jf_116_17 jc_i_1 ?_
      refine jr_goto jf_116_18 ?_
      exact r_Real_scaled_22 hd _ _ _ true _ _ _ hl1 hl3 h
set_option maxRecDepth 10000 in
set_option maxHeartbeats 4000000 in
theorem r_Real_scaled {B : Nat} {SA : Nat → Nat} {d : Nat} (hd : 2 ≤ d) : ∀ (v0 : Nat) (v1 : Int64) (v3 : Int32) (μ : JMem) (r : Int64), g_Real_scaled v0 v1 v3 μ.1 = some r → jR B SA d m_Real_scaled 0 (lv_args 0 [.ref v0, .long v1, .int v3]) [] μ (some (.long r)) μ := by
  intro v0 v1 v3 μ r h
  exact r_Real_scaled_e hd (lv_args 0 _) _ _ _ _ _ (by simp [lv_args, jget, rv_cat, cat_int, cat_long, cat_double, cat_float, cat_ref]) (by simp [lv_args, jget, rv_cat, cat_int, cat_long, cat_double, cat_float, cat_ref]) (by simp [lv_args, jget, rv_cat, cat_int, cat_long, cat_double, cat_float, cat_ref]) h
/-! FilterBench$Real.sample(I)J -/
set_option maxRecDepth 10000 in
set_option maxHeartbeats 4000000 in
theorem r_Real_sample_e {B : Nat} {SA : Nat → Nat} {d : Nat} (hd : 3 ≤ d) : ∀ (L : JLoc) (v0 : Nat) (v1 : Int32) (μ : JMem) (r : Int64), jget L 0 = .ref v0 → jget L 1 = .int v1 → g_Real_sample v0 v1 μ.1 = some r → jR B SA d m_Real_sample 0 L [] μ (some (.long r)) μ := by
  intro L v0 v1 μ r hl0 hl1 h
  unfold g_Real_sample at h
  refine jr_aload_n jf_115_0 rfl hl0 ?_
  refine jr_iload_n jf_115_1 rfl hl1 ?_
  refine jr_i2l jf_115_2 ?_
  refine jr_bipush jf_115_3 jc_b_m8 ?_
  replace h := jgd_of h; obtain ⟨hb1, h⟩ := h
  replace h := obd_of h; obtain ⟨x2, hx2, h⟩ := h
  refine jr_V6_2 jf_115_5 hb1 (by omega) (r_Real_scaled (by omega) _ _ _ _ _ hx2) (Nat.le_of_ble_eq_true rfl) jml_116 (Nat.le_of_ble_eq_true rfl) ?_
  obtain rfl := Option.some.inj h
  exact jr_retJ jf_115_8 jmt_115
set_option maxRecDepth 10000 in
set_option maxHeartbeats 4000000 in
theorem r_Real_sample {B : Nat} {SA : Nat → Nat} {d : Nat} (hd : 3 ≤ d) : ∀ (v0 : Nat) (v1 : Int32) (μ : JMem) (r : Int64), g_Real_sample v0 v1 μ.1 = some r → jR B SA d m_Real_sample 0 (lv_args 0 [.ref v0, .int v1]) [] μ (some (.long r)) μ := by
  intro v0 v1 μ r h
  exact r_Real_sample_e hd (lv_args 0 _) _ _ _ _ (by simp [lv_args, jget, rv_cat, cat_int, cat_long, cat_double, cat_float, cat_ref]) (by simp [lv_args, jget, rv_cat, cat_int, cat_long, cat_double, cat_float, cat_ref]) h
/-! FilterBench$Shorts.sample(I)J -/
set_option maxRecDepth 10000 in
set_option maxHeartbeats 4000000 in
theorem r_Shorts_sample_e {B : Nat} {SA : Nat → Nat} {d : Nat} (hd : 0 ≤ d) : ∀ (L : JLoc) (v1 : Int32) (μ : JMem) (r : Int64), jget L 1 = .int v1 → g_Shorts_sample_e v1 = r → jR B SA d m_Shorts_sample 0 L [] μ (some (.long r)) μ := by
  intro L v1 μ r hl1 h
  unfold g_Shorts_sample_e at h
  refine jr_iload_n jf_117_0 rfl hl1 ?_
  refine jr_i2l jf_117_1 ?_
  subst h
  exact jr_retJ jf_117_2 jmt_117
set_option maxRecDepth 10000 in
set_option maxHeartbeats 4000000 in
theorem r_Shorts_sample {B : Nat} {SA : Nat → Nat} {d : Nat} (hd : 0 ≤ d) : ∀ (v0 : Nat) (v1 : Int32) (μ : JMem) (r : Int64), g_Shorts_sample v0 v1 = r → jR B SA d m_Shorts_sample 0 (lv_args 0 [.ref v0, .int v1]) [] μ (some (.long r)) μ := by
  intro v0 v1 μ r h
  exact r_Shorts_sample_e hd (lv_args 0 _) _ _ _ (by simp [lv_args, jget, rv_cat, cat_int, cat_long, cat_double, cat_float, cat_ref]) h
/-! FilterBench.run(III)I -/
set_option maxRecDepth 10000 in
set_option maxHeartbeats 4000000 in
theorem r_B_run_52 {N M B : Nat} {SA : Nat → Nat} {d : Nat} (hd : M + 7 ≤ d) : ∀ (n : Nat), ∀ (L : JLoc) (v2 : Int32) (v4 : Nat) (v5 : Nat) (v6 : Int32) (v7 : Int32) (v8 : Int32) (μ : JMem) (r : Int32) (μ9 : JMem), jget L 2 = .int v2 → jget L 4 = .ref v4 → jget L 5 = .ref v5 → jget L 6 = .int v6 → jget L 7 = .int v7 → jget L 8 = .int v8 → g_B_run_52 N M B n v2 v4 v5 v6 v7 v8 μ = some (r, μ9) → jR B SA d m_B_run 52 L [] μ (some (.int r)) μ9 := by
  intro n
  induction n with
  | zero =>
    intro L v2 v4 v5 v6 v7 v8 μ r μ9 hl2 hl4 hl5 hl6 hl7 hl8 h
    unfold g_B_run_52 at h
    cases h
  | succ n ih =>
    intro L v2 v4 v5 v6 v7 v8 μ r μ9 hl2 hl4 hl5 hl6 hl7 hl8 h
    unfold g_B_run_52 at h
    refine jr_iload jf_114_52 hl8 ?_
    refine jr_iload_n jf_114_54 rfl hl2 ?_
    replace h := ite_or h; rcases h with ⟨hc, h⟩ | ⟨hc, h⟩
    · refine jr_if2_ge_t jf_114_55 hc ?_
      refine jr_iload jf_114_95 hl6 ?_
      obtain ⟨rfl, rfl⟩ := Prod.mk.inj (Option.some.inj h)
      exact jr_retI jf_114_97 jmt_114
    · refine jr_if2_ge_f jf_114_55 hc ?_
      refine jr_iload jf_114_58 hl6 ?_
      refine jr_aload jf_114_60 hl4 ?_
      refine jr_iconst jf_114_62 jc_i_0 ?_
      refine jr_aload jf_114_63 hl5 ?_
      refine jr_iload jf_114_65 hl7 ?_
      refine jr_i2s jf_114_67 ?_
      replace h := obd_of h; obtain ⟨x1, hx1, h⟩ := h
      rcases ite_or hx1 with ⟨hb, hx⟩ | ⟨hb0, hx⟩
      · refine jr_V8a_1 jf_114_68 hb (by omega) (r_Real_sample (by omega) _ _ _ _ hx) (Nat.le_of_ble_eq_true rfl) jml_115 (Nat.le_of_ble_eq_true rfl) ?_
        refine jr_iconst jf_114_71 jc_i_0 ?_
        replace h := jbd2_of h; obtain ⟨x2, μ3, hx2, h⟩ := h
        refine jr_S3_4 jf_114_72 (by omega) (r_B_send M _ (by omega) _ _ _ _ _ _ _ hx2) (Nat.le_of_ble_eq_true rfl) jml_64 (by simp only [jcats_cons, jcats_nil, cat_int, cat_long, cat_double, cat_float, cat_ref, rv_cat]; decide) ?_
        refine jr_iadd jf_114_75 ?_
        refine jr_istore jf_114_76 jml_114 (by decide) ?_
        refine jr_iload jf_114_78 (jg1_ne rfl hl7) ?_
        refine jr_ldc jf_114_80 ?_
        refine jr_imul jf_114_82 ?_
        refine jr_sipush jf_114_83 jc_s_12345 ?_
        refine jr_iadd jf_114_86 ?_
        refine jr_istore jf_114_87 jml_114 (by decide) ?_
        replace h := jlet_of h
        refine jr_iinc jf_114_89 jc_i_1 jml_114 (by decide) (jg1_ne rfl (jg1_ne rfl hl8)) ?_
        refine jr_goto jf_114_92 ?_
        exact ih _ _ _ _ _ _ _ _ _ _ (jg1_ne rfl (jg1_ne rfl (jg1_ne rfl hl2))) (jg1_ne rfl (jg1_ne rfl (jg1_ne rfl hl4))) (jg1_ne rfl (jg1_ne rfl (jg1_pre (by first | rfl | exact rv_cat _) hl5))) (jg1_ne rfl (jg1_pre rfl jg1_same)) (jg1_pre rfl jg1_same) jg1_same h
      · obtain ⟨hb, hx⟩ := jgd_of hx
        obtain hx := Option.some.inj hx
        refine jr_V8b_1 jf_114_68 hb0 hb (by omega) (r_Shorts_sample (by omega) _ _ _ _ hx) (Nat.le_of_ble_eq_true rfl) jml_117 (Nat.le_of_ble_eq_true rfl) ?_
        refine jr_iconst jf_114_71 jc_i_0 ?_
        replace h := jbd2_of h; obtain ⟨x2, μ3, hx2, h⟩ := h
        refine jr_S3_4 jf_114_72 (by omega) (r_B_send M _ (by omega) _ _ _ _ _ _ _ hx2) (Nat.le_of_ble_eq_true rfl) jml_64 (by simp only [jcats_cons, jcats_nil, cat_int, cat_long, cat_double, cat_float, cat_ref, rv_cat]; decide) ?_
        refine jr_iadd jf_114_75 ?_
        refine jr_istore jf_114_76 jml_114 (by decide) ?_
        refine jr_iload jf_114_78 (jg1_ne rfl hl7) ?_
        refine jr_ldc jf_114_80 ?_
        refine jr_imul jf_114_82 ?_
        refine jr_sipush jf_114_83 jc_s_12345 ?_
        refine jr_iadd jf_114_86 ?_
        refine jr_istore jf_114_87 jml_114 (by decide) ?_
        replace h := jlet_of h
        refine jr_iinc jf_114_89 jc_i_1 jml_114 (by decide) (jg1_ne rfl (jg1_ne rfl hl8)) ?_
        refine jr_goto jf_114_92 ?_
        exact ih _ _ _ _ _ _ _ _ _ _ (jg1_ne rfl (jg1_ne rfl (jg1_ne rfl hl2))) (jg1_ne rfl (jg1_ne rfl (jg1_ne rfl hl4))) (jg1_ne rfl (jg1_ne rfl (jg1_pre (by first | rfl | exact rv_cat _) hl5))) (jg1_ne rfl (jg1_pre rfl jg1_same)) (jg1_pre rfl jg1_same) jg1_same h
set_option maxRecDepth 10000 in
set_option maxHeartbeats 4000000 in
theorem r_B_run_e {N M B : Nat} {SA : Nat → Nat} {d : Nat} (hd : M + 7 ≤ d) : ∀ (L : JLoc) (v0 : Nat) (v1 : Int32) (v2 : Int32) (v3 : Int32) (μ : JMem) (r : Int32) (μ9 : JMem), jget L 0 = .ref v0 → jget L 1 = .int v1 → jget L 2 = .int v2 → jget L 3 = .int v3 → g_B_run N M B v0 v1 v2 v3 μ = some (r, μ9) → jR B SA d m_B_run 0 L [] μ (some (.int r)) μ9 := by
  intro L v0 v1 v2 v3 μ r μ9 hl0 hl1 hl2 hl3 h
  unfold g_B_run at h
  refine jr_aload_n jf_114_0 rfl hl0 ?_
  refine jr_iload_n jf_114_1 rfl hl1 ?_
  replace h := jgd_of h; obtain ⟨hb1, h⟩ := h
  replace h := obd_of h; obtain ⟨x2, hx2, h⟩ := h
  refine jr_V6_1 jf_114_2 hb1 (by omega) (r_B_fedAlone (by omega) _ _ _ _ hx2) (Nat.le_of_ble_eq_true rfl) jml_63 (Nat.le_of_ble_eq_true rfl) ?_
  refine jr_astore_A jf_114_5 jml_114 (by decide) ?_
  refine jr_aload_A jf_114_7 jg1_same ?_
  replace h := jon_or h; rcases h with ⟨rfl, h⟩ | ⟨a3, rfl, h⟩
  · refine jr_ifnull_n jf_114_9 ?_
    refine jr_iconst jf_114_23 jc_i_m1 ?_
    obtain ⟨rfl, rfl⟩ := Prod.mk.inj (Option.some.inj h)
    exact jr_retI jf_114_24 jmt_114
  · refine jr_ifnull_s jf_114_9 ?_
    refine jr_iload_n jf_114_12 rfl (jg1_ne rfl hl2) ?_
    refine jr_iconst jf_114_13 jc_i_1 ?_
    replace h := ite_or h; rcases h with ⟨hc, h⟩ | ⟨hc, h⟩
    · refine jr_if2_lt_t jf_114_14 hc ?_
      refine jr_iconst jf_114_23 jc_i_m1 ?_
      obtain ⟨rfl, rfl⟩ := Prod.mk.inj (Option.some.inj h)
      exact jr_retI jf_114_24 jmt_114
    · refine jr_if2_lt_f jf_114_14 hc ?_
      refine jr_iload_n jf_114_17 rfl (jg1_ne rfl hl2) ?_
      refine jr_bipush jf_114_18 jc_b_100 ?_
      replace h := ite_or h; rcases h with ⟨hc, h⟩ | ⟨hc, h⟩
      · refine jr_if2_le_t jf_114_20 hc ?_
        refine jr_aload_n jf_114_25 rfl (jg1_ne rfl hl0) ?_
        refine jr_aload jf_114_26 jg1_same ?_
        replace h := jgd_of h; obtain ⟨hb4, h⟩ := h
        replace h := obd_of h; obtain ⟨x5, hx5, h⟩ := h
        refine jr_V6_0 jf_114_28 hb4 (by omega) (r_Chain_sort (by omega) _ _ _ hx5) (Nat.le_of_ble_eq_true rfl) jml_49 (Nat.le_of_ble_eq_true rfl) ?_
        replace h := jgd_of h; obtain ⟨hb6, h⟩ := h
        replace h := obd_of h; obtain ⟨x7, hx7, h⟩ := h
        refine jr_V6_1 jf_114_31 hb6 (by omega) (r_B_numbersOf (by omega) _ _ _ _ hx7) (Nat.le_of_ble_eq_true rfl) jml_6 (Nat.le_of_ble_eq_true rfl) ?_
        refine jr_astore_A jf_114_34 jml_114 (by decide) ?_
        refine jr_aload_A jf_114_36 jg1_same ?_
        replace h := jon_or h; rcases h with ⟨rfl, h⟩ | ⟨a8, rfl, h⟩
        · refine jr_ifnonnull_n jf_114_38 ?_
          refine jr_iconst jf_114_41 jc_i_m1 ?_
          obtain ⟨rfl, rfl⟩ := Prod.mk.inj (Option.some.inj h)
          exact jr_retI jf_114_42 jmt_114
        · refine jr_ifnonnull_s jf_114_38 ?_
          refine jr_iconst jf_114_43 jc_i_0 ?_
          refine jr_istore jf_114_44 jml_114 (by decide) ?_
          refine jr_iload_n jf_114_46 rfl (jg1_ne rfl (jg1_ne rfl (jg1_pre rfl hl3))) ?_
          refine jr_istore jf_114_47 jml_114 (by decide) ?_
          refine jr_iconst jf_114_49 jc_i_0 ?_
          refine jr_istore jf_114_50 jml_114 (by decide) ?_
          exact r_B_run_52 hd _ _ _ _ _ _ _ _ _ _ _ (jg1_ne rfl (jg1_ne rfl (jg1_ne rfl (jg1_ne rfl (jg1_ne rfl hl2))))) (jg1_ne rfl (jg1_ne rfl (jg1_ne rfl (jg1_pre (by first | rfl | exact rv_cat _) jg1_same)))) (jg1_ne rfl (jg1_ne rfl (jg1_pre (by first | rfl | exact rv_cat _) jg1_same))) (jg1_ne rfl (jg1_pre rfl jg1_same)) (jg1_pre rfl jg1_same) jg1_same h
      · refine jr_if2_le_f jf_114_20 hc ?_
        refine jr_iconst jf_114_23 jc_i_m1 ?_
        obtain ⟨rfl, rfl⟩ := Prod.mk.inj (Option.some.inj h)
        exact jr_retI jf_114_24 jmt_114
set_option maxRecDepth 10000 in
set_option maxHeartbeats 4000000 in
theorem r_B_run {N M B : Nat} {SA : Nat → Nat} {d : Nat} (hd : M + 7 ≤ d) : ∀ (v0 : Nat) (v1 : Int32) (v2 : Int32) (v3 : Int32) (μ : JMem) (r : Int32) (μ9 : JMem), g_B_run N M B v0 v1 v2 v3 μ = some (r, μ9) → jR B SA d m_B_run 0 (lv_args 0 [.ref v0, .int v1, .int v2, .int v3]) [] μ (some (.int r)) μ9 := by
  intro v0 v1 v2 v3 μ r μ9 h
  exact r_B_run_e hd (lv_args 0 _) _ _ _ _ _ _ _ (by simp [lv_args, jget, rv_cat, cat_int, cat_long, cat_double, cat_float, cat_ref]) (by simp [lv_args, jget, rv_cat, cat_int, cat_long, cat_double, cat_float, cat_ref]) (by simp [lv_args, jget, rv_cat, cat_int, cat_long, cat_double, cat_float, cat_ref]) (by simp [lv_args, jget, rv_cat, cat_int, cat_long, cat_double, cat_float, cat_ref]) h
/-! FilterBench$Chain.madeAs(I)J -/
set_option maxRecDepth 10000 in
set_option maxHeartbeats 4000000 in
theorem r_Chain_madeAs_12 {B : Nat} {SA : Nat → Nat} {d : Nat} (hd : 1 ≤ d) : ∀ (L : JLoc) (μ : JMem) (r : Int64), g_Chain_madeAs_12 μ.1 = some r → jR B SA d m_Chain_madeAs 12 L [] μ (some (.long r)) μ := by
  intro L μ r h
  unfold g_Chain_madeAs_12 at h
  refine jr_lconst0 jf_119_12 ?_
  refine jr_goto jf_119_13 ?_
  obtain rfl := Option.some.inj h
  exact jr_retJ jf_119_28 jmt_119
set_option maxRecDepth 10000 in
set_option maxHeartbeats 4000000 in
theorem r_Chain_madeAs_e {B : Nat} {SA : Nat → Nat} {d : Nat} (hd : 1 ≤ d) : ∀ (L : JLoc) (v0 : Nat) (v1 : Int32) (μ : JMem) (r : Int64), jget L 0 = .ref v0 → jget L 1 = .int v1 → g_Chain_madeAs v0 v1 μ.1 = some r → jR B SA d m_Chain_madeAs 0 L [] μ (some (.long r)) μ := by
  intro L v0 v1 μ r hl0 hl1 h
  unfold g_Chain_madeAs at h
  refine jr_iload_n jf_119_0 rfl hl1 ?_
  replace h := ite_or h; rcases h with ⟨hc, h⟩ | ⟨hc, h⟩
  · refine jr_if_lt_t jf_119_1 hc ?_
    exact r_Chain_madeAs_12 hd _  _ _ h
  · refine jr_if_lt_f jf_119_1 hc ?_
    refine jr_iload_n jf_119_4 rfl hl1 ?_
    refine jr_aload_n jf_119_5 rfl hl0 ?_
    replace h := obd_of h; obtain ⟨x1, hx1, h⟩ := h
    refine jr_getI jf_119_6 hx1 ?_
    replace h := ite_or h; rcases h with ⟨hc, h⟩ | ⟨hc, h⟩
    · refine jr_if2_lt_t jf_119_9 hc ?_
      refine jr_aload_n jf_119_16 rfl hl0 ?_
      refine jr_aload_n jf_119_17 rfl hl0 ?_
      replace h := obd_of h; obtain ⟨x2, hx2, h⟩ := h
      refine jr_getI jf_119_18 hx2 ?_
      refine jr_iconst jf_119_21 jc_i_1 ?_
      refine jr_isub jf_119_22 ?_
      refine jr_iload_n jf_119_23 rfl hl1 ?_
      refine jr_isub jf_119_24 ?_
      replace h := jgd_of h; obtain ⟨hb3, h⟩ := h
      replace h := obd_of h; obtain ⟨x4, hx4, h⟩ := h
      refine jr_V6_1 jf_119_25 hb3 (by omega) (r_Chain_madeBefore (by omega) _ _ _ _ hx4) (Nat.le_of_ble_eq_true rfl) jml_85 (Nat.le_of_ble_eq_true rfl) ?_
      obtain rfl := Option.some.inj h
      exact jr_retJ jf_119_28 jmt_119
    · refine jr_if2_lt_f jf_119_9 hc ?_
      exact r_Chain_madeAs_12 hd _  _ _ h
set_option maxRecDepth 10000 in
set_option maxHeartbeats 4000000 in
theorem r_Chain_madeAs {B : Nat} {SA : Nat → Nat} {d : Nat} (hd : 1 ≤ d) : ∀ (v0 : Nat) (v1 : Int32) (μ : JMem) (r : Int64), g_Chain_madeAs v0 v1 μ.1 = some r → jR B SA d m_Chain_madeAs 0 (lv_args 0 [.ref v0, .int v1]) [] μ (some (.long r)) μ := by
  intro v0 v1 μ r h
  exact r_Chain_madeAs_e hd (lv_args 0 _) _ _ _ _ (by simp [lv_args, jget, rv_cat, cat_int, cat_long, cat_double, cat_float, cat_ref]) (by simp [lv_args, jget, rv_cat, cat_int, cat_long, cat_double, cat_float, cat_ref]) h
/-! FilterBench.output(II)J -/
set_option maxRecDepth 10000 in
set_option maxHeartbeats 4000000 in
theorem r_B_output_e {B : Nat} {SA : Nat → Nat} {d : Nat} (hd : 2 ≤ d) : ∀ (L : JLoc) (v0 : Nat) (v1 : Int32) (v2 : Int32) (μ : JMem) (r : Int64), jget L 0 = .ref v0 → jget L 1 = .int v1 → jget L 2 = .int v2 → g_B_output v0 v1 v2 μ.1 = some r → jR B SA d m_B_output 0 L [] μ (some (.long r)) μ := by
  intro L v0 v1 v2 μ r hl0 hl1 hl2 h
  unfold g_B_output at h
  refine jr_aload_n jf_118_0 rfl hl0 ?_
  refine jr_iload_n jf_118_1 rfl hl1 ?_
  replace h := jgd_of h; obtain ⟨hb1, h⟩ := h
  replace h := obd_of h; obtain ⟨x2, hx2, h⟩ := h
  refine jr_V6_1 jf_118_2 hb1 (by omega) (r_B_chainAt (by omega) _ _ _ _ hx2) (Nat.le_of_ble_eq_true rfl) jml_48 (Nat.le_of_ble_eq_true rfl) ?_
  refine jr_astore_n_A jf_118_5 rfl jml_118 (by decide) ?_
  refine jr_aload_n_A jf_118_6 rfl jg1_same ?_
  replace h := jon_or h; rcases h with ⟨rfl, h⟩ | ⟨a3, rfl, h⟩
  · refine jr_ifnonnull_n jf_118_7 ?_
    refine jr_lconst0 jf_118_10 ?_
    refine jr_goto jf_118_11 ?_
    obtain rfl := Option.some.inj h
    exact jr_retJ jf_118_19 jmt_118
  · refine jr_ifnonnull_s jf_118_7 ?_
    refine jr_aload_n jf_118_14 rfl jg1_same ?_
    refine jr_iload_n jf_118_15 rfl (jg1_pre rfl hl2) ?_
    replace h := jgd_of h; obtain ⟨hb4, h⟩ := h
    replace h := obd_of h; obtain ⟨x5, hx5, h⟩ := h
    refine jr_V6_1 jf_118_16 hb4 (by omega) (r_Chain_madeAs (by omega) _ _ _ _ hx5) (Nat.le_of_ble_eq_true rfl) jml_119 (Nat.le_of_ble_eq_true rfl) ?_
    obtain rfl := Option.some.inj h
    exact jr_retJ jf_118_19 jmt_118
set_option maxRecDepth 10000 in
set_option maxHeartbeats 4000000 in
theorem r_B_output {B : Nat} {SA : Nat → Nat} {d : Nat} (hd : 2 ≤ d) : ∀ (v0 : Nat) (v1 : Int32) (v2 : Int32) (μ : JMem) (r : Int64), g_B_output v0 v1 v2 μ.1 = some r → jR B SA d m_B_output 0 (lv_args 0 [.ref v0, .int v1, .int v2]) [] μ (some (.long r)) μ := by
  intro v0 v1 v2 μ r h
  exact r_B_output_e hd (lv_args 0 _) _ _ _ _ _ (by simp [lv_args, jget, rv_cat, cat_int, cat_long, cat_double, cat_float, cat_ref]) (by simp [lv_args, jget, rv_cat, cat_int, cat_long, cat_double, cat_float, cat_ref]) (by simp [lv_args, jget, rv_cat, cat_int, cat_long, cat_double, cat_float, cat_ref]) h
/-! FilterBench$Chain.greatestSize(LFilterBench$Numbers;)J -/
set_option maxRecDepth 10000 in
set_option maxHeartbeats 4000000 in
theorem r_Chain_greatestSize_43 {N B : Nat} {SA : Nat → Nat} {d : Nat} (hd : 3 ≤ d) {k10 : Nat → Option Nat → Int64 → Int32 → (Nat → Option JCell) → Option Int64} (i10 : ∀ (L : JLoc) (v0 : Nat) (v1 : Option Nat) (v2 : Int64) (v4 : Int32) (μ : JMem) (r : Int64), jget L 0 = .ref v0 → jget L 1 = rv v1 → jget L 2 = .long v2 → jget L 4 = .int v4 → k10 v0 v1 v2 v4 μ.1 = some r → jR B SA d m_Chain_greatestSize 10 L [] μ (some (.long r)) μ) : ∀ (L : JLoc) (v0 : Nat) (v1 : Nat) (v4 : Int32) (s0 : Int64) (μ : JMem) (r : Int64), jget L 0 = .ref v0 → jget L 1 = .ref v1 → jget L 4 = .int v4 → g_Chain_greatestSize_43 N k10 v0 v1 v4 s0 μ.1 = some r → jR B SA d m_Chain_greatestSize 43 L [.long s0] μ (some (.long r)) μ := by
  intro L v0 v1 v4 s0 μ r hl0 hl1 hl4 h
  unfold g_Chain_greatestSize_43 at h
  refine jr_lstore_n jf_121_43 rfl jml_121 (by decide) ?_
  refine jr_iinc jf_121_44 jc_i_m1 jml_121 (by decide) (jg2_ne rfl hl4) ?_
  refine jr_goto jf_121_47 ?_
  exact i10 _ _ (some _) _ _ _ _ (jg1_ne rfl (jg2_ne rfl hl0)) (jg1_ne rfl (jg2_pre (by first | rfl | exact rv_cat _) hl1)) (jg1_ne rfl jg2_same) jg1_same h
set_option maxRecDepth 10000 in
set_option maxHeartbeats 4000000 in
theorem r_Chain_greatestSize_10 {N B : Nat} {SA : Nat → Nat} {d : Nat} (hd : 3 ≤ d) : ∀ (n : Nat), ∀ (L : JLoc) (v0 : Nat) (v1 : Option Nat) (v2 : Int64) (v4 : Int32) (μ : JMem) (r : Int64), jget L 0 = .ref v0 → jget L 1 = rv v1 → jget L 2 = .long v2 → jget L 4 = .int v4 → g_Chain_greatestSize_10 N n v0 v1 v2 v4 μ.1 = some r → jR B SA d m_Chain_greatestSize 10 L [] μ (some (.long r)) μ := by
  intro n
  induction n with
  | zero =>
    intro L v0 v1 v2 v4 μ r hl0 hl1 hl2 hl4 h
    unfold g_Chain_greatestSize_10 at h
    cases h
  | succ n ih =>
    intro L v0 v1 v2 v4 μ r hl0 hl1 hl2 hl4 h
    unfold g_Chain_greatestSize_10 at h
    refine jr_iload jf_121_10 hl4 ?_
    replace h := ite_or h; rcases h with ⟨hc, h⟩ | ⟨hc, h⟩
    · refine jr_if_lt_t jf_121_12 hc ?_
      refine jr_lload_n jf_121_50 rfl hl2 ?_
      obtain rfl := Option.some.inj h
      exact jr_retJ jf_121_51 jmt_121
    · refine jr_if_lt_f jf_121_12 hc ?_
      refine jr_aload_n_A jf_121_15 rfl hl1 ?_
      refine jr_aload_n jf_121_16 rfl hl0 ?_
      refine jr_iload jf_121_17 hl4 ?_
      replace h := jgd_of h; obtain ⟨hb1, h⟩ := h
      replace h := obd_of h; obtain ⟨x2, hx2, h⟩ := h
      refine jr_V6_1 jf_121_19 hb1 (by omega) (r_Chain_madeBefore (by omega) _ _ _ _ hx2) (by simp only [jcats_cons, jcats_nil, cat_int, cat_long, cat_double, cat_float, cat_ref, rv_cat]; decide) jml_85 (Nat.le_of_ble_eq_true rfl) ?_
      replace h := obd_of h; obtain ⟨a3, rfl, h⟩ := h
      replace h := obd_of h; obtain ⟨x4, hx4, h⟩ := h
      rcases ite_or hx4 with ⟨hb, hx⟩ | ⟨hb0, hx⟩
      · refine jr_V8a_1 jf_121_22 hb (by omega) (r_Real_sizeOf (by omega) _ _ _ _ hx) (Nat.le_of_ble_eq_true rfl) jml_31 (Nat.le_of_ble_eq_true rfl) ?_
        refine jr_lstore jf_121_25 jml_121 (by decide) ?_
        refine jr_aload_n jf_121_27 rfl (jg2_ne rfl hl1) ?_
        refine jr_lload jf_121_28 jg2_same ?_
        refine jr_lload_n jf_121_30 rfl (jg2_ne rfl hl2) ?_
        replace h := obd_of h; obtain ⟨x5, hx5, h⟩ := h
        rcases ite_or hx5 with ⟨hb, hx⟩ | ⟨hb0, hx⟩
        · refine jr_V9a_2 jf_121_31 hb (by omega) (r_Numbers_above (by omega) _ _ _ _ _ hx) (Nat.le_of_ble_eq_true rfl) jml_103 (Nat.le_of_ble_eq_true rfl) ?_
          replace h := ite_or h; rcases h with ⟨hc, h⟩ | ⟨hc, h⟩
          · refine jr_ifz_eq_f jf_121_34 hc ?_
            refine jr_lload jf_121_37 jg2_same ?_
            refine jr_goto jf_121_39 ?_
            exact r_Chain_greatestSize_43 hd ih _ _ _ _ _ _ _ (jg2_ne rfl hl0) (jg2_ne rfl hl1) (jg2_pre rfl hl4) h
          · refine jr_ifz_eq_t jf_121_34 hc ?_
            refine jr_lload_n jf_121_42 rfl (jg2_ne rfl hl2) ?_
            exact r_Chain_greatestSize_43 hd ih _ _ _ _ _ _ _ (jg2_ne rfl hl0) (jg2_ne rfl hl1) (jg2_pre rfl hl4) h
        · obtain ⟨hb, hx⟩ := jgd_of hx
          refine jr_V9b_2 jf_121_31 hb0 hb (by omega) (r_Numbers_above (by omega) _ _ _ _ _ hx) (Nat.le_of_ble_eq_true rfl) jml_103 (Nat.le_of_ble_eq_true rfl) ?_
          replace h := ite_or h; rcases h with ⟨hc, h⟩ | ⟨hc, h⟩
          · refine jr_ifz_eq_f jf_121_34 hc ?_
            refine jr_lload jf_121_37 jg2_same ?_
            refine jr_goto jf_121_39 ?_
            exact r_Chain_greatestSize_43 hd ih _ _ _ _ _ _ _ (jg2_ne rfl hl0) (jg2_ne rfl hl1) (jg2_pre rfl hl4) h
          · refine jr_ifz_eq_t jf_121_34 hc ?_
            refine jr_lload_n jf_121_42 rfl (jg2_ne rfl hl2) ?_
            exact r_Chain_greatestSize_43 hd ih _ _ _ _ _ _ _ (jg2_ne rfl hl0) (jg2_ne rfl hl1) (jg2_pre rfl hl4) h
      · obtain ⟨hb, hx⟩ := jgd_of hx
        refine jr_V8b_1 jf_121_22 hb0 hb (by omega) (r_Shorts_sizeOf (by omega) _ _ _ _ hx) (Nat.le_of_ble_eq_true rfl) jml_110 (Nat.le_of_ble_eq_true rfl) ?_
        refine jr_lstore jf_121_25 jml_121 (by decide) ?_
        refine jr_aload_n jf_121_27 rfl (jg2_ne rfl hl1) ?_
        refine jr_lload jf_121_28 jg2_same ?_
        refine jr_lload_n jf_121_30 rfl (jg2_ne rfl hl2) ?_
        replace h := obd_of h; obtain ⟨x5, hx5, h⟩ := h
        rcases ite_or hx5 with ⟨hb, hx⟩ | ⟨hb0, hx⟩
        · refine jr_V9a_2 jf_121_31 hb (by omega) (r_Numbers_above (by omega) _ _ _ _ _ hx) (Nat.le_of_ble_eq_true rfl) jml_103 (Nat.le_of_ble_eq_true rfl) ?_
          replace h := ite_or h; rcases h with ⟨hc, h⟩ | ⟨hc, h⟩
          · refine jr_ifz_eq_f jf_121_34 hc ?_
            refine jr_lload jf_121_37 jg2_same ?_
            refine jr_goto jf_121_39 ?_
            exact r_Chain_greatestSize_43 hd ih _ _ _ _ _ _ _ (jg2_ne rfl hl0) (jg2_ne rfl hl1) (jg2_pre rfl hl4) h
          · refine jr_ifz_eq_t jf_121_34 hc ?_
            refine jr_lload_n jf_121_42 rfl (jg2_ne rfl hl2) ?_
            exact r_Chain_greatestSize_43 hd ih _ _ _ _ _ _ _ (jg2_ne rfl hl0) (jg2_ne rfl hl1) (jg2_pre rfl hl4) h
        · obtain ⟨hb, hx⟩ := jgd_of hx
          refine jr_V9b_2 jf_121_31 hb0 hb (by omega) (r_Numbers_above (by omega) _ _ _ _ _ hx) (Nat.le_of_ble_eq_true rfl) jml_103 (Nat.le_of_ble_eq_true rfl) ?_
          replace h := ite_or h; rcases h with ⟨hc, h⟩ | ⟨hc, h⟩
          · refine jr_ifz_eq_f jf_121_34 hc ?_
            refine jr_lload jf_121_37 jg2_same ?_
            refine jr_goto jf_121_39 ?_
            exact r_Chain_greatestSize_43 hd ih _ _ _ _ _ _ _ (jg2_ne rfl hl0) (jg2_ne rfl hl1) (jg2_pre rfl hl4) h
          · refine jr_ifz_eq_t jf_121_34 hc ?_
            refine jr_lload_n jf_121_42 rfl (jg2_ne rfl hl2) ?_
            exact r_Chain_greatestSize_43 hd ih _ _ _ _ _ _ _ (jg2_ne rfl hl0) (jg2_ne rfl hl1) (jg2_pre rfl hl4) h
set_option maxRecDepth 10000 in
set_option maxHeartbeats 4000000 in
theorem r_Chain_greatestSize_e {N B : Nat} {SA : Nat → Nat} {d : Nat} (hd : 3 ≤ d) : ∀ (L : JLoc) (v0 : Nat) (v1 : Option Nat) (μ : JMem) (r : Int64), jget L 0 = .ref v0 → jget L 1 = rv v1 → g_Chain_greatestSize N v0 v1 μ.1 = some r → jR B SA d m_Chain_greatestSize 0 L [] μ (some (.long r)) μ := by
  intro L v0 v1 μ r hl0 hl1 h
  unfold g_Chain_greatestSize at h
  refine jr_lconst0 jf_121_0 ?_
  refine jr_lstore_n jf_121_1 rfl jml_121 (by decide) ?_
  refine jr_aload_n jf_121_2 rfl (jg2_ne rfl hl0) ?_
  replace h := obd_of h; obtain ⟨x1, hx1, h⟩ := h
  refine jr_getI jf_121_3 hx1 ?_
  refine jr_iconst jf_121_6 jc_i_1 ?_
  refine jr_isub jf_121_7 ?_
  refine jr_istore jf_121_8 jml_121 (by decide) ?_
  exact r_Chain_greatestSize_10 hd _ _ _ _ _ _ _ _ (jg1_ne rfl (jg2_ne rfl hl0)) (jg1_ne rfl (jg2_pre (by first | rfl | exact rv_cat _) hl1)) (jg1_ne rfl jg2_same) jg1_same h
set_option maxRecDepth 10000 in
set_option maxHeartbeats 4000000 in
theorem r_Chain_greatestSize {N B : Nat} {SA : Nat → Nat} {d : Nat} (hd : 3 ≤ d) : ∀ (v0 : Nat) (v1 : Option Nat) (μ : JMem) (r : Int64), g_Chain_greatestSize N v0 v1 μ.1 = some r → jR B SA d m_Chain_greatestSize 0 (lv_args 0 [.ref v0, rv v1]) [] μ (some (.long r)) μ := by
  intro v0 v1 μ r h
  exact r_Chain_greatestSize_e hd (lv_args 0 _) _ _ _ _ (by simp [lv_args, jget, rv_cat, cat_int, cat_long, cat_double, cat_float, cat_ref]) (by simp [lv_args, jget, rv_cat, cat_int, cat_long, cat_double, cat_float, cat_ref]) h
/-! java/lang/Math.max(II)I -/
set_option maxRecDepth 10000 in
set_option maxHeartbeats 4000000 in
theorem r_JMath_max_e {B : Nat} {SA : Nat → Nat} {d : Nat} (hd : 0 ≤ d) : ∀ (L : JLoc) (v0 : Int32) (v1 : Int32) (μ : JMem) (r : Int32), jget L 0 = .int v0 → jget L 1 = .int v1 → g_JMath_max v0 v1 = r → jR B SA d m_JMath_max 0 L [] μ (some (.int r)) μ := by
  intro L v0 v1 μ r hl0 hl1 h
  unfold g_JMath_max at h
  refine jr_iload_n jf_124_0 rfl hl0 ?_
  refine jr_iload_n jf_124_1 rfl hl1 ?_
  replace h := ite_or h; rcases h with ⟨hc, h⟩ | ⟨hc, h⟩
  · refine jr_if2_lt_t jf_124_2 hc ?_
    refine jr_iload_n jf_124_9 rfl hl1 ?_
    subst h
    exact jr_retI jf_124_10 jmt_124
  · refine jr_if2_lt_f jf_124_2 hc ?_
    refine jr_iload_n jf_124_5 rfl hl0 ?_
    refine jr_goto jf_124_6 ?_
    subst h
    exact jr_retI jf_124_10 jmt_124
set_option maxRecDepth 10000 in
set_option maxHeartbeats 4000000 in
theorem r_JMath_max {B : Nat} {SA : Nat → Nat} {d : Nat} (hd : 0 ≤ d) : ∀ (v0 : Int32) (v1 : Int32) (μ : JMem) (r : Int32), g_JMath_max v0 v1 = r → jR B SA d m_JMath_max 0 (lv_args 0 [.int v0, .int v1]) [] μ (some (.int r)) μ := by
  intro v0 v1 μ r h
  exact r_JMath_max_e hd (lv_args 0 _) _ _ _ _ (by simp [lv_args, jget, rv_cat, cat_int, cat_long, cat_double, cat_float, cat_ref]) (by simp [lv_args, jget, rv_cat, cat_int, cat_long, cat_double, cat_float, cat_ref]) h
/-! FilterBench$Chain.longestSilence(LFilterBench$Numbers;)I -/
set_option maxRecDepth 10000 in
set_option maxHeartbeats 4000000 in
theorem r_Chain_longestSilence_51 {N B : Nat} {SA : Nat → Nat} {d : Nat} (hd : 2 ≤ d) {k12 : Nat → Option Nat → Int32 → Int32 → Int32 → (Nat → Option JCell) → Option Int32} (i12 : ∀ (L : JLoc) (v0 : Nat) (v1 : Option Nat) (v2 : Int32) (v3 : Int32) (v4 : Int32) (μ : JMem) (r : Int32), jget L 0 = .ref v0 → jget L 1 = rv v1 → jget L 2 = .int v2 → jget L 3 = .int v3 → jget L 4 = .int v4 → k12 v0 v1 v2 v3 v4 μ.1 = some r → jR B SA d m_Chain_longestSilence 12 L [] μ (some (.int r)) μ) : ∀ (L : JLoc) (v0 : Nat) (v1 : Nat) (v2 : Int32) (v4 : Int32) (s0 : Int32) (μ : JMem) (r : Int32), jget L 0 = .ref v0 → jget L 1 = .ref v1 → jget L 2 = .int v2 → jget L 4 = .int v4 → g_Chain_longestSilence_51 N k12 v0 v1 v2 v4 s0 μ.1 = some r → jR B SA d m_Chain_longestSilence 51 L [.int s0] μ (some (.int r)) μ := by
  intro L v0 v1 v2 v4 s0 μ r hl0 hl1 hl2 hl4 h
  unfold g_Chain_longestSilence_51 at h
  refine jr_istore_n jf_123_51 rfl jml_123 (by decide) ?_
  refine jr_iload_n jf_123_52 rfl (jg1_pre rfl hl2) ?_
  refine jr_iload_n jf_123_53 rfl jg1_same ?_
  refine jr_S3_2 jf_123_54 (by omega) (r_JMath_max (by omega) _ _ _ _ rfl) (Nat.le_of_ble_eq_true rfl) jml_124 (Nat.le_of_ble_eq_true rfl) ?_
  refine jr_istore_n jf_123_57 rfl jml_123 (by decide) ?_
  refine jr_iinc jf_123_58 jc_i_m1 jml_123 (by decide) (jg1_ne rfl (jg1_ne rfl hl4)) ?_
  refine jr_goto jf_123_61 ?_
  exact i12 _ _ (some _) _ _ _ _ _ (jg1_ne rfl (jg1_ne rfl (jg1_ne rfl hl0))) (jg1_ne rfl (jg1_pre (by first | rfl | exact rv_cat _) (jg1_ne rfl hl1))) (jg1_ne rfl jg1_same) (jg1_pre rfl (jg1_ne rfl jg1_same)) jg1_same h
set_option maxRecDepth 10000 in
set_option maxHeartbeats 4000000 in
theorem r_Chain_longestSilence_50 {N B : Nat} {SA : Nat → Nat} {d : Nat} (hd : 2 ≤ d) {k12 : Nat → Option Nat → Int32 → Int32 → Int32 → (Nat → Option JCell) → Option Int32} (i12 : ∀ (L : JLoc) (v0 : Nat) (v1 : Option Nat) (v2 : Int32) (v3 : Int32) (v4 : Int32) (μ : JMem) (r : Int32), jget L 0 = .ref v0 → jget L 1 = rv v1 → jget L 2 = .int v2 → jget L 3 = .int v3 → jget L 4 = .int v4 → k12 v0 v1 v2 v3 v4 μ.1 = some r → jR B SA d m_Chain_longestSilence 12 L [] μ (some (.int r)) μ) : ∀ (L : JLoc) (v0 : Nat) (v1 : Nat) (v2 : Int32) (v4 : Int32) (μ : JMem) (r : Int32), jget L 0 = .ref v0 → jget L 1 = .ref v1 → jget L 2 = .int v2 → jget L 4 = .int v4 → g_Chain_longestSilence_50 N k12 v0 v1 v2 v4 μ.1 = some r → jR B SA d m_Chain_longestSilence 50 L [] μ (some (.int r)) μ := by
  intro L v0 v1 v2 v4 μ r hl0 hl1 hl2 hl4 h
  unfold g_Chain_longestSilence_50 at h
  refine jr_iconst jf_123_50 jc_i_0 ?_
  exact r_Chain_longestSilence_51 hd i12 _ _ _ _ _ _ _ _ hl0 hl1 hl2 hl4 h
set_option maxRecDepth 10000 in
set_option maxHeartbeats 4000000 in
theorem r_Chain_longestSilence_12 {N B : Nat} {SA : Nat → Nat} {d : Nat} (hd : 2 ≤ d) : ∀ (n : Nat), ∀ (L : JLoc) (v0 : Nat) (v1 : Option Nat) (v2 : Int32) (v3 : Int32) (v4 : Int32) (μ : JMem) (r : Int32), jget L 0 = .ref v0 → jget L 1 = rv v1 → jget L 2 = .int v2 → jget L 3 = .int v3 → jget L 4 = .int v4 → g_Chain_longestSilence_12 N n v0 v1 v2 v3 v4 μ.1 = some r → jR B SA d m_Chain_longestSilence 12 L [] μ (some (.int r)) μ := by
  intro n
  induction n with
  | zero =>
    intro L v0 v1 v2 v3 v4 μ r hl0 hl1 hl2 hl3 hl4 h
    unfold g_Chain_longestSilence_12 at h
    cases h
  | succ n ih =>
    intro L v0 v1 v2 v3 v4 μ r hl0 hl1 hl2 hl3 hl4 h
    unfold g_Chain_longestSilence_12 at h
    refine jr_iload jf_123_12 hl4 ?_
    replace h := ite_or h; rcases h with ⟨hc, h⟩ | ⟨hc, h⟩
    · refine jr_if_lt_t jf_123_14 hc ?_
      refine jr_iload_n jf_123_64 rfl hl2 ?_
      obtain rfl := Option.some.inj h
      exact jr_retI jf_123_65 jmt_123
    · refine jr_if_lt_f jf_123_14 hc ?_
      refine jr_aload_n jf_123_17 rfl hl0 ?_
      refine jr_iload jf_123_18 hl4 ?_
      replace h := jgd_of h; obtain ⟨hb1, h⟩ := h
      replace h := obd_of h; obtain ⟨x2, hx2, h⟩ := h
      refine jr_V6_1 jf_123_20 hb1 (by omega) (r_Chain_madeBefore (by omega) _ _ _ _ hx2) (Nat.le_of_ble_eq_true rfl) jml_85 (Nat.le_of_ble_eq_true rfl) ?_
      refine jr_lstore jf_123_23 jml_123 (by decide) ?_
      refine jr_aload_n_A jf_123_25 rfl (jg2_ne rfl hl1) ?_
      refine jr_lload jf_123_26 jg2_same ?_
      replace h := obd_of h; obtain ⟨a3, rfl, h⟩ := h
      replace h := obd_of h; obtain ⟨x4, hx4, h⟩ := h
      rcases ite_or hx4 with ⟨hb, hx⟩ | ⟨hb0, hx⟩
      · refine jr_V8a_1 jf_123_28 hb (by omega) (r_Real_isNumber (by omega) _ _ _ _ hx) (Nat.le_of_ble_eq_true rfl) jml_18 (Nat.le_of_ble_eq_true rfl) ?_
        replace h := ite_or h; rcases h with ⟨hc, h⟩ | ⟨hc, h⟩
        · refine jr_ifz_eq_f jf_123_31 hc ?_
          refine jr_aload_n jf_123_34 rfl (jg2_ne rfl hl1) ?_
          refine jr_lload jf_123_35 jg2_same ?_
          refine jr_lconst0 jf_123_37 ?_
          replace h := obd_of h; obtain ⟨x5, hx5, h⟩ := h
          rcases ite_or hx5 with ⟨hb, hx⟩ | ⟨hb0, hx⟩
          · refine jr_V8a_2 jf_123_38 hb (by omega) (r_Real_compared (by omega) _ _ _ _ _ hx) (Nat.le_of_ble_eq_true rfl) jml_105 (Nat.le_of_ble_eq_true rfl) ?_
            replace h := ite_or h; rcases h with ⟨hc, h⟩ | ⟨hc, h⟩
            · refine jr_if_ne_f jf_123_41 hc ?_
              refine jr_iload_n jf_123_44 rfl (jg2_ne rfl hl3) ?_
              refine jr_iconst jf_123_45 jc_i_1 ?_
              refine jr_iadd jf_123_46 ?_
              refine jr_goto jf_123_47 ?_
              exact r_Chain_longestSilence_51 hd ih _ _ _ _ _ _ _ _ (jg2_ne rfl hl0) (jg2_ne rfl hl1) (jg2_ne rfl hl2) (jg2_pre rfl hl4) h
            · refine jr_if_ne_t jf_123_41 hc ?_
              exact r_Chain_longestSilence_50 hd ih _ _ _ _ _ _ _ (jg2_ne rfl hl0) (jg2_ne rfl hl1) (jg2_ne rfl hl2) (jg2_pre rfl hl4) h
          · obtain ⟨hb, hx⟩ := jgd_of hx
            obtain hx := Option.some.inj hx
            refine jr_V8b_2 jf_123_38 hb0 hb (by omega) (r_Shorts_compared (by omega) _ _ _ _ _ hx) (Nat.le_of_ble_eq_true rfl) jml_107 (Nat.le_of_ble_eq_true rfl) ?_
            replace h := ite_or h; rcases h with ⟨hc, h⟩ | ⟨hc, h⟩
            · refine jr_if_ne_f jf_123_41 hc ?_
              refine jr_iload_n jf_123_44 rfl (jg2_ne rfl hl3) ?_
              refine jr_iconst jf_123_45 jc_i_1 ?_
              refine jr_iadd jf_123_46 ?_
              refine jr_goto jf_123_47 ?_
              exact r_Chain_longestSilence_51 hd ih _ _ _ _ _ _ _ _ (jg2_ne rfl hl0) (jg2_ne rfl hl1) (jg2_ne rfl hl2) (jg2_pre rfl hl4) h
            · refine jr_if_ne_t jf_123_41 hc ?_
              exact r_Chain_longestSilence_50 hd ih _ _ _ _ _ _ _ (jg2_ne rfl hl0) (jg2_ne rfl hl1) (jg2_ne rfl hl2) (jg2_pre rfl hl4) h
        · refine jr_ifz_eq_t jf_123_31 hc ?_
          exact r_Chain_longestSilence_50 hd ih _ _ _ _ _ _ _ (jg2_ne rfl hl0) (jg2_ne rfl hl1) (jg2_ne rfl hl2) (jg2_pre rfl hl4) h
      · obtain ⟨hb, hx⟩ := jgd_of hx
        obtain hx := Option.some.inj hx
        refine jr_V8b_1 jf_123_28 hb0 hb (by omega) (r_Shorts_isNumber (by omega) _ _ _ _ hx) (Nat.le_of_ble_eq_true rfl) jml_104 (Nat.le_of_ble_eq_true rfl) ?_
        replace h := ite_or h; rcases h with ⟨hc, h⟩ | ⟨hc, h⟩
        · refine jr_ifz_eq_f jf_123_31 hc ?_
          refine jr_aload_n jf_123_34 rfl (jg2_ne rfl hl1) ?_
          refine jr_lload jf_123_35 jg2_same ?_
          refine jr_lconst0 jf_123_37 ?_
          replace h := obd_of h; obtain ⟨x5, hx5, h⟩ := h
          rcases ite_or hx5 with ⟨hb, hx⟩ | ⟨hb0, hx⟩
          · refine jr_V8a_2 jf_123_38 hb (by omega) (r_Real_compared (by omega) _ _ _ _ _ hx) (Nat.le_of_ble_eq_true rfl) jml_105 (Nat.le_of_ble_eq_true rfl) ?_
            replace h := ite_or h; rcases h with ⟨hc, h⟩ | ⟨hc, h⟩
            · refine jr_if_ne_f jf_123_41 hc ?_
              refine jr_iload_n jf_123_44 rfl (jg2_ne rfl hl3) ?_
              refine jr_iconst jf_123_45 jc_i_1 ?_
              refine jr_iadd jf_123_46 ?_
              refine jr_goto jf_123_47 ?_
              exact r_Chain_longestSilence_51 hd ih _ _ _ _ _ _ _ _ (jg2_ne rfl hl0) (jg2_ne rfl hl1) (jg2_ne rfl hl2) (jg2_pre rfl hl4) h
            · refine jr_if_ne_t jf_123_41 hc ?_
              exact r_Chain_longestSilence_50 hd ih _ _ _ _ _ _ _ (jg2_ne rfl hl0) (jg2_ne rfl hl1) (jg2_ne rfl hl2) (jg2_pre rfl hl4) h
          · obtain ⟨hb, hx⟩ := jgd_of hx
            obtain hx := Option.some.inj hx
            refine jr_V8b_2 jf_123_38 hb0 hb (by omega) (r_Shorts_compared (by omega) _ _ _ _ _ hx) (Nat.le_of_ble_eq_true rfl) jml_107 (Nat.le_of_ble_eq_true rfl) ?_
            replace h := ite_or h; rcases h with ⟨hc, h⟩ | ⟨hc, h⟩
            · refine jr_if_ne_f jf_123_41 hc ?_
              refine jr_iload_n jf_123_44 rfl (jg2_ne rfl hl3) ?_
              refine jr_iconst jf_123_45 jc_i_1 ?_
              refine jr_iadd jf_123_46 ?_
              refine jr_goto jf_123_47 ?_
              exact r_Chain_longestSilence_51 hd ih _ _ _ _ _ _ _ _ (jg2_ne rfl hl0) (jg2_ne rfl hl1) (jg2_ne rfl hl2) (jg2_pre rfl hl4) h
            · refine jr_if_ne_t jf_123_41 hc ?_
              exact r_Chain_longestSilence_50 hd ih _ _ _ _ _ _ _ (jg2_ne rfl hl0) (jg2_ne rfl hl1) (jg2_ne rfl hl2) (jg2_pre rfl hl4) h
        · refine jr_ifz_eq_t jf_123_31 hc ?_
          exact r_Chain_longestSilence_50 hd ih _ _ _ _ _ _ _ (jg2_ne rfl hl0) (jg2_ne rfl hl1) (jg2_ne rfl hl2) (jg2_pre rfl hl4) h
set_option maxRecDepth 10000 in
set_option maxHeartbeats 4000000 in
theorem r_Chain_longestSilence_e {N B : Nat} {SA : Nat → Nat} {d : Nat} (hd : 2 ≤ d) : ∀ (L : JLoc) (v0 : Nat) (v1 : Option Nat) (μ : JMem) (r : Int32), jget L 0 = .ref v0 → jget L 1 = rv v1 → g_Chain_longestSilence N v0 v1 μ.1 = some r → jR B SA d m_Chain_longestSilence 0 L [] μ (some (.int r)) μ := by
  intro L v0 v1 μ r hl0 hl1 h
  unfold g_Chain_longestSilence at h
  refine jr_iconst jf_123_0 jc_i_0 ?_
  refine jr_istore_n jf_123_1 rfl jml_123 (by decide) ?_
  refine jr_iconst jf_123_2 jc_i_0 ?_
  refine jr_istore_n jf_123_3 rfl jml_123 (by decide) ?_
  refine jr_aload_n jf_123_4 rfl (jg1_ne rfl (jg1_ne rfl hl0)) ?_
  replace h := obd_of h; obtain ⟨x1, hx1, h⟩ := h
  refine jr_getI jf_123_5 hx1 ?_
  refine jr_iconst jf_123_8 jc_i_1 ?_
  refine jr_isub jf_123_9 ?_
  refine jr_istore jf_123_10 jml_123 (by decide) ?_
  exact r_Chain_longestSilence_12 hd _ _ _ _ _ _ _ _ _ (jg1_ne rfl (jg1_ne rfl (jg1_ne rfl hl0))) (jg1_ne rfl (jg1_ne rfl (jg1_pre (by first | rfl | exact rv_cat _) hl1))) (jg1_ne rfl (jg1_pre rfl jg1_same)) (jg1_pre rfl jg1_same) jg1_same h
set_option maxRecDepth 10000 in
set_option maxHeartbeats 4000000 in
theorem r_Chain_longestSilence {N B : Nat} {SA : Nat → Nat} {d : Nat} (hd : 2 ≤ d) : ∀ (v0 : Nat) (v1 : Option Nat) (μ : JMem) (r : Int32), g_Chain_longestSilence N v0 v1 μ.1 = some r → jR B SA d m_Chain_longestSilence 0 (lv_args 0 [.ref v0, rv v1]) [] μ (some (.int r)) μ := by
  intro v0 v1 μ r h
  exact r_Chain_longestSilence_e hd (lv_args 0 _) _ _ _ _ (by simp [lv_args, jget, rv_cat, cat_int, cat_long, cat_double, cat_float, cat_ref]) (by simp [lv_args, jget, rv_cat, cat_int, cat_long, cat_double, cat_float, cat_ref]) h
/-! FilterBench$Chain.signChanges(LFilterBench$Numbers;)I -/
set_option maxRecDepth 10000 in
set_option maxHeartbeats 4000000 in
theorem r_Chain_signChanges_73 {N B : Nat} {SA : Nat → Nat} {d : Nat} (hd : 2 ≤ d) {k12 : Nat → Option Nat → Int32 → Int32 → Int32 → (Nat → Option JCell) → Option Int32} (i12 : ∀ (L : JLoc) (v0 : Nat) (v1 : Option Nat) (v2 : Int32) (v3 : Int32) (v4 : Int32) (μ : JMem) (r : Int32), jget L 0 = .ref v0 → jget L 1 = rv v1 → jget L 2 = .int v2 → jget L 3 = .int v3 → jget L 4 = .int v4 → k12 v0 v1 v2 v3 v4 μ.1 = some r → jR B SA d m_Chain_signChanges 12 L [] μ (some (.int r)) μ) : ∀ (L : JLoc) (v0 : Nat) (v1 : Nat) (v2 : Int32) (v4 : Int32) (s0 : Int32) (μ : JMem) (r : Int32), jget L 0 = .ref v0 → jget L 1 = .ref v1 → jget L 2 = .int v2 → jget L 4 = .int v4 → g_Chain_signChanges_73 N k12 v0 v1 v2 v4 s0 μ.1 = some r → jR B SA d m_Chain_signChanges 73 L [.int s0] μ (some (.int r)) μ := by
  intro L v0 v1 v2 v4 s0 μ r hl0 hl1 hl2 hl4 h
  unfold g_Chain_signChanges_73 at h
  refine jr_istore_n jf_122_73 rfl jml_122 (by decide) ?_
  refine jr_iinc jf_122_74 jc_i_m1 jml_122 (by decide) (jg1_ne rfl hl4) ?_
  refine jr_goto jf_122_77 ?_
  exact i12 _ _ (some _) _ _ _ _ _ (jg1_ne rfl (jg1_ne rfl hl0)) (jg1_ne rfl (jg1_ne rfl hl1)) (jg1_ne rfl (jg1_pre rfl hl2)) (jg1_pre rfl jg1_same) jg1_same h
set_option maxRecDepth 10000 in
set_option maxHeartbeats 4000000 in
theorem r_Chain_signChanges_60 {N B : Nat} {SA : Nat → Nat} {d : Nat} (hd : 2 ≤ d) {k12 : Nat → Option Nat → Int32 → Int32 → Int32 → (Nat → Option JCell) → Option Int32} (i12 : ∀ (L : JLoc) (v0 : Nat) (v1 : Option Nat) (v2 : Int32) (v3 : Int32) (v4 : Int32) (μ : JMem) (r : Int32), jget L 0 = .ref v0 → jget L 1 = rv v1 → jget L 2 = .int v2 → jget L 3 = .int v3 → jget L 4 = .int v4 → k12 v0 v1 v2 v3 v4 μ.1 = some r → jR B SA d m_Chain_signChanges 12 L [] μ (some (.int r)) μ) : ∀ (L : JLoc) (v0 : Nat) (v1 : Nat) (v3 : Int32) (v4 : Int32) (v7 : Int32) (s0 : Bool) (s1 : Int32) (μ : JMem) (r : Int32), jget L 0 = .ref v0 → jget L 1 = .ref v1 → jget L 3 = .int v3 → jget L 4 = .int v4 → jget L 7 = .int v7 → g_Chain_signChanges_60 N k12 v0 v1 v3 v4 v7 s0 s1 μ.1 = some r → jR B SA d m_Chain_signChanges 60 L [.int (jb s0), .int s1] μ (some (.int r)) μ := by
  intro L v0 v1 v3 v4 v7 s0 s1 μ r hl0 hl1 hl3 hl4 hl7 h
  unfold g_Chain_signChanges_60 at h
  refine jr_iadd jf_122_60 ?_
  refine jr_istore_n jf_122_61 rfl jml_122 (by decide) ?_
  refine jr_iload jf_122_62 (jg1_ne rfl hl7) ?_
  replace h := ite_or h; rcases h with ⟨hc, h⟩ | ⟨hc, h⟩
  · refine jr_if_ne_f jf_122_64 hc ?_
    refine jr_iload_n jf_122_67 rfl (jg1_ne rfl hl3) ?_
    refine jr_goto jf_122_68 ?_
    exact r_Chain_signChanges_73 hd i12 _ _ _ _ _ _ _ _ (jg1_ne rfl hl0) (jg1_pre (by first | rfl | exact rv_cat _) hl1) jg1_same (jg1_ne rfl hl4) h
  · refine jr_if_ne_t jf_122_64 hc ?_
    refine jr_iload jf_122_71 (jg1_ne rfl hl7) ?_
    exact r_Chain_signChanges_73 hd i12 _ _ _ _ _ _ _ _ (jg1_ne rfl hl0) (jg1_pre (by first | rfl | exact rv_cat _) hl1) jg1_same (jg1_ne rfl hl4) h
set_option maxRecDepth 10000 in
set_option maxHeartbeats 4000000 in
theorem r_Chain_signChanges_45 {N B : Nat} {SA : Nat → Nat} {d : Nat} (hd : 2 ≤ d) {k12 : Nat → Option Nat → Int32 → Int32 → Int32 → (Nat → Option JCell) → Option Int32} (i12 : ∀ (L : JLoc) (v0 : Nat) (v1 : Option Nat) (v2 : Int32) (v3 : Int32) (v4 : Int32) (μ : JMem) (r : Int32), jget L 0 = .ref v0 → jget L 1 = rv v1 → jget L 2 = .int v2 → jget L 3 = .int v3 → jget L 4 = .int v4 → k12 v0 v1 v2 v3 v4 μ.1 = some r → jR B SA d m_Chain_signChanges 12 L [] μ (some (.int r)) μ) : ∀ (L : JLoc) (v0 : Nat) (v1 : Nat) (v2 : Int32) (v3 : Int32) (v4 : Int32) (s0 : Int32) (μ : JMem) (r : Int32), jget L 0 = .ref v0 → jget L 1 = .ref v1 → jget L 2 = .int v2 → jget L 3 = .int v3 → jget L 4 = .int v4 → g_Chain_signChanges_45 N k12 v0 v1 v2 v3 v4 s0 μ.1 = some r → jR B SA d m_Chain_signChanges 45 L [.int s0] μ (some (.int r)) μ := by
  intro L v0 v1 v2 v3 v4 s0 μ r hl0 hl1 hl2 hl3 hl4 h
  unfold g_Chain_signChanges_45 at h
  refine jr_istore jf_122_45 jml_122 (by decide) ?_
  refine jr_iload_n jf_122_47 rfl (jg1_ne rfl hl2) ?_
  refine jr_iload jf_122_48 jg1_same ?_
  refine jr_iload_n jf_122_50 rfl (jg1_ne rfl hl3) ?_
  refine jr_imul jf_122_51 ?_
  replace h := ite_or h; rcases h with ⟨hc, h⟩ | ⟨hc, h⟩
  · refine jr_if_ge_t jf_122_52 hc ?_
    refine jr_iconst jf_122_59 jc_i_0 ?_
    exact r_Chain_signChanges_60 hd i12 _ _ _ _ _ _ false _ _ _ (jg1_ne rfl hl0) (jg1_ne rfl hl1) (jg1_ne rfl hl3) (jg1_ne rfl hl4) jg1_same h
  · refine jr_if_ge_f jf_122_52 hc ?_
    refine jr_iconst jf_122_55 jc_i_1 ?_
    refine jr_goto jf_122_56 ?_
    exact r_Chain_signChanges_60 hd i12 _ _ _ _ _ _ true _ _ _ (jg1_ne rfl hl0) (jg1_ne rfl hl1) (jg1_ne rfl hl3) (jg1_ne rfl hl4) jg1_same h
set_option maxRecDepth 10000 in
set_option maxHeartbeats 4000000 in
theorem r_Chain_signChanges_12 {N B : Nat} {SA : Nat → Nat} {d : Nat} (hd : 2 ≤ d) : ∀ (n : Nat), ∀ (L : JLoc) (v0 : Nat) (v1 : Option Nat) (v2 : Int32) (v3 : Int32) (v4 : Int32) (μ : JMem) (r : Int32), jget L 0 = .ref v0 → jget L 1 = rv v1 → jget L 2 = .int v2 → jget L 3 = .int v3 → jget L 4 = .int v4 → g_Chain_signChanges_12 N n v0 v1 v2 v3 v4 μ.1 = some r → jR B SA d m_Chain_signChanges 12 L [] μ (some (.int r)) μ := by
  intro n
  induction n with
  | zero =>
    intro L v0 v1 v2 v3 v4 μ r hl0 hl1 hl2 hl3 hl4 h
    unfold g_Chain_signChanges_12 at h
    cases h
  | succ n ih =>
    intro L v0 v1 v2 v3 v4 μ r hl0 hl1 hl2 hl3 hl4 h
    unfold g_Chain_signChanges_12 at h
    refine jr_iload jf_122_12 hl4 ?_
    replace h := ite_or h; rcases h with ⟨hc, h⟩ | ⟨hc, h⟩
    · refine jr_if_lt_t jf_122_14 hc ?_
      refine jr_iload_n jf_122_80 rfl hl2 ?_
      obtain rfl := Option.some.inj h
      exact jr_retI jf_122_81 jmt_122
    · refine jr_if_lt_f jf_122_14 hc ?_
      refine jr_aload_n jf_122_17 rfl hl0 ?_
      refine jr_iload jf_122_18 hl4 ?_
      replace h := jgd_of h; obtain ⟨hb1, h⟩ := h
      replace h := obd_of h; obtain ⟨x2, hx2, h⟩ := h
      refine jr_V6_1 jf_122_20 hb1 (by omega) (r_Chain_madeBefore (by omega) _ _ _ _ hx2) (Nat.le_of_ble_eq_true rfl) jml_85 (Nat.le_of_ble_eq_true rfl) ?_
      refine jr_lstore jf_122_23 jml_122 (by decide) ?_
      refine jr_aload_n_A jf_122_25 rfl (jg2_ne rfl hl1) ?_
      refine jr_lload jf_122_26 jg2_same ?_
      replace h := obd_of h; obtain ⟨a3, rfl, h⟩ := h
      replace h := obd_of h; obtain ⟨x4, hx4, h⟩ := h
      rcases ite_or hx4 with ⟨hb, hx⟩ | ⟨hb0, hx⟩
      · refine jr_V8a_1 jf_122_28 hb (by omega) (r_Real_isNumber (by omega) _ _ _ _ hx) (Nat.le_of_ble_eq_true rfl) jml_18 (Nat.le_of_ble_eq_true rfl) ?_
        replace h := ite_or h; rcases h with ⟨hc, h⟩ | ⟨hc, h⟩
        · refine jr_ifz_eq_f jf_122_31 hc ?_
          refine jr_aload_n jf_122_34 rfl (jg2_ne rfl hl1) ?_
          refine jr_lload jf_122_35 jg2_same ?_
          refine jr_lconst0 jf_122_37 ?_
          replace h := obd_of h; obtain ⟨x5, hx5, h⟩ := h
          rcases ite_or hx5 with ⟨hb, hx⟩ | ⟨hb0, hx⟩
          · refine jr_V8a_2 jf_122_38 hb (by omega) (r_Real_compared (by omega) _ _ _ _ _ hx) (Nat.le_of_ble_eq_true rfl) jml_105 (Nat.le_of_ble_eq_true rfl) ?_
            refine jr_goto jf_122_41 ?_
            exact r_Chain_signChanges_45 hd ih _ _ _ _ _ _ _ _ _ (jg2_ne rfl hl0) (jg2_ne rfl hl1) (jg2_ne rfl hl2) (jg2_ne rfl hl3) (jg2_pre rfl hl4) h
          · obtain ⟨hb, hx⟩ := jgd_of hx
            obtain hx := Option.some.inj hx
            refine jr_V8b_2 jf_122_38 hb0 hb (by omega) (r_Shorts_compared (by omega) _ _ _ _ _ hx) (Nat.le_of_ble_eq_true rfl) jml_107 (Nat.le_of_ble_eq_true rfl) ?_
            refine jr_goto jf_122_41 ?_
            exact r_Chain_signChanges_45 hd ih _ _ _ _ _ _ _ _ _ (jg2_ne rfl hl0) (jg2_ne rfl hl1) (jg2_ne rfl hl2) (jg2_ne rfl hl3) (jg2_pre rfl hl4) h
        · refine jr_ifz_eq_t jf_122_31 hc ?_
          refine jr_iconst jf_122_44 jc_i_0 ?_
          exact r_Chain_signChanges_45 hd ih _ _ _ _ _ _ _ _ _ (jg2_ne rfl hl0) (jg2_ne rfl hl1) (jg2_ne rfl hl2) (jg2_ne rfl hl3) (jg2_pre rfl hl4) h
      · obtain ⟨hb, hx⟩ := jgd_of hx
        obtain hx := Option.some.inj hx
        refine jr_V8b_1 jf_122_28 hb0 hb (by omega) (r_Shorts_isNumber (by omega) _ _ _ _ hx) (Nat.le_of_ble_eq_true rfl) jml_104 (Nat.le_of_ble_eq_true rfl) ?_
        replace h := ite_or h; rcases h with ⟨hc, h⟩ | ⟨hc, h⟩
        · refine jr_ifz_eq_f jf_122_31 hc ?_
          refine jr_aload_n jf_122_34 rfl (jg2_ne rfl hl1) ?_
          refine jr_lload jf_122_35 jg2_same ?_
          refine jr_lconst0 jf_122_37 ?_
          replace h := obd_of h; obtain ⟨x5, hx5, h⟩ := h
          rcases ite_or hx5 with ⟨hb, hx⟩ | ⟨hb0, hx⟩
          · refine jr_V8a_2 jf_122_38 hb (by omega) (r_Real_compared (by omega) _ _ _ _ _ hx) (Nat.le_of_ble_eq_true rfl) jml_105 (Nat.le_of_ble_eq_true rfl) ?_
            refine jr_goto jf_122_41 ?_
            exact r_Chain_signChanges_45 hd ih _ _ _ _ _ _ _ _ _ (jg2_ne rfl hl0) (jg2_ne rfl hl1) (jg2_ne rfl hl2) (jg2_ne rfl hl3) (jg2_pre rfl hl4) h
          · obtain ⟨hb, hx⟩ := jgd_of hx
            obtain hx := Option.some.inj hx
            refine jr_V8b_2 jf_122_38 hb0 hb (by omega) (r_Shorts_compared (by omega) _ _ _ _ _ hx) (Nat.le_of_ble_eq_true rfl) jml_107 (Nat.le_of_ble_eq_true rfl) ?_
            refine jr_goto jf_122_41 ?_
            exact r_Chain_signChanges_45 hd ih _ _ _ _ _ _ _ _ _ (jg2_ne rfl hl0) (jg2_ne rfl hl1) (jg2_ne rfl hl2) (jg2_ne rfl hl3) (jg2_pre rfl hl4) h
        · refine jr_ifz_eq_t jf_122_31 hc ?_
          refine jr_iconst jf_122_44 jc_i_0 ?_
          exact r_Chain_signChanges_45 hd ih _ _ _ _ _ _ _ _ _ (jg2_ne rfl hl0) (jg2_ne rfl hl1) (jg2_ne rfl hl2) (jg2_ne rfl hl3) (jg2_pre rfl hl4) h
set_option maxRecDepth 10000 in
set_option maxHeartbeats 4000000 in
theorem r_Chain_signChanges_e {N B : Nat} {SA : Nat → Nat} {d : Nat} (hd : 2 ≤ d) : ∀ (L : JLoc) (v0 : Nat) (v1 : Option Nat) (μ : JMem) (r : Int32), jget L 0 = .ref v0 → jget L 1 = rv v1 → g_Chain_signChanges N v0 v1 μ.1 = some r → jR B SA d m_Chain_signChanges 0 L [] μ (some (.int r)) μ := by
  intro L v0 v1 μ r hl0 hl1 h
  unfold g_Chain_signChanges at h
  refine jr_iconst jf_122_0 jc_i_0 ?_
  refine jr_istore_n jf_122_1 rfl jml_122 (by decide) ?_
  refine jr_iconst jf_122_2 jc_i_0 ?_
  refine jr_istore_n jf_122_3 rfl jml_122 (by decide) ?_
  refine jr_aload_n jf_122_4 rfl (jg1_ne rfl (jg1_ne rfl hl0)) ?_
  replace h := obd_of h; obtain ⟨x1, hx1, h⟩ := h
  refine jr_getI jf_122_5 hx1 ?_
  refine jr_iconst jf_122_8 jc_i_1 ?_
  refine jr_isub jf_122_9 ?_
  refine jr_istore jf_122_10 jml_122 (by decide) ?_
  exact r_Chain_signChanges_12 hd _ _ _ _ _ _ _ _ _ (jg1_ne rfl (jg1_ne rfl (jg1_ne rfl hl0))) (jg1_ne rfl (jg1_ne rfl (jg1_pre (by first | rfl | exact rv_cat _) hl1))) (jg1_ne rfl (jg1_pre rfl jg1_same)) (jg1_pre rfl jg1_same) jg1_same h
set_option maxRecDepth 10000 in
set_option maxHeartbeats 4000000 in
theorem r_Chain_signChanges {N B : Nat} {SA : Nat → Nat} {d : Nat} (hd : 2 ≤ d) : ∀ (v0 : Nat) (v1 : Option Nat) (μ : JMem) (r : Int32), g_Chain_signChanges N v0 v1 μ.1 = some r → jR B SA d m_Chain_signChanges 0 (lv_args 0 [.ref v0, rv v1]) [] μ (some (.int r)) μ := by
  intro v0 v1 μ r h
  exact r_Chain_signChanges_e hd (lv_args 0 _) _ _ _ _ (by simp [lv_args, jget, rv_cat, cat_int, cat_long, cat_double, cat_float, cat_ref]) (by simp [lv_args, jget, rv_cat, cat_int, cat_long, cat_double, cat_float, cat_ref]) h
/-! FilterBench.measure(II)J -/
set_option maxRecDepth 10000 in
set_option maxHeartbeats 4000000 in
theorem r_B_measure_e {N B : Nat} {SA : Nat → Nat} {d : Nat} (hd : 4 ≤ d) : ∀ (L : JLoc) (v0 : Nat) (v1 : Int32) (v2 : Int32) (μ : JMem) (r : Int64), jget L 0 = .ref v0 → jget L 1 = .int v1 → jget L 2 = .int v2 → g_B_measure N v0 v1 v2 μ.1 = some r → jR B SA d m_B_measure 0 L [] μ (some (.long r)) μ := by
  intro L v0 v1 v2 μ r hl0 hl1 hl2 h
  unfold g_B_measure at h
  refine jr_aload_n jf_120_0 rfl hl0 ?_
  refine jr_iload_n jf_120_1 rfl hl1 ?_
  replace h := jgd_of h; obtain ⟨hb1, h⟩ := h
  replace h := obd_of h; obtain ⟨x2, hx2, h⟩ := h
  refine jr_V6_1 jf_120_2 hb1 (by omega) (r_B_chainAt (by omega) _ _ _ _ hx2) (Nat.le_of_ble_eq_true rfl) jml_48 (Nat.le_of_ble_eq_true rfl) ?_
  refine jr_astore_n_A jf_120_5 rfl jml_120 (by decide) ?_
  refine jr_aload_n_A jf_120_6 rfl jg1_same ?_
  replace h := jon_or h; rcases h with ⟨rfl, h⟩ | ⟨a3, rfl, h⟩
  · refine jr_ifnonnull_n jf_120_7 ?_
    refine jr_lconst0 jf_120_10 ?_
    obtain rfl := Option.some.inj h
    exact jr_retJ jf_120_11 jmt_120
  · refine jr_ifnonnull_s jf_120_7 ?_
    refine jr_aload_n jf_120_12 rfl (jg1_ne rfl hl0) ?_
    refine jr_aload_n jf_120_13 rfl jg1_same ?_
    replace h := jgd_of h; obtain ⟨hb4, h⟩ := h
    replace h := obd_of h; obtain ⟨x5, hx5, h⟩ := h
    refine jr_V6_0 jf_120_14 hb4 (by omega) (r_Chain_sort (by omega) _ _ _ hx5) (Nat.le_of_ble_eq_true rfl) jml_49 (Nat.le_of_ble_eq_true rfl) ?_
    replace h := jgd_of h; obtain ⟨hb6, h⟩ := h
    replace h := obd_of h; obtain ⟨x7, hx7, h⟩ := h
    refine jr_V6_1 jf_120_17 hb6 (by omega) (r_B_numbersOf (by omega) _ _ _ _ hx7) (Nat.le_of_ble_eq_true rfl) jml_6 (Nat.le_of_ble_eq_true rfl) ?_
    refine jr_astore_A jf_120_20 jml_120 (by decide) ?_
    refine jr_aload_A jf_120_22 jg1_same ?_
    replace h := jon_or h; rcases h with ⟨rfl, h⟩ | ⟨a8, rfl, h⟩
    · refine jr_ifnonnull_n jf_120_24 ?_
      refine jr_lconst0 jf_120_27 ?_
      obtain rfl := Option.some.inj h
      exact jr_retJ jf_120_28 jmt_120
    · refine jr_ifnonnull_s jf_120_24 ?_
      refine jr_iload_n jf_120_29 rfl (jg1_ne rfl (jg1_pre rfl hl2)) ?_
      refine jr_switch jf_120_30 ?_
      replace h := ite_or h; rcases h with ⟨hc, h⟩ | ⟨hc, h⟩
      · refine jsw_hit (by decide) hc ?_
        refine jr_aload_n jf_120_56 rfl (jg1_pre (by first | rfl | exact rv_cat _) jg1_same) ?_
        refine jr_aload jf_120_57 jg1_same ?_
        replace h := jgd_of h; obtain ⟨hb9, h⟩ := h
        replace h := obd_of h; obtain ⟨x10, hx10, h⟩ := h
        refine jr_V6_1 jf_120_59 hb9 (by omega) (r_Chain_greatestSize (by omega) _ _ _ _ hx10) (Nat.le_of_ble_eq_true rfl) jml_121 (by simp only [jcats_cons, jcats_nil, cat_int, cat_long, cat_double, cat_float, cat_ref, rv_cat]; decide) ?_
        obtain rfl := Option.some.inj h
        exact jr_retJ jf_120_62 jmt_120
      · refine jsw_miss (by decide) hc (by decide : (0 : Int) + 1 = 1) ?_
        replace h := ite_or h; rcases h with ⟨hc, h⟩ | ⟨hc, h⟩
        · refine jsw_hit (by decide) hc ?_
          refine jr_aload_n jf_120_63 rfl (jg1_pre (by first | rfl | exact rv_cat _) jg1_same) ?_
          refine jr_aload jf_120_64 jg1_same ?_
          replace h := jgd_of h; obtain ⟨hb11, h⟩ := h
          replace h := obd_of h; obtain ⟨x12, hx12, h⟩ := h
          refine jr_V6_1 jf_120_66 hb11 (by omega) (r_Chain_signChanges (by omega) _ _ _ _ hx12) (Nat.le_of_ble_eq_true rfl) jml_122 (by simp only [jcats_cons, jcats_nil, cat_int, cat_long, cat_double, cat_float, cat_ref, rv_cat]; decide) ?_
          refine jr_i2l jf_120_69 ?_
          obtain rfl := Option.some.inj h
          exact jr_retJ jf_120_70 jmt_120
        · refine jsw_miss (by decide) hc (by decide : (1 : Int) + 1 = 2) ?_
          replace h := ite_or h; rcases h with ⟨hc, h⟩ | ⟨hc, h⟩
          · refine jsw_hit (by decide) hc ?_
            refine jr_aload_n jf_120_71 rfl (jg1_pre (by first | rfl | exact rv_cat _) jg1_same) ?_
            refine jr_aload jf_120_72 jg1_same ?_
            replace h := jgd_of h; obtain ⟨hb13, h⟩ := h
            replace h := obd_of h; obtain ⟨x14, hx14, h⟩ := h
            refine jr_V6_1 jf_120_74 hb13 (by omega) (r_Chain_longestSilence (by omega) _ _ _ _ hx14) (Nat.le_of_ble_eq_true rfl) jml_123 (by simp only [jcats_cons, jcats_nil, cat_int, cat_long, cat_double, cat_float, cat_ref, rv_cat]; decide) ?_
            refine jr_i2l jf_120_77 ?_
            obtain rfl := Option.some.inj h
            exact jr_retJ jf_120_78 jmt_120
          · refine jsw_miss (by decide) hc (by decide : (2 : Int) + 1 = 3) ?_
            refine jsw_end ?_
            refine jr_lconst0 jf_120_79 ?_
            obtain rfl := Option.some.inj h
            exact jr_retJ jf_120_80 jmt_120
set_option maxRecDepth 10000 in
set_option maxHeartbeats 4000000 in
theorem r_B_measure {N B : Nat} {SA : Nat → Nat} {d : Nat} (hd : 4 ≤ d) : ∀ (v0 : Nat) (v1 : Int32) (v2 : Int32) (μ : JMem) (r : Int64), g_B_measure N v0 v1 v2 μ.1 = some r → jR B SA d m_B_measure 0 (lv_args 0 [.ref v0, .int v1, .int v2]) [] μ (some (.long r)) μ := by
  intro v0 v1 v2 μ r h
  exact r_B_measure_e hd (lv_args 0 _) _ _ _ _ _ (by simp [lv_args, jget, rv_cat, cat_int, cat_long, cat_double, cat_float, cat_ref]) (by simp [lv_args, jget, rv_cat, cat_int, cat_long, cat_double, cat_float, cat_ref]) (by simp [lv_args, jget, rv_cat, cat_int, cat_long, cat_double, cat_float, cat_ref]) h
/-! FilterBench.gathered(LFilterBench$Chain;I)I -/
set_option maxRecDepth 10000 in
set_option maxHeartbeats 4000000 in
theorem r_B_gathered_e {B : Nat} {SA : Nat → Nat} {d : Nat} (hd : 0 ≤ d) : ∀ (L : JLoc) (v0 : Nat) (v1 : Option Nat) (v2 : Int32) (μ : JMem) (r : Int32) (μ9 : JMem), jget L 0 = .ref v0 → jget L 1 = rv v1 → jget L 2 = .int v2 → g_B_gathered B v0 v1 v2 μ = some (r, μ9) → jR B SA d m_B_gathered 0 L [] μ (some (.int r)) μ9 := by
  intro L v0 v1 v2 μ r μ9 hl0 hl1 hl2 h
  unfold g_B_gathered at h
  refine jr_aload_n_A jf_127_0 rfl hl1 ?_
  replace h := jon_or h; rcases h with ⟨rfl, h⟩ | ⟨a1, rfl, h⟩
  · refine jr_ifnull_n jf_127_1 ?_
    refine jr_iload_n jf_127_17 rfl hl2 ?_
    obtain ⟨rfl, rfl⟩ := Prod.mk.inj (Option.some.inj h)
    exact jr_retI jf_127_18 jmt_127
  · refine jr_ifnull_s jf_127_1 ?_
    refine jr_iload_n jf_127_4 rfl hl2 ?_
    replace h := ite_or h; rcases h with ⟨hc, h⟩ | ⟨hc, h⟩
    · refine jr_if_lt_t jf_127_5 hc ?_
      refine jr_iload_n jf_127_17 rfl hl2 ?_
      obtain ⟨rfl, rfl⟩ := Prod.mk.inj (Option.some.inj h)
      exact jr_retI jf_127_18 jmt_127
    · refine jr_if_lt_f jf_127_5 hc ?_
      refine jr_iload_n jf_127_8 rfl hl2 ?_
      refine jr_aload_n jf_127_9 rfl hl0 ?_
      replace h := obd_of h; obtain ⟨x2, hx2, h⟩ := h
      refine jr_getA jf_127_10 hx2 ?_
      replace h := obd_of h; obtain ⟨a3, rfl, h⟩ := h
      replace h := obd_of h; obtain ⟨x4, hx4, h⟩ := h
      refine jr_arraylength jf_127_13 hx4 ?_
      replace h := ite_or h; rcases h with ⟨hc, h⟩ | ⟨hc, h⟩
      · refine jr_if2_lt_t jf_127_14 hc ?_
        refine jr_aload_n jf_127_19 rfl hl0 ?_
        replace h := obd_of h; obtain ⟨x5, hx5, h⟩ := h
        refine jr_getA jf_127_20 hx5 ?_
        refine jr_iload_n jf_127_23 rfl hl2 ?_
        refine jr_aload_n jf_127_24 rfl hl1 ?_
        replace h := obd_of h; obtain ⟨a6, rfl, h⟩ := h
        replace h := obd_of h; obtain ⟨μ7, hμ7, h⟩ := h
        refine jr_aastore jf_127_25 hμ7 ?_
        refine jr_iload_n jf_127_26 rfl hl2 ?_
        refine jr_iconst jf_127_27 jc_i_1 ?_
        refine jr_iadd jf_127_28 ?_
        obtain ⟨rfl, rfl⟩ := Prod.mk.inj (Option.some.inj h)
        exact jr_retI jf_127_29 jmt_127
      · refine jr_if2_lt_f jf_127_14 hc ?_
        refine jr_iload_n jf_127_17 rfl hl2 ?_
        obtain ⟨rfl, rfl⟩ := Prod.mk.inj (Option.some.inj h)
        exact jr_retI jf_127_18 jmt_127
set_option maxRecDepth 10000 in
set_option maxHeartbeats 4000000 in
theorem r_B_gathered {B : Nat} {SA : Nat → Nat} {d : Nat} (hd : 0 ≤ d) : ∀ (v0 : Nat) (v1 : Option Nat) (v2 : Int32) (μ : JMem) (r : Int32) (μ9 : JMem), g_B_gathered B v0 v1 v2 μ = some (r, μ9) → jR B SA d m_B_gathered 0 (lv_args 0 [.ref v0, rv v1, .int v2]) [] μ (some (.int r)) μ9 := by
  intro v0 v1 v2 μ r μ9 h
  exact r_B_gathered_e hd (lv_args 0 _) _ _ _ _ _ _ (by simp [lv_args, jget, rv_cat, cat_int, cat_long, cat_double, cat_float, cat_ref]) (by simp [lv_args, jget, rv_cat, cat_int, cat_long, cat_double, cat_float, cat_ref]) (by simp [lv_args, jget, rv_cat, cat_int, cat_long, cat_double, cat_float, cat_ref]) h
/-! FilterBench.gather(LFilterBench$Chain;)I -/
set_option maxRecDepth 10000 in
set_option maxHeartbeats 4000000 in
theorem r_B_gather_77 {N B : Nat} {SA : Nat → Nat} {d : Nat} (hd : 1 ≤ d) {k9 : Nat → Int32 → Int32 → JMem → Option (Int32 × JMem)} (i9 : ∀ (L : JLoc) (v0 : Nat) (v2 : Int32) (v3 : Int32) (μ : JMem) (r : Int32) (μ9 : JMem), jget L 0 = .ref v0 → jget L 2 = .int v2 → jget L 3 = .int v3 → k9 v0 v2 v3 μ = some (r, μ9) → jR B SA d m_B_gather 9 L [] μ (some (.int r)) μ9) {k34 : Nat → Int32 → Int32 → Option Nat → Int32 → JMem → Option (Int32 × JMem)} (i34 : ∀ (L : JLoc) (v0 : Nat) (v2 : Int32) (v3 : Int32) (v4 : Option Nat) (v5 : Int32) (μ : JMem) (r : Int32) (μ9 : JMem), jget L 0 = .ref v0 → jget L 2 = .int v2 → jget L 3 = .int v3 → jget L 4 = rv v4 → jget L 5 = .int v5 → k34 v0 v2 v3 v4 v5 μ = some (r, μ9) → jR B SA d m_B_gather 34 L [] μ (some (.int r)) μ9) : ∀ (L : JLoc) (v0 : Nat) (v3 : Int32) (v4 : Nat) (v5 : Int32) (s0 : Int32) (μ : JMem) (r : Int32) (μ9 : JMem), jget L 0 = .ref v0 → jget L 3 = .int v3 → jget L 4 = .ref v4 → jget L 5 = .int v5 → g_B_gather_77 N B k9 k34 v0 v3 v4 v5 s0 μ = some (r, μ9) → jR B SA d m_B_gather 77 L [.int s0] μ (some (.int r)) μ9 := by
  intro L v0 v3 v4 v5 s0 μ r μ9 hl0 hl3 hl4 hl5 h
  unfold g_B_gather_77 at h
  refine jr_istore_n jf_126_77 rfl jml_126 (by decide) ?_
  refine jr_iinc jf_126_78 jc_i_1 jml_126 (by decide) (jg1_ne rfl hl5) ?_
  refine jr_goto jf_126_81 ?_
  exact i34 _ _ _ _ (some _) _ _ _ _ (jg1_ne rfl (jg1_ne rfl hl0)) (jg1_ne rfl jg1_same) (jg1_ne rfl (jg1_ne rfl hl3)) (jg1_pre (by first | rfl | exact rv_cat _) (jg1_ne rfl hl4)) jg1_same h
set_option maxRecDepth 10000 in
set_option maxHeartbeats 4000000 in
theorem r_B_gather_84 {N B : Nat} {SA : Nat → Nat} {d : Nat} (hd : 1 ≤ d) {k9 : Nat → Int32 → Int32 → JMem → Option (Int32 × JMem)} (i9 : ∀ (L : JLoc) (v0 : Nat) (v2 : Int32) (v3 : Int32) (μ : JMem) (r : Int32) (μ9 : JMem), jget L 0 = .ref v0 → jget L 2 = .int v2 → jget L 3 = .int v3 → k9 v0 v2 v3 μ = some (r, μ9) → jR B SA d m_B_gather 9 L [] μ (some (.int r)) μ9) : ∀ (L : JLoc) (v0 : Nat) (v2 : Int32) (v3 : Int32) (μ : JMem) (r : Int32) (μ9 : JMem), jget L 0 = .ref v0 → jget L 2 = .int v2 → jget L 3 = .int v3 → g_B_gather_84 N B k9 v0 v2 v3 μ = some (r, μ9) → jR B SA d m_B_gather 84 L [] μ (some (.int r)) μ9 := by
  intro L v0 v2 v3 μ r μ9 hl0 hl2 hl3 h
  unfold g_B_gather_84 at h
  refine jr_iinc jf_126_84 jc_i_1 jml_126 (by decide) hl3 ?_
  refine jr_goto jf_126_87 ?_
  exact i9 _ _ _ _ _ _ _ (jg1_ne rfl hl0) (jg1_pre rfl hl2) jg1_same h
set_option maxRecDepth 10000 in
set_option maxHeartbeats 4000000 in
theorem r_B_gather_34 {N B : Nat} {SA : Nat → Nat} {d : Nat} (hd : 1 ≤ d) {k9 : Nat → Int32 → Int32 → JMem → Option (Int32 × JMem)} (i9 : ∀ (L : JLoc) (v0 : Nat) (v2 : Int32) (v3 : Int32) (μ : JMem) (r : Int32) (μ9 : JMem), jget L 0 = .ref v0 → jget L 2 = .int v2 → jget L 3 = .int v3 → k9 v0 v2 v3 μ = some (r, μ9) → jR B SA d m_B_gather 9 L [] μ (some (.int r)) μ9) : ∀ (n : Nat), ∀ (L : JLoc) (v0 : Nat) (v2 : Int32) (v3 : Int32) (v4 : Option Nat) (v5 : Int32) (μ : JMem) (r : Int32) (μ9 : JMem), jget L 0 = .ref v0 → jget L 2 = .int v2 → jget L 3 = .int v3 → jget L 4 = rv v4 → jget L 5 = .int v5 → g_B_gather_34 N B k9 n v0 v2 v3 v4 v5 μ = some (r, μ9) → jR B SA d m_B_gather 34 L [] μ (some (.int r)) μ9 := by
  intro n
  induction n with
  | zero =>
    intro L v0 v2 v3 v4 v5 μ r μ9 hl0 hl2 hl3 hl4 hl5 h
    unfold g_B_gather_34 at h
    cases h
  | succ n ih =>
    intro L v0 v2 v3 v4 v5 μ r μ9 hl0 hl2 hl3 hl4 hl5 h
    unfold g_B_gather_34 at h
    refine jr_aload_A jf_126_34 hl4 ?_
    replace h := jon_or h; rcases h with ⟨rfl, h⟩ | ⟨a1, rfl, h⟩
    · refine jr_ifnull_n jf_126_36 ?_
      exact r_B_gather_84 hd i9 _ _ _ _ _ _ _ hl0 hl2 hl3 h
    · refine jr_ifnull_s jf_126_36 ?_
      refine jr_iload jf_126_39 hl5 ?_
      refine jr_aload jf_126_41 hl4 ?_
      replace h := obd_of h; obtain ⟨x2, hx2, h⟩ := h
      refine jr_getI jf_126_43 hx2 ?_
      replace h := ite_or h; rcases h with ⟨hc, h⟩ | ⟨hc, h⟩
      · refine jr_if2_ge_t jf_126_46 hc ?_
        exact r_B_gather_84 hd i9 _ _ _ _ _ _ _ hl0 hl2 hl3 h
      · refine jr_if2_ge_f jf_126_46 hc ?_
        refine jr_aload jf_126_49 hl4 ?_
        refine jr_iload jf_126_51 hl5 ?_
        replace h := jgd_of h; obtain ⟨hb3, h⟩ := h
        replace h := obd_of h; obtain ⟨x4, hx4, h⟩ := h
        refine jr_V6_1 jf_126_53 hb3 (by omega) (r_Chain_memberAt (by omega) _ _ _ _ hx4) (Nat.le_of_ble_eq_true rfl) jml_50 (Nat.le_of_ble_eq_true rfl) ?_
        refine jr_astore_A jf_126_56 jml_126 (by decide) ?_
        refine jr_aload_A jf_126_58 jg1_same ?_
        replace h := jon_or h; rcases h with ⟨rfl, h⟩ | ⟨a5, rfl, h⟩
        · refine jr_ifnonnull_n jf_126_60 ?_
          refine jr_iload_n jf_126_63 rfl (jg1_ne rfl hl2) ?_
          refine jr_goto jf_126_64 ?_
          exact r_B_gather_77 hd i9 ih _ _ _ _ _ _ _ _ _ (jg1_ne rfl hl0) (jg1_ne rfl hl3) (jg1_ne rfl hl4) (jg1_pre rfl hl5) h
        · refine jr_ifnonnull_s jf_126_60 ?_
          refine jr_aload_n jf_126_67 rfl (jg1_ne rfl hl0) ?_
          refine jr_aload jf_126_68 jg1_same ?_
          replace h := obd_of h; obtain ⟨x6, hx6, h⟩ := h
          refine jr_getA jf_126_70 hx6 ?_
          refine jr_iload_n jf_126_73 rfl (jg1_ne rfl hl2) ?_
          replace h := jgd_of h; obtain ⟨hb7, h⟩ := h
          replace h := jbd2_of h; obtain ⟨x8, μ9, hx8, h⟩ := h
          refine jr_V6_2 jf_126_74 hb7 (by omega) (r_B_gathered (by omega) _ _ _ _ _ _ hx8) (Nat.le_of_ble_eq_true rfl) jml_127 (by simp only [jcats_cons, jcats_nil, cat_int, cat_long, cat_double, cat_float, cat_ref, rv_cat]; decide) ?_
          exact r_B_gather_77 hd i9 ih _ _ _ _ _ _ _ _ _ (jg1_ne rfl hl0) (jg1_ne rfl hl3) (jg1_ne rfl hl4) (jg1_pre rfl hl5) h
set_option maxRecDepth 10000 in
set_option maxHeartbeats 4000000 in
theorem r_B_gather_9 {N B : Nat} {SA : Nat → Nat} {d : Nat} (hd : 1 ≤ d) : ∀ (n : Nat), ∀ (L : JLoc) (v0 : Nat) (v2 : Int32) (v3 : Int32) (μ : JMem) (r : Int32) (μ9 : JMem), jget L 0 = .ref v0 → jget L 2 = .int v2 → jget L 3 = .int v3 → g_B_gather_9 N B n v0 v2 v3 μ = some (r, μ9) → jR B SA d m_B_gather 9 L [] μ (some (.int r)) μ9 := by
  intro n
  induction n with
  | zero =>
    intro L v0 v2 v3 μ r μ9 hl0 hl2 hl3 h
    unfold g_B_gather_9 at h
    cases h
  | succ n ih =>
    intro L v0 v2 v3 μ r μ9 hl0 hl2 hl3 h
    unfold g_B_gather_9 at h
    refine jr_iload_n jf_126_9 rfl hl3 ?_
    refine jr_iload_n jf_126_10 rfl hl2 ?_
    replace h := ite_or h; rcases h with ⟨hc, h⟩ | ⟨hc, h⟩
    · refine jr_if2_ge_t jf_126_11 hc ?_
      refine jr_iload_n jf_126_90 rfl hl2 ?_
      obtain ⟨rfl, rfl⟩ := Prod.mk.inj (Option.some.inj h)
      exact jr_retI jf_126_91 jmt_126
    · refine jr_if2_ge_f jf_126_11 hc ?_
      refine jr_iload_n jf_126_14 rfl hl3 ?_
      refine jr_aload_n jf_126_15 rfl hl0 ?_
      replace h := obd_of h; obtain ⟨x1, hx1, h⟩ := h
      refine jr_getA jf_126_16 hx1 ?_
      replace h := obd_of h; obtain ⟨a2, rfl, h⟩ := h
      replace h := obd_of h; obtain ⟨x3, hx3, h⟩ := h
      refine jr_arraylength jf_126_19 hx3 ?_
      replace h := ite_or h; rcases h with ⟨hc, h⟩ | ⟨hc, h⟩
      · refine jr_if2_ge_t jf_126_20 hc ?_
        refine jr_iload_n jf_126_90 rfl hl2 ?_
        obtain ⟨rfl, rfl⟩ := Prod.mk.inj (Option.some.inj h)
        exact jr_retI jf_126_91 jmt_126
      · refine jr_if2_ge_f jf_126_20 hc ?_
        refine jr_aload_n jf_126_23 rfl hl0 ?_
        replace h := obd_of h; obtain ⟨x4, hx4, h⟩ := h
        refine jr_getA jf_126_24 hx4 ?_
        refine jr_iload_n jf_126_27 rfl hl3 ?_
        replace h := obd_of h; obtain ⟨a5, rfl, h⟩ := h
        replace h := obd_of h; obtain ⟨x6, hx6, h⟩ := h
        refine jr_aaload jf_126_28 hx6 ?_
        refine jr_astore_A jf_126_29 jml_126 (by decide) ?_
        refine jr_iconst jf_126_31 jc_i_0 ?_
        refine jr_istore jf_126_32 jml_126 (by decide) ?_
        exact r_B_gather_34 hd ih _ _ _ _ _ _ _ _ _ _ (jg1_ne rfl (jg1_ne rfl hl0)) (jg1_ne rfl (jg1_ne rfl hl2)) (jg1_ne rfl (jg1_pre rfl hl3)) (jg1_pre (by first | rfl | exact rv_cat _) jg1_same) jg1_same h
set_option maxRecDepth 10000 in
set_option maxHeartbeats 4000000 in
theorem r_B_gather_e {N B : Nat} {SA : Nat → Nat} {d : Nat} (hd : 1 ≤ d) : ∀ (L : JLoc) (v0 : Nat) (v1 : Option Nat) (μ : JMem) (r : Int32) (μ9 : JMem), jget L 0 = .ref v0 → jget L 1 = rv v1 → g_B_gather N B v0 v1 μ = some (r, μ9) → jR B SA d m_B_gather 0 L [] μ (some (.int r)) μ9 := by
  intro L v0 v1 μ r μ9 hl0 hl1 h
  unfold g_B_gather at h
  refine jr_aload_n jf_126_0 rfl hl0 ?_
  refine jr_aload_n_A jf_126_1 rfl hl1 ?_
  refine jr_iconst jf_126_2 jc_i_0 ?_
  replace h := jgd_of h; obtain ⟨hb1, h⟩ := h
  replace h := jbd2_of h; obtain ⟨x2, μ3, hx2, h⟩ := h
  refine jr_V6_2 jf_126_3 hb1 (by omega) (r_B_gathered (by omega) _ _ _ _ _ _ hx2) (Nat.le_of_ble_eq_true rfl) jml_127 (by simp only [jcats_cons, jcats_nil, cat_int, cat_long, cat_double, cat_float, cat_ref, rv_cat]; decide) ?_
  refine jr_istore_n jf_126_6 rfl jml_126 (by decide) ?_
  refine jr_iconst jf_126_7 jc_i_0 ?_
  refine jr_istore_n jf_126_8 rfl jml_126 (by decide) ?_
  exact r_B_gather_9 hd _ _ _ _ _ _ _ _ (jg1_ne rfl (jg1_ne rfl hl0)) (jg1_pre rfl jg1_same) jg1_same h
set_option maxRecDepth 10000 in
set_option maxHeartbeats 4000000 in
theorem r_B_gather {N B : Nat} {SA : Nat → Nat} {d : Nat} (hd : 1 ≤ d) : ∀ (v0 : Nat) (v1 : Option Nat) (μ : JMem) (r : Int32) (μ9 : JMem), g_B_gather N B v0 v1 μ = some (r, μ9) → jR B SA d m_B_gather 0 (lv_args 0 [.ref v0, rv v1]) [] μ (some (.int r)) μ9 := by
  intro v0 v1 μ r μ9 h
  exact r_B_gather_e hd (lv_args 0 _) _ _ _ _ _ (by simp [lv_args, jget, rv_cat, cat_int, cat_long, cat_double, cat_float, cat_ref]) (by simp [lv_args, jget, rv_cat, cat_int, cat_long, cat_double, cat_float, cat_ref]) h
/-! FilterBench$Chain.rowAt(I)LFilterBench$Row; -/
set_option maxRecDepth 10000 in
set_option maxHeartbeats 4000000 in
theorem r_Chain_rowAt_e {B : Nat} {SA : Nat → Nat} {d : Nat} (hd : 1 ≤ d) : ∀ (L : JLoc) (v0 : Nat) (v1 : Int32) (μ : JMem) (r : Option Nat), jget L 0 = .ref v0 → jget L 1 = .int v1 → g_Chain_rowAt v0 v1 μ.1 = some r → jR B SA d m_Chain_rowAt 0 L [] μ (some (rv r)) μ := by
  intro L v0 v1 μ r hl0 hl1 h
  unfold g_Chain_rowAt at h
  refine jr_iload_n jf_130_0 rfl hl1 ?_
  refine jr_iconst jf_130_1 jc_i_2 ?_
  refine jr_aload_n jf_130_2 rfl hl0 ?_
  replace h := obd_of h; obtain ⟨x1, hx1, h⟩ := h
  refine jr_getI jf_130_3 hx1 ?_
  refine jr_imul jf_130_6 ?_
  replace h := ite_or h; rcases h with ⟨hc, h⟩ | ⟨hc, h⟩
  · refine jr_if2_ge_t jf_130_7 hc ?_
    refine jr_aload_n jf_130_44 rfl hl0 ?_
    refine jr_iload_n jf_130_45 rfl hl1 ?_
    refine jr_iconst jf_130_46 jc_i_2 ?_
    refine jr_aload_n jf_130_47 rfl hl0 ?_
    replace h := obd_of h; obtain ⟨x2, hx2, h⟩ := h
    refine jr_getI jf_130_48 hx2 ?_
    refine jr_imul jf_130_51 ?_
    refine jr_isub jf_130_52 ?_
    replace h := jgd_of h; obtain ⟨hb3, h⟩ := h
    replace h := obd_of h; obtain ⟨x4, hx4, h⟩ := h
    refine jr_V6_1 jf_130_53 hb3 (by omega) (r_Chain_loopAt (by omega) _ _ _ _ hx4) (Nat.le_of_ble_eq_true rfl) jml_68 (Nat.le_of_ble_eq_true rfl) ?_
    refine jr_astore_n_A jf_130_56 rfl jml_130 (by decide) ?_
    refine jr_aload_n_A jf_130_57 rfl jg1_same ?_
    replace h := jon_or h; rcases h with ⟨rfl, h⟩ | ⟨a5, rfl, h⟩
    · refine jr_ifnonnull_n jf_130_58 ?_
      refine jr_aconst_null jf_130_61 ?_
      refine jr_goto jf_130_62 ?_
      obtain rfl := Option.some.inj h
      exact jr_retA jf_130_69 jmt_130
    · refine jr_ifnonnull_s jf_130_58 ?_
      refine jr_aload_n jf_130_65 rfl jg1_same ?_
      replace h := obd_of h; obtain ⟨x6, hx6, h⟩ := h
      refine jr_getA jf_130_66 hx6 ?_
      obtain rfl := Option.some.inj h
      exact jr_retA jf_130_69 jmt_130
  · refine jr_if2_ge_f jf_130_7 hc ?_
    refine jr_aload_n jf_130_10 rfl hl0 ?_
    refine jr_iload_n jf_130_11 rfl hl1 ?_
    refine jr_iconst jf_130_12 jc_i_1 ?_
    refine jr_ishr jf_130_13 ?_
    replace h := jgd_of h; obtain ⟨hb7, h⟩ := h
    replace h := obd_of h; obtain ⟨x8, hx8, h⟩ := h
    refine jr_V6_1 jf_130_14 hb7 (by omega) (r_Chain_memberAt (by omega) _ _ _ _ hx8) (Nat.le_of_ble_eq_true rfl) jml_50 (Nat.le_of_ble_eq_true rfl) ?_
    refine jr_astore_n_A jf_130_17 rfl jml_130 (by decide) ?_
    refine jr_aload_n_A jf_130_18 rfl jg1_same ?_
    replace h := jon_or h; rcases h with ⟨rfl, h⟩ | ⟨a9, rfl, h⟩
    · refine jr_ifnonnull_n jf_130_19 ?_
      refine jr_aconst_null jf_130_22 ?_
      refine jr_goto jf_130_23 ?_
      obtain rfl := Option.some.inj h
      exact jr_retA jf_130_43 jmt_130
    · refine jr_ifnonnull_s jf_130_19 ?_
      refine jr_iload_n jf_130_26 rfl (jg1_pre rfl hl1) ?_
      refine jr_iconst jf_130_27 jc_i_1 ?_
      refine jr_iand jf_130_28 ?_
      replace h := ite_or h; rcases h with ⟨hc, h⟩ | ⟨hc, h⟩
      · refine jr_if_ne_f jf_130_29 hc ?_
        refine jr_aload_n jf_130_32 rfl jg1_same ?_
        replace h := obd_of h; obtain ⟨x10, hx10, h⟩ := h
        refine jr_getA jf_130_33 hx10 ?_
        refine jr_goto jf_130_36 ?_
        obtain rfl := Option.some.inj h
        exact jr_retA jf_130_43 jmt_130
      · refine jr_if_ne_t jf_130_29 hc ?_
        refine jr_aload_n jf_130_39 rfl jg1_same ?_
        replace h := obd_of h; obtain ⟨x11, hx11, h⟩ := h
        refine jr_getA jf_130_40 hx11 ?_
        obtain rfl := Option.some.inj h
        exact jr_retA jf_130_43 jmt_130
set_option maxRecDepth 10000 in
set_option maxHeartbeats 4000000 in
theorem r_Chain_rowAt {B : Nat} {SA : Nat → Nat} {d : Nat} (hd : 1 ≤ d) : ∀ (v0 : Nat) (v1 : Int32) (μ : JMem) (r : Option Nat), g_Chain_rowAt v0 v1 μ.1 = some r → jR B SA d m_Chain_rowAt 0 (lv_args 0 [.ref v0, .int v1]) [] μ (some (rv r)) μ := by
  intro v0 v1 μ r h
  exact r_Chain_rowAt_e hd (lv_args 0 _) _ _ _ _ (by simp [lv_args, jget, rv_cat, cat_int, cat_long, cat_double, cat_float, cat_ref]) (by simp [lv_args, jget, rv_cat, cat_int, cat_long, cat_double, cat_float, cat_ref]) h
/-! FilterBench$Chain.rowCount()I -/
set_option maxRecDepth 10000 in
set_option maxHeartbeats 4000000 in
theorem r_Chain_rowCount_e {B : Nat} {SA : Nat → Nat} {d : Nat} (hd : 0 ≤ d) : ∀ (L : JLoc) (v0 : Nat) (μ : JMem) (r : Int32), jget L 0 = .ref v0 → g_Chain_rowCount v0 μ.1 = some r → jR B SA d m_Chain_rowCount 0 L [] μ (some (.int r)) μ := by
  intro L v0 μ r hl0 h
  unfold g_Chain_rowCount at h
  refine jr_iconst jf_129_0 jc_i_2 ?_
  refine jr_aload_n jf_129_1 rfl hl0 ?_
  replace h := obd_of h; obtain ⟨x1, hx1, h⟩ := h
  refine jr_getI jf_129_2 hx1 ?_
  refine jr_imul jf_129_5 ?_
  refine jr_aload_n jf_129_6 rfl hl0 ?_
  replace h := obd_of h; obtain ⟨x2, hx2, h⟩ := h
  refine jr_getI jf_129_7 hx2 ?_
  refine jr_iadd jf_129_10 ?_
  obtain rfl := Option.some.inj h
  exact jr_retI jf_129_11 jmt_129
set_option maxRecDepth 10000 in
set_option maxHeartbeats 4000000 in
theorem r_Chain_rowCount {B : Nat} {SA : Nat → Nat} {d : Nat} (hd : 0 ≤ d) : ∀ (v0 : Nat) (μ : JMem) (r : Int32), g_Chain_rowCount v0 μ.1 = some r → jR B SA d m_Chain_rowCount 0 (lv_args 0 [.ref v0]) [] μ (some (.int r)) μ := by
  intro v0 μ r h
  exact r_Chain_rowCount_e hd (lv_args 0 _) _ _ _ (by simp [lv_args, jget, rv_cat, cat_int, cat_long, cat_double, cat_float, cat_ref]) h
/-! java/util/Arrays.fill([JJ)V -/
set_option maxRecDepth 10000 in
set_option maxHeartbeats 4000000 in
theorem r_JArrays_fill_6 {N B : Nat} {SA : Nat → Nat} {d : Nat} (hd : 0 ≤ d) : ∀ (n : Nat), ∀ (L : JLoc) (v0 : Nat) (v1 : Int64) (v3 : Int32) (v4 : Int32) (μ : JMem) (μ9 : JMem), jget L 0 = .ref v0 → jget L 1 = .long v1 → jget L 3 = .int v3 → jget L 4 = .int v4 → g_JArrays_fill_6 N B n v0 v1 v3 v4 μ = some μ9 → jR B SA d m_JArrays_fill 6 L [] μ none μ9 := by
  intro n
  induction n with
  | zero =>
    intro L v0 v1 v3 v4 μ μ9 hl0 hl1 hl3 hl4 h
    unfold g_JArrays_fill_6 at h
    cases h
  | succ n ih =>
    intro L v0 v1 v3 v4 μ μ9 hl0 hl1 hl3 hl4 h
    unfold g_JArrays_fill_6 at h
    refine jr_iload_n jf_132_6 rfl hl3 ?_
    refine jr_iload jf_132_7 hl4 ?_
    replace h := ite_or h; rcases h with ⟨hc, h⟩ | ⟨hc, h⟩
    · refine jr_if2_ge_t jf_132_9 hc ?_
      obtain rfl := Option.some.inj h
      exact jr_return jf_132_22 jmt_132
    · refine jr_if2_ge_f jf_132_9 hc ?_
      refine jr_aload_n jf_132_12 rfl hl0 ?_
      refine jr_iload_n jf_132_13 rfl hl3 ?_
      refine jr_lload_n jf_132_14 rfl hl1 ?_
      replace h := obd_of h; obtain ⟨μ1, hμ1, h⟩ := h
      refine jr_lastore jf_132_15 hμ1 ?_
      refine jr_iinc jf_132_16 jc_i_1 jml_132 (by decide) hl3 ?_
      refine jr_goto jf_132_19 ?_
      exact ih _ _ _ _ _ _ _ (jg1_ne rfl hl0) (jg1_ne rfl hl1) jg1_same (jg1_ne rfl hl4) h
set_option maxRecDepth 10000 in
set_option maxHeartbeats 4000000 in
theorem r_JArrays_fill_e {N B : Nat} {SA : Nat → Nat} {d : Nat} (hd : 0 ≤ d) : ∀ (L : JLoc) (v0 : Option Nat) (v1 : Int64) (μ : JMem) (μ9 : JMem), jget L 0 = rv v0 → jget L 1 = .long v1 → g_JArrays_fill N B v0 v1 μ = some μ9 → jR B SA d m_JArrays_fill 0 L [] μ none μ9 := by
  intro L v0 v1 μ μ9 hl0 hl1 h
  unfold g_JArrays_fill at h
  refine jr_iconst jf_132_0 jc_i_0 ?_
  refine jr_istore_n jf_132_1 rfl jml_132 (by decide) ?_
  refine jr_aload_n_A jf_132_2 rfl (jg1_ne rfl hl0) ?_
  replace h := obd_of h; obtain ⟨a1, rfl, h⟩ := h
  replace h := obd_of h; obtain ⟨x2, hx2, h⟩ := h
  refine jr_arraylength jf_132_3 hx2 ?_
  refine jr_istore jf_132_4 jml_132 (by decide) ?_
  exact r_JArrays_fill_6 hd _ _ _ _ _ _ _ _ (jg1_ne rfl (jg1_ne rfl hl0)) (jg1_ne rfl (jg1_ne rfl hl1)) (jg1_pre rfl jg1_same) jg1_same h
set_option maxRecDepth 10000 in
set_option maxHeartbeats 4000000 in
theorem r_JArrays_fill {N B : Nat} {SA : Nat → Nat} {d : Nat} (hd : 0 ≤ d) : ∀ (v0 : Option Nat) (v1 : Int64) (μ : JMem) (μ9 : JMem), g_JArrays_fill N B v0 v1 μ = some μ9 → jR B SA d m_JArrays_fill 0 (lv_args 0 [rv v0, .long v1]) [] μ none μ9 := by
  intro v0 v1 μ μ9 h
  exact r_JArrays_fill_e hd (lv_args 0 _) _ _ _ _ (by simp [lv_args, jget, rv_cat, cat_int, cat_long, cat_double, cat_float, cat_ref]) (by simp [lv_args, jget, rv_cat, cat_int, cat_long, cat_double, cat_float, cat_ref]) h
/-! FilterBench$Row.clear()V -/
set_option maxRecDepth 10000 in
set_option maxHeartbeats 4000000 in
theorem r_Row_clear_e {N B : Nat} {SA : Nat → Nat} {d : Nat} (hd : 1 ≤ d) : ∀ (L : JLoc) (v0 : Nat) (μ : JMem) (μ9 : JMem), jget L 0 = .ref v0 → g_Row_clear N B v0 μ = some μ9 → jR B SA d m_Row_clear 0 L [] μ none μ9 := by
  intro L v0 μ μ9 hl0 h
  unfold g_Row_clear at h
  refine jr_aload_n jf_131_0 rfl hl0 ?_
  replace h := obd_of h; obtain ⟨x1, hx1, h⟩ := h
  refine jr_getA jf_131_1 hx1 ?_
  refine jr_lconst0 jf_131_4 ?_
  replace h := obd_of h; obtain ⟨μ2, hμ2, h⟩ := h
  refine jr_S3v_2 jf_131_5 (by omega) (r_JArrays_fill (by omega) _ _ _ _ hμ2) (Nat.le_of_ble_eq_true rfl) jml_132 (by simp only [jcats_cons, jcats_nil, cat_int, cat_long, cat_double, cat_float, cat_ref, rv_cat]; decide) ?_
  obtain rfl := Option.some.inj h
  exact jr_return jf_131_8 jmt_131
set_option maxRecDepth 10000 in
set_option maxHeartbeats 4000000 in
theorem r_Row_clear {N B : Nat} {SA : Nat → Nat} {d : Nat} (hd : 1 ≤ d) : ∀ (v0 : Nat) (μ : JMem) (μ9 : JMem), g_Row_clear N B v0 μ = some μ9 → jR B SA d m_Row_clear 0 (lv_args 0 [.ref v0]) [] μ none μ9 := by
  intro v0 μ μ9 h
  exact r_Row_clear_e hd (lv_args 0 _) _ _ _ (by simp [lv_args, jget, rv_cat, cat_int, cat_long, cat_double, cat_float, cat_ref]) h
/-! FilterBench$Chain.silence()V -/
set_option maxRecDepth 10000 in
set_option maxHeartbeats 4000000 in
theorem r_Chain_silence_24 {N B : Nat} {SA : Nat → Nat} {d : Nat} (hd : 2 ≤ d) {k2 : Nat → Int32 → JMem → Option JMem} (i2 : ∀ (L : JLoc) (v0 : Nat) (v1 : Int32) (μ : JMem) (μ9 : JMem), jget L 0 = .ref v0 → jget L 1 = .int v1 → k2 v0 v1 μ = some μ9 → jR B SA d m_Chain_silence 2 L [] μ none μ9) : ∀ (L : JLoc) (v0 : Nat) (v1 : Int32) (μ : JMem) (μ9 : JMem), jget L 0 = .ref v0 → jget L 1 = .int v1 → g_Chain_silence_24 N B k2 v0 v1 μ = some μ9 → jR B SA d m_Chain_silence 24 L [] μ none μ9 := by
  intro L v0 v1 μ μ9 hl0 hl1 h
  unfold g_Chain_silence_24 at h
  refine jr_iinc jf_128_24 jc_i_1 jml_128 (by decide) hl1 ?_
  refine jr_goto jf_128_27 ?_
  exact i2 _ _ _ _ _ (jg1_pre (by first | rfl | exact rv_cat _) hl0) jg1_same h
set_option maxRecDepth 10000 in
set_option maxHeartbeats 4000000 in
theorem r_Chain_silence_2 {N B : Nat} {SA : Nat → Nat} {d : Nat} (hd : 2 ≤ d) : ∀ (n : Nat), ∀ (L : JLoc) (v0 : Nat) (v1 : Int32) (μ : JMem) (μ9 : JMem), jget L 0 = .ref v0 → jget L 1 = .int v1 → g_Chain_silence_2 N B n v0 v1 μ = some μ9 → jR B SA d m_Chain_silence 2 L [] μ none μ9 := by
  intro n
  induction n with
  | zero =>
    intro L v0 v1 μ μ9 hl0 hl1 h
    unfold g_Chain_silence_2 at h
    cases h
  | succ n ih =>
    intro L v0 v1 μ μ9 hl0 hl1 h
    unfold g_Chain_silence_2 at h
    refine jr_iload_n jf_128_2 rfl hl1 ?_
    refine jr_aload_n jf_128_3 rfl hl0 ?_
    replace h := jgd_of h; obtain ⟨hb1, h⟩ := h
    replace h := obd_of h; obtain ⟨x2, hx2, h⟩ := h
    refine jr_V6_0 jf_128_4 hb1 (by omega) (r_Chain_rowCount (by omega) _ _ _ hx2) (Nat.le_of_ble_eq_true rfl) jml_129 (Nat.le_of_ble_eq_true rfl) ?_
    replace h := ite_or h; rcases h with ⟨hc, h⟩ | ⟨hc, h⟩
    · refine jr_if2_ge_t jf_128_7 hc ?_
      refine jr_aload_n jf_128_30 rfl hl0 ?_
      refine jr_iconst jf_128_31 jc_i_0 ?_
      replace h := obd_of h; obtain ⟨μ3, hμ3, h⟩ := h
      refine jr_putI jf_128_32 rfl hμ3 ?_
      refine jr_aload_n jf_128_35 rfl hl0 ?_
      refine jr_iconst jf_128_36 jc_i_0 ?_
      replace h := obd_of h; obtain ⟨μ4, hμ4, h⟩ := h
      refine jr_putI jf_128_37 rfl hμ4 ?_
      refine jr_aload_n jf_128_40 rfl hl0 ?_
      refine jr_iconst jf_128_41 jc_i_0 ?_
      replace h := obd_of h; obtain ⟨μ5, hμ5, h⟩ := h
      refine jr_putI jf_128_42 rfl hμ5 ?_
      obtain rfl := Option.some.inj h
      exact jr_return jf_128_45 jmt_128
    · refine jr_if2_ge_f jf_128_7 hc ?_
      refine jr_aload_n jf_128_10 rfl hl0 ?_
      refine jr_iload_n jf_128_11 rfl hl1 ?_
      replace h := jgd_of h; obtain ⟨hb6, h⟩ := h
      replace h := obd_of h; obtain ⟨x7, hx7, h⟩ := h
      refine jr_V6_1 jf_128_12 hb6 (by omega) (r_Chain_rowAt (by omega) _ _ _ _ hx7) (Nat.le_of_ble_eq_true rfl) jml_130 (Nat.le_of_ble_eq_true rfl) ?_
      refine jr_astore_n_A jf_128_15 rfl jml_128 (by decide) ?_
      refine jr_aload_n_A jf_128_16 rfl jg1_same ?_
      replace h := jon_or h; rcases h with ⟨rfl, h⟩ | ⟨a8, rfl, h⟩
      · refine jr_ifnull_n jf_128_17 ?_
        exact r_Chain_silence_24 hd ih _ _ _ _ _ (jg1_ne rfl hl0) (jg1_pre rfl hl1) h
      · refine jr_ifnull_s jf_128_17 ?_
        refine jr_aload_n jf_128_20 rfl jg1_same ?_
        replace h := jgd_of h; obtain ⟨hb9, h⟩ := h
        replace h := obd_of h; obtain ⟨μ10, hμ10, h⟩ := h
        refine jr_V6v_0 jf_128_21 hb9 (by omega) (r_Row_clear (by omega) _ _ _ hμ10) (Nat.le_of_ble_eq_true rfl) jml_131 (Nat.le_of_ble_eq_true rfl) ?_
        exact r_Chain_silence_24 hd ih _ _ _ _ _ (jg1_ne rfl hl0) (jg1_pre rfl hl1) h
set_option maxRecDepth 10000 in
set_option maxHeartbeats 4000000 in
theorem r_Chain_silence_e {N B : Nat} {SA : Nat → Nat} {d : Nat} (hd : 2 ≤ d) : ∀ (L : JLoc) (v0 : Nat) (μ : JMem) (μ9 : JMem), jget L 0 = .ref v0 → g_Chain_silence N B v0 μ = some μ9 → jR B SA d m_Chain_silence 0 L [] μ none μ9 := by
  intro L v0 μ μ9 hl0 h
  unfold g_Chain_silence at h
  refine jr_iconst jf_128_0 jc_i_0 ?_
  refine jr_istore_n jf_128_1 rfl jml_128 (by decide) ?_
  exact r_Chain_silence_2 hd _ _ _ _ _ _ (jg1_pre (by first | rfl | exact rv_cat _) hl0) jg1_same h
set_option maxRecDepth 10000 in
set_option maxHeartbeats 4000000 in
theorem r_Chain_silence {N B : Nat} {SA : Nat → Nat} {d : Nat} (hd : 2 ≤ d) : ∀ (v0 : Nat) (μ : JMem) (μ9 : JMem), g_Chain_silence N B v0 μ = some μ9 → jR B SA d m_Chain_silence 0 (lv_args 0 [.ref v0]) [] μ none μ9 := by
  intro v0 μ μ9 h
  exact r_Chain_silence_e hd (lv_args 0 _) _ _ _ (by simp [lv_args, jget, rv_cat, cat_int, cat_long, cat_double, cat_float, cat_ref]) h
/-! FilterBench.reset(I)Z -/
set_option maxRecDepth 10000 in
set_option maxHeartbeats 4000000 in
theorem r_B_reset_57 {N B : Nat} {SA : Nat → Nat} {d : Nat} (hd : 3 ≤ d) {k21 : Nat → Int32 → Int32 → JMem → Option (Bool × JMem)} (i21 : ∀ (L : JLoc) (v0 : Nat) (v3 : Int32) (v4 : Int32) (μ : JMem) (r : Bool) (μ9 : JMem), jget L 0 = .ref v0 → jget L 3 = .int v3 → jget L 4 = .int v4 → k21 v0 v3 v4 μ = some (r, μ9) → jR B SA d m_B_reset 21 L [] μ (some (.int (jb r))) μ9) : ∀ (L : JLoc) (v0 : Nat) (v3 : Int32) (v4 : Int32) (μ : JMem) (r : Bool) (μ9 : JMem), jget L 0 = .ref v0 → jget L 3 = .int v3 → jget L 4 = .int v4 → g_B_reset_57 N B k21 v0 v3 v4 μ = some (r, μ9) → jR B SA d m_B_reset 57 L [] μ (some (.int (jb r))) μ9 := by
  intro L v0 v3 v4 μ r μ9 hl0 hl3 hl4 h
  unfold g_B_reset_57 at h
  refine jr_iinc jf_125_57 jc_i_1 jml_125 (by decide) hl4 ?_
  refine jr_goto jf_125_60 ?_
  exact i21 _ _ _ _ _ _ _ (jg1_ne rfl hl0) (jg1_pre rfl hl3) jg1_same h
set_option maxRecDepth 10000 in
set_option maxHeartbeats 4000000 in
theorem r_B_reset_21 {N B : Nat} {SA : Nat → Nat} {d : Nat} (hd : 3 ≤ d) : ∀ (n : Nat), ∀ (L : JLoc) (v0 : Nat) (v3 : Int32) (v4 : Int32) (μ : JMem) (r : Bool) (μ9 : JMem), jget L 0 = .ref v0 → jget L 3 = .int v3 → jget L 4 = .int v4 → g_B_reset_21 N B n v0 v3 v4 μ = some (r, μ9) → jR B SA d m_B_reset 21 L [] μ (some (.int (jb r))) μ9 := by
  intro n
  induction n with
  | zero =>
    intro L v0 v3 v4 μ r μ9 hl0 hl3 hl4 h
    unfold g_B_reset_21 at h
    cases h
  | succ n ih =>
    intro L v0 v3 v4 μ r μ9 hl0 hl3 hl4 h
    unfold g_B_reset_21 at h
    refine jr_iload jf_125_21 hl4 ?_
    refine jr_iload_n jf_125_23 rfl hl3 ?_
    replace h := ite_or h; rcases h with ⟨hc, h⟩ | ⟨hc, h⟩
    · refine jr_if2_ge_t jf_125_24 hc ?_
      refine jr_iconst jf_125_63 jc_i_1 ?_
      obtain ⟨rfl, rfl⟩ := Prod.mk.inj (Option.some.inj h)
      exact jr_retZ (x := true) jf_125_64 jmt_125
    · refine jr_if2_ge_f jf_125_24 hc ?_
      refine jr_iload jf_125_27 hl4 ?_
      refine jr_aload_n jf_125_29 rfl hl0 ?_
      replace h := obd_of h; obtain ⟨x1, hx1, h⟩ := h
      refine jr_getA jf_125_30 hx1 ?_
      replace h := obd_of h; obtain ⟨a2, rfl, h⟩ := h
      replace h := obd_of h; obtain ⟨x3, hx3, h⟩ := h
      refine jr_arraylength jf_125_33 hx3 ?_
      replace h := ite_or h; rcases h with ⟨hc, h⟩ | ⟨hc, h⟩
      · refine jr_if2_ge_t jf_125_34 hc ?_
        refine jr_iconst jf_125_63 jc_i_1 ?_
        obtain ⟨rfl, rfl⟩ := Prod.mk.inj (Option.some.inj h)
        exact jr_retZ (x := true) jf_125_64 jmt_125
      · refine jr_if2_ge_f jf_125_34 hc ?_
        refine jr_aload_n jf_125_37 rfl hl0 ?_
        replace h := obd_of h; obtain ⟨x4, hx4, h⟩ := h
        refine jr_getA jf_125_38 hx4 ?_
        refine jr_iload jf_125_41 hl4 ?_
        replace h := obd_of h; obtain ⟨a5, rfl, h⟩ := h
        replace h := obd_of h; obtain ⟨x6, hx6, h⟩ := h
        refine jr_aaload jf_125_43 hx6 ?_
        replace h := jon_or h; rcases h with ⟨rfl, h⟩ | ⟨a7, rfl, h⟩
        · refine jr_ifnull_n jf_125_44 ?_
          exact r_B_reset_57 hd ih _ _ _ _ _ _ _ hl0 hl3 hl4 h
        · refine jr_ifnull_s jf_125_44 ?_
          refine jr_aload_n jf_125_47 rfl hl0 ?_
          replace h := obd_of h; obtain ⟨x8, hx8, h⟩ := h
          refine jr_getA jf_125_48 hx8 ?_
          refine jr_iload jf_125_51 hl4 ?_
          replace h := obd_of h; obtain ⟨a9, rfl, h⟩ := h
          replace h := obd_of h; obtain ⟨x10, hx10, h⟩ := h
          refine jr_aaload jf_125_53 hx10 ?_
          replace h := obd_of h; obtain ⟨a11, rfl, h⟩ := h
          replace h := jgd_of h; obtain ⟨hb12, h⟩ := h
          replace h := obd_of h; obtain ⟨μ13, hμ13, h⟩ := h
          refine jr_V6v_0 jf_125_54 hb12 (by omega) (r_Chain_silence (by omega) _ _ _ hμ13) (Nat.le_of_ble_eq_true rfl) jml_128 (Nat.le_of_ble_eq_true rfl) ?_
          exact r_B_reset_57 hd ih _ _ _ _ _ _ _ hl0 hl3 hl4 h
set_option maxRecDepth 10000 in
set_option maxHeartbeats 4000000 in
theorem r_B_reset_e {N B : Nat} {SA : Nat → Nat} {d : Nat} (hd : 3 ≤ d) : ∀ (L : JLoc) (v0 : Nat) (v1 : Int32) (μ : JMem) (r : Bool) (μ9 : JMem), jget L 0 = .ref v0 → jget L 1 = .int v1 → g_B_reset N B v0 v1 μ = some (r, μ9) → jR B SA d m_B_reset 0 L [] μ (some (.int (jb r))) μ9 := by
  intro L v0 v1 μ r μ9 hl0 hl1 h
  unfold g_B_reset at h
  refine jr_aload_n jf_125_0 rfl hl0 ?_
  refine jr_iload_n jf_125_1 rfl hl1 ?_
  replace h := jgd_of h; obtain ⟨hb1, h⟩ := h
  replace h := obd_of h; obtain ⟨x2, hx2, h⟩ := h
  refine jr_V6_1 jf_125_2 hb1 (by omega) (r_B_chainAt (by omega) _ _ _ _ hx2) (Nat.le_of_ble_eq_true rfl) jml_48 (Nat.le_of_ble_eq_true rfl) ?_
  refine jr_astore_n_A jf_125_5 rfl jml_125 (by decide) ?_
  refine jr_aload_n_A jf_125_6 rfl jg1_same ?_
  replace h := jon_or h; rcases h with ⟨rfl, h⟩ | ⟨a3, rfl, h⟩
  · refine jr_ifnonnull_n jf_125_7 ?_
    refine jr_iconst jf_125_10 jc_i_0 ?_
    obtain ⟨rfl, rfl⟩ := Prod.mk.inj (Option.some.inj h)
    exact jr_retZ (x := false) jf_125_11 jmt_125
  · refine jr_ifnonnull_s jf_125_7 ?_
    refine jr_aload_n jf_125_12 rfl (jg1_ne rfl hl0) ?_
    refine jr_aload_n jf_125_13 rfl jg1_same ?_
    replace h := jgd_of h; obtain ⟨hb4, h⟩ := h
    replace h := jbd2_of h; obtain ⟨x5, μ6, hx5, h⟩ := h
    refine jr_V6_1 jf_125_14 hb4 (by omega) (r_B_gather (by omega) _ _ _ _ _ hx5) (Nat.le_of_ble_eq_true rfl) jml_126 (by simp only [jcats_cons, jcats_nil, cat_int, cat_long, cat_double, cat_float, cat_ref, rv_cat]; decide) ?_
    refine jr_istore_n jf_125_17 rfl jml_125 (by decide) ?_
    refine jr_iconst jf_125_18 jc_i_0 ?_
    refine jr_istore jf_125_19 jml_125 (by decide) ?_
    exact r_B_reset_21 hd _ _ _ _ _ _ _ _ (jg1_ne rfl (jg1_ne rfl (jg1_ne rfl hl0))) (jg1_pre rfl jg1_same) jg1_same h
set_option maxRecDepth 10000 in
set_option maxHeartbeats 4000000 in
theorem r_B_reset {N B : Nat} {SA : Nat → Nat} {d : Nat} (hd : 3 ≤ d) : ∀ (v0 : Nat) (v1 : Int32) (μ : JMem) (r : Bool) (μ9 : JMem), g_B_reset N B v0 v1 μ = some (r, μ9) → jR B SA d m_B_reset 0 (lv_args 0 [.ref v0, .int v1]) [] μ (some (.int (jb r))) μ9 := by
  intro v0 v1 μ r μ9 h
  exact r_B_reset_e hd (lv_args 0 _) _ _ _ _ _ (by simp [lv_args, jget, rv_cat, cat_int, cat_long, cat_double, cat_float, cat_ref]) (by simp [lv_args, jget, rv_cat, cat_int, cat_long, cat_double, cat_float, cat_ref]) h
/-! FilterBench$Row.save([JI)I -/
set_option maxRecDepth 10000 in
set_option maxHeartbeats 4000000 in
theorem r_Row_save_35 {N B : Nat} {SA : Nat → Nat} {d : Nat} (hd : 2 ≤ d) {k2 : Nat → Option Nat → Int32 → Int32 → JMem → Option (Int32 × JMem)} (i2 : ∀ (L : JLoc) (v0 : Nat) (v1 : Option Nat) (v2 : Int32) (v3 : Int32) (μ : JMem) (r : Int32) (μ9 : JMem), jget L 0 = .ref v0 → jget L 1 = rv v1 → jget L 2 = .int v2 → jget L 3 = .int v3 → k2 v0 v1 v2 v3 μ = some (r, μ9) → jR B SA d m_Row_save 2 L [] μ (some (.int r)) μ9) : ∀ (L : JLoc) (v0 : Nat) (v1 : Option Nat) (v2 : Int32) (v3 : Int32) (μ : JMem) (r : Int32) (μ9 : JMem), jget L 0 = .ref v0 → jget L 1 = rv v1 → jget L 2 = .int v2 → jget L 3 = .int v3 → g_Row_save_35 N B k2 v0 v1 v2 v3 μ = some (r, μ9) → jR B SA d m_Row_save 35 L [] μ (some (.int r)) μ9 := by
  intro L v0 v1 v2 v3 μ r μ9 hl0 hl1 hl2 hl3 h
  unfold g_Row_save_35 at h
  refine jr_iinc jf_138_35 jc_i_1 jml_138 (by decide) hl3 ?_
  refine jr_goto jf_138_38 ?_
  exact i2 _ _ _ _ _ _ _ _ (jg1_ne rfl hl0) (jg1_ne rfl hl1) (jg1_pre rfl hl2) jg1_same h
set_option maxRecDepth 10000 in
set_option maxHeartbeats 4000000 in
theorem r_Row_save_2 {N B : Nat} {SA : Nat → Nat} {d : Nat} (hd : 2 ≤ d) : ∀ (n : Nat), ∀ (L : JLoc) (v0 : Nat) (v1 : Option Nat) (v2 : Int32) (v3 : Int32) (μ : JMem) (r : Int32) (μ9 : JMem), jget L 0 = .ref v0 → jget L 1 = rv v1 → jget L 2 = .int v2 → jget L 3 = .int v3 → g_Row_save_2 N B n v0 v1 v2 v3 μ = some (r, μ9) → jR B SA d m_Row_save 2 L [] μ (some (.int r)) μ9 := by
  intro n
  induction n with
  | zero =>
    intro L v0 v1 v2 v3 μ r μ9 hl0 hl1 hl2 hl3 h
    unfold g_Row_save_2 at h
    cases h
  | succ n ih =>
    intro L v0 v1 v2 v3 μ r μ9 hl0 hl1 hl2 hl3 h
    unfold g_Row_save_2 at h
    refine jr_iload_n jf_138_2 rfl hl3 ?_
    refine jr_aload_n jf_138_3 rfl hl0 ?_
    replace h := obd_of h; obtain ⟨x1, hx1, h⟩ := h
    refine jr_getA jf_138_4 hx1 ?_
    replace h := obd_of h; obtain ⟨a2, rfl, h⟩ := h
    replace h := obd_of h; obtain ⟨x3, hx3, h⟩ := h
    refine jr_arraylength jf_138_7 hx3 ?_
    replace h := ite_or h; rcases h with ⟨hc, h⟩ | ⟨hc, h⟩
    · refine jr_if2_ge_t jf_138_8 hc ?_
      refine jr_iload_n jf_138_41 rfl hl2 ?_
      refine jr_aload_n jf_138_42 rfl hl0 ?_
      replace h := obd_of h; obtain ⟨x4, hx4, h⟩ := h
      refine jr_getA jf_138_43 hx4 ?_
      replace h := obd_of h; obtain ⟨a5, rfl, h⟩ := h
      replace h := obd_of h; obtain ⟨x6, hx6, h⟩ := h
      refine jr_arraylength jf_138_46 hx6 ?_
      refine jr_iadd jf_138_47 ?_
      obtain ⟨rfl, rfl⟩ := Prod.mk.inj (Option.some.inj h)
      exact jr_retI jf_138_48 jmt_138
    · refine jr_if2_ge_f jf_138_8 hc ?_
      refine jr_iload_n jf_138_11 rfl hl2 ?_
      refine jr_iload_n jf_138_12 rfl hl3 ?_
      refine jr_iadd jf_138_13 ?_
      replace h := ite_or h; rcases h with ⟨hc, h⟩ | ⟨hc, h⟩
      · refine jr_if_lt_t jf_138_14 hc ?_
        exact r_Row_save_35 hd ih _ _ _ _ _ _ _ _ hl0 hl1 hl2 hl3 h
      · refine jr_if_lt_f jf_138_14 hc ?_
        refine jr_iload_n jf_138_17 rfl hl2 ?_
        refine jr_iload_n jf_138_18 rfl hl3 ?_
        refine jr_iadd jf_138_19 ?_
        refine jr_aload_n_A jf_138_20 rfl hl1 ?_
        replace h := obd_of h; obtain ⟨a7, rfl, h⟩ := h
        replace h := obd_of h; obtain ⟨x8, hx8, h⟩ := h
        refine jr_arraylength jf_138_21 hx8 ?_
        replace h := ite_or h; rcases h with ⟨hc, h⟩ | ⟨hc, h⟩
        · refine jr_if2_ge_t jf_138_22 hc ?_
          exact r_Row_save_35 hd ih _ _ (some _) _ _ _ _ _ hl0 hl1 hl2 hl3 h
        · refine jr_if2_ge_f jf_138_22 hc ?_
          refine jr_aload_n jf_138_25 rfl hl1 ?_
          refine jr_iload_n jf_138_26 rfl hl2 ?_
          refine jr_iload_n jf_138_27 rfl hl3 ?_
          refine jr_iadd jf_138_28 ?_
          refine jr_aload_n jf_138_29 rfl hl0 ?_
          refine jr_iload_n jf_138_30 rfl hl3 ?_
          replace h := jgd_of h; obtain ⟨hb9, h⟩ := h
          replace h := obd_of h; obtain ⟨x10, hx10, h⟩ := h
          refine jr_V6_1 jf_138_31 hb9 (by omega) (r_Row_at (by omega) _ _ _ _ hx10) (Nat.le_of_ble_eq_true rfl) jml_38 (Nat.le_of_ble_eq_true rfl) ?_
          replace h := obd_of h; obtain ⟨μ11, hμ11, h⟩ := h
          refine jr_lastore jf_138_34 hμ11 ?_
          exact r_Row_save_35 hd ih _ _ (some _) _ _ _ _ _ hl0 hl1 hl2 hl3 h
set_option maxRecDepth 10000 in
set_option maxHeartbeats 4000000 in
theorem r_Row_save_e {N B : Nat} {SA : Nat → Nat} {d : Nat} (hd : 2 ≤ d) : ∀ (L : JLoc) (v0 : Nat) (v1 : Option Nat) (v2 : Int32) (μ : JMem) (r : Int32) (μ9 : JMem), jget L 0 = .ref v0 → jget L 1 = rv v1 → jget L 2 = .int v2 → g_Row_save N B v0 v1 v2 μ = some (r, μ9) → jR B SA d m_Row_save 0 L [] μ (some (.int r)) μ9 := by
  intro L v0 v1 v2 μ r μ9 hl0 hl1 hl2 h
  unfold g_Row_save at h
  refine jr_iconst jf_138_0 jc_i_0 ?_
  refine jr_istore_n jf_138_1 rfl jml_138 (by decide) ?_
  exact r_Row_save_2 hd _ _ _ _ _ _ _ _ _ (jg1_ne rfl hl0) (jg1_ne rfl hl1) (jg1_pre rfl hl2) jg1_same h
set_option maxRecDepth 10000 in
set_option maxHeartbeats 4000000 in
theorem r_Row_save {N B : Nat} {SA : Nat → Nat} {d : Nat} (hd : 2 ≤ d) : ∀ (v0 : Nat) (v1 : Option Nat) (v2 : Int32) (μ : JMem) (r : Int32) (μ9 : JMem), g_Row_save N B v0 v1 v2 μ = some (r, μ9) → jR B SA d m_Row_save 0 (lv_args 0 [.ref v0, rv v1, .int v2]) [] μ (some (.int r)) μ9 := by
  intro v0 v1 v2 μ r μ9 h
  exact r_Row_save_e hd (lv_args 0 _) _ _ _ _ _ _ (by simp [lv_args, jget, rv_cat, cat_int, cat_long, cat_double, cat_float, cat_ref]) (by simp [lv_args, jget, rv_cat, cat_int, cat_long, cat_double, cat_float, cat_ref]) (by simp [lv_args, jget, rv_cat, cat_int, cat_long, cat_double, cat_float, cat_ref]) h
/-! FilterBench$Chain.save([JI)I -/
set_option maxRecDepth 10000 in
set_option maxHeartbeats 4000000 in
theorem r_Chain_save_38 {N B : Nat} {SA : Nat → Nat} {d : Nat} (hd : 3 ≤ d) {k5 : Nat → Option Nat → Int32 → Int32 → JMem → Option (Int32 × JMem)} (i5 : ∀ (L : JLoc) (v0 : Nat) (v1 : Option Nat) (v3 : Int32) (v4 : Int32) (μ : JMem) (r : Int32) (μ9 : JMem), jget L 0 = .ref v0 → jget L 1 = rv v1 → jget L 3 = .int v3 → jget L 4 = .int v4 → k5 v0 v1 v3 v4 μ = some (r, μ9) → jR B SA d m_Chain_save 5 L [] μ (some (.int r)) μ9) : ∀ (L : JLoc) (v0 : Nat) (v1 : Option Nat) (v4 : Int32) (s0 : Int32) (μ : JMem) (r : Int32) (μ9 : JMem), jget L 0 = .ref v0 → jget L 1 = rv v1 → jget L 4 = .int v4 → g_Chain_save_38 N B k5 v0 v1 v4 s0 μ = some (r, μ9) → jR B SA d m_Chain_save 38 L [.int s0] μ (some (.int r)) μ9 := by
  intro L v0 v1 v4 s0 μ r μ9 hl0 hl1 hl4 h
  unfold g_Chain_save_38 at h
  refine jr_istore_n jf_137_38 rfl jml_137 (by decide) ?_
  refine jr_iinc jf_137_39 jc_i_1 jml_137 (by decide) (jg1_ne rfl hl4) ?_
  refine jr_goto jf_137_42 ?_
  exact i5 _ _ _ _ _ _ _ _ (jg1_ne rfl (jg1_ne rfl hl0)) (jg1_ne rfl (jg1_ne rfl hl1)) (jg1_pre rfl jg1_same) jg1_same h
set_option maxRecDepth 10000 in
set_option maxHeartbeats 4000000 in
theorem r_Chain_save_5 {N B : Nat} {SA : Nat → Nat} {d : Nat} (hd : 3 ≤ d) : ∀ (n : Nat), ∀ (L : JLoc) (v0 : Nat) (v1 : Option Nat) (v3 : Int32) (v4 : Int32) (μ : JMem) (r : Int32) (μ9 : JMem), jget L 0 = .ref v0 → jget L 1 = rv v1 → jget L 3 = .int v3 → jget L 4 = .int v4 → g_Chain_save_5 N B n v0 v1 v3 v4 μ = some (r, μ9) → jR B SA d m_Chain_save 5 L [] μ (some (.int r)) μ9 := by
  intro n
  induction n with
  | zero =>
    intro L v0 v1 v3 v4 μ r μ9 hl0 hl1 hl3 hl4 h
    unfold g_Chain_save_5 at h
    cases h
  | succ n ih =>
    intro L v0 v1 v3 v4 μ r μ9 hl0 hl1 hl3 hl4 h
    unfold g_Chain_save_5 at h
    refine jr_iload jf_137_5 hl4 ?_
    refine jr_aload_n jf_137_7 rfl hl0 ?_
    replace h := jgd_of h; obtain ⟨hb1, h⟩ := h
    replace h := obd_of h; obtain ⟨x2, hx2, h⟩ := h
    refine jr_V6_0 jf_137_8 hb1 (by omega) (r_Chain_rowCount (by omega) _ _ _ hx2) (Nat.le_of_ble_eq_true rfl) jml_129 (Nat.le_of_ble_eq_true rfl) ?_
    replace h := ite_or h; rcases h with ⟨hc, h⟩ | ⟨hc, h⟩
    · refine jr_if2_ge_t jf_137_11 hc ?_
      refine jr_iload_n jf_137_45 rfl hl3 ?_
      obtain ⟨rfl, rfl⟩ := Prod.mk.inj (Option.some.inj h)
      exact jr_retI jf_137_46 jmt_137
    · refine jr_if2_ge_f jf_137_11 hc ?_
      refine jr_aload_n jf_137_14 rfl hl0 ?_
      refine jr_iload jf_137_15 hl4 ?_
      replace h := jgd_of h; obtain ⟨hb3, h⟩ := h
      replace h := obd_of h; obtain ⟨x4, hx4, h⟩ := h
      refine jr_V6_1 jf_137_17 hb3 (by omega) (r_Chain_rowAt (by omega) _ _ _ _ hx4) (Nat.le_of_ble_eq_true rfl) jml_130 (Nat.le_of_ble_eq_true rfl) ?_
      refine jr_astore_A jf_137_20 jml_137 (by decide) ?_
      refine jr_aload_A jf_137_22 jg1_same ?_
      replace h := jon_or h; rcases h with ⟨rfl, h⟩ | ⟨a5, rfl, h⟩
      · refine jr_ifnonnull_n jf_137_24 ?_
        refine jr_iload_n jf_137_27 rfl (jg1_ne rfl hl3) ?_
        refine jr_goto jf_137_28 ?_
        exact r_Chain_save_38 hd ih _ _ _ _ _ _ _ _ (jg1_ne rfl hl0) (jg1_ne rfl hl1) (jg1_pre rfl hl4) h
      · refine jr_ifnonnull_s jf_137_24 ?_
        refine jr_aload jf_137_31 jg1_same ?_
        refine jr_aload_n_A jf_137_33 rfl (jg1_ne rfl hl1) ?_
        refine jr_iload_n jf_137_34 rfl (jg1_ne rfl hl3) ?_
        replace h := jgd_of h; obtain ⟨hb6, h⟩ := h
        replace h := jbd2_of h; obtain ⟨x7, μ8, hx7, h⟩ := h
        refine jr_V6_2 jf_137_35 hb6 (by omega) (r_Row_save (by omega) _ _ _ _ _ _ hx7) (Nat.le_of_ble_eq_true rfl) jml_138 (by simp only [jcats_cons, jcats_nil, cat_int, cat_long, cat_double, cat_float, cat_ref, rv_cat]; decide) ?_
        exact r_Chain_save_38 hd ih _ _ _ _ _ _ _ _ (jg1_ne rfl hl0) (jg1_ne rfl hl1) (jg1_pre rfl hl4) h
set_option maxRecDepth 10000 in
set_option maxHeartbeats 4000000 in
theorem r_Chain_save_e {N B : Nat} {SA : Nat → Nat} {d : Nat} (hd : 3 ≤ d) : ∀ (L : JLoc) (v0 : Nat) (v1 : Option Nat) (v2 : Int32) (μ : JMem) (r : Int32) (μ9 : JMem), jget L 0 = .ref v0 → jget L 1 = rv v1 → jget L 2 = .int v2 → g_Chain_save N B v0 v1 v2 μ = some (r, μ9) → jR B SA d m_Chain_save 0 L [] μ (some (.int r)) μ9 := by
  intro L v0 v1 v2 μ r μ9 hl0 hl1 hl2 h
  unfold g_Chain_save at h
  refine jr_iload_n jf_137_0 rfl hl2 ?_
  refine jr_istore_n jf_137_1 rfl jml_137 (by decide) ?_
  refine jr_iconst jf_137_2 jc_i_0 ?_
  refine jr_istore jf_137_3 jml_137 (by decide) ?_
  exact r_Chain_save_5 hd _ _ _ _ _ _ _ _ _ (jg1_ne rfl (jg1_ne rfl hl0)) (jg1_ne rfl (jg1_ne rfl hl1)) (jg1_pre rfl jg1_same) jg1_same h
set_option maxRecDepth 10000 in
set_option maxHeartbeats 4000000 in
theorem r_Chain_save {N B : Nat} {SA : Nat → Nat} {d : Nat} (hd : 3 ≤ d) : ∀ (v0 : Nat) (v1 : Option Nat) (v2 : Int32) (μ : JMem) (r : Int32) (μ9 : JMem), g_Chain_save N B v0 v1 v2 μ = some (r, μ9) → jR B SA d m_Chain_save 0 (lv_args 0 [.ref v0, rv v1, .int v2]) [] μ (some (.int r)) μ9 := by
  intro v0 v1 v2 μ r μ9 h
  exact r_Chain_save_e hd (lv_args 0 _) _ _ _ _ _ _ (by simp [lv_args, jget, rv_cat, cat_int, cat_long, cat_double, cat_float, cat_ref]) (by simp [lv_args, jget, rv_cat, cat_int, cat_long, cat_double, cat_float, cat_ref]) (by simp [lv_args, jget, rv_cat, cat_int, cat_long, cat_double, cat_float, cat_ref]) h
/-! FilterBench$Chain.valueCount()I -/
set_option maxRecDepth 10000 in
set_option maxHeartbeats 4000000 in
theorem r_Chain_valueCount_31 {N B : Nat} {SA : Nat → Nat} {d : Nat} (hd : 2 ≤ d) {k4 : Nat → Int32 → Int32 → (Nat → Option JCell) → Option Int32} (i4 : ∀ (L : JLoc) (v0 : Nat) (v1 : Int32) (v2 : Int32) (μ : JMem) (r : Int32), jget L 0 = .ref v0 → jget L 1 = .int v1 → jget L 2 = .int v2 → k4 v0 v1 v2 μ.1 = some r → jR B SA d m_Chain_valueCount 4 L [] μ (some (.int r)) μ) : ∀ (L : JLoc) (v0 : Nat) (v2 : Int32) (s0 : Int32) (s1 : Int32) (μ : JMem) (r : Int32), jget L 0 = .ref v0 → jget L 2 = .int v2 → g_Chain_valueCount_31 N k4 v0 v2 s0 s1 μ.1 = some r → jR B SA d m_Chain_valueCount 31 L [.int s0, .int s1] μ (some (.int r)) μ := by
  intro L v0 v2 s0 s1 μ r hl0 hl2 h
  unfold g_Chain_valueCount_31 at h
  refine jr_iadd jf_134_31 ?_
  refine jr_istore_n jf_134_32 rfl jml_134 (by decide) ?_
  refine jr_iinc jf_134_33 jc_i_1 jml_134 (by decide) (jg1_ne rfl hl2) ?_
  refine jr_goto jf_134_36 ?_
  exact i4 _ _ _ _ _ _ (jg1_ne rfl (jg1_pre (by first | rfl | exact rv_cat _) hl0)) (jg1_pre rfl jg1_same) jg1_same h
set_option maxRecDepth 10000 in
set_option maxHeartbeats 4000000 in
theorem r_Chain_valueCount_4 {N B : Nat} {SA : Nat → Nat} {d : Nat} (hd : 2 ≤ d) : ∀ (n : Nat), ∀ (L : JLoc) (v0 : Nat) (v1 : Int32) (v2 : Int32) (μ : JMem) (r : Int32), jget L 0 = .ref v0 → jget L 1 = .int v1 → jget L 2 = .int v2 → g_Chain_valueCount_4 N n v0 v1 v2 μ.1 = some r → jR B SA d m_Chain_valueCount 4 L [] μ (some (.int r)) μ := by
  intro n
  induction n with
  | zero =>
    intro L v0 v1 v2 μ r hl0 hl1 hl2 h
    unfold g_Chain_valueCount_4 at h
    cases h
  | succ n ih =>
    intro L v0 v1 v2 μ r hl0 hl1 hl2 h
    unfold g_Chain_valueCount_4 at h
    refine jr_iload_n jf_134_4 rfl hl2 ?_
    refine jr_aload_n jf_134_5 rfl hl0 ?_
    replace h := jgd_of h; obtain ⟨hb1, h⟩ := h
    replace h := obd_of h; obtain ⟨x2, hx2, h⟩ := h
    refine jr_V6_0 jf_134_6 hb1 (by omega) (r_Chain_rowCount (by omega) _ _ _ hx2) (Nat.le_of_ble_eq_true rfl) jml_129 (Nat.le_of_ble_eq_true rfl) ?_
    replace h := ite_or h; rcases h with ⟨hc, h⟩ | ⟨hc, h⟩
    · refine jr_if2_ge_t jf_134_9 hc ?_
      refine jr_iload_n jf_134_39 rfl hl1 ?_
      obtain rfl := Option.some.inj h
      exact jr_retI jf_134_40 jmt_134
    · refine jr_if2_ge_f jf_134_9 hc ?_
      refine jr_aload_n jf_134_12 rfl hl0 ?_
      refine jr_iload_n jf_134_13 rfl hl2 ?_
      replace h := jgd_of h; obtain ⟨hb3, h⟩ := h
      replace h := obd_of h; obtain ⟨x4, hx4, h⟩ := h
      refine jr_V6_1 jf_134_14 hb3 (by omega) (r_Chain_rowAt (by omega) _ _ _ _ hx4) (Nat.le_of_ble_eq_true rfl) jml_130 (Nat.le_of_ble_eq_true rfl) ?_
      refine jr_astore_n_A jf_134_17 rfl jml_134 (by decide) ?_
      refine jr_iload_n jf_134_18 rfl (jg1_ne rfl hl1) ?_
      refine jr_aload_n_A jf_134_19 rfl jg1_same ?_
      replace h := jon_or h; rcases h with ⟨rfl, h⟩ | ⟨a5, rfl, h⟩
      · refine jr_ifnonnull_n jf_134_20 ?_
        refine jr_iconst jf_134_23 jc_i_0 ?_
        refine jr_goto jf_134_24 ?_
        exact r_Chain_valueCount_31 hd ih _ _ _ _ _ _ _ (jg1_ne rfl hl0) (jg1_pre rfl hl2) h
      · refine jr_ifnonnull_s jf_134_20 ?_
        refine jr_aload_n jf_134_27 rfl jg1_same ?_
        replace h := jgd_of h; obtain ⟨hb6, h⟩ := h
        replace h := obd_of h; obtain ⟨x7, hx7, h⟩ := h
        refine jr_V6_0 jf_134_28 hb6 (by omega) (r_Row_size (by omega) _ _ _ hx7) (Nat.le_of_ble_eq_true rfl) jml_100 (Nat.le_of_ble_eq_true rfl) ?_
        exact r_Chain_valueCount_31 hd ih _ _ _ _ _ _ _ (jg1_ne rfl hl0) (jg1_pre rfl hl2) h
set_option maxRecDepth 10000 in
set_option maxHeartbeats 4000000 in
theorem r_Chain_valueCount_e {N B : Nat} {SA : Nat → Nat} {d : Nat} (hd : 2 ≤ d) : ∀ (L : JLoc) (v0 : Nat) (μ : JMem) (r : Int32), jget L 0 = .ref v0 → g_Chain_valueCount N v0 μ.1 = some r → jR B SA d m_Chain_valueCount 0 L [] μ (some (.int r)) μ := by
  intro L v0 μ r hl0 h
  unfold g_Chain_valueCount at h
  refine jr_iconst jf_134_0 jc_i_0 ?_
  refine jr_istore_n jf_134_1 rfl jml_134 (by decide) ?_
  refine jr_iconst jf_134_2 jc_i_0 ?_
  refine jr_istore_n jf_134_3 rfl jml_134 (by decide) ?_
  exact r_Chain_valueCount_4 hd _ _ _ _ _ _ _ (jg1_ne rfl (jg1_pre (by first | rfl | exact rv_cat _) hl0)) (jg1_pre rfl jg1_same) jg1_same h
set_option maxRecDepth 10000 in
set_option maxHeartbeats 4000000 in
theorem r_Chain_valueCount {N B : Nat} {SA : Nat → Nat} {d : Nat} (hd : 2 ≤ d) : ∀ (v0 : Nat) (μ : JMem) (r : Int32), g_Chain_valueCount N v0 μ.1 = some r → jR B SA d m_Chain_valueCount 0 (lv_args 0 [.ref v0]) [] μ (some (.int r)) μ := by
  intro v0 μ r h
  exact r_Chain_valueCount_e hd (lv_args 0 _) _ _ _ (by simp [lv_args, jget, rv_cat, cat_int, cat_long, cat_double, cat_float, cat_ref]) h
/-! FilterBench$Kept.<init>(LFilterBench$Chain;II)V -/
set_option maxRecDepth 10000 in
set_option maxHeartbeats 4000000 in
theorem r_Kept_init_36 {B : Nat} {SA : Nat → Nat} {d : Nat} (hd : 1 ≤ d) : ∀ (L : JLoc) (s0 : Int32) (s1 : Nat) (μ : JMem) (μ9 : JMem), g_Kept_init_36 B s0 s1 μ = some μ9 → jR B SA d m_Kept_init 36 L [.int s0, .ref s1] μ none μ9 := by
  intro L s0 s1 μ μ9 h
  unfold g_Kept_init_36 at h
  replace h := jbd2_of h; obtain ⟨a1, μ2, ha1, h⟩ := h
  refine jr_newarray jf_135_36 rfl ha1 ?_
  replace h := obd_of h; obtain ⟨μ3, hμ3, h⟩ := h
  refine jr_putA (x := some _) jf_135_38 rfl hμ3 ?_
  obtain rfl := Option.some.inj h
  exact jr_return jf_135_41 jmt_135
set_option maxRecDepth 10000 in
set_option maxHeartbeats 4000000 in
theorem r_Kept_init_21 {B : Nat} {SA : Nat → Nat} {d : Nat} (hd : 1 ≤ d) : ∀ (L : JLoc) (v0 : Nat) (v3 : Int32) (s0 : Int32) (s1 : Nat) (μ : JMem) (μ9 : JMem), jget L 0 = .ref v0 → jget L 3 = .int v3 → g_Kept_init_21 B v0 v3 s0 s1 μ = some μ9 → jR B SA d m_Kept_init 21 L [.int s0, .ref s1] μ none μ9 := by
  intro L v0 v3 s0 s1 μ μ9 hl0 hl3 h
  unfold g_Kept_init_21 at h
  replace h := jbd2_of h; obtain ⟨a1, μ2, ha1, h⟩ := h
  refine jr_newarray jf_135_21 rfl ha1 ?_
  replace h := obd_of h; obtain ⟨μ3, hμ3, h⟩ := h
  refine jr_putA (x := some _) jf_135_23 rfl hμ3 ?_
  refine jr_aload_n jf_135_26 rfl hl0 ?_
  refine jr_iload_n jf_135_27 rfl hl3 ?_
  replace h := ite_or h; rcases h with ⟨hc, h⟩ | ⟨hc, h⟩
  · refine jr_if_ge_t jf_135_28 hc ?_
    refine jr_iload_n jf_135_35 rfl hl3 ?_
    exact r_Kept_init_36 hd _ _ _ _ _ h
  · refine jr_if_ge_f jf_135_28 hc ?_
    refine jr_iconst jf_135_31 jc_i_0 ?_
    refine jr_goto jf_135_32 ?_
    exact r_Kept_init_36 hd _ _ _ _ _ h
set_option maxRecDepth 10000 in
set_option maxHeartbeats 4000000 in
theorem r_Kept_init_e {B : Nat} {SA : Nat → Nat} {d : Nat} (hd : 1 ≤ d) : ∀ (L : JLoc) (v0 : Nat) (v1 : Option Nat) (v2 : Int32) (v3 : Int32) (μ : JMem) (μ9 : JMem), jget L 0 = .ref v0 → jget L 1 = rv v1 → jget L 2 = .int v2 → jget L 3 = .int v3 → g_Kept_init B v0 v1 v2 v3 μ = some μ9 → jR B SA d m_Kept_init 0 L [] μ none μ9 := by
  intro L v0 v1 v2 v3 μ μ9 hl0 hl1 hl2 hl3 h
  unfold g_Kept_init at h
  refine jr_aload_n jf_135_0 rfl hl0 ?_
  refine jr_oinit jf_135_1 (by omega) (Nat.le_of_ble_eq_true rfl) ?_
  refine jr_aload_n jf_135_4 rfl hl0 ?_
  refine jr_aload_n_A jf_135_5 rfl hl1 ?_
  replace h := obd_of h; obtain ⟨μ1, hμ1, h⟩ := h
  refine jr_putA jf_135_6 rfl hμ1 ?_
  refine jr_aload_n jf_135_9 rfl hl0 ?_
  refine jr_iload_n jf_135_10 rfl hl2 ?_
  replace h := ite_or h; rcases h with ⟨hc, h⟩ | ⟨hc, h⟩
  · refine jr_if_ge_t jf_135_11 hc ?_
    refine jr_iload_n jf_135_18 rfl hl2 ?_
    refine jr_iconst jf_135_19 jc_i_3 ?_
    refine jr_imul jf_135_20 ?_
    exact r_Kept_init_21 hd _ _ _ _ _ _ _ hl0 hl3 h
  · refine jr_if_ge_f jf_135_11 hc ?_
    refine jr_iconst jf_135_14 jc_i_0 ?_
    refine jr_goto jf_135_15 ?_
    exact r_Kept_init_21 hd _ _ _ _ _ _ _ hl0 hl3 h
set_option maxRecDepth 10000 in
set_option maxHeartbeats 4000000 in
theorem r_Kept_init {B : Nat} {SA : Nat → Nat} {d : Nat} (hd : 1 ≤ d) : ∀ (v0 : Nat) (v1 : Option Nat) (v2 : Int32) (v3 : Int32) (μ : JMem) (μ9 : JMem), g_Kept_init B v0 v1 v2 v3 μ = some μ9 → jR B SA d m_Kept_init 0 (lv_args 0 [.ref v0, rv v1, .int v2, .int v3]) [] μ none μ9 := by
  intro v0 v1 v2 v3 μ μ9 h
  exact r_Kept_init_e hd (lv_args 0 _) _ _ _ _ _ _ (by simp [lv_args, jget, rv_cat, cat_int, cat_long, cat_double, cat_float, cat_ref]) (by simp [lv_args, jget, rv_cat, cat_int, cat_long, cat_double, cat_float, cat_ref]) (by simp [lv_args, jget, rv_cat, cat_int, cat_long, cat_double, cat_float, cat_ref]) (by simp [lv_args, jget, rv_cat, cat_int, cat_long, cat_double, cat_float, cat_ref]) h
/-! FilterBench$Kept.shape(ILFilterBench$Chain;)V -/
set_option maxRecDepth 10000 in
set_option maxHeartbeats 4000000 in
theorem r_Kept_shape_e {B : Nat} {SA : Nat → Nat} {d : Nat} (hd : 0 ≤ d) : ∀ (L : JLoc) (v0 : Nat) (v1 : Int32) (v2 : Option Nat) (μ : JMem) (μ9 : JMem), jget L 0 = .ref v0 → jget L 1 = .int v1 → jget L 2 = rv v2 → g_Kept_shape B v0 v1 v2 μ = some μ9 → jR B SA d m_Kept_shape 0 L [] μ none μ9 := by
  intro L v0 v1 v2 μ μ9 hl0 hl1 hl2 h
  unfold g_Kept_shape at h
  refine jr_iload_n jf_136_0 rfl hl1 ?_
  refine jr_iconst jf_136_1 jc_i_3 ?_
  refine jr_imul jf_136_2 ?_
  refine jr_istore_n jf_136_3 rfl jml_136 (by decide) ?_
  refine jr_iload_n jf_136_4 rfl jg1_same ?_
  replace h := ite_or h; rcases h with ⟨hc, h⟩ | ⟨hc, h⟩
  · refine jr_if_lt_t jf_136_5 hc ?_
    obtain rfl := Option.some.inj h
    exact jr_return jf_136_53 jmt_136
  · refine jr_if_lt_f jf_136_5 hc ?_
    refine jr_iload_n jf_136_8 rfl jg1_same ?_
    refine jr_iconst jf_136_9 jc_i_2 ?_
    refine jr_iadd jf_136_10 ?_
    refine jr_aload_n jf_136_11 rfl (jg1_ne rfl hl0) ?_
    replace h := obd_of h; obtain ⟨x1, hx1, h⟩ := h
    refine jr_getA jf_136_12 hx1 ?_
    replace h := obd_of h; obtain ⟨a2, rfl, h⟩ := h
    replace h := obd_of h; obtain ⟨x3, hx3, h⟩ := h
    refine jr_arraylength jf_136_15 hx3 ?_
    replace h := ite_or h; rcases h with ⟨hc, h⟩ | ⟨hc, h⟩
    · refine jr_if2_ge_t jf_136_16 hc ?_
      obtain rfl := Option.some.inj h
      exact jr_return jf_136_53 jmt_136
    · refine jr_if2_ge_f jf_136_16 hc ?_
      refine jr_aload_n jf_136_19 rfl (jg1_ne rfl hl0) ?_
      replace h := obd_of h; obtain ⟨x4, hx4, h⟩ := h
      refine jr_getA jf_136_20 hx4 ?_
      refine jr_iload_n jf_136_23 rfl jg1_same ?_
      refine jr_aload_n_A jf_136_24 rfl (jg1_pre (by first | rfl | exact rv_cat _) hl2) ?_
      replace h := obd_of h; obtain ⟨a5, rfl, h⟩ := h
      replace h := obd_of h; obtain ⟨x6, hx6, h⟩ := h
      refine jr_getI jf_136_25 hx6 ?_
      replace h := obd_of h; obtain ⟨a7, rfl, h⟩ := h
      replace h := obd_of h; obtain ⟨μ8, hμ8, h⟩ := h
      refine jr_iastore jf_136_28 hμ8 ?_
      refine jr_aload_n jf_136_29 rfl (jg1_ne rfl hl0) ?_
      replace h := obd_of h; obtain ⟨x9, hx9, h⟩ := h
      refine jr_getA jf_136_30 hx9 ?_
      refine jr_iload_n jf_136_33 rfl jg1_same ?_
      refine jr_iconst jf_136_34 jc_i_1 ?_
      refine jr_iadd jf_136_35 ?_
      refine jr_aload_n jf_136_36 rfl (jg1_pre (by first | rfl | exact rv_cat _) hl2) ?_
      replace h := obd_of h; obtain ⟨x10, hx10, h⟩ := h
      refine jr_getI jf_136_37 hx10 ?_
      replace h := obd_of h; obtain ⟨a11, rfl, h⟩ := h
      replace h := obd_of h; obtain ⟨μ12, hμ12, h⟩ := h
      refine jr_iastore jf_136_40 hμ12 ?_
      refine jr_aload_n jf_136_41 rfl (jg1_ne rfl hl0) ?_
      replace h := obd_of h; obtain ⟨x13, hx13, h⟩ := h
      refine jr_getA jf_136_42 hx13 ?_
      refine jr_iload_n jf_136_45 rfl jg1_same ?_
      refine jr_iconst jf_136_46 jc_i_2 ?_
      refine jr_iadd jf_136_47 ?_
      refine jr_aload_n jf_136_48 rfl (jg1_pre (by first | rfl | exact rv_cat _) hl2) ?_
      replace h := obd_of h; obtain ⟨x14, hx14, h⟩ := h
      refine jr_getI jf_136_49 hx14 ?_
      replace h := obd_of h; obtain ⟨a15, rfl, h⟩ := h
      replace h := obd_of h; obtain ⟨μ16, hμ16, h⟩ := h
      refine jr_iastore jf_136_52 hμ16 ?_
      obtain rfl := Option.some.inj h
      exact jr_return jf_136_53 jmt_136
set_option maxRecDepth 10000 in
set_option maxHeartbeats 4000000 in
theorem r_Kept_shape {B : Nat} {SA : Nat → Nat} {d : Nat} (hd : 0 ≤ d) : ∀ (v0 : Nat) (v1 : Int32) (v2 : Option Nat) (μ : JMem) (μ9 : JMem), g_Kept_shape B v0 v1 v2 μ = some μ9 → jR B SA d m_Kept_shape 0 (lv_args 0 [.ref v0, .int v1, rv v2]) [] μ none μ9 := by
  intro v0 v1 v2 μ μ9 h
  exact r_Kept_shape_e hd (lv_args 0 _) _ _ _ _ _ (by simp [lv_args, jget, rv_cat, cat_int, cat_long, cat_double, cat_float, cat_ref]) (by simp [lv_args, jget, rv_cat, cat_int, cat_long, cat_double, cat_float, cat_ref]) (by simp [lv_args, jget, rv_cat, cat_int, cat_long, cat_double, cat_float, cat_ref]) h
/-! FilterBench.keep(I)I -/
set_option maxRecDepth 10000 in
set_option maxHeartbeats 4000000 in
theorem r_B_keep_85 {N B : Nat} {SA : Nat → Nat} {d : Nat} (hd : 4 ≤ d) {k43 : Nat → Nat → Int32 → Int32 → Int32 → JMem → Option (Int32 × JMem)} (i43 : ∀ (L : JLoc) (v0 : Nat) (v2 : Nat) (v3 : Int32) (v4 : Int32) (v5 : Int32) (μ : JMem) (r : Int32) (μ9 : JMem), jget L 0 = .ref v0 → jget L 2 = .ref v2 → jget L 3 = .int v3 → jget L 4 = .int v4 → jget L 5 = .int v5 → k43 v0 v2 v3 v4 v5 μ = some (r, μ9) → jR B SA d m_B_keep 43 L [] μ (some (.int r)) μ9) : ∀ (L : JLoc) (v0 : Nat) (v2 : Nat) (v3 : Int32) (v5 : Int32) (s0 : Int32) (s1 : Int32) (μ : JMem) (r : Int32) (μ9 : JMem), jget L 0 = .ref v0 → jget L 2 = .ref v2 → jget L 3 = .int v3 → jget L 5 = .int v5 → g_B_keep_85 N B k43 v0 v2 v3 v5 s0 s1 μ = some (r, μ9) → jR B SA d m_B_keep 85 L [.int s0, .int s1] μ (some (.int r)) μ9 := by
  intro L v0 v2 v3 v5 s0 s1 μ r μ9 hl0 hl2 hl3 hl5 h
  unfold g_B_keep_85 at h
  refine jr_iadd jf_133_85 ?_
  refine jr_istore jf_133_86 jml_133 (by decide) ?_
  refine jr_iinc jf_133_88 jc_i_1 jml_133 (by decide) (jg1_ne rfl hl5) ?_
  refine jr_goto jf_133_91 ?_
  exact i43 _ _ _ _ _ _ _ _ _ (jg1_ne rfl (jg1_ne rfl hl0)) (jg1_ne rfl (jg1_ne rfl hl2)) (jg1_ne rfl (jg1_pre rfl hl3)) (jg1_pre rfl jg1_same) jg1_same h
set_option maxRecDepth 10000 in
set_option maxHeartbeats 4000000 in
theorem r_B_keep_172 {N B : Nat} {SA : Nat → Nat} {d : Nat} (hd : 4 ≤ d) {k113 : Nat → Int32 → Nat → Int32 → Int32 → JMem → Option (Int32 × JMem)} (i113 : ∀ (L : JLoc) (v0 : Nat) (v3 : Int32) (v5 : Nat) (v6 : Int32) (v7 : Int32) (μ : JMem) (r : Int32) (μ9 : JMem), jget L 0 = .ref v0 → jget L 3 = .int v3 → jget L 5 = .ref v5 → jget L 6 = .int v6 → jget L 7 = .int v7 → k113 v0 v3 v5 v6 v7 μ = some (r, μ9) → jR B SA d m_B_keep 113 L [] μ (some (.int r)) μ9) : ∀ (L : JLoc) (v0 : Nat) (v3 : Int32) (v5 : Nat) (v6 : Int32) (v7 : Int32) (μ : JMem) (r : Int32) (μ9 : JMem), jget L 0 = .ref v0 → jget L 3 = .int v3 → jget L 5 = .ref v5 → jget L 6 = .int v6 → jget L 7 = .int v7 → g_B_keep_172 N B k113 v0 v3 v5 v6 v7 μ = some (r, μ9) → jR B SA d m_B_keep 172 L [] μ (some (.int r)) μ9 := by
  intro L v0 v3 v5 v6 v7 μ r μ9 hl0 hl3 hl5 hl6 hl7 h
  unfold g_B_keep_172 at h
  refine jr_iinc jf_133_172 jc_i_1 jml_133 (by decide) hl7 ?_
  refine jr_goto jf_133_175 ?_
  exact i113 _ _ _ _ _ _ _ _ _ (jg1_ne rfl hl0) (jg1_ne rfl hl3) (jg1_ne rfl hl5) (jg1_pre rfl hl6) jg1_same h
set_option maxRecDepth 10000 in
set_option maxHeartbeats 4000000 in
theorem r_B_keep_178 {N B : Nat} {SA : Nat → Nat} {d : Nat} (hd : 4 ≤ d) : ∀ (L : JLoc) (v0 : Nat) (v5 : Nat) (μ : JMem) (r : Int32) (μ9 : JMem), jget L 0 = .ref v0 → jget L 5 = .ref v5 → g_B_keep_178 N B v0 v5 μ = some (r, μ9) → jR B SA d m_B_keep 178 L [] μ (some (.int r)) μ9 := by
  intro L v0 v5 μ r μ9 hl0 hl5 h
  unfold g_B_keep_178 at h
  refine jr_aload_n jf_133_178 rfl hl0 ?_
  replace h := obd_of h; obtain ⟨x1, hx1, h⟩ := h
  refine jr_getA jf_133_179 hx1 ?_
  refine jr_aload_n jf_133_182 rfl hl0 ?_
  replace h := obd_of h; obtain ⟨x2, hx2, h⟩ := h
  refine jr_getI jf_133_183 hx2 ?_
  refine jr_aload jf_133_186 hl5 ?_
  replace h := obd_of h; obtain ⟨a3, rfl, h⟩ := h
  replace h := obd_of h; obtain ⟨μ4, hμ4, h⟩ := h
  refine jr_aastore jf_133_188 hμ4 ?_
  refine jr_aload_n jf_133_189 rfl hl0 ?_
  refine jr_dup jf_133_190 rfl ?_
  replace h := obd_of h; obtain ⟨x5, hx5, h⟩ := h
  refine jr_getI jf_133_191 hx5 ?_
  refine jr_iconst jf_133_194 jc_i_1 ?_
  refine jr_iadd jf_133_195 ?_
  replace h := obd_of h; obtain ⟨μ6, hμ6, h⟩ := h
  refine jr_putI jf_133_196 rfl hμ6 ?_
  refine jr_aload_n jf_133_199 rfl hl0 ?_
  replace h := obd_of h; obtain ⟨x7, hx7, h⟩ := h
  refine jr_getI jf_133_200 hx7 ?_
  refine jr_iconst jf_133_203 jc_i_1 ?_
  refine jr_isub jf_133_204 ?_
  obtain ⟨rfl, rfl⟩ := Prod.mk.inj (Option.some.inj h)
  exact jr_retI jf_133_205 jmt_133
set_option maxRecDepth 10000 in
set_option maxHeartbeats 4000000 in
theorem r_B_keep_113 {N B : Nat} {SA : Nat → Nat} {d : Nat} (hd : 4 ≤ d) : ∀ (n : Nat), ∀ (L : JLoc) (v0 : Nat) (v3 : Int32) (v5 : Nat) (v6 : Int32) (v7 : Int32) (μ : JMem) (r : Int32) (μ9 : JMem), jget L 0 = .ref v0 → jget L 3 = .int v3 → jget L 5 = .ref v5 → jget L 6 = .int v6 → jget L 7 = .int v7 → g_B_keep_113 N B n v0 v3 v5 v6 v7 μ = some (r, μ9) → jR B SA d m_B_keep 113 L [] μ (some (.int r)) μ9 := by
  intro n
  induction n with
  | zero =>
    intro L v0 v3 v5 v6 v7 μ r μ9 hl0 hl3 hl5 hl6 hl7 h
    unfold g_B_keep_113 at h
    cases h
  | succ n ih =>
    intro L v0 v3 v5 v6 v7 μ r μ9 hl0 hl3 hl5 hl6 hl7 h
    unfold g_B_keep_113 at h
    refine jr_iload jf_133_113 hl7 ?_
    refine jr_iload_n jf_133_115 rfl hl3 ?_
    replace h := ite_or h; rcases h with ⟨hc, h⟩ | ⟨hc, h⟩
    · refine jr_if2_ge_t jf_133_116 hc ?_
      exact r_B_keep_178 hd _ _ _ _ _ _ hl0 hl5 h
    · refine jr_if2_ge_f jf_133_116 hc ?_
      refine jr_iload jf_133_119 hl7 ?_
      refine jr_aload_n jf_133_121 rfl hl0 ?_
      replace h := obd_of h; obtain ⟨x1, hx1, h⟩ := h
      refine jr_getA jf_133_122 hx1 ?_
      replace h := obd_of h; obtain ⟨a2, rfl, h⟩ := h
      replace h := obd_of h; obtain ⟨x3, hx3, h⟩ := h
      refine jr_arraylength jf_133_125 hx3 ?_
      replace h := ite_or h; rcases h with ⟨hc, h⟩ | ⟨hc, h⟩
      · refine jr_if2_ge_t jf_133_126 hc ?_
        exact r_B_keep_178 hd _ _ _ _ _ _ hl0 hl5 h
      · refine jr_if2_ge_f jf_133_126 hc ?_
        refine jr_aload_n jf_133_129 rfl hl0 ?_
        replace h := obd_of h; obtain ⟨x4, hx4, h⟩ := h
        refine jr_getA jf_133_130 hx4 ?_
        refine jr_iload jf_133_133 hl7 ?_
        replace h := obd_of h; obtain ⟨a5, rfl, h⟩ := h
        replace h := obd_of h; obtain ⟨x6, hx6, h⟩ := h
        refine jr_aaload jf_133_135 hx6 ?_
        replace h := jon_or h; rcases h with ⟨rfl, h⟩ | ⟨a7, rfl, h⟩
        · refine jr_ifnull_n jf_133_136 ?_
          exact r_B_keep_172 hd ih _ _ _ _ _ _ _ _ _ hl0 hl3 hl5 hl6 hl7 h
        · refine jr_ifnull_s jf_133_136 ?_
          refine jr_aload jf_133_139 hl5 ?_
          refine jr_iload jf_133_141 hl7 ?_
          refine jr_aload_n jf_133_143 rfl hl0 ?_
          replace h := obd_of h; obtain ⟨x8, hx8, h⟩ := h
          refine jr_getA jf_133_144 hx8 ?_
          refine jr_iload jf_133_147 hl7 ?_
          replace h := obd_of h; obtain ⟨a9, rfl, h⟩ := h
          replace h := obd_of h; obtain ⟨x10, hx10, h⟩ := h
          refine jr_aaload jf_133_149 hx10 ?_
          replace h := jgd_of h; obtain ⟨hb11, h⟩ := h
          replace h := obd_of h; obtain ⟨μ12, hμ12, h⟩ := h
          refine jr_V6v_2 jf_133_150 hb11 (by omega) (r_Kept_shape (by omega) _ _ _ _ _ hμ12) (Nat.le_of_ble_eq_true rfl) jml_136 (by simp only [jcats_cons, jcats_nil, cat_int, cat_long, cat_double, cat_float, cat_ref, rv_cat]; decide) ?_
          refine jr_aload_n jf_133_153 rfl hl0 ?_
          replace h := obd_of h; obtain ⟨x13, hx13, h⟩ := h
          refine jr_getA jf_133_154 hx13 ?_
          refine jr_iload jf_133_157 hl7 ?_
          replace h := obd_of h; obtain ⟨a14, rfl, h⟩ := h
          replace h := obd_of h; obtain ⟨x15, hx15, h⟩ := h
          refine jr_aaload jf_133_159 hx15 ?_
          refine jr_aload jf_133_160 hl5 ?_
          replace h := obd_of h; obtain ⟨x16, hx16, h⟩ := h
          refine jr_getA jf_133_162 hx16 ?_
          refine jr_iload jf_133_165 hl6 ?_
          replace h := obd_of h; obtain ⟨a17, rfl, h⟩ := h
          replace h := jgd_of h; obtain ⟨hb18, h⟩ := h
          replace h := jbd2_of h; obtain ⟨x19, μ20, hx19, h⟩ := h
          refine jr_V6_2 jf_133_167 hb18 (by omega) (r_Chain_save (by omega) _ _ _ _ _ _ hx19) (Nat.le_of_ble_eq_true rfl) jml_137 (by simp only [jcats_cons, jcats_nil, cat_int, cat_long, cat_double, cat_float, cat_ref, rv_cat]; decide) ?_
          refine jr_istore jf_133_170 jml_133 (by decide) ?_
          exact r_B_keep_172 hd ih _ _ _ _ _ _ _ _ _ (jg1_ne rfl hl0) (jg1_ne rfl hl3) (jg1_pre (by first | rfl | exact rv_cat _) hl5) jg1_same (jg1_ne rfl hl7) h
set_option maxRecDepth 10000 in
set_option maxHeartbeats 4000000 in
theorem r_B_keep_94 {N B : Nat} {SA : Nat → Nat} {d : Nat} (hd : 4 ≤ d) : ∀ (L : JLoc) (v0 : Nat) (v2 : Nat) (v3 : Int32) (v4 : Int32) (μ : JMem) (r : Int32) (μ9 : JMem), jget L 0 = .ref v0 → jget L 2 = .ref v2 → jget L 3 = .int v3 → jget L 4 = .int v4 → g_B_keep_94 N B v0 v2 v3 v4 μ = some (r, μ9) → jR B SA d m_B_keep 94 L [] μ (some (.int r)) μ9 := by
  intro L v0 v2 v3 v4 μ r μ9 hl0 hl2 hl3 hl4 h
  unfold g_B_keep_94 at h
  replace h := jnew_of h
  refine jr_new jf_133_94 ?_
  refine jr_dup jf_133_97 rfl ?_
  refine jr_aload_n jf_133_98 rfl hl2 ?_
  refine jr_iload_n jf_133_99 rfl hl3 ?_
  refine jr_iload jf_133_100 hl4 ?_
  replace h := obd_of h; obtain ⟨μ3, hμ3, h⟩ := h
  refine jr_P1v_3 jf_133_102 (by omega) (r_Kept_init (by omega) _ _ _ _ _ _ hμ3) (Nat.le_of_ble_eq_true rfl) jml_135 (by simp only [jcats_cons, jcats_nil, cat_int, cat_long, cat_double, cat_float, cat_ref, rv_cat]; decide) ?_
  refine jr_astore jf_133_105 jml_133 (by decide) ?_
  refine jr_iconst jf_133_107 jc_i_0 ?_
  refine jr_istore jf_133_108 jml_133 (by decide) ?_
  refine jr_iconst jf_133_110 jc_i_0 ?_
  refine jr_istore jf_133_111 jml_133 (by decide) ?_
  exact r_B_keep_113 hd _ _ _ _ _ _ _ _ _ _ (jg1_ne rfl (jg1_ne rfl (jg1_ne rfl hl0))) (jg1_ne rfl (jg1_ne rfl (jg1_ne rfl hl3))) (jg1_ne rfl (jg1_pre (by first | rfl | exact rv_cat _) jg1_same)) (jg1_pre rfl jg1_same) jg1_same h
set_option maxRecDepth 10000 in
set_option maxHeartbeats 4000000 in
theorem r_B_keep_43 {N B : Nat} {SA : Nat → Nat} {d : Nat} (hd : 4 ≤ d) : ∀ (n : Nat), ∀ (L : JLoc) (v0 : Nat) (v2 : Nat) (v3 : Int32) (v4 : Int32) (v5 : Int32) (μ : JMem) (r : Int32) (μ9 : JMem), jget L 0 = .ref v0 → jget L 2 = .ref v2 → jget L 3 = .int v3 → jget L 4 = .int v4 → jget L 5 = .int v5 → g_B_keep_43 N B n v0 v2 v3 v4 v5 μ = some (r, μ9) → jR B SA d m_B_keep 43 L [] μ (some (.int r)) μ9 := by
  intro n
  induction n with
  | zero =>
    intro L v0 v2 v3 v4 v5 μ r μ9 hl0 hl2 hl3 hl4 hl5 h
    unfold g_B_keep_43 at h
    cases h
  | succ n ih =>
    intro L v0 v2 v3 v4 v5 μ r μ9 hl0 hl2 hl3 hl4 hl5 h
    unfold g_B_keep_43 at h
    refine jr_iload jf_133_43 hl5 ?_
    refine jr_iload_n jf_133_45 rfl hl3 ?_
    replace h := ite_or h; rcases h with ⟨hc, h⟩ | ⟨hc, h⟩
    · refine jr_if2_ge_t jf_133_46 hc ?_
      exact r_B_keep_94 hd _ _ _ _ _ _ _ _ hl0 hl2 hl3 hl4 h
    · refine jr_if2_ge_f jf_133_46 hc ?_
      refine jr_iload jf_133_49 hl5 ?_
      refine jr_aload_n jf_133_51 rfl hl0 ?_
      replace h := obd_of h; obtain ⟨x1, hx1, h⟩ := h
      refine jr_getA jf_133_52 hx1 ?_
      replace h := obd_of h; obtain ⟨a2, rfl, h⟩ := h
      replace h := obd_of h; obtain ⟨x3, hx3, h⟩ := h
      refine jr_arraylength jf_133_55 hx3 ?_
      replace h := ite_or h; rcases h with ⟨hc, h⟩ | ⟨hc, h⟩
      · refine jr_if2_ge_t jf_133_56 hc ?_
        exact r_B_keep_94 hd _ _ _ _ _ _ _ _ hl0 hl2 hl3 hl4 h
      · refine jr_if2_ge_f jf_133_56 hc ?_
        refine jr_iload jf_133_59 hl4 ?_
        refine jr_aload_n jf_133_61 rfl hl0 ?_
        replace h := obd_of h; obtain ⟨x4, hx4, h⟩ := h
        refine jr_getA jf_133_62 hx4 ?_
        refine jr_iload jf_133_65 hl5 ?_
        replace h := obd_of h; obtain ⟨a5, rfl, h⟩ := h
        replace h := obd_of h; obtain ⟨x6, hx6, h⟩ := h
        refine jr_aaload jf_133_67 hx6 ?_
        replace h := jon_or h; rcases h with ⟨rfl, h⟩ | ⟨a7, rfl, h⟩
        · refine jr_ifnonnull_n jf_133_68 ?_
          refine jr_iconst jf_133_71 jc_i_0 ?_
          refine jr_goto jf_133_72 ?_
          exact r_B_keep_85 hd ih _ _ _ _ _ _ _ _ _ _ hl0 hl2 hl3 hl5 h
        · refine jr_ifnonnull_s jf_133_68 ?_
          refine jr_aload_n jf_133_75 rfl hl0 ?_
          replace h := obd_of h; obtain ⟨x8, hx8, h⟩ := h
          refine jr_getA jf_133_76 hx8 ?_
          refine jr_iload jf_133_79 hl5 ?_
          replace h := obd_of h; obtain ⟨a9, rfl, h⟩ := h
          replace h := obd_of h; obtain ⟨x10, hx10, h⟩ := h
          refine jr_aaload jf_133_81 hx10 ?_
          replace h := obd_of h; obtain ⟨a11, rfl, h⟩ := h
          replace h := jgd_of h; obtain ⟨hb12, h⟩ := h
          replace h := obd_of h; obtain ⟨x13, hx13, h⟩ := h
          refine jr_V6_0 jf_133_82 hb12 (by omega) (r_Chain_valueCount (by omega) _ _ _ hx13) (Nat.le_of_ble_eq_true rfl) jml_134 (Nat.le_of_ble_eq_true rfl) ?_
          exact r_B_keep_85 hd ih _ _ _ _ _ _ _ _ _ _ hl0 hl2 hl3 hl5 h
set_option maxRecDepth 10000 in
set_option maxHeartbeats 4000000 in
theorem r_B_keep_e {N B : Nat} {SA : Nat → Nat} {d : Nat} (hd : 4 ≤ d) : ∀ (L : JLoc) (v0 : Nat) (v1 : Int32) (μ : JMem) (r : Int32) (μ9 : JMem), jget L 0 = .ref v0 → jget L 1 = .int v1 → g_B_keep N B v0 v1 μ = some (r, μ9) → jR B SA d m_B_keep 0 L [] μ (some (.int r)) μ9 := by
  intro L v0 v1 μ r μ9 hl0 hl1 h
  unfold g_B_keep at h
  refine jr_aload_n jf_133_0 rfl hl0 ?_
  refine jr_iload_n jf_133_1 rfl hl1 ?_
  replace h := jgd_of h; obtain ⟨hb1, h⟩ := h
  replace h := obd_of h; obtain ⟨x2, hx2, h⟩ := h
  refine jr_V6_1 jf_133_2 hb1 (by omega) (r_B_chainAt (by omega) _ _ _ _ hx2) (Nat.le_of_ble_eq_true rfl) jml_48 (Nat.le_of_ble_eq_true rfl) ?_
  refine jr_astore_n_A jf_133_5 rfl jml_133 (by decide) ?_
  refine jr_aload_n_A jf_133_6 rfl jg1_same ?_
  replace h := jon_or h; rcases h with ⟨rfl, h⟩ | ⟨a3, rfl, h⟩
  · refine jr_ifnull_n jf_133_7 ?_
    refine jr_iconst jf_133_29 jc_i_m1 ?_
    obtain ⟨rfl, rfl⟩ := Prod.mk.inj (Option.some.inj h)
    exact jr_retI jf_133_30 jmt_133
  · refine jr_ifnull_s jf_133_7 ?_
    refine jr_aload_n jf_133_10 rfl (jg1_ne rfl hl0) ?_
    replace h := obd_of h; obtain ⟨x4, hx4, h⟩ := h
    refine jr_getI jf_133_11 hx4 ?_
    replace h := ite_or h; rcases h with ⟨hc, h⟩ | ⟨hc, h⟩
    · refine jr_if_lt_t jf_133_14 hc ?_
      refine jr_iconst jf_133_29 jc_i_m1 ?_
      obtain ⟨rfl, rfl⟩ := Prod.mk.inj (Option.some.inj h)
      exact jr_retI jf_133_30 jmt_133
    · refine jr_if_lt_f jf_133_14 hc ?_
      refine jr_aload_n jf_133_17 rfl (jg1_ne rfl hl0) ?_
      replace h := obd_of h; obtain ⟨x5, hx5, h⟩ := h
      refine jr_getI jf_133_18 hx5 ?_
      refine jr_aload_n jf_133_21 rfl (jg1_ne rfl hl0) ?_
      replace h := obd_of h; obtain ⟨x6, hx6, h⟩ := h
      refine jr_getA jf_133_22 hx6 ?_
      replace h := obd_of h; obtain ⟨a7, rfl, h⟩ := h
      replace h := obd_of h; obtain ⟨x8, hx8, h⟩ := h
      refine jr_arraylength jf_133_25 hx8 ?_
      replace h := ite_or h; rcases h with ⟨hc, h⟩ | ⟨hc, h⟩
      · refine jr_if2_lt_t jf_133_26 hc ?_
        refine jr_aload_n jf_133_31 rfl (jg1_ne rfl hl0) ?_
        refine jr_aload_n jf_133_32 rfl jg1_same ?_
        replace h := jgd_of h; obtain ⟨hb9, h⟩ := h
        replace h := jbd2_of h; obtain ⟨x10, μ11, hx10, h⟩ := h
        refine jr_V6_1 jf_133_33 hb9 (by omega) (r_B_gather (by omega) _ _ _ _ _ hx10) (Nat.le_of_ble_eq_true rfl) jml_126 (by simp only [jcats_cons, jcats_nil, cat_int, cat_long, cat_double, cat_float, cat_ref, rv_cat]; decide) ?_
        refine jr_istore_n jf_133_36 rfl jml_133 (by decide) ?_
        refine jr_iconst jf_133_37 jc_i_0 ?_
        refine jr_istore jf_133_38 jml_133 (by decide) ?_
        refine jr_iconst jf_133_40 jc_i_0 ?_
        refine jr_istore jf_133_41 jml_133 (by decide) ?_
        exact r_B_keep_43 hd _ _ _ _ _ _ _ _ _ _ (jg1_ne rfl (jg1_ne rfl (jg1_ne rfl (jg1_ne rfl hl0)))) (jg1_ne rfl (jg1_ne rfl (jg1_pre (by first | rfl | exact rv_cat _) jg1_same))) (jg1_ne rfl (jg1_pre rfl jg1_same)) (jg1_pre rfl jg1_same) jg1_same h
      · refine jr_if2_lt_f jf_133_26 hc ?_
        refine jr_iconst jf_133_29 jc_i_m1 ?_
        obtain ⟨rfl, rfl⟩ := Prod.mk.inj (Option.some.inj h)
        exact jr_retI jf_133_30 jmt_133
set_option maxRecDepth 10000 in
set_option maxHeartbeats 4000000 in
theorem r_B_keep {N B : Nat} {SA : Nat → Nat} {d : Nat} (hd : 4 ≤ d) : ∀ (v0 : Nat) (v1 : Int32) (μ : JMem) (r : Int32) (μ9 : JMem), g_B_keep N B v0 v1 μ = some (r, μ9) → jR B SA d m_B_keep 0 (lv_args 0 [.ref v0, .int v1]) [] μ (some (.int r)) μ9 := by
  intro v0 v1 μ r μ9 h
  exact r_B_keep_e hd (lv_args 0 _) _ _ _ _ _ (by simp [lv_args, jget, rv_cat, cat_int, cat_long, cat_double, cat_float, cat_ref]) (by simp [lv_args, jget, rv_cat, cat_int, cat_long, cat_double, cat_float, cat_ref]) h
