/-! facts of the tables (printed by wip/p28/dec.py) -/
theorem jc_b_m14 : (Int8.ofInt (-14)).toInt32 = (-14 : Int32) := by decide
theorem jc_b_6 : (Int8.ofInt (6)).toInt32 = (6 : Int32) := by decide
theorem jc_b_7 : (Int8.ofInt (7)).toInt32 = (7 : Int32) := by decide
theorem jc_b_8 : (Int8.ofInt (8)).toInt32 = (8 : Int32) := by decide
theorem jc_b_9 : (Int8.ofInt (9)).toInt32 = (9 : Int32) := by decide
theorem jc_b_10 : (Int8.ofInt (10)).toInt32 = (10 : Int32) := by decide
theorem jc_b_11 : (Int8.ofInt (11)).toInt32 = (11 : Int32) := by decide
theorem jc_b_12 : (Int8.ofInt (12)).toInt32 = (12 : Int32) := by decide
theorem jc_b_13 : (Int8.ofInt (13)).toInt32 = (13 : Int32) := by decide
theorem jc_b_14 : (Int8.ofInt (14)).toInt32 = (14 : Int32) := by decide
theorem jc_b_16 : (Int8.ofInt (16)).toInt32 = (16 : Int32) := by decide
theorem jc_b_20 : (Int8.ofInt (20)).toInt32 = (20 : Int32) := by decide
theorem jc_b_23 : (Int8.ofInt (23)).toInt32 = (23 : Int32) := by decide
theorem jc_b_27 : (Int8.ofInt (27)).toInt32 = (27 : Int32) := by decide
theorem jc_b_30 : (Int8.ofInt (30)).toInt32 = (30 : Int32) := by decide
theorem jc_b_31 : (Int8.ofInt (31)).toInt32 = (31 : Int32) := by decide
theorem jc_b_32 : (Int8.ofInt (32)).toInt32 = (32 : Int32) := by decide
theorem jc_b_40 : (Int8.ofInt (40)).toInt32 = (40 : Int32) := by decide
theorem jc_b_44 : (Int8.ofInt (44)).toInt32 = (44 : Int32) := by decide
theorem jc_b_47 : (Int8.ofInt (47)).toInt32 = (47 : Int32) := by decide
theorem jc_b_52 : (Int8.ofInt (52)).toInt32 = (52 : Int32) := by decide
theorem jc_b_55 : (Int8.ofInt (55)).toInt32 = (55 : Int32) := by decide
theorem jc_b_59 : (Int8.ofInt (59)).toInt32 = (59 : Int32) := by decide
theorem jc_b_60 : (Int8.ofInt (60)).toInt32 = (60 : Int32) := by decide
theorem jc_b_61 : (Int8.ofInt (61)).toInt32 = (61 : Int32) := by decide
theorem jc_b_62 : (Int8.ofInt (62)).toInt32 = (62 : Int32) := by decide
theorem jc_b_63 : (Int8.ofInt (63)).toInt32 = (63 : Int32) := by decide
theorem jc_b_64 : (Int8.ofInt (64)).toInt32 = (64 : Int32) := by decide
theorem jc_b_100 : (Int8.ofInt (100)).toInt32 = (100 : Int32) := by decide
theorem jc_i_m1 : Int32.ofInt (-1) = (-1 : Int32) := by decide
theorem jc_i_0 : Int32.ofInt (0) = (0 : Int32) := by decide
theorem jc_i_1 : Int32.ofInt (1) = (1 : Int32) := by decide
theorem jc_i_2 : Int32.ofInt (2) = (2 : Int32) := by decide
theorem jc_i_3 : Int32.ofInt (3) = (3 : Int32) := by decide
theorem jc_i_4 : Int32.ofInt (4) = (4 : Int32) := by decide
theorem jc_i_5 : Int32.ofInt (5) = (5 : Int32) := by decide
theorem jc_i_8 : Int32.ofInt (8) = (8 : Int32) := by decide
theorem jc_i_16 : Int32.ofInt (16) = (16 : Int32) := by decide
theorem jc_s_400 : (Int16.ofInt (400)).toInt32 = (400 : Int32) := by decide
theorem jml_0 : (jmi m_B_init).2.2.1 = 1 := rfl
theorem jmt_0 : (jmi m_B_init).2.2.2.1 = none := rfl
theorem jml_1 : (jmi m_Real_init).2.2.1 = 3 := rfl
theorem jmt_1 : (jmi m_Real_init).2.2.2.1 = none := rfl
theorem jml_2 : (jmi m_Numbers_init).2.2.1 = 1 := rfl
theorem jmt_2 : (jmi m_Numbers_init).2.2.2.1 = none := rfl
theorem jml_3 : (jmi m_Shorts_init).2.2.1 = 1 := rfl
theorem jmt_3 : (jmi m_Shorts_init).2.2.2.1 = none := rfl
theorem jml_4 : (jmi m_DeadCycles_init).2.2.1 = 1 := rfl
theorem jmt_4 : (jmi m_DeadCycles_init).2.2.2.1 = none := rfl
theorem jml_5 : (jmi m_B_section).2.2.1 = 6 := rfl
theorem jmt_5 : (jmi m_B_section).2.2.2.1 = some Jvm.ClassFile.FieldType.int := rfl
theorem jml_6 : (jmi m_B_numbersOf).2.2.1 = 2 := rfl
theorem jmt_6 : (jmi m_B_numbersOf).2.2.2.1 = some (Jvm.ClassFile.FieldType.object "FilterBench$Numbers") := rfl
theorem jml_7 : (jmi m_B_isKind).2.2.1 = 1 := rfl
theorem jmt_7 : (jmi m_B_isKind).2.2.2.1 = some Jvm.ClassFile.FieldType.boolean := rfl
theorem jml_8 : (jmi m_B_fitsKind).2.2.1 = 2 := rfl
theorem jmt_8 : (jmi m_B_fitsKind).2.2.2.1 = some Jvm.ClassFile.FieldType.boolean := rfl
theorem jml_9 : (jmi m_B_newSection).2.2.1 = 6 := rfl
theorem jmt_9 : (jmi m_B_newSection).2.2.2.1 = some (Jvm.ClassFile.FieldType.object "FilterBench$Section") := rfl
theorem jml_10 : (jmi m_Section_init).2.2.1 = 8 := rfl
theorem jmt_10 : (jmi m_Section_init).2.2.2.1 = none := rfl
theorem jml_11 : (jmi m_Row_init).2.2.1 = 2 := rfl
theorem jmt_11 : (jmi m_Row_init).2.2.2.1 = none := rfl
theorem jml_12 : (jmi m_B_coefficient).2.2.1 = 6 := rfl
theorem jmt_12 : (jmi m_B_coefficient).2.2.2.1 = some Jvm.ClassFile.FieldType.boolean := rfl
theorem jml_13 : (jmi m_B_sectionAt).2.2.1 = 2 := rfl
theorem jmt_13 : (jmi m_B_sectionAt).2.2.2.1 = some (Jvm.ClassFile.FieldType.object "FilterBench$Section") := rfl
theorem jml_14 : (jmi m_Section_hasFactor).2.2.1 = 2 := rfl
theorem jmt_14 : (jmi m_Section_hasFactor).2.2.2.1 = some Jvm.ClassFile.FieldType.boolean := rfl
theorem jml_15 : (jmi m_Real_holds).2.2.1 = 3 := rfl
theorem jmt_15 : (jmi m_Real_holds).2.2.2.1 = some Jvm.ClassFile.FieldType.boolean := rfl
theorem jml_16 : (jmi m_Shorts_holds).2.2.1 = 3 := rfl
theorem jmt_16 : (jmi m_Shorts_holds).2.2.2.1 = some Jvm.ClassFile.FieldType.boolean := rfl
theorem jml_17 : (jmi m_Real_clean).2.2.1 = 3 := rfl
theorem jmt_17 : (jmi m_Real_clean).2.2.2.1 = some Jvm.ClassFile.FieldType.long := rfl
theorem jml_18 : (jmi m_Real_isNumber).2.2.1 = 3 := rfl
theorem jmt_18 : (jmi m_Real_isNumber).2.2.2.1 = some Jvm.ClassFile.FieldType.boolean := rfl
theorem jml_19 : (jmi m_Shorts_clean).2.2.1 = 3 := rfl
theorem jmt_19 : (jmi m_Shorts_clean).2.2.2.1 = some Jvm.ClassFile.FieldType.long := rfl
theorem jml_20 : (jmi m_Section_setFactor).2.2.1 = 4 := rfl
theorem jmt_20 : (jmi m_Section_setFactor).2.2.2.1 = none := rfl
theorem jml_21 : (jmi m_B_rule).2.2.1 = 5 := rfl
theorem jmt_21 : (jmi m_B_rule).2.2.2.1 = some Jvm.ClassFile.FieldType.boolean := rfl
theorem jml_22 : (jmi m_B_state).2.2.1 = 4 := rfl
theorem jmt_22 : (jmi m_B_state).2.2.2.1 = some Jvm.ClassFile.FieldType.long := rfl
theorem jml_23 : (jmi m_Row_at).2.2.1 = 2 := rfl
theorem jmt_23 : (jmi m_Row_at).2.2.2.1 = some Jvm.ClassFile.FieldType.long := rfl
theorem jml_24 : (jmi m_Row_index).2.2.1 = 3 := rfl
theorem jmt_24 : (jmi m_Row_index).2.2.2.1 = some Jvm.ClassFile.FieldType.int := rfl
theorem jml_25 : (jmi m_B_about).2.2.1 = 4 := rfl
theorem jmt_25 : (jmi m_B_about).2.2.2.1 = some Jvm.ClassFile.FieldType.int := rfl
theorem jml_26 : (jmi m_B_numberOf).2.2.1 = 1 := rfl
theorem jmt_26 : (jmi m_B_numberOf).2.2.2.1 = some Jvm.ClassFile.FieldType.int := rfl
theorem jml_27 : (jmi m_B_told).2.2.1 = 4 := rfl
theorem jmt_27 : (jmi m_B_told).2.2.2.1 = some Jvm.ClassFile.FieldType.long := rfl
theorem jml_28 : (jmi m_Section_factor).2.2.1 = 2 := rfl
theorem jmt_28 : (jmi m_Section_factor).2.2.2.1 = some Jvm.ClassFile.FieldType.long := rfl
theorem jml_29 : (jmi m_B_chain).2.2.1 = 1 := rfl
theorem jmt_29 : (jmi m_B_chain).2.2.2.1 = some Jvm.ClassFile.FieldType.int := rfl
theorem jml_30 : (jmi m_Chain_init).2.2.1 = 1 := rfl
theorem jmt_30 : (jmi m_Chain_init).2.2.2.1 = none := rfl
theorem jml_31 : (jmi m_B_registered).2.2.1 = 2 := rfl
theorem jmt_31 : (jmi m_B_registered).2.2.2.1 = some Jvm.ClassFile.FieldType.int := rfl
theorem jml_32 : (jmi m_B_add).2.2.1 = 5 := rfl
theorem jmt_32 : (jmi m_B_add).2.2.2.1 = some Jvm.ClassFile.FieldType.int := rfl
theorem jml_33 : (jmi m_B_chainAt).2.2.1 = 2 := rfl
theorem jmt_33 : (jmi m_B_chainAt).2.2.2.1 = some (Jvm.ClassFile.FieldType.object "FilterBench$Chain") := rfl
theorem jml_34 : (jmi m_Chain_sort).2.2.1 = 2 := rfl
theorem jmt_34 : (jmi m_Chain_sort).2.2.2.1 = some Jvm.ClassFile.FieldType.int := rfl
theorem jml_35 : (jmi m_Chain_memberAt).2.2.1 = 2 := rfl
theorem jmt_35 : (jmi m_Chain_memberAt).2.2.2.1 = some (Jvm.ClassFile.FieldType.object "FilterBench$Section") := rfl
theorem jml_36 : (jmi m_Section_spreads).2.2.1 = 1 := rfl
theorem jmt_36 : (jmi m_Section_spreads).2.2.2.1 = some Jvm.ClassFile.FieldType.boolean := rfl
theorem jml_37 : (jmi m_Chain_spreaders).2.2.1 = 4 := rfl
theorem jmt_37 : (jmi m_Chain_spreaders).2.2.2.1 = some Jvm.ClassFile.FieldType.int := rfl
theorem jml_38 : (jmi m_Chain_join).2.2.1 = 2 := rfl
theorem jmt_38 : (jmi m_Chain_join).2.2.2.1 = none := rfl
theorem jml_39 : (jmi m_B_loop).2.2.1 = 9 := rfl
theorem jmt_39 : (jmi m_B_loop).2.2.2.1 = some Jvm.ClassFile.FieldType.int := rfl
theorem jml_40 : (jmi m_Chain_changesRate).2.2.1 = 5 := rfl
theorem jmt_40 : (jmi m_Chain_changesRate).2.2.2.1 = some Jvm.ClassFile.FieldType.boolean := rfl
theorem jml_41 : (jmi m_Section_changesRate).2.2.1 = 1 := rfl
theorem jmt_41 : (jmi m_Section_changesRate).2.2.2.1 = some Jvm.ClassFile.FieldType.boolean := rfl
theorem jml_42 : (jmi m_Loop_init).2.2.1 = 6 := rfl
theorem jmt_42 : (jmi m_Loop_init).2.2.2.1 = none := rfl
theorem jml_43 : (jmi m_Chain_tie).2.2.1 = 2 := rfl
theorem jmt_43 : (jmi m_Chain_tie).2.2.2.1 = none := rfl
theorem jml_44 : (jmi m_B_chain_2).2.2.1 = 4 := rfl
theorem jmt_44 : (jmi m_B_chain_2).2.2.2.1 = some Jvm.ClassFile.FieldType.int := rfl
theorem jml_45 : (jmi m_B_count).2.2.1 = 2 := rfl
theorem jmt_45 : (jmi m_B_count).2.2.2.1 = some Jvm.ClassFile.FieldType.int := rfl
theorem jml_46 : (jmi m_B_feed).2.2.1 = 6 := rfl
theorem jmt_46 : (jmi m_B_feed).2.2.2.1 = some Jvm.ClassFile.FieldType.int := rfl
theorem jml_47 : (jmi m_B_fedAlone).2.2.1 = 3 := rfl
theorem jmt_47 : (jmi m_B_fedAlone).2.2.2.1 = some (Jvm.ClassFile.FieldType.object "FilterBench$Chain") := rfl
theorem jml_48 : (jmi m_B_send).2.2.1 = 11 := rfl
theorem jmt_48 : (jmi m_B_send).2.2.2.1 = some Jvm.ClassFile.FieldType.int := rfl
theorem jml_49 : (jmi m_Section_letsThrough).2.2.1 = 3 := rfl
theorem jmt_49 : (jmi m_Section_letsThrough).2.2.2.1 = some Jvm.ClassFile.FieldType.boolean := rfl
theorem jml_50 : (jmi m_Row_put).2.2.1 = 4 := rfl
theorem jmt_50 : (jmi m_Row_put).2.2.2.1 = none := rfl
theorem jml_51 : (jmi m_Chain_looped).2.2.1 = 11 := rfl
theorem jmt_51 : (jmi m_Chain_looped).2.2.2.1 = some Jvm.ClassFile.FieldType.long := rfl
theorem jml_52 : (jmi m_Chain_loopAt).2.2.1 = 2 := rfl
theorem jmt_52 : (jmi m_Chain_loopAt).2.2.2.1 = some (Jvm.ClassFile.FieldType.object "FilterBench$Loop") := rfl
theorem jml_53 : (jmi m_Real_product).2.2.1 = 16 := rfl
theorem jmt_53 : (jmi m_Real_product).2.2.2.1 = some Jvm.ClassFile.FieldType.long := rfl
theorem jml_54 : (jmi m_Real_sizeOf).2.2.1 = 3 := rfl
theorem jmt_54 : (jmi m_Real_sizeOf).2.2.2.1 = some Jvm.ClassFile.FieldType.long := rfl
theorem jml_55 : (jmi m_Real_signed).2.2.1 = 4 := rfl
theorem jmt_55 : (jmi m_Real_signed).2.2.2.1 = some Jvm.ClassFile.FieldType.long := rfl
theorem jml_56 : (jmi m_Real_mantissa).2.2.1 = 3 := rfl
theorem jmt_56 : (jmi m_Real_mantissa).2.2.2.1 = some Jvm.ClassFile.FieldType.long := rfl
theorem jml_57 : (jmi m_Real_lead).2.2.1 = 5 := rfl
theorem jmt_57 : (jmi m_Real_lead).2.2.2.1 = some Jvm.ClassFile.FieldType.int := rfl
theorem jml_58 : (jmi m_Real_exponent).2.2.1 = 4 := rfl
theorem jmt_58 : (jmi m_Real_exponent).2.2.2.1 = some Jvm.ClassFile.FieldType.int := rfl
theorem jml_59 : (jmi m_Real_highProduct).2.2.1 = 22 := rfl
theorem jmt_59 : (jmi m_Real_highProduct).2.2.2.1 = some Jvm.ClassFile.FieldType.long := rfl
theorem jml_60 : (jmi m_Real_packed).2.2.1 = 10 := rfl
theorem jmt_60 : (jmi m_Real_packed).2.2.2.1 = some Jvm.ClassFile.FieldType.long := rfl
theorem jml_61 : (jmi m_Numbers_halfEven).2.2.1 = 9 := rfl
theorem jmt_61 : (jmi m_Numbers_halfEven).2.2.2.1 = some Jvm.ClassFile.FieldType.long := rfl
theorem jml_62 : (jmi m_Shorts_product).2.2.1 = 5 := rfl
theorem jmt_62 : (jmi m_Shorts_product).2.2.2.1 = some Jvm.ClassFile.FieldType.long := rfl
theorem jml_63 : (jmi m_Real_term).2.2.1 = 3 := rfl
theorem jmt_63 : (jmi m_Real_term).2.2.2.1 = some Jvm.ClassFile.FieldType.long := rfl
theorem jml_64 : (jmi m_Shorts_term).2.2.1 = 3 := rfl
theorem jmt_64 : (jmi m_Shorts_term).2.2.2.1 = some Jvm.ClassFile.FieldType.long := rfl
theorem jml_65 : (jmi m_Real_plus).2.2.1 = 9 := rfl
theorem jmt_65 : (jmi m_Real_plus).2.2.2.1 = some Jvm.ClassFile.FieldType.long := rfl
theorem jml_66 : (jmi m_Real_withInfinity).2.2.1 = 5 := rfl
theorem jmt_66 : (jmi m_Real_withInfinity).2.2.2.1 = some Jvm.ClassFile.FieldType.long := rfl
theorem jml_67 : (jmi m_Real_added).2.2.1 = 15 := rfl
theorem jmt_67 : (jmi m_Real_added).2.2.2.1 = some Jvm.ClassFile.FieldType.long := rfl
theorem jml_68 : (jmi m_Real_shifted).2.2.1 = 5 := rfl
theorem jmt_68 : (jmi m_Real_shifted).2.2.2.1 = some Jvm.ClassFile.FieldType.long := rfl
theorem jml_69 : (jmi m_Shorts_plus).2.2.1 = 5 := rfl
theorem jmt_69 : (jmi m_Shorts_plus).2.2.2.1 = some Jvm.ClassFile.FieldType.long := rfl
theorem jml_70 : (jmi m_Section_settled).2.2.1 = 7 := rfl
theorem jmt_70 : (jmi m_Section_settled).2.2.2.1 = some Jvm.ClassFile.FieldType.long := rfl
theorem jml_71 : (jmi m_Shorts_rounded).2.2.1 = 3 := rfl
theorem jmt_71 : (jmi m_Shorts_rounded).2.2.2.1 = some Jvm.ClassFile.FieldType.long := rfl
theorem jml_72 : (jmi m_Shorts_isShort).2.2.1 = 2 := rfl
theorem jmt_72 : (jmi m_Shorts_isShort).2.2.2.1 = some Jvm.ClassFile.FieldType.boolean := rfl
theorem jml_73 : (jmi m_Shorts_limited).2.2.1 = 3 := rfl
theorem jmt_73 : (jmi m_Shorts_limited).2.2.2.1 = some Jvm.ClassFile.FieldType.long := rfl
theorem jml_74 : (jmi m_Shorts_cut).2.2.1 = 2 := rfl
theorem jmt_74 : (jmi m_Shorts_cut).2.2.2.1 = some Jvm.ClassFile.FieldType.long := rfl
theorem jml_75 : (jmi m_Chain_madeLast).2.2.1 = 1 := rfl
theorem jmt_75 : (jmi m_Chain_madeLast).2.2.2.1 = some Jvm.ClassFile.FieldType.long := rfl
theorem jml_76 : (jmi m_Chain_madeBefore).2.2.1 = 4 := rfl
theorem jmt_76 : (jmi m_Chain_madeBefore).2.2.2.1 = some Jvm.ClassFile.FieldType.long := rfl
theorem jml_77 : (jmi m_Section_step).2.2.1 = 5 := rfl
theorem jmt_77 : (jmi m_Section_step).2.2.2.1 = some Jvm.ClassFile.FieldType.long := rfl
theorem jml_78 : (jmi m_Section_times).2.2.1 = 4 := rfl
theorem jmt_78 : (jmi m_Section_times).2.2.2.1 = some Jvm.ClassFile.FieldType.long := rfl
theorem jml_79 : (jmi m_Section_pole).2.2.1 = 5 := rfl
theorem jmt_79 : (jmi m_Section_pole).2.2.2.1 = some Jvm.ClassFile.FieldType.long := rfl
theorem jml_80 : (jmi m_Section_direct).2.2.1 = 7 := rfl
theorem jmt_80 : (jmi m_Section_direct).2.2.2.1 = some Jvm.ClassFile.FieldType.long := rfl
theorem jml_81 : (jmi m_Section_lessTimes).2.2.1 = 4 := rfl
theorem jmt_81 : (jmi m_Section_lessTimes).2.2.2.1 = some Jvm.ClassFile.FieldType.long := rfl
theorem jml_82 : (jmi m_Real_opposite).2.2.1 = 3 := rfl
theorem jmt_82 : (jmi m_Real_opposite).2.2.2.1 = some Jvm.ClassFile.FieldType.long := rfl
theorem jml_83 : (jmi m_Real_negative).2.2.1 = 3 := rfl
theorem jmt_83 : (jmi m_Real_negative).2.2.2.1 = some Jvm.ClassFile.FieldType.long := rfl
theorem jml_84 : (jmi m_Shorts_opposite).2.2.1 = 3 := rfl
theorem jmt_84 : (jmi m_Shorts_opposite).2.2.2.1 = some Jvm.ClassFile.FieldType.long := rfl
theorem jml_85 : (jmi m_Section_second).2.2.1 = 11 := rfl
theorem jmt_85 : (jmi m_Section_second).2.2.2.1 = some Jvm.ClassFile.FieldType.long := rfl
theorem jml_86 : (jmi m_Section_turned).2.2.1 = 7 := rfl
theorem jmt_86 : (jmi m_Section_turned).2.2.2.1 = some Jvm.ClassFile.FieldType.long := rfl
theorem jml_87 : (jmi m_Section_pass).2.2.1 = 9 := rfl
theorem jmt_87 : (jmi m_Section_pass).2.2.2.1 = some Jvm.ClassFile.FieldType.long := rfl
theorem jml_88 : (jmi m_Section_delayed).2.2.1 = 5 := rfl
theorem jmt_88 : (jmi m_Section_delayed).2.2.2.1 = some Jvm.ClassFile.FieldType.long := rfl
theorem jml_89 : (jmi m_Row_push).2.2.1 = 3 := rfl
theorem jmt_89 : (jmi m_Row_push).2.2.2.1 = none := rfl
theorem jml_90 : (jmi m_Section_mean).2.2.1 = 6 := rfl
theorem jmt_90 : (jmi m_Section_mean).2.2.2.1 = some Jvm.ClassFile.FieldType.long := rfl
theorem jml_91 : (jmi m_Row_size).2.2.1 = 1 := rfl
theorem jmt_91 : (jmi m_Row_size).2.2.2.1 = some Jvm.ClassFile.FieldType.int := rfl
theorem jml_92 : (jmi m_Section_comb).2.2.1 = 5 := rfl
theorem jmt_92 : (jmi m_Section_comb).2.2.2.1 = some Jvm.ClassFile.FieldType.long := rfl
theorem jml_93 : (jmi m_Section_clipped).2.2.1 = 7 := rfl
theorem jmt_93 : (jmi m_Section_clipped).2.2.2.1 = some Jvm.ClassFile.FieldType.long := rfl
theorem jml_94 : (jmi m_Numbers_above).2.2.1 = 5 := rfl
theorem jmt_94 : (jmi m_Numbers_above).2.2.2.1 = some Jvm.ClassFile.FieldType.boolean := rfl
theorem jml_95 : (jmi m_Shorts_isNumber).2.2.1 = 3 := rfl
theorem jmt_95 : (jmi m_Shorts_isNumber).2.2.2.1 = some Jvm.ClassFile.FieldType.boolean := rfl
theorem jml_96 : (jmi m_Real_compared).2.2.1 = 5 := rfl
theorem jmt_96 : (jmi m_Real_compared).2.2.2.1 = some Jvm.ClassFile.FieldType.int := rfl
theorem jml_97 : (jmi m_JLong_compare).2.2.1 = 4 := rfl
theorem jmt_97 : (jmi m_JLong_compare).2.2.2.1 = some Jvm.ClassFile.FieldType.int := rfl
theorem jml_98 : (jmi m_Shorts_compared).2.2.1 = 5 := rfl
theorem jmt_98 : (jmi m_Shorts_compared).2.2.2.1 = some Jvm.ClassFile.FieldType.int := rfl
theorem jml_99 : (jmi m_Shorts_negative).2.2.1 = 3 := rfl
theorem jmt_99 : (jmi m_Shorts_negative).2.2.2.1 = some Jvm.ClassFile.FieldType.long := rfl
theorem jml_100 : (jmi m_Section_deadened).2.2.1 = 5 := rfl
theorem jmt_100 : (jmi m_Section_deadened).2.2.2.1 = some Jvm.ClassFile.FieldType.long := rfl
theorem jml_101 : (jmi m_Shorts_sizeOf).2.2.1 = 3 := rfl
theorem jmt_101 : (jmi m_Shorts_sizeOf).2.2.2.1 = some Jvm.ClassFile.FieldType.long := rfl
theorem jml_102 : (jmi m_Section_peak).2.2.1 = 9 := rfl
theorem jmt_102 : (jmi m_Section_peak).2.2.2.1 = some Jvm.ClassFile.FieldType.long := rfl
theorem jml_103 : (jmi m_Chain_note).2.2.1 = 6 := rfl
theorem jmt_103 : (jmi m_Chain_note).2.2.2.1 = none := rfl
theorem jml_104 : (jmi m_Chain_emit).2.2.1 = 3 := rfl
theorem jmt_104 : (jmi m_Chain_emit).2.2.2.1 = none := rfl
theorem jml_105 : (jmi m_B_output).2.2.1 = 4 := rfl
theorem jmt_105 : (jmi m_B_output).2.2.2.1 = some Jvm.ClassFile.FieldType.long := rfl
theorem jml_106 : (jmi m_Chain_madeAs).2.2.1 = 2 := rfl
theorem jmt_106 : (jmi m_Chain_madeAs).2.2.2.1 = some Jvm.ClassFile.FieldType.long := rfl
theorem jml_107 : (jmi m_B_keep).2.2.1 = 8 := rfl
theorem jmt_107 : (jmi m_B_keep).2.2.2.1 = some Jvm.ClassFile.FieldType.int := rfl
theorem jml_108 : (jmi m_B_gather).2.2.1 = 7 := rfl
theorem jmt_108 : (jmi m_B_gather).2.2.2.1 = some Jvm.ClassFile.FieldType.int := rfl
theorem jml_109 : (jmi m_B_gathered).2.2.1 = 3 := rfl
theorem jmt_109 : (jmi m_B_gathered).2.2.2.1 = some Jvm.ClassFile.FieldType.int := rfl
theorem jml_110 : (jmi m_Chain_valueCount).2.2.1 = 4 := rfl
theorem jmt_110 : (jmi m_Chain_valueCount).2.2.2.1 = some Jvm.ClassFile.FieldType.int := rfl
theorem jml_111 : (jmi m_Chain_rowCount).2.2.1 = 1 := rfl
theorem jmt_111 : (jmi m_Chain_rowCount).2.2.2.1 = some Jvm.ClassFile.FieldType.int := rfl
theorem jml_112 : (jmi m_Chain_rowAt).2.2.1 = 3 := rfl
theorem jmt_112 : (jmi m_Chain_rowAt).2.2.2.1 = some (Jvm.ClassFile.FieldType.object "FilterBench$Row") := rfl
theorem jml_113 : (jmi m_Kept_init).2.2.1 = 4 := rfl
theorem jmt_113 : (jmi m_Kept_init).2.2.2.1 = none := rfl
theorem jml_114 : (jmi m_Kept_shape).2.2.1 = 4 := rfl
theorem jmt_114 : (jmi m_Kept_shape).2.2.2.1 = none := rfl
theorem jml_115 : (jmi m_Chain_save).2.2.1 = 6 := rfl
theorem jmt_115 : (jmi m_Chain_save).2.2.2.1 = some Jvm.ClassFile.FieldType.int := rfl
theorem jml_116 : (jmi m_Row_save).2.2.1 = 4 := rfl
theorem jmt_116 : (jmi m_Row_save).2.2.2.1 = some Jvm.ClassFile.FieldType.int := rfl
theorem jml_117 : (jmi m_B_back).2.2.1 = 5 := rfl
theorem jmt_117 : (jmi m_B_back).2.2.2.1 = some Jvm.ClassFile.FieldType.boolean := rfl
theorem jml_118 : (jmi m_B_keptAt).2.2.1 = 2 := rfl
theorem jmt_118 : (jmi m_B_keptAt).2.2.2.1 = some (Jvm.ClassFile.FieldType.object "FilterBench$Kept") := rfl
theorem jml_119 : (jmi m_B_gatherAsKept).2.2.1 = 4 := rfl
theorem jmt_119 : (jmi m_B_gatherAsKept).2.2.2.1 = some Jvm.ClassFile.FieldType.boolean := rfl
theorem jml_120 : (jmi m_Kept_chainCount).2.2.1 = 1 := rfl
theorem jmt_120 : (jmi m_Kept_chainCount).2.2.2.1 = some Jvm.ClassFile.FieldType.int := rfl
theorem jml_121 : (jmi m_Kept_isShaped).2.2.1 = 4 := rfl
theorem jmt_121 : (jmi m_Kept_isShaped).2.2.2.1 = some Jvm.ClassFile.FieldType.boolean := rfl
theorem jml_122 : (jmi m_Chain_load).2.2.1 = 6 := rfl
theorem jmt_122 : (jmi m_Chain_load).2.2.2.1 = some Jvm.ClassFile.FieldType.int := rfl
theorem jml_123 : (jmi m_Row_load).2.2.1 = 4 := rfl
theorem jmt_123 : (jmi m_Row_load).2.2.2.1 = some Jvm.ClassFile.FieldType.int := rfl
theorem jml_124 : (jmi m_B_same).2.2.1 = 5 := rfl
theorem jmt_124 : (jmi m_B_same).2.2.2.1 = some Jvm.ClassFile.FieldType.boolean := rfl
theorem jml_125 : (jmi m_Chain_holdsValues).2.2.1 = 6 := rfl
theorem jmt_125 : (jmi m_Chain_holdsValues).2.2.2.1 = some Jvm.ClassFile.FieldType.boolean := rfl
theorem jml_126 : (jmi m_Row_holdsValues).2.2.1 = 4 := rfl
theorem jmt_126 : (jmi m_Row_holdsValues).2.2.2.1 = some Jvm.ClassFile.FieldType.boolean := rfl
theorem jml_127 : (jmi m_B_convert).2.2.1 = 5 := rfl
theorem jmt_127 : (jmi m_B_convert).2.2.2.1 = some Jvm.ClassFile.FieldType.int := rfl
theorem jml_128 : (jmi m_B_canRemake).2.2.1 = 6 := rfl
theorem jmt_128 : (jmi m_B_canRemake).2.2.2.1 = some Jvm.ClassFile.FieldType.boolean := rfl
theorem jml_129 : (jmi m_B_canTranslate).2.2.1 = 6 := rfl
theorem jmt_129 : (jmi m_B_canTranslate).2.2.2.1 = some Jvm.ClassFile.FieldType.boolean := rfl
theorem jml_130 : (jmi m_Section_factorCount).2.2.1 = 1 := rfl
theorem jmt_130 : (jmi m_Section_factorCount).2.2.2.1 = some Jvm.ClassFile.FieldType.int := rfl
theorem jml_131 : (jmi m_Section_takesWhole).2.2.1 = 1 := rfl
theorem jmt_131 : (jmi m_Section_takesWhole).2.2.2.1 = some Jvm.ClassFile.FieldType.boolean := rfl
theorem jml_132 : (jmi m_B_translated).2.2.1 = 6 := rfl
theorem jmt_132 : (jmi m_B_translated).2.2.2.1 = some Jvm.ClassFile.FieldType.long := rfl
theorem jml_133 : (jmi m_Real_meaning).2.2.1 = 5 := rfl
theorem jmt_133 : (jmi m_Real_meaning).2.2.2.1 = some Jvm.ClassFile.FieldType.long := rfl
theorem jml_134 : (jmi m_Real_taken).2.2.1 = 6 := rfl
theorem jmt_134 : (jmi m_Real_taken).2.2.2.1 = some Jvm.ClassFile.FieldType.long := rfl
theorem jml_135 : (jmi m_Shorts_meaning).2.2.1 = 5 := rfl
theorem jmt_135 : (jmi m_Shorts_meaning).2.2.2.1 = some Jvm.ClassFile.FieldType.long := rfl
theorem jml_136 : (jmi m_Real_scaled).2.2.1 = 4 := rfl
theorem jmt_136 : (jmi m_Real_scaled).2.2.2.1 = some Jvm.ClassFile.FieldType.long := rfl
theorem jml_137 : (jmi m_JMath_abs).2.2.1 = 2 := rfl
theorem jmt_137 : (jmi m_JMath_abs).2.2.2.1 = some Jvm.ClassFile.FieldType.long := rfl
theorem jml_138 : (jmi m_Real_nearest).2.2.1 = 5 := rfl
theorem jmt_138 : (jmi m_Real_nearest).2.2.2.1 = some Jvm.ClassFile.FieldType.long := rfl
theorem jml_139 : (jmi m_Shorts_nearest).2.2.1 = 10 := rfl
theorem jmt_139 : (jmi m_Shorts_nearest).2.2.2.1 = some Jvm.ClassFile.FieldType.long := rfl
theorem jml_140 : (jmi m_Real_isFinite).2.2.1 = 3 := rfl
theorem jmt_140 : (jmi m_Real_isFinite).2.2.2.1 = some Jvm.ClassFile.FieldType.boolean := rfl
theorem jml_141 : (jmi m_B_remade).2.2.1 = 10 := rfl
theorem jmt_141 : (jmi m_B_remade).2.2.2.1 = some (Jvm.ClassFile.FieldType.object "FilterBench$Chain") := rfl
theorem jml_142 : (jmi m_B_remadeSection).2.2.1 = 6 := rfl
theorem jmt_142 : (jmi m_B_remadeSection).2.2.2.1 = some (Jvm.ClassFile.FieldType.object "FilterBench$Section") := rfl
theorem jml_143 : (jmi m_B_remakeLoops).2.2.1 = 7 := rfl
theorem jmt_143 : (jmi m_B_remakeLoops).2.2.2.1 = none := rfl
theorem jml_144 : (jmi m_L_fit).2.2.1 = 3 := rfl
theorem jmt_144 : (jmi m_L_fit).2.2.2.1 = some Jvm.ClassFile.FieldType.long := rfl
theorem jml_145 : (jmi m_L_law).2.2.1 = 46 := rfl
theorem jmt_145 : (jmi m_L_law).2.2.2.1 = some Jvm.ClassFile.FieldType.boolean := rfl
