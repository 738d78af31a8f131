/-! facts of the tables (printed by wip/whole/dec.py) -/
theorem jc_b_m14 : (Int8.ofInt (-14)).toInt32 = (-14 : Int32) := by decide
theorem jc_b_m8 : (Int8.ofInt (-8)).toInt32 = (-8 : Int32) := by decide
theorem jc_b_6 : (Int8.ofInt (6)).toInt32 = (6 : Int32) := by decide
theorem jc_b_7 : (Int8.ofInt (7)).toInt32 = (7 : Int32) := by decide
theorem jc_b_8 : (Int8.ofInt (8)).toInt32 = (8 : Int32) := by decide
theorem jc_b_9 : (Int8.ofInt (9)).toInt32 = (9 : Int32) := by decide
theorem jc_b_10 : (Int8.ofInt (10)).toInt32 = (10 : Int32) := by decide
theorem jc_b_11 : (Int8.ofInt (11)).toInt32 = (11 : Int32) := by decide
theorem jc_b_12 : (Int8.ofInt (12)).toInt32 = (12 : Int32) := by decide
theorem jc_b_13 : (Int8.ofInt (13)).toInt32 = (13 : Int32) := by decide
theorem jc_b_14 : (Int8.ofInt (14)).toInt32 = (14 : Int32) := by decide
theorem jc_b_15 : (Int8.ofInt (15)).toInt32 = (15 : Int32) := by decide
theorem jc_b_16 : (Int8.ofInt (16)).toInt32 = (16 : Int32) := by decide
theorem jc_b_20 : (Int8.ofInt (20)).toInt32 = (20 : Int32) := by decide
theorem jc_b_23 : (Int8.ofInt (23)).toInt32 = (23 : Int32) := by decide
theorem jc_b_27 : (Int8.ofInt (27)).toInt32 = (27 : Int32) := by decide
theorem jc_b_30 : (Int8.ofInt (30)).toInt32 = (30 : Int32) := by decide
theorem jc_b_31 : (Int8.ofInt (31)).toInt32 = (31 : Int32) := by decide
theorem jc_b_32 : (Int8.ofInt (32)).toInt32 = (32 : Int32) := by decide
theorem jc_b_40 : (Int8.ofInt (40)).toInt32 = (40 : Int32) := by decide
theorem jc_b_44 : (Int8.ofInt (44)).toInt32 = (44 : Int32) := by decide
theorem jc_b_47 : (Int8.ofInt (47)).toInt32 = (47 : Int32) := by decide
theorem jc_b_52 : (Int8.ofInt (52)).toInt32 = (52 : Int32) := by decide
theorem jc_b_55 : (Int8.ofInt (55)).toInt32 = (55 : Int32) := by decide
theorem jc_b_59 : (Int8.ofInt (59)).toInt32 = (59 : Int32) := by decide
theorem jc_b_60 : (Int8.ofInt (60)).toInt32 = (60 : Int32) := by decide
theorem jc_b_61 : (Int8.ofInt (61)).toInt32 = (61 : Int32) := by decide
theorem jc_b_62 : (Int8.ofInt (62)).toInt32 = (62 : Int32) := by decide
theorem jc_b_63 : (Int8.ofInt (63)).toInt32 = (63 : Int32) := by decide
theorem jc_b_64 : (Int8.ofInt (64)).toInt32 = (64 : Int32) := by decide
theorem jc_b_100 : (Int8.ofInt (100)).toInt32 = (100 : Int32) := by decide
theorem jc_i_m1 : Int32.ofInt (-1) = (-1 : Int32) := by decide
theorem jc_i_0 : Int32.ofInt (0) = (0 : Int32) := by decide
theorem jc_i_1 : Int32.ofInt (1) = (1 : Int32) := by decide
theorem jc_i_2 : Int32.ofInt (2) = (2 : Int32) := by decide
theorem jc_i_3 : Int32.ofInt (3) = (3 : Int32) := by decide
theorem jc_i_4 : Int32.ofInt (4) = (4 : Int32) := by decide
theorem jc_i_5 : Int32.ofInt (5) = (5 : Int32) := by decide
theorem jc_i_7 : Int32.ofInt (7) = (7 : Int32) := by decide
theorem jc_i_8 : Int32.ofInt (8) = (8 : Int32) := by decide
theorem jc_i_16 : Int32.ofInt (16) = (16 : Int32) := by decide
theorem jc_s_m32768 : (Int16.ofInt (-32768)).toInt32 = (-32768 : Int32) := by decide
theorem jc_s_160 : (Int16.ofInt (160)).toInt32 = (160 : Int32) := by decide
theorem jc_s_200 : (Int16.ofInt (200)).toInt32 = (200 : Int32) := by decide
theorem jc_s_300 : (Int16.ofInt (300)).toInt32 = (300 : Int32) := by decide
theorem jc_s_400 : (Int16.ofInt (400)).toInt32 = (400 : Int32) := by decide
theorem jc_s_480 : (Int16.ofInt (480)).toInt32 = (480 : Int32) := by decide
theorem jc_s_3840 : (Int16.ofInt (3840)).toInt32 = (3840 : Int32) := by decide
theorem jc_s_8000 : (Int16.ofInt (8000)).toInt32 = (8000 : Int32) := by decide
theorem jc_s_12345 : (Int16.ofInt (12345)).toInt32 = (12345 : Int32) := by decide
theorem jc_s_16384 : (Int16.ofInt (16384)).toInt32 = (16384 : Int32) := by decide
theorem jc_s_30720 : (Int16.ofInt (30720)).toInt32 = (30720 : Int32) := by decide
theorem jml_0 : (jmi m_B_init).2.2.1 = 1 := rfl
theorem jmt_0 : (jmi m_B_init).2.2.2.1 = none := rfl
theorem jml_1 : (jmi m_Real_init).2.2.1 = 3 := rfl
theorem jmt_1 : (jmi m_Real_init).2.2.2.1 = none := rfl
theorem jml_2 : (jmi m_Numbers_init).2.2.1 = 1 := rfl
theorem jmt_2 : (jmi m_Numbers_init).2.2.2.1 = none := rfl
theorem jml_3 : (jmi m_Shorts_init).2.2.1 = 1 := rfl
theorem jmt_3 : (jmi m_Shorts_init).2.2.2.1 = none := rfl
theorem jml_4 : (jmi m_DeadCycles_init).2.2.1 = 1 := rfl
theorem jmt_4 : (jmi m_DeadCycles_init).2.2.2.1 = none := rfl
theorem jml_5 : (jmi m_B_section).2.2.1 = 6 := rfl
theorem jmt_5 : (jmi m_B_section).2.2.2.1 = some Jvm.ClassFile.FieldType.int := rfl
theorem jml_6 : (jmi m_B_numbersOf).2.2.1 = 2 := rfl
theorem jmt_6 : (jmi m_B_numbersOf).2.2.2.1 = some (Jvm.ClassFile.FieldType.object "FilterBench$Numbers") := rfl
theorem jml_7 : (jmi m_B_isKind).2.2.1 = 1 := rfl
theorem jmt_7 : (jmi m_B_isKind).2.2.2.1 = some Jvm.ClassFile.FieldType.boolean := rfl
theorem jml_8 : (jmi m_B_fitsKind).2.2.1 = 2 := rfl
theorem jmt_8 : (jmi m_B_fitsKind).2.2.2.1 = some Jvm.ClassFile.FieldType.boolean := rfl
theorem jml_9 : (jmi m_B_newSection).2.2.1 = 6 := rfl
theorem jmt_9 : (jmi m_B_newSection).2.2.2.1 = some (Jvm.ClassFile.FieldType.object "FilterBench$Section") := rfl
theorem jml_10 : (jmi m_Section_init).2.2.1 = 8 := rfl
theorem jmt_10 : (jmi m_Section_init).2.2.2.1 = none := rfl
theorem jml_11 : (jmi m_Row_init).2.2.1 = 2 := rfl
theorem jmt_11 : (jmi m_Row_init).2.2.2.1 = none := rfl
theorem jml_12 : (jmi m_B_coefficient).2.2.1 = 6 := rfl
theorem jmt_12 : (jmi m_B_coefficient).2.2.2.1 = some Jvm.ClassFile.FieldType.boolean := rfl
theorem jml_13 : (jmi m_B_sectionAt).2.2.1 = 2 := rfl
theorem jmt_13 : (jmi m_B_sectionAt).2.2.2.1 = some (Jvm.ClassFile.FieldType.object "FilterBench$Section") := rfl
theorem jml_14 : (jmi m_Section_hasFactor).2.2.1 = 2 := rfl
theorem jmt_14 : (jmi m_Section_hasFactor).2.2.2.1 = some Jvm.ClassFile.FieldType.boolean := rfl
theorem jml_15 : (jmi m_Real_holds).2.2.1 = 3 := rfl
theorem jmt_15 : (jmi m_Real_holds).2.2.2.1 = some Jvm.ClassFile.FieldType.boolean := rfl
theorem jml_16 : (jmi m_Shorts_holds).2.2.1 = 3 := rfl
theorem jmt_16 : (jmi m_Shorts_holds).2.2.2.1 = some Jvm.ClassFile.FieldType.boolean := rfl
theorem jml_17 : (jmi m_Real_clean).2.2.1 = 3 := rfl
theorem jmt_17 : (jmi m_Real_clean).2.2.2.1 = some Jvm.ClassFile.FieldType.long := rfl
theorem jml_18 : (jmi m_Real_isNumber).2.2.1 = 3 := rfl
theorem jmt_18 : (jmi m_Real_isNumber).2.2.2.1 = some Jvm.ClassFile.FieldType.boolean := rfl
theorem jml_19 : (jmi m_Shorts_clean).2.2.1 = 3 := rfl
theorem jmt_19 : (jmi m_Shorts_clean).2.2.2.1 = some Jvm.ClassFile.FieldType.long := rfl
theorem jml_20 : (jmi m_Section_setFactor).2.2.1 = 4 := rfl
theorem jmt_20 : (jmi m_Section_setFactor).2.2.2.1 = none := rfl
theorem jml_21 : (jmi m_B_ratio).2.2.1 = 8 := rfl
theorem jmt_21 : (jmi m_B_ratio).2.2.2.1 = some Jvm.ClassFile.FieldType.boolean := rfl
theorem jml_22 : (jmi m_Section_takesWhole).2.2.1 = 1 := rfl
theorem jmt_22 : (jmi m_Section_takesWhole).2.2.2.1 = some Jvm.ClassFile.FieldType.boolean := rfl
theorem jml_23 : (jmi m_Real_quotient).2.2.1 = 5 := rfl
theorem jmt_23 : (jmi m_Real_quotient).2.2.2.1 = some Jvm.ClassFile.FieldType.long := rfl
theorem jml_24 : (jmi m_Real_divided).2.2.1 = 16 := rfl
theorem jmt_24 : (jmi m_Real_divided).2.2.2.1 = some Jvm.ClassFile.FieldType.long := rfl
theorem jml_25 : (jmi m_JMath_abs).2.2.1 = 2 := rfl
theorem jmt_25 : (jmi m_JMath_abs).2.2.2.1 = some Jvm.ClassFile.FieldType.long := rfl
theorem jml_26 : (jmi m_Real_lead).2.2.1 = 5 := rfl
theorem jmt_26 : (jmi m_Real_lead).2.2.2.1 = some Jvm.ClassFile.FieldType.int := rfl
theorem jml_27 : (jmi m_Real_signed).2.2.1 = 4 := rfl
theorem jmt_27 : (jmi m_Real_signed).2.2.2.1 = some Jvm.ClassFile.FieldType.long := rfl
theorem jml_28 : (jmi m_Real_packed).2.2.1 = 10 := rfl
theorem jmt_28 : (jmi m_Real_packed).2.2.2.1 = some Jvm.ClassFile.FieldType.long := rfl
theorem jml_29 : (jmi m_Numbers_halfEven).2.2.1 = 9 := rfl
theorem jmt_29 : (jmi m_Numbers_halfEven).2.2.2.1 = some Jvm.ClassFile.FieldType.long := rfl
theorem jml_30 : (jmi m_Real_taken).2.2.1 = 6 := rfl
theorem jmt_30 : (jmi m_Real_taken).2.2.2.1 = some Jvm.ClassFile.FieldType.long := rfl
theorem jml_31 : (jmi m_Real_sizeOf).2.2.1 = 3 := rfl
theorem jmt_31 : (jmi m_Real_sizeOf).2.2.2.1 = some Jvm.ClassFile.FieldType.long := rfl
theorem jml_32 : (jmi m_Real_exponent).2.2.1 = 4 := rfl
theorem jmt_32 : (jmi m_Real_exponent).2.2.2.1 = some Jvm.ClassFile.FieldType.int := rfl
theorem jml_33 : (jmi m_Real_mantissa).2.2.1 = 3 := rfl
theorem jmt_33 : (jmi m_Real_mantissa).2.2.2.1 = some Jvm.ClassFile.FieldType.long := rfl
theorem jml_34 : (jmi m_Shorts_quotient).2.2.1 = 13 := rfl
theorem jmt_34 : (jmi m_Shorts_quotient).2.2.2.1 = some Jvm.ClassFile.FieldType.long := rfl
theorem jml_35 : (jmi m_JMath_floorDiv).2.2.1 = 6 := rfl
theorem jmt_35 : (jmi m_JMath_floorDiv).2.2.2.1 = some Jvm.ClassFile.FieldType.long := rfl
theorem jml_36 : (jmi m_B_rule).2.2.1 = 5 := rfl
theorem jmt_36 : (jmi m_B_rule).2.2.2.1 = some Jvm.ClassFile.FieldType.boolean := rfl
theorem jml_37 : (jmi m_B_state).2.2.1 = 4 := rfl
theorem jmt_37 : (jmi m_B_state).2.2.2.1 = some Jvm.ClassFile.FieldType.long := rfl
theorem jml_38 : (jmi m_Row_at).2.2.1 = 2 := rfl
theorem jmt_38 : (jmi m_Row_at).2.2.2.1 = some Jvm.ClassFile.FieldType.long := rfl
theorem jml_39 : (jmi m_Row_index).2.2.1 = 3 := rfl
theorem jmt_39 : (jmi m_Row_index).2.2.2.1 = some Jvm.ClassFile.FieldType.int := rfl
theorem jml_40 : (jmi m_B_about).2.2.1 = 4 := rfl
theorem jmt_40 : (jmi m_B_about).2.2.2.1 = some Jvm.ClassFile.FieldType.int := rfl
theorem jml_41 : (jmi m_B_numberOf).2.2.1 = 1 := rfl
theorem jmt_41 : (jmi m_B_numberOf).2.2.2.1 = some Jvm.ClassFile.FieldType.int := rfl
theorem jml_42 : (jmi m_B_told).2.2.1 = 4 := rfl
theorem jmt_42 : (jmi m_B_told).2.2.2.1 = some Jvm.ClassFile.FieldType.long := rfl
theorem jml_43 : (jmi m_Section_factor).2.2.1 = 2 := rfl
theorem jmt_43 : (jmi m_Section_factor).2.2.2.1 = some Jvm.ClassFile.FieldType.long := rfl
theorem jml_44 : (jmi m_B_chain).2.2.1 = 1 := rfl
theorem jmt_44 : (jmi m_B_chain).2.2.2.1 = some Jvm.ClassFile.FieldType.int := rfl
theorem jml_45 : (jmi m_Chain_init).2.2.1 = 1 := rfl
theorem jmt_45 : (jmi m_Chain_init).2.2.2.1 = none := rfl
theorem jml_46 : (jmi m_B_registered).2.2.1 = 2 := rfl
theorem jmt_46 : (jmi m_B_registered).2.2.2.1 = some Jvm.ClassFile.FieldType.int := rfl
theorem jml_47 : (jmi m_B_add).2.2.1 = 5 := rfl
theorem jmt_47 : (jmi m_B_add).2.2.2.1 = some Jvm.ClassFile.FieldType.int := rfl
theorem jml_48 : (jmi m_B_chainAt).2.2.1 = 2 := rfl
theorem jmt_48 : (jmi m_B_chainAt).2.2.2.1 = some (Jvm.ClassFile.FieldType.object "FilterBench$Chain") := rfl
theorem jml_49 : (jmi m_Chain_sort).2.2.1 = 2 := rfl
theorem jmt_49 : (jmi m_Chain_sort).2.2.2.1 = some Jvm.ClassFile.FieldType.int := rfl
theorem jml_50 : (jmi m_Chain_memberAt).2.2.1 = 2 := rfl
theorem jmt_50 : (jmi m_Chain_memberAt).2.2.2.1 = some (Jvm.ClassFile.FieldType.object "FilterBench$Section") := rfl
theorem jml_51 : (jmi m_Section_spreads).2.2.1 = 1 := rfl
theorem jmt_51 : (jmi m_Section_spreads).2.2.2.1 = some Jvm.ClassFile.FieldType.boolean := rfl
theorem jml_52 : (jmi m_Chain_spreaders).2.2.1 = 4 := rfl
theorem jmt_52 : (jmi m_Chain_spreaders).2.2.2.1 = some Jvm.ClassFile.FieldType.int := rfl
theorem jml_53 : (jmi m_Chain_join).2.2.1 = 2 := rfl
theorem jmt_53 : (jmi m_Chain_join).2.2.2.1 = none := rfl
theorem jml_54 : (jmi m_B_loop).2.2.1 = 9 := rfl
theorem jmt_54 : (jmi m_B_loop).2.2.2.1 = some Jvm.ClassFile.FieldType.int := rfl
theorem jml_55 : (jmi m_Chain_changesRate).2.2.1 = 5 := rfl
theorem jmt_55 : (jmi m_Chain_changesRate).2.2.2.1 = some Jvm.ClassFile.FieldType.boolean := rfl
theorem jml_56 : (jmi m_Section_changesRate).2.2.1 = 1 := rfl
theorem jmt_56 : (jmi m_Section_changesRate).2.2.2.1 = some Jvm.ClassFile.FieldType.boolean := rfl
theorem jml_57 : (jmi m_Loop_init).2.2.1 = 6 := rfl
theorem jmt_57 : (jmi m_Loop_init).2.2.2.1 = none := rfl
theorem jml_58 : (jmi m_Chain_tie).2.2.1 = 2 := rfl
theorem jmt_58 : (jmi m_Chain_tie).2.2.2.1 = none := rfl
theorem jml_59 : (jmi m_B_within).2.2.1 = 5 := rfl
theorem jmt_59 : (jmi m_B_within).2.2.2.1 = some Jvm.ClassFile.FieldType.boolean := rfl
theorem jml_60 : (jmi m_B_chain_2).2.2.1 = 4 := rfl
theorem jmt_60 : (jmi m_B_chain_2).2.2.2.1 = some Jvm.ClassFile.FieldType.int := rfl
theorem jml_61 : (jmi m_B_count).2.2.1 = 2 := rfl
theorem jmt_61 : (jmi m_B_count).2.2.2.1 = some Jvm.ClassFile.FieldType.int := rfl
theorem jml_62 : (jmi m_B_feed).2.2.1 = 6 := rfl
theorem jmt_62 : (jmi m_B_feed).2.2.2.1 = some Jvm.ClassFile.FieldType.int := rfl
theorem jml_63 : (jmi m_B_fedAlone).2.2.1 = 3 := rfl
theorem jmt_63 : (jmi m_B_fedAlone).2.2.2.1 = some (Jvm.ClassFile.FieldType.object "FilterBench$Chain") := rfl
theorem jml_64 : (jmi m_B_send).2.2.1 = 11 := rfl
theorem jmt_64 : (jmi m_B_send).2.2.2.1 = some Jvm.ClassFile.FieldType.int := rfl
theorem jml_65 : (jmi m_Section_letsThrough).2.2.1 = 3 := rfl
theorem jmt_65 : (jmi m_Section_letsThrough).2.2.2.1 = some Jvm.ClassFile.FieldType.boolean := rfl
theorem jml_66 : (jmi m_Row_put).2.2.1 = 4 := rfl
theorem jmt_66 : (jmi m_Row_put).2.2.2.1 = none := rfl
theorem jml_67 : (jmi m_Chain_looped).2.2.1 = 11 := rfl
theorem jmt_67 : (jmi m_Chain_looped).2.2.2.1 = some Jvm.ClassFile.FieldType.long := rfl
theorem jml_68 : (jmi m_Chain_loopAt).2.2.1 = 2 := rfl
theorem jmt_68 : (jmi m_Chain_loopAt).2.2.2.1 = some (Jvm.ClassFile.FieldType.object "FilterBench$Loop") := rfl
theorem jml_69 : (jmi m_Real_product).2.2.1 = 16 := rfl
theorem jmt_69 : (jmi m_Real_product).2.2.2.1 = some Jvm.ClassFile.FieldType.long := rfl
theorem jml_70 : (jmi m_Real_highProduct).2.2.1 = 22 := rfl
theorem jmt_70 : (jmi m_Real_highProduct).2.2.2.1 = some Jvm.ClassFile.FieldType.long := rfl
theorem jml_71 : (jmi m_Shorts_product).2.2.1 = 5 := rfl
theorem jmt_71 : (jmi m_Shorts_product).2.2.2.1 = some Jvm.ClassFile.FieldType.long := rfl
theorem jml_72 : (jmi m_Real_term).2.2.1 = 3 := rfl
theorem jmt_72 : (jmi m_Real_term).2.2.2.1 = some Jvm.ClassFile.FieldType.long := rfl
theorem jml_73 : (jmi m_Shorts_term).2.2.1 = 3 := rfl
theorem jmt_73 : (jmi m_Shorts_term).2.2.2.1 = some Jvm.ClassFile.FieldType.long := rfl
theorem jml_74 : (jmi m_Real_plus).2.2.1 = 9 := rfl
theorem jmt_74 : (jmi m_Real_plus).2.2.2.1 = some Jvm.ClassFile.FieldType.long := rfl
theorem jml_75 : (jmi m_Real_withInfinity).2.2.1 = 5 := rfl
theorem jmt_75 : (jmi m_Real_withInfinity).2.2.2.1 = some Jvm.ClassFile.FieldType.long := rfl
theorem jml_76 : (jmi m_Real_added).2.2.1 = 15 := rfl
theorem jmt_76 : (jmi m_Real_added).2.2.2.1 = some Jvm.ClassFile.FieldType.long := rfl
theorem jml_77 : (jmi m_Real_shifted).2.2.1 = 5 := rfl
theorem jmt_77 : (jmi m_Real_shifted).2.2.2.1 = some Jvm.ClassFile.FieldType.long := rfl
theorem jml_78 : (jmi m_Shorts_plus).2.2.1 = 5 := rfl
theorem jmt_78 : (jmi m_Shorts_plus).2.2.2.1 = some Jvm.ClassFile.FieldType.long := rfl
theorem jml_79 : (jmi m_Section_settled).2.2.1 = 7 := rfl
theorem jmt_79 : (jmi m_Section_settled).2.2.2.1 = some Jvm.ClassFile.FieldType.long := rfl
theorem jml_80 : (jmi m_Shorts_rounded).2.2.1 = 3 := rfl
theorem jmt_80 : (jmi m_Shorts_rounded).2.2.2.1 = some Jvm.ClassFile.FieldType.long := rfl
theorem jml_81 : (jmi m_Shorts_isShort).2.2.1 = 2 := rfl
theorem jmt_81 : (jmi m_Shorts_isShort).2.2.2.1 = some Jvm.ClassFile.FieldType.boolean := rfl
theorem jml_82 : (jmi m_Shorts_limited).2.2.1 = 3 := rfl
theorem jmt_82 : (jmi m_Shorts_limited).2.2.2.1 = some Jvm.ClassFile.FieldType.long := rfl
theorem jml_83 : (jmi m_Shorts_cut).2.2.1 = 2 := rfl
theorem jmt_83 : (jmi m_Shorts_cut).2.2.2.1 = some Jvm.ClassFile.FieldType.long := rfl
theorem jml_84 : (jmi m_Chain_madeLast).2.2.1 = 1 := rfl
theorem jmt_84 : (jmi m_Chain_madeLast).2.2.2.1 = some Jvm.ClassFile.FieldType.long := rfl
theorem jml_85 : (jmi m_Chain_madeBefore).2.2.1 = 4 := rfl
theorem jmt_85 : (jmi m_Chain_madeBefore).2.2.2.1 = some Jvm.ClassFile.FieldType.long := rfl
theorem jml_86 : (jmi m_Section_step).2.2.1 = 5 := rfl
theorem jmt_86 : (jmi m_Section_step).2.2.2.1 = some Jvm.ClassFile.FieldType.long := rfl
theorem jml_87 : (jmi m_Section_times).2.2.1 = 4 := rfl
theorem jmt_87 : (jmi m_Section_times).2.2.2.1 = some Jvm.ClassFile.FieldType.long := rfl
theorem jml_88 : (jmi m_Section_pole).2.2.1 = 5 := rfl
theorem jmt_88 : (jmi m_Section_pole).2.2.2.1 = some Jvm.ClassFile.FieldType.long := rfl
theorem jml_89 : (jmi m_Section_direct).2.2.1 = 7 := rfl
theorem jmt_89 : (jmi m_Section_direct).2.2.2.1 = some Jvm.ClassFile.FieldType.long := rfl
theorem jml_90 : (jmi m_Section_lessTimes).2.2.1 = 4 := rfl
theorem jmt_90 : (jmi m_Section_lessTimes).2.2.2.1 = some Jvm.ClassFile.FieldType.long := rfl
theorem jml_91 : (jmi m_Real_opposite).2.2.1 = 3 := rfl
theorem jmt_91 : (jmi m_Real_opposite).2.2.2.1 = some Jvm.ClassFile.FieldType.long := rfl
theorem jml_92 : (jmi m_Real_negative).2.2.1 = 3 := rfl
theorem jmt_92 : (jmi m_Real_negative).2.2.2.1 = some Jvm.ClassFile.FieldType.long := rfl
theorem jml_93 : (jmi m_Shorts_opposite).2.2.1 = 3 := rfl
theorem jmt_93 : (jmi m_Shorts_opposite).2.2.2.1 = some Jvm.ClassFile.FieldType.long := rfl
theorem jml_94 : (jmi m_Section_second).2.2.1 = 11 := rfl
theorem jmt_94 : (jmi m_Section_second).2.2.2.1 = some Jvm.ClassFile.FieldType.long := rfl
theorem jml_95 : (jmi m_Section_turned).2.2.1 = 7 := rfl
theorem jmt_95 : (jmi m_Section_turned).2.2.2.1 = some Jvm.ClassFile.FieldType.long := rfl
theorem jml_96 : (jmi m_Section_pass).2.2.1 = 9 := rfl
theorem jmt_96 : (jmi m_Section_pass).2.2.2.1 = some Jvm.ClassFile.FieldType.long := rfl
theorem jml_97 : (jmi m_Section_delayed).2.2.1 = 5 := rfl
theorem jmt_97 : (jmi m_Section_delayed).2.2.2.1 = some Jvm.ClassFile.FieldType.long := rfl
theorem jml_98 : (jmi m_Row_push).2.2.1 = 3 := rfl
theorem jmt_98 : (jmi m_Row_push).2.2.2.1 = none := rfl
theorem jml_99 : (jmi m_Section_mean).2.2.1 = 6 := rfl
theorem jmt_99 : (jmi m_Section_mean).2.2.2.1 = some Jvm.ClassFile.FieldType.long := rfl
theorem jml_100 : (jmi m_Row_size).2.2.1 = 1 := rfl
theorem jmt_100 : (jmi m_Row_size).2.2.2.1 = some Jvm.ClassFile.FieldType.int := rfl
theorem jml_101 : (jmi m_Section_comb).2.2.1 = 5 := rfl
theorem jmt_101 : (jmi m_Section_comb).2.2.2.1 = some Jvm.ClassFile.FieldType.long := rfl
theorem jml_102 : (jmi m_Section_clipped).2.2.1 = 7 := rfl
theorem jmt_102 : (jmi m_Section_clipped).2.2.2.1 = some Jvm.ClassFile.FieldType.long := rfl
theorem jml_103 : (jmi m_Numbers_above).2.2.1 = 5 := rfl
theorem jmt_103 : (jmi m_Numbers_above).2.2.2.1 = some Jvm.ClassFile.FieldType.boolean := rfl
theorem jml_104 : (jmi m_Shorts_isNumber).2.2.1 = 3 := rfl
theorem jmt_104 : (jmi m_Shorts_isNumber).2.2.2.1 = some Jvm.ClassFile.FieldType.boolean := rfl
theorem jml_105 : (jmi m_Real_compared).2.2.1 = 5 := rfl
theorem jmt_105 : (jmi m_Real_compared).2.2.2.1 = some Jvm.ClassFile.FieldType.int := rfl
theorem jml_106 : (jmi m_JLong_compare).2.2.1 = 4 := rfl
theorem jmt_106 : (jmi m_JLong_compare).2.2.2.1 = some Jvm.ClassFile.FieldType.int := rfl
theorem jml_107 : (jmi m_Shorts_compared).2.2.1 = 5 := rfl
theorem jmt_107 : (jmi m_Shorts_compared).2.2.2.1 = some Jvm.ClassFile.FieldType.int := rfl
theorem jml_108 : (jmi m_Shorts_negative).2.2.1 = 3 := rfl
theorem jmt_108 : (jmi m_Shorts_negative).2.2.2.1 = some Jvm.ClassFile.FieldType.long := rfl
theorem jml_109 : (jmi m_Section_deadened).2.2.1 = 5 := rfl
theorem jmt_109 : (jmi m_Section_deadened).2.2.2.1 = some Jvm.ClassFile.FieldType.long := rfl
theorem jml_110 : (jmi m_Shorts_sizeOf).2.2.1 = 3 := rfl
theorem jmt_110 : (jmi m_Shorts_sizeOf).2.2.2.1 = some Jvm.ClassFile.FieldType.long := rfl
theorem jml_111 : (jmi m_Section_peak).2.2.1 = 9 := rfl
theorem jmt_111 : (jmi m_Section_peak).2.2.2.1 = some Jvm.ClassFile.FieldType.long := rfl
theorem jml_112 : (jmi m_Chain_note).2.2.1 = 6 := rfl
theorem jmt_112 : (jmi m_Chain_note).2.2.2.1 = none := rfl
theorem jml_113 : (jmi m_Chain_emit).2.2.1 = 3 := rfl
theorem jmt_113 : (jmi m_Chain_emit).2.2.2.1 = none := rfl
theorem jml_114 : (jmi m_B_run).2.2.1 = 9 := rfl
theorem jmt_114 : (jmi m_B_run).2.2.2.1 = some Jvm.ClassFile.FieldType.int := rfl
theorem jml_115 : (jmi m_Real_sample).2.2.1 = 2 := rfl
theorem jmt_115 : (jmi m_Real_sample).2.2.2.1 = some Jvm.ClassFile.FieldType.long := rfl
theorem jml_116 : (jmi m_Real_scaled).2.2.1 = 4 := rfl
theorem jmt_116 : (jmi m_Real_scaled).2.2.2.1 = some Jvm.ClassFile.FieldType.long := rfl
theorem jml_117 : (jmi m_Shorts_sample).2.2.1 = 2 := rfl
theorem jmt_117 : (jmi m_Shorts_sample).2.2.2.1 = some Jvm.ClassFile.FieldType.long := rfl
theorem jml_118 : (jmi m_B_output).2.2.1 = 4 := rfl
theorem jmt_118 : (jmi m_B_output).2.2.2.1 = some Jvm.ClassFile.FieldType.long := rfl
theorem jml_119 : (jmi m_Chain_madeAs).2.2.1 = 2 := rfl
theorem jmt_119 : (jmi m_Chain_madeAs).2.2.2.1 = some Jvm.ClassFile.FieldType.long := rfl
theorem jml_120 : (jmi m_B_measure).2.2.1 = 5 := rfl
theorem jmt_120 : (jmi m_B_measure).2.2.2.1 = some Jvm.ClassFile.FieldType.long := rfl
theorem jml_121 : (jmi m_Chain_greatestSize).2.2.1 = 7 := rfl
theorem jmt_121 : (jmi m_Chain_greatestSize).2.2.2.1 = some Jvm.ClassFile.FieldType.long := rfl
theorem jml_122 : (jmi m_Chain_signChanges).2.2.1 = 8 := rfl
theorem jmt_122 : (jmi m_Chain_signChanges).2.2.2.1 = some Jvm.ClassFile.FieldType.int := rfl
theorem jml_123 : (jmi m_Chain_longestSilence).2.2.1 = 7 := rfl
theorem jmt_123 : (jmi m_Chain_longestSilence).2.2.2.1 = some Jvm.ClassFile.FieldType.int := rfl
theorem jml_124 : (jmi m_JMath_max).2.2.1 = 2 := rfl
theorem jmt_124 : (jmi m_JMath_max).2.2.2.1 = some Jvm.ClassFile.FieldType.int := rfl
theorem jml_125 : (jmi m_B_reset).2.2.1 = 5 := rfl
theorem jmt_125 : (jmi m_B_reset).2.2.2.1 = some Jvm.ClassFile.FieldType.boolean := rfl
theorem jml_126 : (jmi m_B_gather).2.2.1 = 7 := rfl
theorem jmt_126 : (jmi m_B_gather).2.2.2.1 = some Jvm.ClassFile.FieldType.int := rfl
theorem jml_127 : (jmi m_B_gathered).2.2.1 = 3 := rfl
theorem jmt_127 : (jmi m_B_gathered).2.2.2.1 = some Jvm.ClassFile.FieldType.int := rfl
theorem jml_128 : (jmi m_Chain_silence).2.2.1 = 3 := rfl
theorem jmt_128 : (jmi m_Chain_silence).2.2.2.1 = none := rfl
theorem jml_129 : (jmi m_Chain_rowCount).2.2.1 = 1 := rfl
theorem jmt_129 : (jmi m_Chain_rowCount).2.2.2.1 = some Jvm.ClassFile.FieldType.int := rfl
theorem jml_130 : (jmi m_Chain_rowAt).2.2.1 = 3 := rfl
theorem jmt_130 : (jmi m_Chain_rowAt).2.2.2.1 = some (Jvm.ClassFile.FieldType.object "FilterBench$Row") := rfl
theorem jml_131 : (jmi m_Row_clear).2.2.1 = 1 := rfl
theorem jmt_131 : (jmi m_Row_clear).2.2.2.1 = none := rfl
theorem jml_132 : (jmi m_JArrays_fill).2.2.1 = 5 := rfl
theorem jmt_132 : (jmi m_JArrays_fill).2.2.2.1 = none := rfl
theorem jml_133 : (jmi m_B_keep).2.2.1 = 8 := rfl
theorem jmt_133 : (jmi m_B_keep).2.2.2.1 = some Jvm.ClassFile.FieldType.int := rfl
theorem jml_134 : (jmi m_Chain_valueCount).2.2.1 = 4 := rfl
theorem jmt_134 : (jmi m_Chain_valueCount).2.2.2.1 = some Jvm.ClassFile.FieldType.int := rfl
theorem jml_135 : (jmi m_Kept_init).2.2.1 = 4 := rfl
theorem jmt_135 : (jmi m_Kept_init).2.2.2.1 = none := rfl
theorem jml_136 : (jmi m_Kept_shape).2.2.1 = 4 := rfl
theorem jmt_136 : (jmi m_Kept_shape).2.2.2.1 = none := rfl
theorem jml_137 : (jmi m_Chain_save).2.2.1 = 6 := rfl
theorem jmt_137 : (jmi m_Chain_save).2.2.2.1 = some Jvm.ClassFile.FieldType.int := rfl
theorem jml_138 : (jmi m_Row_save).2.2.1 = 4 := rfl
theorem jmt_138 : (jmi m_Row_save).2.2.2.1 = some Jvm.ClassFile.FieldType.int := rfl
theorem jml_139 : (jmi m_B_back).2.2.1 = 5 := rfl
theorem jmt_139 : (jmi m_B_back).2.2.2.1 = some Jvm.ClassFile.FieldType.boolean := rfl
theorem jml_140 : (jmi m_B_keptAt).2.2.1 = 2 := rfl
theorem jmt_140 : (jmi m_B_keptAt).2.2.2.1 = some (Jvm.ClassFile.FieldType.object "FilterBench$Kept") := rfl
theorem jml_141 : (jmi m_B_gatherAsKept).2.2.1 = 4 := rfl
theorem jmt_141 : (jmi m_B_gatherAsKept).2.2.2.1 = some Jvm.ClassFile.FieldType.boolean := rfl
theorem jml_142 : (jmi m_Kept_chainCount).2.2.1 = 1 := rfl
theorem jmt_142 : (jmi m_Kept_chainCount).2.2.2.1 = some Jvm.ClassFile.FieldType.int := rfl
theorem jml_143 : (jmi m_Kept_isShaped).2.2.1 = 4 := rfl
theorem jmt_143 : (jmi m_Kept_isShaped).2.2.2.1 = some Jvm.ClassFile.FieldType.boolean := rfl
theorem jml_144 : (jmi m_Chain_load).2.2.1 = 6 := rfl
theorem jmt_144 : (jmi m_Chain_load).2.2.2.1 = some Jvm.ClassFile.FieldType.int := rfl
theorem jml_145 : (jmi m_Row_load).2.2.1 = 4 := rfl
theorem jmt_145 : (jmi m_Row_load).2.2.2.1 = some Jvm.ClassFile.FieldType.int := rfl
theorem jml_146 : (jmi m_B_same).2.2.1 = 5 := rfl
theorem jmt_146 : (jmi m_B_same).2.2.2.1 = some Jvm.ClassFile.FieldType.boolean := rfl
theorem jml_147 : (jmi m_Chain_holdsValues).2.2.1 = 6 := rfl
theorem jmt_147 : (jmi m_Chain_holdsValues).2.2.2.1 = some Jvm.ClassFile.FieldType.boolean := rfl
theorem jml_148 : (jmi m_Row_holdsValues).2.2.1 = 4 := rfl
theorem jmt_148 : (jmi m_Row_holdsValues).2.2.2.1 = some Jvm.ClassFile.FieldType.boolean := rfl
theorem jml_149 : (jmi m_B_poles).2.2.1 = 3 := rfl
theorem jmt_149 : (jmi m_B_poles).2.2.2.1 = some Jvm.ClassFile.FieldType.int := rfl
theorem jml_150 : (jmi m_B_meaningOf).2.2.1 = 3 := rfl
theorem jmt_150 : (jmi m_B_meaningOf).2.2.2.1 = some Jvm.ClassFile.FieldType.long := rfl
theorem jml_151 : (jmi m_Real_meaning).2.2.1 = 5 := rfl
theorem jmt_151 : (jmi m_Real_meaning).2.2.2.1 = some Jvm.ClassFile.FieldType.long := rfl
theorem jml_152 : (jmi m_Shorts_meaning).2.2.1 = 5 := rfl
theorem jmt_152 : (jmi m_Shorts_meaning).2.2.2.1 = some Jvm.ClassFile.FieldType.long := rfl
theorem jml_153 : (jmi m_B_judgedPole).2.2.1 = 3 := rfl
theorem jmt_153 : (jmi m_B_judgedPole).2.2.2.1 = some Jvm.ClassFile.FieldType.int := rfl
theorem jml_154 : (jmi m_Real_isFinite).2.2.1 = 3 := rfl
theorem jmt_154 : (jmi m_Real_isFinite).2.2.2.1 = some Jvm.ClassFile.FieldType.boolean := rfl
theorem jml_155 : (jmi m_B_judged).2.2.1 = 1 := rfl
theorem jmt_155 : (jmi m_B_judged).2.2.2.1 = some Jvm.ClassFile.FieldType.int := rfl
theorem jml_156 : (jmi m_B_judgedPair).2.2.1 = 7 := rfl
theorem jmt_156 : (jmi m_B_judgedPair).2.2.2.1 = some Jvm.ClassFile.FieldType.int := rfl
theorem jml_157 : (jmi m_B_comparedToOnePlus).2.2.1 = 5 := rfl
theorem jmt_157 : (jmi m_B_comparedToOnePlus).2.2.2.1 = some Jvm.ClassFile.FieldType.int := rfl
theorem jml_158 : (jmi m_B_cycles).2.2.1 = 2 := rfl
theorem jmt_158 : (jmi m_B_cycles).2.2.2.1 = some Jvm.ClassFile.FieldType.int := rfl
theorem jml_159 : (jmi m_DeadCycles_look).2.2.1 = 3 := rfl
theorem jmt_159 : (jmi m_DeadCycles_look).2.2.2.1 = some Jvm.ClassFile.FieldType.boolean := rfl
theorem jml_160 : (jmi m_DeadCycles_begin).2.2.1 = 1 := rfl
theorem jmt_160 : (jmi m_DeadCycles_begin).2.2.2.1 = none := rfl
theorem jml_161 : (jmi m_JArrays_fill_2).2.2.1 = 4 := rfl
theorem jmt_161 : (jmi m_JArrays_fill_2).2.2.2.1 = none := rfl
theorem jml_162 : (jmi m_DeadCycles_ownerOf).2.2.1 = 2 := rfl
theorem jmt_162 : (jmi m_DeadCycles_ownerOf).2.2.2.1 = some Jvm.ClassFile.FieldType.int := rfl
theorem jml_163 : (jmi m_DeadCycles_walk).2.2.1 = 7 := rfl
theorem jmt_163 : (jmi m_DeadCycles_walk).2.2.2.1 = none := rfl
theorem jml_164 : (jmi m_DeadCycles_setOwner).2.2.1 = 3 := rfl
theorem jmt_164 : (jmi m_DeadCycles_setOwner).2.2.2.1 = none := rfl
theorem jml_165 : (jmi m_DeadCycles_next).2.2.1 = 4 := rfl
theorem jmt_165 : (jmi m_DeadCycles_next).2.2.2.1 = some Jvm.ClassFile.FieldType.int := rfl
theorem jml_166 : (jmi m_DeadCycles_newCycle).2.2.1 = 6 := rfl
theorem jmt_166 : (jmi m_DeadCycles_newCycle).2.2.2.1 = some Jvm.ClassFile.FieldType.int := rfl
theorem jml_167 : (jmi m_JMath_min).2.2.1 = 2 := rfl
theorem jmt_167 : (jmi m_JMath_min).2.2.2.1 = some Jvm.ClassFile.FieldType.int := rfl
theorem jml_168 : (jmi m_DeadCycles_setTally).2.2.1 = 4 := rfl
theorem jmt_168 : (jmi m_DeadCycles_setTally).2.2.2.1 = none := rfl
theorem jml_169 : (jmi m_DeadCycles_tallyOf).2.2.1 = 2 := rfl
theorem jmt_169 : (jmi m_DeadCycles_tallyOf).2.2.2.1 = some Jvm.ClassFile.FieldType.long := rfl
theorem jml_170 : (jmi m_DeadCycles_gatherFound).2.2.1 = 2 := rfl
theorem jmt_170 : (jmi m_DeadCycles_gatherFound).2.2.2.1 = none := rfl
theorem jml_171 : (jmi m_B_cycle).2.2.1 = 4 := rfl
theorem jmt_171 : (jmi m_B_cycle).2.2.2.1 = some Jvm.ClassFile.FieldType.int := rfl
theorem jml_172 : (jmi m_DeadCycles_leastOf).2.2.1 = 2 := rfl
theorem jmt_172 : (jmi m_DeadCycles_leastOf).2.2.2.1 = some Jvm.ClassFile.FieldType.int := rfl
theorem jml_173 : (jmi m_DeadCycles_lengthOf).2.2.1 = 2 := rfl
theorem jmt_173 : (jmi m_DeadCycles_lengthOf).2.2.2.1 = some Jvm.ClassFile.FieldType.int := rfl
theorem jml_174 : (jmi m_DeadCycles_basinOf).2.2.1 = 2 := rfl
theorem jmt_174 : (jmi m_DeadCycles_basinOf).2.2.2.1 = some Jvm.ClassFile.FieldType.int := rfl
theorem jml_175 : (jmi m_B_convert).2.2.1 = 5 := rfl
theorem jmt_175 : (jmi m_B_convert).2.2.2.1 = some Jvm.ClassFile.FieldType.int := rfl
theorem jml_176 : (jmi m_B_canRemake).2.2.1 = 6 := rfl
theorem jmt_176 : (jmi m_B_canRemake).2.2.2.1 = some Jvm.ClassFile.FieldType.boolean := rfl
theorem jml_177 : (jmi m_B_canTranslate).2.2.1 = 6 := rfl
theorem jmt_177 : (jmi m_B_canTranslate).2.2.2.1 = some Jvm.ClassFile.FieldType.boolean := rfl
theorem jml_178 : (jmi m_Section_factorCount).2.2.1 = 1 := rfl
theorem jmt_178 : (jmi m_Section_factorCount).2.2.2.1 = some Jvm.ClassFile.FieldType.int := rfl
theorem jml_179 : (jmi m_B_translated).2.2.1 = 6 := rfl
theorem jmt_179 : (jmi m_B_translated).2.2.2.1 = some Jvm.ClassFile.FieldType.long := rfl
theorem jml_180 : (jmi m_Real_nearest).2.2.1 = 5 := rfl
theorem jmt_180 : (jmi m_Real_nearest).2.2.2.1 = some Jvm.ClassFile.FieldType.long := rfl
theorem jml_181 : (jmi m_Shorts_nearest).2.2.1 = 10 := rfl
theorem jmt_181 : (jmi m_Shorts_nearest).2.2.2.1 = some Jvm.ClassFile.FieldType.long := rfl
theorem jml_182 : (jmi m_B_remade).2.2.1 = 10 := rfl
theorem jmt_182 : (jmi m_B_remade).2.2.2.1 = some (Jvm.ClassFile.FieldType.object "FilterBench$Chain") := rfl
theorem jml_183 : (jmi m_B_remadeSection).2.2.1 = 6 := rfl
theorem jmt_183 : (jmi m_B_remadeSection).2.2.2.1 = some (Jvm.ClassFile.FieldType.object "FilterBench$Section") := rfl
theorem jml_184 : (jmi m_B_remakeLoops).2.2.1 = 7 := rfl
theorem jmt_184 : (jmi m_B_remakeLoops).2.2.2.1 = none := rfl
theorem jml_185 : (jmi m_R_init).2.2.1 = 1 := rfl
theorem jmt_185 : (jmi m_R_init).2.2.2.1 = none := rfl
theorem jml_186 : (jmi m_R_section).2.2.1 = 4 := rfl
theorem jmt_186 : (jmi m_R_section).2.2.2.1 = some Jvm.ClassFile.FieldType.int := rfl
theorem jml_187 : (jmi m_R_in).2.2.1 = 3 := rfl
theorem jmt_187 : (jmi m_R_in).2.2.2.1 = some Jvm.ClassFile.FieldType.boolean := rfl
theorem jml_188 : (jmi m_R_isLength).2.2.1 = 2 := rfl
theorem jmt_188 : (jmi m_R_isLength).2.2.2.1 = some Jvm.ClassFile.FieldType.boolean := rfl
theorem jml_189 : (jmi m_R_newSection).2.2.1 = 6 := rfl
theorem jmt_189 : (jmi m_R_newSection).2.2.2.1 = some Jvm.ClassFile.FieldType.int := rfl
theorem jml_190 : (jmi m_R_clears).2.2.1 = 3 := rfl
theorem jmt_190 : (jmi m_R_clears).2.2.2.1 = none := rfl
theorem jml_191 : (jmi m_R_coefficient).2.2.1 = 5 := rfl
theorem jmt_191 : (jmi m_R_coefficient).2.2.2.1 = some Jvm.ClassFile.FieldType.boolean := rfl
theorem jml_192 : (jmi m_R_isCoefficient).2.2.1 = 3 := rfl
theorem jmt_192 : (jmi m_R_isCoefficient).2.2.2.1 = some Jvm.ClassFile.FieldType.boolean := rfl
theorem jml_193 : (jmi m_R_isSection).2.2.1 = 2 := rfl
theorem jmt_193 : (jmi m_R_isSection).2.2.2.1 = some Jvm.ClassFile.FieldType.boolean := rfl
theorem jml_194 : (jmi m_R_coefficientsOf).2.2.1 = 1 := rfl
theorem jmt_194 : (jmi m_R_coefficientsOf).2.2.2.1 = some Jvm.ClassFile.FieldType.int := rfl
theorem jml_195 : (jmi m_R_isValue).2.2.1 = 3 := rfl
theorem jmt_195 : (jmi m_R_isValue).2.2.2.1 = some Jvm.ClassFile.FieldType.boolean := rfl
theorem jml_196 : (jmi m_R_valueOf).2.2.1 = 3 := rfl
theorem jmt_196 : (jmi m_R_valueOf).2.2.2.1 = some Jvm.ClassFile.FieldType.double := rfl
theorem jml_197 : (jmi m_R_ratio).2.2.1 = 15 := rfl
theorem jmt_197 : (jmi m_R_ratio).2.2.2.1 = some Jvm.ClassFile.FieldType.boolean := rfl
theorem jml_198 : (jmi m_R_isPlain).2.2.1 = 1 := rfl
theorem jmt_198 : (jmi m_R_isPlain).2.2.2.1 = some Jvm.ClassFile.FieldType.boolean := rfl
theorem jml_199 : (jmi m_R_floor).2.2.1 = 6 := rfl
theorem jmt_199 : (jmi m_R_floor).2.2.2.1 = some Jvm.ClassFile.FieldType.long := rfl
theorem jml_200 : (jmi m_R_rule).2.2.1 = 4 := rfl
theorem jmt_200 : (jmi m_R_rule).2.2.2.1 = some Jvm.ClassFile.FieldType.boolean := rfl
theorem jml_201 : (jmi m_R_chain).2.2.1 = 1 := rfl
theorem jmt_201 : (jmi m_R_chain).2.2.2.1 = some Jvm.ClassFile.FieldType.int := rfl
theorem jml_202 : (jmi m_R_newChain).2.2.1 = 2 := rfl
theorem jmt_202 : (jmi m_R_newChain).2.2.2.1 = some Jvm.ClassFile.FieldType.int := rfl
theorem jml_203 : (jmi m_R_add).2.2.1 = 3 := rfl
theorem jmt_203 : (jmi m_R_add).2.2.2.1 = some Jvm.ClassFile.FieldType.int := rfl
theorem jml_204 : (jmi m_R_isChain).2.2.1 = 2 := rfl
theorem jmt_204 : (jmi m_R_isChain).2.2.2.1 = some Jvm.ClassFile.FieldType.boolean := rfl
theorem jml_205 : (jmi m_R_sortOf).2.2.1 = 2 := rfl
theorem jmt_205 : (jmi m_R_sortOf).2.2.2.1 = some Jvm.ClassFile.FieldType.int := rfl
theorem jml_206 : (jmi m_R_countOf).2.2.1 = 6 := rfl
theorem jmt_206 : (jmi m_R_countOf).2.2.2.1 = some Jvm.ClassFile.FieldType.int := rfl
theorem jml_207 : (jmi m_R_join).2.2.1 = 4 := rfl
theorem jmt_207 : (jmi m_R_join).2.2.2.1 = some Jvm.ClassFile.FieldType.int := rfl
theorem jml_208 : (jmi m_R_loop).2.2.1 = 8 := rfl
theorem jmt_208 : (jmi m_R_loop).2.2.2.1 = some Jvm.ClassFile.FieldType.int := rfl
theorem jml_209 : (jmi m_R_newLoop).2.2.1 = 9 := rfl
theorem jmt_209 : (jmi m_R_newLoop).2.2.2.1 = some Jvm.ClassFile.FieldType.int := rfl
theorem jml_210 : (jmi m_R_within).2.2.1 = 3 := rfl
theorem jmt_210 : (jmi m_R_within).2.2.2.1 = some Jvm.ClassFile.FieldType.boolean := rfl
theorem jml_211 : (jmi m_R_feed).2.2.1 = 4 := rfl
theorem jmt_211 : (jmi m_R_feed).2.2.2.1 = some Jvm.ClassFile.FieldType.int := rfl
theorem jml_212 : (jmi m_R_isFed).2.2.1 = 2 := rfl
theorem jmt_212 : (jmi m_R_isFed).2.2.2.1 = some Jvm.ClassFile.FieldType.boolean := rfl
theorem jml_213 : (jmi m_R_goes).2.2.1 = 8 := rfl
theorem jmt_213 : (jmi m_R_goes).2.2.2.1 = some Jvm.ClassFile.FieldType.int := rfl
theorem jml_214 : (jmi m_R_goesOn).2.2.1 = 3 := rfl
theorem jmt_214 : (jmi m_R_goesOn).2.2.2.1 = some Jvm.ClassFile.FieldType.boolean := rfl
theorem jml_215 : (jmi m_R_begins).2.2.1 = 2 := rfl
theorem jmt_215 : (jmi m_R_begins).2.2.2.1 = none := rfl
theorem jml_216 : (jmi m_R_c).2.2.1 = 3 := rfl
theorem jmt_216 : (jmi m_R_c).2.2.2.1 = some Jvm.ClassFile.FieldType.double := rfl
theorem jml_217 : (jmi m_R_term).2.2.1 = 8 := rfl
theorem jmt_217 : (jmi m_R_term).2.2.2.1 = none := rfl
theorem jml_218 : (jmi m_R_product).2.2.1 = 5 := rfl
theorem jmt_218 : (jmi m_R_product).2.2.2.1 = some Jvm.ClassFile.FieldType.double := rfl
theorem jml_219 : (jmi m_R_isEndless).2.2.1 = 2 := rfl
theorem jmt_219 : (jmi m_R_isEndless).2.2.2.1 = some Jvm.ClassFile.FieldType.boolean := rfl
theorem jml_220 : (jmi m_R_joins).2.2.1 = 4 := rfl
theorem jmt_220 : (jmi m_R_joins).2.2.2.1 = none := rfl
theorem jml_221 : (jmi m_R_comes).2.2.1 = 6 := rfl
theorem jmt_221 : (jmi m_R_comes).2.2.2.1 = some Jvm.ClassFile.FieldType.double := rfl
theorem jml_222 : (jmi m_R_cut).2.2.1 = 3 := rfl
theorem jmt_222 : (jmi m_R_cut).2.2.2.1 = some Jvm.ClassFile.FieldType.double := rfl
theorem jml_223 : (jmi m_R_leaves).2.2.1 = 2 := rfl
theorem jmt_223 : (jmi m_R_leaves).2.2.2.1 = none := rfl
theorem jml_224 : (jmi m_R_term_2).2.2.1 = 6 := rfl
theorem jmt_224 : (jmi m_R_term_2).2.2.2.1 = none := rfl
theorem jml_225 : (jmi m_R_st).2.2.1 = 3 := rfl
theorem jmt_225 : (jmi m_R_st).2.2.2.1 = some Jvm.ClassFile.FieldType.double := rfl
theorem jml_226 : (jmi m_R_st_2).2.2.1 = 5 := rfl
theorem jmt_226 : (jmi m_R_st_2).2.2.2.1 = none := rfl
theorem jml_227 : (jmi m_R_waits).2.2.1 = 2 := rfl
theorem jmt_227 : (jmi m_R_waits).2.2.2.1 = none := rfl
theorem jml_228 : (jmi m_R_works).2.2.1 = 8 := rfl
theorem jmt_228 : (jmi m_R_works).2.2.2.1 = some Jvm.ClassFile.FieldType.double := rfl
theorem jml_229 : (jmi m_R_rings).2.2.1 = 8 := rfl
theorem jmt_229 : (jmi m_R_rings).2.2.2.1 = some Jvm.ClassFile.FieldType.double := rfl
theorem jml_230 : (jmi m_R_shapes).2.2.1 = 8 := rfl
theorem jmt_230 : (jmi m_R_shapes).2.2.2.1 = some Jvm.ClassFile.FieldType.double := rfl
theorem jml_231 : (jmi m_R_sizeOf).2.2.1 = 4 := rfl
theorem jmt_231 : (jmi m_R_sizeOf).2.2.2.1 = some Jvm.ClassFile.FieldType.double := rfl
theorem jml_232 : (jmi m_R_run).2.2.1 = 9 := rfl
theorem jmt_232 : (jmi m_R_run).2.2.2.1 = some Jvm.ClassFile.FieldType.int := rfl
theorem jml_233 : (jmi m_R_output).2.2.1 = 3 := rfl
theorem jmt_233 : (jmi m_R_output).2.2.2.1 = some Jvm.ClassFile.FieldType.long := rfl
theorem jml_234 : (jmi m_R_isKeptOut).2.2.1 = 3 := rfl
theorem jmt_234 : (jmi m_R_isKeptOut).2.2.2.1 = some Jvm.ClassFile.FieldType.boolean := rfl
theorem jml_235 : (jmi m_R_bitsOf).2.2.1 = 3 := rfl
theorem jmt_235 : (jmi m_R_bitsOf).2.2.2.1 = some Jvm.ClassFile.FieldType.long := rfl
theorem jml_236 : (jmi m_JDouble_doubleToLongBits).2.2.1 = 2 := rfl
theorem jmt_236 : (jmi m_JDouble_doubleToLongBits).2.2.2.1 = some Jvm.ClassFile.FieldType.long := rfl
theorem jml_237 : (jmi m_JDouble_isNaN).2.2.1 = 2 := rfl
theorem jmt_237 : (jmi m_JDouble_isNaN).2.2.2.1 = some Jvm.ClassFile.FieldType.boolean := rfl
theorem jml_238 : (jmi m_JFloat_floatToIntBits).2.2.1 = 1 := rfl
theorem jmt_238 : (jmi m_JFloat_floatToIntBits).2.2.2.1 = some Jvm.ClassFile.FieldType.int := rfl
theorem jml_239 : (jmi m_JFloat_isNaN).2.2.1 = 1 := rfl
theorem jmt_239 : (jmi m_JFloat_isNaN).2.2.2.1 = some Jvm.ClassFile.FieldType.boolean := rfl
theorem jml_240 : (jmi m_R_state).2.2.1 = 4 := rfl
theorem jmt_240 : (jmi m_R_state).2.2.2.1 = some Jvm.ClassFile.FieldType.long := rfl
theorem jml_241 : (jmi m_R_about).2.2.1 = 3 := rfl
theorem jmt_241 : (jmi m_R_about).2.2.2.1 = some Jvm.ClassFile.FieldType.int := rfl
theorem jml_242 : (jmi m_R_told).2.2.1 = 3 := rfl
theorem jmt_242 : (jmi m_R_told).2.2.2.1 = some Jvm.ClassFile.FieldType.long := rfl
theorem jml_243 : (jmi m_R_reset).2.2.1 = 3 := rfl
theorem jmt_243 : (jmi m_R_reset).2.2.2.1 = some Jvm.ClassFile.FieldType.boolean := rfl
theorem jml_244 : (jmi m_R_trees).2.2.1 = 5 := rfl
theorem jmt_244 : (jmi m_R_trees).2.2.2.1 = none := rfl
theorem jml_245 : (jmi m_R_empties).2.2.1 = 4 := rfl
theorem jmt_245 : (jmi m_R_empties).2.2.2.1 = none := rfl
theorem jml_246 : (jmi m_R_keep).2.2.1 = 3 := rfl
theorem jmt_246 : (jmi m_R_keep).2.2.2.1 = some Jvm.ClassFile.FieldType.int := rfl
theorem jml_247 : (jmi m_R_keeps).2.2.1 = 7 := rfl
theorem jmt_247 : (jmi m_R_keeps).2.2.2.1 = none := rfl
theorem jml_248 : (jmi m_R_back).2.2.1 = 3 := rfl
theorem jmt_248 : (jmi m_R_back).2.2.2.1 = some Jvm.ClassFile.FieldType.boolean := rfl
theorem jml_249 : (jmi m_R_isKept).2.2.1 = 3 := rfl
theorem jmt_249 : (jmi m_R_isKept).2.2.2.1 = some Jvm.ClassFile.FieldType.boolean := rfl
theorem jml_250 : (jmi m_R_fits).2.2.1 = 5 := rfl
theorem jmt_250 : (jmi m_R_fits).2.2.2.1 = some Jvm.ClassFile.FieldType.boolean := rfl
theorem jml_251 : (jmi m_R_backs).2.2.1 = 7 := rfl
theorem jmt_251 : (jmi m_R_backs).2.2.2.1 = none := rfl
theorem jml_252 : (jmi m_R_same).2.2.1 = 3 := rfl
theorem jmt_252 : (jmi m_R_same).2.2.2.1 = some Jvm.ClassFile.FieldType.boolean := rfl
theorem jml_253 : (jmi m_R_alike).2.2.1 = 13 := rfl
theorem jmt_253 : (jmi m_R_alike).2.2.2.1 = some Jvm.ClassFile.FieldType.boolean := rfl
theorem jml_254 : (jmi m_R_poles).2.2.1 = 9 := rfl
theorem jmt_254 : (jmi m_R_poles).2.2.2.1 = some Jvm.ClassFile.FieldType.int := rfl
theorem jml_255 : (jmi m_R_isFinite).2.2.1 = 2 := rfl
theorem jmt_255 : (jmi m_R_isFinite).2.2.2.1 = some Jvm.ClassFile.FieldType.boolean := rfl
theorem jml_256 : (jmi m_R_against).2.2.1 = 10 := rfl
theorem jmt_256 : (jmi m_R_against).2.2.2.1 = some Jvm.ClassFile.FieldType.int := rfl
theorem jml_257 : (jmi m_R_cycles).2.2.1 = 2 := rfl
theorem jmt_257 : (jmi m_R_cycles).2.2.2.1 = some Jvm.ClassFile.FieldType.int := rfl
theorem jml_258 : (jmi m_R_isDead).2.2.1 = 2 := rfl
theorem jmt_258 : (jmi m_R_isDead).2.2.2.1 = some Jvm.ClassFile.FieldType.boolean := rfl
theorem jml_259 : (jmi m_R_finds).2.2.1 = 9 := rfl
theorem jmt_259 : (jmi m_R_finds).2.2.2.1 = none := rfl
theorem jml_260 : (jmi m_R_cycle).2.2.1 = 7 := rfl
theorem jmt_260 : (jmi m_R_cycle).2.2.2.1 = some Jvm.ClassFile.FieldType.int := rfl
theorem jml_261 : (jmi m_R_convert).2.2.1 = 4 := rfl
theorem jmt_261 : (jmi m_R_convert).2.2.2.1 = some Jvm.ClassFile.FieldType.int := rfl
theorem jml_262 : (jmi m_R_asks).2.2.1 = 7 := rfl
theorem jmt_262 : (jmi m_R_asks).2.2.2.1 = none := rfl
theorem jml_263 : (jmi m_R_turned).2.2.1 = 14 := rfl
theorem jmt_263 : (jmi m_R_turned).2.2.2.1 = some Jvm.ClassFile.FieldType.double := rfl
theorem jml_264 : (jmi m_R_anew).2.2.1 = 10 := rfl
theorem jmt_264 : (jmi m_R_anew).2.2.2.1 = some Jvm.ClassFile.FieldType.int := rfl
theorem jml_265 : (jmi m_R_gathers).2.2.1 = 6 := rfl
theorem jmt_265 : (jmi m_R_gathers).2.2.2.1 = some Jvm.ClassFile.FieldType.int := rfl
theorem jml_266 : (jmi m_R_measure).2.2.1 = 19 := rfl
theorem jmt_266 : (jmi m_R_measure).2.2.2.1 = some Jvm.ClassFile.FieldType.long := rfl
theorem jml_267 : (jmi m_R_count).2.2.1 = 2 := rfl
theorem jmt_267 : (jmi m_R_count).2.2.2.1 = some Jvm.ClassFile.FieldType.int := rfl
theorem jml_268 : (jmi m_R_chain_2).2.2.1 = 3 := rfl
theorem jmt_268 : (jmi m_R_chain_2).2.2.2.1 = some Jvm.ClassFile.FieldType.int := rfl
theorem jml_269 : (jmi m_L_law).2.2.1 = 4 := rfl
theorem jmt_269 : (jmi m_L_law).2.2.2.1 = some Jvm.ClassFile.FieldType.boolean := rfl
