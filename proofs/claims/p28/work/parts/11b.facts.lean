/-! facts of the tables (printed by wip/p28/dec.py) -/
theorem jf_0_0 : jG m_B_init 0 (.aload_n 0) [] (.null) 1 := ⟨rfl, rfl⟩
theorem jf_0_1 : jG m_B_init 1 (.invokespecial 3) [0] (.null) 4 := ⟨rfl, rfl⟩
theorem jf_0_4 : jG m_B_init 4 (.aload_n 0) [] (.null) 5 := ⟨rfl, rfl⟩
theorem jf_0_5 : jG m_B_init 5 (.new 9) [5] (.null) 8 := ⟨rfl, rfl⟩
theorem jf_0_8 : jG m_B_init 8 (.dup) [] (.null) 9 := ⟨rfl, rfl⟩
theorem jf_0_9 : jG m_B_init 9 (.bipush 52) [] (.null) 11 := ⟨rfl, rfl⟩
theorem jf_0_11 : jG m_B_init 11 (.bipush 11) [] (.null) 13 := ⟨rfl, rfl⟩
theorem jf_0_13 : jG m_B_init 13 (.invokespecial 11) [1, m_Real_init, 2] (.null) 16 := ⟨rfl, rfl⟩
theorem jf_0_16 : jG m_B_init 16 (.putfield 14) [0, 0] (.null) 19 := ⟨rfl, rfl⟩
theorem jf_0_19 : jG m_B_init 19 (.aload_n 0) [] (.null) 20 := ⟨rfl, rfl⟩
theorem jf_0_20 : jG m_B_init 20 (.new 9) [5] (.null) 23 := ⟨rfl, rfl⟩
theorem jf_0_23 : jG m_B_init 23 (.dup) [] (.null) 24 := ⟨rfl, rfl⟩
theorem jf_0_24 : jG m_B_init 24 (.bipush 23) [] (.null) 26 := ⟨rfl, rfl⟩
theorem jf_0_26 : jG m_B_init 26 (.bipush 8) [] (.null) 28 := ⟨rfl, rfl⟩
theorem jf_0_28 : jG m_B_init 28 (.invokespecial 11) [1, m_Real_init, 2] (.null) 31 := ⟨rfl, rfl⟩
theorem jf_0_31 : jG m_B_init 31 (.putfield 18) [0, 1] (.null) 34 := ⟨rfl, rfl⟩
theorem jf_0_34 : jG m_B_init 34 (.aload_n 0) [] (.null) 35 := ⟨rfl, rfl⟩
theorem jf_0_35 : jG m_B_init 35 (.new 21) [8] (.null) 38 := ⟨rfl, rfl⟩
theorem jf_0_38 : jG m_B_init 38 (.dup) [] (.null) 39 := ⟨rfl, rfl⟩
theorem jf_0_39 : jG m_B_init 39 (.invokespecial 23) [2, m_Shorts_init, 0] (.null) 42 := ⟨rfl, rfl⟩
theorem jf_0_42 : jG m_B_init 42 (.putfield 24) [0, 2] (.null) 45 := ⟨rfl, rfl⟩
theorem jf_0_45 : jG m_B_init 45 (.aload_n 0) [] (.null) 46 := ⟨rfl, rfl⟩
theorem jf_0_46 : jG m_B_init 46 (.bipush 60) [] (.null) 48 := ⟨rfl, rfl⟩
theorem jf_0_48 : jG m_B_init 48 (.anewarray 28) [7] (.null) 51 := ⟨rfl, rfl⟩
theorem jf_0_51 : jG m_B_init 51 (.putfield 30) [0, 3] (.null) 54 := ⟨rfl, rfl⟩
theorem jf_0_54 : jG m_B_init 54 (.aload_n 0) [] (.null) 55 := ⟨rfl, rfl⟩
theorem jf_0_55 : jG m_B_init 55 (.bipush 20) [] (.null) 57 := ⟨rfl, rfl⟩
theorem jf_0_57 : jG m_B_init 57 (.anewarray 34) [1] (.null) 60 := ⟨rfl, rfl⟩
theorem jf_0_60 : jG m_B_init 60 (.putfield 36) [0, 5] (.null) 63 := ⟨rfl, rfl⟩
theorem jf_0_63 : jG m_B_init 63 (.aload_n 0) [] (.null) 64 := ⟨rfl, rfl⟩
theorem jf_0_64 : jG m_B_init 64 (.bipush 8) [] (.null) 66 := ⟨rfl, rfl⟩
theorem jf_0_66 : jG m_B_init 66 (.anewarray 40) [3] (.null) 69 := ⟨rfl, rfl⟩
theorem jf_0_69 : jG m_B_init 69 (.putfield 42) [0, 7] (.null) 72 := ⟨rfl, rfl⟩
theorem jf_0_72 : jG m_B_init 72 (.aload_n 0) [] (.null) 73 := ⟨rfl, rfl⟩
theorem jf_0_73 : jG m_B_init 73 (.bipush 20) [] (.null) 75 := ⟨rfl, rfl⟩
theorem jf_0_75 : jG m_B_init 75 (.anewarray 34) [1] (.null) 78 := ⟨rfl, rfl⟩
theorem jf_0_78 : jG m_B_init 78 (.putfield 46) [0, 9] (.null) 81 := ⟨rfl, rfl⟩
theorem jf_0_81 : jG m_B_init 81 (.aload_n 0) [] (.null) 82 := ⟨rfl, rfl⟩
theorem jf_0_82 : jG m_B_init 82 (.new 49) [2] (.null) 85 := ⟨rfl, rfl⟩
theorem jf_0_85 : jG m_B_init 85 (.dup) [] (.null) 86 := ⟨rfl, rfl⟩
theorem jf_0_86 : jG m_B_init 86 (.invokespecial 51) [2, m_DeadCycles_init, 0] (.null) 89 := ⟨rfl, rfl⟩
theorem jf_0_89 : jG m_B_init 89 (.putfield 52) [0, 10] (.null) 92 := ⟨rfl, rfl⟩
theorem jf_0_92 : jG m_B_init 92 (.return_) [] (.null) 93 := ⟨rfl, rfl⟩
theorem jf_1_0 : jG m_Real_init 0 (.aload_n 0) [] (.null) 1 := ⟨rfl, rfl⟩
theorem jf_1_1 : jG m_Real_init 1 (.invokespecial 1) [2, m_Numbers_init, 0] (.null) 4 := ⟨rfl, rfl⟩
theorem jf_1_4 : jG m_Real_init 4 (.aload_n 0) [] (.null) 5 := ⟨rfl, rfl⟩
theorem jf_1_5 : jG m_Real_init 5 (.iload_n 1) [] (.null) 6 := ⟨rfl, rfl⟩
theorem jf_1_6 : jG m_Real_init 6 (.putfield 7) [5, 0] (.null) 9 := ⟨rfl, rfl⟩
theorem jf_1_9 : jG m_Real_init 9 (.aload_n 0) [] (.null) 10 := ⟨rfl, rfl⟩
theorem jf_1_10 : jG m_Real_init 10 (.lconst 1) [] (.null) 11 := ⟨rfl, rfl⟩
theorem jf_1_11 : jG m_Real_init 11 (.iload_n 1) [] (.null) 12 := ⟨rfl, rfl⟩
theorem jf_1_12 : jG m_Real_init 12 (.lshl) [] (.null) 13 := ⟨rfl, rfl⟩
theorem jf_1_13 : jG m_Real_init 13 (.putfield 13) [5, 1] (.null) 16 := ⟨rfl, rfl⟩
theorem jf_1_16 : jG m_Real_init 16 (.aload_n 0) [] (.null) 17 := ⟨rfl, rfl⟩
theorem jf_1_17 : jG m_Real_init 17 (.iconst 1) [] (.null) 18 := ⟨rfl, rfl⟩
theorem jf_1_18 : jG m_Real_init 18 (.iload_n 2) [] (.null) 19 := ⟨rfl, rfl⟩
theorem jf_1_19 : jG m_Real_init 19 (.ishl) [] (.null) 20 := ⟨rfl, rfl⟩
theorem jf_1_20 : jG m_Real_init 20 (.iconst 1) [] (.null) 21 := ⟨rfl, rfl⟩
theorem jf_1_21 : jG m_Real_init 21 (.isub) [] (.null) 22 := ⟨rfl, rfl⟩
theorem jf_1_22 : jG m_Real_init 22 (.putfield 17) [5, 2] (.null) 25 := ⟨rfl, rfl⟩
theorem jf_1_25 : jG m_Real_init 25 (.aload_n 0) [] (.null) 26 := ⟨rfl, rfl⟩
theorem jf_1_26 : jG m_Real_init 26 (.aload_n 0) [] (.null) 27 := ⟨rfl, rfl⟩
theorem jf_1_27 : jG m_Real_init 27 (.getfield 17) [5, 2] (.null) 30 := ⟨rfl, rfl⟩
theorem jf_1_30 : jG m_Real_init 30 (.iconst 1) [] (.null) 31 := ⟨rfl, rfl⟩
theorem jf_1_31 : jG m_Real_init 31 (.ishr) [] (.null) 32 := ⟨rfl, rfl⟩
theorem jf_1_32 : jG m_Real_init 32 (.putfield 20) [5, 3] (.null) 35 := ⟨rfl, rfl⟩
theorem jf_1_35 : jG m_Real_init 35 (.aload_n 0) [] (.null) 36 := ⟨rfl, rfl⟩
theorem jf_1_36 : jG m_Real_init 36 (.ldc2_w 23) [] (.long (-1)) 39 := ⟨rfl, rfl⟩
theorem jf_1_39 : jG m_Real_init 39 (.iload_n 1) [] (.null) 40 := ⟨rfl, rfl⟩
theorem jf_1_40 : jG m_Real_init 40 (.iload_n 2) [] (.null) 41 := ⟨rfl, rfl⟩
theorem jf_1_41 : jG m_Real_init 41 (.iadd) [] (.null) 42 := ⟨rfl, rfl⟩
theorem jf_1_42 : jG m_Real_init 42 (.lshl) [] (.null) 43 := ⟨rfl, rfl⟩
theorem jf_1_43 : jG m_Real_init 43 (.putfield 25) [5, 4] (.null) 46 := ⟨rfl, rfl⟩
theorem jf_1_46 : jG m_Real_init 46 (.aload_n 0) [] (.null) 47 := ⟨rfl, rfl⟩
theorem jf_1_47 : jG m_Real_init 47 (.aload_n 0) [] (.null) 48 := ⟨rfl, rfl⟩
theorem jf_1_48 : jG m_Real_init 48 (.getfield 17) [5, 2] (.null) 51 := ⟨rfl, rfl⟩
theorem jf_1_51 : jG m_Real_init 51 (.i2l) [] (.null) 52 := ⟨rfl, rfl⟩
theorem jf_1_52 : jG m_Real_init 52 (.iload_n 1) [] (.null) 53 := ⟨rfl, rfl⟩
theorem jf_1_53 : jG m_Real_init 53 (.lshl) [] (.null) 54 := ⟨rfl, rfl⟩
theorem jf_1_54 : jG m_Real_init 54 (.putfield 28) [5, 5] (.null) 57 := ⟨rfl, rfl⟩
theorem jf_1_57 : jG m_Real_init 57 (.aload_n 0) [] (.null) 58 := ⟨rfl, rfl⟩
theorem jf_1_58 : jG m_Real_init 58 (.aload_n 0) [] (.null) 59 := ⟨rfl, rfl⟩
theorem jf_1_59 : jG m_Real_init 59 (.getfield 28) [5, 5] (.null) 62 := ⟨rfl, rfl⟩
theorem jf_1_62 : jG m_Real_init 62 (.aload_n 0) [] (.null) 63 := ⟨rfl, rfl⟩
theorem jf_1_63 : jG m_Real_init 63 (.getfield 13) [5, 1] (.null) 66 := ⟨rfl, rfl⟩
theorem jf_1_66 : jG m_Real_init 66 (.iconst 1) [] (.null) 67 := ⟨rfl, rfl⟩
theorem jf_1_67 : jG m_Real_init 67 (.lshr) [] (.null) 68 := ⟨rfl, rfl⟩
theorem jf_1_68 : jG m_Real_init 68 (.lor) [] (.null) 69 := ⟨rfl, rfl⟩
theorem jf_1_69 : jG m_Real_init 69 (.putfield 31) [5, 6] (.null) 72 := ⟨rfl, rfl⟩
theorem jf_1_72 : jG m_Real_init 72 (.return_) [] (.null) 73 := ⟨rfl, rfl⟩
theorem jf_2_0 : jG m_Numbers_init 0 (.aload_n 0) [] (.null) 1 := ⟨rfl, rfl⟩
theorem jf_2_1 : jG m_Numbers_init 1 (.invokespecial 1) [0] (.null) 4 := ⟨rfl, rfl⟩
theorem jf_2_4 : jG m_Numbers_init 4 (.return_) [] (.null) 5 := ⟨rfl, rfl⟩
theorem jf_3_0 : jG m_Shorts_init 0 (.aload_n 0) [] (.null) 1 := ⟨rfl, rfl⟩
theorem jf_3_1 : jG m_Shorts_init 1 (.invokespecial 3) [2, m_Numbers_init, 0] (.null) 4 := ⟨rfl, rfl⟩
theorem jf_3_4 : jG m_Shorts_init 4 (.return_) [] (.null) 5 := ⟨rfl, rfl⟩
theorem jf_4_0 : jG m_DeadCycles_init 0 (.aload_n 0) [] (.null) 1 := ⟨rfl, rfl⟩
theorem jf_4_1 : jG m_DeadCycles_init 1 (.invokespecial 3) [0] (.null) 4 := ⟨rfl, rfl⟩
theorem jf_4_4 : jG m_DeadCycles_init 4 (.return_) [] (.null) 5 := ⟨rfl, rfl⟩
theorem jf_5_0 : jG m_B_section 0 (.aload_n 0) [] (.null) 1 := ⟨rfl, rfl⟩
theorem jf_5_1 : jG m_B_section 1 (.iload_n 2) [] (.null) 2 := ⟨rfl, rfl⟩
theorem jf_5_2 : jG m_B_section 2 (.invokevirtual 56) [6, 1, 0, m_B_numbersOf] (.null) 5 := ⟨rfl, rfl⟩
theorem jf_5_5 : jG m_B_section 5 (.astore 4) [] (.null) 7 := ⟨rfl, rfl⟩
theorem jf_5_7 : jG m_B_section 7 (.aload 4) [] (.null) 9 := ⟨rfl, rfl⟩
theorem jf_5_9 : jG m_B_section 9 (.ifnull 18) [27] (.null) 12 := ⟨rfl, rfl⟩
theorem jf_5_12 : jG m_B_section 12 (.iload_n 1) [] (.null) 13 := ⟨rfl, rfl⟩
theorem jf_5_13 : jG m_B_section 13 (.invokestatic 60) [3, m_B_isKind, 1] (.null) 16 := ⟨rfl, rfl⟩
theorem jf_5_16 : jG m_B_section 16 (.ifCond .eq 11) [27] (.null) 19 := ⟨rfl, rfl⟩
theorem jf_5_19 : jG m_B_section 19 (.iload_n 1) [] (.null) 20 := ⟨rfl, rfl⟩
theorem jf_5_20 : jG m_B_section 20 (.iload_n 3) [] (.null) 21 := ⟨rfl, rfl⟩
theorem jf_5_21 : jG m_B_section 21 (.invokestatic 64) [3, m_B_fitsKind, 2] (.null) 24 := ⟨rfl, rfl⟩
theorem jf_5_24 : jG m_B_section 24 (.ifCond .ne 5) [29] (.null) 27 := ⟨rfl, rfl⟩
theorem jf_5_27 : jG m_B_section 27 (.iconst (-1)) [] (.null) 28 := ⟨rfl, rfl⟩
theorem jf_5_28 : jG m_B_section 28 (.ireturn) [] (.null) 29 := ⟨rfl, rfl⟩
theorem jf_5_29 : jG m_B_section 29 (.aload_n 0) [] (.null) 30 := ⟨rfl, rfl⟩
theorem jf_5_30 : jG m_B_section 30 (.iload_n 1) [] (.null) 31 := ⟨rfl, rfl⟩
theorem jf_5_31 : jG m_B_section 31 (.iload_n 2) [] (.null) 32 := ⟨rfl, rfl⟩
theorem jf_5_32 : jG m_B_section 32 (.iload_n 3) [] (.null) 33 := ⟨rfl, rfl⟩
theorem jf_5_33 : jG m_B_section 33 (.aload 4) [] (.null) 35 := ⟨rfl, rfl⟩
theorem jf_5_35 : jG m_B_section 35 (.invokevirtual 68) [6, 4, 0, m_B_newSection] (.null) 38 := ⟨rfl, rfl⟩
theorem jf_5_38 : jG m_B_section 38 (.astore 5) [] (.null) 40 := ⟨rfl, rfl⟩
theorem jf_5_40 : jG m_B_section 40 (.aload 5) [] (.null) 42 := ⟨rfl, rfl⟩
theorem jf_5_42 : jG m_B_section 42 (.ifnonnull 7) [49] (.null) 45 := ⟨rfl, rfl⟩
theorem jf_5_45 : jG m_B_section 45 (.iconst (-1)) [] (.null) 46 := ⟨rfl, rfl⟩
theorem jf_5_46 : jG m_B_section 46 (.goto 8) [54] (.null) 49 := ⟨rfl, rfl⟩
theorem jf_5_49 : jG m_B_section 49 (.aload 5) [] (.null) 51 := ⟨rfl, rfl⟩
theorem jf_5_51 : jG m_B_section 51 (.getfield 72) [7, 0] (.null) 54 := ⟨rfl, rfl⟩
theorem jf_5_54 : jG m_B_section 54 (.ireturn) [] (.null) 55 := ⟨rfl, rfl⟩
theorem jf_6_0 : jG m_B_numbersOf 0 (.iload_n 1) [] (.null) 1 := ⟨rfl, rfl⟩
theorem jf_6_1 : jG m_B_numbersOf 1 (.tableswitch 42 0 2 #[27, 32, 37]) [43, 28, 33, 38] (.null) 2 := ⟨rfl, rfl⟩
theorem jf_6_28 : jG m_B_numbersOf 28 (.aload_n 0) [] (.null) 29 := ⟨rfl, rfl⟩
theorem jf_6_29 : jG m_B_numbersOf 29 (.getfield 14) [0, 0] (.null) 32 := ⟨rfl, rfl⟩
theorem jf_6_32 : jG m_B_numbersOf 32 (.areturn) [] (.null) 33 := ⟨rfl, rfl⟩
theorem jf_6_33 : jG m_B_numbersOf 33 (.aload_n 0) [] (.null) 34 := ⟨rfl, rfl⟩
theorem jf_6_34 : jG m_B_numbersOf 34 (.getfield 18) [0, 1] (.null) 37 := ⟨rfl, rfl⟩
theorem jf_6_37 : jG m_B_numbersOf 37 (.areturn) [] (.null) 38 := ⟨rfl, rfl⟩
theorem jf_6_38 : jG m_B_numbersOf 38 (.aload_n 0) [] (.null) 39 := ⟨rfl, rfl⟩
theorem jf_6_39 : jG m_B_numbersOf 39 (.getfield 24) [0, 2] (.null) 42 := ⟨rfl, rfl⟩
theorem jf_6_42 : jG m_B_numbersOf 42 (.areturn) [] (.null) 43 := ⟨rfl, rfl⟩
theorem jf_6_43 : jG m_B_numbersOf 43 (.aconst_null) [] (.null) 44 := ⟨rfl, rfl⟩
theorem jf_6_44 : jG m_B_numbersOf 44 (.areturn) [] (.null) 45 := ⟨rfl, rfl⟩
theorem jf_7_0 : jG m_B_isKind 0 (.iload_n 0) [] (.null) 1 := ⟨rfl, rfl⟩
theorem jf_7_1 : jG m_B_isKind 1 (.ifCond .lt 15) [16] (.null) 4 := ⟨rfl, rfl⟩
theorem jf_7_4 : jG m_B_isKind 4 (.iload_n 0) [] (.null) 5 := ⟨rfl, rfl⟩
theorem jf_7_5 : jG m_B_isKind 5 (.getstatic 160) [0] (.null) 8 := ⟨rfl, rfl⟩
theorem jf_7_8 : jG m_B_isKind 8 (.arraylength) [] (.null) 9 := ⟨rfl, rfl⟩
theorem jf_7_9 : jG m_B_isKind 9 (.if_icmp .ge 7) [16] (.null) 12 := ⟨rfl, rfl⟩
theorem jf_7_12 : jG m_B_isKind 12 (.iconst 1) [] (.null) 13 := ⟨rfl, rfl⟩
theorem jf_7_13 : jG m_B_isKind 13 (.goto 4) [17] (.null) 16 := ⟨rfl, rfl⟩
theorem jf_7_16 : jG m_B_isKind 16 (.iconst 0) [] (.null) 17 := ⟨rfl, rfl⟩
theorem jf_7_17 : jG m_B_isKind 17 (.ireturn) [] (.null) 18 := ⟨rfl, rfl⟩
theorem jf_8_0 : jG m_B_fitsKind 0 (.iload_n 0) [] (.null) 1 := ⟨rfl, rfl⟩
theorem jf_8_1 : jG m_B_fitsKind 1 (.ifCond .lt 19) [20] (.null) 4 := ⟨rfl, rfl⟩
theorem jf_8_4 : jG m_B_fitsKind 4 (.iload_n 0) [] (.null) 5 := ⟨rfl, rfl⟩
theorem jf_8_5 : jG m_B_fitsKind 5 (.getstatic 164) [3] (.null) 8 := ⟨rfl, rfl⟩
theorem jf_8_8 : jG m_B_fitsKind 8 (.arraylength) [] (.null) 9 := ⟨rfl, rfl⟩
theorem jf_8_9 : jG m_B_fitsKind 9 (.if_icmp .ge 11) [20] (.null) 12 := ⟨rfl, rfl⟩
theorem jf_8_12 : jG m_B_fitsKind 12 (.iload_n 0) [] (.null) 13 := ⟨rfl, rfl⟩
theorem jf_8_13 : jG m_B_fitsKind 13 (.getstatic 167) [2] (.null) 16 := ⟨rfl, rfl⟩
theorem jf_8_16 : jG m_B_fitsKind 16 (.arraylength) [] (.null) 17 := ⟨rfl, rfl⟩
theorem jf_8_17 : jG m_B_fitsKind 17 (.if_icmp .lt 5) [22] (.null) 20 := ⟨rfl, rfl⟩
theorem jf_8_20 : jG m_B_fitsKind 20 (.iconst 0) [] (.null) 21 := ⟨rfl, rfl⟩
theorem jf_8_21 : jG m_B_fitsKind 21 (.ireturn) [] (.null) 22 := ⟨rfl, rfl⟩
theorem jf_8_22 : jG m_B_fitsKind 22 (.getstatic 164) [3] (.null) 25 := ⟨rfl, rfl⟩
theorem jf_8_25 : jG m_B_fitsKind 25 (.iload_n 0) [] (.null) 26 := ⟨rfl, rfl⟩
theorem jf_8_26 : jG m_B_fitsKind 26 (.iaload) [] (.null) 27 := ⟨rfl, rfl⟩
theorem jf_8_27 : jG m_B_fitsKind 27 (.ifCond .eq 21) [48] (.null) 30 := ⟨rfl, rfl⟩
theorem jf_8_30 : jG m_B_fitsKind 30 (.iload_n 1) [] (.null) 31 := ⟨rfl, rfl⟩
theorem jf_8_31 : jG m_B_fitsKind 31 (.getstatic 167) [2] (.null) 34 := ⟨rfl, rfl⟩
theorem jf_8_34 : jG m_B_fitsKind 34 (.iload_n 0) [] (.null) 35 := ⟨rfl, rfl⟩
theorem jf_8_35 : jG m_B_fitsKind 35 (.iaload) [] (.null) 36 := ⟨rfl, rfl⟩
theorem jf_8_36 : jG m_B_fitsKind 36 (.if_icmp .lt 16) [52] (.null) 39 := ⟨rfl, rfl⟩
theorem jf_8_39 : jG m_B_fitsKind 39 (.iload_n 1) [] (.null) 40 := ⟨rfl, rfl⟩
theorem jf_8_40 : jG m_B_fitsKind 40 (.getstatic 164) [3] (.null) 43 := ⟨rfl, rfl⟩
theorem jf_8_43 : jG m_B_fitsKind 43 (.iload_n 0) [] (.null) 44 := ⟨rfl, rfl⟩
theorem jf_8_44 : jG m_B_fitsKind 44 (.iaload) [] (.null) 45 := ⟨rfl, rfl⟩
theorem jf_8_45 : jG m_B_fitsKind 45 (.if_icmp .gt 7) [52] (.null) 48 := ⟨rfl, rfl⟩
theorem jf_8_48 : jG m_B_fitsKind 48 (.iconst 1) [] (.null) 49 := ⟨rfl, rfl⟩
theorem jf_8_49 : jG m_B_fitsKind 49 (.goto 4) [53] (.null) 52 := ⟨rfl, rfl⟩
theorem jf_8_52 : jG m_B_fitsKind 52 (.iconst 0) [] (.null) 53 := ⟨rfl, rfl⟩
theorem jf_8_53 : jG m_B_fitsKind 53 (.ireturn) [] (.null) 54 := ⟨rfl, rfl⟩
theorem jf_9_0 : jG m_B_newSection 0 (.aload_n 0) [] (.null) 1 := ⟨rfl, rfl⟩
theorem jf_9_1 : jG m_B_newSection 1 (.getfield 170) [0, 4] (.null) 4 := ⟨rfl, rfl⟩
theorem jf_9_4 : jG m_B_newSection 4 (.ifCond .lt 15) [19] (.null) 7 := ⟨rfl, rfl⟩
theorem jf_9_7 : jG m_B_newSection 7 (.aload_n 0) [] (.null) 8 := ⟨rfl, rfl⟩
theorem jf_9_8 : jG m_B_newSection 8 (.getfield 170) [0, 4] (.null) 11 := ⟨rfl, rfl⟩
theorem jf_9_11 : jG m_B_newSection 11 (.aload_n 0) [] (.null) 12 := ⟨rfl, rfl⟩
theorem jf_9_12 : jG m_B_newSection 12 (.getfield 30) [0, 3] (.null) 15 := ⟨rfl, rfl⟩
theorem jf_9_15 : jG m_B_newSection 15 (.arraylength) [] (.null) 16 := ⟨rfl, rfl⟩
theorem jf_9_16 : jG m_B_newSection 16 (.if_icmp .lt 5) [21] (.null) 19 := ⟨rfl, rfl⟩
theorem jf_9_19 : jG m_B_newSection 19 (.aconst_null) [] (.null) 20 := ⟨rfl, rfl⟩
theorem jf_9_20 : jG m_B_newSection 20 (.areturn) [] (.null) 21 := ⟨rfl, rfl⟩
theorem jf_9_21 : jG m_B_newSection 21 (.new 28) [7] (.null) 24 := ⟨rfl, rfl⟩
theorem jf_9_24 : jG m_B_newSection 24 (.dup) [] (.null) 25 := ⟨rfl, rfl⟩
theorem jf_9_25 : jG m_B_newSection 25 (.aload_n 0) [] (.null) 26 := ⟨rfl, rfl⟩
theorem jf_9_26 : jG m_B_newSection 26 (.getfield 170) [0, 4] (.null) 29 := ⟨rfl, rfl⟩
theorem jf_9_29 : jG m_B_newSection 29 (.iload_n 1) [] (.null) 30 := ⟨rfl, rfl⟩
theorem jf_9_30 : jG m_B_newSection 30 (.iload_n 2) [] (.null) 31 := ⟨rfl, rfl⟩
theorem jf_9_31 : jG m_B_newSection 31 (.iload_n 3) [] (.null) 32 := ⟨rfl, rfl⟩
theorem jf_9_32 : jG m_B_newSection 32 (.aload 4) [] (.null) 34 := ⟨rfl, rfl⟩
theorem jf_9_34 : jG m_B_newSection 34 (.invokespecial 173) [1, m_Section_init, 5] (.null) 37 := ⟨rfl, rfl⟩
theorem jf_9_37 : jG m_B_newSection 37 (.astore 5) [] (.null) 39 := ⟨rfl, rfl⟩
theorem jf_9_39 : jG m_B_newSection 39 (.aload_n 0) [] (.null) 40 := ⟨rfl, rfl⟩
theorem jf_9_40 : jG m_B_newSection 40 (.getfield 30) [0, 3] (.null) 43 := ⟨rfl, rfl⟩
theorem jf_9_43 : jG m_B_newSection 43 (.aload_n 0) [] (.null) 44 := ⟨rfl, rfl⟩
theorem jf_9_44 : jG m_B_newSection 44 (.getfield 170) [0, 4] (.null) 47 := ⟨rfl, rfl⟩
theorem jf_9_47 : jG m_B_newSection 47 (.aload 5) [] (.null) 49 := ⟨rfl, rfl⟩
theorem jf_9_49 : jG m_B_newSection 49 (.aastore) [] (.null) 50 := ⟨rfl, rfl⟩
theorem jf_9_50 : jG m_B_newSection 50 (.aload_n 0) [] (.null) 51 := ⟨rfl, rfl⟩
theorem jf_9_51 : jG m_B_newSection 51 (.dup) [] (.null) 52 := ⟨rfl, rfl⟩
theorem jf_9_52 : jG m_B_newSection 52 (.getfield 170) [0, 4] (.null) 55 := ⟨rfl, rfl⟩
theorem jf_9_55 : jG m_B_newSection 55 (.iconst 1) [] (.null) 56 := ⟨rfl, rfl⟩
theorem jf_9_56 : jG m_B_newSection 56 (.iadd) [] (.null) 57 := ⟨rfl, rfl⟩
theorem jf_9_57 : jG m_B_newSection 57 (.putfield 170) [0, 4] (.null) 60 := ⟨rfl, rfl⟩
theorem jf_9_60 : jG m_B_newSection 60 (.aload 5) [] (.null) 62 := ⟨rfl, rfl⟩
theorem jf_9_62 : jG m_B_newSection 62 (.areturn) [] (.null) 63 := ⟨rfl, rfl⟩
theorem jf_10_0 : jG m_Section_init 0 (.aload_n 0) [] (.null) 1 := ⟨rfl, rfl⟩
theorem jf_10_1 : jG m_Section_init 1 (.invokespecial 3) [0] (.null) 4 := ⟨rfl, rfl⟩
theorem jf_10_4 : jG m_Section_init 4 (.aload_n 0) [] (.null) 5 := ⟨rfl, rfl⟩
theorem jf_10_5 : jG m_Section_init 5 (.new 9) [6] (.null) 8 := ⟨rfl, rfl⟩
theorem jf_10_8 : jG m_Section_init 8 (.dup) [] (.null) 9 := ⟨rfl, rfl⟩
theorem jf_10_9 : jG m_Section_init 9 (.iconst 1) [] (.null) 10 := ⟨rfl, rfl⟩
theorem jf_10_10 : jG m_Section_init 10 (.invokespecial 11) [1, m_Row_init, 1] (.null) 13 := ⟨rfl, rfl⟩
theorem jf_10_13 : jG m_Section_init 13 (.putfield 14) [7, 9] (.null) 16 := ⟨rfl, rfl⟩
theorem jf_10_16 : jG m_Section_init 16 (.aload_n 0) [] (.null) 17 := ⟨rfl, rfl⟩
theorem jf_10_17 : jG m_Section_init 17 (.iconst (-1)) [] (.null) 18 := ⟨rfl, rfl⟩
theorem jf_10_18 : jG m_Section_init 18 (.putfield 20) [7, 13] (.null) 21 := ⟨rfl, rfl⟩
theorem jf_10_21 : jG m_Section_init 21 (.aload_n 0) [] (.null) 22 := ⟨rfl, rfl⟩
theorem jf_10_22 : jG m_Section_init 22 (.iload_n 1) [] (.null) 23 := ⟨rfl, rfl⟩
theorem jf_10_23 : jG m_Section_init 23 (.putfield 24) [7, 0] (.null) 26 := ⟨rfl, rfl⟩
theorem jf_10_26 : jG m_Section_init 26 (.aload_n 0) [] (.null) 27 := ⟨rfl, rfl⟩
theorem jf_10_27 : jG m_Section_init 27 (.iload_n 2) [] (.null) 28 := ⟨rfl, rfl⟩
theorem jf_10_28 : jG m_Section_init 28 (.putfield 27) [7, 1] (.null) 31 := ⟨rfl, rfl⟩
theorem jf_10_31 : jG m_Section_init 31 (.aload_n 0) [] (.null) 32 := ⟨rfl, rfl⟩
theorem jf_10_32 : jG m_Section_init 32 (.iload_n 3) [] (.null) 33 := ⟨rfl, rfl⟩
theorem jf_10_33 : jG m_Section_init 33 (.putfield 30) [7, 2] (.null) 36 := ⟨rfl, rfl⟩
theorem jf_10_36 : jG m_Section_init 36 (.aload_n 0) [] (.null) 37 := ⟨rfl, rfl⟩
theorem jf_10_37 : jG m_Section_init 37 (.iload 4) [] (.null) 39 := ⟨rfl, rfl⟩
theorem jf_10_39 : jG m_Section_init 39 (.putfield 33) [7, 3] (.null) 42 := ⟨rfl, rfl⟩
theorem jf_10_42 : jG m_Section_init 42 (.aload_n 0) [] (.null) 43 := ⟨rfl, rfl⟩
theorem jf_10_43 : jG m_Section_init 43 (.aload 5) [] (.null) 45 := ⟨rfl, rfl⟩
theorem jf_10_45 : jG m_Section_init 45 (.putfield 36) [7, 4] (.null) 48 := ⟨rfl, rfl⟩
theorem jf_10_48 : jG m_Section_init 48 (.iload_n 2) [] (.null) 49 := ⟨rfl, rfl⟩
theorem jf_10_49 : jG m_Section_init 49 (.ifCond .lt 11) [60] (.null) 52 := ⟨rfl, rfl⟩
theorem jf_10_52 : jG m_Section_init 52 (.iload_n 2) [] (.null) 53 := ⟨rfl, rfl⟩
theorem jf_10_53 : jG m_Section_init 53 (.getstatic 40) [0] (.null) 56 := ⟨rfl, rfl⟩
theorem jf_10_56 : jG m_Section_init 56 (.arraylength) [] (.null) 57 := ⟨rfl, rfl⟩
theorem jf_10_57 : jG m_Section_init 57 (.if_icmp .lt 7) [64] (.null) 60 := ⟨rfl, rfl⟩
theorem jf_10_60 : jG m_Section_init 60 (.iconst 0) [] (.null) 61 := ⟨rfl, rfl⟩
theorem jf_10_61 : jG m_Section_init 61 (.goto 8) [69] (.null) 64 := ⟨rfl, rfl⟩
theorem jf_10_64 : jG m_Section_init 64 (.getstatic 40) [0] (.null) 67 := ⟨rfl, rfl⟩
theorem jf_10_67 : jG m_Section_init 67 (.iload_n 2) [] (.null) 68 := ⟨rfl, rfl⟩
theorem jf_10_68 : jG m_Section_init 68 (.iaload) [] (.null) 69 := ⟨rfl, rfl⟩
theorem jf_10_69 : jG m_Section_init 69 (.istore 6) [] (.null) 71 := ⟨rfl, rfl⟩
theorem jf_10_71 : jG m_Section_init 71 (.aload_n 0) [] (.null) 72 := ⟨rfl, rfl⟩
theorem jf_10_72 : jG m_Section_init 72 (.iload 6) [] (.null) 74 := ⟨rfl, rfl⟩
theorem jf_10_74 : jG m_Section_init 74 (.ifCond .ge 7) [81] (.null) 77 := ⟨rfl, rfl⟩
theorem jf_10_77 : jG m_Section_init 77 (.iconst 0) [] (.null) 78 := ⟨rfl, rfl⟩
theorem jf_10_78 : jG m_Section_init 78 (.goto 5) [83] (.null) 81 := ⟨rfl, rfl⟩
theorem jf_10_81 : jG m_Section_init 81 (.iload 6) [] (.null) 83 := ⟨rfl, rfl⟩
theorem jf_10_83 : jG m_Section_init 83 (.newarray .long) [] (.null) 85 := ⟨rfl, rfl⟩
theorem jf_10_85 : jG m_Section_init 85 (.putfield 44) [7, 5] (.null) 88 := ⟨rfl, rfl⟩
theorem jf_10_88 : jG m_Section_init 88 (.iload_n 2) [] (.null) 89 := ⟨rfl, rfl⟩
theorem jf_10_89 : jG m_Section_init 89 (.ifCond .lt 11) [100] (.null) 92 := ⟨rfl, rfl⟩
theorem jf_10_92 : jG m_Section_init 92 (.iload_n 2) [] (.null) 93 := ⟨rfl, rfl⟩
theorem jf_10_93 : jG m_Section_init 93 (.getstatic 48) [1] (.null) 96 := ⟨rfl, rfl⟩
theorem jf_10_96 : jG m_Section_init 96 (.arraylength) [] (.null) 97 := ⟨rfl, rfl⟩
theorem jf_10_97 : jG m_Section_init 97 (.if_icmp .lt 7) [104] (.null) 100 := ⟨rfl, rfl⟩
theorem jf_10_100 : jG m_Section_init 100 (.iconst 0) [] (.null) 101 := ⟨rfl, rfl⟩
theorem jf_10_101 : jG m_Section_init 101 (.goto 8) [109] (.null) 104 := ⟨rfl, rfl⟩
theorem jf_10_104 : jG m_Section_init 104 (.getstatic 48) [1] (.null) 107 := ⟨rfl, rfl⟩
theorem jf_10_107 : jG m_Section_init 107 (.iload_n 2) [] (.null) 108 := ⟨rfl, rfl⟩
theorem jf_10_108 : jG m_Section_init 108 (.iaload) [] (.null) 109 := ⟨rfl, rfl⟩
theorem jf_10_109 : jG m_Section_init 109 (.istore 7) [] (.null) 111 := ⟨rfl, rfl⟩
theorem jf_10_111 : jG m_Section_init 111 (.aload_n 0) [] (.null) 112 := ⟨rfl, rfl⟩
theorem jf_10_112 : jG m_Section_init 112 (.new 9) [6] (.null) 115 := ⟨rfl, rfl⟩
theorem jf_10_115 : jG m_Section_init 115 (.dup) [] (.null) 116 := ⟨rfl, rfl⟩
theorem jf_10_116 : jG m_Section_init 116 (.iload 7) [] (.null) 118 := ⟨rfl, rfl⟩
theorem jf_10_118 : jG m_Section_init 118 (.ifCond .ge 8) [126] (.null) 121 := ⟨rfl, rfl⟩
theorem jf_10_121 : jG m_Section_init 121 (.iload 4) [] (.null) 123 := ⟨rfl, rfl⟩
theorem jf_10_123 : jG m_Section_init 123 (.goto 5) [128] (.null) 126 := ⟨rfl, rfl⟩
theorem jf_10_126 : jG m_Section_init 126 (.iload 7) [] (.null) 128 := ⟨rfl, rfl⟩
theorem jf_10_128 : jG m_Section_init 128 (.invokespecial 11) [1, m_Row_init, 1] (.null) 131 := ⟨rfl, rfl⟩
theorem jf_10_131 : jG m_Section_init 131 (.putfield 51) [7, 6] (.null) 134 := ⟨rfl, rfl⟩
theorem jf_10_134 : jG m_Section_init 134 (.return_) [] (.null) 135 := ⟨rfl, rfl⟩
theorem jf_11_0 : jG m_Row_init 0 (.aload_n 0) [] (.null) 1 := ⟨rfl, rfl⟩
theorem jf_11_1 : jG m_Row_init 1 (.invokespecial 1) [0] (.null) 4 := ⟨rfl, rfl⟩
theorem jf_11_4 : jG m_Row_init 4 (.aload_n 0) [] (.null) 5 := ⟨rfl, rfl⟩
theorem jf_11_5 : jG m_Row_init 5 (.iload_n 1) [] (.null) 6 := ⟨rfl, rfl⟩
theorem jf_11_6 : jG m_Row_init 6 (.ifCond .ge 7) [13] (.null) 9 := ⟨rfl, rfl⟩
theorem jf_11_9 : jG m_Row_init 9 (.iconst 0) [] (.null) 10 := ⟨rfl, rfl⟩
theorem jf_11_10 : jG m_Row_init 10 (.goto 4) [14] (.null) 13 := ⟨rfl, rfl⟩
theorem jf_11_13 : jG m_Row_init 13 (.iload_n 1) [] (.null) 14 := ⟨rfl, rfl⟩
theorem jf_11_14 : jG m_Row_init 14 (.newarray .long) [] (.null) 16 := ⟨rfl, rfl⟩
theorem jf_11_16 : jG m_Row_init 16 (.putfield 7) [6, 0] (.null) 19 := ⟨rfl, rfl⟩
theorem jf_11_19 : jG m_Row_init 19 (.return_) [] (.null) 20 := ⟨rfl, rfl⟩
theorem jf_12_0 : jG m_B_coefficient 0 (.aload_n 0) [] (.null) 1 := ⟨rfl, rfl⟩
theorem jf_12_1 : jG m_B_coefficient 1 (.iload_n 1) [] (.null) 2 := ⟨rfl, rfl⟩
theorem jf_12_2 : jG m_B_coefficient 2 (.invokevirtual 76) [6, 1, 0, m_B_sectionAt] (.null) 5 := ⟨rfl, rfl⟩
theorem jf_12_5 : jG m_B_coefficient 5 (.astore 5) [] (.null) 7 := ⟨rfl, rfl⟩
theorem jf_12_7 : jG m_B_coefficient 7 (.aload 5) [] (.null) 9 := ⟨rfl, rfl⟩
theorem jf_12_9 : jG m_B_coefficient 9 (.ifnull 24) [33] (.null) 12 := ⟨rfl, rfl⟩
theorem jf_12_12 : jG m_B_coefficient 12 (.aload 5) [] (.null) 14 := ⟨rfl, rfl⟩
theorem jf_12_14 : jG m_B_coefficient 14 (.iload_n 2) [] (.null) 15 := ⟨rfl, rfl⟩
theorem jf_12_15 : jG m_B_coefficient 15 (.invokevirtual 80) [6, 1, 7, m_Section_hasFactor] (.null) 18 := ⟨rfl, rfl⟩
theorem jf_12_18 : jG m_B_coefficient 18 (.ifCond .eq 15) [33] (.null) 21 := ⟨rfl, rfl⟩
theorem jf_12_21 : jG m_B_coefficient 21 (.aload 5) [] (.null) 23 := ⟨rfl, rfl⟩
theorem jf_12_23 : jG m_B_coefficient 23 (.getfield 83) [7, 4] (.null) 26 := ⟨rfl, rfl⟩
theorem jf_12_26 : jG m_B_coefficient 26 (.lload_n 3) [] (.null) 27 := ⟨rfl, rfl⟩
theorem jf_12_27 : jG m_B_coefficient 27 (.invokevirtual 87) [8, 1, 5, m_Real_holds, 8, m_Shorts_holds] (.null) 30 := ⟨rfl, rfl⟩
theorem jf_12_30 : jG m_B_coefficient 30 (.ifCond .ne 5) [35] (.null) 33 := ⟨rfl, rfl⟩
theorem jf_12_33 : jG m_B_coefficient 33 (.iconst 0) [] (.null) 34 := ⟨rfl, rfl⟩
theorem jf_12_34 : jG m_B_coefficient 34 (.ireturn) [] (.null) 35 := ⟨rfl, rfl⟩
theorem jf_12_35 : jG m_B_coefficient 35 (.aload 5) [] (.null) 37 := ⟨rfl, rfl⟩
theorem jf_12_37 : jG m_B_coefficient 37 (.iload_n 2) [] (.null) 38 := ⟨rfl, rfl⟩
theorem jf_12_38 : jG m_B_coefficient 38 (.aload 5) [] (.null) 40 := ⟨rfl, rfl⟩
theorem jf_12_40 : jG m_B_coefficient 40 (.getfield 83) [7, 4] (.null) 43 := ⟨rfl, rfl⟩
theorem jf_12_43 : jG m_B_coefficient 43 (.lload_n 3) [] (.null) 44 := ⟨rfl, rfl⟩
theorem jf_12_44 : jG m_B_coefficient 44 (.invokevirtual 93) [8, 1, 5, m_Real_clean, 8, m_Shorts_clean] (.null) 47 := ⟨rfl, rfl⟩
theorem jf_12_47 : jG m_B_coefficient 47 (.invokevirtual 97) [6, 2, 7, m_Section_setFactor] (.null) 50 := ⟨rfl, rfl⟩
theorem jf_12_50 : jG m_B_coefficient 50 (.iconst 1) [] (.null) 51 := ⟨rfl, rfl⟩
theorem jf_12_51 : jG m_B_coefficient 51 (.ireturn) [] (.null) 52 := ⟨rfl, rfl⟩
theorem jf_13_0 : jG m_B_sectionAt 0 (.iload_n 1) [] (.null) 1 := ⟨rfl, rfl⟩
theorem jf_13_1 : jG m_B_sectionAt 1 (.ifCond .lt 20) [21] (.null) 4 := ⟨rfl, rfl⟩
theorem jf_13_4 : jG m_B_sectionAt 4 (.iload_n 1) [] (.null) 5 := ⟨rfl, rfl⟩
theorem jf_13_5 : jG m_B_sectionAt 5 (.aload_n 0) [] (.null) 6 := ⟨rfl, rfl⟩
theorem jf_13_6 : jG m_B_sectionAt 6 (.getfield 170) [0, 4] (.null) 9 := ⟨rfl, rfl⟩
theorem jf_13_9 : jG m_B_sectionAt 9 (.if_icmp .ge 12) [21] (.null) 12 := ⟨rfl, rfl⟩
theorem jf_13_12 : jG m_B_sectionAt 12 (.iload_n 1) [] (.null) 13 := ⟨rfl, rfl⟩
theorem jf_13_13 : jG m_B_sectionAt 13 (.aload_n 0) [] (.null) 14 := ⟨rfl, rfl⟩
theorem jf_13_14 : jG m_B_sectionAt 14 (.getfield 30) [0, 3] (.null) 17 := ⟨rfl, rfl⟩
theorem jf_13_17 : jG m_B_sectionAt 17 (.arraylength) [] (.null) 18 := ⟨rfl, rfl⟩
theorem jf_13_18 : jG m_B_sectionAt 18 (.if_icmp .lt 7) [25] (.null) 21 := ⟨rfl, rfl⟩
theorem jf_13_21 : jG m_B_sectionAt 21 (.aconst_null) [] (.null) 22 := ⟨rfl, rfl⟩
theorem jf_13_22 : jG m_B_sectionAt 22 (.goto 9) [31] (.null) 25 := ⟨rfl, rfl⟩
theorem jf_13_25 : jG m_B_sectionAt 25 (.aload_n 0) [] (.null) 26 := ⟨rfl, rfl⟩
theorem jf_13_26 : jG m_B_sectionAt 26 (.getfield 30) [0, 3] (.null) 29 := ⟨rfl, rfl⟩
theorem jf_13_29 : jG m_B_sectionAt 29 (.iload_n 1) [] (.null) 30 := ⟨rfl, rfl⟩
theorem jf_13_30 : jG m_B_sectionAt 30 (.aaload) [] (.null) 31 := ⟨rfl, rfl⟩
theorem jf_13_31 : jG m_B_sectionAt 31 (.areturn) [] (.null) 32 := ⟨rfl, rfl⟩
theorem jf_14_0 : jG m_Section_hasFactor 0 (.iload_n 1) [] (.null) 1 := ⟨rfl, rfl⟩
theorem jf_14_1 : jG m_Section_hasFactor 1 (.ifCond .lt 16) [17] (.null) 4 := ⟨rfl, rfl⟩
theorem jf_14_4 : jG m_Section_hasFactor 4 (.iload_n 1) [] (.null) 5 := ⟨rfl, rfl⟩
theorem jf_14_5 : jG m_Section_hasFactor 5 (.aload_n 0) [] (.null) 6 := ⟨rfl, rfl⟩
theorem jf_14_6 : jG m_Section_hasFactor 6 (.getfield 44) [7, 5] (.null) 9 := ⟨rfl, rfl⟩
theorem jf_14_9 : jG m_Section_hasFactor 9 (.arraylength) [] (.null) 10 := ⟨rfl, rfl⟩
theorem jf_14_10 : jG m_Section_hasFactor 10 (.if_icmp .ge 7) [17] (.null) 13 := ⟨rfl, rfl⟩
theorem jf_14_13 : jG m_Section_hasFactor 13 (.iconst 1) [] (.null) 14 := ⟨rfl, rfl⟩
theorem jf_14_14 : jG m_Section_hasFactor 14 (.goto 4) [18] (.null) 17 := ⟨rfl, rfl⟩
theorem jf_14_17 : jG m_Section_hasFactor 17 (.iconst 0) [] (.null) 18 := ⟨rfl, rfl⟩
theorem jf_14_18 : jG m_Section_hasFactor 18 (.ireturn) [] (.null) 19 := ⟨rfl, rfl⟩
theorem jf_15_0 : jG m_Real_holds 0 (.aload_n 0) [] (.null) 1 := ⟨rfl, rfl⟩
theorem jf_15_1 : jG m_Real_holds 1 (.getfield 7) [5, 0] (.null) 4 := ⟨rfl, rfl⟩
theorem jf_15_4 : jG m_Real_holds 4 (.bipush 52) [] (.null) 6 := ⟨rfl, rfl⟩
theorem jf_15_6 : jG m_Real_holds 6 (.if_icmp .eq 11) [17] (.null) 9 := ⟨rfl, rfl⟩
theorem jf_15_9 : jG m_Real_holds 9 (.lload_n 1) [] (.null) 10 := ⟨rfl, rfl⟩
theorem jf_15_10 : jG m_Real_holds 10 (.lload_n 1) [] (.null) 11 := ⟨rfl, rfl⟩
theorem jf_15_11 : jG m_Real_holds 11 (.l2i) [] (.null) 12 := ⟨rfl, rfl⟩
theorem jf_15_12 : jG m_Real_holds 12 (.i2l) [] (.null) 13 := ⟨rfl, rfl⟩
theorem jf_15_13 : jG m_Real_holds 13 (.lcmp) [] (.null) 14 := ⟨rfl, rfl⟩
theorem jf_15_14 : jG m_Real_holds 14 (.ifCond .ne 7) [21] (.null) 17 := ⟨rfl, rfl⟩
theorem jf_15_17 : jG m_Real_holds 17 (.iconst 1) [] (.null) 18 := ⟨rfl, rfl⟩
theorem jf_15_18 : jG m_Real_holds 18 (.goto 4) [22] (.null) 21 := ⟨rfl, rfl⟩
theorem jf_15_21 : jG m_Real_holds 21 (.iconst 0) [] (.null) 22 := ⟨rfl, rfl⟩
theorem jf_15_22 : jG m_Real_holds 22 (.ireturn) [] (.null) 23 := ⟨rfl, rfl⟩
theorem jf_16_0 : jG m_Shorts_holds 0 (.lload_n 1) [] (.null) 1 := ⟨rfl, rfl⟩
theorem jf_16_1 : jG m_Shorts_holds 1 (.lload_n 1) [] (.null) 2 := ⟨rfl, rfl⟩
theorem jf_16_2 : jG m_Shorts_holds 2 (.l2i) [] (.null) 3 := ⟨rfl, rfl⟩
theorem jf_16_3 : jG m_Shorts_holds 3 (.i2s) [] (.null) 4 := ⟨rfl, rfl⟩
theorem jf_16_4 : jG m_Shorts_holds 4 (.i2l) [] (.null) 5 := ⟨rfl, rfl⟩
theorem jf_16_5 : jG m_Shorts_holds 5 (.lcmp) [] (.null) 6 := ⟨rfl, rfl⟩
theorem jf_16_6 : jG m_Shorts_holds 6 (.ifCond .ne 7) [13] (.null) 9 := ⟨rfl, rfl⟩
theorem jf_16_9 : jG m_Shorts_holds 9 (.iconst 1) [] (.null) 10 := ⟨rfl, rfl⟩
theorem jf_16_10 : jG m_Shorts_holds 10 (.goto 4) [14] (.null) 13 := ⟨rfl, rfl⟩
theorem jf_16_13 : jG m_Shorts_holds 13 (.iconst 0) [] (.null) 14 := ⟨rfl, rfl⟩
theorem jf_16_14 : jG m_Shorts_holds 14 (.ireturn) [] (.null) 15 := ⟨rfl, rfl⟩
theorem jf_17_0 : jG m_Real_clean 0 (.aload_n 0) [] (.null) 1 := ⟨rfl, rfl⟩
theorem jf_17_1 : jG m_Real_clean 1 (.lload_n 1) [] (.null) 2 := ⟨rfl, rfl⟩
theorem jf_17_2 : jG m_Real_clean 2 (.invokevirtual 34) [6, 1, 5, m_Real_isNumber] (.null) 5 := ⟨rfl, rfl⟩
theorem jf_17_5 : jG m_Real_clean 5 (.ifCond .eq 7) [12] (.null) 8 := ⟨rfl, rfl⟩
theorem jf_17_8 : jG m_Real_clean 8 (.lload_n 1) [] (.null) 9 := ⟨rfl, rfl⟩
theorem jf_17_9 : jG m_Real_clean 9 (.goto 7) [16] (.null) 12 := ⟨rfl, rfl⟩
theorem jf_17_12 : jG m_Real_clean 12 (.aload_n 0) [] (.null) 13 := ⟨rfl, rfl⟩
theorem jf_17_13 : jG m_Real_clean 13 (.getfield 31) [5, 6] (.null) 16 := ⟨rfl, rfl⟩
theorem jf_17_16 : jG m_Real_clean 16 (.lreturn) [] (.null) 17 := ⟨rfl, rfl⟩
theorem jf_18_0 : jG m_Real_isNumber 0 (.lload_n 1) [] (.null) 1 := ⟨rfl, rfl⟩
theorem jf_18_1 : jG m_Real_isNumber 1 (.aload_n 0) [] (.null) 2 := ⟨rfl, rfl⟩
theorem jf_18_2 : jG m_Real_isNumber 2 (.getfield 25) [5, 4] (.null) 5 := ⟨rfl, rfl⟩
theorem jf_18_5 : jG m_Real_isNumber 5 (.ldc2_w 23) [] (.long (-1)) 8 := ⟨rfl, rfl⟩
theorem jf_18_8 : jG m_Real_isNumber 8 (.lxor) [] (.null) 9 := ⟨rfl, rfl⟩
theorem jf_18_9 : jG m_Real_isNumber 9 (.land) [] (.null) 10 := ⟨rfl, rfl⟩
theorem jf_18_10 : jG m_Real_isNumber 10 (.aload_n 0) [] (.null) 11 := ⟨rfl, rfl⟩
theorem jf_18_11 : jG m_Real_isNumber 11 (.getfield 28) [5, 5] (.null) 14 := ⟨rfl, rfl⟩
theorem jf_18_14 : jG m_Real_isNumber 14 (.lcmp) [] (.null) 15 := ⟨rfl, rfl⟩
theorem jf_18_15 : jG m_Real_isNumber 15 (.ifCond .gt 7) [22] (.null) 18 := ⟨rfl, rfl⟩
theorem jf_18_18 : jG m_Real_isNumber 18 (.iconst 1) [] (.null) 19 := ⟨rfl, rfl⟩
theorem jf_18_19 : jG m_Real_isNumber 19 (.goto 4) [23] (.null) 22 := ⟨rfl, rfl⟩
theorem jf_18_22 : jG m_Real_isNumber 22 (.iconst 0) [] (.null) 23 := ⟨rfl, rfl⟩
theorem jf_18_23 : jG m_Real_isNumber 23 (.ireturn) [] (.null) 24 := ⟨rfl, rfl⟩
theorem jf_19_0 : jG m_Shorts_clean 0 (.lload_n 1) [] (.null) 1 := ⟨rfl, rfl⟩
theorem jf_19_1 : jG m_Shorts_clean 1 (.lreturn) [] (.null) 2 := ⟨rfl, rfl⟩
theorem jf_20_0 : jG m_Section_setFactor 0 (.iload_n 1) [] (.null) 1 := ⟨rfl, rfl⟩
theorem jf_20_1 : jG m_Section_setFactor 1 (.ifCond .lt 19) [20] (.null) 4 := ⟨rfl, rfl⟩
theorem jf_20_4 : jG m_Section_setFactor 4 (.iload_n 1) [] (.null) 5 := ⟨rfl, rfl⟩
theorem jf_20_5 : jG m_Section_setFactor 5 (.aload_n 0) [] (.null) 6 := ⟨rfl, rfl⟩
theorem jf_20_6 : jG m_Section_setFactor 6 (.getfield 44) [7, 5] (.null) 9 := ⟨rfl, rfl⟩
theorem jf_20_9 : jG m_Section_setFactor 9 (.arraylength) [] (.null) 10 := ⟨rfl, rfl⟩
theorem jf_20_10 : jG m_Section_setFactor 10 (.if_icmp .ge 10) [20] (.null) 13 := ⟨rfl, rfl⟩
theorem jf_20_13 : jG m_Section_setFactor 13 (.aload_n 0) [] (.null) 14 := ⟨rfl, rfl⟩
theorem jf_20_14 : jG m_Section_setFactor 14 (.getfield 44) [7, 5] (.null) 17 := ⟨rfl, rfl⟩
theorem jf_20_17 : jG m_Section_setFactor 17 (.iload_n 1) [] (.null) 18 := ⟨rfl, rfl⟩
theorem jf_20_18 : jG m_Section_setFactor 18 (.lload_n 2) [] (.null) 19 := ⟨rfl, rfl⟩
theorem jf_20_19 : jG m_Section_setFactor 19 (.lastore) [] (.null) 20 := ⟨rfl, rfl⟩
theorem jf_20_20 : jG m_Section_setFactor 20 (.return_) [] (.null) 21 := ⟨rfl, rfl⟩
theorem jf_21_0 : jG m_B_rule 0 (.aload_n 0) [] (.null) 1 := ⟨rfl, rfl⟩
theorem jf_21_1 : jG m_B_rule 1 (.iload_n 1) [] (.null) 2 := ⟨rfl, rfl⟩
theorem jf_21_2 : jG m_B_rule 2 (.invokevirtual 76) [6, 1, 0, m_B_sectionAt] (.null) 5 := ⟨rfl, rfl⟩
theorem jf_21_5 : jG m_B_rule 5 (.astore 4) [] (.null) 7 := ⟨rfl, rfl⟩
theorem jf_21_7 : jG m_B_rule 7 (.aload 4) [] (.null) 9 := ⟨rfl, rfl⟩
theorem jf_21_9 : jG m_B_rule 9 (.ifnull 12) [21] (.null) 12 := ⟨rfl, rfl⟩
theorem jf_21_12 : jG m_B_rule 12 (.aload 4) [] (.null) 14 := ⟨rfl, rfl⟩
theorem jf_21_14 : jG m_B_rule 14 (.getfield 109) [7, 2] (.null) 17 := ⟨rfl, rfl⟩
theorem jf_21_17 : jG m_B_rule 17 (.iconst 2) [] (.null) 18 := ⟨rfl, rfl⟩
theorem jf_21_18 : jG m_B_rule 18 (.if_icmp .eq 5) [23] (.null) 21 := ⟨rfl, rfl⟩
theorem jf_21_21 : jG m_B_rule 21 (.iconst 0) [] (.null) 22 := ⟨rfl, rfl⟩
theorem jf_21_22 : jG m_B_rule 22 (.ireturn) [] (.null) 23 := ⟨rfl, rfl⟩
theorem jf_21_23 : jG m_B_rule 23 (.iload_n 2) [] (.null) 24 := ⟨rfl, rfl⟩
theorem jf_21_24 : jG m_B_rule 24 (.ifCond .lt 17) [41] (.null) 27 := ⟨rfl, rfl⟩
theorem jf_21_27 : jG m_B_rule 27 (.iload_n 2) [] (.null) 28 := ⟨rfl, rfl⟩
theorem jf_21_28 : jG m_B_rule 28 (.iconst 2) [] (.null) 29 := ⟨rfl, rfl⟩
theorem jf_21_29 : jG m_B_rule 29 (.if_icmp .gt 12) [41] (.null) 32 := ⟨rfl, rfl⟩
theorem jf_21_32 : jG m_B_rule 32 (.iload_n 3) [] (.null) 33 := ⟨rfl, rfl⟩
theorem jf_21_33 : jG m_B_rule 33 (.ifCond .lt 8) [41] (.null) 36 := ⟨rfl, rfl⟩
theorem jf_21_36 : jG m_B_rule 36 (.iload_n 3) [] (.null) 37 := ⟨rfl, rfl⟩
theorem jf_21_37 : jG m_B_rule 37 (.iconst 1) [] (.null) 38 := ⟨rfl, rfl⟩
theorem jf_21_38 : jG m_B_rule 38 (.if_icmp .le 5) [43] (.null) 41 := ⟨rfl, rfl⟩
theorem jf_21_41 : jG m_B_rule 41 (.iconst 0) [] (.null) 42 := ⟨rfl, rfl⟩
theorem jf_21_42 : jG m_B_rule 42 (.ireturn) [] (.null) 43 := ⟨rfl, rfl⟩
theorem jf_21_43 : jG m_B_rule 43 (.aload 4) [] (.null) 45 := ⟨rfl, rfl⟩
theorem jf_21_45 : jG m_B_rule 45 (.iload_n 2) [] (.null) 46 := ⟨rfl, rfl⟩
theorem jf_21_46 : jG m_B_rule 46 (.putfield 112) [7, 7] (.null) 49 := ⟨rfl, rfl⟩
theorem jf_21_49 : jG m_B_rule 49 (.aload 4) [] (.null) 51 := ⟨rfl, rfl⟩
theorem jf_21_51 : jG m_B_rule 51 (.iload_n 3) [] (.null) 52 := ⟨rfl, rfl⟩
theorem jf_21_52 : jG m_B_rule 52 (.putfield 115) [7, 8] (.null) 55 := ⟨rfl, rfl⟩
theorem jf_21_55 : jG m_B_rule 55 (.iconst 1) [] (.null) 56 := ⟨rfl, rfl⟩
theorem jf_21_56 : jG m_B_rule 56 (.ireturn) [] (.null) 57 := ⟨rfl, rfl⟩
theorem jf_22_0 : jG m_B_state 0 (.aload_n 0) [] (.null) 1 := ⟨rfl, rfl⟩
theorem jf_22_1 : jG m_B_state 1 (.iload_n 1) [] (.null) 2 := ⟨rfl, rfl⟩
theorem jf_22_2 : jG m_B_state 2 (.invokevirtual 76) [6, 1, 0, m_B_sectionAt] (.null) 5 := ⟨rfl, rfl⟩
theorem jf_22_5 : jG m_B_state 5 (.astore_n 3) [] (.null) 6 := ⟨rfl, rfl⟩
theorem jf_22_6 : jG m_B_state 6 (.aload_n 3) [] (.null) 7 := ⟨rfl, rfl⟩
theorem jf_22_7 : jG m_B_state 7 (.ifnonnull 5) [12] (.null) 10 := ⟨rfl, rfl⟩
theorem jf_22_10 : jG m_B_state 10 (.lconst 0) [] (.null) 11 := ⟨rfl, rfl⟩
theorem jf_22_11 : jG m_B_state 11 (.lreturn) [] (.null) 12 := ⟨rfl, rfl⟩
theorem jf_22_12 : jG m_B_state 12 (.iload_n 2) [] (.null) 13 := ⟨rfl, rfl⟩
theorem jf_22_13 : jG m_B_state 13 (.bipush 100) [] (.null) 15 := ⟨rfl, rfl⟩
theorem jf_22_15 : jG m_B_state 15 (.if_icmp .ne 14) [29] (.null) 18 := ⟨rfl, rfl⟩
theorem jf_22_18 : jG m_B_state 18 (.aload_n 3) [] (.null) 19 := ⟨rfl, rfl⟩
theorem jf_22_19 : jG m_B_state 19 (.getfield 118) [7, 9] (.null) 22 := ⟨rfl, rfl⟩
theorem jf_22_22 : jG m_B_state 22 (.iconst 0) [] (.null) 23 := ⟨rfl, rfl⟩
theorem jf_22_23 : jG m_B_state 23 (.invokevirtual 122) [6, 1, 6, m_Row_at] (.null) 26 := ⟨rfl, rfl⟩
theorem jf_22_26 : jG m_B_state 26 (.goto 11) [37] (.null) 29 := ⟨rfl, rfl⟩
theorem jf_22_29 : jG m_B_state 29 (.aload_n 3) [] (.null) 30 := ⟨rfl, rfl⟩
theorem jf_22_30 : jG m_B_state 30 (.getfield 128) [7, 6] (.null) 33 := ⟨rfl, rfl⟩
theorem jf_22_33 : jG m_B_state 33 (.iload_n 2) [] (.null) 34 := ⟨rfl, rfl⟩
theorem jf_22_34 : jG m_B_state 34 (.invokevirtual 122) [6, 1, 6, m_Row_at] (.null) 37 := ⟨rfl, rfl⟩
theorem jf_22_37 : jG m_B_state 37 (.lreturn) [] (.null) 38 := ⟨rfl, rfl⟩
theorem jf_23_0 : jG m_Row_at 0 (.iload_n 1) [] (.null) 1 := ⟨rfl, rfl⟩
theorem jf_23_1 : jG m_Row_at 1 (.ifCond .lt 12) [13] (.null) 4 := ⟨rfl, rfl⟩
theorem jf_23_4 : jG m_Row_at 4 (.iload_n 1) [] (.null) 5 := ⟨rfl, rfl⟩
theorem jf_23_5 : jG m_Row_at 5 (.aload_n 0) [] (.null) 6 := ⟨rfl, rfl⟩
theorem jf_23_6 : jG m_Row_at 6 (.getfield 7) [6, 0] (.null) 9 := ⟨rfl, rfl⟩
theorem jf_23_9 : jG m_Row_at 9 (.arraylength) [] (.null) 10 := ⟨rfl, rfl⟩
theorem jf_23_10 : jG m_Row_at 10 (.if_icmp .lt 7) [17] (.null) 13 := ⟨rfl, rfl⟩
theorem jf_23_13 : jG m_Row_at 13 (.lconst 0) [] (.null) 14 := ⟨rfl, rfl⟩
theorem jf_23_14 : jG m_Row_at 14 (.goto 13) [27] (.null) 17 := ⟨rfl, rfl⟩
theorem jf_23_17 : jG m_Row_at 17 (.aload_n 0) [] (.null) 18 := ⟨rfl, rfl⟩
theorem jf_23_18 : jG m_Row_at 18 (.getfield 7) [6, 0] (.null) 21 := ⟨rfl, rfl⟩
theorem jf_23_21 : jG m_Row_at 21 (.aload_n 0) [] (.null) 22 := ⟨rfl, rfl⟩
theorem jf_23_22 : jG m_Row_at 22 (.iload_n 1) [] (.null) 23 := ⟨rfl, rfl⟩
theorem jf_23_23 : jG m_Row_at 23 (.invokevirtual 17) [6, 1, 6, m_Row_index] (.null) 26 := ⟨rfl, rfl⟩
theorem jf_23_26 : jG m_Row_at 26 (.laload) [] (.null) 27 := ⟨rfl, rfl⟩
theorem jf_23_27 : jG m_Row_at 27 (.lreturn) [] (.null) 28 := ⟨rfl, rfl⟩
theorem jf_24_0 : jG m_Row_index 0 (.aload_n 0) [] (.null) 1 := ⟨rfl, rfl⟩
theorem jf_24_1 : jG m_Row_index 1 (.getfield 13) [6, 1] (.null) 4 := ⟨rfl, rfl⟩
theorem jf_24_4 : jG m_Row_index 4 (.iload_n 1) [] (.null) 5 := ⟨rfl, rfl⟩
theorem jf_24_5 : jG m_Row_index 5 (.iadd) [] (.null) 6 := ⟨rfl, rfl⟩
theorem jf_24_6 : jG m_Row_index 6 (.istore_n 2) [] (.null) 7 := ⟨rfl, rfl⟩
theorem jf_24_7 : jG m_Row_index 7 (.iload_n 2) [] (.null) 8 := ⟨rfl, rfl⟩
theorem jf_24_8 : jG m_Row_index 8 (.aload_n 0) [] (.null) 9 := ⟨rfl, rfl⟩
theorem jf_24_9 : jG m_Row_index 9 (.getfield 7) [6, 0] (.null) 12 := ⟨rfl, rfl⟩
theorem jf_24_12 : jG m_Row_index 12 (.arraylength) [] (.null) 13 := ⟨rfl, rfl⟩
theorem jf_24_13 : jG m_Row_index 13 (.if_icmp .lt 13) [26] (.null) 16 := ⟨rfl, rfl⟩
theorem jf_24_16 : jG m_Row_index 16 (.iload_n 2) [] (.null) 17 := ⟨rfl, rfl⟩
theorem jf_24_17 : jG m_Row_index 17 (.aload_n 0) [] (.null) 18 := ⟨rfl, rfl⟩
theorem jf_24_18 : jG m_Row_index 18 (.getfield 7) [6, 0] (.null) 21 := ⟨rfl, rfl⟩
theorem jf_24_21 : jG m_Row_index 21 (.arraylength) [] (.null) 22 := ⟨rfl, rfl⟩
theorem jf_24_22 : jG m_Row_index 22 (.isub) [] (.null) 23 := ⟨rfl, rfl⟩
theorem jf_24_23 : jG m_Row_index 23 (.goto 4) [27] (.null) 26 := ⟨rfl, rfl⟩
theorem jf_24_26 : jG m_Row_index 26 (.iload_n 2) [] (.null) 27 := ⟨rfl, rfl⟩
theorem jf_24_27 : jG m_Row_index 27 (.ireturn) [] (.null) 28 := ⟨rfl, rfl⟩
theorem jf_25_0 : jG m_B_about 0 (.aload_n 0) [] (.null) 1 := ⟨rfl, rfl⟩
theorem jf_25_1 : jG m_B_about 1 (.iload_n 1) [] (.null) 2 := ⟨rfl, rfl⟩
theorem jf_25_2 : jG m_B_about 2 (.invokevirtual 76) [6, 1, 0, m_B_sectionAt] (.null) 5 := ⟨rfl, rfl⟩
theorem jf_25_5 : jG m_B_about 5 (.astore_n 3) [] (.null) 6 := ⟨rfl, rfl⟩
theorem jf_25_6 : jG m_B_about 6 (.aload_n 3) [] (.null) 7 := ⟨rfl, rfl⟩
theorem jf_25_7 : jG m_B_about 7 (.ifnonnull 5) [12] (.null) 10 := ⟨rfl, rfl⟩
theorem jf_25_10 : jG m_B_about 10 (.iconst (-1)) [] (.null) 11 := ⟨rfl, rfl⟩
theorem jf_25_11 : jG m_B_about 11 (.ireturn) [] (.null) 12 := ⟨rfl, rfl⟩
theorem jf_25_12 : jG m_B_about 12 (.iload_n 2) [] (.null) 13 := ⟨rfl, rfl⟩
theorem jf_25_13 : jG m_B_about 13 (.tableswitch 111 0 9 #[55, 60, 65, 70, 78, 83, 88, 93, 101, 106]) [124, 68, 73, 78, 83, 91, 96, 101, 106, 114, 119] (.null) 14 := ⟨rfl, rfl⟩
theorem jf_25_68 : jG m_B_about 68 (.aload_n 3) [] (.null) 69 := ⟨rfl, rfl⟩
theorem jf_25_69 : jG m_B_about 69 (.getfield 131) [7, 1] (.null) 72 := ⟨rfl, rfl⟩
theorem jf_25_72 : jG m_B_about 72 (.ireturn) [] (.null) 73 := ⟨rfl, rfl⟩
theorem jf_25_73 : jG m_B_about 73 (.aload_n 3) [] (.null) 74 := ⟨rfl, rfl⟩
theorem jf_25_74 : jG m_B_about 74 (.getfield 109) [7, 2] (.null) 77 := ⟨rfl, rfl⟩
theorem jf_25_77 : jG m_B_about 77 (.ireturn) [] (.null) 78 := ⟨rfl, rfl⟩
theorem jf_25_78 : jG m_B_about 78 (.aload_n 3) [] (.null) 79 := ⟨rfl, rfl⟩
theorem jf_25_79 : jG m_B_about 79 (.getfield 134) [7, 3] (.null) 82 := ⟨rfl, rfl⟩
theorem jf_25_82 : jG m_B_about 82 (.ireturn) [] (.null) 83 := ⟨rfl, rfl⟩
theorem jf_25_83 : jG m_B_about 83 (.aload_n 3) [] (.null) 84 := ⟨rfl, rfl⟩
theorem jf_25_84 : jG m_B_about 84 (.getfield 137) [7, 12] (.null) 87 := ⟨rfl, rfl⟩
theorem jf_25_87 : jG m_B_about 87 (.invokestatic 141) [3, m_B_numberOf, 1] (.null) 90 := ⟨rfl, rfl⟩
theorem jf_25_90 : jG m_B_about 90 (.ireturn) [] (.null) 91 := ⟨rfl, rfl⟩
theorem jf_25_91 : jG m_B_about 91 (.aload_n 3) [] (.null) 92 := ⟨rfl, rfl⟩
theorem jf_25_92 : jG m_B_about 92 (.getfield 145) [7, 13] (.null) 95 := ⟨rfl, rfl⟩
theorem jf_25_95 : jG m_B_about 95 (.ireturn) [] (.null) 96 := ⟨rfl, rfl⟩
theorem jf_25_96 : jG m_B_about 96 (.aload_n 3) [] (.null) 97 := ⟨rfl, rfl⟩
theorem jf_25_97 : jG m_B_about 97 (.getfield 148) [7, 10] (.null) 100 := ⟨rfl, rfl⟩
theorem jf_25_100 : jG m_B_about 100 (.ireturn) [] (.null) 101 := ⟨rfl, rfl⟩
theorem jf_25_101 : jG m_B_about 101 (.aload_n 3) [] (.null) 102 := ⟨rfl, rfl⟩
theorem jf_25_102 : jG m_B_about 102 (.getfield 151) [7, 11] (.null) 105 := ⟨rfl, rfl⟩
theorem jf_25_105 : jG m_B_about 105 (.ireturn) [] (.null) 106 := ⟨rfl, rfl⟩
theorem jf_25_106 : jG m_B_about 106 (.aload_n 3) [] (.null) 107 := ⟨rfl, rfl⟩
theorem jf_25_107 : jG m_B_about 107 (.getfield 154) [7, 14] (.null) 110 := ⟨rfl, rfl⟩
theorem jf_25_110 : jG m_B_about 110 (.invokestatic 141) [3, m_B_numberOf, 1] (.null) 113 := ⟨rfl, rfl⟩
theorem jf_25_113 : jG m_B_about 113 (.ireturn) [] (.null) 114 := ⟨rfl, rfl⟩
theorem jf_25_114 : jG m_B_about 114 (.aload_n 3) [] (.null) 115 := ⟨rfl, rfl⟩
theorem jf_25_115 : jG m_B_about 115 (.getfield 112) [7, 7] (.null) 118 := ⟨rfl, rfl⟩
theorem jf_25_118 : jG m_B_about 118 (.ireturn) [] (.null) 119 := ⟨rfl, rfl⟩
theorem jf_25_119 : jG m_B_about 119 (.aload_n 3) [] (.null) 120 := ⟨rfl, rfl⟩
theorem jf_25_120 : jG m_B_about 120 (.getfield 115) [7, 8] (.null) 123 := ⟨rfl, rfl⟩
theorem jf_25_123 : jG m_B_about 123 (.ireturn) [] (.null) 124 := ⟨rfl, rfl⟩
theorem jf_25_124 : jG m_B_about 124 (.iconst (-1)) [] (.null) 125 := ⟨rfl, rfl⟩
theorem jf_25_125 : jG m_B_about 125 (.ireturn) [] (.null) 126 := ⟨rfl, rfl⟩
theorem jf_26_0 : jG m_B_numberOf 0 (.aload_n 0) [] (.null) 1 := ⟨rfl, rfl⟩
theorem jf_26_1 : jG m_B_numberOf 1 (.ifnonnull 7) [8] (.null) 4 := ⟨rfl, rfl⟩
theorem jf_26_4 : jG m_B_numberOf 4 (.iconst (-1)) [] (.null) 5 := ⟨rfl, rfl⟩
theorem jf_26_5 : jG m_B_numberOf 5 (.goto 7) [12] (.null) 8 := ⟨rfl, rfl⟩
theorem jf_26_8 : jG m_B_numberOf 8 (.aload_n 0) [] (.null) 9 := ⟨rfl, rfl⟩
theorem jf_26_9 : jG m_B_numberOf 9 (.getfield 182) [1, 0] (.null) 12 := ⟨rfl, rfl⟩
theorem jf_26_12 : jG m_B_numberOf 12 (.ireturn) [] (.null) 13 := ⟨rfl, rfl⟩
theorem jf_27_0 : jG m_B_told 0 (.aload_n 0) [] (.null) 1 := ⟨rfl, rfl⟩
theorem jf_27_1 : jG m_B_told 1 (.iload_n 1) [] (.null) 2 := ⟨rfl, rfl⟩
theorem jf_27_2 : jG m_B_told 2 (.invokevirtual 76) [6, 1, 0, m_B_sectionAt] (.null) 5 := ⟨rfl, rfl⟩
theorem jf_27_5 : jG m_B_told 5 (.astore_n 3) [] (.null) 6 := ⟨rfl, rfl⟩
theorem jf_27_6 : jG m_B_told 6 (.aload_n 3) [] (.null) 7 := ⟨rfl, rfl⟩
theorem jf_27_7 : jG m_B_told 7 (.ifnonnull 7) [14] (.null) 10 := ⟨rfl, rfl⟩
theorem jf_27_10 : jG m_B_told 10 (.lconst 0) [] (.null) 11 := ⟨rfl, rfl⟩
theorem jf_27_11 : jG m_B_told 11 (.goto 8) [19] (.null) 14 := ⟨rfl, rfl⟩
theorem jf_27_14 : jG m_B_told 14 (.aload_n 3) [] (.null) 15 := ⟨rfl, rfl⟩
theorem jf_27_15 : jG m_B_told 15 (.iload_n 2) [] (.null) 16 := ⟨rfl, rfl⟩
theorem jf_27_16 : jG m_B_told 16 (.invokevirtual 157) [6, 1, 7, m_Section_factor] (.null) 19 := ⟨rfl, rfl⟩
theorem jf_27_19 : jG m_B_told 19 (.lreturn) [] (.null) 20 := ⟨rfl, rfl⟩
theorem jf_28_0 : jG m_Section_factor 0 (.iload_n 1) [] (.null) 1 := ⟨rfl, rfl⟩
theorem jf_28_1 : jG m_Section_factor 1 (.ifCond .lt 12) [13] (.null) 4 := ⟨rfl, rfl⟩
theorem jf_28_4 : jG m_Section_factor 4 (.iload_n 1) [] (.null) 5 := ⟨rfl, rfl⟩
theorem jf_28_5 : jG m_Section_factor 5 (.aload_n 0) [] (.null) 6 := ⟨rfl, rfl⟩
theorem jf_28_6 : jG m_Section_factor 6 (.getfield 44) [7, 5] (.null) 9 := ⟨rfl, rfl⟩
theorem jf_28_9 : jG m_Section_factor 9 (.arraylength) [] (.null) 10 := ⟨rfl, rfl⟩
theorem jf_28_10 : jG m_Section_factor 10 (.if_icmp .lt 7) [17] (.null) 13 := ⟨rfl, rfl⟩
theorem jf_28_13 : jG m_Section_factor 13 (.lconst 0) [] (.null) 14 := ⟨rfl, rfl⟩
theorem jf_28_14 : jG m_Section_factor 14 (.goto 9) [23] (.null) 17 := ⟨rfl, rfl⟩
theorem jf_28_17 : jG m_Section_factor 17 (.aload_n 0) [] (.null) 18 := ⟨rfl, rfl⟩
theorem jf_28_18 : jG m_Section_factor 18 (.getfield 44) [7, 5] (.null) 21 := ⟨rfl, rfl⟩
theorem jf_28_21 : jG m_Section_factor 21 (.iload_n 1) [] (.null) 22 := ⟨rfl, rfl⟩
theorem jf_28_22 : jG m_Section_factor 22 (.laload) [] (.null) 23 := ⟨rfl, rfl⟩
theorem jf_28_23 : jG m_Section_factor 23 (.lreturn) [] (.null) 24 := ⟨rfl, rfl⟩
theorem jf_29_0 : jG m_B_chain 0 (.aload_n 0) [] (.null) 1 := ⟨rfl, rfl⟩
theorem jf_29_1 : jG m_B_chain 1 (.getfield 176) [0, 6] (.null) 4 := ⟨rfl, rfl⟩
theorem jf_29_4 : jG m_B_chain 4 (.aload_n 0) [] (.null) 5 := ⟨rfl, rfl⟩
theorem jf_29_5 : jG m_B_chain 5 (.getfield 36) [0, 5] (.null) 8 := ⟨rfl, rfl⟩
theorem jf_29_8 : jG m_B_chain 8 (.arraylength) [] (.null) 9 := ⟨rfl, rfl⟩
theorem jf_29_9 : jG m_B_chain 9 (.if_icmp .lt 7) [16] (.null) 12 := ⟨rfl, rfl⟩
theorem jf_29_12 : jG m_B_chain 12 (.iconst (-1)) [] (.null) 13 := ⟨rfl, rfl⟩
theorem jf_29_13 : jG m_B_chain 13 (.goto 14) [27] (.null) 16 := ⟨rfl, rfl⟩
theorem jf_29_16 : jG m_B_chain 16 (.aload_n 0) [] (.null) 17 := ⟨rfl, rfl⟩
theorem jf_29_17 : jG m_B_chain 17 (.new 34) [1] (.null) 20 := ⟨rfl, rfl⟩
theorem jf_29_20 : jG m_B_chain 20 (.dup) [] (.null) 21 := ⟨rfl, rfl⟩
theorem jf_29_21 : jG m_B_chain 21 (.invokespecial 183) [2, m_Chain_init, 0] (.null) 24 := ⟨rfl, rfl⟩
theorem jf_29_24 : jG m_B_chain 24 (.invokevirtual 184) [6, 1, 0, m_B_registered] (.null) 27 := ⟨rfl, rfl⟩
theorem jf_29_27 : jG m_B_chain 27 (.ireturn) [] (.null) 28 := ⟨rfl, rfl⟩
theorem jf_30_0 : jG m_Chain_init 0 (.aload_n 0) [] (.null) 1 := ⟨rfl, rfl⟩
theorem jf_30_1 : jG m_Chain_init 1 (.invokespecial 3) [0] (.null) 4 := ⟨rfl, rfl⟩
theorem jf_30_4 : jG m_Chain_init 4 (.aload_n 0) [] (.null) 5 := ⟨rfl, rfl⟩
theorem jf_30_5 : jG m_Chain_init 5 (.iconst (-1)) [] (.null) 6 := ⟨rfl, rfl⟩
theorem jf_30_6 : jG m_Chain_init 6 (.putfield 9) [1, 0] (.null) 9 := ⟨rfl, rfl⟩
theorem jf_30_9 : jG m_Chain_init 9 (.aload_n 0) [] (.null) 10 := ⟨rfl, rfl⟩
theorem jf_30_10 : jG m_Chain_init 10 (.bipush 10) [] (.null) 12 := ⟨rfl, rfl⟩
theorem jf_30_12 : jG m_Chain_init 12 (.anewarray 15) [7] (.null) 15 := ⟨rfl, rfl⟩
theorem jf_30_15 : jG m_Chain_init 15 (.putfield 17) [1, 1] (.null) 18 := ⟨rfl, rfl⟩
theorem jf_30_18 : jG m_Chain_init 18 (.aload_n 0) [] (.null) 19 := ⟨rfl, rfl⟩
theorem jf_30_19 : jG m_Chain_init 19 (.iconst 3) [] (.null) 20 := ⟨rfl, rfl⟩
theorem jf_30_20 : jG m_Chain_init 20 (.anewarray 21) [4] (.null) 23 := ⟨rfl, rfl⟩
theorem jf_30_23 : jG m_Chain_init 23 (.putfield 23) [1, 3] (.null) 26 := ⟨rfl, rfl⟩
theorem jf_30_26 : jG m_Chain_init 26 (.aload_n 0) [] (.null) 27 := ⟨rfl, rfl⟩
theorem jf_30_27 : jG m_Chain_init 27 (.sipush 400) [] (.null) 30 := ⟨rfl, rfl⟩
theorem jf_30_30 : jG m_Chain_init 30 (.newarray .long) [] (.null) 32 := ⟨rfl, rfl⟩
theorem jf_30_32 : jG m_Chain_init 32 (.putfield 27) [1, 5] (.null) 35 := ⟨rfl, rfl⟩
theorem jf_30_35 : jG m_Chain_init 35 (.return_) [] (.null) 36 := ⟨rfl, rfl⟩
theorem jf_31_0 : jG m_B_registered 0 (.aload_n 0) [] (.null) 1 := ⟨rfl, rfl⟩
theorem jf_31_1 : jG m_B_registered 1 (.getfield 176) [0, 6] (.null) 4 := ⟨rfl, rfl⟩
theorem jf_31_4 : jG m_B_registered 4 (.ifCond .lt 15) [19] (.null) 7 := ⟨rfl, rfl⟩
theorem jf_31_7 : jG m_B_registered 7 (.aload_n 0) [] (.null) 8 := ⟨rfl, rfl⟩
theorem jf_31_8 : jG m_B_registered 8 (.getfield 176) [0, 6] (.null) 11 := ⟨rfl, rfl⟩
theorem jf_31_11 : jG m_B_registered 11 (.aload_n 0) [] (.null) 12 := ⟨rfl, rfl⟩
theorem jf_31_12 : jG m_B_registered 12 (.getfield 36) [0, 5] (.null) 15 := ⟨rfl, rfl⟩
theorem jf_31_15 : jG m_B_registered 15 (.arraylength) [] (.null) 16 := ⟨rfl, rfl⟩
theorem jf_31_16 : jG m_B_registered 16 (.if_icmp .lt 5) [21] (.null) 19 := ⟨rfl, rfl⟩
theorem jf_31_19 : jG m_B_registered 19 (.iconst (-1)) [] (.null) 20 := ⟨rfl, rfl⟩
theorem jf_31_20 : jG m_B_registered 20 (.ireturn) [] (.null) 21 := ⟨rfl, rfl⟩
theorem jf_31_21 : jG m_B_registered 21 (.aload_n 1) [] (.null) 22 := ⟨rfl, rfl⟩
theorem jf_31_22 : jG m_B_registered 22 (.aload_n 0) [] (.null) 23 := ⟨rfl, rfl⟩
theorem jf_31_23 : jG m_B_registered 23 (.getfield 176) [0, 6] (.null) 26 := ⟨rfl, rfl⟩
theorem jf_31_26 : jG m_B_registered 26 (.putfield 182) [1, 0] (.null) 29 := ⟨rfl, rfl⟩
theorem jf_31_29 : jG m_B_registered 29 (.aload_n 0) [] (.null) 30 := ⟨rfl, rfl⟩
theorem jf_31_30 : jG m_B_registered 30 (.getfield 36) [0, 5] (.null) 33 := ⟨rfl, rfl⟩
theorem jf_31_33 : jG m_B_registered 33 (.aload_n 0) [] (.null) 34 := ⟨rfl, rfl⟩
theorem jf_31_34 : jG m_B_registered 34 (.getfield 176) [0, 6] (.null) 37 := ⟨rfl, rfl⟩
theorem jf_31_37 : jG m_B_registered 37 (.aload_n 1) [] (.null) 38 := ⟨rfl, rfl⟩
theorem jf_31_38 : jG m_B_registered 38 (.aastore) [] (.null) 39 := ⟨rfl, rfl⟩
theorem jf_31_39 : jG m_B_registered 39 (.aload_n 0) [] (.null) 40 := ⟨rfl, rfl⟩
theorem jf_31_40 : jG m_B_registered 40 (.dup) [] (.null) 41 := ⟨rfl, rfl⟩
theorem jf_31_41 : jG m_B_registered 41 (.getfield 176) [0, 6] (.null) 44 := ⟨rfl, rfl⟩
theorem jf_31_44 : jG m_B_registered 44 (.iconst 1) [] (.null) 45 := ⟨rfl, rfl⟩
theorem jf_31_45 : jG m_B_registered 45 (.iadd) [] (.null) 46 := ⟨rfl, rfl⟩
theorem jf_31_46 : jG m_B_registered 46 (.putfield 176) [0, 6] (.null) 49 := ⟨rfl, rfl⟩
theorem jf_31_49 : jG m_B_registered 49 (.aload_n 1) [] (.null) 50 := ⟨rfl, rfl⟩
theorem jf_31_50 : jG m_B_registered 50 (.getfield 182) [1, 0] (.null) 53 := ⟨rfl, rfl⟩
theorem jf_31_53 : jG m_B_registered 53 (.ireturn) [] (.null) 54 := ⟨rfl, rfl⟩
theorem jf_32_0 : jG m_B_add 0 (.aload_n 0) [] (.null) 1 := ⟨rfl, rfl⟩
theorem jf_32_1 : jG m_B_add 1 (.iload_n 1) [] (.null) 2 := ⟨rfl, rfl⟩
theorem jf_32_2 : jG m_B_add 2 (.invokevirtual 187) [6, 1, 0, m_B_chainAt] (.null) 5 := ⟨rfl, rfl⟩
theorem jf_32_5 : jG m_B_add 5 (.astore_n 3) [] (.null) 6 := ⟨rfl, rfl⟩
theorem jf_32_6 : jG m_B_add 6 (.aload_n 0) [] (.null) 7 := ⟨rfl, rfl⟩
theorem jf_32_7 : jG m_B_add 7 (.iload_n 2) [] (.null) 8 := ⟨rfl, rfl⟩
theorem jf_32_8 : jG m_B_add 8 (.invokevirtual 76) [6, 1, 0, m_B_sectionAt] (.null) 11 := ⟨rfl, rfl⟩
theorem jf_32_11 : jG m_B_add 11 (.astore 4) [] (.null) 13 := ⟨rfl, rfl⟩
theorem jf_32_13 : jG m_B_add 13 (.aload_n 3) [] (.null) 14 := ⟨rfl, rfl⟩
theorem jf_32_14 : jG m_B_add 14 (.ifnull 23) [37] (.null) 17 := ⟨rfl, rfl⟩
theorem jf_32_17 : jG m_B_add 17 (.aload 4) [] (.null) 19 := ⟨rfl, rfl⟩
theorem jf_32_19 : jG m_B_add 19 (.ifnull 18) [37] (.null) 22 := ⟨rfl, rfl⟩
theorem jf_32_22 : jG m_B_add 22 (.aload 4) [] (.null) 24 := ⟨rfl, rfl⟩
theorem jf_32_24 : jG m_B_add 24 (.getfield 137) [7, 12] (.null) 27 := ⟨rfl, rfl⟩
theorem jf_32_27 : jG m_B_add 27 (.ifnonnull 10) [37] (.null) 30 := ⟨rfl, rfl⟩
theorem jf_32_30 : jG m_B_add 30 (.aload_n 3) [] (.null) 31 := ⟨rfl, rfl⟩
theorem jf_32_31 : jG m_B_add 31 (.getfield 191) [1, 9] (.null) 34 := ⟨rfl, rfl⟩
theorem jf_32_34 : jG m_B_add 34 (.ifnull 5) [39] (.null) 37 := ⟨rfl, rfl⟩
theorem jf_32_37 : jG m_B_add 37 (.iconst (-1)) [] (.null) 38 := ⟨rfl, rfl⟩
theorem jf_32_38 : jG m_B_add 38 (.ireturn) [] (.null) 39 := ⟨rfl, rfl⟩
theorem jf_32_39 : jG m_B_add 39 (.aload_n 3) [] (.null) 40 := ⟨rfl, rfl⟩
theorem jf_32_40 : jG m_B_add 40 (.getfield 195) [1, 2] (.null) 43 := ⟨rfl, rfl⟩
theorem jf_32_43 : jG m_B_add 43 (.bipush 10) [] (.null) 45 := ⟨rfl, rfl⟩
theorem jf_32_45 : jG m_B_add 45 (.if_icmp .ge 22) [67] (.null) 48 := ⟨rfl, rfl⟩
theorem jf_32_48 : jG m_B_add 48 (.aload_n 3) [] (.null) 49 := ⟨rfl, rfl⟩
theorem jf_32_49 : jG m_B_add 49 (.getfield 195) [1, 2] (.null) 52 := ⟨rfl, rfl⟩
theorem jf_32_52 : jG m_B_add 52 (.ifCond .le 17) [69] (.null) 55 := ⟨rfl, rfl⟩
theorem jf_32_55 : jG m_B_add 55 (.aload_n 3) [] (.null) 56 := ⟨rfl, rfl⟩
theorem jf_32_56 : jG m_B_add 56 (.invokevirtual 198) [6, 0, 1, m_Chain_sort] (.null) 59 := ⟨rfl, rfl⟩
theorem jf_32_59 : jG m_B_add 59 (.aload 4) [] (.null) 61 := ⟨rfl, rfl⟩
theorem jf_32_61 : jG m_B_add 61 (.getfield 109) [7, 2] (.null) 64 := ⟨rfl, rfl⟩
theorem jf_32_64 : jG m_B_add 64 (.if_icmp .eq 5) [69] (.null) 67 := ⟨rfl, rfl⟩
theorem jf_32_67 : jG m_B_add 67 (.iconst (-1)) [] (.null) 68 := ⟨rfl, rfl⟩
theorem jf_32_68 : jG m_B_add 68 (.ireturn) [] (.null) 69 := ⟨rfl, rfl⟩
theorem jf_32_69 : jG m_B_add 69 (.aload 4) [] (.null) 71 := ⟨rfl, rfl⟩
theorem jf_32_71 : jG m_B_add 71 (.invokevirtual 201) [6, 0, 7, m_Section_spreads] (.null) 74 := ⟨rfl, rfl⟩
theorem jf_32_74 : jG m_B_add 74 (.ifCond .eq 13) [87] (.null) 77 := ⟨rfl, rfl⟩
theorem jf_32_77 : jG m_B_add 77 (.aload_n 3) [] (.null) 78 := ⟨rfl, rfl⟩
theorem jf_32_78 : jG m_B_add 78 (.invokevirtual 204) [6, 0, 1, m_Chain_spreaders] (.null) 81 := ⟨rfl, rfl⟩
theorem jf_32_81 : jG m_B_add 81 (.iconst 2) [] (.null) 82 := ⟨rfl, rfl⟩
theorem jf_32_82 : jG m_B_add 82 (.if_icmp .lt 5) [87] (.null) 85 := ⟨rfl, rfl⟩
theorem jf_32_85 : jG m_B_add 85 (.iconst (-1)) [] (.null) 86 := ⟨rfl, rfl⟩
theorem jf_32_86 : jG m_B_add 86 (.ireturn) [] (.null) 87 := ⟨rfl, rfl⟩
theorem jf_32_87 : jG m_B_add 87 (.aload_n 3) [] (.null) 88 := ⟨rfl, rfl⟩
theorem jf_32_88 : jG m_B_add 88 (.aload 4) [] (.null) 90 := ⟨rfl, rfl⟩
theorem jf_32_90 : jG m_B_add 90 (.invokevirtual 207) [6, 1, 1, m_Chain_join] (.null) 93 := ⟨rfl, rfl⟩
theorem jf_32_93 : jG m_B_add 93 (.aload 4) [] (.null) 95 := ⟨rfl, rfl⟩
theorem jf_32_95 : jG m_B_add 95 (.getfield 145) [7, 13] (.null) 98 := ⟨rfl, rfl⟩
theorem jf_32_98 : jG m_B_add 98 (.ireturn) [] (.null) 99 := ⟨rfl, rfl⟩
theorem jf_33_0 : jG m_B_chainAt 0 (.iload_n 1) [] (.null) 1 := ⟨rfl, rfl⟩
theorem jf_33_1 : jG m_B_chainAt 1 (.ifCond .lt 20) [21] (.null) 4 := ⟨rfl, rfl⟩
theorem jf_33_4 : jG m_B_chainAt 4 (.iload_n 1) [] (.null) 5 := ⟨rfl, rfl⟩
theorem jf_33_5 : jG m_B_chainAt 5 (.aload_n 0) [] (.null) 6 := ⟨rfl, rfl⟩
theorem jf_33_6 : jG m_B_chainAt 6 (.getfield 176) [0, 6] (.null) 9 := ⟨rfl, rfl⟩
theorem jf_33_9 : jG m_B_chainAt 9 (.if_icmp .ge 12) [21] (.null) 12 := ⟨rfl, rfl⟩
theorem jf_33_12 : jG m_B_chainAt 12 (.iload_n 1) [] (.null) 13 := ⟨rfl, rfl⟩
theorem jf_33_13 : jG m_B_chainAt 13 (.aload_n 0) [] (.null) 14 := ⟨rfl, rfl⟩
theorem jf_33_14 : jG m_B_chainAt 14 (.getfield 36) [0, 5] (.null) 17 := ⟨rfl, rfl⟩
theorem jf_33_17 : jG m_B_chainAt 17 (.arraylength) [] (.null) 18 := ⟨rfl, rfl⟩
theorem jf_33_18 : jG m_B_chainAt 18 (.if_icmp .lt 7) [25] (.null) 21 := ⟨rfl, rfl⟩
theorem jf_33_21 : jG m_B_chainAt 21 (.aconst_null) [] (.null) 22 := ⟨rfl, rfl⟩
theorem jf_33_22 : jG m_B_chainAt 22 (.goto 9) [31] (.null) 25 := ⟨rfl, rfl⟩
theorem jf_33_25 : jG m_B_chainAt 25 (.aload_n 0) [] (.null) 26 := ⟨rfl, rfl⟩
theorem jf_33_26 : jG m_B_chainAt 26 (.getfield 36) [0, 5] (.null) 29 := ⟨rfl, rfl⟩
theorem jf_33_29 : jG m_B_chainAt 29 (.iload_n 1) [] (.null) 30 := ⟨rfl, rfl⟩
theorem jf_33_30 : jG m_B_chainAt 30 (.aaload) [] (.null) 31 := ⟨rfl, rfl⟩
theorem jf_33_31 : jG m_B_chainAt 31 (.areturn) [] (.null) 32 := ⟨rfl, rfl⟩
theorem jf_34_0 : jG m_Chain_sort 0 (.aload_n 0) [] (.null) 1 := ⟨rfl, rfl⟩
theorem jf_34_1 : jG m_Chain_sort 1 (.iconst 0) [] (.null) 2 := ⟨rfl, rfl⟩
theorem jf_34_2 : jG m_Chain_sort 2 (.invokevirtual 37) [6, 1, 1, m_Chain_memberAt] (.null) 5 := ⟨rfl, rfl⟩
theorem jf_34_5 : jG m_Chain_sort 5 (.astore_n 1) [] (.null) 6 := ⟨rfl, rfl⟩
theorem jf_34_6 : jG m_Chain_sort 6 (.aload_n 1) [] (.null) 7 := ⟨rfl, rfl⟩
theorem jf_34_7 : jG m_Chain_sort 7 (.ifnonnull 7) [14] (.null) 10 := ⟨rfl, rfl⟩
theorem jf_34_10 : jG m_Chain_sort 10 (.iconst (-1)) [] (.null) 11 := ⟨rfl, rfl⟩
theorem jf_34_11 : jG m_Chain_sort 11 (.goto 7) [18] (.null) 14 := ⟨rfl, rfl⟩
theorem jf_34_14 : jG m_Chain_sort 14 (.aload_n 1) [] (.null) 15 := ⟨rfl, rfl⟩
theorem jf_34_15 : jG m_Chain_sort 15 (.getfield 41) [7, 2] (.null) 18 := ⟨rfl, rfl⟩
theorem jf_34_18 : jG m_Chain_sort 18 (.ireturn) [] (.null) 19 := ⟨rfl, rfl⟩
theorem jf_35_0 : jG m_Chain_memberAt 0 (.iload_n 1) [] (.null) 1 := ⟨rfl, rfl⟩
theorem jf_35_1 : jG m_Chain_memberAt 1 (.ifCond .lt 20) [21] (.null) 4 := ⟨rfl, rfl⟩
theorem jf_35_4 : jG m_Chain_memberAt 4 (.iload_n 1) [] (.null) 5 := ⟨rfl, rfl⟩
theorem jf_35_5 : jG m_Chain_memberAt 5 (.aload_n 0) [] (.null) 6 := ⟨rfl, rfl⟩
theorem jf_35_6 : jG m_Chain_memberAt 6 (.getfield 31) [1, 2] (.null) 9 := ⟨rfl, rfl⟩
theorem jf_35_9 : jG m_Chain_memberAt 9 (.if_icmp .ge 12) [21] (.null) 12 := ⟨rfl, rfl⟩
theorem jf_35_12 : jG m_Chain_memberAt 12 (.iload_n 1) [] (.null) 13 := ⟨rfl, rfl⟩
theorem jf_35_13 : jG m_Chain_memberAt 13 (.aload_n 0) [] (.null) 14 := ⟨rfl, rfl⟩
theorem jf_35_14 : jG m_Chain_memberAt 14 (.getfield 17) [1, 1] (.null) 17 := ⟨rfl, rfl⟩
theorem jf_35_17 : jG m_Chain_memberAt 17 (.arraylength) [] (.null) 18 := ⟨rfl, rfl⟩
theorem jf_35_18 : jG m_Chain_memberAt 18 (.if_icmp .lt 7) [25] (.null) 21 := ⟨rfl, rfl⟩
theorem jf_35_21 : jG m_Chain_memberAt 21 (.aconst_null) [] (.null) 22 := ⟨rfl, rfl⟩
theorem jf_35_22 : jG m_Chain_memberAt 22 (.goto 9) [31] (.null) 25 := ⟨rfl, rfl⟩
theorem jf_35_25 : jG m_Chain_memberAt 25 (.aload_n 0) [] (.null) 26 := ⟨rfl, rfl⟩
theorem jf_35_26 : jG m_Chain_memberAt 26 (.getfield 17) [1, 1] (.null) 29 := ⟨rfl, rfl⟩
theorem jf_35_29 : jG m_Chain_memberAt 29 (.iload_n 1) [] (.null) 30 := ⟨rfl, rfl⟩
theorem jf_35_30 : jG m_Chain_memberAt 30 (.aaload) [] (.null) 31 := ⟨rfl, rfl⟩
theorem jf_35_31 : jG m_Chain_memberAt 31 (.areturn) [] (.null) 32 := ⟨rfl, rfl⟩
theorem jf_36_0 : jG m_Section_spreads 0 (.aload_n 0) [] (.null) 1 := ⟨rfl, rfl⟩
theorem jf_36_1 : jG m_Section_spreads 1 (.getfield 27) [7, 1] (.null) 4 := ⟨rfl, rfl⟩
theorem jf_36_4 : jG m_Section_spreads 4 (.bipush 13) [] (.null) 6 := ⟨rfl, rfl⟩
theorem jf_36_6 : jG m_Section_spreads 6 (.if_icmp .eq 12) [18] (.null) 9 := ⟨rfl, rfl⟩
theorem jf_36_9 : jG m_Section_spreads 9 (.aload_n 0) [] (.null) 10 := ⟨rfl, rfl⟩
theorem jf_36_10 : jG m_Section_spreads 10 (.getfield 27) [7, 1] (.null) 13 := ⟨rfl, rfl⟩
theorem jf_36_13 : jG m_Section_spreads 13 (.bipush 14) [] (.null) 15 := ⟨rfl, rfl⟩
theorem jf_36_15 : jG m_Section_spreads 15 (.if_icmp .ne 7) [22] (.null) 18 := ⟨rfl, rfl⟩
theorem jf_36_18 : jG m_Section_spreads 18 (.iconst 1) [] (.null) 19 := ⟨rfl, rfl⟩
theorem jf_36_19 : jG m_Section_spreads 19 (.goto 4) [23] (.null) 22 := ⟨rfl, rfl⟩
theorem jf_36_22 : jG m_Section_spreads 22 (.iconst 0) [] (.null) 23 := ⟨rfl, rfl⟩
theorem jf_36_23 : jG m_Section_spreads 23 (.ireturn) [] (.null) 24 := ⟨rfl, rfl⟩
theorem jf_37_0 : jG m_Chain_spreaders 0 (.iconst 0) [] (.null) 1 := ⟨rfl, rfl⟩
theorem jf_37_1 : jG m_Chain_spreaders 1 (.istore_n 1) [] (.null) 2 := ⟨rfl, rfl⟩
theorem jf_37_2 : jG m_Chain_spreaders 2 (.iconst 0) [] (.null) 3 := ⟨rfl, rfl⟩
theorem jf_37_3 : jG m_Chain_spreaders 3 (.istore_n 2) [] (.null) 4 := ⟨rfl, rfl⟩
theorem jf_37_4 : jG m_Chain_spreaders 4 (.iload_n 2) [] (.null) 5 := ⟨rfl, rfl⟩
theorem jf_37_5 : jG m_Chain_spreaders 5 (.aload_n 0) [] (.null) 6 := ⟨rfl, rfl⟩
theorem jf_37_6 : jG m_Chain_spreaders 6 (.getfield 31) [1, 2] (.null) 9 := ⟨rfl, rfl⟩
theorem jf_37_9 : jG m_Chain_spreaders 9 (.if_icmp .ge 34) [43] (.null) 12 := ⟨rfl, rfl⟩
theorem jf_37_12 : jG m_Chain_spreaders 12 (.aload_n 0) [] (.null) 13 := ⟨rfl, rfl⟩
theorem jf_37_13 : jG m_Chain_spreaders 13 (.iload_n 2) [] (.null) 14 := ⟨rfl, rfl⟩
theorem jf_37_14 : jG m_Chain_spreaders 14 (.invokevirtual 37) [6, 1, 1, m_Chain_memberAt] (.null) 17 := ⟨rfl, rfl⟩
theorem jf_37_17 : jG m_Chain_spreaders 17 (.astore_n 3) [] (.null) 18 := ⟨rfl, rfl⟩
theorem jf_37_18 : jG m_Chain_spreaders 18 (.iload_n 1) [] (.null) 19 := ⟨rfl, rfl⟩
theorem jf_37_19 : jG m_Chain_spreaders 19 (.aload_n 3) [] (.null) 20 := ⟨rfl, rfl⟩
theorem jf_37_20 : jG m_Chain_spreaders 20 (.ifnull 14) [34] (.null) 23 := ⟨rfl, rfl⟩
theorem jf_37_23 : jG m_Chain_spreaders 23 (.aload_n 3) [] (.null) 24 := ⟨rfl, rfl⟩
theorem jf_37_24 : jG m_Chain_spreaders 24 (.invokevirtual 51) [6, 0, 7, m_Section_spreads] (.null) 27 := ⟨rfl, rfl⟩
theorem jf_37_27 : jG m_Chain_spreaders 27 (.ifCond .eq 7) [34] (.null) 30 := ⟨rfl, rfl⟩
theorem jf_37_30 : jG m_Chain_spreaders 30 (.iconst 1) [] (.null) 31 := ⟨rfl, rfl⟩
theorem jf_37_31 : jG m_Chain_spreaders 31 (.goto 4) [35] (.null) 34 := ⟨rfl, rfl⟩
theorem jf_37_34 : jG m_Chain_spreaders 34 (.iconst 0) [] (.null) 35 := ⟨rfl, rfl⟩
theorem jf_37_35 : jG m_Chain_spreaders 35 (.iadd) [] (.null) 36 := ⟨rfl, rfl⟩
theorem jf_37_36 : jG m_Chain_spreaders 36 (.istore_n 1) [] (.null) 37 := ⟨rfl, rfl⟩
theorem jf_37_37 : jG m_Chain_spreaders 37 (.iinc 2 1) [] (.null) 40 := ⟨rfl, rfl⟩
theorem jf_37_40 : jG m_Chain_spreaders 40 (.goto (-36)) [4] (.null) 43 := ⟨rfl, rfl⟩
theorem jf_37_43 : jG m_Chain_spreaders 43 (.iload_n 1) [] (.null) 44 := ⟨rfl, rfl⟩
theorem jf_37_44 : jG m_Chain_spreaders 44 (.ireturn) [] (.null) 45 := ⟨rfl, rfl⟩
theorem jf_38_0 : jG m_Chain_join 0 (.aload_n 0) [] (.null) 1 := ⟨rfl, rfl⟩
theorem jf_38_1 : jG m_Chain_join 1 (.getfield 31) [1, 2] (.null) 4 := ⟨rfl, rfl⟩
theorem jf_38_4 : jG m_Chain_join 4 (.ifCond .lt 48) [52] (.null) 7 := ⟨rfl, rfl⟩
theorem jf_38_7 : jG m_Chain_join 7 (.aload_n 0) [] (.null) 8 := ⟨rfl, rfl⟩
theorem jf_38_8 : jG m_Chain_join 8 (.getfield 31) [1, 2] (.null) 11 := ⟨rfl, rfl⟩
theorem jf_38_11 : jG m_Chain_join 11 (.aload_n 0) [] (.null) 12 := ⟨rfl, rfl⟩
theorem jf_38_12 : jG m_Chain_join 12 (.getfield 17) [1, 1] (.null) 15 := ⟨rfl, rfl⟩
theorem jf_38_15 : jG m_Chain_join 15 (.arraylength) [] (.null) 16 := ⟨rfl, rfl⟩
theorem jf_38_16 : jG m_Chain_join 16 (.if_icmp .ge 36) [52] (.null) 19 := ⟨rfl, rfl⟩
theorem jf_38_19 : jG m_Chain_join 19 (.aload_n 0) [] (.null) 20 := ⟨rfl, rfl⟩
theorem jf_38_20 : jG m_Chain_join 20 (.getfield 17) [1, 1] (.null) 23 := ⟨rfl, rfl⟩
theorem jf_38_23 : jG m_Chain_join 23 (.aload_n 0) [] (.null) 24 := ⟨rfl, rfl⟩
theorem jf_38_24 : jG m_Chain_join 24 (.getfield 31) [1, 2] (.null) 27 := ⟨rfl, rfl⟩
theorem jf_38_27 : jG m_Chain_join 27 (.aload_n 1) [] (.null) 28 := ⟨rfl, rfl⟩
theorem jf_38_28 : jG m_Chain_join 28 (.aastore) [] (.null) 29 := ⟨rfl, rfl⟩
theorem jf_38_29 : jG m_Chain_join 29 (.aload_n 1) [] (.null) 30 := ⟨rfl, rfl⟩
theorem jf_38_30 : jG m_Chain_join 30 (.aload_n 0) [] (.null) 31 := ⟨rfl, rfl⟩
theorem jf_38_31 : jG m_Chain_join 31 (.putfield 44) [7, 12] (.null) 34 := ⟨rfl, rfl⟩
theorem jf_38_34 : jG m_Chain_join 34 (.aload_n 1) [] (.null) 35 := ⟨rfl, rfl⟩
theorem jf_38_35 : jG m_Chain_join 35 (.aload_n 0) [] (.null) 36 := ⟨rfl, rfl⟩
theorem jf_38_36 : jG m_Chain_join 36 (.getfield 31) [1, 2] (.null) 39 := ⟨rfl, rfl⟩
theorem jf_38_39 : jG m_Chain_join 39 (.putfield 48) [7, 13] (.null) 42 := ⟨rfl, rfl⟩
theorem jf_38_42 : jG m_Chain_join 42 (.aload_n 0) [] (.null) 43 := ⟨rfl, rfl⟩
theorem jf_38_43 : jG m_Chain_join 43 (.dup) [] (.null) 44 := ⟨rfl, rfl⟩
theorem jf_38_44 : jG m_Chain_join 44 (.getfield 31) [1, 2] (.null) 47 := ⟨rfl, rfl⟩
theorem jf_38_47 : jG m_Chain_join 47 (.iconst 1) [] (.null) 48 := ⟨rfl, rfl⟩
theorem jf_38_48 : jG m_Chain_join 48 (.iadd) [] (.null) 49 := ⟨rfl, rfl⟩
theorem jf_38_49 : jG m_Chain_join 49 (.putfield 31) [1, 2] (.null) 52 := ⟨rfl, rfl⟩
theorem jf_38_52 : jG m_Chain_join 52 (.return_) [] (.null) 53 := ⟨rfl, rfl⟩
theorem jf_39_0 : jG m_B_loop 0 (.aload_n 0) [] (.null) 1 := ⟨rfl, rfl⟩
theorem jf_39_1 : jG m_B_loop 1 (.iload_n 1) [] (.null) 2 := ⟨rfl, rfl⟩
theorem jf_39_2 : jG m_B_loop 2 (.invokevirtual 187) [6, 1, 0, m_B_chainAt] (.null) 5 := ⟨rfl, rfl⟩
theorem jf_39_5 : jG m_B_loop 5 (.astore 7) [] (.null) 7 := ⟨rfl, rfl⟩
theorem jf_39_7 : jG m_B_loop 7 (.aload 7) [] (.null) 9 := ⟨rfl, rfl⟩
theorem jf_39_9 : jG m_B_loop 9 (.ifnull 20) [29] (.null) 12 := ⟨rfl, rfl⟩
theorem jf_39_12 : jG m_B_loop 12 (.aload 7) [] (.null) 14 := ⟨rfl, rfl⟩
theorem jf_39_14 : jG m_B_loop 14 (.getfield 191) [1, 9] (.null) 17 := ⟨rfl, rfl⟩
theorem jf_39_17 : jG m_B_loop 17 (.ifnonnull 12) [29] (.null) 20 := ⟨rfl, rfl⟩
theorem jf_39_20 : jG m_B_loop 20 (.aload 7) [] (.null) 22 := ⟨rfl, rfl⟩
theorem jf_39_22 : jG m_B_loop 22 (.getfield 211) [1, 4] (.null) 25 := ⟨rfl, rfl⟩
theorem jf_39_25 : jG m_B_loop 25 (.iconst 3) [] (.null) 26 := ⟨rfl, rfl⟩
theorem jf_39_26 : jG m_B_loop 26 (.if_icmp .lt 5) [31] (.null) 29 := ⟨rfl, rfl⟩
theorem jf_39_29 : jG m_B_loop 29 (.iconst (-1)) [] (.null) 30 := ⟨rfl, rfl⟩
theorem jf_39_30 : jG m_B_loop 30 (.ireturn) [] (.null) 31 := ⟨rfl, rfl⟩
theorem jf_39_31 : jG m_B_loop 31 (.iload_n 2) [] (.null) 32 := ⟨rfl, rfl⟩
theorem jf_39_32 : jG m_B_loop 32 (.ifCond .lt 40) [72] (.null) 35 := ⟨rfl, rfl⟩
theorem jf_39_35 : jG m_B_loop 35 (.iload_n 2) [] (.null) 36 := ⟨rfl, rfl⟩
theorem jf_39_36 : jG m_B_loop 36 (.iload_n 3) [] (.null) 37 := ⟨rfl, rfl⟩
theorem jf_39_37 : jG m_B_loop 37 (.if_icmp .gt 35) [72] (.null) 40 := ⟨rfl, rfl⟩
theorem jf_39_40 : jG m_B_loop 40 (.iload_n 3) [] (.null) 41 := ⟨rfl, rfl⟩
theorem jf_39_41 : jG m_B_loop 41 (.aload 7) [] (.null) 43 := ⟨rfl, rfl⟩
theorem jf_39_43 : jG m_B_loop 43 (.getfield 195) [1, 2] (.null) 46 := ⟨rfl, rfl⟩
theorem jf_39_46 : jG m_B_loop 46 (.if_icmp .ge 26) [72] (.null) 49 := ⟨rfl, rfl⟩
theorem jf_39_49 : jG m_B_loop 49 (.iload 4) [] (.null) 51 := ⟨rfl, rfl⟩
theorem jf_39_51 : jG m_B_loop 51 (.iconst 1) [] (.null) 52 := ⟨rfl, rfl⟩
theorem jf_39_52 : jG m_B_loop 52 (.if_icmp .lt 20) [72] (.null) 55 := ⟨rfl, rfl⟩
theorem jf_39_55 : jG m_B_loop 55 (.iload 4) [] (.null) 57 := ⟨rfl, rfl⟩
theorem jf_39_57 : jG m_B_loop 57 (.bipush 64) [] (.null) 59 := ⟨rfl, rfl⟩
theorem jf_39_59 : jG m_B_loop 59 (.if_icmp .gt 13) [72] (.null) 62 := ⟨rfl, rfl⟩
theorem jf_39_62 : jG m_B_loop 62 (.aload 7) [] (.null) 64 := ⟨rfl, rfl⟩
theorem jf_39_64 : jG m_B_loop 64 (.iload_n 2) [] (.null) 65 := ⟨rfl, rfl⟩
theorem jf_39_65 : jG m_B_loop 65 (.iload_n 3) [] (.null) 66 := ⟨rfl, rfl⟩
theorem jf_39_66 : jG m_B_loop 66 (.invokevirtual 214) [6, 2, 1, m_Chain_changesRate] (.null) 69 := ⟨rfl, rfl⟩
theorem jf_39_69 : jG m_B_loop 69 (.ifCond .eq 5) [74] (.null) 72 := ⟨rfl, rfl⟩
theorem jf_39_72 : jG m_B_loop 72 (.iconst (-1)) [] (.null) 73 := ⟨rfl, rfl⟩
theorem jf_39_73 : jG m_B_loop 73 (.ireturn) [] (.null) 74 := ⟨rfl, rfl⟩
theorem jf_39_74 : jG m_B_loop 74 (.aload_n 0) [] (.null) 75 := ⟨rfl, rfl⟩
theorem jf_39_75 : jG m_B_loop 75 (.aload 7) [] (.null) 77 := ⟨rfl, rfl⟩
theorem jf_39_77 : jG m_B_loop 77 (.invokevirtual 198) [6, 0, 1, m_Chain_sort] (.null) 80 := ⟨rfl, rfl⟩
theorem jf_39_80 : jG m_B_loop 80 (.invokevirtual 56) [6, 1, 0, m_B_numbersOf] (.null) 83 := ⟨rfl, rfl⟩
theorem jf_39_83 : jG m_B_loop 83 (.astore 8) [] (.null) 85 := ⟨rfl, rfl⟩
theorem jf_39_85 : jG m_B_loop 85 (.aload 8) [] (.null) 87 := ⟨rfl, rfl⟩
theorem jf_39_87 : jG m_B_loop 87 (.ifnull 13) [100] (.null) 90 := ⟨rfl, rfl⟩
theorem jf_39_90 : jG m_B_loop 90 (.aload 8) [] (.null) 92 := ⟨rfl, rfl⟩
theorem jf_39_92 : jG m_B_loop 92 (.lload 5) [] (.null) 94 := ⟨rfl, rfl⟩
theorem jf_39_94 : jG m_B_loop 94 (.invokevirtual 87) [8, 1, 5, m_Real_holds, 8, m_Shorts_holds] (.null) 97 := ⟨rfl, rfl⟩
theorem jf_39_97 : jG m_B_loop 97 (.ifCond .ne 5) [102] (.null) 100 := ⟨rfl, rfl⟩
theorem jf_39_100 : jG m_B_loop 100 (.iconst (-1)) [] (.null) 101 := ⟨rfl, rfl⟩
theorem jf_39_101 : jG m_B_loop 101 (.ireturn) [] (.null) 102 := ⟨rfl, rfl⟩
theorem jf_39_102 : jG m_B_loop 102 (.aload 7) [] (.null) 104 := ⟨rfl, rfl⟩
theorem jf_39_104 : jG m_B_loop 104 (.new 217) [4] (.null) 107 := ⟨rfl, rfl⟩
theorem jf_39_107 : jG m_B_loop 107 (.dup) [] (.null) 108 := ⟨rfl, rfl⟩
theorem jf_39_108 : jG m_B_loop 108 (.iload_n 2) [] (.null) 109 := ⟨rfl, rfl⟩
theorem jf_39_109 : jG m_B_loop 109 (.iload_n 3) [] (.null) 110 := ⟨rfl, rfl⟩
theorem jf_39_110 : jG m_B_loop 110 (.iload 4) [] (.null) 112 := ⟨rfl, rfl⟩
theorem jf_39_112 : jG m_B_loop 112 (.aload 8) [] (.null) 114 := ⟨rfl, rfl⟩
theorem jf_39_114 : jG m_B_loop 114 (.lload 5) [] (.null) 116 := ⟨rfl, rfl⟩
theorem jf_39_116 : jG m_B_loop 116 (.invokevirtual 93) [8, 1, 5, m_Real_clean, 8, m_Shorts_clean] (.null) 119 := ⟨rfl, rfl⟩
theorem jf_39_119 : jG m_B_loop 119 (.invokespecial 219) [1, m_Loop_init, 4] (.null) 122 := ⟨rfl, rfl⟩
theorem jf_39_122 : jG m_B_loop 122 (.invokevirtual 222) [6, 1, 1, m_Chain_tie] (.null) 125 := ⟨rfl, rfl⟩
theorem jf_39_125 : jG m_B_loop 125 (.aload 7) [] (.null) 127 := ⟨rfl, rfl⟩
theorem jf_39_127 : jG m_B_loop 127 (.getfield 211) [1, 4] (.null) 130 := ⟨rfl, rfl⟩
theorem jf_39_130 : jG m_B_loop 130 (.ireturn) [] (.null) 131 := ⟨rfl, rfl⟩
theorem jf_40_0 : jG m_Chain_changesRate 0 (.iload_n 1) [] (.null) 1 := ⟨rfl, rfl⟩
theorem jf_40_1 : jG m_Chain_changesRate 1 (.ifCond .ge 7) [8] (.null) 4 := ⟨rfl, rfl⟩
theorem jf_40_4 : jG m_Chain_changesRate 4 (.iconst 0) [] (.null) 5 := ⟨rfl, rfl⟩
theorem jf_40_5 : jG m_Chain_changesRate 5 (.goto 4) [9] (.null) 8 := ⟨rfl, rfl⟩
theorem jf_40_8 : jG m_Chain_changesRate 8 (.iload_n 1) [] (.null) 9 := ⟨rfl, rfl⟩
theorem jf_40_9 : jG m_Chain_changesRate 9 (.istore_n 3) [] (.null) 10 := ⟨rfl, rfl⟩
theorem jf_40_10 : jG m_Chain_changesRate 10 (.iload_n 3) [] (.null) 11 := ⟨rfl, rfl⟩
theorem jf_40_11 : jG m_Chain_changesRate 11 (.iload_n 2) [] (.null) 12 := ⟨rfl, rfl⟩
theorem jf_40_12 : jG m_Chain_changesRate 12 (.if_icmp .gt 39) [51] (.null) 15 := ⟨rfl, rfl⟩
theorem jf_40_15 : jG m_Chain_changesRate 15 (.iload_n 3) [] (.null) 16 := ⟨rfl, rfl⟩
theorem jf_40_16 : jG m_Chain_changesRate 16 (.aload_n 0) [] (.null) 17 := ⟨rfl, rfl⟩
theorem jf_40_17 : jG m_Chain_changesRate 17 (.getfield 31) [1, 2] (.null) 20 := ⟨rfl, rfl⟩
theorem jf_40_20 : jG m_Chain_changesRate 20 (.if_icmp .ge 31) [51] (.null) 23 := ⟨rfl, rfl⟩
theorem jf_40_23 : jG m_Chain_changesRate 23 (.aload_n 0) [] (.null) 24 := ⟨rfl, rfl⟩
theorem jf_40_24 : jG m_Chain_changesRate 24 (.iload_n 3) [] (.null) 25 := ⟨rfl, rfl⟩
theorem jf_40_25 : jG m_Chain_changesRate 25 (.invokevirtual 37) [6, 1, 1, m_Chain_memberAt] (.null) 28 := ⟨rfl, rfl⟩
theorem jf_40_28 : jG m_Chain_changesRate 28 (.astore 4) [] (.null) 30 := ⟨rfl, rfl⟩
theorem jf_40_30 : jG m_Chain_changesRate 30 (.aload 4) [] (.null) 32 := ⟨rfl, rfl⟩
theorem jf_40_32 : jG m_Chain_changesRate 32 (.ifnull 13) [45] (.null) 35 := ⟨rfl, rfl⟩
theorem jf_40_35 : jG m_Chain_changesRate 35 (.aload 4) [] (.null) 37 := ⟨rfl, rfl⟩
theorem jf_40_37 : jG m_Chain_changesRate 37 (.invokevirtual 55) [6, 0, 7, m_Section_changesRate] (.null) 40 := ⟨rfl, rfl⟩
theorem jf_40_40 : jG m_Chain_changesRate 40 (.ifCond .eq 5) [45] (.null) 43 := ⟨rfl, rfl⟩
theorem jf_40_43 : jG m_Chain_changesRate 43 (.iconst 1) [] (.null) 44 := ⟨rfl, rfl⟩
theorem jf_40_44 : jG m_Chain_changesRate 44 (.ireturn) [] (.null) 45 := ⟨rfl, rfl⟩
theorem jf_40_45 : jG m_Chain_changesRate 45 (.iinc 3 1) [] (.null) 48 := ⟨rfl, rfl⟩
theorem jf_40_48 : jG m_Chain_changesRate 48 (.goto (-38)) [10] (.null) 51 := ⟨rfl, rfl⟩
theorem jf_40_51 : jG m_Chain_changesRate 51 (.iconst 0) [] (.null) 52 := ⟨rfl, rfl⟩
theorem jf_40_52 : jG m_Chain_changesRate 52 (.ireturn) [] (.null) 53 := ⟨rfl, rfl⟩
theorem jf_41_0 : jG m_Section_changesRate 0 (.aload_n 0) [] (.null) 1 := ⟨rfl, rfl⟩
theorem jf_41_1 : jG m_Section_changesRate 1 (.getfield 27) [7, 1] (.null) 4 := ⟨rfl, rfl⟩
theorem jf_41_4 : jG m_Section_changesRate 4 (.bipush 12) [] (.null) 6 := ⟨rfl, rfl⟩
theorem jf_41_6 : jG m_Section_changesRate 6 (.if_icmp .eq 10) [16] (.null) 9 := ⟨rfl, rfl⟩
theorem jf_41_9 : jG m_Section_changesRate 9 (.aload_n 0) [] (.null) 10 := ⟨rfl, rfl⟩
theorem jf_41_10 : jG m_Section_changesRate 10 (.invokevirtual 54) [6, 0, 7, m_Section_spreads] (.null) 13 := ⟨rfl, rfl⟩
theorem jf_41_13 : jG m_Section_changesRate 13 (.ifCond .eq 7) [20] (.null) 16 := ⟨rfl, rfl⟩
theorem jf_41_16 : jG m_Section_changesRate 16 (.iconst 1) [] (.null) 17 := ⟨rfl, rfl⟩
theorem jf_41_17 : jG m_Section_changesRate 17 (.goto 4) [21] (.null) 20 := ⟨rfl, rfl⟩
theorem jf_41_20 : jG m_Section_changesRate 20 (.iconst 0) [] (.null) 21 := ⟨rfl, rfl⟩
theorem jf_41_21 : jG m_Section_changesRate 21 (.ireturn) [] (.null) 22 := ⟨rfl, rfl⟩
theorem jf_42_0 : jG m_Loop_init 0 (.aload_n 0) [] (.null) 1 := ⟨rfl, rfl⟩
theorem jf_42_1 : jG m_Loop_init 1 (.invokespecial 1) [0] (.null) 4 := ⟨rfl, rfl⟩
theorem jf_42_4 : jG m_Loop_init 4 (.aload_n 0) [] (.null) 5 := ⟨rfl, rfl⟩
theorem jf_42_5 : jG m_Loop_init 5 (.iload_n 1) [] (.null) 6 := ⟨rfl, rfl⟩
theorem jf_42_6 : jG m_Loop_init 6 (.putfield 7) [4, 0] (.null) 9 := ⟨rfl, rfl⟩
theorem jf_42_9 : jG m_Loop_init 9 (.aload_n 0) [] (.null) 10 := ⟨rfl, rfl⟩
theorem jf_42_10 : jG m_Loop_init 10 (.iload_n 2) [] (.null) 11 := ⟨rfl, rfl⟩
theorem jf_42_11 : jG m_Loop_init 11 (.putfield 13) [4, 1] (.null) 14 := ⟨rfl, rfl⟩
theorem jf_42_14 : jG m_Loop_init 14 (.aload_n 0) [] (.null) 15 := ⟨rfl, rfl⟩
theorem jf_42_15 : jG m_Loop_init 15 (.lload 4) [] (.null) 17 := ⟨rfl, rfl⟩
theorem jf_42_17 : jG m_Loop_init 17 (.putfield 16) [4, 2] (.null) 20 := ⟨rfl, rfl⟩
theorem jf_42_20 : jG m_Loop_init 20 (.aload_n 0) [] (.null) 21 := ⟨rfl, rfl⟩
theorem jf_42_21 : jG m_Loop_init 21 (.new 20) [6] (.null) 24 := ⟨rfl, rfl⟩
theorem jf_42_24 : jG m_Loop_init 24 (.dup) [] (.null) 25 := ⟨rfl, rfl⟩
theorem jf_42_25 : jG m_Loop_init 25 (.iload_n 3) [] (.null) 26 := ⟨rfl, rfl⟩
theorem jf_42_26 : jG m_Loop_init 26 (.invokespecial 22) [1, m_Row_init, 1] (.null) 29 := ⟨rfl, rfl⟩
theorem jf_42_29 : jG m_Loop_init 29 (.putfield 25) [4, 3] (.null) 32 := ⟨rfl, rfl⟩
theorem jf_42_32 : jG m_Loop_init 32 (.return_) [] (.null) 33 := ⟨rfl, rfl⟩
theorem jf_43_0 : jG m_Chain_tie 0 (.aload_n 0) [] (.null) 1 := ⟨rfl, rfl⟩
theorem jf_43_1 : jG m_Chain_tie 1 (.getfield 34) [1, 4] (.null) 4 := ⟨rfl, rfl⟩
theorem jf_43_4 : jG m_Chain_tie 4 (.ifCond .lt 35) [39] (.null) 7 := ⟨rfl, rfl⟩
theorem jf_43_7 : jG m_Chain_tie 7 (.aload_n 0) [] (.null) 8 := ⟨rfl, rfl⟩
theorem jf_43_8 : jG m_Chain_tie 8 (.getfield 34) [1, 4] (.null) 11 := ⟨rfl, rfl⟩
theorem jf_43_11 : jG m_Chain_tie 11 (.aload_n 0) [] (.null) 12 := ⟨rfl, rfl⟩
theorem jf_43_12 : jG m_Chain_tie 12 (.getfield 23) [1, 3] (.null) 15 := ⟨rfl, rfl⟩
theorem jf_43_15 : jG m_Chain_tie 15 (.arraylength) [] (.null) 16 := ⟨rfl, rfl⟩
theorem jf_43_16 : jG m_Chain_tie 16 (.if_icmp .ge 23) [39] (.null) 19 := ⟨rfl, rfl⟩
theorem jf_43_19 : jG m_Chain_tie 19 (.aload_n 0) [] (.null) 20 := ⟨rfl, rfl⟩
theorem jf_43_20 : jG m_Chain_tie 20 (.getfield 23) [1, 3] (.null) 23 := ⟨rfl, rfl⟩
theorem jf_43_23 : jG m_Chain_tie 23 (.aload_n 0) [] (.null) 24 := ⟨rfl, rfl⟩
theorem jf_43_24 : jG m_Chain_tie 24 (.getfield 34) [1, 4] (.null) 27 := ⟨rfl, rfl⟩
theorem jf_43_27 : jG m_Chain_tie 27 (.aload_n 1) [] (.null) 28 := ⟨rfl, rfl⟩
theorem jf_43_28 : jG m_Chain_tie 28 (.aastore) [] (.null) 29 := ⟨rfl, rfl⟩
theorem jf_43_29 : jG m_Chain_tie 29 (.aload_n 0) [] (.null) 30 := ⟨rfl, rfl⟩
theorem jf_43_30 : jG m_Chain_tie 30 (.dup) [] (.null) 31 := ⟨rfl, rfl⟩
theorem jf_43_31 : jG m_Chain_tie 31 (.getfield 34) [1, 4] (.null) 34 := ⟨rfl, rfl⟩
theorem jf_43_34 : jG m_Chain_tie 34 (.iconst 1) [] (.null) 35 := ⟨rfl, rfl⟩
theorem jf_43_35 : jG m_Chain_tie 35 (.iadd) [] (.null) 36 := ⟨rfl, rfl⟩
theorem jf_43_36 : jG m_Chain_tie 36 (.putfield 34) [1, 4] (.null) 39 := ⟨rfl, rfl⟩
theorem jf_43_39 : jG m_Chain_tie 39 (.return_) [] (.null) 40 := ⟨rfl, rfl⟩
theorem jf_44_0 : jG m_B_chain_2 0 (.aload_n 0) [] (.null) 1 := ⟨rfl, rfl⟩
theorem jf_44_1 : jG m_B_chain_2 1 (.iload_n 1) [] (.null) 2 := ⟨rfl, rfl⟩
theorem jf_44_2 : jG m_B_chain_2 2 (.invokevirtual 187) [6, 1, 0, m_B_chainAt] (.null) 5 := ⟨rfl, rfl⟩
theorem jf_44_5 : jG m_B_chain_2 5 (.astore_n 3) [] (.null) 6 := ⟨rfl, rfl⟩
theorem jf_44_6 : jG m_B_chain_2 6 (.aload_n 3) [] (.null) 7 := ⟨rfl, rfl⟩
theorem jf_44_7 : jG m_B_chain_2 7 (.ifnonnull 5) [12] (.null) 10 := ⟨rfl, rfl⟩
theorem jf_44_10 : jG m_B_chain_2 10 (.iconst (-1)) [] (.null) 11 := ⟨rfl, rfl⟩
theorem jf_44_11 : jG m_B_chain_2 11 (.ireturn) [] (.null) 12 := ⟨rfl, rfl⟩
theorem jf_44_12 : jG m_B_chain_2 12 (.iload_n 2) [] (.null) 13 := ⟨rfl, rfl⟩
theorem jf_44_13 : jG m_B_chain_2 13 (.tableswitch 74 0 4 #[35, 40, 45, 50, 69]) [87, 48, 53, 58, 63, 82] (.null) 14 := ⟨rfl, rfl⟩
theorem jf_44_48 : jG m_B_chain_2 48 (.aload_n 3) [] (.null) 49 := ⟨rfl, rfl⟩
theorem jf_44_49 : jG m_B_chain_2 49 (.getfield 195) [1, 2] (.null) 52 := ⟨rfl, rfl⟩
theorem jf_44_52 : jG m_B_chain_2 52 (.ireturn) [] (.null) 53 := ⟨rfl, rfl⟩
theorem jf_44_53 : jG m_B_chain_2 53 (.aload_n 3) [] (.null) 54 := ⟨rfl, rfl⟩
theorem jf_44_54 : jG m_B_chain_2 54 (.getfield 211) [1, 4] (.null) 57 := ⟨rfl, rfl⟩
theorem jf_44_57 : jG m_B_chain_2 57 (.ireturn) [] (.null) 58 := ⟨rfl, rfl⟩
theorem jf_44_58 : jG m_B_chain_2 58 (.aload_n 3) [] (.null) 59 := ⟨rfl, rfl⟩
theorem jf_44_59 : jG m_B_chain_2 59 (.getfield 226) [1, 8] (.null) 62 := ⟨rfl, rfl⟩
theorem jf_44_62 : jG m_B_chain_2 62 (.ireturn) [] (.null) 63 := ⟨rfl, rfl⟩
theorem jf_44_63 : jG m_B_chain_2 63 (.aload_n 3) [] (.null) 64 := ⟨rfl, rfl⟩
theorem jf_44_64 : jG m_B_chain_2 64 (.getfield 191) [1, 9] (.null) 67 := ⟨rfl, rfl⟩
theorem jf_44_67 : jG m_B_chain_2 67 (.ifnonnull 7) [74] (.null) 70 := ⟨rfl, rfl⟩
theorem jf_44_70 : jG m_B_chain_2 70 (.iconst (-1)) [] (.null) 71 := ⟨rfl, rfl⟩
theorem jf_44_71 : jG m_B_chain_2 71 (.goto 10) [81] (.null) 74 := ⟨rfl, rfl⟩
theorem jf_44_74 : jG m_B_chain_2 74 (.aload_n 3) [] (.null) 75 := ⟨rfl, rfl⟩
theorem jf_44_75 : jG m_B_chain_2 75 (.getfield 191) [1, 9] (.null) 78 := ⟨rfl, rfl⟩
theorem jf_44_78 : jG m_B_chain_2 78 (.getfield 72) [7, 0] (.null) 81 := ⟨rfl, rfl⟩
theorem jf_44_81 : jG m_B_chain_2 81 (.ireturn) [] (.null) 82 := ⟨rfl, rfl⟩
theorem jf_44_82 : jG m_B_chain_2 82 (.aload_n 3) [] (.null) 83 := ⟨rfl, rfl⟩
theorem jf_44_83 : jG m_B_chain_2 83 (.invokevirtual 198) [6, 0, 1, m_Chain_sort] (.null) 86 := ⟨rfl, rfl⟩
theorem jf_44_86 : jG m_B_chain_2 86 (.ireturn) [] (.null) 87 := ⟨rfl, rfl⟩
theorem jf_44_87 : jG m_B_chain_2 87 (.iconst (-1)) [] (.null) 88 := ⟨rfl, rfl⟩
theorem jf_44_88 : jG m_B_chain_2 88 (.ireturn) [] (.null) 89 := ⟨rfl, rfl⟩
theorem jf_45_0 : jG m_B_count 0 (.iload_n 1) [] (.null) 1 := ⟨rfl, rfl⟩
theorem jf_45_1 : jG m_B_count 1 (.tableswitch 42 0 2 #[27, 32, 37]) [43, 28, 33, 38] (.null) 2 := ⟨rfl, rfl⟩
theorem jf_45_28 : jG m_B_count 28 (.aload_n 0) [] (.null) 29 := ⟨rfl, rfl⟩
theorem jf_45_29 : jG m_B_count 29 (.getfield 170) [0, 4] (.null) 32 := ⟨rfl, rfl⟩
theorem jf_45_32 : jG m_B_count 32 (.ireturn) [] (.null) 33 := ⟨rfl, rfl⟩
theorem jf_45_33 : jG m_B_count 33 (.aload_n 0) [] (.null) 34 := ⟨rfl, rfl⟩
theorem jf_45_34 : jG m_B_count 34 (.getfield 176) [0, 6] (.null) 37 := ⟨rfl, rfl⟩
theorem jf_45_37 : jG m_B_count 37 (.ireturn) [] (.null) 38 := ⟨rfl, rfl⟩
theorem jf_45_38 : jG m_B_count 38 (.aload_n 0) [] (.null) 39 := ⟨rfl, rfl⟩
theorem jf_45_39 : jG m_B_count 39 (.getfield 179) [0, 8] (.null) 42 := ⟨rfl, rfl⟩
theorem jf_45_42 : jG m_B_count 42 (.ireturn) [] (.null) 43 := ⟨rfl, rfl⟩
theorem jf_45_43 : jG m_B_count 43 (.iconst (-1)) [] (.null) 44 := ⟨rfl, rfl⟩
theorem jf_45_44 : jG m_B_count 44 (.ireturn) [] (.null) 45 := ⟨rfl, rfl⟩
theorem jf_46_0 : jG m_B_feed 0 (.aload_n 0) [] (.null) 1 := ⟨rfl, rfl⟩
theorem jf_46_1 : jG m_B_feed 1 (.iload_n 1) [] (.null) 2 := ⟨rfl, rfl⟩
theorem jf_46_2 : jG m_B_feed 2 (.invokevirtual 229) [6, 1, 0, m_B_fedAlone] (.null) 5 := ⟨rfl, rfl⟩
theorem jf_46_5 : jG m_B_feed 5 (.astore 4) [] (.null) 7 := ⟨rfl, rfl⟩
theorem jf_46_7 : jG m_B_feed 7 (.aload 4) [] (.null) 9 := ⟨rfl, rfl⟩
theorem jf_46_9 : jG m_B_feed 9 (.ifnonnull 5) [14] (.null) 12 := ⟨rfl, rfl⟩
theorem jf_46_12 : jG m_B_feed 12 (.iconst (-1)) [] (.null) 13 := ⟨rfl, rfl⟩
theorem jf_46_13 : jG m_B_feed 13 (.ireturn) [] (.null) 14 := ⟨rfl, rfl⟩
theorem jf_46_14 : jG m_B_feed 14 (.aload_n 0) [] (.null) 15 := ⟨rfl, rfl⟩
theorem jf_46_15 : jG m_B_feed 15 (.aload 4) [] (.null) 17 := ⟨rfl, rfl⟩
theorem jf_46_17 : jG m_B_feed 17 (.invokevirtual 198) [6, 0, 1, m_Chain_sort] (.null) 20 := ⟨rfl, rfl⟩
theorem jf_46_20 : jG m_B_feed 20 (.invokevirtual 56) [6, 1, 0, m_B_numbersOf] (.null) 23 := ⟨rfl, rfl⟩
theorem jf_46_23 : jG m_B_feed 23 (.astore 5) [] (.null) 25 := ⟨rfl, rfl⟩
theorem jf_46_25 : jG m_B_feed 25 (.aload 5) [] (.null) 27 := ⟨rfl, rfl⟩
theorem jf_46_27 : jG m_B_feed 27 (.ifnull 12) [39] (.null) 30 := ⟨rfl, rfl⟩
theorem jf_46_30 : jG m_B_feed 30 (.aload 5) [] (.null) 32 := ⟨rfl, rfl⟩
theorem jf_46_32 : jG m_B_feed 32 (.lload_n 2) [] (.null) 33 := ⟨rfl, rfl⟩
theorem jf_46_33 : jG m_B_feed 33 (.invokevirtual 87) [8, 1, 5, m_Real_holds, 8, m_Shorts_holds] (.null) 36 := ⟨rfl, rfl⟩
theorem jf_46_36 : jG m_B_feed 36 (.ifCond .ne 5) [41] (.null) 39 := ⟨rfl, rfl⟩
theorem jf_46_39 : jG m_B_feed 39 (.iconst (-1)) [] (.null) 40 := ⟨rfl, rfl⟩
theorem jf_46_40 : jG m_B_feed 40 (.ireturn) [] (.null) 41 := ⟨rfl, rfl⟩
theorem jf_46_41 : jG m_B_feed 41 (.aload 4) [] (.null) 43 := ⟨rfl, rfl⟩
theorem jf_46_43 : jG m_B_feed 43 (.iconst 0) [] (.null) 44 := ⟨rfl, rfl⟩
theorem jf_46_44 : jG m_B_feed 44 (.aload 5) [] (.null) 46 := ⟨rfl, rfl⟩
theorem jf_46_46 : jG m_B_feed 46 (.lload_n 2) [] (.null) 47 := ⟨rfl, rfl⟩
theorem jf_46_47 : jG m_B_feed 47 (.invokevirtual 93) [8, 1, 5, m_Real_clean, 8, m_Shorts_clean] (.null) 50 := ⟨rfl, rfl⟩
theorem jf_46_50 : jG m_B_feed 50 (.iconst 0) [] (.null) 51 := ⟨rfl, rfl⟩
theorem jf_46_51 : jG m_B_feed 51 (.invokestatic 232) [3, m_B_send, 4] (.null) 54 := ⟨rfl, rfl⟩
theorem jf_46_54 : jG m_B_feed 54 (.ireturn) [] (.null) 55 := ⟨rfl, rfl⟩
theorem jf_47_0 : jG m_B_fedAlone 0 (.aload_n 0) [] (.null) 1 := ⟨rfl, rfl⟩
theorem jf_47_1 : jG m_B_fedAlone 1 (.iload_n 1) [] (.null) 2 := ⟨rfl, rfl⟩
theorem jf_47_2 : jG m_B_fedAlone 2 (.invokevirtual 187) [6, 1, 0, m_B_chainAt] (.null) 5 := ⟨rfl, rfl⟩
theorem jf_47_5 : jG m_B_fedAlone 5 (.astore_n 2) [] (.null) 6 := ⟨rfl, rfl⟩
theorem jf_47_6 : jG m_B_fedAlone 6 (.aload_n 2) [] (.null) 7 := ⟨rfl, rfl⟩
theorem jf_47_7 : jG m_B_fedAlone 7 (.ifnull 17) [24] (.null) 10 := ⟨rfl, rfl⟩
theorem jf_47_10 : jG m_B_fedAlone 10 (.aload_n 2) [] (.null) 11 := ⟨rfl, rfl⟩
theorem jf_47_11 : jG m_B_fedAlone 11 (.getfield 195) [1, 2] (.null) 14 := ⟨rfl, rfl⟩
theorem jf_47_14 : jG m_B_fedAlone 14 (.ifCond .eq 10) [24] (.null) 17 := ⟨rfl, rfl⟩
theorem jf_47_17 : jG m_B_fedAlone 17 (.aload_n 2) [] (.null) 18 := ⟨rfl, rfl⟩
theorem jf_47_18 : jG m_B_fedAlone 18 (.getfield 191) [1, 9] (.null) 21 := ⟨rfl, rfl⟩
theorem jf_47_21 : jG m_B_fedAlone 21 (.ifnull 7) [28] (.null) 24 := ⟨rfl, rfl⟩
theorem jf_47_24 : jG m_B_fedAlone 24 (.aconst_null) [] (.null) 25 := ⟨rfl, rfl⟩
theorem jf_47_25 : jG m_B_fedAlone 25 (.goto 4) [29] (.null) 28 := ⟨rfl, rfl⟩
theorem jf_47_28 : jG m_B_fedAlone 28 (.aload_n 2) [] (.null) 29 := ⟨rfl, rfl⟩
theorem jf_47_29 : jG m_B_fedAlone 29 (.areturn) [] (.null) 30 := ⟨rfl, rfl⟩
theorem jf_48_0 : jG m_B_send 0 (.iload 4) [] (.null) 2 := ⟨rfl, rfl⟩
theorem jf_48_2 : jG m_B_send 2 (.bipush 30) [] (.null) 4 := ⟨rfl, rfl⟩
theorem jf_48_4 : jG m_B_send 4 (.if_icmp .le 5) [9] (.null) 7 := ⟨rfl, rfl⟩
theorem jf_48_7 : jG m_B_send 7 (.iconst 0) [] (.null) 8 := ⟨rfl, rfl⟩
theorem jf_48_8 : jG m_B_send 8 (.ireturn) [] (.null) 9 := ⟨rfl, rfl⟩
theorem jf_48_9 : jG m_B_send 9 (.lload_n 2) [] (.null) 10 := ⟨rfl, rfl⟩
theorem jf_48_10 : jG m_B_send 10 (.lstore 5) [] (.null) 12 := ⟨rfl, rfl⟩
theorem jf_48_12 : jG m_B_send 12 (.iload_n 1) [] (.null) 13 := ⟨rfl, rfl⟩
theorem jf_48_13 : jG m_B_send 13 (.istore 7) [] (.null) 15 := ⟨rfl, rfl⟩
theorem jf_48_15 : jG m_B_send 15 (.iload 7) [] (.null) 17 := ⟨rfl, rfl⟩
theorem jf_48_17 : jG m_B_send 17 (.aload_n 0) [] (.null) 18 := ⟨rfl, rfl⟩
theorem jf_48_18 : jG m_B_send 18 (.getfield 195) [1, 2] (.null) 21 := ⟨rfl, rfl⟩
theorem jf_48_21 : jG m_B_send 21 (.if_icmp .ge 183) [204] (.null) 24 := ⟨rfl, rfl⟩
theorem jf_48_24 : jG m_B_send 24 (.aload_n 0) [] (.null) 25 := ⟨rfl, rfl⟩
theorem jf_48_25 : jG m_B_send 25 (.iload 7) [] (.null) 27 := ⟨rfl, rfl⟩
theorem jf_48_27 : jG m_B_send 27 (.invokevirtual 254) [6, 1, 1, m_Chain_memberAt] (.null) 30 := ⟨rfl, rfl⟩
theorem jf_48_30 : jG m_B_send 30 (.astore 8) [] (.null) 32 := ⟨rfl, rfl⟩
theorem jf_48_32 : jG m_B_send 32 (.aload 8) [] (.null) 34 := ⟨rfl, rfl⟩
theorem jf_48_34 : jG m_B_send 34 (.ifnonnull 5) [39] (.null) 37 := ⟨rfl, rfl⟩
theorem jf_48_37 : jG m_B_send 37 (.iconst 0) [] (.null) 38 := ⟨rfl, rfl⟩
theorem jf_48_38 : jG m_B_send 38 (.ireturn) [] (.null) 39 := ⟨rfl, rfl⟩
theorem jf_48_39 : jG m_B_send 39 (.aload 8) [] (.null) 41 := ⟨rfl, rfl⟩
theorem jf_48_41 : jG m_B_send 41 (.getfield 131) [7, 1] (.null) 44 := ⟨rfl, rfl⟩
theorem jf_48_44 : jG m_B_send 44 (.bipush 12) [] (.null) 46 := ⟨rfl, rfl⟩
theorem jf_48_46 : jG m_B_send 46 (.if_icmp .ne 13) [59] (.null) 49 := ⟨rfl, rfl⟩
theorem jf_48_49 : jG m_B_send 49 (.aload 8) [] (.null) 51 := ⟨rfl, rfl⟩
theorem jf_48_51 : jG m_B_send 51 (.invokevirtual 257) [6, 0, 7, m_Section_letsThrough] (.null) 54 := ⟨rfl, rfl⟩
theorem jf_48_54 : jG m_B_send 54 (.ifCond .ne 144) [198] (.null) 57 := ⟨rfl, rfl⟩
theorem jf_48_57 : jG m_B_send 57 (.iconst 0) [] (.null) 58 := ⟨rfl, rfl⟩
theorem jf_48_58 : jG m_B_send 58 (.ireturn) [] (.null) 59 := ⟨rfl, rfl⟩
theorem jf_48_59 : jG m_B_send 59 (.aload 8) [] (.null) 61 := ⟨rfl, rfl⟩
theorem jf_48_61 : jG m_B_send 61 (.invokevirtual 201) [6, 0, 7, m_Section_spreads] (.null) 64 := ⟨rfl, rfl⟩
theorem jf_48_64 : jG m_B_send 64 (.ifCond .eq 66) [130] (.null) 67 := ⟨rfl, rfl⟩
theorem jf_48_67 : jG m_B_send 67 (.iconst 0) [] (.null) 68 := ⟨rfl, rfl⟩
theorem jf_48_68 : jG m_B_send 68 (.istore 9) [] (.null) 70 := ⟨rfl, rfl⟩
theorem jf_48_70 : jG m_B_send 70 (.iconst 0) [] (.null) 71 := ⟨rfl, rfl⟩
theorem jf_48_71 : jG m_B_send 71 (.istore 10) [] (.null) 73 := ⟨rfl, rfl⟩
theorem jf_48_73 : jG m_B_send 73 (.iload 10) [] (.null) 75 := ⟨rfl, rfl⟩
theorem jf_48_75 : jG m_B_send 75 (.aload 8) [] (.null) 77 := ⟨rfl, rfl⟩
theorem jf_48_77 : jG m_B_send 77 (.getfield 134) [7, 3] (.null) 80 := ⟨rfl, rfl⟩
theorem jf_48_80 : jG m_B_send 80 (.if_icmp .ge 47) [127] (.null) 83 := ⟨rfl, rfl⟩
theorem jf_48_83 : jG m_B_send 83 (.iload 9) [] (.null) 85 := ⟨rfl, rfl⟩
theorem jf_48_85 : jG m_B_send 85 (.aload_n 0) [] (.null) 86 := ⟨rfl, rfl⟩
theorem jf_48_86 : jG m_B_send 86 (.iload 7) [] (.null) 88 := ⟨rfl, rfl⟩
theorem jf_48_88 : jG m_B_send 88 (.iconst 1) [] (.null) 89 := ⟨rfl, rfl⟩
theorem jf_48_89 : jG m_B_send 89 (.iadd) [] (.null) 90 := ⟨rfl, rfl⟩
theorem jf_48_90 : jG m_B_send 90 (.iload 10) [] (.null) 92 := ⟨rfl, rfl⟩
theorem jf_48_92 : jG m_B_send 92 (.ifCond .eq 13) [105] (.null) 95 := ⟨rfl, rfl⟩
theorem jf_48_95 : jG m_B_send 95 (.aload 8) [] (.null) 97 := ⟨rfl, rfl⟩
theorem jf_48_97 : jG m_B_send 97 (.getfield 131) [7, 1] (.null) 100 := ⟨rfl, rfl⟩
theorem jf_48_100 : jG m_B_send 100 (.bipush 14) [] (.null) 102 := ⟨rfl, rfl⟩
theorem jf_48_102 : jG m_B_send 102 (.if_icmp .ne 8) [110] (.null) 105 := ⟨rfl, rfl⟩
theorem jf_48_105 : jG m_B_send 105 (.lload 5) [] (.null) 107 := ⟨rfl, rfl⟩
theorem jf_48_107 : jG m_B_send 107 (.goto 4) [111] (.null) 110 := ⟨rfl, rfl⟩
theorem jf_48_110 : jG m_B_send 110 (.lconst 0) [] (.null) 111 := ⟨rfl, rfl⟩
theorem jf_48_111 : jG m_B_send 111 (.iload 4) [] (.null) 113 := ⟨rfl, rfl⟩
theorem jf_48_113 : jG m_B_send 113 (.iconst 1) [] (.null) 114 := ⟨rfl, rfl⟩
theorem jf_48_114 : jG m_B_send 114 (.iadd) [] (.null) 115 := ⟨rfl, rfl⟩
theorem jf_48_115 : jG m_B_send 115 (.invokestatic 232) [3, m_B_send, 4] (.null) 118 := ⟨rfl, rfl⟩
theorem jf_48_118 : jG m_B_send 118 (.iadd) [] (.null) 119 := ⟨rfl, rfl⟩
theorem jf_48_119 : jG m_B_send 119 (.istore 9) [] (.null) 121 := ⟨rfl, rfl⟩
theorem jf_48_121 : jG m_B_send 121 (.iinc 10 1) [] (.null) 124 := ⟨rfl, rfl⟩
theorem jf_48_124 : jG m_B_send 124 (.goto (-51)) [73] (.null) 127 := ⟨rfl, rfl⟩
theorem jf_48_127 : jG m_B_send 127 (.iload 9) [] (.null) 129 := ⟨rfl, rfl⟩
theorem jf_48_129 : jG m_B_send 129 (.ireturn) [] (.null) 130 := ⟨rfl, rfl⟩
theorem jf_48_130 : jG m_B_send 130 (.aload_n 0) [] (.null) 131 := ⟨rfl, rfl⟩
theorem jf_48_131 : jG m_B_send 131 (.iload 7) [] (.null) 133 := ⟨rfl, rfl⟩
theorem jf_48_133 : jG m_B_send 133 (.aload 8) [] (.null) 135 := ⟨rfl, rfl⟩
theorem jf_48_135 : jG m_B_send 135 (.lload 5) [] (.null) 137 := ⟨rfl, rfl⟩
theorem jf_48_137 : jG m_B_send 137 (.invokevirtual 260) [6, 3, 1, m_Chain_looped] (.null) 140 := ⟨rfl, rfl⟩
theorem jf_48_140 : jG m_B_send 140 (.lstore 5) [] (.null) 142 := ⟨rfl, rfl⟩
theorem jf_48_142 : jG m_B_send 142 (.lconst 0) [] (.null) 143 := ⟨rfl, rfl⟩
theorem jf_48_143 : jG m_B_send 143 (.lstore 9) [] (.null) 145 := ⟨rfl, rfl⟩
theorem jf_48_145 : jG m_B_send 145 (.aload 8) [] (.null) 147 := ⟨rfl, rfl⟩
theorem jf_48_147 : jG m_B_send 147 (.getfield 154) [7, 14] (.null) 150 := ⟨rfl, rfl⟩
theorem jf_48_150 : jG m_B_send 150 (.ifnull 29) [179] (.null) 153 := ⟨rfl, rfl⟩
theorem jf_48_153 : jG m_B_send 153 (.aload 8) [] (.null) 155 := ⟨rfl, rfl⟩
theorem jf_48_155 : jG m_B_send 155 (.getfield 154) [7, 14] (.null) 158 := ⟨rfl, rfl⟩
theorem jf_48_158 : jG m_B_send 158 (.iconst 0) [] (.null) 159 := ⟨rfl, rfl⟩
theorem jf_48_159 : jG m_B_send 159 (.lload 5) [] (.null) 161 := ⟨rfl, rfl⟩
theorem jf_48_161 : jG m_B_send 161 (.iload 4) [] (.null) 163 := ⟨rfl, rfl⟩
theorem jf_48_163 : jG m_B_send 163 (.iconst 1) [] (.null) 164 := ⟨rfl, rfl⟩
theorem jf_48_164 : jG m_B_send 164 (.iadd) [] (.null) 165 := ⟨rfl, rfl⟩
theorem jf_48_165 : jG m_B_send 165 (.invokestatic 232) [3, m_B_send, 4] (.null) 168 := ⟨rfl, rfl⟩
theorem jf_48_168 : jG m_B_send 168 (.pop) [] (.null) 169 := ⟨rfl, rfl⟩
theorem jf_48_169 : jG m_B_send 169 (.aload 8) [] (.null) 171 := ⟨rfl, rfl⟩
theorem jf_48_171 : jG m_B_send 171 (.getfield 154) [7, 14] (.null) 174 := ⟨rfl, rfl⟩
theorem jf_48_174 : jG m_B_send 174 (.invokevirtual 264) [6, 0, 1, m_Chain_madeLast] (.null) 177 := ⟨rfl, rfl⟩
theorem jf_48_177 : jG m_B_send 177 (.lstore 9) [] (.null) 179 := ⟨rfl, rfl⟩
theorem jf_48_179 : jG m_B_send 179 (.aload 8) [] (.null) 181 := ⟨rfl, rfl⟩
theorem jf_48_181 : jG m_B_send 181 (.lload 5) [] (.null) 183 := ⟨rfl, rfl⟩
theorem jf_48_183 : jG m_B_send 183 (.lload 9) [] (.null) 185 := ⟨rfl, rfl⟩
theorem jf_48_185 : jG m_B_send 185 (.invokevirtual 268) [6, 2, 7, m_Section_step] (.null) 188 := ⟨rfl, rfl⟩
theorem jf_48_188 : jG m_B_send 188 (.lstore 5) [] (.null) 190 := ⟨rfl, rfl⟩
theorem jf_48_190 : jG m_B_send 190 (.aload_n 0) [] (.null) 191 := ⟨rfl, rfl⟩
theorem jf_48_191 : jG m_B_send 191 (.iload 7) [] (.null) 193 := ⟨rfl, rfl⟩
theorem jf_48_193 : jG m_B_send 193 (.lload 5) [] (.null) 195 := ⟨rfl, rfl⟩
theorem jf_48_195 : jG m_B_send 195 (.invokevirtual 272) [6, 2, 1, m_Chain_note] (.null) 198 := ⟨rfl, rfl⟩
theorem jf_48_198 : jG m_B_send 198 (.iinc 7 1) [] (.null) 201 := ⟨rfl, rfl⟩
theorem jf_48_201 : jG m_B_send 201 (.goto (-186)) [15] (.null) 204 := ⟨rfl, rfl⟩
theorem jf_48_204 : jG m_B_send 204 (.aload_n 0) [] (.null) 205 := ⟨rfl, rfl⟩
theorem jf_48_205 : jG m_B_send 205 (.lload 5) [] (.null) 207 := ⟨rfl, rfl⟩
theorem jf_48_207 : jG m_B_send 207 (.invokevirtual 275) [6, 1, 1, m_Chain_emit] (.null) 210 := ⟨rfl, rfl⟩
theorem jf_48_210 : jG m_B_send 210 (.iconst 1) [] (.null) 211 := ⟨rfl, rfl⟩
theorem jf_48_211 : jG m_B_send 211 (.ireturn) [] (.null) 212 := ⟨rfl, rfl⟩
theorem jf_49_0 : jG m_Section_letsThrough 0 (.aload_n 0) [] (.null) 1 := ⟨rfl, rfl⟩
theorem jf_49_1 : jG m_Section_letsThrough 1 (.getfield 51) [7, 6] (.null) 4 := ⟨rfl, rfl⟩
theorem jf_49_4 : jG m_Section_letsThrough 4 (.iconst 0) [] (.null) 5 := ⟨rfl, rfl⟩
theorem jf_49_5 : jG m_Section_letsThrough 5 (.invokevirtual 58) [6, 1, 6, m_Row_at] (.null) 8 := ⟨rfl, rfl⟩
theorem jf_49_8 : jG m_Section_letsThrough 8 (.lstore_n 1) [] (.null) 9 := ⟨rfl, rfl⟩
theorem jf_49_9 : jG m_Section_letsThrough 9 (.aload_n 0) [] (.null) 10 := ⟨rfl, rfl⟩
theorem jf_49_10 : jG m_Section_letsThrough 10 (.getfield 51) [7, 6] (.null) 13 := ⟨rfl, rfl⟩
theorem jf_49_13 : jG m_Section_letsThrough 13 (.iconst 0) [] (.null) 14 := ⟨rfl, rfl⟩
theorem jf_49_14 : jG m_Section_letsThrough 14 (.lload_n 1) [] (.null) 15 := ⟨rfl, rfl⟩
theorem jf_49_15 : jG m_Section_letsThrough 15 (.lconst 1) [] (.null) 16 := ⟨rfl, rfl⟩
theorem jf_49_16 : jG m_Section_letsThrough 16 (.ladd) [] (.null) 17 := ⟨rfl, rfl⟩
theorem jf_49_17 : jG m_Section_letsThrough 17 (.aload_n 0) [] (.null) 18 := ⟨rfl, rfl⟩
theorem jf_49_18 : jG m_Section_letsThrough 18 (.getfield 33) [7, 3] (.null) 21 := ⟨rfl, rfl⟩
theorem jf_49_21 : jG m_Section_letsThrough 21 (.i2l) [] (.null) 22 := ⟨rfl, rfl⟩
theorem jf_49_22 : jG m_Section_letsThrough 22 (.lcmp) [] (.null) 23 := ⟨rfl, rfl⟩
theorem jf_49_23 : jG m_Section_letsThrough 23 (.ifCond .lt 7) [30] (.null) 26 := ⟨rfl, rfl⟩
theorem jf_49_26 : jG m_Section_letsThrough 26 (.lconst 0) [] (.null) 27 := ⟨rfl, rfl⟩
theorem jf_49_27 : jG m_Section_letsThrough 27 (.goto 6) [33] (.null) 30 := ⟨rfl, rfl⟩
theorem jf_49_30 : jG m_Section_letsThrough 30 (.lload_n 1) [] (.null) 31 := ⟨rfl, rfl⟩
theorem jf_49_31 : jG m_Section_letsThrough 31 (.lconst 1) [] (.null) 32 := ⟨rfl, rfl⟩
theorem jf_49_32 : jG m_Section_letsThrough 32 (.ladd) [] (.null) 33 := ⟨rfl, rfl⟩
theorem jf_49_33 : jG m_Section_letsThrough 33 (.invokevirtual 62) [6, 2, 6, m_Row_put] (.null) 36 := ⟨rfl, rfl⟩
theorem jf_49_36 : jG m_Section_letsThrough 36 (.lload_n 1) [] (.null) 37 := ⟨rfl, rfl⟩
theorem jf_49_37 : jG m_Section_letsThrough 37 (.lconst 0) [] (.null) 38 := ⟨rfl, rfl⟩
theorem jf_49_38 : jG m_Section_letsThrough 38 (.lcmp) [] (.null) 39 := ⟨rfl, rfl⟩
theorem jf_49_39 : jG m_Section_letsThrough 39 (.ifCond .ne 7) [46] (.null) 42 := ⟨rfl, rfl⟩
theorem jf_49_42 : jG m_Section_letsThrough 42 (.iconst 1) [] (.null) 43 := ⟨rfl, rfl⟩
theorem jf_49_43 : jG m_Section_letsThrough 43 (.goto 4) [47] (.null) 46 := ⟨rfl, rfl⟩
theorem jf_49_46 : jG m_Section_letsThrough 46 (.iconst 0) [] (.null) 47 := ⟨rfl, rfl⟩
theorem jf_49_47 : jG m_Section_letsThrough 47 (.ireturn) [] (.null) 48 := ⟨rfl, rfl⟩
theorem jf_50_0 : jG m_Row_put 0 (.iload_n 1) [] (.null) 1 := ⟨rfl, rfl⟩
theorem jf_50_1 : jG m_Row_put 1 (.ifCond .lt 23) [24] (.null) 4 := ⟨rfl, rfl⟩
theorem jf_50_4 : jG m_Row_put 4 (.iload_n 1) [] (.null) 5 := ⟨rfl, rfl⟩
theorem jf_50_5 : jG m_Row_put 5 (.aload_n 0) [] (.null) 6 := ⟨rfl, rfl⟩
theorem jf_50_6 : jG m_Row_put 6 (.getfield 7) [6, 0] (.null) 9 := ⟨rfl, rfl⟩
theorem jf_50_9 : jG m_Row_put 9 (.arraylength) [] (.null) 10 := ⟨rfl, rfl⟩
theorem jf_50_10 : jG m_Row_put 10 (.if_icmp .ge 14) [24] (.null) 13 := ⟨rfl, rfl⟩
theorem jf_50_13 : jG m_Row_put 13 (.aload_n 0) [] (.null) 14 := ⟨rfl, rfl⟩
theorem jf_50_14 : jG m_Row_put 14 (.getfield 7) [6, 0] (.null) 17 := ⟨rfl, rfl⟩
theorem jf_50_17 : jG m_Row_put 17 (.aload_n 0) [] (.null) 18 := ⟨rfl, rfl⟩
theorem jf_50_18 : jG m_Row_put 18 (.iload_n 1) [] (.null) 19 := ⟨rfl, rfl⟩
theorem jf_50_19 : jG m_Row_put 19 (.invokevirtual 17) [6, 1, 6, m_Row_index] (.null) 22 := ⟨rfl, rfl⟩
theorem jf_50_22 : jG m_Row_put 22 (.lload_n 2) [] (.null) 23 := ⟨rfl, rfl⟩
theorem jf_50_23 : jG m_Row_put 23 (.lastore) [] (.null) 24 := ⟨rfl, rfl⟩
theorem jf_50_24 : jG m_Row_put 24 (.return_) [] (.null) 25 := ⟨rfl, rfl⟩
theorem jf_51_0 : jG m_Chain_looped 0 (.lload_n 3) [] (.null) 1 := ⟨rfl, rfl⟩
theorem jf_51_1 : jG m_Chain_looped 1 (.lstore 5) [] (.null) 3 := ⟨rfl, rfl⟩
theorem jf_51_3 : jG m_Chain_looped 3 (.iconst 0) [] (.null) 4 := ⟨rfl, rfl⟩
theorem jf_51_4 : jG m_Chain_looped 4 (.istore 7) [] (.null) 6 := ⟨rfl, rfl⟩
theorem jf_51_6 : jG m_Chain_looped 6 (.iload 7) [] (.null) 8 := ⟨rfl, rfl⟩
theorem jf_51_8 : jG m_Chain_looped 8 (.aload_n 0) [] (.null) 9 := ⟨rfl, rfl⟩
theorem jf_51_9 : jG m_Chain_looped 9 (.getfield 34) [1, 4] (.null) 12 := ⟨rfl, rfl⟩
theorem jf_51_12 : jG m_Chain_looped 12 (.if_icmp .ge 78) [90] (.null) 15 := ⟨rfl, rfl⟩
theorem jf_51_15 : jG m_Chain_looped 15 (.aload_n 0) [] (.null) 16 := ⟨rfl, rfl⟩
theorem jf_51_16 : jG m_Chain_looped 16 (.iload 7) [] (.null) 18 := ⟨rfl, rfl⟩
theorem jf_51_18 : jG m_Chain_looped 18 (.invokevirtual 58) [6, 1, 1, m_Chain_loopAt] (.null) 21 := ⟨rfl, rfl⟩
theorem jf_51_21 : jG m_Chain_looped 21 (.astore 8) [] (.null) 23 := ⟨rfl, rfl⟩
theorem jf_51_23 : jG m_Chain_looped 23 (.aload 8) [] (.null) 25 := ⟨rfl, rfl⟩
theorem jf_51_25 : jG m_Chain_looped 25 (.ifnull 59) [84] (.null) 28 := ⟨rfl, rfl⟩
theorem jf_51_28 : jG m_Chain_looped 28 (.aload 8) [] (.null) 30 := ⟨rfl, rfl⟩
theorem jf_51_30 : jG m_Chain_looped 30 (.getfield 62) [4, 0] (.null) 33 := ⟨rfl, rfl⟩
theorem jf_51_33 : jG m_Chain_looped 33 (.iload_n 1) [] (.null) 34 := ⟨rfl, rfl⟩
theorem jf_51_34 : jG m_Chain_looped 34 (.if_icmp .ne 50) [84] (.null) 37 := ⟨rfl, rfl⟩
theorem jf_51_37 : jG m_Chain_looped 37 (.aload_n 2) [] (.null) 38 := ⟨rfl, rfl⟩
theorem jf_51_38 : jG m_Chain_looped 38 (.getfield 65) [7, 4] (.null) 41 := ⟨rfl, rfl⟩
theorem jf_51_41 : jG m_Chain_looped 41 (.aload 8) [] (.null) 43 := ⟨rfl, rfl⟩
theorem jf_51_43 : jG m_Chain_looped 43 (.getfield 69) [4, 2] (.null) 46 := ⟨rfl, rfl⟩
theorem jf_51_46 : jG m_Chain_looped 46 (.aload 8) [] (.null) 48 := ⟨rfl, rfl⟩
theorem jf_51_48 : jG m_Chain_looped 48 (.getfield 73) [4, 3] (.null) 51 := ⟨rfl, rfl⟩
theorem jf_51_51 : jG m_Chain_looped 51 (.iconst 0) [] (.null) 52 := ⟨rfl, rfl⟩
theorem jf_51_52 : jG m_Chain_looped 52 (.invokevirtual 77) [6, 1, 6, m_Row_at] (.null) 55 := ⟨rfl, rfl⟩
theorem jf_51_55 : jG m_Chain_looped 55 (.invokevirtual 83) [8, 2, 5, m_Real_product, 8, m_Shorts_product] (.null) 58 := ⟨rfl, rfl⟩
theorem jf_51_58 : jG m_Chain_looped 58 (.lstore 9) [] (.null) 60 := ⟨rfl, rfl⟩
theorem jf_51_60 : jG m_Chain_looped 60 (.aload_n 2) [] (.null) 61 := ⟨rfl, rfl⟩
theorem jf_51_61 : jG m_Chain_looped 61 (.aload_n 2) [] (.null) 62 := ⟨rfl, rfl⟩
theorem jf_51_62 : jG m_Chain_looped 62 (.getfield 65) [7, 4] (.null) 65 := ⟨rfl, rfl⟩
theorem jf_51_65 : jG m_Chain_looped 65 (.aload_n 2) [] (.null) 66 := ⟨rfl, rfl⟩
theorem jf_51_66 : jG m_Chain_looped 66 (.getfield 65) [7, 4] (.null) 69 := ⟨rfl, rfl⟩
theorem jf_51_69 : jG m_Chain_looped 69 (.lload 5) [] (.null) 71 := ⟨rfl, rfl⟩
theorem jf_51_71 : jG m_Chain_looped 71 (.invokevirtual 89) [8, 1, 5, m_Real_term, 8, m_Shorts_term] (.null) 74 := ⟨rfl, rfl⟩
theorem jf_51_74 : jG m_Chain_looped 74 (.lload 9) [] (.null) 76 := ⟨rfl, rfl⟩
theorem jf_51_76 : jG m_Chain_looped 76 (.invokevirtual 93) [8, 2, 5, m_Real_plus, 8, m_Shorts_plus] (.null) 79 := ⟨rfl, rfl⟩
theorem jf_51_79 : jG m_Chain_looped 79 (.invokevirtual 96) [6, 1, 7, m_Section_settled] (.null) 82 := ⟨rfl, rfl⟩
theorem jf_51_82 : jG m_Chain_looped 82 (.lstore 5) [] (.null) 84 := ⟨rfl, rfl⟩
theorem jf_51_84 : jG m_Chain_looped 84 (.iinc 7 1) [] (.null) 87 := ⟨rfl, rfl⟩
theorem jf_51_87 : jG m_Chain_looped 87 (.goto (-81)) [6] (.null) 90 := ⟨rfl, rfl⟩
theorem jf_51_90 : jG m_Chain_looped 90 (.lload 5) [] (.null) 92 := ⟨rfl, rfl⟩
theorem jf_51_92 : jG m_Chain_looped 92 (.lreturn) [] (.null) 93 := ⟨rfl, rfl⟩
theorem jf_52_0 : jG m_Chain_loopAt 0 (.iload_n 1) [] (.null) 1 := ⟨rfl, rfl⟩
theorem jf_52_1 : jG m_Chain_loopAt 1 (.ifCond .lt 20) [21] (.null) 4 := ⟨rfl, rfl⟩
theorem jf_52_4 : jG m_Chain_loopAt 4 (.iload_n 1) [] (.null) 5 := ⟨rfl, rfl⟩
theorem jf_52_5 : jG m_Chain_loopAt 5 (.aload_n 0) [] (.null) 6 := ⟨rfl, rfl⟩
theorem jf_52_6 : jG m_Chain_loopAt 6 (.getfield 34) [1, 4] (.null) 9 := ⟨rfl, rfl⟩
theorem jf_52_9 : jG m_Chain_loopAt 9 (.if_icmp .ge 12) [21] (.null) 12 := ⟨rfl, rfl⟩
theorem jf_52_12 : jG m_Chain_loopAt 12 (.iload_n 1) [] (.null) 13 := ⟨rfl, rfl⟩
theorem jf_52_13 : jG m_Chain_loopAt 13 (.aload_n 0) [] (.null) 14 := ⟨rfl, rfl⟩
theorem jf_52_14 : jG m_Chain_loopAt 14 (.getfield 23) [1, 3] (.null) 17 := ⟨rfl, rfl⟩
theorem jf_52_17 : jG m_Chain_loopAt 17 (.arraylength) [] (.null) 18 := ⟨rfl, rfl⟩
theorem jf_52_18 : jG m_Chain_loopAt 18 (.if_icmp .lt 7) [25] (.null) 21 := ⟨rfl, rfl⟩
theorem jf_52_21 : jG m_Chain_loopAt 21 (.aconst_null) [] (.null) 22 := ⟨rfl, rfl⟩
theorem jf_52_22 : jG m_Chain_loopAt 22 (.goto 9) [31] (.null) 25 := ⟨rfl, rfl⟩
theorem jf_52_25 : jG m_Chain_loopAt 25 (.aload_n 0) [] (.null) 26 := ⟨rfl, rfl⟩
theorem jf_52_26 : jG m_Chain_loopAt 26 (.getfield 23) [1, 3] (.null) 29 := ⟨rfl, rfl⟩
theorem jf_52_29 : jG m_Chain_loopAt 29 (.iload_n 1) [] (.null) 30 := ⟨rfl, rfl⟩
theorem jf_52_30 : jG m_Chain_loopAt 30 (.aaload) [] (.null) 31 := ⟨rfl, rfl⟩
theorem jf_52_31 : jG m_Chain_loopAt 31 (.areturn) [] (.null) 32 := ⟨rfl, rfl⟩
set_option maxRecDepth 100000 in
theorem jf_53_0 : jG m_Real_product 0 (.aload_n 0) [] (.null) 1 := ⟨rfl, rfl⟩
set_option maxRecDepth 100000 in
theorem jf_53_1 : jG m_Real_product 1 (.lload_n 1) [] (.null) 2 := ⟨rfl, rfl⟩
set_option maxRecDepth 100000 in
theorem jf_53_2 : jG m_Real_product 2 (.invokevirtual 38) [6, 1, 5, m_Real_sizeOf] (.null) 5 := ⟨rfl, rfl⟩
set_option maxRecDepth 100000 in
theorem jf_53_5 : jG m_Real_product 5 (.lstore 5) [] (.null) 7 := ⟨rfl, rfl⟩
set_option maxRecDepth 100000 in
theorem jf_53_7 : jG m_Real_product 7 (.aload_n 0) [] (.null) 8 := ⟨rfl, rfl⟩
set_option maxRecDepth 100000 in
theorem jf_53_8 : jG m_Real_product 8 (.lload_n 3) [] (.null) 9 := ⟨rfl, rfl⟩
set_option maxRecDepth 100000 in
theorem jf_53_9 : jG m_Real_product 9 (.invokevirtual 38) [6, 1, 5, m_Real_sizeOf] (.null) 12 := ⟨rfl, rfl⟩
set_option maxRecDepth 100000 in
theorem jf_53_12 : jG m_Real_product 12 (.lstore 7) [] (.null) 14 := ⟨rfl, rfl⟩
set_option maxRecDepth 100000 in
theorem jf_53_14 : jG m_Real_product 14 (.lload_n 1) [] (.null) 15 := ⟨rfl, rfl⟩
set_option maxRecDepth 100000 in
theorem jf_53_15 : jG m_Real_product 15 (.lconst 0) [] (.null) 16 := ⟨rfl, rfl⟩
set_option maxRecDepth 100000 in
theorem jf_53_16 : jG m_Real_product 16 (.lcmp) [] (.null) 17 := ⟨rfl, rfl⟩
set_option maxRecDepth 100000 in
theorem jf_53_17 : jG m_Real_product 17 (.ifCond .ge 7) [24] (.null) 20 := ⟨rfl, rfl⟩
set_option maxRecDepth 100000 in
theorem jf_53_20 : jG m_Real_product 20 (.iconst 1) [] (.null) 21 := ⟨rfl, rfl⟩
set_option maxRecDepth 100000 in
theorem jf_53_21 : jG m_Real_product 21 (.goto 4) [25] (.null) 24 := ⟨rfl, rfl⟩
set_option maxRecDepth 100000 in
theorem jf_53_24 : jG m_Real_product 24 (.iconst 0) [] (.null) 25 := ⟨rfl, rfl⟩
set_option maxRecDepth 100000 in
theorem jf_53_25 : jG m_Real_product 25 (.lload_n 3) [] (.null) 26 := ⟨rfl, rfl⟩
set_option maxRecDepth 100000 in
theorem jf_53_26 : jG m_Real_product 26 (.lconst 0) [] (.null) 27 := ⟨rfl, rfl⟩
set_option maxRecDepth 100000 in
theorem jf_53_27 : jG m_Real_product 27 (.lcmp) [] (.null) 28 := ⟨rfl, rfl⟩
set_option maxRecDepth 100000 in
theorem jf_53_28 : jG m_Real_product 28 (.ifCond .ge 7) [35] (.null) 31 := ⟨rfl, rfl⟩
set_option maxRecDepth 100000 in
theorem jf_53_31 : jG m_Real_product 31 (.iconst 1) [] (.null) 32 := ⟨rfl, rfl⟩
set_option maxRecDepth 100000 in
theorem jf_53_32 : jG m_Real_product 32 (.goto 4) [36] (.null) 35 := ⟨rfl, rfl⟩
set_option maxRecDepth 100000 in
theorem jf_53_35 : jG m_Real_product 35 (.iconst 0) [] (.null) 36 := ⟨rfl, rfl⟩
set_option maxRecDepth 100000 in
theorem jf_53_36 : jG m_Real_product 36 (.if_icmp .eq 7) [43] (.null) 39 := ⟨rfl, rfl⟩
set_option maxRecDepth 100000 in
theorem jf_53_39 : jG m_Real_product 39 (.iconst 1) [] (.null) 40 := ⟨rfl, rfl⟩
set_option maxRecDepth 100000 in
theorem jf_53_40 : jG m_Real_product 40 (.goto 4) [44] (.null) 43 := ⟨rfl, rfl⟩
set_option maxRecDepth 100000 in
theorem jf_53_43 : jG m_Real_product 43 (.iconst 0) [] (.null) 44 := ⟨rfl, rfl⟩
set_option maxRecDepth 100000 in
theorem jf_53_44 : jG m_Real_product 44 (.istore 9) [] (.null) 46 := ⟨rfl, rfl⟩
set_option maxRecDepth 100000 in
theorem jf_53_46 : jG m_Real_product 46 (.lload 5) [] (.null) 48 := ⟨rfl, rfl⟩
set_option maxRecDepth 100000 in
theorem jf_53_48 : jG m_Real_product 48 (.aload_n 0) [] (.null) 49 := ⟨rfl, rfl⟩
set_option maxRecDepth 100000 in
theorem jf_53_49 : jG m_Real_product 49 (.getfield 28) [5, 5] (.null) 52 := ⟨rfl, rfl⟩
set_option maxRecDepth 100000 in
theorem jf_53_52 : jG m_Real_product 52 (.lcmp) [] (.null) 53 := ⟨rfl, rfl⟩
set_option maxRecDepth 100000 in
theorem jf_53_53 : jG m_Real_product 53 (.ifCond .ge 13) [66] (.null) 56 := ⟨rfl, rfl⟩
set_option maxRecDepth 100000 in
theorem jf_53_56 : jG m_Real_product 56 (.lload 7) [] (.null) 58 := ⟨rfl, rfl⟩
set_option maxRecDepth 100000 in
theorem jf_53_58 : jG m_Real_product 58 (.aload_n 0) [] (.null) 59 := ⟨rfl, rfl⟩
set_option maxRecDepth 100000 in
theorem jf_53_59 : jG m_Real_product 59 (.getfield 28) [5, 5] (.null) 62 := ⟨rfl, rfl⟩
set_option maxRecDepth 100000 in
theorem jf_53_62 : jG m_Real_product 62 (.lcmp) [] (.null) 63 := ⟨rfl, rfl⟩
set_option maxRecDepth 100000 in
theorem jf_53_63 : jG m_Real_product 63 (.ifCond .lt 55) [118] (.null) 66 := ⟨rfl, rfl⟩
set_option maxRecDepth 100000 in
theorem jf_53_66 : jG m_Real_product 66 (.lload 5) [] (.null) 68 := ⟨rfl, rfl⟩
set_option maxRecDepth 100000 in
theorem jf_53_68 : jG m_Real_product 68 (.aload_n 0) [] (.null) 69 := ⟨rfl, rfl⟩
set_option maxRecDepth 100000 in
theorem jf_53_69 : jG m_Real_product 69 (.getfield 28) [5, 5] (.null) 72 := ⟨rfl, rfl⟩
set_option maxRecDepth 100000 in
theorem jf_53_72 : jG m_Real_product 72 (.lcmp) [] (.null) 73 := ⟨rfl, rfl⟩
set_option maxRecDepth 100000 in
theorem jf_53_73 : jG m_Real_product 73 (.ifCond .gt 27) [100] (.null) 76 := ⟨rfl, rfl⟩
set_option maxRecDepth 100000 in
theorem jf_53_76 : jG m_Real_product 76 (.lload 7) [] (.null) 78 := ⟨rfl, rfl⟩
set_option maxRecDepth 100000 in
theorem jf_53_78 : jG m_Real_product 78 (.aload_n 0) [] (.null) 79 := ⟨rfl, rfl⟩
set_option maxRecDepth 100000 in
theorem jf_53_79 : jG m_Real_product 79 (.getfield 28) [5, 5] (.null) 82 := ⟨rfl, rfl⟩
set_option maxRecDepth 100000 in
theorem jf_53_82 : jG m_Real_product 82 (.lcmp) [] (.null) 83 := ⟨rfl, rfl⟩
set_option maxRecDepth 100000 in
theorem jf_53_83 : jG m_Real_product 83 (.ifCond .gt 17) [100] (.null) 86 := ⟨rfl, rfl⟩
set_option maxRecDepth 100000 in
theorem jf_53_86 : jG m_Real_product 86 (.lload 5) [] (.null) 88 := ⟨rfl, rfl⟩
set_option maxRecDepth 100000 in
theorem jf_53_88 : jG m_Real_product 88 (.lconst 0) [] (.null) 89 := ⟨rfl, rfl⟩
set_option maxRecDepth 100000 in
theorem jf_53_89 : jG m_Real_product 89 (.lcmp) [] (.null) 90 := ⟨rfl, rfl⟩
set_option maxRecDepth 100000 in
theorem jf_53_90 : jG m_Real_product 90 (.ifCond .eq 10) [100] (.null) 93 := ⟨rfl, rfl⟩
set_option maxRecDepth 100000 in
theorem jf_53_93 : jG m_Real_product 93 (.lload 7) [] (.null) 95 := ⟨rfl, rfl⟩
set_option maxRecDepth 100000 in
theorem jf_53_95 : jG m_Real_product 95 (.lconst 0) [] (.null) 96 := ⟨rfl, rfl⟩
set_option maxRecDepth 100000 in
theorem jf_53_96 : jG m_Real_product 96 (.lcmp) [] (.null) 97 := ⟨rfl, rfl⟩
set_option maxRecDepth 100000 in
theorem jf_53_97 : jG m_Real_product 97 (.ifCond .ne 10) [107] (.null) 100 := ⟨rfl, rfl⟩
set_option maxRecDepth 100000 in
theorem jf_53_100 : jG m_Real_product 100 (.aload_n 0) [] (.null) 101 := ⟨rfl, rfl⟩
set_option maxRecDepth 100000 in
theorem jf_53_101 : jG m_Real_product 101 (.getfield 31) [5, 6] (.null) 104 := ⟨rfl, rfl⟩
set_option maxRecDepth 100000 in
theorem jf_53_104 : jG m_Real_product 104 (.goto 13) [117] (.null) 107 := ⟨rfl, rfl⟩
set_option maxRecDepth 100000 in
theorem jf_53_107 : jG m_Real_product 107 (.aload_n 0) [] (.null) 108 := ⟨rfl, rfl⟩
set_option maxRecDepth 100000 in
theorem jf_53_108 : jG m_Real_product 108 (.iload 9) [] (.null) 110 := ⟨rfl, rfl⟩
set_option maxRecDepth 100000 in
theorem jf_53_110 : jG m_Real_product 110 (.aload_n 0) [] (.null) 111 := ⟨rfl, rfl⟩
set_option maxRecDepth 100000 in
theorem jf_53_111 : jG m_Real_product 111 (.getfield 28) [5, 5] (.null) 114 := ⟨rfl, rfl⟩
set_option maxRecDepth 100000 in
theorem jf_53_114 : jG m_Real_product 114 (.invokevirtual 48) [6, 2, 5, m_Real_signed] (.null) 117 := ⟨rfl, rfl⟩
set_option maxRecDepth 100000 in
theorem jf_53_117 : jG m_Real_product 117 (.lreturn) [] (.null) 118 := ⟨rfl, rfl⟩
set_option maxRecDepth 100000 in
theorem jf_53_118 : jG m_Real_product 118 (.lload 5) [] (.null) 120 := ⟨rfl, rfl⟩
set_option maxRecDepth 100000 in
theorem jf_53_120 : jG m_Real_product 120 (.lconst 0) [] (.null) 121 := ⟨rfl, rfl⟩
set_option maxRecDepth 100000 in
theorem jf_53_121 : jG m_Real_product 121 (.lcmp) [] (.null) 122 := ⟨rfl, rfl⟩
set_option maxRecDepth 100000 in
theorem jf_53_122 : jG m_Real_product 122 (.ifCond .eq 10) [132] (.null) 125 := ⟨rfl, rfl⟩
set_option maxRecDepth 100000 in
theorem jf_53_125 : jG m_Real_product 125 (.lload 7) [] (.null) 127 := ⟨rfl, rfl⟩
set_option maxRecDepth 100000 in
theorem jf_53_127 : jG m_Real_product 127 (.lconst 0) [] (.null) 128 := ⟨rfl, rfl⟩
set_option maxRecDepth 100000 in
theorem jf_53_128 : jG m_Real_product 128 (.lcmp) [] (.null) 129 := ⟨rfl, rfl⟩
set_option maxRecDepth 100000 in
theorem jf_53_129 : jG m_Real_product 129 (.ifCond .ne 11) [140] (.null) 132 := ⟨rfl, rfl⟩
set_option maxRecDepth 100000 in
theorem jf_53_132 : jG m_Real_product 132 (.aload_n 0) [] (.null) 133 := ⟨rfl, rfl⟩
set_option maxRecDepth 100000 in
theorem jf_53_133 : jG m_Real_product 133 (.iload 9) [] (.null) 135 := ⟨rfl, rfl⟩
set_option maxRecDepth 100000 in
theorem jf_53_135 : jG m_Real_product 135 (.lconst 0) [] (.null) 136 := ⟨rfl, rfl⟩
set_option maxRecDepth 100000 in
theorem jf_53_136 : jG m_Real_product 136 (.invokevirtual 48) [6, 2, 5, m_Real_signed] (.null) 139 := ⟨rfl, rfl⟩
set_option maxRecDepth 100000 in
theorem jf_53_139 : jG m_Real_product 139 (.lreturn) [] (.null) 140 := ⟨rfl, rfl⟩
set_option maxRecDepth 100000 in
theorem jf_53_140 : jG m_Real_product 140 (.aload_n 0) [] (.null) 141 := ⟨rfl, rfl⟩
set_option maxRecDepth 100000 in
theorem jf_53_141 : jG m_Real_product 141 (.lload 5) [] (.null) 143 := ⟨rfl, rfl⟩
set_option maxRecDepth 100000 in
theorem jf_53_143 : jG m_Real_product 143 (.invokevirtual 52) [6, 1, 5, m_Real_mantissa] (.null) 146 := ⟨rfl, rfl⟩
set_option maxRecDepth 100000 in
theorem jf_53_146 : jG m_Real_product 146 (.lstore 10) [] (.null) 148 := ⟨rfl, rfl⟩
set_option maxRecDepth 100000 in
theorem jf_53_148 : jG m_Real_product 148 (.aload_n 0) [] (.null) 149 := ⟨rfl, rfl⟩
set_option maxRecDepth 100000 in
theorem jf_53_149 : jG m_Real_product 149 (.lload 7) [] (.null) 151 := ⟨rfl, rfl⟩
set_option maxRecDepth 100000 in
theorem jf_53_151 : jG m_Real_product 151 (.invokevirtual 52) [6, 1, 5, m_Real_mantissa] (.null) 154 := ⟨rfl, rfl⟩
set_option maxRecDepth 100000 in
theorem jf_53_154 : jG m_Real_product 154 (.lstore 12) [] (.null) 156 := ⟨rfl, rfl⟩
set_option maxRecDepth 100000 in
theorem jf_53_156 : jG m_Real_product 156 (.lload 10) [] (.null) 158 := ⟨rfl, rfl⟩
set_option maxRecDepth 100000 in
theorem jf_53_158 : jG m_Real_product 158 (.invokestatic 55) [3, m_Real_lead, 1] (.null) 161 := ⟨rfl, rfl⟩
set_option maxRecDepth 100000 in
theorem jf_53_161 : jG m_Real_product 161 (.bipush 62) [] (.null) 163 := ⟨rfl, rfl⟩
set_option maxRecDepth 100000 in
theorem jf_53_163 : jG m_Real_product 163 (.isub) [] (.null) 164 := ⟨rfl, rfl⟩
set_option maxRecDepth 100000 in
theorem jf_53_164 : jG m_Real_product 164 (.bipush 52) [] (.null) 166 := ⟨rfl, rfl⟩
set_option maxRecDepth 100000 in
theorem jf_53_166 : jG m_Real_product 166 (.iadd) [] (.null) 167 := ⟨rfl, rfl⟩
set_option maxRecDepth 100000 in
theorem jf_53_167 : jG m_Real_product 167 (.istore 14) [] (.null) 169 := ⟨rfl, rfl⟩
set_option maxRecDepth 100000 in
theorem jf_53_169 : jG m_Real_product 169 (.lload 12) [] (.null) 171 := ⟨rfl, rfl⟩
set_option maxRecDepth 100000 in
theorem jf_53_171 : jG m_Real_product 171 (.invokestatic 55) [3, m_Real_lead, 1] (.null) 174 := ⟨rfl, rfl⟩
set_option maxRecDepth 100000 in
theorem jf_53_174 : jG m_Real_product 174 (.bipush 62) [] (.null) 176 := ⟨rfl, rfl⟩
set_option maxRecDepth 100000 in
theorem jf_53_176 : jG m_Real_product 176 (.isub) [] (.null) 177 := ⟨rfl, rfl⟩
set_option maxRecDepth 100000 in
theorem jf_53_177 : jG m_Real_product 177 (.bipush 52) [] (.null) 179 := ⟨rfl, rfl⟩
set_option maxRecDepth 100000 in
theorem jf_53_179 : jG m_Real_product 179 (.iadd) [] (.null) 180 := ⟨rfl, rfl⟩
set_option maxRecDepth 100000 in
theorem jf_53_180 : jG m_Real_product 180 (.istore 15) [] (.null) 182 := ⟨rfl, rfl⟩
set_option maxRecDepth 100000 in
theorem jf_53_182 : jG m_Real_product 182 (.aload_n 0) [] (.null) 183 := ⟨rfl, rfl⟩
set_option maxRecDepth 100000 in
theorem jf_53_183 : jG m_Real_product 183 (.iload 9) [] (.null) 185 := ⟨rfl, rfl⟩
set_option maxRecDepth 100000 in
theorem jf_53_185 : jG m_Real_product 185 (.aload_n 0) [] (.null) 186 := ⟨rfl, rfl⟩
set_option maxRecDepth 100000 in
theorem jf_53_186 : jG m_Real_product 186 (.lload 5) [] (.null) 188 := ⟨rfl, rfl⟩
set_option maxRecDepth 100000 in
theorem jf_53_188 : jG m_Real_product 188 (.invokevirtual 59) [6, 1, 5, m_Real_exponent] (.null) 191 := ⟨rfl, rfl⟩
set_option maxRecDepth 100000 in
theorem jf_53_191 : jG m_Real_product 191 (.iload 14) [] (.null) 193 := ⟨rfl, rfl⟩
set_option maxRecDepth 100000 in
theorem jf_53_193 : jG m_Real_product 193 (.isub) [] (.null) 194 := ⟨rfl, rfl⟩
set_option maxRecDepth 100000 in
theorem jf_53_194 : jG m_Real_product 194 (.aload_n 0) [] (.null) 195 := ⟨rfl, rfl⟩
set_option maxRecDepth 100000 in
theorem jf_53_195 : jG m_Real_product 195 (.lload 7) [] (.null) 197 := ⟨rfl, rfl⟩
set_option maxRecDepth 100000 in
theorem jf_53_197 : jG m_Real_product 197 (.invokevirtual 59) [6, 1, 5, m_Real_exponent] (.null) 200 := ⟨rfl, rfl⟩
set_option maxRecDepth 100000 in
theorem jf_53_200 : jG m_Real_product 200 (.iadd) [] (.null) 201 := ⟨rfl, rfl⟩
set_option maxRecDepth 100000 in
theorem jf_53_201 : jG m_Real_product 201 (.iload 15) [] (.null) 203 := ⟨rfl, rfl⟩
set_option maxRecDepth 100000 in
theorem jf_53_203 : jG m_Real_product 203 (.isub) [] (.null) 204 := ⟨rfl, rfl⟩
set_option maxRecDepth 100000 in
theorem jf_53_204 : jG m_Real_product 204 (.bipush 44) [] (.null) 206 := ⟨rfl, rfl⟩
set_option maxRecDepth 100000 in
theorem jf_53_206 : jG m_Real_product 206 (.iadd) [] (.null) 207 := ⟨rfl, rfl⟩
set_option maxRecDepth 100000 in
theorem jf_53_207 : jG m_Real_product 207 (.lload 10) [] (.null) 209 := ⟨rfl, rfl⟩
set_option maxRecDepth 100000 in
theorem jf_53_209 : jG m_Real_product 209 (.iload 14) [] (.null) 211 := ⟨rfl, rfl⟩
set_option maxRecDepth 100000 in
theorem jf_53_211 : jG m_Real_product 211 (.lshl) [] (.null) 212 := ⟨rfl, rfl⟩
set_option maxRecDepth 100000 in
theorem jf_53_212 : jG m_Real_product 212 (.lload 12) [] (.null) 214 := ⟨rfl, rfl⟩
set_option maxRecDepth 100000 in
theorem jf_53_214 : jG m_Real_product 214 (.iload 15) [] (.null) 216 := ⟨rfl, rfl⟩
set_option maxRecDepth 100000 in
theorem jf_53_216 : jG m_Real_product 216 (.lshl) [] (.null) 217 := ⟨rfl, rfl⟩
set_option maxRecDepth 100000 in
theorem jf_53_217 : jG m_Real_product 217 (.invokestatic 62) [3, m_Real_highProduct, 2] (.null) 220 := ⟨rfl, rfl⟩
set_option maxRecDepth 100000 in
theorem jf_53_220 : jG m_Real_product 220 (.invokevirtual 66) [6, 3, 5, m_Real_packed] (.null) 223 := ⟨rfl, rfl⟩
set_option maxRecDepth 100000 in
theorem jf_53_223 : jG m_Real_product 223 (.lreturn) [] (.null) 224 := ⟨rfl, rfl⟩
theorem jf_54_0 : jG m_Real_sizeOf 0 (.lload_n 1) [] (.null) 1 := ⟨rfl, rfl⟩
theorem jf_54_1 : jG m_Real_sizeOf 1 (.aload_n 0) [] (.null) 2 := ⟨rfl, rfl⟩
theorem jf_54_2 : jG m_Real_sizeOf 2 (.getfield 25) [5, 4] (.null) 5 := ⟨rfl, rfl⟩
theorem jf_54_5 : jG m_Real_sizeOf 5 (.ldc2_w 23) [] (.long (-1)) 8 := ⟨rfl, rfl⟩
theorem jf_54_8 : jG m_Real_sizeOf 8 (.lxor) [] (.null) 9 := ⟨rfl, rfl⟩
theorem jf_54_9 : jG m_Real_sizeOf 9 (.land) [] (.null) 10 := ⟨rfl, rfl⟩
theorem jf_54_10 : jG m_Real_sizeOf 10 (.lreturn) [] (.null) 11 := ⟨rfl, rfl⟩
theorem jf_55_0 : jG m_Real_signed 0 (.iload_n 1) [] (.null) 1 := ⟨rfl, rfl⟩
theorem jf_55_1 : jG m_Real_signed 1 (.ifCond .eq 12) [13] (.null) 4 := ⟨rfl, rfl⟩
theorem jf_55_4 : jG m_Real_signed 4 (.lload_n 2) [] (.null) 5 := ⟨rfl, rfl⟩
theorem jf_55_5 : jG m_Real_signed 5 (.aload_n 0) [] (.null) 6 := ⟨rfl, rfl⟩
theorem jf_55_6 : jG m_Real_signed 6 (.getfield 25) [5, 4] (.null) 9 := ⟨rfl, rfl⟩
theorem jf_55_9 : jG m_Real_signed 9 (.lor) [] (.null) 10 := ⟨rfl, rfl⟩
theorem jf_55_10 : jG m_Real_signed 10 (.goto 4) [14] (.null) 13 := ⟨rfl, rfl⟩
theorem jf_55_13 : jG m_Real_signed 13 (.lload_n 2) [] (.null) 14 := ⟨rfl, rfl⟩
theorem jf_55_14 : jG m_Real_signed 14 (.lreturn) [] (.null) 15 := ⟨rfl, rfl⟩
theorem jf_56_0 : jG m_Real_mantissa 0 (.lload_n 1) [] (.null) 1 := ⟨rfl, rfl⟩
theorem jf_56_1 : jG m_Real_mantissa 1 (.aload_n 0) [] (.null) 2 := ⟨rfl, rfl⟩
theorem jf_56_2 : jG m_Real_mantissa 2 (.getfield 13) [5, 1] (.null) 5 := ⟨rfl, rfl⟩
theorem jf_56_5 : jG m_Real_mantissa 5 (.lcmp) [] (.null) 6 := ⟨rfl, rfl⟩
theorem jf_56_6 : jG m_Real_mantissa 6 (.ifCond .ge 7) [13] (.null) 9 := ⟨rfl, rfl⟩
theorem jf_56_9 : jG m_Real_mantissa 9 (.lload_n 1) [] (.null) 10 := ⟨rfl, rfl⟩
theorem jf_56_10 : jG m_Real_mantissa 10 (.goto 16) [26] (.null) 13 := ⟨rfl, rfl⟩
theorem jf_56_13 : jG m_Real_mantissa 13 (.lload_n 1) [] (.null) 14 := ⟨rfl, rfl⟩
theorem jf_56_14 : jG m_Real_mantissa 14 (.aload_n 0) [] (.null) 15 := ⟨rfl, rfl⟩
theorem jf_56_15 : jG m_Real_mantissa 15 (.getfield 13) [5, 1] (.null) 18 := ⟨rfl, rfl⟩
theorem jf_56_18 : jG m_Real_mantissa 18 (.lconst 1) [] (.null) 19 := ⟨rfl, rfl⟩
theorem jf_56_19 : jG m_Real_mantissa 19 (.lsub) [] (.null) 20 := ⟨rfl, rfl⟩
theorem jf_56_20 : jG m_Real_mantissa 20 (.land) [] (.null) 21 := ⟨rfl, rfl⟩
theorem jf_56_21 : jG m_Real_mantissa 21 (.aload_n 0) [] (.null) 22 := ⟨rfl, rfl⟩
theorem jf_56_22 : jG m_Real_mantissa 22 (.getfield 13) [5, 1] (.null) 25 := ⟨rfl, rfl⟩
theorem jf_56_25 : jG m_Real_mantissa 25 (.lor) [] (.null) 26 := ⟨rfl, rfl⟩
theorem jf_56_26 : jG m_Real_mantissa 26 (.lreturn) [] (.null) 27 := ⟨rfl, rfl⟩
theorem jf_57_0 : jG m_Real_lead 0 (.lload_n 0) [] (.null) 1 := ⟨rfl, rfl⟩
theorem jf_57_1 : jG m_Real_lead 1 (.lstore_n 2) [] (.null) 2 := ⟨rfl, rfl⟩
theorem jf_57_2 : jG m_Real_lead 2 (.iconst 0) [] (.null) 3 := ⟨rfl, rfl⟩
theorem jf_57_3 : jG m_Real_lead 3 (.istore 4) [] (.null) 5 := ⟨rfl, rfl⟩
theorem jf_57_5 : jG m_Real_lead 5 (.lload_n 2) [] (.null) 6 := ⟨rfl, rfl⟩
theorem jf_57_6 : jG m_Real_lead 6 (.bipush 31) [] (.null) 8 := ⟨rfl, rfl⟩
theorem jf_57_8 : jG m_Real_lead 8 (.lushr) [] (.null) 9 := ⟨rfl, rfl⟩
theorem jf_57_9 : jG m_Real_lead 9 (.lconst 0) [] (.null) 10 := ⟨rfl, rfl⟩
theorem jf_57_10 : jG m_Real_lead 10 (.lcmp) [] (.null) 11 := ⟨rfl, rfl⟩
theorem jf_57_11 : jG m_Real_lead 11 (.ifCond .ne 12) [23] (.null) 14 := ⟨rfl, rfl⟩
theorem jf_57_14 : jG m_Real_lead 14 (.bipush 32) [] (.null) 16 := ⟨rfl, rfl⟩
theorem jf_57_16 : jG m_Real_lead 16 (.istore 4) [] (.null) 18 := ⟨rfl, rfl⟩
theorem jf_57_18 : jG m_Real_lead 18 (.lload_n 2) [] (.null) 19 := ⟨rfl, rfl⟩
theorem jf_57_19 : jG m_Real_lead 19 (.bipush 32) [] (.null) 21 := ⟨rfl, rfl⟩
theorem jf_57_21 : jG m_Real_lead 21 (.lshl) [] (.null) 22 := ⟨rfl, rfl⟩
theorem jf_57_22 : jG m_Real_lead 22 (.lstore_n 2) [] (.null) 23 := ⟨rfl, rfl⟩
theorem jf_57_23 : jG m_Real_lead 23 (.lload_n 2) [] (.null) 24 := ⟨rfl, rfl⟩
theorem jf_57_24 : jG m_Real_lead 24 (.bipush 47) [] (.null) 26 := ⟨rfl, rfl⟩
theorem jf_57_26 : jG m_Real_lead 26 (.lushr) [] (.null) 27 := ⟨rfl, rfl⟩
theorem jf_57_27 : jG m_Real_lead 27 (.lconst 0) [] (.null) 28 := ⟨rfl, rfl⟩
theorem jf_57_28 : jG m_Real_lead 28 (.lcmp) [] (.null) 29 := ⟨rfl, rfl⟩
theorem jf_57_29 : jG m_Real_lead 29 (.ifCond .ne 11) [40] (.null) 32 := ⟨rfl, rfl⟩
theorem jf_57_32 : jG m_Real_lead 32 (.iinc 4 16) [] (.null) 35 := ⟨rfl, rfl⟩
theorem jf_57_35 : jG m_Real_lead 35 (.lload_n 2) [] (.null) 36 := ⟨rfl, rfl⟩
theorem jf_57_36 : jG m_Real_lead 36 (.bipush 16) [] (.null) 38 := ⟨rfl, rfl⟩
theorem jf_57_38 : jG m_Real_lead 38 (.lshl) [] (.null) 39 := ⟨rfl, rfl⟩
theorem jf_57_39 : jG m_Real_lead 39 (.lstore_n 2) [] (.null) 40 := ⟨rfl, rfl⟩
theorem jf_57_40 : jG m_Real_lead 40 (.lload_n 2) [] (.null) 41 := ⟨rfl, rfl⟩
theorem jf_57_41 : jG m_Real_lead 41 (.bipush 55) [] (.null) 43 := ⟨rfl, rfl⟩
theorem jf_57_43 : jG m_Real_lead 43 (.lushr) [] (.null) 44 := ⟨rfl, rfl⟩
theorem jf_57_44 : jG m_Real_lead 44 (.lconst 0) [] (.null) 45 := ⟨rfl, rfl⟩
theorem jf_57_45 : jG m_Real_lead 45 (.lcmp) [] (.null) 46 := ⟨rfl, rfl⟩
theorem jf_57_46 : jG m_Real_lead 46 (.ifCond .ne 11) [57] (.null) 49 := ⟨rfl, rfl⟩
theorem jf_57_49 : jG m_Real_lead 49 (.iinc 4 8) [] (.null) 52 := ⟨rfl, rfl⟩
theorem jf_57_52 : jG m_Real_lead 52 (.lload_n 2) [] (.null) 53 := ⟨rfl, rfl⟩
theorem jf_57_53 : jG m_Real_lead 53 (.bipush 8) [] (.null) 55 := ⟨rfl, rfl⟩
theorem jf_57_55 : jG m_Real_lead 55 (.lshl) [] (.null) 56 := ⟨rfl, rfl⟩
theorem jf_57_56 : jG m_Real_lead 56 (.lstore_n 2) [] (.null) 57 := ⟨rfl, rfl⟩
theorem jf_57_57 : jG m_Real_lead 57 (.lload_n 2) [] (.null) 58 := ⟨rfl, rfl⟩
theorem jf_57_58 : jG m_Real_lead 58 (.bipush 59) [] (.null) 60 := ⟨rfl, rfl⟩
theorem jf_57_60 : jG m_Real_lead 60 (.lushr) [] (.null) 61 := ⟨rfl, rfl⟩
theorem jf_57_61 : jG m_Real_lead 61 (.lconst 0) [] (.null) 62 := ⟨rfl, rfl⟩
theorem jf_57_62 : jG m_Real_lead 62 (.lcmp) [] (.null) 63 := ⟨rfl, rfl⟩
theorem jf_57_63 : jG m_Real_lead 63 (.ifCond .ne 10) [73] (.null) 66 := ⟨rfl, rfl⟩
theorem jf_57_66 : jG m_Real_lead 66 (.iinc 4 4) [] (.null) 69 := ⟨rfl, rfl⟩
theorem jf_57_69 : jG m_Real_lead 69 (.lload_n 2) [] (.null) 70 := ⟨rfl, rfl⟩
theorem jf_57_70 : jG m_Real_lead 70 (.iconst 4) [] (.null) 71 := ⟨rfl, rfl⟩
theorem jf_57_71 : jG m_Real_lead 71 (.lshl) [] (.null) 72 := ⟨rfl, rfl⟩
theorem jf_57_72 : jG m_Real_lead 72 (.lstore_n 2) [] (.null) 73 := ⟨rfl, rfl⟩
theorem jf_57_73 : jG m_Real_lead 73 (.lload_n 2) [] (.null) 74 := ⟨rfl, rfl⟩
theorem jf_57_74 : jG m_Real_lead 74 (.bipush 61) [] (.null) 76 := ⟨rfl, rfl⟩
theorem jf_57_76 : jG m_Real_lead 76 (.lushr) [] (.null) 77 := ⟨rfl, rfl⟩
theorem jf_57_77 : jG m_Real_lead 77 (.lconst 0) [] (.null) 78 := ⟨rfl, rfl⟩
theorem jf_57_78 : jG m_Real_lead 78 (.lcmp) [] (.null) 79 := ⟨rfl, rfl⟩
theorem jf_57_79 : jG m_Real_lead 79 (.ifCond .ne 10) [89] (.null) 82 := ⟨rfl, rfl⟩
theorem jf_57_82 : jG m_Real_lead 82 (.iinc 4 2) [] (.null) 85 := ⟨rfl, rfl⟩
theorem jf_57_85 : jG m_Real_lead 85 (.lload_n 2) [] (.null) 86 := ⟨rfl, rfl⟩
theorem jf_57_86 : jG m_Real_lead 86 (.iconst 2) [] (.null) 87 := ⟨rfl, rfl⟩
theorem jf_57_87 : jG m_Real_lead 87 (.lshl) [] (.null) 88 := ⟨rfl, rfl⟩
theorem jf_57_88 : jG m_Real_lead 88 (.lstore_n 2) [] (.null) 89 := ⟨rfl, rfl⟩
theorem jf_57_89 : jG m_Real_lead 89 (.lload_n 2) [] (.null) 90 := ⟨rfl, rfl⟩
theorem jf_57_90 : jG m_Real_lead 90 (.bipush 62) [] (.null) 92 := ⟨rfl, rfl⟩
theorem jf_57_92 : jG m_Real_lead 92 (.lushr) [] (.null) 93 := ⟨rfl, rfl⟩
theorem jf_57_93 : jG m_Real_lead 93 (.lconst 0) [] (.null) 94 := ⟨rfl, rfl⟩
theorem jf_57_94 : jG m_Real_lead 94 (.lcmp) [] (.null) 95 := ⟨rfl, rfl⟩
theorem jf_57_95 : jG m_Real_lead 95 (.ifCond .ne 10) [105] (.null) 98 := ⟨rfl, rfl⟩
theorem jf_57_98 : jG m_Real_lead 98 (.iload 4) [] (.null) 100 := ⟨rfl, rfl⟩
theorem jf_57_100 : jG m_Real_lead 100 (.iconst 1) [] (.null) 101 := ⟨rfl, rfl⟩
theorem jf_57_101 : jG m_Real_lead 101 (.iadd) [] (.null) 102 := ⟨rfl, rfl⟩
theorem jf_57_102 : jG m_Real_lead 102 (.goto 5) [107] (.null) 105 := ⟨rfl, rfl⟩
theorem jf_57_105 : jG m_Real_lead 105 (.iload 4) [] (.null) 107 := ⟨rfl, rfl⟩
theorem jf_57_107 : jG m_Real_lead 107 (.ireturn) [] (.null) 108 := ⟨rfl, rfl⟩
theorem jf_58_0 : jG m_Real_exponent 0 (.lload_n 1) [] (.null) 1 := ⟨rfl, rfl⟩
theorem jf_58_1 : jG m_Real_exponent 1 (.aload_n 0) [] (.null) 2 := ⟨rfl, rfl⟩
theorem jf_58_2 : jG m_Real_exponent 2 (.getfield 7) [5, 0] (.null) 5 := ⟨rfl, rfl⟩
theorem jf_58_5 : jG m_Real_exponent 5 (.lushr) [] (.null) 6 := ⟨rfl, rfl⟩
theorem jf_58_6 : jG m_Real_exponent 6 (.l2i) [] (.null) 7 := ⟨rfl, rfl⟩
theorem jf_58_7 : jG m_Real_exponent 7 (.istore_n 3) [] (.null) 8 := ⟨rfl, rfl⟩
theorem jf_58_8 : jG m_Real_exponent 8 (.iload_n 3) [] (.null) 9 := ⟨rfl, rfl⟩
theorem jf_58_9 : jG m_Real_exponent 9 (.ifCond .ne 7) [16] (.null) 12 := ⟨rfl, rfl⟩
theorem jf_58_12 : jG m_Real_exponent 12 (.iconst 1) [] (.null) 13 := ⟨rfl, rfl⟩
theorem jf_58_13 : jG m_Real_exponent 13 (.goto 4) [17] (.null) 16 := ⟨rfl, rfl⟩
theorem jf_58_16 : jG m_Real_exponent 16 (.iload_n 3) [] (.null) 17 := ⟨rfl, rfl⟩
theorem jf_58_17 : jG m_Real_exponent 17 (.aload_n 0) [] (.null) 18 := ⟨rfl, rfl⟩
theorem jf_58_18 : jG m_Real_exponent 18 (.getfield 20) [5, 3] (.null) 21 := ⟨rfl, rfl⟩
theorem jf_58_21 : jG m_Real_exponent 21 (.isub) [] (.null) 22 := ⟨rfl, rfl⟩
theorem jf_58_22 : jG m_Real_exponent 22 (.aload_n 0) [] (.null) 23 := ⟨rfl, rfl⟩
theorem jf_58_23 : jG m_Real_exponent 23 (.getfield 7) [5, 0] (.null) 26 := ⟨rfl, rfl⟩
theorem jf_58_26 : jG m_Real_exponent 26 (.isub) [] (.null) 27 := ⟨rfl, rfl⟩
theorem jf_58_27 : jG m_Real_exponent 27 (.ireturn) [] (.null) 28 := ⟨rfl, rfl⟩
theorem jf_59_0 : jG m_Real_highProduct 0 (.lload_n 0) [] (.null) 1 := ⟨rfl, rfl⟩
theorem jf_59_1 : jG m_Real_highProduct 1 (.bipush 27) [] (.null) 3 := ⟨rfl, rfl⟩
theorem jf_59_3 : jG m_Real_highProduct 3 (.lushr) [] (.null) 4 := ⟨rfl, rfl⟩
theorem jf_59_4 : jG m_Real_highProduct 4 (.lstore 4) [] (.null) 6 := ⟨rfl, rfl⟩
theorem jf_59_6 : jG m_Real_highProduct 6 (.lload_n 0) [] (.null) 7 := ⟨rfl, rfl⟩
theorem jf_59_7 : jG m_Real_highProduct 7 (.ldc2_w 70) [] (.long (134217727)) 10 := ⟨rfl, rfl⟩
theorem jf_59_10 : jG m_Real_highProduct 10 (.land) [] (.null) 11 := ⟨rfl, rfl⟩
theorem jf_59_11 : jG m_Real_highProduct 11 (.lstore 6) [] (.null) 13 := ⟨rfl, rfl⟩
theorem jf_59_13 : jG m_Real_highProduct 13 (.lload_n 2) [] (.null) 14 := ⟨rfl, rfl⟩
theorem jf_59_14 : jG m_Real_highProduct 14 (.bipush 27) [] (.null) 16 := ⟨rfl, rfl⟩
theorem jf_59_16 : jG m_Real_highProduct 16 (.lushr) [] (.null) 17 := ⟨rfl, rfl⟩
theorem jf_59_17 : jG m_Real_highProduct 17 (.lstore 8) [] (.null) 19 := ⟨rfl, rfl⟩
theorem jf_59_19 : jG m_Real_highProduct 19 (.lload_n 2) [] (.null) 20 := ⟨rfl, rfl⟩
theorem jf_59_20 : jG m_Real_highProduct 20 (.ldc2_w 70) [] (.long (134217727)) 23 := ⟨rfl, rfl⟩
theorem jf_59_23 : jG m_Real_highProduct 23 (.land) [] (.null) 24 := ⟨rfl, rfl⟩
theorem jf_59_24 : jG m_Real_highProduct 24 (.lstore 10) [] (.null) 26 := ⟨rfl, rfl⟩
theorem jf_59_26 : jG m_Real_highProduct 26 (.lload 6) [] (.null) 28 := ⟨rfl, rfl⟩
theorem jf_59_28 : jG m_Real_highProduct 28 (.lload 10) [] (.null) 30 := ⟨rfl, rfl⟩
theorem jf_59_30 : jG m_Real_highProduct 30 (.lmul) [] (.null) 31 := ⟨rfl, rfl⟩
theorem jf_59_31 : jG m_Real_highProduct 31 (.lstore 12) [] (.null) 33 := ⟨rfl, rfl⟩
theorem jf_59_33 : jG m_Real_highProduct 33 (.lload 4) [] (.null) 35 := ⟨rfl, rfl⟩
theorem jf_59_35 : jG m_Real_highProduct 35 (.lload 10) [] (.null) 37 := ⟨rfl, rfl⟩
theorem jf_59_37 : jG m_Real_highProduct 37 (.lmul) [] (.null) 38 := ⟨rfl, rfl⟩
theorem jf_59_38 : jG m_Real_highProduct 38 (.lload 6) [] (.null) 40 := ⟨rfl, rfl⟩
theorem jf_59_40 : jG m_Real_highProduct 40 (.lload 8) [] (.null) 42 := ⟨rfl, rfl⟩
theorem jf_59_42 : jG m_Real_highProduct 42 (.lmul) [] (.null) 43 := ⟨rfl, rfl⟩
theorem jf_59_43 : jG m_Real_highProduct 43 (.ladd) [] (.null) 44 := ⟨rfl, rfl⟩
theorem jf_59_44 : jG m_Real_highProduct 44 (.lload 12) [] (.null) 46 := ⟨rfl, rfl⟩
theorem jf_59_46 : jG m_Real_highProduct 46 (.bipush 27) [] (.null) 48 := ⟨rfl, rfl⟩
theorem jf_59_48 : jG m_Real_highProduct 48 (.lushr) [] (.null) 49 := ⟨rfl, rfl⟩
theorem jf_59_49 : jG m_Real_highProduct 49 (.ladd) [] (.null) 50 := ⟨rfl, rfl⟩
theorem jf_59_50 : jG m_Real_highProduct 50 (.lstore 14) [] (.null) 52 := ⟨rfl, rfl⟩
theorem jf_59_52 : jG m_Real_highProduct 52 (.lload 4) [] (.null) 54 := ⟨rfl, rfl⟩
theorem jf_59_54 : jG m_Real_highProduct 54 (.lload 8) [] (.null) 56 := ⟨rfl, rfl⟩
theorem jf_59_56 : jG m_Real_highProduct 56 (.lmul) [] (.null) 57 := ⟨rfl, rfl⟩
theorem jf_59_57 : jG m_Real_highProduct 57 (.lload 14) [] (.null) 59 := ⟨rfl, rfl⟩
theorem jf_59_59 : jG m_Real_highProduct 59 (.bipush 27) [] (.null) 61 := ⟨rfl, rfl⟩
theorem jf_59_61 : jG m_Real_highProduct 61 (.lushr) [] (.null) 62 := ⟨rfl, rfl⟩
theorem jf_59_62 : jG m_Real_highProduct 62 (.ladd) [] (.null) 63 := ⟨rfl, rfl⟩
theorem jf_59_63 : jG m_Real_highProduct 63 (.lstore 16) [] (.null) 65 := ⟨rfl, rfl⟩
theorem jf_59_65 : jG m_Real_highProduct 65 (.lload 14) [] (.null) 67 := ⟨rfl, rfl⟩
theorem jf_59_67 : jG m_Real_highProduct 67 (.ldc2_w 70) [] (.long (134217727)) 70 := ⟨rfl, rfl⟩
theorem jf_59_70 : jG m_Real_highProduct 70 (.land) [] (.null) 71 := ⟨rfl, rfl⟩
theorem jf_59_71 : jG m_Real_highProduct 71 (.bipush 27) [] (.null) 73 := ⟨rfl, rfl⟩
theorem jf_59_73 : jG m_Real_highProduct 73 (.lshl) [] (.null) 74 := ⟨rfl, rfl⟩
theorem jf_59_74 : jG m_Real_highProduct 74 (.lload 12) [] (.null) 76 := ⟨rfl, rfl⟩
theorem jf_59_76 : jG m_Real_highProduct 76 (.ldc2_w 70) [] (.long (134217727)) 79 := ⟨rfl, rfl⟩
theorem jf_59_79 : jG m_Real_highProduct 79 (.land) [] (.null) 80 := ⟨rfl, rfl⟩
theorem jf_59_80 : jG m_Real_highProduct 80 (.lor) [] (.null) 81 := ⟨rfl, rfl⟩
theorem jf_59_81 : jG m_Real_highProduct 81 (.lstore 18) [] (.null) 83 := ⟨rfl, rfl⟩
theorem jf_59_83 : jG m_Real_highProduct 83 (.lload 16) [] (.null) 85 := ⟨rfl, rfl⟩
theorem jf_59_85 : jG m_Real_highProduct 85 (.bipush 10) [] (.null) 87 := ⟨rfl, rfl⟩
theorem jf_59_87 : jG m_Real_highProduct 87 (.lshl) [] (.null) 88 := ⟨rfl, rfl⟩
theorem jf_59_88 : jG m_Real_highProduct 88 (.lload 18) [] (.null) 90 := ⟨rfl, rfl⟩
theorem jf_59_90 : jG m_Real_highProduct 90 (.bipush 44) [] (.null) 92 := ⟨rfl, rfl⟩
theorem jf_59_92 : jG m_Real_highProduct 92 (.lushr) [] (.null) 93 := ⟨rfl, rfl⟩
theorem jf_59_93 : jG m_Real_highProduct 93 (.lor) [] (.null) 94 := ⟨rfl, rfl⟩
theorem jf_59_94 : jG m_Real_highProduct 94 (.lstore 20) [] (.null) 96 := ⟨rfl, rfl⟩
theorem jf_59_96 : jG m_Real_highProduct 96 (.lload 18) [] (.null) 98 := ⟨rfl, rfl⟩
theorem jf_59_98 : jG m_Real_highProduct 98 (.ldc2_w 72) [] (.long (17592186044415)) 101 := ⟨rfl, rfl⟩
theorem jf_59_101 : jG m_Real_highProduct 101 (.land) [] (.null) 102 := ⟨rfl, rfl⟩
theorem jf_59_102 : jG m_Real_highProduct 102 (.lconst 0) [] (.null) 103 := ⟨rfl, rfl⟩
theorem jf_59_103 : jG m_Real_highProduct 103 (.lcmp) [] (.null) 104 := ⟨rfl, rfl⟩
theorem jf_59_104 : jG m_Real_highProduct 104 (.ifCond .ne 8) [112] (.null) 107 := ⟨rfl, rfl⟩
theorem jf_59_107 : jG m_Real_highProduct 107 (.lload 20) [] (.null) 109 := ⟨rfl, rfl⟩
theorem jf_59_109 : jG m_Real_highProduct 109 (.goto 7) [116] (.null) 112 := ⟨rfl, rfl⟩
theorem jf_59_112 : jG m_Real_highProduct 112 (.lload 20) [] (.null) 114 := ⟨rfl, rfl⟩
theorem jf_59_114 : jG m_Real_highProduct 114 (.lconst 1) [] (.null) 115 := ⟨rfl, rfl⟩
theorem jf_59_115 : jG m_Real_highProduct 115 (.lor) [] (.null) 116 := ⟨rfl, rfl⟩
theorem jf_59_116 : jG m_Real_highProduct 116 (.lreturn) [] (.null) 117 := ⟨rfl, rfl⟩
theorem jf_60_0 : jG m_Real_packed 0 (.lload_n 3) [] (.null) 1 := ⟨rfl, rfl⟩
theorem jf_60_1 : jG m_Real_packed 1 (.invokestatic 55) [3, m_Real_lead, 1] (.null) 4 := ⟨rfl, rfl⟩
theorem jf_60_4 : jG m_Real_packed 4 (.istore 5) [] (.null) 6 := ⟨rfl, rfl⟩
theorem jf_60_6 : jG m_Real_packed 6 (.iload_n 2) [] (.null) 7 := ⟨rfl, rfl⟩
theorem jf_60_7 : jG m_Real_packed 7 (.iload 5) [] (.null) 9 := ⟨rfl, rfl⟩
theorem jf_60_9 : jG m_Real_packed 9 (.isub) [] (.null) 10 := ⟨rfl, rfl⟩
theorem jf_60_10 : jG m_Real_packed 10 (.bipush 62) [] (.null) 12 := ⟨rfl, rfl⟩
theorem jf_60_12 : jG m_Real_packed 12 (.iadd) [] (.null) 13 := ⟨rfl, rfl⟩
theorem jf_60_13 : jG m_Real_packed 13 (.aload_n 0) [] (.null) 14 := ⟨rfl, rfl⟩
theorem jf_60_14 : jG m_Real_packed 14 (.getfield 20) [5, 3] (.null) 17 := ⟨rfl, rfl⟩
theorem jf_60_17 : jG m_Real_packed 17 (.iadd) [] (.null) 18 := ⟨rfl, rfl⟩
theorem jf_60_18 : jG m_Real_packed 18 (.istore 6) [] (.null) 20 := ⟨rfl, rfl⟩
theorem jf_60_20 : jG m_Real_packed 20 (.iload 6) [] (.null) 22 := ⟨rfl, rfl⟩
theorem jf_60_22 : jG m_Real_packed 22 (.aload_n 0) [] (.null) 23 := ⟨rfl, rfl⟩
theorem jf_60_23 : jG m_Real_packed 23 (.getfield 17) [5, 2] (.null) 26 := ⟨rfl, rfl⟩
theorem jf_60_26 : jG m_Real_packed 26 (.if_icmp .lt 13) [39] (.null) 29 := ⟨rfl, rfl⟩
theorem jf_60_29 : jG m_Real_packed 29 (.aload_n 0) [] (.null) 30 := ⟨rfl, rfl⟩
theorem jf_60_30 : jG m_Real_packed 30 (.iload_n 1) [] (.null) 31 := ⟨rfl, rfl⟩
theorem jf_60_31 : jG m_Real_packed 31 (.aload_n 0) [] (.null) 32 := ⟨rfl, rfl⟩
theorem jf_60_32 : jG m_Real_packed 32 (.getfield 28) [5, 5] (.null) 35 := ⟨rfl, rfl⟩
theorem jf_60_35 : jG m_Real_packed 35 (.invokevirtual 48) [6, 2, 5, m_Real_signed] (.null) 38 := ⟨rfl, rfl⟩
theorem jf_60_38 : jG m_Real_packed 38 (.lreturn) [] (.null) 39 := ⟨rfl, rfl⟩
theorem jf_60_39 : jG m_Real_packed 39 (.bipush 62) [] (.null) 41 := ⟨rfl, rfl⟩
theorem jf_60_41 : jG m_Real_packed 41 (.aload_n 0) [] (.null) 42 := ⟨rfl, rfl⟩
theorem jf_60_42 : jG m_Real_packed 42 (.getfield 7) [5, 0] (.null) 45 := ⟨rfl, rfl⟩
theorem jf_60_45 : jG m_Real_packed 45 (.isub) [] (.null) 46 := ⟨rfl, rfl⟩
theorem jf_60_46 : jG m_Real_packed 46 (.istore 7) [] (.null) 48 := ⟨rfl, rfl⟩
theorem jf_60_48 : jG m_Real_packed 48 (.iload 6) [] (.null) 50 := ⟨rfl, rfl⟩
theorem jf_60_50 : jG m_Real_packed 50 (.iconst 1) [] (.null) 51 := ⟨rfl, rfl⟩
theorem jf_60_51 : jG m_Real_packed 51 (.if_icmp .ge 15) [66] (.null) 54 := ⟨rfl, rfl⟩
theorem jf_60_54 : jG m_Real_packed 54 (.iload 7) [] (.null) 56 := ⟨rfl, rfl⟩
theorem jf_60_56 : jG m_Real_packed 56 (.iconst 1) [] (.null) 57 := ⟨rfl, rfl⟩
theorem jf_60_57 : jG m_Real_packed 57 (.iload 6) [] (.null) 59 := ⟨rfl, rfl⟩
theorem jf_60_59 : jG m_Real_packed 59 (.isub) [] (.null) 60 := ⟨rfl, rfl⟩
theorem jf_60_60 : jG m_Real_packed 60 (.iadd) [] (.null) 61 := ⟨rfl, rfl⟩
theorem jf_60_61 : jG m_Real_packed 61 (.istore 7) [] (.null) 63 := ⟨rfl, rfl⟩
theorem jf_60_63 : jG m_Real_packed 63 (.iconst 1) [] (.null) 64 := ⟨rfl, rfl⟩
theorem jf_60_64 : jG m_Real_packed 64 (.istore 6) [] (.null) 66 := ⟨rfl, rfl⟩
theorem jf_60_66 : jG m_Real_packed 66 (.iload 6) [] (.null) 68 := ⟨rfl, rfl⟩
theorem jf_60_68 : jG m_Real_packed 68 (.iconst 1) [] (.null) 69 := ⟨rfl, rfl⟩
theorem jf_60_69 : jG m_Real_packed 69 (.isub) [] (.null) 70 := ⟨rfl, rfl⟩
theorem jf_60_70 : jG m_Real_packed 70 (.i2l) [] (.null) 71 := ⟨rfl, rfl⟩
theorem jf_60_71 : jG m_Real_packed 71 (.aload_n 0) [] (.null) 72 := ⟨rfl, rfl⟩
theorem jf_60_72 : jG m_Real_packed 72 (.getfield 7) [5, 0] (.null) 75 := ⟨rfl, rfl⟩
theorem jf_60_75 : jG m_Real_packed 75 (.lshl) [] (.null) 76 := ⟨rfl, rfl⟩
theorem jf_60_76 : jG m_Real_packed 76 (.lload_n 3) [] (.null) 77 := ⟨rfl, rfl⟩
theorem jf_60_77 : jG m_Real_packed 77 (.iload 5) [] (.null) 79 := ⟨rfl, rfl⟩
theorem jf_60_79 : jG m_Real_packed 79 (.lshl) [] (.null) 80 := ⟨rfl, rfl⟩
theorem jf_60_80 : jG m_Real_packed 80 (.iload 7) [] (.null) 82 := ⟨rfl, rfl⟩
theorem jf_60_82 : jG m_Real_packed 82 (.invokestatic 88) [5, m_Numbers_halfEven, 2] (.null) 85 := ⟨rfl, rfl⟩
theorem jf_60_85 : jG m_Real_packed 85 (.ladd) [] (.null) 86 := ⟨rfl, rfl⟩
theorem jf_60_86 : jG m_Real_packed 86 (.lstore 8) [] (.null) 88 := ⟨rfl, rfl⟩
theorem jf_60_88 : jG m_Real_packed 88 (.aload_n 0) [] (.null) 89 := ⟨rfl, rfl⟩
theorem jf_60_89 : jG m_Real_packed 89 (.iload_n 1) [] (.null) 90 := ⟨rfl, rfl⟩
theorem jf_60_90 : jG m_Real_packed 90 (.lload 8) [] (.null) 92 := ⟨rfl, rfl⟩
theorem jf_60_92 : jG m_Real_packed 92 (.invokevirtual 48) [6, 2, 5, m_Real_signed] (.null) 95 := ⟨rfl, rfl⟩
theorem jf_60_95 : jG m_Real_packed 95 (.lreturn) [] (.null) 96 := ⟨rfl, rfl⟩
theorem jf_61_0 : jG m_Numbers_halfEven 0 (.iload_n 2) [] (.null) 1 := ⟨rfl, rfl⟩
theorem jf_61_1 : jG m_Numbers_halfEven 1 (.ifCond .gt 5) [6] (.null) 4 := ⟨rfl, rfl⟩
theorem jf_61_4 : jG m_Numbers_halfEven 4 (.lload_n 0) [] (.null) 5 := ⟨rfl, rfl⟩
theorem jf_61_5 : jG m_Numbers_halfEven 5 (.lreturn) [] (.null) 6 := ⟨rfl, rfl⟩
theorem jf_61_6 : jG m_Numbers_halfEven 6 (.iload_n 2) [] (.null) 7 := ⟨rfl, rfl⟩
theorem jf_61_7 : jG m_Numbers_halfEven 7 (.bipush 63) [] (.null) 9 := ⟨rfl, rfl⟩
theorem jf_61_9 : jG m_Numbers_halfEven 9 (.if_icmp .le 5) [14] (.null) 12 := ⟨rfl, rfl⟩
theorem jf_61_12 : jG m_Numbers_halfEven 12 (.lconst 0) [] (.null) 13 := ⟨rfl, rfl⟩
theorem jf_61_13 : jG m_Numbers_halfEven 13 (.lreturn) [] (.null) 14 := ⟨rfl, rfl⟩
theorem jf_61_14 : jG m_Numbers_halfEven 14 (.lload_n 0) [] (.null) 15 := ⟨rfl, rfl⟩
theorem jf_61_15 : jG m_Numbers_halfEven 15 (.iload_n 2) [] (.null) 16 := ⟨rfl, rfl⟩
theorem jf_61_16 : jG m_Numbers_halfEven 16 (.lushr) [] (.null) 17 := ⟨rfl, rfl⟩
theorem jf_61_17 : jG m_Numbers_halfEven 17 (.lstore_n 3) [] (.null) 18 := ⟨rfl, rfl⟩
theorem jf_61_18 : jG m_Numbers_halfEven 18 (.lload_n 0) [] (.null) 19 := ⟨rfl, rfl⟩
theorem jf_61_19 : jG m_Numbers_halfEven 19 (.lconst 1) [] (.null) 20 := ⟨rfl, rfl⟩
theorem jf_61_20 : jG m_Numbers_halfEven 20 (.iload_n 2) [] (.null) 21 := ⟨rfl, rfl⟩
theorem jf_61_21 : jG m_Numbers_halfEven 21 (.lshl) [] (.null) 22 := ⟨rfl, rfl⟩
theorem jf_61_22 : jG m_Numbers_halfEven 22 (.lconst 1) [] (.null) 23 := ⟨rfl, rfl⟩
theorem jf_61_23 : jG m_Numbers_halfEven 23 (.lsub) [] (.null) 24 := ⟨rfl, rfl⟩
theorem jf_61_24 : jG m_Numbers_halfEven 24 (.land) [] (.null) 25 := ⟨rfl, rfl⟩
theorem jf_61_25 : jG m_Numbers_halfEven 25 (.lstore 5) [] (.null) 27 := ⟨rfl, rfl⟩
theorem jf_61_27 : jG m_Numbers_halfEven 27 (.lconst 1) [] (.null) 28 := ⟨rfl, rfl⟩
theorem jf_61_28 : jG m_Numbers_halfEven 28 (.iload_n 2) [] (.null) 29 := ⟨rfl, rfl⟩
theorem jf_61_29 : jG m_Numbers_halfEven 29 (.iconst 1) [] (.null) 30 := ⟨rfl, rfl⟩
theorem jf_61_30 : jG m_Numbers_halfEven 30 (.isub) [] (.null) 31 := ⟨rfl, rfl⟩
theorem jf_61_31 : jG m_Numbers_halfEven 31 (.lshl) [] (.null) 32 := ⟨rfl, rfl⟩
theorem jf_61_32 : jG m_Numbers_halfEven 32 (.lstore 7) [] (.null) 34 := ⟨rfl, rfl⟩
theorem jf_61_34 : jG m_Numbers_halfEven 34 (.lload 5) [] (.null) 36 := ⟨rfl, rfl⟩
theorem jf_61_36 : jG m_Numbers_halfEven 36 (.lload 7) [] (.null) 38 := ⟨rfl, rfl⟩
theorem jf_61_38 : jG m_Numbers_halfEven 38 (.lcmp) [] (.null) 39 := ⟨rfl, rfl⟩
theorem jf_61_39 : jG m_Numbers_halfEven 39 (.ifCond .gt 19) [58] (.null) 42 := ⟨rfl, rfl⟩
theorem jf_61_42 : jG m_Numbers_halfEven 42 (.lload 5) [] (.null) 44 := ⟨rfl, rfl⟩
theorem jf_61_44 : jG m_Numbers_halfEven 44 (.lload 7) [] (.null) 46 := ⟨rfl, rfl⟩
theorem jf_61_46 : jG m_Numbers_halfEven 46 (.lcmp) [] (.null) 47 := ⟨rfl, rfl⟩
theorem jf_61_47 : jG m_Numbers_halfEven 47 (.ifCond .ne 17) [64] (.null) 50 := ⟨rfl, rfl⟩
theorem jf_61_50 : jG m_Numbers_halfEven 50 (.lload_n 3) [] (.null) 51 := ⟨rfl, rfl⟩
theorem jf_61_51 : jG m_Numbers_halfEven 51 (.lconst 1) [] (.null) 52 := ⟨rfl, rfl⟩
theorem jf_61_52 : jG m_Numbers_halfEven 52 (.land) [] (.null) 53 := ⟨rfl, rfl⟩
theorem jf_61_53 : jG m_Numbers_halfEven 53 (.lconst 1) [] (.null) 54 := ⟨rfl, rfl⟩
theorem jf_61_54 : jG m_Numbers_halfEven 54 (.lcmp) [] (.null) 55 := ⟨rfl, rfl⟩
theorem jf_61_55 : jG m_Numbers_halfEven 55 (.ifCond .ne 9) [64] (.null) 58 := ⟨rfl, rfl⟩
theorem jf_61_58 : jG m_Numbers_halfEven 58 (.lload_n 3) [] (.null) 59 := ⟨rfl, rfl⟩
theorem jf_61_59 : jG m_Numbers_halfEven 59 (.lconst 1) [] (.null) 60 := ⟨rfl, rfl⟩
theorem jf_61_60 : jG m_Numbers_halfEven 60 (.ladd) [] (.null) 61 := ⟨rfl, rfl⟩
theorem jf_61_61 : jG m_Numbers_halfEven 61 (.goto 4) [65] (.null) 64 := ⟨rfl, rfl⟩
theorem jf_61_64 : jG m_Numbers_halfEven 64 (.lload_n 3) [] (.null) 65 := ⟨rfl, rfl⟩
theorem jf_61_65 : jG m_Numbers_halfEven 65 (.lreturn) [] (.null) 66 := ⟨rfl, rfl⟩
theorem jf_62_0 : jG m_Shorts_product 0 (.lload_n 1) [] (.null) 1 := ⟨rfl, rfl⟩
theorem jf_62_1 : jG m_Shorts_product 1 (.lload_n 3) [] (.null) 2 := ⟨rfl, rfl⟩
theorem jf_62_2 : jG m_Shorts_product 2 (.lmul) [] (.null) 3 := ⟨rfl, rfl⟩
theorem jf_62_3 : jG m_Shorts_product 3 (.lreturn) [] (.null) 4 := ⟨rfl, rfl⟩
theorem jf_63_0 : jG m_Real_term 0 (.lload_n 1) [] (.null) 1 := ⟨rfl, rfl⟩
theorem jf_63_1 : jG m_Real_term 1 (.lreturn) [] (.null) 2 := ⟨rfl, rfl⟩
theorem jf_64_0 : jG m_Shorts_term 0 (.lload_n 1) [] (.null) 1 := ⟨rfl, rfl⟩
theorem jf_64_1 : jG m_Shorts_term 1 (.ldc2_w 9) [] (.long (16384)) 4 := ⟨rfl, rfl⟩
theorem jf_64_4 : jG m_Shorts_term 4 (.lmul) [] (.null) 5 := ⟨rfl, rfl⟩
theorem jf_64_5 : jG m_Shorts_term 5 (.lreturn) [] (.null) 6 := ⟨rfl, rfl⟩
set_option maxRecDepth 100000 in
theorem jf_65_0 : jG m_Real_plus 0 (.aload_n 0) [] (.null) 1 := ⟨rfl, rfl⟩
set_option maxRecDepth 100000 in
theorem jf_65_1 : jG m_Real_plus 1 (.lload_n 1) [] (.null) 2 := ⟨rfl, rfl⟩
set_option maxRecDepth 100000 in
theorem jf_65_2 : jG m_Real_plus 2 (.invokevirtual 38) [6, 1, 5, m_Real_sizeOf] (.null) 5 := ⟨rfl, rfl⟩
set_option maxRecDepth 100000 in
theorem jf_65_5 : jG m_Real_plus 5 (.lstore 5) [] (.null) 7 := ⟨rfl, rfl⟩
set_option maxRecDepth 100000 in
theorem jf_65_7 : jG m_Real_plus 7 (.aload_n 0) [] (.null) 8 := ⟨rfl, rfl⟩
set_option maxRecDepth 100000 in
theorem jf_65_8 : jG m_Real_plus 8 (.lload_n 3) [] (.null) 9 := ⟨rfl, rfl⟩
set_option maxRecDepth 100000 in
theorem jf_65_9 : jG m_Real_plus 9 (.invokevirtual 38) [6, 1, 5, m_Real_sizeOf] (.null) 12 := ⟨rfl, rfl⟩
set_option maxRecDepth 100000 in
theorem jf_65_12 : jG m_Real_plus 12 (.lstore 7) [] (.null) 14 := ⟨rfl, rfl⟩
set_option maxRecDepth 100000 in
theorem jf_65_14 : jG m_Real_plus 14 (.lload 5) [] (.null) 16 := ⟨rfl, rfl⟩
set_option maxRecDepth 100000 in
theorem jf_65_16 : jG m_Real_plus 16 (.aload_n 0) [] (.null) 17 := ⟨rfl, rfl⟩
set_option maxRecDepth 100000 in
theorem jf_65_17 : jG m_Real_plus 17 (.getfield 28) [5, 5] (.null) 20 := ⟨rfl, rfl⟩
set_option maxRecDepth 100000 in
theorem jf_65_20 : jG m_Real_plus 20 (.lcmp) [] (.null) 21 := ⟨rfl, rfl⟩
set_option maxRecDepth 100000 in
theorem jf_65_21 : jG m_Real_plus 21 (.ifCond .ge 13) [34] (.null) 24 := ⟨rfl, rfl⟩
set_option maxRecDepth 100000 in
theorem jf_65_24 : jG m_Real_plus 24 (.lload 7) [] (.null) 26 := ⟨rfl, rfl⟩
set_option maxRecDepth 100000 in
theorem jf_65_26 : jG m_Real_plus 26 (.aload_n 0) [] (.null) 27 := ⟨rfl, rfl⟩
set_option maxRecDepth 100000 in
theorem jf_65_27 : jG m_Real_plus 27 (.getfield 28) [5, 5] (.null) 30 := ⟨rfl, rfl⟩
set_option maxRecDepth 100000 in
theorem jf_65_30 : jG m_Real_plus 30 (.lcmp) [] (.null) 31 := ⟨rfl, rfl⟩
set_option maxRecDepth 100000 in
theorem jf_65_31 : jG m_Real_plus 31 (.ifCond .lt 10) [41] (.null) 34 := ⟨rfl, rfl⟩
set_option maxRecDepth 100000 in
theorem jf_65_34 : jG m_Real_plus 34 (.aload_n 0) [] (.null) 35 := ⟨rfl, rfl⟩
set_option maxRecDepth 100000 in
theorem jf_65_35 : jG m_Real_plus 35 (.lload_n 1) [] (.null) 36 := ⟨rfl, rfl⟩
set_option maxRecDepth 100000 in
theorem jf_65_36 : jG m_Real_plus 36 (.lload_n 3) [] (.null) 37 := ⟨rfl, rfl⟩
set_option maxRecDepth 100000 in
theorem jf_65_37 : jG m_Real_plus 37 (.invokevirtual 74) [6, 2, 5, m_Real_withInfinity] (.null) 40 := ⟨rfl, rfl⟩
set_option maxRecDepth 100000 in
theorem jf_65_40 : jG m_Real_plus 40 (.lreturn) [] (.null) 41 := ⟨rfl, rfl⟩
set_option maxRecDepth 100000 in
theorem jf_65_41 : jG m_Real_plus 41 (.lload 5) [] (.null) 43 := ⟨rfl, rfl⟩
set_option maxRecDepth 100000 in
theorem jf_65_43 : jG m_Real_plus 43 (.lconst 0) [] (.null) 44 := ⟨rfl, rfl⟩
set_option maxRecDepth 100000 in
theorem jf_65_44 : jG m_Real_plus 44 (.lcmp) [] (.null) 45 := ⟨rfl, rfl⟩
set_option maxRecDepth 100000 in
theorem jf_65_45 : jG m_Real_plus 45 (.ifCond .eq 10) [55] (.null) 48 := ⟨rfl, rfl⟩
set_option maxRecDepth 100000 in
theorem jf_65_48 : jG m_Real_plus 48 (.lload 7) [] (.null) 50 := ⟨rfl, rfl⟩
set_option maxRecDepth 100000 in
theorem jf_65_50 : jG m_Real_plus 50 (.lconst 0) [] (.null) 51 := ⟨rfl, rfl⟩
set_option maxRecDepth 100000 in
theorem jf_65_51 : jG m_Real_plus 51 (.lcmp) [] (.null) 52 := ⟨rfl, rfl⟩
set_option maxRecDepth 100000 in
theorem jf_65_52 : jG m_Real_plus 52 (.ifCond .ne 29) [81] (.null) 55 := ⟨rfl, rfl⟩
set_option maxRecDepth 100000 in
theorem jf_65_55 : jG m_Real_plus 55 (.lload 5) [] (.null) 57 := ⟨rfl, rfl⟩
set_option maxRecDepth 100000 in
theorem jf_65_57 : jG m_Real_plus 57 (.lconst 0) [] (.null) 58 := ⟨rfl, rfl⟩
set_option maxRecDepth 100000 in
theorem jf_65_58 : jG m_Real_plus 58 (.lcmp) [] (.null) 59 := ⟨rfl, rfl⟩
set_option maxRecDepth 100000 in
theorem jf_65_59 : jG m_Real_plus 59 (.ifCond .eq 7) [66] (.null) 62 := ⟨rfl, rfl⟩
set_option maxRecDepth 100000 in
theorem jf_65_62 : jG m_Real_plus 62 (.lload_n 1) [] (.null) 63 := ⟨rfl, rfl⟩
set_option maxRecDepth 100000 in
theorem jf_65_63 : jG m_Real_plus 63 (.goto 17) [80] (.null) 66 := ⟨rfl, rfl⟩
set_option maxRecDepth 100000 in
theorem jf_65_66 : jG m_Real_plus 66 (.lload 7) [] (.null) 68 := ⟨rfl, rfl⟩
set_option maxRecDepth 100000 in
theorem jf_65_68 : jG m_Real_plus 68 (.lconst 0) [] (.null) 69 := ⟨rfl, rfl⟩
set_option maxRecDepth 100000 in
theorem jf_65_69 : jG m_Real_plus 69 (.lcmp) [] (.null) 70 := ⟨rfl, rfl⟩
set_option maxRecDepth 100000 in
theorem jf_65_70 : jG m_Real_plus 70 (.ifCond .eq 7) [77] (.null) 73 := ⟨rfl, rfl⟩
set_option maxRecDepth 100000 in
theorem jf_65_73 : jG m_Real_plus 73 (.lload_n 3) [] (.null) 74 := ⟨rfl, rfl⟩
set_option maxRecDepth 100000 in
theorem jf_65_74 : jG m_Real_plus 74 (.goto 6) [80] (.null) 77 := ⟨rfl, rfl⟩
set_option maxRecDepth 100000 in
theorem jf_65_77 : jG m_Real_plus 77 (.lload_n 1) [] (.null) 78 := ⟨rfl, rfl⟩
set_option maxRecDepth 100000 in
theorem jf_65_78 : jG m_Real_plus 78 (.lload_n 3) [] (.null) 79 := ⟨rfl, rfl⟩
set_option maxRecDepth 100000 in
theorem jf_65_79 : jG m_Real_plus 79 (.land) [] (.null) 80 := ⟨rfl, rfl⟩
set_option maxRecDepth 100000 in
theorem jf_65_80 : jG m_Real_plus 80 (.lreturn) [] (.null) 81 := ⟨rfl, rfl⟩
set_option maxRecDepth 100000 in
theorem jf_65_81 : jG m_Real_plus 81 (.lload 5) [] (.null) 83 := ⟨rfl, rfl⟩
set_option maxRecDepth 100000 in
theorem jf_65_83 : jG m_Real_plus 83 (.lload 7) [] (.null) 85 := ⟨rfl, rfl⟩
set_option maxRecDepth 100000 in
theorem jf_65_85 : jG m_Real_plus 85 (.lcmp) [] (.null) 86 := ⟨rfl, rfl⟩
set_option maxRecDepth 100000 in
theorem jf_65_86 : jG m_Real_plus 86 (.ifCond .lt 55) [141] (.null) 89 := ⟨rfl, rfl⟩
set_option maxRecDepth 100000 in
theorem jf_65_89 : jG m_Real_plus 89 (.aload_n 0) [] (.null) 90 := ⟨rfl, rfl⟩
set_option maxRecDepth 100000 in
theorem jf_65_90 : jG m_Real_plus 90 (.lload_n 1) [] (.null) 91 := ⟨rfl, rfl⟩
set_option maxRecDepth 100000 in
theorem jf_65_91 : jG m_Real_plus 91 (.lconst 0) [] (.null) 92 := ⟨rfl, rfl⟩
set_option maxRecDepth 100000 in
theorem jf_65_92 : jG m_Real_plus 92 (.lcmp) [] (.null) 93 := ⟨rfl, rfl⟩
set_option maxRecDepth 100000 in
theorem jf_65_93 : jG m_Real_plus 93 (.ifCond .ge 7) [100] (.null) 96 := ⟨rfl, rfl⟩
set_option maxRecDepth 100000 in
theorem jf_65_96 : jG m_Real_plus 96 (.iconst 1) [] (.null) 97 := ⟨rfl, rfl⟩
set_option maxRecDepth 100000 in
theorem jf_65_97 : jG m_Real_plus 97 (.goto 4) [101] (.null) 100 := ⟨rfl, rfl⟩
set_option maxRecDepth 100000 in
theorem jf_65_100 : jG m_Real_plus 100 (.iconst 0) [] (.null) 101 := ⟨rfl, rfl⟩
set_option maxRecDepth 100000 in
theorem jf_65_101 : jG m_Real_plus 101 (.lload 5) [] (.null) 103 := ⟨rfl, rfl⟩
set_option maxRecDepth 100000 in
theorem jf_65_103 : jG m_Real_plus 103 (.lload_n 1) [] (.null) 104 := ⟨rfl, rfl⟩
set_option maxRecDepth 100000 in
theorem jf_65_104 : jG m_Real_plus 104 (.lconst 0) [] (.null) 105 := ⟨rfl, rfl⟩
set_option maxRecDepth 100000 in
theorem jf_65_105 : jG m_Real_plus 105 (.lcmp) [] (.null) 106 := ⟨rfl, rfl⟩
set_option maxRecDepth 100000 in
theorem jf_65_106 : jG m_Real_plus 106 (.ifCond .ge 7) [113] (.null) 109 := ⟨rfl, rfl⟩
set_option maxRecDepth 100000 in
theorem jf_65_109 : jG m_Real_plus 109 (.iconst 1) [] (.null) 110 := ⟨rfl, rfl⟩
set_option maxRecDepth 100000 in
theorem jf_65_110 : jG m_Real_plus 110 (.goto 4) [114] (.null) 113 := ⟨rfl, rfl⟩
set_option maxRecDepth 100000 in
theorem jf_65_113 : jG m_Real_plus 113 (.iconst 0) [] (.null) 114 := ⟨rfl, rfl⟩
set_option maxRecDepth 100000 in
theorem jf_65_114 : jG m_Real_plus 114 (.lload_n 3) [] (.null) 115 := ⟨rfl, rfl⟩
set_option maxRecDepth 100000 in
theorem jf_65_115 : jG m_Real_plus 115 (.lconst 0) [] (.null) 116 := ⟨rfl, rfl⟩
set_option maxRecDepth 100000 in
theorem jf_65_116 : jG m_Real_plus 116 (.lcmp) [] (.null) 117 := ⟨rfl, rfl⟩
set_option maxRecDepth 100000 in
theorem jf_65_117 : jG m_Real_plus 117 (.ifCond .ge 7) [124] (.null) 120 := ⟨rfl, rfl⟩
set_option maxRecDepth 100000 in
theorem jf_65_120 : jG m_Real_plus 120 (.iconst 1) [] (.null) 121 := ⟨rfl, rfl⟩
set_option maxRecDepth 100000 in
theorem jf_65_121 : jG m_Real_plus 121 (.goto 4) [125] (.null) 124 := ⟨rfl, rfl⟩
set_option maxRecDepth 100000 in
theorem jf_65_124 : jG m_Real_plus 124 (.iconst 0) [] (.null) 125 := ⟨rfl, rfl⟩
set_option maxRecDepth 100000 in
theorem jf_65_125 : jG m_Real_plus 125 (.if_icmp .ne 7) [132] (.null) 128 := ⟨rfl, rfl⟩
set_option maxRecDepth 100000 in
theorem jf_65_128 : jG m_Real_plus 128 (.iconst 1) [] (.null) 129 := ⟨rfl, rfl⟩
set_option maxRecDepth 100000 in
theorem jf_65_129 : jG m_Real_plus 129 (.goto 4) [133] (.null) 132 := ⟨rfl, rfl⟩
set_option maxRecDepth 100000 in
theorem jf_65_132 : jG m_Real_plus 132 (.iconst 0) [] (.null) 133 := ⟨rfl, rfl⟩
set_option maxRecDepth 100000 in
theorem jf_65_133 : jG m_Real_plus 133 (.lload 7) [] (.null) 135 := ⟨rfl, rfl⟩
set_option maxRecDepth 100000 in
theorem jf_65_135 : jG m_Real_plus 135 (.invokevirtual 77) [6, 4, 5, m_Real_added] (.null) 138 := ⟨rfl, rfl⟩
set_option maxRecDepth 100000 in
theorem jf_65_138 : jG m_Real_plus 138 (.goto 52) [190] (.null) 141 := ⟨rfl, rfl⟩
set_option maxRecDepth 100000 in
theorem jf_65_141 : jG m_Real_plus 141 (.aload_n 0) [] (.null) 142 := ⟨rfl, rfl⟩
set_option maxRecDepth 100000 in
theorem jf_65_142 : jG m_Real_plus 142 (.lload_n 3) [] (.null) 143 := ⟨rfl, rfl⟩
set_option maxRecDepth 100000 in
theorem jf_65_143 : jG m_Real_plus 143 (.lconst 0) [] (.null) 144 := ⟨rfl, rfl⟩
set_option maxRecDepth 100000 in
theorem jf_65_144 : jG m_Real_plus 144 (.lcmp) [] (.null) 145 := ⟨rfl, rfl⟩
set_option maxRecDepth 100000 in
theorem jf_65_145 : jG m_Real_plus 145 (.ifCond .ge 7) [152] (.null) 148 := ⟨rfl, rfl⟩
set_option maxRecDepth 100000 in
theorem jf_65_148 : jG m_Real_plus 148 (.iconst 1) [] (.null) 149 := ⟨rfl, rfl⟩
set_option maxRecDepth 100000 in
theorem jf_65_149 : jG m_Real_plus 149 (.goto 4) [153] (.null) 152 := ⟨rfl, rfl⟩
set_option maxRecDepth 100000 in
theorem jf_65_152 : jG m_Real_plus 152 (.iconst 0) [] (.null) 153 := ⟨rfl, rfl⟩
set_option maxRecDepth 100000 in
theorem jf_65_153 : jG m_Real_plus 153 (.lload 7) [] (.null) 155 := ⟨rfl, rfl⟩
set_option maxRecDepth 100000 in
theorem jf_65_155 : jG m_Real_plus 155 (.lload_n 1) [] (.null) 156 := ⟨rfl, rfl⟩
set_option maxRecDepth 100000 in
theorem jf_65_156 : jG m_Real_plus 156 (.lconst 0) [] (.null) 157 := ⟨rfl, rfl⟩
set_option maxRecDepth 100000 in
theorem jf_65_157 : jG m_Real_plus 157 (.lcmp) [] (.null) 158 := ⟨rfl, rfl⟩
set_option maxRecDepth 100000 in
theorem jf_65_158 : jG m_Real_plus 158 (.ifCond .ge 7) [165] (.null) 161 := ⟨rfl, rfl⟩
set_option maxRecDepth 100000 in
theorem jf_65_161 : jG m_Real_plus 161 (.iconst 1) [] (.null) 162 := ⟨rfl, rfl⟩
set_option maxRecDepth 100000 in
theorem jf_65_162 : jG m_Real_plus 162 (.goto 4) [166] (.null) 165 := ⟨rfl, rfl⟩
set_option maxRecDepth 100000 in
theorem jf_65_165 : jG m_Real_plus 165 (.iconst 0) [] (.null) 166 := ⟨rfl, rfl⟩
set_option maxRecDepth 100000 in
theorem jf_65_166 : jG m_Real_plus 166 (.lload_n 3) [] (.null) 167 := ⟨rfl, rfl⟩
set_option maxRecDepth 100000 in
theorem jf_65_167 : jG m_Real_plus 167 (.lconst 0) [] (.null) 168 := ⟨rfl, rfl⟩
set_option maxRecDepth 100000 in
theorem jf_65_168 : jG m_Real_plus 168 (.lcmp) [] (.null) 169 := ⟨rfl, rfl⟩
set_option maxRecDepth 100000 in
theorem jf_65_169 : jG m_Real_plus 169 (.ifCond .ge 7) [176] (.null) 172 := ⟨rfl, rfl⟩
set_option maxRecDepth 100000 in
theorem jf_65_172 : jG m_Real_plus 172 (.iconst 1) [] (.null) 173 := ⟨rfl, rfl⟩
set_option maxRecDepth 100000 in
theorem jf_65_173 : jG m_Real_plus 173 (.goto 4) [177] (.null) 176 := ⟨rfl, rfl⟩
set_option maxRecDepth 100000 in
theorem jf_65_176 : jG m_Real_plus 176 (.iconst 0) [] (.null) 177 := ⟨rfl, rfl⟩
set_option maxRecDepth 100000 in
theorem jf_65_177 : jG m_Real_plus 177 (.if_icmp .ne 7) [184] (.null) 180 := ⟨rfl, rfl⟩
set_option maxRecDepth 100000 in
theorem jf_65_180 : jG m_Real_plus 180 (.iconst 1) [] (.null) 181 := ⟨rfl, rfl⟩
set_option maxRecDepth 100000 in
theorem jf_65_181 : jG m_Real_plus 181 (.goto 4) [185] (.null) 184 := ⟨rfl, rfl⟩
set_option maxRecDepth 100000 in
theorem jf_65_184 : jG m_Real_plus 184 (.iconst 0) [] (.null) 185 := ⟨rfl, rfl⟩
set_option maxRecDepth 100000 in
theorem jf_65_185 : jG m_Real_plus 185 (.lload 5) [] (.null) 187 := ⟨rfl, rfl⟩
set_option maxRecDepth 100000 in
theorem jf_65_187 : jG m_Real_plus 187 (.invokevirtual 77) [6, 4, 5, m_Real_added] (.null) 190 := ⟨rfl, rfl⟩
set_option maxRecDepth 100000 in
theorem jf_65_190 : jG m_Real_plus 190 (.lreturn) [] (.null) 191 := ⟨rfl, rfl⟩
theorem jf_66_0 : jG m_Real_withInfinity 0 (.aload_n 0) [] (.null) 1 := ⟨rfl, rfl⟩
theorem jf_66_1 : jG m_Real_withInfinity 1 (.lload_n 1) [] (.null) 2 := ⟨rfl, rfl⟩
theorem jf_66_2 : jG m_Real_withInfinity 2 (.invokevirtual 34) [6, 1, 5, m_Real_isNumber] (.null) 5 := ⟨rfl, rfl⟩
theorem jf_66_5 : jG m_Real_withInfinity 5 (.ifCond .eq 11) [16] (.null) 8 := ⟨rfl, rfl⟩
theorem jf_66_8 : jG m_Real_withInfinity 8 (.aload_n 0) [] (.null) 9 := ⟨rfl, rfl⟩
theorem jf_66_9 : jG m_Real_withInfinity 9 (.lload_n 3) [] (.null) 10 := ⟨rfl, rfl⟩
theorem jf_66_10 : jG m_Real_withInfinity 10 (.invokevirtual 34) [6, 1, 5, m_Real_isNumber] (.null) 13 := ⟨rfl, rfl⟩
theorem jf_66_13 : jG m_Real_withInfinity 13 (.ifCond .ne 8) [21] (.null) 16 := ⟨rfl, rfl⟩
theorem jf_66_16 : jG m_Real_withInfinity 16 (.aload_n 0) [] (.null) 17 := ⟨rfl, rfl⟩
theorem jf_66_17 : jG m_Real_withInfinity 17 (.getfield 31) [5, 6] (.null) 20 := ⟨rfl, rfl⟩
theorem jf_66_20 : jG m_Real_withInfinity 20 (.lreturn) [] (.null) 21 := ⟨rfl, rfl⟩
theorem jf_66_21 : jG m_Real_withInfinity 21 (.aload_n 0) [] (.null) 22 := ⟨rfl, rfl⟩
theorem jf_66_22 : jG m_Real_withInfinity 22 (.lload_n 1) [] (.null) 23 := ⟨rfl, rfl⟩
theorem jf_66_23 : jG m_Real_withInfinity 23 (.invokevirtual 38) [6, 1, 5, m_Real_sizeOf] (.null) 26 := ⟨rfl, rfl⟩
theorem jf_66_26 : jG m_Real_withInfinity 26 (.aload_n 0) [] (.null) 27 := ⟨rfl, rfl⟩
theorem jf_66_27 : jG m_Real_withInfinity 27 (.getfield 28) [5, 5] (.null) 30 := ⟨rfl, rfl⟩
theorem jf_66_30 : jG m_Real_withInfinity 30 (.lcmp) [] (.null) 31 := ⟨rfl, rfl⟩
theorem jf_66_31 : jG m_Real_withInfinity 31 (.ifCond .eq 5) [36] (.null) 34 := ⟨rfl, rfl⟩
theorem jf_66_34 : jG m_Real_withInfinity 34 (.lload_n 3) [] (.null) 35 := ⟨rfl, rfl⟩
theorem jf_66_35 : jG m_Real_withInfinity 35 (.lreturn) [] (.null) 36 := ⟨rfl, rfl⟩
theorem jf_66_36 : jG m_Real_withInfinity 36 (.aload_n 0) [] (.null) 37 := ⟨rfl, rfl⟩
theorem jf_66_37 : jG m_Real_withInfinity 37 (.lload_n 3) [] (.null) 38 := ⟨rfl, rfl⟩
theorem jf_66_38 : jG m_Real_withInfinity 38 (.invokevirtual 38) [6, 1, 5, m_Real_sizeOf] (.null) 41 := ⟨rfl, rfl⟩
theorem jf_66_41 : jG m_Real_withInfinity 41 (.aload_n 0) [] (.null) 42 := ⟨rfl, rfl⟩
theorem jf_66_42 : jG m_Real_withInfinity 42 (.getfield 28) [5, 5] (.null) 45 := ⟨rfl, rfl⟩
theorem jf_66_45 : jG m_Real_withInfinity 45 (.lcmp) [] (.null) 46 := ⟨rfl, rfl⟩
theorem jf_66_46 : jG m_Real_withInfinity 46 (.ifCond .ne 16) [62] (.null) 49 := ⟨rfl, rfl⟩
theorem jf_66_49 : jG m_Real_withInfinity 49 (.lload_n 1) [] (.null) 50 := ⟨rfl, rfl⟩
theorem jf_66_50 : jG m_Real_withInfinity 50 (.lload_n 3) [] (.null) 51 := ⟨rfl, rfl⟩
theorem jf_66_51 : jG m_Real_withInfinity 51 (.lcmp) [] (.null) 52 := ⟨rfl, rfl⟩
theorem jf_66_52 : jG m_Real_withInfinity 52 (.ifCond .eq 10) [62] (.null) 55 := ⟨rfl, rfl⟩
theorem jf_66_55 : jG m_Real_withInfinity 55 (.aload_n 0) [] (.null) 56 := ⟨rfl, rfl⟩
theorem jf_66_56 : jG m_Real_withInfinity 56 (.getfield 31) [5, 6] (.null) 59 := ⟨rfl, rfl⟩
theorem jf_66_59 : jG m_Real_withInfinity 59 (.goto 4) [63] (.null) 62 := ⟨rfl, rfl⟩
theorem jf_66_62 : jG m_Real_withInfinity 62 (.lload_n 1) [] (.null) 63 := ⟨rfl, rfl⟩
theorem jf_66_63 : jG m_Real_withInfinity 63 (.lreturn) [] (.null) 64 := ⟨rfl, rfl⟩
theorem jf_67_0 : jG m_Real_added 0 (.aload_n 0) [] (.null) 1 := ⟨rfl, rfl⟩
theorem jf_67_1 : jG m_Real_added 1 (.lload_n 2) [] (.null) 2 := ⟨rfl, rfl⟩
theorem jf_67_2 : jG m_Real_added 2 (.invokevirtual 59) [6, 1, 5, m_Real_exponent] (.null) 5 := ⟨rfl, rfl⟩
theorem jf_67_5 : jG m_Real_added 5 (.istore 7) [] (.null) 7 := ⟨rfl, rfl⟩
theorem jf_67_7 : jG m_Real_added 7 (.iload 7) [] (.null) 9 := ⟨rfl, rfl⟩
theorem jf_67_9 : jG m_Real_added 9 (.aload_n 0) [] (.null) 10 := ⟨rfl, rfl⟩
theorem jf_67_10 : jG m_Real_added 10 (.lload 5) [] (.null) 12 := ⟨rfl, rfl⟩
theorem jf_67_12 : jG m_Real_added 12 (.invokevirtual 59) [6, 1, 5, m_Real_exponent] (.null) 15 := ⟨rfl, rfl⟩
theorem jf_67_15 : jG m_Real_added 15 (.isub) [] (.null) 16 := ⟨rfl, rfl⟩
theorem jf_67_16 : jG m_Real_added 16 (.istore 8) [] (.null) 18 := ⟨rfl, rfl⟩
theorem jf_67_18 : jG m_Real_added 18 (.aload_n 0) [] (.null) 19 := ⟨rfl, rfl⟩
theorem jf_67_19 : jG m_Real_added 19 (.lload_n 2) [] (.null) 20 := ⟨rfl, rfl⟩
theorem jf_67_20 : jG m_Real_added 20 (.invokevirtual 52) [6, 1, 5, m_Real_mantissa] (.null) 23 := ⟨rfl, rfl⟩
theorem jf_67_23 : jG m_Real_added 23 (.bipush 9) [] (.null) 25 := ⟨rfl, rfl⟩
theorem jf_67_25 : jG m_Real_added 25 (.lshl) [] (.null) 26 := ⟨rfl, rfl⟩
theorem jf_67_26 : jG m_Real_added 26 (.lstore 9) [] (.null) 28 := ⟨rfl, rfl⟩
theorem jf_67_28 : jG m_Real_added 28 (.aload_n 0) [] (.null) 29 := ⟨rfl, rfl⟩
theorem jf_67_29 : jG m_Real_added 29 (.lload 5) [] (.null) 31 := ⟨rfl, rfl⟩
theorem jf_67_31 : jG m_Real_added 31 (.invokevirtual 52) [6, 1, 5, m_Real_mantissa] (.null) 34 := ⟨rfl, rfl⟩
theorem jf_67_34 : jG m_Real_added 34 (.bipush 9) [] (.null) 36 := ⟨rfl, rfl⟩
theorem jf_67_36 : jG m_Real_added 36 (.lshl) [] (.null) 37 := ⟨rfl, rfl⟩
theorem jf_67_37 : jG m_Real_added 37 (.iload 8) [] (.null) 39 := ⟨rfl, rfl⟩
theorem jf_67_39 : jG m_Real_added 39 (.invokestatic 84) [3, m_Real_shifted, 2] (.null) 42 := ⟨rfl, rfl⟩
theorem jf_67_42 : jG m_Real_added 42 (.lstore 11) [] (.null) 44 := ⟨rfl, rfl⟩
theorem jf_67_44 : jG m_Real_added 44 (.iload 4) [] (.null) 46 := ⟨rfl, rfl⟩
theorem jf_67_46 : jG m_Real_added 46 (.ifCond .eq 11) [57] (.null) 49 := ⟨rfl, rfl⟩
theorem jf_67_49 : jG m_Real_added 49 (.lload 9) [] (.null) 51 := ⟨rfl, rfl⟩
theorem jf_67_51 : jG m_Real_added 51 (.lload 11) [] (.null) 53 := ⟨rfl, rfl⟩
theorem jf_67_53 : jG m_Real_added 53 (.ladd) [] (.null) 54 := ⟨rfl, rfl⟩
theorem jf_67_54 : jG m_Real_added 54 (.goto 8) [62] (.null) 57 := ⟨rfl, rfl⟩
theorem jf_67_57 : jG m_Real_added 57 (.lload 9) [] (.null) 59 := ⟨rfl, rfl⟩
theorem jf_67_59 : jG m_Real_added 59 (.lload 11) [] (.null) 61 := ⟨rfl, rfl⟩
theorem jf_67_61 : jG m_Real_added 61 (.lsub) [] (.null) 62 := ⟨rfl, rfl⟩
theorem jf_67_62 : jG m_Real_added 62 (.lstore 13) [] (.null) 64 := ⟨rfl, rfl⟩
theorem jf_67_64 : jG m_Real_added 64 (.lload 13) [] (.null) 66 := ⟨rfl, rfl⟩
theorem jf_67_66 : jG m_Real_added 66 (.lconst 0) [] (.null) 67 := ⟨rfl, rfl⟩
theorem jf_67_67 : jG m_Real_added 67 (.lcmp) [] (.null) 68 := ⟨rfl, rfl⟩
theorem jf_67_68 : jG m_Real_added 68 (.ifCond .ne 7) [75] (.null) 71 := ⟨rfl, rfl⟩
theorem jf_67_71 : jG m_Real_added 71 (.lconst 0) [] (.null) 72 := ⟨rfl, rfl⟩
theorem jf_67_72 : jG m_Real_added 72 (.goto 15) [87] (.null) 75 := ⟨rfl, rfl⟩
theorem jf_67_75 : jG m_Real_added 75 (.aload_n 0) [] (.null) 76 := ⟨rfl, rfl⟩
theorem jf_67_76 : jG m_Real_added 76 (.iload_n 1) [] (.null) 77 := ⟨rfl, rfl⟩
theorem jf_67_77 : jG m_Real_added 77 (.iload 7) [] (.null) 79 := ⟨rfl, rfl⟩
theorem jf_67_79 : jG m_Real_added 79 (.bipush 9) [] (.null) 81 := ⟨rfl, rfl⟩
theorem jf_67_81 : jG m_Real_added 81 (.isub) [] (.null) 82 := ⟨rfl, rfl⟩
theorem jf_67_82 : jG m_Real_added 82 (.lload 13) [] (.null) 84 := ⟨rfl, rfl⟩
theorem jf_67_84 : jG m_Real_added 84 (.invokevirtual 66) [6, 3, 5, m_Real_packed] (.null) 87 := ⟨rfl, rfl⟩
theorem jf_67_87 : jG m_Real_added 87 (.lreturn) [] (.null) 88 := ⟨rfl, rfl⟩
theorem jf_68_0 : jG m_Real_shifted 0 (.iload_n 2) [] (.null) 1 := ⟨rfl, rfl⟩
theorem jf_68_1 : jG m_Real_shifted 1 (.ifCond .gt 5) [6] (.null) 4 := ⟨rfl, rfl⟩
theorem jf_68_4 : jG m_Real_shifted 4 (.lload_n 0) [] (.null) 5 := ⟨rfl, rfl⟩
theorem jf_68_5 : jG m_Real_shifted 5 (.lreturn) [] (.null) 6 := ⟨rfl, rfl⟩
theorem jf_68_6 : jG m_Real_shifted 6 (.iload_n 2) [] (.null) 7 := ⟨rfl, rfl⟩
theorem jf_68_7 : jG m_Real_shifted 7 (.bipush 62) [] (.null) 9 := ⟨rfl, rfl⟩
theorem jf_68_9 : jG m_Real_shifted 9 (.if_icmp .le 5) [14] (.null) 12 := ⟨rfl, rfl⟩
theorem jf_68_12 : jG m_Real_shifted 12 (.lconst 1) [] (.null) 13 := ⟨rfl, rfl⟩
theorem jf_68_13 : jG m_Real_shifted 13 (.lreturn) [] (.null) 14 := ⟨rfl, rfl⟩
theorem jf_68_14 : jG m_Real_shifted 14 (.lload_n 0) [] (.null) 15 := ⟨rfl, rfl⟩
theorem jf_68_15 : jG m_Real_shifted 15 (.iload_n 2) [] (.null) 16 := ⟨rfl, rfl⟩
theorem jf_68_16 : jG m_Real_shifted 16 (.lushr) [] (.null) 17 := ⟨rfl, rfl⟩
theorem jf_68_17 : jG m_Real_shifted 17 (.lstore_n 3) [] (.null) 18 := ⟨rfl, rfl⟩
theorem jf_68_18 : jG m_Real_shifted 18 (.lload_n 3) [] (.null) 19 := ⟨rfl, rfl⟩
theorem jf_68_19 : jG m_Real_shifted 19 (.iload_n 2) [] (.null) 20 := ⟨rfl, rfl⟩
theorem jf_68_20 : jG m_Real_shifted 20 (.lshl) [] (.null) 21 := ⟨rfl, rfl⟩
theorem jf_68_21 : jG m_Real_shifted 21 (.lload_n 0) [] (.null) 22 := ⟨rfl, rfl⟩
theorem jf_68_22 : jG m_Real_shifted 22 (.lcmp) [] (.null) 23 := ⟨rfl, rfl⟩
theorem jf_68_23 : jG m_Real_shifted 23 (.ifCond .ne 7) [30] (.null) 26 := ⟨rfl, rfl⟩
theorem jf_68_26 : jG m_Real_shifted 26 (.lload_n 3) [] (.null) 27 := ⟨rfl, rfl⟩
theorem jf_68_27 : jG m_Real_shifted 27 (.goto 6) [33] (.null) 30 := ⟨rfl, rfl⟩
theorem jf_68_30 : jG m_Real_shifted 30 (.lload_n 3) [] (.null) 31 := ⟨rfl, rfl⟩
theorem jf_68_31 : jG m_Real_shifted 31 (.lconst 1) [] (.null) 32 := ⟨rfl, rfl⟩
theorem jf_68_32 : jG m_Real_shifted 32 (.lor) [] (.null) 33 := ⟨rfl, rfl⟩
theorem jf_68_33 : jG m_Real_shifted 33 (.lreturn) [] (.null) 34 := ⟨rfl, rfl⟩
theorem jf_69_0 : jG m_Shorts_plus 0 (.lload_n 1) [] (.null) 1 := ⟨rfl, rfl⟩
theorem jf_69_1 : jG m_Shorts_plus 1 (.lload_n 3) [] (.null) 2 := ⟨rfl, rfl⟩
theorem jf_69_2 : jG m_Shorts_plus 2 (.ladd) [] (.null) 3 := ⟨rfl, rfl⟩
theorem jf_69_3 : jG m_Shorts_plus 3 (.lreturn) [] (.null) 4 := ⟨rfl, rfl⟩
