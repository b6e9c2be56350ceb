theorem dX0_init_0 : decode cX0_init 0 = .ok (.aload_n 0, 1) := by decide +kernel
theorem dX0_init_1 : decode cX0_init 1 = .ok (.invokespecial 5, 3) := by decide +kernel
theorem dX0_init_4 : decode cX0_init 4 = .ok (.sipush 553, 3) := by decide +kernel
theorem dX0_init_7 : decode cX0_init 7 = .ok (.newarray .int, 2) := by decide +kernel
theorem dX0_init_9 : decode cX0_init 9 = .ok (.astore_n 1, 1) := by decide +kernel
theorem dX0_init_10 : decode cX0_init 10 = .ok (.aload_n 0, 1) := by decide +kernel
theorem dX0_init_11 : decode cX0_init 11 = .ok (.aload_n 1, 1) := by decide +kernel
theorem dX0_init_12 : decode cX0_init 12 = .ok (.putfield 11, 3) := by decide +kernel
theorem dX0_init_15 : decode cX0_init 15 = .ok (.aload_n 0, 1) := by decide +kernel
theorem dX0_init_16 : decode cX0_init 16 = .ok (.sipush 3318, 3) := by decide +kernel
theorem dX0_init_19 : decode cX0_init 19 = .ok (.newarray .int, 2) := by decide +kernel
theorem dX0_init_21 : decode cX0_init 21 = .ok (.putfield 15, 3) := by decide +kernel
theorem dX0_init_24 : decode cX0_init 24 = .ok (.aload_n 0, 1) := by decide +kernel
theorem dX0_init_25 : decode cX0_init 25 = .ok (.new 18, 3) := by decide +kernel
theorem dX0_init_28 : decode cX0_init 28 = .ok (.dup, 1) := by decide +kernel
theorem dX0_init_29 : decode cX0_init 29 = .ok (.aload_n 1, 1) := by decide +kernel
theorem dX0_init_30 : decode cX0_init 30 = .ok (.iconst 0, 1) := by decide +kernel
theorem dX0_init_31 : decode cX0_init 31 = .ok (.iconst 4, 1) := by decide +kernel
theorem dX0_init_32 : decode cX0_init 32 = .ok (.invokespecial 20, 3) := by decide +kernel
theorem dX0_init_35 : decode cX0_init 35 = .ok (.putfield 23, 3) := by decide +kernel
theorem dX0_init_38 : decode cX0_init 38 = .ok (.aload_n 0, 1) := by decide +kernel
theorem dX0_init_39 : decode cX0_init 39 = .ok (.new 18, 3) := by decide +kernel
theorem dX0_init_42 : decode cX0_init 42 = .ok (.dup, 1) := by decide +kernel
theorem dX0_init_43 : decode cX0_init 43 = .ok (.aload_n 1, 1) := by decide +kernel
theorem dX0_init_44 : decode cX0_init 44 = .ok (.bipush 32, 2) := by decide +kernel
theorem dX0_init_46 : decode cX0_init 46 = .ok (.bipush 11, 2) := by decide +kernel
theorem dX0_init_48 : decode cX0_init 48 = .ok (.invokespecial 20, 3) := by decide +kernel
theorem dX0_init_51 : decode cX0_init 51 = .ok (.putfield 27, 3) := by decide +kernel
theorem dX0_init_54 : decode cX0_init 54 = .ok (.aload_n 0, 1) := by decide +kernel
theorem dX0_init_55 : decode cX0_init 55 = .ok (.new 18, 3) := by decide +kernel
theorem dX0_init_58 : decode cX0_init 58 = .ok (.dup, 1) := by decide +kernel
theorem dX0_init_59 : decode cX0_init 59 = .ok (.aload_n 1, 1) := by decide +kernel
theorem dX0_init_60 : decode cX0_init 60 = .ok (.sipush 472, 3) := by decide +kernel
theorem dX0_init_63 : decode cX0_init 63 = .ok (.bipush 7, 2) := by decide +kernel
theorem dX0_init_65 : decode cX0_init 65 = .ok (.invokespecial 20, 3) := by decide +kernel
theorem dX0_init_68 : decode cX0_init 68 = .ok (.putfield 30, 3) := by decide +kernel
theorem dX0_init_71 : decode cX0_init 71 = .ok (.aload_n 0, 1) := by decide +kernel
theorem dX0_init_72 : decode cX0_init 72 = .ok (.new 18, 3) := by decide +kernel
theorem dX0_init_75 : decode cX0_init 75 = .ok (.dup, 1) := by decide +kernel
theorem dX0_init_76 : decode cX0_init 76 = .ok (.aload_n 1, 1) := by decide +kernel
theorem dX0_init_77 : decode cX0_init 77 = .ok (.sipush 514, 3) := by decide +kernel
theorem dX0_init_80 : decode cX0_init 80 = .ok (.iconst 5, 1) := by decide +kernel
theorem dX0_init_81 : decode cX0_init 81 = .ok (.invokespecial 20, 3) := by decide +kernel
theorem dX0_init_84 : decode cX0_init 84 = .ok (.putfield 33, 3) := by decide +kernel
theorem dX0_init_87 : decode cX0_init 87 = .ok (.aload_n 0, 1) := by decide +kernel
theorem dX0_init_88 : decode cX0_init 88 = .ok (.new 36, 3) := by decide +kernel
theorem dX0_init_91 : decode cX0_init 91 = .ok (.dup, 1) := by decide +kernel
theorem dX0_init_92 : decode cX0_init 92 = .ok (.aload_n 1, 1) := by decide +kernel
theorem dX0_init_93 : decode cX0_init 93 = .ok (.sipush 539, 3) := by decide +kernel
theorem dX0_init_96 : decode cX0_init 96 = .ok (.invokespecial 38, 3) := by decide +kernel
theorem dX0_init_99 : decode cX0_init 99 = .ok (.putfield 41, 3) := by decide +kernel
theorem dX0_init_102 : decode cX0_init 102 = .ok (.aload_n 0, 1) := by decide +kernel
theorem dX0_init_103 : decode cX0_init 103 = .ok (.new 36, 3) := by decide +kernel
theorem dX0_init_106 : decode cX0_init 106 = .ok (.dup, 1) := by decide +kernel
theorem dX0_init_107 : decode cX0_init 107 = .ok (.aload_n 1, 1) := by decide +kernel
theorem dX0_init_108 : decode cX0_init 108 = .ok (.sipush 546, 3) := by decide +kernel
theorem dX0_init_111 : decode cX0_init 111 = .ok (.invokespecial 38, 3) := by decide +kernel
theorem dX0_init_114 : decode cX0_init 114 = .ok (.putfield 45, 3) := by decide +kernel
theorem dX0_init_117 : decode cX0_init 117 = .ok (.iconst 0, 1) := by decide +kernel
theorem dX0_init_118 : decode cX0_init 118 = .ok (.istore_n 2, 1) := by decide +kernel
theorem dX0_init_119 : decode cX0_init 119 = .ok (.iload_n 2, 1) := by decide +kernel
theorem dX0_init_120 : decode cX0_init 120 = .ok (.getstatic 48, 3) := by decide +kernel
theorem dX0_init_123 : decode cX0_init 123 = .ok (.arraylength, 1) := by decide +kernel
theorem dX0_init_124 : decode cX0_init 124 = .ok (.if_icmp .ge 22, 3) := by decide +kernel
theorem dX0_init_127 : decode cX0_init 127 = .ok (.aload_n 0, 1) := by decide +kernel
theorem dX0_init_128 : decode cX0_init 128 = .ok (.getfield 41, 3) := by decide +kernel
theorem dX0_init_131 : decode cX0_init 131 = .ok (.iload_n 2, 1) := by decide +kernel
theorem dX0_init_132 : decode cX0_init 132 = .ok (.getstatic 48, 3) := by decide +kernel
theorem dX0_init_135 : decode cX0_init 135 = .ok (.iload_n 2, 1) := by decide +kernel
theorem dX0_init_136 : decode cX0_init 136 = .ok (.iaload, 1) := by decide +kernel
theorem dX0_init_137 : decode cX0_init 137 = .ok (.invokevirtual 51, 3) := by decide +kernel
theorem dX0_init_140 : decode cX0_init 140 = .ok (.iinc 2 1, 3) := by decide +kernel
theorem dX0_init_143 : decode cX0_init 143 = .ok (.goto (-24), 3) := by decide +kernel
theorem dX0_init_146 : decode cX0_init 146 = .ok (.iconst 0, 1) := by decide +kernel
theorem dX0_init_147 : decode cX0_init 147 = .ok (.istore_n 2, 1) := by decide +kernel
theorem dX0_init_148 : decode cX0_init 148 = .ok (.iload_n 2, 1) := by decide +kernel
theorem dX0_init_149 : decode cX0_init 149 = .ok (.getstatic 55, 3) := by decide +kernel
theorem dX0_init_152 : decode cX0_init 152 = .ok (.arraylength, 1) := by decide +kernel
theorem dX0_init_153 : decode cX0_init 153 = .ok (.if_icmp .ge 23, 3) := by decide +kernel
theorem dX0_init_156 : decode cX0_init 156 = .ok (.aload_n 0, 1) := by decide +kernel
theorem dX0_init_157 : decode cX0_init 157 = .ok (.getfield 33, 3) := by decide +kernel
theorem dX0_init_160 : decode cX0_init 160 = .ok (.iload_n 2, 1) := by decide +kernel
theorem dX0_init_161 : decode cX0_init 161 = .ok (.iconst 0, 1) := by decide +kernel
theorem dX0_init_162 : decode cX0_init 162 = .ok (.getstatic 55, 3) := by decide +kernel
theorem dX0_init_165 : decode cX0_init 165 = .ok (.iload_n 2, 1) := by decide +kernel
theorem dX0_init_166 : decode cX0_init 166 = .ok (.iaload, 1) := by decide +kernel
theorem dX0_init_167 : decode cX0_init 167 = .ok (.invokevirtual 58, 3) := by decide +kernel
theorem dX0_init_170 : decode cX0_init 170 = .ok (.iinc 2 1, 3) := by decide +kernel
theorem dX0_init_173 : decode cX0_init 173 = .ok (.goto (-25), 3) := by decide +kernel
theorem dX0_init_176 : decode cX0_init 176 = .ok (.return_, 1) := by decide +kernel
theorem dX0_gradeOfLot_0 : decode cX0_gradeOfLot 0 = .ok (.aload_n 0, 1) := by decide +kernel
theorem dX0_gradeOfLot_1 : decode cX0_gradeOfLot 1 = .ok (.getfield 27, 3) := by decide +kernel
theorem dX0_gradeOfLot_4 : decode cX0_gradeOfLot 4 = .ok (.iload_n 1, 1) := by decide +kernel
theorem dX0_gradeOfLot_5 : decode cX0_gradeOfLot 5 = .ok (.iconst 3, 1) := by decide +kernel
theorem dX0_gradeOfLot_6 : decode cX0_gradeOfLot 6 = .ok (.invokevirtual 61, 3) := by decide +kernel
theorem dX0_gradeOfLot_9 : decode cX0_gradeOfLot 9 = .ok (.istore_n 2, 1) := by decide +kernel
theorem dX0_gradeOfLot_10 : decode cX0_gradeOfLot 10 = .ok (.iload_n 2, 1) := by decide +kernel
theorem dX0_gradeOfLot_11 : decode cX0_gradeOfLot 11 = .ok (.bipush 8, 2) := by decide +kernel
theorem dX0_gradeOfLot_13 : decode cX0_gradeOfLot 13 = .ok (.if_icmp .gt 5, 3) := by decide +kernel
theorem dX0_gradeOfLot_16 : decode cX0_gradeOfLot 16 = .ok (.iconst 0, 1) := by decide +kernel
theorem dX0_gradeOfLot_17 : decode cX0_gradeOfLot 17 = .ok (.ireturn, 1) := by decide +kernel
theorem dX0_gradeOfLot_18 : decode cX0_gradeOfLot 18 = .ok (.iload_n 2, 1) := by decide +kernel
theorem dX0_gradeOfLot_19 : decode cX0_gradeOfLot 19 = .ok (.bipush 20, 2) := by decide +kernel
theorem dX0_gradeOfLot_21 : decode cX0_gradeOfLot 21 = .ok (.if_icmp .gt 7, 3) := by decide +kernel
theorem dX0_gradeOfLot_24 : decode cX0_gradeOfLot 24 = .ok (.iconst 1, 1) := by decide +kernel
theorem dX0_gradeOfLot_25 : decode cX0_gradeOfLot 25 = .ok (.goto 4, 3) := by decide +kernel
theorem dX0_gradeOfLot_28 : decode cX0_gradeOfLot 28 = .ok (.iconst 2, 1) := by decide +kernel
theorem dX0_gradeOfLot_29 : decode cX0_gradeOfLot 29 = .ok (.ireturn, 1) := by decide +kernel
theorem dX0_save_0 : decode cX0_save 0 = .ok (.aload_n 0, 1) := by decide +kernel
theorem dX0_save_1 : decode cX0_save 1 = .ok (.getfield 65, 3) := by decide +kernel
theorem dX0_save_4 : decode cX0_save 4 = .ok (.bipush 6, 2) := by decide +kernel
theorem dX0_save_6 : decode cX0_save 6 = .ok (.if_icmp .ne 26, 3) := by decide +kernel
theorem dX0_save_9 : decode cX0_save 9 = .ok (.aload_n 0, 1) := by decide +kernel
theorem dX0_save_10 : decode cX0_save 10 = .ok (.aload_n 0, 1) := by decide +kernel
theorem dX0_save_11 : decode cX0_save 11 = .ok (.getfield 69, 3) := by decide +kernel
theorem dX0_save_14 : decode cX0_save 14 = .ok (.iconst 1, 1) := by decide +kernel
theorem dX0_save_15 : decode cX0_save 15 = .ok (.iadd, 1) := by decide +kernel
theorem dX0_save_16 : decode cX0_save 16 = .ok (.bipush 6, 2) := by decide +kernel
theorem dX0_save_18 : decode cX0_save 18 = .ok (.irem, 1) := by decide +kernel
theorem dX0_save_19 : decode cX0_save 19 = .ok (.putfield 69, 3) := by decide +kernel
theorem dX0_save_22 : decode cX0_save 22 = .ok (.aload_n 0, 1) := by decide +kernel
theorem dX0_save_23 : decode cX0_save 23 = .ok (.dup, 1) := by decide +kernel
theorem dX0_save_24 : decode cX0_save 24 = .ok (.getfield 65, 3) := by decide +kernel
theorem dX0_save_27 : decode cX0_save 27 = .ok (.iconst 1, 1) := by decide +kernel
theorem dX0_save_28 : decode cX0_save 28 = .ok (.isub, 1) := by decide +kernel
theorem dX0_save_29 : decode cX0_save 29 = .ok (.putfield 65, 3) := by decide +kernel
theorem dX0_save_32 : decode cX0_save 32 = .ok (.aload_n 0, 1) := by decide +kernel
theorem dX0_save_33 : decode cX0_save 33 = .ok (.aload_n 0, 1) := by decide +kernel
theorem dX0_save_34 : decode cX0_save 34 = .ok (.getfield 65, 3) := by decide +kernel
theorem dX0_save_37 : decode cX0_save 37 = .ok (.invokevirtual 72, 3) := by decide +kernel
theorem dX0_save_40 : decode cX0_save 40 = .ok (.istore_n 1, 1) := by decide +kernel
theorem dX0_save_41 : decode cX0_save 41 = .ok (.iload_n 1, 1) := by decide +kernel
theorem dX0_save_42 : decode cX0_save 42 = .ok (.ifCond .lt 32, 3) := by decide +kernel
theorem dX0_save_45 : decode cX0_save 45 = .ok (.iload_n 1, 1) := by decide +kernel
theorem dX0_save_46 : decode cX0_save 46 = .ok (.aload_n 0, 1) := by decide +kernel
theorem dX0_save_47 : decode cX0_save 47 = .ok (.getfield 15, 3) := by decide +kernel
theorem dX0_save_50 : decode cX0_save 50 = .ok (.arraylength, 1) := by decide +kernel
theorem dX0_save_51 : decode cX0_save 51 = .ok (.sipush 553, 3) := by decide +kernel
theorem dX0_save_54 : decode cX0_save 54 = .ok (.isub, 1) := by decide +kernel
theorem dX0_save_55 : decode cX0_save 55 = .ok (.if_icmp .gt 19, 3) := by decide +kernel
theorem dX0_save_58 : decode cX0_save 58 = .ok (.aload_n 0, 1) := by decide +kernel
theorem dX0_save_59 : decode cX0_save 59 = .ok (.getfield 11, 3) := by decide +kernel
theorem dX0_save_62 : decode cX0_save 62 = .ok (.iconst 0, 1) := by decide +kernel
theorem dX0_save_63 : decode cX0_save 63 = .ok (.aload_n 0, 1) := by decide +kernel
theorem dX0_save_64 : decode cX0_save 64 = .ok (.getfield 15, 3) := by decide +kernel
theorem dX0_save_67 : decode cX0_save 67 = .ok (.iload_n 1, 1) := by decide +kernel
theorem dX0_save_68 : decode cX0_save 68 = .ok (.sipush 553, 3) := by decide +kernel
theorem dX0_save_71 : decode cX0_save 71 = .ok (.invokestatic 76, 3) := by decide +kernel
theorem dX0_save_74 : decode cX0_save 74 = .ok (.aload_n 0, 1) := by decide +kernel
theorem dX0_save_75 : decode cX0_save 75 = .ok (.dup, 1) := by decide +kernel
theorem dX0_save_76 : decode cX0_save 76 = .ok (.getfield 65, 3) := by decide +kernel
theorem dX0_save_79 : decode cX0_save 79 = .ok (.iconst 1, 1) := by decide +kernel
theorem dX0_save_80 : decode cX0_save 80 = .ok (.iadd, 1) := by decide +kernel
theorem dX0_save_81 : decode cX0_save 81 = .ok (.putfield 65, 3) := by decide +kernel
theorem dX0_save_84 : decode cX0_save 84 = .ok (.return_, 1) := by decide +kernel
theorem dX0_placeOfSaved_0 : decode cX0_placeOfSaved 0 = .ok (.aload_n 0, 1) := by decide +kernel
theorem dX0_placeOfSaved_1 : decode cX0_placeOfSaved 1 = .ok (.getfield 69, 3) := by decide +kernel
theorem dX0_placeOfSaved_4 : decode cX0_placeOfSaved 4 = .ok (.iload_n 1, 1) := by decide +kernel
theorem dX0_placeOfSaved_5 : decode cX0_placeOfSaved 5 = .ok (.iadd, 1) := by decide +kernel
theorem dX0_placeOfSaved_6 : decode cX0_placeOfSaved 6 = .ok (.bipush 6, 2) := by decide +kernel
theorem dX0_placeOfSaved_8 : decode cX0_placeOfSaved 8 = .ok (.irem, 1) := by decide +kernel
theorem dX0_placeOfSaved_9 : decode cX0_placeOfSaved 9 = .ok (.sipush 553, 3) := by decide +kernel
theorem dX0_placeOfSaved_12 : decode cX0_placeOfSaved 12 = .ok (.imul, 1) := by decide +kernel
theorem dX0_placeOfSaved_13 : decode cX0_placeOfSaved 13 = .ok (.ireturn, 1) := by decide +kernel
theorem dX1_init_0 : decode cX1_init 0 = .ok (.aload_n 0, 1) := by decide +kernel
theorem dX1_init_1 : decode cX1_init 1 = .ok (.invokespecial 3, 3) := by decide +kernel
theorem dX1_init_4 : decode cX1_init 4 = .ok (.aload_n 0, 1) := by decide +kernel
theorem dX1_init_5 : decode cX1_init 5 = .ok (.aload_n 1, 1) := by decide +kernel
theorem dX1_init_6 : decode cX1_init 6 = .ok (.putfield 9, 3) := by decide +kernel
theorem dX1_init_9 : decode cX1_init 9 = .ok (.aload_n 0, 1) := by decide +kernel
theorem dX1_init_10 : decode cX1_init 10 = .ok (.iconst 5, 1) := by decide +kernel
theorem dX1_init_11 : decode cX1_init 11 = .ok (.newarray .int, 2) := by decide +kernel
theorem dX1_init_13 : decode cX1_init 13 = .ok (.putfield 15, 3) := by decide +kernel
theorem dX1_init_16 : decode cX1_init 16 = .ok (.aload_n 0, 1) := by decide +kernel
theorem dX1_init_17 : decode cX1_init 17 = .ok (.iconst 5, 1) := by decide +kernel
theorem dX1_init_18 : decode cX1_init 18 = .ok (.newarray .int, 2) := by decide +kernel
theorem dX1_init_20 : decode cX1_init 20 = .ok (.putfield 19, 3) := by decide +kernel
theorem dX1_init_23 : decode cX1_init 23 = .ok (.return_, 1) := by decide +kernel
theorem dX1_oilOf_0 : decode cX1_oilOf 0 = .ok (.iconst 0, 1) := by decide +kernel
theorem dX1_oilOf_1 : decode cX1_oilOf 1 = .ok (.istore_n 2, 1) := by decide +kernel
theorem dX1_oilOf_2 : decode cX1_oilOf 2 = .ok (.iconst 0, 1) := by decide +kernel
theorem dX1_oilOf_3 : decode cX1_oilOf 3 = .ok (.istore_n 3, 1) := by decide +kernel
theorem dX1_oilOf_4 : decode cX1_oilOf 4 = .ok (.iload_n 3, 1) := by decide +kernel
theorem dX1_oilOf_5 : decode cX1_oilOf 5 = .ok (.iconst 5, 1) := by decide +kernel
theorem dX1_oilOf_6 : decode cX1_oilOf 6 = .ok (.if_icmp .ge 26, 3) := by decide +kernel
theorem dX1_oilOf_9 : decode cX1_oilOf 9 = .ok (.iload_n 2, 1) := by decide +kernel
theorem dX1_oilOf_10 : decode cX1_oilOf 10 = .ok (.aload_n 0, 1) := by decide +kernel
theorem dX1_oilOf_11 : decode cX1_oilOf 11 = .ok (.getfield 9, 3) := by decide +kernel
theorem dX1_oilOf_14 : decode cX1_oilOf 14 = .ok (.getfield 22, 3) := by decide +kernel
theorem dX1_oilOf_17 : decode cX1_oilOf 17 = .ok (.iload_n 1, 1) := by decide +kernel
theorem dX1_oilOf_18 : decode cX1_oilOf 18 = .ok (.iconst 2, 1) := by decide +kernel
theorem dX1_oilOf_19 : decode cX1_oilOf 19 = .ok (.iload_n 3, 1) := by decide +kernel
theorem dX1_oilOf_20 : decode cX1_oilOf 20 = .ok (.iadd, 1) := by decide +kernel
theorem dX1_oilOf_21 : decode cX1_oilOf 21 = .ok (.invokevirtual 28, 3) := by decide +kernel
theorem dX1_oilOf_24 : decode cX1_oilOf 24 = .ok (.iadd, 1) := by decide +kernel
theorem dX1_oilOf_25 : decode cX1_oilOf 25 = .ok (.istore_n 2, 1) := by decide +kernel
theorem dX1_oilOf_26 : decode cX1_oilOf 26 = .ok (.iinc 3 1, 3) := by decide +kernel
theorem dX1_oilOf_29 : decode cX1_oilOf 29 = .ok (.goto (-25), 3) := by decide +kernel
theorem dX1_oilOf_32 : decode cX1_oilOf 32 = .ok (.iload_n 2, 1) := by decide +kernel
theorem dX1_oilOf_33 : decode cX1_oilOf 33 = .ok (.ireturn, 1) := by decide +kernel
theorem dX1_allOil_0 : decode cX1_allOil 0 = .ok (.iconst 0, 1) := by decide +kernel
theorem dX1_allOil_1 : decode cX1_allOil 1 = .ok (.istore_n 1, 1) := by decide +kernel
theorem dX1_allOil_2 : decode cX1_allOil 2 = .ok (.iconst 0, 1) := by decide +kernel
theorem dX1_allOil_3 : decode cX1_allOil 3 = .ok (.istore_n 2, 1) := by decide +kernel
theorem dX1_allOil_4 : decode cX1_allOil 4 = .ok (.iload_n 2, 1) := by decide +kernel
theorem dX1_allOil_5 : decode cX1_allOil 5 = .ok (.bipush 6, 2) := by decide +kernel
theorem dX1_allOil_7 : decode cX1_allOil 7 = .ok (.if_icmp .ge 17, 3) := by decide +kernel
theorem dX1_allOil_10 : decode cX1_allOil 10 = .ok (.iload_n 1, 1) := by decide +kernel
theorem dX1_allOil_11 : decode cX1_allOil 11 = .ok (.aload_n 0, 1) := by decide +kernel
theorem dX1_allOil_12 : decode cX1_allOil 12 = .ok (.iload_n 2, 1) := by decide +kernel
theorem dX1_allOil_13 : decode cX1_allOil 13 = .ok (.invokevirtual 34, 3) := by decide +kernel
theorem dX1_allOil_16 : decode cX1_allOil 16 = .ok (.iadd, 1) := by decide +kernel
theorem dX1_allOil_17 : decode cX1_allOil 17 = .ok (.istore_n 1, 1) := by decide +kernel
theorem dX1_allOil_18 : decode cX1_allOil 18 = .ok (.iinc 2 1, 3) := by decide +kernel
theorem dX1_allOil_21 : decode cX1_allOil 21 = .ok (.goto (-17), 3) := by decide +kernel
theorem dX1_allOil_24 : decode cX1_allOil 24 = .ok (.iload_n 1, 1) := by decide +kernel
theorem dX1_allOil_25 : decode cX1_allOil 25 = .ok (.ireturn, 1) := by decide +kernel
theorem dX1_oilOfVariety_0 : decode cX1_oilOfVariety 0 = .ok (.iconst 0, 1) := by decide +kernel
theorem dX1_oilOfVariety_1 : decode cX1_oilOfVariety 1 = .ok (.istore_n 2, 1) := by decide +kernel
theorem dX1_oilOfVariety_2 : decode cX1_oilOfVariety 2 = .ok (.iconst 0, 1) := by decide +kernel
theorem dX1_oilOfVariety_3 : decode cX1_oilOfVariety 3 = .ok (.istore_n 3, 1) := by decide +kernel
theorem dX1_oilOfVariety_4 : decode cX1_oilOfVariety 4 = .ok (.iload_n 3, 1) := by decide +kernel
theorem dX1_oilOfVariety_5 : decode cX1_oilOfVariety 5 = .ok (.bipush 6, 2) := by decide +kernel
theorem dX1_oilOfVariety_7 : decode cX1_oilOfVariety 7 = .ok (.if_icmp .ge 26, 3) := by decide +kernel
theorem dX1_oilOfVariety_10 : decode cX1_oilOfVariety 10 = .ok (.iload_n 2, 1) := by decide +kernel
theorem dX1_oilOfVariety_11 : decode cX1_oilOfVariety 11 = .ok (.aload_n 0, 1) := by decide +kernel
theorem dX1_oilOfVariety_12 : decode cX1_oilOfVariety 12 = .ok (.getfield 9, 3) := by decide +kernel
theorem dX1_oilOfVariety_15 : decode cX1_oilOfVariety 15 = .ok (.getfield 22, 3) := by decide +kernel
theorem dX1_oilOfVariety_18 : decode cX1_oilOfVariety 18 = .ok (.iload_n 3, 1) := by decide +kernel
theorem dX1_oilOfVariety_19 : decode cX1_oilOfVariety 19 = .ok (.iconst 2, 1) := by decide +kernel
theorem dX1_oilOfVariety_20 : decode cX1_oilOfVariety 20 = .ok (.iload_n 1, 1) := by decide +kernel
theorem dX1_oilOfVariety_21 : decode cX1_oilOfVariety 21 = .ok (.iadd, 1) := by decide +kernel
theorem dX1_oilOfVariety_22 : decode cX1_oilOfVariety 22 = .ok (.invokevirtual 28, 3) := by decide +kernel
theorem dX1_oilOfVariety_25 : decode cX1_oilOfVariety 25 = .ok (.iadd, 1) := by decide +kernel
theorem dX1_oilOfVariety_26 : decode cX1_oilOfVariety 26 = .ok (.istore_n 2, 1) := by decide +kernel
theorem dX1_oilOfVariety_27 : decode cX1_oilOfVariety 27 = .ok (.iinc 3 1, 3) := by decide +kernel
theorem dX1_oilOfVariety_30 : decode cX1_oilOfVariety 30 = .ok (.goto (-26), 3) := by decide +kernel
theorem dX1_oilOfVariety_33 : decode cX1_oilOfVariety 33 = .ok (.iload_n 2, 1) := by decide +kernel
theorem dX1_oilOfVariety_34 : decode cX1_oilOfVariety 34 = .ok (.ireturn, 1) := by decide +kernel
theorem dX1_oilOfGrade_0 : decode cX1_oilOfGrade 0 = .ok (.iconst 0, 1) := by decide +kernel
theorem dX1_oilOfGrade_1 : decode cX1_oilOfGrade 1 = .ok (.istore_n 2, 1) := by decide +kernel
theorem dX1_oilOfGrade_2 : decode cX1_oilOfGrade 2 = .ok (.iconst 0, 1) := by decide +kernel
theorem dX1_oilOfGrade_3 : decode cX1_oilOfGrade 3 = .ok (.istore_n 3, 1) := by decide +kernel
theorem dX1_oilOfGrade_4 : decode cX1_oilOfGrade 4 = .ok (.iload_n 3, 1) := by decide +kernel
theorem dX1_oilOfGrade_5 : decode cX1_oilOfGrade 5 = .ok (.bipush 6, 2) := by decide +kernel
theorem dX1_oilOfGrade_7 : decode cX1_oilOfGrade 7 = .ok (.if_icmp .ge 26, 3) := by decide +kernel
theorem dX1_oilOfGrade_10 : decode cX1_oilOfGrade 10 = .ok (.aload_n 0, 1) := by decide +kernel
theorem dX1_oilOfGrade_11 : decode cX1_oilOfGrade 11 = .ok (.iload_n 3, 1) := by decide +kernel
theorem dX1_oilOfGrade_12 : decode cX1_oilOfGrade 12 = .ok (.invokevirtual 38, 3) := by decide +kernel
theorem dX1_oilOfGrade_15 : decode cX1_oilOfGrade 15 = .ok (.iload_n 1, 1) := by decide +kernel
theorem dX1_oilOfGrade_16 : decode cX1_oilOfGrade 16 = .ok (.if_icmp .ne 11, 3) := by decide +kernel
theorem dX1_oilOfGrade_19 : decode cX1_oilOfGrade 19 = .ok (.iload_n 2, 1) := by decide +kernel
theorem dX1_oilOfGrade_20 : decode cX1_oilOfGrade 20 = .ok (.aload_n 0, 1) := by decide +kernel
theorem dX1_oilOfGrade_21 : decode cX1_oilOfGrade 21 = .ok (.iload_n 3, 1) := by decide +kernel
theorem dX1_oilOfGrade_22 : decode cX1_oilOfGrade 22 = .ok (.invokevirtual 34, 3) := by decide +kernel
theorem dX1_oilOfGrade_25 : decode cX1_oilOfGrade 25 = .ok (.iadd, 1) := by decide +kernel
theorem dX1_oilOfGrade_26 : decode cX1_oilOfGrade 26 = .ok (.istore_n 2, 1) := by decide +kernel
theorem dX1_oilOfGrade_27 : decode cX1_oilOfGrade 27 = .ok (.iinc 3 1, 3) := by decide +kernel
theorem dX1_oilOfGrade_30 : decode cX1_oilOfGrade 30 = .ok (.goto (-26), 3) := by decide +kernel
theorem dX1_oilOfGrade_33 : decode cX1_oilOfGrade 33 = .ok (.iload_n 2, 1) := by decide +kernel
theorem dX1_oilOfGrade_34 : decode cX1_oilOfGrade 34 = .ok (.ireturn, 1) := by decide +kernel
theorem dX1_gradeOf_0 : decode cX1_gradeOf 0 = .ok (.aload_n 0, 1) := by decide +kernel
theorem dX1_gradeOf_1 : decode cX1_gradeOf 1 = .ok (.iload_n 1, 1) := by decide +kernel
theorem dX1_gradeOf_2 : decode cX1_gradeOf 2 = .ok (.invokevirtual 34, 3) := by decide +kernel
theorem dX1_gradeOf_5 : decode cX1_gradeOf 5 = .ok (.ifCond .le 18, 3) := by decide +kernel
theorem dX1_gradeOf_8 : decode cX1_gradeOf 8 = .ok (.aload_n 0, 1) := by decide +kernel
theorem dX1_gradeOf_9 : decode cX1_gradeOf 9 = .ok (.getfield 9, 3) := by decide +kernel
theorem dX1_gradeOf_12 : decode cX1_gradeOf 12 = .ok (.getfield 22, 3) := by decide +kernel
theorem dX1_gradeOf_15 : decode cX1_gradeOf 15 = .ok (.iload_n 1, 1) := by decide +kernel
theorem dX1_gradeOf_16 : decode cX1_gradeOf 16 = .ok (.iconst 1, 1) := by decide +kernel
theorem dX1_gradeOf_17 : decode cX1_gradeOf 17 = .ok (.invokevirtual 28, 3) := by decide +kernel
theorem dX1_gradeOf_20 : decode cX1_gradeOf 20 = .ok (.goto 4, 3) := by decide +kernel
theorem dX1_gradeOf_23 : decode cX1_gradeOf 23 = .ok (.iconst (-1), 1) := by decide +kernel
theorem dX1_gradeOf_24 : decode cX1_gradeOf 24 = .ok (.ireturn, 1) := by decide +kernel
theorem dX1_roomOf_0 : decode cX1_roomOf 0 = .ok (.aload_n 0, 1) := by decide +kernel
theorem dX1_roomOf_1 : decode cX1_roomOf 1 = .ok (.getfield 9, 3) := by decide +kernel
theorem dX1_roomOf_4 : decode cX1_roomOf 4 = .ok (.getfield 22, 3) := by decide +kernel
theorem dX1_roomOf_7 : decode cX1_roomOf 7 = .ok (.iload_n 1, 1) := by decide +kernel
theorem dX1_roomOf_8 : decode cX1_roomOf 8 = .ok (.iconst 0, 1) := by decide +kernel
theorem dX1_roomOf_9 : decode cX1_roomOf 9 = .ok (.invokevirtual 28, 3) := by decide +kernel
theorem dX1_roomOf_12 : decode cX1_roomOf 12 = .ok (.aload_n 0, 1) := by decide +kernel
theorem dX1_roomOf_13 : decode cX1_roomOf 13 = .ok (.iload_n 1, 1) := by decide +kernel
theorem dX1_roomOf_14 : decode cX1_roomOf 14 = .ok (.invokevirtual 34, 3) := by decide +kernel
theorem dX1_roomOf_17 : decode cX1_roomOf 17 = .ok (.isub, 1) := by decide +kernel
theorem dX1_roomOf_18 : decode cX1_roomOf 18 = .ok (.ireturn, 1) := by decide +kernel
theorem dX1_admits_0 : decode cX1_admits 0 = .ok (.aload_n 0, 1) := by decide +kernel
theorem dX1_admits_1 : decode cX1_admits 1 = .ok (.iload_n 1, 1) := by decide +kernel
theorem dX1_admits_2 : decode cX1_admits 2 = .ok (.invokevirtual 38, 3) := by decide +kernel
theorem dX1_admits_5 : decode cX1_admits 5 = .ok (.istore 4, 2) := by decide +kernel
theorem dX1_admits_7 : decode cX1_admits 7 = .ok (.iload_n 3, 1) := by decide +kernel
theorem dX1_admits_8 : decode cX1_admits 8 = .ok (.ifCond .ne 15, 3) := by decide +kernel
theorem dX1_admits_11 : decode cX1_admits 11 = .ok (.iload 4, 2) := by decide +kernel
theorem dX1_admits_13 : decode cX1_admits 13 = .ok (.iconst (-1), 1) := by decide +kernel
theorem dX1_admits_14 : decode cX1_admits 14 = .ok (.if_icmp .eq 9, 3) := by decide +kernel
theorem dX1_admits_17 : decode cX1_admits 17 = .ok (.iload 4, 2) := by decide +kernel
theorem dX1_admits_19 : decode cX1_admits 19 = .ok (.iload_n 2, 1) := by decide +kernel
theorem dX1_admits_20 : decode cX1_admits 20 = .ok (.if_icmp .ne 7, 3) := by decide +kernel
theorem dX1_admits_23 : decode cX1_admits 23 = .ok (.iconst 1, 1) := by decide +kernel
theorem dX1_admits_24 : decode cX1_admits 24 = .ok (.goto 4, 3) := by decide +kernel
theorem dX1_admits_27 : decode cX1_admits 27 = .ok (.iconst 0, 1) := by decide +kernel
theorem dX1_admits_28 : decode cX1_admits 28 = .ok (.ireturn, 1) := by decide +kernel
theorem dX1_pour_0 : decode cX1_pour 0 = .ok (.iload_n 3, 1) := by decide +kernel
theorem dX1_pour_1 : decode cX1_pour 1 = .ok (.ifCond .le 40, 3) := by decide +kernel
theorem dX1_pour_4 : decode cX1_pour 4 = .ok (.aload_n 0, 1) := by decide +kernel
theorem dX1_pour_5 : decode cX1_pour 5 = .ok (.getfield 9, 3) := by decide +kernel
theorem dX1_pour_8 : decode cX1_pour 8 = .ok (.getfield 22, 3) := by decide +kernel
theorem dX1_pour_11 : decode cX1_pour 11 = .ok (.iload_n 1, 1) := by decide +kernel
theorem dX1_pour_12 : decode cX1_pour 12 = .ok (.iconst 1, 1) := by decide +kernel
theorem dX1_pour_13 : decode cX1_pour 13 = .ok (.aload_n 0, 1) := by decide +kernel
theorem dX1_pour_14 : decode cX1_pour 14 = .ok (.iload_n 1, 1) := by decide +kernel
theorem dX1_pour_15 : decode cX1_pour 15 = .ok (.invokevirtual 38, 3) := by decide +kernel
theorem dX1_pour_18 : decode cX1_pour 18 = .ok (.iload 4, 2) := by decide +kernel
theorem dX1_pour_20 : decode cX1_pour 20 = .ok (.invokestatic 41, 3) := by decide +kernel
theorem dX1_pour_23 : decode cX1_pour 23 = .ok (.invokevirtual 46, 3) := by decide +kernel
theorem dX1_pour_26 : decode cX1_pour 26 = .ok (.aload_n 0, 1) := by decide +kernel
theorem dX1_pour_27 : decode cX1_pour 27 = .ok (.getfield 9, 3) := by decide +kernel
theorem dX1_pour_30 : decode cX1_pour 30 = .ok (.getfield 22, 3) := by decide +kernel
theorem dX1_pour_33 : decode cX1_pour 33 = .ok (.iload_n 1, 1) := by decide +kernel
theorem dX1_pour_34 : decode cX1_pour 34 = .ok (.iconst 2, 1) := by decide +kernel
theorem dX1_pour_35 : decode cX1_pour 35 = .ok (.iload_n 2, 1) := by decide +kernel
theorem dX1_pour_36 : decode cX1_pour 36 = .ok (.iadd, 1) := by decide +kernel
theorem dX1_pour_37 : decode cX1_pour 37 = .ok (.iload_n 3, 1) := by decide +kernel
theorem dX1_pour_38 : decode cX1_pour 38 = .ok (.invokevirtual 50, 3) := by decide +kernel
theorem dX1_pour_41 : decode cX1_pour 41 = .ok (.return_, 1) := by decide +kernel
theorem dX1_takeOut_0 : decode cX1_takeOut 0 = .ok (.aload_n 0, 1) := by decide +kernel
theorem dX1_takeOut_1 : decode cX1_takeOut 1 = .ok (.iload_n 1, 1) := by decide +kernel
theorem dX1_takeOut_2 : decode cX1_takeOut 2 = .ok (.iload_n 2, 1) := by decide +kernel
theorem dX1_takeOut_3 : decode cX1_takeOut 3 = .ok (.invokevirtual 53, 3) := by decide +kernel
theorem dX1_takeOut_6 : decode cX1_takeOut 6 = .ok (.iconst 0, 1) := by decide +kernel
theorem dX1_takeOut_7 : decode cX1_takeOut 7 = .ok (.istore_n 3, 1) := by decide +kernel
theorem dX1_takeOut_8 : decode cX1_takeOut 8 = .ok (.iload_n 3, 1) := by decide +kernel
theorem dX1_takeOut_9 : decode cX1_takeOut 9 = .ok (.iconst 5, 1) := by decide +kernel
theorem dX1_takeOut_10 : decode cX1_takeOut 10 = .ok (.if_icmp .ge 29, 3) := by decide +kernel
theorem dX1_takeOut_13 : decode cX1_takeOut 13 = .ok (.aload_n 0, 1) := by decide +kernel
theorem dX1_takeOut_14 : decode cX1_takeOut 14 = .ok (.getfield 9, 3) := by decide +kernel
theorem dX1_takeOut_17 : decode cX1_takeOut 17 = .ok (.getfield 22, 3) := by decide +kernel
theorem dX1_takeOut_20 : decode cX1_takeOut 20 = .ok (.iload_n 1, 1) := by decide +kernel
theorem dX1_takeOut_21 : decode cX1_takeOut 21 = .ok (.iconst 2, 1) := by decide +kernel
theorem dX1_takeOut_22 : decode cX1_takeOut 22 = .ok (.iload_n 3, 1) := by decide +kernel
theorem dX1_takeOut_23 : decode cX1_takeOut 23 = .ok (.iadd, 1) := by decide +kernel
theorem dX1_takeOut_24 : decode cX1_takeOut 24 = .ok (.aload_n 0, 1) := by decide +kernel
theorem dX1_takeOut_25 : decode cX1_takeOut 25 = .ok (.iload_n 3, 1) := by decide +kernel
theorem dX1_takeOut_26 : decode cX1_takeOut 26 = .ok (.invokevirtual 57, 3) := by decide +kernel
theorem dX1_takeOut_29 : decode cX1_takeOut 29 = .ok (.ineg, 1) := by decide +kernel
theorem dX1_takeOut_30 : decode cX1_takeOut 30 = .ok (.invokevirtual 50, 3) := by decide +kernel
theorem dX1_takeOut_33 : decode cX1_takeOut 33 = .ok (.iinc 3 1, 3) := by decide +kernel
theorem dX1_takeOut_36 : decode cX1_takeOut 36 = .ok (.goto (-28), 3) := by decide +kernel
theorem dX1_takeOut_39 : decode cX1_takeOut 39 = .ok (.return_, 1) := by decide +kernel
theorem dX1_oilAfter_0 : decode cX1_oilAfter 0 = .ok (.iload_n 2, 1) := by decide +kernel
theorem dX1_oilAfter_1 : decode cX1_oilAfter 1 = .ok (.istore_n 3, 1) := by decide +kernel
theorem dX1_oilAfter_2 : decode cX1_oilAfter 2 = .ok (.iconst 0, 1) := by decide +kernel
theorem dX1_oilAfter_3 : decode cX1_oilAfter 3 = .ok (.istore 4, 2) := by decide +kernel
theorem dX1_oilAfter_5 : decode cX1_oilAfter 5 = .ok (.iload 4, 2) := by decide +kernel
theorem dX1_oilAfter_7 : decode cX1_oilAfter 7 = .ok (.iload_n 1, 1) := by decide +kernel
theorem dX1_oilAfter_8 : decode cX1_oilAfter 8 = .ok (.if_icmp .ge 29, 3) := by decide +kernel
theorem dX1_oilAfter_11 : decode cX1_oilAfter 11 = .ok (.iload_n 3, 1) := by decide +kernel
theorem dX1_oilAfter_12 : decode cX1_oilAfter 12 = .ok (.iload_n 3, 1) := by decide +kernel
theorem dX1_oilAfter_13 : decode cX1_oilAfter 13 = .ok (.aload_n 0, 1) := by decide +kernel
theorem dX1_oilAfter_14 : decode cX1_oilAfter 14 = .ok (.getfield 9, 3) := by decide +kernel
theorem dX1_oilAfter_17 : decode cX1_oilAfter 17 = .ok (.getfield 60, 3) := by decide +kernel
theorem dX1_oilAfter_20 : decode cX1_oilAfter 20 = .ok (.iconst 3, 1) := by decide +kernel
theorem dX1_oilAfter_21 : decode cX1_oilAfter 21 = .ok (.invokevirtual 64, 3) := by decide +kernel
theorem dX1_oilAfter_24 : decode cX1_oilAfter 24 = .ok (.imul, 1) := by decide +kernel
theorem dX1_oilAfter_25 : decode cX1_oilAfter 25 = .ok (.sipush 1000, 3) := by decide +kernel
theorem dX1_oilAfter_28 : decode cX1_oilAfter 28 = .ok (.idiv, 1) := by decide +kernel
theorem dX1_oilAfter_29 : decode cX1_oilAfter 29 = .ok (.isub, 1) := by decide +kernel
theorem dX1_oilAfter_30 : decode cX1_oilAfter 30 = .ok (.istore_n 3, 1) := by decide +kernel
theorem dX1_oilAfter_31 : decode cX1_oilAfter 31 = .ok (.iinc 4 1, 3) := by decide +kernel
theorem dX1_oilAfter_34 : decode cX1_oilAfter 34 = .ok (.goto (-29), 3) := by decide +kernel
theorem dX1_oilAfter_37 : decode cX1_oilAfter 37 = .ok (.iload_n 3, 1) := by decide +kernel
theorem dX1_oilAfter_38 : decode cX1_oilAfter 38 = .ok (.ireturn, 1) := by decide +kernel
theorem dX1_settle_0 : decode cX1_settle 0 = .ok (.aload_n 0, 1) := by decide +kernel
theorem dX1_settle_1 : decode cX1_settle 1 = .ok (.getfield 9, 3) := by decide +kernel
theorem dX1_settle_4 : decode cX1_settle 4 = .ok (.getfield 22, 3) := by decide +kernel
theorem dX1_settle_7 : decode cX1_settle 7 = .ok (.iload_n 1, 1) := by decide +kernel
theorem dX1_settle_8 : decode cX1_settle 8 = .ok (.iconst 2, 1) := by decide +kernel
theorem dX1_settle_9 : decode cX1_settle 9 = .ok (.iload_n 2, 1) := by decide +kernel
theorem dX1_settle_10 : decode cX1_settle 10 = .ok (.iadd, 1) := by decide +kernel
theorem dX1_settle_11 : decode cX1_settle 11 = .ok (.invokevirtual 28, 3) := by decide +kernel
theorem dX1_settle_14 : decode cX1_settle 14 = .ok (.istore 4, 2) := by decide +kernel
theorem dX1_settle_16 : decode cX1_settle 16 = .ok (.aload_n 0, 1) := by decide +kernel
theorem dX1_settle_17 : decode cX1_settle 17 = .ok (.iload_n 3, 1) := by decide +kernel
theorem dX1_settle_18 : decode cX1_settle 18 = .ok (.iload 4, 2) := by decide +kernel
theorem dX1_settle_20 : decode cX1_settle 20 = .ok (.invokevirtual 68, 3) := by decide +kernel
theorem dX1_settle_23 : decode cX1_settle 23 = .ok (.istore 5, 2) := by decide +kernel
theorem dX1_settle_25 : decode cX1_settle 25 = .ok (.aload_n 0, 1) := by decide +kernel
theorem dX1_settle_26 : decode cX1_settle 26 = .ok (.getfield 9, 3) := by decide +kernel
theorem dX1_settle_29 : decode cX1_settle 29 = .ok (.getfield 22, 3) := by decide +kernel
theorem dX1_settle_32 : decode cX1_settle 32 = .ok (.iload_n 1, 1) := by decide +kernel
theorem dX1_settle_33 : decode cX1_settle 33 = .ok (.iconst 2, 1) := by decide +kernel
theorem dX1_settle_34 : decode cX1_settle 34 = .ok (.iload_n 2, 1) := by decide +kernel
theorem dX1_settle_35 : decode cX1_settle 35 = .ok (.iadd, 1) := by decide +kernel
theorem dX1_settle_36 : decode cX1_settle 36 = .ok (.iload 5, 2) := by decide +kernel
theorem dX1_settle_38 : decode cX1_settle 38 = .ok (.invokevirtual 46, 3) := by decide +kernel
theorem dX1_settle_41 : decode cX1_settle 41 = .ok (.aload_n 0, 1) := by decide +kernel
theorem dX1_settle_42 : decode cX1_settle 42 = .ok (.getfield 9, 3) := by decide +kernel
theorem dX1_settle_45 : decode cX1_settle 45 = .ok (.getfield 71, 3) := by decide +kernel
theorem dX1_settle_48 : decode cX1_settle 48 = .ok (.iload_n 2, 1) := by decide +kernel
theorem dX1_settle_49 : decode cX1_settle 49 = .ok (.iconst 3, 1) := by decide +kernel
theorem dX1_settle_50 : decode cX1_settle 50 = .ok (.iload 4, 2) := by decide +kernel
theorem dX1_settle_52 : decode cX1_settle 52 = .ok (.iload 5, 2) := by decide +kernel
theorem dX1_settle_54 : decode cX1_settle 54 = .ok (.isub, 1) := by decide +kernel
theorem dX1_settle_55 : decode cX1_settle 55 = .ok (.invokevirtual 50, 3) := by decide +kernel
theorem dX1_settle_58 : decode cX1_settle 58 = .ok (.iload 4, 2) := by decide +kernel
theorem dX1_settle_60 : decode cX1_settle 60 = .ok (.iload 5, 2) := by decide +kernel
theorem dX1_settle_62 : decode cX1_settle 62 = .ok (.isub, 1) := by decide +kernel
theorem dX1_settle_63 : decode cX1_settle 63 = .ok (.ireturn, 1) := by decide +kernel
theorem dX1_part_0 : decode cX1_part 0 = .ok (.iload_n 1, 1) := by decide +kernel
theorem dX1_part_1 : decode cX1_part 1 = .ok (.ifCond .lt 21, 3) := by decide +kernel
theorem dX1_part_4 : decode cX1_part 4 = .ok (.iload_n 1, 1) := by decide +kernel
theorem dX1_part_5 : decode cX1_part 5 = .ok (.aload_n 0, 1) := by decide +kernel
theorem dX1_part_6 : decode cX1_part 6 = .ok (.getfield 15, 3) := by decide +kernel
theorem dX1_part_9 : decode cX1_part 9 = .ok (.arraylength, 1) := by decide +kernel
theorem dX1_part_10 : decode cX1_part 10 = .ok (.if_icmp .ge 12, 3) := by decide +kernel
theorem dX1_part_13 : decode cX1_part 13 = .ok (.aload_n 0, 1) := by decide +kernel
theorem dX1_part_14 : decode cX1_part 14 = .ok (.getfield 15, 3) := by decide +kernel
theorem dX1_part_17 : decode cX1_part 17 = .ok (.iload_n 1, 1) := by decide +kernel
theorem dX1_part_18 : decode cX1_part 18 = .ok (.iaload, 1) := by decide +kernel
theorem dX1_part_19 : decode cX1_part 19 = .ok (.goto 4, 3) := by decide +kernel
theorem dX1_part_22 : decode cX1_part 22 = .ok (.iconst 0, 1) := by decide +kernel
theorem dX1_part_23 : decode cX1_part 23 = .ok (.ireturn, 1) := by decide +kernel
theorem dX1_split_0 : decode cX1_split 0 = .ok (.aload_n 0, 1) := by decide +kernel
theorem dX1_split_1 : decode cX1_split 1 = .ok (.iload_n 1, 1) := by decide +kernel
theorem dX1_split_2 : decode cX1_split 2 = .ok (.invokevirtual 34, 3) := by decide +kernel
theorem dX1_split_5 : decode cX1_split 5 = .ok (.istore_n 3, 1) := by decide +kernel
theorem dX1_split_6 : decode cX1_split 6 = .ok (.iload_n 3, 1) := by decide +kernel
theorem dX1_split_7 : decode cX1_split 7 = .ok (.ifCond .gt 4, 3) := by decide +kernel
theorem dX1_split_10 : decode cX1_split 10 = .ok (.return_, 1) := by decide +kernel
theorem dX1_split_11 : decode cX1_split 11 = .ok (.iload_n 2, 1) := by decide +kernel
theorem dX1_split_12 : decode cX1_split 12 = .ok (.istore 4, 2) := by decide +kernel
theorem dX1_split_14 : decode cX1_split 14 = .ok (.iconst 0, 1) := by decide +kernel
theorem dX1_split_15 : decode cX1_split 15 = .ok (.istore 5, 2) := by decide +kernel
theorem dX1_split_17 : decode cX1_split 17 = .ok (.iload 5, 2) := by decide +kernel
theorem dX1_split_19 : decode cX1_split 19 = .ok (.aload_n 0, 1) := by decide +kernel
theorem dX1_split_20 : decode cX1_split 20 = .ok (.getfield 15, 3) := by decide +kernel
theorem dX1_split_23 : decode cX1_split 23 = .ok (.arraylength, 1) := by decide +kernel
theorem dX1_split_24 : decode cX1_split 24 = .ok (.if_icmp .ge 72, 3) := by decide +kernel
theorem dX1_split_27 : decode cX1_split 27 = .ok (.iload 5, 2) := by decide +kernel
theorem dX1_split_29 : decode cX1_split 29 = .ok (.aload_n 0, 1) := by decide +kernel
theorem dX1_split_30 : decode cX1_split 30 = .ok (.getfield 19, 3) := by decide +kernel
theorem dX1_split_33 : decode cX1_split 33 = .ok (.arraylength, 1) := by decide +kernel
theorem dX1_split_34 : decode cX1_split 34 = .ok (.if_icmp .ge 62, 3) := by decide +kernel
theorem dX1_split_37 : decode cX1_split 37 = .ok (.aload_n 0, 1) := by decide +kernel
theorem dX1_split_38 : decode cX1_split 38 = .ok (.getfield 9, 3) := by decide +kernel
theorem dX1_split_41 : decode cX1_split 41 = .ok (.getfield 22, 3) := by decide +kernel
theorem dX1_split_44 : decode cX1_split 44 = .ok (.iload_n 1, 1) := by decide +kernel
theorem dX1_split_45 : decode cX1_split 45 = .ok (.iconst 2, 1) := by decide +kernel
theorem dX1_split_46 : decode cX1_split 46 = .ok (.iload 5, 2) := by decide +kernel
theorem dX1_split_48 : decode cX1_split 48 = .ok (.iadd, 1) := by decide +kernel
theorem dX1_split_49 : decode cX1_split 49 = .ok (.invokevirtual 28, 3) := by decide +kernel
theorem dX1_split_52 : decode cX1_split 52 = .ok (.iload_n 2, 1) := by decide +kernel
theorem dX1_split_53 : decode cX1_split 53 = .ok (.imul, 1) := by decide +kernel
theorem dX1_split_54 : decode cX1_split 54 = .ok (.istore 6, 2) := by decide +kernel
theorem dX1_split_56 : decode cX1_split 56 = .ok (.aload_n 0, 1) := by decide +kernel
theorem dX1_split_57 : decode cX1_split 57 = .ok (.getfield 15, 3) := by decide +kernel
theorem dX1_split_60 : decode cX1_split 60 = .ok (.iload 5, 2) := by decide +kernel
theorem dX1_split_62 : decode cX1_split 62 = .ok (.iload 6, 2) := by decide +kernel
theorem dX1_split_64 : decode cX1_split 64 = .ok (.iload_n 3, 1) := by decide +kernel
theorem dX1_split_65 : decode cX1_split 65 = .ok (.idiv, 1) := by decide +kernel
theorem dX1_split_66 : decode cX1_split 66 = .ok (.iastore, 1) := by decide +kernel
theorem dX1_split_67 : decode cX1_split 67 = .ok (.aload_n 0, 1) := by decide +kernel
theorem dX1_split_68 : decode cX1_split 68 = .ok (.getfield 19, 3) := by decide +kernel
theorem dX1_split_71 : decode cX1_split 71 = .ok (.iload 5, 2) := by decide +kernel
theorem dX1_split_73 : decode cX1_split 73 = .ok (.iload 6, 2) := by decide +kernel
theorem dX1_split_75 : decode cX1_split 75 = .ok (.iload_n 3, 1) := by decide +kernel
theorem dX1_split_76 : decode cX1_split 76 = .ok (.irem, 1) := by decide +kernel
theorem dX1_split_77 : decode cX1_split 77 = .ok (.iastore, 1) := by decide +kernel
theorem dX1_split_78 : decode cX1_split 78 = .ok (.iload 4, 2) := by decide +kernel
theorem dX1_split_80 : decode cX1_split 80 = .ok (.aload_n 0, 1) := by decide +kernel
theorem dX1_split_81 : decode cX1_split 81 = .ok (.getfield 15, 3) := by decide +kernel
theorem dX1_split_84 : decode cX1_split 84 = .ok (.iload 5, 2) := by decide +kernel
theorem dX1_split_86 : decode cX1_split 86 = .ok (.iaload, 1) := by decide +kernel
theorem dX1_split_87 : decode cX1_split 87 = .ok (.isub, 1) := by decide +kernel
theorem dX1_split_88 : decode cX1_split 88 = .ok (.istore 4, 2) := by decide +kernel
theorem dX1_split_90 : decode cX1_split 90 = .ok (.iinc 5 1, 3) := by decide +kernel
theorem dX1_split_93 : decode cX1_split 93 = .ok (.goto (-76), 3) := by decide +kernel
theorem dX1_split_96 : decode cX1_split 96 = .ok (.iconst 0, 1) := by decide +kernel
theorem dX1_split_97 : decode cX1_split 97 = .ok (.istore 5, 2) := by decide +kernel
theorem dX1_split_99 : decode cX1_split 99 = .ok (.iload 5, 2) := by decide +kernel
theorem dX1_split_101 : decode cX1_split 101 = .ok (.iconst 5, 1) := by decide +kernel
theorem dX1_split_102 : decode cX1_split 102 = .ok (.if_icmp .ge 25, 3) := by decide +kernel
theorem dX1_split_105 : decode cX1_split 105 = .ok (.iload 4, 2) := by decide +kernel
theorem dX1_split_107 : decode cX1_split 107 = .ok (.ifCond .le 20, 3) := by decide +kernel
theorem dX1_split_110 : decode cX1_split 110 = .ok (.aload_n 0, 1) := by decide +kernel
theorem dX1_split_111 : decode cX1_split 111 = .ok (.aload_n 0, 1) := by decide +kernel
theorem dX1_split_112 : decode cX1_split 112 = .ok (.invokevirtual 74, 3) := by decide +kernel
theorem dX1_split_115 : decode cX1_split 115 = .ok (.invokevirtual 78, 3) := by decide +kernel
theorem dX1_split_118 : decode cX1_split 118 = .ok (.iinc 4 (-1), 3) := by decide +kernel
theorem dX1_split_121 : decode cX1_split 121 = .ok (.iinc 5 1, 3) := by decide +kernel
theorem dX1_split_124 : decode cX1_split 124 = .ok (.goto (-25), 3) := by decide +kernel
theorem dX1_split_127 : decode cX1_split 127 = .ok (.return_, 1) := by decide +kernel
theorem dX1_greatestRemainder_0 : decode cX1_greatestRemainder 0 = .ok (.iconst 0, 1) := by decide +kernel
theorem dX1_greatestRemainder_1 : decode cX1_greatestRemainder 1 = .ok (.istore_n 1, 1) := by decide +kernel
theorem dX1_greatestRemainder_2 : decode cX1_greatestRemainder 2 = .ok (.iconst 1, 1) := by decide +kernel
theorem dX1_greatestRemainder_3 : decode cX1_greatestRemainder 3 = .ok (.istore_n 2, 1) := by decide +kernel
theorem dX1_greatestRemainder_4 : decode cX1_greatestRemainder 4 = .ok (.iload_n 2, 1) := by decide +kernel
theorem dX1_greatestRemainder_5 : decode cX1_greatestRemainder 5 = .ok (.aload_n 0, 1) := by decide +kernel
theorem dX1_greatestRemainder_6 : decode cX1_greatestRemainder 6 = .ok (.getfield 19, 3) := by decide +kernel
theorem dX1_greatestRemainder_9 : decode cX1_greatestRemainder 9 = .ok (.arraylength, 1) := by decide +kernel
theorem dX1_greatestRemainder_10 : decode cX1_greatestRemainder 10 = .ok (.if_icmp .ge 26, 3) := by decide +kernel
theorem dX1_greatestRemainder_13 : decode cX1_greatestRemainder 13 = .ok (.aload_n 0, 1) := by decide +kernel
theorem dX1_greatestRemainder_14 : decode cX1_greatestRemainder 14 = .ok (.getfield 19, 3) := by decide +kernel
theorem dX1_greatestRemainder_17 : decode cX1_greatestRemainder 17 = .ok (.iload_n 2, 1) := by decide +kernel
theorem dX1_greatestRemainder_18 : decode cX1_greatestRemainder 18 = .ok (.iaload, 1) := by decide +kernel
theorem dX1_greatestRemainder_19 : decode cX1_greatestRemainder 19 = .ok (.aload_n 0, 1) := by decide +kernel
theorem dX1_greatestRemainder_20 : decode cX1_greatestRemainder 20 = .ok (.getfield 19, 3) := by decide +kernel
theorem dX1_greatestRemainder_23 : decode cX1_greatestRemainder 23 = .ok (.iload_n 1, 1) := by decide +kernel
theorem dX1_greatestRemainder_24 : decode cX1_greatestRemainder 24 = .ok (.iaload, 1) := by decide +kernel
theorem dX1_greatestRemainder_25 : decode cX1_greatestRemainder 25 = .ok (.if_icmp .le 5, 3) := by decide +kernel
theorem dX1_greatestRemainder_28 : decode cX1_greatestRemainder 28 = .ok (.iload_n 2, 1) := by decide +kernel
theorem dX1_greatestRemainder_29 : decode cX1_greatestRemainder 29 = .ok (.istore_n 1, 1) := by decide +kernel
theorem dX1_greatestRemainder_30 : decode cX1_greatestRemainder 30 = .ok (.iinc 2 1, 3) := by decide +kernel
theorem dX1_greatestRemainder_33 : decode cX1_greatestRemainder 33 = .ok (.goto (-29), 3) := by decide +kernel
theorem dX1_greatestRemainder_36 : decode cX1_greatestRemainder 36 = .ok (.iload_n 1, 1) := by decide +kernel
theorem dX1_greatestRemainder_37 : decode cX1_greatestRemainder 37 = .ok (.ireturn, 1) := by decide +kernel
theorem dX1_roundUp_0 : decode cX1_roundUp 0 = .ok (.iload_n 1, 1) := by decide +kernel
theorem dX1_roundUp_1 : decode cX1_roundUp 1 = .ok (.ifCond .lt 38, 3) := by decide +kernel
theorem dX1_roundUp_4 : decode cX1_roundUp 4 = .ok (.iload_n 1, 1) := by decide +kernel
theorem dX1_roundUp_5 : decode cX1_roundUp 5 = .ok (.aload_n 0, 1) := by decide +kernel
theorem dX1_roundUp_6 : decode cX1_roundUp 6 = .ok (.getfield 15, 3) := by decide +kernel
theorem dX1_roundUp_9 : decode cX1_roundUp 9 = .ok (.arraylength, 1) := by decide +kernel
theorem dX1_roundUp_10 : decode cX1_roundUp 10 = .ok (.if_icmp .ge 29, 3) := by decide +kernel
theorem dX1_roundUp_13 : decode cX1_roundUp 13 = .ok (.iload_n 1, 1) := by decide +kernel
theorem dX1_roundUp_14 : decode cX1_roundUp 14 = .ok (.aload_n 0, 1) := by decide +kernel
theorem dX1_roundUp_15 : decode cX1_roundUp 15 = .ok (.getfield 19, 3) := by decide +kernel
theorem dX1_roundUp_18 : decode cX1_roundUp 18 = .ok (.arraylength, 1) := by decide +kernel
theorem dX1_roundUp_19 : decode cX1_roundUp 19 = .ok (.if_icmp .ge 20, 3) := by decide +kernel
theorem dX1_roundUp_22 : decode cX1_roundUp 22 = .ok (.aload_n 0, 1) := by decide +kernel
theorem dX1_roundUp_23 : decode cX1_roundUp 23 = .ok (.getfield 15, 3) := by decide +kernel
theorem dX1_roundUp_26 : decode cX1_roundUp 26 = .ok (.iload_n 1, 1) := by decide +kernel
theorem dX1_roundUp_27 : decode cX1_roundUp 27 = .ok (.dup2, 1) := by decide +kernel
theorem dX1_roundUp_28 : decode cX1_roundUp 28 = .ok (.iaload, 1) := by decide +kernel
theorem dX1_roundUp_29 : decode cX1_roundUp 29 = .ok (.iconst 1, 1) := by decide +kernel
theorem dX1_roundUp_30 : decode cX1_roundUp 30 = .ok (.iadd, 1) := by decide +kernel
theorem dX1_roundUp_31 : decode cX1_roundUp 31 = .ok (.iastore, 1) := by decide +kernel
theorem dX1_roundUp_32 : decode cX1_roundUp 32 = .ok (.aload_n 0, 1) := by decide +kernel
theorem dX1_roundUp_33 : decode cX1_roundUp 33 = .ok (.getfield 19, 3) := by decide +kernel
theorem dX1_roundUp_36 : decode cX1_roundUp 36 = .ok (.iload_n 1, 1) := by decide +kernel
theorem dX1_roundUp_37 : decode cX1_roundUp 37 = .ok (.iconst 0, 1) := by decide +kernel
theorem dX1_roundUp_38 : decode cX1_roundUp 38 = .ok (.iastore, 1) := by decide +kernel
theorem dX1_roundUp_39 : decode cX1_roundUp 39 = .ok (.return_, 1) := by decide +kernel
theorem dX2_init_0 : decode cX2_init 0 = .ok (.aload_n 0, 1) := by decide +kernel
theorem dX2_init_1 : decode cX2_init 1 = .ok (.invokespecial 3, 3) := by decide +kernel
theorem dX2_init_4 : decode cX2_init 4 = .ok (.aload_n 0, 1) := by decide +kernel
theorem dX2_init_5 : decode cX2_init 5 = .ok (.aload_n 1, 1) := by decide +kernel
theorem dX2_init_6 : decode cX2_init 6 = .ok (.putfield 9, 3) := by decide +kernel
theorem dX2_init_9 : decode cX2_init 9 = .ok (.aload_n 0, 1) := by decide +kernel
theorem dX2_init_10 : decode cX2_init 10 = .ok (.bipush 40, 2) := by decide +kernel
theorem dX2_init_12 : decode cX2_init 12 = .ok (.newarray .boolean, 2) := by decide +kernel
theorem dX2_init_14 : decode cX2_init 14 = .ok (.putfield 15, 3) := by decide +kernel
theorem dX2_init_17 : decode cX2_init 17 = .ok (.return_, 1) := by decide +kernel
theorem dX2_begin_0 : decode cX2_begin 0 = .ok (.aload_n 0, 1) := by decide +kernel
theorem dX2_begin_1 : decode cX2_begin 1 = .ok (.getfield 9, 3) := by decide +kernel
theorem dX2_begin_4 : decode cX2_begin 4 = .ok (.getfield 19, 3) := by decide +kernel
theorem dX2_begin_7 : decode cX2_begin 7 = .ok (.iconst 1, 1) := by decide +kernel
theorem dX2_begin_8 : decode cX2_begin 8 = .ok (.invokevirtual 25, 3) := by decide +kernel
theorem dX2_begin_11 : decode cX2_begin 11 = .ok (.istore_n 1, 1) := by decide +kernel
theorem dX2_begin_12 : decode cX2_begin 12 = .ok (.iconst 0, 1) := by decide +kernel
theorem dX2_begin_13 : decode cX2_begin 13 = .ok (.istore_n 2, 1) := by decide +kernel
theorem dX2_begin_14 : decode cX2_begin 14 = .ok (.iload_n 2, 1) := by decide +kernel
theorem dX2_begin_15 : decode cX2_begin 15 = .ok (.aload_n 0, 1) := by decide +kernel
theorem dX2_begin_16 : decode cX2_begin 16 = .ok (.getfield 15, 3) := by decide +kernel
theorem dX2_begin_19 : decode cX2_begin 19 = .ok (.arraylength, 1) := by decide +kernel
theorem dX2_begin_20 : decode cX2_begin 20 = .ok (.if_icmp .ge 40, 3) := by decide +kernel
theorem dX2_begin_23 : decode cX2_begin 23 = .ok (.aload_n 0, 1) := by decide +kernel
theorem dX2_begin_24 : decode cX2_begin 24 = .ok (.getfield 15, 3) := by decide +kernel
theorem dX2_begin_27 : decode cX2_begin 27 = .ok (.iload_n 2, 1) := by decide +kernel
theorem dX2_begin_28 : decode cX2_begin 28 = .ok (.iload_n 2, 1) := by decide +kernel
theorem dX2_begin_29 : decode cX2_begin 29 = .ok (.iload_n 1, 1) := by decide +kernel
theorem dX2_begin_30 : decode cX2_begin 30 = .ok (.if_icmp .ge 22, 3) := by decide +kernel
theorem dX2_begin_33 : decode cX2_begin 33 = .ok (.aload_n 0, 1) := by decide +kernel
theorem dX2_begin_34 : decode cX2_begin 34 = .ok (.getfield 9, 3) := by decide +kernel
theorem dX2_begin_37 : decode cX2_begin 37 = .ok (.getfield 31, 3) := by decide +kernel
theorem dX2_begin_40 : decode cX2_begin 40 = .ok (.iload_n 2, 1) := by decide +kernel
theorem dX2_begin_41 : decode cX2_begin 41 = .ok (.iconst 5, 1) := by decide +kernel
theorem dX2_begin_42 : decode cX2_begin 42 = .ok (.invokevirtual 35, 3) := by decide +kernel
theorem dX2_begin_45 : decode cX2_begin 45 = .ok (.ifCond .ne 7, 3) := by decide +kernel
theorem dX2_begin_48 : decode cX2_begin 48 = .ok (.iconst 1, 1) := by decide +kernel
theorem dX2_begin_49 : decode cX2_begin 49 = .ok (.goto 4, 3) := by decide +kernel
theorem dX2_begin_52 : decode cX2_begin 52 = .ok (.iconst 0, 1) := by decide +kernel
theorem dX2_begin_53 : decode cX2_begin 53 = .ok (.bastore, 1) := by decide +kernel
theorem dX2_begin_54 : decode cX2_begin 54 = .ok (.iinc 2 1, 3) := by decide +kernel
theorem dX2_begin_57 : decode cX2_begin 57 = .ok (.goto (-43), 3) := by decide +kernel
theorem dX2_begin_60 : decode cX2_begin 60 = .ok (.aload_n 0, 1) := by decide +kernel
theorem dX2_begin_61 : decode cX2_begin 61 = .ok (.aload_n 0, 1) := by decide +kernel
theorem dX2_begin_62 : decode cX2_begin 62 = .ok (.getfield 9, 3) := by decide +kernel
theorem dX2_begin_65 : decode cX2_begin 65 = .ok (.getfield 19, 3) := by decide +kernel
theorem dX2_begin_68 : decode cX2_begin 68 = .ok (.iconst 3, 1) := by decide +kernel
theorem dX2_begin_69 : decode cX2_begin 69 = .ok (.invokevirtual 25, 3) := by decide +kernel
theorem dX2_begin_72 : decode cX2_begin 72 = .ok (.putfield 40, 3) := by decide +kernel
theorem dX2_begin_75 : decode cX2_begin 75 = .ok (.aload_n 0, 1) := by decide +kernel
theorem dX2_begin_76 : decode cX2_begin 76 = .ok (.aload_n 0, 1) := by decide +kernel
theorem dX2_begin_77 : decode cX2_begin 77 = .ok (.getfield 9, 3) := by decide +kernel
theorem dX2_begin_80 : decode cX2_begin 80 = .ok (.getfield 19, 3) := by decide +kernel
theorem dX2_begin_83 : decode cX2_begin 83 = .ok (.iconst 4, 1) := by decide +kernel
theorem dX2_begin_84 : decode cX2_begin 84 = .ok (.invokevirtual 25, 3) := by decide +kernel
theorem dX2_begin_87 : decode cX2_begin 87 = .ok (.putfield 44, 3) := by decide +kernel
theorem dX2_begin_90 : decode cX2_begin 90 = .ok (.return_, 1) := by decide +kernel
theorem dX2_lookAhead_0 : decode cX2_lookAhead 0 = .ok (.aload_n 0, 1) := by decide +kernel
theorem dX2_lookAhead_1 : decode cX2_lookAhead 1 = .ok (.invokevirtual 47, 3) := by decide +kernel
theorem dX2_lookAhead_4 : decode cX2_lookAhead 4 = .ok (.aload_n 0, 1) := by decide +kernel
theorem dX2_lookAhead_5 : decode cX2_lookAhead 5 = .ok (.aload_n 0, 1) := by decide +kernel
theorem dX2_lookAhead_6 : decode cX2_lookAhead 6 = .ok (.getfield 9, 3) := by decide +kernel
theorem dX2_lookAhead_9 : decode cX2_lookAhead 9 = .ok (.getfield 50, 3) := by decide +kernel
theorem dX2_lookAhead_12 : decode cX2_lookAhead 12 = .ok (.iconst 5, 1) := by decide +kernel
theorem dX2_lookAhead_13 : decode cX2_lookAhead 13 = .ok (.invokevirtual 25, 3) := by decide +kernel
theorem dX2_lookAhead_16 : decode cX2_lookAhead 16 = .ok (.invokevirtual 53, 3) := by decide +kernel
theorem dX2_lookAhead_19 : decode cX2_lookAhead 19 = .ok (.ireturn, 1) := by decide +kernel
theorem dX2_step_0 : decode cX2_step 0 = .ok (.aload_n 0, 1) := by decide +kernel
theorem dX2_step_1 : decode cX2_step 1 = .ok (.aload_n 0, 1) := by decide +kernel
theorem dX2_step_2 : decode cX2_step 2 = .ok (.iload_n 1, 1) := by decide +kernel
theorem dX2_step_3 : decode cX2_step 3 = .ok (.invokevirtual 57, 3) := by decide +kernel
theorem dX2_step_6 : decode cX2_step 6 = .ok (.putfield 60, 3) := by decide +kernel
theorem dX2_step_9 : decode cX2_step 9 = .ok (.aload_n 0, 1) := by decide +kernel
theorem dX2_step_10 : decode cX2_step 10 = .ok (.getfield 60, 3) := by decide +kernel
theorem dX2_step_13 : decode cX2_step 13 = .ok (.ifCond .lt 15, 3) := by decide +kernel
theorem dX2_step_16 : decode cX2_step 16 = .ok (.aload_n 0, 1) := by decide +kernel
theorem dX2_step_17 : decode cX2_step 17 = .ok (.getfield 60, 3) := by decide +kernel
theorem dX2_step_20 : decode cX2_step 20 = .ok (.aload_n 0, 1) := by decide +kernel
theorem dX2_step_21 : decode cX2_step 21 = .ok (.getfield 15, 3) := by decide +kernel
theorem dX2_step_24 : decode cX2_step 24 = .ok (.arraylength, 1) := by decide +kernel
theorem dX2_step_25 : decode cX2_step 25 = .ok (.if_icmp .lt 5, 3) := by decide +kernel
theorem dX2_step_28 : decode cX2_step 28 = .ok (.iconst 0, 1) := by decide +kernel
theorem dX2_step_29 : decode cX2_step 29 = .ok (.ireturn, 1) := by decide +kernel
theorem dX2_step_30 : decode cX2_step 30 = .ok (.aload_n 0, 1) := by decide +kernel
theorem dX2_step_31 : decode cX2_step 31 = .ok (.getfield 15, 3) := by decide +kernel
theorem dX2_step_34 : decode cX2_step 34 = .ok (.aload_n 0, 1) := by decide +kernel
theorem dX2_step_35 : decode cX2_step 35 = .ok (.getfield 60, 3) := by decide +kernel
theorem dX2_step_38 : decode cX2_step 38 = .ok (.iconst 0, 1) := by decide +kernel
theorem dX2_step_39 : decode cX2_step 39 = .ok (.bastore, 1) := by decide +kernel
theorem dX2_step_40 : decode cX2_step 40 = .ok (.aload_n 0, 1) := by decide +kernel
theorem dX2_step_41 : decode cX2_step 41 = .ok (.invokevirtual 63, 3) := by decide +kernel
theorem dX2_step_44 : decode cX2_step 44 = .ok (.aload_n 0, 1) := by decide +kernel
theorem dX2_step_45 : decode cX2_step 45 = .ok (.iload_n 1, 1) := by decide +kernel
theorem dX2_step_46 : decode cX2_step 46 = .ok (.invokevirtual 66, 3) := by decide +kernel
theorem dX2_step_49 : decode cX2_step 49 = .ok (.iconst 1, 1) := by decide +kernel
theorem dX2_step_50 : decode cX2_step 50 = .ok (.ireturn, 1) := by decide +kernel
theorem dX2_lotInTurn_0 : decode cX2_lotInTurn 0 = .ok (.iload_n 1, 1) := by decide +kernel
theorem dX2_lotInTurn_1 : decode cX2_lotInTurn 1 = .ok (.iconst 1, 1) := by decide +kernel
theorem dX2_lotInTurn_2 : decode cX2_lotInTurn 2 = .ok (.if_icmp .ne 57, 3) := by decide +kernel
theorem dX2_lotInTurn_5 : decode cX2_lotInTurn 5 = .ok (.aload_n 0, 1) := by decide +kernel
theorem dX2_lotInTurn_6 : decode cX2_lotInTurn 6 = .ok (.getfield 44, 3) := by decide +kernel
theorem dX2_lotInTurn_9 : decode cX2_lotInTurn 9 = .ok (.ifCond .le 50, 3) := by decide +kernel
theorem dX2_lotInTurn_12 : decode cX2_lotInTurn 12 = .ok (.iconst 0, 1) := by decide +kernel
theorem dX2_lotInTurn_13 : decode cX2_lotInTurn 13 = .ok (.istore_n 2, 1) := by decide +kernel
theorem dX2_lotInTurn_14 : decode cX2_lotInTurn 14 = .ok (.iload_n 2, 1) := by decide +kernel
theorem dX2_lotInTurn_15 : decode cX2_lotInTurn 15 = .ok (.aload_n 0, 1) := by decide +kernel
theorem dX2_lotInTurn_16 : decode cX2_lotInTurn 16 = .ok (.getfield 15, 3) := by decide +kernel
theorem dX2_lotInTurn_19 : decode cX2_lotInTurn 19 = .ok (.arraylength, 1) := by decide +kernel
theorem dX2_lotInTurn_20 : decode cX2_lotInTurn 20 = .ok (.if_icmp .ge 39, 3) := by decide +kernel
theorem dX2_lotInTurn_23 : decode cX2_lotInTurn 23 = .ok (.aload_n 0, 1) := by decide +kernel
theorem dX2_lotInTurn_24 : decode cX2_lotInTurn 24 = .ok (.getfield 15, 3) := by decide +kernel
theorem dX2_lotInTurn_27 : decode cX2_lotInTurn 27 = .ok (.iload_n 2, 1) := by decide +kernel
theorem dX2_lotInTurn_28 : decode cX2_lotInTurn 28 = .ok (.baload, 1) := by decide +kernel
theorem dX2_lotInTurn_29 : decode cX2_lotInTurn 29 = .ok (.ifCond .eq 24, 3) := by decide +kernel
theorem dX2_lotInTurn_32 : decode cX2_lotInTurn 32 = .ok (.aload_n 0, 1) := by decide +kernel
theorem dX2_lotInTurn_33 : decode cX2_lotInTurn 33 = .ok (.getfield 9, 3) := by decide +kernel
theorem dX2_lotInTurn_36 : decode cX2_lotInTurn 36 = .ok (.getfield 31, 3) := by decide +kernel
theorem dX2_lotInTurn_39 : decode cX2_lotInTurn 39 = .ok (.iload_n 2, 1) := by decide +kernel
theorem dX2_lotInTurn_40 : decode cX2_lotInTurn 40 = .ok (.iconst 1, 1) := by decide +kernel
theorem dX2_lotInTurn_41 : decode cX2_lotInTurn 41 = .ok (.invokevirtual 35, 3) := by decide +kernel
theorem dX2_lotInTurn_44 : decode cX2_lotInTurn 44 = .ok (.aload_n 0, 1) := by decide +kernel
theorem dX2_lotInTurn_45 : decode cX2_lotInTurn 45 = .ok (.getfield 40, 3) := by decide +kernel
theorem dX2_lotInTurn_48 : decode cX2_lotInTurn 48 = .ok (.if_icmp .ne 5, 3) := by decide +kernel
theorem dX2_lotInTurn_51 : decode cX2_lotInTurn 51 = .ok (.iload_n 2, 1) := by decide +kernel
theorem dX2_lotInTurn_52 : decode cX2_lotInTurn 52 = .ok (.ireturn, 1) := by decide +kernel
theorem dX2_lotInTurn_53 : decode cX2_lotInTurn 53 = .ok (.iinc 2 1, 3) := by decide +kernel
theorem dX2_lotInTurn_56 : decode cX2_lotInTurn 56 = .ok (.goto (-42), 3) := by decide +kernel
theorem dX2_lotInTurn_59 : decode cX2_lotInTurn 59 = .ok (.iconst 0, 1) := by decide +kernel
theorem dX2_lotInTurn_60 : decode cX2_lotInTurn 60 = .ok (.istore_n 2, 1) := by decide +kernel
theorem dX2_lotInTurn_61 : decode cX2_lotInTurn 61 = .ok (.iload_n 2, 1) := by decide +kernel
theorem dX2_lotInTurn_62 : decode cX2_lotInTurn 62 = .ok (.aload_n 0, 1) := by decide +kernel
theorem dX2_lotInTurn_63 : decode cX2_lotInTurn 63 = .ok (.getfield 15, 3) := by decide +kernel
theorem dX2_lotInTurn_66 : decode cX2_lotInTurn 66 = .ok (.arraylength, 1) := by decide +kernel
theorem dX2_lotInTurn_67 : decode cX2_lotInTurn 67 = .ok (.if_icmp .ge 20, 3) := by decide +kernel
theorem dX2_lotInTurn_70 : decode cX2_lotInTurn 70 = .ok (.aload_n 0, 1) := by decide +kernel
theorem dX2_lotInTurn_71 : decode cX2_lotInTurn 71 = .ok (.getfield 15, 3) := by decide +kernel
theorem dX2_lotInTurn_74 : decode cX2_lotInTurn 74 = .ok (.iload_n 2, 1) := by decide +kernel
theorem dX2_lotInTurn_75 : decode cX2_lotInTurn 75 = .ok (.baload, 1) := by decide +kernel
theorem dX2_lotInTurn_76 : decode cX2_lotInTurn 76 = .ok (.ifCond .eq 5, 3) := by decide +kernel
theorem dX2_lotInTurn_79 : decode cX2_lotInTurn 79 = .ok (.iload_n 2, 1) := by decide +kernel
theorem dX2_lotInTurn_80 : decode cX2_lotInTurn 80 = .ok (.ireturn, 1) := by decide +kernel
theorem dX2_lotInTurn_81 : decode cX2_lotInTurn 81 = .ok (.iinc 2 1, 3) := by decide +kernel
theorem dX2_lotInTurn_84 : decode cX2_lotInTurn 84 = .ok (.goto (-23), 3) := by decide +kernel
theorem dX2_lotInTurn_87 : decode cX2_lotInTurn 87 = .ok (.iconst (-1), 1) := by decide +kernel
theorem dX2_lotInTurn_88 : decode cX2_lotInTurn 88 = .ok (.ireturn, 1) := by decide +kernel
theorem dX2_weigh_0 : decode cX2_weigh 0 = .ok (.aload_n 0, 1) := by decide +kernel
theorem dX2_weigh_1 : decode cX2_weigh 1 = .ok (.getfield 9, 3) := by decide +kernel
theorem dX2_weigh_4 : decode cX2_weigh 4 = .ok (.getfield 70, 3) := by decide +kernel
theorem dX2_weigh_7 : decode cX2_weigh 7 = .ok (.aload_n 0, 1) := by decide +kernel
theorem dX2_weigh_8 : decode cX2_weigh 8 = .ok (.getfield 9, 3) := by decide +kernel
theorem dX2_weigh_11 : decode cX2_weigh 11 = .ok (.getfield 31, 3) := by decide +kernel
theorem dX2_weigh_14 : decode cX2_weigh 14 = .ok (.aload_n 0, 1) := by decide +kernel
theorem dX2_weigh_15 : decode cX2_weigh 15 = .ok (.getfield 60, 3) := by decide +kernel
theorem dX2_weigh_18 : decode cX2_weigh 18 = .ok (.iconst 1, 1) := by decide +kernel
theorem dX2_weigh_19 : decode cX2_weigh 19 = .ok (.invokevirtual 35, 3) := by decide +kernel
theorem dX2_weigh_22 : decode cX2_weigh 22 = .ok (.iconst 0, 1) := by decide +kernel
theorem dX2_weigh_23 : decode cX2_weigh 23 = .ok (.invokevirtual 35, 3) := by decide +kernel
theorem dX2_weigh_26 : decode cX2_weigh 26 = .ok (.istore_n 1, 1) := by decide +kernel
theorem dX2_weigh_27 : decode cX2_weigh 27 = .ok (.aload_n 0, 1) := by decide +kernel
theorem dX2_weigh_28 : decode cX2_weigh 28 = .ok (.aload_n 0, 1) := by decide +kernel
theorem dX2_weigh_29 : decode cX2_weigh 29 = .ok (.getfield 9, 3) := by decide +kernel
theorem dX2_weigh_32 : decode cX2_weigh 32 = .ok (.getfield 31, 3) := by decide +kernel
theorem dX2_weigh_35 : decode cX2_weigh 35 = .ok (.aload_n 0, 1) := by decide +kernel
theorem dX2_weigh_36 : decode cX2_weigh 36 = .ok (.getfield 60, 3) := by decide +kernel
theorem dX2_weigh_39 : decode cX2_weigh 39 = .ok (.iconst 2, 1) := by decide +kernel
theorem dX2_weigh_40 : decode cX2_weigh 40 = .ok (.invokevirtual 35, 3) := by decide +kernel
theorem dX2_weigh_43 : decode cX2_weigh 43 = .ok (.iload_n 1, 1) := by decide +kernel
theorem dX2_weigh_44 : decode cX2_weigh 44 = .ok (.imul, 1) := by decide +kernel
theorem dX2_weigh_45 : decode cX2_weigh 45 = .ok (.bipush 100, 2) := by decide +kernel
theorem dX2_weigh_47 : decode cX2_weigh 47 = .ok (.idiv, 1) := by decide +kernel
theorem dX2_weigh_48 : decode cX2_weigh 48 = .ok (.putfield 73, 3) := by decide +kernel
theorem dX2_weigh_51 : decode cX2_weigh 51 = .ok (.aload_n 0, 1) := by decide +kernel
theorem dX2_weigh_52 : decode cX2_weigh 52 = .ok (.aload_n 0, 1) := by decide +kernel
theorem dX2_weigh_53 : decode cX2_weigh 53 = .ok (.getfield 73, 3) := by decide +kernel
theorem dX2_weigh_56 : decode cX2_weigh 56 = .ok (.aload_n 0, 1) := by decide +kernel
theorem dX2_weigh_57 : decode cX2_weigh 57 = .ok (.getfield 9, 3) := by decide +kernel
theorem dX2_weigh_60 : decode cX2_weigh 60 = .ok (.getfield 31, 3) := by decide +kernel
theorem dX2_weigh_63 : decode cX2_weigh 63 = .ok (.aload_n 0, 1) := by decide +kernel
theorem dX2_weigh_64 : decode cX2_weigh 64 = .ok (.getfield 60, 3) := by decide +kernel
theorem dX2_weigh_67 : decode cX2_weigh 67 = .ok (.iconst 4, 1) := by decide +kernel
theorem dX2_weigh_68 : decode cX2_weigh 68 = .ok (.invokevirtual 35, 3) := by decide +kernel
theorem dX2_weigh_71 : decode cX2_weigh 71 = .ok (.imul, 1) := by decide +kernel
theorem dX2_weigh_72 : decode cX2_weigh 72 = .ok (.sipush 1000, 3) := by decide +kernel
theorem dX2_weigh_75 : decode cX2_weigh 75 = .ok (.idiv, 1) := by decide +kernel
theorem dX2_weigh_76 : decode cX2_weigh 76 = .ok (.putfield 76, 3) := by decide +kernel
theorem dX2_weigh_79 : decode cX2_weigh 79 = .ok (.aload_n 0, 1) := by decide +kernel
theorem dX2_weigh_80 : decode cX2_weigh 80 = .ok (.aload_n 0, 1) := by decide +kernel
theorem dX2_weigh_81 : decode cX2_weigh 81 = .ok (.getfield 76, 3) := by decide +kernel
theorem dX2_weigh_84 : decode cX2_weigh 84 = .ok (.aload_n 0, 1) := by decide +kernel
theorem dX2_weigh_85 : decode cX2_weigh 85 = .ok (.getfield 9, 3) := by decide +kernel
theorem dX2_weigh_88 : decode cX2_weigh 88 = .ok (.getfield 50, 3) := by decide +kernel
theorem dX2_weigh_91 : decode cX2_weigh 91 = .ok (.iconst 1, 1) := by decide +kernel
theorem dX2_weigh_92 : decode cX2_weigh 92 = .ok (.invokevirtual 25, 3) := by decide +kernel
theorem dX2_weigh_95 : decode cX2_weigh 95 = .ok (.imul, 1) := by decide +kernel
theorem dX2_weigh_96 : decode cX2_weigh 96 = .ok (.sipush 1000, 3) := by decide +kernel
theorem dX2_weigh_99 : decode cX2_weigh 99 = .ok (.idiv, 1) := by decide +kernel
theorem dX2_weigh_100 : decode cX2_weigh 100 = .ok (.putfield 79, 3) := by decide +kernel
theorem dX2_weigh_103 : decode cX2_weigh 103 = .ok (.return_, 1) := by decide +kernel
theorem dX2_passThroughMill_0 : decode cX2_passThroughMill 0 = .ok (.aload_n 0, 1) := by decide +kernel
theorem dX2_passThroughMill_1 : decode cX2_passThroughMill 1 = .ok (.getfield 9, 3) := by decide +kernel
theorem dX2_passThroughMill_4 : decode cX2_passThroughMill 4 = .ok (.getfield 31, 3) := by decide +kernel
theorem dX2_passThroughMill_7 : decode cX2_passThroughMill 7 = .ok (.aload_n 0, 1) := by decide +kernel
theorem dX2_passThroughMill_8 : decode cX2_passThroughMill 8 = .ok (.getfield 60, 3) := by decide +kernel
theorem dX2_passThroughMill_11 : decode cX2_passThroughMill 11 = .ok (.iconst 1, 1) := by decide +kernel
theorem dX2_passThroughMill_12 : decode cX2_passThroughMill 12 = .ok (.invokevirtual 35, 3) := by decide +kernel
theorem dX2_passThroughMill_15 : decode cX2_passThroughMill 15 = .ok (.istore_n 2, 1) := by decide +kernel
theorem dX2_passThroughMill_16 : decode cX2_passThroughMill 16 = .ok (.aload_n 0, 1) := by decide +kernel
theorem dX2_passThroughMill_17 : decode cX2_passThroughMill 17 = .ok (.getfield 40, 3) := by decide +kernel
theorem dX2_passThroughMill_20 : decode cX2_passThroughMill 20 = .ok (.iload_n 2, 1) := by decide +kernel
theorem dX2_passThroughMill_21 : decode cX2_passThroughMill 21 = .ok (.if_icmp .ne 7, 3) := by decide +kernel
theorem dX2_passThroughMill_24 : decode cX2_passThroughMill 24 = .ok (.iconst 0, 1) := by decide +kernel
theorem dX2_passThroughMill_25 : decode cX2_passThroughMill 25 = .ok (.goto 7, 3) := by decide +kernel
theorem dX2_passThroughMill_28 : decode cX2_passThroughMill 28 = .ok (.aload_n 0, 1) := by decide +kernel
theorem dX2_passThroughMill_29 : decode cX2_passThroughMill 29 = .ok (.getfield 44, 3) := by decide +kernel
theorem dX2_passThroughMill_32 : decode cX2_passThroughMill 32 = .ok (.istore_n 3, 1) := by decide +kernel
theorem dX2_passThroughMill_33 : decode cX2_passThroughMill 33 = .ok (.aload_n 0, 1) := by decide +kernel
theorem dX2_passThroughMill_34 : decode cX2_passThroughMill 34 = .ok (.getfield 79, 3) := by decide +kernel
theorem dX2_passThroughMill_37 : decode cX2_passThroughMill 37 = .ok (.aload_n 0, 1) := by decide +kernel
theorem dX2_passThroughMill_38 : decode cX2_passThroughMill 38 = .ok (.getfield 44, 3) := by decide +kernel
theorem dX2_passThroughMill_41 : decode cX2_passThroughMill 41 = .ok (.iadd, 1) := by decide +kernel
theorem dX2_passThroughMill_42 : decode cX2_passThroughMill 42 = .ok (.iload_n 3, 1) := by decide +kernel
theorem dX2_passThroughMill_43 : decode cX2_passThroughMill 43 = .ok (.isub, 1) := by decide +kernel
theorem dX2_passThroughMill_44 : decode cX2_passThroughMill 44 = .ok (.istore 4, 2) := by decide +kernel
theorem dX2_passThroughMill_46 : decode cX2_passThroughMill 46 = .ok (.aload_n 0, 1) := by decide +kernel
theorem dX2_passThroughMill_47 : decode cX2_passThroughMill 47 = .ok (.iload_n 1, 1) := by decide +kernel
theorem dX2_passThroughMill_48 : decode cX2_passThroughMill 48 = .ok (.iconst 2, 1) := by decide +kernel
theorem dX2_passThroughMill_49 : decode cX2_passThroughMill 49 = .ok (.if_icmp .ne 7, 3) := by decide +kernel
theorem dX2_passThroughMill_52 : decode cX2_passThroughMill 52 = .ok (.iconst 0, 1) := by decide +kernel
theorem dX2_passThroughMill_53 : decode cX2_passThroughMill 53 = .ok (.goto 4, 3) := by decide +kernel
theorem dX2_passThroughMill_56 : decode cX2_passThroughMill 56 = .ok (.iload_n 3, 1) := by decide +kernel
theorem dX2_passThroughMill_57 : decode cX2_passThroughMill 57 = .ok (.putfield 82, 3) := by decide +kernel
theorem dX2_passThroughMill_60 : decode cX2_passThroughMill 60 = .ok (.aload_n 0, 1) := by decide +kernel
theorem dX2_passThroughMill_61 : decode cX2_passThroughMill 61 = .ok (.iload_n 1, 1) := by decide +kernel
theorem dX2_passThroughMill_62 : decode cX2_passThroughMill 62 = .ok (.iconst 2, 1) := by decide +kernel
theorem dX2_passThroughMill_63 : decode cX2_passThroughMill 63 = .ok (.if_icmp .ne 7, 3) := by decide +kernel
theorem dX2_passThroughMill_66 : decode cX2_passThroughMill 66 = .ok (.iload_n 3, 1) := by decide +kernel
theorem dX2_passThroughMill_67 : decode cX2_passThroughMill 67 = .ok (.goto 4, 3) := by decide +kernel
theorem dX2_passThroughMill_70 : decode cX2_passThroughMill 70 = .ok (.iconst 0, 1) := by decide +kernel
theorem dX2_passThroughMill_71 : decode cX2_passThroughMill 71 = .ok (.putfield 85, 3) := by decide +kernel
theorem dX2_passThroughMill_74 : decode cX2_passThroughMill 74 = .ok (.aload_n 0, 1) := by decide +kernel
theorem dX2_passThroughMill_75 : decode cX2_passThroughMill 75 = .ok (.aload_n 0, 1) := by decide +kernel
theorem dX2_passThroughMill_76 : decode cX2_passThroughMill 76 = .ok (.getfield 40, 3) := by decide +kernel
theorem dX2_passThroughMill_79 : decode cX2_passThroughMill 79 = .ok (.putfield 88, 3) := by decide +kernel
theorem dX2_passThroughMill_82 : decode cX2_passThroughMill 82 = .ok (.aload_n 0, 1) := by decide +kernel
theorem dX2_passThroughMill_83 : decode cX2_passThroughMill 83 = .ok (.iload_n 2, 1) := by decide +kernel
theorem dX2_passThroughMill_84 : decode cX2_passThroughMill 84 = .ok (.putfield 40, 3) := by decide +kernel
theorem dX2_passThroughMill_87 : decode cX2_passThroughMill 87 = .ok (.aload_n 0, 1) := by decide +kernel
theorem dX2_passThroughMill_88 : decode cX2_passThroughMill 88 = .ok (.iload 4, 2) := by decide +kernel
theorem dX2_passThroughMill_90 : decode cX2_passThroughMill 90 = .ok (.aload_n 0, 1) := by decide +kernel
theorem dX2_passThroughMill_91 : decode cX2_passThroughMill 91 = .ok (.getfield 9, 3) := by decide +kernel
theorem dX2_passThroughMill_94 : decode cX2_passThroughMill 94 = .ok (.getfield 50, 3) := by decide +kernel
theorem dX2_passThroughMill_97 : decode cX2_passThroughMill 97 = .ok (.iconst 0, 1) := by decide +kernel
theorem dX2_passThroughMill_98 : decode cX2_passThroughMill 98 = .ok (.invokevirtual 25, 3) := by decide +kernel
theorem dX2_passThroughMill_101 : decode cX2_passThroughMill 101 = .ok (.invokestatic 91, 3) := by decide +kernel
theorem dX2_passThroughMill_104 : decode cX2_passThroughMill 104 = .ok (.putfield 44, 3) := by decide +kernel
theorem dX2_passThroughMill_107 : decode cX2_passThroughMill 107 = .ok (.aload_n 0, 1) := by decide +kernel
theorem dX2_passThroughMill_108 : decode cX2_passThroughMill 108 = .ok (.aload_n 0, 1) := by decide +kernel
theorem dX2_passThroughMill_109 : decode cX2_passThroughMill 109 = .ok (.getfield 85, 3) := by decide +kernel
theorem dX2_passThroughMill_112 : decode cX2_passThroughMill 112 = .ok (.iload 4, 2) := by decide +kernel
theorem dX2_passThroughMill_114 : decode cX2_passThroughMill 114 = .ok (.iadd, 1) := by decide +kernel
theorem dX2_passThroughMill_115 : decode cX2_passThroughMill 115 = .ok (.aload_n 0, 1) := by decide +kernel
theorem dX2_passThroughMill_116 : decode cX2_passThroughMill 116 = .ok (.getfield 44, 3) := by decide +kernel
theorem dX2_passThroughMill_119 : decode cX2_passThroughMill 119 = .ok (.isub, 1) := by decide +kernel
theorem dX2_passThroughMill_120 : decode cX2_passThroughMill 120 = .ok (.putfield 96, 3) := by decide +kernel
theorem dX2_passThroughMill_123 : decode cX2_passThroughMill 123 = .ok (.return_, 1) := by decide +kernel
theorem dX3_init_0 : decode cX3_init 0 = .ok (.aload_n 0, 1) := by decide +kernel
theorem dX3_init_1 : decode cX3_init 1 = .ok (.invokespecial 1, 3) := by decide +kernel
theorem dX3_init_4 : decode cX3_init 4 = .ok (.aload_n 0, 1) := by decide +kernel
theorem dX3_init_5 : decode cX3_init 5 = .ok (.aload_n 1, 1) := by decide +kernel
theorem dX3_init_6 : decode cX3_init 6 = .ok (.putfield 7, 3) := by decide +kernel
theorem dX3_init_9 : decode cX3_init 9 = .ok (.aload_n 0, 1) := by decide +kernel
theorem dX3_init_10 : decode cX3_init 10 = .ok (.iload_n 2, 1) := by decide +kernel
theorem dX3_init_11 : decode cX3_init 11 = .ok (.putfield 13, 3) := by decide +kernel
theorem dX3_init_14 : decode cX3_init 14 = .ok (.return_, 1) := by decide +kernel
theorem dX3_get_0 : decode cX3_get 0 = .ok (.aload_n 0, 1) := by decide +kernel
theorem dX3_get_1 : decode cX3_get 1 = .ok (.getfield 13, 3) := by decide +kernel
theorem dX3_get_4 : decode cX3_get 4 = .ok (.iload_n 1, 1) := by decide +kernel
theorem dX3_get_5 : decode cX3_get 5 = .ok (.iadd, 1) := by decide +kernel
theorem dX3_get_6 : decode cX3_get 6 = .ok (.istore_n 2, 1) := by decide +kernel
theorem dX3_get_7 : decode cX3_get 7 = .ok (.iload_n 2, 1) := by decide +kernel
theorem dX3_get_8 : decode cX3_get 8 = .ok (.ifCond .lt 21, 3) := by decide +kernel
theorem dX3_get_11 : decode cX3_get 11 = .ok (.iload_n 2, 1) := by decide +kernel
theorem dX3_get_12 : decode cX3_get 12 = .ok (.aload_n 0, 1) := by decide +kernel
theorem dX3_get_13 : decode cX3_get 13 = .ok (.getfield 7, 3) := by decide +kernel
theorem dX3_get_16 : decode cX3_get 16 = .ok (.arraylength, 1) := by decide +kernel
theorem dX3_get_17 : decode cX3_get 17 = .ok (.if_icmp .ge 12, 3) := by decide +kernel
theorem dX3_get_20 : decode cX3_get 20 = .ok (.aload_n 0, 1) := by decide +kernel
theorem dX3_get_21 : decode cX3_get 21 = .ok (.getfield 7, 3) := by decide +kernel
theorem dX3_get_24 : decode cX3_get 24 = .ok (.iload_n 2, 1) := by decide +kernel
theorem dX3_get_25 : decode cX3_get 25 = .ok (.iaload, 1) := by decide +kernel
theorem dX3_get_26 : decode cX3_get 26 = .ok (.goto 4, 3) := by decide +kernel
theorem dX3_get_29 : decode cX3_get 29 = .ok (.iconst 0, 1) := by decide +kernel
theorem dX3_get_30 : decode cX3_get 30 = .ok (.ireturn, 1) := by decide +kernel
theorem dX3_put_0 : decode cX3_put 0 = .ok (.aload_n 0, 1) := by decide +kernel
theorem dX3_put_1 : decode cX3_put 1 = .ok (.getfield 13, 3) := by decide +kernel
theorem dX3_put_4 : decode cX3_put 4 = .ok (.iload_n 1, 1) := by decide +kernel
theorem dX3_put_5 : decode cX3_put 5 = .ok (.iadd, 1) := by decide +kernel
theorem dX3_put_6 : decode cX3_put 6 = .ok (.istore_n 3, 1) := by decide +kernel
theorem dX3_put_7 : decode cX3_put 7 = .ok (.iload_n 3, 1) := by decide +kernel
theorem dX3_put_8 : decode cX3_put 8 = .ok (.ifCond .lt 19, 3) := by decide +kernel
theorem dX3_put_11 : decode cX3_put 11 = .ok (.iload_n 3, 1) := by decide +kernel
theorem dX3_put_12 : decode cX3_put 12 = .ok (.aload_n 0, 1) := by decide +kernel
theorem dX3_put_13 : decode cX3_put 13 = .ok (.getfield 7, 3) := by decide +kernel
theorem dX3_put_16 : decode cX3_put 16 = .ok (.arraylength, 1) := by decide +kernel
theorem dX3_put_17 : decode cX3_put 17 = .ok (.if_icmp .ge 10, 3) := by decide +kernel
theorem dX3_put_20 : decode cX3_put 20 = .ok (.aload_n 0, 1) := by decide +kernel
theorem dX3_put_21 : decode cX3_put 21 = .ok (.getfield 7, 3) := by decide +kernel
theorem dX3_put_24 : decode cX3_put 24 = .ok (.iload_n 3, 1) := by decide +kernel
theorem dX3_put_25 : decode cX3_put 25 = .ok (.iload_n 2, 1) := by decide +kernel
theorem dX3_put_26 : decode cX3_put 26 = .ok (.iastore, 1) := by decide +kernel
theorem dX3_put_27 : decode cX3_put 27 = .ok (.return_, 1) := by decide +kernel
theorem dX3_add_0 : decode cX3_add 0 = .ok (.aload_n 0, 1) := by decide +kernel
theorem dX3_add_1 : decode cX3_add 1 = .ok (.iload_n 1, 1) := by decide +kernel
theorem dX3_add_2 : decode cX3_add 2 = .ok (.aload_n 0, 1) := by decide +kernel
theorem dX3_add_3 : decode cX3_add 3 = .ok (.iload_n 1, 1) := by decide +kernel
theorem dX3_add_4 : decode cX3_add 4 = .ok (.invokevirtual 17, 3) := by decide +kernel
theorem dX3_add_7 : decode cX3_add 7 = .ok (.iload_n 2, 1) := by decide +kernel
theorem dX3_add_8 : decode cX3_add 8 = .ok (.iadd, 1) := by decide +kernel
theorem dX3_add_9 : decode cX3_add 9 = .ok (.invokevirtual 21, 3) := by decide +kernel
theorem dX3_add_12 : decode cX3_add 12 = .ok (.return_, 1) := by decide +kernel
theorem dX4_init_0 : decode cX4_init 0 = .ok (.aload_n 0, 1) := by decide +kernel
theorem dX4_init_1 : decode cX4_init 1 = .ok (.invokespecial 3, 3) := by decide +kernel
theorem dX4_init_4 : decode cX4_init 4 = .ok (.return_, 1) := by decide +kernel
theorem dX5_init_0 : decode cX5_init 0 = .ok (.aload_n 0, 1) := by decide +kernel
theorem dX5_init_1 : decode cX5_init 1 = .ok (.invokespecial 1, 3) := by decide +kernel
theorem dX5_init_4 : decode cX5_init 4 = .ok (.aload_n 0, 1) := by decide +kernel
theorem dX5_init_5 : decode cX5_init 5 = .ok (.aload_n 1, 1) := by decide +kernel
theorem dX5_init_6 : decode cX5_init 6 = .ok (.putfield 7, 3) := by decide +kernel
theorem dX5_init_9 : decode cX5_init 9 = .ok (.aload_n 0, 1) := by decide +kernel
theorem dX5_init_10 : decode cX5_init 10 = .ok (.iload_n 2, 1) := by decide +kernel
theorem dX5_init_11 : decode cX5_init 11 = .ok (.putfield 13, 3) := by decide +kernel
theorem dX5_init_14 : decode cX5_init 14 = .ok (.aload_n 0, 1) := by decide +kernel
theorem dX5_init_15 : decode cX5_init 15 = .ok (.iload_n 3, 1) := by decide +kernel
theorem dX5_init_16 : decode cX5_init 16 = .ok (.putfield 17, 3) := by decide +kernel
theorem dX5_init_19 : decode cX5_init 19 = .ok (.return_, 1) := by decide +kernel
theorem dX5_get_0 : decode cX5_get 0 = .ok (.aload_n 0, 1) := by decide +kernel
theorem dX5_get_1 : decode cX5_get 1 = .ok (.getfield 13, 3) := by decide +kernel
theorem dX5_get_4 : decode cX5_get 4 = .ok (.iload_n 1, 1) := by decide +kernel
theorem dX5_get_5 : decode cX5_get 5 = .ok (.aload_n 0, 1) := by decide +kernel
theorem dX5_get_6 : decode cX5_get 6 = .ok (.getfield 17, 3) := by decide +kernel
theorem dX5_get_9 : decode cX5_get 9 = .ok (.imul, 1) := by decide +kernel
theorem dX5_get_10 : decode cX5_get 10 = .ok (.iadd, 1) := by decide +kernel
theorem dX5_get_11 : decode cX5_get 11 = .ok (.iload_n 2, 1) := by decide +kernel
theorem dX5_get_12 : decode cX5_get 12 = .ok (.iadd, 1) := by decide +kernel
theorem dX5_get_13 : decode cX5_get 13 = .ok (.istore_n 3, 1) := by decide +kernel
theorem dX5_get_14 : decode cX5_get 14 = .ok (.iload_n 3, 1) := by decide +kernel
theorem dX5_get_15 : decode cX5_get 15 = .ok (.ifCond .lt 21, 3) := by decide +kernel
theorem dX5_get_18 : decode cX5_get 18 = .ok (.iload_n 3, 1) := by decide +kernel
theorem dX5_get_19 : decode cX5_get 19 = .ok (.aload_n 0, 1) := by decide +kernel
theorem dX5_get_20 : decode cX5_get 20 = .ok (.getfield 7, 3) := by decide +kernel
theorem dX5_get_23 : decode cX5_get 23 = .ok (.arraylength, 1) := by decide +kernel
theorem dX5_get_24 : decode cX5_get 24 = .ok (.if_icmp .ge 12, 3) := by decide +kernel
theorem dX5_get_27 : decode cX5_get 27 = .ok (.aload_n 0, 1) := by decide +kernel
theorem dX5_get_28 : decode cX5_get 28 = .ok (.getfield 7, 3) := by decide +kernel
theorem dX5_get_31 : decode cX5_get 31 = .ok (.iload_n 3, 1) := by decide +kernel
theorem dX5_get_32 : decode cX5_get 32 = .ok (.iaload, 1) := by decide +kernel
theorem dX5_get_33 : decode cX5_get 33 = .ok (.goto 4, 3) := by decide +kernel
theorem dX5_get_36 : decode cX5_get 36 = .ok (.iconst 0, 1) := by decide +kernel
theorem dX5_get_37 : decode cX5_get 37 = .ok (.ireturn, 1) := by decide +kernel
theorem dX5_put_0 : decode cX5_put 0 = .ok (.aload_n 0, 1) := by decide +kernel
theorem dX5_put_1 : decode cX5_put 1 = .ok (.getfield 13, 3) := by decide +kernel
theorem dX5_put_4 : decode cX5_put 4 = .ok (.iload_n 1, 1) := by decide +kernel
theorem dX5_put_5 : decode cX5_put 5 = .ok (.aload_n 0, 1) := by decide +kernel
theorem dX5_put_6 : decode cX5_put 6 = .ok (.getfield 17, 3) := by decide +kernel
theorem dX5_put_9 : decode cX5_put 9 = .ok (.imul, 1) := by decide +kernel
theorem dX5_put_10 : decode cX5_put 10 = .ok (.iadd, 1) := by decide +kernel
theorem dX5_put_11 : decode cX5_put 11 = .ok (.iload_n 2, 1) := by decide +kernel
theorem dX5_put_12 : decode cX5_put 12 = .ok (.iadd, 1) := by decide +kernel
theorem dX5_put_13 : decode cX5_put 13 = .ok (.istore 4, 2) := by decide +kernel
theorem dX5_put_15 : decode cX5_put 15 = .ok (.iload 4, 2) := by decide +kernel
theorem dX5_put_17 : decode cX5_put 17 = .ok (.ifCond .lt 21, 3) := by decide +kernel
theorem dX5_put_20 : decode cX5_put 20 = .ok (.iload 4, 2) := by decide +kernel
theorem dX5_put_22 : decode cX5_put 22 = .ok (.aload_n 0, 1) := by decide +kernel
theorem dX5_put_23 : decode cX5_put 23 = .ok (.getfield 7, 3) := by decide +kernel
theorem dX5_put_26 : decode cX5_put 26 = .ok (.arraylength, 1) := by decide +kernel
theorem dX5_put_27 : decode cX5_put 27 = .ok (.if_icmp .ge 11, 3) := by decide +kernel
theorem dX5_put_30 : decode cX5_put 30 = .ok (.aload_n 0, 1) := by decide +kernel
theorem dX5_put_31 : decode cX5_put 31 = .ok (.getfield 7, 3) := by decide +kernel
theorem dX5_put_34 : decode cX5_put 34 = .ok (.iload 4, 2) := by decide +kernel
theorem dX5_put_36 : decode cX5_put 36 = .ok (.iload_n 3, 1) := by decide +kernel
theorem dX5_put_37 : decode cX5_put 37 = .ok (.iastore, 1) := by decide +kernel
theorem dX5_put_38 : decode cX5_put 38 = .ok (.return_, 1) := by decide +kernel
theorem dX5_add_0 : decode cX5_add 0 = .ok (.aload_n 0, 1) := by decide +kernel
theorem dX5_add_1 : decode cX5_add 1 = .ok (.iload_n 1, 1) := by decide +kernel
theorem dX5_add_2 : decode cX5_add 2 = .ok (.iload_n 2, 1) := by decide +kernel
theorem dX5_add_3 : decode cX5_add 3 = .ok (.aload_n 0, 1) := by decide +kernel
theorem dX5_add_4 : decode cX5_add 4 = .ok (.iload_n 1, 1) := by decide +kernel
theorem dX5_add_5 : decode cX5_add 5 = .ok (.iload_n 2, 1) := by decide +kernel
theorem dX5_add_6 : decode cX5_add 6 = .ok (.invokevirtual 20, 3) := by decide +kernel
theorem dX5_add_9 : decode cX5_add 9 = .ok (.iload_n 3, 1) := by decide +kernel
theorem dX5_add_10 : decode cX5_add 10 = .ok (.iadd, 1) := by decide +kernel
theorem dX5_add_11 : decode cX5_add 11 = .ok (.invokevirtual 24, 3) := by decide +kernel
theorem dX5_add_14 : decode cX5_add 14 = .ok (.return_, 1) := by decide +kernel
theorem dX6_init_0 : decode cX6_init 0 = .ok (.aload_n 0, 1) := by decide +kernel
theorem dX6_init_1 : decode cX6_init 1 = .ok (.invokespecial 3, 3) := by decide +kernel
theorem dX6_init_4 : decode cX6_init 4 = .ok (.new 9, 3) := by decide +kernel
theorem dX6_init_7 : decode cX6_init 7 = .ok (.dup, 1) := by decide +kernel
theorem dX6_init_8 : decode cX6_init 8 = .ok (.invokespecial 11, 3) := by decide +kernel
theorem dX6_init_11 : decode cX6_init 11 = .ok (.astore_n 1, 1) := by decide +kernel
theorem dX6_init_12 : decode cX6_init 12 = .ok (.aload_n 0, 1) := by decide +kernel
theorem dX6_init_13 : decode cX6_init 13 = .ok (.aload_n 1, 1) := by decide +kernel
theorem dX6_init_14 : decode cX6_init 14 = .ok (.putfield 12, 3) := by decide +kernel
theorem dX6_init_17 : decode cX6_init 17 = .ok (.aload_n 0, 1) := by decide +kernel
theorem dX6_init_18 : decode cX6_init 18 = .ok (.new 16, 3) := by decide +kernel
theorem dX6_init_21 : decode cX6_init 21 = .ok (.dup, 1) := by decide +kernel
theorem dX6_init_22 : decode cX6_init 22 = .ok (.aload_n 1, 1) := by decide +kernel
theorem dX6_init_23 : decode cX6_init 23 = .ok (.invokespecial 18, 3) := by decide +kernel
theorem dX6_init_26 : decode cX6_init 26 = .ok (.putfield 21, 3) := by decide +kernel
theorem dX6_init_29 : decode cX6_init 29 = .ok (.aload_n 0, 1) := by decide +kernel
theorem dX6_init_30 : decode cX6_init 30 = .ok (.new 25, 3) := by decide +kernel
theorem dX6_init_33 : decode cX6_init 33 = .ok (.dup, 1) := by decide +kernel
theorem dX6_init_34 : decode cX6_init 34 = .ok (.aload_n 1, 1) := by decide +kernel
theorem dX6_init_35 : decode cX6_init 35 = .ok (.invokespecial 27, 3) := by decide +kernel
theorem dX6_init_38 : decode cX6_init 38 = .ok (.putfield 28, 3) := by decide +kernel
theorem dX6_init_41 : decode cX6_init 41 = .ok (.aload_n 0, 1) := by decide +kernel
theorem dX6_init_42 : decode cX6_init 42 = .ok (.new 32, 3) := by decide +kernel
theorem dX6_init_45 : decode cX6_init 45 = .ok (.dup, 1) := by decide +kernel
theorem dX6_init_46 : decode cX6_init 46 = .ok (.invokespecial 34, 3) := by decide +kernel
theorem dX6_init_49 : decode cX6_init 49 = .ok (.putfield 35, 3) := by decide +kernel
theorem dX6_init_52 : decode cX6_init 52 = .ok (.aload_n 0, 1) := by decide +kernel
theorem dX6_init_53 : decode cX6_init 53 = .ok (.bipush 60, 2) := by decide +kernel
theorem dX6_init_55 : decode cX6_init 55 = .ok (.newarray .int, 2) := by decide +kernel
theorem dX6_init_57 : decode cX6_init 57 = .ok (.putfield 39, 3) := by decide +kernel
theorem dX6_init_60 : decode cX6_init 60 = .ok (.aload_n 0, 1) := by decide +kernel
theorem dX6_init_61 : decode cX6_init 61 = .ok (.iconst 0, 1) := by decide +kernel
theorem dX6_init_62 : decode cX6_init 62 = .ok (.putfield 43, 3) := by decide +kernel
theorem dX6_init_65 : decode cX6_init 65 = .ok (.return_, 1) := by decide +kernel
theorem dX6_addGrower_0 : decode cX6_addGrower 0 = .ok (.aload_n 0, 1) := by decide +kernel
theorem dX6_addGrower_1 : decode cX6_addGrower 1 = .ok (.getfield 12, 3) := by decide +kernel
theorem dX6_addGrower_4 : decode cX6_addGrower 4 = .ok (.getfield 47, 3) := by decide +kernel
theorem dX6_addGrower_7 : decode cX6_addGrower 7 = .ok (.iconst 0, 1) := by decide +kernel
theorem dX6_addGrower_8 : decode cX6_addGrower 8 = .ok (.invokevirtual 51, 3) := by decide +kernel
theorem dX6_addGrower_11 : decode cX6_addGrower 11 = .ok (.istore_n 1, 1) := by decide +kernel
theorem dX6_addGrower_12 : decode cX6_addGrower 12 = .ok (.iload_n 1, 1) := by decide +kernel
theorem dX6_addGrower_13 : decode cX6_addGrower 13 = .ok (.bipush 8, 2) := by decide +kernel
theorem dX6_addGrower_15 : decode cX6_addGrower 15 = .ok (.if_icmp .lt 13, 3) := by decide +kernel
theorem dX6_addGrower_18 : decode cX6_addGrower 18 = .ok (.new 57, 3) := by decide +kernel
theorem dX6_addGrower_21 : decode cX6_addGrower 21 = .ok (.dup, 1) := by decide +kernel
theorem dX6_addGrower_22 : decode cX6_addGrower 22 = .ok (.ldc 59, 2) := by decide +kernel
theorem dX6_addGrower_24 : decode cX6_addGrower 24 = .ok (.invokespecial 61, 3) := by decide +kernel
theorem dX6_addGrower_27 : decode cX6_addGrower 27 = .ok (.athrow, 1) := by decide +kernel
theorem dX6_addGrower_28 : decode cX6_addGrower 28 = .ok (.aload_n 0, 1) := by decide +kernel
theorem dX6_addGrower_29 : decode cX6_addGrower 29 = .ok (.getfield 12, 3) := by decide +kernel
theorem dX6_addGrower_32 : decode cX6_addGrower 32 = .ok (.invokevirtual 64, 3) := by decide +kernel
theorem dX6_addGrower_35 : decode cX6_addGrower 35 = .ok (.aload_n 0, 1) := by decide +kernel
theorem dX6_addGrower_36 : decode cX6_addGrower 36 = .ok (.getfield 12, 3) := by decide +kernel
theorem dX6_addGrower_39 : decode cX6_addGrower 39 = .ok (.getfield 47, 3) := by decide +kernel
theorem dX6_addGrower_42 : decode cX6_addGrower 42 = .ok (.iconst 0, 1) := by decide +kernel
theorem dX6_addGrower_43 : decode cX6_addGrower 43 = .ok (.iconst 1, 1) := by decide +kernel
theorem dX6_addGrower_44 : decode cX6_addGrower 44 = .ok (.invokevirtual 67, 3) := by decide +kernel
theorem dX6_addGrower_47 : decode cX6_addGrower 47 = .ok (.iload_n 1, 1) := by decide +kernel
theorem dX6_addGrower_48 : decode cX6_addGrower 48 = .ok (.ireturn, 1) := by decide +kernel
theorem dX6_addLot_0 : decode cX6_addLot 0 = .ok (.aload_n 0, 1) := by decide +kernel
theorem dX6_addLot_1 : decode cX6_addLot 1 = .ok (.iload_n 1, 1) := by decide +kernel
theorem dX6_addLot_2 : decode cX6_addLot 2 = .ok (.invokevirtual 71, 3) := by decide +kernel
theorem dX6_addLot_5 : decode cX6_addLot 5 = .ok (.iload_n 2, 1) := by decide +kernel
theorem dX6_addLot_6 : decode cX6_addLot 6 = .ok (.invokestatic 75, 3) := by decide +kernel
theorem dX6_addLot_9 : decode cX6_addLot 9 = .ok (.ifCond .eq 39, 3) := by decide +kernel
theorem dX6_addLot_12 : decode cX6_addLot 12 = .ok (.iload_n 3, 1) := by decide +kernel
theorem dX6_addLot_13 : decode cX6_addLot 13 = .ok (.iconst 1, 1) := by decide +kernel
theorem dX6_addLot_14 : decode cX6_addLot 14 = .ok (.sipush 2000, 3) := by decide +kernel
theorem dX6_addLot_17 : decode cX6_addLot 17 = .ok (.invokestatic 79, 3) := by decide +kernel
theorem dX6_addLot_20 : decode cX6_addLot 20 = .ok (.ifCond .ne 28, 3) := by decide +kernel
theorem dX6_addLot_23 : decode cX6_addLot 23 = .ok (.iload 4, 2) := by decide +kernel
theorem dX6_addLot_25 : decode cX6_addLot 25 = .ok (.iconst 0, 1) := by decide +kernel
theorem dX6_addLot_26 : decode cX6_addLot 26 = .ok (.bipush 50, 2) := by decide +kernel
theorem dX6_addLot_28 : decode cX6_addLot 28 = .ok (.invokestatic 79, 3) := by decide +kernel
theorem dX6_addLot_31 : decode cX6_addLot 31 = .ok (.ifCond .ne 17, 3) := by decide +kernel
theorem dX6_addLot_34 : decode cX6_addLot 34 = .ok (.iload 5, 2) := by decide +kernel
theorem dX6_addLot_36 : decode cX6_addLot 36 = .ok (.sipush 500, 3) := by decide +kernel
theorem dX6_addLot_39 : decode cX6_addLot 39 = .ok (.sipush 1500, 3) := by decide +kernel
theorem dX6_addLot_42 : decode cX6_addLot 42 = .ok (.invokestatic 79, 3) := by decide +kernel
theorem dX6_addLot_45 : decode cX6_addLot 45 = .ok (.ifCond .eq 13, 3) := by decide +kernel
theorem dX6_addLot_48 : decode cX6_addLot 48 = .ok (.new 83, 3) := by decide +kernel
theorem dX6_addLot_51 : decode cX6_addLot 51 = .ok (.dup, 1) := by decide +kernel
theorem dX6_addLot_52 : decode cX6_addLot 52 = .ok (.ldc 85, 2) := by decide +kernel
theorem dX6_addLot_54 : decode cX6_addLot 54 = .ok (.invokespecial 87, 3) := by decide +kernel
theorem dX6_addLot_57 : decode cX6_addLot 57 = .ok (.athrow, 1) := by decide +kernel
theorem dX6_addLot_58 : decode cX6_addLot 58 = .ok (.aload_n 0, 1) := by decide +kernel
theorem dX6_addLot_59 : decode cX6_addLot 59 = .ok (.getfield 12, 3) := by decide +kernel
theorem dX6_addLot_62 : decode cX6_addLot 62 = .ok (.getfield 47, 3) := by decide +kernel
theorem dX6_addLot_65 : decode cX6_addLot 65 = .ok (.iconst 1, 1) := by decide +kernel
theorem dX6_addLot_66 : decode cX6_addLot 66 = .ok (.invokevirtual 51, 3) := by decide +kernel
theorem dX6_addLot_69 : decode cX6_addLot 69 = .ok (.bipush 40, 2) := by decide +kernel
theorem dX6_addLot_71 : decode cX6_addLot 71 = .ok (.if_icmp .lt 13, 3) := by decide +kernel
theorem dX6_addLot_74 : decode cX6_addLot 74 = .ok (.new 57, 3) := by decide +kernel
theorem dX6_addLot_77 : decode cX6_addLot 77 = .ok (.dup, 1) := by decide +kernel
theorem dX6_addLot_78 : decode cX6_addLot 78 = .ok (.ldc 88, 2) := by decide +kernel
theorem dX6_addLot_80 : decode cX6_addLot 80 = .ok (.invokespecial 61, 3) := by decide +kernel
theorem dX6_addLot_83 : decode cX6_addLot 83 = .ok (.athrow, 1) := by decide +kernel
theorem dX6_addLot_84 : decode cX6_addLot 84 = .ok (.aload_n 0, 1) := by decide +kernel
theorem dX6_addLot_85 : decode cX6_addLot 85 = .ok (.getfield 12, 3) := by decide +kernel
theorem dX6_addLot_88 : decode cX6_addLot 88 = .ok (.invokevirtual 64, 3) := by decide +kernel
theorem dX6_addLot_91 : decode cX6_addLot 91 = .ok (.aload_n 0, 1) := by decide +kernel
theorem dX6_addLot_92 : decode cX6_addLot 92 = .ok (.iload_n 1, 1) := by decide +kernel
theorem dX6_addLot_93 : decode cX6_addLot 93 = .ok (.iload_n 2, 1) := by decide +kernel
theorem dX6_addLot_94 : decode cX6_addLot 94 = .ok (.iload_n 3, 1) := by decide +kernel
theorem dX6_addLot_95 : decode cX6_addLot 95 = .ok (.iload 4, 2) := by decide +kernel
theorem dX6_addLot_97 : decode cX6_addLot 97 = .ok (.iload 5, 2) := by decide +kernel
theorem dX6_addLot_99 : decode cX6_addLot 99 = .ok (.invokevirtual 90, 3) := by decide +kernel
theorem dX6_addLot_102 : decode cX6_addLot 102 = .ok (.ireturn, 1) := by decide +kernel
theorem dX6_addTank_0 : decode cX6_addTank 0 = .ok (.iload_n 1, 1) := by decide +kernel
theorem dX6_addTank_1 : decode cX6_addTank 1 = .ok (.bipush 100, 2) := by decide +kernel
theorem dX6_addTank_3 : decode cX6_addTank 3 = .ok (.sipush 20000, 3) := by decide +kernel
theorem dX6_addTank_6 : decode cX6_addTank 6 = .ok (.invokestatic 79, 3) := by decide +kernel
theorem dX6_addTank_9 : decode cX6_addTank 9 = .ok (.ifCond .eq 13, 3) := by decide +kernel
theorem dX6_addTank_12 : decode cX6_addTank 12 = .ok (.new 83, 3) := by decide +kernel
theorem dX6_addTank_15 : decode cX6_addTank 15 = .ok (.dup, 1) := by decide +kernel
theorem dX6_addTank_16 : decode cX6_addTank 16 = .ok (.ldc 94, 2) := by decide +kernel
theorem dX6_addTank_18 : decode cX6_addTank 18 = .ok (.invokespecial 87, 3) := by decide +kernel
theorem dX6_addTank_21 : decode cX6_addTank 21 = .ok (.athrow, 1) := by decide +kernel
theorem dX6_addTank_22 : decode cX6_addTank 22 = .ok (.aload_n 0, 1) := by decide +kernel
theorem dX6_addTank_23 : decode cX6_addTank 23 = .ok (.getfield 12, 3) := by decide +kernel
theorem dX6_addTank_26 : decode cX6_addTank 26 = .ok (.getfield 47, 3) := by decide +kernel
theorem dX6_addTank_29 : decode cX6_addTank 29 = .ok (.iconst 2, 1) := by decide +kernel
theorem dX6_addTank_30 : decode cX6_addTank 30 = .ok (.invokevirtual 51, 3) := by decide +kernel
theorem dX6_addTank_33 : decode cX6_addTank 33 = .ok (.istore_n 2, 1) := by decide +kernel
theorem dX6_addTank_34 : decode cX6_addTank 34 = .ok (.iload_n 2, 1) := by decide +kernel
theorem dX6_addTank_35 : decode cX6_addTank 35 = .ok (.bipush 6, 2) := by decide +kernel
theorem dX6_addTank_37 : decode cX6_addTank 37 = .ok (.if_icmp .lt 13, 3) := by decide +kernel
theorem dX6_addTank_40 : decode cX6_addTank 40 = .ok (.new 57, 3) := by decide +kernel
theorem dX6_addTank_43 : decode cX6_addTank 43 = .ok (.dup, 1) := by decide +kernel
theorem dX6_addTank_44 : decode cX6_addTank 44 = .ok (.ldc 96, 2) := by decide +kernel
theorem dX6_addTank_46 : decode cX6_addTank 46 = .ok (.invokespecial 61, 3) := by decide +kernel
theorem dX6_addTank_49 : decode cX6_addTank 49 = .ok (.athrow, 1) := by decide +kernel
theorem dX6_addTank_50 : decode cX6_addTank 50 = .ok (.aload_n 0, 1) := by decide +kernel
theorem dX6_addTank_51 : decode cX6_addTank 51 = .ok (.getfield 12, 3) := by decide +kernel
theorem dX6_addTank_54 : decode cX6_addTank 54 = .ok (.invokevirtual 64, 3) := by decide +kernel
theorem dX6_addTank_57 : decode cX6_addTank 57 = .ok (.aload_n 0, 1) := by decide +kernel
theorem dX6_addTank_58 : decode cX6_addTank 58 = .ok (.getfield 12, 3) := by decide +kernel
theorem dX6_addTank_61 : decode cX6_addTank 61 = .ok (.getfield 98, 3) := by decide +kernel
theorem dX6_addTank_64 : decode cX6_addTank 64 = .ok (.iload_n 2, 1) := by decide +kernel
theorem dX6_addTank_65 : decode cX6_addTank 65 = .ok (.iconst 0, 1) := by decide +kernel
theorem dX6_addTank_66 : decode cX6_addTank 66 = .ok (.iload_n 1, 1) := by decide +kernel
theorem dX6_addTank_67 : decode cX6_addTank 67 = .ok (.invokevirtual 102, 3) := by decide +kernel
theorem dX6_addTank_70 : decode cX6_addTank 70 = .ok (.aload_n 0, 1) := by decide +kernel
theorem dX6_addTank_71 : decode cX6_addTank 71 = .ok (.getfield 12, 3) := by decide +kernel
theorem dX6_addTank_74 : decode cX6_addTank 74 = .ok (.getfield 47, 3) := by decide +kernel
theorem dX6_addTank_77 : decode cX6_addTank 77 = .ok (.iconst 2, 1) := by decide +kernel
theorem dX6_addTank_78 : decode cX6_addTank 78 = .ok (.iconst 1, 1) := by decide +kernel
theorem dX6_addTank_79 : decode cX6_addTank 79 = .ok (.invokevirtual 67, 3) := by decide +kernel
theorem dX6_addTank_82 : decode cX6_addTank 82 = .ok (.iload_n 2, 1) := by decide +kernel
theorem dX6_addTank_83 : decode cX6_addTank 83 = .ok (.ireturn, 1) := by decide +kernel
theorem dX6_setYield_0 : decode cX6_setYield 0 = .ok (.iload_n 1, 1) := by decide +kernel
theorem dX6_setYield_1 : decode cX6_setYield 1 = .ok (.invokestatic 108, 3) := by decide +kernel
theorem dX6_setYield_4 : decode cX6_setYield 4 = .ok (.iload_n 2, 1) := by decide +kernel
theorem dX6_setYield_5 : decode cX6_setYield 5 = .ok (.bipush 50, 2) := by decide +kernel
theorem dX6_setYield_7 : decode cX6_setYield 7 = .ok (.sipush 400, 3) := by decide +kernel
theorem dX6_setYield_10 : decode cX6_setYield 10 = .ok (.invokestatic 79, 3) := by decide +kernel
theorem dX6_setYield_13 : decode cX6_setYield 13 = .ok (.ifCond .eq 13, 3) := by decide +kernel
theorem dX6_setYield_16 : decode cX6_setYield 16 = .ok (.new 83, 3) := by decide +kernel
theorem dX6_setYield_19 : decode cX6_setYield 19 = .ok (.dup, 1) := by decide +kernel
theorem dX6_setYield_20 : decode cX6_setYield 20 = .ok (.ldc 111, 2) := by decide +kernel
theorem dX6_setYield_22 : decode cX6_setYield 22 = .ok (.invokespecial 87, 3) := by decide +kernel
theorem dX6_setYield_25 : decode cX6_setYield 25 = .ok (.athrow, 1) := by decide +kernel
theorem dX6_setYield_26 : decode cX6_setYield 26 = .ok (.aload_n 0, 1) := by decide +kernel
theorem dX6_setYield_27 : decode cX6_setYield 27 = .ok (.getfield 12, 3) := by decide +kernel
theorem dX6_setYield_30 : decode cX6_setYield 30 = .ok (.getfield 113, 3) := by decide +kernel
theorem dX6_setYield_33 : decode cX6_setYield 33 = .ok (.iload_n 1, 1) := by decide +kernel
theorem dX6_setYield_34 : decode cX6_setYield 34 = .ok (.iconst 0, 1) := by decide +kernel
theorem dX6_setYield_35 : decode cX6_setYield 35 = .ok (.invokevirtual 116, 3) := by decide +kernel
theorem dX6_setYield_38 : decode cX6_setYield 38 = .ok (.istore_n 3, 1) := by decide +kernel
theorem dX6_setYield_39 : decode cX6_setYield 39 = .ok (.aload_n 0, 1) := by decide +kernel
theorem dX6_setYield_40 : decode cX6_setYield 40 = .ok (.getfield 12, 3) := by decide +kernel
theorem dX6_setYield_43 : decode cX6_setYield 43 = .ok (.invokevirtual 64, 3) := by decide +kernel
theorem dX6_setYield_46 : decode cX6_setYield 46 = .ok (.aload_n 0, 1) := by decide +kernel
theorem dX6_setYield_47 : decode cX6_setYield 47 = .ok (.getfield 12, 3) := by decide +kernel
theorem dX6_setYield_50 : decode cX6_setYield 50 = .ok (.getfield 113, 3) := by decide +kernel
theorem dX6_setYield_53 : decode cX6_setYield 53 = .ok (.iload_n 1, 1) := by decide +kernel
theorem dX6_setYield_54 : decode cX6_setYield 54 = .ok (.iconst 0, 1) := by decide +kernel
theorem dX6_setYield_55 : decode cX6_setYield 55 = .ok (.iload_n 2, 1) := by decide +kernel
theorem dX6_setYield_56 : decode cX6_setYield 56 = .ok (.invokevirtual 102, 3) := by decide +kernel
theorem dX6_setYield_59 : decode cX6_setYield 59 = .ok (.iload_n 3, 1) := by decide +kernel
theorem dX6_setYield_60 : decode cX6_setYield 60 = .ok (.ireturn, 1) := by decide +kernel
theorem dX6_set_0 : decode cX6_set 0 = .ok (.iload_n 1, 1) := by decide +kernel
theorem dX6_set_1 : decode cX6_set 1 = .ok (.invokestatic 119, 3) := by decide +kernel
theorem dX6_set_4 : decode cX6_set 4 = .ok (.ifCond .ne 13, 3) := by decide +kernel
theorem dX6_set_7 : decode cX6_set 7 = .ok (.new 122, 3) := by decide +kernel
theorem dX6_set_10 : decode cX6_set 10 = .ok (.dup, 1) := by decide +kernel
theorem dX6_set_11 : decode cX6_set 11 = .ok (.ldc 124, 2) := by decide +kernel
theorem dX6_set_13 : decode cX6_set 13 = .ok (.invokespecial 126, 3) := by decide +kernel
theorem dX6_set_16 : decode cX6_set 16 = .ok (.athrow, 1) := by decide +kernel
theorem dX6_set_17 : decode cX6_set 17 = .ok (.iload_n 1, 1) := by decide +kernel
theorem dX6_set_18 : decode cX6_set 18 = .ok (.iload_n 2, 1) := by decide +kernel
theorem dX6_set_19 : decode cX6_set 19 = .ok (.invokestatic 127, 3) := by decide +kernel
theorem dX6_set_22 : decode cX6_set 22 = .ok (.ifCond .ne 13, 3) := by decide +kernel
theorem dX6_set_25 : decode cX6_set 25 = .ok (.new 83, 3) := by decide +kernel
theorem dX6_set_28 : decode cX6_set 28 = .ok (.dup, 1) := by decide +kernel
theorem dX6_set_29 : decode cX6_set 29 = .ok (.ldc 131, 2) := by decide +kernel
theorem dX6_set_31 : decode cX6_set 31 = .ok (.invokespecial 87, 3) := by decide +kernel
theorem dX6_set_34 : decode cX6_set 34 = .ok (.athrow, 1) := by decide +kernel
theorem dX6_set_35 : decode cX6_set 35 = .ok (.aload_n 0, 1) := by decide +kernel
theorem dX6_set_36 : decode cX6_set 36 = .ok (.getfield 12, 3) := by decide +kernel
theorem dX6_set_39 : decode cX6_set 39 = .ok (.getfield 133, 3) := by decide +kernel
theorem dX6_set_42 : decode cX6_set 42 = .ok (.iload_n 1, 1) := by decide +kernel
theorem dX6_set_43 : decode cX6_set 43 = .ok (.invokevirtual 51, 3) := by decide +kernel
theorem dX6_set_46 : decode cX6_set 46 = .ok (.istore_n 3, 1) := by decide +kernel
theorem dX6_set_47 : decode cX6_set 47 = .ok (.aload_n 0, 1) := by decide +kernel
theorem dX6_set_48 : decode cX6_set 48 = .ok (.getfield 12, 3) := by decide +kernel
theorem dX6_set_51 : decode cX6_set 51 = .ok (.invokevirtual 64, 3) := by decide +kernel
theorem dX6_set_54 : decode cX6_set 54 = .ok (.aload_n 0, 1) := by decide +kernel
theorem dX6_set_55 : decode cX6_set 55 = .ok (.getfield 12, 3) := by decide +kernel
theorem dX6_set_58 : decode cX6_set 58 = .ok (.getfield 133, 3) := by decide +kernel
theorem dX6_set_61 : decode cX6_set 61 = .ok (.iload_n 1, 1) := by decide +kernel
theorem dX6_set_62 : decode cX6_set 62 = .ok (.iload_n 2, 1) := by decide +kernel
theorem dX6_set_63 : decode cX6_set 63 = .ok (.invokevirtual 136, 3) := by decide +kernel
theorem dX6_set_66 : decode cX6_set 66 = .ok (.iload_n 3, 1) := by decide +kernel
theorem dX6_set_67 : decode cX6_set 67 = .ok (.ireturn, 1) := by decide +kernel
theorem dX6_press_0 : decode cX6_press 0 = .ok (.aload_n 0, 1) := by decide +kernel
theorem dX6_press_1 : decode cX6_press 1 = .ok (.iload_n 1, 1) := by decide +kernel
theorem dX6_press_2 : decode cX6_press 2 = .ok (.invokevirtual 138, 3) := by decide +kernel
theorem dX6_press_5 : decode cX6_press 5 = .ok (.aload_n 0, 1) := by decide +kernel
theorem dX6_press_6 : decode cX6_press 6 = .ok (.iload_n 1, 1) := by decide +kernel
theorem dX6_press_7 : decode cX6_press 7 = .ok (.iload_n 2, 1) := by decide +kernel
theorem dX6_press_8 : decode cX6_press 8 = .ok (.invokevirtual 141, 3) := by decide +kernel
theorem dX6_press_11 : decode cX6_press 11 = .ok (.ifCond .eq 13, 3) := by decide +kernel
theorem dX6_press_14 : decode cX6_press 14 = .ok (.new 57, 3) := by decide +kernel
theorem dX6_press_17 : decode cX6_press 17 = .ok (.dup, 1) := by decide +kernel
theorem dX6_press_18 : decode cX6_press 18 = .ok (.ldc 145, 2) := by decide +kernel
theorem dX6_press_20 : decode cX6_press 20 = .ok (.invokespecial 61, 3) := by decide +kernel
theorem dX6_press_23 : decode cX6_press 23 = .ok (.athrow, 1) := by decide +kernel
theorem dX6_press_24 : decode cX6_press 24 = .ok (.aload_n 0, 1) := by decide +kernel
theorem dX6_press_25 : decode cX6_press 25 = .ok (.getfield 12, 3) := by decide +kernel
theorem dX6_press_28 : decode cX6_press 28 = .ok (.invokevirtual 64, 3) := by decide +kernel
theorem dX6_press_31 : decode cX6_press 31 = .ok (.aload_n 0, 1) := by decide +kernel
theorem dX6_press_32 : decode cX6_press 32 = .ok (.aload_n 0, 1) := by decide +kernel
theorem dX6_press_33 : decode cX6_press 33 = .ok (.getfield 28, 3) := by decide +kernel
theorem dX6_press_36 : decode cX6_press 36 = .ok (.getfield 147, 3) := by decide +kernel
theorem dX6_press_39 : decode cX6_press 39 = .ok (.aload_n 0, 1) := by decide +kernel
theorem dX6_press_40 : decode cX6_press 40 = .ok (.getfield 28, 3) := by decide +kernel
theorem dX6_press_43 : decode cX6_press 43 = .ok (.getfield 150, 3) := by decide +kernel
theorem dX6_press_46 : decode cX6_press 46 = .ok (.invokevirtual 153, 3) := by decide +kernel
theorem dX6_press_49 : decode cX6_press 49 = .ok (.aload_n 0, 1) := by decide +kernel
theorem dX6_press_50 : decode cX6_press 50 = .ok (.iload_n 1, 1) := by decide +kernel
theorem dX6_press_51 : decode cX6_press 51 = .ok (.invokevirtual 156, 3) := by decide +kernel
theorem dX6_press_54 : decode cX6_press 54 = .ok (.aload_n 0, 1) := by decide +kernel
theorem dX6_press_55 : decode cX6_press 55 = .ok (.iload_n 1, 1) := by decide +kernel
theorem dX6_press_56 : decode cX6_press 56 = .ok (.invokevirtual 159, 3) := by decide +kernel
theorem dX6_press_59 : decode cX6_press 59 = .ok (.aload_n 0, 1) := by decide +kernel
theorem dX6_press_60 : decode cX6_press 60 = .ok (.getfield 12, 3) := by decide +kernel
theorem dX6_press_63 : decode cX6_press 63 = .ok (.getfield 47, 3) := by decide +kernel
theorem dX6_press_66 : decode cX6_press 66 = .ok (.iconst 3, 1) := by decide +kernel
theorem dX6_press_67 : decode cX6_press 67 = .ok (.aload_n 0, 1) := by decide +kernel
theorem dX6_press_68 : decode cX6_press 68 = .ok (.getfield 28, 3) := by decide +kernel
theorem dX6_press_71 : decode cX6_press 71 = .ok (.getfield 162, 3) := by decide +kernel
theorem dX6_press_74 : decode cX6_press 74 = .ok (.invokevirtual 136, 3) := by decide +kernel
theorem dX6_press_77 : decode cX6_press 77 = .ok (.aload_n 0, 1) := by decide +kernel
theorem dX6_press_78 : decode cX6_press 78 = .ok (.getfield 12, 3) := by decide +kernel
theorem dX6_press_81 : decode cX6_press 81 = .ok (.getfield 47, 3) := by decide +kernel
theorem dX6_press_84 : decode cX6_press 84 = .ok (.iconst 4, 1) := by decide +kernel
theorem dX6_press_85 : decode cX6_press 85 = .ok (.aload_n 0, 1) := by decide +kernel
theorem dX6_press_86 : decode cX6_press 86 = .ok (.getfield 28, 3) := by decide +kernel
theorem dX6_press_89 : decode cX6_press 89 = .ok (.getfield 165, 3) := by decide +kernel
theorem dX6_press_92 : decode cX6_press 92 = .ok (.invokevirtual 136, 3) := by decide +kernel
theorem dX6_press_95 : decode cX6_press 95 = .ok (.aload_n 0, 1) := by decide +kernel
theorem dX6_press_96 : decode cX6_press 96 = .ok (.getfield 28, 3) := by decide +kernel
theorem dX6_press_99 : decode cX6_press 99 = .ok (.getfield 168, 3) := by decide +kernel
theorem dX6_press_102 : decode cX6_press 102 = .ok (.ireturn, 1) := by decide +kernel
theorem dX6_clean_0 : decode cX6_clean 0 = .ok (.aload_n 0, 1) := by decide +kernel
theorem dX6_clean_1 : decode cX6_clean 1 = .ok (.getfield 12, 3) := by decide +kernel
theorem dX6_clean_4 : decode cX6_clean 4 = .ok (.invokevirtual 64, 3) := by decide +kernel
theorem dX6_clean_7 : decode cX6_clean 7 = .ok (.aload_n 0, 1) := by decide +kernel
theorem dX6_clean_8 : decode cX6_clean 8 = .ok (.getfield 12, 3) := by decide +kernel
theorem dX6_clean_11 : decode cX6_clean 11 = .ok (.getfield 47, 3) := by decide +kernel
theorem dX6_clean_14 : decode cX6_clean 14 = .ok (.iconst 4, 1) := by decide +kernel
theorem dX6_clean_15 : decode cX6_clean 15 = .ok (.invokevirtual 51, 3) := by decide +kernel
theorem dX6_clean_18 : decode cX6_clean 18 = .ok (.istore_n 1, 1) := by decide +kernel
theorem dX6_clean_19 : decode cX6_clean 19 = .ok (.aload_n 0, 1) := by decide +kernel
theorem dX6_clean_20 : decode cX6_clean 20 = .ok (.aload_n 0, 1) := by decide +kernel
theorem dX6_clean_21 : decode cX6_clean 21 = .ok (.getfield 12, 3) := by decide +kernel
theorem dX6_clean_24 : decode cX6_clean 24 = .ok (.getfield 47, 3) := by decide +kernel
theorem dX6_clean_27 : decode cX6_clean 27 = .ok (.iconst 3, 1) := by decide +kernel
theorem dX6_clean_28 : decode cX6_clean 28 = .ok (.invokevirtual 51, 3) := by decide +kernel
theorem dX6_clean_31 : decode cX6_clean 31 = .ok (.iload_n 1, 1) := by decide +kernel
theorem dX6_clean_32 : decode cX6_clean 32 = .ok (.invokevirtual 153, 3) := by decide +kernel
theorem dX6_clean_35 : decode cX6_clean 35 = .ok (.aload_n 0, 1) := by decide +kernel
theorem dX6_clean_36 : decode cX6_clean 36 = .ok (.getfield 12, 3) := by decide +kernel
theorem dX6_clean_39 : decode cX6_clean 39 = .ok (.getfield 47, 3) := by decide +kernel
theorem dX6_clean_42 : decode cX6_clean 42 = .ok (.iconst 4, 1) := by decide +kernel
theorem dX6_clean_43 : decode cX6_clean 43 = .ok (.iconst 0, 1) := by decide +kernel
theorem dX6_clean_44 : decode cX6_clean 44 = .ok (.invokevirtual 136, 3) := by decide +kernel
theorem dX6_clean_47 : decode cX6_clean 47 = .ok (.iload_n 1, 1) := by decide +kernel
theorem dX6_clean_48 : decode cX6_clean 48 = .ok (.ireturn, 1) := by decide +kernel
theorem dX6_appeal_0 : decode cX6_appeal 0 = .ok (.aload_n 0, 1) := by decide +kernel
theorem dX6_appeal_1 : decode cX6_appeal 1 = .ok (.iload_n 1, 1) := by decide +kernel
theorem dX6_appeal_2 : decode cX6_appeal 2 = .ok (.invokevirtual 171, 3) := by decide +kernel
theorem dX6_appeal_5 : decode cX6_appeal 5 = .ok (.aload_n 0, 1) := by decide +kernel
theorem dX6_appeal_6 : decode cX6_appeal 6 = .ok (.iload_n 1, 1) := by decide +kernel
theorem dX6_appeal_7 : decode cX6_appeal 7 = .ok (.invokevirtual 174, 3) := by decide +kernel
theorem dX6_appeal_10 : decode cX6_appeal 10 = .ok (.ifCond .eq 13, 3) := by decide +kernel
theorem dX6_appeal_13 : decode cX6_appeal 13 = .ok (.new 57, 3) := by decide +kernel
theorem dX6_appeal_16 : decode cX6_appeal 16 = .ok (.dup, 1) := by decide +kernel
theorem dX6_appeal_17 : decode cX6_appeal 17 = .ok (.ldc 177, 2) := by decide +kernel
theorem dX6_appeal_19 : decode cX6_appeal 19 = .ok (.invokespecial 61, 3) := by decide +kernel
theorem dX6_appeal_22 : decode cX6_appeal 22 = .ok (.athrow, 1) := by decide +kernel
theorem dX6_appeal_23 : decode cX6_appeal 23 = .ok (.aload_n 0, 1) := by decide +kernel
theorem dX6_appeal_24 : decode cX6_appeal 24 = .ok (.getfield 12, 3) := by decide +kernel
theorem dX6_appeal_27 : decode cX6_appeal 27 = .ok (.invokevirtual 64, 3) := by decide +kernel
theorem dX6_appeal_30 : decode cX6_appeal 30 = .ok (.aload_n 0, 1) := by decide +kernel
theorem dX6_appeal_31 : decode cX6_appeal 31 = .ok (.iload_n 1, 1) := by decide +kernel
theorem dX6_appeal_32 : decode cX6_appeal 32 = .ok (.invokevirtual 179, 3) := by decide +kernel
theorem dX6_appeal_35 : decode cX6_appeal 35 = .ok (.istore_n 2, 1) := by decide +kernel
theorem dX6_appeal_36 : decode cX6_appeal 36 = .ok (.aload_n 0, 1) := by decide +kernel
theorem dX6_appeal_37 : decode cX6_appeal 37 = .ok (.getfield 12, 3) := by decide +kernel
theorem dX6_appeal_40 : decode cX6_appeal 40 = .ok (.getfield 182, 3) := by decide +kernel
theorem dX6_appeal_43 : decode cX6_appeal 43 = .ok (.iload_n 1, 1) := by decide +kernel
theorem dX6_appeal_44 : decode cX6_appeal 44 = .ok (.iconst 1, 1) := by decide +kernel
theorem dX6_appeal_45 : decode cX6_appeal 45 = .ok (.invokevirtual 116, 3) := by decide +kernel
theorem dX6_appeal_48 : decode cX6_appeal 48 = .ok (.istore_n 3, 1) := by decide +kernel
theorem dX6_appeal_49 : decode cX6_appeal 49 = .ok (.aload_n 0, 1) := by decide +kernel
theorem dX6_appeal_50 : decode cX6_appeal 50 = .ok (.getfield 12, 3) := by decide +kernel
theorem dX6_appeal_53 : decode cX6_appeal 53 = .ok (.getfield 182, 3) := by decide +kernel
theorem dX6_appeal_56 : decode cX6_appeal 56 = .ok (.iload_n 1, 1) := by decide +kernel
theorem dX6_appeal_57 : decode cX6_appeal 57 = .ok (.iconst 5, 1) := by decide +kernel
theorem dX6_appeal_58 : decode cX6_appeal 58 = .ok (.iconst 2, 1) := by decide +kernel
theorem dX6_appeal_59 : decode cX6_appeal 59 = .ok (.invokevirtual 102, 3) := by decide +kernel
theorem dX6_appeal_62 : decode cX6_appeal 62 = .ok (.aload_n 0, 1) := by decide +kernel
theorem dX6_appeal_63 : decode cX6_appeal 63 = .ok (.getfield 12, 3) := by decide +kernel
theorem dX6_appeal_66 : decode cX6_appeal 66 = .ok (.getfield 182, 3) := by decide +kernel
theorem dX6_appeal_69 : decode cX6_appeal 69 = .ok (.iload_n 1, 1) := by decide +kernel
theorem dX6_appeal_70 : decode cX6_appeal 70 = .ok (.bipush 9, 2) := by decide +kernel
theorem dX6_appeal_72 : decode cX6_appeal 72 = .ok (.iload_n 2, 1) := by decide +kernel
theorem dX6_appeal_73 : decode cX6_appeal 73 = .ok (.invokevirtual 102, 3) := by decide +kernel
theorem dX6_appeal_76 : decode cX6_appeal 76 = .ok (.aload_n 0, 1) := by decide +kernel
theorem dX6_appeal_77 : decode cX6_appeal 77 = .ok (.getfield 12, 3) := by decide +kernel
theorem dX6_appeal_80 : decode cX6_appeal 80 = .ok (.getfield 113, 3) := by decide +kernel
theorem dX6_appeal_83 : decode cX6_appeal 83 = .ok (.iload_n 3, 1) := by decide +kernel
theorem dX6_appeal_84 : decode cX6_appeal 84 = .ok (.iconst 1, 1) := by decide +kernel
theorem dX6_appeal_85 : decode cX6_appeal 85 = .ok (.iload_n 2, 1) := by decide +kernel
theorem dX6_appeal_86 : decode cX6_appeal 86 = .ok (.invokevirtual 185, 3) := by decide +kernel
theorem dX6_appeal_89 : decode cX6_appeal 89 = .ok (.aload_n 0, 1) := by decide +kernel
theorem dX6_appeal_90 : decode cX6_appeal 90 = .ok (.getfield 21, 3) := by decide +kernel
theorem dX6_appeal_93 : decode cX6_appeal 93 = .ok (.aload_n 0, 1) := by decide +kernel
theorem dX6_appeal_94 : decode cX6_appeal 94 = .ok (.getfield 12, 3) := by decide +kernel
theorem dX6_appeal_97 : decode cX6_appeal 97 = .ok (.getfield 182, 3) := by decide +kernel
theorem dX6_appeal_100 : decode cX6_appeal 100 = .ok (.iload_n 1, 1) := by decide +kernel
theorem dX6_appeal_101 : decode cX6_appeal 101 = .ok (.bipush 10, 2) := by decide +kernel
theorem dX6_appeal_103 : decode cX6_appeal 103 = .ok (.invokevirtual 116, 3) := by decide +kernel
theorem dX6_appeal_106 : decode cX6_appeal 106 = .ok (.iload_n 3, 1) := by decide +kernel
theorem dX6_appeal_107 : decode cX6_appeal 107 = .ok (.iload_n 2, 1) := by decide +kernel
theorem dX6_appeal_108 : decode cX6_appeal 108 = .ok (.aload_n 0, 1) := by decide +kernel
theorem dX6_appeal_109 : decode cX6_appeal 109 = .ok (.getfield 12, 3) := by decide +kernel
theorem dX6_appeal_112 : decode cX6_appeal 112 = .ok (.iload_n 1, 1) := by decide +kernel
theorem dX6_appeal_113 : decode cX6_appeal 113 = .ok (.invokevirtual 187, 3) := by decide +kernel
theorem dX6_appeal_116 : decode cX6_appeal 116 = .ok (.invokevirtual 190, 3) := by decide +kernel
theorem dX6_appeal_119 : decode cX6_appeal 119 = .ok (.aload_n 0, 1) := by decide +kernel
theorem dX6_appeal_120 : decode cX6_appeal 120 = .ok (.aload_n 0, 1) := by decide +kernel
theorem dX6_appeal_121 : decode cX6_appeal 121 = .ok (.getfield 12, 3) := by decide +kernel
theorem dX6_appeal_124 : decode cX6_appeal 124 = .ok (.getfield 182, 3) := by decide +kernel
theorem dX6_appeal_127 : decode cX6_appeal 127 = .ok (.iload_n 1, 1) := by decide +kernel
theorem dX6_appeal_128 : decode cX6_appeal 128 = .ok (.iconst 0, 1) := by decide +kernel
theorem dX6_appeal_129 : decode cX6_appeal 129 = .ok (.invokevirtual 116, 3) := by decide +kernel
theorem dX6_appeal_132 : decode cX6_appeal 132 = .ok (.iload_n 2, 1) := by decide +kernel
theorem dX6_appeal_133 : decode cX6_appeal 133 = .ok (.invokevirtual 194, 3) := by decide +kernel
theorem dX6_appeal_136 : decode cX6_appeal 136 = .ok (.iload_n 2, 1) := by decide +kernel
theorem dX6_appeal_137 : decode cX6_appeal 137 = .ok (.ireturn, 1) := by decide +kernel
theorem dX6_draw_0 : decode cX6_draw 0 = .ok (.aload_n 0, 1) := by decide +kernel
theorem dX6_draw_1 : decode cX6_draw 1 = .ok (.iload_n 1, 1) := by decide +kernel
theorem dX6_draw_2 : decode cX6_draw 2 = .ok (.invokevirtual 71, 3) := by decide +kernel
theorem dX6_draw_5 : decode cX6_draw 5 = .ok (.aload_n 0, 1) := by decide +kernel
theorem dX6_draw_6 : decode cX6_draw 6 = .ok (.iload_n 2, 1) := by decide +kernel
theorem dX6_draw_7 : decode cX6_draw 7 = .ok (.invokevirtual 138, 3) := by decide +kernel
theorem dX6_draw_10 : decode cX6_draw 10 = .ok (.iload_n 3, 1) := by decide +kernel
theorem dX6_draw_11 : decode cX6_draw 11 = .ok (.invokestatic 197, 3) := by decide +kernel
theorem dX6_draw_14 : decode cX6_draw 14 = .ok (.aload_n 0, 1) := by decide +kernel
theorem dX6_draw_15 : decode cX6_draw 15 = .ok (.getfield 12, 3) := by decide +kernel
theorem dX6_draw_18 : decode cX6_draw 18 = .ok (.getfield 200, 3) := by decide +kernel
theorem dX6_draw_21 : decode cX6_draw 21 = .ok (.iload_n 1, 1) := by decide +kernel
theorem dX6_draw_22 : decode cX6_draw 22 = .ok (.iconst 0, 1) := by decide +kernel
theorem dX6_draw_23 : decode cX6_draw 23 = .ok (.invokevirtual 116, 3) := by decide +kernel
theorem dX6_draw_26 : decode cX6_draw 26 = .ok (.iload_n 3, 1) := by decide +kernel
theorem dX6_draw_27 : decode cX6_draw 27 = .ok (.if_icmp .lt 15, 3) := by decide +kernel
theorem dX6_draw_30 : decode cX6_draw 30 = .ok (.aload_n 0, 1) := by decide +kernel
theorem dX6_draw_31 : decode cX6_draw 31 = .ok (.getfield 21, 3) := by decide +kernel
theorem dX6_draw_34 : decode cX6_draw 34 = .ok (.iload_n 2, 1) := by decide +kernel
theorem dX6_draw_35 : decode cX6_draw 35 = .ok (.invokevirtual 203, 3) := by decide +kernel
theorem dX6_draw_38 : decode cX6_draw 38 = .ok (.iload_n 3, 1) := by decide +kernel
theorem dX6_draw_39 : decode cX6_draw 39 = .ok (.if_icmp .ge 13, 3) := by decide +kernel
theorem dX6_draw_42 : decode cX6_draw 42 = .ok (.new 57, 3) := by decide +kernel
theorem dX6_draw_45 : decode cX6_draw 45 = .ok (.dup, 1) := by decide +kernel
theorem dX6_draw_46 : decode cX6_draw 46 = .ok (.ldc 206, 2) := by decide +kernel
theorem dX6_draw_48 : decode cX6_draw 48 = .ok (.invokespecial 61, 3) := by decide +kernel
theorem dX6_draw_51 : decode cX6_draw 51 = .ok (.athrow, 1) := by decide +kernel
theorem dX6_draw_52 : decode cX6_draw 52 = .ok (.aload_n 0, 1) := by decide +kernel
theorem dX6_draw_53 : decode cX6_draw 53 = .ok (.getfield 12, 3) := by decide +kernel
theorem dX6_draw_56 : decode cX6_draw 56 = .ok (.invokevirtual 64, 3) := by decide +kernel
theorem dX6_draw_59 : decode cX6_draw 59 = .ok (.aload_n 0, 1) := by decide +kernel
theorem dX6_draw_60 : decode cX6_draw 60 = .ok (.getfield 21, 3) := by decide +kernel
theorem dX6_draw_63 : decode cX6_draw 63 = .ok (.iload_n 2, 1) := by decide +kernel
theorem dX6_draw_64 : decode cX6_draw 64 = .ok (.iload_n 3, 1) := by decide +kernel
theorem dX6_draw_65 : decode cX6_draw 65 = .ok (.invokevirtual 208, 3) := by decide +kernel
theorem dX6_draw_68 : decode cX6_draw 68 = .ok (.iconst 0, 1) := by decide +kernel
theorem dX6_draw_69 : decode cX6_draw 69 = .ok (.istore 4, 2) := by decide +kernel
theorem dX6_draw_71 : decode cX6_draw 71 = .ok (.iload 4, 2) := by decide +kernel
theorem dX6_draw_73 : decode cX6_draw 73 = .ok (.iconst 5, 1) := by decide +kernel
theorem dX6_draw_74 : decode cX6_draw 74 = .ok (.if_icmp .ge 31, 3) := by decide +kernel
theorem dX6_draw_77 : decode cX6_draw 77 = .ok (.aload_n 0, 1) := by decide +kernel
theorem dX6_draw_78 : decode cX6_draw 78 = .ok (.getfield 12, 3) := by decide +kernel
theorem dX6_draw_81 : decode cX6_draw 81 = .ok (.getfield 113, 3) := by decide +kernel
theorem dX6_draw_84 : decode cX6_draw 84 = .ok (.iload 4, 2) := by decide +kernel
theorem dX6_draw_86 : decode cX6_draw 86 = .ok (.iconst 2, 1) := by decide +kernel
theorem dX6_draw_87 : decode cX6_draw 87 = .ok (.aload_n 0, 1) := by decide +kernel
theorem dX6_draw_88 : decode cX6_draw 88 = .ok (.getfield 21, 3) := by decide +kernel
theorem dX6_draw_91 : decode cX6_draw 91 = .ok (.iload 4, 2) := by decide +kernel
theorem dX6_draw_93 : decode cX6_draw 93 = .ok (.invokevirtual 211, 3) := by decide +kernel
theorem dX6_draw_96 : decode cX6_draw 96 = .ok (.invokevirtual 185, 3) := by decide +kernel
theorem dX6_draw_99 : decode cX6_draw 99 = .ok (.iinc 4 1, 3) := by decide +kernel
theorem dX6_draw_102 : decode cX6_draw 102 = .ok (.goto (-31), 3) := by decide +kernel
theorem dX6_draw_105 : decode cX6_draw 105 = .ok (.aload_n 0, 1) := by decide +kernel
theorem dX6_draw_106 : decode cX6_draw 106 = .ok (.getfield 12, 3) := by decide +kernel
theorem dX6_draw_109 : decode cX6_draw 109 = .ok (.getfield 200, 3) := by decide +kernel
theorem dX6_draw_112 : decode cX6_draw 112 = .ok (.iload_n 1, 1) := by decide +kernel
theorem dX6_draw_113 : decode cX6_draw 113 = .ok (.iconst 0, 1) := by decide +kernel
theorem dX6_draw_114 : decode cX6_draw 114 = .ok (.iload_n 3, 1) := by decide +kernel
theorem dX6_draw_115 : decode cX6_draw 115 = .ok (.ineg, 1) := by decide +kernel
theorem dX6_draw_116 : decode cX6_draw 116 = .ok (.invokevirtual 185, 3) := by decide +kernel
theorem dX6_draw_119 : decode cX6_draw 119 = .ok (.aload_n 0, 1) := by decide +kernel
theorem dX6_draw_120 : decode cX6_draw 120 = .ok (.getfield 12, 3) := by decide +kernel
theorem dX6_draw_123 : decode cX6_draw 123 = .ok (.getfield 200, 3) := by decide +kernel
theorem dX6_draw_126 : decode cX6_draw 126 = .ok (.iload_n 1, 1) := by decide +kernel
theorem dX6_draw_127 : decode cX6_draw 127 = .ok (.iconst 1, 1) := by decide +kernel
theorem dX6_draw_128 : decode cX6_draw 128 = .ok (.iload_n 3, 1) := by decide +kernel
theorem dX6_draw_129 : decode cX6_draw 129 = .ok (.invokevirtual 185, 3) := by decide +kernel
theorem dX6_draw_132 : decode cX6_draw 132 = .ok (.aload_n 0, 1) := by decide +kernel
theorem dX6_draw_133 : decode cX6_draw 133 = .ok (.getfield 12, 3) := by decide +kernel
theorem dX6_draw_136 : decode cX6_draw 136 = .ok (.getfield 200, 3) := by decide +kernel
theorem dX6_draw_139 : decode cX6_draw 139 = .ok (.iload_n 1, 1) := by decide +kernel
theorem dX6_draw_140 : decode cX6_draw 140 = .ok (.iconst 0, 1) := by decide +kernel
theorem dX6_draw_141 : decode cX6_draw 141 = .ok (.invokevirtual 116, 3) := by decide +kernel
theorem dX6_draw_144 : decode cX6_draw 144 = .ok (.ireturn, 1) := by decide +kernel
theorem dX6_move_0 : decode cX6_move 0 = .ok (.aload_n 0, 1) := by decide +kernel
theorem dX6_move_1 : decode cX6_move 1 = .ok (.iload_n 1, 1) := by decide +kernel
theorem dX6_move_2 : decode cX6_move 2 = .ok (.invokevirtual 138, 3) := by decide +kernel
theorem dX6_move_5 : decode cX6_move 5 = .ok (.aload_n 0, 1) := by decide +kernel
theorem dX6_move_6 : decode cX6_move 6 = .ok (.iload_n 2, 1) := by decide +kernel
theorem dX6_move_7 : decode cX6_move 7 = .ok (.invokevirtual 138, 3) := by decide +kernel
theorem dX6_move_10 : decode cX6_move 10 = .ok (.iload_n 1, 1) := by decide +kernel
theorem dX6_move_11 : decode cX6_move 11 = .ok (.iload_n 2, 1) := by decide +kernel
theorem dX6_move_12 : decode cX6_move 12 = .ok (.if_icmp .ne 13, 3) := by decide +kernel
theorem dX6_move_15 : decode cX6_move 15 = .ok (.new 83, 3) := by decide +kernel
theorem dX6_move_18 : decode cX6_move 18 = .ok (.dup, 1) := by decide +kernel
theorem dX6_move_19 : decode cX6_move 19 = .ok (.ldc 214, 2) := by decide +kernel
theorem dX6_move_21 : decode cX6_move 21 = .ok (.invokespecial 87, 3) := by decide +kernel
theorem dX6_move_24 : decode cX6_move 24 = .ok (.athrow, 1) := by decide +kernel
theorem dX6_move_25 : decode cX6_move 25 = .ok (.iload_n 3, 1) := by decide +kernel
theorem dX6_move_26 : decode cX6_move 26 = .ok (.invokestatic 197, 3) := by decide +kernel
theorem dX6_move_29 : decode cX6_move 29 = .ok (.aload_n 0, 1) := by decide +kernel
theorem dX6_move_30 : decode cX6_move 30 = .ok (.getfield 21, 3) := by decide +kernel
theorem dX6_move_33 : decode cX6_move 33 = .ok (.iload_n 1, 1) := by decide +kernel
theorem dX6_move_34 : decode cX6_move 34 = .ok (.invokevirtual 216, 3) := by decide +kernel
theorem dX6_move_37 : decode cX6_move 37 = .ok (.istore 5, 2) := by decide +kernel
theorem dX6_move_39 : decode cX6_move 39 = .ok (.aload_n 0, 1) := by decide +kernel
theorem dX6_move_40 : decode cX6_move 40 = .ok (.getfield 21, 3) := by decide +kernel
theorem dX6_move_43 : decode cX6_move 43 = .ok (.iload_n 1, 1) := by decide +kernel
theorem dX6_move_44 : decode cX6_move 44 = .ok (.invokevirtual 203, 3) := by decide +kernel
theorem dX6_move_47 : decode cX6_move 47 = .ok (.iload_n 3, 1) := by decide +kernel
theorem dX6_move_48 : decode cX6_move 48 = .ok (.if_icmp .lt 30, 3) := by decide +kernel
theorem dX6_move_51 : decode cX6_move 51 = .ok (.aload_n 0, 1) := by decide +kernel
theorem dX6_move_52 : decode cX6_move 52 = .ok (.getfield 21, 3) := by decide +kernel
theorem dX6_move_55 : decode cX6_move 55 = .ok (.iload_n 2, 1) := by decide +kernel
theorem dX6_move_56 : decode cX6_move 56 = .ok (.invokevirtual 219, 3) := by decide +kernel
theorem dX6_move_59 : decode cX6_move 59 = .ok (.iload_n 3, 1) := by decide +kernel
theorem dX6_move_60 : decode cX6_move 60 = .ok (.if_icmp .lt 18, 3) := by decide +kernel
theorem dX6_move_63 : decode cX6_move 63 = .ok (.aload_n 0, 1) := by decide +kernel
theorem dX6_move_64 : decode cX6_move 64 = .ok (.getfield 21, 3) := by decide +kernel
theorem dX6_move_67 : decode cX6_move 67 = .ok (.iload_n 2, 1) := by decide +kernel
theorem dX6_move_68 : decode cX6_move 68 = .ok (.iload 5, 2) := by decide +kernel
theorem dX6_move_70 : decode cX6_move 70 = .ok (.iload 4, 2) := by decide +kernel
theorem dX6_move_72 : decode cX6_move 72 = .ok (.invokevirtual 222, 3) := by decide +kernel
theorem dX6_move_75 : decode cX6_move 75 = .ok (.ifCond .ne 13, 3) := by decide +kernel
theorem dX6_move_78 : decode cX6_move 78 = .ok (.new 57, 3) := by decide +kernel
theorem dX6_move_81 : decode cX6_move 81 = .ok (.dup, 1) := by decide +kernel
theorem dX6_move_82 : decode cX6_move 82 = .ok (.ldc 226, 2) := by decide +kernel
theorem dX6_move_84 : decode cX6_move 84 = .ok (.invokespecial 61, 3) := by decide +kernel
theorem dX6_move_87 : decode cX6_move 87 = .ok (.athrow, 1) := by decide +kernel
theorem dX6_move_88 : decode cX6_move 88 = .ok (.aload_n 0, 1) := by decide +kernel
theorem dX6_move_89 : decode cX6_move 89 = .ok (.getfield 12, 3) := by decide +kernel
theorem dX6_move_92 : decode cX6_move 92 = .ok (.invokevirtual 64, 3) := by decide +kernel
theorem dX6_move_95 : decode cX6_move 95 = .ok (.aload_n 0, 1) := by decide +kernel
theorem dX6_move_96 : decode cX6_move 96 = .ok (.getfield 21, 3) := by decide +kernel
theorem dX6_move_99 : decode cX6_move 99 = .ok (.iload_n 1, 1) := by decide +kernel
theorem dX6_move_100 : decode cX6_move 100 = .ok (.iload_n 3, 1) := by decide +kernel
theorem dX6_move_101 : decode cX6_move 101 = .ok (.invokevirtual 208, 3) := by decide +kernel
theorem dX6_move_104 : decode cX6_move 104 = .ok (.iconst 0, 1) := by decide +kernel
theorem dX6_move_105 : decode cX6_move 105 = .ok (.istore 6, 2) := by decide +kernel
theorem dX6_move_107 : decode cX6_move 107 = .ok (.iload 6, 2) := by decide +kernel
theorem dX6_move_109 : decode cX6_move 109 = .ok (.iconst 5, 1) := by decide +kernel
theorem dX6_move_110 : decode cX6_move 110 = .ok (.if_icmp .ge 30, 3) := by decide +kernel
theorem dX6_move_113 : decode cX6_move 113 = .ok (.aload_n 0, 1) := by decide +kernel
theorem dX6_move_114 : decode cX6_move 114 = .ok (.getfield 21, 3) := by decide +kernel
theorem dX6_move_117 : decode cX6_move 117 = .ok (.iload_n 2, 1) := by decide +kernel
theorem dX6_move_118 : decode cX6_move 118 = .ok (.iload 6, 2) := by decide +kernel
theorem dX6_move_120 : decode cX6_move 120 = .ok (.aload_n 0, 1) := by decide +kernel
theorem dX6_move_121 : decode cX6_move 121 = .ok (.getfield 21, 3) := by decide +kernel
theorem dX6_move_124 : decode cX6_move 124 = .ok (.iload 6, 2) := by decide +kernel
theorem dX6_move_126 : decode cX6_move 126 = .ok (.invokevirtual 211, 3) := by decide +kernel
theorem dX6_move_129 : decode cX6_move 129 = .ok (.iload 5, 2) := by decide +kernel
theorem dX6_move_131 : decode cX6_move 131 = .ok (.invokevirtual 190, 3) := by decide +kernel
theorem dX6_move_134 : decode cX6_move 134 = .ok (.iinc 6 1, 3) := by decide +kernel
theorem dX6_move_137 : decode cX6_move 137 = .ok (.goto (-30), 3) := by decide +kernel
theorem dX6_move_140 : decode cX6_move 140 = .ok (.aload_n 0, 1) := by decide +kernel
theorem dX6_move_141 : decode cX6_move 141 = .ok (.getfield 21, 3) := by decide +kernel
theorem dX6_move_144 : decode cX6_move 144 = .ok (.iload_n 2, 1) := by decide +kernel
theorem dX6_move_145 : decode cX6_move 145 = .ok (.invokevirtual 203, 3) := by decide +kernel
theorem dX6_move_148 : decode cX6_move 148 = .ok (.ireturn, 1) := by decide +kernel
theorem dX6_pass_0 : decode cX6_pass 0 = .ok (.iload_n 1, 1) := by decide +kernel
theorem dX6_pass_1 : decode cX6_pass 1 = .ok (.iconst 1, 1) := by decide +kernel
theorem dX6_pass_2 : decode cX6_pass 2 = .ok (.bipush 100, 2) := by decide +kernel
theorem dX6_pass_4 : decode cX6_pass 4 = .ok (.invokestatic 79, 3) := by decide +kernel
theorem dX6_pass_7 : decode cX6_pass 7 = .ok (.ifCond .eq 13, 3) := by decide +kernel
theorem dX6_pass_10 : decode cX6_pass 10 = .ok (.new 83, 3) := by decide +kernel
theorem dX6_pass_13 : decode cX6_pass 13 = .ok (.dup, 1) := by decide +kernel
theorem dX6_pass_14 : decode cX6_pass 14 = .ok (.ldc 228, 2) := by decide +kernel
theorem dX6_pass_16 : decode cX6_pass 16 = .ok (.invokespecial 87, 3) := by decide +kernel
theorem dX6_pass_19 : decode cX6_pass 19 = .ok (.athrow, 1) := by decide +kernel
theorem dX6_pass_20 : decode cX6_pass 20 = .ok (.aload_n 0, 1) := by decide +kernel
theorem dX6_pass_21 : decode cX6_pass 21 = .ok (.getfield 12, 3) := by decide +kernel
theorem dX6_pass_24 : decode cX6_pass 24 = .ok (.invokevirtual 64, 3) := by decide +kernel
theorem dX6_pass_27 : decode cX6_pass 27 = .ok (.aload_n 0, 1) := by decide +kernel
theorem dX6_pass_28 : decode cX6_pass 28 = .ok (.getfield 12, 3) := by decide +kernel
theorem dX6_pass_31 : decode cX6_pass 31 = .ok (.getfield 47, 3) := by decide +kernel
theorem dX6_pass_34 : decode cX6_pass 34 = .ok (.bipush 6, 2) := by decide +kernel
theorem dX6_pass_36 : decode cX6_pass 36 = .ok (.iload_n 1, 1) := by decide +kernel
theorem dX6_pass_37 : decode cX6_pass 37 = .ok (.invokevirtual 67, 3) := by decide +kernel
theorem dX6_pass_40 : decode cX6_pass 40 = .ok (.iconst 0, 1) := by decide +kernel
theorem dX6_pass_41 : decode cX6_pass 41 = .ok (.istore_n 2, 1) := by decide +kernel
theorem dX6_pass_42 : decode cX6_pass 42 = .ok (.aload_n 0, 1) := by decide +kernel
theorem dX6_pass_43 : decode cX6_pass 43 = .ok (.getfield 12, 3) := by decide +kernel
theorem dX6_pass_46 : decode cX6_pass 46 = .ok (.getfield 47, 3) := by decide +kernel
theorem dX6_pass_49 : decode cX6_pass 49 = .ok (.iconst 2, 1) := by decide +kernel
theorem dX6_pass_50 : decode cX6_pass 50 = .ok (.invokevirtual 51, 3) := by decide +kernel
theorem dX6_pass_53 : decode cX6_pass 53 = .ok (.istore_n 3, 1) := by decide +kernel
theorem dX6_pass_54 : decode cX6_pass 54 = .ok (.iconst 0, 1) := by decide +kernel
theorem dX6_pass_55 : decode cX6_pass 55 = .ok (.istore 4, 2) := by decide +kernel
theorem dX6_pass_57 : decode cX6_pass 57 = .ok (.iload 4, 2) := by decide +kernel
theorem dX6_pass_59 : decode cX6_pass 59 = .ok (.iload_n 3, 1) := by decide +kernel
theorem dX6_pass_60 : decode cX6_pass 60 = .ok (.if_icmp .ge 39, 3) := by decide +kernel
theorem dX6_pass_63 : decode cX6_pass 63 = .ok (.iconst 0, 1) := by decide +kernel
theorem dX6_pass_64 : decode cX6_pass 64 = .ok (.istore 5, 2) := by decide +kernel
theorem dX6_pass_66 : decode cX6_pass 66 = .ok (.iload 5, 2) := by decide +kernel
theorem dX6_pass_68 : decode cX6_pass 68 = .ok (.iconst 5, 1) := by decide +kernel
theorem dX6_pass_69 : decode cX6_pass 69 = .ok (.if_icmp .ge 24, 3) := by decide +kernel
theorem dX6_pass_72 : decode cX6_pass 72 = .ok (.iload_n 2, 1) := by decide +kernel
theorem dX6_pass_73 : decode cX6_pass 73 = .ok (.aload_n 0, 1) := by decide +kernel
theorem dX6_pass_74 : decode cX6_pass 74 = .ok (.getfield 21, 3) := by decide +kernel
theorem dX6_pass_77 : decode cX6_pass 77 = .ok (.iload 4, 2) := by decide +kernel
theorem dX6_pass_79 : decode cX6_pass 79 = .ok (.iload 5, 2) := by decide +kernel
theorem dX6_pass_81 : decode cX6_pass 81 = .ok (.iload_n 1, 1) := by decide +kernel
theorem dX6_pass_82 : decode cX6_pass 82 = .ok (.invokevirtual 230, 3) := by decide +kernel
theorem dX6_pass_85 : decode cX6_pass 85 = .ok (.iadd, 1) := by decide +kernel
theorem dX6_pass_86 : decode cX6_pass 86 = .ok (.istore_n 2, 1) := by decide +kernel
theorem dX6_pass_87 : decode cX6_pass 87 = .ok (.iinc 5 1, 3) := by decide +kernel
theorem dX6_pass_90 : decode cX6_pass 90 = .ok (.goto (-24), 3) := by decide +kernel
theorem dX6_pass_93 : decode cX6_pass 93 = .ok (.iinc 4 1, 3) := by decide +kernel
theorem dX6_pass_96 : decode cX6_pass 96 = .ok (.goto (-39), 3) := by decide +kernel
theorem dX6_pass_99 : decode cX6_pass 99 = .ok (.iload_n 2, 1) := by decide +kernel
theorem dX6_pass_100 : decode cX6_pass 100 = .ok (.ireturn, 1) := by decide +kernel
theorem dX6_grower_0 : decode cX6_grower 0 = .ok (.aload_n 0, 1) := by decide +kernel
theorem dX6_grower_1 : decode cX6_grower 1 = .ok (.iload_n 1, 1) := by decide +kernel
theorem dX6_grower_2 : decode cX6_grower 2 = .ok (.invokevirtual 71, 3) := by decide +kernel
theorem dX6_grower_5 : decode cX6_grower 5 = .ok (.iload_n 2, 1) := by decide +kernel
theorem dX6_grower_6 : decode cX6_grower 6 = .ok (.tableswitch 106 0 5 #[38, 51, 59, 67, 80, 93], 38) := by decide +kernel
theorem dX6_grower_44 : decode cX6_grower 44 = .ok (.aload_n 0, 1) := by decide +kernel
theorem dX6_grower_45 : decode cX6_grower 45 = .ok (.getfield 12, 3) := by decide +kernel
theorem dX6_grower_48 : decode cX6_grower 48 = .ok (.getfield 200, 3) := by decide +kernel
theorem dX6_grower_51 : decode cX6_grower 51 = .ok (.iload_n 1, 1) := by decide +kernel
theorem dX6_grower_52 : decode cX6_grower 52 = .ok (.iconst 0, 1) := by decide +kernel
theorem dX6_grower_53 : decode cX6_grower 53 = .ok (.invokevirtual 116, 3) := by decide +kernel
theorem dX6_grower_56 : decode cX6_grower 56 = .ok (.ireturn, 1) := by decide +kernel
theorem dX6_grower_57 : decode cX6_grower 57 = .ok (.aload_n 0, 1) := by decide +kernel
theorem dX6_grower_58 : decode cX6_grower 58 = .ok (.iconst 0, 1) := by decide +kernel
theorem dX6_grower_59 : decode cX6_grower 59 = .ok (.iload_n 1, 1) := by decide +kernel
theorem dX6_grower_60 : decode cX6_grower 60 = .ok (.iconst 0, 1) := by decide +kernel
theorem dX6_grower_61 : decode cX6_grower 61 = .ok (.invokevirtual 268, 3) := by decide +kernel
theorem dX6_grower_64 : decode cX6_grower 64 = .ok (.ireturn, 1) := by decide +kernel
theorem dX6_grower_65 : decode cX6_grower 65 = .ok (.aload_n 0, 1) := by decide +kernel
theorem dX6_grower_66 : decode cX6_grower 66 = .ok (.iconst 0, 1) := by decide +kernel
theorem dX6_grower_67 : decode cX6_grower 67 = .ok (.iload_n 1, 1) := by decide +kernel
theorem dX6_grower_68 : decode cX6_grower 68 = .ok (.iconst 1, 1) := by decide +kernel
theorem dX6_grower_69 : decode cX6_grower 69 = .ok (.invokevirtual 268, 3) := by decide +kernel
theorem dX6_grower_72 : decode cX6_grower 72 = .ok (.ireturn, 1) := by decide +kernel
theorem dX6_grower_73 : decode cX6_grower 73 = .ok (.aload_n 0, 1) := by decide +kernel
theorem dX6_grower_74 : decode cX6_grower 74 = .ok (.getfield 12, 3) := by decide +kernel
theorem dX6_grower_77 : decode cX6_grower 77 = .ok (.getfield 200, 3) := by decide +kernel
theorem dX6_grower_80 : decode cX6_grower 80 = .ok (.iload_n 1, 1) := by decide +kernel
theorem dX6_grower_81 : decode cX6_grower 81 = .ok (.iconst 1, 1) := by decide +kernel
theorem dX6_grower_82 : decode cX6_grower 82 = .ok (.invokevirtual 116, 3) := by decide +kernel
theorem dX6_grower_85 : decode cX6_grower 85 = .ok (.ireturn, 1) := by decide +kernel
theorem dX6_grower_86 : decode cX6_grower 86 = .ok (.aload_n 0, 1) := by decide +kernel
theorem dX6_grower_87 : decode cX6_grower 87 = .ok (.getfield 12, 3) := by decide +kernel
theorem dX6_grower_90 : decode cX6_grower 90 = .ok (.getfield 200, 3) := by decide +kernel
theorem dX6_grower_93 : decode cX6_grower 93 = .ok (.iload_n 1, 1) := by decide +kernel
theorem dX6_grower_94 : decode cX6_grower 94 = .ok (.iconst 2, 1) := by decide +kernel
theorem dX6_grower_95 : decode cX6_grower 95 = .ok (.invokevirtual 116, 3) := by decide +kernel
theorem dX6_grower_98 : decode cX6_grower 98 = .ok (.ireturn, 1) := by decide +kernel
theorem dX6_grower_99 : decode cX6_grower 99 = .ok (.aload_n 0, 1) := by decide +kernel
theorem dX6_grower_100 : decode cX6_grower 100 = .ok (.getfield 12, 3) := by decide +kernel
theorem dX6_grower_103 : decode cX6_grower 103 = .ok (.getfield 200, 3) := by decide +kernel
theorem dX6_grower_106 : decode cX6_grower 106 = .ok (.iload_n 1, 1) := by decide +kernel
theorem dX6_grower_107 : decode cX6_grower 107 = .ok (.iconst 3, 1) := by decide +kernel
theorem dX6_grower_108 : decode cX6_grower 108 = .ok (.invokevirtual 116, 3) := by decide +kernel
theorem dX6_grower_111 : decode cX6_grower 111 = .ok (.ireturn, 1) := by decide +kernel
theorem dX6_grower_112 : decode cX6_grower 112 = .ok (.new 83, 3) := by decide +kernel
theorem dX6_grower_115 : decode cX6_grower 115 = .ok (.dup, 1) := by decide +kernel
theorem dX6_grower_116 : decode cX6_grower 116 = .ok (.ldc_w 272, 3) := by decide +kernel
theorem dX6_grower_119 : decode cX6_grower 119 = .ok (.invokespecial 87, 3) := by decide +kernel
theorem dX6_grower_122 : decode cX6_grower 122 = .ok (.athrow, 1) := by decide +kernel
theorem dX6_lot_0 : decode cX6_lot 0 = .ok (.aload_n 0, 1) := by decide +kernel
theorem dX6_lot_1 : decode cX6_lot 1 = .ok (.iload_n 1, 1) := by decide +kernel
theorem dX6_lot_2 : decode cX6_lot 2 = .ok (.invokevirtual 171, 3) := by decide +kernel
theorem dX6_lot_5 : decode cX6_lot 5 = .ok (.iload_n 2, 1) := by decide +kernel
theorem dX6_lot_6 : decode cX6_lot 6 = .ok (.tableswitch 174 0 10 #[58, 71, 84, 97, 110, 119, 132, 141, 150, 159, 168], 58) := by decide +kernel
theorem dX6_lot_64 : decode cX6_lot 64 = .ok (.aload_n 0, 1) := by decide +kernel
theorem dX6_lot_65 : decode cX6_lot 65 = .ok (.getfield 12, 3) := by decide +kernel
theorem dX6_lot_68 : decode cX6_lot 68 = .ok (.getfield 182, 3) := by decide +kernel
theorem dX6_lot_71 : decode cX6_lot 71 = .ok (.iload_n 1, 1) := by decide +kernel
theorem dX6_lot_72 : decode cX6_lot 72 = .ok (.iconst 0, 1) := by decide +kernel
theorem dX6_lot_73 : decode cX6_lot 73 = .ok (.invokevirtual 116, 3) := by decide +kernel
theorem dX6_lot_76 : decode cX6_lot 76 = .ok (.ireturn, 1) := by decide +kernel
theorem dX6_lot_77 : decode cX6_lot 77 = .ok (.aload_n 0, 1) := by decide +kernel
theorem dX6_lot_78 : decode cX6_lot 78 = .ok (.getfield 12, 3) := by decide +kernel
theorem dX6_lot_81 : decode cX6_lot 81 = .ok (.getfield 182, 3) := by decide +kernel
theorem dX6_lot_84 : decode cX6_lot 84 = .ok (.iload_n 1, 1) := by decide +kernel
theorem dX6_lot_85 : decode cX6_lot 85 = .ok (.iconst 1, 1) := by decide +kernel
theorem dX6_lot_86 : decode cX6_lot 86 = .ok (.invokevirtual 116, 3) := by decide +kernel
theorem dX6_lot_89 : decode cX6_lot 89 = .ok (.ireturn, 1) := by decide +kernel
theorem dX6_lot_90 : decode cX6_lot 90 = .ok (.aload_n 0, 1) := by decide +kernel
theorem dX6_lot_91 : decode cX6_lot 91 = .ok (.getfield 12, 3) := by decide +kernel
theorem dX6_lot_94 : decode cX6_lot 94 = .ok (.getfield 182, 3) := by decide +kernel
theorem dX6_lot_97 : decode cX6_lot 97 = .ok (.iload_n 1, 1) := by decide +kernel
theorem dX6_lot_98 : decode cX6_lot 98 = .ok (.iconst 2, 1) := by decide +kernel
theorem dX6_lot_99 : decode cX6_lot 99 = .ok (.invokevirtual 116, 3) := by decide +kernel
theorem dX6_lot_102 : decode cX6_lot 102 = .ok (.ireturn, 1) := by decide +kernel
theorem dX6_lot_103 : decode cX6_lot 103 = .ok (.aload_n 0, 1) := by decide +kernel
theorem dX6_lot_104 : decode cX6_lot 104 = .ok (.getfield 12, 3) := by decide +kernel
theorem dX6_lot_107 : decode cX6_lot 107 = .ok (.getfield 182, 3) := by decide +kernel
theorem dX6_lot_110 : decode cX6_lot 110 = .ok (.iload_n 1, 1) := by decide +kernel
theorem dX6_lot_111 : decode cX6_lot 111 = .ok (.iconst 3, 1) := by decide +kernel
theorem dX6_lot_112 : decode cX6_lot 112 = .ok (.invokevirtual 116, 3) := by decide +kernel
theorem dX6_lot_115 : decode cX6_lot 115 = .ok (.ireturn, 1) := by decide +kernel
theorem dX6_lot_116 : decode cX6_lot 116 = .ok (.aload_n 0, 1) := by decide +kernel
theorem dX6_lot_117 : decode cX6_lot 117 = .ok (.getfield 12, 3) := by decide +kernel
theorem dX6_lot_120 : decode cX6_lot 120 = .ok (.iload_n 1, 1) := by decide +kernel
theorem dX6_lot_121 : decode cX6_lot 121 = .ok (.invokevirtual 187, 3) := by decide +kernel
theorem dX6_lot_124 : decode cX6_lot 124 = .ok (.ireturn, 1) := by decide +kernel
theorem dX6_lot_125 : decode cX6_lot 125 = .ok (.aload_n 0, 1) := by decide +kernel
theorem dX6_lot_126 : decode cX6_lot 126 = .ok (.getfield 12, 3) := by decide +kernel
theorem dX6_lot_129 : decode cX6_lot 129 = .ok (.getfield 182, 3) := by decide +kernel
theorem dX6_lot_132 : decode cX6_lot 132 = .ok (.iload_n 1, 1) := by decide +kernel
theorem dX6_lot_133 : decode cX6_lot 133 = .ok (.iconst 5, 1) := by decide +kernel
theorem dX6_lot_134 : decode cX6_lot 134 = .ok (.invokevirtual 116, 3) := by decide +kernel
theorem dX6_lot_137 : decode cX6_lot 137 = .ok (.ireturn, 1) := by decide +kernel
theorem dX6_lot_138 : decode cX6_lot 138 = .ok (.aload_n 0, 1) := by decide +kernel
theorem dX6_lot_139 : decode cX6_lot 139 = .ok (.iload_n 1, 1) := by decide +kernel
theorem dX6_lot_140 : decode cX6_lot 140 = .ok (.iconst 1, 1) := by decide +kernel
theorem dX6_lot_141 : decode cX6_lot 141 = .ok (.bipush 6, 2) := by decide +kernel
theorem dX6_lot_143 : decode cX6_lot 143 = .ok (.invokevirtual 274, 3) := by decide +kernel
theorem dX6_lot_146 : decode cX6_lot 146 = .ok (.ireturn, 1) := by decide +kernel
theorem dX6_lot_147 : decode cX6_lot 147 = .ok (.aload_n 0, 1) := by decide +kernel
theorem dX6_lot_148 : decode cX6_lot 148 = .ok (.iload_n 1, 1) := by decide +kernel
theorem dX6_lot_149 : decode cX6_lot 149 = .ok (.iconst 1, 1) := by decide +kernel
theorem dX6_lot_150 : decode cX6_lot 150 = .ok (.bipush 8, 2) := by decide +kernel
theorem dX6_lot_152 : decode cX6_lot 152 = .ok (.invokevirtual 274, 3) := by decide +kernel
theorem dX6_lot_155 : decode cX6_lot 155 = .ok (.ireturn, 1) := by decide +kernel
theorem dX6_lot_156 : decode cX6_lot 156 = .ok (.aload_n 0, 1) := by decide +kernel
theorem dX6_lot_157 : decode cX6_lot 157 = .ok (.iload_n 1, 1) := by decide +kernel
theorem dX6_lot_158 : decode cX6_lot 158 = .ok (.iconst 2, 1) := by decide +kernel
theorem dX6_lot_159 : decode cX6_lot 159 = .ok (.bipush 9, 2) := by decide +kernel
theorem dX6_lot_161 : decode cX6_lot 161 = .ok (.invokevirtual 274, 3) := by decide +kernel
theorem dX6_lot_164 : decode cX6_lot 164 = .ok (.ireturn, 1) := by decide +kernel
theorem dX6_lot_165 : decode cX6_lot 165 = .ok (.aload_n 0, 1) := by decide +kernel
theorem dX6_lot_166 : decode cX6_lot 166 = .ok (.iload_n 1, 1) := by decide +kernel
theorem dX6_lot_167 : decode cX6_lot 167 = .ok (.iconst 1, 1) := by decide +kernel
theorem dX6_lot_168 : decode cX6_lot 168 = .ok (.bipush 10, 2) := by decide +kernel
theorem dX6_lot_170 : decode cX6_lot 170 = .ok (.invokevirtual 274, 3) := by decide +kernel
theorem dX6_lot_173 : decode cX6_lot 173 = .ok (.ireturn, 1) := by decide +kernel
theorem dX6_lot_174 : decode cX6_lot 174 = .ok (.aload_n 0, 1) := by decide +kernel
theorem dX6_lot_175 : decode cX6_lot 175 = .ok (.iload_n 1, 1) := by decide +kernel
theorem dX6_lot_176 : decode cX6_lot 176 = .ok (.invokevirtual 174, 3) := by decide +kernel
theorem dX6_lot_179 : decode cX6_lot 179 = .ok (.ireturn, 1) := by decide +kernel
theorem dX6_lot_180 : decode cX6_lot 180 = .ok (.new 83, 3) := by decide +kernel
theorem dX6_lot_183 : decode cX6_lot 183 = .ok (.dup, 1) := by decide +kernel
theorem dX6_lot_184 : decode cX6_lot 184 = .ok (.ldc_w 277, 3) := by decide +kernel
theorem dX6_lot_187 : decode cX6_lot 187 = .ok (.invokespecial 87, 3) := by decide +kernel
theorem dX6_lot_190 : decode cX6_lot 190 = .ok (.athrow, 1) := by decide +kernel
theorem dX6_tank_0 : decode cX6_tank 0 = .ok (.aload_n 0, 1) := by decide +kernel
theorem dX6_tank_1 : decode cX6_tank 1 = .ok (.iload_n 1, 1) := by decide +kernel
theorem dX6_tank_2 : decode cX6_tank 2 = .ok (.invokevirtual 138, 3) := by decide +kernel
theorem dX6_tank_5 : decode cX6_tank 5 = .ok (.iload_n 2, 1) := by decide +kernel
theorem dX6_tank_6 : decode cX6_tank 6 = .ok (.tableswitch 123 0 14 #[74, 87, 96, 123, 123, 123, 123, 123, 123, 123, 105, 105, 105, 105, 105], 74) := by decide +kernel
theorem dX6_tank_80 : decode cX6_tank 80 = .ok (.aload_n 0, 1) := by decide +kernel
theorem dX6_tank_81 : decode cX6_tank 81 = .ok (.getfield 12, 3) := by decide +kernel
theorem dX6_tank_84 : decode cX6_tank 84 = .ok (.getfield 98, 3) := by decide +kernel
theorem dX6_tank_87 : decode cX6_tank 87 = .ok (.iload_n 1, 1) := by decide +kernel
theorem dX6_tank_88 : decode cX6_tank 88 = .ok (.iconst 0, 1) := by decide +kernel
theorem dX6_tank_89 : decode cX6_tank 89 = .ok (.invokevirtual 116, 3) := by decide +kernel
theorem dX6_tank_92 : decode cX6_tank 92 = .ok (.ireturn, 1) := by decide +kernel
theorem dX6_tank_93 : decode cX6_tank 93 = .ok (.aload_n 0, 1) := by decide +kernel
theorem dX6_tank_94 : decode cX6_tank 94 = .ok (.getfield 21, 3) := by decide +kernel
theorem dX6_tank_97 : decode cX6_tank 97 = .ok (.iload_n 1, 1) := by decide +kernel
theorem dX6_tank_98 : decode cX6_tank 98 = .ok (.invokevirtual 203, 3) := by decide +kernel
theorem dX6_tank_101 : decode cX6_tank 101 = .ok (.ireturn, 1) := by decide +kernel
theorem dX6_tank_102 : decode cX6_tank 102 = .ok (.aload_n 0, 1) := by decide +kernel
theorem dX6_tank_103 : decode cX6_tank 103 = .ok (.getfield 21, 3) := by decide +kernel
theorem dX6_tank_106 : decode cX6_tank 106 = .ok (.iload_n 1, 1) := by decide +kernel
theorem dX6_tank_107 : decode cX6_tank 107 = .ok (.invokevirtual 216, 3) := by decide +kernel
theorem dX6_tank_110 : decode cX6_tank 110 = .ok (.ireturn, 1) := by decide +kernel
theorem dX6_tank_111 : decode cX6_tank 111 = .ok (.aload_n 0, 1) := by decide +kernel
theorem dX6_tank_112 : decode cX6_tank 112 = .ok (.getfield 12, 3) := by decide +kernel
theorem dX6_tank_115 : decode cX6_tank 115 = .ok (.getfield 98, 3) := by decide +kernel
theorem dX6_tank_118 : decode cX6_tank 118 = .ok (.iload_n 1, 1) := by decide +kernel
theorem dX6_tank_119 : decode cX6_tank 119 = .ok (.iconst 2, 1) := by decide +kernel
theorem dX6_tank_120 : decode cX6_tank 120 = .ok (.iload_n 2, 1) := by decide +kernel
theorem dX6_tank_121 : decode cX6_tank 121 = .ok (.iadd, 1) := by decide +kernel
theorem dX6_tank_122 : decode cX6_tank 122 = .ok (.bipush 10, 2) := by decide +kernel
theorem dX6_tank_124 : decode cX6_tank 124 = .ok (.isub, 1) := by decide +kernel
theorem dX6_tank_125 : decode cX6_tank 125 = .ok (.invokevirtual 116, 3) := by decide +kernel
theorem dX6_tank_128 : decode cX6_tank 128 = .ok (.ireturn, 1) := by decide +kernel
theorem dX6_tank_129 : decode cX6_tank 129 = .ok (.new 83, 3) := by decide +kernel
theorem dX6_tank_132 : decode cX6_tank 132 = .ok (.dup, 1) := by decide +kernel
theorem dX6_tank_133 : decode cX6_tank 133 = .ok (.ldc_w 279, 3) := by decide +kernel
theorem dX6_tank_136 : decode cX6_tank 136 = .ok (.invokespecial 87, 3) := by decide +kernel
theorem dX6_tank_139 : decode cX6_tank 139 = .ok (.athrow, 1) := by decide +kernel
theorem dX6_variety_0 : decode cX6_variety 0 = .ok (.iload_n 1, 1) := by decide +kernel
theorem dX6_variety_1 : decode cX6_variety 1 = .ok (.invokestatic 108, 3) := by decide +kernel
theorem dX6_variety_4 : decode cX6_variety 4 = .ok (.iload_n 2, 1) := by decide +kernel
theorem dX6_variety_5 : decode cX6_variety 5 = .ok (.tableswitch 153 0 7 #[47, 60, 73, 82, 106, 119, 132, 145], 47) := by decide +kernel
theorem dX6_variety_52 : decode cX6_variety 52 = .ok (.aload_n 0, 1) := by decide +kernel
theorem dX6_variety_53 : decode cX6_variety 53 = .ok (.getfield 12, 3) := by decide +kernel
theorem dX6_variety_56 : decode cX6_variety 56 = .ok (.getfield 113, 3) := by decide +kernel
theorem dX6_variety_59 : decode cX6_variety 59 = .ok (.iload_n 1, 1) := by decide +kernel
theorem dX6_variety_60 : decode cX6_variety 60 = .ok (.iconst 0, 1) := by decide +kernel
theorem dX6_variety_61 : decode cX6_variety 61 = .ok (.invokevirtual 116, 3) := by decide +kernel
theorem dX6_variety_64 : decode cX6_variety 64 = .ok (.ireturn, 1) := by decide +kernel
theorem dX6_variety_65 : decode cX6_variety 65 = .ok (.aload_n 0, 1) := by decide +kernel
theorem dX6_variety_66 : decode cX6_variety 66 = .ok (.getfield 12, 3) := by decide +kernel
theorem dX6_variety_69 : decode cX6_variety 69 = .ok (.getfield 113, 3) := by decide +kernel
theorem dX6_variety_72 : decode cX6_variety 72 = .ok (.iload_n 1, 1) := by decide +kernel
theorem dX6_variety_73 : decode cX6_variety 73 = .ok (.iconst 1, 1) := by decide +kernel
theorem dX6_variety_74 : decode cX6_variety 74 = .ok (.invokevirtual 116, 3) := by decide +kernel
theorem dX6_variety_77 : decode cX6_variety 77 = .ok (.ireturn, 1) := by decide +kernel
theorem dX6_variety_78 : decode cX6_variety 78 = .ok (.aload_n 0, 1) := by decide +kernel
theorem dX6_variety_79 : decode cX6_variety 79 = .ok (.getfield 21, 3) := by decide +kernel
theorem dX6_variety_82 : decode cX6_variety 82 = .ok (.iload_n 1, 1) := by decide +kernel
theorem dX6_variety_83 : decode cX6_variety 83 = .ok (.invokevirtual 281, 3) := by decide +kernel
theorem dX6_variety_86 : decode cX6_variety 86 = .ok (.ireturn, 1) := by decide +kernel
theorem dX6_variety_87 : decode cX6_variety 87 = .ok (.aload_n 0, 1) := by decide +kernel
theorem dX6_variety_88 : decode cX6_variety 88 = .ok (.invokevirtual 284, 3) := by decide +kernel
theorem dX6_variety_91 : decode cX6_variety 91 = .ok (.iload_n 1, 1) := by decide +kernel
theorem dX6_variety_92 : decode cX6_variety 92 = .ok (.if_icmp .ne 17, 3) := by decide +kernel
theorem dX6_variety_95 : decode cX6_variety 95 = .ok (.aload_n 0, 1) := by decide +kernel
theorem dX6_variety_96 : decode cX6_variety 96 = .ok (.getfield 12, 3) := by decide +kernel
theorem dX6_variety_99 : decode cX6_variety 99 = .ok (.getfield 47, 3) := by decide +kernel
theorem dX6_variety_102 : decode cX6_variety 102 = .ok (.iconst 4, 1) := by decide +kernel
theorem dX6_variety_103 : decode cX6_variety 103 = .ok (.invokevirtual 51, 3) := by decide +kernel
theorem dX6_variety_106 : decode cX6_variety 106 = .ok (.goto 4, 3) := by decide +kernel
theorem dX6_variety_109 : decode cX6_variety 109 = .ok (.iconst 0, 1) := by decide +kernel
theorem dX6_variety_110 : decode cX6_variety 110 = .ok (.ireturn, 1) := by decide +kernel
theorem dX6_variety_111 : decode cX6_variety 111 = .ok (.aload_n 0, 1) := by decide +kernel
theorem dX6_variety_112 : decode cX6_variety 112 = .ok (.getfield 12, 3) := by decide +kernel
theorem dX6_variety_115 : decode cX6_variety 115 = .ok (.getfield 113, 3) := by decide +kernel
theorem dX6_variety_118 : decode cX6_variety 118 = .ok (.iload_n 1, 1) := by decide +kernel
theorem dX6_variety_119 : decode cX6_variety 119 = .ok (.iconst 2, 1) := by decide +kernel
theorem dX6_variety_120 : decode cX6_variety 120 = .ok (.invokevirtual 116, 3) := by decide +kernel
theorem dX6_variety_123 : decode cX6_variety 123 = .ok (.ireturn, 1) := by decide +kernel
theorem dX6_variety_124 : decode cX6_variety 124 = .ok (.aload_n 0, 1) := by decide +kernel
theorem dX6_variety_125 : decode cX6_variety 125 = .ok (.getfield 12, 3) := by decide +kernel
theorem dX6_variety_128 : decode cX6_variety 128 = .ok (.getfield 113, 3) := by decide +kernel
theorem dX6_variety_131 : decode cX6_variety 131 = .ok (.iload_n 1, 1) := by decide +kernel
theorem dX6_variety_132 : decode cX6_variety 132 = .ok (.iconst 3, 1) := by decide +kernel
theorem dX6_variety_133 : decode cX6_variety 133 = .ok (.invokevirtual 116, 3) := by decide +kernel
theorem dX6_variety_136 : decode cX6_variety 136 = .ok (.ireturn, 1) := by decide +kernel
theorem dX6_variety_137 : decode cX6_variety 137 = .ok (.aload_n 0, 1) := by decide +kernel
theorem dX6_variety_138 : decode cX6_variety 138 = .ok (.getfield 12, 3) := by decide +kernel
theorem dX6_variety_141 : decode cX6_variety 141 = .ok (.getfield 113, 3) := by decide +kernel
theorem dX6_variety_144 : decode cX6_variety 144 = .ok (.iload_n 1, 1) := by decide +kernel
theorem dX6_variety_145 : decode cX6_variety 145 = .ok (.iconst 4, 1) := by decide +kernel
theorem dX6_variety_146 : decode cX6_variety 146 = .ok (.invokevirtual 116, 3) := by decide +kernel
theorem dX6_variety_149 : decode cX6_variety 149 = .ok (.ireturn, 1) := by decide +kernel
theorem dX6_variety_150 : decode cX6_variety 150 = .ok (.aload_n 0, 1) := by decide +kernel
theorem dX6_variety_151 : decode cX6_variety 151 = .ok (.iconst 1, 1) := by decide +kernel
theorem dX6_variety_152 : decode cX6_variety 152 = .ok (.iload_n 1, 1) := by decide +kernel
theorem dX6_variety_153 : decode cX6_variety 153 = .ok (.iconst 1, 1) := by decide +kernel
theorem dX6_variety_154 : decode cX6_variety 154 = .ok (.invokevirtual 268, 3) := by decide +kernel
theorem dX6_variety_157 : decode cX6_variety 157 = .ok (.ireturn, 1) := by decide +kernel
theorem dX6_variety_158 : decode cX6_variety 158 = .ok (.new 83, 3) := by decide +kernel
theorem dX6_variety_161 : decode cX6_variety 161 = .ok (.dup, 1) := by decide +kernel
theorem dX6_variety_162 : decode cX6_variety 162 = .ok (.ldc_w 287, 3) := by decide +kernel
theorem dX6_variety_165 : decode cX6_variety 165 = .ok (.invokespecial 87, 3) := by decide +kernel
theorem dX6_variety_168 : decode cX6_variety 168 = .ok (.athrow, 1) := by decide +kernel
theorem dX6_count_0 : decode cX6_count 0 = .ok (.iload_n 1, 1) := by decide +kernel
theorem dX6_count_1 : decode cX6_count 1 = .ok (.tableswitch 190 0 12 #[67, 79, 91, 99, 111, 116, 128, 140, 153, 161, 167, 176, 182], 67) := by decide +kernel
theorem dX6_count_68 : decode cX6_count 68 = .ok (.aload_n 0, 1) := by decide +kernel
theorem dX6_count_69 : decode cX6_count 69 = .ok (.getfield 12, 3) := by decide +kernel
theorem dX6_count_72 : decode cX6_count 72 = .ok (.getfield 47, 3) := by decide +kernel
theorem dX6_count_75 : decode cX6_count 75 = .ok (.iconst 0, 1) := by decide +kernel
theorem dX6_count_76 : decode cX6_count 76 = .ok (.invokevirtual 51, 3) := by decide +kernel
theorem dX6_count_79 : decode cX6_count 79 = .ok (.ireturn, 1) := by decide +kernel
theorem dX6_count_80 : decode cX6_count 80 = .ok (.aload_n 0, 1) := by decide +kernel
theorem dX6_count_81 : decode cX6_count 81 = .ok (.getfield 12, 3) := by decide +kernel
theorem dX6_count_84 : decode cX6_count 84 = .ok (.getfield 47, 3) := by decide +kernel
theorem dX6_count_87 : decode cX6_count 87 = .ok (.iconst 1, 1) := by decide +kernel
theorem dX6_count_88 : decode cX6_count 88 = .ok (.invokevirtual 51, 3) := by decide +kernel
theorem dX6_count_91 : decode cX6_count 91 = .ok (.ireturn, 1) := by decide +kernel
theorem dX6_count_92 : decode cX6_count 92 = .ok (.aload_n 0, 1) := by decide +kernel
theorem dX6_count_93 : decode cX6_count 93 = .ok (.iconst 5, 1) := by decide +kernel
theorem dX6_count_94 : decode cX6_count 94 = .ok (.iconst 0, 1) := by decide +kernel
theorem dX6_count_95 : decode cX6_count 95 = .ok (.iconst 0, 1) := by decide +kernel
theorem dX6_count_96 : decode cX6_count 96 = .ok (.invokevirtual 268, 3) := by decide +kernel
theorem dX6_count_99 : decode cX6_count 99 = .ok (.ireturn, 1) := by decide +kernel
theorem dX6_count_100 : decode cX6_count 100 = .ok (.aload_n 0, 1) := by decide +kernel
theorem dX6_count_101 : decode cX6_count 101 = .ok (.getfield 12, 3) := by decide +kernel
theorem dX6_count_104 : decode cX6_count 104 = .ok (.getfield 47, 3) := by decide +kernel
theorem dX6_count_107 : decode cX6_count 107 = .ok (.iconst 2, 1) := by decide +kernel
theorem dX6_count_108 : decode cX6_count 108 = .ok (.invokevirtual 51, 3) := by decide +kernel
theorem dX6_count_111 : decode cX6_count 111 = .ok (.ireturn, 1) := by decide +kernel
theorem dX6_count_112 : decode cX6_count 112 = .ok (.aload_n 0, 1) := by decide +kernel
theorem dX6_count_113 : decode cX6_count 113 = .ok (.invokevirtual 284, 3) := by decide +kernel
theorem dX6_count_116 : decode cX6_count 116 = .ok (.ireturn, 1) := by decide +kernel
theorem dX6_count_117 : decode cX6_count 117 = .ok (.aload_n 0, 1) := by decide +kernel
theorem dX6_count_118 : decode cX6_count 118 = .ok (.getfield 12, 3) := by decide +kernel
theorem dX6_count_121 : decode cX6_count 121 = .ok (.getfield 47, 3) := by decide +kernel
theorem dX6_count_124 : decode cX6_count 124 = .ok (.iconst 4, 1) := by decide +kernel
theorem dX6_count_125 : decode cX6_count 125 = .ok (.invokevirtual 51, 3) := by decide +kernel
theorem dX6_count_128 : decode cX6_count 128 = .ok (.ireturn, 1) := by decide +kernel
theorem dX6_count_129 : decode cX6_count 129 = .ok (.aload_n 0, 1) := by decide +kernel
theorem dX6_count_130 : decode cX6_count 130 = .ok (.getfield 12, 3) := by decide +kernel
theorem dX6_count_133 : decode cX6_count 133 = .ok (.getfield 47, 3) := by decide +kernel
theorem dX6_count_136 : decode cX6_count 136 = .ok (.iconst 5, 1) := by decide +kernel
theorem dX6_count_137 : decode cX6_count 137 = .ok (.invokevirtual 51, 3) := by decide +kernel
theorem dX6_count_140 : decode cX6_count 140 = .ok (.ireturn, 1) := by decide +kernel
theorem dX6_count_141 : decode cX6_count 141 = .ok (.aload_n 0, 1) := by decide +kernel
theorem dX6_count_142 : decode cX6_count 142 = .ok (.getfield 12, 3) := by decide +kernel
theorem dX6_count_145 : decode cX6_count 145 = .ok (.getfield 47, 3) := by decide +kernel
theorem dX6_count_148 : decode cX6_count 148 = .ok (.bipush 6, 2) := by decide +kernel
theorem dX6_count_150 : decode cX6_count 150 = .ok (.invokevirtual 51, 3) := by decide +kernel
theorem dX6_count_153 : decode cX6_count 153 = .ok (.ireturn, 1) := by decide +kernel
theorem dX6_count_154 : decode cX6_count 154 = .ok (.aload_n 0, 1) := by decide +kernel
theorem dX6_count_155 : decode cX6_count 155 = .ok (.getfield 21, 3) := by decide +kernel
theorem dX6_count_158 : decode cX6_count 158 = .ok (.invokevirtual 289, 3) := by decide +kernel
theorem dX6_count_161 : decode cX6_count 161 = .ok (.ireturn, 1) := by decide +kernel
theorem dX6_count_162 : decode cX6_count 162 = .ok (.aload_n 0, 1) := by decide +kernel
theorem dX6_count_163 : decode cX6_count 163 = .ok (.iconst 0, 1) := by decide +kernel
theorem dX6_count_164 : decode cX6_count 164 = .ok (.invokevirtual 292, 3) := by decide +kernel
theorem dX6_count_167 : decode cX6_count 167 = .ok (.ireturn, 1) := by decide +kernel
theorem dX6_count_168 : decode cX6_count 168 = .ok (.aload_n 0, 1) := by decide +kernel
theorem dX6_count_169 : decode cX6_count 169 = .ok (.getfield 21, 3) := by decide +kernel
theorem dX6_count_172 : decode cX6_count 172 = .ok (.iconst 0, 1) := by decide +kernel
theorem dX6_count_173 : decode cX6_count 173 = .ok (.invokevirtual 295, 3) := by decide +kernel
theorem dX6_count_176 : decode cX6_count 176 = .ok (.ireturn, 1) := by decide +kernel
theorem dX6_count_177 : decode cX6_count 177 = .ok (.aload_n 0, 1) := by decide +kernel
theorem dX6_count_178 : decode cX6_count 178 = .ok (.iconst 2, 1) := by decide +kernel
theorem dX6_count_179 : decode cX6_count 179 = .ok (.invokevirtual 292, 3) := by decide +kernel
theorem dX6_count_182 : decode cX6_count 182 = .ok (.ireturn, 1) := by decide +kernel
theorem dX6_count_183 : decode cX6_count 183 = .ok (.aload_n 0, 1) := by decide +kernel
theorem dX6_count_184 : decode cX6_count 184 = .ok (.getfield 12, 3) := by decide +kernel
theorem dX6_count_187 : decode cX6_count 187 = .ok (.getfield 260, 3) := by decide +kernel
theorem dX6_count_190 : decode cX6_count 190 = .ok (.ireturn, 1) := by decide +kernel
theorem dX6_count_191 : decode cX6_count 191 = .ok (.new 83, 3) := by decide +kernel
theorem dX6_count_194 : decode cX6_count 194 = .ok (.dup, 1) := by decide +kernel
theorem dX6_count_195 : decode cX6_count 195 = .ok (.ldc_w 298, 3) := by decide +kernel
theorem dX6_count_198 : decode cX6_count 198 = .ok (.invokespecial 87, 3) := by decide +kernel
theorem dX6_count_201 : decode cX6_count 201 = .ok (.athrow, 1) := by decide +kernel
theorem dX6_whyNot_0 : decode cX6_whyNot 0 = .ok (.aload_n 0, 1) := by decide +kernel
theorem dX6_whyNot_1 : decode cX6_whyNot 1 = .ok (.iload_n 1, 1) := by decide +kernel
theorem dX6_whyNot_2 : decode cX6_whyNot 2 = .ok (.invokevirtual 138, 3) := by decide +kernel
theorem dX6_whyNot_5 : decode cX6_whyNot 5 = .ok (.aload_n 0, 1) := by decide +kernel
theorem dX6_whyNot_6 : decode cX6_whyNot 6 = .ok (.iload_n 1, 1) := by decide +kernel
theorem dX6_whyNot_7 : decode cX6_whyNot 7 = .ok (.iload_n 2, 1) := by decide +kernel
theorem dX6_whyNot_8 : decode cX6_whyNot 8 = .ok (.invokevirtual 141, 3) := by decide +kernel
theorem dX6_whyNot_11 : decode cX6_whyNot 11 = .ok (.ireturn, 1) := by decide +kernel
theorem dX6_next_0 : decode cX6_next 0 = .ok (.iload_n 1, 1) := by decide +kernel
theorem dX6_next_1 : decode cX6_next 1 = .ok (.iconst 0, 1) := by decide +kernel
theorem dX6_next_2 : decode cX6_next 2 = .ok (.iconst 4, 1) := by decide +kernel
theorem dX6_next_3 : decode cX6_next 3 = .ok (.invokestatic 79, 3) := by decide +kernel
theorem dX6_next_6 : decode cX6_next 6 = .ok (.ifCond .eq 14, 3) := by decide +kernel
theorem dX6_next_9 : decode cX6_next 9 = .ok (.new 83, 3) := by decide +kernel
theorem dX6_next_12 : decode cX6_next 12 = .ok (.dup, 1) := by decide +kernel
theorem dX6_next_13 : decode cX6_next 13 = .ok (.ldc_w 300, 3) := by decide +kernel
theorem dX6_next_16 : decode cX6_next 16 = .ok (.invokespecial 87, 3) := by decide +kernel
theorem dX6_next_19 : decode cX6_next 19 = .ok (.athrow, 1) := by decide +kernel
theorem dX6_next_20 : decode cX6_next 20 = .ok (.aload_n 0, 1) := by decide +kernel
theorem dX6_next_21 : decode cX6_next 21 = .ok (.getfield 28, 3) := by decide +kernel
theorem dX6_next_24 : decode cX6_next 24 = .ok (.invokevirtual 302, 3) := by decide +kernel
theorem dX6_next_27 : decode cX6_next 27 = .ok (.ifCond .ne 5, 3) := by decide +kernel
theorem dX6_next_30 : decode cX6_next 30 = .ok (.iconst (-1), 1) := by decide +kernel
theorem dX6_next_31 : decode cX6_next 31 = .ok (.ireturn, 1) := by decide +kernel
theorem dX6_next_32 : decode cX6_next 32 = .ok (.iload_n 1, 1) := by decide +kernel
theorem dX6_next_33 : decode cX6_next 33 = .ok (.tableswitch 63 0 3 #[31, 39, 47, 55], 31) := by decide +kernel
theorem dX6_next_64 : decode cX6_next 64 = .ok (.aload_n 0, 1) := by decide +kernel
theorem dX6_next_65 : decode cX6_next 65 = .ok (.getfield 28, 3) := by decide +kernel
theorem dX6_next_68 : decode cX6_next 68 = .ok (.getfield 168, 3) := by decide +kernel
theorem dX6_next_71 : decode cX6_next 71 = .ok (.ireturn, 1) := by decide +kernel
theorem dX6_next_72 : decode cX6_next 72 = .ok (.aload_n 0, 1) := by decide +kernel
theorem dX6_next_73 : decode cX6_next 73 = .ok (.getfield 28, 3) := by decide +kernel
theorem dX6_next_76 : decode cX6_next 76 = .ok (.getfield 305, 3) := by decide +kernel
theorem dX6_next_79 : decode cX6_next 79 = .ok (.ireturn, 1) := by decide +kernel
theorem dX6_next_80 : decode cX6_next 80 = .ok (.aload_n 0, 1) := by decide +kernel
theorem dX6_next_81 : decode cX6_next 81 = .ok (.getfield 28, 3) := by decide +kernel
theorem dX6_next_84 : decode cX6_next 84 = .ok (.getfield 308, 3) := by decide +kernel
theorem dX6_next_87 : decode cX6_next 87 = .ok (.ireturn, 1) := by decide +kernel
theorem dX6_next_88 : decode cX6_next 88 = .ok (.aload_n 0, 1) := by decide +kernel
theorem dX6_next_89 : decode cX6_next 89 = .ok (.getfield 28, 3) := by decide +kernel
theorem dX6_next_92 : decode cX6_next 92 = .ok (.getfield 150, 3) := by decide +kernel
theorem dX6_next_95 : decode cX6_next 95 = .ok (.ireturn, 1) := by decide +kernel
theorem dX6_next_96 : decode cX6_next 96 = .ok (.aload_n 0, 1) := by decide +kernel
theorem dX6_next_97 : decode cX6_next 97 = .ok (.getfield 28, 3) := by decide +kernel
theorem dX6_next_100 : decode cX6_next 100 = .ok (.getfield 165, 3) := by decide +kernel
theorem dX6_next_103 : decode cX6_next 103 = .ok (.ireturn, 1) := by decide +kernel
theorem dX6_taken_0 : decode cX6_taken 0 = .ok (.aload_n 0, 1) := by decide +kernel
theorem dX6_taken_1 : decode cX6_taken 1 = .ok (.iload_n 1, 1) := by decide +kernel
theorem dX6_taken_2 : decode cX6_taken 2 = .ok (.invokevirtual 138, 3) := by decide +kernel
theorem dX6_taken_5 : decode cX6_taken 5 = .ok (.iload_n 2, 1) := by decide +kernel
theorem dX6_taken_6 : decode cX6_taken 6 = .ok (.invokestatic 197, 3) := by decide +kernel
theorem dX6_taken_9 : decode cX6_taken 9 = .ok (.iload_n 3, 1) := by decide +kernel
theorem dX6_taken_10 : decode cX6_taken 10 = .ok (.invokestatic 75, 3) := by decide +kernel
theorem dX6_taken_13 : decode cX6_taken 13 = .ok (.ifCond .ne 14, 3) := by decide +kernel
theorem dX6_taken_16 : decode cX6_taken 16 = .ok (.new 83, 3) := by decide +kernel
theorem dX6_taken_19 : decode cX6_taken 19 = .ok (.dup, 1) := by decide +kernel
theorem dX6_taken_20 : decode cX6_taken 20 = .ok (.ldc_w 311, 3) := by decide +kernel
theorem dX6_taken_23 : decode cX6_taken 23 = .ok (.invokespecial 87, 3) := by decide +kernel
theorem dX6_taken_26 : decode cX6_taken 26 = .ok (.athrow, 1) := by decide +kernel
theorem dX6_taken_27 : decode cX6_taken 27 = .ok (.aload_n 0, 1) := by decide +kernel
theorem dX6_taken_28 : decode cX6_taken 28 = .ok (.getfield 21, 3) := by decide +kernel
theorem dX6_taken_31 : decode cX6_taken 31 = .ok (.iload_n 1, 1) := by decide +kernel
theorem dX6_taken_32 : decode cX6_taken 32 = .ok (.invokevirtual 203, 3) := by decide +kernel
theorem dX6_taken_35 : decode cX6_taken 35 = .ok (.iload_n 2, 1) := by decide +kernel
theorem dX6_taken_36 : decode cX6_taken 36 = .ok (.if_icmp .ge 5, 3) := by decide +kernel
theorem dX6_taken_39 : decode cX6_taken 39 = .ok (.iconst (-1), 1) := by decide +kernel
theorem dX6_taken_40 : decode cX6_taken 40 = .ok (.ireturn, 1) := by decide +kernel
theorem dX6_taken_41 : decode cX6_taken 41 = .ok (.aload_n 0, 1) := by decide +kernel
theorem dX6_taken_42 : decode cX6_taken 42 = .ok (.getfield 21, 3) := by decide +kernel
theorem dX6_taken_45 : decode cX6_taken 45 = .ok (.iload_n 1, 1) := by decide +kernel
theorem dX6_taken_46 : decode cX6_taken 46 = .ok (.iload_n 2, 1) := by decide +kernel
theorem dX6_taken_47 : decode cX6_taken 47 = .ok (.invokevirtual 313, 3) := by decide +kernel
theorem dX6_taken_50 : decode cX6_taken 50 = .ok (.aload_n 0, 1) := by decide +kernel
theorem dX6_taken_51 : decode cX6_taken 51 = .ok (.getfield 21, 3) := by decide +kernel
theorem dX6_taken_54 : decode cX6_taken 54 = .ok (.iload_n 3, 1) := by decide +kernel
theorem dX6_taken_55 : decode cX6_taken 55 = .ok (.invokevirtual 211, 3) := by decide +kernel
theorem dX6_taken_58 : decode cX6_taken 58 = .ok (.ireturn, 1) := by decide +kernel
theorem dX6_isOutside_0 : decode cX6_isOutside 0 = .ok (.iload_n 0, 1) := by decide +kernel
theorem dX6_isOutside_1 : decode cX6_isOutside 1 = .ok (.iload_n 1, 1) := by decide +kernel
theorem dX6_isOutside_2 : decode cX6_isOutside 2 = .ok (.if_icmp .lt 8, 3) := by decide +kernel
theorem dX6_isOutside_5 : decode cX6_isOutside 5 = .ok (.iload_n 0, 1) := by decide +kernel
theorem dX6_isOutside_6 : decode cX6_isOutside 6 = .ok (.iload_n 2, 1) := by decide +kernel
theorem dX6_isOutside_7 : decode cX6_isOutside 7 = .ok (.if_icmp .le 7, 3) := by decide +kernel
theorem dX6_isOutside_10 : decode cX6_isOutside 10 = .ok (.iconst 1, 1) := by decide +kernel
theorem dX6_isOutside_11 : decode cX6_isOutside 11 = .ok (.goto 4, 3) := by decide +kernel
theorem dX6_isOutside_14 : decode cX6_isOutside 14 = .ok (.iconst 0, 1) := by decide +kernel
theorem dX6_isOutside_15 : decode cX6_isOutside 15 = .ok (.ireturn, 1) := by decide +kernel
theorem dX6_isVariety_0 : decode cX6_isVariety 0 = .ok (.iload_n 0, 1) := by decide +kernel
theorem dX6_isVariety_1 : decode cX6_isVariety 1 = .ok (.ifCond .lt 12, 3) := by decide +kernel
theorem dX6_isVariety_4 : decode cX6_isVariety 4 = .ok (.iload_n 0, 1) := by decide +kernel
theorem dX6_isVariety_5 : decode cX6_isVariety 5 = .ok (.iconst 5, 1) := by decide +kernel
theorem dX6_isVariety_6 : decode cX6_isVariety 6 = .ok (.if_icmp .ge 7, 3) := by decide +kernel
theorem dX6_isVariety_9 : decode cX6_isVariety 9 = .ok (.iconst 1, 1) := by decide +kernel
theorem dX6_isVariety_10 : decode cX6_isVariety 10 = .ok (.goto 4, 3) := by decide +kernel
theorem dX6_isVariety_13 : decode cX6_isVariety 13 = .ok (.iconst 0, 1) := by decide +kernel
theorem dX6_isVariety_14 : decode cX6_isVariety 14 = .ok (.ireturn, 1) := by decide +kernel
theorem dX6_isSetting_0 : decode cX6_isSetting 0 = .ok (.iload_n 0, 1) := by decide +kernel
theorem dX6_isSetting_1 : decode cX6_isSetting 1 = .ok (.ifCond .lt 13, 3) := by decide +kernel
theorem dX6_isSetting_4 : decode cX6_isSetting 4 = .ok (.iload_n 0, 1) := by decide +kernel
theorem dX6_isSetting_5 : decode cX6_isSetting 5 = .ok (.bipush 7, 2) := by decide +kernel
theorem dX6_isSetting_7 : decode cX6_isSetting 7 = .ok (.if_icmp .ge 7, 3) := by decide +kernel
theorem dX6_isSetting_10 : decode cX6_isSetting 10 = .ok (.iconst 1, 1) := by decide +kernel
theorem dX6_isSetting_11 : decode cX6_isSetting 11 = .ok (.goto 4, 3) := by decide +kernel
theorem dX6_isSetting_14 : decode cX6_isSetting 14 = .ok (.iconst 0, 1) := by decide +kernel
theorem dX6_isSetting_15 : decode cX6_isSetting 15 = .ok (.ireturn, 1) := by decide +kernel
theorem dX6_isSettingValue_0 : decode cX6_isSettingValue 0 = .ok (.iload_n 0, 1) := by decide +kernel
theorem dX6_isSettingValue_1 : decode cX6_isSettingValue 1 = .ok (.ifCond .lt 41, 3) := by decide +kernel
theorem dX6_isSettingValue_4 : decode cX6_isSettingValue 4 = .ok (.iload_n 0, 1) := by decide +kernel
theorem dX6_isSettingValue_5 : decode cX6_isSettingValue 5 = .ok (.getstatic 371, 3) := by decide +kernel
theorem dX6_isSettingValue_8 : decode cX6_isSettingValue 8 = .ok (.arraylength, 1) := by decide +kernel
theorem dX6_isSettingValue_9 : decode cX6_isSettingValue 9 = .ok (.if_icmp .ge 33, 3) := by decide +kernel
theorem dX6_isSettingValue_12 : decode cX6_isSettingValue 12 = .ok (.iload_n 0, 1) := by decide +kernel
theorem dX6_isSettingValue_13 : decode cX6_isSettingValue 13 = .ok (.getstatic 374, 3) := by decide +kernel
theorem dX6_isSettingValue_16 : decode cX6_isSettingValue 16 = .ok (.arraylength, 1) := by decide +kernel
theorem dX6_isSettingValue_17 : decode cX6_isSettingValue 17 = .ok (.if_icmp .ge 25, 3) := by decide +kernel
theorem dX6_isSettingValue_20 : decode cX6_isSettingValue 20 = .ok (.iload_n 1, 1) := by decide +kernel
theorem dX6_isSettingValue_21 : decode cX6_isSettingValue 21 = .ok (.getstatic 371, 3) := by decide +kernel
theorem dX6_isSettingValue_24 : decode cX6_isSettingValue 24 = .ok (.iload_n 0, 1) := by decide +kernel
theorem dX6_isSettingValue_25 : decode cX6_isSettingValue 25 = .ok (.iaload, 1) := by decide +kernel
theorem dX6_isSettingValue_26 : decode cX6_isSettingValue 26 = .ok (.if_icmp .lt 16, 3) := by decide +kernel
theorem dX6_isSettingValue_29 : decode cX6_isSettingValue 29 = .ok (.iload_n 1, 1) := by decide +kernel
theorem dX6_isSettingValue_30 : decode cX6_isSettingValue 30 = .ok (.getstatic 374, 3) := by decide +kernel
theorem dX6_isSettingValue_33 : decode cX6_isSettingValue 33 = .ok (.iload_n 0, 1) := by decide +kernel
theorem dX6_isSettingValue_34 : decode cX6_isSettingValue 34 = .ok (.iaload, 1) := by decide +kernel
theorem dX6_isSettingValue_35 : decode cX6_isSettingValue 35 = .ok (.if_icmp .gt 7, 3) := by decide +kernel
theorem dX6_isSettingValue_38 : decode cX6_isSettingValue 38 = .ok (.iconst 1, 1) := by decide +kernel
theorem dX6_isSettingValue_39 : decode cX6_isSettingValue 39 = .ok (.goto 4, 3) := by decide +kernel
theorem dX6_isSettingValue_42 : decode cX6_isSettingValue 42 = .ok (.iconst 0, 1) := by decide +kernel
theorem dX6_isSettingValue_43 : decode cX6_isSettingValue 43 = .ok (.ireturn, 1) := by decide +kernel
theorem dX6_checkGrower_0 : decode cX6_checkGrower 0 = .ok (.iload_n 1, 1) := by decide +kernel
theorem dX6_checkGrower_1 : decode cX6_checkGrower 1 = .ok (.ifCond .lt 18, 3) := by decide +kernel
theorem dX6_checkGrower_4 : decode cX6_checkGrower 4 = .ok (.iload_n 1, 1) := by decide +kernel
theorem dX6_checkGrower_5 : decode cX6_checkGrower 5 = .ok (.aload_n 0, 1) := by decide +kernel
theorem dX6_checkGrower_6 : decode cX6_checkGrower 6 = .ok (.getfield 12, 3) := by decide +kernel
theorem dX6_checkGrower_9 : decode cX6_checkGrower 9 = .ok (.getfield 47, 3) := by decide +kernel
theorem dX6_checkGrower_12 : decode cX6_checkGrower 12 = .ok (.iconst 0, 1) := by decide +kernel
theorem dX6_checkGrower_13 : decode cX6_checkGrower 13 = .ok (.invokevirtual 51, 3) := by decide +kernel
theorem dX6_checkGrower_16 : decode cX6_checkGrower 16 = .ok (.if_icmp .lt 14, 3) := by decide +kernel
theorem dX6_checkGrower_19 : decode cX6_checkGrower 19 = .ok (.new 122, 3) := by decide +kernel
theorem dX6_checkGrower_22 : decode cX6_checkGrower 22 = .ok (.dup, 1) := by decide +kernel
theorem dX6_checkGrower_23 : decode cX6_checkGrower 23 = .ok (.ldc_w 377, 3) := by decide +kernel
theorem dX6_checkGrower_26 : decode cX6_checkGrower 26 = .ok (.invokespecial 126, 3) := by decide +kernel
theorem dX6_checkGrower_29 : decode cX6_checkGrower 29 = .ok (.athrow, 1) := by decide +kernel
theorem dX6_checkGrower_30 : decode cX6_checkGrower 30 = .ok (.return_, 1) := by decide +kernel
theorem dX6_checkLot_0 : decode cX6_checkLot 0 = .ok (.iload_n 1, 1) := by decide +kernel
theorem dX6_checkLot_1 : decode cX6_checkLot 1 = .ok (.ifCond .lt 18, 3) := by decide +kernel
theorem dX6_checkLot_4 : decode cX6_checkLot 4 = .ok (.iload_n 1, 1) := by decide +kernel
theorem dX6_checkLot_5 : decode cX6_checkLot 5 = .ok (.aload_n 0, 1) := by decide +kernel
theorem dX6_checkLot_6 : decode cX6_checkLot 6 = .ok (.getfield 12, 3) := by decide +kernel
theorem dX6_checkLot_9 : decode cX6_checkLot 9 = .ok (.getfield 47, 3) := by decide +kernel
theorem dX6_checkLot_12 : decode cX6_checkLot 12 = .ok (.iconst 1, 1) := by decide +kernel
theorem dX6_checkLot_13 : decode cX6_checkLot 13 = .ok (.invokevirtual 51, 3) := by decide +kernel
theorem dX6_checkLot_16 : decode cX6_checkLot 16 = .ok (.if_icmp .lt 14, 3) := by decide +kernel
theorem dX6_checkLot_19 : decode cX6_checkLot 19 = .ok (.new 122, 3) := by decide +kernel
theorem dX6_checkLot_22 : decode cX6_checkLot 22 = .ok (.dup, 1) := by decide +kernel
theorem dX6_checkLot_23 : decode cX6_checkLot 23 = .ok (.ldc_w 379, 3) := by decide +kernel
theorem dX6_checkLot_26 : decode cX6_checkLot 26 = .ok (.invokespecial 126, 3) := by decide +kernel
theorem dX6_checkLot_29 : decode cX6_checkLot 29 = .ok (.athrow, 1) := by decide +kernel
theorem dX6_checkLot_30 : decode cX6_checkLot 30 = .ok (.return_, 1) := by decide +kernel
theorem dX6_checkTank_0 : decode cX6_checkTank 0 = .ok (.iload_n 1, 1) := by decide +kernel
theorem dX6_checkTank_1 : decode cX6_checkTank 1 = .ok (.ifCond .lt 18, 3) := by decide +kernel
theorem dX6_checkTank_4 : decode cX6_checkTank 4 = .ok (.iload_n 1, 1) := by decide +kernel
theorem dX6_checkTank_5 : decode cX6_checkTank 5 = .ok (.aload_n 0, 1) := by decide +kernel
theorem dX6_checkTank_6 : decode cX6_checkTank 6 = .ok (.getfield 12, 3) := by decide +kernel
theorem dX6_checkTank_9 : decode cX6_checkTank 9 = .ok (.getfield 47, 3) := by decide +kernel
theorem dX6_checkTank_12 : decode cX6_checkTank 12 = .ok (.iconst 2, 1) := by decide +kernel
theorem dX6_checkTank_13 : decode cX6_checkTank 13 = .ok (.invokevirtual 51, 3) := by decide +kernel
theorem dX6_checkTank_16 : decode cX6_checkTank 16 = .ok (.if_icmp .lt 14, 3) := by decide +kernel
theorem dX6_checkTank_19 : decode cX6_checkTank 19 = .ok (.new 122, 3) := by decide +kernel
theorem dX6_checkTank_22 : decode cX6_checkTank 22 = .ok (.dup, 1) := by decide +kernel
theorem dX6_checkTank_23 : decode cX6_checkTank 23 = .ok (.ldc_w 381, 3) := by decide +kernel
theorem dX6_checkTank_26 : decode cX6_checkTank 26 = .ok (.invokespecial 126, 3) := by decide +kernel
theorem dX6_checkTank_29 : decode cX6_checkTank 29 = .ok (.athrow, 1) := by decide +kernel
theorem dX6_checkTank_30 : decode cX6_checkTank 30 = .ok (.return_, 1) := by decide +kernel
theorem dX6_checkVariety_0 : decode cX6_checkVariety 0 = .ok (.iload_n 0, 1) := by decide +kernel
theorem dX6_checkVariety_1 : decode cX6_checkVariety 1 = .ok (.invokestatic 75, 3) := by decide +kernel
theorem dX6_checkVariety_4 : decode cX6_checkVariety 4 = .ok (.ifCond .ne 14, 3) := by decide +kernel
theorem dX6_checkVariety_7 : decode cX6_checkVariety 7 = .ok (.new 122, 3) := by decide +kernel
theorem dX6_checkVariety_10 : decode cX6_checkVariety 10 = .ok (.dup, 1) := by decide +kernel
theorem dX6_checkVariety_11 : decode cX6_checkVariety 11 = .ok (.ldc_w 311, 3) := by decide +kernel
theorem dX6_checkVariety_14 : decode cX6_checkVariety 14 = .ok (.invokespecial 126, 3) := by decide +kernel
theorem dX6_checkVariety_17 : decode cX6_checkVariety 17 = .ok (.athrow, 1) := by decide +kernel
theorem dX6_checkVariety_18 : decode cX6_checkVariety 18 = .ok (.return_, 1) := by decide +kernel
theorem dX6_checkOil_0 : decode cX6_checkOil 0 = .ok (.iload_n 0, 1) := by decide +kernel
theorem dX6_checkOil_1 : decode cX6_checkOil 1 = .ok (.iconst 1, 1) := by decide +kernel
theorem dX6_checkOil_2 : decode cX6_checkOil 2 = .ok (.sipush 20000, 3) := by decide +kernel
theorem dX6_checkOil_5 : decode cX6_checkOil 5 = .ok (.invokestatic 79, 3) := by decide +kernel
theorem dX6_checkOil_8 : decode cX6_checkOil 8 = .ok (.ifCond .eq 14, 3) := by decide +kernel
theorem dX6_checkOil_11 : decode cX6_checkOil 11 = .ok (.new 83, 3) := by decide +kernel
theorem dX6_checkOil_14 : decode cX6_checkOil 14 = .ok (.dup, 1) := by decide +kernel
theorem dX6_checkOil_15 : decode cX6_checkOil 15 = .ok (.ldc_w 383, 3) := by decide +kernel
theorem dX6_checkOil_18 : decode cX6_checkOil 18 = .ok (.invokespecial 87, 3) := by decide +kernel
theorem dX6_checkOil_21 : decode cX6_checkOil 21 = .ok (.athrow, 1) := by decide +kernel
theorem dX6_checkOil_22 : decode cX6_checkOil 22 = .ok (.return_, 1) := by decide +kernel
theorem dX6_enterLot_0 : decode cX6_enterLot 0 = .ok (.aload_n 0, 1) := by decide +kernel
theorem dX6_enterLot_1 : decode cX6_enterLot 1 = .ok (.getfield 12, 3) := by decide +kernel
theorem dX6_enterLot_4 : decode cX6_enterLot 4 = .ok (.getfield 47, 3) := by decide +kernel
theorem dX6_enterLot_7 : decode cX6_enterLot 7 = .ok (.iconst 1, 1) := by decide +kernel
theorem dX6_enterLot_8 : decode cX6_enterLot 8 = .ok (.invokevirtual 51, 3) := by decide +kernel
theorem dX6_enterLot_11 : decode cX6_enterLot 11 = .ok (.istore 6, 2) := by decide +kernel
theorem dX6_enterLot_13 : decode cX6_enterLot 13 = .ok (.aload_n 0, 1) := by decide +kernel
theorem dX6_enterLot_14 : decode cX6_enterLot 14 = .ok (.getfield 12, 3) := by decide +kernel
theorem dX6_enterLot_17 : decode cX6_enterLot 17 = .ok (.getfield 182, 3) := by decide +kernel
theorem dX6_enterLot_20 : decode cX6_enterLot 20 = .ok (.iload 6, 2) := by decide +kernel
theorem dX6_enterLot_22 : decode cX6_enterLot 22 = .ok (.iconst 0, 1) := by decide +kernel
theorem dX6_enterLot_23 : decode cX6_enterLot 23 = .ok (.iload_n 1, 1) := by decide +kernel
theorem dX6_enterLot_24 : decode cX6_enterLot 24 = .ok (.invokevirtual 102, 3) := by decide +kernel
theorem dX6_enterLot_27 : decode cX6_enterLot 27 = .ok (.aload_n 0, 1) := by decide +kernel
theorem dX6_enterLot_28 : decode cX6_enterLot 28 = .ok (.getfield 12, 3) := by decide +kernel
theorem dX6_enterLot_31 : decode cX6_enterLot 31 = .ok (.getfield 182, 3) := by decide +kernel
theorem dX6_enterLot_34 : decode cX6_enterLot 34 = .ok (.iload 6, 2) := by decide +kernel
theorem dX6_enterLot_36 : decode cX6_enterLot 36 = .ok (.iconst 1, 1) := by decide +kernel
theorem dX6_enterLot_37 : decode cX6_enterLot 37 = .ok (.iload_n 2, 1) := by decide +kernel
theorem dX6_enterLot_38 : decode cX6_enterLot 38 = .ok (.invokevirtual 102, 3) := by decide +kernel
theorem dX6_enterLot_41 : decode cX6_enterLot 41 = .ok (.aload_n 0, 1) := by decide +kernel
theorem dX6_enterLot_42 : decode cX6_enterLot 42 = .ok (.getfield 12, 3) := by decide +kernel
theorem dX6_enterLot_45 : decode cX6_enterLot 45 = .ok (.getfield 182, 3) := by decide +kernel
theorem dX6_enterLot_48 : decode cX6_enterLot 48 = .ok (.iload 6, 2) := by decide +kernel
theorem dX6_enterLot_50 : decode cX6_enterLot 50 = .ok (.iconst 2, 1) := by decide +kernel
theorem dX6_enterLot_51 : decode cX6_enterLot 51 = .ok (.iload_n 3, 1) := by decide +kernel
theorem dX6_enterLot_52 : decode cX6_enterLot 52 = .ok (.invokevirtual 102, 3) := by decide +kernel
theorem dX6_enterLot_55 : decode cX6_enterLot 55 = .ok (.aload_n 0, 1) := by decide +kernel
theorem dX6_enterLot_56 : decode cX6_enterLot 56 = .ok (.getfield 12, 3) := by decide +kernel
theorem dX6_enterLot_59 : decode cX6_enterLot 59 = .ok (.getfield 182, 3) := by decide +kernel
theorem dX6_enterLot_62 : decode cX6_enterLot 62 = .ok (.iload 6, 2) := by decide +kernel
theorem dX6_enterLot_64 : decode cX6_enterLot 64 = .ok (.iconst 3, 1) := by decide +kernel
theorem dX6_enterLot_65 : decode cX6_enterLot 65 = .ok (.iload 4, 2) := by decide +kernel
theorem dX6_enterLot_67 : decode cX6_enterLot 67 = .ok (.invokevirtual 102, 3) := by decide +kernel
theorem dX6_enterLot_70 : decode cX6_enterLot 70 = .ok (.aload_n 0, 1) := by decide +kernel
theorem dX6_enterLot_71 : decode cX6_enterLot 71 = .ok (.getfield 12, 3) := by decide +kernel
theorem dX6_enterLot_74 : decode cX6_enterLot 74 = .ok (.getfield 182, 3) := by decide +kernel
theorem dX6_enterLot_77 : decode cX6_enterLot 77 = .ok (.iload 6, 2) := by decide +kernel
theorem dX6_enterLot_79 : decode cX6_enterLot 79 = .ok (.iconst 4, 1) := by decide +kernel
theorem dX6_enterLot_80 : decode cX6_enterLot 80 = .ok (.iload 5, 2) := by decide +kernel
theorem dX6_enterLot_82 : decode cX6_enterLot 82 = .ok (.invokevirtual 102, 3) := by decide +kernel
theorem dX6_enterLot_85 : decode cX6_enterLot 85 = .ok (.aload_n 0, 1) := by decide +kernel
theorem dX6_enterLot_86 : decode cX6_enterLot 86 = .ok (.getfield 12, 3) := by decide +kernel
theorem dX6_enterLot_89 : decode cX6_enterLot 89 = .ok (.getfield 47, 3) := by decide +kernel
theorem dX6_enterLot_92 : decode cX6_enterLot 92 = .ok (.iconst 1, 1) := by decide +kernel
theorem dX6_enterLot_93 : decode cX6_enterLot 93 = .ok (.iconst 1, 1) := by decide +kernel
theorem dX6_enterLot_94 : decode cX6_enterLot 94 = .ok (.invokevirtual 67, 3) := by decide +kernel
theorem dX6_enterLot_97 : decode cX6_enterLot 97 = .ok (.iload 6, 2) := by decide +kernel
theorem dX6_enterLot_99 : decode cX6_enterLot 99 = .ok (.ireturn, 1) := by decide +kernel
theorem dX6_lotsWith_0 : decode cX6_lotsWith 0 = .ok (.iconst 0, 1) := by decide +kernel
theorem dX6_lotsWith_1 : decode cX6_lotsWith 1 = .ok (.istore 4, 2) := by decide +kernel
theorem dX6_lotsWith_3 : decode cX6_lotsWith 3 = .ok (.aload_n 0, 1) := by decide +kernel
theorem dX6_lotsWith_4 : decode cX6_lotsWith 4 = .ok (.getfield 12, 3) := by decide +kernel
theorem dX6_lotsWith_7 : decode cX6_lotsWith 7 = .ok (.getfield 47, 3) := by decide +kernel
theorem dX6_lotsWith_10 : decode cX6_lotsWith 10 = .ok (.iconst 1, 1) := by decide +kernel
theorem dX6_lotsWith_11 : decode cX6_lotsWith 11 = .ok (.invokevirtual 51, 3) := by decide +kernel
theorem dX6_lotsWith_14 : decode cX6_lotsWith 14 = .ok (.istore 5, 2) := by decide +kernel
theorem dX6_lotsWith_16 : decode cX6_lotsWith 16 = .ok (.iconst 0, 1) := by decide +kernel
theorem dX6_lotsWith_17 : decode cX6_lotsWith 17 = .ok (.istore 6, 2) := by decide +kernel
theorem dX6_lotsWith_19 : decode cX6_lotsWith 19 = .ok (.iload 6, 2) := by decide +kernel
theorem dX6_lotsWith_21 : decode cX6_lotsWith 21 = .ok (.iload 5, 2) := by decide +kernel
theorem dX6_lotsWith_23 : decode cX6_lotsWith 23 = .ok (.if_icmp .ge 61, 3) := by decide +kernel
theorem dX6_lotsWith_26 : decode cX6_lotsWith 26 = .ok (.iload_n 3, 1) := by decide +kernel
theorem dX6_lotsWith_27 : decode cX6_lotsWith 27 = .ok (.ifCond .eq 19, 3) := by decide +kernel
theorem dX6_lotsWith_30 : decode cX6_lotsWith 30 = .ok (.aload_n 0, 1) := by decide +kernel
theorem dX6_lotsWith_31 : decode cX6_lotsWith 31 = .ok (.getfield 12, 3) := by decide +kernel
theorem dX6_lotsWith_34 : decode cX6_lotsWith 34 = .ok (.getfield 182, 3) := by decide +kernel
theorem dX6_lotsWith_37 : decode cX6_lotsWith 37 = .ok (.iload 6, 2) := by decide +kernel
theorem dX6_lotsWith_39 : decode cX6_lotsWith 39 = .ok (.iconst 5, 1) := by decide +kernel
theorem dX6_lotsWith_40 : decode cX6_lotsWith 40 = .ok (.invokevirtual 116, 3) := by decide +kernel
theorem dX6_lotsWith_43 : decode cX6_lotsWith 43 = .ok (.ifCond .ne 7, 3) := by decide +kernel
theorem dX6_lotsWith_46 : decode cX6_lotsWith 46 = .ok (.iconst 1, 1) := by decide +kernel
theorem dX6_lotsWith_47 : decode cX6_lotsWith 47 = .ok (.goto 4, 3) := by decide +kernel
theorem dX6_lotsWith_50 : decode cX6_lotsWith 50 = .ok (.iconst 0, 1) := by decide +kernel
theorem dX6_lotsWith_51 : decode cX6_lotsWith 51 = .ok (.istore 7, 2) := by decide +kernel
theorem dX6_lotsWith_53 : decode cX6_lotsWith 53 = .ok (.iload 7, 2) := by decide +kernel
theorem dX6_lotsWith_55 : decode cX6_lotsWith 55 = .ok (.ifCond .eq 23, 3) := by decide +kernel
theorem dX6_lotsWith_58 : decode cX6_lotsWith 58 = .ok (.aload_n 0, 1) := by decide +kernel
theorem dX6_lotsWith_59 : decode cX6_lotsWith 59 = .ok (.getfield 12, 3) := by decide +kernel
theorem dX6_lotsWith_62 : decode cX6_lotsWith 62 = .ok (.getfield 182, 3) := by decide +kernel
theorem dX6_lotsWith_65 : decode cX6_lotsWith 65 = .ok (.iload 6, 2) := by decide +kernel
theorem dX6_lotsWith_67 : decode cX6_lotsWith 67 = .ok (.iload_n 1, 1) := by decide +kernel
theorem dX6_lotsWith_68 : decode cX6_lotsWith 68 = .ok (.invokevirtual 116, 3) := by decide +kernel
theorem dX6_lotsWith_71 : decode cX6_lotsWith 71 = .ok (.iload_n 2, 1) := by decide +kernel
theorem dX6_lotsWith_72 : decode cX6_lotsWith 72 = .ok (.if_icmp .ne 6, 3) := by decide +kernel
theorem dX6_lotsWith_75 : decode cX6_lotsWith 75 = .ok (.iinc 4 1, 3) := by decide +kernel
theorem dX6_lotsWith_78 : decode cX6_lotsWith 78 = .ok (.iinc 6 1, 3) := by decide +kernel
theorem dX6_lotsWith_81 : decode cX6_lotsWith 81 = .ok (.goto (-62), 3) := by decide +kernel
theorem dX6_lotsWith_84 : decode cX6_lotsWith 84 = .ok (.iload 4, 2) := by decide +kernel
theorem dX6_lotsWith_86 : decode cX6_lotsWith 86 = .ok (.ireturn, 1) := by decide +kernel
theorem dX6_ifPressed_0 : decode cX6_ifPressed 0 = .ok (.aload_n 0, 1) := by decide +kernel
theorem dX6_ifPressed_1 : decode cX6_ifPressed 1 = .ok (.getfield 12, 3) := by decide +kernel
theorem dX6_ifPressed_4 : decode cX6_ifPressed 4 = .ok (.getfield 182, 3) := by decide +kernel
theorem dX6_ifPressed_7 : decode cX6_ifPressed 7 = .ok (.iload_n 1, 1) := by decide +kernel
theorem dX6_ifPressed_8 : decode cX6_ifPressed 8 = .ok (.iconst 5, 1) := by decide +kernel
theorem dX6_ifPressed_9 : decode cX6_ifPressed 9 = .ok (.invokevirtual 116, 3) := by decide +kernel
theorem dX6_ifPressed_12 : decode cX6_ifPressed 12 = .ok (.iload_n 2, 1) := by decide +kernel
theorem dX6_ifPressed_13 : decode cX6_ifPressed 13 = .ok (.if_icmp .lt 18, 3) := by decide +kernel
theorem dX6_ifPressed_16 : decode cX6_ifPressed 16 = .ok (.aload_n 0, 1) := by decide +kernel
theorem dX6_ifPressed_17 : decode cX6_ifPressed 17 = .ok (.getfield 12, 3) := by decide +kernel
theorem dX6_ifPressed_20 : decode cX6_ifPressed 20 = .ok (.getfield 182, 3) := by decide +kernel
theorem dX6_ifPressed_23 : decode cX6_ifPressed 23 = .ok (.iload_n 1, 1) := by decide +kernel
theorem dX6_ifPressed_24 : decode cX6_ifPressed 24 = .ok (.iload_n 3, 1) := by decide +kernel
theorem dX6_ifPressed_25 : decode cX6_ifPressed 25 = .ok (.invokevirtual 116, 3) := by decide +kernel
theorem dX6_ifPressed_28 : decode cX6_ifPressed 28 = .ok (.goto 4, 3) := by decide +kernel
theorem dX6_ifPressed_31 : decode cX6_ifPressed 31 = .ok (.iconst (-1), 1) := by decide +kernel
theorem dX6_ifPressed_32 : decode cX6_ifPressed 32 = .ok (.ireturn, 1) := by decide +kernel
theorem dX6_reasonAgainstPress_0 : decode cX6_reasonAgainstPress 0 = .ok (.aload_n 0, 1) := by decide +kernel
theorem dX6_reasonAgainstPress_1 : decode cX6_reasonAgainstPress 1 = .ok (.getfield 28, 3) := by decide +kernel
theorem dX6_reasonAgainstPress_4 : decode cX6_reasonAgainstPress 4 = .ok (.invokevirtual 302, 3) := by decide +kernel
theorem dX6_reasonAgainstPress_7 : decode cX6_reasonAgainstPress 7 = .ok (.ifCond .ne 5, 3) := by decide +kernel
theorem dX6_reasonAgainstPress_10 : decode cX6_reasonAgainstPress 10 = .ok (.iconst 1, 1) := by decide +kernel
theorem dX6_reasonAgainstPress_11 : decode cX6_reasonAgainstPress 11 = .ok (.ireturn, 1) := by decide +kernel
theorem dX6_reasonAgainstPress_12 : decode cX6_reasonAgainstPress 12 = .ok (.aload_n 0, 1) := by decide +kernel
theorem dX6_reasonAgainstPress_13 : decode cX6_reasonAgainstPress 13 = .ok (.getfield 28, 3) := by decide +kernel
theorem dX6_reasonAgainstPress_16 : decode cX6_reasonAgainstPress 16 = .ok (.getfield 308, 3) := by decide +kernel
theorem dX6_reasonAgainstPress_19 : decode cX6_reasonAgainstPress 19 = .ok (.aload_n 0, 1) := by decide +kernel
theorem dX6_reasonAgainstPress_20 : decode cX6_reasonAgainstPress 20 = .ok (.getfield 21, 3) := by decide +kernel
theorem dX6_reasonAgainstPress_23 : decode cX6_reasonAgainstPress 23 = .ok (.iload_n 1, 1) := by decide +kernel
theorem dX6_reasonAgainstPress_24 : decode cX6_reasonAgainstPress 24 = .ok (.invokevirtual 219, 3) := by decide +kernel
theorem dX6_reasonAgainstPress_27 : decode cX6_reasonAgainstPress 27 = .ok (.if_icmp .le 5, 3) := by decide +kernel
theorem dX6_reasonAgainstPress_30 : decode cX6_reasonAgainstPress 30 = .ok (.iconst 2, 1) := by decide +kernel
theorem dX6_reasonAgainstPress_31 : decode cX6_reasonAgainstPress 31 = .ok (.ireturn, 1) := by decide +kernel
theorem dX6_reasonAgainstPress_32 : decode cX6_reasonAgainstPress 32 = .ok (.aload_n 0, 1) := by decide +kernel
theorem dX6_reasonAgainstPress_33 : decode cX6_reasonAgainstPress 33 = .ok (.getfield 28, 3) := by decide +kernel
theorem dX6_reasonAgainstPress_36 : decode cX6_reasonAgainstPress 36 = .ok (.getfield 308, 3) := by decide +kernel
theorem dX6_reasonAgainstPress_39 : decode cX6_reasonAgainstPress 39 = .ok (.ifCond .le 31, 3) := by decide +kernel
theorem dX6_reasonAgainstPress_42 : decode cX6_reasonAgainstPress 42 = .ok (.aload_n 0, 1) := by decide +kernel
theorem dX6_reasonAgainstPress_43 : decode cX6_reasonAgainstPress 43 = .ok (.getfield 21, 3) := by decide +kernel
theorem dX6_reasonAgainstPress_46 : decode cX6_reasonAgainstPress 46 = .ok (.iload_n 1, 1) := by decide +kernel
theorem dX6_reasonAgainstPress_47 : decode cX6_reasonAgainstPress 47 = .ok (.aload_n 0, 1) := by decide +kernel
theorem dX6_reasonAgainstPress_48 : decode cX6_reasonAgainstPress 48 = .ok (.getfield 12, 3) := by decide +kernel
theorem dX6_reasonAgainstPress_51 : decode cX6_reasonAgainstPress 51 = .ok (.aload_n 0, 1) := by decide +kernel
theorem dX6_reasonAgainstPress_52 : decode cX6_reasonAgainstPress 52 = .ok (.getfield 28, 3) := by decide +kernel
theorem dX6_reasonAgainstPress_55 : decode cX6_reasonAgainstPress 55 = .ok (.getfield 168, 3) := by decide +kernel
theorem dX6_reasonAgainstPress_58 : decode cX6_reasonAgainstPress 58 = .ok (.invokevirtual 187, 3) := by decide +kernel
theorem dX6_reasonAgainstPress_61 : decode cX6_reasonAgainstPress 61 = .ok (.iload_n 2, 1) := by decide +kernel
theorem dX6_reasonAgainstPress_62 : decode cX6_reasonAgainstPress 62 = .ok (.invokevirtual 222, 3) := by decide +kernel
theorem dX6_reasonAgainstPress_65 : decode cX6_reasonAgainstPress 65 = .ok (.ifCond .ne 5, 3) := by decide +kernel
theorem dX6_reasonAgainstPress_68 : decode cX6_reasonAgainstPress 68 = .ok (.iconst 3, 1) := by decide +kernel
theorem dX6_reasonAgainstPress_69 : decode cX6_reasonAgainstPress 69 = .ok (.ireturn, 1) := by decide +kernel
theorem dX6_reasonAgainstPress_70 : decode cX6_reasonAgainstPress 70 = .ok (.iconst 0, 1) := by decide +kernel
theorem dX6_reasonAgainstPress_71 : decode cX6_reasonAgainstPress 71 = .ok (.ireturn, 1) := by decide +kernel
theorem dX6_loseByCleaning_0 : decode cX6_loseByCleaning 0 = .ok (.iload_n 2, 1) := by decide +kernel
theorem dX6_loseByCleaning_1 : decode cX6_loseByCleaning 1 = .ok (.ifCond .le 28, 3) := by decide +kernel
theorem dX6_loseByCleaning_4 : decode cX6_loseByCleaning 4 = .ok (.aload_n 0, 1) := by decide +kernel
theorem dX6_loseByCleaning_5 : decode cX6_loseByCleaning 5 = .ok (.getfield 12, 3) := by decide +kernel
theorem dX6_loseByCleaning_8 : decode cX6_loseByCleaning 8 = .ok (.getfield 113, 3) := by decide +kernel
theorem dX6_loseByCleaning_11 : decode cX6_loseByCleaning 11 = .ok (.iload_n 1, 1) := by decide +kernel
theorem dX6_loseByCleaning_12 : decode cX6_loseByCleaning 12 = .ok (.iconst 4, 1) := by decide +kernel
theorem dX6_loseByCleaning_13 : decode cX6_loseByCleaning 13 = .ok (.iload_n 2, 1) := by decide +kernel
theorem dX6_loseByCleaning_14 : decode cX6_loseByCleaning 14 = .ok (.invokevirtual 185, 3) := by decide +kernel
theorem dX6_loseByCleaning_17 : decode cX6_loseByCleaning 17 = .ok (.aload_n 0, 1) := by decide +kernel
theorem dX6_loseByCleaning_18 : decode cX6_loseByCleaning 18 = .ok (.getfield 12, 3) := by decide +kernel
theorem dX6_loseByCleaning_21 : decode cX6_loseByCleaning 21 = .ok (.getfield 47, 3) := by decide +kernel
theorem dX6_loseByCleaning_24 : decode cX6_loseByCleaning 24 = .ok (.iconst 5, 1) := by decide +kernel
theorem dX6_loseByCleaning_25 : decode cX6_loseByCleaning 25 = .ok (.iconst 1, 1) := by decide +kernel
theorem dX6_loseByCleaning_26 : decode cX6_loseByCleaning 26 = .ok (.invokevirtual 67, 3) := by decide +kernel
theorem dX6_loseByCleaning_29 : decode cX6_loseByCleaning 29 = .ok (.return_, 1) := by decide +kernel
theorem dX6_enterPressedLot_0 : decode cX6_enterPressedLot 0 = .ok (.aload_n 0, 1) := by decide +kernel
theorem dX6_enterPressedLot_1 : decode cX6_enterPressedLot 1 = .ok (.getfield 28, 3) := by decide +kernel
theorem dX6_enterPressedLot_4 : decode cX6_enterPressedLot 4 = .ok (.getfield 168, 3) := by decide +kernel
theorem dX6_enterPressedLot_7 : decode cX6_enterPressedLot 7 = .ok (.istore_n 2, 1) := by decide +kernel
theorem dX6_enterPressedLot_8 : decode cX6_enterPressedLot 8 = .ok (.aload_n 0, 1) := by decide +kernel
theorem dX6_enterPressedLot_9 : decode cX6_enterPressedLot 9 = .ok (.getfield 12, 3) := by decide +kernel
theorem dX6_enterPressedLot_12 : decode cX6_enterPressedLot 12 = .ok (.getfield 182, 3) := by decide +kernel
theorem dX6_enterPressedLot_15 : decode cX6_enterPressedLot 15 = .ok (.iload_n 2, 1) := by decide +kernel
theorem dX6_enterPressedLot_16 : decode cX6_enterPressedLot 16 = .ok (.iconst 5, 1) := by decide +kernel
theorem dX6_enterPressedLot_17 : decode cX6_enterPressedLot 17 = .ok (.iconst 1, 1) := by decide +kernel
theorem dX6_enterPressedLot_18 : decode cX6_enterPressedLot 18 = .ok (.invokevirtual 102, 3) := by decide +kernel
theorem dX6_enterPressedLot_21 : decode cX6_enterPressedLot 21 = .ok (.aload_n 0, 1) := by decide +kernel
theorem dX6_enterPressedLot_22 : decode cX6_enterPressedLot 22 = .ok (.getfield 12, 3) := by decide +kernel
theorem dX6_enterPressedLot_25 : decode cX6_enterPressedLot 25 = .ok (.getfield 182, 3) := by decide +kernel
theorem dX6_enterPressedLot_28 : decode cX6_enterPressedLot 28 = .ok (.iload_n 2, 1) := by decide +kernel
theorem dX6_enterPressedLot_29 : decode cX6_enterPressedLot 29 = .ok (.bipush 6, 2) := by decide +kernel
theorem dX6_enterPressedLot_31 : decode cX6_enterPressedLot 31 = .ok (.aload_n 0, 1) := by decide +kernel
theorem dX6_enterPressedLot_32 : decode cX6_enterPressedLot 32 = .ok (.getfield 28, 3) := by decide +kernel
theorem dX6_enterPressedLot_35 : decode cX6_enterPressedLot 35 = .ok (.getfield 400, 3) := by decide +kernel
theorem dX6_enterPressedLot_38 : decode cX6_enterPressedLot 38 = .ok (.invokevirtual 102, 3) := by decide +kernel
theorem dX6_enterPressedLot_41 : decode cX6_enterPressedLot 41 = .ok (.aload_n 0, 1) := by decide +kernel
theorem dX6_enterPressedLot_42 : decode cX6_enterPressedLot 42 = .ok (.getfield 12, 3) := by decide +kernel
theorem dX6_enterPressedLot_45 : decode cX6_enterPressedLot 45 = .ok (.getfield 182, 3) := by decide +kernel
theorem dX6_enterPressedLot_48 : decode cX6_enterPressedLot 48 = .ok (.iload_n 2, 1) := by decide +kernel
theorem dX6_enterPressedLot_49 : decode cX6_enterPressedLot 49 = .ok (.bipush 7, 2) := by decide +kernel
theorem dX6_enterPressedLot_51 : decode cX6_enterPressedLot 51 = .ok (.aload_n 0, 1) := by decide +kernel
theorem dX6_enterPressedLot_52 : decode cX6_enterPressedLot 52 = .ok (.getfield 28, 3) := by decide +kernel
theorem dX6_enterPressedLot_55 : decode cX6_enterPressedLot 55 = .ok (.getfield 403, 3) := by decide +kernel
theorem dX6_enterPressedLot_58 : decode cX6_enterPressedLot 58 = .ok (.invokevirtual 102, 3) := by decide +kernel
theorem dX6_enterPressedLot_61 : decode cX6_enterPressedLot 61 = .ok (.aload_n 0, 1) := by decide +kernel
theorem dX6_enterPressedLot_62 : decode cX6_enterPressedLot 62 = .ok (.getfield 12, 3) := by decide +kernel
theorem dX6_enterPressedLot_65 : decode cX6_enterPressedLot 65 = .ok (.getfield 182, 3) := by decide +kernel
theorem dX6_enterPressedLot_68 : decode cX6_enterPressedLot 68 = .ok (.iload_n 2, 1) := by decide +kernel
theorem dX6_enterPressedLot_69 : decode cX6_enterPressedLot 69 = .ok (.bipush 8, 2) := by decide +kernel
theorem dX6_enterPressedLot_71 : decode cX6_enterPressedLot 71 = .ok (.aload_n 0, 1) := by decide +kernel
theorem dX6_enterPressedLot_72 : decode cX6_enterPressedLot 72 = .ok (.getfield 28, 3) := by decide +kernel
theorem dX6_enterPressedLot_75 : decode cX6_enterPressedLot 75 = .ok (.getfield 305, 3) := by decide +kernel
theorem dX6_enterPressedLot_78 : decode cX6_enterPressedLot 78 = .ok (.invokevirtual 102, 3) := by decide +kernel
theorem dX6_enterPressedLot_81 : decode cX6_enterPressedLot 81 = .ok (.aload_n 0, 1) := by decide +kernel
theorem dX6_enterPressedLot_82 : decode cX6_enterPressedLot 82 = .ok (.getfield 12, 3) := by decide +kernel
theorem dX6_enterPressedLot_85 : decode cX6_enterPressedLot 85 = .ok (.getfield 182, 3) := by decide +kernel
theorem dX6_enterPressedLot_88 : decode cX6_enterPressedLot 88 = .ok (.iload_n 2, 1) := by decide +kernel
theorem dX6_enterPressedLot_89 : decode cX6_enterPressedLot 89 = .ok (.bipush 10, 2) := by decide +kernel
theorem dX6_enterPressedLot_91 : decode cX6_enterPressedLot 91 = .ok (.iload_n 1, 1) := by decide +kernel
theorem dX6_enterPressedLot_92 : decode cX6_enterPressedLot 92 = .ok (.invokevirtual 102, 3) := by decide +kernel
theorem dX6_enterPressedLot_95 : decode cX6_enterPressedLot 95 = .ok (.aload_n 0, 1) := by decide +kernel
theorem dX6_enterPressedLot_96 : decode cX6_enterPressedLot 96 = .ok (.getfield 12, 3) := by decide +kernel
theorem dX6_enterPressedLot_99 : decode cX6_enterPressedLot 99 = .ok (.getfield 200, 3) := by decide +kernel
theorem dX6_enterPressedLot_102 : decode cX6_enterPressedLot 102 = .ok (.aload_n 0, 1) := by decide +kernel
theorem dX6_enterPressedLot_103 : decode cX6_enterPressedLot 103 = .ok (.getfield 12, 3) := by decide +kernel
theorem dX6_enterPressedLot_106 : decode cX6_enterPressedLot 106 = .ok (.getfield 182, 3) := by decide +kernel
theorem dX6_enterPressedLot_109 : decode cX6_enterPressedLot 109 = .ok (.iload_n 2, 1) := by decide +kernel
theorem dX6_enterPressedLot_110 : decode cX6_enterPressedLot 110 = .ok (.iconst 0, 1) := by decide +kernel
theorem dX6_enterPressedLot_111 : decode cX6_enterPressedLot 111 = .ok (.invokevirtual 116, 3) := by decide +kernel
theorem dX6_enterPressedLot_114 : decode cX6_enterPressedLot 114 = .ok (.iconst 0, 1) := by decide +kernel
theorem dX6_enterPressedLot_115 : decode cX6_enterPressedLot 115 = .ok (.aload_n 0, 1) := by decide +kernel
theorem dX6_enterPressedLot_116 : decode cX6_enterPressedLot 116 = .ok (.getfield 28, 3) := by decide +kernel
theorem dX6_enterPressedLot_119 : decode cX6_enterPressedLot 119 = .ok (.getfield 305, 3) := by decide +kernel
theorem dX6_enterPressedLot_122 : decode cX6_enterPressedLot 122 = .ok (.invokevirtual 185, 3) := by decide +kernel
theorem dX6_enterPressedLot_125 : decode cX6_enterPressedLot 125 = .ok (.aload_n 0, 1) := by decide +kernel
theorem dX6_enterPressedLot_126 : decode cX6_enterPressedLot 126 = .ok (.getfield 12, 3) := by decide +kernel
theorem dX6_enterPressedLot_129 : decode cX6_enterPressedLot 129 = .ok (.getfield 113, 3) := by decide +kernel
theorem dX6_enterPressedLot_132 : decode cX6_enterPressedLot 132 = .ok (.aload_n 0, 1) := by decide +kernel
theorem dX6_enterPressedLot_133 : decode cX6_enterPressedLot 133 = .ok (.getfield 12, 3) := by decide +kernel
theorem dX6_enterPressedLot_136 : decode cX6_enterPressedLot 136 = .ok (.getfield 182, 3) := by decide +kernel
theorem dX6_enterPressedLot_139 : decode cX6_enterPressedLot 139 = .ok (.iload_n 2, 1) := by decide +kernel
theorem dX6_enterPressedLot_140 : decode cX6_enterPressedLot 140 = .ok (.iconst 1, 1) := by decide +kernel
theorem dX6_enterPressedLot_141 : decode cX6_enterPressedLot 141 = .ok (.invokevirtual 116, 3) := by decide +kernel
theorem dX6_enterPressedLot_144 : decode cX6_enterPressedLot 144 = .ok (.iconst 1, 1) := by decide +kernel
theorem dX6_enterPressedLot_145 : decode cX6_enterPressedLot 145 = .ok (.aload_n 0, 1) := by decide +kernel
theorem dX6_enterPressedLot_146 : decode cX6_enterPressedLot 146 = .ok (.getfield 28, 3) := by decide +kernel
theorem dX6_enterPressedLot_149 : decode cX6_enterPressedLot 149 = .ok (.getfield 305, 3) := by decide +kernel
theorem dX6_enterPressedLot_152 : decode cX6_enterPressedLot 152 = .ok (.invokevirtual 185, 3) := by decide +kernel
theorem dX6_enterPressedLot_155 : decode cX6_enterPressedLot 155 = .ok (.return_, 1) := by decide +kernel
theorem dX6_pourPressedOil_0 : decode cX6_pourPressedOil 0 = .ok (.aload_n 0, 1) := by decide +kernel
theorem dX6_pourPressedOil_1 : decode cX6_pourPressedOil 1 = .ok (.getfield 28, 3) := by decide +kernel
theorem dX6_pourPressedOil_4 : decode cX6_pourPressedOil 4 = .ok (.getfield 168, 3) := by decide +kernel
theorem dX6_pourPressedOil_7 : decode cX6_pourPressedOil 7 = .ok (.istore_n 2, 1) := by decide +kernel
theorem dX6_pourPressedOil_8 : decode cX6_pourPressedOil 8 = .ok (.aload_n 0, 1) := by decide +kernel
theorem dX6_pourPressedOil_9 : decode cX6_pourPressedOil 9 = .ok (.getfield 12, 3) := by decide +kernel
theorem dX6_pourPressedOil_12 : decode cX6_pourPressedOil 12 = .ok (.iload_n 2, 1) := by decide +kernel
theorem dX6_pourPressedOil_13 : decode cX6_pourPressedOil 13 = .ok (.invokevirtual 187, 3) := by decide +kernel
theorem dX6_pourPressedOil_16 : decode cX6_pourPressedOil 16 = .ok (.istore_n 3, 1) := by decide +kernel
theorem dX6_pourPressedOil_17 : decode cX6_pourPressedOil 17 = .ok (.aload_n 0, 1) := by decide +kernel
theorem dX6_pourPressedOil_18 : decode cX6_pourPressedOil 18 = .ok (.getfield 21, 3) := by decide +kernel
theorem dX6_pourPressedOil_21 : decode cX6_pourPressedOil 21 = .ok (.iload_n 1, 1) := by decide +kernel
theorem dX6_pourPressedOil_22 : decode cX6_pourPressedOil 22 = .ok (.aload_n 0, 1) := by decide +kernel
theorem dX6_pourPressedOil_23 : decode cX6_pourPressedOil 23 = .ok (.getfield 28, 3) := by decide +kernel
theorem dX6_pourPressedOil_26 : decode cX6_pourPressedOil 26 = .ok (.getfield 147, 3) := by decide +kernel
theorem dX6_pourPressedOil_29 : decode cX6_pourPressedOil 29 = .ok (.aload_n 0, 1) := by decide +kernel
theorem dX6_pourPressedOil_30 : decode cX6_pourPressedOil 30 = .ok (.getfield 28, 3) := by decide +kernel
theorem dX6_pourPressedOil_33 : decode cX6_pourPressedOil 33 = .ok (.getfield 406, 3) := by decide +kernel
theorem dX6_pourPressedOil_36 : decode cX6_pourPressedOil 36 = .ok (.iload_n 3, 1) := by decide +kernel
theorem dX6_pourPressedOil_37 : decode cX6_pourPressedOil 37 = .ok (.invokevirtual 190, 3) := by decide +kernel
theorem dX6_pourPressedOil_40 : decode cX6_pourPressedOil 40 = .ok (.aload_n 0, 1) := by decide +kernel
theorem dX6_pourPressedOil_41 : decode cX6_pourPressedOil 41 = .ok (.getfield 21, 3) := by decide +kernel
theorem dX6_pourPressedOil_44 : decode cX6_pourPressedOil 44 = .ok (.iload_n 1, 1) := by decide +kernel
theorem dX6_pourPressedOil_45 : decode cX6_pourPressedOil 45 = .ok (.aload_n 0, 1) := by decide +kernel
theorem dX6_pourPressedOil_46 : decode cX6_pourPressedOil 46 = .ok (.getfield 12, 3) := by decide +kernel
theorem dX6_pourPressedOil_49 : decode cX6_pourPressedOil 49 = .ok (.getfield 182, 3) := by decide +kernel
theorem dX6_pourPressedOil_52 : decode cX6_pourPressedOil 52 = .ok (.iload_n 2, 1) := by decide +kernel
theorem dX6_pourPressedOil_53 : decode cX6_pourPressedOil 53 = .ok (.iconst 1, 1) := by decide +kernel
theorem dX6_pourPressedOil_54 : decode cX6_pourPressedOil 54 = .ok (.invokevirtual 116, 3) := by decide +kernel
theorem dX6_pourPressedOil_57 : decode cX6_pourPressedOil 57 = .ok (.aload_n 0, 1) := by decide +kernel
theorem dX6_pourPressedOil_58 : decode cX6_pourPressedOil 58 = .ok (.getfield 28, 3) := by decide +kernel
theorem dX6_pourPressedOil_61 : decode cX6_pourPressedOil 61 = .ok (.getfield 308, 3) := by decide +kernel
theorem dX6_pourPressedOil_64 : decode cX6_pourPressedOil 64 = .ok (.aload_n 0, 1) := by decide +kernel
theorem dX6_pourPressedOil_65 : decode cX6_pourPressedOil 65 = .ok (.getfield 28, 3) := by decide +kernel
theorem dX6_pourPressedOil_68 : decode cX6_pourPressedOil 68 = .ok (.getfield 406, 3) := by decide +kernel
theorem dX6_pourPressedOil_71 : decode cX6_pourPressedOil 71 = .ok (.isub, 1) := by decide +kernel
theorem dX6_pourPressedOil_72 : decode cX6_pourPressedOil 72 = .ok (.iload_n 3, 1) := by decide +kernel
theorem dX6_pourPressedOil_73 : decode cX6_pourPressedOil 73 = .ok (.invokevirtual 190, 3) := by decide +kernel
theorem dX6_pourPressedOil_76 : decode cX6_pourPressedOil 76 = .ok (.return_, 1) := by decide +kernel
theorem dX6_residueVariety_0 : decode cX6_residueVariety 0 = .ok (.aload_n 0, 1) := by decide +kernel
theorem dX6_residueVariety_1 : decode cX6_residueVariety 1 = .ok (.getfield 12, 3) := by decide +kernel
theorem dX6_residueVariety_4 : decode cX6_residueVariety 4 = .ok (.getfield 47, 3) := by decide +kernel
theorem dX6_residueVariety_7 : decode cX6_residueVariety 7 = .ok (.iconst 4, 1) := by decide +kernel
theorem dX6_residueVariety_8 : decode cX6_residueVariety 8 = .ok (.invokevirtual 51, 3) := by decide +kernel
theorem dX6_residueVariety_11 : decode cX6_residueVariety 11 = .ok (.ifCond .le 17, 3) := by decide +kernel
theorem dX6_residueVariety_14 : decode cX6_residueVariety 14 = .ok (.aload_n 0, 1) := by decide +kernel
theorem dX6_residueVariety_15 : decode cX6_residueVariety 15 = .ok (.getfield 12, 3) := by decide +kernel
theorem dX6_residueVariety_18 : decode cX6_residueVariety 18 = .ok (.getfield 47, 3) := by decide +kernel
theorem dX6_residueVariety_21 : decode cX6_residueVariety 21 = .ok (.iconst 3, 1) := by decide +kernel
theorem dX6_residueVariety_22 : decode cX6_residueVariety 22 = .ok (.invokevirtual 51, 3) := by decide +kernel
theorem dX6_residueVariety_25 : decode cX6_residueVariety 25 = .ok (.goto 4, 3) := by decide +kernel
theorem dX6_residueVariety_28 : decode cX6_residueVariety 28 = .ok (.iconst (-1), 1) := by decide +kernel
theorem dX6_residueVariety_29 : decode cX6_residueVariety 29 = .ok (.ireturn, 1) := by decide +kernel
theorem dX6_reasonAgainstAppeal_0 : decode cX6_reasonAgainstAppeal 0 = .ok (.aload_n 0, 1) := by decide +kernel
theorem dX6_reasonAgainstAppeal_1 : decode cX6_reasonAgainstAppeal 1 = .ok (.getfield 12, 3) := by decide +kernel
theorem dX6_reasonAgainstAppeal_4 : decode cX6_reasonAgainstAppeal 4 = .ok (.getfield 182, 3) := by decide +kernel
theorem dX6_reasonAgainstAppeal_7 : decode cX6_reasonAgainstAppeal 7 = .ok (.iload_n 1, 1) := by decide +kernel
theorem dX6_reasonAgainstAppeal_8 : decode cX6_reasonAgainstAppeal 8 = .ok (.iconst 5, 1) := by decide +kernel
theorem dX6_reasonAgainstAppeal_9 : decode cX6_reasonAgainstAppeal 9 = .ok (.invokevirtual 116, 3) := by decide +kernel
theorem dX6_reasonAgainstAppeal_12 : decode cX6_reasonAgainstAppeal 12 = .ok (.iconst 1, 1) := by decide +kernel
theorem dX6_reasonAgainstAppeal_13 : decode cX6_reasonAgainstAppeal 13 = .ok (.if_icmp .eq 5, 3) := by decide +kernel
theorem dX6_reasonAgainstAppeal_16 : decode cX6_reasonAgainstAppeal 16 = .ok (.iconst 1, 1) := by decide +kernel
theorem dX6_reasonAgainstAppeal_17 : decode cX6_reasonAgainstAppeal 17 = .ok (.ireturn, 1) := by decide +kernel
theorem dX6_reasonAgainstAppeal_18 : decode cX6_reasonAgainstAppeal 18 = .ok (.aload_n 0, 1) := by decide +kernel
theorem dX6_reasonAgainstAppeal_19 : decode cX6_reasonAgainstAppeal 19 = .ok (.getfield 12, 3) := by decide +kernel
theorem dX6_reasonAgainstAppeal_22 : decode cX6_reasonAgainstAppeal 22 = .ok (.getfield 182, 3) := by decide +kernel
theorem dX6_reasonAgainstAppeal_25 : decode cX6_reasonAgainstAppeal 25 = .ok (.iload_n 1, 1) := by decide +kernel
theorem dX6_reasonAgainstAppeal_26 : decode cX6_reasonAgainstAppeal 26 = .ok (.bipush 6, 2) := by decide +kernel
theorem dX6_reasonAgainstAppeal_28 : decode cX6_reasonAgainstAppeal 28 = .ok (.invokevirtual 116, 3) := by decide +kernel
theorem dX6_reasonAgainstAppeal_31 : decode cX6_reasonAgainstAppeal 31 = .ok (.aload_n 0, 1) := by decide +kernel
theorem dX6_reasonAgainstAppeal_32 : decode cX6_reasonAgainstAppeal 32 = .ok (.getfield 12, 3) := by decide +kernel
theorem dX6_reasonAgainstAppeal_35 : decode cX6_reasonAgainstAppeal 35 = .ok (.getfield 133, 3) := by decide +kernel
theorem dX6_reasonAgainstAppeal_38 : decode cX6_reasonAgainstAppeal 38 = .ok (.iconst 1, 1) := by decide +kernel
theorem dX6_reasonAgainstAppeal_39 : decode cX6_reasonAgainstAppeal 39 = .ok (.invokevirtual 51, 3) := by decide +kernel
theorem dX6_reasonAgainstAppeal_42 : decode cX6_reasonAgainstAppeal 42 = .ok (.imul, 1) := by decide +kernel
theorem dX6_reasonAgainstAppeal_43 : decode cX6_reasonAgainstAppeal 43 = .ok (.sipush 1000, 3) := by decide +kernel
theorem dX6_reasonAgainstAppeal_46 : decode cX6_reasonAgainstAppeal 46 = .ok (.idiv, 1) := by decide +kernel
theorem dX6_reasonAgainstAppeal_47 : decode cX6_reasonAgainstAppeal 47 = .ok (.istore_n 2, 1) := by decide +kernel
theorem dX6_reasonAgainstAppeal_48 : decode cX6_reasonAgainstAppeal 48 = .ok (.aload_n 0, 1) := by decide +kernel
theorem dX6_reasonAgainstAppeal_49 : decode cX6_reasonAgainstAppeal 49 = .ok (.getfield 12, 3) := by decide +kernel
theorem dX6_reasonAgainstAppeal_52 : decode cX6_reasonAgainstAppeal 52 = .ok (.getfield 182, 3) := by decide +kernel
theorem dX6_reasonAgainstAppeal_55 : decode cX6_reasonAgainstAppeal 55 = .ok (.iload_n 1, 1) := by decide +kernel
theorem dX6_reasonAgainstAppeal_56 : decode cX6_reasonAgainstAppeal 56 = .ok (.bipush 8, 2) := by decide +kernel
theorem dX6_reasonAgainstAppeal_58 : decode cX6_reasonAgainstAppeal 58 = .ok (.invokevirtual 116, 3) := by decide +kernel
theorem dX6_reasonAgainstAppeal_61 : decode cX6_reasonAgainstAppeal 61 = .ok (.iload_n 2, 1) := by decide +kernel
theorem dX6_reasonAgainstAppeal_62 : decode cX6_reasonAgainstAppeal 62 = .ok (.sipush 1000, 3) := by decide +kernel
theorem dX6_reasonAgainstAppeal_65 : decode cX6_reasonAgainstAppeal 65 = .ok (.aload_n 0, 1) := by decide +kernel
theorem dX6_reasonAgainstAppeal_66 : decode cX6_reasonAgainstAppeal 66 = .ok (.getfield 12, 3) := by decide +kernel
theorem dX6_reasonAgainstAppeal_69 : decode cX6_reasonAgainstAppeal 69 = .ok (.getfield 133, 3) := by decide +kernel
theorem dX6_reasonAgainstAppeal_72 : decode cX6_reasonAgainstAppeal 72 = .ok (.bipush 6, 2) := by decide +kernel
theorem dX6_reasonAgainstAppeal_74 : decode cX6_reasonAgainstAppeal 74 = .ok (.invokevirtual 51, 3) := by decide +kernel
theorem dX6_reasonAgainstAppeal_77 : decode cX6_reasonAgainstAppeal 77 = .ok (.isub, 1) := by decide +kernel
theorem dX6_reasonAgainstAppeal_78 : decode cX6_reasonAgainstAppeal 78 = .ok (.imul, 1) := by decide +kernel
theorem dX6_reasonAgainstAppeal_79 : decode cX6_reasonAgainstAppeal 79 = .ok (.sipush 1000, 3) := by decide +kernel
theorem dX6_reasonAgainstAppeal_82 : decode cX6_reasonAgainstAppeal 82 = .ok (.idiv, 1) := by decide +kernel
theorem dX6_reasonAgainstAppeal_83 : decode cX6_reasonAgainstAppeal 83 = .ok (.if_icmp .lt 5, 3) := by decide +kernel
theorem dX6_reasonAgainstAppeal_86 : decode cX6_reasonAgainstAppeal 86 = .ok (.iconst 2, 1) := by decide +kernel
theorem dX6_reasonAgainstAppeal_87 : decode cX6_reasonAgainstAppeal 87 = .ok (.ireturn, 1) := by decide +kernel
theorem dX6_reasonAgainstAppeal_88 : decode cX6_reasonAgainstAppeal 88 = .ok (.aload_n 0, 1) := by decide +kernel
theorem dX6_reasonAgainstAppeal_89 : decode cX6_reasonAgainstAppeal 89 = .ok (.iload_n 1, 1) := by decide +kernel
theorem dX6_reasonAgainstAppeal_90 : decode cX6_reasonAgainstAppeal 90 = .ok (.invokevirtual 179, 3) := by decide +kernel
theorem dX6_reasonAgainstAppeal_93 : decode cX6_reasonAgainstAppeal 93 = .ok (.aload_n 0, 1) := by decide +kernel
theorem dX6_reasonAgainstAppeal_94 : decode cX6_reasonAgainstAppeal 94 = .ok (.getfield 21, 3) := by decide +kernel
theorem dX6_reasonAgainstAppeal_97 : decode cX6_reasonAgainstAppeal 97 = .ok (.aload_n 0, 1) := by decide +kernel
theorem dX6_reasonAgainstAppeal_98 : decode cX6_reasonAgainstAppeal 98 = .ok (.getfield 12, 3) := by decide +kernel
theorem dX6_reasonAgainstAppeal_101 : decode cX6_reasonAgainstAppeal 101 = .ok (.getfield 182, 3) := by decide +kernel
theorem dX6_reasonAgainstAppeal_104 : decode cX6_reasonAgainstAppeal 104 = .ok (.iload_n 1, 1) := by decide +kernel
theorem dX6_reasonAgainstAppeal_105 : decode cX6_reasonAgainstAppeal 105 = .ok (.bipush 10, 2) := by decide +kernel
theorem dX6_reasonAgainstAppeal_107 : decode cX6_reasonAgainstAppeal 107 = .ok (.invokevirtual 116, 3) := by decide +kernel
theorem dX6_reasonAgainstAppeal_110 : decode cX6_reasonAgainstAppeal 110 = .ok (.invokevirtual 219, 3) := by decide +kernel
theorem dX6_reasonAgainstAppeal_113 : decode cX6_reasonAgainstAppeal 113 = .ok (.if_icmp .le 5, 3) := by decide +kernel
theorem dX6_reasonAgainstAppeal_116 : decode cX6_reasonAgainstAppeal 116 = .ok (.iconst 3, 1) := by decide +kernel
theorem dX6_reasonAgainstAppeal_117 : decode cX6_reasonAgainstAppeal 117 = .ok (.ireturn, 1) := by decide +kernel
theorem dX6_reasonAgainstAppeal_118 : decode cX6_reasonAgainstAppeal 118 = .ok (.iconst 0, 1) := by decide +kernel
theorem dX6_reasonAgainstAppeal_119 : decode cX6_reasonAgainstAppeal 119 = .ok (.ireturn, 1) := by decide +kernel
theorem dX6_secondOilOf_0 : decode cX6_secondOilOf 0 = .ok (.aload_n 0, 1) := by decide +kernel
theorem dX6_secondOilOf_1 : decode cX6_secondOilOf 1 = .ok (.getfield 12, 3) := by decide +kernel
theorem dX6_secondOilOf_4 : decode cX6_secondOilOf 4 = .ok (.getfield 182, 3) := by decide +kernel
theorem dX6_secondOilOf_7 : decode cX6_secondOilOf 7 = .ok (.iload_n 1, 1) := by decide +kernel
theorem dX6_secondOilOf_8 : decode cX6_secondOilOf 8 = .ok (.bipush 7, 2) := by decide +kernel
theorem dX6_secondOilOf_10 : decode cX6_secondOilOf 10 = .ok (.invokevirtual 116, 3) := by decide +kernel
theorem dX6_secondOilOf_13 : decode cX6_secondOilOf 13 = .ok (.aload_n 0, 1) := by decide +kernel
theorem dX6_secondOilOf_14 : decode cX6_secondOilOf 14 = .ok (.getfield 12, 3) := by decide +kernel
theorem dX6_secondOilOf_17 : decode cX6_secondOilOf 17 = .ok (.getfield 182, 3) := by decide +kernel
theorem dX6_secondOilOf_20 : decode cX6_secondOilOf 20 = .ok (.iload_n 1, 1) := by decide +kernel
theorem dX6_secondOilOf_21 : decode cX6_secondOilOf 21 = .ok (.bipush 8, 2) := by decide +kernel
theorem dX6_secondOilOf_23 : decode cX6_secondOilOf 23 = .ok (.invokevirtual 116, 3) := by decide +kernel
theorem dX6_secondOilOf_26 : decode cX6_secondOilOf 26 = .ok (.isub, 1) := by decide +kernel
theorem dX6_secondOilOf_27 : decode cX6_secondOilOf 27 = .ok (.istore_n 2, 1) := by decide +kernel
theorem dX6_secondOilOf_28 : decode cX6_secondOilOf 28 = .ok (.iload_n 2, 1) := by decide +kernel
theorem dX6_secondOilOf_29 : decode cX6_secondOilOf 29 = .ok (.aload_n 0, 1) := by decide +kernel
theorem dX6_secondOilOf_30 : decode cX6_secondOilOf 30 = .ok (.getfield 12, 3) := by decide +kernel
theorem dX6_secondOilOf_33 : decode cX6_secondOilOf 33 = .ok (.getfield 133, 3) := by decide +kernel
theorem dX6_secondOilOf_36 : decode cX6_secondOilOf 36 = .ok (.iconst 2, 1) := by decide +kernel
theorem dX6_secondOilOf_37 : decode cX6_secondOilOf 37 = .ok (.invokevirtual 51, 3) := by decide +kernel
theorem dX6_secondOilOf_40 : decode cX6_secondOilOf 40 = .ok (.imul, 1) := by decide +kernel
theorem dX6_secondOilOf_41 : decode cX6_secondOilOf 41 = .ok (.sipush 1000, 3) := by decide +kernel
theorem dX6_secondOilOf_44 : decode cX6_secondOilOf 44 = .ok (.idiv, 1) := by decide +kernel
theorem dX6_secondOilOf_45 : decode cX6_secondOilOf 45 = .ok (.ireturn, 1) := by decide +kernel
theorem dX6_settleAppeal_0 : decode cX6_settleAppeal 0 = .ok (.aload_n 0, 1) := by decide +kernel
theorem dX6_settleAppeal_1 : decode cX6_settleAppeal 1 = .ok (.getfield 12, 3) := by decide +kernel
theorem dX6_settleAppeal_4 : decode cX6_settleAppeal 4 = .ok (.getfield 133, 3) := by decide +kernel
theorem dX6_settleAppeal_7 : decode cX6_settleAppeal 7 = .ok (.iconst 4, 1) := by decide +kernel
theorem dX6_settleAppeal_8 : decode cX6_settleAppeal 8 = .ok (.invokevirtual 51, 3) := by decide +kernel
theorem dX6_settleAppeal_11 : decode cX6_settleAppeal 11 = .ok (.istore_n 3, 1) := by decide +kernel
theorem dX6_settleAppeal_12 : decode cX6_settleAppeal 12 = .ok (.aload_n 0, 1) := by decide +kernel
theorem dX6_settleAppeal_13 : decode cX6_settleAppeal 13 = .ok (.getfield 12, 3) := by decide +kernel
theorem dX6_settleAppeal_16 : decode cX6_settleAppeal 16 = .ok (.getfield 200, 3) := by decide +kernel
theorem dX6_settleAppeal_19 : decode cX6_settleAppeal 19 = .ok (.iload_n 1, 1) := by decide +kernel
theorem dX6_settleAppeal_20 : decode cX6_settleAppeal 20 = .ok (.iconst 2, 1) := by decide +kernel
theorem dX6_settleAppeal_21 : decode cX6_settleAppeal 21 = .ok (.iconst 1, 1) := by decide +kernel
theorem dX6_settleAppeal_22 : decode cX6_settleAppeal 22 = .ok (.invokevirtual 185, 3) := by decide +kernel
theorem dX6_settleAppeal_25 : decode cX6_settleAppeal 25 = .ok (.aload_n 0, 1) := by decide +kernel
theorem dX6_settleAppeal_26 : decode cX6_settleAppeal 26 = .ok (.getfield 12, 3) := by decide +kernel
theorem dX6_settleAppeal_29 : decode cX6_settleAppeal 29 = .ok (.getfield 200, 3) := by decide +kernel
theorem dX6_settleAppeal_32 : decode cX6_settleAppeal 32 = .ok (.iload_n 1, 1) := by decide +kernel
theorem dX6_settleAppeal_33 : decode cX6_settleAppeal 33 = .ok (.iconst 0, 1) := by decide +kernel
theorem dX6_settleAppeal_34 : decode cX6_settleAppeal 34 = .ok (.iload_n 2, 1) := by decide +kernel
theorem dX6_settleAppeal_35 : decode cX6_settleAppeal 35 = .ok (.invokevirtual 185, 3) := by decide +kernel
theorem dX6_settleAppeal_38 : decode cX6_settleAppeal 38 = .ok (.iload_n 2, 1) := by decide +kernel
theorem dX6_settleAppeal_39 : decode cX6_settleAppeal 39 = .ok (.iload_n 3, 1) := by decide +kernel
theorem dX6_settleAppeal_40 : decode cX6_settleAppeal 40 = .ok (.if_icmp .ge 46, 3) := by decide +kernel
theorem dX6_settleAppeal_43 : decode cX6_settleAppeal 43 = .ok (.aload_n 0, 1) := by decide +kernel
theorem dX6_settleAppeal_44 : decode cX6_settleAppeal 44 = .ok (.getfield 12, 3) := by decide +kernel
theorem dX6_settleAppeal_47 : decode cX6_settleAppeal 47 = .ok (.getfield 200, 3) := by decide +kernel
theorem dX6_settleAppeal_50 : decode cX6_settleAppeal 50 = .ok (.iload_n 1, 1) := by decide +kernel
theorem dX6_settleAppeal_51 : decode cX6_settleAppeal 51 = .ok (.iconst 3, 1) := by decide +kernel
theorem dX6_settleAppeal_52 : decode cX6_settleAppeal 52 = .ok (.iconst 1, 1) := by decide +kernel
theorem dX6_settleAppeal_53 : decode cX6_settleAppeal 53 = .ok (.invokevirtual 185, 3) := by decide +kernel
theorem dX6_settleAppeal_56 : decode cX6_settleAppeal 56 = .ok (.aload_n 0, 1) := by decide +kernel
theorem dX6_settleAppeal_57 : decode cX6_settleAppeal 57 = .ok (.getfield 12, 3) := by decide +kernel
theorem dX6_settleAppeal_60 : decode cX6_settleAppeal 60 = .ok (.getfield 200, 3) := by decide +kernel
theorem dX6_settleAppeal_63 : decode cX6_settleAppeal 63 = .ok (.iload_n 1, 1) := by decide +kernel
theorem dX6_settleAppeal_64 : decode cX6_settleAppeal 64 = .ok (.iconst 0, 1) := by decide +kernel
theorem dX6_settleAppeal_65 : decode cX6_settleAppeal 65 = .ok (.iconst 0, 1) := by decide +kernel
theorem dX6_settleAppeal_66 : decode cX6_settleAppeal 66 = .ok (.aload_n 0, 1) := by decide +kernel
theorem dX6_settleAppeal_67 : decode cX6_settleAppeal 67 = .ok (.getfield 12, 3) := by decide +kernel
theorem dX6_settleAppeal_70 : decode cX6_settleAppeal 70 = .ok (.getfield 200, 3) := by decide +kernel
theorem dX6_settleAppeal_73 : decode cX6_settleAppeal 73 = .ok (.iload_n 1, 1) := by decide +kernel
theorem dX6_settleAppeal_74 : decode cX6_settleAppeal 74 = .ok (.iconst 0, 1) := by decide +kernel
theorem dX6_settleAppeal_75 : decode cX6_settleAppeal 75 = .ok (.invokevirtual 116, 3) := by decide +kernel
theorem dX6_settleAppeal_78 : decode cX6_settleAppeal 78 = .ok (.iload_n 3, 1) := by decide +kernel
theorem dX6_settleAppeal_79 : decode cX6_settleAppeal 79 = .ok (.isub, 1) := by decide +kernel
theorem dX6_settleAppeal_80 : decode cX6_settleAppeal 80 = .ok (.invokestatic 409, 3) := by decide +kernel
theorem dX6_settleAppeal_83 : decode cX6_settleAppeal 83 = .ok (.invokevirtual 102, 3) := by decide +kernel
theorem dX6_settleAppeal_86 : decode cX6_settleAppeal 86 = .ok (.return_, 1) := by decide +kernel
theorem dX6_sumOfGrowers_0 : decode cX6_sumOfGrowers 0 = .ok (.iconst 0, 1) := by decide +kernel
theorem dX6_sumOfGrowers_1 : decode cX6_sumOfGrowers 1 = .ok (.istore_n 2, 1) := by decide +kernel
theorem dX6_sumOfGrowers_2 : decode cX6_sumOfGrowers 2 = .ok (.iconst 0, 1) := by decide +kernel
theorem dX6_sumOfGrowers_3 : decode cX6_sumOfGrowers 3 = .ok (.istore_n 3, 1) := by decide +kernel
theorem dX6_sumOfGrowers_4 : decode cX6_sumOfGrowers 4 = .ok (.iload_n 3, 1) := by decide +kernel
theorem dX6_sumOfGrowers_5 : decode cX6_sumOfGrowers 5 = .ok (.bipush 8, 2) := by decide +kernel
theorem dX6_sumOfGrowers_7 : decode cX6_sumOfGrowers 7 = .ok (.if_icmp .ge 24, 3) := by decide +kernel
theorem dX6_sumOfGrowers_10 : decode cX6_sumOfGrowers 10 = .ok (.iload_n 2, 1) := by decide +kernel
theorem dX6_sumOfGrowers_11 : decode cX6_sumOfGrowers 11 = .ok (.aload_n 0, 1) := by decide +kernel
theorem dX6_sumOfGrowers_12 : decode cX6_sumOfGrowers 12 = .ok (.getfield 12, 3) := by decide +kernel
theorem dX6_sumOfGrowers_15 : decode cX6_sumOfGrowers 15 = .ok (.getfield 200, 3) := by decide +kernel
theorem dX6_sumOfGrowers_18 : decode cX6_sumOfGrowers 18 = .ok (.iload_n 3, 1) := by decide +kernel
theorem dX6_sumOfGrowers_19 : decode cX6_sumOfGrowers 19 = .ok (.iload_n 1, 1) := by decide +kernel
theorem dX6_sumOfGrowers_20 : decode cX6_sumOfGrowers 20 = .ok (.invokevirtual 116, 3) := by decide +kernel
theorem dX6_sumOfGrowers_23 : decode cX6_sumOfGrowers 23 = .ok (.iadd, 1) := by decide +kernel
theorem dX6_sumOfGrowers_24 : decode cX6_sumOfGrowers 24 = .ok (.istore_n 2, 1) := by decide +kernel
theorem dX6_sumOfGrowers_25 : decode cX6_sumOfGrowers 25 = .ok (.iinc 3 1, 3) := by decide +kernel
theorem dX6_sumOfGrowers_28 : decode cX6_sumOfGrowers 28 = .ok (.goto (-24), 3) := by decide +kernel
theorem dX6_sumOfGrowers_31 : decode cX6_sumOfGrowers 31 = .ok (.iload_n 2, 1) := by decide +kernel
theorem dX6_sumOfGrowers_32 : decode cX6_sumOfGrowers 32 = .ok (.ireturn, 1) := by decide +kernel
theorem dJ9_max_7cf53_0 : decode cJ9_max_7cf53 0 = .ok (.iload_n 0, 1) := by decide +kernel
theorem dJ9_max_7cf53_1 : decode cJ9_max_7cf53 1 = .ok (.iload_n 1, 1) := by decide +kernel
theorem dJ9_max_7cf53_2 : decode cJ9_max_7cf53 2 = .ok (.if_icmp .lt 7, 3) := by decide +kernel
theorem dJ9_max_7cf53_5 : decode cJ9_max_7cf53 5 = .ok (.iload_n 0, 1) := by decide +kernel
theorem dJ9_max_7cf53_6 : decode cJ9_max_7cf53 6 = .ok (.goto 4, 3) := by decide +kernel
theorem dJ9_max_7cf53_9 : decode cJ9_max_7cf53 9 = .ok (.iload_n 1, 1) := by decide +kernel
theorem dJ9_max_7cf53_10 : decode cJ9_max_7cf53 10 = .ok (.ireturn, 1) := by decide +kernel
theorem dJ9_min_7cf53_0 : decode cJ9_min_7cf53 0 = .ok (.iload_n 0, 1) := by decide +kernel
theorem dJ9_min_7cf53_1 : decode cJ9_min_7cf53 1 = .ok (.iload_n 1, 1) := by decide +kernel
theorem dJ9_min_7cf53_2 : decode cJ9_min_7cf53 2 = .ok (.if_icmp .gt 7, 3) := by decide +kernel
theorem dJ9_min_7cf53_5 : decode cJ9_min_7cf53 5 = .ok (.iload_n 0, 1) := by decide +kernel
theorem dJ9_min_7cf53_6 : decode cJ9_min_7cf53 6 = .ok (.goto 4, 3) := by decide +kernel
theorem dJ9_min_7cf53_9 : decode cJ9_min_7cf53 9 = .ok (.iload_n 1, 1) := by decide +kernel
theorem dJ9_min_7cf53_10 : decode cJ9_min_7cf53 10 = .ok (.ireturn, 1) := by decide +kernel
theorem dL_cell_0 : decode cL_cell 0 = .ok (.iload_n 1, 1) := by decide +kernel
theorem dL_cell_1 : decode cL_cell 1 = .ok (.aload_n 0, 1) := by decide +kernel
theorem dL_cell_2 : decode cL_cell 2 = .ok (.arraylength, 1) := by decide +kernel
theorem dL_cell_3 : decode cL_cell 3 = .ok (.if_icmp .ge 9, 3) := by decide +kernel
theorem dL_cell_6 : decode cL_cell 6 = .ok (.aload_n 0, 1) := by decide +kernel
theorem dL_cell_7 : decode cL_cell 7 = .ok (.iload_n 1, 1) := by decide +kernel
theorem dL_cell_8 : decode cL_cell 8 = .ok (.iaload, 1) := by decide +kernel
theorem dL_cell_9 : decode cL_cell 9 = .ok (.goto 10, 3) := by decide +kernel
theorem dL_cell_12 : decode cL_cell 12 = .ok (.ldc 7, 2) := by decide +kernel
theorem dL_cell_14 : decode cL_cell 14 = .ok (.iload_n 1, 1) := by decide +kernel
theorem dL_cell_15 : decode cL_cell 15 = .ok (.bipush 103, 2) := by decide +kernel
theorem dL_cell_17 : decode cL_cell 17 = .ok (.iadd, 1) := by decide +kernel
theorem dL_cell_18 : decode cL_cell 18 = .ok (.imul, 1) := by decide +kernel
theorem dL_cell_19 : decode cL_cell 19 = .ok (.ireturn, 1) := by decide +kernel
theorem dL_at_0 : decode cL_at 0 = .ok (.iload_n 0, 1) := by decide +kernel
theorem dL_at_1 : decode cL_at 1 = .ok (.iconst 1, 1) := by decide +kernel
theorem dL_at_2 : decode cL_at 2 = .ok (.iushr, 1) := by decide +kernel
theorem dL_at_3 : decode cL_at 3 = .ok (.iload_n 1, 1) := by decide +kernel
theorem dL_at_4 : decode cL_at 4 = .ok (.irem, 1) := by decide +kernel
theorem dL_at_5 : decode cL_at 5 = .ok (.ireturn, 1) := by decide +kernel
theorem dL_oil_0 : decode cL_oil 0 = .ok (.iconst 0, 1) := by decide +kernel
theorem dL_oil_1 : decode cL_oil 1 = .ok (.istore_n 2, 1) := by decide +kernel
theorem dL_oil_2 : decode cL_oil 2 = .ok (.iconst 0, 1) := by decide +kernel
theorem dL_oil_3 : decode cL_oil 3 = .ok (.istore_n 3, 1) := by decide +kernel
theorem dL_oil_4 : decode cL_oil 4 = .ok (.iload_n 3, 1) := by decide +kernel
theorem dL_oil_5 : decode cL_oil 5 = .ok (.iconst 5, 1) := by decide +kernel
theorem dL_oil_6 : decode cL_oil 6 = .ok (.if_icmp .ge 22, 3) := by decide +kernel
theorem dL_oil_9 : decode cL_oil 9 = .ok (.iload_n 2, 1) := by decide +kernel
theorem dL_oil_10 : decode cL_oil 10 = .ok (.aload_n 0, 1) := by decide +kernel
theorem dL_oil_11 : decode cL_oil 11 = .ok (.bipush 7, 2) := by decide +kernel
theorem dL_oil_13 : decode cL_oil 13 = .ok (.iload_n 1, 1) := by decide +kernel
theorem dL_oil_14 : decode cL_oil 14 = .ok (.imul, 1) := by decide +kernel
theorem dL_oil_15 : decode cL_oil 15 = .ok (.iconst 2, 1) := by decide +kernel
theorem dL_oil_16 : decode cL_oil 16 = .ok (.iadd, 1) := by decide +kernel
theorem dL_oil_17 : decode cL_oil 17 = .ok (.iload_n 3, 1) := by decide +kernel
theorem dL_oil_18 : decode cL_oil 18 = .ok (.iadd, 1) := by decide +kernel
theorem dL_oil_19 : decode cL_oil 19 = .ok (.iaload, 1) := by decide +kernel
theorem dL_oil_20 : decode cL_oil 20 = .ok (.iadd, 1) := by decide +kernel
theorem dL_oil_21 : decode cL_oil 21 = .ok (.istore_n 2, 1) := by decide +kernel
theorem dL_oil_22 : decode cL_oil 22 = .ok (.iinc 3 1, 3) := by decide +kernel
theorem dL_oil_25 : decode cL_oil 25 = .ok (.goto (-21), 3) := by decide +kernel
theorem dL_oil_28 : decode cL_oil 28 = .ok (.iload_n 2, 1) := by decide +kernel
theorem dL_oil_29 : decode cL_oil 29 = .ok (.ireturn, 1) := by decide +kernel
theorem dL_grade_0 : decode cL_grade 0 = .ok (.iload_n 0, 1) := by decide +kernel
theorem dL_grade_1 : decode cL_grade 1 = .ok (.bipush 20, 2) := by decide +kernel
theorem dL_grade_3 : decode cL_grade 3 = .ok (.if_icmp .le 7, 3) := by decide +kernel
theorem dL_grade_6 : decode cL_grade 6 = .ok (.iconst 2, 1) := by decide +kernel
theorem dL_grade_7 : decode cL_grade 7 = .ok (.goto 14, 3) := by decide +kernel
theorem dL_grade_10 : decode cL_grade 10 = .ok (.iload_n 0, 1) := by decide +kernel
theorem dL_grade_11 : decode cL_grade 11 = .ok (.bipush 8, 2) := by decide +kernel
theorem dL_grade_13 : decode cL_grade 13 = .ok (.if_icmp .le 7, 3) := by decide +kernel
theorem dL_grade_16 : decode cL_grade 16 = .ok (.iconst 1, 1) := by decide +kernel
theorem dL_grade_17 : decode cL_grade 17 = .ok (.goto 4, 3) := by decide +kernel
theorem dL_grade_20 : decode cL_grade 20 = .ok (.iconst 0, 1) := by decide +kernel
theorem dL_grade_21 : decode cL_grade 21 = .ok (.ireturn, 1) := by decide +kernel
theorem dL_pour_0 : decode cL_pour 0 = .ok (.iload_n 3, 1) := by decide +kernel
theorem dL_pour_1 : decode cL_pour 1 = .ok (.ifCond .ne 4, 3) := by decide +kernel
theorem dL_pour_4 : decode cL_pour 4 = .ok (.return_, 1) := by decide +kernel
theorem dL_pour_5 : decode cL_pour 5 = .ok (.aload_n 0, 1) := by decide +kernel
theorem dL_pour_6 : decode cL_pour 6 = .ok (.iload_n 1, 1) := by decide +kernel
theorem dL_pour_7 : decode cL_pour 7 = .ok (.invokestatic 8, 3) := by decide +kernel
theorem dL_pour_10 : decode cL_pour 10 = .ok (.ifCond .eq 16, 3) := by decide +kernel
theorem dL_pour_13 : decode cL_pour 13 = .ok (.aload_n 0, 1) := by decide +kernel
theorem dL_pour_14 : decode cL_pour 14 = .ok (.bipush 7, 2) := by decide +kernel
theorem dL_pour_16 : decode cL_pour 16 = .ok (.iload_n 1, 1) := by decide +kernel
theorem dL_pour_17 : decode cL_pour 17 = .ok (.imul, 1) := by decide +kernel
theorem dL_pour_18 : decode cL_pour 18 = .ok (.iconst 1, 1) := by decide +kernel
theorem dL_pour_19 : decode cL_pour 19 = .ok (.iadd, 1) := by decide +kernel
theorem dL_pour_20 : decode cL_pour 20 = .ok (.iaload, 1) := by decide +kernel
theorem dL_pour_21 : decode cL_pour 21 = .ok (.iload 4, 2) := by decide +kernel
theorem dL_pour_23 : decode cL_pour 23 = .ok (.if_icmp .ge 13, 3) := by decide +kernel
theorem dL_pour_26 : decode cL_pour 26 = .ok (.aload_n 0, 1) := by decide +kernel
theorem dL_pour_27 : decode cL_pour 27 = .ok (.bipush 7, 2) := by decide +kernel
theorem dL_pour_29 : decode cL_pour 29 = .ok (.iload_n 1, 1) := by decide +kernel
theorem dL_pour_30 : decode cL_pour 30 = .ok (.imul, 1) := by decide +kernel
theorem dL_pour_31 : decode cL_pour 31 = .ok (.iconst 1, 1) := by decide +kernel
theorem dL_pour_32 : decode cL_pour 32 = .ok (.iadd, 1) := by decide +kernel
theorem dL_pour_33 : decode cL_pour 33 = .ok (.iload 4, 2) := by decide +kernel
theorem dL_pour_35 : decode cL_pour 35 = .ok (.iastore, 1) := by decide +kernel
theorem dL_pour_36 : decode cL_pour 36 = .ok (.aload_n 0, 1) := by decide +kernel
theorem dL_pour_37 : decode cL_pour 37 = .ok (.bipush 7, 2) := by decide +kernel
theorem dL_pour_39 : decode cL_pour 39 = .ok (.iload_n 1, 1) := by decide +kernel
theorem dL_pour_40 : decode cL_pour 40 = .ok (.imul, 1) := by decide +kernel
theorem dL_pour_41 : decode cL_pour 41 = .ok (.iconst 2, 1) := by decide +kernel
theorem dL_pour_42 : decode cL_pour 42 = .ok (.iadd, 1) := by decide +kernel
theorem dL_pour_43 : decode cL_pour 43 = .ok (.iload_n 2, 1) := by decide +kernel
theorem dL_pour_44 : decode cL_pour 44 = .ok (.iadd, 1) := by decide +kernel
theorem dL_pour_45 : decode cL_pour 45 = .ok (.dup2, 1) := by decide +kernel
theorem dL_pour_46 : decode cL_pour 46 = .ok (.iaload, 1) := by decide +kernel
theorem dL_pour_47 : decode cL_pour 47 = .ok (.iload_n 3, 1) := by decide +kernel
theorem dL_pour_48 : decode cL_pour 48 = .ok (.iadd, 1) := by decide +kernel
theorem dL_pour_49 : decode cL_pour 49 = .ok (.iastore, 1) := by decide +kernel
theorem dL_pour_50 : decode cL_pour 50 = .ok (.return_, 1) := by decide +kernel
theorem dL_shares_0 : decode cL_shares 0 = .ok (.aload_n 0, 1) := by decide +kernel
theorem dL_shares_1 : decode cL_shares 1 = .ok (.iload_n 1, 1) := by decide +kernel
theorem dL_shares_2 : decode cL_shares 2 = .ok (.invokestatic 8, 3) := by decide +kernel
theorem dL_shares_5 : decode cL_shares 5 = .ok (.istore 4, 2) := by decide +kernel
theorem dL_shares_7 : decode cL_shares 7 = .ok (.iload_n 2, 1) := by decide +kernel
theorem dL_shares_8 : decode cL_shares 8 = .ok (.istore 5, 2) := by decide +kernel
theorem dL_shares_10 : decode cL_shares 10 = .ok (.iconst 0, 1) := by decide +kernel
theorem dL_shares_11 : decode cL_shares 11 = .ok (.istore 6, 2) := by decide +kernel
theorem dL_shares_13 : decode cL_shares 13 = .ok (.iload 6, 2) := by decide +kernel
theorem dL_shares_15 : decode cL_shares 15 = .ok (.iconst 5, 1) := by decide +kernel
theorem dL_shares_16 : decode cL_shares 16 = .ok (.if_icmp .ge 38, 3) := by decide +kernel
theorem dL_shares_19 : decode cL_shares 19 = .ok (.aload_n 3, 1) := by decide +kernel
theorem dL_shares_20 : decode cL_shares 20 = .ok (.iload 6, 2) := by decide +kernel
theorem dL_shares_22 : decode cL_shares 22 = .ok (.aload_n 0, 1) := by decide +kernel
theorem dL_shares_23 : decode cL_shares 23 = .ok (.bipush 7, 2) := by decide +kernel
theorem dL_shares_25 : decode cL_shares 25 = .ok (.iload_n 1, 1) := by decide +kernel
theorem dL_shares_26 : decode cL_shares 26 = .ok (.imul, 1) := by decide +kernel
theorem dL_shares_27 : decode cL_shares 27 = .ok (.iconst 2, 1) := by decide +kernel
theorem dL_shares_28 : decode cL_shares 28 = .ok (.iadd, 1) := by decide +kernel
theorem dL_shares_29 : decode cL_shares 29 = .ok (.iload 6, 2) := by decide +kernel
theorem dL_shares_31 : decode cL_shares 31 = .ok (.iadd, 1) := by decide +kernel
theorem dL_shares_32 : decode cL_shares 32 = .ok (.iaload, 1) := by decide +kernel
theorem dL_shares_33 : decode cL_shares 33 = .ok (.iload_n 2, 1) := by decide +kernel
theorem dL_shares_34 : decode cL_shares 34 = .ok (.imul, 1) := by decide +kernel
theorem dL_shares_35 : decode cL_shares 35 = .ok (.iload 4, 2) := by decide +kernel
theorem dL_shares_37 : decode cL_shares 37 = .ok (.idiv, 1) := by decide +kernel
theorem dL_shares_38 : decode cL_shares 38 = .ok (.iastore, 1) := by decide +kernel
theorem dL_shares_39 : decode cL_shares 39 = .ok (.iload 5, 2) := by decide +kernel
theorem dL_shares_41 : decode cL_shares 41 = .ok (.aload_n 3, 1) := by decide +kernel
theorem dL_shares_42 : decode cL_shares 42 = .ok (.iload 6, 2) := by decide +kernel
theorem dL_shares_44 : decode cL_shares 44 = .ok (.iaload, 1) := by decide +kernel
theorem dL_shares_45 : decode cL_shares 45 = .ok (.isub, 1) := by decide +kernel
theorem dL_shares_46 : decode cL_shares 46 = .ok (.istore 5, 2) := by decide +kernel
theorem dL_shares_48 : decode cL_shares 48 = .ok (.iinc 6 1, 3) := by decide +kernel
theorem dL_shares_51 : decode cL_shares 51 = .ok (.goto (-38), 3) := by decide +kernel
theorem dL_shares_54 : decode cL_shares 54 = .ok (.iconst 0, 1) := by decide +kernel
theorem dL_shares_55 : decode cL_shares 55 = .ok (.istore 6, 2) := by decide +kernel
theorem dL_shares_57 : decode cL_shares 57 = .ok (.iload 5, 2) := by decide +kernel
theorem dL_shares_59 : decode cL_shares 59 = .ok (.ifCond .le 97, 3) := by decide +kernel
theorem dL_shares_62 : decode cL_shares 62 = .ok (.iconst (-1), 1) := by decide +kernel
theorem dL_shares_63 : decode cL_shares 63 = .ok (.istore 7, 2) := by decide +kernel
theorem dL_shares_65 : decode cL_shares 65 = .ok (.iconst 4, 1) := by decide +kernel
theorem dL_shares_66 : decode cL_shares 66 = .ok (.istore 8, 2) := by decide +kernel
theorem dL_shares_68 : decode cL_shares 68 = .ok (.iload 8, 2) := by decide +kernel
theorem dL_shares_70 : decode cL_shares 70 = .ok (.ifCond .lt 63, 3) := by decide +kernel
theorem dL_shares_73 : decode cL_shares 73 = .ok (.iload 6, 2) := by decide +kernel
theorem dL_shares_75 : decode cL_shares 75 = .ok (.iload 8, 2) := by decide +kernel
theorem dL_shares_77 : decode cL_shares 77 = .ok (.ishr, 1) := by decide +kernel
theorem dL_shares_78 : decode cL_shares 78 = .ok (.iconst 1, 1) := by decide +kernel
theorem dL_shares_79 : decode cL_shares 79 = .ok (.iand, 1) := by decide +kernel
theorem dL_shares_80 : decode cL_shares 80 = .ok (.ifCond .ne 47, 3) := by decide +kernel
theorem dL_shares_83 : decode cL_shares 83 = .ok (.iload 7, 2) := by decide +kernel
theorem dL_shares_85 : decode cL_shares 85 = .ok (.ifCond .lt 38, 3) := by decide +kernel
theorem dL_shares_88 : decode cL_shares 88 = .ok (.aload_n 0, 1) := by decide +kernel
theorem dL_shares_89 : decode cL_shares 89 = .ok (.bipush 7, 2) := by decide +kernel
theorem dL_shares_91 : decode cL_shares 91 = .ok (.iload_n 1, 1) := by decide +kernel
theorem dL_shares_92 : decode cL_shares 92 = .ok (.imul, 1) := by decide +kernel
theorem dL_shares_93 : decode cL_shares 93 = .ok (.iconst 2, 1) := by decide +kernel
theorem dL_shares_94 : decode cL_shares 94 = .ok (.iadd, 1) := by decide +kernel
theorem dL_shares_95 : decode cL_shares 95 = .ok (.iload 8, 2) := by decide +kernel
theorem dL_shares_97 : decode cL_shares 97 = .ok (.iadd, 1) := by decide +kernel
theorem dL_shares_98 : decode cL_shares 98 = .ok (.iaload, 1) := by decide +kernel
theorem dL_shares_99 : decode cL_shares 99 = .ok (.iload_n 2, 1) := by decide +kernel
theorem dL_shares_100 : decode cL_shares 100 = .ok (.imul, 1) := by decide +kernel
theorem dL_shares_101 : decode cL_shares 101 = .ok (.iload 4, 2) := by decide +kernel
theorem dL_shares_103 : decode cL_shares 103 = .ok (.irem, 1) := by decide +kernel
theorem dL_shares_104 : decode cL_shares 104 = .ok (.aload_n 0, 1) := by decide +kernel
theorem dL_shares_105 : decode cL_shares 105 = .ok (.bipush 7, 2) := by decide +kernel
theorem dL_shares_107 : decode cL_shares 107 = .ok (.iload_n 1, 1) := by decide +kernel
theorem dL_shares_108 : decode cL_shares 108 = .ok (.imul, 1) := by decide +kernel
theorem dL_shares_109 : decode cL_shares 109 = .ok (.iconst 2, 1) := by decide +kernel
theorem dL_shares_110 : decode cL_shares 110 = .ok (.iadd, 1) := by decide +kernel
theorem dL_shares_111 : decode cL_shares 111 = .ok (.iload 7, 2) := by decide +kernel
theorem dL_shares_113 : decode cL_shares 113 = .ok (.iadd, 1) := by decide +kernel
theorem dL_shares_114 : decode cL_shares 114 = .ok (.iaload, 1) := by decide +kernel
theorem dL_shares_115 : decode cL_shares 115 = .ok (.iload_n 2, 1) := by decide +kernel
theorem dL_shares_116 : decode cL_shares 116 = .ok (.imul, 1) := by decide +kernel
theorem dL_shares_117 : decode cL_shares 117 = .ok (.iload 4, 2) := by decide +kernel
theorem dL_shares_119 : decode cL_shares 119 = .ok (.irem, 1) := by decide +kernel
theorem dL_shares_120 : decode cL_shares 120 = .ok (.if_icmp .lt 7, 3) := by decide +kernel
theorem dL_shares_123 : decode cL_shares 123 = .ok (.iload 8, 2) := by decide +kernel
theorem dL_shares_125 : decode cL_shares 125 = .ok (.istore 7, 2) := by decide +kernel
theorem dL_shares_127 : decode cL_shares 127 = .ok (.iinc 8 (-1), 3) := by decide +kernel
theorem dL_shares_130 : decode cL_shares 130 = .ok (.goto (-62), 3) := by decide +kernel
theorem dL_shares_133 : decode cL_shares 133 = .ok (.iload 6, 2) := by decide +kernel
theorem dL_shares_135 : decode cL_shares 135 = .ok (.iconst 1, 1) := by decide +kernel
theorem dL_shares_136 : decode cL_shares 136 = .ok (.iload 7, 2) := by decide +kernel
theorem dL_shares_138 : decode cL_shares 138 = .ok (.ishl, 1) := by decide +kernel
theorem dL_shares_139 : decode cL_shares 139 = .ok (.ior, 1) := by decide +kernel
theorem dL_shares_140 : decode cL_shares 140 = .ok (.istore 6, 2) := by decide +kernel
theorem dL_shares_142 : decode cL_shares 142 = .ok (.aload_n 3, 1) := by decide +kernel
theorem dL_shares_143 : decode cL_shares 143 = .ok (.iload 7, 2) := by decide +kernel
theorem dL_shares_145 : decode cL_shares 145 = .ok (.dup2, 1) := by decide +kernel
theorem dL_shares_146 : decode cL_shares 146 = .ok (.iaload, 1) := by decide +kernel
theorem dL_shares_147 : decode cL_shares 147 = .ok (.iconst 1, 1) := by decide +kernel
theorem dL_shares_148 : decode cL_shares 148 = .ok (.iadd, 1) := by decide +kernel
theorem dL_shares_149 : decode cL_shares 149 = .ok (.iastore, 1) := by decide +kernel
theorem dL_shares_150 : decode cL_shares 150 = .ok (.iinc 5 (-1), 3) := by decide +kernel
theorem dL_shares_153 : decode cL_shares 153 = .ok (.goto (-96), 3) := by decide +kernel
theorem dL_shares_156 : decode cL_shares 156 = .ok (.return_, 1) := by decide +kernel
theorem dL_next_0 : decode cL_next 0 = .ok (.aload_n 0, 1) := by decide +kernel
theorem dL_next_1 : decode cL_next 1 = .ok (.bipush 13, 2) := by decide +kernel
theorem dL_next_3 : decode cL_next 3 = .ok (.iaload, 1) := by decide +kernel
theorem dL_next_4 : decode cL_next 4 = .ok (.iconst 1, 1) := by decide +kernel
theorem dL_next_5 : decode cL_next 5 = .ok (.if_icmp .ne 51, 3) := by decide +kernel
theorem dL_next_8 : decode cL_next 8 = .ok (.aload_n 0, 1) := by decide +kernel
theorem dL_next_9 : decode cL_next 9 = .ok (.iconst 3, 1) := by decide +kernel
theorem dL_next_10 : decode cL_next 10 = .ok (.iaload, 1) := by decide +kernel
theorem dL_next_11 : decode cL_next 11 = .ok (.ifCond .lt 45, 3) := by decide +kernel
theorem dL_next_14 : decode cL_next 14 = .ok (.iconst 0, 1) := by decide +kernel
theorem dL_next_15 : decode cL_next 15 = .ok (.istore_n 2, 1) := by decide +kernel
theorem dL_next_16 : decode cL_next 16 = .ok (.iload_n 2, 1) := by decide +kernel
theorem dL_next_17 : decode cL_next 17 = .ok (.aload_n 0, 1) := by decide +kernel
theorem dL_next_18 : decode cL_next 18 = .ok (.iconst 1, 1) := by decide +kernel
theorem dL_next_19 : decode cL_next 19 = .ok (.iaload, 1) := by decide +kernel
theorem dL_next_20 : decode cL_next 20 = .ok (.if_icmp .ge 36, 3) := by decide +kernel
theorem dL_next_23 : decode cL_next 23 = .ok (.aload_n 1, 1) := by decide +kernel
theorem dL_next_24 : decode cL_next 24 = .ok (.bipush 6, 2) := by decide +kernel
theorem dL_next_26 : decode cL_next 26 = .ok (.iload_n 2, 1) := by decide +kernel
theorem dL_next_27 : decode cL_next 27 = .ok (.imul, 1) := by decide +kernel
theorem dL_next_28 : decode cL_next 28 = .ok (.iconst 5, 1) := by decide +kernel
theorem dL_next_29 : decode cL_next 29 = .ok (.iadd, 1) := by decide +kernel
theorem dL_next_30 : decode cL_next 30 = .ok (.iaload, 1) := by decide +kernel
theorem dL_next_31 : decode cL_next 31 = .ok (.ifCond .ne 19, 3) := by decide +kernel
theorem dL_next_34 : decode cL_next 34 = .ok (.aload_n 1, 1) := by decide +kernel
theorem dL_next_35 : decode cL_next 35 = .ok (.bipush 6, 2) := by decide +kernel
theorem dL_next_37 : decode cL_next 37 = .ok (.iload_n 2, 1) := by decide +kernel
theorem dL_next_38 : decode cL_next 38 = .ok (.imul, 1) := by decide +kernel
theorem dL_next_39 : decode cL_next 39 = .ok (.iconst 1, 1) := by decide +kernel
theorem dL_next_40 : decode cL_next 40 = .ok (.iadd, 1) := by decide +kernel
theorem dL_next_41 : decode cL_next 41 = .ok (.iaload, 1) := by decide +kernel
theorem dL_next_42 : decode cL_next 42 = .ok (.aload_n 0, 1) := by decide +kernel
theorem dL_next_43 : decode cL_next 43 = .ok (.iconst 3, 1) := by decide +kernel
theorem dL_next_44 : decode cL_next 44 = .ok (.iaload, 1) := by decide +kernel
theorem dL_next_45 : decode cL_next 45 = .ok (.if_icmp .ne 5, 3) := by decide +kernel
theorem dL_next_48 : decode cL_next 48 = .ok (.iload_n 2, 1) := by decide +kernel
theorem dL_next_49 : decode cL_next 49 = .ok (.ireturn, 1) := by decide +kernel
theorem dL_next_50 : decode cL_next 50 = .ok (.iinc 2 1, 3) := by decide +kernel
theorem dL_next_53 : decode cL_next 53 = .ok (.goto (-37), 3) := by decide +kernel
theorem dL_next_56 : decode cL_next 56 = .ok (.iconst 0, 1) := by decide +kernel
theorem dL_next_57 : decode cL_next 57 = .ok (.istore_n 2, 1) := by decide +kernel
theorem dL_next_58 : decode cL_next 58 = .ok (.iload_n 2, 1) := by decide +kernel
theorem dL_next_59 : decode cL_next 59 = .ok (.aload_n 0, 1) := by decide +kernel
theorem dL_next_60 : decode cL_next 60 = .ok (.iconst 1, 1) := by decide +kernel
theorem dL_next_61 : decode cL_next 61 = .ok (.iaload, 1) := by decide +kernel
theorem dL_next_62 : decode cL_next 62 = .ok (.if_icmp .ge 22, 3) := by decide +kernel
theorem dL_next_65 : decode cL_next 65 = .ok (.aload_n 1, 1) := by decide +kernel
theorem dL_next_66 : decode cL_next 66 = .ok (.bipush 6, 2) := by decide +kernel
theorem dL_next_68 : decode cL_next 68 = .ok (.iload_n 2, 1) := by decide +kernel
theorem dL_next_69 : decode cL_next 69 = .ok (.imul, 1) := by decide +kernel
theorem dL_next_70 : decode cL_next 70 = .ok (.iconst 5, 1) := by decide +kernel
theorem dL_next_71 : decode cL_next 71 = .ok (.iadd, 1) := by decide +kernel
theorem dL_next_72 : decode cL_next 72 = .ok (.iaload, 1) := by decide +kernel
theorem dL_next_73 : decode cL_next 73 = .ok (.ifCond .ne 5, 3) := by decide +kernel
theorem dL_next_76 : decode cL_next 76 = .ok (.iload_n 2, 1) := by decide +kernel
theorem dL_next_77 : decode cL_next 77 = .ok (.ireturn, 1) := by decide +kernel
theorem dL_next_78 : decode cL_next 78 = .ok (.iinc 2 1, 3) := by decide +kernel
theorem dL_next_81 : decode cL_next 81 = .ok (.goto (-23), 3) := by decide +kernel
theorem dL_next_84 : decode cL_next 84 = .ok (.iconst (-1), 1) := by decide +kernel
theorem dL_next_85 : decode cL_next 85 = .ok (.ireturn, 1) := by decide +kernel
theorem dL_presses_0 : decode cL_presses 0 = .ok (.iload_n 1, 1) := by decide +kernel
theorem dL_presses_1 : decode cL_presses 1 = .ok (.aload_n 3, 1) := by decide +kernel
theorem dL_presses_2 : decode cL_presses 2 = .ok (.iconst 2, 1) := by decide +kernel
theorem dL_presses_3 : decode cL_presses 3 = .ok (.iaload, 1) := by decide +kernel
theorem dL_presses_4 : decode cL_presses 4 = .ok (.invokestatic 14, 3) := by decide +kernel
theorem dL_presses_7 : decode cL_presses 7 = .ok (.istore 11, 2) := by decide +kernel
theorem dL_presses_9 : decode cL_presses 9 = .ok (.iload_n 1, 1) := by decide +kernel
theorem dL_presses_10 : decode cL_presses 10 = .ok (.iconst 3, 1) := by decide +kernel
theorem dL_presses_11 : decode cL_presses 11 = .ok (.ishr, 1) := by decide +kernel
theorem dL_presses_12 : decode cL_presses 12 = .ok (.iconst 2, 1) := by decide +kernel
theorem dL_presses_13 : decode cL_presses 13 = .ok (.invokestatic 14, 3) := by decide +kernel
theorem dL_presses_16 : decode cL_presses 16 = .ok (.ifCond .ne 7, 3) := by decide +kernel
theorem dL_presses_19 : decode cL_presses 19 = .ok (.iconst 1, 1) := by decide +kernel
theorem dL_presses_20 : decode cL_presses 20 = .ok (.goto 4, 3) := by decide +kernel
theorem dL_presses_23 : decode cL_presses 23 = .ok (.iconst 0, 1) := by decide +kernel
theorem dL_presses_24 : decode cL_presses 24 = .ok (.istore 12, 2) := by decide +kernel
theorem dL_presses_26 : decode cL_presses 26 = .ok (.aload_n 3, 1) := by decide +kernel
theorem dL_presses_27 : decode cL_presses 27 = .ok (.aload 5, 2) := by decide +kernel
theorem dL_presses_29 : decode cL_presses 29 = .ok (.invokestatic 18, 3) := by decide +kernel
theorem dL_presses_32 : decode cL_presses 32 = .ok (.istore 13, 2) := by decide +kernel
theorem dL_presses_34 : decode cL_presses 34 = .ok (.iload 13, 2) := by decide +kernel
theorem dL_presses_36 : decode cL_presses 36 = .ok (.ifCond .ge 30, 3) := by decide +kernel
theorem dL_presses_39 : decode cL_presses 39 = .ok (.aload_n 0, 1) := by decide +kernel
theorem dL_presses_40 : decode cL_presses 40 = .ok (.iload 11, 2) := by decide +kernel
theorem dL_presses_42 : decode cL_presses 42 = .ok (.iload 12, 2) := by decide +kernel
theorem dL_presses_44 : decode cL_presses 44 = .ok (.invokevirtual 22, 3) := by decide +kernel
theorem dL_presses_47 : decode cL_presses 47 = .ok (.iconst 1, 1) := by decide +kernel
theorem dL_presses_48 : decode cL_presses 48 = .ok (.if_icmp .ne 16, 3) := by decide +kernel
theorem dL_presses_51 : decode cL_presses 51 = .ok (.aload_n 0, 1) := by decide +kernel
theorem dL_presses_52 : decode cL_presses 52 = .ok (.iconst 2, 1) := by decide +kernel
theorem dL_presses_53 : decode cL_presses 53 = .ok (.invokevirtual 28, 3) := by decide +kernel
theorem dL_presses_56 : decode cL_presses 56 = .ok (.iconst (-1), 1) := by decide +kernel
theorem dL_presses_57 : decode cL_presses 57 = .ok (.if_icmp .ne 7, 3) := by decide +kernel
theorem dL_presses_60 : decode cL_presses 60 = .ok (.iconst 1, 1) := by decide +kernel
theorem dL_presses_61 : decode cL_presses 61 = .ok (.goto 4, 3) := by decide +kernel
theorem dL_presses_64 : decode cL_presses 64 = .ok (.iconst 0, 1) := by decide +kernel
theorem dL_presses_65 : decode cL_presses 65 = .ok (.ireturn, 1) := by decide +kernel
theorem dL_presses_66 : decode cL_presses 66 = .ok (.aload 5, 2) := by decide +kernel
theorem dL_presses_68 : decode cL_presses 68 = .ok (.bipush 6, 2) := by decide +kernel
theorem dL_presses_70 : decode cL_presses 70 = .ok (.iload 13, 2) := by decide +kernel
theorem dL_presses_72 : decode cL_presses 72 = .ok (.imul, 1) := by decide +kernel
theorem dL_presses_73 : decode cL_presses 73 = .ok (.iconst 1, 1) := by decide +kernel
theorem dL_presses_74 : decode cL_presses 74 = .ok (.iadd, 1) := by decide +kernel
theorem dL_presses_75 : decode cL_presses 75 = .ok (.iaload, 1) := by decide +kernel
theorem dL_presses_76 : decode cL_presses 76 = .ok (.istore 14, 2) := by decide +kernel
theorem dL_presses_78 : decode cL_presses 78 = .ok (.aload 5, 2) := by decide +kernel
theorem dL_presses_80 : decode cL_presses 80 = .ok (.bipush 6, 2) := by decide +kernel
theorem dL_presses_82 : decode cL_presses 82 = .ok (.iload 13, 2) := by decide +kernel
theorem dL_presses_84 : decode cL_presses 84 = .ok (.imul, 1) := by decide +kernel
theorem dL_presses_85 : decode cL_presses 85 = .ok (.iconst 2, 1) := by decide +kernel
theorem dL_presses_86 : decode cL_presses 86 = .ok (.iadd, 1) := by decide +kernel
theorem dL_presses_87 : decode cL_presses 87 = .ok (.iaload, 1) := by decide +kernel
theorem dL_presses_88 : decode cL_presses 88 = .ok (.aload 4, 2) := by decide +kernel
theorem dL_presses_90 : decode cL_presses 90 = .ok (.iload 14, 2) := by decide +kernel
theorem dL_presses_92 : decode cL_presses 92 = .ok (.iaload, 1) := by decide +kernel
theorem dL_presses_93 : decode cL_presses 93 = .ok (.imul, 1) := by decide +kernel
theorem dL_presses_94 : decode cL_presses 94 = .ok (.bipush 100, 2) := by decide +kernel
theorem dL_presses_96 : decode cL_presses 96 = .ok (.idiv, 1) := by decide +kernel
theorem dL_presses_97 : decode cL_presses 97 = .ok (.istore 15, 2) := by decide +kernel
theorem dL_presses_99 : decode cL_presses 99 = .ok (.iload 15, 2) := by decide +kernel
theorem dL_presses_101 : decode cL_presses 101 = .ok (.aload 5, 2) := by decide +kernel
theorem dL_presses_103 : decode cL_presses 103 = .ok (.bipush 6, 2) := by decide +kernel
theorem dL_presses_105 : decode cL_presses 105 = .ok (.iload 13, 2) := by decide +kernel
theorem dL_presses_107 : decode cL_presses 107 = .ok (.imul, 1) := by decide +kernel
theorem dL_presses_108 : decode cL_presses 108 = .ok (.iconst 4, 1) := by decide +kernel
theorem dL_presses_109 : decode cL_presses 109 = .ok (.iadd, 1) := by decide +kernel
theorem dL_presses_110 : decode cL_presses 110 = .ok (.iaload, 1) := by decide +kernel
theorem dL_presses_111 : decode cL_presses 111 = .ok (.imul, 1) := by decide +kernel
theorem dL_presses_112 : decode cL_presses 112 = .ok (.sipush 1000, 3) := by decide +kernel
theorem dL_presses_115 : decode cL_presses 115 = .ok (.idiv, 1) := by decide +kernel
theorem dL_presses_116 : decode cL_presses 116 = .ok (.aload_n 3, 1) := by decide +kernel
theorem dL_presses_117 : decode cL_presses 117 = .ok (.bipush 9, 2) := by decide +kernel
theorem dL_presses_119 : decode cL_presses 119 = .ok (.iaload, 1) := by decide +kernel
theorem dL_presses_120 : decode cL_presses 120 = .ok (.imul, 1) := by decide +kernel
theorem dL_presses_121 : decode cL_presses 121 = .ok (.sipush 1000, 3) := by decide +kernel
theorem dL_presses_124 : decode cL_presses 124 = .ok (.idiv, 1) := by decide +kernel
theorem dL_presses_125 : decode cL_presses 125 = .ok (.istore 16, 2) := by decide +kernel
theorem dL_presses_127 : decode cL_presses 127 = .ok (.aload_n 3, 1) := by decide +kernel
theorem dL_presses_128 : decode cL_presses 128 = .ok (.iconst 3, 1) := by decide +kernel
theorem dL_presses_129 : decode cL_presses 129 = .ok (.iaload, 1) := by decide +kernel
theorem dL_presses_130 : decode cL_presses 130 = .ok (.ifCond .lt 15, 3) := by decide +kernel
theorem dL_presses_133 : decode cL_presses 133 = .ok (.aload_n 3, 1) := by decide +kernel
theorem dL_presses_134 : decode cL_presses 134 = .ok (.iconst 3, 1) := by decide +kernel
theorem dL_presses_135 : decode cL_presses 135 = .ok (.iaload, 1) := by decide +kernel
theorem dL_presses_136 : decode cL_presses 136 = .ok (.iload 14, 2) := by decide +kernel
theorem dL_presses_138 : decode cL_presses 138 = .ok (.if_icmp .eq 7, 3) := by decide +kernel
theorem dL_presses_141 : decode cL_presses 141 = .ok (.iconst 1, 1) := by decide +kernel
theorem dL_presses_142 : decode cL_presses 142 = .ok (.goto 4, 3) := by decide +kernel
theorem dL_presses_145 : decode cL_presses 145 = .ok (.iconst 0, 1) := by decide +kernel
theorem dL_presses_146 : decode cL_presses 146 = .ok (.istore 17, 2) := by decide +kernel
theorem dL_presses_148 : decode cL_presses 148 = .ok (.iload 17, 2) := by decide +kernel
theorem dL_presses_150 : decode cL_presses 150 = .ok (.ifCond .eq 17, 3) := by decide +kernel
theorem dL_presses_153 : decode cL_presses 153 = .ok (.aload_n 3, 1) := by decide +kernel
theorem dL_presses_154 : decode cL_presses 154 = .ok (.bipush 13, 2) := by decide +kernel
theorem dL_presses_156 : decode cL_presses 156 = .ok (.iaload, 1) := by decide +kernel
theorem dL_presses_157 : decode cL_presses 157 = .ok (.iconst 2, 1) := by decide +kernel
theorem dL_presses_158 : decode cL_presses 158 = .ok (.if_icmp .ne 9, 3) := by decide +kernel
theorem dL_presses_161 : decode cL_presses 161 = .ok (.aload_n 3, 1) := by decide +kernel
theorem dL_presses_162 : decode cL_presses 162 = .ok (.iconst 4, 1) := by decide +kernel
theorem dL_presses_163 : decode cL_presses 163 = .ok (.iaload, 1) := by decide +kernel
theorem dL_presses_164 : decode cL_presses 164 = .ok (.goto 4, 3) := by decide +kernel
theorem dL_presses_167 : decode cL_presses 167 = .ok (.iconst 0, 1) := by decide +kernel
theorem dL_presses_168 : decode cL_presses 168 = .ok (.istore 18, 2) := by decide +kernel
theorem dL_presses_170 : decode cL_presses 170 = .ok (.iload 17, 2) := by decide +kernel
theorem dL_presses_172 : decode cL_presses 172 = .ok (.ifCond .eq 17, 3) := by decide +kernel
theorem dL_presses_175 : decode cL_presses 175 = .ok (.aload_n 3, 1) := by decide +kernel
theorem dL_presses_176 : decode cL_presses 176 = .ok (.bipush 13, 2) := by decide +kernel
theorem dL_presses_178 : decode cL_presses 178 = .ok (.iaload, 1) := by decide +kernel
theorem dL_presses_179 : decode cL_presses 179 = .ok (.iconst 2, 1) := by decide +kernel
theorem dL_presses_180 : decode cL_presses 180 = .ok (.if_icmp .ge 9, 3) := by decide +kernel
theorem dL_presses_183 : decode cL_presses 183 = .ok (.aload_n 3, 1) := by decide +kernel
theorem dL_presses_184 : decode cL_presses 184 = .ok (.iconst 4, 1) := by decide +kernel
theorem dL_presses_185 : decode cL_presses 185 = .ok (.iaload, 1) := by decide +kernel
theorem dL_presses_186 : decode cL_presses 186 = .ok (.goto 4, 3) := by decide +kernel
theorem dL_presses_189 : decode cL_presses 189 = .ok (.iconst 0, 1) := by decide +kernel
theorem dL_presses_190 : decode cL_presses 190 = .ok (.istore 19, 2) := by decide +kernel
theorem dL_presses_192 : decode cL_presses 192 = .ok (.iload 16, 2) := by decide +kernel
theorem dL_presses_194 : decode cL_presses 194 = .ok (.aload_n 3, 1) := by decide +kernel
theorem dL_presses_195 : decode cL_presses 195 = .ok (.iconst 3, 1) := by decide +kernel
theorem dL_presses_196 : decode cL_presses 196 = .ok (.iaload, 1) := by decide +kernel
theorem dL_presses_197 : decode cL_presses 197 = .ok (.iload 14, 2) := by decide +kernel
theorem dL_presses_199 : decode cL_presses 199 = .ok (.if_icmp .ne 9, 3) := by decide +kernel
theorem dL_presses_202 : decode cL_presses 202 = .ok (.aload_n 3, 1) := by decide +kernel
theorem dL_presses_203 : decode cL_presses 203 = .ok (.iconst 4, 1) := by decide +kernel
theorem dL_presses_204 : decode cL_presses 204 = .ok (.iaload, 1) := by decide +kernel
theorem dL_presses_205 : decode cL_presses 205 = .ok (.goto 4, 3) := by decide +kernel
theorem dL_presses_208 : decode cL_presses 208 = .ok (.iconst 0, 1) := by decide +kernel
theorem dL_presses_209 : decode cL_presses 209 = .ok (.iadd, 1) := by decide +kernel
theorem dL_presses_210 : decode cL_presses 210 = .ok (.istore 20, 2) := by decide +kernel
theorem dL_presses_212 : decode cL_presses 212 = .ok (.iload 20, 2) := by decide +kernel
theorem dL_presses_214 : decode cL_presses 214 = .ok (.aload_n 3, 1) := by decide +kernel
theorem dL_presses_215 : decode cL_presses 215 = .ok (.bipush 8, 2) := by decide +kernel
theorem dL_presses_217 : decode cL_presses 217 = .ok (.iaload, 1) := by decide +kernel
theorem dL_presses_218 : decode cL_presses 218 = .ok (.if_icmp .ge 8, 3) := by decide +kernel
theorem dL_presses_221 : decode cL_presses 221 = .ok (.iload 20, 2) := by decide +kernel
theorem dL_presses_223 : decode cL_presses 223 = .ok (.goto 7, 3) := by decide +kernel
theorem dL_presses_226 : decode cL_presses 226 = .ok (.aload_n 3, 1) := by decide +kernel
theorem dL_presses_227 : decode cL_presses 227 = .ok (.bipush 8, 2) := by decide +kernel
theorem dL_presses_229 : decode cL_presses 229 = .ok (.iaload, 1) := by decide +kernel
theorem dL_presses_230 : decode cL_presses 230 = .ok (.istore 21, 2) := by decide +kernel
theorem dL_presses_232 : decode cL_presses 232 = .ok (.iload 18, 2) := by decide +kernel
theorem dL_presses_234 : decode cL_presses 234 = .ok (.iload 20, 2) := by decide +kernel
theorem dL_presses_236 : decode cL_presses 236 = .ok (.iadd, 1) := by decide +kernel
theorem dL_presses_237 : decode cL_presses 237 = .ok (.iload 21, 2) := by decide +kernel
theorem dL_presses_239 : decode cL_presses 239 = .ok (.isub, 1) := by decide +kernel
theorem dL_presses_240 : decode cL_presses 240 = .ok (.istore 22, 2) := by decide +kernel
theorem dL_presses_242 : decode cL_presses 242 = .ok (.aload 5, 2) := by decide +kernel
theorem dL_presses_244 : decode cL_presses 244 = .ok (.bipush 6, 2) := by decide +kernel
theorem dL_presses_246 : decode cL_presses 246 = .ok (.iload 13, 2) := by decide +kernel
theorem dL_presses_248 : decode cL_presses 248 = .ok (.imul, 1) := by decide +kernel
theorem dL_presses_249 : decode cL_presses 249 = .ok (.iconst 3, 1) := by decide +kernel
theorem dL_presses_250 : decode cL_presses 250 = .ok (.iadd, 1) := by decide +kernel
theorem dL_presses_251 : decode cL_presses 251 = .ok (.iaload, 1) := by decide +kernel
theorem dL_presses_252 : decode cL_presses 252 = .ok (.invokestatic 31, 3) := by decide +kernel
theorem dL_presses_255 : decode cL_presses 255 = .ok (.istore 23, 2) := by decide +kernel
theorem dL_presses_257 : decode cL_presses 257 = .ok (.iload 22, 2) := by decide +kernel
theorem dL_presses_259 : decode cL_presses 259 = .ok (.aload 9, 2) := by decide +kernel
theorem dL_presses_261 : decode cL_presses 261 = .ok (.bipush 7, 2) := by decide +kernel
theorem dL_presses_263 : decode cL_presses 263 = .ok (.iload 11, 2) := by decide +kernel
theorem dL_presses_265 : decode cL_presses 265 = .ok (.imul, 1) := by decide +kernel
theorem dL_presses_266 : decode cL_presses 266 = .ok (.iaload, 1) := by decide +kernel
theorem dL_presses_267 : decode cL_presses 267 = .ok (.aload 9, 2) := by decide +kernel
theorem dL_presses_269 : decode cL_presses 269 = .ok (.iload 11, 2) := by decide +kernel
theorem dL_presses_271 : decode cL_presses 271 = .ok (.invokestatic 8, 3) := by decide +kernel
theorem dL_presses_274 : decode cL_presses 274 = .ok (.isub, 1) := by decide +kernel
theorem dL_presses_275 : decode cL_presses 275 = .ok (.if_icmp .le 7, 3) := by decide +kernel
theorem dL_presses_278 : decode cL_presses 278 = .ok (.iconst 2, 1) := by decide +kernel
theorem dL_presses_279 : decode cL_presses 279 = .ok (.goto 43, 3) := by decide +kernel
theorem dL_presses_282 : decode cL_presses 282 = .ok (.iload 22, 2) := by decide +kernel
theorem dL_presses_284 : decode cL_presses 284 = .ok (.ifCond .le 37, 3) := by decide +kernel
theorem dL_presses_287 : decode cL_presses 287 = .ok (.iload 12, 2) := by decide +kernel
theorem dL_presses_289 : decode cL_presses 289 = .ok (.ifCond .ne 32, 3) := by decide +kernel
theorem dL_presses_292 : decode cL_presses 292 = .ok (.aload 9, 2) := by decide +kernel
theorem dL_presses_294 : decode cL_presses 294 = .ok (.iload 11, 2) := by decide +kernel
theorem dL_presses_296 : decode cL_presses 296 = .ok (.invokestatic 8, 3) := by decide +kernel
theorem dL_presses_299 : decode cL_presses 299 = .ok (.ifCond .le 22, 3) := by decide +kernel
theorem dL_presses_302 : decode cL_presses 302 = .ok (.aload 9, 2) := by decide +kernel
theorem dL_presses_304 : decode cL_presses 304 = .ok (.bipush 7, 2) := by decide +kernel
theorem dL_presses_306 : decode cL_presses 306 = .ok (.iload 11, 2) := by decide +kernel
theorem dL_presses_308 : decode cL_presses 308 = .ok (.imul, 1) := by decide +kernel
theorem dL_presses_309 : decode cL_presses 309 = .ok (.iconst 1, 1) := by decide +kernel
theorem dL_presses_310 : decode cL_presses 310 = .ok (.iadd, 1) := by decide +kernel
theorem dL_presses_311 : decode cL_presses 311 = .ok (.iaload, 1) := by decide +kernel
theorem dL_presses_312 : decode cL_presses 312 = .ok (.iload 23, 2) := by decide +kernel
theorem dL_presses_314 : decode cL_presses 314 = .ok (.if_icmp .eq 7, 3) := by decide +kernel
theorem dL_presses_317 : decode cL_presses 317 = .ok (.iconst 3, 1) := by decide +kernel
theorem dL_presses_318 : decode cL_presses 318 = .ok (.goto 4, 3) := by decide +kernel
theorem dL_presses_321 : decode cL_presses 321 = .ok (.iconst 0, 1) := by decide +kernel
theorem dL_presses_322 : decode cL_presses 322 = .ok (.istore 24, 2) := by decide +kernel
theorem dL_presses_324 : decode cL_presses 324 = .ok (.aload_n 0, 1) := by decide +kernel
theorem dL_presses_325 : decode cL_presses 325 = .ok (.iload 11, 2) := by decide +kernel
theorem dL_presses_327 : decode cL_presses 327 = .ok (.iload 12, 2) := by decide +kernel
theorem dL_presses_329 : decode cL_presses 329 = .ok (.invokevirtual 22, 3) := by decide +kernel
theorem dL_presses_332 : decode cL_presses 332 = .ok (.iload 24, 2) := by decide +kernel
theorem dL_presses_334 : decode cL_presses 334 = .ok (.if_icmp .ne 53, 3) := by decide +kernel
theorem dL_presses_337 : decode cL_presses 337 = .ok (.aload_n 0, 1) := by decide +kernel
theorem dL_presses_338 : decode cL_presses 338 = .ok (.iconst 0, 1) := by decide +kernel
theorem dL_presses_339 : decode cL_presses 339 = .ok (.invokevirtual 28, 3) := by decide +kernel
theorem dL_presses_342 : decode cL_presses 342 = .ok (.iload 13, 2) := by decide +kernel
theorem dL_presses_344 : decode cL_presses 344 = .ok (.if_icmp .ne 43, 3) := by decide +kernel
theorem dL_presses_347 : decode cL_presses 347 = .ok (.aload_n 0, 1) := by decide +kernel
theorem dL_presses_348 : decode cL_presses 348 = .ok (.iconst 1, 1) := by decide +kernel
theorem dL_presses_349 : decode cL_presses 349 = .ok (.invokevirtual 28, 3) := by decide +kernel
theorem dL_presses_352 : decode cL_presses 352 = .ok (.iload 16, 2) := by decide +kernel
theorem dL_presses_354 : decode cL_presses 354 = .ok (.if_icmp .ne 33, 3) := by decide +kernel
theorem dL_presses_357 : decode cL_presses 357 = .ok (.aload_n 0, 1) := by decide +kernel
theorem dL_presses_358 : decode cL_presses 358 = .ok (.iconst 2, 1) := by decide +kernel
theorem dL_presses_359 : decode cL_presses 359 = .ok (.invokevirtual 28, 3) := by decide +kernel
theorem dL_presses_362 : decode cL_presses 362 = .ok (.iload 22, 2) := by decide +kernel
theorem dL_presses_364 : decode cL_presses 364 = .ok (.if_icmp .ne 23, 3) := by decide +kernel
theorem dL_presses_367 : decode cL_presses 367 = .ok (.aload_n 0, 1) := by decide +kernel
theorem dL_presses_368 : decode cL_presses 368 = .ok (.iconst 3, 1) := by decide +kernel
theorem dL_presses_369 : decode cL_presses 369 = .ok (.invokevirtual 28, 3) := by decide +kernel
theorem dL_presses_372 : decode cL_presses 372 = .ok (.iload 19, 2) := by decide +kernel
theorem dL_presses_374 : decode cL_presses 374 = .ok (.if_icmp .ne 13, 3) := by decide +kernel
theorem dL_presses_377 : decode cL_presses 377 = .ok (.aload_n 0, 1) := by decide +kernel
theorem dL_presses_378 : decode cL_presses 378 = .ok (.iconst 4, 1) := by decide +kernel
theorem dL_presses_379 : decode cL_presses 379 = .ok (.invokevirtual 28, 3) := by decide +kernel
theorem dL_presses_382 : decode cL_presses 382 = .ok (.iload 21, 2) := by decide +kernel
theorem dL_presses_384 : decode cL_presses 384 = .ok (.if_icmp .eq 5, 3) := by decide +kernel
theorem dL_presses_387 : decode cL_presses 387 = .ok (.iconst 0, 1) := by decide +kernel
theorem dL_presses_388 : decode cL_presses 388 = .ok (.ireturn, 1) := by decide +kernel
theorem dL_presses_389 : decode cL_presses 389 = .ok (.iload 24, 2) := by decide +kernel
theorem dL_presses_391 : decode cL_presses 391 = .ok (.ifCond .le 5, 3) := by decide +kernel
theorem dL_presses_394 : decode cL_presses 394 = .ok (.iconst 1, 1) := by decide +kernel
theorem dL_presses_395 : decode cL_presses 395 = .ok (.ireturn, 1) := by decide +kernel
theorem dL_presses_396 : decode cL_presses 396 = .ok (.iload 19, 2) := by decide +kernel
theorem dL_presses_398 : decode cL_presses 398 = .ok (.ifCond .le 10, 3) := by decide +kernel
theorem dL_presses_401 : decode cL_presses 401 = .ok (.aload_n 3, 1) := by decide +kernel
theorem dL_presses_402 : decode cL_presses 402 = .ok (.iconst 5, 1) := by decide +kernel
theorem dL_presses_403 : decode cL_presses 403 = .ok (.dup2, 1) := by decide +kernel
theorem dL_presses_404 : decode cL_presses 404 = .ok (.iaload, 1) := by decide +kernel
theorem dL_presses_405 : decode cL_presses 405 = .ok (.iconst 1, 1) := by decide +kernel
theorem dL_presses_406 : decode cL_presses 406 = .ok (.iadd, 1) := by decide +kernel
theorem dL_presses_407 : decode cL_presses 407 = .ok (.iastore, 1) := by decide +kernel
theorem dL_presses_408 : decode cL_presses 408 = .ok (.iload 18, 2) := by decide +kernel
theorem dL_presses_410 : decode cL_presses 410 = .ok (.ifCond .le 17, 3) := by decide +kernel
theorem dL_presses_413 : decode cL_presses 413 = .ok (.aload 9, 2) := by decide +kernel
theorem dL_presses_415 : decode cL_presses 415 = .ok (.iload 11, 2) := by decide +kernel
theorem dL_presses_417 : decode cL_presses 417 = .ok (.aload_n 3, 1) := by decide +kernel
theorem dL_presses_418 : decode cL_presses 418 = .ok (.iconst 3, 1) := by decide +kernel
theorem dL_presses_419 : decode cL_presses 419 = .ok (.iaload, 1) := by decide +kernel
theorem dL_presses_420 : decode cL_presses 420 = .ok (.iload 18, 2) := by decide +kernel
theorem dL_presses_422 : decode cL_presses 422 = .ok (.iload 23, 2) := by decide +kernel
theorem dL_presses_424 : decode cL_presses 424 = .ok (.invokestatic 34, 3) := by decide +kernel
theorem dL_presses_427 : decode cL_presses 427 = .ok (.aload 9, 2) := by decide +kernel
theorem dL_presses_429 : decode cL_presses 429 = .ok (.iload 11, 2) := by decide +kernel
theorem dL_presses_431 : decode cL_presses 431 = .ok (.iload 14, 2) := by decide +kernel
theorem dL_presses_433 : decode cL_presses 433 = .ok (.iload 20, 2) := by decide +kernel
theorem dL_presses_435 : decode cL_presses 435 = .ok (.iload 21, 2) := by decide +kernel
theorem dL_presses_437 : decode cL_presses 437 = .ok (.isub, 1) := by decide +kernel
theorem dL_presses_438 : decode cL_presses 438 = .ok (.iload 23, 2) := by decide +kernel
theorem dL_presses_440 : decode cL_presses 440 = .ok (.invokestatic 34, 3) := by decide +kernel
theorem dL_presses_443 : decode cL_presses 443 = .ok (.aload_n 3, 1) := by decide +kernel
theorem dL_presses_444 : decode cL_presses 444 = .ok (.iconst 3, 1) := by decide +kernel
theorem dL_presses_445 : decode cL_presses 445 = .ok (.iload 21, 2) := by decide +kernel
theorem dL_presses_447 : decode cL_presses 447 = .ok (.ifCond .le 8, 3) := by decide +kernel
theorem dL_presses_450 : decode cL_presses 450 = .ok (.iload 14, 2) := by decide +kernel
theorem dL_presses_452 : decode cL_presses 452 = .ok (.goto 4, 3) := by decide +kernel
theorem dL_presses_455 : decode cL_presses 455 = .ok (.iconst (-1), 1) := by decide +kernel
theorem dL_presses_456 : decode cL_presses 456 = .ok (.iastore, 1) := by decide +kernel
theorem dL_presses_457 : decode cL_presses 457 = .ok (.aload_n 3, 1) := by decide +kernel
theorem dL_presses_458 : decode cL_presses 458 = .ok (.iconst 4, 1) := by decide +kernel
theorem dL_presses_459 : decode cL_presses 459 = .ok (.iload 21, 2) := by decide +kernel
theorem dL_presses_461 : decode cL_presses 461 = .ok (.iastore, 1) := by decide +kernel
theorem dL_presses_462 : decode cL_presses 462 = .ok (.aload 5, 2) := by decide +kernel
theorem dL_presses_464 : decode cL_presses 464 = .ok (.bipush 6, 2) := by decide +kernel
theorem dL_presses_466 : decode cL_presses 466 = .ok (.iload 13, 2) := by decide +kernel
theorem dL_presses_468 : decode cL_presses 468 = .ok (.imul, 1) := by decide +kernel
theorem dL_presses_469 : decode cL_presses 469 = .ok (.iconst 5, 1) := by decide +kernel
theorem dL_presses_470 : decode cL_presses 470 = .ok (.iadd, 1) := by decide +kernel
theorem dL_presses_471 : decode cL_presses 471 = .ok (.iconst 1, 1) := by decide +kernel
theorem dL_presses_472 : decode cL_presses 472 = .ok (.iastore, 1) := by decide +kernel
theorem dL_presses_473 : decode cL_presses 473 = .ok (.aload 6, 2) := by decide +kernel
theorem dL_presses_475 : decode cL_presses 475 = .ok (.iload 13, 2) := by decide +kernel
theorem dL_presses_477 : decode cL_presses 477 = .ok (.iload 15, 2) := by decide +kernel
theorem dL_presses_479 : decode cL_presses 479 = .ok (.iastore, 1) := by decide +kernel
theorem dL_presses_480 : decode cL_presses 480 = .ok (.aload 7, 2) := by decide +kernel
theorem dL_presses_482 : decode cL_presses 482 = .ok (.iload 13, 2) := by decide +kernel
theorem dL_presses_484 : decode cL_presses 484 = .ok (.iload 16, 2) := by decide +kernel
theorem dL_presses_486 : decode cL_presses 486 = .ok (.iastore, 1) := by decide +kernel
theorem dL_presses_487 : decode cL_presses 487 = .ok (.aload 8, 2) := by decide +kernel
theorem dL_presses_489 : decode cL_presses 489 = .ok (.iload 13, 2) := by decide +kernel
theorem dL_presses_491 : decode cL_presses 491 = .ok (.iload 11, 2) := by decide +kernel
theorem dL_presses_493 : decode cL_presses 493 = .ok (.iastore, 1) := by decide +kernel
theorem dL_presses_494 : decode cL_presses 494 = .ok (.aload 10, 2) := by decide +kernel
theorem dL_presses_496 : decode cL_presses 496 = .ok (.aload 5, 2) := by decide +kernel
theorem dL_presses_498 : decode cL_presses 498 = .ok (.bipush 6, 2) := by decide +kernel
theorem dL_presses_500 : decode cL_presses 500 = .ok (.iload 13, 2) := by decide +kernel
theorem dL_presses_502 : decode cL_presses 502 = .ok (.imul, 1) := by decide +kernel
theorem dL_presses_503 : decode cL_presses 503 = .ok (.iaload, 1) := by decide +kernel
theorem dL_presses_504 : decode cL_presses 504 = .ok (.dup2, 1) := by decide +kernel
theorem dL_presses_505 : decode cL_presses 505 = .ok (.iaload, 1) := by decide +kernel
theorem dL_presses_506 : decode cL_presses 506 = .ok (.iload 16, 2) := by decide +kernel
theorem dL_presses_508 : decode cL_presses 508 = .ok (.iadd, 1) := by decide +kernel
theorem dL_presses_509 : decode cL_presses 509 = .ok (.iastore, 1) := by decide +kernel
theorem dL_presses_510 : decode cL_presses 510 = .ok (.aload_n 0, 1) := by decide +kernel
theorem dL_presses_511 : decode cL_presses 511 = .ok (.iload 11, 2) := by decide +kernel
theorem dL_presses_513 : decode cL_presses 513 = .ok (.iload 12, 2) := by decide +kernel
theorem dL_presses_515 : decode cL_presses 515 = .ok (.invokevirtual 38, 3) := by decide +kernel
theorem dL_presses_518 : decode cL_presses 518 = .ok (.iload 13, 2) := by decide +kernel
theorem dL_presses_520 : decode cL_presses 520 = .ok (.if_icmp .ne 7, 3) := by decide +kernel
theorem dL_presses_523 : decode cL_presses 523 = .ok (.iconst 1, 1) := by decide +kernel
theorem dL_presses_524 : decode cL_presses 524 = .ok (.goto 4, 3) := by decide +kernel
theorem dL_presses_527 : decode cL_presses 527 = .ok (.iconst 0, 1) := by decide +kernel
theorem dL_presses_528 : decode cL_presses 528 = .ok (.ireturn, 1) := by decide +kernel
theorem dL_appeals_0 : decode cL_appeals 0 = .ok (.aload_n 2, 1) := by decide +kernel
theorem dL_appeals_1 : decode cL_appeals 1 = .ok (.iconst 1, 1) := by decide +kernel
theorem dL_appeals_2 : decode cL_appeals 2 = .ok (.iaload, 1) := by decide +kernel
theorem dL_appeals_3 : decode cL_appeals 3 = .ok (.ifCond .ne 5, 3) := by decide +kernel
theorem dL_appeals_6 : decode cL_appeals 6 = .ok (.iconst 1, 1) := by decide +kernel
theorem dL_appeals_7 : decode cL_appeals 7 = .ok (.ireturn, 1) := by decide +kernel
theorem dL_appeals_8 : decode cL_appeals 8 = .ok (.iload_n 1, 1) := by decide +kernel
theorem dL_appeals_9 : decode cL_appeals 9 = .ok (.aload_n 2, 1) := by decide +kernel
theorem dL_appeals_10 : decode cL_appeals 10 = .ok (.iconst 1, 1) := by decide +kernel
theorem dL_appeals_11 : decode cL_appeals 11 = .ok (.iaload, 1) := by decide +kernel
theorem dL_appeals_12 : decode cL_appeals 12 = .ok (.invokestatic 14, 3) := by decide +kernel
theorem dL_appeals_15 : decode cL_appeals 15 = .ok (.istore 10, 2) := by decide +kernel
theorem dL_appeals_17 : decode cL_appeals 17 = .ok (.aload_n 3, 1) := by decide +kernel
theorem dL_appeals_18 : decode cL_appeals 18 = .ok (.bipush 6, 2) := by decide +kernel
theorem dL_appeals_20 : decode cL_appeals 20 = .ok (.iload 10, 2) := by decide +kernel
theorem dL_appeals_22 : decode cL_appeals 22 = .ok (.imul, 1) := by decide +kernel
theorem dL_appeals_23 : decode cL_appeals 23 = .ok (.iconst 5, 1) := by decide +kernel
theorem dL_appeals_24 : decode cL_appeals 24 = .ok (.iadd, 1) := by decide +kernel
theorem dL_appeals_25 : decode cL_appeals 25 = .ok (.iaload, 1) := by decide +kernel
theorem dL_appeals_26 : decode cL_appeals 26 = .ok (.ifCond .ne 7, 3) := by decide +kernel
theorem dL_appeals_29 : decode cL_appeals 29 = .ok (.iconst 0, 1) := by decide +kernel
theorem dL_appeals_30 : decode cL_appeals 30 = .ok (.goto 37, 3) := by decide +kernel
theorem dL_appeals_33 : decode cL_appeals 33 = .ok (.aload 4, 2) := by decide +kernel
theorem dL_appeals_35 : decode cL_appeals 35 = .ok (.iload 10, 2) := by decide +kernel
theorem dL_appeals_37 : decode cL_appeals 37 = .ok (.iaload, 1) := by decide +kernel
theorem dL_appeals_38 : decode cL_appeals 38 = .ok (.aload_n 3, 1) := by decide +kernel
theorem dL_appeals_39 : decode cL_appeals 39 = .ok (.bipush 6, 2) := by decide +kernel
theorem dL_appeals_41 : decode cL_appeals 41 = .ok (.iload 10, 2) := by decide +kernel
theorem dL_appeals_43 : decode cL_appeals 43 = .ok (.imul, 1) := by decide +kernel
theorem dL_appeals_44 : decode cL_appeals 44 = .ok (.iconst 4, 1) := by decide +kernel
theorem dL_appeals_45 : decode cL_appeals 45 = .ok (.iadd, 1) := by decide +kernel
theorem dL_appeals_46 : decode cL_appeals 46 = .ok (.iaload, 1) := by decide +kernel
theorem dL_appeals_47 : decode cL_appeals 47 = .ok (.imul, 1) := by decide +kernel
theorem dL_appeals_48 : decode cL_appeals 48 = .ok (.sipush 1000, 3) := by decide +kernel
theorem dL_appeals_51 : decode cL_appeals 51 = .ok (.idiv, 1) := by decide +kernel
theorem dL_appeals_52 : decode cL_appeals 52 = .ok (.aload 5, 2) := by decide +kernel
theorem dL_appeals_54 : decode cL_appeals 54 = .ok (.iload 10, 2) := by decide +kernel
theorem dL_appeals_56 : decode cL_appeals 56 = .ok (.iaload, 1) := by decide +kernel
theorem dL_appeals_57 : decode cL_appeals 57 = .ok (.isub, 1) := by decide +kernel
theorem dL_appeals_58 : decode cL_appeals 58 = .ok (.aload_n 2, 1) := by decide +kernel
theorem dL_appeals_59 : decode cL_appeals 59 = .ok (.bipush 10, 2) := by decide +kernel
theorem dL_appeals_61 : decode cL_appeals 61 = .ok (.iaload, 1) := by decide +kernel
theorem dL_appeals_62 : decode cL_appeals 62 = .ok (.imul, 1) := by decide +kernel
theorem dL_appeals_63 : decode cL_appeals 63 = .ok (.sipush 1000, 3) := by decide +kernel
theorem dL_appeals_66 : decode cL_appeals 66 = .ok (.idiv, 1) := by decide +kernel
theorem dL_appeals_67 : decode cL_appeals 67 = .ok (.istore 11, 2) := by decide +kernel
theorem dL_appeals_69 : decode cL_appeals 69 = .ok (.aload_n 3, 1) := by decide +kernel
theorem dL_appeals_70 : decode cL_appeals 70 = .ok (.bipush 6, 2) := by decide +kernel
theorem dL_appeals_72 : decode cL_appeals 72 = .ok (.iload 10, 2) := by decide +kernel
theorem dL_appeals_74 : decode cL_appeals 74 = .ok (.imul, 1) := by decide +kernel
theorem dL_appeals_75 : decode cL_appeals 75 = .ok (.iconst 5, 1) := by decide +kernel
theorem dL_appeals_76 : decode cL_appeals 76 = .ok (.iadd, 1) := by decide +kernel
theorem dL_appeals_77 : decode cL_appeals 77 = .ok (.iaload, 1) := by decide +kernel
theorem dL_appeals_78 : decode cL_appeals 78 = .ok (.iconst 1, 1) := by decide +kernel
theorem dL_appeals_79 : decode cL_appeals 79 = .ok (.if_icmp .eq 7, 3) := by decide +kernel
theorem dL_appeals_82 : decode cL_appeals 82 = .ok (.iconst 1, 1) := by decide +kernel
theorem dL_appeals_83 : decode cL_appeals 83 = .ok (.goto 74, 3) := by decide +kernel
theorem dL_appeals_86 : decode cL_appeals 86 = .ok (.aload 5, 2) := by decide +kernel
theorem dL_appeals_88 : decode cL_appeals 88 = .ok (.iload 10, 2) := by decide +kernel
theorem dL_appeals_90 : decode cL_appeals 90 = .ok (.iaload, 1) := by decide +kernel
theorem dL_appeals_91 : decode cL_appeals 91 = .ok (.aload 4, 2) := by decide +kernel
theorem dL_appeals_93 : decode cL_appeals 93 = .ok (.iload 10, 2) := by decide +kernel
theorem dL_appeals_95 : decode cL_appeals 95 = .ok (.iaload, 1) := by decide +kernel
theorem dL_appeals_96 : decode cL_appeals 96 = .ok (.aload_n 2, 1) := by decide +kernel
theorem dL_appeals_97 : decode cL_appeals 97 = .ok (.bipush 9, 2) := by decide +kernel
theorem dL_appeals_99 : decode cL_appeals 99 = .ok (.iaload, 1) := by decide +kernel
theorem dL_appeals_100 : decode cL_appeals 100 = .ok (.imul, 1) := by decide +kernel
theorem dL_appeals_101 : decode cL_appeals 101 = .ok (.sipush 1000, 3) := by decide +kernel
theorem dL_appeals_104 : decode cL_appeals 104 = .ok (.idiv, 1) := by decide +kernel
theorem dL_appeals_105 : decode cL_appeals 105 = .ok (.sipush 1000, 3) := by decide +kernel
theorem dL_appeals_108 : decode cL_appeals 108 = .ok (.aload_n 2, 1) := by decide +kernel
theorem dL_appeals_109 : decode cL_appeals 109 = .ok (.bipush 14, 2) := by decide +kernel
theorem dL_appeals_111 : decode cL_appeals 111 = .ok (.iaload, 1) := by decide +kernel
theorem dL_appeals_112 : decode cL_appeals 112 = .ok (.isub, 1) := by decide +kernel
theorem dL_appeals_113 : decode cL_appeals 113 = .ok (.imul, 1) := by decide +kernel
theorem dL_appeals_114 : decode cL_appeals 114 = .ok (.sipush 1000, 3) := by decide +kernel
theorem dL_appeals_117 : decode cL_appeals 117 = .ok (.idiv, 1) := by decide +kernel
theorem dL_appeals_118 : decode cL_appeals 118 = .ok (.if_icmp .lt 7, 3) := by decide +kernel
theorem dL_appeals_121 : decode cL_appeals 121 = .ok (.iconst 2, 1) := by decide +kernel
theorem dL_appeals_122 : decode cL_appeals 122 = .ok (.goto 35, 3) := by decide +kernel
theorem dL_appeals_125 : decode cL_appeals 125 = .ok (.iload 11, 2) := by decide +kernel
theorem dL_appeals_127 : decode cL_appeals 127 = .ok (.aload 8, 2) := by decide +kernel
theorem dL_appeals_129 : decode cL_appeals 129 = .ok (.bipush 7, 2) := by decide +kernel
theorem dL_appeals_131 : decode cL_appeals 131 = .ok (.aload 7, 2) := by decide +kernel
theorem dL_appeals_133 : decode cL_appeals 133 = .ok (.iload 10, 2) := by decide +kernel
theorem dL_appeals_135 : decode cL_appeals 135 = .ok (.iaload, 1) := by decide +kernel
theorem dL_appeals_136 : decode cL_appeals 136 = .ok (.imul, 1) := by decide +kernel
theorem dL_appeals_137 : decode cL_appeals 137 = .ok (.iaload, 1) := by decide +kernel
theorem dL_appeals_138 : decode cL_appeals 138 = .ok (.aload 8, 2) := by decide +kernel
theorem dL_appeals_140 : decode cL_appeals 140 = .ok (.aload 7, 2) := by decide +kernel
theorem dL_appeals_142 : decode cL_appeals 142 = .ok (.iload 10, 2) := by decide +kernel
theorem dL_appeals_144 : decode cL_appeals 144 = .ok (.iaload, 1) := by decide +kernel
theorem dL_appeals_145 : decode cL_appeals 145 = .ok (.invokestatic 8, 3) := by decide +kernel
theorem dL_appeals_148 : decode cL_appeals 148 = .ok (.isub, 1) := by decide +kernel
theorem dL_appeals_149 : decode cL_appeals 149 = .ok (.if_icmp .le 7, 3) := by decide +kernel
theorem dL_appeals_152 : decode cL_appeals 152 = .ok (.iconst 3, 1) := by decide +kernel
theorem dL_appeals_153 : decode cL_appeals 153 = .ok (.goto 4, 3) := by decide +kernel
theorem dL_appeals_156 : decode cL_appeals 156 = .ok (.iconst 0, 1) := by decide +kernel
theorem dL_appeals_157 : decode cL_appeals 157 = .ok (.istore 12, 2) := by decide +kernel
theorem dL_appeals_159 : decode cL_appeals 159 = .ok (.aload_n 0, 1) := by decide +kernel
theorem dL_appeals_160 : decode cL_appeals 160 = .ok (.iload 10, 2) := by decide +kernel
theorem dL_appeals_162 : decode cL_appeals 162 = .ok (.bipush 10, 2) := by decide +kernel
theorem dL_appeals_164 : decode cL_appeals 164 = .ok (.invokevirtual 41, 3) := by decide +kernel
theorem dL_appeals_167 : decode cL_appeals 167 = .ok (.iload 12, 2) := by decide +kernel
theorem dL_appeals_169 : decode cL_appeals 169 = .ok (.if_icmp .eq 5, 3) := by decide +kernel
theorem dL_appeals_172 : decode cL_appeals 172 = .ok (.iconst 0, 1) := by decide +kernel
theorem dL_appeals_173 : decode cL_appeals 173 = .ok (.ireturn, 1) := by decide +kernel
theorem dL_appeals_174 : decode cL_appeals 174 = .ok (.iload 12, 2) := by decide +kernel
theorem dL_appeals_176 : decode cL_appeals 176 = .ok (.ifCond .le 5, 3) := by decide +kernel
theorem dL_appeals_179 : decode cL_appeals 179 = .ok (.iconst 1, 1) := by decide +kernel
theorem dL_appeals_180 : decode cL_appeals 180 = .ok (.ireturn, 1) := by decide +kernel
theorem dL_appeals_181 : decode cL_appeals 181 = .ok (.aload_n 3, 1) := by decide +kernel
theorem dL_appeals_182 : decode cL_appeals 182 = .ok (.bipush 6, 2) := by decide +kernel
theorem dL_appeals_184 : decode cL_appeals 184 = .ok (.iload 10, 2) := by decide +kernel
theorem dL_appeals_186 : decode cL_appeals 186 = .ok (.imul, 1) := by decide +kernel
theorem dL_appeals_187 : decode cL_appeals 187 = .ok (.iaload, 1) := by decide +kernel
theorem dL_appeals_188 : decode cL_appeals 188 = .ok (.istore 13, 2) := by decide +kernel
theorem dL_appeals_190 : decode cL_appeals 190 = .ok (.aload 8, 2) := by decide +kernel
theorem dL_appeals_192 : decode cL_appeals 192 = .ok (.aload 7, 2) := by decide +kernel
theorem dL_appeals_194 : decode cL_appeals 194 = .ok (.iload 10, 2) := by decide +kernel
theorem dL_appeals_196 : decode cL_appeals 196 = .ok (.iaload, 1) := by decide +kernel
theorem dL_appeals_197 : decode cL_appeals 197 = .ok (.aload_n 3, 1) := by decide +kernel
theorem dL_appeals_198 : decode cL_appeals 198 = .ok (.bipush 6, 2) := by decide +kernel
theorem dL_appeals_200 : decode cL_appeals 200 = .ok (.iload 10, 2) := by decide +kernel
theorem dL_appeals_202 : decode cL_appeals 202 = .ok (.imul, 1) := by decide +kernel
theorem dL_appeals_203 : decode cL_appeals 203 = .ok (.iconst 1, 1) := by decide +kernel
theorem dL_appeals_204 : decode cL_appeals 204 = .ok (.iadd, 1) := by decide +kernel
theorem dL_appeals_205 : decode cL_appeals 205 = .ok (.iaload, 1) := by decide +kernel
theorem dL_appeals_206 : decode cL_appeals 206 = .ok (.iload 11, 2) := by decide +kernel
theorem dL_appeals_208 : decode cL_appeals 208 = .ok (.aload_n 3, 1) := by decide +kernel
theorem dL_appeals_209 : decode cL_appeals 209 = .ok (.bipush 6, 2) := by decide +kernel
theorem dL_appeals_211 : decode cL_appeals 211 = .ok (.iload 10, 2) := by decide +kernel
theorem dL_appeals_213 : decode cL_appeals 213 = .ok (.imul, 1) := by decide +kernel
theorem dL_appeals_214 : decode cL_appeals 214 = .ok (.iconst 3, 1) := by decide +kernel
theorem dL_appeals_215 : decode cL_appeals 215 = .ok (.iadd, 1) := by decide +kernel
theorem dL_appeals_216 : decode cL_appeals 216 = .ok (.iaload, 1) := by decide +kernel
theorem dL_appeals_217 : decode cL_appeals 217 = .ok (.invokestatic 31, 3) := by decide +kernel
theorem dL_appeals_220 : decode cL_appeals 220 = .ok (.invokestatic 34, 3) := by decide +kernel
theorem dL_appeals_223 : decode cL_appeals 223 = .ok (.aload 9, 2) := by decide +kernel
theorem dL_appeals_225 : decode cL_appeals 225 = .ok (.iload 13, 2) := by decide +kernel
theorem dL_appeals_227 : decode cL_appeals 227 = .ok (.dup2, 1) := by decide +kernel
theorem dL_appeals_228 : decode cL_appeals 228 = .ok (.iaload, 1) := by decide +kernel
theorem dL_appeals_229 : decode cL_appeals 229 = .ok (.iload 11, 2) := by decide +kernel
theorem dL_appeals_231 : decode cL_appeals 231 = .ok (.iadd, 1) := by decide +kernel
theorem dL_appeals_232 : decode cL_appeals 232 = .ok (.iastore, 1) := by decide +kernel
theorem dL_appeals_233 : decode cL_appeals 233 = .ok (.iload 11, 2) := by decide +kernel
theorem dL_appeals_235 : decode cL_appeals 235 = .ok (.aload_n 2, 1) := by decide +kernel
theorem dL_appeals_236 : decode cL_appeals 236 = .ok (.bipush 12, 2) := by decide +kernel
theorem dL_appeals_238 : decode cL_appeals 238 = .ok (.iaload, 1) := by decide +kernel
theorem dL_appeals_239 : decode cL_appeals 239 = .ok (.if_icmp .ge 34, 3) := by decide +kernel
theorem dL_appeals_242 : decode cL_appeals 242 = .ok (.aload 9, 2) := by decide +kernel
theorem dL_appeals_244 : decode cL_appeals 244 = .ok (.iload 13, 2) := by decide +kernel
theorem dL_appeals_246 : decode cL_appeals 246 = .ok (.aload 9, 2) := by decide +kernel
theorem dL_appeals_248 : decode cL_appeals 248 = .ok (.iload 13, 2) := by decide +kernel
theorem dL_appeals_250 : decode cL_appeals 250 = .ok (.iaload, 1) := by decide +kernel
theorem dL_appeals_251 : decode cL_appeals 251 = .ok (.aload_n 2, 1) := by decide +kernel
theorem dL_appeals_252 : decode cL_appeals 252 = .ok (.bipush 12, 2) := by decide +kernel
theorem dL_appeals_254 : decode cL_appeals 254 = .ok (.iaload, 1) := by decide +kernel
theorem dL_appeals_255 : decode cL_appeals 255 = .ok (.if_icmp .ge 7, 3) := by decide +kernel
theorem dL_appeals_258 : decode cL_appeals 258 = .ok (.iconst 0, 1) := by decide +kernel
theorem dL_appeals_259 : decode cL_appeals 259 = .ok (.goto 13, 3) := by decide +kernel
theorem dL_appeals_262 : decode cL_appeals 262 = .ok (.aload 9, 2) := by decide +kernel
theorem dL_appeals_264 : decode cL_appeals 264 = .ok (.iload 13, 2) := by decide +kernel
theorem dL_appeals_266 : decode cL_appeals 266 = .ok (.iaload, 1) := by decide +kernel
theorem dL_appeals_267 : decode cL_appeals 267 = .ok (.aload_n 2, 1) := by decide +kernel
theorem dL_appeals_268 : decode cL_appeals 268 = .ok (.bipush 12, 2) := by decide +kernel
theorem dL_appeals_270 : decode cL_appeals 270 = .ok (.iaload, 1) := by decide +kernel
theorem dL_appeals_271 : decode cL_appeals 271 = .ok (.isub, 1) := by decide +kernel
theorem dL_appeals_272 : decode cL_appeals 272 = .ok (.iastore, 1) := by decide +kernel
theorem dL_appeals_273 : decode cL_appeals 273 = .ok (.aload_n 3, 1) := by decide +kernel
theorem dL_appeals_274 : decode cL_appeals 274 = .ok (.bipush 6, 2) := by decide +kernel
theorem dL_appeals_276 : decode cL_appeals 276 = .ok (.iload 10, 2) := by decide +kernel
theorem dL_appeals_278 : decode cL_appeals 278 = .ok (.imul, 1) := by decide +kernel
theorem dL_appeals_279 : decode cL_appeals 279 = .ok (.iconst 5, 1) := by decide +kernel
theorem dL_appeals_280 : decode cL_appeals 280 = .ok (.iadd, 1) := by decide +kernel
theorem dL_appeals_281 : decode cL_appeals 281 = .ok (.iconst 2, 1) := by decide +kernel
theorem dL_appeals_282 : decode cL_appeals 282 = .ok (.iastore, 1) := by decide +kernel
theorem dL_appeals_283 : decode cL_appeals 283 = .ok (.aload 6, 2) := by decide +kernel
theorem dL_appeals_285 : decode cL_appeals 285 = .ok (.iload 10, 2) := by decide +kernel
theorem dL_appeals_287 : decode cL_appeals 287 = .ok (.iload 11, 2) := by decide +kernel
theorem dL_appeals_289 : decode cL_appeals 289 = .ok (.iastore, 1) := by decide +kernel
theorem dL_appeals_290 : decode cL_appeals 290 = .ok (.aload_n 2, 1) := by decide +kernel
theorem dL_appeals_291 : decode cL_appeals 291 = .ok (.bipush 7, 2) := by decide +kernel
theorem dL_appeals_293 : decode cL_appeals 293 = .ok (.dup2, 1) := by decide +kernel
theorem dL_appeals_294 : decode cL_appeals 294 = .ok (.iaload, 1) := by decide +kernel
theorem dL_appeals_295 : decode cL_appeals 295 = .ok (.iconst 1, 1) := by decide +kernel
theorem dL_appeals_296 : decode cL_appeals 296 = .ok (.iadd, 1) := by decide +kernel
theorem dL_appeals_297 : decode cL_appeals 297 = .ok (.iastore, 1) := by decide +kernel
theorem dL_appeals_298 : decode cL_appeals 298 = .ok (.aload_n 0, 1) := by decide +kernel
theorem dL_appeals_299 : decode cL_appeals 299 = .ok (.iload 10, 2) := by decide +kernel
theorem dL_appeals_301 : decode cL_appeals 301 = .ok (.invokevirtual 44, 3) := by decide +kernel
theorem dL_appeals_304 : decode cL_appeals 304 = .ok (.iload 11, 2) := by decide +kernel
theorem dL_appeals_306 : decode cL_appeals 306 = .ok (.if_icmp .ne 7, 3) := by decide +kernel
theorem dL_appeals_309 : decode cL_appeals 309 = .ok (.iconst 1, 1) := by decide +kernel
theorem dL_appeals_310 : decode cL_appeals 310 = .ok (.goto 4, 3) := by decide +kernel
theorem dL_appeals_313 : decode cL_appeals 313 = .ok (.iconst 0, 1) := by decide +kernel
theorem dL_appeals_314 : decode cL_appeals 314 = .ok (.ireturn, 1) := by decide +kernel
theorem dL_takes_0 : decode cL_takes 0 = .ok (.iload_n 1, 1) := by decide +kernel
theorem dL_takes_1 : decode cL_takes 1 = .ok (.aload_n 3, 1) := by decide +kernel
theorem dL_takes_2 : decode cL_takes 2 = .ok (.iconst 2, 1) := by decide +kernel
theorem dL_takes_3 : decode cL_takes 3 = .ok (.iaload, 1) := by decide +kernel
theorem dL_takes_4 : decode cL_takes 4 = .ok (.invokestatic 14, 3) := by decide +kernel
theorem dL_takes_7 : decode cL_takes 7 = .ok (.istore 7, 2) := by decide +kernel
theorem dL_takes_9 : decode cL_takes 9 = .ok (.aload 4, 2) := by decide +kernel
theorem dL_takes_11 : decode cL_takes 11 = .ok (.iload 7, 2) := by decide +kernel
theorem dL_takes_13 : decode cL_takes 13 = .ok (.invokestatic 8, 3) := by decide +kernel
theorem dL_takes_16 : decode cL_takes 16 = .ok (.ifCond .ne 21, 3) := by decide +kernel
theorem dL_takes_19 : decode cL_takes 19 = .ok (.aload_n 0, 1) := by decide +kernel
theorem dL_takes_20 : decode cL_takes 20 = .ok (.iload 7, 2) := by decide +kernel
theorem dL_takes_22 : decode cL_takes 22 = .ok (.iconst 1, 1) := by decide +kernel
theorem dL_takes_23 : decode cL_takes 23 = .ok (.iconst 0, 1) := by decide +kernel
theorem dL_takes_24 : decode cL_takes 24 = .ok (.invokevirtual 47, 3) := by decide +kernel
theorem dL_takes_27 : decode cL_takes 27 = .ok (.iconst (-1), 1) := by decide +kernel
theorem dL_takes_28 : decode cL_takes 28 = .ok (.if_icmp .ne 7, 3) := by decide +kernel
theorem dL_takes_31 : decode cL_takes 31 = .ok (.iconst 1, 1) := by decide +kernel
theorem dL_takes_32 : decode cL_takes 32 = .ok (.goto 4, 3) := by decide +kernel
theorem dL_takes_35 : decode cL_takes 35 = .ok (.iconst 0, 1) := by decide +kernel
theorem dL_takes_36 : decode cL_takes 36 = .ok (.ireturn, 1) := by decide +kernel
theorem dL_takes_37 : decode cL_takes 37 = .ok (.iconst 1, 1) := by decide +kernel
theorem dL_takes_38 : decode cL_takes 38 = .ok (.iload_n 2, 1) := by decide +kernel
theorem dL_takes_39 : decode cL_takes 39 = .ok (.aload 4, 2) := by decide +kernel
theorem dL_takes_41 : decode cL_takes 41 = .ok (.iload 7, 2) := by decide +kernel
theorem dL_takes_43 : decode cL_takes 43 = .ok (.invokestatic 8, 3) := by decide +kernel
theorem dL_takes_46 : decode cL_takes 46 = .ok (.invokestatic 14, 3) := by decide +kernel
theorem dL_takes_49 : decode cL_takes 49 = .ok (.iadd, 1) := by decide +kernel
theorem dL_takes_50 : decode cL_takes 50 = .ok (.istore 8, 2) := by decide +kernel
theorem dL_takes_52 : decode cL_takes 52 = .ok (.iload_n 1, 1) := by decide +kernel
theorem dL_takes_53 : decode cL_takes 53 = .ok (.iconst 4, 1) := by decide +kernel
theorem dL_takes_54 : decode cL_takes 54 = .ok (.ishr, 1) := by decide +kernel
theorem dL_takes_55 : decode cL_takes 55 = .ok (.iconst 2, 1) := by decide +kernel
theorem dL_takes_56 : decode cL_takes 56 = .ok (.invokestatic 14, 3) := by decide +kernel
theorem dL_takes_59 : decode cL_takes 59 = .ok (.ifCond .ne 163, 3) := by decide +kernel
theorem dL_takes_62 : decode cL_takes 62 = .ok (.iload_n 1, 1) := by decide +kernel
theorem dL_takes_63 : decode cL_takes 63 = .ok (.bipush 6, 2) := by decide +kernel
theorem dL_takes_65 : decode cL_takes 65 = .ok (.ishr, 1) := by decide +kernel
theorem dL_takes_66 : decode cL_takes 66 = .ok (.aload_n 3, 1) := by decide +kernel
theorem dL_takes_67 : decode cL_takes 67 = .ok (.iconst 0, 1) := by decide +kernel
theorem dL_takes_68 : decode cL_takes 68 = .ok (.iaload, 1) := by decide +kernel
theorem dL_takes_69 : decode cL_takes 69 = .ok (.invokestatic 14, 3) := by decide +kernel
theorem dL_takes_72 : decode cL_takes 72 = .ok (.istore 9, 2) := by decide +kernel
theorem dL_takes_74 : decode cL_takes 74 = .ok (.aload 5, 2) := by decide +kernel
theorem dL_takes_76 : decode cL_takes 76 = .ok (.iload 9, 2) := by decide +kernel
theorem dL_takes_78 : decode cL_takes 78 = .ok (.iaload, 1) := by decide +kernel
theorem dL_takes_79 : decode cL_takes 79 = .ok (.ifCond .ne 5, 3) := by decide +kernel
theorem dL_takes_82 : decode cL_takes 82 = .ok (.iconst 1, 1) := by decide +kernel
theorem dL_takes_83 : decode cL_takes 83 = .ok (.ireturn, 1) := by decide +kernel
theorem dL_takes_84 : decode cL_takes 84 = .ok (.iload 8, 2) := by decide +kernel
theorem dL_takes_86 : decode cL_takes 86 = .ok (.aload 5, 2) := by decide +kernel
theorem dL_takes_88 : decode cL_takes 88 = .ok (.iload 9, 2) := by decide +kernel
theorem dL_takes_90 : decode cL_takes 90 = .ok (.iaload, 1) := by decide +kernel
theorem dL_takes_91 : decode cL_takes 91 = .ok (.if_icmp .le 11, 3) := by decide +kernel
theorem dL_takes_94 : decode cL_takes 94 = .ok (.aload 5, 2) := by decide +kernel
theorem dL_takes_96 : decode cL_takes 96 = .ok (.iload 9, 2) := by decide +kernel
theorem dL_takes_98 : decode cL_takes 98 = .ok (.iaload, 1) := by decide +kernel
theorem dL_takes_99 : decode cL_takes 99 = .ok (.goto 5, 3) := by decide +kernel
theorem dL_takes_102 : decode cL_takes 102 = .ok (.iload 8, 2) := by decide +kernel
theorem dL_takes_104 : decode cL_takes 104 = .ok (.istore 8, 2) := by decide +kernel
theorem dL_takes_106 : decode cL_takes 106 = .ok (.aload 4, 2) := by decide +kernel
theorem dL_takes_108 : decode cL_takes 108 = .ok (.iload 7, 2) := by decide +kernel
theorem dL_takes_110 : decode cL_takes 110 = .ok (.iload 8, 2) := by decide +kernel
theorem dL_takes_112 : decode cL_takes 112 = .ok (.aload 6, 2) := by decide +kernel
theorem dL_takes_114 : decode cL_takes 114 = .ok (.invokestatic 51, 3) := by decide +kernel
theorem dL_takes_117 : decode cL_takes 117 = .ok (.iconst 0, 1) := by decide +kernel
theorem dL_takes_118 : decode cL_takes 118 = .ok (.istore 10, 2) := by decide +kernel
theorem dL_takes_120 : decode cL_takes 120 = .ok (.iload 10, 2) := by decide +kernel
theorem dL_takes_122 : decode cL_takes 122 = .ok (.iconst 5, 1) := by decide +kernel
theorem dL_takes_123 : decode cL_takes 123 = .ok (.if_icmp .ge 29, 3) := by decide +kernel
theorem dL_takes_126 : decode cL_takes 126 = .ok (.aload_n 0, 1) := by decide +kernel
theorem dL_takes_127 : decode cL_takes 127 = .ok (.iload 7, 2) := by decide +kernel
theorem dL_takes_129 : decode cL_takes 129 = .ok (.iload 8, 2) := by decide +kernel
theorem dL_takes_131 : decode cL_takes 131 = .ok (.iload 10, 2) := by decide +kernel
theorem dL_takes_133 : decode cL_takes 133 = .ok (.invokevirtual 47, 3) := by decide +kernel
theorem dL_takes_136 : decode cL_takes 136 = .ok (.aload 6, 2) := by decide +kernel
theorem dL_takes_138 : decode cL_takes 138 = .ok (.iload 10, 2) := by decide +kernel
theorem dL_takes_140 : decode cL_takes 140 = .ok (.iaload, 1) := by decide +kernel
theorem dL_takes_141 : decode cL_takes 141 = .ok (.if_icmp .eq 5, 3) := by decide +kernel
theorem dL_takes_144 : decode cL_takes 144 = .ok (.iconst 0, 1) := by decide +kernel
theorem dL_takes_145 : decode cL_takes 145 = .ok (.ireturn, 1) := by decide +kernel
theorem dL_takes_146 : decode cL_takes 146 = .ok (.iinc 10 1, 3) := by decide +kernel
theorem dL_takes_149 : decode cL_takes 149 = .ok (.goto (-29), 3) := by decide +kernel
theorem dL_takes_152 : decode cL_takes 152 = .ok (.iconst 0, 1) := by decide +kernel
theorem dL_takes_153 : decode cL_takes 153 = .ok (.istore 10, 2) := by decide +kernel
theorem dL_takes_155 : decode cL_takes 155 = .ok (.iload 10, 2) := by decide +kernel
theorem dL_takes_157 : decode cL_takes 157 = .ok (.iconst 5, 1) := by decide +kernel
theorem dL_takes_158 : decode cL_takes 158 = .ok (.if_icmp .ge 30, 3) := by decide +kernel
theorem dL_takes_161 : decode cL_takes 161 = .ok (.aload 4, 2) := by decide +kernel
theorem dL_takes_163 : decode cL_takes 163 = .ok (.bipush 7, 2) := by decide +kernel
theorem dL_takes_165 : decode cL_takes 165 = .ok (.iload 7, 2) := by decide +kernel
theorem dL_takes_167 : decode cL_takes 167 = .ok (.imul, 1) := by decide +kernel
theorem dL_takes_168 : decode cL_takes 168 = .ok (.iconst 2, 1) := by decide +kernel
theorem dL_takes_169 : decode cL_takes 169 = .ok (.iadd, 1) := by decide +kernel
theorem dL_takes_170 : decode cL_takes 170 = .ok (.iload 10, 2) := by decide +kernel
theorem dL_takes_172 : decode cL_takes 172 = .ok (.iadd, 1) := by decide +kernel
theorem dL_takes_173 : decode cL_takes 173 = .ok (.dup2, 1) := by decide +kernel
theorem dL_takes_174 : decode cL_takes 174 = .ok (.iaload, 1) := by decide +kernel
theorem dL_takes_175 : decode cL_takes 175 = .ok (.aload 6, 2) := by decide +kernel
theorem dL_takes_177 : decode cL_takes 177 = .ok (.iload 10, 2) := by decide +kernel
theorem dL_takes_179 : decode cL_takes 179 = .ok (.iaload, 1) := by decide +kernel
theorem dL_takes_180 : decode cL_takes 180 = .ok (.isub, 1) := by decide +kernel
theorem dL_takes_181 : decode cL_takes 181 = .ok (.iastore, 1) := by decide +kernel
theorem dL_takes_182 : decode cL_takes 182 = .ok (.iinc 10 1, 3) := by decide +kernel
theorem dL_takes_185 : decode cL_takes 185 = .ok (.goto (-30), 3) := by decide +kernel
theorem dL_takes_188 : decode cL_takes 188 = .ok (.aload 5, 2) := by decide +kernel
theorem dL_takes_190 : decode cL_takes 190 = .ok (.iload 9, 2) := by decide +kernel
theorem dL_takes_192 : decode cL_takes 192 = .ok (.dup2, 1) := by decide +kernel
theorem dL_takes_193 : decode cL_takes 193 = .ok (.iaload, 1) := by decide +kernel
theorem dL_takes_194 : decode cL_takes 194 = .ok (.iload 8, 2) := by decide +kernel
theorem dL_takes_196 : decode cL_takes 196 = .ok (.isub, 1) := by decide +kernel
theorem dL_takes_197 : decode cL_takes 197 = .ok (.iastore, 1) := by decide +kernel
theorem dL_takes_198 : decode cL_takes 198 = .ok (.aload_n 0, 1) := by decide +kernel
theorem dL_takes_199 : decode cL_takes 199 = .ok (.iload 9, 2) := by decide +kernel
theorem dL_takes_201 : decode cL_takes 201 = .ok (.iload 7, 2) := by decide +kernel
theorem dL_takes_203 : decode cL_takes 203 = .ok (.iload 8, 2) := by decide +kernel
theorem dL_takes_205 : decode cL_takes 205 = .ok (.invokevirtual 55, 3) := by decide +kernel
theorem dL_takes_208 : decode cL_takes 208 = .ok (.aload 5, 2) := by decide +kernel
theorem dL_takes_210 : decode cL_takes 210 = .ok (.iload 9, 2) := by decide +kernel
theorem dL_takes_212 : decode cL_takes 212 = .ok (.iaload, 1) := by decide +kernel
theorem dL_takes_213 : decode cL_takes 213 = .ok (.if_icmp .ne 7, 3) := by decide +kernel
theorem dL_takes_216 : decode cL_takes 216 = .ok (.iconst 1, 1) := by decide +kernel
theorem dL_takes_217 : decode cL_takes 217 = .ok (.goto 4, 3) := by decide +kernel
theorem dL_takes_220 : decode cL_takes 220 = .ok (.iconst 0, 1) := by decide +kernel
theorem dL_takes_221 : decode cL_takes 221 = .ok (.ireturn, 1) := by decide +kernel
theorem dL_takes_222 : decode cL_takes 222 = .ok (.iload_n 1, 1) := by decide +kernel
theorem dL_takes_223 : decode cL_takes 223 = .ok (.bipush 6, 2) := by decide +kernel
theorem dL_takes_225 : decode cL_takes 225 = .ok (.ishr, 1) := by decide +kernel
theorem dL_takes_226 : decode cL_takes 226 = .ok (.aload_n 3, 1) := by decide +kernel
theorem dL_takes_227 : decode cL_takes 227 = .ok (.iconst 2, 1) := by decide +kernel
theorem dL_takes_228 : decode cL_takes 228 = .ok (.iaload, 1) := by decide +kernel
theorem dL_takes_229 : decode cL_takes 229 = .ok (.invokestatic 14, 3) := by decide +kernel
theorem dL_takes_232 : decode cL_takes 232 = .ok (.istore 9, 2) := by decide +kernel
theorem dL_takes_234 : decode cL_takes 234 = .ok (.aload 4, 2) := by decide +kernel
theorem dL_takes_236 : decode cL_takes 236 = .ok (.bipush 7, 2) := by decide +kernel
theorem dL_takes_238 : decode cL_takes 238 = .ok (.iload 7, 2) := by decide +kernel
theorem dL_takes_240 : decode cL_takes 240 = .ok (.imul, 1) := by decide +kernel
theorem dL_takes_241 : decode cL_takes 241 = .ok (.iconst 1, 1) := by decide +kernel
theorem dL_takes_242 : decode cL_takes 242 = .ok (.iadd, 1) := by decide +kernel
theorem dL_takes_243 : decode cL_takes 243 = .ok (.iaload, 1) := by decide +kernel
theorem dL_takes_244 : decode cL_takes 244 = .ok (.istore 10, 2) := by decide +kernel
theorem dL_takes_246 : decode cL_takes 246 = .ok (.iload 9, 2) := by decide +kernel
theorem dL_takes_248 : decode cL_takes 248 = .ok (.iload 7, 2) := by decide +kernel
theorem dL_takes_250 : decode cL_takes 250 = .ok (.if_icmp .eq 24, 3) := by decide +kernel
theorem dL_takes_253 : decode cL_takes 253 = .ok (.aload 4, 2) := by decide +kernel
theorem dL_takes_255 : decode cL_takes 255 = .ok (.bipush 7, 2) := by decide +kernel
theorem dL_takes_257 : decode cL_takes 257 = .ok (.iload 9, 2) := by decide +kernel
theorem dL_takes_259 : decode cL_takes 259 = .ok (.imul, 1) := by decide +kernel
theorem dL_takes_260 : decode cL_takes 260 = .ok (.iaload, 1) := by decide +kernel
theorem dL_takes_261 : decode cL_takes 261 = .ok (.aload 4, 2) := by decide +kernel
theorem dL_takes_263 : decode cL_takes 263 = .ok (.iload 9, 2) := by decide +kernel
theorem dL_takes_265 : decode cL_takes 265 = .ok (.invokestatic 8, 3) := by decide +kernel
theorem dL_takes_268 : decode cL_takes 268 = .ok (.isub, 1) := by decide +kernel
theorem dL_takes_269 : decode cL_takes 269 = .ok (.iload 8, 2) := by decide +kernel
theorem dL_takes_271 : decode cL_takes 271 = .ok (.if_icmp .ge 5, 3) := by decide +kernel
theorem dL_takes_274 : decode cL_takes 274 = .ok (.iconst 1, 1) := by decide +kernel
theorem dL_takes_275 : decode cL_takes 275 = .ok (.ireturn, 1) := by decide +kernel
theorem dL_takes_276 : decode cL_takes 276 = .ok (.aload 4, 2) := by decide +kernel
theorem dL_takes_278 : decode cL_takes 278 = .ok (.iload 7, 2) := by decide +kernel
theorem dL_takes_280 : decode cL_takes 280 = .ok (.iload 8, 2) := by decide +kernel
theorem dL_takes_282 : decode cL_takes 282 = .ok (.aload 6, 2) := by decide +kernel
theorem dL_takes_284 : decode cL_takes 284 = .ok (.invokestatic 51, 3) := by decide +kernel
theorem dL_takes_287 : decode cL_takes 287 = .ok (.iconst 0, 1) := by decide +kernel
theorem dL_takes_288 : decode cL_takes 288 = .ok (.istore 11, 2) := by decide +kernel
theorem dL_takes_290 : decode cL_takes 290 = .ok (.iload 11, 2) := by decide +kernel
theorem dL_takes_292 : decode cL_takes 292 = .ok (.iconst 5, 1) := by decide +kernel
theorem dL_takes_293 : decode cL_takes 293 = .ok (.if_icmp .ge 46, 3) := by decide +kernel
theorem dL_takes_296 : decode cL_takes 296 = .ok (.aload 4, 2) := by decide +kernel
theorem dL_takes_298 : decode cL_takes 298 = .ok (.bipush 7, 2) := by decide +kernel
theorem dL_takes_300 : decode cL_takes 300 = .ok (.iload 7, 2) := by decide +kernel
theorem dL_takes_302 : decode cL_takes 302 = .ok (.imul, 1) := by decide +kernel
theorem dL_takes_303 : decode cL_takes 303 = .ok (.iconst 2, 1) := by decide +kernel
theorem dL_takes_304 : decode cL_takes 304 = .ok (.iadd, 1) := by decide +kernel
theorem dL_takes_305 : decode cL_takes 305 = .ok (.iload 11, 2) := by decide +kernel
theorem dL_takes_307 : decode cL_takes 307 = .ok (.iadd, 1) := by decide +kernel
theorem dL_takes_308 : decode cL_takes 308 = .ok (.dup2, 1) := by decide +kernel
theorem dL_takes_309 : decode cL_takes 309 = .ok (.iaload, 1) := by decide +kernel
theorem dL_takes_310 : decode cL_takes 310 = .ok (.aload 6, 2) := by decide +kernel
theorem dL_takes_312 : decode cL_takes 312 = .ok (.iload 11, 2) := by decide +kernel
theorem dL_takes_314 : decode cL_takes 314 = .ok (.iaload, 1) := by decide +kernel
theorem dL_takes_315 : decode cL_takes 315 = .ok (.isub, 1) := by decide +kernel
theorem dL_takes_316 : decode cL_takes 316 = .ok (.iastore, 1) := by decide +kernel
theorem dL_takes_317 : decode cL_takes 317 = .ok (.aload 4, 2) := by decide +kernel
theorem dL_takes_319 : decode cL_takes 319 = .ok (.iload 9, 2) := by decide +kernel
theorem dL_takes_321 : decode cL_takes 321 = .ok (.iload 11, 2) := by decide +kernel
theorem dL_takes_323 : decode cL_takes 323 = .ok (.aload 6, 2) := by decide +kernel
theorem dL_takes_325 : decode cL_takes 325 = .ok (.iload 11, 2) := by decide +kernel
theorem dL_takes_327 : decode cL_takes 327 = .ok (.iaload, 1) := by decide +kernel
theorem dL_takes_328 : decode cL_takes 328 = .ok (.iload 10, 2) := by decide +kernel
theorem dL_takes_330 : decode cL_takes 330 = .ok (.invokestatic 34, 3) := by decide +kernel
theorem dL_takes_333 : decode cL_takes 333 = .ok (.iinc 11 1, 3) := by decide +kernel
theorem dL_takes_336 : decode cL_takes 336 = .ok (.goto (-46), 3) := by decide +kernel
theorem dL_takes_339 : decode cL_takes 339 = .ok (.aload_n 0, 1) := by decide +kernel
theorem dL_takes_340 : decode cL_takes 340 = .ok (.iload 7, 2) := by decide +kernel
theorem dL_takes_342 : decode cL_takes 342 = .ok (.iload 9, 2) := by decide +kernel
theorem dL_takes_344 : decode cL_takes 344 = .ok (.iload 8, 2) := by decide +kernel
theorem dL_takes_346 : decode cL_takes 346 = .ok (.iconst 1, 1) := by decide +kernel
theorem dL_takes_347 : decode cL_takes 347 = .ok (.invokevirtual 58, 3) := by decide +kernel
theorem dL_takes_350 : decode cL_takes 350 = .ok (.aload 4, 2) := by decide +kernel
theorem dL_takes_352 : decode cL_takes 352 = .ok (.iload 9, 2) := by decide +kernel
theorem dL_takes_354 : decode cL_takes 354 = .ok (.invokestatic 8, 3) := by decide +kernel
theorem dL_takes_357 : decode cL_takes 357 = .ok (.if_icmp .ne 7, 3) := by decide +kernel
theorem dL_takes_360 : decode cL_takes 360 = .ok (.iconst 1, 1) := by decide +kernel
theorem dL_takes_361 : decode cL_takes 361 = .ok (.goto 4, 3) := by decide +kernel
theorem dL_takes_364 : decode cL_takes 364 = .ok (.iconst 0, 1) := by decide +kernel
theorem dL_takes_365 : decode cL_takes 365 = .ok (.ireturn, 1) := by decide +kernel
theorem dL_act_0 : decode cL_act 0 = .ok (.iload_n 1, 1) := by decide +kernel
theorem dL_act_1 : decode cL_act 1 = .ok (.bipush 20, 2) := by decide +kernel
theorem dL_act_3 : decode cL_act 3 = .ok (.ishr, 1) := by decide +kernel
theorem dL_act_4 : decode cL_act 4 = .ok (.bipush 14, 2) := by decide +kernel
theorem dL_act_6 : decode cL_act 6 = .ok (.invokestatic 14, 3) := by decide +kernel
theorem dL_act_9 : decode cL_act 9 = .ok (.istore 13, 2) := by decide +kernel
theorem dL_act_11 : decode cL_act 11 = .ok (.iload 13, 2) := by decide +kernel
theorem dL_act_13 : decode cL_act 13 = .ok (.iconst 4, 1) := by decide +kernel
theorem dL_act_14 : decode cL_act 14 = .ok (.if_icmp .ge 189, 3) := by decide +kernel
theorem dL_act_17 : decode cL_act 17 = .ok (.aload_n 3, 1) := by decide +kernel
theorem dL_act_18 : decode cL_act 18 = .ok (.iconst 1, 1) := by decide +kernel
theorem dL_act_19 : decode cL_act 19 = .ok (.iaload, 1) := by decide +kernel
theorem dL_act_20 : decode cL_act 20 = .ok (.bipush 10, 2) := by decide +kernel
theorem dL_act_22 : decode cL_act 22 = .ok (.if_icmp .ge 181, 3) := by decide +kernel
theorem dL_act_25 : decode cL_act 25 = .ok (.aload_n 3, 1) := by decide +kernel
theorem dL_act_26 : decode cL_act 26 = .ok (.iconst 1, 1) := by decide +kernel
theorem dL_act_27 : decode cL_act 27 = .ok (.dup2, 1) := by decide +kernel
theorem dL_act_28 : decode cL_act 28 = .ok (.iaload, 1) := by decide +kernel
theorem dL_act_29 : decode cL_act 29 = .ok (.dup_x2, 1) := by decide +kernel
theorem dL_act_30 : decode cL_act 30 = .ok (.iconst 1, 1) := by decide +kernel
theorem dL_act_31 : decode cL_act 31 = .ok (.iadd, 1) := by decide +kernel
theorem dL_act_32 : decode cL_act 32 = .ok (.iastore, 1) := by decide +kernel
theorem dL_act_33 : decode cL_act 33 = .ok (.istore 14, 2) := by decide +kernel
theorem dL_act_35 : decode cL_act 35 = .ok (.aload 5, 2) := by decide +kernel
theorem dL_act_37 : decode cL_act 37 = .ok (.bipush 6, 2) := by decide +kernel
theorem dL_act_39 : decode cL_act 39 = .ok (.iload 14, 2) := by decide +kernel
theorem dL_act_41 : decode cL_act 41 = .ok (.imul, 1) := by decide +kernel
theorem dL_act_42 : decode cL_act 42 = .ok (.iload_n 2, 1) := by decide +kernel
theorem dL_act_43 : decode cL_act 43 = .ok (.aload_n 3, 1) := by decide +kernel
theorem dL_act_44 : decode cL_act 44 = .ok (.iconst 0, 1) := by decide +kernel
theorem dL_act_45 : decode cL_act 45 = .ok (.iaload, 1) := by decide +kernel
theorem dL_act_46 : decode cL_act 46 = .ok (.invokestatic 14, 3) := by decide +kernel
theorem dL_act_49 : decode cL_act 49 = .ok (.iastore, 1) := by decide +kernel
theorem dL_act_50 : decode cL_act 50 = .ok (.aload 5, 2) := by decide +kernel
theorem dL_act_52 : decode cL_act 52 = .ok (.bipush 6, 2) := by decide +kernel
theorem dL_act_54 : decode cL_act 54 = .ok (.iload 14, 2) := by decide +kernel
theorem dL_act_56 : decode cL_act 56 = .ok (.imul, 1) := by decide +kernel
theorem dL_act_57 : decode cL_act 57 = .ok (.iconst 1, 1) := by decide +kernel
theorem dL_act_58 : decode cL_act 58 = .ok (.iadd, 1) := by decide +kernel
theorem dL_act_59 : decode cL_act 59 = .ok (.iload_n 2, 1) := by decide +kernel
theorem dL_act_60 : decode cL_act 60 = .ok (.iconst 3, 1) := by decide +kernel
theorem dL_act_61 : decode cL_act 61 = .ok (.ishr, 1) := by decide +kernel
theorem dL_act_62 : decode cL_act 62 = .ok (.iconst 5, 1) := by decide +kernel
theorem dL_act_63 : decode cL_act 63 = .ok (.invokestatic 14, 3) := by decide +kernel
theorem dL_act_66 : decode cL_act 66 = .ok (.iastore, 1) := by decide +kernel
theorem dL_act_67 : decode cL_act 67 = .ok (.aload 5, 2) := by decide +kernel
theorem dL_act_69 : decode cL_act 69 = .ok (.bipush 6, 2) := by decide +kernel
theorem dL_act_71 : decode cL_act 71 = .ok (.iload 14, 2) := by decide +kernel
theorem dL_act_73 : decode cL_act 73 = .ok (.imul, 1) := by decide +kernel
theorem dL_act_74 : decode cL_act 74 = .ok (.iconst 2, 1) := by decide +kernel
theorem dL_act_75 : decode cL_act 75 = .ok (.iadd, 1) := by decide +kernel
theorem dL_act_76 : decode cL_act 76 = .ok (.iconst 1, 1) := by decide +kernel
theorem dL_act_77 : decode cL_act 77 = .ok (.iload_n 2, 1) := by decide +kernel
theorem dL_act_78 : decode cL_act 78 = .ok (.bipush 6, 2) := by decide +kernel
theorem dL_act_80 : decode cL_act 80 = .ok (.ishr, 1) := by decide +kernel
theorem dL_act_81 : decode cL_act 81 = .ok (.sipush 2000, 3) := by decide +kernel
theorem dL_act_84 : decode cL_act 84 = .ok (.invokestatic 14, 3) := by decide +kernel
theorem dL_act_87 : decode cL_act 87 = .ok (.iadd, 1) := by decide +kernel
theorem dL_act_88 : decode cL_act 88 = .ok (.iastore, 1) := by decide +kernel
theorem dL_act_89 : decode cL_act 89 = .ok (.aload 5, 2) := by decide +kernel
theorem dL_act_91 : decode cL_act 91 = .ok (.bipush 6, 2) := by decide +kernel
theorem dL_act_93 : decode cL_act 93 = .ok (.iload 14, 2) := by decide +kernel
theorem dL_act_95 : decode cL_act 95 = .ok (.imul, 1) := by decide +kernel
theorem dL_act_96 : decode cL_act 96 = .ok (.iconst 3, 1) := by decide +kernel
theorem dL_act_97 : decode cL_act 97 = .ok (.iadd, 1) := by decide +kernel
theorem dL_act_98 : decode cL_act 98 = .ok (.iload_n 1, 1) := by decide +kernel
theorem dL_act_99 : decode cL_act 99 = .ok (.bipush 30, 2) := by decide +kernel
theorem dL_act_101 : decode cL_act 101 = .ok (.invokestatic 14, 3) := by decide +kernel
theorem dL_act_104 : decode cL_act 104 = .ok (.iastore, 1) := by decide +kernel
theorem dL_act_105 : decode cL_act 105 = .ok (.aload 5, 2) := by decide +kernel
theorem dL_act_107 : decode cL_act 107 = .ok (.bipush 6, 2) := by decide +kernel
theorem dL_act_109 : decode cL_act 109 = .ok (.iload 14, 2) := by decide +kernel
theorem dL_act_111 : decode cL_act 111 = .ok (.imul, 1) := by decide +kernel
theorem dL_act_112 : decode cL_act 112 = .ok (.iconst 4, 1) := by decide +kernel
theorem dL_act_113 : decode cL_act 113 = .ok (.iadd, 1) := by decide +kernel
theorem dL_act_114 : decode cL_act 114 = .ok (.sipush 500, 3) := by decide +kernel
theorem dL_act_117 : decode cL_act 117 = .ok (.iload_n 1, 1) := by decide +kernel
theorem dL_act_118 : decode cL_act 118 = .ok (.bipush 6, 2) := by decide +kernel
theorem dL_act_120 : decode cL_act 120 = .ok (.ishr, 1) := by decide +kernel
theorem dL_act_121 : decode cL_act 121 = .ok (.sipush 1001, 3) := by decide +kernel
theorem dL_act_124 : decode cL_act 124 = .ok (.invokestatic 14, 3) := by decide +kernel
theorem dL_act_127 : decode cL_act 127 = .ok (.iadd, 1) := by decide +kernel
theorem dL_act_128 : decode cL_act 128 = .ok (.iastore, 1) := by decide +kernel
theorem dL_act_129 : decode cL_act 129 = .ok (.aload 5, 2) := by decide +kernel
theorem dL_act_131 : decode cL_act 131 = .ok (.bipush 6, 2) := by decide +kernel
theorem dL_act_133 : decode cL_act 133 = .ok (.iload 14, 2) := by decide +kernel
theorem dL_act_135 : decode cL_act 135 = .ok (.imul, 1) := by decide +kernel
theorem dL_act_136 : decode cL_act 136 = .ok (.iconst 5, 1) := by decide +kernel
theorem dL_act_137 : decode cL_act 137 = .ok (.iadd, 1) := by decide +kernel
theorem dL_act_138 : decode cL_act 138 = .ok (.iconst 0, 1) := by decide +kernel
theorem dL_act_139 : decode cL_act 139 = .ok (.iastore, 1) := by decide +kernel
theorem dL_act_140 : decode cL_act 140 = .ok (.aload_n 0, 1) := by decide +kernel
theorem dL_act_141 : decode cL_act 141 = .ok (.aload 5, 2) := by decide +kernel
theorem dL_act_143 : decode cL_act 143 = .ok (.bipush 6, 2) := by decide +kernel
theorem dL_act_145 : decode cL_act 145 = .ok (.iload 14, 2) := by decide +kernel
theorem dL_act_147 : decode cL_act 147 = .ok (.imul, 1) := by decide +kernel
theorem dL_act_148 : decode cL_act 148 = .ok (.iaload, 1) := by decide +kernel
theorem dL_act_149 : decode cL_act 149 = .ok (.aload 5, 2) := by decide +kernel
theorem dL_act_151 : decode cL_act 151 = .ok (.bipush 6, 2) := by decide +kernel
theorem dL_act_153 : decode cL_act 153 = .ok (.iload 14, 2) := by decide +kernel
theorem dL_act_155 : decode cL_act 155 = .ok (.imul, 1) := by decide +kernel
theorem dL_act_156 : decode cL_act 156 = .ok (.iconst 1, 1) := by decide +kernel
theorem dL_act_157 : decode cL_act 157 = .ok (.iadd, 1) := by decide +kernel
theorem dL_act_158 : decode cL_act 158 = .ok (.iaload, 1) := by decide +kernel
theorem dL_act_159 : decode cL_act 159 = .ok (.aload 5, 2) := by decide +kernel
theorem dL_act_161 : decode cL_act 161 = .ok (.bipush 6, 2) := by decide +kernel
theorem dL_act_163 : decode cL_act 163 = .ok (.iload 14, 2) := by decide +kernel
theorem dL_act_165 : decode cL_act 165 = .ok (.imul, 1) := by decide +kernel
theorem dL_act_166 : decode cL_act 166 = .ok (.iconst 2, 1) := by decide +kernel
theorem dL_act_167 : decode cL_act 167 = .ok (.iadd, 1) := by decide +kernel
theorem dL_act_168 : decode cL_act 168 = .ok (.iaload, 1) := by decide +kernel
theorem dL_act_169 : decode cL_act 169 = .ok (.aload 5, 2) := by decide +kernel
theorem dL_act_171 : decode cL_act 171 = .ok (.bipush 6, 2) := by decide +kernel
theorem dL_act_173 : decode cL_act 173 = .ok (.iload 14, 2) := by decide +kernel
theorem dL_act_175 : decode cL_act 175 = .ok (.imul, 1) := by decide +kernel
theorem dL_act_176 : decode cL_act 176 = .ok (.iconst 3, 1) := by decide +kernel
theorem dL_act_177 : decode cL_act 177 = .ok (.iadd, 1) := by decide +kernel
theorem dL_act_178 : decode cL_act 178 = .ok (.iaload, 1) := by decide +kernel
theorem dL_act_179 : decode cL_act 179 = .ok (.aload 5, 2) := by decide +kernel
theorem dL_act_181 : decode cL_act 181 = .ok (.bipush 6, 2) := by decide +kernel
theorem dL_act_183 : decode cL_act 183 = .ok (.iload 14, 2) := by decide +kernel
theorem dL_act_185 : decode cL_act 185 = .ok (.imul, 1) := by decide +kernel
theorem dL_act_186 : decode cL_act 186 = .ok (.iconst 4, 1) := by decide +kernel
theorem dL_act_187 : decode cL_act 187 = .ok (.iadd, 1) := by decide +kernel
theorem dL_act_188 : decode cL_act 188 = .ok (.iaload, 1) := by decide +kernel
theorem dL_act_189 : decode cL_act 189 = .ok (.invokevirtual 62, 3) := by decide +kernel
theorem dL_act_192 : decode cL_act 192 = .ok (.iload 14, 2) := by decide +kernel
theorem dL_act_194 : decode cL_act 194 = .ok (.if_icmp .ne 7, 3) := by decide +kernel
theorem dL_act_197 : decode cL_act 197 = .ok (.iconst 1, 1) := by decide +kernel
theorem dL_act_198 : decode cL_act 198 = .ok (.goto 4, 3) := by decide +kernel
theorem dL_act_201 : decode cL_act 201 = .ok (.iconst 0, 1) := by decide +kernel
theorem dL_act_202 : decode cL_act 202 = .ok (.ireturn, 1) := by decide +kernel
theorem dL_act_203 : decode cL_act 203 = .ok (.iload 13, 2) := by decide +kernel
theorem dL_act_205 : decode cL_act 205 = .ok (.bipush 8, 2) := by decide +kernel
theorem dL_act_207 : decode cL_act 207 = .ok (.if_icmp .ge 25, 3) := by decide +kernel
theorem dL_act_210 : decode cL_act 210 = .ok (.aload_n 0, 1) := by decide +kernel
theorem dL_act_211 : decode cL_act 211 = .ok (.iload_n 1, 1) := by decide +kernel
theorem dL_act_212 : decode cL_act 212 = .ok (.iload_n 2, 1) := by decide +kernel
theorem dL_act_213 : decode cL_act 213 = .ok (.aload_n 3, 1) := by decide +kernel
theorem dL_act_214 : decode cL_act 214 = .ok (.aload 4, 2) := by decide +kernel
theorem dL_act_216 : decode cL_act 216 = .ok (.aload 5, 2) := by decide +kernel
theorem dL_act_218 : decode cL_act 218 = .ok (.aload 6, 2) := by decide +kernel
theorem dL_act_220 : decode cL_act 220 = .ok (.aload 7, 2) := by decide +kernel
theorem dL_act_222 : decode cL_act 222 = .ok (.aload 9, 2) := by decide +kernel
theorem dL_act_224 : decode cL_act 224 = .ok (.aload 10, 2) := by decide +kernel
theorem dL_act_226 : decode cL_act 226 = .ok (.aload 11, 2) := by decide +kernel
theorem dL_act_228 : decode cL_act 228 = .ok (.invokestatic 66, 3) := by decide +kernel
theorem dL_act_231 : decode cL_act 231 = .ok (.ireturn, 1) := by decide +kernel
theorem dL_act_232 : decode cL_act 232 = .ok (.iload 13, 2) := by decide +kernel
theorem dL_act_234 : decode cL_act 234 = .ok (.bipush 8, 2) := by decide +kernel
theorem dL_act_236 : decode cL_act 236 = .ok (.if_icmp .ne 24, 3) := by decide +kernel
theorem dL_act_239 : decode cL_act 239 = .ok (.aload_n 0, 1) := by decide +kernel
theorem dL_act_240 : decode cL_act 240 = .ok (.iload_n 2, 1) := by decide +kernel
theorem dL_act_241 : decode cL_act 241 = .ok (.aload_n 3, 1) := by decide +kernel
theorem dL_act_242 : decode cL_act 242 = .ok (.aload 5, 2) := by decide +kernel
theorem dL_act_244 : decode cL_act 244 = .ok (.aload 6, 2) := by decide +kernel
theorem dL_act_246 : decode cL_act 246 = .ok (.aload 7, 2) := by decide +kernel
theorem dL_act_248 : decode cL_act 248 = .ok (.aload 8, 2) := by decide +kernel
theorem dL_act_250 : decode cL_act 250 = .ok (.aload 9, 2) := by decide +kernel
theorem dL_act_252 : decode cL_act 252 = .ok (.aload 10, 2) := by decide +kernel
theorem dL_act_254 : decode cL_act 254 = .ok (.aload 11, 2) := by decide +kernel
theorem dL_act_256 : decode cL_act 256 = .ok (.invokestatic 70, 3) := by decide +kernel
theorem dL_act_259 : decode cL_act 259 = .ok (.ireturn, 1) := by decide +kernel
theorem dL_act_260 : decode cL_act 260 = .ok (.iload 13, 2) := by decide +kernel
theorem dL_act_262 : decode cL_act 262 = .ok (.bipush 11, 2) := by decide +kernel
theorem dL_act_264 : decode cL_act 264 = .ok (.if_icmp .ge 17, 3) := by decide +kernel
theorem dL_act_267 : decode cL_act 267 = .ok (.aload_n 0, 1) := by decide +kernel
theorem dL_act_268 : decode cL_act 268 = .ok (.iload_n 1, 1) := by decide +kernel
theorem dL_act_269 : decode cL_act 269 = .ok (.iload_n 2, 1) := by decide +kernel
theorem dL_act_270 : decode cL_act 270 = .ok (.aload_n 3, 1) := by decide +kernel
theorem dL_act_271 : decode cL_act 271 = .ok (.aload 10, 2) := by decide +kernel
theorem dL_act_273 : decode cL_act 273 = .ok (.aload 11, 2) := by decide +kernel
theorem dL_act_275 : decode cL_act 275 = .ok (.aload 12, 2) := by decide +kernel
theorem dL_act_277 : decode cL_act 277 = .ok (.invokestatic 74, 3) := by decide +kernel
theorem dL_act_280 : decode cL_act 280 = .ok (.ireturn, 1) := by decide +kernel
theorem dL_act_281 : decode cL_act 281 = .ok (.iload 13, 2) := by decide +kernel
theorem dL_act_283 : decode cL_act 283 = .ok (.bipush 11, 2) := by decide +kernel
theorem dL_act_285 : decode cL_act 285 = .ok (.if_icmp .ne 139, 3) := by decide +kernel
theorem dL_act_288 : decode cL_act 288 = .ok (.iconst 1, 1) := by decide +kernel
theorem dL_act_289 : decode cL_act 289 = .ok (.iload_n 2, 1) := by decide +kernel
theorem dL_act_290 : decode cL_act 290 = .ok (.bipush 9, 2) := by decide +kernel
theorem dL_act_292 : decode cL_act 292 = .ok (.invokestatic 14, 3) := by decide +kernel
theorem dL_act_295 : decode cL_act 295 = .ok (.iadd, 1) := by decide +kernel
theorem dL_act_296 : decode cL_act 296 = .ok (.istore 14, 2) := by decide +kernel
theorem dL_act_298 : decode cL_act 298 = .ok (.iconst 0, 1) := by decide +kernel
theorem dL_act_299 : decode cL_act 299 = .ok (.istore 15, 2) := by decide +kernel
theorem dL_act_301 : decode cL_act 301 = .ok (.aload_n 3, 1) := by decide +kernel
theorem dL_act_302 : decode cL_act 302 = .ok (.bipush 6, 2) := by decide +kernel
theorem dL_act_304 : decode cL_act 304 = .ok (.dup2, 1) := by decide +kernel
theorem dL_act_305 : decode cL_act 305 = .ok (.iaload, 1) := by decide +kernel
theorem dL_act_306 : decode cL_act 306 = .ok (.iload 14, 2) := by decide +kernel
theorem dL_act_308 : decode cL_act 308 = .ok (.iadd, 1) := by decide +kernel
theorem dL_act_309 : decode cL_act 309 = .ok (.iastore, 1) := by decide +kernel
theorem dL_act_310 : decode cL_act 310 = .ok (.iconst 0, 1) := by decide +kernel
theorem dL_act_311 : decode cL_act 311 = .ok (.istore 16, 2) := by decide +kernel
theorem dL_act_313 : decode cL_act 313 = .ok (.iload 16, 2) := by decide +kernel
theorem dL_act_315 : decode cL_act 315 = .ok (.iload 14, 2) := by decide +kernel
theorem dL_act_317 : decode cL_act 317 = .ok (.if_icmp .ge 90, 3) := by decide +kernel
theorem dL_act_320 : decode cL_act 320 = .ok (.iconst 0, 1) := by decide +kernel
theorem dL_act_321 : decode cL_act 321 = .ok (.istore 17, 2) := by decide +kernel
theorem dL_act_323 : decode cL_act 323 = .ok (.iload 17, 2) := by decide +kernel
theorem dL_act_325 : decode cL_act 325 = .ok (.aload_n 3, 1) := by decide +kernel
theorem dL_act_326 : decode cL_act 326 = .ok (.iconst 2, 1) := by decide +kernel
theorem dL_act_327 : decode cL_act 327 = .ok (.iaload, 1) := by decide +kernel
theorem dL_act_328 : decode cL_act 328 = .ok (.if_icmp .ge 73, 3) := by decide +kernel
theorem dL_act_331 : decode cL_act 331 = .ok (.iconst 0, 1) := by decide +kernel
theorem dL_act_332 : decode cL_act 332 = .ok (.istore 18, 2) := by decide +kernel
theorem dL_act_334 : decode cL_act 334 = .ok (.iload 18, 2) := by decide +kernel
theorem dL_act_336 : decode cL_act 336 = .ok (.iconst 5, 1) := by decide +kernel
theorem dL_act_337 : decode cL_act 337 = .ok (.if_icmp .ge 58, 3) := by decide +kernel
theorem dL_act_340 : decode cL_act 340 = .ok (.aload 10, 2) := by decide +kernel
theorem dL_act_342 : decode cL_act 342 = .ok (.bipush 7, 2) := by decide +kernel
theorem dL_act_344 : decode cL_act 344 = .ok (.iload 17, 2) := by decide +kernel
theorem dL_act_346 : decode cL_act 346 = .ok (.imul, 1) := by decide +kernel
theorem dL_act_347 : decode cL_act 347 = .ok (.iconst 2, 1) := by decide +kernel
theorem dL_act_348 : decode cL_act 348 = .ok (.iadd, 1) := by decide +kernel
theorem dL_act_349 : decode cL_act 349 = .ok (.iload 18, 2) := by decide +kernel
theorem dL_act_351 : decode cL_act 351 = .ok (.iadd, 1) := by decide +kernel
theorem dL_act_352 : decode cL_act 352 = .ok (.iaload, 1) := by decide +kernel
theorem dL_act_353 : decode cL_act 353 = .ok (.aload_n 3, 1) := by decide +kernel
theorem dL_act_354 : decode cL_act 354 = .ok (.bipush 11, 2) := by decide +kernel
theorem dL_act_356 : decode cL_act 356 = .ok (.iaload, 1) := by decide +kernel
theorem dL_act_357 : decode cL_act 357 = .ok (.imul, 1) := by decide +kernel
theorem dL_act_358 : decode cL_act 358 = .ok (.sipush 1000, 3) := by decide +kernel
theorem dL_act_361 : decode cL_act 361 = .ok (.idiv, 1) := by decide +kernel
theorem dL_act_362 : decode cL_act 362 = .ok (.istore 19, 2) := by decide +kernel
theorem dL_act_364 : decode cL_act 364 = .ok (.aload 10, 2) := by decide +kernel
theorem dL_act_366 : decode cL_act 366 = .ok (.bipush 7, 2) := by decide +kernel
theorem dL_act_368 : decode cL_act 368 = .ok (.iload 17, 2) := by decide +kernel
theorem dL_act_370 : decode cL_act 370 = .ok (.imul, 1) := by decide +kernel
theorem dL_act_371 : decode cL_act 371 = .ok (.iconst 2, 1) := by decide +kernel
theorem dL_act_372 : decode cL_act 372 = .ok (.iadd, 1) := by decide +kernel
theorem dL_act_373 : decode cL_act 373 = .ok (.iload 18, 2) := by decide +kernel
theorem dL_act_375 : decode cL_act 375 = .ok (.iadd, 1) := by decide +kernel
theorem dL_act_376 : decode cL_act 376 = .ok (.dup2, 1) := by decide +kernel
theorem dL_act_377 : decode cL_act 377 = .ok (.iaload, 1) := by decide +kernel
theorem dL_act_378 : decode cL_act 378 = .ok (.iload 19, 2) := by decide +kernel
theorem dL_act_380 : decode cL_act 380 = .ok (.isub, 1) := by decide +kernel
theorem dL_act_381 : decode cL_act 381 = .ok (.iastore, 1) := by decide +kernel
theorem dL_act_382 : decode cL_act 382 = .ok (.iload 15, 2) := by decide +kernel
theorem dL_act_384 : decode cL_act 384 = .ok (.iload 19, 2) := by decide +kernel
theorem dL_act_386 : decode cL_act 386 = .ok (.iadd, 1) := by decide +kernel
theorem dL_act_387 : decode cL_act 387 = .ok (.istore 15, 2) := by decide +kernel
theorem dL_act_389 : decode cL_act 389 = .ok (.iinc 18 1, 3) := by decide +kernel
theorem dL_act_392 : decode cL_act 392 = .ok (.goto (-58), 3) := by decide +kernel
theorem dL_act_395 : decode cL_act 395 = .ok (.iinc 17 1, 3) := by decide +kernel
theorem dL_act_398 : decode cL_act 398 = .ok (.goto (-75), 3) := by decide +kernel
theorem dL_act_401 : decode cL_act 401 = .ok (.iinc 16 1, 3) := by decide +kernel
theorem dL_act_404 : decode cL_act 404 = .ok (.goto (-91), 3) := by decide +kernel
theorem dL_act_407 : decode cL_act 407 = .ok (.aload_n 0, 1) := by decide +kernel
theorem dL_act_408 : decode cL_act 408 = .ok (.iload 14, 2) := by decide +kernel
theorem dL_act_410 : decode cL_act 410 = .ok (.invokevirtual 78, 3) := by decide +kernel
theorem dL_act_413 : decode cL_act 413 = .ok (.iload 15, 2) := by decide +kernel
theorem dL_act_415 : decode cL_act 415 = .ok (.if_icmp .ne 7, 3) := by decide +kernel
theorem dL_act_418 : decode cL_act 418 = .ok (.iconst 1, 1) := by decide +kernel
theorem dL_act_419 : decode cL_act 419 = .ok (.goto 4, 3) := by decide +kernel
theorem dL_act_422 : decode cL_act 422 = .ok (.iconst 0, 1) := by decide +kernel
theorem dL_act_423 : decode cL_act 423 = .ok (.ireturn, 1) := by decide +kernel
theorem dL_act_424 : decode cL_act 424 = .ok (.iload 13, 2) := by decide +kernel
theorem dL_act_426 : decode cL_act 426 = .ok (.bipush 12, 2) := by decide +kernel
theorem dL_act_428 : decode cL_act 428 = .ok (.if_icmp .ne 138, 3) := by decide +kernel
theorem dL_act_431 : decode cL_act 431 = .ok (.iload_n 2, 1) := by decide +kernel
theorem dL_act_432 : decode cL_act 432 = .ok (.bipush 7, 2) := by decide +kernel
theorem dL_act_434 : decode cL_act 434 = .ok (.invokestatic 14, 3) := by decide +kernel
theorem dL_act_437 : decode cL_act 437 = .ok (.istore 14, 2) := by decide +kernel
theorem dL_act_439 : decode cL_act 439 = .ok (.aload_n 3, 1) := by decide +kernel
theorem dL_act_440 : decode cL_act 440 = .ok (.bipush 8, 2) := by decide +kernel
theorem dL_act_442 : decode cL_act 442 = .ok (.iload 14, 2) := by decide +kernel
theorem dL_act_444 : decode cL_act 444 = .ok (.iadd, 1) := by decide +kernel
theorem dL_act_445 : decode cL_act 445 = .ok (.iaload, 1) := by decide +kernel
theorem dL_act_446 : decode cL_act 446 = .ok (.istore 15, 2) := by decide +kernel
theorem dL_act_448 : decode cL_act 448 = .ok (.aload_n 3, 1) := by decide +kernel
theorem dL_act_449 : decode cL_act 449 = .ok (.bipush 8, 2) := by decide +kernel
theorem dL_act_451 : decode cL_act 451 = .ok (.iload 14, 2) := by decide +kernel
theorem dL_act_453 : decode cL_act 453 = .ok (.iadd, 1) := by decide +kernel
theorem dL_act_454 : decode cL_act 454 = .ok (.iload 14, 2) := by decide +kernel
theorem dL_act_456 : decode cL_act 456 = .ok (.ifCond .eq 9, 3) := by decide +kernel
theorem dL_act_459 : decode cL_act 459 = .ok (.iload 14, 2) := by decide +kernel
theorem dL_act_461 : decode cL_act 461 = .ok (.iconst 3, 1) := by decide +kernel
theorem dL_act_462 : decode cL_act 462 = .ok (.if_icmp .ne 14, 3) := by decide +kernel
theorem dL_act_465 : decode cL_act 465 = .ok (.iload_n 2, 1) := by decide +kernel
theorem dL_act_466 : decode cL_act 466 = .ok (.iconst 3, 1) := by decide +kernel
theorem dL_act_467 : decode cL_act 467 = .ok (.ishr, 1) := by decide +kernel
theorem dL_act_468 : decode cL_act 468 = .ok (.bipush 51, 2) := by decide +kernel
theorem dL_act_470 : decode cL_act 470 = .ok (.invokestatic 14, 3) := by decide +kernel
theorem dL_act_473 : decode cL_act 473 = .ok (.goto 68, 3) := by decide +kernel
theorem dL_act_476 : decode cL_act 476 = .ok (.iload 14, 2) := by decide +kernel
theorem dL_act_478 : decode cL_act 478 = .ok (.iconst 1, 1) := by decide +kernel
theorem dL_act_479 : decode cL_act 479 = .ok (.if_icmp .ne 19, 3) := by decide +kernel
theorem dL_act_482 : decode cL_act 482 = .ok (.sipush 500, 3) := by decide +kernel
theorem dL_act_485 : decode cL_act 485 = .ok (.iload_n 2, 1) := by decide +kernel
theorem dL_act_486 : decode cL_act 486 = .ok (.iconst 3, 1) := by decide +kernel
theorem dL_act_487 : decode cL_act 487 = .ok (.ishr, 1) := by decide +kernel
theorem dL_act_488 : decode cL_act 488 = .ok (.sipush 501, 3) := by decide +kernel
theorem dL_act_491 : decode cL_act 491 = .ok (.invokestatic 14, 3) := by decide +kernel
theorem dL_act_494 : decode cL_act 494 = .ok (.iadd, 1) := by decide +kernel
theorem dL_act_495 : decode cL_act 495 = .ok (.goto 46, 3) := by decide +kernel
theorem dL_act_498 : decode cL_act 498 = .ok (.iload 14, 2) := by decide +kernel
theorem dL_act_500 : decode cL_act 500 = .ok (.iconst 2, 1) := by decide +kernel
theorem dL_act_501 : decode cL_act 501 = .ok (.if_icmp .ne 15, 3) := by decide +kernel
theorem dL_act_504 : decode cL_act 504 = .ok (.iload_n 2, 1) := by decide +kernel
theorem dL_act_505 : decode cL_act 505 = .ok (.iconst 3, 1) := by decide +kernel
theorem dL_act_506 : decode cL_act 506 = .ok (.ishr, 1) := by decide +kernel
theorem dL_act_507 : decode cL_act 507 = .ok (.sipush 1001, 3) := by decide +kernel
theorem dL_act_510 : decode cL_act 510 = .ok (.invokestatic 14, 3) := by decide +kernel
theorem dL_act_513 : decode cL_act 513 = .ok (.goto 28, 3) := by decide +kernel
theorem dL_act_516 : decode cL_act 516 = .ok (.iload 14, 2) := by decide +kernel
theorem dL_act_518 : decode cL_act 518 = .ok (.iconst 5, 1) := by decide +kernel
theorem dL_act_519 : decode cL_act 519 = .ok (.if_icmp .ne 13, 3) := by decide +kernel
theorem dL_act_522 : decode cL_act 522 = .ok (.iload_n 2, 1) := by decide +kernel
theorem dL_act_523 : decode cL_act 523 = .ok (.iconst 3, 1) := by decide +kernel
theorem dL_act_524 : decode cL_act 524 = .ok (.ishr, 1) := by decide +kernel
theorem dL_act_525 : decode cL_act 525 = .ok (.iconst 3, 1) := by decide +kernel
theorem dL_act_526 : decode cL_act 526 = .ok (.invokestatic 14, 3) := by decide +kernel
theorem dL_act_529 : decode cL_act 529 = .ok (.goto 12, 3) := by decide +kernel
theorem dL_act_532 : decode cL_act 532 = .ok (.iload_n 2, 1) := by decide +kernel
theorem dL_act_533 : decode cL_act 533 = .ok (.iconst 3, 1) := by decide +kernel
theorem dL_act_534 : decode cL_act 534 = .ok (.ishr, 1) := by decide +kernel
theorem dL_act_535 : decode cL_act 535 = .ok (.sipush 501, 3) := by decide +kernel
theorem dL_act_538 : decode cL_act 538 = .ok (.invokestatic 14, 3) := by decide +kernel
theorem dL_act_541 : decode cL_act 541 = .ok (.iastore, 1) := by decide +kernel
theorem dL_act_542 : decode cL_act 542 = .ok (.aload_n 0, 1) := by decide +kernel
theorem dL_act_543 : decode cL_act 543 = .ok (.iload 14, 2) := by decide +kernel
theorem dL_act_545 : decode cL_act 545 = .ok (.aload_n 3, 1) := by decide +kernel
theorem dL_act_546 : decode cL_act 546 = .ok (.bipush 8, 2) := by decide +kernel
theorem dL_act_548 : decode cL_act 548 = .ok (.iload 14, 2) := by decide +kernel
theorem dL_act_550 : decode cL_act 550 = .ok (.iadd, 1) := by decide +kernel
theorem dL_act_551 : decode cL_act 551 = .ok (.iaload, 1) := by decide +kernel
theorem dL_act_552 : decode cL_act 552 = .ok (.invokevirtual 81, 3) := by decide +kernel
theorem dL_act_555 : decode cL_act 555 = .ok (.iload 15, 2) := by decide +kernel
theorem dL_act_557 : decode cL_act 557 = .ok (.if_icmp .ne 7, 3) := by decide +kernel
theorem dL_act_560 : decode cL_act 560 = .ok (.iconst 1, 1) := by decide +kernel
theorem dL_act_561 : decode cL_act 561 = .ok (.goto 4, 3) := by decide +kernel
theorem dL_act_564 : decode cL_act 564 = .ok (.iconst 0, 1) := by decide +kernel
theorem dL_act_565 : decode cL_act 565 = .ok (.ireturn, 1) := by decide +kernel
theorem dL_act_566 : decode cL_act 566 = .ok (.iload_n 2, 1) := by decide +kernel
theorem dL_act_567 : decode cL_act 567 = .ok (.iconst 2, 1) := by decide +kernel
theorem dL_act_568 : decode cL_act 568 = .ok (.invokestatic 14, 3) := by decide +kernel
theorem dL_act_571 : decode cL_act 571 = .ok (.ifCond .ne 43, 3) := by decide +kernel
theorem dL_act_574 : decode cL_act 574 = .ok (.aload_n 3, 1) := by decide +kernel
theorem dL_act_575 : decode cL_act 575 = .ok (.iconst 4, 1) := by decide +kernel
theorem dL_act_576 : decode cL_act 576 = .ok (.iaload, 1) := by decide +kernel
theorem dL_act_577 : decode cL_act 577 = .ok (.istore 14, 2) := by decide +kernel
theorem dL_act_579 : decode cL_act 579 = .ok (.iload 14, 2) := by decide +kernel
theorem dL_act_581 : decode cL_act 581 = .ok (.ifCond .le 10, 3) := by decide +kernel
theorem dL_act_584 : decode cL_act 584 = .ok (.aload_n 3, 1) := by decide +kernel
theorem dL_act_585 : decode cL_act 585 = .ok (.iconst 5, 1) := by decide +kernel
theorem dL_act_586 : decode cL_act 586 = .ok (.dup2, 1) := by decide +kernel
theorem dL_act_587 : decode cL_act 587 = .ok (.iaload, 1) := by decide +kernel
theorem dL_act_588 : decode cL_act 588 = .ok (.iconst 1, 1) := by decide +kernel
theorem dL_act_589 : decode cL_act 589 = .ok (.iadd, 1) := by decide +kernel
theorem dL_act_590 : decode cL_act 590 = .ok (.iastore, 1) := by decide +kernel
theorem dL_act_591 : decode cL_act 591 = .ok (.aload_n 3, 1) := by decide +kernel
theorem dL_act_592 : decode cL_act 592 = .ok (.iconst 3, 1) := by decide +kernel
theorem dL_act_593 : decode cL_act 593 = .ok (.iconst (-1), 1) := by decide +kernel
theorem dL_act_594 : decode cL_act 594 = .ok (.iastore, 1) := by decide +kernel
theorem dL_act_595 : decode cL_act 595 = .ok (.aload_n 3, 1) := by decide +kernel
theorem dL_act_596 : decode cL_act 596 = .ok (.iconst 4, 1) := by decide +kernel
theorem dL_act_597 : decode cL_act 597 = .ok (.iconst 0, 1) := by decide +kernel
theorem dL_act_598 : decode cL_act 598 = .ok (.iastore, 1) := by decide +kernel
theorem dL_act_599 : decode cL_act 599 = .ok (.aload_n 0, 1) := by decide +kernel
theorem dL_act_600 : decode cL_act 600 = .ok (.invokevirtual 84, 3) := by decide +kernel
theorem dL_act_603 : decode cL_act 603 = .ok (.iload 14, 2) := by decide +kernel
theorem dL_act_605 : decode cL_act 605 = .ok (.if_icmp .ne 7, 3) := by decide +kernel
theorem dL_act_608 : decode cL_act 608 = .ok (.iconst 1, 1) := by decide +kernel
theorem dL_act_609 : decode cL_act 609 = .ok (.goto 4, 3) := by decide +kernel
theorem dL_act_612 : decode cL_act 612 = .ok (.iconst 0, 1) := by decide +kernel
theorem dL_act_613 : decode cL_act 613 = .ok (.ireturn, 1) := by decide +kernel
theorem dL_act_614 : decode cL_act 614 = .ok (.iload_n 2, 1) := by decide +kernel
theorem dL_act_615 : decode cL_act 615 = .ok (.iconst 2, 1) := by decide +kernel
theorem dL_act_616 : decode cL_act 616 = .ok (.ishr, 1) := by decide +kernel
theorem dL_act_617 : decode cL_act 617 = .ok (.iconst 5, 1) := by decide +kernel
theorem dL_act_618 : decode cL_act 618 = .ok (.invokestatic 14, 3) := by decide +kernel
theorem dL_act_621 : decode cL_act 621 = .ok (.istore 14, 2) := by decide +kernel
theorem dL_act_623 : decode cL_act 623 = .ok (.aload 4, 2) := by decide +kernel
theorem dL_act_625 : decode cL_act 625 = .ok (.iload 14, 2) := by decide +kernel
theorem dL_act_627 : decode cL_act 627 = .ok (.iaload, 1) := by decide +kernel
theorem dL_act_628 : decode cL_act 628 = .ok (.istore 15, 2) := by decide +kernel
theorem dL_act_630 : decode cL_act 630 = .ok (.aload 4, 2) := by decide +kernel
theorem dL_act_632 : decode cL_act 632 = .ok (.iload 14, 2) := by decide +kernel
theorem dL_act_634 : decode cL_act 634 = .ok (.bipush 50, 2) := by decide +kernel
theorem dL_act_636 : decode cL_act 636 = .ok (.iload_n 2, 1) := by decide +kernel
theorem dL_act_637 : decode cL_act 637 = .ok (.iconst 5, 1) := by decide +kernel
theorem dL_act_638 : decode cL_act 638 = .ok (.ishr, 1) := by decide +kernel
theorem dL_act_639 : decode cL_act 639 = .ok (.sipush 351, 3) := by decide +kernel
theorem dL_act_642 : decode cL_act 642 = .ok (.invokestatic 14, 3) := by decide +kernel
theorem dL_act_645 : decode cL_act 645 = .ok (.iadd, 1) := by decide +kernel
theorem dL_act_646 : decode cL_act 646 = .ok (.iastore, 1) := by decide +kernel
theorem dL_act_647 : decode cL_act 647 = .ok (.aload_n 0, 1) := by decide +kernel
theorem dL_act_648 : decode cL_act 648 = .ok (.iload 14, 2) := by decide +kernel
theorem dL_act_650 : decode cL_act 650 = .ok (.aload 4, 2) := by decide +kernel
theorem dL_act_652 : decode cL_act 652 = .ok (.iload 14, 2) := by decide +kernel
theorem dL_act_654 : decode cL_act 654 = .ok (.iaload, 1) := by decide +kernel
theorem dL_act_655 : decode cL_act 655 = .ok (.invokevirtual 88, 3) := by decide +kernel
theorem dL_act_658 : decode cL_act 658 = .ok (.iload 15, 2) := by decide +kernel
theorem dL_act_660 : decode cL_act 660 = .ok (.if_icmp .ne 7, 3) := by decide +kernel
theorem dL_act_663 : decode cL_act 663 = .ok (.iconst 1, 1) := by decide +kernel
theorem dL_act_664 : decode cL_act 664 = .ok (.goto 4, 3) := by decide +kernel
theorem dL_act_667 : decode cL_act 667 = .ok (.iconst 0, 1) := by decide +kernel
theorem dL_act_668 : decode cL_act 668 = .ok (.ireturn, 1) := by decide +kernel
theorem dL_agree_0 : decode cL_agree 0 = .ok (.iconst 0, 1) := by decide +kernel
theorem dL_agree_1 : decode cL_agree 1 = .ok (.istore 9, 2) := by decide +kernel
theorem dL_agree_3 : decode cL_agree 3 = .ok (.iconst 0, 1) := by decide +kernel
theorem dL_agree_4 : decode cL_agree 4 = .ok (.istore 10, 2) := by decide +kernel
theorem dL_agree_6 : decode cL_agree 6 = .ok (.iload 10, 2) := by decide +kernel
theorem dL_agree_8 : decode cL_agree 8 = .ok (.aload_n 1, 1) := by decide +kernel
theorem dL_agree_9 : decode cL_agree 9 = .ok (.iconst 1, 1) := by decide +kernel
theorem dL_agree_10 : decode cL_agree 10 = .ok (.iaload, 1) := by decide +kernel
theorem dL_agree_11 : decode cL_agree 11 = .ok (.if_icmp .ge 164, 3) := by decide +kernel
theorem dL_agree_14 : decode cL_agree 14 = .ok (.aload_n 2, 1) := by decide +kernel
theorem dL_agree_15 : decode cL_agree 15 = .ok (.bipush 6, 2) := by decide +kernel
theorem dL_agree_17 : decode cL_agree 17 = .ok (.iload 10, 2) := by decide +kernel
theorem dL_agree_19 : decode cL_agree 19 = .ok (.imul, 1) := by decide +kernel
theorem dL_agree_20 : decode cL_agree 20 = .ok (.iconst 5, 1) := by decide +kernel
theorem dL_agree_21 : decode cL_agree 21 = .ok (.iadd, 1) := by decide +kernel
theorem dL_agree_22 : decode cL_agree 22 = .ok (.iaload, 1) := by decide +kernel
theorem dL_agree_23 : decode cL_agree 23 = .ok (.istore 11, 2) := by decide +kernel
theorem dL_agree_25 : decode cL_agree 25 = .ok (.iload 11, 2) := by decide +kernel
theorem dL_agree_27 : decode cL_agree 27 = .ok (.ifCond .ne 6, 3) := by decide +kernel
theorem dL_agree_30 : decode cL_agree 30 = .ok (.iinc 9 1, 3) := by decide +kernel
theorem dL_agree_33 : decode cL_agree 33 = .ok (.aload_n 0, 1) := by decide +kernel
theorem dL_agree_34 : decode cL_agree 34 = .ok (.iload 10, 2) := by decide +kernel
theorem dL_agree_36 : decode cL_agree 36 = .ok (.iconst 4, 1) := by decide +kernel
theorem dL_agree_37 : decode cL_agree 37 = .ok (.invokevirtual 41, 3) := by decide +kernel
theorem dL_agree_40 : decode cL_agree 40 = .ok (.aload_n 2, 1) := by decide +kernel
theorem dL_agree_41 : decode cL_agree 41 = .ok (.bipush 6, 2) := by decide +kernel
theorem dL_agree_43 : decode cL_agree 43 = .ok (.iload 10, 2) := by decide +kernel
theorem dL_agree_45 : decode cL_agree 45 = .ok (.imul, 1) := by decide +kernel
theorem dL_agree_46 : decode cL_agree 46 = .ok (.iconst 3, 1) := by decide +kernel
theorem dL_agree_47 : decode cL_agree 47 = .ok (.iadd, 1) := by decide +kernel
theorem dL_agree_48 : decode cL_agree 48 = .ok (.iaload, 1) := by decide +kernel
theorem dL_agree_49 : decode cL_agree 49 = .ok (.invokestatic 31, 3) := by decide +kernel
theorem dL_agree_52 : decode cL_agree 52 = .ok (.if_icmp .ne 115, 3) := by decide +kernel
theorem dL_agree_55 : decode cL_agree 55 = .ok (.aload_n 0, 1) := by decide +kernel
theorem dL_agree_56 : decode cL_agree 56 = .ok (.iload 10, 2) := by decide +kernel
theorem dL_agree_58 : decode cL_agree 58 = .ok (.iconst 5, 1) := by decide +kernel
theorem dL_agree_59 : decode cL_agree 59 = .ok (.invokevirtual 41, 3) := by decide +kernel
theorem dL_agree_62 : decode cL_agree 62 = .ok (.iload 11, 2) := by decide +kernel
theorem dL_agree_64 : decode cL_agree 64 = .ok (.if_icmp .ne 103, 3) := by decide +kernel
theorem dL_agree_67 : decode cL_agree 67 = .ok (.aload_n 0, 1) := by decide +kernel
theorem dL_agree_68 : decode cL_agree 68 = .ok (.iload 10, 2) := by decide +kernel
theorem dL_agree_70 : decode cL_agree 70 = .ok (.bipush 6, 2) := by decide +kernel
theorem dL_agree_72 : decode cL_agree 72 = .ok (.invokevirtual 41, 3) := by decide +kernel
theorem dL_agree_75 : decode cL_agree 75 = .ok (.iload 11, 2) := by decide +kernel
theorem dL_agree_77 : decode cL_agree 77 = .ok (.ifCond .ne 7, 3) := by decide +kernel
theorem dL_agree_80 : decode cL_agree 80 = .ok (.iconst (-1), 1) := by decide +kernel
theorem dL_agree_81 : decode cL_agree 81 = .ok (.goto 7, 3) := by decide +kernel
theorem dL_agree_84 : decode cL_agree 84 = .ok (.aload_n 3, 1) := by decide +kernel
theorem dL_agree_85 : decode cL_agree 85 = .ok (.iload 10, 2) := by decide +kernel
theorem dL_agree_87 : decode cL_agree 87 = .ok (.iaload, 1) := by decide +kernel
theorem dL_agree_88 : decode cL_agree 88 = .ok (.if_icmp .ne 79, 3) := by decide +kernel
theorem dL_agree_91 : decode cL_agree 91 = .ok (.aload_n 0, 1) := by decide +kernel
theorem dL_agree_92 : decode cL_agree 92 = .ok (.iload 10, 2) := by decide +kernel
theorem dL_agree_94 : decode cL_agree 94 = .ok (.bipush 7, 2) := by decide +kernel
theorem dL_agree_96 : decode cL_agree 96 = .ok (.invokevirtual 41, 3) := by decide +kernel
theorem dL_agree_99 : decode cL_agree 99 = .ok (.iload 11, 2) := by decide +kernel
theorem dL_agree_101 : decode cL_agree 101 = .ok (.ifCond .ne 7, 3) := by decide +kernel
theorem dL_agree_104 : decode cL_agree 104 = .ok (.iconst (-1), 1) := by decide +kernel
theorem dL_agree_105 : decode cL_agree 105 = .ok (.goto 8, 3) := by decide +kernel
theorem dL_agree_108 : decode cL_agree 108 = .ok (.aload 4, 2) := by decide +kernel
theorem dL_agree_110 : decode cL_agree 110 = .ok (.iload 10, 2) := by decide +kernel
theorem dL_agree_112 : decode cL_agree 112 = .ok (.iaload, 1) := by decide +kernel
theorem dL_agree_113 : decode cL_agree 113 = .ok (.if_icmp .ne 54, 3) := by decide +kernel
theorem dL_agree_116 : decode cL_agree 116 = .ok (.aload_n 0, 1) := by decide +kernel
theorem dL_agree_117 : decode cL_agree 117 = .ok (.iload 10, 2) := by decide +kernel
theorem dL_agree_119 : decode cL_agree 119 = .ok (.bipush 8, 2) := by decide +kernel
theorem dL_agree_121 : decode cL_agree 121 = .ok (.invokevirtual 41, 3) := by decide +kernel
theorem dL_agree_124 : decode cL_agree 124 = .ok (.iload 11, 2) := by decide +kernel
theorem dL_agree_126 : decode cL_agree 126 = .ok (.iconst 2, 1) := by decide +kernel
theorem dL_agree_127 : decode cL_agree 127 = .ok (.if_icmp .ge 7, 3) := by decide +kernel
theorem dL_agree_130 : decode cL_agree 130 = .ok (.iconst (-1), 1) := by decide +kernel
theorem dL_agree_131 : decode cL_agree 131 = .ok (.goto 8, 3) := by decide +kernel
theorem dL_agree_134 : decode cL_agree 134 = .ok (.aload 5, 2) := by decide +kernel
theorem dL_agree_136 : decode cL_agree 136 = .ok (.iload 10, 2) := by decide +kernel
theorem dL_agree_138 : decode cL_agree 138 = .ok (.iaload, 1) := by decide +kernel
theorem dL_agree_139 : decode cL_agree 139 = .ok (.if_icmp .ne 28, 3) := by decide +kernel
theorem dL_agree_142 : decode cL_agree 142 = .ok (.aload_n 0, 1) := by decide +kernel
theorem dL_agree_143 : decode cL_agree 143 = .ok (.iload 10, 2) := by decide +kernel
theorem dL_agree_145 : decode cL_agree 145 = .ok (.bipush 9, 2) := by decide +kernel
theorem dL_agree_147 : decode cL_agree 147 = .ok (.invokevirtual 41, 3) := by decide +kernel
theorem dL_agree_150 : decode cL_agree 150 = .ok (.iload 11, 2) := by decide +kernel
theorem dL_agree_152 : decode cL_agree 152 = .ok (.ifCond .ne 7, 3) := by decide +kernel
theorem dL_agree_155 : decode cL_agree 155 = .ok (.iconst (-1), 1) := by decide +kernel
theorem dL_agree_156 : decode cL_agree 156 = .ok (.goto 8, 3) := by decide +kernel
theorem dL_agree_159 : decode cL_agree 159 = .ok (.aload 6, 2) := by decide +kernel
theorem dL_agree_161 : decode cL_agree 161 = .ok (.iload 10, 2) := by decide +kernel
theorem dL_agree_163 : decode cL_agree 163 = .ok (.iaload, 1) := by decide +kernel
theorem dL_agree_164 : decode cL_agree 164 = .ok (.if_icmp .eq 5, 3) := by decide +kernel
theorem dL_agree_167 : decode cL_agree 167 = .ok (.iconst 0, 1) := by decide +kernel
theorem dL_agree_168 : decode cL_agree 168 = .ok (.ireturn, 1) := by decide +kernel
theorem dL_agree_169 : decode cL_agree 169 = .ok (.iinc 10 1, 3) := by decide +kernel
theorem dL_agree_172 : decode cL_agree 172 = .ok (.goto (-166), 3) := by decide +kernel
theorem dL_agree_175 : decode cL_agree 175 = .ok (.iconst 0, 1) := by decide +kernel
theorem dL_agree_176 : decode cL_agree 176 = .ok (.istore 10, 2) := by decide +kernel
theorem dL_agree_178 : decode cL_agree 178 = .ok (.iconst 0, 1) := by decide +kernel
theorem dL_agree_179 : decode cL_agree 179 = .ok (.istore 11, 2) := by decide +kernel
theorem dL_agree_181 : decode cL_agree 181 = .ok (.iconst 0, 1) := by decide +kernel
theorem dL_agree_182 : decode cL_agree 182 = .ok (.istore 12, 2) := by decide +kernel
theorem dL_agree_184 : decode cL_agree 184 = .ok (.iload 12, 2) := by decide +kernel
theorem dL_agree_186 : decode cL_agree 186 = .ok (.aload_n 1, 1) := by decide +kernel
theorem dL_agree_187 : decode cL_agree 187 = .ok (.iconst 2, 1) := by decide +kernel
theorem dL_agree_188 : decode cL_agree 188 = .ok (.iaload, 1) := by decide +kernel
theorem dL_agree_189 : decode cL_agree 189 = .ok (.if_icmp .ge 137, 3) := by decide +kernel
theorem dL_agree_192 : decode cL_agree 192 = .ok (.aload 7, 2) := by decide +kernel
theorem dL_agree_194 : decode cL_agree 194 = .ok (.iload 12, 2) := by decide +kernel
theorem dL_agree_196 : decode cL_agree 196 = .ok (.invokestatic 8, 3) := by decide +kernel
theorem dL_agree_199 : decode cL_agree 199 = .ok (.istore 13, 2) := by decide +kernel
theorem dL_agree_201 : decode cL_agree 201 = .ok (.iload 10, 2) := by decide +kernel
theorem dL_agree_203 : decode cL_agree 203 = .ok (.iload 13, 2) := by decide +kernel
theorem dL_agree_205 : decode cL_agree 205 = .ok (.iadd, 1) := by decide +kernel
theorem dL_agree_206 : decode cL_agree 206 = .ok (.istore 10, 2) := by decide +kernel
theorem dL_agree_208 : decode cL_agree 208 = .ok (.iload 13, 2) := by decide +kernel
theorem dL_agree_210 : decode cL_agree 210 = .ok (.ifCond .le 23, 3) := by decide +kernel
theorem dL_agree_213 : decode cL_agree 213 = .ok (.aload 7, 2) := by decide +kernel
theorem dL_agree_215 : decode cL_agree 215 = .ok (.bipush 7, 2) := by decide +kernel
theorem dL_agree_217 : decode cL_agree 217 = .ok (.iload 12, 2) := by decide +kernel
theorem dL_agree_219 : decode cL_agree 219 = .ok (.imul, 1) := by decide +kernel
theorem dL_agree_220 : decode cL_agree 220 = .ok (.iconst 1, 1) := by decide +kernel
theorem dL_agree_221 : decode cL_agree 221 = .ok (.iadd, 1) := by decide +kernel
theorem dL_agree_222 : decode cL_agree 222 = .ok (.iaload, 1) := by decide +kernel
theorem dL_agree_223 : decode cL_agree 223 = .ok (.ifCond .ne 10, 3) := by decide +kernel
theorem dL_agree_226 : decode cL_agree 226 = .ok (.iload 11, 2) := by decide +kernel
theorem dL_agree_228 : decode cL_agree 228 = .ok (.iload 13, 2) := by decide +kernel
theorem dL_agree_230 : decode cL_agree 230 = .ok (.iadd, 1) := by decide +kernel
theorem dL_agree_231 : decode cL_agree 231 = .ok (.istore 11, 2) := by decide +kernel
theorem dL_agree_233 : decode cL_agree 233 = .ok (.aload_n 0, 1) := by decide +kernel
theorem dL_agree_234 : decode cL_agree 234 = .ok (.iload 12, 2) := by decide +kernel
theorem dL_agree_236 : decode cL_agree 236 = .ok (.iconst 1, 1) := by decide +kernel
theorem dL_agree_237 : decode cL_agree 237 = .ok (.invokevirtual 91, 3) := by decide +kernel
theorem dL_agree_240 : decode cL_agree 240 = .ok (.iload 13, 2) := by decide +kernel
theorem dL_agree_242 : decode cL_agree 242 = .ok (.if_icmp .ne 32, 3) := by decide +kernel
theorem dL_agree_245 : decode cL_agree 245 = .ok (.aload_n 0, 1) := by decide +kernel
theorem dL_agree_246 : decode cL_agree 246 = .ok (.iload 12, 2) := by decide +kernel
theorem dL_agree_248 : decode cL_agree 248 = .ok (.iconst 2, 1) := by decide +kernel
theorem dL_agree_249 : decode cL_agree 249 = .ok (.invokevirtual 91, 3) := by decide +kernel
theorem dL_agree_252 : decode cL_agree 252 = .ok (.iload 13, 2) := by decide +kernel
theorem dL_agree_254 : decode cL_agree 254 = .ok (.ifCond .ne 7, 3) := by decide +kernel
theorem dL_agree_257 : decode cL_agree 257 = .ok (.iconst (-1), 1) := by decide +kernel
theorem dL_agree_258 : decode cL_agree 258 = .ok (.goto 13, 3) := by decide +kernel
theorem dL_agree_261 : decode cL_agree 261 = .ok (.aload 7, 2) := by decide +kernel
theorem dL_agree_263 : decode cL_agree 263 = .ok (.bipush 7, 2) := by decide +kernel
theorem dL_agree_265 : decode cL_agree 265 = .ok (.iload 12, 2) := by decide +kernel
theorem dL_agree_267 : decode cL_agree 267 = .ok (.imul, 1) := by decide +kernel
theorem dL_agree_268 : decode cL_agree 268 = .ok (.iconst 1, 1) := by decide +kernel
theorem dL_agree_269 : decode cL_agree 269 = .ok (.iadd, 1) := by decide +kernel
theorem dL_agree_270 : decode cL_agree 270 = .ok (.iaload, 1) := by decide +kernel
theorem dL_agree_271 : decode cL_agree 271 = .ok (.if_icmp .eq 5, 3) := by decide +kernel
theorem dL_agree_274 : decode cL_agree 274 = .ok (.iconst 0, 1) := by decide +kernel
theorem dL_agree_275 : decode cL_agree 275 = .ok (.ireturn, 1) := by decide +kernel
theorem dL_agree_276 : decode cL_agree 276 = .ok (.iconst 0, 1) := by decide +kernel
theorem dL_agree_277 : decode cL_agree 277 = .ok (.istore 14, 2) := by decide +kernel
theorem dL_agree_279 : decode cL_agree 279 = .ok (.iload 14, 2) := by decide +kernel
theorem dL_agree_281 : decode cL_agree 281 = .ok (.iconst 5, 1) := by decide +kernel
theorem dL_agree_282 : decode cL_agree 282 = .ok (.if_icmp .ge 38, 3) := by decide +kernel
theorem dL_agree_285 : decode cL_agree 285 = .ok (.aload_n 0, 1) := by decide +kernel
theorem dL_agree_286 : decode cL_agree 286 = .ok (.iload 12, 2) := by decide +kernel
theorem dL_agree_288 : decode cL_agree 288 = .ok (.bipush 10, 2) := by decide +kernel
theorem dL_agree_290 : decode cL_agree 290 = .ok (.iload 14, 2) := by decide +kernel
theorem dL_agree_292 : decode cL_agree 292 = .ok (.iadd, 1) := by decide +kernel
theorem dL_agree_293 : decode cL_agree 293 = .ok (.invokevirtual 91, 3) := by decide +kernel
theorem dL_agree_296 : decode cL_agree 296 = .ok (.aload 7, 2) := by decide +kernel
theorem dL_agree_298 : decode cL_agree 298 = .ok (.bipush 7, 2) := by decide +kernel
theorem dL_agree_300 : decode cL_agree 300 = .ok (.iload 12, 2) := by decide +kernel
theorem dL_agree_302 : decode cL_agree 302 = .ok (.imul, 1) := by decide +kernel
theorem dL_agree_303 : decode cL_agree 303 = .ok (.iconst 2, 1) := by decide +kernel
theorem dL_agree_304 : decode cL_agree 304 = .ok (.iadd, 1) := by decide +kernel
theorem dL_agree_305 : decode cL_agree 305 = .ok (.iload 14, 2) := by decide +kernel
theorem dL_agree_307 : decode cL_agree 307 = .ok (.iadd, 1) := by decide +kernel
theorem dL_agree_308 : decode cL_agree 308 = .ok (.iaload, 1) := by decide +kernel
theorem dL_agree_309 : decode cL_agree 309 = .ok (.if_icmp .eq 5, 3) := by decide +kernel
theorem dL_agree_312 : decode cL_agree 312 = .ok (.iconst 0, 1) := by decide +kernel
theorem dL_agree_313 : decode cL_agree 313 = .ok (.ireturn, 1) := by decide +kernel
theorem dL_agree_314 : decode cL_agree 314 = .ok (.iinc 14 1, 3) := by decide +kernel
theorem dL_agree_317 : decode cL_agree 317 = .ok (.goto (-38), 3) := by decide +kernel
theorem dL_agree_320 : decode cL_agree 320 = .ok (.iinc 12 1, 3) := by decide +kernel
theorem dL_agree_323 : decode cL_agree 323 = .ok (.goto (-139), 3) := by decide +kernel
theorem dL_agree_326 : decode cL_agree 326 = .ok (.iconst 0, 1) := by decide +kernel
theorem dL_agree_327 : decode cL_agree 327 = .ok (.istore 12, 2) := by decide +kernel
theorem dL_agree_329 : decode cL_agree 329 = .ok (.iconst 0, 1) := by decide +kernel
theorem dL_agree_330 : decode cL_agree 330 = .ok (.istore 13, 2) := by decide +kernel
theorem dL_agree_332 : decode cL_agree 332 = .ok (.iload 13, 2) := by decide +kernel
theorem dL_agree_334 : decode cL_agree 334 = .ok (.aload_n 1, 1) := by decide +kernel
theorem dL_agree_335 : decode cL_agree 335 = .ok (.iconst 0, 1) := by decide +kernel
theorem dL_agree_336 : decode cL_agree 336 = .ok (.iaload, 1) := by decide +kernel
theorem dL_agree_337 : decode cL_agree 337 = .ok (.if_icmp .ge 36, 3) := by decide +kernel
theorem dL_agree_340 : decode cL_agree 340 = .ok (.iload 12, 2) := by decide +kernel
theorem dL_agree_342 : decode cL_agree 342 = .ok (.aload 8, 2) := by decide +kernel
theorem dL_agree_344 : decode cL_agree 344 = .ok (.iload 13, 2) := by decide +kernel
theorem dL_agree_346 : decode cL_agree 346 = .ok (.iaload, 1) := by decide +kernel
theorem dL_agree_347 : decode cL_agree 347 = .ok (.iadd, 1) := by decide +kernel
theorem dL_agree_348 : decode cL_agree 348 = .ok (.istore 12, 2) := by decide +kernel
theorem dL_agree_350 : decode cL_agree 350 = .ok (.aload_n 0, 1) := by decide +kernel
theorem dL_agree_351 : decode cL_agree 351 = .ok (.iload 13, 2) := by decide +kernel
theorem dL_agree_353 : decode cL_agree 353 = .ok (.iconst 0, 1) := by decide +kernel
theorem dL_agree_354 : decode cL_agree 354 = .ok (.invokevirtual 94, 3) := by decide +kernel
theorem dL_agree_357 : decode cL_agree 357 = .ok (.aload 8, 2) := by decide +kernel
theorem dL_agree_359 : decode cL_agree 359 = .ok (.iload 13, 2) := by decide +kernel
theorem dL_agree_361 : decode cL_agree 361 = .ok (.iaload, 1) := by decide +kernel
theorem dL_agree_362 : decode cL_agree 362 = .ok (.if_icmp .eq 5, 3) := by decide +kernel
theorem dL_agree_365 : decode cL_agree 365 = .ok (.iconst 0, 1) := by decide +kernel
theorem dL_agree_366 : decode cL_agree 366 = .ok (.ireturn, 1) := by decide +kernel
theorem dL_agree_367 : decode cL_agree 367 = .ok (.iinc 13 1, 3) := by decide +kernel
theorem dL_agree_370 : decode cL_agree 370 = .ok (.goto (-38), 3) := by decide +kernel
theorem dL_agree_373 : decode cL_agree 373 = .ok (.aload_n 0, 1) := by decide +kernel
theorem dL_agree_374 : decode cL_agree 374 = .ok (.iconst 2, 1) := by decide +kernel
theorem dL_agree_375 : decode cL_agree 375 = .ok (.invokevirtual 97, 3) := by decide +kernel
theorem dL_agree_378 : decode cL_agree 378 = .ok (.iload 9, 2) := by decide +kernel
theorem dL_agree_380 : decode cL_agree 380 = .ok (.if_icmp .ne 100, 3) := by decide +kernel
theorem dL_agree_383 : decode cL_agree 383 = .ok (.aload_n 0, 1) := by decide +kernel
theorem dL_agree_384 : decode cL_agree 384 = .ok (.iconst 4, 1) := by decide +kernel
theorem dL_agree_385 : decode cL_agree 385 = .ok (.invokevirtual 97, 3) := by decide +kernel
theorem dL_agree_388 : decode cL_agree 388 = .ok (.aload_n 1, 1) := by decide +kernel
theorem dL_agree_389 : decode cL_agree 389 = .ok (.iconst 3, 1) := by decide +kernel
theorem dL_agree_390 : decode cL_agree 390 = .ok (.iaload, 1) := by decide +kernel
theorem dL_agree_391 : decode cL_agree 391 = .ok (.if_icmp .ne 89, 3) := by decide +kernel
theorem dL_agree_394 : decode cL_agree 394 = .ok (.aload_n 0, 1) := by decide +kernel
theorem dL_agree_395 : decode cL_agree 395 = .ok (.iconst 5, 1) := by decide +kernel
theorem dL_agree_396 : decode cL_agree 396 = .ok (.invokevirtual 97, 3) := by decide +kernel
theorem dL_agree_399 : decode cL_agree 399 = .ok (.aload_n 1, 1) := by decide +kernel
theorem dL_agree_400 : decode cL_agree 400 = .ok (.iconst 4, 1) := by decide +kernel
theorem dL_agree_401 : decode cL_agree 401 = .ok (.iaload, 1) := by decide +kernel
theorem dL_agree_402 : decode cL_agree 402 = .ok (.if_icmp .ne 78, 3) := by decide +kernel
theorem dL_agree_405 : decode cL_agree 405 = .ok (.aload_n 0, 1) := by decide +kernel
theorem dL_agree_406 : decode cL_agree 406 = .ok (.bipush 6, 2) := by decide +kernel
theorem dL_agree_408 : decode cL_agree 408 = .ok (.invokevirtual 97, 3) := by decide +kernel
theorem dL_agree_411 : decode cL_agree 411 = .ok (.aload_n 1, 1) := by decide +kernel
theorem dL_agree_412 : decode cL_agree 412 = .ok (.iconst 5, 1) := by decide +kernel
theorem dL_agree_413 : decode cL_agree 413 = .ok (.iaload, 1) := by decide +kernel
theorem dL_agree_414 : decode cL_agree 414 = .ok (.if_icmp .ne 66, 3) := by decide +kernel
theorem dL_agree_417 : decode cL_agree 417 = .ok (.aload_n 0, 1) := by decide +kernel
theorem dL_agree_418 : decode cL_agree 418 = .ok (.bipush 7, 2) := by decide +kernel
theorem dL_agree_420 : decode cL_agree 420 = .ok (.invokevirtual 97, 3) := by decide +kernel
theorem dL_agree_423 : decode cL_agree 423 = .ok (.aload_n 1, 1) := by decide +kernel
theorem dL_agree_424 : decode cL_agree 424 = .ok (.bipush 6, 2) := by decide +kernel
theorem dL_agree_426 : decode cL_agree 426 = .ok (.iaload, 1) := by decide +kernel
theorem dL_agree_427 : decode cL_agree 427 = .ok (.if_icmp .ne 53, 3) := by decide +kernel
theorem dL_agree_430 : decode cL_agree 430 = .ok (.aload_n 0, 1) := by decide +kernel
theorem dL_agree_431 : decode cL_agree 431 = .ok (.bipush 8, 2) := by decide +kernel
theorem dL_agree_433 : decode cL_agree 433 = .ok (.invokevirtual 97, 3) := by decide +kernel
theorem dL_agree_436 : decode cL_agree 436 = .ok (.iload 10, 2) := by decide +kernel
theorem dL_agree_438 : decode cL_agree 438 = .ok (.if_icmp .ne 42, 3) := by decide +kernel
theorem dL_agree_441 : decode cL_agree 441 = .ok (.aload_n 0, 1) := by decide +kernel
theorem dL_agree_442 : decode cL_agree 442 = .ok (.bipush 9, 2) := by decide +kernel
theorem dL_agree_444 : decode cL_agree 444 = .ok (.invokevirtual 97, 3) := by decide +kernel
theorem dL_agree_447 : decode cL_agree 447 = .ok (.iload 12, 2) := by decide +kernel
theorem dL_agree_449 : decode cL_agree 449 = .ok (.if_icmp .ne 31, 3) := by decide +kernel
theorem dL_agree_452 : decode cL_agree 452 = .ok (.aload_n 0, 1) := by decide +kernel
theorem dL_agree_453 : decode cL_agree 453 = .ok (.bipush 10, 2) := by decide +kernel
theorem dL_agree_455 : decode cL_agree 455 = .ok (.invokevirtual 97, 3) := by decide +kernel
theorem dL_agree_458 : decode cL_agree 458 = .ok (.iload 11, 2) := by decide +kernel
theorem dL_agree_460 : decode cL_agree 460 = .ok (.if_icmp .ne 20, 3) := by decide +kernel
theorem dL_agree_463 : decode cL_agree 463 = .ok (.aload_n 0, 1) := by decide +kernel
theorem dL_agree_464 : decode cL_agree 464 = .ok (.bipush 11, 2) := by decide +kernel
theorem dL_agree_466 : decode cL_agree 466 = .ok (.invokevirtual 97, 3) := by decide +kernel
theorem dL_agree_469 : decode cL_agree 469 = .ok (.aload_n 1, 1) := by decide +kernel
theorem dL_agree_470 : decode cL_agree 470 = .ok (.bipush 7, 2) := by decide +kernel
theorem dL_agree_472 : decode cL_agree 472 = .ok (.iaload, 1) := by decide +kernel
theorem dL_agree_473 : decode cL_agree 473 = .ok (.if_icmp .ne 7, 3) := by decide +kernel
theorem dL_agree_476 : decode cL_agree 476 = .ok (.iconst 1, 1) := by decide +kernel
theorem dL_agree_477 : decode cL_agree 477 = .ok (.goto 4, 3) := by decide +kernel
theorem dL_agree_480 : decode cL_agree 480 = .ok (.iconst 0, 1) := by decide +kernel
theorem dL_agree_481 : decode cL_agree 481 = .ok (.ireturn, 1) := by decide +kernel
theorem dL_law_0 : decode cL_law 0 = .ok (.new 23, 3) := by decide +kernel
theorem dL_law_3 : decode cL_law 3 = .ok (.dup, 1) := by decide +kernel
theorem dL_law_4 : decode cL_law 4 = .ok (.invokespecial 100, 3) := by decide +kernel
theorem dL_law_7 : decode cL_law 7 = .ok (.astore_n 1, 1) := by decide +kernel
theorem dL_law_8 : decode cL_law 8 = .ok (.bipush 15, 2) := by decide +kernel
theorem dL_law_10 : decode cL_law 10 = .ok (.newarray .int, 2) := by decide +kernel
theorem dL_law_12 : decode cL_law 12 = .ok (.astore_n 2, 1) := by decide +kernel
theorem dL_law_13 : decode cL_law 13 = .ok (.iconst 5, 1) := by decide +kernel
theorem dL_law_14 : decode cL_law 14 = .ok (.newarray .int, 2) := by decide +kernel
theorem dL_law_16 : decode cL_law 16 = .ok (.astore_n 3, 1) := by decide +kernel
theorem dL_law_17 : decode cL_law 17 = .ok (.bipush 60, 2) := by decide +kernel
theorem dL_law_19 : decode cL_law 19 = .ok (.newarray .int, 2) := by decide +kernel
theorem dL_law_21 : decode cL_law 21 = .ok (.astore 4, 2) := by decide +kernel
theorem dL_law_23 : decode cL_law 23 = .ok (.bipush 10, 2) := by decide +kernel
theorem dL_law_25 : decode cL_law 25 = .ok (.newarray .int, 2) := by decide +kernel
theorem dL_law_27 : decode cL_law 27 = .ok (.astore 5, 2) := by decide +kernel
theorem dL_law_29 : decode cL_law 29 = .ok (.bipush 10, 2) := by decide +kernel
theorem dL_law_31 : decode cL_law 31 = .ok (.newarray .int, 2) := by decide +kernel
theorem dL_law_33 : decode cL_law 33 = .ok (.astore 6, 2) := by decide +kernel
theorem dL_law_35 : decode cL_law 35 = .ok (.bipush 10, 2) := by decide +kernel
theorem dL_law_37 : decode cL_law 37 = .ok (.newarray .int, 2) := by decide +kernel
theorem dL_law_39 : decode cL_law 39 = .ok (.astore 7, 2) := by decide +kernel
theorem dL_law_41 : decode cL_law 41 = .ok (.bipush 10, 2) := by decide +kernel
theorem dL_law_43 : decode cL_law 43 = .ok (.newarray .int, 2) := by decide +kernel
theorem dL_law_45 : decode cL_law 45 = .ok (.astore 8, 2) := by decide +kernel
theorem dL_law_47 : decode cL_law 47 = .ok (.bipush 28, 2) := by decide +kernel
theorem dL_law_49 : decode cL_law 49 = .ok (.newarray .int, 2) := by decide +kernel
theorem dL_law_51 : decode cL_law 51 = .ok (.astore 9, 2) := by decide +kernel
theorem dL_law_53 : decode cL_law 53 = .ok (.iconst 4, 1) := by decide +kernel
theorem dL_law_54 : decode cL_law 54 = .ok (.newarray .int, 2) := by decide +kernel
theorem dL_law_56 : decode cL_law 56 = .ok (.astore 10, 2) := by decide +kernel
theorem dL_law_58 : decode cL_law 58 = .ok (.iconst 5, 1) := by decide +kernel
theorem dL_law_59 : decode cL_law 59 = .ok (.newarray .int, 2) := by decide +kernel
theorem dL_law_61 : decode cL_law 61 = .ok (.astore 11, 2) := by decide +kernel
theorem dL_law_63 : decode cL_law 63 = .ok (.aload_n 2, 1) := by decide +kernel
theorem dL_law_64 : decode cL_law 64 = .ok (.iconst 3, 1) := by decide +kernel
theorem dL_law_65 : decode cL_law 65 = .ok (.iconst (-1), 1) := by decide +kernel
theorem dL_law_66 : decode cL_law 66 = .ok (.iastore, 1) := by decide +kernel
theorem dL_law_67 : decode cL_law 67 = .ok (.aload_n 2, 1) := by decide +kernel
theorem dL_law_68 : decode cL_law 68 = .ok (.bipush 8, 2) := by decide +kernel
theorem dL_law_70 : decode cL_law 70 = .ok (.bipush 10, 2) := by decide +kernel
theorem dL_law_72 : decode cL_law 72 = .ok (.iastore, 1) := by decide +kernel
theorem dL_law_73 : decode cL_law 73 = .ok (.aload_n 2, 1) := by decide +kernel
theorem dL_law_74 : decode cL_law 74 = .ok (.bipush 9, 2) := by decide +kernel
theorem dL_law_76 : decode cL_law 76 = .ok (.sipush 850, 3) := by decide +kernel
theorem dL_law_79 : decode cL_law 79 = .ok (.iastore, 1) := by decide +kernel
theorem dL_law_80 : decode cL_law 80 = .ok (.aload_n 2, 1) := by decide +kernel
theorem dL_law_81 : decode cL_law 81 = .ok (.bipush 10, 2) := by decide +kernel
theorem dL_law_83 : decode cL_law 83 = .ok (.sipush 600, 3) := by decide +kernel
theorem dL_law_86 : decode cL_law 86 = .ok (.iastore, 1) := by decide +kernel
theorem dL_law_87 : decode cL_law 87 = .ok (.aload_n 2, 1) := by decide +kernel
theorem dL_law_88 : decode cL_law 88 = .ok (.bipush 11, 2) := by decide +kernel
theorem dL_law_90 : decode cL_law 90 = .ok (.iconst 2, 1) := by decide +kernel
theorem dL_law_91 : decode cL_law 91 = .ok (.iastore, 1) := by decide +kernel
theorem dL_law_92 : decode cL_law 92 = .ok (.aload_n 2, 1) := by decide +kernel
theorem dL_law_93 : decode cL_law 93 = .ok (.bipush 12, 2) := by decide +kernel
theorem dL_law_95 : decode cL_law 95 = .ok (.bipush 20, 2) := by decide +kernel
theorem dL_law_97 : decode cL_law 97 = .ok (.iastore, 1) := by decide +kernel
theorem dL_law_98 : decode cL_law 98 = .ok (.aload_n 2, 1) := by decide +kernel
theorem dL_law_99 : decode cL_law 99 = .ok (.bipush 14, 2) := by decide +kernel
theorem dL_law_101 : decode cL_law 101 = .ok (.bipush 100, 2) := by decide +kernel
theorem dL_law_103 : decode cL_law 103 = .ok (.iastore, 1) := by decide +kernel
theorem dL_law_104 : decode cL_law 104 = .ok (.iconst 0, 1) := by decide +kernel
theorem dL_law_105 : decode cL_law 105 = .ok (.istore 12, 2) := by decide +kernel
theorem dL_law_107 : decode cL_law 107 = .ok (.iload 12, 2) := by decide +kernel
theorem dL_law_109 : decode cL_law 109 = .ok (.iconst 5, 1) := by decide +kernel
theorem dL_law_110 : decode cL_law 110 = .ok (.if_icmp .ge 20, 3) := by decide +kernel
theorem dL_law_113 : decode cL_law 113 = .ok (.aload_n 3, 1) := by decide +kernel
theorem dL_law_114 : decode cL_law 114 = .ok (.iload 12, 2) := by decide +kernel
theorem dL_law_116 : decode cL_law 116 = .ok (.aload_n 1, 1) := by decide +kernel
theorem dL_law_117 : decode cL_law 117 = .ok (.iload 12, 2) := by decide +kernel
theorem dL_law_119 : decode cL_law 119 = .ok (.iconst 0, 1) := by decide +kernel
theorem dL_law_120 : decode cL_law 120 = .ok (.invokevirtual 101, 3) := by decide +kernel
theorem dL_law_123 : decode cL_law 123 = .ok (.iastore, 1) := by decide +kernel
theorem dL_law_124 : decode cL_law 124 = .ok (.iinc 12 1, 3) := by decide +kernel
theorem dL_law_127 : decode cL_law 127 = .ok (.goto (-20), 3) := by decide +kernel
theorem dL_law_130 : decode cL_law 130 = .ok (.iconst 0, 1) := by decide +kernel
theorem dL_law_131 : decode cL_law 131 = .ok (.istore 12, 2) := by decide +kernel
theorem dL_law_133 : decode cL_law 133 = .ok (.iload 12, 2) := by decide +kernel
theorem dL_law_135 : decode cL_law 135 = .ok (.iconst 3, 1) := by decide +kernel
theorem dL_law_136 : decode cL_law 136 = .ok (.if_icmp .ge 73, 3) := by decide +kernel
theorem dL_law_139 : decode cL_law 139 = .ok (.aload_n 1, 1) := by decide +kernel
theorem dL_law_140 : decode cL_law 140 = .ok (.invokevirtual 104, 3) := by decide +kernel
theorem dL_law_143 : decode cL_law 143 = .ok (.iload 12, 2) := by decide +kernel
theorem dL_law_145 : decode cL_law 145 = .ok (.if_icmp .eq 5, 3) := by decide +kernel
theorem dL_law_148 : decode cL_law 148 = .ok (.iconst 0, 1) := by decide +kernel
theorem dL_law_149 : decode cL_law 149 = .ok (.ireturn, 1) := by decide +kernel
theorem dL_law_150 : decode cL_law 150 = .ok (.aload 9, 2) := by decide +kernel
theorem dL_law_152 : decode cL_law 152 = .ok (.bipush 7, 2) := by decide +kernel
theorem dL_law_154 : decode cL_law 154 = .ok (.iload 12, 2) := by decide +kernel
theorem dL_law_156 : decode cL_law 156 = .ok (.imul, 1) := by decide +kernel
theorem dL_law_157 : decode cL_law 157 = .ok (.bipush 100, 2) := by decide +kernel
theorem dL_law_159 : decode cL_law 159 = .ok (.aload_n 0, 1) := by decide +kernel
theorem dL_law_160 : decode cL_law 160 = .ok (.iload 12, 2) := by decide +kernel
theorem dL_law_162 : decode cL_law 162 = .ok (.invokestatic 107, 3) := by decide +kernel
theorem dL_law_165 : decode cL_law 165 = .ok (.iload 12, 2) := by decide +kernel
theorem dL_law_167 : decode cL_law 167 = .ok (.ifCond .ne 9, 3) := by decide +kernel
theorem dL_law_170 : decode cL_law 170 = .ok (.sipush 900, 3) := by decide +kernel
theorem dL_law_173 : decode cL_law 173 = .ok (.goto 6, 3) := by decide +kernel
theorem dL_law_176 : decode cL_law 176 = .ok (.sipush 19901, 3) := by decide +kernel
theorem dL_law_179 : decode cL_law 179 = .ok (.invokestatic 14, 3) := by decide +kernel
theorem dL_law_182 : decode cL_law 182 = .ok (.iadd, 1) := by decide +kernel
theorem dL_law_183 : decode cL_law 183 = .ok (.iastore, 1) := by decide +kernel
theorem dL_law_184 : decode cL_law 184 = .ok (.aload_n 1, 1) := by decide +kernel
theorem dL_law_185 : decode cL_law 185 = .ok (.aload 9, 2) := by decide +kernel
theorem dL_law_187 : decode cL_law 187 = .ok (.bipush 7, 2) := by decide +kernel
theorem dL_law_189 : decode cL_law 189 = .ok (.iload 12, 2) := by decide +kernel
theorem dL_law_191 : decode cL_law 191 = .ok (.imul, 1) := by decide +kernel
theorem dL_law_192 : decode cL_law 192 = .ok (.iaload, 1) := by decide +kernel
theorem dL_law_193 : decode cL_law 193 = .ok (.invokevirtual 110, 3) := by decide +kernel
theorem dL_law_196 : decode cL_law 196 = .ok (.iload 12, 2) := by decide +kernel
theorem dL_law_198 : decode cL_law 198 = .ok (.if_icmp .eq 5, 3) := by decide +kernel
theorem dL_law_201 : decode cL_law 201 = .ok (.iconst 0, 1) := by decide +kernel
theorem dL_law_202 : decode cL_law 202 = .ok (.ireturn, 1) := by decide +kernel
theorem dL_law_203 : decode cL_law 203 = .ok (.iinc 12 1, 3) := by decide +kernel
theorem dL_law_206 : decode cL_law 206 = .ok (.goto (-73), 3) := by decide +kernel
theorem dL_law_209 : decode cL_law 209 = .ok (.aload_n 2, 1) := by decide +kernel
theorem dL_law_210 : decode cL_law 210 = .ok (.iconst 0, 1) := by decide +kernel
theorem dL_law_211 : decode cL_law 211 = .ok (.iconst 3, 1) := by decide +kernel
theorem dL_law_212 : decode cL_law 212 = .ok (.iastore, 1) := by decide +kernel
theorem dL_law_213 : decode cL_law 213 = .ok (.aload_n 2, 1) := by decide +kernel
theorem dL_law_214 : decode cL_law 214 = .ok (.iconst 2, 1) := by decide +kernel
theorem dL_law_215 : decode cL_law 215 = .ok (.iconst 3, 1) := by decide +kernel
theorem dL_law_216 : decode cL_law 216 = .ok (.iastore, 1) := by decide +kernel
theorem dL_law_217 : decode cL_law 217 = .ok (.iconst 2, 1) := by decide +kernel
theorem dL_law_218 : decode cL_law 218 = .ok (.istore 12, 2) := by decide +kernel
theorem dL_law_220 : decode cL_law 220 = .ok (.iload 12, 2) := by decide +kernel
theorem dL_law_222 : decode cL_law 222 = .ok (.bipush 50, 2) := by decide +kernel
theorem dL_law_224 : decode cL_law 224 = .ok (.if_icmp .ge 76, 3) := by decide +kernel
theorem dL_law_227 : decode cL_law 227 = .ok (.aload_n 1, 1) := by decide +kernel
theorem dL_law_228 : decode cL_law 228 = .ok (.aload_n 0, 1) := by decide +kernel
theorem dL_law_229 : decode cL_law 229 = .ok (.iconst 2, 1) := by decide +kernel
theorem dL_law_230 : decode cL_law 230 = .ok (.iload 12, 2) := by decide +kernel
theorem dL_law_232 : decode cL_law 232 = .ok (.imul, 1) := by decide +kernel
theorem dL_law_233 : decode cL_law 233 = .ok (.invokestatic 107, 3) := by decide +kernel
theorem dL_law_236 : decode cL_law 236 = .ok (.aload_n 0, 1) := by decide +kernel
theorem dL_law_237 : decode cL_law 237 = .ok (.iconst 2, 1) := by decide +kernel
theorem dL_law_238 : decode cL_law 238 = .ok (.iload 12, 2) := by decide +kernel
theorem dL_law_240 : decode cL_law 240 = .ok (.imul, 1) := by decide +kernel
theorem dL_law_241 : decode cL_law 241 = .ok (.iconst 1, 1) := by decide +kernel
theorem dL_law_242 : decode cL_law 242 = .ok (.iadd, 1) := by decide +kernel
theorem dL_law_243 : decode cL_law 243 = .ok (.invokestatic 107, 3) := by decide +kernel
theorem dL_law_246 : decode cL_law 246 = .ok (.aload_n 2, 1) := by decide +kernel
theorem dL_law_247 : decode cL_law 247 = .ok (.aload_n 3, 1) := by decide +kernel
theorem dL_law_248 : decode cL_law 248 = .ok (.aload 4, 2) := by decide +kernel
theorem dL_law_250 : decode cL_law 250 = .ok (.aload 5, 2) := by decide +kernel
theorem dL_law_252 : decode cL_law 252 = .ok (.aload 6, 2) := by decide +kernel
theorem dL_law_254 : decode cL_law 254 = .ok (.aload 7, 2) := by decide +kernel
theorem dL_law_256 : decode cL_law 256 = .ok (.aload 8, 2) := by decide +kernel
theorem dL_law_258 : decode cL_law 258 = .ok (.aload 9, 2) := by decide +kernel
theorem dL_law_260 : decode cL_law 260 = .ok (.aload 10, 2) := by decide +kernel
theorem dL_law_262 : decode cL_law 262 = .ok (.aload 11, 2) := by decide +kernel
theorem dL_law_264 : decode cL_law 264 = .ok (.invokestatic 113, 3) := by decide +kernel
theorem dL_law_267 : decode cL_law 267 = .ok (.ifCond .eq 25, 3) := by decide +kernel
theorem dL_law_270 : decode cL_law 270 = .ok (.aload_n 1, 1) := by decide +kernel
theorem dL_law_271 : decode cL_law 271 = .ok (.aload_n 2, 1) := by decide +kernel
theorem dL_law_272 : decode cL_law 272 = .ok (.aload 4, 2) := by decide +kernel
theorem dL_law_274 : decode cL_law 274 = .ok (.aload 5, 2) := by decide +kernel
theorem dL_law_276 : decode cL_law 276 = .ok (.aload 6, 2) := by decide +kernel
theorem dL_law_278 : decode cL_law 278 = .ok (.aload 7, 2) := by decide +kernel
theorem dL_law_280 : decode cL_law 280 = .ok (.aload 8, 2) := by decide +kernel
theorem dL_law_282 : decode cL_law 282 = .ok (.aload 9, 2) := by decide +kernel
theorem dL_law_284 : decode cL_law 284 = .ok (.aload 10, 2) := by decide +kernel
theorem dL_law_286 : decode cL_law 286 = .ok (.invokestatic 117, 3) := by decide +kernel
theorem dL_law_289 : decode cL_law 289 = .ok (.ifCond .ne 5, 3) := by decide +kernel
theorem dL_law_292 : decode cL_law 292 = .ok (.iconst 0, 1) := by decide +kernel
theorem dL_law_293 : decode cL_law 293 = .ok (.ireturn, 1) := by decide +kernel
theorem dL_law_294 : decode cL_law 294 = .ok (.iinc 12 1, 3) := by decide +kernel
theorem dL_law_297 : decode cL_law 297 = .ok (.goto (-77), 3) := by decide +kernel
theorem dL_law_300 : decode cL_law 300 = .ok (.iconst 1, 1) := by decide +kernel
theorem dL_law_301 : decode cL_law 301 = .ok (.ireturn, 1) := by decide +kernel
