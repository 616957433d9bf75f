theorem d_R_init_0 : decode prog_2_method_1_code 0 = .ok (.aload_n 0, 1) := by decide +kernel
theorem d_R_init_1 : decode prog_2_method_1_code 1 = .ok (.invokespecial 3, 3) := by decide +kernel
theorem d_R_init_4 : decode prog_2_method_1_code 4 = .ok (.aload_n 0, 1) := by decide +kernel
theorem d_R_init_5 : decode prog_2_method_1_code 5 = .ok (.sipush 200, 3) := by decide +kernel
theorem d_R_init_8 : decode prog_2_method_1_code 8 = .ok (.newarray .int, 2) := by decide +kernel
theorem d_R_init_10 : decode prog_2_method_1_code 10 = .ok (.putfield 9, 3) := by decide +kernel
theorem d_R_init_13 : decode prog_2_method_1_code 13 = .ok (.aload_n 0, 1) := by decide +kernel
theorem d_R_init_14 : decode prog_2_method_1_code 14 = .ok (.sipush 200, 3) := by decide +kernel
theorem d_R_init_17 : decode prog_2_method_1_code 17 = .ok (.newarray .int, 2) := by decide +kernel
theorem d_R_init_19 : decode prog_2_method_1_code 19 = .ok (.putfield 15, 3) := by decide +kernel
theorem d_R_init_22 : decode prog_2_method_1_code 22 = .ok (.aload_n 0, 1) := by decide +kernel
theorem d_R_init_23 : decode prog_2_method_1_code 23 = .ok (.sipush 200, 3) := by decide +kernel
theorem d_R_init_26 : decode prog_2_method_1_code 26 = .ok (.newarray .int, 2) := by decide +kernel
theorem d_R_init_28 : decode prog_2_method_1_code 28 = .ok (.putfield 18, 3) := by decide +kernel
theorem d_R_init_31 : decode prog_2_method_1_code 31 = .ok (.aload_n 0, 1) := by decide +kernel
theorem d_R_init_32 : decode prog_2_method_1_code 32 = .ok (.sipush 200, 3) := by decide +kernel
theorem d_R_init_35 : decode prog_2_method_1_code 35 = .ok (.newarray .long, 2) := by decide +kernel
theorem d_R_init_37 : decode prog_2_method_1_code 37 = .ok (.putfield 21, 3) := by decide +kernel
theorem d_R_init_40 : decode prog_2_method_1_code 40 = .ok (.aload_n 0, 1) := by decide +kernel
theorem d_R_init_41 : decode prog_2_method_1_code 41 = .ok (.iconst 0, 1) := by decide +kernel
theorem d_R_init_42 : decode prog_2_method_1_code 42 = .ok (.putfield 25, 3) := by decide +kernel
theorem d_R_init_45 : decode prog_2_method_1_code 45 = .ok (.return_, 1) := by decide +kernel
theorem d_S_init_0 : decode prog_3_method_1_code 0 = .ok (.aload_n 0, 1) := by decide +kernel
theorem d_S_init_1 : decode prog_3_method_1_code 1 = .ok (.invokespecial 3, 3) := by decide +kernel
theorem d_S_init_4 : decode prog_3_method_1_code 4 = .ok (.aload_n 0, 1) := by decide +kernel
theorem d_S_init_5 : decode prog_3_method_1_code 5 = .ok (.bipush 42, 2) := by decide +kernel
theorem d_S_init_7 : decode prog_3_method_1_code 7 = .ok (.newarray .long, 2) := by decide +kernel
theorem d_S_init_9 : decode prog_3_method_1_code 9 = .ok (.putfield 11, 3) := by decide +kernel
theorem d_S_init_12 : decode prog_3_method_1_code 12 = .ok (.aload_n 0, 1) := by decide +kernel
theorem d_S_init_13 : decode prog_3_method_1_code 13 = .ok (.bipush 21, 2) := by decide +kernel
theorem d_S_init_15 : decode prog_3_method_1_code 15 = .ok (.newarray .int, 2) := by decide +kernel
theorem d_S_init_17 : decode prog_3_method_1_code 17 = .ok (.putfield 15, 3) := by decide +kernel
theorem d_S_init_20 : decode prog_3_method_1_code 20 = .ok (.aload_n 0, 1) := by decide +kernel
theorem d_S_init_21 : decode prog_3_method_1_code 21 = .ok (.bipush 21, 2) := by decide +kernel
theorem d_S_init_23 : decode prog_3_method_1_code 23 = .ok (.newarray .int, 2) := by decide +kernel
theorem d_S_init_25 : decode prog_3_method_1_code 25 = .ok (.putfield 19, 3) := by decide +kernel
theorem d_S_init_28 : decode prog_3_method_1_code 28 = .ok (.aload_n 0, 1) := by decide +kernel
theorem d_S_init_29 : decode prog_3_method_1_code 29 = .ok (.bipush 21, 2) := by decide +kernel
theorem d_S_init_31 : decode prog_3_method_1_code 31 = .ok (.newarray .long, 2) := by decide +kernel
theorem d_S_init_33 : decode prog_3_method_1_code 33 = .ok (.putfield 22, 3) := by decide +kernel
theorem d_S_init_36 : decode prog_3_method_1_code 36 = .ok (.aload_n 0, 1) := by decide +kernel
theorem d_S_init_37 : decode prog_3_method_1_code 37 = .ok (.sipush 420, 3) := by decide +kernel
theorem d_S_init_40 : decode prog_3_method_1_code 40 = .ok (.newarray .int, 2) := by decide +kernel
theorem d_S_init_42 : decode prog_3_method_1_code 42 = .ok (.putfield 25, 3) := by decide +kernel
theorem d_S_init_45 : decode prog_3_method_1_code 45 = .ok (.aload_n 0, 1) := by decide +kernel
theorem d_S_init_46 : decode prog_3_method_1_code 46 = .ok (.bipush 21, 2) := by decide +kernel
theorem d_S_init_48 : decode prog_3_method_1_code 48 = .ok (.newarray .int, 2) := by decide +kernel
theorem d_S_init_50 : decode prog_3_method_1_code 50 = .ok (.putfield 28, 3) := by decide +kernel
theorem d_S_init_53 : decode prog_3_method_1_code 53 = .ok (.aload_n 0, 1) := by decide +kernel
theorem d_S_init_54 : decode prog_3_method_1_code 54 = .ok (.bipush 21, 2) := by decide +kernel
theorem d_S_init_56 : decode prog_3_method_1_code 56 = .ok (.newarray .int, 2) := by decide +kernel
theorem d_S_init_58 : decode prog_3_method_1_code 58 = .ok (.putfield 31, 3) := by decide +kernel
theorem d_S_init_61 : decode prog_3_method_1_code 61 = .ok (.aload_n 0, 1) := by decide +kernel
theorem d_S_init_62 : decode prog_3_method_1_code 62 = .ok (.bipush 10, 2) := by decide +kernel
theorem d_S_init_64 : decode prog_3_method_1_code 64 = .ok (.newarray .int, 2) := by decide +kernel
theorem d_S_init_66 : decode prog_3_method_1_code 66 = .ok (.putfield 34, 3) := by decide +kernel
theorem d_S_init_69 : decode prog_3_method_1_code 69 = .ok (.aload_n 0, 1) := by decide +kernel
theorem d_S_init_70 : decode prog_3_method_1_code 70 = .ok (.bipush 126, 2) := by decide +kernel
theorem d_S_init_72 : decode prog_3_method_1_code 72 = .ok (.newarray .int, 2) := by decide +kernel
theorem d_S_init_74 : decode prog_3_method_1_code 74 = .ok (.putfield 37, 3) := by decide +kernel
theorem d_S_init_77 : decode prog_3_method_1_code 77 = .ok (.return_, 1) := by decide +kernel
theorem d_R_placeFor_0 : decode prog_2_method_7_code 0 = .ok (.aload_n 0, 1) := by decide +kernel
theorem d_R_placeFor_1 : decode prog_2_method_7_code 1 = .ok (.getfield 25, 3) := by decide +kernel
theorem d_R_placeFor_4 : decode prog_2_method_7_code 4 = .ok (.istore_n 3, 1) := by decide +kernel
theorem d_R_placeFor_5 : decode prog_2_method_7_code 5 = .ok (.iload_n 3, 1) := by decide +kernel
theorem d_R_placeFor_6 : decode prog_2_method_7_code 6 = .ok (.ifCond .le 22, 3) := by decide +kernel
theorem d_R_placeFor_9 : decode prog_2_method_7_code 9 = .ok (.aload_n 0, 1) := by decide +kernel
theorem d_R_placeFor_10 : decode prog_2_method_7_code 10 = .ok (.getfield 21, 3) := by decide +kernel
theorem d_R_placeFor_13 : decode prog_2_method_7_code 13 = .ok (.iload_n 3, 1) := by decide +kernel
theorem d_R_placeFor_14 : decode prog_2_method_7_code 14 = .ok (.iconst 1, 1) := by decide +kernel
theorem d_R_placeFor_15 : decode prog_2_method_7_code 15 = .ok (.isub, 1) := by decide +kernel
theorem d_R_placeFor_16 : decode prog_2_method_7_code 16 = .ok (.laload, 1) := by decide +kernel
theorem d_R_placeFor_17 : decode prog_2_method_7_code 17 = .ok (.lload_n 1, 1) := by decide +kernel
theorem d_R_placeFor_18 : decode prog_2_method_7_code 18 = .ok (.lcmp, 1) := by decide +kernel
theorem d_R_placeFor_19 : decode prog_2_method_7_code 19 = .ok (.ifCond .le 9, 3) := by decide +kernel
theorem d_R_placeFor_22 : decode prog_2_method_7_code 22 = .ok (.iinc 3 (-1), 3) := by decide +kernel
theorem d_R_placeFor_25 : decode prog_2_method_7_code 25 = .ok (.goto (-20), 3) := by decide +kernel
theorem d_R_placeFor_28 : decode prog_2_method_7_code 28 = .ok (.iload_n 3, 1) := by decide +kernel
theorem d_R_placeFor_29 : decode prog_2_method_7_code 29 = .ok (.ireturn, 1) := by decide +kernel
theorem d_R_insert_0 : decode prog_2_method_6_code 0 = .ok (.aload_n 0, 1) := by decide +kernel
theorem d_R_insert_1 : decode prog_2_method_6_code 1 = .ok (.getfield 25, 3) := by decide +kernel
theorem d_R_insert_4 : decode prog_2_method_6_code 4 = .ok (.sipush 200, 3) := by decide +kernel
theorem d_R_insert_7 : decode prog_2_method_6_code 7 = .ok (.if_icmp .lt 5, 3) := by decide +kernel
theorem d_R_insert_10 : decode prog_2_method_6_code 10 = .ok (.iconst 0, 1) := by decide +kernel
theorem d_R_insert_11 : decode prog_2_method_6_code 11 = .ok (.ireturn, 1) := by decide +kernel
theorem d_R_insert_12 : decode prog_2_method_6_code 12 = .ok (.aload_n 0, 1) := by decide +kernel
theorem d_R_insert_13 : decode prog_2_method_6_code 13 = .ok (.lload 4, 2) := by decide +kernel
theorem d_R_insert_15 : decode prog_2_method_6_code 15 = .ok (.invokevirtual 35, 3) := by decide +kernel
theorem d_R_insert_18 : decode prog_2_method_6_code 18 = .ok (.istore 6, 2) := by decide +kernel
theorem d_R_insert_20 : decode prog_2_method_6_code 20 = .ok (.aload_n 0, 1) := by decide +kernel
theorem d_R_insert_21 : decode prog_2_method_6_code 21 = .ok (.getfield 25, 3) := by decide +kernel
theorem d_R_insert_24 : decode prog_2_method_6_code 24 = .ok (.iload 6, 2) := by decide +kernel
theorem d_R_insert_26 : decode prog_2_method_6_code 26 = .ok (.isub, 1) := by decide +kernel
theorem d_R_insert_27 : decode prog_2_method_6_code 27 = .ok (.istore 7, 2) := by decide +kernel
theorem d_R_insert_29 : decode prog_2_method_6_code 29 = .ok (.aload_n 0, 1) := by decide +kernel
theorem d_R_insert_30 : decode prog_2_method_6_code 30 = .ok (.getfield 9, 3) := by decide +kernel
theorem d_R_insert_33 : decode prog_2_method_6_code 33 = .ok (.iload 6, 2) := by decide +kernel
theorem d_R_insert_35 : decode prog_2_method_6_code 35 = .ok (.aload_n 0, 1) := by decide +kernel
theorem d_R_insert_36 : decode prog_2_method_6_code 36 = .ok (.getfield 9, 3) := by decide +kernel
theorem d_R_insert_39 : decode prog_2_method_6_code 39 = .ok (.iload 6, 2) := by decide +kernel
theorem d_R_insert_41 : decode prog_2_method_6_code 41 = .ok (.iconst 1, 1) := by decide +kernel
theorem d_R_insert_42 : decode prog_2_method_6_code 42 = .ok (.iadd, 1) := by decide +kernel
theorem d_R_insert_43 : decode prog_2_method_6_code 43 = .ok (.iload 7, 2) := by decide +kernel
theorem d_R_insert_45 : decode prog_2_method_6_code 45 = .ok (.invokestatic 39, 3) := by decide +kernel
theorem d_R_insert_48 : decode prog_2_method_6_code 48 = .ok (.aload_n 0, 1) := by decide +kernel
theorem d_R_insert_49 : decode prog_2_method_6_code 49 = .ok (.getfield 15, 3) := by decide +kernel
theorem d_R_insert_52 : decode prog_2_method_6_code 52 = .ok (.iload 6, 2) := by decide +kernel
theorem d_R_insert_54 : decode prog_2_method_6_code 54 = .ok (.aload_n 0, 1) := by decide +kernel
theorem d_R_insert_55 : decode prog_2_method_6_code 55 = .ok (.getfield 15, 3) := by decide +kernel
theorem d_R_insert_58 : decode prog_2_method_6_code 58 = .ok (.iload 6, 2) := by decide +kernel
theorem d_R_insert_60 : decode prog_2_method_6_code 60 = .ok (.iconst 1, 1) := by decide +kernel
theorem d_R_insert_61 : decode prog_2_method_6_code 61 = .ok (.iadd, 1) := by decide +kernel
theorem d_R_insert_62 : decode prog_2_method_6_code 62 = .ok (.iload 7, 2) := by decide +kernel
theorem d_R_insert_64 : decode prog_2_method_6_code 64 = .ok (.invokestatic 39, 3) := by decide +kernel
theorem d_R_insert_67 : decode prog_2_method_6_code 67 = .ok (.aload_n 0, 1) := by decide +kernel
theorem d_R_insert_68 : decode prog_2_method_6_code 68 = .ok (.getfield 18, 3) := by decide +kernel
theorem d_R_insert_71 : decode prog_2_method_6_code 71 = .ok (.iload 6, 2) := by decide +kernel
theorem d_R_insert_73 : decode prog_2_method_6_code 73 = .ok (.aload_n 0, 1) := by decide +kernel
theorem d_R_insert_74 : decode prog_2_method_6_code 74 = .ok (.getfield 18, 3) := by decide +kernel
theorem d_R_insert_77 : decode prog_2_method_6_code 77 = .ok (.iload 6, 2) := by decide +kernel
theorem d_R_insert_79 : decode prog_2_method_6_code 79 = .ok (.iconst 1, 1) := by decide +kernel
theorem d_R_insert_80 : decode prog_2_method_6_code 80 = .ok (.iadd, 1) := by decide +kernel
theorem d_R_insert_81 : decode prog_2_method_6_code 81 = .ok (.iload 7, 2) := by decide +kernel
theorem d_R_insert_83 : decode prog_2_method_6_code 83 = .ok (.invokestatic 39, 3) := by decide +kernel
theorem d_R_insert_86 : decode prog_2_method_6_code 86 = .ok (.aload_n 0, 1) := by decide +kernel
theorem d_R_insert_87 : decode prog_2_method_6_code 87 = .ok (.getfield 21, 3) := by decide +kernel
theorem d_R_insert_90 : decode prog_2_method_6_code 90 = .ok (.iload 6, 2) := by decide +kernel
theorem d_R_insert_92 : decode prog_2_method_6_code 92 = .ok (.aload_n 0, 1) := by decide +kernel
theorem d_R_insert_93 : decode prog_2_method_6_code 93 = .ok (.getfield 21, 3) := by decide +kernel
theorem d_R_insert_96 : decode prog_2_method_6_code 96 = .ok (.iload 6, 2) := by decide +kernel
theorem d_R_insert_98 : decode prog_2_method_6_code 98 = .ok (.iconst 1, 1) := by decide +kernel
theorem d_R_insert_99 : decode prog_2_method_6_code 99 = .ok (.iadd, 1) := by decide +kernel
theorem d_R_insert_100 : decode prog_2_method_6_code 100 = .ok (.iload 7, 2) := by decide +kernel
theorem d_R_insert_102 : decode prog_2_method_6_code 102 = .ok (.invokestatic 39, 3) := by decide +kernel
theorem d_R_insert_105 : decode prog_2_method_6_code 105 = .ok (.aload_n 0, 1) := by decide +kernel
theorem d_R_insert_106 : decode prog_2_method_6_code 106 = .ok (.getfield 9, 3) := by decide +kernel
theorem d_R_insert_109 : decode prog_2_method_6_code 109 = .ok (.iload 6, 2) := by decide +kernel
theorem d_R_insert_111 : decode prog_2_method_6_code 111 = .ok (.iload_n 1, 1) := by decide +kernel
theorem d_R_insert_112 : decode prog_2_method_6_code 112 = .ok (.iastore, 1) := by decide +kernel
theorem d_R_insert_113 : decode prog_2_method_6_code 113 = .ok (.aload_n 0, 1) := by decide +kernel
theorem d_R_insert_114 : decode prog_2_method_6_code 114 = .ok (.getfield 15, 3) := by decide +kernel
theorem d_R_insert_117 : decode prog_2_method_6_code 117 = .ok (.iload 6, 2) := by decide +kernel
theorem d_R_insert_119 : decode prog_2_method_6_code 119 = .ok (.iload_n 2, 1) := by decide +kernel
theorem d_R_insert_120 : decode prog_2_method_6_code 120 = .ok (.iastore, 1) := by decide +kernel
theorem d_R_insert_121 : decode prog_2_method_6_code 121 = .ok (.aload_n 0, 1) := by decide +kernel
theorem d_R_insert_122 : decode prog_2_method_6_code 122 = .ok (.getfield 18, 3) := by decide +kernel
theorem d_R_insert_125 : decode prog_2_method_6_code 125 = .ok (.iload 6, 2) := by decide +kernel
theorem d_R_insert_127 : decode prog_2_method_6_code 127 = .ok (.iload_n 3, 1) := by decide +kernel
theorem d_R_insert_128 : decode prog_2_method_6_code 128 = .ok (.iastore, 1) := by decide +kernel
theorem d_R_insert_129 : decode prog_2_method_6_code 129 = .ok (.aload_n 0, 1) := by decide +kernel
theorem d_R_insert_130 : decode prog_2_method_6_code 130 = .ok (.getfield 21, 3) := by decide +kernel
theorem d_R_insert_133 : decode prog_2_method_6_code 133 = .ok (.iload 6, 2) := by decide +kernel
theorem d_R_insert_135 : decode prog_2_method_6_code 135 = .ok (.lload 4, 2) := by decide +kernel
theorem d_R_insert_137 : decode prog_2_method_6_code 137 = .ok (.lastore, 1) := by decide +kernel
theorem d_R_insert_138 : decode prog_2_method_6_code 138 = .ok (.aload_n 0, 1) := by decide +kernel
theorem d_R_insert_139 : decode prog_2_method_6_code 139 = .ok (.dup, 1) := by decide +kernel
theorem d_R_insert_140 : decode prog_2_method_6_code 140 = .ok (.getfield 25, 3) := by decide +kernel
theorem d_R_insert_143 : decode prog_2_method_6_code 143 = .ok (.iconst 1, 1) := by decide +kernel
theorem d_R_insert_144 : decode prog_2_method_6_code 144 = .ok (.iadd, 1) := by decide +kernel
theorem d_R_insert_145 : decode prog_2_method_6_code 145 = .ok (.putfield 25, 3) := by decide +kernel
theorem d_R_insert_148 : decode prog_2_method_6_code 148 = .ok (.iconst 1, 1) := by decide +kernel
theorem d_R_insert_149 : decode prog_2_method_6_code 149 = .ok (.ireturn, 1) := by decide +kernel
theorem d_R_size_0 : decode prog_2_method_2_code 0 = .ok (.aload_n 0, 1) := by decide +kernel
theorem d_R_size_1 : decode prog_2_method_2_code 1 = .ok (.getfield 25, 3) := by decide +kernel
theorem d_R_size_4 : decode prog_2_method_2_code 4 = .ok (.ireturn, 1) := by decide +kernel
theorem d_J_fillJ_0 : decode prog_8_method_101_code 0 = .ok (.iconst 0, 1) := by decide +kernel
theorem d_J_fillJ_1 : decode prog_8_method_101_code 1 = .ok (.istore_n 3, 1) := by decide +kernel
theorem d_J_fillJ_2 : decode prog_8_method_101_code 2 = .ok (.aload_n 0, 1) := by decide +kernel
theorem d_J_fillJ_3 : decode prog_8_method_101_code 3 = .ok (.arraylength, 1) := by decide +kernel
theorem d_J_fillJ_4 : decode prog_8_method_101_code 4 = .ok (.istore 4, 2) := by decide +kernel
theorem d_J_fillJ_6 : decode prog_8_method_101_code 6 = .ok (.iload_n 3, 1) := by decide +kernel
theorem d_J_fillJ_7 : decode prog_8_method_101_code 7 = .ok (.iload 4, 2) := by decide +kernel
theorem d_J_fillJ_9 : decode prog_8_method_101_code 9 = .ok (.if_icmp .ge 13, 3) := by decide +kernel
theorem d_J_fillJ_12 : decode prog_8_method_101_code 12 = .ok (.aload_n 0, 1) := by decide +kernel
theorem d_J_fillJ_13 : decode prog_8_method_101_code 13 = .ok (.iload_n 3, 1) := by decide +kernel
theorem d_J_fillJ_14 : decode prog_8_method_101_code 14 = .ok (.lload_n 1, 1) := by decide +kernel
theorem d_J_fillJ_15 : decode prog_8_method_101_code 15 = .ok (.lastore, 1) := by decide +kernel
theorem d_J_fillJ_16 : decode prog_8_method_101_code 16 = .ok (.iinc 3 1, 3) := by decide +kernel
theorem d_J_fillJ_19 : decode prog_8_method_101_code 19 = .ok (.goto (-13), 3) := by decide +kernel
theorem d_J_fillJ_22 : decode prog_8_method_101_code 22 = .ok (.return_, 1) := by decide +kernel
theorem d_J_fillI_0 : decode prog_8_method_103_code 0 = .ok (.iconst 0, 1) := by decide +kernel
theorem d_J_fillI_1 : decode prog_8_method_103_code 1 = .ok (.istore_n 2, 1) := by decide +kernel
theorem d_J_fillI_2 : decode prog_8_method_103_code 2 = .ok (.aload_n 0, 1) := by decide +kernel
theorem d_J_fillI_3 : decode prog_8_method_103_code 3 = .ok (.arraylength, 1) := by decide +kernel
theorem d_J_fillI_4 : decode prog_8_method_103_code 4 = .ok (.istore_n 3, 1) := by decide +kernel
theorem d_J_fillI_5 : decode prog_8_method_103_code 5 = .ok (.iload_n 2, 1) := by decide +kernel
theorem d_J_fillI_6 : decode prog_8_method_103_code 6 = .ok (.iload_n 3, 1) := by decide +kernel
theorem d_J_fillI_7 : decode prog_8_method_103_code 7 = .ok (.if_icmp .ge 13, 3) := by decide +kernel
theorem d_J_fillI_10 : decode prog_8_method_103_code 10 = .ok (.aload_n 0, 1) := by decide +kernel
theorem d_J_fillI_11 : decode prog_8_method_103_code 11 = .ok (.iload_n 2, 1) := by decide +kernel
theorem d_J_fillI_12 : decode prog_8_method_103_code 12 = .ok (.iload_n 1, 1) := by decide +kernel
theorem d_J_fillI_13 : decode prog_8_method_103_code 13 = .ok (.iastore, 1) := by decide +kernel
theorem d_J_fillI_14 : decode prog_8_method_103_code 14 = .ok (.iinc 2 1, 3) := by decide +kernel
theorem d_J_fillI_17 : decode prog_8_method_103_code 17 = .ok (.goto (-12), 3) := by decide +kernel
theorem d_J_fillI_20 : decode prog_8_method_103_code 20 = .ok (.return_, 1) := by decide +kernel
theorem d_S_clear_0 : decode prog_3_method_2_code 0 = .ok (.aload_n 0, 1) := by decide +kernel
theorem d_S_clear_1 : decode prog_3_method_2_code 1 = .ok (.getfield 11, 3) := by decide +kernel
theorem d_S_clear_4 : decode prog_3_method_2_code 4 = .ok (.lconst 0, 1) := by decide +kernel
theorem d_S_clear_5 : decode prog_3_method_2_code 5 = .ok (.invokestatic 40, 3) := by decide +kernel
theorem d_S_clear_8 : decode prog_3_method_2_code 8 = .ok (.aload_n 0, 1) := by decide +kernel
theorem d_S_clear_9 : decode prog_3_method_2_code 9 = .ok (.getfield 15, 3) := by decide +kernel
theorem d_S_clear_12 : decode prog_3_method_2_code 12 = .ok (.iconst 0, 1) := by decide +kernel
theorem d_S_clear_13 : decode prog_3_method_2_code 13 = .ok (.invokestatic 46, 3) := by decide +kernel
theorem d_S_clear_16 : decode prog_3_method_2_code 16 = .ok (.aload_n 0, 1) := by decide +kernel
theorem d_S_clear_17 : decode prog_3_method_2_code 17 = .ok (.getfield 19, 3) := by decide +kernel
theorem d_S_clear_20 : decode prog_3_method_2_code 20 = .ok (.iconst 0, 1) := by decide +kernel
theorem d_S_clear_21 : decode prog_3_method_2_code 21 = .ok (.invokestatic 46, 3) := by decide +kernel
theorem d_S_clear_24 : decode prog_3_method_2_code 24 = .ok (.aload_n 0, 1) := by decide +kernel
theorem d_S_clear_25 : decode prog_3_method_2_code 25 = .ok (.getfield 28, 3) := by decide +kernel
theorem d_S_clear_28 : decode prog_3_method_2_code 28 = .ok (.iconst 0, 1) := by decide +kernel
theorem d_S_clear_29 : decode prog_3_method_2_code 29 = .ok (.invokestatic 46, 3) := by decide +kernel
theorem d_S_clear_32 : decode prog_3_method_2_code 32 = .ok (.aload_n 0, 1) := by decide +kernel
theorem d_S_clear_33 : decode prog_3_method_2_code 33 = .ok (.getfield 31, 3) := by decide +kernel
theorem d_S_clear_36 : decode prog_3_method_2_code 36 = .ok (.iconst 0, 1) := by decide +kernel
theorem d_S_clear_37 : decode prog_3_method_2_code 37 = .ok (.invokestatic 46, 3) := by decide +kernel
theorem d_S_clear_40 : decode prog_3_method_2_code 40 = .ok (.aload_n 0, 1) := by decide +kernel
theorem d_S_clear_41 : decode prog_3_method_2_code 41 = .ok (.getfield 34, 3) := by decide +kernel
theorem d_S_clear_44 : decode prog_3_method_2_code 44 = .ok (.bipush 28, 2) := by decide +kernel
theorem d_S_clear_46 : decode prog_3_method_2_code 46 = .ok (.invokestatic 46, 3) := by decide +kernel
theorem d_S_clear_49 : decode prog_3_method_2_code 49 = .ok (.aload_n 0, 1) := by decide +kernel
theorem d_S_clear_50 : decode prog_3_method_2_code 50 = .ok (.getfield 37, 3) := by decide +kernel
theorem d_S_clear_53 : decode prog_3_method_2_code 53 = .ok (.iconst (-1), 1) := by decide +kernel
theorem d_S_clear_54 : decode prog_3_method_2_code 54 = .ok (.invokestatic 46, 3) := by decide +kernel
theorem d_S_clear_57 : decode prog_3_method_2_code 57 = .ok (.return_, 1) := by decide +kernel
theorem d_S_wordIndex_0 : decode prog_3_method_16_code 0 = .ok (.iload_n 0, 1) := by decide +kernel
theorem d_S_wordIndex_1 : decode prog_3_method_16_code 1 = .ok (.iconst 2, 1) := by decide +kernel
theorem d_S_wordIndex_2 : decode prog_3_method_16_code 2 = .ok (.imul, 1) := by decide +kernel
theorem d_S_wordIndex_3 : decode prog_3_method_16_code 3 = .ok (.iload_n 1, 1) := by decide +kernel
theorem d_S_wordIndex_4 : decode prog_3_method_16_code 4 = .ok (.bipush 64, 2) := by decide +kernel
theorem d_S_wordIndex_6 : decode prog_3_method_16_code 6 = .ok (.idiv, 1) := by decide +kernel
theorem d_S_wordIndex_7 : decode prog_3_method_16_code 7 = .ok (.iadd, 1) := by decide +kernel
theorem d_S_wordIndex_8 : decode prog_3_method_16_code 8 = .ok (.ireturn, 1) := by decide +kernel
theorem d_S_bitOf_0 : decode prog_3_method_17_code 0 = .ok (.lconst 1, 1) := by decide +kernel
theorem d_S_bitOf_1 : decode prog_3_method_17_code 1 = .ok (.iload_n 0, 1) := by decide +kernel
theorem d_S_bitOf_2 : decode prog_3_method_17_code 2 = .ok (.bipush 64, 2) := by decide +kernel
theorem d_S_bitOf_4 : decode prog_3_method_17_code 4 = .ok (.irem, 1) := by decide +kernel
theorem d_S_bitOf_5 : decode prog_3_method_17_code 5 = .ok (.lshl, 1) := by decide +kernel
theorem d_S_bitOf_6 : decode prog_3_method_17_code 6 = .ok (.lreturn, 1) := by decide +kernel
theorem d_S_hasHeading_0 : decode prog_3_method_9_code 0 = .ok (.aload_n 0, 1) := by decide +kernel
theorem d_S_hasHeading_1 : decode prog_3_method_9_code 1 = .ok (.getfield 11, 3) := by decide +kernel
theorem d_S_hasHeading_4 : decode prog_3_method_9_code 4 = .ok (.iload_n 1, 1) := by decide +kernel
theorem d_S_hasHeading_5 : decode prog_3_method_9_code 5 = .ok (.iload_n 2, 1) := by decide +kernel
theorem d_S_hasHeading_6 : decode prog_3_method_9_code 6 = .ok (.invokestatic 82, 3) := by decide +kernel
theorem d_S_hasHeading_9 : decode prog_3_method_9_code 9 = .ok (.laload, 1) := by decide +kernel
theorem d_S_hasHeading_10 : decode prog_3_method_9_code 10 = .ok (.iload_n 2, 1) := by decide +kernel
theorem d_S_hasHeading_11 : decode prog_3_method_9_code 11 = .ok (.invokestatic 85, 3) := by decide +kernel
theorem d_S_hasHeading_14 : decode prog_3_method_9_code 14 = .ok (.land, 1) := by decide +kernel
theorem d_S_hasHeading_15 : decode prog_3_method_9_code 15 = .ok (.lconst 0, 1) := by decide +kernel
theorem d_S_hasHeading_16 : decode prog_3_method_9_code 16 = .ok (.lcmp, 1) := by decide +kernel
theorem d_S_hasHeading_17 : decode prog_3_method_9_code 17 = .ok (.ifCond .eq 7, 3) := by decide +kernel
theorem d_S_hasHeading_20 : decode prog_3_method_9_code 20 = .ok (.iconst 1, 1) := by decide +kernel
theorem d_S_hasHeading_21 : decode prog_3_method_9_code 21 = .ok (.goto 4, 3) := by decide +kernel
theorem d_S_hasHeading_24 : decode prog_3_method_9_code 24 = .ok (.iconst 0, 1) := by decide +kernel
theorem d_S_hasHeading_25 : decode prog_3_method_9_code 25 = .ok (.ireturn, 1) := by decide +kernel
theorem d_S_addHeading_0 : decode prog_3_method_18_code 0 = .ok (.aload_n 0, 1) := by decide +kernel
theorem d_S_addHeading_1 : decode prog_3_method_18_code 1 = .ok (.iload_n 1, 1) := by decide +kernel
theorem d_S_addHeading_2 : decode prog_3_method_18_code 2 = .ok (.iload_n 2, 1) := by decide +kernel
theorem d_S_addHeading_3 : decode prog_3_method_18_code 3 = .ok (.invokevirtual 89, 3) := by decide +kernel
theorem d_S_addHeading_6 : decode prog_3_method_18_code 6 = .ok (.ifCond .eq 5, 3) := by decide +kernel
theorem d_S_addHeading_9 : decode prog_3_method_18_code 9 = .ok (.iconst 0, 1) := by decide +kernel
theorem d_S_addHeading_10 : decode prog_3_method_18_code 10 = .ok (.ireturn, 1) := by decide +kernel
theorem d_S_addHeading_11 : decode prog_3_method_18_code 11 = .ok (.aload_n 0, 1) := by decide +kernel
theorem d_S_addHeading_12 : decode prog_3_method_18_code 12 = .ok (.getfield 11, 3) := by decide +kernel
theorem d_S_addHeading_15 : decode prog_3_method_18_code 15 = .ok (.iload_n 1, 1) := by decide +kernel
theorem d_S_addHeading_16 : decode prog_3_method_18_code 16 = .ok (.iload_n 2, 1) := by decide +kernel
theorem d_S_addHeading_17 : decode prog_3_method_18_code 17 = .ok (.invokestatic 82, 3) := by decide +kernel
theorem d_S_addHeading_20 : decode prog_3_method_18_code 20 = .ok (.dup2, 1) := by decide +kernel
theorem d_S_addHeading_21 : decode prog_3_method_18_code 21 = .ok (.laload, 1) := by decide +kernel
theorem d_S_addHeading_22 : decode prog_3_method_18_code 22 = .ok (.iload_n 2, 1) := by decide +kernel
theorem d_S_addHeading_23 : decode prog_3_method_18_code 23 = .ok (.invokestatic 85, 3) := by decide +kernel
theorem d_S_addHeading_26 : decode prog_3_method_18_code 26 = .ok (.lor, 1) := by decide +kernel
theorem d_S_addHeading_27 : decode prog_3_method_18_code 27 = .ok (.lastore, 1) := by decide +kernel
theorem d_S_addHeading_28 : decode prog_3_method_18_code 28 = .ok (.iconst 1, 1) := by decide +kernel
theorem d_S_addHeading_29 : decode prog_3_method_18_code 29 = .ok (.ireturn, 1) := by decide +kernel
theorem d_S_dropHeading_0 : decode prog_3_method_19_code 0 = .ok (.aload_n 0, 1) := by decide +kernel
theorem d_S_dropHeading_1 : decode prog_3_method_19_code 1 = .ok (.iload_n 1, 1) := by decide +kernel
theorem d_S_dropHeading_2 : decode prog_3_method_19_code 2 = .ok (.iload_n 2, 1) := by decide +kernel
theorem d_S_dropHeading_3 : decode prog_3_method_19_code 3 = .ok (.invokevirtual 89, 3) := by decide +kernel
theorem d_S_dropHeading_6 : decode prog_3_method_19_code 6 = .ok (.ifCond .ne 5, 3) := by decide +kernel
theorem d_S_dropHeading_9 : decode prog_3_method_19_code 9 = .ok (.iconst 0, 1) := by decide +kernel
theorem d_S_dropHeading_10 : decode prog_3_method_19_code 10 = .ok (.ireturn, 1) := by decide +kernel
theorem d_S_dropHeading_11 : decode prog_3_method_19_code 11 = .ok (.aload_n 0, 1) := by decide +kernel
theorem d_S_dropHeading_12 : decode prog_3_method_19_code 12 = .ok (.getfield 11, 3) := by decide +kernel
theorem d_S_dropHeading_15 : decode prog_3_method_19_code 15 = .ok (.iload_n 1, 1) := by decide +kernel
theorem d_S_dropHeading_16 : decode prog_3_method_19_code 16 = .ok (.iload_n 2, 1) := by decide +kernel
theorem d_S_dropHeading_17 : decode prog_3_method_19_code 17 = .ok (.invokestatic 82, 3) := by decide +kernel
theorem d_S_dropHeading_20 : decode prog_3_method_19_code 20 = .ok (.dup2, 1) := by decide +kernel
theorem d_S_dropHeading_21 : decode prog_3_method_19_code 21 = .ok (.laload, 1) := by decide +kernel
theorem d_S_dropHeading_22 : decode prog_3_method_19_code 22 = .ok (.iload_n 2, 1) := by decide +kernel
theorem d_S_dropHeading_23 : decode prog_3_method_19_code 23 = .ok (.invokestatic 85, 3) := by decide +kernel
theorem d_S_dropHeading_26 : decode prog_3_method_19_code 26 = .ok (.ldc2_w 92, 3) := by decide +kernel
theorem d_S_dropHeading_29 : decode prog_3_method_19_code 29 = .ok (.lxor, 1) := by decide +kernel
theorem d_S_dropHeading_30 : decode prog_3_method_19_code 30 = .ok (.land, 1) := by decide +kernel
theorem d_S_dropHeading_31 : decode prog_3_method_19_code 31 = .ok (.lastore, 1) := by decide +kernel
theorem d_S_dropHeading_32 : decode prog_3_method_19_code 32 = .ok (.iconst 1, 1) := by decide +kernel
theorem d_S_dropHeading_33 : decode prog_3_method_19_code 33 = .ok (.ireturn, 1) := by decide +kernel
theorem d_S_setRecord_0 : decode prog_3_method_20_code 0 = .ok (.aload_n 0, 1) := by decide +kernel
theorem d_S_setRecord_1 : decode prog_3_method_20_code 1 = .ok (.getfield 19, 3) := by decide +kernel
theorem d_S_setRecord_4 : decode prog_3_method_20_code 4 = .ok (.iload_n 1, 1) := by decide +kernel
theorem d_S_setRecord_5 : decode prog_3_method_20_code 5 = .ok (.iaload, 1) := by decide +kernel
theorem d_S_setRecord_6 : decode prog_3_method_20_code 6 = .ok (.ifCond .eq 5, 3) := by decide +kernel
theorem d_S_setRecord_9 : decode prog_3_method_20_code 9 = .ok (.iconst 0, 1) := by decide +kernel
theorem d_S_setRecord_10 : decode prog_3_method_20_code 10 = .ok (.ireturn, 1) := by decide +kernel
theorem d_S_setRecord_11 : decode prog_3_method_20_code 11 = .ok (.aload_n 0, 1) := by decide +kernel
theorem d_S_setRecord_12 : decode prog_3_method_20_code 12 = .ok (.getfield 15, 3) := by decide +kernel
theorem d_S_setRecord_15 : decode prog_3_method_20_code 15 = .ok (.iload_n 1, 1) := by decide +kernel
theorem d_S_setRecord_16 : decode prog_3_method_20_code 16 = .ok (.iload_n 2, 1) := by decide +kernel
theorem d_S_setRecord_17 : decode prog_3_method_20_code 17 = .ok (.iastore, 1) := by decide +kernel
theorem d_S_setRecord_18 : decode prog_3_method_20_code 18 = .ok (.iconst 1, 1) := by decide +kernel
theorem d_S_setRecord_19 : decode prog_3_method_20_code 19 = .ok (.ireturn, 1) := by decide +kernel
theorem d_S_personAt_0 : decode prog_3_method_12_code 0 = .ok (.iload_n 2, 1) := by decide +kernel
theorem d_S_personAt_1 : decode prog_3_method_12_code 1 = .ok (.ifCond .lt 27, 3) := by decide +kernel
theorem d_S_personAt_4 : decode prog_3_method_12_code 4 = .ok (.iload_n 2, 1) := by decide +kernel
theorem d_S_personAt_5 : decode prog_3_method_12_code 5 = .ok (.aload_n 0, 1) := by decide +kernel
theorem d_S_personAt_6 : decode prog_3_method_12_code 6 = .ok (.getfield 28, 3) := by decide +kernel
theorem d_S_personAt_9 : decode prog_3_method_12_code 9 = .ok (.iload_n 1, 1) := by decide +kernel
theorem d_S_personAt_10 : decode prog_3_method_12_code 10 = .ok (.iaload, 1) := by decide +kernel
theorem d_S_personAt_11 : decode prog_3_method_12_code 11 = .ok (.if_icmp .ge 17, 3) := by decide +kernel
theorem d_S_personAt_14 : decode prog_3_method_12_code 14 = .ok (.aload_n 0, 1) := by decide +kernel
theorem d_S_personAt_15 : decode prog_3_method_12_code 15 = .ok (.getfield 25, 3) := by decide +kernel
theorem d_S_personAt_18 : decode prog_3_method_12_code 18 = .ok (.iload_n 1, 1) := by decide +kernel
theorem d_S_personAt_19 : decode prog_3_method_12_code 19 = .ok (.bipush 20, 2) := by decide +kernel
theorem d_S_personAt_21 : decode prog_3_method_12_code 21 = .ok (.imul, 1) := by decide +kernel
theorem d_S_personAt_22 : decode prog_3_method_12_code 22 = .ok (.iload_n 2, 1) := by decide +kernel
theorem d_S_personAt_23 : decode prog_3_method_12_code 23 = .ok (.iadd, 1) := by decide +kernel
theorem d_S_personAt_24 : decode prog_3_method_12_code 24 = .ok (.iaload, 1) := by decide +kernel
theorem d_S_personAt_25 : decode prog_3_method_12_code 25 = .ok (.goto 4, 3) := by decide +kernel
theorem d_S_personAt_28 : decode prog_3_method_12_code 28 = .ok (.iconst (-1), 1) := by decide +kernel
theorem d_S_personAt_29 : decode prog_3_method_12_code 29 = .ok (.ireturn, 1) := by decide +kernel
theorem d_S_placeInQueue_0 : decode prog_3_method_23_code 0 = .ok (.iconst 0, 1) := by decide +kernel
theorem d_S_placeInQueue_1 : decode prog_3_method_23_code 1 = .ok (.istore_n 3, 1) := by decide +kernel
theorem d_S_placeInQueue_2 : decode prog_3_method_23_code 2 = .ok (.iload_n 3, 1) := by decide +kernel
theorem d_S_placeInQueue_3 : decode prog_3_method_23_code 3 = .ok (.aload_n 0, 1) := by decide +kernel
theorem d_S_placeInQueue_4 : decode prog_3_method_23_code 4 = .ok (.getfield 28, 3) := by decide +kernel
theorem d_S_placeInQueue_7 : decode prog_3_method_23_code 7 = .ok (.iload_n 1, 1) := by decide +kernel
theorem d_S_placeInQueue_8 : decode prog_3_method_23_code 8 = .ok (.iaload, 1) := by decide +kernel
theorem d_S_placeInQueue_9 : decode prog_3_method_23_code 9 = .ok (.if_icmp .ge 26, 3) := by decide +kernel
theorem d_S_placeInQueue_12 : decode prog_3_method_23_code 12 = .ok (.aload_n 0, 1) := by decide +kernel
theorem d_S_placeInQueue_13 : decode prog_3_method_23_code 13 = .ok (.getfield 25, 3) := by decide +kernel
theorem d_S_placeInQueue_16 : decode prog_3_method_23_code 16 = .ok (.iload_n 1, 1) := by decide +kernel
theorem d_S_placeInQueue_17 : decode prog_3_method_23_code 17 = .ok (.bipush 20, 2) := by decide +kernel
theorem d_S_placeInQueue_19 : decode prog_3_method_23_code 19 = .ok (.imul, 1) := by decide +kernel
theorem d_S_placeInQueue_20 : decode prog_3_method_23_code 20 = .ok (.iload_n 3, 1) := by decide +kernel
theorem d_S_placeInQueue_21 : decode prog_3_method_23_code 21 = .ok (.iadd, 1) := by decide +kernel
theorem d_S_placeInQueue_22 : decode prog_3_method_23_code 22 = .ok (.iaload, 1) := by decide +kernel
theorem d_S_placeInQueue_23 : decode prog_3_method_23_code 23 = .ok (.iload_n 2, 1) := by decide +kernel
theorem d_S_placeInQueue_24 : decode prog_3_method_23_code 24 = .ok (.if_icmp .ne 5, 3) := by decide +kernel
theorem d_S_placeInQueue_27 : decode prog_3_method_23_code 27 = .ok (.iload_n 3, 1) := by decide +kernel
theorem d_S_placeInQueue_28 : decode prog_3_method_23_code 28 = .ok (.ireturn, 1) := by decide +kernel
theorem d_S_placeInQueue_29 : decode prog_3_method_23_code 29 = .ok (.iinc 3 1, 3) := by decide +kernel
theorem d_S_placeInQueue_32 : decode prog_3_method_23_code 32 = .ok (.goto (-30), 3) := by decide +kernel
theorem d_S_placeInQueue_35 : decode prog_3_method_23_code 35 = .ok (.iconst (-1), 1) := by decide +kernel
theorem d_S_placeInQueue_36 : decode prog_3_method_23_code 36 = .ok (.ireturn, 1) := by decide +kernel
theorem d_S_leaveQueue_0 : decode prog_3_method_25_code 0 = .ok (.aload_n 0, 1) := by decide +kernel
theorem d_S_leaveQueue_1 : decode prog_3_method_25_code 1 = .ok (.iload_n 1, 1) := by decide +kernel
theorem d_S_leaveQueue_2 : decode prog_3_method_25_code 2 = .ok (.iload_n 2, 1) := by decide +kernel
theorem d_S_leaveQueue_3 : decode prog_3_method_25_code 3 = .ok (.invokevirtual 100, 3) := by decide +kernel
theorem d_S_leaveQueue_6 : decode prog_3_method_25_code 6 = .ok (.istore_n 3, 1) := by decide +kernel
theorem d_S_leaveQueue_7 : decode prog_3_method_25_code 7 = .ok (.iload_n 3, 1) := by decide +kernel
theorem d_S_leaveQueue_8 : decode prog_3_method_25_code 8 = .ok (.iconst (-1), 1) := by decide +kernel
theorem d_S_leaveQueue_9 : decode prog_3_method_25_code 9 = .ok (.if_icmp .ne 5, 3) := by decide +kernel
theorem d_S_leaveQueue_12 : decode prog_3_method_25_code 12 = .ok (.iconst 0, 1) := by decide +kernel
theorem d_S_leaveQueue_13 : decode prog_3_method_25_code 13 = .ok (.ireturn, 1) := by decide +kernel
theorem d_S_leaveQueue_14 : decode prog_3_method_25_code 14 = .ok (.iload_n 1, 1) := by decide +kernel
theorem d_S_leaveQueue_15 : decode prog_3_method_25_code 15 = .ok (.bipush 20, 2) := by decide +kernel
theorem d_S_leaveQueue_17 : decode prog_3_method_25_code 17 = .ok (.imul, 1) := by decide +kernel
theorem d_S_leaveQueue_18 : decode prog_3_method_25_code 18 = .ok (.iload_n 3, 1) := by decide +kernel
theorem d_S_leaveQueue_19 : decode prog_3_method_25_code 19 = .ok (.iadd, 1) := by decide +kernel
theorem d_S_leaveQueue_20 : decode prog_3_method_25_code 20 = .ok (.istore 4, 2) := by decide +kernel
theorem d_S_leaveQueue_22 : decode prog_3_method_25_code 22 = .ok (.aload_n 0, 1) := by decide +kernel
theorem d_S_leaveQueue_23 : decode prog_3_method_25_code 23 = .ok (.getfield 25, 3) := by decide +kernel
theorem d_S_leaveQueue_26 : decode prog_3_method_25_code 26 = .ok (.iload 4, 2) := by decide +kernel
theorem d_S_leaveQueue_28 : decode prog_3_method_25_code 28 = .ok (.iconst 1, 1) := by decide +kernel
theorem d_S_leaveQueue_29 : decode prog_3_method_25_code 29 = .ok (.iadd, 1) := by decide +kernel
theorem d_S_leaveQueue_30 : decode prog_3_method_25_code 30 = .ok (.aload_n 0, 1) := by decide +kernel
theorem d_S_leaveQueue_31 : decode prog_3_method_25_code 31 = .ok (.getfield 25, 3) := by decide +kernel
theorem d_S_leaveQueue_34 : decode prog_3_method_25_code 34 = .ok (.iload 4, 2) := by decide +kernel
theorem d_S_leaveQueue_36 : decode prog_3_method_25_code 36 = .ok (.aload_n 0, 1) := by decide +kernel
theorem d_S_leaveQueue_37 : decode prog_3_method_25_code 37 = .ok (.getfield 28, 3) := by decide +kernel
theorem d_S_leaveQueue_40 : decode prog_3_method_25_code 40 = .ok (.iload_n 1, 1) := by decide +kernel
theorem d_S_leaveQueue_41 : decode prog_3_method_25_code 41 = .ok (.iaload, 1) := by decide +kernel
theorem d_S_leaveQueue_42 : decode prog_3_method_25_code 42 = .ok (.iload_n 3, 1) := by decide +kernel
theorem d_S_leaveQueue_43 : decode prog_3_method_25_code 43 = .ok (.isub, 1) := by decide +kernel
theorem d_S_leaveQueue_44 : decode prog_3_method_25_code 44 = .ok (.iconst 1, 1) := by decide +kernel
theorem d_S_leaveQueue_45 : decode prog_3_method_25_code 45 = .ok (.isub, 1) := by decide +kernel
theorem d_S_leaveQueue_46 : decode prog_3_method_25_code 46 = .ok (.invokestatic 103, 3) := by decide +kernel
theorem d_S_leaveQueue_49 : decode prog_3_method_25_code 49 = .ok (.aload_n 0, 1) := by decide +kernel
theorem d_S_leaveQueue_50 : decode prog_3_method_25_code 50 = .ok (.getfield 28, 3) := by decide +kernel
theorem d_S_leaveQueue_53 : decode prog_3_method_25_code 53 = .ok (.iload_n 1, 1) := by decide +kernel
theorem d_S_leaveQueue_54 : decode prog_3_method_25_code 54 = .ok (.dup2, 1) := by decide +kernel
theorem d_S_leaveQueue_55 : decode prog_3_method_25_code 55 = .ok (.iaload, 1) := by decide +kernel
theorem d_S_leaveQueue_56 : decode prog_3_method_25_code 56 = .ok (.iconst 1, 1) := by decide +kernel
theorem d_S_leaveQueue_57 : decode prog_3_method_25_code 57 = .ok (.isub, 1) := by decide +kernel
theorem d_S_leaveQueue_58 : decode prog_3_method_25_code 58 = .ok (.iastore, 1) := by decide +kernel
theorem d_S_leaveQueue_59 : decode prog_3_method_25_code 59 = .ok (.iconst 1, 1) := by decide +kernel
theorem d_S_leaveQueue_60 : decode prog_3_method_25_code 60 = .ok (.ireturn, 1) := by decide +kernel
theorem d_S_lend_0 : decode prog_3_method_21_code 0 = .ok (.aload_n 0, 1) := by decide +kernel
theorem d_S_lend_1 : decode prog_3_method_21_code 1 = .ok (.getfield 15, 3) := by decide +kernel
theorem d_S_lend_4 : decode prog_3_method_21_code 4 = .ok (.iload_n 1, 1) := by decide +kernel
theorem d_S_lend_5 : decode prog_3_method_21_code 5 = .ok (.iaload, 1) := by decide +kernel
theorem d_S_lend_6 : decode prog_3_method_21_code 6 = .ok (.istore 5, 2) := by decide +kernel
theorem d_S_lend_8 : decode prog_3_method_21_code 8 = .ok (.iload 5, 2) := by decide +kernel
theorem d_S_lend_10 : decode prog_3_method_21_code 10 = .ok (.ifCond .eq 12, 3) := by decide +kernel
theorem d_S_lend_13 : decode prog_3_method_21_code 13 = .ok (.aload_n 0, 1) := by decide +kernel
theorem d_S_lend_14 : decode prog_3_method_21_code 14 = .ok (.getfield 19, 3) := by decide +kernel
theorem d_S_lend_17 : decode prog_3_method_21_code 17 = .ok (.iload_n 1, 1) := by decide +kernel
theorem d_S_lend_18 : decode prog_3_method_21_code 18 = .ok (.iaload, 1) := by decide +kernel
theorem d_S_lend_19 : decode prog_3_method_21_code 19 = .ok (.ifCond .eq 5, 3) := by decide +kernel
theorem d_S_lend_22 : decode prog_3_method_21_code 22 = .ok (.iconst 0, 1) := by decide +kernel
theorem d_S_lend_23 : decode prog_3_method_21_code 23 = .ok (.ireturn, 1) := by decide +kernel
theorem d_S_lend_24 : decode prog_3_method_21_code 24 = .ok (.aload_n 0, 1) := by decide +kernel
theorem d_S_lend_25 : decode prog_3_method_21_code 25 = .ok (.iload 5, 2) := by decide +kernel
theorem d_S_lend_27 : decode prog_3_method_21_code 27 = .ok (.iconst 0, 1) := by decide +kernel
theorem d_S_lend_28 : decode prog_3_method_21_code 28 = .ok (.invokevirtual 97, 3) := by decide +kernel
theorem d_S_lend_31 : decode prog_3_method_21_code 31 = .ok (.istore 6, 2) := by decide +kernel
theorem d_S_lend_33 : decode prog_3_method_21_code 33 = .ok (.iload 6, 2) := by decide +kernel
theorem d_S_lend_35 : decode prog_3_method_21_code 35 = .ok (.iconst (-1), 1) := by decide +kernel
theorem d_S_lend_36 : decode prog_3_method_21_code 36 = .ok (.if_icmp .eq 11, 3) := by decide +kernel
theorem d_S_lend_39 : decode prog_3_method_21_code 39 = .ok (.iload 6, 2) := by decide +kernel
theorem d_S_lend_41 : decode prog_3_method_21_code 41 = .ok (.iload_n 2, 1) := by decide +kernel
theorem d_S_lend_42 : decode prog_3_method_21_code 42 = .ok (.if_icmp .eq 5, 3) := by decide +kernel
theorem d_S_lend_45 : decode prog_3_method_21_code 45 = .ok (.iconst 0, 1) := by decide +kernel
theorem d_S_lend_46 : decode prog_3_method_21_code 46 = .ok (.ireturn, 1) := by decide +kernel
theorem d_S_lend_47 : decode prog_3_method_21_code 47 = .ok (.aload_n 0, 1) := by decide +kernel
theorem d_S_lend_48 : decode prog_3_method_21_code 48 = .ok (.iload 5, 2) := by decide +kernel
theorem d_S_lend_50 : decode prog_3_method_21_code 50 = .ok (.iload_n 2, 1) := by decide +kernel
theorem d_S_lend_51 : decode prog_3_method_21_code 51 = .ok (.invokevirtual 70, 3) := by decide +kernel
theorem d_S_lend_54 : decode prog_3_method_21_code 54 = .ok (.pop, 1) := by decide +kernel
theorem d_S_lend_55 : decode prog_3_method_21_code 55 = .ok (.aload_n 0, 1) := by decide +kernel
theorem d_S_lend_56 : decode prog_3_method_21_code 56 = .ok (.getfield 19, 3) := by decide +kernel
theorem d_S_lend_59 : decode prog_3_method_21_code 59 = .ok (.iload_n 1, 1) := by decide +kernel
theorem d_S_lend_60 : decode prog_3_method_21_code 60 = .ok (.iload_n 2, 1) := by decide +kernel
theorem d_S_lend_61 : decode prog_3_method_21_code 61 = .ok (.iastore, 1) := by decide +kernel
theorem d_S_lend_62 : decode prog_3_method_21_code 62 = .ok (.aload_n 0, 1) := by decide +kernel
theorem d_S_lend_63 : decode prog_3_method_21_code 63 = .ok (.getfield 22, 3) := by decide +kernel
theorem d_S_lend_66 : decode prog_3_method_21_code 66 = .ok (.iload_n 1, 1) := by decide +kernel
theorem d_S_lend_67 : decode prog_3_method_21_code 67 = .ok (.lload_n 3, 1) := by decide +kernel
theorem d_S_lend_68 : decode prog_3_method_21_code 68 = .ok (.aload_n 0, 1) := by decide +kernel
theorem d_S_lend_69 : decode prog_3_method_21_code 69 = .ok (.getfield 34, 3) := by decide +kernel
theorem d_S_lend_72 : decode prog_3_method_21_code 72 = .ok (.aload_n 0, 1) := by decide +kernel
theorem d_S_lend_73 : decode prog_3_method_21_code 73 = .ok (.getfield 31, 3) := by decide +kernel
theorem d_S_lend_76 : decode prog_3_method_21_code 76 = .ok (.iload 5, 2) := by decide +kernel
theorem d_S_lend_78 : decode prog_3_method_21_code 78 = .ok (.iaload, 1) := by decide +kernel
theorem d_S_lend_79 : decode prog_3_method_21_code 79 = .ok (.iaload, 1) := by decide +kernel
theorem d_S_lend_80 : decode prog_3_method_21_code 80 = .ok (.i2l, 1) := by decide +kernel
theorem d_S_lend_81 : decode prog_3_method_21_code 81 = .ok (.ladd, 1) := by decide +kernel
theorem d_S_lend_82 : decode prog_3_method_21_code 82 = .ok (.lastore, 1) := by decide +kernel
theorem d_S_lend_83 : decode prog_3_method_21_code 83 = .ok (.iconst 1, 1) := by decide +kernel
theorem d_S_lend_84 : decode prog_3_method_21_code 84 = .ok (.ireturn, 1) := by decide +kernel
theorem d_S_giveBack_0 : decode prog_3_method_22_code 0 = .ok (.aload_n 0, 1) := by decide +kernel
theorem d_S_giveBack_1 : decode prog_3_method_22_code 1 = .ok (.getfield 19, 3) := by decide +kernel
theorem d_S_giveBack_4 : decode prog_3_method_22_code 4 = .ok (.iload_n 1, 1) := by decide +kernel
theorem d_S_giveBack_5 : decode prog_3_method_22_code 5 = .ok (.iaload, 1) := by decide +kernel
theorem d_S_giveBack_6 : decode prog_3_method_22_code 6 = .ok (.ifCond .ne 5, 3) := by decide +kernel
theorem d_S_giveBack_9 : decode prog_3_method_22_code 9 = .ok (.iconst 0, 1) := by decide +kernel
theorem d_S_giveBack_10 : decode prog_3_method_22_code 10 = .ok (.ireturn, 1) := by decide +kernel
theorem d_S_giveBack_11 : decode prog_3_method_22_code 11 = .ok (.aload_n 0, 1) := by decide +kernel
theorem d_S_giveBack_12 : decode prog_3_method_22_code 12 = .ok (.getfield 19, 3) := by decide +kernel
theorem d_S_giveBack_15 : decode prog_3_method_22_code 15 = .ok (.iload_n 1, 1) := by decide +kernel
theorem d_S_giveBack_16 : decode prog_3_method_22_code 16 = .ok (.iconst 0, 1) := by decide +kernel
theorem d_S_giveBack_17 : decode prog_3_method_22_code 17 = .ok (.iastore, 1) := by decide +kernel
theorem d_S_giveBack_18 : decode prog_3_method_22_code 18 = .ok (.iconst 1, 1) := by decide +kernel
theorem d_S_giveBack_19 : decode prog_3_method_22_code 19 = .ok (.ireturn, 1) := by decide +kernel
theorem d_S_joinQueue_0 : decode prog_3_method_24_code 0 = .ok (.aload_n 0, 1) := by decide +kernel
theorem d_S_joinQueue_1 : decode prog_3_method_24_code 1 = .ok (.getfield 28, 3) := by decide +kernel
theorem d_S_joinQueue_4 : decode prog_3_method_24_code 4 = .ok (.iload_n 1, 1) := by decide +kernel
theorem d_S_joinQueue_5 : decode prog_3_method_24_code 5 = .ok (.iaload, 1) := by decide +kernel
theorem d_S_joinQueue_6 : decode prog_3_method_24_code 6 = .ok (.istore_n 3, 1) := by decide +kernel
theorem d_S_joinQueue_7 : decode prog_3_method_24_code 7 = .ok (.iload_n 3, 1) := by decide +kernel
theorem d_S_joinQueue_8 : decode prog_3_method_24_code 8 = .ok (.bipush 20, 2) := by decide +kernel
theorem d_S_joinQueue_10 : decode prog_3_method_24_code 10 = .ok (.if_icmp .ge 13, 3) := by decide +kernel
theorem d_S_joinQueue_13 : decode prog_3_method_24_code 13 = .ok (.aload_n 0, 1) := by decide +kernel
theorem d_S_joinQueue_14 : decode prog_3_method_24_code 14 = .ok (.iload_n 1, 1) := by decide +kernel
theorem d_S_joinQueue_15 : decode prog_3_method_24_code 15 = .ok (.iload_n 2, 1) := by decide +kernel
theorem d_S_joinQueue_16 : decode prog_3_method_24_code 16 = .ok (.invokevirtual 100, 3) := by decide +kernel
theorem d_S_joinQueue_19 : decode prog_3_method_24_code 19 = .ok (.iconst (-1), 1) := by decide +kernel
theorem d_S_joinQueue_20 : decode prog_3_method_24_code 20 = .ok (.if_icmp .eq 5, 3) := by decide +kernel
theorem d_S_joinQueue_23 : decode prog_3_method_24_code 23 = .ok (.iconst 0, 1) := by decide +kernel
theorem d_S_joinQueue_24 : decode prog_3_method_24_code 24 = .ok (.ireturn, 1) := by decide +kernel
theorem d_S_joinQueue_25 : decode prog_3_method_24_code 25 = .ok (.aload_n 0, 1) := by decide +kernel
theorem d_S_joinQueue_26 : decode prog_3_method_24_code 26 = .ok (.getfield 25, 3) := by decide +kernel
theorem d_S_joinQueue_29 : decode prog_3_method_24_code 29 = .ok (.iload_n 1, 1) := by decide +kernel
theorem d_S_joinQueue_30 : decode prog_3_method_24_code 30 = .ok (.bipush 20, 2) := by decide +kernel
theorem d_S_joinQueue_32 : decode prog_3_method_24_code 32 = .ok (.imul, 1) := by decide +kernel
theorem d_S_joinQueue_33 : decode prog_3_method_24_code 33 = .ok (.iload_n 3, 1) := by decide +kernel
theorem d_S_joinQueue_34 : decode prog_3_method_24_code 34 = .ok (.iadd, 1) := by decide +kernel
theorem d_S_joinQueue_35 : decode prog_3_method_24_code 35 = .ok (.iload_n 2, 1) := by decide +kernel
theorem d_S_joinQueue_36 : decode prog_3_method_24_code 36 = .ok (.iastore, 1) := by decide +kernel
theorem d_S_joinQueue_37 : decode prog_3_method_24_code 37 = .ok (.aload_n 0, 1) := by decide +kernel
theorem d_S_joinQueue_38 : decode prog_3_method_24_code 38 = .ok (.getfield 28, 3) := by decide +kernel
theorem d_S_joinQueue_41 : decode prog_3_method_24_code 41 = .ok (.iload_n 1, 1) := by decide +kernel
theorem d_S_joinQueue_42 : decode prog_3_method_24_code 42 = .ok (.iload_n 3, 1) := by decide +kernel
theorem d_S_joinQueue_43 : decode prog_3_method_24_code 43 = .ok (.iconst 1, 1) := by decide +kernel
theorem d_S_joinQueue_44 : decode prog_3_method_24_code 44 = .ok (.iadd, 1) := by decide +kernel
theorem d_S_joinQueue_45 : decode prog_3_method_24_code 45 = .ok (.iastore, 1) := by decide +kernel
theorem d_S_joinQueue_46 : decode prog_3_method_24_code 46 = .ok (.iconst 1, 1) := by decide +kernel
theorem d_S_joinQueue_47 : decode prog_3_method_24_code 47 = .ok (.ireturn, 1) := by decide +kernel
theorem d_S_sumIndex_0 : decode prog_3_method_15_code 0 = .ok (.iload_n 0, 1) := by decide +kernel
theorem d_S_sumIndex_1 : decode prog_3_method_15_code 1 = .ok (.bipush 6, 2) := by decide +kernel
theorem d_S_sumIndex_3 : decode prog_3_method_15_code 3 = .ok (.imul, 1) := by decide +kernel
theorem d_S_sumIndex_4 : decode prog_3_method_15_code 4 = .ok (.iload_n 1, 1) := by decide +kernel
theorem d_S_sumIndex_5 : decode prog_3_method_15_code 5 = .ok (.iadd, 1) := by decide +kernel
theorem d_S_sumIndex_6 : decode prog_3_method_15_code 6 = .ok (.ireturn, 1) := by decide +kernel
theorem d_S_loseFile_0 : decode prog_3_method_26_code 0 = .ok (.iload_n 1, 1) := by decide +kernel
theorem d_S_loseFile_1 : decode prog_3_method_26_code 1 = .ok (.iload_n 2, 1) := by decide +kernel
theorem d_S_loseFile_2 : decode prog_3_method_26_code 2 = .ok (.invokestatic 73, 3) := by decide +kernel
theorem d_S_loseFile_5 : decode prog_3_method_26_code 5 = .ok (.istore_n 3, 1) := by decide +kernel
theorem d_S_loseFile_6 : decode prog_3_method_26_code 6 = .ok (.aload_n 0, 1) := by decide +kernel
theorem d_S_loseFile_7 : decode prog_3_method_26_code 7 = .ok (.getfield 37, 3) := by decide +kernel
theorem d_S_loseFile_10 : decode prog_3_method_26_code 10 = .ok (.iload_n 3, 1) := by decide +kernel
theorem d_S_loseFile_11 : decode prog_3_method_26_code 11 = .ok (.iaload, 1) := by decide +kernel
theorem d_S_loseFile_12 : decode prog_3_method_26_code 12 = .ok (.iconst (-1), 1) := by decide +kernel
theorem d_S_loseFile_13 : decode prog_3_method_26_code 13 = .ok (.if_icmp .ne 5, 3) := by decide +kernel
theorem d_S_loseFile_16 : decode prog_3_method_26_code 16 = .ok (.iconst 0, 1) := by decide +kernel
theorem d_S_loseFile_17 : decode prog_3_method_26_code 17 = .ok (.ireturn, 1) := by decide +kernel
theorem d_S_loseFile_18 : decode prog_3_method_26_code 18 = .ok (.aload_n 0, 1) := by decide +kernel
theorem d_S_loseFile_19 : decode prog_3_method_26_code 19 = .ok (.getfield 37, 3) := by decide +kernel
theorem d_S_loseFile_22 : decode prog_3_method_26_code 22 = .ok (.iload_n 3, 1) := by decide +kernel
theorem d_S_loseFile_23 : decode prog_3_method_26_code 23 = .ok (.iconst (-1), 1) := by decide +kernel
theorem d_S_loseFile_24 : decode prog_3_method_26_code 24 = .ok (.iastore, 1) := by decide +kernel
theorem d_S_loseFile_25 : decode prog_3_method_26_code 25 = .ok (.iconst 1, 1) := by decide +kernel
theorem d_S_loseFile_26 : decode prog_3_method_26_code 26 = .ok (.ireturn, 1) := by decide +kernel
theorem d_S_perform_0 : decode prog_3_method_3_code 0 = .ok (.iload_n 1, 1) := by decide +kernel
theorem d_S_perform_1 : decode prog_3_method_3_code 1 = .ok (.tableswitch 153 0 10 #[59, 66, 73, 80, 89, 95, 102, 109, 128, 135, 144], 59) := by decide +kernel
theorem d_S_perform_60 : decode prog_3_method_3_code 60 = .ok (.aload_n 0, 1) := by decide +kernel
theorem d_S_perform_61 : decode prog_3_method_3_code 61 = .ok (.iload_n 2, 1) := by decide +kernel
theorem d_S_perform_62 : decode prog_3_method_3_code 62 = .ok (.iload_n 3, 1) := by decide +kernel
theorem d_S_perform_63 : decode prog_3_method_3_code 63 = .ok (.invokevirtual 49, 3) := by decide +kernel
theorem d_S_perform_66 : decode prog_3_method_3_code 66 = .ok (.ireturn, 1) := by decide +kernel
theorem d_S_perform_67 : decode prog_3_method_3_code 67 = .ok (.aload_n 0, 1) := by decide +kernel
theorem d_S_perform_68 : decode prog_3_method_3_code 68 = .ok (.iload_n 2, 1) := by decide +kernel
theorem d_S_perform_69 : decode prog_3_method_3_code 69 = .ok (.iload_n 3, 1) := by decide +kernel
theorem d_S_perform_70 : decode prog_3_method_3_code 70 = .ok (.invokevirtual 53, 3) := by decide +kernel
theorem d_S_perform_73 : decode prog_3_method_3_code 73 = .ok (.ireturn, 1) := by decide +kernel
theorem d_S_perform_74 : decode prog_3_method_3_code 74 = .ok (.aload_n 0, 1) := by decide +kernel
theorem d_S_perform_75 : decode prog_3_method_3_code 75 = .ok (.iload_n 2, 1) := by decide +kernel
theorem d_S_perform_76 : decode prog_3_method_3_code 76 = .ok (.iload_n 3, 1) := by decide +kernel
theorem d_S_perform_77 : decode prog_3_method_3_code 77 = .ok (.invokevirtual 56, 3) := by decide +kernel
theorem d_S_perform_80 : decode prog_3_method_3_code 80 = .ok (.ireturn, 1) := by decide +kernel
theorem d_S_perform_81 : decode prog_3_method_3_code 81 = .ok (.aload_n 0, 1) := by decide +kernel
theorem d_S_perform_82 : decode prog_3_method_3_code 82 = .ok (.iload_n 2, 1) := by decide +kernel
theorem d_S_perform_83 : decode prog_3_method_3_code 83 = .ok (.iload_n 3, 1) := by decide +kernel
theorem d_S_perform_84 : decode prog_3_method_3_code 84 = .ok (.lload 4, 2) := by decide +kernel
theorem d_S_perform_86 : decode prog_3_method_3_code 86 = .ok (.invokevirtual 59, 3) := by decide +kernel
theorem d_S_perform_89 : decode prog_3_method_3_code 89 = .ok (.ireturn, 1) := by decide +kernel
theorem d_S_perform_90 : decode prog_3_method_3_code 90 = .ok (.aload_n 0, 1) := by decide +kernel
theorem d_S_perform_91 : decode prog_3_method_3_code 91 = .ok (.iload_n 2, 1) := by decide +kernel
theorem d_S_perform_92 : decode prog_3_method_3_code 92 = .ok (.invokevirtual 63, 3) := by decide +kernel
theorem d_S_perform_95 : decode prog_3_method_3_code 95 = .ok (.ireturn, 1) := by decide +kernel
theorem d_S_perform_96 : decode prog_3_method_3_code 96 = .ok (.aload_n 0, 1) := by decide +kernel
theorem d_S_perform_97 : decode prog_3_method_3_code 97 = .ok (.iload_n 2, 1) := by decide +kernel
theorem d_S_perform_98 : decode prog_3_method_3_code 98 = .ok (.iload_n 3, 1) := by decide +kernel
theorem d_S_perform_99 : decode prog_3_method_3_code 99 = .ok (.invokevirtual 67, 3) := by decide +kernel
theorem d_S_perform_102 : decode prog_3_method_3_code 102 = .ok (.ireturn, 1) := by decide +kernel
theorem d_S_perform_103 : decode prog_3_method_3_code 103 = .ok (.aload_n 0, 1) := by decide +kernel
theorem d_S_perform_104 : decode prog_3_method_3_code 104 = .ok (.iload_n 2, 1) := by decide +kernel
theorem d_S_perform_105 : decode prog_3_method_3_code 105 = .ok (.iload_n 3, 1) := by decide +kernel
theorem d_S_perform_106 : decode prog_3_method_3_code 106 = .ok (.invokevirtual 70, 3) := by decide +kernel
theorem d_S_perform_109 : decode prog_3_method_3_code 109 = .ok (.ireturn, 1) := by decide +kernel
theorem d_S_perform_110 : decode prog_3_method_3_code 110 = .ok (.aload_n 0, 1) := by decide +kernel
theorem d_S_perform_111 : decode prog_3_method_3_code 111 = .ok (.getfield 37, 3) := by decide +kernel
theorem d_S_perform_114 : decode prog_3_method_3_code 114 = .ok (.iload_n 2, 1) := by decide +kernel
theorem d_S_perform_115 : decode prog_3_method_3_code 115 = .ok (.iload_n 3, 1) := by decide +kernel
theorem d_S_perform_116 : decode prog_3_method_3_code 116 = .ok (.invokestatic 73, 3) := by decide +kernel
theorem d_S_perform_119 : decode prog_3_method_3_code 119 = .ok (.lload 4, 2) := by decide +kernel
theorem d_S_perform_121 : decode prog_3_method_3_code 121 = .ok (.ldc2_w 77, 3) := by decide +kernel
theorem d_S_perform_124 : decode prog_3_method_3_code 124 = .ok (.lrem, 1) := by decide +kernel
theorem d_S_perform_125 : decode prog_3_method_3_code 125 = .ok (.l2i, 1) := by decide +kernel
theorem d_S_perform_126 : decode prog_3_method_3_code 126 = .ok (.iastore, 1) := by decide +kernel
theorem d_S_perform_127 : decode prog_3_method_3_code 127 = .ok (.iconst 1, 1) := by decide +kernel
theorem d_S_perform_128 : decode prog_3_method_3_code 128 = .ok (.ireturn, 1) := by decide +kernel
theorem d_S_perform_129 : decode prog_3_method_3_code 129 = .ok (.aload_n 0, 1) := by decide +kernel
theorem d_S_perform_130 : decode prog_3_method_3_code 130 = .ok (.iload_n 2, 1) := by decide +kernel
theorem d_S_perform_131 : decode prog_3_method_3_code 131 = .ok (.iload_n 3, 1) := by decide +kernel
theorem d_S_perform_132 : decode prog_3_method_3_code 132 = .ok (.invokevirtual 79, 3) := by decide +kernel
theorem d_S_perform_135 : decode prog_3_method_3_code 135 = .ok (.ireturn, 1) := by decide +kernel
theorem d_S_perform_136 : decode prog_3_method_3_code 136 = .ok (.aload_n 0, 1) := by decide +kernel
theorem d_S_perform_137 : decode prog_3_method_3_code 137 = .ok (.getfield 31, 3) := by decide +kernel
theorem d_S_perform_140 : decode prog_3_method_3_code 140 = .ok (.iload_n 2, 1) := by decide +kernel
theorem d_S_perform_141 : decode prog_3_method_3_code 141 = .ok (.iload_n 3, 1) := by decide +kernel
theorem d_S_perform_142 : decode prog_3_method_3_code 142 = .ok (.iastore, 1) := by decide +kernel
theorem d_S_perform_143 : decode prog_3_method_3_code 143 = .ok (.iconst 1, 1) := by decide +kernel
theorem d_S_perform_144 : decode prog_3_method_3_code 144 = .ok (.ireturn, 1) := by decide +kernel
theorem d_S_perform_145 : decode prog_3_method_3_code 145 = .ok (.aload_n 0, 1) := by decide +kernel
theorem d_S_perform_146 : decode prog_3_method_3_code 146 = .ok (.getfield 34, 3) := by decide +kernel
theorem d_S_perform_149 : decode prog_3_method_3_code 149 = .ok (.iload_n 2, 1) := by decide +kernel
theorem d_S_perform_150 : decode prog_3_method_3_code 150 = .ok (.iload_n 3, 1) := by decide +kernel
theorem d_S_perform_151 : decode prog_3_method_3_code 151 = .ok (.iastore, 1) := by decide +kernel
theorem d_S_perform_152 : decode prog_3_method_3_code 152 = .ok (.iconst 1, 1) := by decide +kernel
theorem d_S_perform_153 : decode prog_3_method_3_code 153 = .ok (.ireturn, 1) := by decide +kernel
theorem d_S_perform_154 : decode prog_3_method_3_code 154 = .ok (.iconst 0, 1) := by decide +kernel
theorem d_S_perform_155 : decode prog_3_method_3_code 155 = .ok (.ireturn, 1) := by decide +kernel
theorem d_R_perform_0 : decode prog_2_method_5_code 0 = .ok (.aload_n 2, 1) := by decide +kernel
theorem d_R_perform_1 : decode prog_2_method_5_code 1 = .ok (.aload_n 0, 1) := by decide +kernel
theorem d_R_perform_2 : decode prog_2_method_5_code 2 = .ok (.getfield 9, 3) := by decide +kernel
theorem d_R_perform_5 : decode prog_2_method_5_code 5 = .ok (.iload_n 1, 1) := by decide +kernel
theorem d_R_perform_6 : decode prog_2_method_5_code 6 = .ok (.iaload, 1) := by decide +kernel
theorem d_R_perform_7 : decode prog_2_method_5_code 7 = .ok (.aload_n 0, 1) := by decide +kernel
theorem d_R_perform_8 : decode prog_2_method_5_code 8 = .ok (.getfield 15, 3) := by decide +kernel
theorem d_R_perform_11 : decode prog_2_method_5_code 11 = .ok (.iload_n 1, 1) := by decide +kernel
theorem d_R_perform_12 : decode prog_2_method_5_code 12 = .ok (.iaload, 1) := by decide +kernel
theorem d_R_perform_13 : decode prog_2_method_5_code 13 = .ok (.aload_n 0, 1) := by decide +kernel
theorem d_R_perform_14 : decode prog_2_method_5_code 14 = .ok (.getfield 18, 3) := by decide +kernel
theorem d_R_perform_17 : decode prog_2_method_5_code 17 = .ok (.iload_n 1, 1) := by decide +kernel
theorem d_R_perform_18 : decode prog_2_method_5_code 18 = .ok (.iaload, 1) := by decide +kernel
theorem d_R_perform_19 : decode prog_2_method_5_code 19 = .ok (.aload_n 0, 1) := by decide +kernel
theorem d_R_perform_20 : decode prog_2_method_5_code 20 = .ok (.getfield 21, 3) := by decide +kernel
theorem d_R_perform_23 : decode prog_2_method_5_code 23 = .ok (.iload_n 1, 1) := by decide +kernel
theorem d_R_perform_24 : decode prog_2_method_5_code 24 = .ok (.laload, 1) := by decide +kernel
theorem d_R_perform_25 : decode prog_2_method_5_code 25 = .ok (.invokevirtual 29, 3) := by decide +kernel
theorem d_R_perform_28 : decode prog_2_method_5_code 28 = .ok (.ireturn, 1) := by decide +kernel
theorem d_R_dayOf_0 : decode prog_2_method_3_code 0 = .ok (.aload_n 0, 1) := by decide +kernel
theorem d_R_dayOf_1 : decode prog_2_method_3_code 1 = .ok (.getfield 21, 3) := by decide +kernel
theorem d_R_dayOf_4 : decode prog_2_method_3_code 4 = .ok (.iload_n 1, 1) := by decide +kernel
theorem d_R_dayOf_5 : decode prog_2_method_3_code 5 = .ok (.laload, 1) := by decide +kernel
theorem d_R_dayOf_6 : decode prog_2_method_3_code 6 = .ok (.lreturn, 1) := by decide +kernel
theorem d_S_recordOf_0 : decode prog_3_method_4_code 0 = .ok (.aload_n 0, 1) := by decide +kernel
theorem d_S_recordOf_1 : decode prog_3_method_4_code 1 = .ok (.getfield 15, 3) := by decide +kernel
theorem d_S_recordOf_4 : decode prog_3_method_4_code 4 = .ok (.iload_n 1, 1) := by decide +kernel
theorem d_S_recordOf_5 : decode prog_3_method_4_code 5 = .ok (.iaload, 1) := by decide +kernel
theorem d_S_recordOf_6 : decode prog_3_method_4_code 6 = .ok (.ireturn, 1) := by decide +kernel
theorem d_S_personWith_0 : decode prog_3_method_5_code 0 = .ok (.aload_n 0, 1) := by decide +kernel
theorem d_S_personWith_1 : decode prog_3_method_5_code 1 = .ok (.getfield 19, 3) := by decide +kernel
theorem d_S_personWith_4 : decode prog_3_method_5_code 4 = .ok (.iload_n 1, 1) := by decide +kernel
theorem d_S_personWith_5 : decode prog_3_method_5_code 5 = .ok (.iaload, 1) := by decide +kernel
theorem d_S_personWith_6 : decode prog_3_method_5_code 6 = .ok (.ireturn, 1) := by decide +kernel
theorem d_S_classOf_0 : decode prog_3_method_6_code 0 = .ok (.aload_n 0, 1) := by decide +kernel
theorem d_S_classOf_1 : decode prog_3_method_6_code 1 = .ok (.getfield 31, 3) := by decide +kernel
theorem d_S_classOf_4 : decode prog_3_method_6_code 4 = .ok (.iload_n 1, 1) := by decide +kernel
theorem d_S_classOf_5 : decode prog_3_method_6_code 5 = .ok (.iaload, 1) := by decide +kernel
theorem d_S_classOf_6 : decode prog_3_method_6_code 6 = .ok (.ireturn, 1) := by decide +kernel
theorem d_S_copiesThereOf_0 : decode prog_3_method_7_code 0 = .ok (.iconst 0, 1) := by decide +kernel
theorem d_S_copiesThereOf_1 : decode prog_3_method_7_code 1 = .ok (.istore_n 2, 1) := by decide +kernel
theorem d_S_copiesThereOf_2 : decode prog_3_method_7_code 2 = .ok (.iconst 1, 1) := by decide +kernel
theorem d_S_copiesThereOf_3 : decode prog_3_method_7_code 3 = .ok (.istore_n 3, 1) := by decide +kernel
theorem d_S_copiesThereOf_4 : decode prog_3_method_7_code 4 = .ok (.iload_n 3, 1) := by decide +kernel
theorem d_S_copiesThereOf_5 : decode prog_3_method_7_code 5 = .ok (.bipush 20, 2) := by decide +kernel
theorem d_S_copiesThereOf_7 : decode prog_3_method_7_code 7 = .ok (.if_icmp .gt 31, 3) := by decide +kernel
theorem d_S_copiesThereOf_10 : decode prog_3_method_7_code 10 = .ok (.aload_n 0, 1) := by decide +kernel
theorem d_S_copiesThereOf_11 : decode prog_3_method_7_code 11 = .ok (.getfield 15, 3) := by decide +kernel
theorem d_S_copiesThereOf_14 : decode prog_3_method_7_code 14 = .ok (.iload_n 3, 1) := by decide +kernel
theorem d_S_copiesThereOf_15 : decode prog_3_method_7_code 15 = .ok (.iaload, 1) := by decide +kernel
theorem d_S_copiesThereOf_16 : decode prog_3_method_7_code 16 = .ok (.iload_n 1, 1) := by decide +kernel
theorem d_S_copiesThereOf_17 : decode prog_3_method_7_code 17 = .ok (.if_icmp .ne 15, 3) := by decide +kernel
theorem d_S_copiesThereOf_20 : decode prog_3_method_7_code 20 = .ok (.aload_n 0, 1) := by decide +kernel
theorem d_S_copiesThereOf_21 : decode prog_3_method_7_code 21 = .ok (.getfield 19, 3) := by decide +kernel
theorem d_S_copiesThereOf_24 : decode prog_3_method_7_code 24 = .ok (.iload_n 3, 1) := by decide +kernel
theorem d_S_copiesThereOf_25 : decode prog_3_method_7_code 25 = .ok (.iaload, 1) := by decide +kernel
theorem d_S_copiesThereOf_26 : decode prog_3_method_7_code 26 = .ok (.ifCond .ne 6, 3) := by decide +kernel
theorem d_S_copiesThereOf_29 : decode prog_3_method_7_code 29 = .ok (.iinc 2 1, 3) := by decide +kernel
theorem d_S_copiesThereOf_32 : decode prog_3_method_7_code 32 = .ok (.iinc 3 1, 3) := by decide +kernel
theorem d_S_copiesThereOf_35 : decode prog_3_method_7_code 35 = .ok (.goto (-31), 3) := by decide +kernel
theorem d_S_copiesThereOf_38 : decode prog_3_method_7_code 38 = .ok (.iload_n 2, 1) := by decide +kernel
theorem d_S_copiesThereOf_39 : decode prog_3_method_7_code 39 = .ok (.ireturn, 1) := by decide +kernel
theorem d_S_headingAt_0 : decode prog_3_method_10_code 0 = .ok (.iconst 0, 1) := by decide +kernel
theorem d_S_headingAt_1 : decode prog_3_method_10_code 1 = .ok (.istore_n 3, 1) := by decide +kernel
theorem d_S_headingAt_2 : decode prog_3_method_10_code 2 = .ok (.iconst 1, 1) := by decide +kernel
theorem d_S_headingAt_3 : decode prog_3_method_10_code 3 = .ok (.istore 4, 2) := by decide +kernel
theorem d_S_headingAt_5 : decode prog_3_method_10_code 5 = .ok (.iload 4, 2) := by decide +kernel
theorem d_S_headingAt_7 : decode prog_3_method_10_code 7 = .ok (.bipush 99, 2) := by decide +kernel
theorem d_S_headingAt_9 : decode prog_3_method_10_code 9 = .ok (.if_icmp .gt 30, 3) := by decide +kernel
theorem d_S_headingAt_12 : decode prog_3_method_10_code 12 = .ok (.aload_n 0, 1) := by decide +kernel
theorem d_S_headingAt_13 : decode prog_3_method_10_code 13 = .ok (.iload_n 1, 1) := by decide +kernel
theorem d_S_headingAt_14 : decode prog_3_method_10_code 14 = .ok (.iload 4, 2) := by decide +kernel
theorem d_S_headingAt_16 : decode prog_3_method_10_code 16 = .ok (.invokevirtual 89, 3) := by decide +kernel
theorem d_S_headingAt_19 : decode prog_3_method_10_code 19 = .ok (.ifCond .eq 14, 3) := by decide +kernel
theorem d_S_headingAt_22 : decode prog_3_method_10_code 22 = .ok (.iload_n 3, 1) := by decide +kernel
theorem d_S_headingAt_23 : decode prog_3_method_10_code 23 = .ok (.iload_n 2, 1) := by decide +kernel
theorem d_S_headingAt_24 : decode prog_3_method_10_code 24 = .ok (.if_icmp .ne 6, 3) := by decide +kernel
theorem d_S_headingAt_27 : decode prog_3_method_10_code 27 = .ok (.iload 4, 2) := by decide +kernel
theorem d_S_headingAt_29 : decode prog_3_method_10_code 29 = .ok (.ireturn, 1) := by decide +kernel
theorem d_S_headingAt_30 : decode prog_3_method_10_code 30 = .ok (.iinc 3 1, 3) := by decide +kernel
theorem d_S_headingAt_33 : decode prog_3_method_10_code 33 = .ok (.iinc 4 1, 3) := by decide +kernel
theorem d_S_headingAt_36 : decode prog_3_method_10_code 36 = .ok (.goto (-31), 3) := by decide +kernel
theorem d_S_headingAt_39 : decode prog_3_method_10_code 39 = .ok (.iconst (-1), 1) := by decide +kernel
theorem d_S_headingAt_40 : decode prog_3_method_10_code 40 = .ok (.ireturn, 1) := by decide +kernel
theorem d_S_dueDayOf_0 : decode prog_3_method_11_code 0 = .ok (.aload_n 0, 1) := by decide +kernel
theorem d_S_dueDayOf_1 : decode prog_3_method_11_code 1 = .ok (.getfield 19, 3) := by decide +kernel
theorem d_S_dueDayOf_4 : decode prog_3_method_11_code 4 = .ok (.iload_n 1, 1) := by decide +kernel
theorem d_S_dueDayOf_5 : decode prog_3_method_11_code 5 = .ok (.iaload, 1) := by decide +kernel
theorem d_S_dueDayOf_6 : decode prog_3_method_11_code 6 = .ok (.ifCond .ne 9, 3) := by decide +kernel
theorem d_S_dueDayOf_9 : decode prog_3_method_11_code 9 = .ok (.ldc2_w 92, 3) := by decide +kernel
theorem d_S_dueDayOf_12 : decode prog_3_method_11_code 12 = .ok (.goto 9, 3) := by decide +kernel
theorem d_S_dueDayOf_15 : decode prog_3_method_11_code 15 = .ok (.aload_n 0, 1) := by decide +kernel
theorem d_S_dueDayOf_16 : decode prog_3_method_11_code 16 = .ok (.getfield 22, 3) := by decide +kernel
theorem d_S_dueDayOf_19 : decode prog_3_method_11_code 19 = .ok (.iload_n 1, 1) := by decide +kernel
theorem d_S_dueDayOf_20 : decode prog_3_method_11_code 20 = .ok (.laload, 1) := by decide +kernel
theorem d_S_dueDayOf_21 : decode prog_3_method_11_code 21 = .ok (.lreturn, 1) := by decide +kernel
theorem d_S_storesWith_0 : decode prog_3_method_14_code 0 = .ok (.iconst 0, 1) := by decide +kernel
theorem d_S_storesWith_1 : decode prog_3_method_14_code 1 = .ok (.istore_n 3, 1) := by decide +kernel
theorem d_S_storesWith_2 : decode prog_3_method_14_code 2 = .ok (.iconst 1, 1) := by decide +kernel
theorem d_S_storesWith_3 : decode prog_3_method_14_code 3 = .ok (.istore 4, 2) := by decide +kernel
theorem d_S_storesWith_5 : decode prog_3_method_14_code 5 = .ok (.iload 4, 2) := by decide +kernel
theorem d_S_storesWith_7 : decode prog_3_method_14_code 7 = .ok (.iconst 5, 1) := by decide +kernel
theorem d_S_storesWith_8 : decode prog_3_method_14_code 8 = .ok (.if_icmp .gt 27, 3) := by decide +kernel
theorem d_S_storesWith_11 : decode prog_3_method_14_code 11 = .ok (.aload_n 0, 1) := by decide +kernel
theorem d_S_storesWith_12 : decode prog_3_method_14_code 12 = .ok (.getfield 37, 3) := by decide +kernel
theorem d_S_storesWith_15 : decode prog_3_method_14_code 15 = .ok (.iload_n 1, 1) := by decide +kernel
theorem d_S_storesWith_16 : decode prog_3_method_14_code 16 = .ok (.iload 4, 2) := by decide +kernel
theorem d_S_storesWith_18 : decode prog_3_method_14_code 18 = .ok (.invokestatic 73, 3) := by decide +kernel
theorem d_S_storesWith_21 : decode prog_3_method_14_code 21 = .ok (.iaload, 1) := by decide +kernel
theorem d_S_storesWith_22 : decode prog_3_method_14_code 22 = .ok (.iload_n 2, 1) := by decide +kernel
theorem d_S_storesWith_23 : decode prog_3_method_14_code 23 = .ok (.if_icmp .ne 6, 3) := by decide +kernel
theorem d_S_storesWith_26 : decode prog_3_method_14_code 26 = .ok (.iinc 3 1, 3) := by decide +kernel
theorem d_S_storesWith_29 : decode prog_3_method_14_code 29 = .ok (.iinc 4 1, 3) := by decide +kernel
theorem d_S_storesWith_32 : decode prog_3_method_14_code 32 = .ok (.goto (-27), 3) := by decide +kernel
theorem d_S_storesWith_35 : decode prog_3_method_14_code 35 = .ok (.iload_n 3, 1) := by decide +kernel
theorem d_S_storesWith_36 : decode prog_3_method_14_code 36 = .ok (.ireturn, 1) := by decide +kernel
theorem d_S_commonSumOf_0 : decode prog_3_method_13_code 0 = .ok (.iconst 0, 1) := by decide +kernel
theorem d_S_commonSumOf_1 : decode prog_3_method_13_code 1 = .ok (.istore_n 2, 1) := by decide +kernel
theorem d_S_commonSumOf_2 : decode prog_3_method_13_code 2 = .ok (.iconst 0, 1) := by decide +kernel
theorem d_S_commonSumOf_3 : decode prog_3_method_13_code 3 = .ok (.istore_n 3, 1) := by decide +kernel
theorem d_S_commonSumOf_4 : decode prog_3_method_13_code 4 = .ok (.iload_n 3, 1) := by decide +kernel
theorem d_S_commonSumOf_5 : decode prog_3_method_13_code 5 = .ok (.bipush 7, 2) := by decide +kernel
theorem d_S_commonSumOf_7 : decode prog_3_method_13_code 7 = .ok (.if_icmp .ge 18, 3) := by decide +kernel
theorem d_S_commonSumOf_10 : decode prog_3_method_13_code 10 = .ok (.iload_n 2, 1) := by decide +kernel
theorem d_S_commonSumOf_11 : decode prog_3_method_13_code 11 = .ok (.aload_n 0, 1) := by decide +kernel
theorem d_S_commonSumOf_12 : decode prog_3_method_13_code 12 = .ok (.iload_n 1, 1) := by decide +kernel
theorem d_S_commonSumOf_13 : decode prog_3_method_13_code 13 = .ok (.iload_n 3, 1) := by decide +kernel
theorem d_S_commonSumOf_14 : decode prog_3_method_13_code 14 = .ok (.invokevirtual 94, 3) := by decide +kernel
theorem d_S_commonSumOf_17 : decode prog_3_method_13_code 17 = .ok (.iadd, 1) := by decide +kernel
theorem d_S_commonSumOf_18 : decode prog_3_method_13_code 18 = .ok (.istore_n 2, 1) := by decide +kernel
theorem d_S_commonSumOf_19 : decode prog_3_method_13_code 19 = .ok (.iinc 3 1, 3) := by decide +kernel
theorem d_S_commonSumOf_22 : decode prog_3_method_13_code 22 = .ok (.goto (-18), 3) := by decide +kernel
theorem d_S_commonSumOf_25 : decode prog_3_method_13_code 25 = .ok (.iload_n 2, 1) := by decide +kernel
theorem d_S_commonSumOf_26 : decode prog_3_method_13_code 26 = .ok (.ifCond .ne 5, 3) := by decide +kernel
theorem d_S_commonSumOf_29 : decode prog_3_method_13_code 29 = .ok (.iconst (-1), 1) := by decide +kernel
theorem d_S_commonSumOf_30 : decode prog_3_method_13_code 30 = .ok (.ireturn, 1) := by decide +kernel
theorem d_S_commonSumOf_31 : decode prog_3_method_13_code 31 = .ok (.iconst 0, 1) := by decide +kernel
theorem d_S_commonSumOf_32 : decode prog_3_method_13_code 32 = .ok (.istore_n 3, 1) := by decide +kernel
theorem d_S_commonSumOf_33 : decode prog_3_method_13_code 33 = .ok (.iload_n 3, 1) := by decide +kernel
theorem d_S_commonSumOf_34 : decode prog_3_method_13_code 34 = .ok (.bipush 7, 2) := by decide +kernel
theorem d_S_commonSumOf_36 : decode prog_3_method_13_code 36 = .ok (.if_icmp .ge 23, 3) := by decide +kernel
theorem d_S_commonSumOf_39 : decode prog_3_method_13_code 39 = .ok (.iconst 2, 1) := by decide +kernel
theorem d_S_commonSumOf_40 : decode prog_3_method_13_code 40 = .ok (.aload_n 0, 1) := by decide +kernel
theorem d_S_commonSumOf_41 : decode prog_3_method_13_code 41 = .ok (.iload_n 1, 1) := by decide +kernel
theorem d_S_commonSumOf_42 : decode prog_3_method_13_code 42 = .ok (.iload_n 3, 1) := by decide +kernel
theorem d_S_commonSumOf_43 : decode prog_3_method_13_code 43 = .ok (.invokevirtual 94, 3) := by decide +kernel
theorem d_S_commonSumOf_46 : decode prog_3_method_13_code 46 = .ok (.imul, 1) := by decide +kernel
theorem d_S_commonSumOf_47 : decode prog_3_method_13_code 47 = .ok (.iload_n 2, 1) := by decide +kernel
theorem d_S_commonSumOf_48 : decode prog_3_method_13_code 48 = .ok (.if_icmp .le 5, 3) := by decide +kernel
theorem d_S_commonSumOf_51 : decode prog_3_method_13_code 51 = .ok (.iload_n 3, 1) := by decide +kernel
theorem d_S_commonSumOf_52 : decode prog_3_method_13_code 52 = .ok (.ireturn, 1) := by decide +kernel
theorem d_S_commonSumOf_53 : decode prog_3_method_13_code 53 = .ok (.iinc 3 1, 3) := by decide +kernel
theorem d_S_commonSumOf_56 : decode prog_3_method_13_code 56 = .ok (.goto (-23), 3) := by decide +kernel
theorem d_S_commonSumOf_59 : decode prog_3_method_13_code 59 = .ok (.bipush 7, 2) := by decide +kernel
theorem d_S_commonSumOf_61 : decode prog_3_method_13_code 61 = .ok (.ireturn, 1) := by decide +kernel
theorem d_R_copyGivenBackBy_0 : decode prog_2_method_4_code 0 = .ok (.aload_n 0, 1) := by decide +kernel
theorem d_R_copyGivenBackBy_1 : decode prog_2_method_4_code 1 = .ok (.getfield 9, 3) := by decide +kernel
theorem d_R_copyGivenBackBy_4 : decode prog_2_method_4_code 4 = .ok (.iload_n 1, 1) := by decide +kernel
theorem d_R_copyGivenBackBy_5 : decode prog_2_method_4_code 5 = .ok (.iaload, 1) := by decide +kernel
theorem d_R_copyGivenBackBy_6 : decode prog_2_method_4_code 6 = .ok (.iconst 4, 1) := by decide +kernel
theorem d_R_copyGivenBackBy_7 : decode prog_2_method_4_code 7 = .ok (.if_icmp .ne 12, 3) := by decide +kernel
theorem d_R_copyGivenBackBy_10 : decode prog_2_method_4_code 10 = .ok (.aload_n 0, 1) := by decide +kernel
theorem d_R_copyGivenBackBy_11 : decode prog_2_method_4_code 11 = .ok (.getfield 15, 3) := by decide +kernel
theorem d_R_copyGivenBackBy_14 : decode prog_2_method_4_code 14 = .ok (.iload_n 1, 1) := by decide +kernel
theorem d_R_copyGivenBackBy_15 : decode prog_2_method_4_code 15 = .ok (.iaload, 1) := by decide +kernel
theorem d_R_copyGivenBackBy_16 : decode prog_2_method_4_code 16 = .ok (.goto 4, 3) := by decide +kernel
theorem d_R_copyGivenBackBy_19 : decode prog_2_method_4_code 19 = .ok (.iconst (-1), 1) := by decide +kernel
theorem d_R_copyGivenBackBy_20 : decode prog_2_method_4_code 20 = .ok (.ireturn, 1) := by decide +kernel
theorem d_S_copiesWith_0 : decode prog_3_method_8_code 0 = .ok (.iconst 0, 1) := by decide +kernel
theorem d_S_copiesWith_1 : decode prog_3_method_8_code 1 = .ok (.istore_n 2, 1) := by decide +kernel
theorem d_S_copiesWith_2 : decode prog_3_method_8_code 2 = .ok (.iconst 1, 1) := by decide +kernel
theorem d_S_copiesWith_3 : decode prog_3_method_8_code 3 = .ok (.istore_n 3, 1) := by decide +kernel
theorem d_S_copiesWith_4 : decode prog_3_method_8_code 4 = .ok (.iload_n 3, 1) := by decide +kernel
theorem d_S_copiesWith_5 : decode prog_3_method_8_code 5 = .ok (.bipush 20, 2) := by decide +kernel
theorem d_S_copiesWith_7 : decode prog_3_method_8_code 7 = .ok (.if_icmp .gt 22, 3) := by decide +kernel
theorem d_S_copiesWith_10 : decode prog_3_method_8_code 10 = .ok (.aload_n 0, 1) := by decide +kernel
theorem d_S_copiesWith_11 : decode prog_3_method_8_code 11 = .ok (.getfield 19, 3) := by decide +kernel
theorem d_S_copiesWith_14 : decode prog_3_method_8_code 14 = .ok (.iload_n 3, 1) := by decide +kernel
theorem d_S_copiesWith_15 : decode prog_3_method_8_code 15 = .ok (.iaload, 1) := by decide +kernel
theorem d_S_copiesWith_16 : decode prog_3_method_8_code 16 = .ok (.iload_n 1, 1) := by decide +kernel
theorem d_S_copiesWith_17 : decode prog_3_method_8_code 17 = .ok (.if_icmp .ne 6, 3) := by decide +kernel
theorem d_S_copiesWith_20 : decode prog_3_method_8_code 20 = .ok (.iinc 2 1, 3) := by decide +kernel
theorem d_S_copiesWith_23 : decode prog_3_method_8_code 23 = .ok (.iinc 3 1, 3) := by decide +kernel
theorem d_S_copiesWith_26 : decode prog_3_method_8_code 26 = .ok (.goto (-22), 3) := by decide +kernel
theorem d_S_copiesWith_29 : decode prog_3_method_8_code 29 = .ok (.iload_n 2, 1) := by decide +kernel
theorem d_S_copiesWith_30 : decode prog_3_method_8_code 30 = .ok (.ireturn, 1) := by decide +kernel
