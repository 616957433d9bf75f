theorem d_L_init_0 : decode prog_1_method_1_code 0 = .ok (.aload_n 0, 1) := by decide +kernel
theorem d_L_init_1 : decode prog_1_method_1_code 1 = .ok (.invokespecial 1, 3) := by decide +kernel
theorem d_L_init_4 : decode prog_1_method_1_code 4 = .ok (.aload_n 0, 1) := by decide +kernel
theorem d_L_init_5 : decode prog_1_method_1_code 5 = .ok (.new 7, 3) := by decide +kernel
theorem d_L_init_8 : decode prog_1_method_1_code 8 = .ok (.dup, 1) := by decide +kernel
theorem d_L_init_9 : decode prog_1_method_1_code 9 = .ok (.invokespecial 9, 3) := by decide +kernel
theorem d_L_init_12 : decode prog_1_method_1_code 12 = .ok (.putfield 10, 3) := by decide +kernel
theorem d_L_init_15 : decode prog_1_method_1_code 15 = .ok (.aload_n 0, 1) := by decide +kernel
theorem d_L_init_16 : decode prog_1_method_1_code 16 = .ok (.new 16, 3) := by decide +kernel
theorem d_L_init_19 : decode prog_1_method_1_code 19 = .ok (.dup, 1) := by decide +kernel
theorem d_L_init_20 : decode prog_1_method_1_code 20 = .ok (.invokespecial 18, 3) := by decide +kernel
theorem d_L_init_23 : decode prog_1_method_1_code 23 = .ok (.putfield 19, 3) := by decide +kernel
theorem d_L_init_26 : decode prog_1_method_1_code 26 = .ok (.aload_n 0, 1) := by decide +kernel
theorem d_L_init_27 : decode prog_1_method_1_code 27 = .ok (.bipush 20, 2) := by decide +kernel
theorem d_L_init_29 : decode prog_1_method_1_code 29 = .ok (.newarray .int, 2) := by decide +kernel
theorem d_L_init_31 : decode prog_1_method_1_code 31 = .ok (.putfield 23, 3) := by decide +kernel
theorem d_L_init_34 : decode prog_1_method_1_code 34 = .ok (.aload_n 0, 1) := by decide +kernel
theorem d_L_init_35 : decode prog_1_method_1_code 35 = .ok (.iconst 0, 1) := by decide +kernel
theorem d_L_init_36 : decode prog_1_method_1_code 36 = .ok (.putfield 27, 3) := by decide +kernel
theorem d_L_init_39 : decode prog_1_method_1_code 39 = .ok (.return_, 1) := by decide +kernel
theorem d_L_isWithin_0 : decode prog_1_method_16_code 0 = .ok (.lload_n 0, 1) := by decide +kernel
theorem d_L_isWithin_1 : decode prog_1_method_16_code 1 = .ok (.lload_n 2, 1) := by decide +kernel
theorem d_L_isWithin_2 : decode prog_1_method_16_code 2 = .ok (.lcmp, 1) := by decide +kernel
theorem d_L_isWithin_3 : decode prog_1_method_16_code 3 = .ok (.ifCond .lt 14, 3) := by decide +kernel
theorem d_L_isWithin_6 : decode prog_1_method_16_code 6 = .ok (.lload_n 0, 1) := by decide +kernel
theorem d_L_isWithin_7 : decode prog_1_method_16_code 7 = .ok (.lload 4, 2) := by decide +kernel
theorem d_L_isWithin_9 : decode prog_1_method_16_code 9 = .ok (.lcmp, 1) := by decide +kernel
theorem d_L_isWithin_10 : decode prog_1_method_16_code 10 = .ok (.ifCond .gt 7, 3) := by decide +kernel
theorem d_L_isWithin_13 : decode prog_1_method_16_code 13 = .ok (.iconst 1, 1) := by decide +kernel
theorem d_L_isWithin_14 : decode prog_1_method_16_code 14 = .ok (.goto 4, 3) := by decide +kernel
theorem d_L_isWithin_17 : decode prog_1_method_16_code 17 = .ok (.iconst 0, 1) := by decide +kernel
theorem d_L_isWithin_18 : decode prog_1_method_16_code 18 = .ok (.ireturn, 1) := by decide +kernel
theorem d_L_isNumber_0 : decode prog_1_method_17_code 0 = .ok (.lload_n 0, 1) := by decide +kernel
theorem d_L_isNumber_1 : decode prog_1_method_17_code 1 = .ok (.lconst 1, 1) := by decide +kernel
theorem d_L_isNumber_2 : decode prog_1_method_17_code 2 = .ok (.ldc2_w 126, 3) := by decide +kernel
theorem d_L_isNumber_5 : decode prog_1_method_17_code 5 = .ok (.invokestatic 33, 3) := by decide +kernel
theorem d_L_isNumber_8 : decode prog_1_method_17_code 8 = .ok (.ireturn, 1) := by decide +kernel
theorem d_L_isAct_0 : decode prog_1_method_18_code 0 = .ok (.iload_n 0, 1) := by decide +kernel
theorem d_L_isAct_1 : decode prog_1_method_18_code 1 = .ok (.tableswitch 184 0 10 #[59, 59, 83, 83, 103, 83, 83, 108, 108, 132, 156], 59) := by decide +kernel
theorem d_L_isAct_60 : decode prog_1_method_18_code 60 = .ok (.lload_n 1, 1) := by decide +kernel
theorem d_L_isAct_61 : decode prog_1_method_18_code 61 = .ok (.invokestatic 56, 3) := by decide +kernel
theorem d_L_isAct_64 : decode prog_1_method_18_code 64 = .ok (.ifCond .eq 18, 3) := by decide +kernel
theorem d_L_isAct_67 : decode prog_1_method_18_code 67 = .ok (.lload_n 3, 1) := by decide +kernel
theorem d_L_isAct_68 : decode prog_1_method_18_code 68 = .ok (.lconst 1, 1) := by decide +kernel
theorem d_L_isAct_69 : decode prog_1_method_18_code 69 = .ok (.ldc2_w 84, 3) := by decide +kernel
theorem d_L_isAct_72 : decode prog_1_method_18_code 72 = .ok (.invokestatic 33, 3) := by decide +kernel
theorem d_L_isAct_75 : decode prog_1_method_18_code 75 = .ok (.ifCond .eq 7, 3) := by decide +kernel
theorem d_L_isAct_78 : decode prog_1_method_18_code 78 = .ok (.iconst 1, 1) := by decide +kernel
theorem d_L_isAct_79 : decode prog_1_method_18_code 79 = .ok (.goto 4, 3) := by decide +kernel
theorem d_L_isAct_82 : decode prog_1_method_18_code 82 = .ok (.iconst 0, 1) := by decide +kernel
theorem d_L_isAct_83 : decode prog_1_method_18_code 83 = .ok (.ireturn, 1) := by decide +kernel
theorem d_L_isAct_84 : decode prog_1_method_18_code 84 = .ok (.lload_n 1, 1) := by decide +kernel
theorem d_L_isAct_85 : decode prog_1_method_18_code 85 = .ok (.invokestatic 56, 3) := by decide +kernel
theorem d_L_isAct_88 : decode prog_1_method_18_code 88 = .ok (.ifCond .eq 14, 3) := by decide +kernel
theorem d_L_isAct_91 : decode prog_1_method_18_code 91 = .ok (.lload_n 3, 1) := by decide +kernel
theorem d_L_isAct_92 : decode prog_1_method_18_code 92 = .ok (.invokestatic 56, 3) := by decide +kernel
theorem d_L_isAct_95 : decode prog_1_method_18_code 95 = .ok (.ifCond .eq 7, 3) := by decide +kernel
theorem d_L_isAct_98 : decode prog_1_method_18_code 98 = .ok (.iconst 1, 1) := by decide +kernel
theorem d_L_isAct_99 : decode prog_1_method_18_code 99 = .ok (.goto 4, 3) := by decide +kernel
theorem d_L_isAct_102 : decode prog_1_method_18_code 102 = .ok (.iconst 0, 1) := by decide +kernel
theorem d_L_isAct_103 : decode prog_1_method_18_code 103 = .ok (.ireturn, 1) := by decide +kernel
theorem d_L_isAct_104 : decode prog_1_method_18_code 104 = .ok (.lload_n 1, 1) := by decide +kernel
theorem d_L_isAct_105 : decode prog_1_method_18_code 105 = .ok (.invokestatic 56, 3) := by decide +kernel
theorem d_L_isAct_108 : decode prog_1_method_18_code 108 = .ok (.ireturn, 1) := by decide +kernel
theorem d_L_isAct_109 : decode prog_1_method_18_code 109 = .ok (.lload_n 1, 1) := by decide +kernel
theorem d_L_isAct_110 : decode prog_1_method_18_code 110 = .ok (.invokestatic 56, 3) := by decide +kernel
theorem d_L_isAct_113 : decode prog_1_method_18_code 113 = .ok (.ifCond .eq 18, 3) := by decide +kernel
theorem d_L_isAct_116 : decode prog_1_method_18_code 116 = .ok (.lload_n 3, 1) := by decide +kernel
theorem d_L_isAct_117 : decode prog_1_method_18_code 117 = .ok (.lconst 1, 1) := by decide +kernel
theorem d_L_isAct_118 : decode prog_1_method_18_code 118 = .ok (.ldc2_w 128, 3) := by decide +kernel
theorem d_L_isAct_121 : decode prog_1_method_18_code 121 = .ok (.invokestatic 33, 3) := by decide +kernel
theorem d_L_isAct_124 : decode prog_1_method_18_code 124 = .ok (.ifCond .eq 7, 3) := by decide +kernel
theorem d_L_isAct_127 : decode prog_1_method_18_code 127 = .ok (.iconst 1, 1) := by decide +kernel
theorem d_L_isAct_128 : decode prog_1_method_18_code 128 = .ok (.goto 4, 3) := by decide +kernel
theorem d_L_isAct_131 : decode prog_1_method_18_code 131 = .ok (.iconst 0, 1) := by decide +kernel
theorem d_L_isAct_132 : decode prog_1_method_18_code 132 = .ok (.ireturn, 1) := by decide +kernel
theorem d_L_isAct_133 : decode prog_1_method_18_code 133 = .ok (.lload_n 1, 1) := by decide +kernel
theorem d_L_isAct_134 : decode prog_1_method_18_code 134 = .ok (.invokestatic 56, 3) := by decide +kernel
theorem d_L_isAct_137 : decode prog_1_method_18_code 137 = .ok (.ifCond .eq 18, 3) := by decide +kernel
theorem d_L_isAct_140 : decode prog_1_method_18_code 140 = .ok (.lload_n 3, 1) := by decide +kernel
theorem d_L_isAct_141 : decode prog_1_method_18_code 141 = .ok (.lconst 0, 1) := by decide +kernel
theorem d_L_isAct_142 : decode prog_1_method_18_code 142 = .ok (.ldc2_w 130, 3) := by decide +kernel
theorem d_L_isAct_145 : decode prog_1_method_18_code 145 = .ok (.invokestatic 33, 3) := by decide +kernel
theorem d_L_isAct_148 : decode prog_1_method_18_code 148 = .ok (.ifCond .eq 7, 3) := by decide +kernel
theorem d_L_isAct_151 : decode prog_1_method_18_code 151 = .ok (.iconst 1, 1) := by decide +kernel
theorem d_L_isAct_152 : decode prog_1_method_18_code 152 = .ok (.goto 4, 3) := by decide +kernel
theorem d_L_isAct_155 : decode prog_1_method_18_code 155 = .ok (.iconst 0, 1) := by decide +kernel
theorem d_L_isAct_156 : decode prog_1_method_18_code 156 = .ok (.ireturn, 1) := by decide +kernel
theorem d_L_isAct_157 : decode prog_1_method_18_code 157 = .ok (.lload_n 1, 1) := by decide +kernel
theorem d_L_isAct_158 : decode prog_1_method_18_code 158 = .ok (.lconst 0, 1) := by decide +kernel
theorem d_L_isAct_159 : decode prog_1_method_18_code 159 = .ok (.ldc2_w 130, 3) := by decide +kernel
theorem d_L_isAct_162 : decode prog_1_method_18_code 162 = .ok (.invokestatic 33, 3) := by decide +kernel
theorem d_L_isAct_165 : decode prog_1_method_18_code 165 = .ok (.ifCond .eq 18, 3) := by decide +kernel
theorem d_L_isAct_168 : decode prog_1_method_18_code 168 = .ok (.lload_n 3, 1) := by decide +kernel
theorem d_L_isAct_169 : decode prog_1_method_18_code 169 = .ok (.lconst 1, 1) := by decide +kernel
theorem d_L_isAct_170 : decode prog_1_method_18_code 170 = .ok (.ldc2_w 132, 3) := by decide +kernel
theorem d_L_isAct_173 : decode prog_1_method_18_code 173 = .ok (.invokestatic 33, 3) := by decide +kernel
theorem d_L_isAct_176 : decode prog_1_method_18_code 176 = .ok (.ifCond .eq 7, 3) := by decide +kernel
theorem d_L_isAct_179 : decode prog_1_method_18_code 179 = .ok (.iconst 1, 1) := by decide +kernel
theorem d_L_isAct_180 : decode prog_1_method_18_code 180 = .ok (.goto 4, 3) := by decide +kernel
theorem d_L_isAct_183 : decode prog_1_method_18_code 183 = .ok (.iconst 0, 1) := by decide +kernel
theorem d_L_isAct_184 : decode prog_1_method_18_code 184 = .ok (.ireturn, 1) := by decide +kernel
theorem d_L_isAct_185 : decode prog_1_method_18_code 185 = .ok (.iconst 0, 1) := by decide +kernel
theorem d_L_isAct_186 : decode prog_1_method_18_code 186 = .ok (.ireturn, 1) := by decide +kernel
theorem d_L_event_0 : decode prog_1_method_2_code 0 = .ok (.lload 6, 2) := by decide +kernel
theorem d_L_event_2 : decode prog_1_method_2_code 2 = .ok (.lconst 0, 1) := by decide +kernel
theorem d_L_event_3 : decode prog_1_method_2_code 3 = .ok (.ldc2_w 31, 3) := by decide +kernel
theorem d_L_event_6 : decode prog_1_method_2_code 6 = .ok (.invokestatic 33, 3) := by decide +kernel
theorem d_L_event_9 : decode prog_1_method_2_code 9 = .ok (.ifCond .eq 13, 3) := by decide +kernel
theorem d_L_event_12 : decode prog_1_method_2_code 12 = .ok (.iload_n 1, 1) := by decide +kernel
theorem d_L_event_13 : decode prog_1_method_2_code 13 = .ok (.lload_n 2, 1) := by decide +kernel
theorem d_L_event_14 : decode prog_1_method_2_code 14 = .ok (.lload 4, 2) := by decide +kernel
theorem d_L_event_16 : decode prog_1_method_2_code 16 = .ok (.invokestatic 37, 3) := by decide +kernel
theorem d_L_event_19 : decode prog_1_method_2_code 19 = .ok (.ifCond .ne 5, 3) := by decide +kernel
theorem d_L_event_22 : decode prog_1_method_2_code 22 = .ok (.iconst 0, 1) := by decide +kernel
theorem d_L_event_23 : decode prog_1_method_2_code 23 = .ok (.ireturn, 1) := by decide +kernel
theorem d_L_event_24 : decode prog_1_method_2_code 24 = .ok (.iload_n 1, 1) := by decide +kernel
theorem d_L_event_25 : decode prog_1_method_2_code 25 = .ok (.iconst 4, 1) := by decide +kernel
theorem d_L_event_26 : decode prog_1_method_2_code 26 = .ok (.if_icmp .ne 7, 3) := by decide +kernel
theorem d_L_event_29 : decode prog_1_method_2_code 29 = .ok (.iconst 0, 1) := by decide +kernel
theorem d_L_event_30 : decode prog_1_method_2_code 30 = .ok (.goto 6, 3) := by decide +kernel
theorem d_L_event_33 : decode prog_1_method_2_code 33 = .ok (.lload 4, 2) := by decide +kernel
theorem d_L_event_35 : decode prog_1_method_2_code 35 = .ok (.l2i, 1) := by decide +kernel
theorem d_L_event_36 : decode prog_1_method_2_code 36 = .ok (.istore 8, 2) := by decide +kernel
theorem d_L_event_38 : decode prog_1_method_2_code 38 = .ok (.aload_n 0, 1) := by decide +kernel
theorem d_L_event_39 : decode prog_1_method_2_code 39 = .ok (.getfield 10, 3) := by decide +kernel
theorem d_L_event_42 : decode prog_1_method_2_code 42 = .ok (.iload_n 1, 1) := by decide +kernel
theorem d_L_event_43 : decode prog_1_method_2_code 43 = .ok (.lload_n 2, 1) := by decide +kernel
theorem d_L_event_44 : decode prog_1_method_2_code 44 = .ok (.l2i, 1) := by decide +kernel
theorem d_L_event_45 : decode prog_1_method_2_code 45 = .ok (.iload 8, 2) := by decide +kernel
theorem d_L_event_47 : decode prog_1_method_2_code 47 = .ok (.lload 6, 2) := by decide +kernel
theorem d_L_event_49 : decode prog_1_method_2_code 49 = .ok (.invokevirtual 41, 3) := by decide +kernel
theorem d_L_event_52 : decode prog_1_method_2_code 52 = .ok (.ifCond .eq 13, 3) := by decide +kernel
theorem d_L_event_55 : decode prog_1_method_2_code 55 = .ok (.aload_n 0, 1) := by decide +kernel
theorem d_L_event_56 : decode prog_1_method_2_code 56 = .ok (.getfield 10, 3) := by decide +kernel
theorem d_L_event_59 : decode prog_1_method_2_code 59 = .ok (.invokevirtual 45, 3) := by decide +kernel
theorem d_L_event_62 : decode prog_1_method_2_code 62 = .ok (.goto 4, 3) := by decide +kernel
theorem d_L_event_65 : decode prog_1_method_2_code 65 = .ok (.iconst 0, 1) := by decide +kernel
theorem d_L_event_66 : decode prog_1_method_2_code 66 = .ok (.ireturn, 1) := by decide +kernel
theorem d_L_counts_0 : decode prog_1_method_3_code 0 = .ok (.iload_n 1, 1) := by decide +kernel
theorem d_L_counts_1 : decode prog_1_method_3_code 1 = .ok (.ifCond .lt 14, 3) := by decide +kernel
theorem d_L_counts_4 : decode prog_1_method_3_code 4 = .ok (.iload_n 1, 1) := by decide +kernel
theorem d_L_counts_5 : decode prog_1_method_3_code 5 = .ok (.aload_n 0, 1) := by decide +kernel
theorem d_L_counts_6 : decode prog_1_method_3_code 6 = .ok (.getfield 10, 3) := by decide +kernel
theorem d_L_counts_9 : decode prog_1_method_3_code 9 = .ok (.invokevirtual 45, 3) := by decide +kernel
theorem d_L_counts_12 : decode prog_1_method_3_code 12 = .ok (.if_icmp .lt 5, 3) := by decide +kernel
theorem d_L_counts_15 : decode prog_1_method_3_code 15 = .ok (.iconst (-1), 1) := by decide +kernel
theorem d_L_counts_16 : decode prog_1_method_3_code 16 = .ok (.ireturn, 1) := by decide +kernel
theorem d_L_counts_17 : decode prog_1_method_3_code 17 = .ok (.aload_n 0, 1) := by decide +kernel
theorem d_L_counts_18 : decode prog_1_method_3_code 18 = .ok (.getfield 19, 3) := by decide +kernel
theorem d_L_counts_21 : decode prog_1_method_3_code 21 = .ok (.invokevirtual 49, 3) := by decide +kernel
theorem d_L_counts_24 : decode prog_1_method_3_code 24 = .ok (.iconst 0, 1) := by decide +kernel
theorem d_L_counts_25 : decode prog_1_method_3_code 25 = .ok (.istore_n 2, 1) := by decide +kernel
theorem d_L_counts_26 : decode prog_1_method_3_code 26 = .ok (.iload_n 2, 1) := by decide +kernel
theorem d_L_counts_27 : decode prog_1_method_3_code 27 = .ok (.iload_n 1, 1) := by decide +kernel
theorem d_L_counts_28 : decode prog_1_method_3_code 28 = .ok (.if_icmp .ge 22, 3) := by decide +kernel
theorem d_L_counts_31 : decode prog_1_method_3_code 31 = .ok (.aload_n 0, 1) := by decide +kernel
theorem d_L_counts_32 : decode prog_1_method_3_code 32 = .ok (.getfield 10, 3) := by decide +kernel
theorem d_L_counts_35 : decode prog_1_method_3_code 35 = .ok (.iload_n 2, 1) := by decide +kernel
theorem d_L_counts_36 : decode prog_1_method_3_code 36 = .ok (.aload_n 0, 1) := by decide +kernel
theorem d_L_counts_37 : decode prog_1_method_3_code 37 = .ok (.getfield 19, 3) := by decide +kernel
theorem d_L_counts_40 : decode prog_1_method_3_code 40 = .ok (.invokevirtual 52, 3) := by decide +kernel
theorem d_L_counts_43 : decode prog_1_method_3_code 43 = .ok (.pop, 1) := by decide +kernel
theorem d_L_counts_44 : decode prog_1_method_3_code 44 = .ok (.iinc 2 1, 3) := by decide +kernel
theorem d_L_counts_47 : decode prog_1_method_3_code 47 = .ok (.goto (-21), 3) := by decide +kernel
theorem d_L_counts_50 : decode prog_1_method_3_code 50 = .ok (.aload_n 0, 1) := by decide +kernel
theorem d_L_counts_51 : decode prog_1_method_3_code 51 = .ok (.getfield 10, 3) := by decide +kernel
theorem d_L_counts_54 : decode prog_1_method_3_code 54 = .ok (.iload_n 1, 1) := by decide +kernel
theorem d_L_counts_55 : decode prog_1_method_3_code 55 = .ok (.aload_n 0, 1) := by decide +kernel
theorem d_L_counts_56 : decode prog_1_method_3_code 56 = .ok (.getfield 19, 3) := by decide +kernel
theorem d_L_counts_59 : decode prog_1_method_3_code 59 = .ok (.invokevirtual 52, 3) := by decide +kernel
theorem d_L_counts_62 : decode prog_1_method_3_code 62 = .ok (.ifCond .eq 7, 3) := by decide +kernel
theorem d_L_counts_65 : decode prog_1_method_3_code 65 = .ok (.iconst 1, 1) := by decide +kernel
theorem d_L_counts_66 : decode prog_1_method_3_code 66 = .ok (.goto 4, 3) := by decide +kernel
theorem d_L_counts_69 : decode prog_1_method_3_code 69 = .ok (.iconst 0, 1) := by decide +kernel
theorem d_L_counts_70 : decode prog_1_method_3_code 70 = .ok (.ireturn, 1) := by decide +kernel
theorem d_L_events_0 : decode prog_1_method_4_code 0 = .ok (.aload_n 0, 1) := by decide +kernel
theorem d_L_events_1 : decode prog_1_method_4_code 1 = .ok (.getfield 10, 3) := by decide +kernel
theorem d_L_events_4 : decode prog_1_method_4_code 4 = .ok (.invokevirtual 45, 3) := by decide +kernel
theorem d_L_events_7 : decode prog_1_method_4_code 7 = .ok (.ireturn, 1) := by decide +kernel
theorem d_L_refused_0 : decode prog_1_method_5_code 0 = .ok (.iconst 0, 1) := by decide +kernel
theorem d_L_refused_1 : decode prog_1_method_5_code 1 = .ok (.istore_n 1, 1) := by decide +kernel
theorem d_L_refused_2 : decode prog_1_method_5_code 2 = .ok (.aload_n 0, 1) := by decide +kernel
theorem d_L_refused_3 : decode prog_1_method_5_code 3 = .ok (.getfield 19, 3) := by decide +kernel
theorem d_L_refused_6 : decode prog_1_method_5_code 6 = .ok (.invokevirtual 49, 3) := by decide +kernel
theorem d_L_refused_9 : decode prog_1_method_5_code 9 = .ok (.iconst 0, 1) := by decide +kernel
theorem d_L_refused_10 : decode prog_1_method_5_code 10 = .ok (.istore_n 2, 1) := by decide +kernel
theorem d_L_refused_11 : decode prog_1_method_5_code 11 = .ok (.iload_n 2, 1) := by decide +kernel
theorem d_L_refused_12 : decode prog_1_method_5_code 12 = .ok (.aload_n 0, 1) := by decide +kernel
theorem d_L_refused_13 : decode prog_1_method_5_code 13 = .ok (.getfield 10, 3) := by decide +kernel
theorem d_L_refused_16 : decode prog_1_method_5_code 16 = .ok (.invokevirtual 45, 3) := by decide +kernel
theorem d_L_refused_19 : decode prog_1_method_5_code 19 = .ok (.if_icmp .ge 27, 3) := by decide +kernel
theorem d_L_refused_22 : decode prog_1_method_5_code 22 = .ok (.aload_n 0, 1) := by decide +kernel
theorem d_L_refused_23 : decode prog_1_method_5_code 23 = .ok (.getfield 10, 3) := by decide +kernel
theorem d_L_refused_26 : decode prog_1_method_5_code 26 = .ok (.iload_n 2, 1) := by decide +kernel
theorem d_L_refused_27 : decode prog_1_method_5_code 27 = .ok (.aload_n 0, 1) := by decide +kernel
theorem d_L_refused_28 : decode prog_1_method_5_code 28 = .ok (.getfield 19, 3) := by decide +kernel
theorem d_L_refused_31 : decode prog_1_method_5_code 31 = .ok (.invokevirtual 52, 3) := by decide +kernel
theorem d_L_refused_34 : decode prog_1_method_5_code 34 = .ok (.ifCond .ne 6, 3) := by decide +kernel
theorem d_L_refused_37 : decode prog_1_method_5_code 37 = .ok (.iinc 1 1, 3) := by decide +kernel
theorem d_L_refused_40 : decode prog_1_method_5_code 40 = .ok (.iinc 2 1, 3) := by decide +kernel
theorem d_L_refused_43 : decode prog_1_method_5_code 43 = .ok (.goto (-32), 3) := by decide +kernel
theorem d_L_refused_46 : decode prog_1_method_5_code 46 = .ok (.iload_n 1, 1) := by decide +kernel
theorem d_L_refused_47 : decode prog_1_method_5_code 47 = .ok (.ireturn, 1) := by decide +kernel
theorem d_L_performUpTo_0 : decode prog_1_method_20_code 0 = .ok (.aload_n 0, 1) := by decide +kernel
theorem d_L_performUpTo_1 : decode prog_1_method_20_code 1 = .ok (.getfield 19, 3) := by decide +kernel
theorem d_L_performUpTo_4 : decode prog_1_method_20_code 4 = .ok (.invokevirtual 49, 3) := by decide +kernel
theorem d_L_performUpTo_7 : decode prog_1_method_20_code 7 = .ok (.iconst 0, 1) := by decide +kernel
theorem d_L_performUpTo_8 : decode prog_1_method_20_code 8 = .ok (.istore_n 3, 1) := by decide +kernel
theorem d_L_performUpTo_9 : decode prog_1_method_20_code 9 = .ok (.iload_n 3, 1) := by decide +kernel
theorem d_L_performUpTo_10 : decode prog_1_method_20_code 10 = .ok (.aload_n 0, 1) := by decide +kernel
theorem d_L_performUpTo_11 : decode prog_1_method_20_code 11 = .ok (.getfield 10, 3) := by decide +kernel
theorem d_L_performUpTo_14 : decode prog_1_method_20_code 14 = .ok (.invokevirtual 45, 3) := by decide +kernel
theorem d_L_performUpTo_17 : decode prog_1_method_20_code 17 = .ok (.if_icmp .ge 35, 3) := by decide +kernel
theorem d_L_performUpTo_20 : decode prog_1_method_20_code 20 = .ok (.aload_n 0, 1) := by decide +kernel
theorem d_L_performUpTo_21 : decode prog_1_method_20_code 21 = .ok (.getfield 10, 3) := by decide +kernel
theorem d_L_performUpTo_24 : decode prog_1_method_20_code 24 = .ok (.iload_n 3, 1) := by decide +kernel
theorem d_L_performUpTo_25 : decode prog_1_method_20_code 25 = .ok (.invokevirtual 105, 3) := by decide +kernel
theorem d_L_performUpTo_28 : decode prog_1_method_20_code 28 = .ok (.lload_n 1, 1) := by decide +kernel
theorem d_L_performUpTo_29 : decode prog_1_method_20_code 29 = .ok (.lcmp, 1) := by decide +kernel
theorem d_L_performUpTo_30 : decode prog_1_method_20_code 30 = .ok (.ifCond .gt 22, 3) := by decide +kernel
theorem d_L_performUpTo_33 : decode prog_1_method_20_code 33 = .ok (.aload_n 0, 1) := by decide +kernel
theorem d_L_performUpTo_34 : decode prog_1_method_20_code 34 = .ok (.getfield 10, 3) := by decide +kernel
theorem d_L_performUpTo_37 : decode prog_1_method_20_code 37 = .ok (.iload_n 3, 1) := by decide +kernel
theorem d_L_performUpTo_38 : decode prog_1_method_20_code 38 = .ok (.aload_n 0, 1) := by decide +kernel
theorem d_L_performUpTo_39 : decode prog_1_method_20_code 39 = .ok (.getfield 19, 3) := by decide +kernel
theorem d_L_performUpTo_42 : decode prog_1_method_20_code 42 = .ok (.invokevirtual 52, 3) := by decide +kernel
theorem d_L_performUpTo_45 : decode prog_1_method_20_code 45 = .ok (.pop, 1) := by decide +kernel
theorem d_L_performUpTo_46 : decode prog_1_method_20_code 46 = .ok (.iinc 3 1, 3) := by decide +kernel
theorem d_L_performUpTo_49 : decode prog_1_method_20_code 49 = .ok (.goto (-40), 3) := by decide +kernel
theorem d_L_performUpTo_52 : decode prog_1_method_20_code 52 = .ok (.return_, 1) := by decide +kernel
theorem d_L_state_0 : decode prog_1_method_6_code 0 = .ok (.iload_n 2, 1) := by decide +kernel
theorem d_L_state_1 : decode prog_1_method_6_code 1 = .ok (.i2l, 1) := by decide +kernel
theorem d_L_state_2 : decode prog_1_method_6_code 2 = .ok (.invokestatic 56, 3) := by decide +kernel
theorem d_L_state_5 : decode prog_1_method_6_code 5 = .ok (.ifCond .ne 5, 3) := by decide +kernel
theorem d_L_state_8 : decode prog_1_method_6_code 8 = .ok (.iconst (-1), 1) := by decide +kernel
theorem d_L_state_9 : decode prog_1_method_6_code 9 = .ok (.ireturn, 1) := by decide +kernel
theorem d_L_state_10 : decode prog_1_method_6_code 10 = .ok (.aload_n 0, 1) := by decide +kernel
theorem d_L_state_11 : decode prog_1_method_6_code 11 = .ok (.lload_n 3, 1) := by decide +kernel
theorem d_L_state_12 : decode prog_1_method_6_code 12 = .ok (.invokevirtual 60, 3) := by decide +kernel
theorem d_L_state_15 : decode prog_1_method_6_code 15 = .ok (.iload_n 1, 1) := by decide +kernel
theorem d_L_state_16 : decode prog_1_method_6_code 16 = .ok (.tableswitch 68 0 3 #[32, 41, 50, 59], 32) := by decide +kernel
theorem d_L_state_48 : decode prog_1_method_6_code 48 = .ok (.aload_n 0, 1) := by decide +kernel
theorem d_L_state_49 : decode prog_1_method_6_code 49 = .ok (.getfield 19, 3) := by decide +kernel
theorem d_L_state_52 : decode prog_1_method_6_code 52 = .ok (.iload_n 2, 1) := by decide +kernel
theorem d_L_state_53 : decode prog_1_method_6_code 53 = .ok (.invokevirtual 64, 3) := by decide +kernel
theorem d_L_state_56 : decode prog_1_method_6_code 56 = .ok (.ireturn, 1) := by decide +kernel
theorem d_L_state_57 : decode prog_1_method_6_code 57 = .ok (.aload_n 0, 1) := by decide +kernel
theorem d_L_state_58 : decode prog_1_method_6_code 58 = .ok (.getfield 19, 3) := by decide +kernel
theorem d_L_state_61 : decode prog_1_method_6_code 61 = .ok (.iload_n 2, 1) := by decide +kernel
theorem d_L_state_62 : decode prog_1_method_6_code 62 = .ok (.invokevirtual 68, 3) := by decide +kernel
theorem d_L_state_65 : decode prog_1_method_6_code 65 = .ok (.ireturn, 1) := by decide +kernel
theorem d_L_state_66 : decode prog_1_method_6_code 66 = .ok (.aload_n 0, 1) := by decide +kernel
theorem d_L_state_67 : decode prog_1_method_6_code 67 = .ok (.getfield 19, 3) := by decide +kernel
theorem d_L_state_70 : decode prog_1_method_6_code 70 = .ok (.iload_n 2, 1) := by decide +kernel
theorem d_L_state_71 : decode prog_1_method_6_code 71 = .ok (.invokevirtual 71, 3) := by decide +kernel
theorem d_L_state_74 : decode prog_1_method_6_code 74 = .ok (.ireturn, 1) := by decide +kernel
theorem d_L_state_75 : decode prog_1_method_6_code 75 = .ok (.aload_n 0, 1) := by decide +kernel
theorem d_L_state_76 : decode prog_1_method_6_code 76 = .ok (.getfield 19, 3) := by decide +kernel
theorem d_L_state_79 : decode prog_1_method_6_code 79 = .ok (.iload_n 2, 1) := by decide +kernel
theorem d_L_state_80 : decode prog_1_method_6_code 80 = .ok (.invokevirtual 74, 3) := by decide +kernel
theorem d_L_state_83 : decode prog_1_method_6_code 83 = .ok (.ireturn, 1) := by decide +kernel
theorem d_L_state_84 : decode prog_1_method_6_code 84 = .ok (.iconst (-1), 1) := by decide +kernel
theorem d_L_state_85 : decode prog_1_method_6_code 85 = .ok (.ireturn, 1) := by decide +kernel
theorem d_L_performAll_0 : decode prog_1_method_19_code 0 = .ok (.aload_n 0, 1) := by decide +kernel
theorem d_L_performAll_1 : decode prog_1_method_19_code 1 = .ok (.ldc2_w 31, 3) := by decide +kernel
theorem d_L_performAll_4 : decode prog_1_method_19_code 4 = .ok (.invokevirtual 60, 3) := by decide +kernel
theorem d_L_performAll_7 : decode prog_1_method_19_code 7 = .ok (.return_, 1) := by decide +kernel
theorem d_L_heading_0 : decode prog_1_method_7_code 0 = .ok (.iload_n 1, 1) := by decide +kernel
theorem d_L_heading_1 : decode prog_1_method_7_code 1 = .ok (.i2l, 1) := by decide +kernel
theorem d_L_heading_2 : decode prog_1_method_7_code 2 = .ok (.invokestatic 56, 3) := by decide +kernel
theorem d_L_heading_5 : decode prog_1_method_7_code 5 = .ok (.ifCond .eq 7, 3) := by decide +kernel
theorem d_L_heading_8 : decode prog_1_method_7_code 8 = .ok (.iload_n 2, 1) := by decide +kernel
theorem d_L_heading_9 : decode prog_1_method_7_code 9 = .ok (.ifCond .ge 5, 3) := by decide +kernel
theorem d_L_heading_12 : decode prog_1_method_7_code 12 = .ok (.iconst (-1), 1) := by decide +kernel
theorem d_L_heading_13 : decode prog_1_method_7_code 13 = .ok (.ireturn, 1) := by decide +kernel
theorem d_L_heading_14 : decode prog_1_method_7_code 14 = .ok (.aload_n 0, 1) := by decide +kernel
theorem d_L_heading_15 : decode prog_1_method_7_code 15 = .ok (.invokevirtual 77, 3) := by decide +kernel
theorem d_L_heading_18 : decode prog_1_method_7_code 18 = .ok (.aload_n 0, 1) := by decide +kernel
theorem d_L_heading_19 : decode prog_1_method_7_code 19 = .ok (.getfield 19, 3) := by decide +kernel
theorem d_L_heading_22 : decode prog_1_method_7_code 22 = .ok (.iload_n 1, 1) := by decide +kernel
theorem d_L_heading_23 : decode prog_1_method_7_code 23 = .ok (.iload_n 2, 1) := by decide +kernel
theorem d_L_heading_24 : decode prog_1_method_7_code 24 = .ok (.invokevirtual 80, 3) := by decide +kernel
theorem d_L_heading_27 : decode prog_1_method_7_code 27 = .ok (.ireturn, 1) := by decide +kernel
theorem d_L_question_0 : decode prog_1_method_8_code 0 = .ok (.iload_n 1, 1) := by decide +kernel
theorem d_L_question_1 : decode prog_1_method_8_code 1 = .ok (.i2l, 1) := by decide +kernel
theorem d_L_question_2 : decode prog_1_method_8_code 2 = .ok (.lconst 1, 1) := by decide +kernel
theorem d_L_question_3 : decode prog_1_method_8_code 3 = .ok (.ldc2_w 84, 3) := by decide +kernel
theorem d_L_question_6 : decode prog_1_method_8_code 6 = .ok (.invokestatic 33, 3) := by decide +kernel
theorem d_L_question_9 : decode prog_1_method_8_code 9 = .ok (.ifCond .eq 15, 3) := by decide +kernel
theorem d_L_question_12 : decode prog_1_method_8_code 12 = .ok (.iload_n 2, 1) := by decide +kernel
theorem d_L_question_13 : decode prog_1_method_8_code 13 = .ok (.i2l, 1) := by decide +kernel
theorem d_L_question_14 : decode prog_1_method_8_code 14 = .ok (.lconst 0, 1) := by decide +kernel
theorem d_L_question_15 : decode prog_1_method_8_code 15 = .ok (.ldc2_w 84, 3) := by decide +kernel
theorem d_L_question_18 : decode prog_1_method_8_code 18 = .ok (.invokestatic 33, 3) := by decide +kernel
theorem d_L_question_21 : decode prog_1_method_8_code 21 = .ok (.ifCond .ne 5, 3) := by decide +kernel
theorem d_L_question_24 : decode prog_1_method_8_code 24 = .ok (.iconst (-1), 1) := by decide +kernel
theorem d_L_question_25 : decode prog_1_method_8_code 25 = .ok (.ireturn, 1) := by decide +kernel
theorem d_L_question_26 : decode prog_1_method_8_code 26 = .ok (.aload_n 0, 1) := by decide +kernel
theorem d_L_question_27 : decode prog_1_method_8_code 27 = .ok (.invokevirtual 77, 3) := by decide +kernel
theorem d_L_question_30 : decode prog_1_method_8_code 30 = .ok (.aload_n 0, 1) := by decide +kernel
theorem d_L_question_31 : decode prog_1_method_8_code 31 = .ok (.iconst 0, 1) := by decide +kernel
theorem d_L_question_32 : decode prog_1_method_8_code 32 = .ok (.putfield 27, 3) := by decide +kernel
theorem d_L_question_35 : decode prog_1_method_8_code 35 = .ok (.iconst 1, 1) := by decide +kernel
theorem d_L_question_36 : decode prog_1_method_8_code 36 = .ok (.istore_n 3, 1) := by decide +kernel
theorem d_L_question_37 : decode prog_1_method_8_code 37 = .ok (.iload_n 3, 1) := by decide +kernel
theorem d_L_question_38 : decode prog_1_method_8_code 38 = .ok (.bipush 20, 2) := by decide +kernel
theorem d_L_question_40 : decode prog_1_method_8_code 40 = .ok (.if_icmp .gt 53, 3) := by decide +kernel
theorem d_L_question_43 : decode prog_1_method_8_code 43 = .ok (.aload_n 0, 1) := by decide +kernel
theorem d_L_question_44 : decode prog_1_method_8_code 44 = .ok (.getfield 19, 3) := by decide +kernel
theorem d_L_question_47 : decode prog_1_method_8_code 47 = .ok (.iload_n 3, 1) := by decide +kernel
theorem d_L_question_48 : decode prog_1_method_8_code 48 = .ok (.iload_n 1, 1) := by decide +kernel
theorem d_L_question_49 : decode prog_1_method_8_code 49 = .ok (.invokevirtual 86, 3) := by decide +kernel
theorem d_L_question_52 : decode prog_1_method_8_code 52 = .ok (.ifCond .eq 35, 3) := by decide +kernel
theorem d_L_question_55 : decode prog_1_method_8_code 55 = .ok (.aload_n 0, 1) := by decide +kernel
theorem d_L_question_56 : decode prog_1_method_8_code 56 = .ok (.getfield 19, 3) := by decide +kernel
theorem d_L_question_59 : decode prog_1_method_8_code 59 = .ok (.iload_n 3, 1) := by decide +kernel
theorem d_L_question_60 : decode prog_1_method_8_code 60 = .ok (.iload_n 2, 1) := by decide +kernel
theorem d_L_question_61 : decode prog_1_method_8_code 61 = .ok (.invokevirtual 86, 3) := by decide +kernel
theorem d_L_question_64 : decode prog_1_method_8_code 64 = .ok (.ifCond .ne 23, 3) := by decide +kernel
theorem d_L_question_67 : decode prog_1_method_8_code 67 = .ok (.aload_n 0, 1) := by decide +kernel
theorem d_L_question_68 : decode prog_1_method_8_code 68 = .ok (.getfield 23, 3) := by decide +kernel
theorem d_L_question_71 : decode prog_1_method_8_code 71 = .ok (.aload_n 0, 1) := by decide +kernel
theorem d_L_question_72 : decode prog_1_method_8_code 72 = .ok (.getfield 27, 3) := by decide +kernel
theorem d_L_question_75 : decode prog_1_method_8_code 75 = .ok (.iload_n 3, 1) := by decide +kernel
theorem d_L_question_76 : decode prog_1_method_8_code 76 = .ok (.iastore, 1) := by decide +kernel
theorem d_L_question_77 : decode prog_1_method_8_code 77 = .ok (.aload_n 0, 1) := by decide +kernel
theorem d_L_question_78 : decode prog_1_method_8_code 78 = .ok (.dup, 1) := by decide +kernel
theorem d_L_question_79 : decode prog_1_method_8_code 79 = .ok (.getfield 27, 3) := by decide +kernel
theorem d_L_question_82 : decode prog_1_method_8_code 82 = .ok (.iconst 1, 1) := by decide +kernel
theorem d_L_question_83 : decode prog_1_method_8_code 83 = .ok (.iadd, 1) := by decide +kernel
theorem d_L_question_84 : decode prog_1_method_8_code 84 = .ok (.putfield 27, 3) := by decide +kernel
theorem d_L_question_87 : decode prog_1_method_8_code 87 = .ok (.iinc 3 1, 3) := by decide +kernel
theorem d_L_question_90 : decode prog_1_method_8_code 90 = .ok (.goto (-53), 3) := by decide +kernel
theorem d_L_question_93 : decode prog_1_method_8_code 93 = .ok (.aload_n 0, 1) := by decide +kernel
theorem d_L_question_94 : decode prog_1_method_8_code 94 = .ok (.getfield 27, 3) := by decide +kernel
theorem d_L_question_97 : decode prog_1_method_8_code 97 = .ok (.ireturn, 1) := by decide +kernel
theorem d_L_hit_0 : decode prog_1_method_9_code 0 = .ok (.iload_n 1, 1) := by decide +kernel
theorem d_L_hit_1 : decode prog_1_method_9_code 1 = .ok (.ifCond .lt 20, 3) := by decide +kernel
theorem d_L_hit_4 : decode prog_1_method_9_code 4 = .ok (.iload_n 1, 1) := by decide +kernel
theorem d_L_hit_5 : decode prog_1_method_9_code 5 = .ok (.aload_n 0, 1) := by decide +kernel
theorem d_L_hit_6 : decode prog_1_method_9_code 6 = .ok (.getfield 27, 3) := by decide +kernel
theorem d_L_hit_9 : decode prog_1_method_9_code 9 = .ok (.if_icmp .ge 12, 3) := by decide +kernel
theorem d_L_hit_12 : decode prog_1_method_9_code 12 = .ok (.aload_n 0, 1) := by decide +kernel
theorem d_L_hit_13 : decode prog_1_method_9_code 13 = .ok (.getfield 23, 3) := by decide +kernel
theorem d_L_hit_16 : decode prog_1_method_9_code 16 = .ok (.iload_n 1, 1) := by decide +kernel
theorem d_L_hit_17 : decode prog_1_method_9_code 17 = .ok (.iaload, 1) := by decide +kernel
theorem d_L_hit_18 : decode prog_1_method_9_code 18 = .ok (.goto 4, 3) := by decide +kernel
theorem d_L_hit_21 : decode prog_1_method_9_code 21 = .ok (.iconst (-1), 1) := by decide +kernel
theorem d_L_hit_22 : decode prog_1_method_9_code 22 = .ok (.ireturn, 1) := by decide +kernel
theorem d_L_due_0 : decode prog_1_method_10_code 0 = .ok (.iload_n 1, 1) := by decide +kernel
theorem d_L_due_1 : decode prog_1_method_10_code 1 = .ok (.i2l, 1) := by decide +kernel
theorem d_L_due_2 : decode prog_1_method_10_code 2 = .ok (.invokestatic 56, 3) := by decide +kernel
theorem d_L_due_5 : decode prog_1_method_10_code 5 = .ok (.ifCond .ne 7, 3) := by decide +kernel
theorem d_L_due_8 : decode prog_1_method_10_code 8 = .ok (.ldc2_w 90, 3) := by decide +kernel
theorem d_L_due_11 : decode prog_1_method_10_code 11 = .ok (.lreturn, 1) := by decide +kernel
theorem d_L_due_12 : decode prog_1_method_10_code 12 = .ok (.aload_n 0, 1) := by decide +kernel
theorem d_L_due_13 : decode prog_1_method_10_code 13 = .ok (.invokevirtual 77, 3) := by decide +kernel
theorem d_L_due_16 : decode prog_1_method_10_code 16 = .ok (.aload_n 0, 1) := by decide +kernel
theorem d_L_due_17 : decode prog_1_method_10_code 17 = .ok (.getfield 19, 3) := by decide +kernel
theorem d_L_due_20 : decode prog_1_method_10_code 20 = .ok (.iload_n 1, 1) := by decide +kernel
theorem d_L_due_21 : decode prog_1_method_10_code 21 = .ok (.invokevirtual 92, 3) := by decide +kernel
theorem d_L_due_24 : decode prog_1_method_10_code 24 = .ok (.lreturn, 1) := by decide +kernel
theorem d_L_queue_0 : decode prog_1_method_11_code 0 = .ok (.iload_n 1, 1) := by decide +kernel
theorem d_L_queue_1 : decode prog_1_method_11_code 1 = .ok (.i2l, 1) := by decide +kernel
theorem d_L_queue_2 : decode prog_1_method_11_code 2 = .ok (.invokestatic 56, 3) := by decide +kernel
theorem d_L_queue_5 : decode prog_1_method_11_code 5 = .ok (.ifCond .eq 7, 3) := by decide +kernel
theorem d_L_queue_8 : decode prog_1_method_11_code 8 = .ok (.iload_n 2, 1) := by decide +kernel
theorem d_L_queue_9 : decode prog_1_method_11_code 9 = .ok (.ifCond .ge 5, 3) := by decide +kernel
theorem d_L_queue_12 : decode prog_1_method_11_code 12 = .ok (.iconst (-1), 1) := by decide +kernel
theorem d_L_queue_13 : decode prog_1_method_11_code 13 = .ok (.ireturn, 1) := by decide +kernel
theorem d_L_queue_14 : decode prog_1_method_11_code 14 = .ok (.aload_n 0, 1) := by decide +kernel
theorem d_L_queue_15 : decode prog_1_method_11_code 15 = .ok (.invokevirtual 77, 3) := by decide +kernel
theorem d_L_queue_18 : decode prog_1_method_11_code 18 = .ok (.aload_n 0, 1) := by decide +kernel
theorem d_L_queue_19 : decode prog_1_method_11_code 19 = .ok (.getfield 19, 3) := by decide +kernel
theorem d_L_queue_22 : decode prog_1_method_11_code 22 = .ok (.iload_n 1, 1) := by decide +kernel
theorem d_L_queue_23 : decode prog_1_method_11_code 23 = .ok (.iload_n 2, 1) := by decide +kernel
theorem d_L_queue_24 : decode prog_1_method_11_code 24 = .ok (.invokevirtual 96, 3) := by decide +kernel
theorem d_L_queue_27 : decode prog_1_method_11_code 27 = .ok (.ireturn, 1) := by decide +kernel
theorem d_L_poll_0 : decode prog_1_method_12_code 0 = .ok (.iload_n 1, 1) := by decide +kernel
theorem d_L_poll_1 : decode prog_1_method_12_code 1 = .ok (.i2l, 1) := by decide +kernel
theorem d_L_poll_2 : decode prog_1_method_12_code 2 = .ok (.invokestatic 56, 3) := by decide +kernel
theorem d_L_poll_5 : decode prog_1_method_12_code 5 = .ok (.ifCond .ne 5, 3) := by decide +kernel
theorem d_L_poll_8 : decode prog_1_method_12_code 8 = .ok (.iconst (-1), 1) := by decide +kernel
theorem d_L_poll_9 : decode prog_1_method_12_code 9 = .ok (.ireturn, 1) := by decide +kernel
theorem d_L_poll_10 : decode prog_1_method_12_code 10 = .ok (.aload_n 0, 1) := by decide +kernel
theorem d_L_poll_11 : decode prog_1_method_12_code 11 = .ok (.invokevirtual 77, 3) := by decide +kernel
theorem d_L_poll_14 : decode prog_1_method_12_code 14 = .ok (.aload_n 0, 1) := by decide +kernel
theorem d_L_poll_15 : decode prog_1_method_12_code 15 = .ok (.getfield 19, 3) := by decide +kernel
theorem d_L_poll_18 : decode prog_1_method_12_code 18 = .ok (.iload_n 1, 1) := by decide +kernel
theorem d_L_poll_19 : decode prog_1_method_12_code 19 = .ok (.invokevirtual 99, 3) := by decide +kernel
theorem d_L_poll_22 : decode prog_1_method_12_code 22 = .ok (.ireturn, 1) := by decide +kernel
theorem d_L_kept_0 : decode prog_1_method_13_code 0 = .ok (.iload_n 1, 1) := by decide +kernel
theorem d_L_kept_1 : decode prog_1_method_13_code 1 = .ok (.i2l, 1) := by decide +kernel
theorem d_L_kept_2 : decode prog_1_method_13_code 2 = .ok (.invokestatic 56, 3) := by decide +kernel
theorem d_L_kept_5 : decode prog_1_method_13_code 5 = .ok (.ifCond .eq 7, 3) := by decide +kernel
theorem d_L_kept_8 : decode prog_1_method_13_code 8 = .ok (.iload_n 2, 1) := by decide +kernel
theorem d_L_kept_9 : decode prog_1_method_13_code 9 = .ok (.ifCond .ge 5, 3) := by decide +kernel
theorem d_L_kept_12 : decode prog_1_method_13_code 12 = .ok (.iconst (-1), 1) := by decide +kernel
theorem d_L_kept_13 : decode prog_1_method_13_code 13 = .ok (.ireturn, 1) := by decide +kernel
theorem d_L_kept_14 : decode prog_1_method_13_code 14 = .ok (.iconst 0, 1) := by decide +kernel
theorem d_L_kept_15 : decode prog_1_method_13_code 15 = .ok (.istore 6, 2) := by decide +kernel
theorem d_L_kept_17 : decode prog_1_method_13_code 17 = .ok (.aload_n 0, 1) := by decide +kernel
theorem d_L_kept_18 : decode prog_1_method_13_code 18 = .ok (.getfield 19, 3) := by decide +kernel
theorem d_L_kept_21 : decode prog_1_method_13_code 21 = .ok (.invokevirtual 49, 3) := by decide +kernel
theorem d_L_kept_24 : decode prog_1_method_13_code 24 = .ok (.iconst 0, 1) := by decide +kernel
theorem d_L_kept_25 : decode prog_1_method_13_code 25 = .ok (.istore 7, 2) := by decide +kernel
theorem d_L_kept_27 : decode prog_1_method_13_code 27 = .ok (.iload 7, 2) := by decide +kernel
theorem d_L_kept_29 : decode prog_1_method_13_code 29 = .ok (.aload_n 0, 1) := by decide +kernel
theorem d_L_kept_30 : decode prog_1_method_13_code 30 = .ok (.getfield 10, 3) := by decide +kernel
theorem d_L_kept_33 : decode prog_1_method_13_code 33 = .ok (.invokevirtual 45, 3) := by decide +kernel
theorem d_L_kept_36 : decode prog_1_method_13_code 36 = .ok (.if_icmp .ge 101, 3) := by decide +kernel
theorem d_L_kept_39 : decode prog_1_method_13_code 39 = .ok (.aload_n 0, 1) := by decide +kernel
theorem d_L_kept_40 : decode prog_1_method_13_code 40 = .ok (.getfield 10, 3) := by decide +kernel
theorem d_L_kept_43 : decode prog_1_method_13_code 43 = .ok (.iload 7, 2) := by decide +kernel
theorem d_L_kept_45 : decode prog_1_method_13_code 45 = .ok (.invokevirtual 102, 3) := by decide +kernel
theorem d_L_kept_48 : decode prog_1_method_13_code 48 = .ok (.istore 8, 2) := by decide +kernel
theorem d_L_kept_50 : decode prog_1_method_13_code 50 = .ok (.iload 8, 2) := by decide +kernel
theorem d_L_kept_52 : decode prog_1_method_13_code 52 = .ok (.iconst (-1), 1) := by decide +kernel
theorem d_L_kept_53 : decode prog_1_method_13_code 53 = .ok (.if_icmp .eq 20, 3) := by decide +kernel
theorem d_L_kept_56 : decode prog_1_method_13_code 56 = .ok (.aload_n 0, 1) := by decide +kernel
theorem d_L_kept_57 : decode prog_1_method_13_code 57 = .ok (.getfield 19, 3) := by decide +kernel
theorem d_L_kept_60 : decode prog_1_method_13_code 60 = .ok (.iload 8, 2) := by decide +kernel
theorem d_L_kept_62 : decode prog_1_method_13_code 62 = .ok (.invokevirtual 68, 3) := by decide +kernel
theorem d_L_kept_65 : decode prog_1_method_13_code 65 = .ok (.iload_n 1, 1) := by decide +kernel
theorem d_L_kept_66 : decode prog_1_method_13_code 66 = .ok (.if_icmp .ne 7, 3) := by decide +kernel
theorem d_L_kept_69 : decode prog_1_method_13_code 69 = .ok (.iconst 1, 1) := by decide +kernel
theorem d_L_kept_70 : decode prog_1_method_13_code 70 = .ok (.goto 4, 3) := by decide +kernel
theorem d_L_kept_73 : decode prog_1_method_13_code 73 = .ok (.iconst 0, 1) := by decide +kernel
theorem d_L_kept_74 : decode prog_1_method_13_code 74 = .ok (.istore 9, 2) := by decide +kernel
theorem d_L_kept_76 : decode prog_1_method_13_code 76 = .ok (.aload_n 0, 1) := by decide +kernel
theorem d_L_kept_77 : decode prog_1_method_13_code 77 = .ok (.getfield 10, 3) := by decide +kernel
theorem d_L_kept_80 : decode prog_1_method_13_code 80 = .ok (.iload 7, 2) := by decide +kernel
theorem d_L_kept_82 : decode prog_1_method_13_code 82 = .ok (.aload_n 0, 1) := by decide +kernel
theorem d_L_kept_83 : decode prog_1_method_13_code 83 = .ok (.getfield 19, 3) := by decide +kernel
theorem d_L_kept_86 : decode prog_1_method_13_code 86 = .ok (.invokevirtual 52, 3) := by decide +kernel
theorem d_L_kept_89 : decode prog_1_method_13_code 89 = .ok (.istore 10, 2) := by decide +kernel
theorem d_L_kept_91 : decode prog_1_method_13_code 91 = .ok (.iload 9, 2) := by decide +kernel
theorem d_L_kept_93 : decode prog_1_method_13_code 93 = .ok (.ifCond .eq 38, 3) := by decide +kernel
theorem d_L_kept_96 : decode prog_1_method_13_code 96 = .ok (.iload 10, 2) := by decide +kernel
theorem d_L_kept_98 : decode prog_1_method_13_code 98 = .ok (.ifCond .eq 33, 3) := by decide +kernel
theorem d_L_kept_101 : decode prog_1_method_13_code 101 = .ok (.aload_n 0, 1) := by decide +kernel
theorem d_L_kept_102 : decode prog_1_method_13_code 102 = .ok (.getfield 10, 3) := by decide +kernel
theorem d_L_kept_105 : decode prog_1_method_13_code 105 = .ok (.iload 7, 2) := by decide +kernel
theorem d_L_kept_107 : decode prog_1_method_13_code 107 = .ok (.invokevirtual 105, 3) := by decide +kernel
theorem d_L_kept_110 : decode prog_1_method_13_code 110 = .ok (.iload 5, 2) := by decide +kernel
theorem d_L_kept_112 : decode prog_1_method_13_code 112 = .ok (.i2l, 1) := by decide +kernel
theorem d_L_kept_113 : decode prog_1_method_13_code 113 = .ok (.ladd, 1) := by decide +kernel
theorem d_L_kept_114 : decode prog_1_method_13_code 114 = .ok (.lload_n 3, 1) := by decide +kernel
theorem d_L_kept_115 : decode prog_1_method_13_code 115 = .ok (.lcmp, 1) := by decide +kernel
theorem d_L_kept_116 : decode prog_1_method_13_code 116 = .ok (.ifCond .lt 15, 3) := by decide +kernel
theorem d_L_kept_119 : decode prog_1_method_13_code 119 = .ok (.iload 6, 2) := by decide +kernel
theorem d_L_kept_121 : decode prog_1_method_13_code 121 = .ok (.iload_n 2, 1) := by decide +kernel
theorem d_L_kept_122 : decode prog_1_method_13_code 122 = .ok (.if_icmp .ne 6, 3) := by decide +kernel
theorem d_L_kept_125 : decode prog_1_method_13_code 125 = .ok (.iload 8, 2) := by decide +kernel
theorem d_L_kept_127 : decode prog_1_method_13_code 127 = .ok (.ireturn, 1) := by decide +kernel
theorem d_L_kept_128 : decode prog_1_method_13_code 128 = .ok (.iinc 6 1, 3) := by decide +kernel
theorem d_L_kept_131 : decode prog_1_method_13_code 131 = .ok (.iinc 7 1, 3) := by decide +kernel
theorem d_L_kept_134 : decode prog_1_method_13_code 134 = .ok (.goto (-107), 3) := by decide +kernel
theorem d_L_kept_137 : decode prog_1_method_13_code 137 = .ok (.iconst (-1), 1) := by decide +kernel
theorem d_L_kept_138 : decode prog_1_method_13_code 138 = .ok (.ireturn, 1) := by decide +kernel
theorem d_L_most_0 : decode prog_1_method_14_code 0 = .ok (.iload_n 1, 1) := by decide +kernel
theorem d_L_most_1 : decode prog_1_method_14_code 1 = .ok (.i2l, 1) := by decide +kernel
theorem d_L_most_2 : decode prog_1_method_14_code 2 = .ok (.invokestatic 56, 3) := by decide +kernel
theorem d_L_most_5 : decode prog_1_method_14_code 5 = .ok (.ifCond .ne 5, 3) := by decide +kernel
theorem d_L_most_8 : decode prog_1_method_14_code 8 = .ok (.iconst (-1), 1) := by decide +kernel
theorem d_L_most_9 : decode prog_1_method_14_code 9 = .ok (.ireturn, 1) := by decide +kernel
theorem d_L_most_10 : decode prog_1_method_14_code 10 = .ok (.aload_n 0, 1) := by decide +kernel
theorem d_L_most_11 : decode prog_1_method_14_code 11 = .ok (.getfield 10, 3) := by decide +kernel
theorem d_L_most_14 : decode prog_1_method_14_code 14 = .ok (.invokevirtual 45, 3) := by decide +kernel
theorem d_L_most_17 : decode prog_1_method_14_code 17 = .ok (.bipush 100, 2) := by decide +kernel
theorem d_L_most_19 : decode prog_1_method_14_code 19 = .ok (.if_icmp .le 6, 3) := by decide +kernel
theorem d_L_most_22 : decode prog_1_method_14_code 22 = .ok (.bipush (-9), 2) := by decide +kernel
theorem d_L_most_24 : decode prog_1_method_14_code 24 = .ok (.ireturn, 1) := by decide +kernel
theorem d_L_most_25 : decode prog_1_method_14_code 25 = .ok (.iconst 0, 1) := by decide +kernel
theorem d_L_most_26 : decode prog_1_method_14_code 26 = .ok (.istore_n 2, 1) := by decide +kernel
theorem d_L_most_27 : decode prog_1_method_14_code 27 = .ok (.aload_n 0, 1) := by decide +kernel
theorem d_L_most_28 : decode prog_1_method_14_code 28 = .ok (.getfield 19, 3) := by decide +kernel
theorem d_L_most_31 : decode prog_1_method_14_code 31 = .ok (.invokevirtual 49, 3) := by decide +kernel
theorem d_L_most_34 : decode prog_1_method_14_code 34 = .ok (.iconst 0, 1) := by decide +kernel
theorem d_L_most_35 : decode prog_1_method_14_code 35 = .ok (.istore_n 3, 1) := by decide +kernel
theorem d_L_most_36 : decode prog_1_method_14_code 36 = .ok (.iload_n 3, 1) := by decide +kernel
theorem d_L_most_37 : decode prog_1_method_14_code 37 = .ok (.aload_n 0, 1) := by decide +kernel
theorem d_L_most_38 : decode prog_1_method_14_code 38 = .ok (.getfield 10, 3) := by decide +kernel
theorem d_L_most_41 : decode prog_1_method_14_code 41 = .ok (.invokevirtual 45, 3) := by decide +kernel
theorem d_L_most_44 : decode prog_1_method_14_code 44 = .ok (.if_icmp .ge 35, 3) := by decide +kernel
theorem d_L_most_47 : decode prog_1_method_14_code 47 = .ok (.aload_n 0, 1) := by decide +kernel
theorem d_L_most_48 : decode prog_1_method_14_code 48 = .ok (.getfield 10, 3) := by decide +kernel
theorem d_L_most_51 : decode prog_1_method_14_code 51 = .ok (.iload_n 3, 1) := by decide +kernel
theorem d_L_most_52 : decode prog_1_method_14_code 52 = .ok (.aload_n 0, 1) := by decide +kernel
theorem d_L_most_53 : decode prog_1_method_14_code 53 = .ok (.getfield 19, 3) := by decide +kernel
theorem d_L_most_56 : decode prog_1_method_14_code 56 = .ok (.invokevirtual 52, 3) := by decide +kernel
theorem d_L_most_59 : decode prog_1_method_14_code 59 = .ok (.pop, 1) := by decide +kernel
theorem d_L_most_60 : decode prog_1_method_14_code 60 = .ok (.iload_n 2, 1) := by decide +kernel
theorem d_L_most_61 : decode prog_1_method_14_code 61 = .ok (.aload_n 0, 1) := by decide +kernel
theorem d_L_most_62 : decode prog_1_method_14_code 62 = .ok (.getfield 19, 3) := by decide +kernel
theorem d_L_most_65 : decode prog_1_method_14_code 65 = .ok (.iload_n 1, 1) := by decide +kernel
theorem d_L_most_66 : decode prog_1_method_14_code 66 = .ok (.invokevirtual 108, 3) := by decide +kernel
theorem d_L_most_69 : decode prog_1_method_14_code 69 = .ok (.invokestatic 111, 3) := by decide +kernel
theorem d_L_most_72 : decode prog_1_method_14_code 72 = .ok (.istore_n 2, 1) := by decide +kernel
theorem d_L_most_73 : decode prog_1_method_14_code 73 = .ok (.iinc 3 1, 3) := by decide +kernel
theorem d_L_most_76 : decode prog_1_method_14_code 76 = .ok (.goto (-40), 3) := by decide +kernel
theorem d_L_most_79 : decode prog_1_method_14_code 79 = .ok (.iload_n 2, 1) := by decide +kernel
theorem d_L_most_80 : decode prog_1_method_14_code 80 = .ok (.ireturn, 1) := by decide +kernel
theorem d_L_firstVoidWithout_0 : decode prog_1_method_21_code 0 = .ok (.aload_n 0, 1) := by decide +kernel
theorem d_L_firstVoidWithout_1 : decode prog_1_method_21_code 1 = .ok (.getfield 19, 3) := by decide +kernel
theorem d_L_firstVoidWithout_4 : decode prog_1_method_21_code 4 = .ok (.invokevirtual 49, 3) := by decide +kernel
theorem d_L_firstVoidWithout_7 : decode prog_1_method_21_code 7 = .ok (.iconst 0, 1) := by decide +kernel
theorem d_L_firstVoidWithout_8 : decode prog_1_method_21_code 8 = .ok (.istore_n 3, 1) := by decide +kernel
theorem d_L_firstVoidWithout_9 : decode prog_1_method_21_code 9 = .ok (.iload_n 3, 1) := by decide +kernel
theorem d_L_firstVoidWithout_10 : decode prog_1_method_21_code 10 = .ok (.aload_n 0, 1) := by decide +kernel
theorem d_L_firstVoidWithout_11 : decode prog_1_method_21_code 11 = .ok (.getfield 10, 3) := by decide +kernel
theorem d_L_firstVoidWithout_14 : decode prog_1_method_21_code 14 = .ok (.invokevirtual 45, 3) := by decide +kernel
theorem d_L_firstVoidWithout_17 : decode prog_1_method_21_code 17 = .ok (.if_icmp .ge 36, 3) := by decide +kernel
theorem d_L_firstVoidWithout_20 : decode prog_1_method_21_code 20 = .ok (.iload_n 3, 1) := by decide +kernel
theorem d_L_firstVoidWithout_21 : decode prog_1_method_21_code 21 = .ok (.iload_n 1, 1) := by decide +kernel
theorem d_L_firstVoidWithout_22 : decode prog_1_method_21_code 22 = .ok (.if_icmp .eq 25, 3) := by decide +kernel
theorem d_L_firstVoidWithout_25 : decode prog_1_method_21_code 25 = .ok (.iload_n 3, 1) := by decide +kernel
theorem d_L_firstVoidWithout_26 : decode prog_1_method_21_code 26 = .ok (.iload_n 2, 1) := by decide +kernel
theorem d_L_firstVoidWithout_27 : decode prog_1_method_21_code 27 = .ok (.if_icmp .eq 20, 3) := by decide +kernel
theorem d_L_firstVoidWithout_30 : decode prog_1_method_21_code 30 = .ok (.aload_n 0, 1) := by decide +kernel
theorem d_L_firstVoidWithout_31 : decode prog_1_method_21_code 31 = .ok (.getfield 10, 3) := by decide +kernel
theorem d_L_firstVoidWithout_34 : decode prog_1_method_21_code 34 = .ok (.iload_n 3, 1) := by decide +kernel
theorem d_L_firstVoidWithout_35 : decode prog_1_method_21_code 35 = .ok (.aload_n 0, 1) := by decide +kernel
theorem d_L_firstVoidWithout_36 : decode prog_1_method_21_code 36 = .ok (.getfield 19, 3) := by decide +kernel
theorem d_L_firstVoidWithout_39 : decode prog_1_method_21_code 39 = .ok (.invokevirtual 52, 3) := by decide +kernel
theorem d_L_firstVoidWithout_42 : decode prog_1_method_21_code 42 = .ok (.ifCond .ne 5, 3) := by decide +kernel
theorem d_L_firstVoidWithout_45 : decode prog_1_method_21_code 45 = .ok (.iload_n 3, 1) := by decide +kernel
theorem d_L_firstVoidWithout_46 : decode prog_1_method_21_code 46 = .ok (.ireturn, 1) := by decide +kernel
theorem d_L_firstVoidWithout_47 : decode prog_1_method_21_code 47 = .ok (.iinc 3 1, 3) := by decide +kernel
theorem d_L_firstVoidWithout_50 : decode prog_1_method_21_code 50 = .ok (.goto (-41), 3) := by decide +kernel
theorem d_L_firstVoidWithout_53 : decode prog_1_method_21_code 53 = .ok (.iconst (-1), 1) := by decide +kernel
theorem d_L_firstVoidWithout_54 : decode prog_1_method_21_code 54 = .ok (.ireturn, 1) := by decide +kernel
theorem d_L_oneLessIsEnough_0 : decode prog_1_method_22_code 0 = .ok (.iconst 0, 1) := by decide +kernel
theorem d_L_oneLessIsEnough_1 : decode prog_1_method_22_code 1 = .ok (.istore_n 2, 1) := by decide +kernel
theorem d_L_oneLessIsEnough_2 : decode prog_1_method_22_code 2 = .ok (.iload_n 2, 1) := by decide +kernel
theorem d_L_oneLessIsEnough_3 : decode prog_1_method_22_code 3 = .ok (.iload_n 1, 1) := by decide +kernel
theorem d_L_oneLessIsEnough_4 : decode prog_1_method_22_code 4 = .ok (.if_icmp .gt 21, 3) := by decide +kernel
theorem d_L_oneLessIsEnough_7 : decode prog_1_method_22_code 7 = .ok (.aload_n 0, 1) := by decide +kernel
theorem d_L_oneLessIsEnough_8 : decode prog_1_method_22_code 8 = .ok (.iload_n 2, 1) := by decide +kernel
theorem d_L_oneLessIsEnough_9 : decode prog_1_method_22_code 9 = .ok (.iconst (-1), 1) := by decide +kernel
theorem d_L_oneLessIsEnough_10 : decode prog_1_method_22_code 10 = .ok (.invokevirtual 116, 3) := by decide +kernel
theorem d_L_oneLessIsEnough_13 : decode prog_1_method_22_code 13 = .ok (.iconst (-1), 1) := by decide +kernel
theorem d_L_oneLessIsEnough_14 : decode prog_1_method_22_code 14 = .ok (.if_icmp .ne 5, 3) := by decide +kernel
theorem d_L_oneLessIsEnough_17 : decode prog_1_method_22_code 17 = .ok (.iconst 1, 1) := by decide +kernel
theorem d_L_oneLessIsEnough_18 : decode prog_1_method_22_code 18 = .ok (.ireturn, 1) := by decide +kernel
theorem d_L_oneLessIsEnough_19 : decode prog_1_method_22_code 19 = .ok (.iinc 2 1, 3) := by decide +kernel
theorem d_L_oneLessIsEnough_22 : decode prog_1_method_22_code 22 = .ok (.goto (-20), 3) := by decide +kernel
theorem d_L_oneLessIsEnough_25 : decode prog_1_method_22_code 25 = .ok (.iconst 0, 1) := by decide +kernel
theorem d_L_oneLessIsEnough_26 : decode prog_1_method_22_code 26 = .ok (.ireturn, 1) := by decide +kernel
theorem d_L_twoLessAreEnough_0 : decode prog_1_method_23_code 0 = .ok (.iconst 0, 1) := by decide +kernel
theorem d_L_twoLessAreEnough_1 : decode prog_1_method_23_code 1 = .ok (.istore_n 2, 1) := by decide +kernel
theorem d_L_twoLessAreEnough_2 : decode prog_1_method_23_code 2 = .ok (.iload_n 2, 1) := by decide +kernel
theorem d_L_twoLessAreEnough_3 : decode prog_1_method_23_code 3 = .ok (.iload_n 1, 1) := by decide +kernel
theorem d_L_twoLessAreEnough_4 : decode prog_1_method_23_code 4 = .ok (.if_icmp .gt 46, 3) := by decide +kernel
theorem d_L_twoLessAreEnough_7 : decode prog_1_method_23_code 7 = .ok (.aload_n 0, 1) := by decide +kernel
theorem d_L_twoLessAreEnough_8 : decode prog_1_method_23_code 8 = .ok (.iload_n 2, 1) := by decide +kernel
theorem d_L_twoLessAreEnough_9 : decode prog_1_method_23_code 9 = .ok (.iconst (-1), 1) := by decide +kernel
theorem d_L_twoLessAreEnough_10 : decode prog_1_method_23_code 10 = .ok (.invokevirtual 116, 3) := by decide +kernel
theorem d_L_twoLessAreEnough_13 : decode prog_1_method_23_code 13 = .ok (.istore_n 3, 1) := by decide +kernel
theorem d_L_twoLessAreEnough_14 : decode prog_1_method_23_code 14 = .ok (.iload_n 2, 1) := by decide +kernel
theorem d_L_twoLessAreEnough_15 : decode prog_1_method_23_code 15 = .ok (.iconst 1, 1) := by decide +kernel
theorem d_L_twoLessAreEnough_16 : decode prog_1_method_23_code 16 = .ok (.iadd, 1) := by decide +kernel
theorem d_L_twoLessAreEnough_17 : decode prog_1_method_23_code 17 = .ok (.istore 4, 2) := by decide +kernel
theorem d_L_twoLessAreEnough_19 : decode prog_1_method_23_code 19 = .ok (.iload 4, 2) := by decide +kernel
theorem d_L_twoLessAreEnough_21 : decode prog_1_method_23_code 21 = .ok (.iload_n 3, 1) := by decide +kernel
theorem d_L_twoLessAreEnough_22 : decode prog_1_method_23_code 22 = .ok (.if_icmp .gt 22, 3) := by decide +kernel
theorem d_L_twoLessAreEnough_25 : decode prog_1_method_23_code 25 = .ok (.aload_n 0, 1) := by decide +kernel
theorem d_L_twoLessAreEnough_26 : decode prog_1_method_23_code 26 = .ok (.iload_n 2, 1) := by decide +kernel
theorem d_L_twoLessAreEnough_27 : decode prog_1_method_23_code 27 = .ok (.iload 4, 2) := by decide +kernel
theorem d_L_twoLessAreEnough_29 : decode prog_1_method_23_code 29 = .ok (.invokevirtual 116, 3) := by decide +kernel
theorem d_L_twoLessAreEnough_32 : decode prog_1_method_23_code 32 = .ok (.iconst (-1), 1) := by decide +kernel
theorem d_L_twoLessAreEnough_33 : decode prog_1_method_23_code 33 = .ok (.if_icmp .ne 5, 3) := by decide +kernel
theorem d_L_twoLessAreEnough_36 : decode prog_1_method_23_code 36 = .ok (.iconst 1, 1) := by decide +kernel
theorem d_L_twoLessAreEnough_37 : decode prog_1_method_23_code 37 = .ok (.ireturn, 1) := by decide +kernel
theorem d_L_twoLessAreEnough_38 : decode prog_1_method_23_code 38 = .ok (.iinc 4 1, 3) := by decide +kernel
theorem d_L_twoLessAreEnough_41 : decode prog_1_method_23_code 41 = .ok (.goto (-22), 3) := by decide +kernel
theorem d_L_twoLessAreEnough_44 : decode prog_1_method_23_code 44 = .ok (.iinc 2 1, 3) := by decide +kernel
theorem d_L_twoLessAreEnough_47 : decode prog_1_method_23_code 47 = .ok (.goto (-45), 3) := by decide +kernel
theorem d_L_twoLessAreEnough_50 : decode prog_1_method_23_code 50 = .ok (.iconst 0, 1) := by decide +kernel
theorem d_L_twoLessAreEnough_51 : decode prog_1_method_23_code 51 = .ok (.ireturn, 1) := by decide +kernel
theorem d_L_least_0 : decode prog_1_method_15_code 0 = .ok (.aload_n 0, 1) := by decide +kernel
theorem d_L_least_1 : decode prog_1_method_15_code 1 = .ok (.getfield 10, 3) := by decide +kernel
theorem d_L_least_4 : decode prog_1_method_15_code 4 = .ok (.invokevirtual 45, 3) := by decide +kernel
theorem d_L_least_7 : decode prog_1_method_15_code 7 = .ok (.bipush 30, 2) := by decide +kernel
theorem d_L_least_9 : decode prog_1_method_15_code 9 = .ok (.if_icmp .le 6, 3) := by decide +kernel
theorem d_L_least_12 : decode prog_1_method_15_code 12 = .ok (.bipush (-9), 2) := by decide +kernel
theorem d_L_least_14 : decode prog_1_method_15_code 14 = .ok (.ireturn, 1) := by decide +kernel
theorem d_L_least_15 : decode prog_1_method_15_code 15 = .ok (.aload_n 0, 1) := by decide +kernel
theorem d_L_least_16 : decode prog_1_method_15_code 16 = .ok (.iconst (-1), 1) := by decide +kernel
theorem d_L_least_17 : decode prog_1_method_15_code 17 = .ok (.iconst (-1), 1) := by decide +kernel
theorem d_L_least_18 : decode prog_1_method_15_code 18 = .ok (.invokevirtual 116, 3) := by decide +kernel
theorem d_L_least_21 : decode prog_1_method_15_code 21 = .ok (.istore_n 1, 1) := by decide +kernel
theorem d_L_least_22 : decode prog_1_method_15_code 22 = .ok (.iload_n 1, 1) := by decide +kernel
theorem d_L_least_23 : decode prog_1_method_15_code 23 = .ok (.iconst (-1), 1) := by decide +kernel
theorem d_L_least_24 : decode prog_1_method_15_code 24 = .ok (.if_icmp .ne 5, 3) := by decide +kernel
theorem d_L_least_27 : decode prog_1_method_15_code 27 = .ok (.iconst 0, 1) := by decide +kernel
theorem d_L_least_28 : decode prog_1_method_15_code 28 = .ok (.ireturn, 1) := by decide +kernel
theorem d_L_least_29 : decode prog_1_method_15_code 29 = .ok (.aload_n 0, 1) := by decide +kernel
theorem d_L_least_30 : decode prog_1_method_15_code 30 = .ok (.iload_n 1, 1) := by decide +kernel
theorem d_L_least_31 : decode prog_1_method_15_code 31 = .ok (.invokevirtual 119, 3) := by decide +kernel
theorem d_L_least_34 : decode prog_1_method_15_code 34 = .ok (.ifCond .eq 5, 3) := by decide +kernel
theorem d_L_least_37 : decode prog_1_method_15_code 37 = .ok (.iconst 1, 1) := by decide +kernel
theorem d_L_least_38 : decode prog_1_method_15_code 38 = .ok (.ireturn, 1) := by decide +kernel
theorem d_L_least_39 : decode prog_1_method_15_code 39 = .ok (.aload_n 0, 1) := by decide +kernel
theorem d_L_least_40 : decode prog_1_method_15_code 40 = .ok (.iload_n 1, 1) := by decide +kernel
theorem d_L_least_41 : decode prog_1_method_15_code 41 = .ok (.invokevirtual 123, 3) := by decide +kernel
theorem d_L_least_44 : decode prog_1_method_15_code 44 = .ok (.ifCond .eq 7, 3) := by decide +kernel
theorem d_L_least_47 : decode prog_1_method_15_code 47 = .ok (.iconst 2, 1) := by decide +kernel
theorem d_L_least_48 : decode prog_1_method_15_code 48 = .ok (.goto 4, 3) := by decide +kernel
theorem d_L_least_51 : decode prog_1_method_15_code 51 = .ok (.iconst 3, 1) := by decide +kernel
theorem d_L_least_52 : decode prog_1_method_15_code 52 = .ok (.ireturn, 1) := by decide +kernel
