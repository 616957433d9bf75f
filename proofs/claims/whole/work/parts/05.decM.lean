theorem d_M_init_0 : decode prog_5_method_1_code 0 = .ok (.aload_n 0, 1) := by decide +kernel
theorem d_M_init_1 : decode prog_5_method_1_code 1 = .ok (.invokespecial 1, 3) := by decide +kernel
theorem d_M_init_4 : decode prog_5_method_1_code 4 = .ok (.aload_n 0, 1) := by decide +kernel
theorem d_M_init_5 : decode prog_5_method_1_code 5 = .ok (.sipush 200, 3) := by decide +kernel
theorem d_M_init_8 : decode prog_5_method_1_code 8 = .ok (.newarray .int, 2) := by decide +kernel
theorem d_M_init_10 : decode prog_5_method_1_code 10 = .ok (.putfield 7, 3) := by decide +kernel
theorem d_M_init_13 : decode prog_5_method_1_code 13 = .ok (.aload_n 0, 1) := by decide +kernel
theorem d_M_init_14 : decode prog_5_method_1_code 14 = .ok (.sipush 200, 3) := by decide +kernel
theorem d_M_init_17 : decode prog_5_method_1_code 17 = .ok (.newarray .int, 2) := by decide +kernel
theorem d_M_init_19 : decode prog_5_method_1_code 19 = .ok (.putfield 13, 3) := by decide +kernel
theorem d_M_init_22 : decode prog_5_method_1_code 22 = .ok (.aload_n 0, 1) := by decide +kernel
theorem d_M_init_23 : decode prog_5_method_1_code 23 = .ok (.sipush 200, 3) := by decide +kernel
theorem d_M_init_26 : decode prog_5_method_1_code 26 = .ok (.newarray .long, 2) := by decide +kernel
theorem d_M_init_28 : decode prog_5_method_1_code 28 = .ok (.putfield 16, 3) := by decide +kernel
theorem d_M_init_31 : decode prog_5_method_1_code 31 = .ok (.aload_n 0, 1) := by decide +kernel
theorem d_M_init_32 : decode prog_5_method_1_code 32 = .ok (.sipush 200, 3) := by decide +kernel
theorem d_M_init_35 : decode prog_5_method_1_code 35 = .ok (.newarray .long, 2) := by decide +kernel
theorem d_M_init_37 : decode prog_5_method_1_code 37 = .ok (.putfield 20, 3) := by decide +kernel
theorem d_M_init_40 : decode prog_5_method_1_code 40 = .ok (.aload_n 0, 1) := by decide +kernel
theorem d_M_init_41 : decode prog_5_method_1_code 41 = .ok (.sipush 2100, 3) := by decide +kernel
theorem d_M_init_44 : decode prog_5_method_1_code 44 = .ok (.newarray .boolean, 2) := by decide +kernel
theorem d_M_init_46 : decode prog_5_method_1_code 46 = .ok (.putfield 23, 3) := by decide +kernel
theorem d_M_init_49 : decode prog_5_method_1_code 49 = .ok (.aload_n 0, 1) := by decide +kernel
theorem d_M_init_50 : decode prog_5_method_1_code 50 = .ok (.bipush 21, 2) := by decide +kernel
theorem d_M_init_52 : decode prog_5_method_1_code 52 = .ok (.newarray .int, 2) := by decide +kernel
theorem d_M_init_54 : decode prog_5_method_1_code 54 = .ok (.putfield 27, 3) := by decide +kernel
theorem d_M_init_57 : decode prog_5_method_1_code 57 = .ok (.aload_n 0, 1) := by decide +kernel
theorem d_M_init_58 : decode prog_5_method_1_code 58 = .ok (.bipush 21, 2) := by decide +kernel
theorem d_M_init_60 : decode prog_5_method_1_code 60 = .ok (.newarray .int, 2) := by decide +kernel
theorem d_M_init_62 : decode prog_5_method_1_code 62 = .ok (.putfield 30, 3) := by decide +kernel
theorem d_M_init_65 : decode prog_5_method_1_code 65 = .ok (.aload_n 0, 1) := by decide +kernel
theorem d_M_init_66 : decode prog_5_method_1_code 66 = .ok (.bipush 21, 2) := by decide +kernel
theorem d_M_init_68 : decode prog_5_method_1_code 68 = .ok (.newarray .long, 2) := by decide +kernel
theorem d_M_init_70 : decode prog_5_method_1_code 70 = .ok (.putfield 33, 3) := by decide +kernel
theorem d_M_init_73 : decode prog_5_method_1_code 73 = .ok (.aload_n 0, 1) := by decide +kernel
theorem d_M_init_74 : decode prog_5_method_1_code 74 = .ok (.sipush 420, 3) := by decide +kernel
theorem d_M_init_77 : decode prog_5_method_1_code 77 = .ok (.newarray .int, 2) := by decide +kernel
theorem d_M_init_79 : decode prog_5_method_1_code 79 = .ok (.putfield 36, 3) := by decide +kernel
theorem d_M_init_82 : decode prog_5_method_1_code 82 = .ok (.aload_n 0, 1) := by decide +kernel
theorem d_M_init_83 : decode prog_5_method_1_code 83 = .ok (.bipush 21, 2) := by decide +kernel
theorem d_M_init_85 : decode prog_5_method_1_code 85 = .ok (.newarray .int, 2) := by decide +kernel
theorem d_M_init_87 : decode prog_5_method_1_code 87 = .ok (.putfield 39, 3) := by decide +kernel
theorem d_M_init_90 : decode prog_5_method_1_code 90 = .ok (.aload_n 0, 1) := by decide +kernel
theorem d_M_init_91 : decode prog_5_method_1_code 91 = .ok (.bipush 126, 2) := by decide +kernel
theorem d_M_init_93 : decode prog_5_method_1_code 93 = .ok (.newarray .int, 2) := by decide +kernel
theorem d_M_init_95 : decode prog_5_method_1_code 95 = .ok (.putfield 42, 3) := by decide +kernel
theorem d_M_init_98 : decode prog_5_method_1_code 98 = .ok (.aload_n 0, 1) := by decide +kernel
theorem d_M_init_99 : decode prog_5_method_1_code 99 = .ok (.bipush 21, 2) := by decide +kernel
theorem d_M_init_101 : decode prog_5_method_1_code 101 = .ok (.newarray .int, 2) := by decide +kernel
theorem d_M_init_103 : decode prog_5_method_1_code 103 = .ok (.putfield 45, 3) := by decide +kernel
theorem d_M_init_106 : decode prog_5_method_1_code 106 = .ok (.aload_n 0, 1) := by decide +kernel
theorem d_M_init_107 : decode prog_5_method_1_code 107 = .ok (.bipush 10, 2) := by decide +kernel
theorem d_M_init_109 : decode prog_5_method_1_code 109 = .ok (.newarray .int, 2) := by decide +kernel
theorem d_M_init_111 : decode prog_5_method_1_code 111 = .ok (.putfield 48, 3) := by decide +kernel
theorem d_M_init_114 : decode prog_5_method_1_code 114 = .ok (.aload_n 0, 1) := by decide +kernel
theorem d_M_init_115 : decode prog_5_method_1_code 115 = .ok (.sipush 200, 3) := by decide +kernel
theorem d_M_init_118 : decode prog_5_method_1_code 118 = .ok (.newarray .boolean, 2) := by decide +kernel
theorem d_M_init_120 : decode prog_5_method_1_code 120 = .ok (.putfield 51, 3) := by decide +kernel
theorem d_M_init_123 : decode prog_5_method_1_code 123 = .ok (.aload_n 0, 1) := by decide +kernel
theorem d_M_init_124 : decode prog_5_method_1_code 124 = .ok (.sipush 200, 3) := by decide +kernel
theorem d_M_init_127 : decode prog_5_method_1_code 127 = .ok (.newarray .int, 2) := by decide +kernel
theorem d_M_init_129 : decode prog_5_method_1_code 129 = .ok (.putfield 54, 3) := by decide +kernel
theorem d_M_init_132 : decode prog_5_method_1_code 132 = .ok (.aload_n 0, 1) := by decide +kernel
theorem d_M_init_133 : decode prog_5_method_1_code 133 = .ok (.bipush 20, 2) := by decide +kernel
theorem d_M_init_135 : decode prog_5_method_1_code 135 = .ok (.newarray .int, 2) := by decide +kernel
theorem d_M_init_137 : decode prog_5_method_1_code 137 = .ok (.putfield 57, 3) := by decide +kernel
theorem d_M_init_140 : decode prog_5_method_1_code 140 = .ok (.return_, 1) := by decide +kernel
theorem d_M_in_0 : decode prog_5_method_3_code 0 = .ok (.lload_n 0, 1) := by decide +kernel
theorem d_M_in_1 : decode prog_5_method_3_code 1 = .ok (.lload_n 2, 1) := by decide +kernel
theorem d_M_in_2 : decode prog_5_method_3_code 2 = .ok (.lcmp, 1) := by decide +kernel
theorem d_M_in_3 : decode prog_5_method_3_code 3 = .ok (.ifCond .lt 14, 3) := by decide +kernel
theorem d_M_in_6 : decode prog_5_method_3_code 6 = .ok (.lload_n 0, 1) := by decide +kernel
theorem d_M_in_7 : decode prog_5_method_3_code 7 = .ok (.lload 4, 2) := by decide +kernel
theorem d_M_in_9 : decode prog_5_method_3_code 9 = .ok (.lcmp, 1) := by decide +kernel
theorem d_M_in_10 : decode prog_5_method_3_code 10 = .ok (.ifCond .gt 7, 3) := by decide +kernel
theorem d_M_in_13 : decode prog_5_method_3_code 13 = .ok (.iconst 1, 1) := by decide +kernel
theorem d_M_in_14 : decode prog_5_method_3_code 14 = .ok (.goto 4, 3) := by decide +kernel
theorem d_M_in_17 : decode prog_5_method_3_code 17 = .ok (.iconst 0, 1) := by decide +kernel
theorem d_M_in_18 : decode prog_5_method_3_code 18 = .ok (.ireturn, 1) := by decide +kernel
theorem d_M_can_0 : decode prog_5_method_4_code 0 = .ok (.iload_n 0, 1) := by decide +kernel
theorem d_M_can_1 : decode prog_5_method_4_code 1 = .ok (.tableswitch 208 0 10 #[59, 59, 87, 87, 115, 87, 87, 124, 124, 152, 180], 59) := by decide +kernel
theorem d_M_can_60 : decode prog_5_method_4_code 60 = .ok (.lload_n 1, 1) := by decide +kernel
theorem d_M_can_61 : decode prog_5_method_4_code 61 = .ok (.lconst 1, 1) := by decide +kernel
theorem d_M_can_62 : decode prog_5_method_4_code 62 = .ok (.ldc2_w 64, 3) := by decide +kernel
theorem d_M_can_65 : decode prog_5_method_4_code 65 = .ok (.invokestatic 66, 3) := by decide +kernel
theorem d_M_can_68 : decode prog_5_method_4_code 68 = .ok (.ifCond .eq 18, 3) := by decide +kernel
theorem d_M_can_71 : decode prog_5_method_4_code 71 = .ok (.lload_n 3, 1) := by decide +kernel
theorem d_M_can_72 : decode prog_5_method_4_code 72 = .ok (.lconst 1, 1) := by decide +kernel
theorem d_M_can_73 : decode prog_5_method_4_code 73 = .ok (.ldc2_w 70, 3) := by decide +kernel
theorem d_M_can_76 : decode prog_5_method_4_code 76 = .ok (.invokestatic 66, 3) := by decide +kernel
theorem d_M_can_79 : decode prog_5_method_4_code 79 = .ok (.ifCond .eq 7, 3) := by decide +kernel
theorem d_M_can_82 : decode prog_5_method_4_code 82 = .ok (.iconst 1, 1) := by decide +kernel
theorem d_M_can_83 : decode prog_5_method_4_code 83 = .ok (.goto 4, 3) := by decide +kernel
theorem d_M_can_86 : decode prog_5_method_4_code 86 = .ok (.iconst 0, 1) := by decide +kernel
theorem d_M_can_87 : decode prog_5_method_4_code 87 = .ok (.ireturn, 1) := by decide +kernel
theorem d_M_can_88 : decode prog_5_method_4_code 88 = .ok (.lload_n 1, 1) := by decide +kernel
theorem d_M_can_89 : decode prog_5_method_4_code 89 = .ok (.lconst 1, 1) := by decide +kernel
theorem d_M_can_90 : decode prog_5_method_4_code 90 = .ok (.ldc2_w 64, 3) := by decide +kernel
theorem d_M_can_93 : decode prog_5_method_4_code 93 = .ok (.invokestatic 66, 3) := by decide +kernel
theorem d_M_can_96 : decode prog_5_method_4_code 96 = .ok (.ifCond .eq 18, 3) := by decide +kernel
theorem d_M_can_99 : decode prog_5_method_4_code 99 = .ok (.lload_n 3, 1) := by decide +kernel
theorem d_M_can_100 : decode prog_5_method_4_code 100 = .ok (.lconst 1, 1) := by decide +kernel
theorem d_M_can_101 : decode prog_5_method_4_code 101 = .ok (.ldc2_w 64, 3) := by decide +kernel
theorem d_M_can_104 : decode prog_5_method_4_code 104 = .ok (.invokestatic 66, 3) := by decide +kernel
theorem d_M_can_107 : decode prog_5_method_4_code 107 = .ok (.ifCond .eq 7, 3) := by decide +kernel
theorem d_M_can_110 : decode prog_5_method_4_code 110 = .ok (.iconst 1, 1) := by decide +kernel
theorem d_M_can_111 : decode prog_5_method_4_code 111 = .ok (.goto 4, 3) := by decide +kernel
theorem d_M_can_114 : decode prog_5_method_4_code 114 = .ok (.iconst 0, 1) := by decide +kernel
theorem d_M_can_115 : decode prog_5_method_4_code 115 = .ok (.ireturn, 1) := by decide +kernel
theorem d_M_can_116 : decode prog_5_method_4_code 116 = .ok (.lload_n 1, 1) := by decide +kernel
theorem d_M_can_117 : decode prog_5_method_4_code 117 = .ok (.lconst 1, 1) := by decide +kernel
theorem d_M_can_118 : decode prog_5_method_4_code 118 = .ok (.ldc2_w 64, 3) := by decide +kernel
theorem d_M_can_121 : decode prog_5_method_4_code 121 = .ok (.invokestatic 66, 3) := by decide +kernel
theorem d_M_can_124 : decode prog_5_method_4_code 124 = .ok (.ireturn, 1) := by decide +kernel
theorem d_M_can_125 : decode prog_5_method_4_code 125 = .ok (.lload_n 1, 1) := by decide +kernel
theorem d_M_can_126 : decode prog_5_method_4_code 126 = .ok (.lconst 1, 1) := by decide +kernel
theorem d_M_can_127 : decode prog_5_method_4_code 127 = .ok (.ldc2_w 64, 3) := by decide +kernel
theorem d_M_can_130 : decode prog_5_method_4_code 130 = .ok (.invokestatic 66, 3) := by decide +kernel
theorem d_M_can_133 : decode prog_5_method_4_code 133 = .ok (.ifCond .eq 18, 3) := by decide +kernel
theorem d_M_can_136 : decode prog_5_method_4_code 136 = .ok (.lload_n 3, 1) := by decide +kernel
theorem d_M_can_137 : decode prog_5_method_4_code 137 = .ok (.lconst 1, 1) := by decide +kernel
theorem d_M_can_138 : decode prog_5_method_4_code 138 = .ok (.ldc2_w 72, 3) := by decide +kernel
theorem d_M_can_141 : decode prog_5_method_4_code 141 = .ok (.invokestatic 66, 3) := by decide +kernel
theorem d_M_can_144 : decode prog_5_method_4_code 144 = .ok (.ifCond .eq 7, 3) := by decide +kernel
theorem d_M_can_147 : decode prog_5_method_4_code 147 = .ok (.iconst 1, 1) := by decide +kernel
theorem d_M_can_148 : decode prog_5_method_4_code 148 = .ok (.goto 4, 3) := by decide +kernel
theorem d_M_can_151 : decode prog_5_method_4_code 151 = .ok (.iconst 0, 1) := by decide +kernel
theorem d_M_can_152 : decode prog_5_method_4_code 152 = .ok (.ireturn, 1) := by decide +kernel
theorem d_M_can_153 : decode prog_5_method_4_code 153 = .ok (.lload_n 1, 1) := by decide +kernel
theorem d_M_can_154 : decode prog_5_method_4_code 154 = .ok (.lconst 1, 1) := by decide +kernel
theorem d_M_can_155 : decode prog_5_method_4_code 155 = .ok (.ldc2_w 64, 3) := by decide +kernel
theorem d_M_can_158 : decode prog_5_method_4_code 158 = .ok (.invokestatic 66, 3) := by decide +kernel
theorem d_M_can_161 : decode prog_5_method_4_code 161 = .ok (.ifCond .eq 18, 3) := by decide +kernel
theorem d_M_can_164 : decode prog_5_method_4_code 164 = .ok (.lload_n 3, 1) := by decide +kernel
theorem d_M_can_165 : decode prog_5_method_4_code 165 = .ok (.lconst 0, 1) := by decide +kernel
theorem d_M_can_166 : decode prog_5_method_4_code 166 = .ok (.ldc2_w 74, 3) := by decide +kernel
theorem d_M_can_169 : decode prog_5_method_4_code 169 = .ok (.invokestatic 66, 3) := by decide +kernel
theorem d_M_can_172 : decode prog_5_method_4_code 172 = .ok (.ifCond .eq 7, 3) := by decide +kernel
theorem d_M_can_175 : decode prog_5_method_4_code 175 = .ok (.iconst 1, 1) := by decide +kernel
theorem d_M_can_176 : decode prog_5_method_4_code 176 = .ok (.goto 4, 3) := by decide +kernel
theorem d_M_can_179 : decode prog_5_method_4_code 179 = .ok (.iconst 0, 1) := by decide +kernel
theorem d_M_can_180 : decode prog_5_method_4_code 180 = .ok (.ireturn, 1) := by decide +kernel
theorem d_M_can_181 : decode prog_5_method_4_code 181 = .ok (.lload_n 1, 1) := by decide +kernel
theorem d_M_can_182 : decode prog_5_method_4_code 182 = .ok (.lconst 0, 1) := by decide +kernel
theorem d_M_can_183 : decode prog_5_method_4_code 183 = .ok (.ldc2_w 74, 3) := by decide +kernel
theorem d_M_can_186 : decode prog_5_method_4_code 186 = .ok (.invokestatic 66, 3) := by decide +kernel
theorem d_M_can_189 : decode prog_5_method_4_code 189 = .ok (.ifCond .eq 18, 3) := by decide +kernel
theorem d_M_can_192 : decode prog_5_method_4_code 192 = .ok (.lload_n 3, 1) := by decide +kernel
theorem d_M_can_193 : decode prog_5_method_4_code 193 = .ok (.lconst 1, 1) := by decide +kernel
theorem d_M_can_194 : decode prog_5_method_4_code 194 = .ok (.ldc2_w 76, 3) := by decide +kernel
theorem d_M_can_197 : decode prog_5_method_4_code 197 = .ok (.invokestatic 66, 3) := by decide +kernel
theorem d_M_can_200 : decode prog_5_method_4_code 200 = .ok (.ifCond .eq 7, 3) := by decide +kernel
theorem d_M_can_203 : decode prog_5_method_4_code 203 = .ok (.iconst 1, 1) := by decide +kernel
theorem d_M_can_204 : decode prog_5_method_4_code 204 = .ok (.goto 4, 3) := by decide +kernel
theorem d_M_can_207 : decode prog_5_method_4_code 207 = .ok (.iconst 0, 1) := by decide +kernel
theorem d_M_can_208 : decode prog_5_method_4_code 208 = .ok (.ireturn, 1) := by decide +kernel
theorem d_M_can_209 : decode prog_5_method_4_code 209 = .ok (.iconst 0, 1) := by decide +kernel
theorem d_M_can_210 : decode prog_5_method_4_code 210 = .ok (.ireturn, 1) := by decide +kernel
theorem d_M_event_0 : decode prog_5_method_5_code 0 = .ok (.aload_n 0, 1) := by decide +kernel
theorem d_M_event_1 : decode prog_5_method_5_code 1 = .ok (.iconst 0, 1) := by decide +kernel
theorem d_M_event_2 : decode prog_5_method_5_code 2 = .ok (.putfield 60, 3) := by decide +kernel
theorem d_M_event_5 : decode prog_5_method_5_code 5 = .ok (.iload_n 1, 1) := by decide +kernel
theorem d_M_event_6 : decode prog_5_method_5_code 6 = .ok (.lload_n 2, 1) := by decide +kernel
theorem d_M_event_7 : decode prog_5_method_5_code 7 = .ok (.lload 4, 2) := by decide +kernel
theorem d_M_event_9 : decode prog_5_method_5_code 9 = .ok (.invokestatic 78, 3) := by decide +kernel
theorem d_M_event_12 : decode prog_5_method_5_code 12 = .ok (.ifCond .eq 25, 3) := by decide +kernel
theorem d_M_event_15 : decode prog_5_method_5_code 15 = .ok (.lload 6, 2) := by decide +kernel
theorem d_M_event_17 : decode prog_5_method_5_code 17 = .ok (.lconst 0, 1) := by decide +kernel
theorem d_M_event_18 : decode prog_5_method_5_code 18 = .ok (.ldc2_w 82, 3) := by decide +kernel
theorem d_M_event_21 : decode prog_5_method_5_code 21 = .ok (.invokestatic 66, 3) := by decide +kernel
theorem d_M_event_24 : decode prog_5_method_5_code 24 = .ok (.ifCond .eq 13, 3) := by decide +kernel
theorem d_M_event_27 : decode prog_5_method_5_code 27 = .ok (.aload_n 0, 1) := by decide +kernel
theorem d_M_event_28 : decode prog_5_method_5_code 28 = .ok (.getfield 84, 3) := by decide +kernel
theorem d_M_event_31 : decode prog_5_method_5_code 31 = .ok (.sipush 200, 3) := by decide +kernel
theorem d_M_event_34 : decode prog_5_method_5_code 34 = .ok (.if_icmp .ne 5, 3) := by decide +kernel
theorem d_M_event_37 : decode prog_5_method_5_code 37 = .ok (.iconst 0, 1) := by decide +kernel
theorem d_M_event_38 : decode prog_5_method_5_code 38 = .ok (.ireturn, 1) := by decide +kernel
theorem d_M_event_39 : decode prog_5_method_5_code 39 = .ok (.aload_n 0, 1) := by decide +kernel
theorem d_M_event_40 : decode prog_5_method_5_code 40 = .ok (.getfield 84, 3) := by decide +kernel
theorem d_M_event_43 : decode prog_5_method_5_code 43 = .ok (.istore 8, 2) := by decide +kernel
theorem d_M_event_45 : decode prog_5_method_5_code 45 = .ok (.iload 8, 2) := by decide +kernel
theorem d_M_event_47 : decode prog_5_method_5_code 47 = .ok (.ifCond .le 88, 3) := by decide +kernel
theorem d_M_event_50 : decode prog_5_method_5_code 50 = .ok (.aload_n 0, 1) := by decide +kernel
theorem d_M_event_51 : decode prog_5_method_5_code 51 = .ok (.getfield 20, 3) := by decide +kernel
theorem d_M_event_54 : decode prog_5_method_5_code 54 = .ok (.iload 8, 2) := by decide +kernel
theorem d_M_event_56 : decode prog_5_method_5_code 56 = .ok (.iconst 1, 1) := by decide +kernel
theorem d_M_event_57 : decode prog_5_method_5_code 57 = .ok (.isub, 1) := by decide +kernel
theorem d_M_event_58 : decode prog_5_method_5_code 58 = .ok (.laload, 1) := by decide +kernel
theorem d_M_event_59 : decode prog_5_method_5_code 59 = .ok (.lload 6, 2) := by decide +kernel
theorem d_M_event_61 : decode prog_5_method_5_code 61 = .ok (.lcmp, 1) := by decide +kernel
theorem d_M_event_62 : decode prog_5_method_5_code 62 = .ok (.ifCond .le 73, 3) := by decide +kernel
theorem d_M_event_65 : decode prog_5_method_5_code 65 = .ok (.aload_n 0, 1) := by decide +kernel
theorem d_M_event_66 : decode prog_5_method_5_code 66 = .ok (.getfield 7, 3) := by decide +kernel
theorem d_M_event_69 : decode prog_5_method_5_code 69 = .ok (.iload 8, 2) := by decide +kernel
theorem d_M_event_71 : decode prog_5_method_5_code 71 = .ok (.aload_n 0, 1) := by decide +kernel
theorem d_M_event_72 : decode prog_5_method_5_code 72 = .ok (.getfield 7, 3) := by decide +kernel
theorem d_M_event_75 : decode prog_5_method_5_code 75 = .ok (.iload 8, 2) := by decide +kernel
theorem d_M_event_77 : decode prog_5_method_5_code 77 = .ok (.iconst 1, 1) := by decide +kernel
theorem d_M_event_78 : decode prog_5_method_5_code 78 = .ok (.isub, 1) := by decide +kernel
theorem d_M_event_79 : decode prog_5_method_5_code 79 = .ok (.iaload, 1) := by decide +kernel
theorem d_M_event_80 : decode prog_5_method_5_code 80 = .ok (.iastore, 1) := by decide +kernel
theorem d_M_event_81 : decode prog_5_method_5_code 81 = .ok (.aload_n 0, 1) := by decide +kernel
theorem d_M_event_82 : decode prog_5_method_5_code 82 = .ok (.getfield 13, 3) := by decide +kernel
theorem d_M_event_85 : decode prog_5_method_5_code 85 = .ok (.iload 8, 2) := by decide +kernel
theorem d_M_event_87 : decode prog_5_method_5_code 87 = .ok (.aload_n 0, 1) := by decide +kernel
theorem d_M_event_88 : decode prog_5_method_5_code 88 = .ok (.getfield 13, 3) := by decide +kernel
theorem d_M_event_91 : decode prog_5_method_5_code 91 = .ok (.iload 8, 2) := by decide +kernel
theorem d_M_event_93 : decode prog_5_method_5_code 93 = .ok (.iconst 1, 1) := by decide +kernel
theorem d_M_event_94 : decode prog_5_method_5_code 94 = .ok (.isub, 1) := by decide +kernel
theorem d_M_event_95 : decode prog_5_method_5_code 95 = .ok (.iaload, 1) := by decide +kernel
theorem d_M_event_96 : decode prog_5_method_5_code 96 = .ok (.iastore, 1) := by decide +kernel
theorem d_M_event_97 : decode prog_5_method_5_code 97 = .ok (.aload_n 0, 1) := by decide +kernel
theorem d_M_event_98 : decode prog_5_method_5_code 98 = .ok (.getfield 16, 3) := by decide +kernel
theorem d_M_event_101 : decode prog_5_method_5_code 101 = .ok (.iload 8, 2) := by decide +kernel
theorem d_M_event_103 : decode prog_5_method_5_code 103 = .ok (.aload_n 0, 1) := by decide +kernel
theorem d_M_event_104 : decode prog_5_method_5_code 104 = .ok (.getfield 16, 3) := by decide +kernel
theorem d_M_event_107 : decode prog_5_method_5_code 107 = .ok (.iload 8, 2) := by decide +kernel
theorem d_M_event_109 : decode prog_5_method_5_code 109 = .ok (.iconst 1, 1) := by decide +kernel
theorem d_M_event_110 : decode prog_5_method_5_code 110 = .ok (.isub, 1) := by decide +kernel
theorem d_M_event_111 : decode prog_5_method_5_code 111 = .ok (.laload, 1) := by decide +kernel
theorem d_M_event_112 : decode prog_5_method_5_code 112 = .ok (.lastore, 1) := by decide +kernel
theorem d_M_event_113 : decode prog_5_method_5_code 113 = .ok (.aload_n 0, 1) := by decide +kernel
theorem d_M_event_114 : decode prog_5_method_5_code 114 = .ok (.getfield 20, 3) := by decide +kernel
theorem d_M_event_117 : decode prog_5_method_5_code 117 = .ok (.iload 8, 2) := by decide +kernel
theorem d_M_event_119 : decode prog_5_method_5_code 119 = .ok (.aload_n 0, 1) := by decide +kernel
theorem d_M_event_120 : decode prog_5_method_5_code 120 = .ok (.getfield 20, 3) := by decide +kernel
theorem d_M_event_123 : decode prog_5_method_5_code 123 = .ok (.iload 8, 2) := by decide +kernel
theorem d_M_event_125 : decode prog_5_method_5_code 125 = .ok (.iconst 1, 1) := by decide +kernel
theorem d_M_event_126 : decode prog_5_method_5_code 126 = .ok (.isub, 1) := by decide +kernel
theorem d_M_event_127 : decode prog_5_method_5_code 127 = .ok (.laload, 1) := by decide +kernel
theorem d_M_event_128 : decode prog_5_method_5_code 128 = .ok (.lastore, 1) := by decide +kernel
theorem d_M_event_129 : decode prog_5_method_5_code 129 = .ok (.iinc 8 (-1), 3) := by decide +kernel
theorem d_M_event_132 : decode prog_5_method_5_code 132 = .ok (.goto (-87), 3) := by decide +kernel
theorem d_M_event_135 : decode prog_5_method_5_code 135 = .ok (.aload_n 0, 1) := by decide +kernel
theorem d_M_event_136 : decode prog_5_method_5_code 136 = .ok (.getfield 7, 3) := by decide +kernel
theorem d_M_event_139 : decode prog_5_method_5_code 139 = .ok (.iload 8, 2) := by decide +kernel
theorem d_M_event_141 : decode prog_5_method_5_code 141 = .ok (.iload_n 1, 1) := by decide +kernel
theorem d_M_event_142 : decode prog_5_method_5_code 142 = .ok (.iastore, 1) := by decide +kernel
theorem d_M_event_143 : decode prog_5_method_5_code 143 = .ok (.aload_n 0, 1) := by decide +kernel
theorem d_M_event_144 : decode prog_5_method_5_code 144 = .ok (.getfield 13, 3) := by decide +kernel
theorem d_M_event_147 : decode prog_5_method_5_code 147 = .ok (.iload 8, 2) := by decide +kernel
theorem d_M_event_149 : decode prog_5_method_5_code 149 = .ok (.lload_n 2, 1) := by decide +kernel
theorem d_M_event_150 : decode prog_5_method_5_code 150 = .ok (.l2i, 1) := by decide +kernel
theorem d_M_event_151 : decode prog_5_method_5_code 151 = .ok (.iastore, 1) := by decide +kernel
theorem d_M_event_152 : decode prog_5_method_5_code 152 = .ok (.aload_n 0, 1) := by decide +kernel
theorem d_M_event_153 : decode prog_5_method_5_code 153 = .ok (.getfield 16, 3) := by decide +kernel
theorem d_M_event_156 : decode prog_5_method_5_code 156 = .ok (.iload 8, 2) := by decide +kernel
theorem d_M_event_158 : decode prog_5_method_5_code 158 = .ok (.lload 4, 2) := by decide +kernel
theorem d_M_event_160 : decode prog_5_method_5_code 160 = .ok (.lastore, 1) := by decide +kernel
theorem d_M_event_161 : decode prog_5_method_5_code 161 = .ok (.aload_n 0, 1) := by decide +kernel
theorem d_M_event_162 : decode prog_5_method_5_code 162 = .ok (.getfield 20, 3) := by decide +kernel
theorem d_M_event_165 : decode prog_5_method_5_code 165 = .ok (.iload 8, 2) := by decide +kernel
theorem d_M_event_167 : decode prog_5_method_5_code 167 = .ok (.lload 6, 2) := by decide +kernel
theorem d_M_event_169 : decode prog_5_method_5_code 169 = .ok (.lastore, 1) := by decide +kernel
theorem d_M_event_170 : decode prog_5_method_5_code 170 = .ok (.aload_n 0, 1) := by decide +kernel
theorem d_M_event_171 : decode prog_5_method_5_code 171 = .ok (.dup, 1) := by decide +kernel
theorem d_M_event_172 : decode prog_5_method_5_code 172 = .ok (.getfield 84, 3) := by decide +kernel
theorem d_M_event_175 : decode prog_5_method_5_code 175 = .ok (.iconst 1, 1) := by decide +kernel
theorem d_M_event_176 : decode prog_5_method_5_code 176 = .ok (.iadd, 1) := by decide +kernel
theorem d_M_event_177 : decode prog_5_method_5_code 177 = .ok (.putfield 84, 3) := by decide +kernel
theorem d_M_event_180 : decode prog_5_method_5_code 180 = .ok (.aload_n 0, 1) := by decide +kernel
theorem d_M_event_181 : decode prog_5_method_5_code 181 = .ok (.getfield 84, 3) := by decide +kernel
theorem d_M_event_184 : decode prog_5_method_5_code 184 = .ok (.ireturn, 1) := by decide +kernel
theorem d_M_clear_0 : decode prog_5_method_6_code 0 = .ok (.iconst 0, 1) := by decide +kernel
theorem d_M_clear_1 : decode prog_5_method_6_code 1 = .ok (.istore_n 1, 1) := by decide +kernel
theorem d_M_clear_2 : decode prog_5_method_6_code 2 = .ok (.iload_n 1, 1) := by decide +kernel
theorem d_M_clear_3 : decode prog_5_method_6_code 3 = .ok (.sipush 2100, 3) := by decide +kernel
theorem d_M_clear_6 : decode prog_5_method_6_code 6 = .ok (.if_icmp .ge 16, 3) := by decide +kernel
theorem d_M_clear_9 : decode prog_5_method_6_code 9 = .ok (.aload_n 0, 1) := by decide +kernel
theorem d_M_clear_10 : decode prog_5_method_6_code 10 = .ok (.getfield 23, 3) := by decide +kernel
theorem d_M_clear_13 : decode prog_5_method_6_code 13 = .ok (.iload_n 1, 1) := by decide +kernel
theorem d_M_clear_14 : decode prog_5_method_6_code 14 = .ok (.iconst 0, 1) := by decide +kernel
theorem d_M_clear_15 : decode prog_5_method_6_code 15 = .ok (.bastore, 1) := by decide +kernel
theorem d_M_clear_16 : decode prog_5_method_6_code 16 = .ok (.iinc 1 1, 3) := by decide +kernel
theorem d_M_clear_19 : decode prog_5_method_6_code 19 = .ok (.goto (-17), 3) := by decide +kernel
theorem d_M_clear_22 : decode prog_5_method_6_code 22 = .ok (.iconst 0, 1) := by decide +kernel
theorem d_M_clear_23 : decode prog_5_method_6_code 23 = .ok (.istore_n 1, 1) := by decide +kernel
theorem d_M_clear_24 : decode prog_5_method_6_code 24 = .ok (.iload_n 1, 1) := by decide +kernel
theorem d_M_clear_25 : decode prog_5_method_6_code 25 = .ok (.bipush 21, 2) := by decide +kernel
theorem d_M_clear_27 : decode prog_5_method_6_code 27 = .ok (.if_icmp .ge 44, 3) := by decide +kernel
theorem d_M_clear_30 : decode prog_5_method_6_code 30 = .ok (.aload_n 0, 1) := by decide +kernel
theorem d_M_clear_31 : decode prog_5_method_6_code 31 = .ok (.getfield 27, 3) := by decide +kernel
theorem d_M_clear_34 : decode prog_5_method_6_code 34 = .ok (.iload_n 1, 1) := by decide +kernel
theorem d_M_clear_35 : decode prog_5_method_6_code 35 = .ok (.iconst 0, 1) := by decide +kernel
theorem d_M_clear_36 : decode prog_5_method_6_code 36 = .ok (.iastore, 1) := by decide +kernel
theorem d_M_clear_37 : decode prog_5_method_6_code 37 = .ok (.aload_n 0, 1) := by decide +kernel
theorem d_M_clear_38 : decode prog_5_method_6_code 38 = .ok (.getfield 30, 3) := by decide +kernel
theorem d_M_clear_41 : decode prog_5_method_6_code 41 = .ok (.iload_n 1, 1) := by decide +kernel
theorem d_M_clear_42 : decode prog_5_method_6_code 42 = .ok (.iconst 0, 1) := by decide +kernel
theorem d_M_clear_43 : decode prog_5_method_6_code 43 = .ok (.iastore, 1) := by decide +kernel
theorem d_M_clear_44 : decode prog_5_method_6_code 44 = .ok (.aload_n 0, 1) := by decide +kernel
theorem d_M_clear_45 : decode prog_5_method_6_code 45 = .ok (.getfield 33, 3) := by decide +kernel
theorem d_M_clear_48 : decode prog_5_method_6_code 48 = .ok (.iload_n 1, 1) := by decide +kernel
theorem d_M_clear_49 : decode prog_5_method_6_code 49 = .ok (.lconst 0, 1) := by decide +kernel
theorem d_M_clear_50 : decode prog_5_method_6_code 50 = .ok (.lastore, 1) := by decide +kernel
theorem d_M_clear_51 : decode prog_5_method_6_code 51 = .ok (.aload_n 0, 1) := by decide +kernel
theorem d_M_clear_52 : decode prog_5_method_6_code 52 = .ok (.getfield 39, 3) := by decide +kernel
theorem d_M_clear_55 : decode prog_5_method_6_code 55 = .ok (.iload_n 1, 1) := by decide +kernel
theorem d_M_clear_56 : decode prog_5_method_6_code 56 = .ok (.iconst 0, 1) := by decide +kernel
theorem d_M_clear_57 : decode prog_5_method_6_code 57 = .ok (.iastore, 1) := by decide +kernel
theorem d_M_clear_58 : decode prog_5_method_6_code 58 = .ok (.aload_n 0, 1) := by decide +kernel
theorem d_M_clear_59 : decode prog_5_method_6_code 59 = .ok (.getfield 45, 3) := by decide +kernel
theorem d_M_clear_62 : decode prog_5_method_6_code 62 = .ok (.iload_n 1, 1) := by decide +kernel
theorem d_M_clear_63 : decode prog_5_method_6_code 63 = .ok (.iconst 0, 1) := by decide +kernel
theorem d_M_clear_64 : decode prog_5_method_6_code 64 = .ok (.iastore, 1) := by decide +kernel
theorem d_M_clear_65 : decode prog_5_method_6_code 65 = .ok (.iinc 1 1, 3) := by decide +kernel
theorem d_M_clear_68 : decode prog_5_method_6_code 68 = .ok (.goto (-44), 3) := by decide +kernel
theorem d_M_clear_71 : decode prog_5_method_6_code 71 = .ok (.iconst 0, 1) := by decide +kernel
theorem d_M_clear_72 : decode prog_5_method_6_code 72 = .ok (.istore_n 1, 1) := by decide +kernel
theorem d_M_clear_73 : decode prog_5_method_6_code 73 = .ok (.iload_n 1, 1) := by decide +kernel
theorem d_M_clear_74 : decode prog_5_method_6_code 74 = .ok (.bipush 126, 2) := by decide +kernel
theorem d_M_clear_76 : decode prog_5_method_6_code 76 = .ok (.if_icmp .ge 16, 3) := by decide +kernel
theorem d_M_clear_79 : decode prog_5_method_6_code 79 = .ok (.aload_n 0, 1) := by decide +kernel
theorem d_M_clear_80 : decode prog_5_method_6_code 80 = .ok (.getfield 42, 3) := by decide +kernel
theorem d_M_clear_83 : decode prog_5_method_6_code 83 = .ok (.iload_n 1, 1) := by decide +kernel
theorem d_M_clear_84 : decode prog_5_method_6_code 84 = .ok (.iconst (-1), 1) := by decide +kernel
theorem d_M_clear_85 : decode prog_5_method_6_code 85 = .ok (.iastore, 1) := by decide +kernel
theorem d_M_clear_86 : decode prog_5_method_6_code 86 = .ok (.iinc 1 1, 3) := by decide +kernel
theorem d_M_clear_89 : decode prog_5_method_6_code 89 = .ok (.goto (-16), 3) := by decide +kernel
theorem d_M_clear_92 : decode prog_5_method_6_code 92 = .ok (.iconst 0, 1) := by decide +kernel
theorem d_M_clear_93 : decode prog_5_method_6_code 93 = .ok (.istore_n 1, 1) := by decide +kernel
theorem d_M_clear_94 : decode prog_5_method_6_code 94 = .ok (.iload_n 1, 1) := by decide +kernel
theorem d_M_clear_95 : decode prog_5_method_6_code 95 = .ok (.bipush 10, 2) := by decide +kernel
theorem d_M_clear_97 : decode prog_5_method_6_code 97 = .ok (.if_icmp .ge 17, 3) := by decide +kernel
theorem d_M_clear_100 : decode prog_5_method_6_code 100 = .ok (.aload_n 0, 1) := by decide +kernel
theorem d_M_clear_101 : decode prog_5_method_6_code 101 = .ok (.getfield 48, 3) := by decide +kernel
theorem d_M_clear_104 : decode prog_5_method_6_code 104 = .ok (.iload_n 1, 1) := by decide +kernel
theorem d_M_clear_105 : decode prog_5_method_6_code 105 = .ok (.bipush 28, 2) := by decide +kernel
theorem d_M_clear_107 : decode prog_5_method_6_code 107 = .ok (.iastore, 1) := by decide +kernel
theorem d_M_clear_108 : decode prog_5_method_6_code 108 = .ok (.iinc 1 1, 3) := by decide +kernel
theorem d_M_clear_111 : decode prog_5_method_6_code 111 = .ok (.goto (-17), 3) := by decide +kernel
theorem d_M_clear_114 : decode prog_5_method_6_code 114 = .ok (.aload_n 0, 1) := by decide +kernel
theorem d_M_clear_115 : decode prog_5_method_6_code 115 = .ok (.iconst 0, 1) := by decide +kernel
theorem d_M_clear_116 : decode prog_5_method_6_code 116 = .ok (.putfield 87, 3) := by decide +kernel
theorem d_M_clear_119 : decode prog_5_method_6_code 119 = .ok (.aload_n 0, 1) := by decide +kernel
theorem d_M_clear_120 : decode prog_5_method_6_code 120 = .ok (.iconst 0, 1) := by decide +kernel
theorem d_M_clear_121 : decode prog_5_method_6_code 121 = .ok (.putfield 90, 3) := by decide +kernel
theorem d_M_clear_124 : decode prog_5_method_6_code 124 = .ok (.return_, 1) := by decide +kernel
theorem d_M_placeOf_0 : decode prog_5_method_7_code 0 = .ok (.iconst 0, 1) := by decide +kernel
theorem d_M_placeOf_1 : decode prog_5_method_7_code 1 = .ok (.istore_n 3, 1) := by decide +kernel
theorem d_M_placeOf_2 : decode prog_5_method_7_code 2 = .ok (.iload_n 3, 1) := by decide +kernel
theorem d_M_placeOf_3 : decode prog_5_method_7_code 3 = .ok (.aload_n 0, 1) := by decide +kernel
theorem d_M_placeOf_4 : decode prog_5_method_7_code 4 = .ok (.getfield 39, 3) := by decide +kernel
theorem d_M_placeOf_7 : decode prog_5_method_7_code 7 = .ok (.iload_n 1, 1) := by decide +kernel
theorem d_M_placeOf_8 : decode prog_5_method_7_code 8 = .ok (.iaload, 1) := by decide +kernel
theorem d_M_placeOf_9 : decode prog_5_method_7_code 9 = .ok (.if_icmp .ge 26, 3) := by decide +kernel
theorem d_M_placeOf_12 : decode prog_5_method_7_code 12 = .ok (.aload_n 0, 1) := by decide +kernel
theorem d_M_placeOf_13 : decode prog_5_method_7_code 13 = .ok (.getfield 36, 3) := by decide +kernel
theorem d_M_placeOf_16 : decode prog_5_method_7_code 16 = .ok (.bipush 20, 2) := by decide +kernel
theorem d_M_placeOf_18 : decode prog_5_method_7_code 18 = .ok (.iload_n 1, 1) := by decide +kernel
theorem d_M_placeOf_19 : decode prog_5_method_7_code 19 = .ok (.imul, 1) := by decide +kernel
theorem d_M_placeOf_20 : decode prog_5_method_7_code 20 = .ok (.iload_n 3, 1) := by decide +kernel
theorem d_M_placeOf_21 : decode prog_5_method_7_code 21 = .ok (.iadd, 1) := by decide +kernel
theorem d_M_placeOf_22 : decode prog_5_method_7_code 22 = .ok (.iaload, 1) := by decide +kernel
theorem d_M_placeOf_23 : decode prog_5_method_7_code 23 = .ok (.iload_n 2, 1) := by decide +kernel
theorem d_M_placeOf_24 : decode prog_5_method_7_code 24 = .ok (.if_icmp .ne 5, 3) := by decide +kernel
theorem d_M_placeOf_27 : decode prog_5_method_7_code 27 = .ok (.iload_n 3, 1) := by decide +kernel
theorem d_M_placeOf_28 : decode prog_5_method_7_code 28 = .ok (.ireturn, 1) := by decide +kernel
theorem d_M_placeOf_29 : decode prog_5_method_7_code 29 = .ok (.iinc 3 1, 3) := by decide +kernel
theorem d_M_placeOf_32 : decode prog_5_method_7_code 32 = .ok (.goto (-30), 3) := by decide +kernel
theorem d_M_placeOf_35 : decode prog_5_method_7_code 35 = .ok (.iconst (-1), 1) := by decide +kernel
theorem d_M_placeOf_36 : decode prog_5_method_7_code 36 = .ok (.ireturn, 1) := by decide +kernel
theorem d_M_leave_0 : decode prog_5_method_8_code 0 = .ok (.aload_n 0, 1) := by decide +kernel
theorem d_M_leave_1 : decode prog_5_method_8_code 1 = .ok (.iload_n 1, 1) := by decide +kernel
theorem d_M_leave_2 : decode prog_5_method_8_code 2 = .ok (.iload_n 2, 1) := by decide +kernel
theorem d_M_leave_3 : decode prog_5_method_8_code 3 = .ok (.invokevirtual 93, 3) := by decide +kernel
theorem d_M_leave_6 : decode prog_5_method_8_code 6 = .ok (.istore_n 3, 1) := by decide +kernel
theorem d_M_leave_7 : decode prog_5_method_8_code 7 = .ok (.iload_n 3, 1) := by decide +kernel
theorem d_M_leave_8 : decode prog_5_method_8_code 8 = .ok (.iconst (-1), 1) := by decide +kernel
theorem d_M_leave_9 : decode prog_5_method_8_code 9 = .ok (.if_icmp .ne 5, 3) := by decide +kernel
theorem d_M_leave_12 : decode prog_5_method_8_code 12 = .ok (.iconst 0, 1) := by decide +kernel
theorem d_M_leave_13 : decode prog_5_method_8_code 13 = .ok (.ireturn, 1) := by decide +kernel
theorem d_M_leave_14 : decode prog_5_method_8_code 14 = .ok (.aload_n 0, 1) := by decide +kernel
theorem d_M_leave_15 : decode prog_5_method_8_code 15 = .ok (.getfield 39, 3) := by decide +kernel
theorem d_M_leave_18 : decode prog_5_method_8_code 18 = .ok (.iload_n 1, 1) := by decide +kernel
theorem d_M_leave_19 : decode prog_5_method_8_code 19 = .ok (.dup2, 1) := by decide +kernel
theorem d_M_leave_20 : decode prog_5_method_8_code 20 = .ok (.iaload, 1) := by decide +kernel
theorem d_M_leave_21 : decode prog_5_method_8_code 21 = .ok (.iconst 1, 1) := by decide +kernel
theorem d_M_leave_22 : decode prog_5_method_8_code 22 = .ok (.isub, 1) := by decide +kernel
theorem d_M_leave_23 : decode prog_5_method_8_code 23 = .ok (.iastore, 1) := by decide +kernel
theorem d_M_leave_24 : decode prog_5_method_8_code 24 = .ok (.iload_n 3, 1) := by decide +kernel
theorem d_M_leave_25 : decode prog_5_method_8_code 25 = .ok (.istore 4, 2) := by decide +kernel
theorem d_M_leave_27 : decode prog_5_method_8_code 27 = .ok (.iload 4, 2) := by decide +kernel
theorem d_M_leave_29 : decode prog_5_method_8_code 29 = .ok (.aload_n 0, 1) := by decide +kernel
theorem d_M_leave_30 : decode prog_5_method_8_code 30 = .ok (.getfield 39, 3) := by decide +kernel
theorem d_M_leave_33 : decode prog_5_method_8_code 33 = .ok (.iload_n 1, 1) := by decide +kernel
theorem d_M_leave_34 : decode prog_5_method_8_code 34 = .ok (.iaload, 1) := by decide +kernel
theorem d_M_leave_35 : decode prog_5_method_8_code 35 = .ok (.if_icmp .ge 35, 3) := by decide +kernel
theorem d_M_leave_38 : decode prog_5_method_8_code 38 = .ok (.aload_n 0, 1) := by decide +kernel
theorem d_M_leave_39 : decode prog_5_method_8_code 39 = .ok (.getfield 36, 3) := by decide +kernel
theorem d_M_leave_42 : decode prog_5_method_8_code 42 = .ok (.bipush 20, 2) := by decide +kernel
theorem d_M_leave_44 : decode prog_5_method_8_code 44 = .ok (.iload_n 1, 1) := by decide +kernel
theorem d_M_leave_45 : decode prog_5_method_8_code 45 = .ok (.imul, 1) := by decide +kernel
theorem d_M_leave_46 : decode prog_5_method_8_code 46 = .ok (.iload 4, 2) := by decide +kernel
theorem d_M_leave_48 : decode prog_5_method_8_code 48 = .ok (.iadd, 1) := by decide +kernel
theorem d_M_leave_49 : decode prog_5_method_8_code 49 = .ok (.aload_n 0, 1) := by decide +kernel
theorem d_M_leave_50 : decode prog_5_method_8_code 50 = .ok (.getfield 36, 3) := by decide +kernel
theorem d_M_leave_53 : decode prog_5_method_8_code 53 = .ok (.bipush 20, 2) := by decide +kernel
theorem d_M_leave_55 : decode prog_5_method_8_code 55 = .ok (.iload_n 1, 1) := by decide +kernel
theorem d_M_leave_56 : decode prog_5_method_8_code 56 = .ok (.imul, 1) := by decide +kernel
theorem d_M_leave_57 : decode prog_5_method_8_code 57 = .ok (.iload 4, 2) := by decide +kernel
theorem d_M_leave_59 : decode prog_5_method_8_code 59 = .ok (.iadd, 1) := by decide +kernel
theorem d_M_leave_60 : decode prog_5_method_8_code 60 = .ok (.iconst 1, 1) := by decide +kernel
theorem d_M_leave_61 : decode prog_5_method_8_code 61 = .ok (.iadd, 1) := by decide +kernel
theorem d_M_leave_62 : decode prog_5_method_8_code 62 = .ok (.iaload, 1) := by decide +kernel
theorem d_M_leave_63 : decode prog_5_method_8_code 63 = .ok (.iastore, 1) := by decide +kernel
theorem d_M_leave_64 : decode prog_5_method_8_code 64 = .ok (.iinc 4 1, 3) := by decide +kernel
theorem d_M_leave_67 : decode prog_5_method_8_code 67 = .ok (.goto (-40), 3) := by decide +kernel
theorem d_M_leave_70 : decode prog_5_method_8_code 70 = .ok (.iconst 1, 1) := by decide +kernel
theorem d_M_leave_71 : decode prog_5_method_8_code 71 = .ok (.ireturn, 1) := by decide +kernel
theorem d_M_stand_0 : decode prog_5_method_9_code 0 = .ok (.aload_n 0, 1) := by decide +kernel
theorem d_M_stand_1 : decode prog_5_method_9_code 1 = .ok (.iload_n 1, 1) := by decide +kernel
theorem d_M_stand_2 : decode prog_5_method_9_code 2 = .ok (.iload_n 2, 1) := by decide +kernel
theorem d_M_stand_3 : decode prog_5_method_9_code 3 = .ok (.invokevirtual 93, 3) := by decide +kernel
theorem d_M_stand_6 : decode prog_5_method_9_code 6 = .ok (.iconst (-1), 1) := by decide +kernel
theorem d_M_stand_7 : decode prog_5_method_9_code 7 = .ok (.if_icmp .eq 5, 3) := by decide +kernel
theorem d_M_stand_10 : decode prog_5_method_9_code 10 = .ok (.iconst 0, 1) := by decide +kernel
theorem d_M_stand_11 : decode prog_5_method_9_code 11 = .ok (.ireturn, 1) := by decide +kernel
theorem d_M_stand_12 : decode prog_5_method_9_code 12 = .ok (.aload_n 0, 1) := by decide +kernel
theorem d_M_stand_13 : decode prog_5_method_9_code 13 = .ok (.getfield 36, 3) := by decide +kernel
theorem d_M_stand_16 : decode prog_5_method_9_code 16 = .ok (.bipush 20, 2) := by decide +kernel
theorem d_M_stand_18 : decode prog_5_method_9_code 18 = .ok (.iload_n 1, 1) := by decide +kernel
theorem d_M_stand_19 : decode prog_5_method_9_code 19 = .ok (.imul, 1) := by decide +kernel
theorem d_M_stand_20 : decode prog_5_method_9_code 20 = .ok (.aload_n 0, 1) := by decide +kernel
theorem d_M_stand_21 : decode prog_5_method_9_code 21 = .ok (.getfield 39, 3) := by decide +kernel
theorem d_M_stand_24 : decode prog_5_method_9_code 24 = .ok (.iload_n 1, 1) := by decide +kernel
theorem d_M_stand_25 : decode prog_5_method_9_code 25 = .ok (.iaload, 1) := by decide +kernel
theorem d_M_stand_26 : decode prog_5_method_9_code 26 = .ok (.iadd, 1) := by decide +kernel
theorem d_M_stand_27 : decode prog_5_method_9_code 27 = .ok (.iload_n 2, 1) := by decide +kernel
theorem d_M_stand_28 : decode prog_5_method_9_code 28 = .ok (.iastore, 1) := by decide +kernel
theorem d_M_stand_29 : decode prog_5_method_9_code 29 = .ok (.aload_n 0, 1) := by decide +kernel
theorem d_M_stand_30 : decode prog_5_method_9_code 30 = .ok (.getfield 39, 3) := by decide +kernel
theorem d_M_stand_33 : decode prog_5_method_9_code 33 = .ok (.iload_n 1, 1) := by decide +kernel
theorem d_M_stand_34 : decode prog_5_method_9_code 34 = .ok (.dup2, 1) := by decide +kernel
theorem d_M_stand_35 : decode prog_5_method_9_code 35 = .ok (.iaload, 1) := by decide +kernel
theorem d_M_stand_36 : decode prog_5_method_9_code 36 = .ok (.iconst 1, 1) := by decide +kernel
theorem d_M_stand_37 : decode prog_5_method_9_code 37 = .ok (.iadd, 1) := by decide +kernel
theorem d_M_stand_38 : decode prog_5_method_9_code 38 = .ok (.iastore, 1) := by decide +kernel
theorem d_M_stand_39 : decode prog_5_method_9_code 39 = .ok (.iconst 1, 1) := by decide +kernel
theorem d_M_stand_40 : decode prog_5_method_9_code 40 = .ok (.ireturn, 1) := by decide +kernel
theorem d_M_lend_0 : decode prog_5_method_10_code 0 = .ok (.aload_n 0, 1) := by decide +kernel
theorem d_M_lend_1 : decode prog_5_method_10_code 1 = .ok (.getfield 27, 3) := by decide +kernel
theorem d_M_lend_4 : decode prog_5_method_10_code 4 = .ok (.iload_n 1, 1) := by decide +kernel
theorem d_M_lend_5 : decode prog_5_method_10_code 5 = .ok (.iaload, 1) := by decide +kernel
theorem d_M_lend_6 : decode prog_5_method_10_code 6 = .ok (.istore 5, 2) := by decide +kernel
theorem d_M_lend_8 : decode prog_5_method_10_code 8 = .ok (.iload 5, 2) := by decide +kernel
theorem d_M_lend_10 : decode prog_5_method_10_code 10 = .ok (.ifCond .eq 36, 3) := by decide +kernel
theorem d_M_lend_13 : decode prog_5_method_10_code 13 = .ok (.aload_n 0, 1) := by decide +kernel
theorem d_M_lend_14 : decode prog_5_method_10_code 14 = .ok (.getfield 30, 3) := by decide +kernel
theorem d_M_lend_17 : decode prog_5_method_10_code 17 = .ok (.iload_n 1, 1) := by decide +kernel
theorem d_M_lend_18 : decode prog_5_method_10_code 18 = .ok (.iaload, 1) := by decide +kernel
theorem d_M_lend_19 : decode prog_5_method_10_code 19 = .ok (.ifCond .ne 27, 3) := by decide +kernel
theorem d_M_lend_22 : decode prog_5_method_10_code 22 = .ok (.aload_n 0, 1) := by decide +kernel
theorem d_M_lend_23 : decode prog_5_method_10_code 23 = .ok (.getfield 39, 3) := by decide +kernel
theorem d_M_lend_26 : decode prog_5_method_10_code 26 = .ok (.iload 5, 2) := by decide +kernel
theorem d_M_lend_28 : decode prog_5_method_10_code 28 = .ok (.iaload, 1) := by decide +kernel
theorem d_M_lend_29 : decode prog_5_method_10_code 29 = .ok (.ifCond .le 19, 3) := by decide +kernel
theorem d_M_lend_32 : decode prog_5_method_10_code 32 = .ok (.aload_n 0, 1) := by decide +kernel
theorem d_M_lend_33 : decode prog_5_method_10_code 33 = .ok (.getfield 36, 3) := by decide +kernel
theorem d_M_lend_36 : decode prog_5_method_10_code 36 = .ok (.bipush 20, 2) := by decide +kernel
theorem d_M_lend_38 : decode prog_5_method_10_code 38 = .ok (.iload 5, 2) := by decide +kernel
theorem d_M_lend_40 : decode prog_5_method_10_code 40 = .ok (.imul, 1) := by decide +kernel
theorem d_M_lend_41 : decode prog_5_method_10_code 41 = .ok (.iaload, 1) := by decide +kernel
theorem d_M_lend_42 : decode prog_5_method_10_code 42 = .ok (.iload_n 2, 1) := by decide +kernel
theorem d_M_lend_43 : decode prog_5_method_10_code 43 = .ok (.if_icmp .eq 5, 3) := by decide +kernel
theorem d_M_lend_46 : decode prog_5_method_10_code 46 = .ok (.iconst 0, 1) := by decide +kernel
theorem d_M_lend_47 : decode prog_5_method_10_code 47 = .ok (.ireturn, 1) := by decide +kernel
theorem d_M_lend_48 : decode prog_5_method_10_code 48 = .ok (.aload_n 0, 1) := by decide +kernel
theorem d_M_lend_49 : decode prog_5_method_10_code 49 = .ok (.iload 5, 2) := by decide +kernel
theorem d_M_lend_51 : decode prog_5_method_10_code 51 = .ok (.iload_n 2, 1) := by decide +kernel
theorem d_M_lend_52 : decode prog_5_method_10_code 52 = .ok (.invokevirtual 97, 3) := by decide +kernel
theorem d_M_lend_55 : decode prog_5_method_10_code 55 = .ok (.istore 6, 2) := by decide +kernel
theorem d_M_lend_57 : decode prog_5_method_10_code 57 = .ok (.aload_n 0, 1) := by decide +kernel
theorem d_M_lend_58 : decode prog_5_method_10_code 58 = .ok (.getfield 30, 3) := by decide +kernel
theorem d_M_lend_61 : decode prog_5_method_10_code 61 = .ok (.iload_n 1, 1) := by decide +kernel
theorem d_M_lend_62 : decode prog_5_method_10_code 62 = .ok (.iload_n 2, 1) := by decide +kernel
theorem d_M_lend_63 : decode prog_5_method_10_code 63 = .ok (.iastore, 1) := by decide +kernel
theorem d_M_lend_64 : decode prog_5_method_10_code 64 = .ok (.aload_n 0, 1) := by decide +kernel
theorem d_M_lend_65 : decode prog_5_method_10_code 65 = .ok (.getfield 33, 3) := by decide +kernel
theorem d_M_lend_68 : decode prog_5_method_10_code 68 = .ok (.iload_n 1, 1) := by decide +kernel
theorem d_M_lend_69 : decode prog_5_method_10_code 69 = .ok (.lload_n 3, 1) := by decide +kernel
theorem d_M_lend_70 : decode prog_5_method_10_code 70 = .ok (.aload_n 0, 1) := by decide +kernel
theorem d_M_lend_71 : decode prog_5_method_10_code 71 = .ok (.getfield 48, 3) := by decide +kernel
theorem d_M_lend_74 : decode prog_5_method_10_code 74 = .ok (.aload_n 0, 1) := by decide +kernel
theorem d_M_lend_75 : decode prog_5_method_10_code 75 = .ok (.getfield 45, 3) := by decide +kernel
theorem d_M_lend_78 : decode prog_5_method_10_code 78 = .ok (.iload 5, 2) := by decide +kernel
theorem d_M_lend_80 : decode prog_5_method_10_code 80 = .ok (.iaload, 1) := by decide +kernel
theorem d_M_lend_81 : decode prog_5_method_10_code 81 = .ok (.iaload, 1) := by decide +kernel
theorem d_M_lend_82 : decode prog_5_method_10_code 82 = .ok (.i2l, 1) := by decide +kernel
theorem d_M_lend_83 : decode prog_5_method_10_code 83 = .ok (.ladd, 1) := by decide +kernel
theorem d_M_lend_84 : decode prog_5_method_10_code 84 = .ok (.lastore, 1) := by decide +kernel
theorem d_M_lend_85 : decode prog_5_method_10_code 85 = .ok (.iload 6, 2) := by decide +kernel
theorem d_M_lend_87 : decode prog_5_method_10_code 87 = .ok (.ifCond .ne 13, 3) := by decide +kernel
theorem d_M_lend_90 : decode prog_5_method_10_code 90 = .ok (.aload_n 0, 1) := by decide +kernel
theorem d_M_lend_91 : decode prog_5_method_10_code 91 = .ok (.getfield 30, 3) := by decide +kernel
theorem d_M_lend_94 : decode prog_5_method_10_code 94 = .ok (.iload_n 1, 1) := by decide +kernel
theorem d_M_lend_95 : decode prog_5_method_10_code 95 = .ok (.iaload, 1) := by decide +kernel
theorem d_M_lend_96 : decode prog_5_method_10_code 96 = .ok (.iload_n 2, 1) := by decide +kernel
theorem d_M_lend_97 : decode prog_5_method_10_code 97 = .ok (.if_icmp .ne 7, 3) := by decide +kernel
theorem d_M_lend_100 : decode prog_5_method_10_code 100 = .ok (.iconst 1, 1) := by decide +kernel
theorem d_M_lend_101 : decode prog_5_method_10_code 101 = .ok (.goto 4, 3) := by decide +kernel
theorem d_M_lend_104 : decode prog_5_method_10_code 104 = .ok (.iconst 0, 1) := by decide +kernel
theorem d_M_lend_105 : decode prog_5_method_10_code 105 = .ok (.ireturn, 1) := by decide +kernel
theorem d_M_sets_0 : decode prog_5_method_11_code 0 = .ok (.aload_n 0, 1) := by decide +kernel
theorem d_M_sets_1 : decode prog_5_method_11_code 1 = .ok (.getfield 23, 3) := by decide +kernel
theorem d_M_sets_4 : decode prog_5_method_11_code 4 = .ok (.iload_n 1, 1) := by decide +kernel
theorem d_M_sets_5 : decode prog_5_method_11_code 5 = .ok (.baload, 1) := by decide +kernel
theorem d_M_sets_6 : decode prog_5_method_11_code 6 = .ok (.istore_n 3, 1) := by decide +kernel
theorem d_M_sets_7 : decode prog_5_method_11_code 7 = .ok (.aload_n 0, 1) := by decide +kernel
theorem d_M_sets_8 : decode prog_5_method_11_code 8 = .ok (.getfield 23, 3) := by decide +kernel
theorem d_M_sets_11 : decode prog_5_method_11_code 11 = .ok (.iload_n 1, 1) := by decide +kernel
theorem d_M_sets_12 : decode prog_5_method_11_code 12 = .ok (.iload_n 2, 1) := by decide +kernel
theorem d_M_sets_13 : decode prog_5_method_11_code 13 = .ok (.bastore, 1) := by decide +kernel
theorem d_M_sets_14 : decode prog_5_method_11_code 14 = .ok (.iload_n 3, 1) := by decide +kernel
theorem d_M_sets_15 : decode prog_5_method_11_code 15 = .ok (.iload_n 2, 1) := by decide +kernel
theorem d_M_sets_16 : decode prog_5_method_11_code 16 = .ok (.if_icmp .eq 7, 3) := by decide +kernel
theorem d_M_sets_19 : decode prog_5_method_11_code 19 = .ok (.iconst 1, 1) := by decide +kernel
theorem d_M_sets_20 : decode prog_5_method_11_code 20 = .ok (.goto 4, 3) := by decide +kernel
theorem d_M_sets_23 : decode prog_5_method_11_code 23 = .ok (.iconst 0, 1) := by decide +kernel
theorem d_M_sets_24 : decode prog_5_method_11_code 24 = .ok (.ireturn, 1) := by decide +kernel
theorem d_M_stores_0 : decode prog_5_method_12_code 0 = .ok (.aload_n 0, 1) := by decide +kernel
theorem d_M_stores_1 : decode prog_5_method_12_code 1 = .ok (.getfield 42, 3) := by decide +kernel
theorem d_M_stores_4 : decode prog_5_method_12_code 4 = .ok (.iload_n 1, 1) := by decide +kernel
theorem d_M_stores_5 : decode prog_5_method_12_code 5 = .ok (.iaload, 1) := by decide +kernel
theorem d_M_stores_6 : decode prog_5_method_12_code 6 = .ok (.iconst (-1), 1) := by decide +kernel
theorem d_M_stores_7 : decode prog_5_method_12_code 7 = .ok (.if_icmp .eq 7, 3) := by decide +kernel
theorem d_M_stores_10 : decode prog_5_method_12_code 10 = .ok (.iconst 1, 1) := by decide +kernel
theorem d_M_stores_11 : decode prog_5_method_12_code 11 = .ok (.goto 4, 3) := by decide +kernel
theorem d_M_stores_14 : decode prog_5_method_12_code 14 = .ok (.iconst 0, 1) := by decide +kernel
theorem d_M_stores_15 : decode prog_5_method_12_code 15 = .ok (.istore_n 3, 1) := by decide +kernel
theorem d_M_stores_16 : decode prog_5_method_12_code 16 = .ok (.aload_n 0, 1) := by decide +kernel
theorem d_M_stores_17 : decode prog_5_method_12_code 17 = .ok (.getfield 42, 3) := by decide +kernel
theorem d_M_stores_20 : decode prog_5_method_12_code 20 = .ok (.iload_n 1, 1) := by decide +kernel
theorem d_M_stores_21 : decode prog_5_method_12_code 21 = .ok (.iload_n 2, 1) := by decide +kernel
theorem d_M_stores_22 : decode prog_5_method_12_code 22 = .ok (.iastore, 1) := by decide +kernel
theorem d_M_stores_23 : decode prog_5_method_12_code 23 = .ok (.iload_n 3, 1) := by decide +kernel
theorem d_M_stores_24 : decode prog_5_method_12_code 24 = .ok (.ifCond .ne 8, 3) := by decide +kernel
theorem d_M_stores_27 : decode prog_5_method_12_code 27 = .ok (.iload_n 2, 1) := by decide +kernel
theorem d_M_stores_28 : decode prog_5_method_12_code 28 = .ok (.iconst (-1), 1) := by decide +kernel
theorem d_M_stores_29 : decode prog_5_method_12_code 29 = .ok (.if_icmp .eq 7, 3) := by decide +kernel
theorem d_M_stores_32 : decode prog_5_method_12_code 32 = .ok (.iconst 1, 1) := by decide +kernel
theorem d_M_stores_33 : decode prog_5_method_12_code 33 = .ok (.goto 4, 3) := by decide +kernel
theorem d_M_stores_36 : decode prog_5_method_12_code 36 = .ok (.iconst 0, 1) := by decide +kernel
theorem d_M_stores_37 : decode prog_5_method_12_code 37 = .ok (.ireturn, 1) := by decide +kernel
theorem d_M_does_0 : decode prog_5_method_13_code 0 = .ok (.aload_n 0, 1) := by decide +kernel
theorem d_M_does_1 : decode prog_5_method_13_code 1 = .ok (.getfield 13, 3) := by decide +kernel
theorem d_M_does_4 : decode prog_5_method_13_code 4 = .ok (.iload_n 1, 1) := by decide +kernel
theorem d_M_does_5 : decode prog_5_method_13_code 5 = .ok (.iaload, 1) := by decide +kernel
theorem d_M_does_6 : decode prog_5_method_13_code 6 = .ok (.istore_n 2, 1) := by decide +kernel
theorem d_M_does_7 : decode prog_5_method_13_code 7 = .ok (.aload_n 0, 1) := by decide +kernel
theorem d_M_does_8 : decode prog_5_method_13_code 8 = .ok (.getfield 16, 3) := by decide +kernel
theorem d_M_does_11 : decode prog_5_method_13_code 11 = .ok (.iload_n 1, 1) := by decide +kernel
theorem d_M_does_12 : decode prog_5_method_13_code 12 = .ok (.laload, 1) := by decide +kernel
theorem d_M_does_13 : decode prog_5_method_13_code 13 = .ok (.l2i, 1) := by decide +kernel
theorem d_M_does_14 : decode prog_5_method_13_code 14 = .ok (.istore_n 3, 1) := by decide +kernel
theorem d_M_does_15 : decode prog_5_method_13_code 15 = .ok (.aload_n 0, 1) := by decide +kernel
theorem d_M_does_16 : decode prog_5_method_13_code 16 = .ok (.getfield 7, 3) := by decide +kernel
theorem d_M_does_19 : decode prog_5_method_13_code 19 = .ok (.iload_n 1, 1) := by decide +kernel
theorem d_M_does_20 : decode prog_5_method_13_code 20 = .ok (.iaload, 1) := by decide +kernel
theorem d_M_does_21 : decode prog_5_method_13_code 21 = .ok (.tableswitch 203 0 9 #[55, 67, 79, 99, 112, 146, 153, 160, 182, 194], 55) := by decide +kernel
theorem d_M_does_76 : decode prog_5_method_13_code 76 = .ok (.aload_n 0, 1) := by decide +kernel
theorem d_M_does_77 : decode prog_5_method_13_code 77 = .ok (.bipush 100, 2) := by decide +kernel
theorem d_M_does_79 : decode prog_5_method_13_code 79 = .ok (.iload_n 2, 1) := by decide +kernel
theorem d_M_does_80 : decode prog_5_method_13_code 80 = .ok (.imul, 1) := by decide +kernel
theorem d_M_does_81 : decode prog_5_method_13_code 81 = .ok (.iload_n 3, 1) := by decide +kernel
theorem d_M_does_82 : decode prog_5_method_13_code 82 = .ok (.iadd, 1) := by decide +kernel
theorem d_M_does_83 : decode prog_5_method_13_code 83 = .ok (.iconst 1, 1) := by decide +kernel
theorem d_M_does_84 : decode prog_5_method_13_code 84 = .ok (.invokevirtual 101, 3) := by decide +kernel
theorem d_M_does_87 : decode prog_5_method_13_code 87 = .ok (.ireturn, 1) := by decide +kernel
theorem d_M_does_88 : decode prog_5_method_13_code 88 = .ok (.aload_n 0, 1) := by decide +kernel
theorem d_M_does_89 : decode prog_5_method_13_code 89 = .ok (.bipush 100, 2) := by decide +kernel
theorem d_M_does_91 : decode prog_5_method_13_code 91 = .ok (.iload_n 2, 1) := by decide +kernel
theorem d_M_does_92 : decode prog_5_method_13_code 92 = .ok (.imul, 1) := by decide +kernel
theorem d_M_does_93 : decode prog_5_method_13_code 93 = .ok (.iload_n 3, 1) := by decide +kernel
theorem d_M_does_94 : decode prog_5_method_13_code 94 = .ok (.iadd, 1) := by decide +kernel
theorem d_M_does_95 : decode prog_5_method_13_code 95 = .ok (.iconst 0, 1) := by decide +kernel
theorem d_M_does_96 : decode prog_5_method_13_code 96 = .ok (.invokevirtual 101, 3) := by decide +kernel
theorem d_M_does_99 : decode prog_5_method_13_code 99 = .ok (.ireturn, 1) := by decide +kernel
theorem d_M_does_100 : decode prog_5_method_13_code 100 = .ok (.aload_n 0, 1) := by decide +kernel
theorem d_M_does_101 : decode prog_5_method_13_code 101 = .ok (.getfield 30, 3) := by decide +kernel
theorem d_M_does_104 : decode prog_5_method_13_code 104 = .ok (.iload_n 2, 1) := by decide +kernel
theorem d_M_does_105 : decode prog_5_method_13_code 105 = .ok (.iaload, 1) := by decide +kernel
theorem d_M_does_106 : decode prog_5_method_13_code 106 = .ok (.ifCond .eq 5, 3) := by decide +kernel
theorem d_M_does_109 : decode prog_5_method_13_code 109 = .ok (.iconst 0, 1) := by decide +kernel
theorem d_M_does_110 : decode prog_5_method_13_code 110 = .ok (.ireturn, 1) := by decide +kernel
theorem d_M_does_111 : decode prog_5_method_13_code 111 = .ok (.aload_n 0, 1) := by decide +kernel
theorem d_M_does_112 : decode prog_5_method_13_code 112 = .ok (.getfield 27, 3) := by decide +kernel
theorem d_M_does_115 : decode prog_5_method_13_code 115 = .ok (.iload_n 2, 1) := by decide +kernel
theorem d_M_does_116 : decode prog_5_method_13_code 116 = .ok (.iload_n 3, 1) := by decide +kernel
theorem d_M_does_117 : decode prog_5_method_13_code 117 = .ok (.iastore, 1) := by decide +kernel
theorem d_M_does_118 : decode prog_5_method_13_code 118 = .ok (.iconst 1, 1) := by decide +kernel
theorem d_M_does_119 : decode prog_5_method_13_code 119 = .ok (.ireturn, 1) := by decide +kernel
theorem d_M_does_120 : decode prog_5_method_13_code 120 = .ok (.aload_n 0, 1) := by decide +kernel
theorem d_M_does_121 : decode prog_5_method_13_code 121 = .ok (.iload_n 2, 1) := by decide +kernel
theorem d_M_does_122 : decode prog_5_method_13_code 122 = .ok (.iload_n 3, 1) := by decide +kernel
theorem d_M_does_123 : decode prog_5_method_13_code 123 = .ok (.aload_n 0, 1) := by decide +kernel
theorem d_M_does_124 : decode prog_5_method_13_code 124 = .ok (.getfield 20, 3) := by decide +kernel
theorem d_M_does_127 : decode prog_5_method_13_code 127 = .ok (.iload_n 1, 1) := by decide +kernel
theorem d_M_does_128 : decode prog_5_method_13_code 128 = .ok (.laload, 1) := by decide +kernel
theorem d_M_does_129 : decode prog_5_method_13_code 129 = .ok (.invokevirtual 105, 3) := by decide +kernel
theorem d_M_does_132 : decode prog_5_method_13_code 132 = .ok (.ireturn, 1) := by decide +kernel
theorem d_M_does_133 : decode prog_5_method_13_code 133 = .ok (.aload_n 0, 1) := by decide +kernel
theorem d_M_does_134 : decode prog_5_method_13_code 134 = .ok (.getfield 54, 3) := by decide +kernel
theorem d_M_does_137 : decode prog_5_method_13_code 137 = .ok (.iload_n 1, 1) := by decide +kernel
theorem d_M_does_138 : decode prog_5_method_13_code 138 = .ok (.aload_n 0, 1) := by decide +kernel
theorem d_M_does_139 : decode prog_5_method_13_code 139 = .ok (.getfield 30, 3) := by decide +kernel
theorem d_M_does_142 : decode prog_5_method_13_code 142 = .ok (.iload_n 2, 1) := by decide +kernel
theorem d_M_does_143 : decode prog_5_method_13_code 143 = .ok (.iaload, 1) := by decide +kernel
theorem d_M_does_144 : decode prog_5_method_13_code 144 = .ok (.iastore, 1) := by decide +kernel
theorem d_M_does_145 : decode prog_5_method_13_code 145 = .ok (.aload_n 0, 1) := by decide +kernel
theorem d_M_does_146 : decode prog_5_method_13_code 146 = .ok (.getfield 30, 3) := by decide +kernel
theorem d_M_does_149 : decode prog_5_method_13_code 149 = .ok (.iload_n 2, 1) := by decide +kernel
theorem d_M_does_150 : decode prog_5_method_13_code 150 = .ok (.iconst 0, 1) := by decide +kernel
theorem d_M_does_151 : decode prog_5_method_13_code 151 = .ok (.iastore, 1) := by decide +kernel
theorem d_M_does_152 : decode prog_5_method_13_code 152 = .ok (.aload_n 0, 1) := by decide +kernel
theorem d_M_does_153 : decode prog_5_method_13_code 153 = .ok (.getfield 54, 3) := by decide +kernel
theorem d_M_does_156 : decode prog_5_method_13_code 156 = .ok (.iload_n 1, 1) := by decide +kernel
theorem d_M_does_157 : decode prog_5_method_13_code 157 = .ok (.iaload, 1) := by decide +kernel
theorem d_M_does_158 : decode prog_5_method_13_code 158 = .ok (.ifCond .eq 7, 3) := by decide +kernel
theorem d_M_does_161 : decode prog_5_method_13_code 161 = .ok (.iconst 1, 1) := by decide +kernel
theorem d_M_does_162 : decode prog_5_method_13_code 162 = .ok (.goto 4, 3) := by decide +kernel
theorem d_M_does_165 : decode prog_5_method_13_code 165 = .ok (.iconst 0, 1) := by decide +kernel
theorem d_M_does_166 : decode prog_5_method_13_code 166 = .ok (.ireturn, 1) := by decide +kernel
theorem d_M_does_167 : decode prog_5_method_13_code 167 = .ok (.aload_n 0, 1) := by decide +kernel
theorem d_M_does_168 : decode prog_5_method_13_code 168 = .ok (.iload_n 2, 1) := by decide +kernel
theorem d_M_does_169 : decode prog_5_method_13_code 169 = .ok (.iload_n 3, 1) := by decide +kernel
theorem d_M_does_170 : decode prog_5_method_13_code 170 = .ok (.invokevirtual 109, 3) := by decide +kernel
theorem d_M_does_173 : decode prog_5_method_13_code 173 = .ok (.ireturn, 1) := by decide +kernel
theorem d_M_does_174 : decode prog_5_method_13_code 174 = .ok (.aload_n 0, 1) := by decide +kernel
theorem d_M_does_175 : decode prog_5_method_13_code 175 = .ok (.iload_n 2, 1) := by decide +kernel
theorem d_M_does_176 : decode prog_5_method_13_code 176 = .ok (.iload_n 3, 1) := by decide +kernel
theorem d_M_does_177 : decode prog_5_method_13_code 177 = .ok (.invokevirtual 97, 3) := by decide +kernel
theorem d_M_does_180 : decode prog_5_method_13_code 180 = .ok (.ireturn, 1) := by decide +kernel
theorem d_M_does_181 : decode prog_5_method_13_code 181 = .ok (.aload_n 0, 1) := by decide +kernel
theorem d_M_does_182 : decode prog_5_method_13_code 182 = .ok (.bipush 6, 2) := by decide +kernel
theorem d_M_does_184 : decode prog_5_method_13_code 184 = .ok (.iload_n 2, 1) := by decide +kernel
theorem d_M_does_185 : decode prog_5_method_13_code 185 = .ok (.imul, 1) := by decide +kernel
theorem d_M_does_186 : decode prog_5_method_13_code 186 = .ok (.iload_n 3, 1) := by decide +kernel
theorem d_M_does_187 : decode prog_5_method_13_code 187 = .ok (.iadd, 1) := by decide +kernel
theorem d_M_does_188 : decode prog_5_method_13_code 188 = .ok (.aload_n 0, 1) := by decide +kernel
theorem d_M_does_189 : decode prog_5_method_13_code 189 = .ok (.getfield 20, 3) := by decide +kernel
theorem d_M_does_192 : decode prog_5_method_13_code 192 = .ok (.iload_n 1, 1) := by decide +kernel
theorem d_M_does_193 : decode prog_5_method_13_code 193 = .ok (.laload, 1) := by decide +kernel
theorem d_M_does_194 : decode prog_5_method_13_code 194 = .ok (.ldc2_w 112, 3) := by decide +kernel
theorem d_M_does_197 : decode prog_5_method_13_code 197 = .ok (.lrem, 1) := by decide +kernel
theorem d_M_does_198 : decode prog_5_method_13_code 198 = .ok (.l2i, 1) := by decide +kernel
theorem d_M_does_199 : decode prog_5_method_13_code 199 = .ok (.invokevirtual 114, 3) := by decide +kernel
theorem d_M_does_202 : decode prog_5_method_13_code 202 = .ok (.ireturn, 1) := by decide +kernel
theorem d_M_does_203 : decode prog_5_method_13_code 203 = .ok (.aload_n 0, 1) := by decide +kernel
theorem d_M_does_204 : decode prog_5_method_13_code 204 = .ok (.bipush 6, 2) := by decide +kernel
theorem d_M_does_206 : decode prog_5_method_13_code 206 = .ok (.iload_n 2, 1) := by decide +kernel
theorem d_M_does_207 : decode prog_5_method_13_code 207 = .ok (.imul, 1) := by decide +kernel
theorem d_M_does_208 : decode prog_5_method_13_code 208 = .ok (.iload_n 3, 1) := by decide +kernel
theorem d_M_does_209 : decode prog_5_method_13_code 209 = .ok (.iadd, 1) := by decide +kernel
theorem d_M_does_210 : decode prog_5_method_13_code 210 = .ok (.iconst (-1), 1) := by decide +kernel
theorem d_M_does_211 : decode prog_5_method_13_code 211 = .ok (.invokevirtual 114, 3) := by decide +kernel
theorem d_M_does_214 : decode prog_5_method_13_code 214 = .ok (.ireturn, 1) := by decide +kernel
theorem d_M_does_215 : decode prog_5_method_13_code 215 = .ok (.aload_n 0, 1) := by decide +kernel
theorem d_M_does_216 : decode prog_5_method_13_code 216 = .ok (.getfield 45, 3) := by decide +kernel
theorem d_M_does_219 : decode prog_5_method_13_code 219 = .ok (.iload_n 2, 1) := by decide +kernel
theorem d_M_does_220 : decode prog_5_method_13_code 220 = .ok (.iload_n 3, 1) := by decide +kernel
theorem d_M_does_221 : decode prog_5_method_13_code 221 = .ok (.iastore, 1) := by decide +kernel
theorem d_M_does_222 : decode prog_5_method_13_code 222 = .ok (.iconst 1, 1) := by decide +kernel
theorem d_M_does_223 : decode prog_5_method_13_code 223 = .ok (.ireturn, 1) := by decide +kernel
theorem d_M_does_224 : decode prog_5_method_13_code 224 = .ok (.aload_n 0, 1) := by decide +kernel
theorem d_M_does_225 : decode prog_5_method_13_code 225 = .ok (.getfield 48, 3) := by decide +kernel
theorem d_M_does_228 : decode prog_5_method_13_code 228 = .ok (.iload_n 2, 1) := by decide +kernel
theorem d_M_does_229 : decode prog_5_method_13_code 229 = .ok (.iload_n 3, 1) := by decide +kernel
theorem d_M_does_230 : decode prog_5_method_13_code 230 = .ok (.iastore, 1) := by decide +kernel
theorem d_M_does_231 : decode prog_5_method_13_code 231 = .ok (.iconst 1, 1) := by decide +kernel
theorem d_M_does_232 : decode prog_5_method_13_code 232 = .ok (.ireturn, 1) := by decide +kernel
theorem d_M_go_0 : decode prog_5_method_14_code 0 = .ok (.aload_n 0, 1) := by decide +kernel
theorem d_M_go_1 : decode prog_5_method_14_code 1 = .ok (.invokevirtual 117, 3) := by decide +kernel
theorem d_M_go_4 : decode prog_5_method_14_code 4 = .ok (.iconst 0, 1) := by decide +kernel
theorem d_M_go_5 : decode prog_5_method_14_code 5 = .ok (.istore 6, 2) := by decide +kernel
theorem d_M_go_7 : decode prog_5_method_14_code 7 = .ok (.iload 6, 2) := by decide +kernel
theorem d_M_go_9 : decode prog_5_method_14_code 9 = .ok (.aload_n 0, 1) := by decide +kernel
theorem d_M_go_10 : decode prog_5_method_14_code 10 = .ok (.getfield 84, 3) := by decide +kernel
theorem d_M_go_13 : decode prog_5_method_14_code 13 = .ok (.if_icmp .ge 142, 3) := by decide +kernel
theorem d_M_go_16 : decode prog_5_method_14_code 16 = .ok (.aload_n 0, 1) := by decide +kernel
theorem d_M_go_17 : decode prog_5_method_14_code 17 = .ok (.getfield 20, 3) := by decide +kernel
theorem d_M_go_20 : decode prog_5_method_14_code 20 = .ok (.iload 6, 2) := by decide +kernel
theorem d_M_go_22 : decode prog_5_method_14_code 22 = .ok (.laload, 1) := by decide +kernel
theorem d_M_go_23 : decode prog_5_method_14_code 23 = .ok (.lload_n 1, 1) := by decide +kernel
theorem d_M_go_24 : decode prog_5_method_14_code 24 = .ok (.lcmp, 1) := by decide +kernel
theorem d_M_go_25 : decode prog_5_method_14_code 25 = .ok (.ifCond .gt 124, 3) := by decide +kernel
theorem d_M_go_28 : decode prog_5_method_14_code 28 = .ok (.iload 6, 2) := by decide +kernel
theorem d_M_go_30 : decode prog_5_method_14_code 30 = .ok (.iload_n 3, 1) := by decide +kernel
theorem d_M_go_31 : decode prog_5_method_14_code 31 = .ok (.if_icmp .eq 118, 3) := by decide +kernel
theorem d_M_go_34 : decode prog_5_method_14_code 34 = .ok (.iload 6, 2) := by decide +kernel
theorem d_M_go_36 : decode prog_5_method_14_code 36 = .ok (.iload 4, 2) := by decide +kernel
theorem d_M_go_38 : decode prog_5_method_14_code 38 = .ok (.if_icmp .eq 111, 3) := by decide +kernel
theorem d_M_go_41 : decode prog_5_method_14_code 41 = .ok (.aload_n 0, 1) := by decide +kernel
theorem d_M_go_42 : decode prog_5_method_14_code 42 = .ok (.getfield 51, 3) := by decide +kernel
theorem d_M_go_45 : decode prog_5_method_14_code 45 = .ok (.iload 6, 2) := by decide +kernel
theorem d_M_go_47 : decode prog_5_method_14_code 47 = .ok (.aload_n 0, 1) := by decide +kernel
theorem d_M_go_48 : decode prog_5_method_14_code 48 = .ok (.iload 6, 2) := by decide +kernel
theorem d_M_go_50 : decode prog_5_method_14_code 50 = .ok (.invokevirtual 120, 3) := by decide +kernel
theorem d_M_go_53 : decode prog_5_method_14_code 53 = .ok (.ifCond .ne 7, 3) := by decide +kernel
theorem d_M_go_56 : decode prog_5_method_14_code 56 = .ok (.iconst 1, 1) := by decide +kernel
theorem d_M_go_57 : decode prog_5_method_14_code 57 = .ok (.goto 4, 3) := by decide +kernel
theorem d_M_go_60 : decode prog_5_method_14_code 60 = .ok (.iconst 0, 1) := by decide +kernel
theorem d_M_go_61 : decode prog_5_method_14_code 61 = .ok (.bastore, 1) := by decide +kernel
theorem d_M_go_62 : decode prog_5_method_14_code 62 = .ok (.aload_n 0, 1) := by decide +kernel
theorem d_M_go_63 : decode prog_5_method_14_code 63 = .ok (.dup, 1) := by decide +kernel
theorem d_M_go_64 : decode prog_5_method_14_code 64 = .ok (.getfield 87, 3) := by decide +kernel
theorem d_M_go_67 : decode prog_5_method_14_code 67 = .ok (.aload_n 0, 1) := by decide +kernel
theorem d_M_go_68 : decode prog_5_method_14_code 68 = .ok (.getfield 51, 3) := by decide +kernel
theorem d_M_go_71 : decode prog_5_method_14_code 71 = .ok (.iload 6, 2) := by decide +kernel
theorem d_M_go_73 : decode prog_5_method_14_code 73 = .ok (.baload, 1) := by decide +kernel
theorem d_M_go_74 : decode prog_5_method_14_code 74 = .ok (.ifCond .eq 7, 3) := by decide +kernel
theorem d_M_go_77 : decode prog_5_method_14_code 77 = .ok (.iconst 1, 1) := by decide +kernel
theorem d_M_go_78 : decode prog_5_method_14_code 78 = .ok (.goto 4, 3) := by decide +kernel
theorem d_M_go_81 : decode prog_5_method_14_code 81 = .ok (.iconst 0, 1) := by decide +kernel
theorem d_M_go_82 : decode prog_5_method_14_code 82 = .ok (.iadd, 1) := by decide +kernel
theorem d_M_go_83 : decode prog_5_method_14_code 83 = .ok (.putfield 87, 3) := by decide +kernel
theorem d_M_go_86 : decode prog_5_method_14_code 86 = .ok (.iconst 0, 1) := by decide +kernel
theorem d_M_go_87 : decode prog_5_method_14_code 87 = .ok (.istore 7, 2) := by decide +kernel
theorem d_M_go_89 : decode prog_5_method_14_code 89 = .ok (.iconst 1, 1) := by decide +kernel
theorem d_M_go_90 : decode prog_5_method_14_code 90 = .ok (.istore 8, 2) := by decide +kernel
theorem d_M_go_92 : decode prog_5_method_14_code 92 = .ok (.iload 8, 2) := by decide +kernel
theorem d_M_go_94 : decode prog_5_method_14_code 94 = .ok (.bipush 21, 2) := by decide +kernel
theorem d_M_go_96 : decode prog_5_method_14_code 96 = .ok (.if_icmp .ge 31, 3) := by decide +kernel
theorem d_M_go_99 : decode prog_5_method_14_code 99 = .ok (.iload 7, 2) := by decide +kernel
theorem d_M_go_101 : decode prog_5_method_14_code 101 = .ok (.aload_n 0, 1) := by decide +kernel
theorem d_M_go_102 : decode prog_5_method_14_code 102 = .ok (.getfield 30, 3) := by decide +kernel
theorem d_M_go_105 : decode prog_5_method_14_code 105 = .ok (.iload 8, 2) := by decide +kernel
theorem d_M_go_107 : decode prog_5_method_14_code 107 = .ok (.iaload, 1) := by decide +kernel
theorem d_M_go_108 : decode prog_5_method_14_code 108 = .ok (.iload 5, 2) := by decide +kernel
theorem d_M_go_110 : decode prog_5_method_14_code 110 = .ok (.if_icmp .ne 7, 3) := by decide +kernel
theorem d_M_go_113 : decode prog_5_method_14_code 113 = .ok (.iconst 1, 1) := by decide +kernel
theorem d_M_go_114 : decode prog_5_method_14_code 114 = .ok (.goto 4, 3) := by decide +kernel
theorem d_M_go_117 : decode prog_5_method_14_code 117 = .ok (.iconst 0, 1) := by decide +kernel
theorem d_M_go_118 : decode prog_5_method_14_code 118 = .ok (.iadd, 1) := by decide +kernel
theorem d_M_go_119 : decode prog_5_method_14_code 119 = .ok (.istore 7, 2) := by decide +kernel
theorem d_M_go_121 : decode prog_5_method_14_code 121 = .ok (.iinc 8 1, 3) := by decide +kernel
theorem d_M_go_124 : decode prog_5_method_14_code 124 = .ok (.goto (-32), 3) := by decide +kernel
theorem d_M_go_127 : decode prog_5_method_14_code 127 = .ok (.aload_n 0, 1) := by decide +kernel
theorem d_M_go_128 : decode prog_5_method_14_code 128 = .ok (.iload 7, 2) := by decide +kernel
theorem d_M_go_130 : decode prog_5_method_14_code 130 = .ok (.aload_n 0, 1) := by decide +kernel
theorem d_M_go_131 : decode prog_5_method_14_code 131 = .ok (.getfield 90, 3) := by decide +kernel
theorem d_M_go_134 : decode prog_5_method_14_code 134 = .ok (.if_icmp .le 8, 3) := by decide +kernel
theorem d_M_go_137 : decode prog_5_method_14_code 137 = .ok (.iload 7, 2) := by decide +kernel
theorem d_M_go_139 : decode prog_5_method_14_code 139 = .ok (.goto 7, 3) := by decide +kernel
theorem d_M_go_142 : decode prog_5_method_14_code 142 = .ok (.aload_n 0, 1) := by decide +kernel
theorem d_M_go_143 : decode prog_5_method_14_code 143 = .ok (.getfield 90, 3) := by decide +kernel
theorem d_M_go_146 : decode prog_5_method_14_code 146 = .ok (.putfield 90, 3) := by decide +kernel
theorem d_M_go_149 : decode prog_5_method_14_code 149 = .ok (.iinc 6 1, 3) := by decide +kernel
theorem d_M_go_152 : decode prog_5_method_14_code 152 = .ok (.goto (-145), 3) := by decide +kernel
theorem d_M_go_155 : decode prog_5_method_14_code 155 = .ok (.return_, 1) := by decide +kernel
theorem d_M_all_0 : decode prog_5_method_15_code 0 = .ok (.aload_n 0, 1) := by decide +kernel
theorem d_M_all_1 : decode prog_5_method_15_code 1 = .ok (.ldc2_w 82, 3) := by decide +kernel
theorem d_M_all_4 : decode prog_5_method_15_code 4 = .ok (.iconst (-1), 1) := by decide +kernel
theorem d_M_all_5 : decode prog_5_method_15_code 5 = .ok (.iconst (-1), 1) := by decide +kernel
theorem d_M_all_6 : decode prog_5_method_15_code 6 = .ok (.iconst (-1), 1) := by decide +kernel
theorem d_M_all_7 : decode prog_5_method_15_code 7 = .ok (.invokevirtual 124, 3) := by decide +kernel
theorem d_M_all_10 : decode prog_5_method_15_code 10 = .ok (.return_, 1) := by decide +kernel
theorem d_M_isNumber_0 : decode prog_5_method_16_code 0 = .ok (.iload_n 0, 1) := by decide +kernel
theorem d_M_isNumber_1 : decode prog_5_method_16_code 1 = .ok (.ifCond .le 13, 3) := by decide +kernel
theorem d_M_isNumber_4 : decode prog_5_method_16_code 4 = .ok (.iload_n 0, 1) := by decide +kernel
theorem d_M_isNumber_5 : decode prog_5_method_16_code 5 = .ok (.bipush 21, 2) := by decide +kernel
theorem d_M_isNumber_7 : decode prog_5_method_16_code 7 = .ok (.if_icmp .ge 7, 3) := by decide +kernel
theorem d_M_isNumber_10 : decode prog_5_method_16_code 10 = .ok (.iconst 1, 1) := by decide +kernel
theorem d_M_isNumber_11 : decode prog_5_method_16_code 11 = .ok (.goto 4, 3) := by decide +kernel
theorem d_M_isNumber_14 : decode prog_5_method_16_code 14 = .ok (.iconst 0, 1) := by decide +kernel
theorem d_M_isNumber_15 : decode prog_5_method_16_code 15 = .ok (.ireturn, 1) := by decide +kernel
theorem d_M_counts_0 : decode prog_5_method_17_code 0 = .ok (.aload_n 0, 1) := by decide +kernel
theorem d_M_counts_1 : decode prog_5_method_17_code 1 = .ok (.iconst 0, 1) := by decide +kernel
theorem d_M_counts_2 : decode prog_5_method_17_code 2 = .ok (.putfield 60, 3) := by decide +kernel
theorem d_M_counts_5 : decode prog_5_method_17_code 5 = .ok (.iload_n 1, 1) := by decide +kernel
theorem d_M_counts_6 : decode prog_5_method_17_code 6 = .ok (.ifCond .lt 11, 3) := by decide +kernel
theorem d_M_counts_9 : decode prog_5_method_17_code 9 = .ok (.iload_n 1, 1) := by decide +kernel
theorem d_M_counts_10 : decode prog_5_method_17_code 10 = .ok (.aload_n 0, 1) := by decide +kernel
theorem d_M_counts_11 : decode prog_5_method_17_code 11 = .ok (.getfield 84, 3) := by decide +kernel
theorem d_M_counts_14 : decode prog_5_method_17_code 14 = .ok (.if_icmp .lt 5, 3) := by decide +kernel
theorem d_M_counts_17 : decode prog_5_method_17_code 17 = .ok (.iconst (-1), 1) := by decide +kernel
theorem d_M_counts_18 : decode prog_5_method_17_code 18 = .ok (.ireturn, 1) := by decide +kernel
theorem d_M_counts_19 : decode prog_5_method_17_code 19 = .ok (.aload_n 0, 1) := by decide +kernel
theorem d_M_counts_20 : decode prog_5_method_17_code 20 = .ok (.invokevirtual 128, 3) := by decide +kernel
theorem d_M_counts_23 : decode prog_5_method_17_code 23 = .ok (.aload_n 0, 1) := by decide +kernel
theorem d_M_counts_24 : decode prog_5_method_17_code 24 = .ok (.getfield 51, 3) := by decide +kernel
theorem d_M_counts_27 : decode prog_5_method_17_code 27 = .ok (.iload_n 1, 1) := by decide +kernel
theorem d_M_counts_28 : decode prog_5_method_17_code 28 = .ok (.baload, 1) := by decide +kernel
theorem d_M_counts_29 : decode prog_5_method_17_code 29 = .ok (.ifCond .eq 7, 3) := by decide +kernel
theorem d_M_counts_32 : decode prog_5_method_17_code 32 = .ok (.iconst 0, 1) := by decide +kernel
theorem d_M_counts_33 : decode prog_5_method_17_code 33 = .ok (.goto 4, 3) := by decide +kernel
theorem d_M_counts_36 : decode prog_5_method_17_code 36 = .ok (.iconst 1, 1) := by decide +kernel
theorem d_M_counts_37 : decode prog_5_method_17_code 37 = .ok (.ireturn, 1) := by decide +kernel
theorem d_M_events_0 : decode prog_5_method_18_code 0 = .ok (.aload_n 0, 1) := by decide +kernel
theorem d_M_events_1 : decode prog_5_method_18_code 1 = .ok (.iconst 0, 1) := by decide +kernel
theorem d_M_events_2 : decode prog_5_method_18_code 2 = .ok (.putfield 60, 3) := by decide +kernel
theorem d_M_events_5 : decode prog_5_method_18_code 5 = .ok (.aload_n 0, 1) := by decide +kernel
theorem d_M_events_6 : decode prog_5_method_18_code 6 = .ok (.getfield 84, 3) := by decide +kernel
theorem d_M_events_9 : decode prog_5_method_18_code 9 = .ok (.ireturn, 1) := by decide +kernel
theorem d_M_refused_0 : decode prog_5_method_19_code 0 = .ok (.aload_n 0, 1) := by decide +kernel
theorem d_M_refused_1 : decode prog_5_method_19_code 1 = .ok (.iconst 0, 1) := by decide +kernel
theorem d_M_refused_2 : decode prog_5_method_19_code 2 = .ok (.putfield 60, 3) := by decide +kernel
theorem d_M_refused_5 : decode prog_5_method_19_code 5 = .ok (.aload_n 0, 1) := by decide +kernel
theorem d_M_refused_6 : decode prog_5_method_19_code 6 = .ok (.invokevirtual 128, 3) := by decide +kernel
theorem d_M_refused_9 : decode prog_5_method_19_code 9 = .ok (.aload_n 0, 1) := by decide +kernel
theorem d_M_refused_10 : decode prog_5_method_19_code 10 = .ok (.getfield 87, 3) := by decide +kernel
theorem d_M_refused_13 : decode prog_5_method_19_code 13 = .ok (.ireturn, 1) := by decide +kernel
theorem d_M_state_0 : decode prog_5_method_20_code 0 = .ok (.aload_n 0, 1) := by decide +kernel
theorem d_M_state_1 : decode prog_5_method_20_code 1 = .ok (.iconst 0, 1) := by decide +kernel
theorem d_M_state_2 : decode prog_5_method_20_code 2 = .ok (.putfield 60, 3) := by decide +kernel
theorem d_M_state_5 : decode prog_5_method_20_code 5 = .ok (.iload_n 2, 1) := by decide +kernel
theorem d_M_state_6 : decode prog_5_method_20_code 6 = .ok (.invokestatic 131, 3) := by decide +kernel
theorem d_M_state_9 : decode prog_5_method_20_code 9 = .ok (.ifCond .ne 5, 3) := by decide +kernel
theorem d_M_state_12 : decode prog_5_method_20_code 12 = .ok (.iconst (-1), 1) := by decide +kernel
theorem d_M_state_13 : decode prog_5_method_20_code 13 = .ok (.ireturn, 1) := by decide +kernel
theorem d_M_state_14 : decode prog_5_method_20_code 14 = .ok (.aload_n 0, 1) := by decide +kernel
theorem d_M_state_15 : decode prog_5_method_20_code 15 = .ok (.lload_n 3, 1) := by decide +kernel
theorem d_M_state_16 : decode prog_5_method_20_code 16 = .ok (.iconst (-1), 1) := by decide +kernel
theorem d_M_state_17 : decode prog_5_method_20_code 17 = .ok (.iconst (-1), 1) := by decide +kernel
theorem d_M_state_18 : decode prog_5_method_20_code 18 = .ok (.iconst (-1), 1) := by decide +kernel
theorem d_M_state_19 : decode prog_5_method_20_code 19 = .ok (.invokevirtual 124, 3) := by decide +kernel
theorem d_M_state_22 : decode prog_5_method_20_code 22 = .ok (.iload_n 1, 1) := by decide +kernel
theorem d_M_state_23 : decode prog_5_method_20_code 23 = .ok (.tableswitch 103 0 3 #[29, 36, 43, 50], 29) := by decide +kernel
theorem d_M_state_52 : decode prog_5_method_20_code 52 = .ok (.aload_n 0, 1) := by decide +kernel
theorem d_M_state_53 : decode prog_5_method_20_code 53 = .ok (.getfield 27, 3) := by decide +kernel
theorem d_M_state_56 : decode prog_5_method_20_code 56 = .ok (.iload_n 2, 1) := by decide +kernel
theorem d_M_state_57 : decode prog_5_method_20_code 57 = .ok (.iaload, 1) := by decide +kernel
theorem d_M_state_58 : decode prog_5_method_20_code 58 = .ok (.ireturn, 1) := by decide +kernel
theorem d_M_state_59 : decode prog_5_method_20_code 59 = .ok (.aload_n 0, 1) := by decide +kernel
theorem d_M_state_60 : decode prog_5_method_20_code 60 = .ok (.getfield 30, 3) := by decide +kernel
theorem d_M_state_63 : decode prog_5_method_20_code 63 = .ok (.iload_n 2, 1) := by decide +kernel
theorem d_M_state_64 : decode prog_5_method_20_code 64 = .ok (.iaload, 1) := by decide +kernel
theorem d_M_state_65 : decode prog_5_method_20_code 65 = .ok (.ireturn, 1) := by decide +kernel
theorem d_M_state_66 : decode prog_5_method_20_code 66 = .ok (.aload_n 0, 1) := by decide +kernel
theorem d_M_state_67 : decode prog_5_method_20_code 67 = .ok (.getfield 45, 3) := by decide +kernel
theorem d_M_state_70 : decode prog_5_method_20_code 70 = .ok (.iload_n 2, 1) := by decide +kernel
theorem d_M_state_71 : decode prog_5_method_20_code 71 = .ok (.iaload, 1) := by decide +kernel
theorem d_M_state_72 : decode prog_5_method_20_code 72 = .ok (.ireturn, 1) := by decide +kernel
theorem d_M_state_73 : decode prog_5_method_20_code 73 = .ok (.iconst 0, 1) := by decide +kernel
theorem d_M_state_74 : decode prog_5_method_20_code 74 = .ok (.istore 5, 2) := by decide +kernel
theorem d_M_state_76 : decode prog_5_method_20_code 76 = .ok (.iconst 1, 1) := by decide +kernel
theorem d_M_state_77 : decode prog_5_method_20_code 77 = .ok (.istore 6, 2) := by decide +kernel
theorem d_M_state_79 : decode prog_5_method_20_code 79 = .ok (.iload 6, 2) := by decide +kernel
theorem d_M_state_81 : decode prog_5_method_20_code 81 = .ok (.bipush 21, 2) := by decide +kernel
theorem d_M_state_83 : decode prog_5_method_20_code 83 = .ok (.if_icmp .ge 40, 3) := by decide +kernel
theorem d_M_state_86 : decode prog_5_method_20_code 86 = .ok (.iload 5, 2) := by decide +kernel
theorem d_M_state_88 : decode prog_5_method_20_code 88 = .ok (.aload_n 0, 1) := by decide +kernel
theorem d_M_state_89 : decode prog_5_method_20_code 89 = .ok (.getfield 27, 3) := by decide +kernel
theorem d_M_state_92 : decode prog_5_method_20_code 92 = .ok (.iload 6, 2) := by decide +kernel
theorem d_M_state_94 : decode prog_5_method_20_code 94 = .ok (.iaload, 1) := by decide +kernel
theorem d_M_state_95 : decode prog_5_method_20_code 95 = .ok (.iload_n 2, 1) := by decide +kernel
theorem d_M_state_96 : decode prog_5_method_20_code 96 = .ok (.if_icmp .ne 17, 3) := by decide +kernel
theorem d_M_state_99 : decode prog_5_method_20_code 99 = .ok (.aload_n 0, 1) := by decide +kernel
theorem d_M_state_100 : decode prog_5_method_20_code 100 = .ok (.getfield 30, 3) := by decide +kernel
theorem d_M_state_103 : decode prog_5_method_20_code 103 = .ok (.iload 6, 2) := by decide +kernel
theorem d_M_state_105 : decode prog_5_method_20_code 105 = .ok (.iaload, 1) := by decide +kernel
theorem d_M_state_106 : decode prog_5_method_20_code 106 = .ok (.ifCond .ne 7, 3) := by decide +kernel
theorem d_M_state_109 : decode prog_5_method_20_code 109 = .ok (.iconst 1, 1) := by decide +kernel
theorem d_M_state_110 : decode prog_5_method_20_code 110 = .ok (.goto 4, 3) := by decide +kernel
theorem d_M_state_113 : decode prog_5_method_20_code 113 = .ok (.iconst 0, 1) := by decide +kernel
theorem d_M_state_114 : decode prog_5_method_20_code 114 = .ok (.iadd, 1) := by decide +kernel
theorem d_M_state_115 : decode prog_5_method_20_code 115 = .ok (.istore 5, 2) := by decide +kernel
theorem d_M_state_117 : decode prog_5_method_20_code 117 = .ok (.iinc 6 1, 3) := by decide +kernel
theorem d_M_state_120 : decode prog_5_method_20_code 120 = .ok (.goto (-41), 3) := by decide +kernel
theorem d_M_state_123 : decode prog_5_method_20_code 123 = .ok (.iload 5, 2) := by decide +kernel
theorem d_M_state_125 : decode prog_5_method_20_code 125 = .ok (.ireturn, 1) := by decide +kernel
theorem d_M_state_126 : decode prog_5_method_20_code 126 = .ok (.iconst (-1), 1) := by decide +kernel
theorem d_M_state_127 : decode prog_5_method_20_code 127 = .ok (.ireturn, 1) := by decide +kernel
theorem d_M_heading_0 : decode prog_5_method_21_code 0 = .ok (.aload_n 0, 1) := by decide +kernel
theorem d_M_heading_1 : decode prog_5_method_21_code 1 = .ok (.iconst 0, 1) := by decide +kernel
theorem d_M_heading_2 : decode prog_5_method_21_code 2 = .ok (.putfield 60, 3) := by decide +kernel
theorem d_M_heading_5 : decode prog_5_method_21_code 5 = .ok (.aload_n 0, 1) := by decide +kernel
theorem d_M_heading_6 : decode prog_5_method_21_code 6 = .ok (.invokevirtual 128, 3) := by decide +kernel
theorem d_M_heading_9 : decode prog_5_method_21_code 9 = .ok (.iconst 0, 1) := by decide +kernel
theorem d_M_heading_10 : decode prog_5_method_21_code 10 = .ok (.istore_n 3, 1) := by decide +kernel
theorem d_M_heading_11 : decode prog_5_method_21_code 11 = .ok (.iconst 1, 1) := by decide +kernel
theorem d_M_heading_12 : decode prog_5_method_21_code 12 = .ok (.istore 4, 2) := by decide +kernel
theorem d_M_heading_14 : decode prog_5_method_21_code 14 = .ok (.iload 4, 2) := by decide +kernel
theorem d_M_heading_16 : decode prog_5_method_21_code 16 = .ok (.bipush 100, 2) := by decide +kernel
theorem d_M_heading_18 : decode prog_5_method_21_code 18 = .ok (.if_icmp .ge 46, 3) := by decide +kernel
theorem d_M_heading_21 : decode prog_5_method_21_code 21 = .ok (.iload_n 1, 1) := by decide +kernel
theorem d_M_heading_22 : decode prog_5_method_21_code 22 = .ok (.invokestatic 131, 3) := by decide +kernel
theorem d_M_heading_25 : decode prog_5_method_21_code 25 = .ok (.ifCond .eq 39, 3) := by decide +kernel
theorem d_M_heading_28 : decode prog_5_method_21_code 28 = .ok (.iload_n 2, 1) := by decide +kernel
theorem d_M_heading_29 : decode prog_5_method_21_code 29 = .ok (.ifCond .lt 35, 3) := by decide +kernel
theorem d_M_heading_32 : decode prog_5_method_21_code 32 = .ok (.aload_n 0, 1) := by decide +kernel
theorem d_M_heading_33 : decode prog_5_method_21_code 33 = .ok (.getfield 23, 3) := by decide +kernel
theorem d_M_heading_36 : decode prog_5_method_21_code 36 = .ok (.bipush 100, 2) := by decide +kernel
theorem d_M_heading_38 : decode prog_5_method_21_code 38 = .ok (.iload_n 1, 1) := by decide +kernel
theorem d_M_heading_39 : decode prog_5_method_21_code 39 = .ok (.imul, 1) := by decide +kernel
theorem d_M_heading_40 : decode prog_5_method_21_code 40 = .ok (.iload 4, 2) := by decide +kernel
theorem d_M_heading_42 : decode prog_5_method_21_code 42 = .ok (.iadd, 1) := by decide +kernel
theorem d_M_heading_43 : decode prog_5_method_21_code 43 = .ok (.baload, 1) := by decide +kernel
theorem d_M_heading_44 : decode prog_5_method_21_code 44 = .ok (.ifCond .eq 14, 3) := by decide +kernel
theorem d_M_heading_47 : decode prog_5_method_21_code 47 = .ok (.iload_n 3, 1) := by decide +kernel
theorem d_M_heading_48 : decode prog_5_method_21_code 48 = .ok (.iload_n 2, 1) := by decide +kernel
theorem d_M_heading_49 : decode prog_5_method_21_code 49 = .ok (.if_icmp .ne 6, 3) := by decide +kernel
theorem d_M_heading_52 : decode prog_5_method_21_code 52 = .ok (.iload 4, 2) := by decide +kernel
theorem d_M_heading_54 : decode prog_5_method_21_code 54 = .ok (.ireturn, 1) := by decide +kernel
theorem d_M_heading_55 : decode prog_5_method_21_code 55 = .ok (.iinc 3 1, 3) := by decide +kernel
theorem d_M_heading_58 : decode prog_5_method_21_code 58 = .ok (.iinc 4 1, 3) := by decide +kernel
theorem d_M_heading_61 : decode prog_5_method_21_code 61 = .ok (.goto (-47), 3) := by decide +kernel
theorem d_M_heading_64 : decode prog_5_method_21_code 64 = .ok (.iconst (-1), 1) := by decide +kernel
theorem d_M_heading_65 : decode prog_5_method_21_code 65 = .ok (.ireturn, 1) := by decide +kernel
theorem d_M_question_0 : decode prog_5_method_22_code 0 = .ok (.aload_n 0, 1) := by decide +kernel
theorem d_M_question_1 : decode prog_5_method_22_code 1 = .ok (.iconst 0, 1) := by decide +kernel
theorem d_M_question_2 : decode prog_5_method_22_code 2 = .ok (.putfield 60, 3) := by decide +kernel
theorem d_M_question_5 : decode prog_5_method_22_code 5 = .ok (.iload_n 1, 1) := by decide +kernel
theorem d_M_question_6 : decode prog_5_method_22_code 6 = .ok (.iconst 1, 1) := by decide +kernel
theorem d_M_question_7 : decode prog_5_method_22_code 7 = .ok (.if_icmp .lt 19, 3) := by decide +kernel
theorem d_M_question_10 : decode prog_5_method_22_code 10 = .ok (.iload_n 1, 1) := by decide +kernel
theorem d_M_question_11 : decode prog_5_method_22_code 11 = .ok (.bipush 99, 2) := by decide +kernel
theorem d_M_question_13 : decode prog_5_method_22_code 13 = .ok (.if_icmp .gt 13, 3) := by decide +kernel
theorem d_M_question_16 : decode prog_5_method_22_code 16 = .ok (.iload_n 2, 1) := by decide +kernel
theorem d_M_question_17 : decode prog_5_method_22_code 17 = .ok (.ifCond .lt 9, 3) := by decide +kernel
theorem d_M_question_20 : decode prog_5_method_22_code 20 = .ok (.iload_n 2, 1) := by decide +kernel
theorem d_M_question_21 : decode prog_5_method_22_code 21 = .ok (.bipush 99, 2) := by decide +kernel
theorem d_M_question_23 : decode prog_5_method_22_code 23 = .ok (.if_icmp .le 5, 3) := by decide +kernel
theorem d_M_question_26 : decode prog_5_method_22_code 26 = .ok (.iconst (-1), 1) := by decide +kernel
theorem d_M_question_27 : decode prog_5_method_22_code 27 = .ok (.ireturn, 1) := by decide +kernel
theorem d_M_question_28 : decode prog_5_method_22_code 28 = .ok (.aload_n 0, 1) := by decide +kernel
theorem d_M_question_29 : decode prog_5_method_22_code 29 = .ok (.invokevirtual 128, 3) := by decide +kernel
theorem d_M_question_32 : decode prog_5_method_22_code 32 = .ok (.aload_n 0, 1) := by decide +kernel
theorem d_M_question_33 : decode prog_5_method_22_code 33 = .ok (.iconst 0, 1) := by decide +kernel
theorem d_M_question_34 : decode prog_5_method_22_code 34 = .ok (.putfield 134, 3) := by decide +kernel
theorem d_M_question_37 : decode prog_5_method_22_code 37 = .ok (.iconst 1, 1) := by decide +kernel
theorem d_M_question_38 : decode prog_5_method_22_code 38 = .ok (.istore_n 3, 1) := by decide +kernel
theorem d_M_question_39 : decode prog_5_method_22_code 39 = .ok (.iload_n 3, 1) := by decide +kernel
theorem d_M_question_40 : decode prog_5_method_22_code 40 = .ok (.bipush 21, 2) := by decide +kernel
theorem d_M_question_42 : decode prog_5_method_22_code 42 = .ok (.if_icmp .ge 57, 3) := by decide +kernel
theorem d_M_question_45 : decode prog_5_method_22_code 45 = .ok (.aload_n 0, 1) := by decide +kernel
theorem d_M_question_46 : decode prog_5_method_22_code 46 = .ok (.getfield 23, 3) := by decide +kernel
theorem d_M_question_49 : decode prog_5_method_22_code 49 = .ok (.bipush 100, 2) := by decide +kernel
theorem d_M_question_51 : decode prog_5_method_22_code 51 = .ok (.iload_n 3, 1) := by decide +kernel
theorem d_M_question_52 : decode prog_5_method_22_code 52 = .ok (.imul, 1) := by decide +kernel
theorem d_M_question_53 : decode prog_5_method_22_code 53 = .ok (.iload_n 1, 1) := by decide +kernel
theorem d_M_question_54 : decode prog_5_method_22_code 54 = .ok (.iadd, 1) := by decide +kernel
theorem d_M_question_55 : decode prog_5_method_22_code 55 = .ok (.baload, 1) := by decide +kernel
theorem d_M_question_56 : decode prog_5_method_22_code 56 = .ok (.ifCond .eq 37, 3) := by decide +kernel
theorem d_M_question_59 : decode prog_5_method_22_code 59 = .ok (.aload_n 0, 1) := by decide +kernel
theorem d_M_question_60 : decode prog_5_method_22_code 60 = .ok (.getfield 23, 3) := by decide +kernel
theorem d_M_question_63 : decode prog_5_method_22_code 63 = .ok (.bipush 100, 2) := by decide +kernel
theorem d_M_question_65 : decode prog_5_method_22_code 65 = .ok (.iload_n 3, 1) := by decide +kernel
theorem d_M_question_66 : decode prog_5_method_22_code 66 = .ok (.imul, 1) := by decide +kernel
theorem d_M_question_67 : decode prog_5_method_22_code 67 = .ok (.iload_n 2, 1) := by decide +kernel
theorem d_M_question_68 : decode prog_5_method_22_code 68 = .ok (.iadd, 1) := by decide +kernel
theorem d_M_question_69 : decode prog_5_method_22_code 69 = .ok (.baload, 1) := by decide +kernel
theorem d_M_question_70 : decode prog_5_method_22_code 70 = .ok (.ifCond .ne 23, 3) := by decide +kernel
theorem d_M_question_73 : decode prog_5_method_22_code 73 = .ok (.aload_n 0, 1) := by decide +kernel
theorem d_M_question_74 : decode prog_5_method_22_code 74 = .ok (.getfield 57, 3) := by decide +kernel
theorem d_M_question_77 : decode prog_5_method_22_code 77 = .ok (.aload_n 0, 1) := by decide +kernel
theorem d_M_question_78 : decode prog_5_method_22_code 78 = .ok (.getfield 134, 3) := by decide +kernel
theorem d_M_question_81 : decode prog_5_method_22_code 81 = .ok (.iload_n 3, 1) := by decide +kernel
theorem d_M_question_82 : decode prog_5_method_22_code 82 = .ok (.iastore, 1) := by decide +kernel
theorem d_M_question_83 : decode prog_5_method_22_code 83 = .ok (.aload_n 0, 1) := by decide +kernel
theorem d_M_question_84 : decode prog_5_method_22_code 84 = .ok (.dup, 1) := by decide +kernel
theorem d_M_question_85 : decode prog_5_method_22_code 85 = .ok (.getfield 134, 3) := by decide +kernel
theorem d_M_question_88 : decode prog_5_method_22_code 88 = .ok (.iconst 1, 1) := by decide +kernel
theorem d_M_question_89 : decode prog_5_method_22_code 89 = .ok (.iadd, 1) := by decide +kernel
theorem d_M_question_90 : decode prog_5_method_22_code 90 = .ok (.putfield 134, 3) := by decide +kernel
theorem d_M_question_93 : decode prog_5_method_22_code 93 = .ok (.iinc 3 1, 3) := by decide +kernel
theorem d_M_question_96 : decode prog_5_method_22_code 96 = .ok (.goto (-57), 3) := by decide +kernel
theorem d_M_question_99 : decode prog_5_method_22_code 99 = .ok (.aload_n 0, 1) := by decide +kernel
theorem d_M_question_100 : decode prog_5_method_22_code 100 = .ok (.getfield 134, 3) := by decide +kernel
theorem d_M_question_103 : decode prog_5_method_22_code 103 = .ok (.ireturn, 1) := by decide +kernel
theorem d_M_hit_0 : decode prog_5_method_23_code 0 = .ok (.aload_n 0, 1) := by decide +kernel
theorem d_M_hit_1 : decode prog_5_method_23_code 1 = .ok (.iconst 0, 1) := by decide +kernel
theorem d_M_hit_2 : decode prog_5_method_23_code 2 = .ok (.putfield 60, 3) := by decide +kernel
theorem d_M_hit_5 : decode prog_5_method_23_code 5 = .ok (.iload_n 1, 1) := by decide +kernel
theorem d_M_hit_6 : decode prog_5_method_23_code 6 = .ok (.ifCond .lt 11, 3) := by decide +kernel
theorem d_M_hit_9 : decode prog_5_method_23_code 9 = .ok (.iload_n 1, 1) := by decide +kernel
theorem d_M_hit_10 : decode prog_5_method_23_code 10 = .ok (.aload_n 0, 1) := by decide +kernel
theorem d_M_hit_11 : decode prog_5_method_23_code 11 = .ok (.getfield 134, 3) := by decide +kernel
theorem d_M_hit_14 : decode prog_5_method_23_code 14 = .ok (.if_icmp .lt 7, 3) := by decide +kernel
theorem d_M_hit_17 : decode prog_5_method_23_code 17 = .ok (.iconst (-1), 1) := by decide +kernel
theorem d_M_hit_18 : decode prog_5_method_23_code 18 = .ok (.goto 9, 3) := by decide +kernel
theorem d_M_hit_21 : decode prog_5_method_23_code 21 = .ok (.aload_n 0, 1) := by decide +kernel
theorem d_M_hit_22 : decode prog_5_method_23_code 22 = .ok (.getfield 57, 3) := by decide +kernel
theorem d_M_hit_25 : decode prog_5_method_23_code 25 = .ok (.iload_n 1, 1) := by decide +kernel
theorem d_M_hit_26 : decode prog_5_method_23_code 26 = .ok (.iaload, 1) := by decide +kernel
theorem d_M_hit_27 : decode prog_5_method_23_code 27 = .ok (.ireturn, 1) := by decide +kernel
theorem d_M_due_0 : decode prog_5_method_24_code 0 = .ok (.aload_n 0, 1) := by decide +kernel
theorem d_M_due_1 : decode prog_5_method_24_code 1 = .ok (.iconst 0, 1) := by decide +kernel
theorem d_M_due_2 : decode prog_5_method_24_code 2 = .ok (.putfield 60, 3) := by decide +kernel
theorem d_M_due_5 : decode prog_5_method_24_code 5 = .ok (.aload_n 0, 1) := by decide +kernel
theorem d_M_due_6 : decode prog_5_method_24_code 6 = .ok (.invokevirtual 128, 3) := by decide +kernel
theorem d_M_due_9 : decode prog_5_method_24_code 9 = .ok (.iload_n 1, 1) := by decide +kernel
theorem d_M_due_10 : decode prog_5_method_24_code 10 = .ok (.invokestatic 131, 3) := by decide +kernel
theorem d_M_due_13 : decode prog_5_method_24_code 13 = .ok (.ifCond .eq 21, 3) := by decide +kernel
theorem d_M_due_16 : decode prog_5_method_24_code 16 = .ok (.aload_n 0, 1) := by decide +kernel
theorem d_M_due_17 : decode prog_5_method_24_code 17 = .ok (.getfield 30, 3) := by decide +kernel
theorem d_M_due_20 : decode prog_5_method_24_code 20 = .ok (.iload_n 1, 1) := by decide +kernel
theorem d_M_due_21 : decode prog_5_method_24_code 21 = .ok (.iaload, 1) := by decide +kernel
theorem d_M_due_22 : decode prog_5_method_24_code 22 = .ok (.ifCond .eq 12, 3) := by decide +kernel
theorem d_M_due_25 : decode prog_5_method_24_code 25 = .ok (.aload_n 0, 1) := by decide +kernel
theorem d_M_due_26 : decode prog_5_method_24_code 26 = .ok (.getfield 33, 3) := by decide +kernel
theorem d_M_due_29 : decode prog_5_method_24_code 29 = .ok (.iload_n 1, 1) := by decide +kernel
theorem d_M_due_30 : decode prog_5_method_24_code 30 = .ok (.laload, 1) := by decide +kernel
theorem d_M_due_31 : decode prog_5_method_24_code 31 = .ok (.goto 6, 3) := by decide +kernel
theorem d_M_due_34 : decode prog_5_method_24_code 34 = .ok (.ldc2_w 137, 3) := by decide +kernel
theorem d_M_due_37 : decode prog_5_method_24_code 37 = .ok (.lreturn, 1) := by decide +kernel
theorem d_M_queue_0 : decode prog_5_method_25_code 0 = .ok (.aload_n 0, 1) := by decide +kernel
theorem d_M_queue_1 : decode prog_5_method_25_code 1 = .ok (.iconst 0, 1) := by decide +kernel
theorem d_M_queue_2 : decode prog_5_method_25_code 2 = .ok (.putfield 60, 3) := by decide +kernel
theorem d_M_queue_5 : decode prog_5_method_25_code 5 = .ok (.aload_n 0, 1) := by decide +kernel
theorem d_M_queue_6 : decode prog_5_method_25_code 6 = .ok (.invokevirtual 128, 3) := by decide +kernel
theorem d_M_queue_9 : decode prog_5_method_25_code 9 = .ok (.iload_n 1, 1) := by decide +kernel
theorem d_M_queue_10 : decode prog_5_method_25_code 10 = .ok (.invokestatic 131, 3) := by decide +kernel
theorem d_M_queue_13 : decode prog_5_method_25_code 13 = .ok (.ifCond .eq 17, 3) := by decide +kernel
theorem d_M_queue_16 : decode prog_5_method_25_code 16 = .ok (.iload_n 2, 1) := by decide +kernel
theorem d_M_queue_17 : decode prog_5_method_25_code 17 = .ok (.ifCond .lt 13, 3) := by decide +kernel
theorem d_M_queue_20 : decode prog_5_method_25_code 20 = .ok (.iload_n 2, 1) := by decide +kernel
theorem d_M_queue_21 : decode prog_5_method_25_code 21 = .ok (.aload_n 0, 1) := by decide +kernel
theorem d_M_queue_22 : decode prog_5_method_25_code 22 = .ok (.getfield 39, 3) := by decide +kernel
theorem d_M_queue_25 : decode prog_5_method_25_code 25 = .ok (.iload_n 1, 1) := by decide +kernel
theorem d_M_queue_26 : decode prog_5_method_25_code 26 = .ok (.iaload, 1) := by decide +kernel
theorem d_M_queue_27 : decode prog_5_method_25_code 27 = .ok (.if_icmp .lt 7, 3) := by decide +kernel
theorem d_M_queue_30 : decode prog_5_method_25_code 30 = .ok (.iconst (-1), 1) := by decide +kernel
theorem d_M_queue_31 : decode prog_5_method_25_code 31 = .ok (.goto 14, 3) := by decide +kernel
theorem d_M_queue_34 : decode prog_5_method_25_code 34 = .ok (.aload_n 0, 1) := by decide +kernel
theorem d_M_queue_35 : decode prog_5_method_25_code 35 = .ok (.getfield 36, 3) := by decide +kernel
theorem d_M_queue_38 : decode prog_5_method_25_code 38 = .ok (.bipush 20, 2) := by decide +kernel
theorem d_M_queue_40 : decode prog_5_method_25_code 40 = .ok (.iload_n 1, 1) := by decide +kernel
theorem d_M_queue_41 : decode prog_5_method_25_code 41 = .ok (.imul, 1) := by decide +kernel
theorem d_M_queue_42 : decode prog_5_method_25_code 42 = .ok (.iload_n 2, 1) := by decide +kernel
theorem d_M_queue_43 : decode prog_5_method_25_code 43 = .ok (.iadd, 1) := by decide +kernel
theorem d_M_queue_44 : decode prog_5_method_25_code 44 = .ok (.iaload, 1) := by decide +kernel
theorem d_M_queue_45 : decode prog_5_method_25_code 45 = .ok (.ireturn, 1) := by decide +kernel
theorem d_M_poll_0 : decode prog_5_method_26_code 0 = .ok (.aload_n 0, 1) := by decide +kernel
theorem d_M_poll_1 : decode prog_5_method_26_code 1 = .ok (.iconst 0, 1) := by decide +kernel
theorem d_M_poll_2 : decode prog_5_method_26_code 2 = .ok (.putfield 60, 3) := by decide +kernel
theorem d_M_poll_5 : decode prog_5_method_26_code 5 = .ok (.iload_n 1, 1) := by decide +kernel
theorem d_M_poll_6 : decode prog_5_method_26_code 6 = .ok (.invokestatic 131, 3) := by decide +kernel
theorem d_M_poll_9 : decode prog_5_method_26_code 9 = .ok (.ifCond .ne 5, 3) := by decide +kernel
theorem d_M_poll_12 : decode prog_5_method_26_code 12 = .ok (.iconst (-1), 1) := by decide +kernel
theorem d_M_poll_13 : decode prog_5_method_26_code 13 = .ok (.ireturn, 1) := by decide +kernel
theorem d_M_poll_14 : decode prog_5_method_26_code 14 = .ok (.aload_n 0, 1) := by decide +kernel
theorem d_M_poll_15 : decode prog_5_method_26_code 15 = .ok (.invokevirtual 128, 3) := by decide +kernel
theorem d_M_poll_18 : decode prog_5_method_26_code 18 = .ok (.iconst 0, 1) := by decide +kernel
theorem d_M_poll_19 : decode prog_5_method_26_code 19 = .ok (.istore_n 2, 1) := by decide +kernel
theorem d_M_poll_20 : decode prog_5_method_26_code 20 = .ok (.bipush 7, 2) := by decide +kernel
theorem d_M_poll_22 : decode prog_5_method_26_code 22 = .ok (.istore_n 3, 1) := by decide +kernel
theorem d_M_poll_23 : decode prog_5_method_26_code 23 = .ok (.iconst 1, 1) := by decide +kernel
theorem d_M_poll_24 : decode prog_5_method_26_code 24 = .ok (.istore 4, 2) := by decide +kernel
theorem d_M_poll_26 : decode prog_5_method_26_code 26 = .ok (.iload 4, 2) := by decide +kernel
theorem d_M_poll_28 : decode prog_5_method_26_code 28 = .ok (.bipush 6, 2) := by decide +kernel
theorem d_M_poll_30 : decode prog_5_method_26_code 30 = .ok (.if_icmp .ge 33, 3) := by decide +kernel
theorem d_M_poll_33 : decode prog_5_method_26_code 33 = .ok (.iload_n 2, 1) := by decide +kernel
theorem d_M_poll_34 : decode prog_5_method_26_code 34 = .ok (.aload_n 0, 1) := by decide +kernel
theorem d_M_poll_35 : decode prog_5_method_26_code 35 = .ok (.getfield 42, 3) := by decide +kernel
theorem d_M_poll_38 : decode prog_5_method_26_code 38 = .ok (.bipush 6, 2) := by decide +kernel
theorem d_M_poll_40 : decode prog_5_method_26_code 40 = .ok (.iload_n 1, 1) := by decide +kernel
theorem d_M_poll_41 : decode prog_5_method_26_code 41 = .ok (.imul, 1) := by decide +kernel
theorem d_M_poll_42 : decode prog_5_method_26_code 42 = .ok (.iload 4, 2) := by decide +kernel
theorem d_M_poll_44 : decode prog_5_method_26_code 44 = .ok (.iadd, 1) := by decide +kernel
theorem d_M_poll_45 : decode prog_5_method_26_code 45 = .ok (.iaload, 1) := by decide +kernel
theorem d_M_poll_46 : decode prog_5_method_26_code 46 = .ok (.iconst (-1), 1) := by decide +kernel
theorem d_M_poll_47 : decode prog_5_method_26_code 47 = .ok (.if_icmp .ne 7, 3) := by decide +kernel
theorem d_M_poll_50 : decode prog_5_method_26_code 50 = .ok (.iconst 0, 1) := by decide +kernel
theorem d_M_poll_51 : decode prog_5_method_26_code 51 = .ok (.goto 4, 3) := by decide +kernel
theorem d_M_poll_54 : decode prog_5_method_26_code 54 = .ok (.iconst 1, 1) := by decide +kernel
theorem d_M_poll_55 : decode prog_5_method_26_code 55 = .ok (.iadd, 1) := by decide +kernel
theorem d_M_poll_56 : decode prog_5_method_26_code 56 = .ok (.istore_n 2, 1) := by decide +kernel
theorem d_M_poll_57 : decode prog_5_method_26_code 57 = .ok (.iinc 4 1, 3) := by decide +kernel
theorem d_M_poll_60 : decode prog_5_method_26_code 60 = .ok (.goto (-34), 3) := by decide +kernel
theorem d_M_poll_63 : decode prog_5_method_26_code 63 = .ok (.iconst 0, 1) := by decide +kernel
theorem d_M_poll_64 : decode prog_5_method_26_code 64 = .ok (.istore 4, 2) := by decide +kernel
theorem d_M_poll_66 : decode prog_5_method_26_code 66 = .ok (.iload 4, 2) := by decide +kernel
theorem d_M_poll_68 : decode prog_5_method_26_code 68 = .ok (.bipush 7, 2) := by decide +kernel
theorem d_M_poll_70 : decode prog_5_method_26_code 70 = .ok (.if_icmp .ge 70, 3) := by decide +kernel
theorem d_M_poll_73 : decode prog_5_method_26_code 73 = .ok (.iconst 0, 1) := by decide +kernel
theorem d_M_poll_74 : decode prog_5_method_26_code 74 = .ok (.istore 5, 2) := by decide +kernel
theorem d_M_poll_76 : decode prog_5_method_26_code 76 = .ok (.iconst 1, 1) := by decide +kernel
theorem d_M_poll_77 : decode prog_5_method_26_code 77 = .ok (.istore 6, 2) := by decide +kernel
theorem d_M_poll_79 : decode prog_5_method_26_code 79 = .ok (.iload 6, 2) := by decide +kernel
theorem d_M_poll_81 : decode prog_5_method_26_code 81 = .ok (.bipush 6, 2) := by decide +kernel
theorem d_M_poll_83 : decode prog_5_method_26_code 83 = .ok (.if_icmp .ge 36, 3) := by decide +kernel
theorem d_M_poll_86 : decode prog_5_method_26_code 86 = .ok (.iload 5, 2) := by decide +kernel
theorem d_M_poll_88 : decode prog_5_method_26_code 88 = .ok (.aload_n 0, 1) := by decide +kernel
theorem d_M_poll_89 : decode prog_5_method_26_code 89 = .ok (.getfield 42, 3) := by decide +kernel
theorem d_M_poll_92 : decode prog_5_method_26_code 92 = .ok (.bipush 6, 2) := by decide +kernel
theorem d_M_poll_94 : decode prog_5_method_26_code 94 = .ok (.iload_n 1, 1) := by decide +kernel
theorem d_M_poll_95 : decode prog_5_method_26_code 95 = .ok (.imul, 1) := by decide +kernel
theorem d_M_poll_96 : decode prog_5_method_26_code 96 = .ok (.iload 6, 2) := by decide +kernel
theorem d_M_poll_98 : decode prog_5_method_26_code 98 = .ok (.iadd, 1) := by decide +kernel
theorem d_M_poll_99 : decode prog_5_method_26_code 99 = .ok (.iaload, 1) := by decide +kernel
theorem d_M_poll_100 : decode prog_5_method_26_code 100 = .ok (.iload 4, 2) := by decide +kernel
theorem d_M_poll_102 : decode prog_5_method_26_code 102 = .ok (.if_icmp .ne 7, 3) := by decide +kernel
theorem d_M_poll_105 : decode prog_5_method_26_code 105 = .ok (.iconst 1, 1) := by decide +kernel
theorem d_M_poll_106 : decode prog_5_method_26_code 106 = .ok (.goto 4, 3) := by decide +kernel
theorem d_M_poll_109 : decode prog_5_method_26_code 109 = .ok (.iconst 0, 1) := by decide +kernel
theorem d_M_poll_110 : decode prog_5_method_26_code 110 = .ok (.iadd, 1) := by decide +kernel
theorem d_M_poll_111 : decode prog_5_method_26_code 111 = .ok (.istore 5, 2) := by decide +kernel
theorem d_M_poll_113 : decode prog_5_method_26_code 113 = .ok (.iinc 6 1, 3) := by decide +kernel
theorem d_M_poll_116 : decode prog_5_method_26_code 116 = .ok (.goto (-37), 3) := by decide +kernel
theorem d_M_poll_119 : decode prog_5_method_26_code 119 = .ok (.iconst 2, 1) := by decide +kernel
theorem d_M_poll_120 : decode prog_5_method_26_code 120 = .ok (.iload 5, 2) := by decide +kernel
theorem d_M_poll_122 : decode prog_5_method_26_code 122 = .ok (.imul, 1) := by decide +kernel
theorem d_M_poll_123 : decode prog_5_method_26_code 123 = .ok (.iload_n 2, 1) := by decide +kernel
theorem d_M_poll_124 : decode prog_5_method_26_code 124 = .ok (.if_icmp .le 8, 3) := by decide +kernel
theorem d_M_poll_127 : decode prog_5_method_26_code 127 = .ok (.iload 4, 2) := by decide +kernel
theorem d_M_poll_129 : decode prog_5_method_26_code 129 = .ok (.goto 4, 3) := by decide +kernel
theorem d_M_poll_132 : decode prog_5_method_26_code 132 = .ok (.iload_n 3, 1) := by decide +kernel
theorem d_M_poll_133 : decode prog_5_method_26_code 133 = .ok (.istore_n 3, 1) := by decide +kernel
theorem d_M_poll_134 : decode prog_5_method_26_code 134 = .ok (.iinc 4 1, 3) := by decide +kernel
theorem d_M_poll_137 : decode prog_5_method_26_code 137 = .ok (.goto (-71), 3) := by decide +kernel
theorem d_M_poll_140 : decode prog_5_method_26_code 140 = .ok (.iload_n 2, 1) := by decide +kernel
theorem d_M_poll_141 : decode prog_5_method_26_code 141 = .ok (.ifCond .ne 7, 3) := by decide +kernel
theorem d_M_poll_144 : decode prog_5_method_26_code 144 = .ok (.iconst (-1), 1) := by decide +kernel
theorem d_M_poll_145 : decode prog_5_method_26_code 145 = .ok (.goto 4, 3) := by decide +kernel
theorem d_M_poll_148 : decode prog_5_method_26_code 148 = .ok (.iload_n 3, 1) := by decide +kernel
theorem d_M_poll_149 : decode prog_5_method_26_code 149 = .ok (.ireturn, 1) := by decide +kernel
theorem d_M_kept_0 : decode prog_5_method_27_code 0 = .ok (.aload_n 0, 1) := by decide +kernel
theorem d_M_kept_1 : decode prog_5_method_27_code 1 = .ok (.iconst 0, 1) := by decide +kernel
theorem d_M_kept_2 : decode prog_5_method_27_code 2 = .ok (.putfield 60, 3) := by decide +kernel
theorem d_M_kept_5 : decode prog_5_method_27_code 5 = .ok (.aload_n 0, 1) := by decide +kernel
theorem d_M_kept_6 : decode prog_5_method_27_code 6 = .ok (.invokevirtual 128, 3) := by decide +kernel
theorem d_M_kept_9 : decode prog_5_method_27_code 9 = .ok (.iconst 0, 1) := by decide +kernel
theorem d_M_kept_10 : decode prog_5_method_27_code 10 = .ok (.istore 6, 2) := by decide +kernel
theorem d_M_kept_12 : decode prog_5_method_27_code 12 = .ok (.iconst 0, 1) := by decide +kernel
theorem d_M_kept_13 : decode prog_5_method_27_code 13 = .ok (.istore 7, 2) := by decide +kernel
theorem d_M_kept_15 : decode prog_5_method_27_code 15 = .ok (.iload 7, 2) := by decide +kernel
theorem d_M_kept_17 : decode prog_5_method_27_code 17 = .ok (.aload_n 0, 1) := by decide +kernel
theorem d_M_kept_18 : decode prog_5_method_27_code 18 = .ok (.getfield 84, 3) := by decide +kernel
theorem d_M_kept_21 : decode prog_5_method_27_code 21 = .ok (.if_icmp .ge 75, 3) := by decide +kernel
theorem d_M_kept_24 : decode prog_5_method_27_code 24 = .ok (.iload_n 1, 1) := by decide +kernel
theorem d_M_kept_25 : decode prog_5_method_27_code 25 = .ok (.invokestatic 131, 3) := by decide +kernel
theorem d_M_kept_28 : decode prog_5_method_27_code 28 = .ok (.ifCond .eq 68, 3) := by decide +kernel
theorem d_M_kept_31 : decode prog_5_method_27_code 31 = .ok (.iload_n 2, 1) := by decide +kernel
theorem d_M_kept_32 : decode prog_5_method_27_code 32 = .ok (.ifCond .lt 64, 3) := by decide +kernel
theorem d_M_kept_35 : decode prog_5_method_27_code 35 = .ok (.aload_n 0, 1) := by decide +kernel
theorem d_M_kept_36 : decode prog_5_method_27_code 36 = .ok (.getfield 7, 3) := by decide +kernel
theorem d_M_kept_39 : decode prog_5_method_27_code 39 = .ok (.iload 7, 2) := by decide +kernel
theorem d_M_kept_41 : decode prog_5_method_27_code 41 = .ok (.iaload, 1) := by decide +kernel
theorem d_M_kept_42 : decode prog_5_method_27_code 42 = .ok (.iconst 4, 1) := by decide +kernel
theorem d_M_kept_43 : decode prog_5_method_27_code 43 = .ok (.if_icmp .ne 47, 3) := by decide +kernel
theorem d_M_kept_46 : decode prog_5_method_27_code 46 = .ok (.aload_n 0, 1) := by decide +kernel
theorem d_M_kept_47 : decode prog_5_method_27_code 47 = .ok (.getfield 54, 3) := by decide +kernel
theorem d_M_kept_50 : decode prog_5_method_27_code 50 = .ok (.iload 7, 2) := by decide +kernel
theorem d_M_kept_52 : decode prog_5_method_27_code 52 = .ok (.iaload, 1) := by decide +kernel
theorem d_M_kept_53 : decode prog_5_method_27_code 53 = .ok (.iload_n 1, 1) := by decide +kernel
theorem d_M_kept_54 : decode prog_5_method_27_code 54 = .ok (.if_icmp .ne 36, 3) := by decide +kernel
theorem d_M_kept_57 : decode prog_5_method_27_code 57 = .ok (.aload_n 0, 1) := by decide +kernel
theorem d_M_kept_58 : decode prog_5_method_27_code 58 = .ok (.getfield 20, 3) := by decide +kernel
theorem d_M_kept_61 : decode prog_5_method_27_code 61 = .ok (.iload 7, 2) := by decide +kernel
theorem d_M_kept_63 : decode prog_5_method_27_code 63 = .ok (.laload, 1) := by decide +kernel
theorem d_M_kept_64 : decode prog_5_method_27_code 64 = .ok (.iload 5, 2) := by decide +kernel
theorem d_M_kept_66 : decode prog_5_method_27_code 66 = .ok (.i2l, 1) := by decide +kernel
theorem d_M_kept_67 : decode prog_5_method_27_code 67 = .ok (.ladd, 1) := by decide +kernel
theorem d_M_kept_68 : decode prog_5_method_27_code 68 = .ok (.lload_n 3, 1) := by decide +kernel
theorem d_M_kept_69 : decode prog_5_method_27_code 69 = .ok (.lcmp, 1) := by decide +kernel
theorem d_M_kept_70 : decode prog_5_method_27_code 70 = .ok (.ifCond .lt 20, 3) := by decide +kernel
theorem d_M_kept_73 : decode prog_5_method_27_code 73 = .ok (.iload 6, 2) := by decide +kernel
theorem d_M_kept_75 : decode prog_5_method_27_code 75 = .ok (.iload_n 2, 1) := by decide +kernel
theorem d_M_kept_76 : decode prog_5_method_27_code 76 = .ok (.if_icmp .ne 11, 3) := by decide +kernel
theorem d_M_kept_79 : decode prog_5_method_27_code 79 = .ok (.aload_n 0, 1) := by decide +kernel
theorem d_M_kept_80 : decode prog_5_method_27_code 80 = .ok (.getfield 13, 3) := by decide +kernel
theorem d_M_kept_83 : decode prog_5_method_27_code 83 = .ok (.iload 7, 2) := by decide +kernel
theorem d_M_kept_85 : decode prog_5_method_27_code 85 = .ok (.iaload, 1) := by decide +kernel
theorem d_M_kept_86 : decode prog_5_method_27_code 86 = .ok (.ireturn, 1) := by decide +kernel
theorem d_M_kept_87 : decode prog_5_method_27_code 87 = .ok (.iinc 6 1, 3) := by decide +kernel
theorem d_M_kept_90 : decode prog_5_method_27_code 90 = .ok (.iinc 7 1, 3) := by decide +kernel
theorem d_M_kept_93 : decode prog_5_method_27_code 93 = .ok (.goto (-78), 3) := by decide +kernel
theorem d_M_kept_96 : decode prog_5_method_27_code 96 = .ok (.iconst (-1), 1) := by decide +kernel
theorem d_M_kept_97 : decode prog_5_method_27_code 97 = .ok (.ireturn, 1) := by decide +kernel
theorem d_M_most_0 : decode prog_5_method_28_code 0 = .ok (.aload_n 0, 1) := by decide +kernel
theorem d_M_most_1 : decode prog_5_method_28_code 1 = .ok (.iconst 0, 1) := by decide +kernel
theorem d_M_most_2 : decode prog_5_method_28_code 2 = .ok (.putfield 60, 3) := by decide +kernel
theorem d_M_most_5 : decode prog_5_method_28_code 5 = .ok (.iload_n 1, 1) := by decide +kernel
theorem d_M_most_6 : decode prog_5_method_28_code 6 = .ok (.invokestatic 131, 3) := by decide +kernel
theorem d_M_most_9 : decode prog_5_method_28_code 9 = .ok (.ifCond .ne 5, 3) := by decide +kernel
theorem d_M_most_12 : decode prog_5_method_28_code 12 = .ok (.iconst (-1), 1) := by decide +kernel
theorem d_M_most_13 : decode prog_5_method_28_code 13 = .ok (.ireturn, 1) := by decide +kernel
theorem d_M_most_14 : decode prog_5_method_28_code 14 = .ok (.aload_n 0, 1) := by decide +kernel
theorem d_M_most_15 : decode prog_5_method_28_code 15 = .ok (.getfield 84, 3) := by decide +kernel
theorem d_M_most_18 : decode prog_5_method_28_code 18 = .ok (.bipush 100, 2) := by decide +kernel
theorem d_M_most_20 : decode prog_5_method_28_code 20 = .ok (.if_icmp .le 6, 3) := by decide +kernel
theorem d_M_most_23 : decode prog_5_method_28_code 23 = .ok (.bipush (-9), 2) := by decide +kernel
theorem d_M_most_25 : decode prog_5_method_28_code 25 = .ok (.ireturn, 1) := by decide +kernel
theorem d_M_most_26 : decode prog_5_method_28_code 26 = .ok (.aload_n 0, 1) := by decide +kernel
theorem d_M_most_27 : decode prog_5_method_28_code 27 = .ok (.ldc2_w 82, 3) := by decide +kernel
theorem d_M_most_30 : decode prog_5_method_28_code 30 = .ok (.iconst (-1), 1) := by decide +kernel
theorem d_M_most_31 : decode prog_5_method_28_code 31 = .ok (.iconst (-1), 1) := by decide +kernel
theorem d_M_most_32 : decode prog_5_method_28_code 32 = .ok (.iload_n 1, 1) := by decide +kernel
theorem d_M_most_33 : decode prog_5_method_28_code 33 = .ok (.invokevirtual 124, 3) := by decide +kernel
theorem d_M_most_36 : decode prog_5_method_28_code 36 = .ok (.aload_n 0, 1) := by decide +kernel
theorem d_M_most_37 : decode prog_5_method_28_code 37 = .ok (.getfield 90, 3) := by decide +kernel
theorem d_M_most_40 : decode prog_5_method_28_code 40 = .ok (.ireturn, 1) := by decide +kernel
theorem d_M_least_0 : decode prog_5_method_29_code 0 = .ok (.aload_n 0, 1) := by decide +kernel
theorem d_M_least_1 : decode prog_5_method_29_code 1 = .ok (.iconst 0, 1) := by decide +kernel
theorem d_M_least_2 : decode prog_5_method_29_code 2 = .ok (.putfield 60, 3) := by decide +kernel
theorem d_M_least_5 : decode prog_5_method_29_code 5 = .ok (.aload_n 0, 1) := by decide +kernel
theorem d_M_least_6 : decode prog_5_method_29_code 6 = .ok (.getfield 84, 3) := by decide +kernel
theorem d_M_least_9 : decode prog_5_method_29_code 9 = .ok (.bipush 30, 2) := by decide +kernel
theorem d_M_least_11 : decode prog_5_method_29_code 11 = .ok (.if_icmp .le 6, 3) := by decide +kernel
theorem d_M_least_14 : decode prog_5_method_29_code 14 = .ok (.bipush (-9), 2) := by decide +kernel
theorem d_M_least_16 : decode prog_5_method_29_code 16 = .ok (.ireturn, 1) := by decide +kernel
theorem d_M_least_17 : decode prog_5_method_29_code 17 = .ok (.iconst 3, 1) := by decide +kernel
theorem d_M_least_18 : decode prog_5_method_29_code 18 = .ok (.istore_n 1, 1) := by decide +kernel
theorem d_M_least_19 : decode prog_5_method_29_code 19 = .ok (.iconst (-1), 1) := by decide +kernel
theorem d_M_least_20 : decode prog_5_method_29_code 20 = .ok (.istore_n 2, 1) := by decide +kernel
theorem d_M_least_21 : decode prog_5_method_29_code 21 = .ok (.iload_n 2, 1) := by decide +kernel
theorem d_M_least_22 : decode prog_5_method_29_code 22 = .ok (.aload_n 0, 1) := by decide +kernel
theorem d_M_least_23 : decode prog_5_method_29_code 23 = .ok (.getfield 84, 3) := by decide +kernel
theorem d_M_least_26 : decode prog_5_method_29_code 26 = .ok (.if_icmp .ge 80, 3) := by decide +kernel
theorem d_M_least_29 : decode prog_5_method_29_code 29 = .ok (.iconst (-1), 1) := by decide +kernel
theorem d_M_least_30 : decode prog_5_method_29_code 30 = .ok (.istore_n 3, 1) := by decide +kernel
theorem d_M_least_31 : decode prog_5_method_29_code 31 = .ok (.iload_n 3, 1) := by decide +kernel
theorem d_M_least_32 : decode prog_5_method_29_code 32 = .ok (.iload_n 2, 1) := by decide +kernel
theorem d_M_least_33 : decode prog_5_method_29_code 33 = .ok (.if_icmp .gt 67, 3) := by decide +kernel
theorem d_M_least_36 : decode prog_5_method_29_code 36 = .ok (.iload_n 2, 1) := by decide +kernel
theorem d_M_least_37 : decode prog_5_method_29_code 37 = .ok (.iconst (-1), 1) := by decide +kernel
theorem d_M_least_38 : decode prog_5_method_29_code 38 = .ok (.if_icmp .ne 7, 3) := by decide +kernel
theorem d_M_least_41 : decode prog_5_method_29_code 41 = .ok (.iconst 0, 1) := by decide +kernel
theorem d_M_least_42 : decode prog_5_method_29_code 42 = .ok (.goto 4, 3) := by decide +kernel
theorem d_M_least_45 : decode prog_5_method_29_code 45 = .ok (.iconst 1, 1) := by decide +kernel
theorem d_M_least_46 : decode prog_5_method_29_code 46 = .ok (.iload_n 3, 1) := by decide +kernel
theorem d_M_least_47 : decode prog_5_method_29_code 47 = .ok (.iconst (-1), 1) := by decide +kernel
theorem d_M_least_48 : decode prog_5_method_29_code 48 = .ok (.if_icmp .eq 8, 3) := by decide +kernel
theorem d_M_least_51 : decode prog_5_method_29_code 51 = .ok (.iload_n 3, 1) := by decide +kernel
theorem d_M_least_52 : decode prog_5_method_29_code 52 = .ok (.iload_n 2, 1) := by decide +kernel
theorem d_M_least_53 : decode prog_5_method_29_code 53 = .ok (.if_icmp .ne 7, 3) := by decide +kernel
theorem d_M_least_56 : decode prog_5_method_29_code 56 = .ok (.iconst 0, 1) := by decide +kernel
theorem d_M_least_57 : decode prog_5_method_29_code 57 = .ok (.goto 4, 3) := by decide +kernel
theorem d_M_least_60 : decode prog_5_method_29_code 60 = .ok (.iconst 1, 1) := by decide +kernel
theorem d_M_least_61 : decode prog_5_method_29_code 61 = .ok (.iadd, 1) := by decide +kernel
theorem d_M_least_62 : decode prog_5_method_29_code 62 = .ok (.istore 4, 2) := by decide +kernel
theorem d_M_least_64 : decode prog_5_method_29_code 64 = .ok (.iload 4, 2) := by decide +kernel
theorem d_M_least_66 : decode prog_5_method_29_code 66 = .ok (.iload_n 1, 1) := by decide +kernel
theorem d_M_least_67 : decode prog_5_method_29_code 67 = .ok (.if_icmp .ge 27, 3) := by decide +kernel
theorem d_M_least_70 : decode prog_5_method_29_code 70 = .ok (.aload_n 0, 1) := by decide +kernel
theorem d_M_least_71 : decode prog_5_method_29_code 71 = .ok (.ldc2_w 82, 3) := by decide +kernel
theorem d_M_least_74 : decode prog_5_method_29_code 74 = .ok (.iload_n 2, 1) := by decide +kernel
theorem d_M_least_75 : decode prog_5_method_29_code 75 = .ok (.iload_n 3, 1) := by decide +kernel
theorem d_M_least_76 : decode prog_5_method_29_code 76 = .ok (.iconst (-1), 1) := by decide +kernel
theorem d_M_least_77 : decode prog_5_method_29_code 77 = .ok (.invokevirtual 124, 3) := by decide +kernel
theorem d_M_least_80 : decode prog_5_method_29_code 80 = .ok (.aload_n 0, 1) := by decide +kernel
theorem d_M_least_81 : decode prog_5_method_29_code 81 = .ok (.getfield 87, 3) := by decide +kernel
theorem d_M_least_84 : decode prog_5_method_29_code 84 = .ok (.ifCond .ne 8, 3) := by decide +kernel
theorem d_M_least_87 : decode prog_5_method_29_code 87 = .ok (.iload 4, 2) := by decide +kernel
theorem d_M_least_89 : decode prog_5_method_29_code 89 = .ok (.goto 4, 3) := by decide +kernel
theorem d_M_least_92 : decode prog_5_method_29_code 92 = .ok (.iload_n 1, 1) := by decide +kernel
theorem d_M_least_93 : decode prog_5_method_29_code 93 = .ok (.istore_n 1, 1) := by decide +kernel
theorem d_M_least_94 : decode prog_5_method_29_code 94 = .ok (.iinc 3 1, 3) := by decide +kernel
theorem d_M_least_97 : decode prog_5_method_29_code 97 = .ok (.goto (-66), 3) := by decide +kernel
theorem d_M_least_100 : decode prog_5_method_29_code 100 = .ok (.iinc 2 1, 3) := by decide +kernel
theorem d_M_least_103 : decode prog_5_method_29_code 103 = .ok (.goto (-82), 3) := by decide +kernel
theorem d_M_least_106 : decode prog_5_method_29_code 106 = .ok (.iload_n 1, 1) := by decide +kernel
theorem d_M_least_107 : decode prog_5_method_29_code 107 = .ok (.ireturn, 1) := by decide +kernel
