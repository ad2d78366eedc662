theorem dX10_contains_0 : decode cX10_contains 0 = .ok (.iload_n 0, 1) := by decide +kernel
theorem dX10_contains_1 : decode cX10_contains 1 = .ok (.iload_n 1, 1) := by decide +kernel
theorem dX10_contains_2 : decode cX10_contains 2 = .ok (.ishr, 1) := by decide +kernel
theorem dX10_contains_3 : decode cX10_contains 3 = .ok (.iconst 1, 1) := by decide +kernel
theorem dX10_contains_4 : decode cX10_contains 4 = .ok (.iand, 1) := by decide +kernel
theorem dX10_contains_5 : decode cX10_contains 5 = .ok (.ifCond .eq 7, 3) := by decide +kernel
theorem dX10_contains_8 : decode cX10_contains 8 = .ok (.iconst 1, 1) := by decide +kernel
theorem dX10_contains_9 : decode cX10_contains 9 = .ok (.goto 4, 3) := by decide +kernel
theorem dX10_contains_12 : decode cX10_contains 12 = .ok (.iconst 0, 1) := by decide +kernel
theorem dX10_contains_13 : decode cX10_contains 13 = .ok (.ireturn, 1) := by decide +kernel
theorem dJ6_bitCount_0f7a4_0 : decode cJ6_bitCount_0f7a4 0 = .ok (.iload_n 0, 1) := by decide +kernel
theorem dJ6_bitCount_0f7a4_1 : decode cJ6_bitCount_0f7a4 1 = .ok (.iload_n 0, 1) := by decide +kernel
theorem dJ6_bitCount_0f7a4_2 : decode cJ6_bitCount_0f7a4 2 = .ok (.iconst 1, 1) := by decide +kernel
theorem dJ6_bitCount_0f7a4_3 : decode cJ6_bitCount_0f7a4 3 = .ok (.iushr, 1) := by decide +kernel
theorem dJ6_bitCount_0f7a4_4 : decode cJ6_bitCount_0f7a4 4 = .ok (.ldc_w 265, 3) := by decide +kernel
theorem dJ6_bitCount_0f7a4_7 : decode cJ6_bitCount_0f7a4 7 = .ok (.iand, 1) := by decide +kernel
theorem dJ6_bitCount_0f7a4_8 : decode cJ6_bitCount_0f7a4 8 = .ok (.isub, 1) := by decide +kernel
theorem dJ6_bitCount_0f7a4_9 : decode cJ6_bitCount_0f7a4 9 = .ok (.istore_n 0, 1) := by decide +kernel
theorem dJ6_bitCount_0f7a4_10 : decode cJ6_bitCount_0f7a4 10 = .ok (.iload_n 0, 1) := by decide +kernel
theorem dJ6_bitCount_0f7a4_11 : decode cJ6_bitCount_0f7a4 11 = .ok (.ldc_w 266, 3) := by decide +kernel
theorem dJ6_bitCount_0f7a4_14 : decode cJ6_bitCount_0f7a4 14 = .ok (.iand, 1) := by decide +kernel
theorem dJ6_bitCount_0f7a4_15 : decode cJ6_bitCount_0f7a4 15 = .ok (.iload_n 0, 1) := by decide +kernel
theorem dJ6_bitCount_0f7a4_16 : decode cJ6_bitCount_0f7a4 16 = .ok (.iconst 2, 1) := by decide +kernel
theorem dJ6_bitCount_0f7a4_17 : decode cJ6_bitCount_0f7a4 17 = .ok (.iushr, 1) := by decide +kernel
theorem dJ6_bitCount_0f7a4_18 : decode cJ6_bitCount_0f7a4 18 = .ok (.ldc_w 266, 3) := by decide +kernel
theorem dJ6_bitCount_0f7a4_21 : decode cJ6_bitCount_0f7a4 21 = .ok (.iand, 1) := by decide +kernel
theorem dJ6_bitCount_0f7a4_22 : decode cJ6_bitCount_0f7a4 22 = .ok (.iadd, 1) := by decide +kernel
theorem dJ6_bitCount_0f7a4_23 : decode cJ6_bitCount_0f7a4 23 = .ok (.istore_n 0, 1) := by decide +kernel
theorem dJ6_bitCount_0f7a4_24 : decode cJ6_bitCount_0f7a4 24 = .ok (.iload_n 0, 1) := by decide +kernel
theorem dJ6_bitCount_0f7a4_25 : decode cJ6_bitCount_0f7a4 25 = .ok (.iload_n 0, 1) := by decide +kernel
theorem dJ6_bitCount_0f7a4_26 : decode cJ6_bitCount_0f7a4 26 = .ok (.iconst 4, 1) := by decide +kernel
theorem dJ6_bitCount_0f7a4_27 : decode cJ6_bitCount_0f7a4 27 = .ok (.iushr, 1) := by decide +kernel
theorem dJ6_bitCount_0f7a4_28 : decode cJ6_bitCount_0f7a4 28 = .ok (.iadd, 1) := by decide +kernel
theorem dJ6_bitCount_0f7a4_29 : decode cJ6_bitCount_0f7a4 29 = .ok (.ldc_w 267, 3) := by decide +kernel
theorem dJ6_bitCount_0f7a4_32 : decode cJ6_bitCount_0f7a4 32 = .ok (.iand, 1) := by decide +kernel
theorem dJ6_bitCount_0f7a4_33 : decode cJ6_bitCount_0f7a4 33 = .ok (.istore_n 0, 1) := by decide +kernel
theorem dJ6_bitCount_0f7a4_34 : decode cJ6_bitCount_0f7a4 34 = .ok (.iload_n 0, 1) := by decide +kernel
theorem dJ6_bitCount_0f7a4_35 : decode cJ6_bitCount_0f7a4 35 = .ok (.iload_n 0, 1) := by decide +kernel
theorem dJ6_bitCount_0f7a4_36 : decode cJ6_bitCount_0f7a4 36 = .ok (.bipush 8, 2) := by decide +kernel
theorem dJ6_bitCount_0f7a4_38 : decode cJ6_bitCount_0f7a4 38 = .ok (.iushr, 1) := by decide +kernel
theorem dJ6_bitCount_0f7a4_39 : decode cJ6_bitCount_0f7a4 39 = .ok (.iadd, 1) := by decide +kernel
theorem dJ6_bitCount_0f7a4_40 : decode cJ6_bitCount_0f7a4 40 = .ok (.istore_n 0, 1) := by decide +kernel
theorem dJ6_bitCount_0f7a4_41 : decode cJ6_bitCount_0f7a4 41 = .ok (.iload_n 0, 1) := by decide +kernel
theorem dJ6_bitCount_0f7a4_42 : decode cJ6_bitCount_0f7a4 42 = .ok (.iload_n 0, 1) := by decide +kernel
theorem dJ6_bitCount_0f7a4_43 : decode cJ6_bitCount_0f7a4 43 = .ok (.bipush 16, 2) := by decide +kernel
theorem dJ6_bitCount_0f7a4_45 : decode cJ6_bitCount_0f7a4 45 = .ok (.iushr, 1) := by decide +kernel
theorem dJ6_bitCount_0f7a4_46 : decode cJ6_bitCount_0f7a4 46 = .ok (.iadd, 1) := by decide +kernel
theorem dJ6_bitCount_0f7a4_47 : decode cJ6_bitCount_0f7a4 47 = .ok (.istore_n 0, 1) := by decide +kernel
theorem dJ6_bitCount_0f7a4_48 : decode cJ6_bitCount_0f7a4 48 = .ok (.iload_n 0, 1) := by decide +kernel
theorem dJ6_bitCount_0f7a4_49 : decode cJ6_bitCount_0f7a4 49 = .ok (.bipush 63, 2) := by decide +kernel
theorem dJ6_bitCount_0f7a4_51 : decode cJ6_bitCount_0f7a4 51 = .ok (.iand, 1) := by decide +kernel
theorem dJ6_bitCount_0f7a4_52 : decode cJ6_bitCount_0f7a4 52 = .ok (.ireturn, 1) := by decide +kernel
theorem dX10_within_0 : decode cX10_within 0 = .ok (.iload_n 0, 1) := by decide +kernel
theorem dX10_within_1 : decode cX10_within 1 = .ok (.iload_n 1, 1) := by decide +kernel
theorem dX10_within_2 : decode cX10_within 2 = .ok (.if_icmp .lt 12, 3) := by decide +kernel
theorem dX10_within_5 : decode cX10_within 5 = .ok (.iload_n 0, 1) := by decide +kernel
theorem dX10_within_6 : decode cX10_within 6 = .ok (.iload_n 2, 1) := by decide +kernel
theorem dX10_within_7 : decode cX10_within 7 = .ok (.if_icmp .gt 7, 3) := by decide +kernel
theorem dX10_within_10 : decode cX10_within 10 = .ok (.iconst 1, 1) := by decide +kernel
theorem dX10_within_11 : decode cX10_within 11 = .ok (.goto 4, 3) := by decide +kernel
theorem dX10_within_14 : decode cX10_within 14 = .ok (.iconst 0, 1) := by decide +kernel
theorem dX10_within_15 : decode cX10_within 15 = .ok (.ireturn, 1) := by decide +kernel
theorem dX9_factor_0 : decode cX9_factor 0 = .ok (.iload_n 1, 1) := by decide +kernel
theorem dX9_factor_1 : decode cX9_factor 1 = .ok (.ifCond .eq 11, 3) := by decide +kernel
theorem dX9_factor_4 : decode cX9_factor 4 = .ok (.iload_n 0, 1) := by decide +kernel
theorem dX9_factor_5 : decode cX9_factor 5 = .ok (.ifCond .le 7, 3) := by decide +kernel
theorem dX9_factor_8 : decode cX9_factor 8 = .ok (.lconst 1, 1) := by decide +kernel
theorem dX9_factor_9 : decode cX9_factor 9 = .ok (.goto 5, 3) := by decide +kernel
theorem dX9_factor_12 : decode cX9_factor 12 = .ok (.iload_n 0, 1) := by decide +kernel
theorem dX9_factor_13 : decode cX9_factor 13 = .ok (.i2l, 1) := by decide +kernel
theorem dX9_factor_14 : decode cX9_factor 14 = .ok (.lreturn, 1) := by decide +kernel
theorem dX9_signFactor_0 : decode cX9_signFactor 0 = .ok (.iload_n 2, 1) := by decide +kernel
theorem dX9_signFactor_1 : decode cX9_signFactor 1 = .ok (.ifCond .lt 8, 3) := by decide +kernel
theorem dX9_signFactor_4 : decode cX9_signFactor 4 = .ok (.iload_n 2, 1) := by decide +kernel
theorem dX9_signFactor_5 : decode cX9_signFactor 5 = .ok (.iconst 4, 1) := by decide +kernel
theorem dX9_signFactor_6 : decode cX9_signFactor 6 = .ok (.if_icmp .lt 7, 3) := by decide +kernel
theorem dX9_signFactor_9 : decode cX9_signFactor 9 = .ok (.lconst 1, 1) := by decide +kernel
theorem dX9_signFactor_10 : decode cX9_signFactor 10 = .ok (.goto 15, 3) := by decide +kernel
theorem dX9_signFactor_13 : decode cX9_signFactor 13 = .ok (.aload_n 0, 1) := by decide +kernel
theorem dX9_signFactor_14 : decode cX9_signFactor 14 = .ok (.getfield 16, 3) := by decide +kernel
theorem dX9_signFactor_17 : decode cX9_signFactor 17 = .ok (.iload_n 1, 1) := by decide +kernel
theorem dX9_signFactor_18 : decode cX9_signFactor 18 = .ok (.aaload, 1) := by decide +kernel
theorem dX9_signFactor_19 : decode cX9_signFactor 19 = .ok (.iload_n 2, 1) := by decide +kernel
theorem dX9_signFactor_20 : decode cX9_signFactor 20 = .ok (.iaload, 1) := by decide +kernel
theorem dX9_signFactor_21 : decode cX9_signFactor 21 = .ok (.iload_n 3, 1) := by decide +kernel
theorem dX9_signFactor_22 : decode cX9_signFactor 22 = .ok (.invokestatic 58, 3) := by decide +kernel
theorem dX9_signFactor_25 : decode cX9_signFactor 25 = .ok (.lreturn, 1) := by decide +kernel
theorem dX9_weigh_0 : decode cX9_weigh 0 = .ok (.iload_n 2, 1) := by decide +kernel
theorem dX9_weigh_1 : decode cX9_weigh 1 = .ok (.bipush 6, 2) := by decide +kernel
theorem dX9_weigh_3 : decode cX9_weigh 3 = .ok (.if_icmp .le 10, 3) := by decide +kernel
theorem dX9_weigh_6 : decode cX9_weigh 6 = .ok (.iload_n 2, 1) := by decide +kernel
theorem dX9_weigh_7 : decode cX9_weigh 7 = .ok (.bipush 6, 2) := by decide +kernel
theorem dX9_weigh_9 : decode cX9_weigh 9 = .ok (.isub, 1) := by decide +kernel
theorem dX9_weigh_10 : decode cX9_weigh 10 = .ok (.goto 4, 3) := by decide +kernel
theorem dX9_weigh_13 : decode cX9_weigh 13 = .ok (.iconst 0, 1) := by decide +kernel
theorem dX9_weigh_14 : decode cX9_weigh 14 = .ok (.istore 4, 2) := by decide +kernel
theorem dX9_weigh_16 : decode cX9_weigh 16 = .ok (.iconst 0, 1) := by decide +kernel
theorem dX9_weigh_17 : decode cX9_weigh 17 = .ok (.istore 5, 2) := by decide +kernel
theorem dX9_weigh_19 : decode cX9_weigh 19 = .ok (.iload 5, 2) := by decide +kernel
theorem dX9_weigh_21 : decode cX9_weigh 21 = .ok (.iconst 4, 1) := by decide +kernel
theorem dX9_weigh_22 : decode cX9_weigh 22 = .ok (.if_icmp .ge 44, 3) := by decide +kernel
theorem dX9_weigh_25 : decode cX9_weigh 25 = .ok (.aload_n 0, 1) := by decide +kernel
theorem dX9_weigh_26 : decode cX9_weigh 26 = .ok (.getfield 29, 3) := by decide +kernel
theorem dX9_weigh_29 : decode cX9_weigh 29 = .ok (.iload 5, 2) := by decide +kernel
theorem dX9_weigh_31 : decode cX9_weigh 31 = .ok (.aload_n 0, 1) := by decide +kernel
theorem dX9_weigh_32 : decode cX9_weigh 32 = .ok (.getfield 19, 3) := by decide +kernel
theorem dX9_weigh_35 : decode cX9_weigh 35 = .ok (.iload 5, 2) := by decide +kernel
theorem dX9_weigh_37 : decode cX9_weigh 37 = .ok (.iaload, 1) := by decide +kernel
theorem dX9_weigh_38 : decode cX9_weigh 38 = .ok (.iload_n 3, 1) := by decide +kernel
theorem dX9_weigh_39 : decode cX9_weigh 39 = .ok (.invokestatic 58, 3) := by decide +kernel
theorem dX9_weigh_42 : decode cX9_weigh 42 = .ok (.aload_n 0, 1) := by decide +kernel
theorem dX9_weigh_43 : decode cX9_weigh 43 = .ok (.iload 5, 2) := by decide +kernel
theorem dX9_weigh_45 : decode cX9_weigh 45 = .ok (.aload_n 0, 1) := by decide +kernel
theorem dX9_weigh_46 : decode cX9_weigh 46 = .ok (.getfield 23, 3) := by decide +kernel
theorem dX9_weigh_49 : decode cX9_weigh 49 = .ok (.iload_n 1, 1) := by decide +kernel
theorem dX9_weigh_50 : decode cX9_weigh 50 = .ok (.aaload, 1) := by decide +kernel
theorem dX9_weigh_51 : decode cX9_weigh 51 = .ok (.iload 4, 2) := by decide +kernel
theorem dX9_weigh_53 : decode cX9_weigh 53 = .ok (.iaload, 1) := by decide +kernel
theorem dX9_weigh_54 : decode cX9_weigh 54 = .ok (.iload_n 3, 1) := by decide +kernel
theorem dX9_weigh_55 : decode cX9_weigh 55 = .ok (.invokevirtual 62, 3) := by decide +kernel
theorem dX9_weigh_58 : decode cX9_weigh 58 = .ok (.lmul, 1) := by decide +kernel
theorem dX9_weigh_59 : decode cX9_weigh 59 = .ok (.lastore, 1) := by decide +kernel
theorem dX9_weigh_60 : decode cX9_weigh 60 = .ok (.iinc 5 1, 3) := by decide +kernel
theorem dX9_weigh_63 : decode cX9_weigh 63 = .ok (.goto (-44), 3) := by decide +kernel
theorem dX9_weigh_66 : decode cX9_weigh 66 = .ok (.iload 4, 2) := by decide +kernel
theorem dX9_weigh_68 : decode cX9_weigh 68 = .ok (.iconst 1, 1) := by decide +kernel
theorem dX9_weigh_69 : decode cX9_weigh 69 = .ok (.iadd, 1) := by decide +kernel
theorem dX9_weigh_70 : decode cX9_weigh 70 = .ok (.istore 5, 2) := by decide +kernel
theorem dX9_weigh_72 : decode cX9_weigh 72 = .ok (.iload 5, 2) := by decide +kernel
theorem dX9_weigh_74 : decode cX9_weigh 74 = .ok (.iload_n 2, 1) := by decide +kernel
theorem dX9_weigh_75 : decode cX9_weigh 75 = .ok (.if_icmp .gt 115, 3) := by decide +kernel
theorem dX9_weigh_78 : decode cX9_weigh 78 = .ok (.iconst 0, 1) := by decide +kernel
theorem dX9_weigh_79 : decode cX9_weigh 79 = .ok (.istore 6, 2) := by decide +kernel
theorem dX9_weigh_81 : decode cX9_weigh 81 = .ok (.iload 6, 2) := by decide +kernel
theorem dX9_weigh_83 : decode cX9_weigh 83 = .ok (.iconst 4, 1) := by decide +kernel
theorem dX9_weigh_84 : decode cX9_weigh 84 = .ok (.if_icmp .ge 80, 3) := by decide +kernel
theorem dX9_weigh_87 : decode cX9_weigh 87 = .ok (.lconst 0, 1) := by decide +kernel
theorem dX9_weigh_88 : decode cX9_weigh 88 = .ok (.lstore 7, 2) := by decide +kernel
theorem dX9_weigh_90 : decode cX9_weigh 90 = .ok (.iconst 0, 1) := by decide +kernel
theorem dX9_weigh_91 : decode cX9_weigh 91 = .ok (.istore 9, 2) := by decide +kernel
theorem dX9_weigh_93 : decode cX9_weigh 93 = .ok (.iload 9, 2) := by decide +kernel
theorem dX9_weigh_95 : decode cX9_weigh 95 = .ok (.iconst 4, 1) := by decide +kernel
theorem dX9_weigh_96 : decode cX9_weigh 96 = .ok (.if_icmp .ge 36, 3) := by decide +kernel
theorem dX9_weigh_99 : decode cX9_weigh 99 = .ok (.lload 7, 2) := by decide +kernel
theorem dX9_weigh_101 : decode cX9_weigh 101 = .ok (.aload_n 0, 1) := by decide +kernel
theorem dX9_weigh_102 : decode cX9_weigh 102 = .ok (.getfield 29, 3) := by decide +kernel
theorem dX9_weigh_105 : decode cX9_weigh 105 = .ok (.iload 9, 2) := by decide +kernel
theorem dX9_weigh_107 : decode cX9_weigh 107 = .ok (.laload, 1) := by decide +kernel
theorem dX9_weigh_108 : decode cX9_weigh 108 = .ok (.aload_n 0, 1) := by decide +kernel
theorem dX9_weigh_109 : decode cX9_weigh 109 = .ok (.getfield 11, 3) := by decide +kernel
theorem dX9_weigh_112 : decode cX9_weigh 112 = .ok (.iload 9, 2) := by decide +kernel
theorem dX9_weigh_114 : decode cX9_weigh 114 = .ok (.aaload, 1) := by decide +kernel
theorem dX9_weigh_115 : decode cX9_weigh 115 = .ok (.iload 6, 2) := by decide +kernel
theorem dX9_weigh_117 : decode cX9_weigh 117 = .ok (.iaload, 1) := by decide +kernel
theorem dX9_weigh_118 : decode cX9_weigh 118 = .ok (.iload_n 3, 1) := by decide +kernel
theorem dX9_weigh_119 : decode cX9_weigh 119 = .ok (.invokestatic 58, 3) := by decide +kernel
theorem dX9_weigh_122 : decode cX9_weigh 122 = .ok (.lmul, 1) := by decide +kernel
theorem dX9_weigh_123 : decode cX9_weigh 123 = .ok (.ladd, 1) := by decide +kernel
theorem dX9_weigh_124 : decode cX9_weigh 124 = .ok (.lstore 7, 2) := by decide +kernel
theorem dX9_weigh_126 : decode cX9_weigh 126 = .ok (.iinc 9 1, 3) := by decide +kernel
theorem dX9_weigh_129 : decode cX9_weigh 129 = .ok (.goto (-36), 3) := by decide +kernel
theorem dX9_weigh_132 : decode cX9_weigh 132 = .ok (.aload_n 0, 1) := by decide +kernel
theorem dX9_weigh_133 : decode cX9_weigh 133 = .ok (.getfield 33, 3) := by decide +kernel
theorem dX9_weigh_136 : decode cX9_weigh 136 = .ok (.iload 6, 2) := by decide +kernel
theorem dX9_weigh_138 : decode cX9_weigh 138 = .ok (.lload 7, 2) := by decide +kernel
theorem dX9_weigh_140 : decode cX9_weigh 140 = .ok (.aload_n 0, 1) := by decide +kernel
theorem dX9_weigh_141 : decode cX9_weigh 141 = .ok (.iload 6, 2) := by decide +kernel
theorem dX9_weigh_143 : decode cX9_weigh 143 = .ok (.aload_n 0, 1) := by decide +kernel
theorem dX9_weigh_144 : decode cX9_weigh 144 = .ok (.getfield 23, 3) := by decide +kernel
theorem dX9_weigh_147 : decode cX9_weigh 147 = .ok (.iload_n 1, 1) := by decide +kernel
theorem dX9_weigh_148 : decode cX9_weigh 148 = .ok (.aaload, 1) := by decide +kernel
theorem dX9_weigh_149 : decode cX9_weigh 149 = .ok (.iload 5, 2) := by decide +kernel
theorem dX9_weigh_151 : decode cX9_weigh 151 = .ok (.iaload, 1) := by decide +kernel
theorem dX9_weigh_152 : decode cX9_weigh 152 = .ok (.iload_n 3, 1) := by decide +kernel
theorem dX9_weigh_153 : decode cX9_weigh 153 = .ok (.invokevirtual 62, 3) := by decide +kernel
theorem dX9_weigh_156 : decode cX9_weigh 156 = .ok (.lmul, 1) := by decide +kernel
theorem dX9_weigh_157 : decode cX9_weigh 157 = .ok (.lastore, 1) := by decide +kernel
theorem dX9_weigh_158 : decode cX9_weigh 158 = .ok (.iinc 6 1, 3) := by decide +kernel
theorem dX9_weigh_161 : decode cX9_weigh 161 = .ok (.goto (-80), 3) := by decide +kernel
theorem dX9_weigh_164 : decode cX9_weigh 164 = .ok (.aload_n 0, 1) := by decide +kernel
theorem dX9_weigh_165 : decode cX9_weigh 165 = .ok (.getfield 29, 3) := by decide +kernel
theorem dX9_weigh_168 : decode cX9_weigh 168 = .ok (.astore 6, 2) := by decide +kernel
theorem dX9_weigh_170 : decode cX9_weigh 170 = .ok (.aload_n 0, 1) := by decide +kernel
theorem dX9_weigh_171 : decode cX9_weigh 171 = .ok (.aload_n 0, 1) := by decide +kernel
theorem dX9_weigh_172 : decode cX9_weigh 172 = .ok (.getfield 33, 3) := by decide +kernel
theorem dX9_weigh_175 : decode cX9_weigh 175 = .ok (.putfield 29, 3) := by decide +kernel
theorem dX9_weigh_178 : decode cX9_weigh 178 = .ok (.aload_n 0, 1) := by decide +kernel
theorem dX9_weigh_179 : decode cX9_weigh 179 = .ok (.aload 6, 2) := by decide +kernel
theorem dX9_weigh_181 : decode cX9_weigh 181 = .ok (.putfield 33, 3) := by decide +kernel
theorem dX9_weigh_184 : decode cX9_weigh 184 = .ok (.iinc 5 1, 3) := by decide +kernel
theorem dX9_weigh_187 : decode cX9_weigh 187 = .ok (.goto (-115), 3) := by decide +kernel
theorem dX9_weigh_190 : decode cX9_weigh 190 = .ok (.return_, 1) := by decide +kernel
theorem dX9_allWeights_0 : decode cX9_allWeights 0 = .ok (.aload_n 0, 1) := by decide +kernel
theorem dX9_allWeights_1 : decode cX9_allWeights 1 = .ok (.getfield 29, 3) := by decide +kernel
theorem dX9_allWeights_4 : decode cX9_allWeights 4 = .ok (.iconst 0, 1) := by decide +kernel
theorem dX9_allWeights_5 : decode cX9_allWeights 5 = .ok (.laload, 1) := by decide +kernel
theorem dX9_allWeights_6 : decode cX9_allWeights 6 = .ok (.aload_n 0, 1) := by decide +kernel
theorem dX9_allWeights_7 : decode cX9_allWeights 7 = .ok (.getfield 29, 3) := by decide +kernel
theorem dX9_allWeights_10 : decode cX9_allWeights 10 = .ok (.iconst 1, 1) := by decide +kernel
theorem dX9_allWeights_11 : decode cX9_allWeights 11 = .ok (.laload, 1) := by decide +kernel
theorem dX9_allWeights_12 : decode cX9_allWeights 12 = .ok (.ladd, 1) := by decide +kernel
theorem dX9_allWeights_13 : decode cX9_allWeights 13 = .ok (.aload_n 0, 1) := by decide +kernel
theorem dX9_allWeights_14 : decode cX9_allWeights 14 = .ok (.getfield 29, 3) := by decide +kernel
theorem dX9_allWeights_17 : decode cX9_allWeights 17 = .ok (.iconst 2, 1) := by decide +kernel
theorem dX9_allWeights_18 : decode cX9_allWeights 18 = .ok (.laload, 1) := by decide +kernel
theorem dX9_allWeights_19 : decode cX9_allWeights 19 = .ok (.ladd, 1) := by decide +kernel
theorem dX9_allWeights_20 : decode cX9_allWeights 20 = .ok (.aload_n 0, 1) := by decide +kernel
theorem dX9_allWeights_21 : decode cX9_allWeights 21 = .ok (.getfield 29, 3) := by decide +kernel
theorem dX9_allWeights_24 : decode cX9_allWeights 24 = .ok (.iconst 3, 1) := by decide +kernel
theorem dX9_allWeights_25 : decode cX9_allWeights 25 = .ok (.laload, 1) := by decide +kernel
theorem dX9_allWeights_26 : decode cX9_allWeights 26 = .ok (.ladd, 1) := by decide +kernel
theorem dX9_allWeights_27 : decode cX9_allWeights 27 = .ok (.lreturn, 1) := by decide +kernel
theorem dX9_moveOn_0 : decode cX9_moveOn 0 = .ok (.iconst 0, 1) := by decide +kernel
theorem dX9_moveOn_1 : decode cX9_moveOn 1 = .ok (.istore_n 3, 1) := by decide +kernel
theorem dX9_moveOn_2 : decode cX9_moveOn 2 = .ok (.iload_n 3, 1) := by decide +kernel
theorem dX9_moveOn_3 : decode cX9_moveOn 3 = .ok (.iconst 4, 1) := by decide +kernel
theorem dX9_moveOn_4 : decode cX9_moveOn 4 = .ok (.if_icmp .ge 13, 3) := by decide +kernel
theorem dX9_moveOn_7 : decode cX9_moveOn 7 = .ok (.aload_n 2, 1) := by decide +kernel
theorem dX9_moveOn_8 : decode cX9_moveOn 8 = .ok (.iload_n 3, 1) := by decide +kernel
theorem dX9_moveOn_9 : decode cX9_moveOn 9 = .ok (.iconst 0, 1) := by decide +kernel
theorem dX9_moveOn_10 : decode cX9_moveOn 10 = .ok (.iastore, 1) := by decide +kernel
theorem dX9_moveOn_11 : decode cX9_moveOn 11 = .ok (.iinc 3 1, 3) := by decide +kernel
theorem dX9_moveOn_14 : decode cX9_moveOn 14 = .ok (.goto (-12), 3) := by decide +kernel
theorem dX9_moveOn_17 : decode cX9_moveOn 17 = .ok (.iconst 0, 1) := by decide +kernel
theorem dX9_moveOn_18 : decode cX9_moveOn 18 = .ok (.istore_n 3, 1) := by decide +kernel
theorem dX9_moveOn_19 : decode cX9_moveOn 19 = .ok (.iload_n 3, 1) := by decide +kernel
theorem dX9_moveOn_20 : decode cX9_moveOn 20 = .ok (.iconst 4, 1) := by decide +kernel
theorem dX9_moveOn_21 : decode cX9_moveOn 21 = .ok (.if_icmp .ge 89, 3) := by decide +kernel
theorem dX9_moveOn_24 : decode cX9_moveOn 24 = .ok (.aload_n 0, 1) := by decide +kernel
theorem dX9_moveOn_25 : decode cX9_moveOn 25 = .ok (.getfield 11, 3) := by decide +kernel
theorem dX9_moveOn_28 : decode cX9_moveOn 28 = .ok (.iload_n 3, 1) := by decide +kernel
theorem dX9_moveOn_29 : decode cX9_moveOn 29 = .ok (.aaload, 1) := by decide +kernel
theorem dX9_moveOn_30 : decode cX9_moveOn 30 = .ok (.iconst 0, 1) := by decide +kernel
theorem dX9_moveOn_31 : decode cX9_moveOn 31 = .ok (.iaload, 1) := by decide +kernel
theorem dX9_moveOn_32 : decode cX9_moveOn 32 = .ok (.aload_n 0, 1) := by decide +kernel
theorem dX9_moveOn_33 : decode cX9_moveOn 33 = .ok (.getfield 11, 3) := by decide +kernel
theorem dX9_moveOn_36 : decode cX9_moveOn 36 = .ok (.iload_n 3, 1) := by decide +kernel
theorem dX9_moveOn_37 : decode cX9_moveOn 37 = .ok (.aaload, 1) := by decide +kernel
theorem dX9_moveOn_38 : decode cX9_moveOn 38 = .ok (.iconst 1, 1) := by decide +kernel
theorem dX9_moveOn_39 : decode cX9_moveOn 39 = .ok (.iaload, 1) := by decide +kernel
theorem dX9_moveOn_40 : decode cX9_moveOn 40 = .ok (.iadd, 1) := by decide +kernel
theorem dX9_moveOn_41 : decode cX9_moveOn 41 = .ok (.aload_n 0, 1) := by decide +kernel
theorem dX9_moveOn_42 : decode cX9_moveOn 42 = .ok (.getfield 11, 3) := by decide +kernel
theorem dX9_moveOn_45 : decode cX9_moveOn 45 = .ok (.iload_n 3, 1) := by decide +kernel
theorem dX9_moveOn_46 : decode cX9_moveOn 46 = .ok (.aaload, 1) := by decide +kernel
theorem dX9_moveOn_47 : decode cX9_moveOn 47 = .ok (.iconst 2, 1) := by decide +kernel
theorem dX9_moveOn_48 : decode cX9_moveOn 48 = .ok (.iaload, 1) := by decide +kernel
theorem dX9_moveOn_49 : decode cX9_moveOn 49 = .ok (.iadd, 1) := by decide +kernel
theorem dX9_moveOn_50 : decode cX9_moveOn 50 = .ok (.aload_n 0, 1) := by decide +kernel
theorem dX9_moveOn_51 : decode cX9_moveOn 51 = .ok (.getfield 11, 3) := by decide +kernel
theorem dX9_moveOn_54 : decode cX9_moveOn 54 = .ok (.iload_n 3, 1) := by decide +kernel
theorem dX9_moveOn_55 : decode cX9_moveOn 55 = .ok (.aaload, 1) := by decide +kernel
theorem dX9_moveOn_56 : decode cX9_moveOn 56 = .ok (.iconst 3, 1) := by decide +kernel
theorem dX9_moveOn_57 : decode cX9_moveOn 57 = .ok (.iaload, 1) := by decide +kernel
theorem dX9_moveOn_58 : decode cX9_moveOn 58 = .ok (.iadd, 1) := by decide +kernel
theorem dX9_moveOn_59 : decode cX9_moveOn 59 = .ok (.istore 4, 2) := by decide +kernel
theorem dX9_moveOn_61 : decode cX9_moveOn 61 = .ok (.iload 4, 2) := by decide +kernel
theorem dX9_moveOn_63 : decode cX9_moveOn 63 = .ok (.ifCond .le 41, 3) := by decide +kernel
theorem dX9_moveOn_66 : decode cX9_moveOn 66 = .ok (.iconst 0, 1) := by decide +kernel
theorem dX9_moveOn_67 : decode cX9_moveOn 67 = .ok (.istore 5, 2) := by decide +kernel
theorem dX9_moveOn_69 : decode cX9_moveOn 69 = .ok (.iload 5, 2) := by decide +kernel
theorem dX9_moveOn_71 : decode cX9_moveOn 71 = .ok (.iconst 4, 1) := by decide +kernel
theorem dX9_moveOn_72 : decode cX9_moveOn 72 = .ok (.if_icmp .ge 32, 3) := by decide +kernel
theorem dX9_moveOn_75 : decode cX9_moveOn 75 = .ok (.aload_n 2, 1) := by decide +kernel
theorem dX9_moveOn_76 : decode cX9_moveOn 76 = .ok (.iload 5, 2) := by decide +kernel
theorem dX9_moveOn_78 : decode cX9_moveOn 78 = .ok (.dup2, 1) := by decide +kernel
theorem dX9_moveOn_79 : decode cX9_moveOn 79 = .ok (.iaload, 1) := by decide +kernel
theorem dX9_moveOn_80 : decode cX9_moveOn 80 = .ok (.aload_n 1, 1) := by decide +kernel
theorem dX9_moveOn_81 : decode cX9_moveOn 81 = .ok (.iload_n 3, 1) := by decide +kernel
theorem dX9_moveOn_82 : decode cX9_moveOn 82 = .ok (.iaload, 1) := by decide +kernel
theorem dX9_moveOn_83 : decode cX9_moveOn 83 = .ok (.aload_n 0, 1) := by decide +kernel
theorem dX9_moveOn_84 : decode cX9_moveOn 84 = .ok (.getfield 11, 3) := by decide +kernel
theorem dX9_moveOn_87 : decode cX9_moveOn 87 = .ok (.iload_n 3, 1) := by decide +kernel
theorem dX9_moveOn_88 : decode cX9_moveOn 88 = .ok (.aaload, 1) := by decide +kernel
theorem dX9_moveOn_89 : decode cX9_moveOn 89 = .ok (.iload 5, 2) := by decide +kernel
theorem dX9_moveOn_91 : decode cX9_moveOn 91 = .ok (.iaload, 1) := by decide +kernel
theorem dX9_moveOn_92 : decode cX9_moveOn 92 = .ok (.imul, 1) := by decide +kernel
theorem dX9_moveOn_93 : decode cX9_moveOn 93 = .ok (.iload 4, 2) := by decide +kernel
theorem dX9_moveOn_95 : decode cX9_moveOn 95 = .ok (.idiv, 1) := by decide +kernel
theorem dX9_moveOn_96 : decode cX9_moveOn 96 = .ok (.iadd, 1) := by decide +kernel
theorem dX9_moveOn_97 : decode cX9_moveOn 97 = .ok (.iastore, 1) := by decide +kernel
theorem dX9_moveOn_98 : decode cX9_moveOn 98 = .ok (.iinc 5 1, 3) := by decide +kernel
theorem dX9_moveOn_101 : decode cX9_moveOn 101 = .ok (.goto (-32), 3) := by decide +kernel
theorem dX9_moveOn_104 : decode cX9_moveOn 104 = .ok (.iinc 3 1, 3) := by decide +kernel
theorem dX9_moveOn_107 : decode cX9_moveOn 107 = .ok (.goto (-88), 3) := by decide +kernel
theorem dX9_moveOn_110 : decode cX9_moveOn 110 = .ok (.return_, 1) := by decide +kernel
theorem dX9_lookAhead_0 : decode cX9_lookAhead 0 = .ok (.aload_n 0, 1) := by decide +kernel
theorem dX9_lookAhead_1 : decode cX9_lookAhead 1 = .ok (.iload_n 1, 1) := by decide +kernel
theorem dX9_lookAhead_2 : decode cX9_lookAhead 2 = .ok (.iload_n 2, 1) := by decide +kernel
theorem dX9_lookAhead_3 : decode cX9_lookAhead 3 = .ok (.iconst 0, 1) := by decide +kernel
theorem dX9_lookAhead_4 : decode cX9_lookAhead 4 = .ok (.invokevirtual 36, 3) := by decide +kernel
theorem dX9_lookAhead_7 : decode cX9_lookAhead 7 = .ok (.aload_n 0, 1) := by decide +kernel
theorem dX9_lookAhead_8 : decode cX9_lookAhead 8 = .ok (.invokevirtual 40, 3) := by decide +kernel
theorem dX9_lookAhead_11 : decode cX9_lookAhead 11 = .ok (.lstore 4, 2) := by decide +kernel
theorem dX9_lookAhead_13 : decode cX9_lookAhead 13 = .ok (.iconst 0, 1) := by decide +kernel
theorem dX9_lookAhead_14 : decode cX9_lookAhead 14 = .ok (.istore 6, 2) := by decide +kernel
theorem dX9_lookAhead_16 : decode cX9_lookAhead 16 = .ok (.iload 6, 2) := by decide +kernel
theorem dX9_lookAhead_18 : decode cX9_lookAhead 18 = .ok (.iconst 4, 1) := by decide +kernel
theorem dX9_lookAhead_19 : decode cX9_lookAhead 19 = .ok (.if_icmp .ge 44, 3) := by decide +kernel
theorem dX9_lookAhead_22 : decode cX9_lookAhead 22 = .ok (.aload_n 0, 1) := by decide +kernel
theorem dX9_lookAhead_23 : decode cX9_lookAhead 23 = .ok (.getfield 26, 3) := by decide +kernel
theorem dX9_lookAhead_26 : decode cX9_lookAhead 26 = .ok (.iconst 0, 1) := by decide +kernel
theorem dX9_lookAhead_27 : decode cX9_lookAhead 27 = .ok (.aaload, 1) := by decide +kernel
theorem dX9_lookAhead_28 : decode cX9_lookAhead 28 = .ok (.iload 6, 2) := by decide +kernel
theorem dX9_lookAhead_30 : decode cX9_lookAhead 30 = .ok (.lload 4, 2) := by decide +kernel
theorem dX9_lookAhead_32 : decode cX9_lookAhead 32 = .ok (.lconst 0, 1) := by decide +kernel
theorem dX9_lookAhead_33 : decode cX9_lookAhead 33 = .ok (.lcmp, 1) := by decide +kernel
theorem dX9_lookAhead_34 : decode cX9_lookAhead 34 = .ok (.ifCond .gt 7, 3) := by decide +kernel
theorem dX9_lookAhead_37 : decode cX9_lookAhead 37 = .ok (.iconst 0, 1) := by decide +kernel
theorem dX9_lookAhead_38 : decode cX9_lookAhead 38 = .ok (.goto 18, 3) := by decide +kernel
theorem dX9_lookAhead_41 : decode cX9_lookAhead 41 = .ok (.aload_n 0, 1) := by decide +kernel
theorem dX9_lookAhead_42 : decode cX9_lookAhead 42 = .ok (.getfield 29, 3) := by decide +kernel
theorem dX9_lookAhead_45 : decode cX9_lookAhead 45 = .ok (.iload 6, 2) := by decide +kernel
theorem dX9_lookAhead_47 : decode cX9_lookAhead 47 = .ok (.laload, 1) := by decide +kernel
theorem dX9_lookAhead_48 : decode cX9_lookAhead 48 = .ok (.ldc2_w 44, 3) := by decide +kernel
theorem dX9_lookAhead_51 : decode cX9_lookAhead 51 = .ok (.lmul, 1) := by decide +kernel
theorem dX9_lookAhead_52 : decode cX9_lookAhead 52 = .ok (.lload 4, 2) := by decide +kernel
theorem dX9_lookAhead_54 : decode cX9_lookAhead 54 = .ok (.ldiv, 1) := by decide +kernel
theorem dX9_lookAhead_55 : decode cX9_lookAhead 55 = .ok (.l2i, 1) := by decide +kernel
theorem dX9_lookAhead_56 : decode cX9_lookAhead 56 = .ok (.iastore, 1) := by decide +kernel
theorem dX9_lookAhead_57 : decode cX9_lookAhead 57 = .ok (.iinc 6 1, 3) := by decide +kernel
theorem dX9_lookAhead_60 : decode cX9_lookAhead 60 = .ok (.goto (-44), 3) := by decide +kernel
theorem dX9_lookAhead_63 : decode cX9_lookAhead 63 = .ok (.iconst 1, 1) := by decide +kernel
theorem dX9_lookAhead_64 : decode cX9_lookAhead 64 = .ok (.istore 6, 2) := by decide +kernel
theorem dX9_lookAhead_66 : decode cX9_lookAhead 66 = .ok (.iload 6, 2) := by decide +kernel
theorem dX9_lookAhead_68 : decode cX9_lookAhead 68 = .ok (.iload_n 3, 1) := by decide +kernel
theorem dX9_lookAhead_69 : decode cX9_lookAhead 69 = .ok (.if_icmp .gt 36, 3) := by decide +kernel
theorem dX9_lookAhead_72 : decode cX9_lookAhead 72 = .ok (.iload 6, 2) := by decide +kernel
theorem dX9_lookAhead_74 : decode cX9_lookAhead 74 = .ok (.bipush 8, 2) := by decide +kernel
theorem dX9_lookAhead_76 : decode cX9_lookAhead 76 = .ok (.if_icmp .gt 29, 3) := by decide +kernel
theorem dX9_lookAhead_79 : decode cX9_lookAhead 79 = .ok (.aload_n 0, 1) := by decide +kernel
theorem dX9_lookAhead_80 : decode cX9_lookAhead 80 = .ok (.aload_n 0, 1) := by decide +kernel
theorem dX9_lookAhead_81 : decode cX9_lookAhead 81 = .ok (.getfield 26, 3) := by decide +kernel
theorem dX9_lookAhead_84 : decode cX9_lookAhead 84 = .ok (.iload 6, 2) := by decide +kernel
theorem dX9_lookAhead_86 : decode cX9_lookAhead 86 = .ok (.iconst 1, 1) := by decide +kernel
theorem dX9_lookAhead_87 : decode cX9_lookAhead 87 = .ok (.isub, 1) := by decide +kernel
theorem dX9_lookAhead_88 : decode cX9_lookAhead 88 = .ok (.aaload, 1) := by decide +kernel
theorem dX9_lookAhead_89 : decode cX9_lookAhead 89 = .ok (.aload_n 0, 1) := by decide +kernel
theorem dX9_lookAhead_90 : decode cX9_lookAhead 90 = .ok (.getfield 26, 3) := by decide +kernel
theorem dX9_lookAhead_93 : decode cX9_lookAhead 93 = .ok (.iload 6, 2) := by decide +kernel
theorem dX9_lookAhead_95 : decode cX9_lookAhead 95 = .ok (.aaload, 1) := by decide +kernel
theorem dX9_lookAhead_96 : decode cX9_lookAhead 96 = .ok (.invokevirtual 46, 3) := by decide +kernel
theorem dX9_lookAhead_99 : decode cX9_lookAhead 99 = .ok (.iinc 6 1, 3) := by decide +kernel
theorem dX9_lookAhead_102 : decode cX9_lookAhead 102 = .ok (.goto (-36), 3) := by decide +kernel
theorem dX9_lookAhead_105 : decode cX9_lookAhead 105 = .ok (.return_, 1) := by decide +kernel
theorem dX9_seamOdds_0 : decode cX9_seamOdds 0 = .ok (.iconst 0, 1) := by decide +kernel
theorem dX9_seamOdds_1 : decode cX9_seamOdds 1 = .ok (.istore_n 2, 1) := by decide +kernel
theorem dX9_seamOdds_2 : decode cX9_seamOdds 2 = .ok (.iconst 0, 1) := by decide +kernel
theorem dX9_seamOdds_3 : decode cX9_seamOdds 3 = .ok (.istore_n 3, 1) := by decide +kernel
theorem dX9_seamOdds_4 : decode cX9_seamOdds 4 = .ok (.iload_n 3, 1) := by decide +kernel
theorem dX9_seamOdds_5 : decode cX9_seamOdds 5 = .ok (.iconst 4, 1) := by decide +kernel
theorem dX9_seamOdds_6 : decode cX9_seamOdds 6 = .ok (.if_icmp .ge 31, 3) := by decide +kernel
theorem dX9_seamOdds_9 : decode cX9_seamOdds 9 = .ok (.aload_n 0, 1) := by decide +kernel
theorem dX9_seamOdds_10 : decode cX9_seamOdds 10 = .ok (.getfield 50, 3) := by decide +kernel
theorem dX9_seamOdds_13 : decode cX9_seamOdds 13 = .ok (.iload_n 3, 1) := by decide +kernel
theorem dX9_seamOdds_14 : decode cX9_seamOdds 14 = .ok (.invokestatic 54, 3) := by decide +kernel
theorem dX9_seamOdds_17 : decode cX9_seamOdds 17 = .ok (.ifCond .eq 14, 3) := by decide +kernel
theorem dX9_seamOdds_20 : decode cX9_seamOdds 20 = .ok (.iload_n 2, 1) := by decide +kernel
theorem dX9_seamOdds_21 : decode cX9_seamOdds 21 = .ok (.aload_n 0, 1) := by decide +kernel
theorem dX9_seamOdds_22 : decode cX9_seamOdds 22 = .ok (.getfield 26, 3) := by decide +kernel
theorem dX9_seamOdds_25 : decode cX9_seamOdds 25 = .ok (.iload_n 1, 1) := by decide +kernel
theorem dX9_seamOdds_26 : decode cX9_seamOdds 26 = .ok (.aaload, 1) := by decide +kernel
theorem dX9_seamOdds_27 : decode cX9_seamOdds 27 = .ok (.iload_n 3, 1) := by decide +kernel
theorem dX9_seamOdds_28 : decode cX9_seamOdds 28 = .ok (.iaload, 1) := by decide +kernel
theorem dX9_seamOdds_29 : decode cX9_seamOdds 29 = .ok (.iadd, 1) := by decide +kernel
theorem dX9_seamOdds_30 : decode cX9_seamOdds 30 = .ok (.istore_n 2, 1) := by decide +kernel
theorem dX9_seamOdds_31 : decode cX9_seamOdds 31 = .ok (.iinc 3 1, 3) := by decide +kernel
theorem dX9_seamOdds_34 : decode cX9_seamOdds 34 = .ok (.goto (-30), 3) := by decide +kernel
theorem dX9_seamOdds_37 : decode cX9_seamOdds 37 = .ok (.iload_n 2, 1) := by decide +kernel
theorem dX9_seamOdds_38 : decode cX9_seamOdds 38 = .ok (.ireturn, 1) := by decide +kernel
theorem dX9_fittingRows_0 : decode cX9_fittingRows 0 = .ok (.aload_n 0, 1) := by decide +kernel
theorem dX9_fittingRows_1 : decode cX9_fittingRows 1 = .ok (.iload_n 1, 1) := by decide +kernel
theorem dX9_fittingRows_2 : decode cX9_fittingRows 2 = .ok (.iload_n 2, 1) := by decide +kernel
theorem dX9_fittingRows_3 : decode cX9_fittingRows 3 = .ok (.iconst 1, 1) := by decide +kernel
theorem dX9_fittingRows_4 : decode cX9_fittingRows 4 = .ok (.invokevirtual 36, 3) := by decide +kernel
theorem dX9_fittingRows_7 : decode cX9_fittingRows 7 = .ok (.aload_n 0, 1) := by decide +kernel
theorem dX9_fittingRows_8 : decode cX9_fittingRows 8 = .ok (.invokevirtual 40, 3) := by decide +kernel
theorem dX9_fittingRows_11 : decode cX9_fittingRows 11 = .ok (.l2i, 1) := by decide +kernel
theorem dX9_fittingRows_12 : decode cX9_fittingRows 12 = .ok (.ireturn, 1) := by decide +kernel
theorem dX10_isState_0 : decode cX10_isState 0 = .ok (.iload_n 0, 1) := by decide +kernel
theorem dX10_isState_1 : decode cX10_isState 1 = .ok (.iconst 0, 1) := by decide +kernel
theorem dX10_isState_2 : decode cX10_isState 2 = .ok (.iconst 3, 1) := by decide +kernel
theorem dX10_isState_3 : decode cX10_isState 3 = .ok (.invokestatic 90, 3) := by decide +kernel
theorem dX10_isState_6 : decode cX10_isState 6 = .ok (.ireturn, 1) := by decide +kernel
theorem dX10_isOften_0 : decode cX10_isOften 0 = .ok (.iload_n 0, 1) := by decide +kernel
theorem dX10_isOften_1 : decode cX10_isOften 1 = .ok (.iconst 0, 1) := by decide +kernel
theorem dX10_isOften_2 : decode cX10_isOften 2 = .ok (.iconst 4, 1) := by decide +kernel
theorem dX10_isOften_3 : decode cX10_isOften 3 = .ok (.invokestatic 90, 3) := by decide +kernel
theorem dX10_isOften_6 : decode cX10_isOften 6 = .ok (.ireturn, 1) := by decide +kernel
theorem dX10_isPerson_0 : decode cX10_isPerson 0 = .ok (.iload_n 0, 1) := by decide +kernel
theorem dX10_isPerson_1 : decode cX10_isPerson 1 = .ok (.iconst 0, 1) := by decide +kernel
theorem dX10_isPerson_2 : decode cX10_isPerson 2 = .ok (.iconst 3, 1) := by decide +kernel
theorem dX10_isPerson_3 : decode cX10_isPerson 3 = .ok (.invokestatic 90, 3) := by decide +kernel
theorem dX10_isPerson_6 : decode cX10_isPerson 6 = .ok (.ireturn, 1) := by decide +kernel
theorem dX10_isAhead_0 : decode cX10_isAhead 0 = .ok (.iload_n 0, 1) := by decide +kernel
theorem dX10_isAhead_1 : decode cX10_isAhead 1 = .ok (.iconst 0, 1) := by decide +kernel
theorem dX10_isAhead_2 : decode cX10_isAhead 2 = .ok (.bipush 8, 2) := by decide +kernel
theorem dX10_isAhead_4 : decode cX10_isAhead 4 = .ok (.invokestatic 90, 3) := by decide +kernel
theorem dX10_isAhead_7 : decode cX10_isAhead 7 = .ok (.ireturn, 1) := by decide +kernel
theorem dX10_isWay_0 : decode cX10_isWay 0 = .ok (.iload_n 0, 1) := by decide +kernel
theorem dX10_isWay_1 : decode cX10_isWay 1 = .ok (.iconst 0, 1) := by decide +kernel
theorem dX10_isWay_2 : decode cX10_isWay 2 = .ok (.iconst 3, 1) := by decide +kernel
theorem dX10_isWay_3 : decode cX10_isWay 3 = .ok (.invokestatic 90, 3) := by decide +kernel
theorem dX10_isWay_6 : decode cX10_isWay 6 = .ok (.ireturn, 1) := by decide +kernel
