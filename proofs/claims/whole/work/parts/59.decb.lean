theorem dX4_tell_0 : decode cX4_tell 0 = .ok (.iconst 1, 1) := by decide +kernel
theorem dX4_tell_1 : decode cX4_tell 1 = .ok (.istore 4, 2) := by decide +kernel
theorem dX4_tell_3 : decode cX4_tell 3 = .ok (.iconst 0, 1) := by decide +kernel
theorem dX4_tell_4 : decode cX4_tell 4 = .ok (.istore 5, 2) := by decide +kernel
theorem dX4_tell_6 : decode cX4_tell 6 = .ok (.iconst 0, 1) := by decide +kernel
theorem dX4_tell_7 : decode cX4_tell 7 = .ok (.istore 6, 2) := by decide +kernel
theorem dX4_tell_9 : decode cX4_tell 9 = .ok (.iload 6, 2) := by decide +kernel
theorem dX4_tell_11 : decode cX4_tell 11 = .ok (.aload_n 0, 1) := by decide +kernel
theorem dX4_tell_12 : decode cX4_tell 12 = .ok (.getfield 70, 3) := by decide +kernel
theorem dX4_tell_15 : decode cX4_tell 15 = .ok (.if_icmp .ge 100, 3) := by decide +kernel
theorem dX4_tell_18 : decode cX4_tell 18 = .ok (.aload_n 0, 1) := by decide +kernel
theorem dX4_tell_19 : decode cX4_tell 19 = .ok (.iload 4, 2) := by decide +kernel
theorem dX4_tell_21 : decode cX4_tell 21 = .ok (.iload 6, 2) := by decide +kernel
theorem dX4_tell_23 : decode cX4_tell 23 = .ok (.iload 5, 2) := by decide +kernel
theorem dX4_tell_25 : decode cX4_tell 25 = .ok (.aload_n 0, 1) := by decide +kernel
theorem dX4_tell_26 : decode cX4_tell 26 = .ok (.iload 4, 2) := by decide +kernel
theorem dX4_tell_28 : decode cX4_tell 28 = .ok (.iload 6, 2) := by decide +kernel
theorem dX4_tell_30 : decode cX4_tell 30 = .ok (.iload_n 1, 1) := by decide +kernel
theorem dX4_tell_31 : decode cX4_tell 31 = .ok (.iload_n 2, 1) := by decide +kernel
theorem dX4_tell_32 : decode cX4_tell 32 = .ok (.aload_n 3, 1) := by decide +kernel
theorem dX4_tell_33 : decode cX4_tell 33 = .ok (.invokevirtual 104, 3) := by decide +kernel
theorem dX4_tell_36 : decode cX4_tell 36 = .ok (.invokevirtual 111, 3) := by decide +kernel
theorem dX4_tell_39 : decode cX4_tell 39 = .ok (.istore 7, 2) := by decide +kernel
theorem dX4_tell_41 : decode cX4_tell 41 = .ok (.aload_n 0, 1) := by decide +kernel
theorem dX4_tell_42 : decode cX4_tell 42 = .ok (.getfield 9, 3) := by decide +kernel
theorem dX4_tell_45 : decode cX4_tell 45 = .ok (.iload 6, 2) := by decide +kernel
theorem dX4_tell_47 : decode cX4_tell 47 = .ok (.aload_n 0, 1) := by decide +kernel
theorem dX4_tell_48 : decode cX4_tell 48 = .ok (.getfield 28, 3) := by decide +kernel
theorem dX4_tell_51 : decode cX4_tell 51 = .ok (.iload 7, 2) := by decide +kernel
theorem dX4_tell_53 : decode cX4_tell 53 = .ok (.iaload, 1) := by decide +kernel
theorem dX4_tell_54 : decode cX4_tell 54 = .ok (.iastore, 1) := by decide +kernel
theorem dX4_tell_55 : decode cX4_tell 55 = .ok (.aload_n 0, 1) := by decide +kernel
theorem dX4_tell_56 : decode cX4_tell 56 = .ok (.getfield 15, 3) := by decide +kernel
theorem dX4_tell_59 : decode cX4_tell 59 = .ok (.iload 6, 2) := by decide +kernel
theorem dX4_tell_61 : decode cX4_tell 61 = .ok (.iload 7, 2) := by decide +kernel
theorem dX4_tell_63 : decode cX4_tell 63 = .ok (.ifCond .ne 7, 3) := by decide +kernel
theorem dX4_tell_66 : decode cX4_tell 66 = .ok (.iconst (-1), 1) := by decide +kernel
theorem dX4_tell_67 : decode cX4_tell 67 = .ok (.goto 16, 3) := by decide +kernel
theorem dX4_tell_70 : decode cX4_tell 70 = .ok (.aload_n 0, 1) := by decide +kernel
theorem dX4_tell_71 : decode cX4_tell 71 = .ok (.getfield 43, 3) := by decide +kernel
theorem dX4_tell_74 : decode cX4_tell 74 = .ok (.iload 6, 2) := by decide +kernel
theorem dX4_tell_76 : decode cX4_tell 76 = .ok (.bipush 64, 2) := by decide +kernel
theorem dX4_tell_78 : decode cX4_tell 78 = .ok (.imul, 1) := by decide +kernel
theorem dX4_tell_79 : decode cX4_tell 79 = .ok (.iload 7, 2) := by decide +kernel
theorem dX4_tell_81 : decode cX4_tell 81 = .ok (.iadd, 1) := by decide +kernel
theorem dX4_tell_82 : decode cX4_tell 82 = .ok (.iaload, 1) := by decide +kernel
theorem dX4_tell_83 : decode cX4_tell 83 = .ok (.iastore, 1) := by decide +kernel
theorem dX4_tell_84 : decode cX4_tell 84 = .ok (.iload 5, 2) := by decide +kernel
theorem dX4_tell_86 : decode cX4_tell 86 = .ok (.iload 7, 2) := by decide +kernel
theorem dX4_tell_88 : decode cX4_tell 88 = .ok (.ior, 1) := by decide +kernel
theorem dX4_tell_89 : decode cX4_tell 89 = .ok (.istore 5, 2) := by decide +kernel
theorem dX4_tell_91 : decode cX4_tell 91 = .ok (.aload_n 0, 1) := by decide +kernel
theorem dX4_tell_92 : decode cX4_tell 92 = .ok (.iload 4, 2) := by decide +kernel
theorem dX4_tell_94 : decode cX4_tell 94 = .ok (.iload 7, 2) := by decide +kernel
theorem dX4_tell_96 : decode cX4_tell 96 = .ok (.ifCond .eq 7, 3) := by decide +kernel
theorem dX4_tell_99 : decode cX4_tell 99 = .ok (.iconst 1, 1) := by decide +kernel
theorem dX4_tell_100 : decode cX4_tell 100 = .ok (.goto 4, 3) := by decide +kernel
theorem dX4_tell_103 : decode cX4_tell 103 = .ok (.iconst 0, 1) := by decide +kernel
theorem dX4_tell_104 : decode cX4_tell 104 = .ok (.invokevirtual 178, 3) := by decide +kernel
theorem dX4_tell_107 : decode cX4_tell 107 = .ok (.istore 4, 2) := by decide +kernel
theorem dX4_tell_109 : decode cX4_tell 109 = .ok (.iinc 6 1, 3) := by decide +kernel
theorem dX4_tell_112 : decode cX4_tell 112 = .ok (.goto (-103), 3) := by decide +kernel
theorem dX4_tell_115 : decode cX4_tell 115 = .ok (.return_, 1) := by decide +kernel
theorem dX4_make_0 : decode cX4_make 0 = .ok (.aload_n 0, 1) := by decide +kernel
theorem dX4_make_1 : decode cX4_make 1 = .ok (.iload_n 2, 1) := by decide +kernel
theorem dX4_make_2 : decode cX4_make 2 = .ok (.bipush 6, 2) := by decide +kernel
theorem dX4_make_4 : decode cX4_make 4 = .ok (.invokestatic 64, 3) := by decide +kernel
theorem dX4_make_7 : decode cX4_make 7 = .ok (.putfield 70, 3) := by decide +kernel
theorem dX4_make_10 : decode cX4_make 10 = .ok (.aload_n 0, 1) := by decide +kernel
theorem dX4_make_11 : decode cX4_make 11 = .ok (.aload 4, 2) := by decide +kernel
theorem dX4_make_13 : decode cX4_make 13 = .ok (.invokevirtual 74, 3) := by decide +kernel
theorem dX4_make_16 : decode cX4_make 16 = .ok (.putfield 80, 3) := by decide +kernel
theorem dX4_make_19 : decode cX4_make 19 = .ok (.aload_n 0, 1) := by decide +kernel
theorem dX4_make_20 : decode cX4_make 20 = .ok (.iload_n 1, 1) := by decide +kernel
theorem dX4_make_21 : decode cX4_make 21 = .ok (.iload_n 3, 1) := by decide +kernel
theorem dX4_make_22 : decode cX4_make 22 = .ok (.invokevirtual 84, 3) := by decide +kernel
theorem dX4_make_25 : decode cX4_make 25 = .ok (.aload_n 0, 1) := by decide +kernel
theorem dX4_make_26 : decode cX4_make 26 = .ok (.getfield 52, 3) := by decide +kernel
theorem dX4_make_29 : decode cX4_make 29 = .ok (.iload_n 1, 1) := by decide +kernel
theorem dX4_make_30 : decode cX4_make 30 = .ok (.iload_n 3, 1) := by decide +kernel
theorem dX4_make_31 : decode cX4_make 31 = .ok (.aload_n 0, 1) := by decide +kernel
theorem dX4_make_32 : decode cX4_make 32 = .ok (.getfield 70, 3) := by decide +kernel
theorem dX4_make_35 : decode cX4_make 35 = .ok (.iconst 1, 1) := by decide +kernel
theorem dX4_make_36 : decode cX4_make 36 = .ok (.isub, 1) := by decide +kernel
theorem dX4_make_37 : decode cX4_make 37 = .ok (.invokevirtual 88, 3) := by decide +kernel
theorem dX4_make_40 : decode cX4_make 40 = .ok (.iconst 0, 1) := by decide +kernel
theorem dX4_make_41 : decode cX4_make 41 = .ok (.istore 5, 2) := by decide +kernel
theorem dX4_make_43 : decode cX4_make 43 = .ok (.iload 5, 2) := by decide +kernel
theorem dX4_make_45 : decode cX4_make 45 = .ok (.aload_n 0, 1) := by decide +kernel
theorem dX4_make_46 : decode cX4_make 46 = .ok (.getfield 70, 3) := by decide +kernel
theorem dX4_make_49 : decode cX4_make 49 = .ok (.if_icmp .ge 21, 3) := by decide +kernel
theorem dX4_make_52 : decode cX4_make 52 = .ok (.aload_n 0, 1) := by decide +kernel
theorem dX4_make_53 : decode cX4_make 53 = .ok (.iload 5, 2) := by decide +kernel
theorem dX4_make_55 : decode cX4_make 55 = .ok (.iload_n 3, 1) := by decide +kernel
theorem dX4_make_56 : decode cX4_make 56 = .ok (.iload 5, 2) := by decide +kernel
theorem dX4_make_58 : decode cX4_make 58 = .ok (.iadd, 1) := by decide +kernel
theorem dX4_make_59 : decode cX4_make 59 = .ok (.aload 4, 2) := by decide +kernel
theorem dX4_make_61 : decode cX4_make 61 = .ok (.invokevirtual 94, 3) := by decide +kernel
theorem dX4_make_64 : decode cX4_make 64 = .ok (.iinc 5 1, 3) := by decide +kernel
theorem dX4_make_67 : decode cX4_make 67 = .ok (.goto (-24), 3) := by decide +kernel
theorem dX4_make_70 : decode cX4_make 70 = .ok (.aload_n 0, 1) := by decide +kernel
theorem dX4_make_71 : decode cX4_make 71 = .ok (.getfield 60, 3) := by decide +kernel
theorem dX4_make_74 : decode cX4_make 74 = .ok (.iload_n 1, 1) := by decide +kernel
theorem dX4_make_75 : decode cX4_make 75 = .ok (.aload_n 0, 1) := by decide +kernel
theorem dX4_make_76 : decode cX4_make 76 = .ok (.getfield 49, 3) := by decide +kernel
theorem dX4_make_79 : decode cX4_make 79 = .ok (.invokevirtual 98, 3) := by decide +kernel
theorem dX4_make_82 : decode cX4_make 82 = .ok (.aload_n 0, 1) := by decide +kernel
theorem dX4_make_83 : decode cX4_make 83 = .ok (.getfield 49, 3) := by decide +kernel
theorem dX4_make_86 : decode cX4_make 86 = .ok (.iload_n 3, 1) := by decide +kernel
theorem dX4_make_87 : decode cX4_make 87 = .ok (.iaload, 1) := by decide +kernel
theorem dX4_make_88 : decode cX4_make 88 = .ok (.istore 5, 2) := by decide +kernel
theorem dX4_make_90 : decode cX4_make 90 = .ok (.aload_n 0, 1) := by decide +kernel
theorem dX4_make_91 : decode cX4_make 91 = .ok (.getfield 70, 3) := by decide +kernel
theorem dX4_make_94 : decode cX4_make 94 = .ok (.iconst 1, 1) := by decide +kernel
theorem dX4_make_95 : decode cX4_make 95 = .ok (.isub, 1) := by decide +kernel
theorem dX4_make_96 : decode cX4_make 96 = .ok (.istore 6, 2) := by decide +kernel
theorem dX4_make_98 : decode cX4_make 98 = .ok (.iload 6, 2) := by decide +kernel
theorem dX4_make_100 : decode cX4_make 100 = .ok (.ifCond .lt 98, 3) := by decide +kernel
theorem dX4_make_103 : decode cX4_make 103 = .ok (.aload_n 0, 1) := by decide +kernel
theorem dX4_make_104 : decode cX4_make 104 = .ok (.getfield 80, 3) := by decide +kernel
theorem dX4_make_107 : decode cX4_make 107 = .ok (.ifCond .eq 10, 3) := by decide +kernel
theorem dX4_make_110 : decode cX4_make 110 = .ok (.iconst 1, 1) := by decide +kernel
theorem dX4_make_111 : decode cX4_make 111 = .ok (.iload 6, 2) := by decide +kernel
theorem dX4_make_113 : decode cX4_make 113 = .ok (.ishl, 1) := by decide +kernel
theorem dX4_make_114 : decode cX4_make 114 = .ok (.goto 4, 3) := by decide +kernel
theorem dX4_make_117 : decode cX4_make 117 = .ok (.iconst 1, 1) := by decide +kernel
theorem dX4_make_118 : decode cX4_make 118 = .ok (.istore 7, 2) := by decide +kernel
theorem dX4_make_120 : decode cX4_make 120 = .ok (.iconst 1, 1) := by decide +kernel
theorem dX4_make_121 : decode cX4_make 121 = .ok (.iload 6, 2) := by decide +kernel
theorem dX4_make_123 : decode cX4_make 123 = .ok (.ishl, 1) := by decide +kernel
theorem dX4_make_124 : decode cX4_make 124 = .ok (.istore 8, 2) := by decide +kernel
theorem dX4_make_126 : decode cX4_make 126 = .ok (.iload 8, 2) := by decide +kernel
theorem dX4_make_128 : decode cX4_make 128 = .ok (.iconst 1, 1) := by decide +kernel
theorem dX4_make_129 : decode cX4_make 129 = .ok (.iload 6, 2) := by decide +kernel
theorem dX4_make_131 : decode cX4_make 131 = .ok (.ishl, 1) := by decide +kernel
theorem dX4_make_132 : decode cX4_make 132 = .ok (.iload 7, 2) := by decide +kernel
theorem dX4_make_134 : decode cX4_make 134 = .ok (.iadd, 1) := by decide +kernel
theorem dX4_make_135 : decode cX4_make 135 = .ok (.if_icmp .ge 57, 3) := by decide +kernel
theorem dX4_make_138 : decode cX4_make 138 = .ok (.aload_n 0, 1) := by decide +kernel
theorem dX4_make_139 : decode cX4_make 139 = .ok (.iload 8, 2) := by decide +kernel
theorem dX4_make_141 : decode cX4_make 141 = .ok (.iload 6, 2) := by decide +kernel
theorem dX4_make_143 : decode cX4_make 143 = .ok (.iload_n 3, 1) := by decide +kernel
theorem dX4_make_144 : decode cX4_make 144 = .ok (.iload 5, 2) := by decide +kernel
theorem dX4_make_146 : decode cX4_make 146 = .ok (.aload 4, 2) := by decide +kernel
theorem dX4_make_148 : decode cX4_make 148 = .ok (.invokevirtual 104, 3) := by decide +kernel
theorem dX4_make_151 : decode cX4_make 151 = .ok (.istore 9, 2) := by decide +kernel
theorem dX4_make_153 : decode cX4_make 153 = .ok (.iconst 0, 1) := by decide +kernel
theorem dX4_make_154 : decode cX4_make 154 = .ok (.istore 10, 2) := by decide +kernel
theorem dX4_make_156 : decode cX4_make 156 = .ok (.iload 10, 2) := by decide +kernel
theorem dX4_make_158 : decode cX4_make 158 = .ok (.iconst 1, 1) := by decide +kernel
theorem dX4_make_159 : decode cX4_make 159 = .ok (.aload_n 0, 1) := by decide +kernel
theorem dX4_make_160 : decode cX4_make 160 = .ok (.getfield 108, 3) := by decide +kernel
theorem dX4_make_163 : decode cX4_make 163 = .ok (.ishl, 1) := by decide +kernel
theorem dX4_make_164 : decode cX4_make 164 = .ok (.if_icmp .ge 22, 3) := by decide +kernel
theorem dX4_make_167 : decode cX4_make 167 = .ok (.aload_n 0, 1) := by decide +kernel
theorem dX4_make_168 : decode cX4_make 168 = .ok (.iload 8, 2) := by decide +kernel
theorem dX4_make_170 : decode cX4_make 170 = .ok (.iload 6, 2) := by decide +kernel
theorem dX4_make_172 : decode cX4_make 172 = .ok (.iload 10, 2) := by decide +kernel
theorem dX4_make_174 : decode cX4_make 174 = .ok (.iload 9, 2) := by decide +kernel
theorem dX4_make_176 : decode cX4_make 176 = .ok (.invokevirtual 111, 3) := by decide +kernel
theorem dX4_make_179 : decode cX4_make 179 = .ok (.pop, 1) := by decide +kernel
theorem dX4_make_180 : decode cX4_make 180 = .ok (.iinc 10 1, 3) := by decide +kernel
theorem dX4_make_183 : decode cX4_make 183 = .ok (.goto (-27), 3) := by decide +kernel
theorem dX4_make_186 : decode cX4_make 186 = .ok (.iinc 8 1, 3) := by decide +kernel
theorem dX4_make_189 : decode cX4_make 189 = .ok (.goto (-63), 3) := by decide +kernel
theorem dX4_make_192 : decode cX4_make 192 = .ok (.iinc 6 (-1), 3) := by decide +kernel
theorem dX4_make_195 : decode cX4_make 195 = .ok (.goto (-97), 3) := by decide +kernel
theorem dX4_make_198 : decode cX4_make 198 = .ok (.aload_n 0, 1) := by decide +kernel
theorem dX4_make_199 : decode cX4_make 199 = .ok (.aload_n 0, 1) := by decide +kernel
theorem dX4_make_200 : decode cX4_make 200 = .ok (.getfield 46, 3) := by decide +kernel
theorem dX4_make_203 : decode cX4_make 203 = .ok (.bipush 64, 2) := by decide +kernel
theorem dX4_make_205 : decode cX4_make 205 = .ok (.iaload, 1) := by decide +kernel
theorem dX4_make_206 : decode cX4_make 206 = .ok (.putfield 115, 3) := by decide +kernel
theorem dX4_make_209 : decode cX4_make 209 = .ok (.aload_n 0, 1) := by decide +kernel
theorem dX4_make_210 : decode cX4_make 210 = .ok (.iload_n 3, 1) := by decide +kernel
theorem dX4_make_211 : decode cX4_make 211 = .ok (.iload 5, 2) := by decide +kernel
theorem dX4_make_213 : decode cX4_make 213 = .ok (.aload 4, 2) := by decide +kernel
theorem dX4_make_215 : decode cX4_make 215 = .ok (.invokevirtual 118, 3) := by decide +kernel
theorem dX4_make_218 : decode cX4_make 218 = .ok (.return_, 1) := by decide +kernel
theorem dX7_init_0 : decode cX7_init 0 = .ok (.aload_n 0, 1) := by decide +kernel
theorem dX7_init_1 : decode cX7_init 1 = .ok (.invokespecial 1, 3) := by decide +kernel
theorem dX7_init_4 : decode cX7_init 4 = .ok (.aload_n 0, 1) := by decide +kernel
theorem dX7_init_5 : decode cX7_init 5 = .ok (.aload_n 1, 1) := by decide +kernel
theorem dX7_init_6 : decode cX7_init 6 = .ok (.putfield 7, 3) := by decide +kernel
theorem dX7_init_9 : decode cX7_init 9 = .ok (.aload_n 0, 1) := by decide +kernel
theorem dX7_init_10 : decode cX7_init 10 = .ok (.aload_n 2, 1) := by decide +kernel
theorem dX7_init_11 : decode cX7_init 11 = .ok (.putfield 13, 3) := by decide +kernel
theorem dX7_init_14 : decode cX7_init 14 = .ok (.aload_n 0, 1) := by decide +kernel
theorem dX7_init_15 : decode cX7_init 15 = .ok (.aload_n 3, 1) := by decide +kernel
theorem dX7_init_16 : decode cX7_init 16 = .ok (.putfield 17, 3) := by decide +kernel
theorem dX7_init_19 : decode cX7_init 19 = .ok (.return_, 1) := by decide +kernel
theorem dX7_isLeft_0 : decode cX7_isLeft 0 = .ok (.aload_n 0, 1) := by decide +kernel
theorem dX7_isLeft_1 : decode cX7_isLeft 1 = .ok (.getfield 17, 3) := by decide +kernel
theorem dX7_isLeft_4 : decode cX7_isLeft 4 = .ok (.getfield 70, 3) := by decide +kernel
theorem dX7_isLeft_7 : decode cX7_isLeft 7 = .ok (.iload_n 1, 1) := by decide +kernel
theorem dX7_isLeft_8 : decode cX7_isLeft 8 = .ok (.aaload, 1) := by decide +kernel
theorem dX7_isLeft_9 : decode cX7_isLeft 9 = .ok (.getfield 86, 3) := by decide +kernel
theorem dX7_isLeft_12 : decode cX7_isLeft 12 = .ok (.iload_n 2, 1) := by decide +kernel
theorem dX7_isLeft_13 : decode cX7_isLeft 13 = .ok (.invokestatic 89, 3) := by decide +kernel
theorem dX7_isLeft_16 : decode cX7_isLeft 16 = .ok (.ifCond .eq 18, 3) := by decide +kernel
theorem dX7_isLeft_19 : decode cX7_isLeft 19 = .ok (.aload_n 0, 1) := by decide +kernel
theorem dX7_isLeft_20 : decode cX7_isLeft 20 = .ok (.getfield 34, 3) := by decide +kernel
theorem dX7_isLeft_23 : decode cX7_isLeft 23 = .ok (.iload_n 1, 1) := by decide +kernel
theorem dX7_isLeft_24 : decode cX7_isLeft 24 = .ok (.invokestatic 89, 3) := by decide +kernel
theorem dX7_isLeft_27 : decode cX7_isLeft 27 = .ok (.ifCond .ne 7, 3) := by decide +kernel
theorem dX7_isLeft_30 : decode cX7_isLeft 30 = .ok (.iconst 1, 1) := by decide +kernel
theorem dX7_isLeft_31 : decode cX7_isLeft 31 = .ok (.goto 4, 3) := by decide +kernel
theorem dX7_isLeft_34 : decode cX7_isLeft 34 = .ok (.iconst 0, 1) := by decide +kernel
theorem dX7_isLeft_35 : decode cX7_isLeft 35 = .ok (.ireturn, 1) := by decide +kernel
theorem dX7_sayIn_0 : decode cX7_sayIn 0 = .ok (.iconst 0, 1) := by decide +kernel
theorem dX7_sayIn_1 : decode cX7_sayIn 1 = .ok (.istore 4, 2) := by decide +kernel
theorem dX7_sayIn_3 : decode cX7_sayIn 3 = .ok (.iload 4, 2) := by decide +kernel
theorem dX7_sayIn_5 : decode cX7_sayIn 5 = .ok (.aload_n 0, 1) := by decide +kernel
theorem dX7_sayIn_6 : decode cX7_sayIn 6 = .ok (.getfield 17, 3) := by decide +kernel
theorem dX7_sayIn_9 : decode cX7_sayIn 9 = .ok (.getfield 61, 3) := by decide +kernel
theorem dX7_sayIn_12 : decode cX7_sayIn 12 = .ok (.if_icmp .ge 131, 3) := by decide +kernel
theorem dX7_sayIn_15 : decode cX7_sayIn 15 = .ok (.aload_n 0, 1) := by decide +kernel
theorem dX7_sayIn_16 : decode cX7_sayIn 16 = .ok (.getfield 17, 3) := by decide +kernel
theorem dX7_sayIn_19 : decode cX7_sayIn 19 = .ok (.getfield 70, 3) := by decide +kernel
theorem dX7_sayIn_22 : decode cX7_sayIn 22 = .ok (.iload 4, 2) := by decide +kernel
theorem dX7_sayIn_24 : decode cX7_sayIn 24 = .ok (.aaload, 1) := by decide +kernel
theorem dX7_sayIn_25 : decode cX7_sayIn 25 = .ok (.astore 5, 2) := by decide +kernel
theorem dX7_sayIn_27 : decode cX7_sayIn 27 = .ok (.aload 5, 2) := by decide +kernel
theorem dX7_sayIn_29 : decode cX7_sayIn 29 = .ok (.invokevirtual 79, 3) := by decide +kernel
theorem dX7_sayIn_32 : decode cX7_sayIn 32 = .ok (.ifCond .eq 16, 3) := by decide +kernel
theorem dX7_sayIn_35 : decode cX7_sayIn 35 = .ok (.iload_n 1, 1) := by decide +kernel
theorem dX7_sayIn_36 : decode cX7_sayIn 36 = .ok (.aload 5, 2) := by decide +kernel
theorem dX7_sayIn_38 : decode cX7_sayIn 38 = .ok (.getfield 74, 3) := by decide +kernel
theorem dX7_sayIn_41 : decode cX7_sayIn 41 = .ok (.if_icmp .ne 7, 3) := by decide +kernel
theorem dX7_sayIn_44 : decode cX7_sayIn 44 = .ok (.iconst 1, 1) := by decide +kernel
theorem dX7_sayIn_45 : decode cX7_sayIn 45 = .ok (.goto 4, 3) := by decide +kernel
theorem dX7_sayIn_48 : decode cX7_sayIn 48 = .ok (.iconst 0, 1) := by decide +kernel
theorem dX7_sayIn_49 : decode cX7_sayIn 49 = .ok (.istore 6, 2) := by decide +kernel
theorem dX7_sayIn_51 : decode cX7_sayIn 51 = .ok (.aload_n 0, 1) := by decide +kernel
theorem dX7_sayIn_52 : decode cX7_sayIn 52 = .ok (.iload 4, 2) := by decide +kernel
theorem dX7_sayIn_54 : decode cX7_sayIn 54 = .ok (.iload_n 2, 1) := by decide +kernel
theorem dX7_sayIn_55 : decode cX7_sayIn 55 = .ok (.invokevirtual 66, 3) := by decide +kernel
theorem dX7_sayIn_58 : decode cX7_sayIn 58 = .ok (.ifCond .eq 79, 3) := by decide +kernel
theorem dX7_sayIn_61 : decode cX7_sayIn 61 = .ok (.aload 5, 2) := by decide +kernel
theorem dX7_sayIn_63 : decode cX7_sayIn 63 = .ok (.getfield 83, 3) := by decide +kernel
theorem dX7_sayIn_66 : decode cX7_sayIn 66 = .ok (.iload_n 1, 1) := by decide +kernel
theorem dX7_sayIn_67 : decode cX7_sayIn 67 = .ok (.if_icmp .gt 70, 3) := by decide +kernel
theorem dX7_sayIn_70 : decode cX7_sayIn 70 = .ok (.iload_n 3, 1) := by decide +kernel
theorem dX7_sayIn_71 : decode cX7_sayIn 71 = .ok (.ifCond .ne 8, 3) := by decide +kernel
theorem dX7_sayIn_74 : decode cX7_sayIn 74 = .ok (.iload 6, 2) := by decide +kernel
theorem dX7_sayIn_76 : decode cX7_sayIn 76 = .ok (.ifCond .eq 61, 3) := by decide +kernel
theorem dX7_sayIn_79 : decode cX7_sayIn 79 = .ok (.aload_n 0, 1) := by decide +kernel
theorem dX7_sayIn_80 : decode cX7_sayIn 80 = .ok (.dup, 1) := by decide +kernel
theorem dX7_sayIn_81 : decode cX7_sayIn 81 = .ok (.getfield 34, 3) := by decide +kernel
theorem dX7_sayIn_84 : decode cX7_sayIn 84 = .ok (.iconst 1, 1) := by decide +kernel
theorem dX7_sayIn_85 : decode cX7_sayIn 85 = .ok (.iload 4, 2) := by decide +kernel
theorem dX7_sayIn_87 : decode cX7_sayIn 87 = .ok (.ishl, 1) := by decide +kernel
theorem dX7_sayIn_88 : decode cX7_sayIn 88 = .ok (.ior, 1) := by decide +kernel
theorem dX7_sayIn_89 : decode cX7_sayIn 89 = .ok (.putfield 34, 3) := by decide +kernel
theorem dX7_sayIn_92 : decode cX7_sayIn 92 = .ok (.aload_n 0, 1) := by decide +kernel
theorem dX7_sayIn_93 : decode cX7_sayIn 93 = .ok (.dup, 1) := by decide +kernel
theorem dX7_sayIn_94 : decode cX7_sayIn 94 = .ok (.getfield 31, 3) := by decide +kernel
theorem dX7_sayIn_97 : decode cX7_sayIn 97 = .ok (.iconst 1, 1) := by decide +kernel
theorem dX7_sayIn_98 : decode cX7_sayIn 98 = .ok (.iadd, 1) := by decide +kernel
theorem dX7_sayIn_99 : decode cX7_sayIn 99 = .ok (.putfield 31, 3) := by decide +kernel
theorem dX7_sayIn_102 : decode cX7_sayIn 102 = .ok (.aload_n 0, 1) := by decide +kernel
theorem dX7_sayIn_103 : decode cX7_sayIn 103 = .ok (.dup, 1) := by decide +kernel
theorem dX7_sayIn_104 : decode cX7_sayIn 104 = .ok (.getfield 25, 3) := by decide +kernel
theorem dX7_sayIn_107 : decode cX7_sayIn 107 = .ok (.iload_n 1, 1) := by decide +kernel
theorem dX7_sayIn_108 : decode cX7_sayIn 108 = .ok (.aload 5, 2) := by decide +kernel
theorem dX7_sayIn_110 : decode cX7_sayIn 110 = .ok (.getfield 83, 3) := by decide +kernel
theorem dX7_sayIn_113 : decode cX7_sayIn 113 = .ok (.isub, 1) := by decide +kernel
theorem dX7_sayIn_114 : decode cX7_sayIn 114 = .ok (.iadd, 1) := by decide +kernel
theorem dX7_sayIn_115 : decode cX7_sayIn 115 = .ok (.putfield 25, 3) := by decide +kernel
theorem dX7_sayIn_118 : decode cX7_sayIn 118 = .ok (.iload_n 1, 1) := by decide +kernel
theorem dX7_sayIn_119 : decode cX7_sayIn 119 = .ok (.aload 5, 2) := by decide +kernel
theorem dX7_sayIn_121 : decode cX7_sayIn 121 = .ok (.getfield 74, 3) := by decide +kernel
theorem dX7_sayIn_124 : decode cX7_sayIn 124 = .ok (.if_icmp .le 13, 3) := by decide +kernel
theorem dX7_sayIn_127 : decode cX7_sayIn 127 = .ok (.aload_n 0, 1) := by decide +kernel
theorem dX7_sayIn_128 : decode cX7_sayIn 128 = .ok (.dup, 1) := by decide +kernel
theorem dX7_sayIn_129 : decode cX7_sayIn 129 = .ok (.getfield 21, 3) := by decide +kernel
theorem dX7_sayIn_132 : decode cX7_sayIn 132 = .ok (.iconst 1, 1) := by decide +kernel
theorem dX7_sayIn_133 : decode cX7_sayIn 133 = .ok (.iadd, 1) := by decide +kernel
theorem dX7_sayIn_134 : decode cX7_sayIn 134 = .ok (.putfield 21, 3) := by decide +kernel
theorem dX7_sayIn_137 : decode cX7_sayIn 137 = .ok (.iinc 4 1, 3) := by decide +kernel
theorem dX7_sayIn_140 : decode cX7_sayIn 140 = .ok (.goto (-137), 3) := by decide +kernel
theorem dX7_sayIn_143 : decode cX7_sayIn 143 = .ok (.return_, 1) := by decide +kernel
theorem dX7_run_0 : decode cX7_run 0 = .ok (.aload_n 0, 1) := by decide +kernel
theorem dX7_run_1 : decode cX7_run 1 = .ok (.iconst 0, 1) := by decide +kernel
theorem dX7_run_2 : decode cX7_run 2 = .ok (.putfield 21, 3) := by decide +kernel
theorem dX7_run_5 : decode cX7_run 5 = .ok (.aload_n 0, 1) := by decide +kernel
theorem dX7_run_6 : decode cX7_run 6 = .ok (.iconst 0, 1) := by decide +kernel
theorem dX7_run_7 : decode cX7_run 7 = .ok (.putfield 25, 3) := by decide +kernel
theorem dX7_run_10 : decode cX7_run 10 = .ok (.aload_n 0, 1) := by decide +kernel
theorem dX7_run_11 : decode cX7_run 11 = .ok (.iconst 0, 1) := by decide +kernel
theorem dX7_run_12 : decode cX7_run 12 = .ok (.putfield 28, 3) := by decide +kernel
theorem dX7_run_15 : decode cX7_run 15 = .ok (.aload_n 0, 1) := by decide +kernel
theorem dX7_run_16 : decode cX7_run 16 = .ok (.iconst 0, 1) := by decide +kernel
theorem dX7_run_17 : decode cX7_run 17 = .ok (.putfield 31, 3) := by decide +kernel
theorem dX7_run_20 : decode cX7_run 20 = .ok (.aload_n 0, 1) := by decide +kernel
theorem dX7_run_21 : decode cX7_run 21 = .ok (.iconst 0, 1) := by decide +kernel
theorem dX7_run_22 : decode cX7_run 22 = .ok (.putfield 34, 3) := by decide +kernel
theorem dX7_run_25 : decode cX7_run 25 = .ok (.iconst 0, 1) := by decide +kernel
theorem dX7_run_26 : decode cX7_run 26 = .ok (.istore 5, 2) := by decide +kernel
theorem dX7_run_28 : decode cX7_run 28 = .ok (.iload 5, 2) := by decide +kernel
theorem dX7_run_30 : decode cX7_run 30 = .ok (.iload 4, 2) := by decide +kernel
theorem dX7_run_32 : decode cX7_run 32 = .ok (.if_icmp .ge 85, 3) := by decide +kernel
theorem dX7_run_35 : decode cX7_run 35 = .ok (.aload_n 0, 1) := by decide +kernel
theorem dX7_run_36 : decode cX7_run 36 = .ok (.getfield 7, 3) := by decide +kernel
theorem dX7_run_39 : decode cX7_run 39 = .ok (.iload_n 1, 1) := by decide +kernel
theorem dX7_run_40 : decode cX7_run 40 = .ok (.iload 5, 2) := by decide +kernel
theorem dX7_run_42 : decode cX7_run 42 = .ok (.iconst 0, 1) := by decide +kernel
theorem dX7_run_43 : decode cX7_run 43 = .ok (.invokevirtual 37, 3) := by decide +kernel
theorem dX7_run_46 : decode cX7_run 46 = .ok (.aload_n 0, 1) := by decide +kernel
theorem dX7_run_47 : decode cX7_run 47 = .ok (.getfield 31, 3) := by decide +kernel
theorem dX7_run_50 : decode cX7_run 50 = .ok (.istore 6, 2) := by decide +kernel
theorem dX7_run_52 : decode cX7_run 52 = .ok (.aload_n 0, 1) := by decide +kernel
theorem dX7_run_53 : decode cX7_run 53 = .ok (.iload 5, 2) := by decide +kernel
theorem dX7_run_55 : decode cX7_run 55 = .ok (.iload_n 1, 1) := by decide +kernel
theorem dX7_run_56 : decode cX7_run 56 = .ok (.aload_n 0, 1) := by decide +kernel
theorem dX7_run_57 : decode cX7_run 57 = .ok (.getfield 7, 3) := by decide +kernel
theorem dX7_run_60 : decode cX7_run 60 = .ok (.iconst 0, 1) := by decide +kernel
theorem dX7_run_61 : decode cX7_run 61 = .ok (.invokevirtual 43, 3) := by decide +kernel
theorem dX7_run_64 : decode cX7_run 64 = .ok (.iload_n 2, 1) := by decide +kernel
theorem dX7_run_65 : decode cX7_run 65 = .ok (.if_icmp .lt 7, 3) := by decide +kernel
theorem dX7_run_68 : decode cX7_run 68 = .ok (.iconst 1, 1) := by decide +kernel
theorem dX7_run_69 : decode cX7_run 69 = .ok (.goto 4, 3) := by decide +kernel
theorem dX7_run_72 : decode cX7_run 72 = .ok (.iconst 0, 1) := by decide +kernel
theorem dX7_run_73 : decode cX7_run 73 = .ok (.invokevirtual 47, 3) := by decide +kernel
theorem dX7_run_76 : decode cX7_run 76 = .ok (.aload_n 0, 1) := by decide +kernel
theorem dX7_run_77 : decode cX7_run 77 = .ok (.getfield 31, 3) := by decide +kernel
theorem dX7_run_80 : decode cX7_run 80 = .ok (.iload 6, 2) := by decide +kernel
theorem dX7_run_82 : decode cX7_run 82 = .ok (.if_icmp .le 29, 3) := by decide +kernel
theorem dX7_run_85 : decode cX7_run 85 = .ok (.aload_n 0, 1) := by decide +kernel
theorem dX7_run_86 : decode cX7_run 86 = .ok (.dup, 1) := by decide +kernel
theorem dX7_run_87 : decode cX7_run 87 = .ok (.getfield 28, 3) := by decide +kernel
theorem dX7_run_90 : decode cX7_run 90 = .ok (.aload_n 0, 1) := by decide +kernel
theorem dX7_run_91 : decode cX7_run 91 = .ok (.getfield 13, 3) := by decide +kernel
theorem dX7_run_94 : decode cX7_run 94 = .ok (.iload_n 3, 1) := by decide +kernel
theorem dX7_run_95 : decode cX7_run 95 = .ok (.aload_n 0, 1) := by decide +kernel
theorem dX7_run_96 : decode cX7_run 96 = .ok (.getfield 7, 3) := by decide +kernel
theorem dX7_run_99 : decode cX7_run 99 = .ok (.getfield 51, 3) := by decide +kernel
theorem dX7_run_102 : decode cX7_run 102 = .ok (.iconst 0, 1) := by decide +kernel
theorem dX7_run_103 : decode cX7_run 103 = .ok (.aaload, 1) := by decide +kernel
theorem dX7_run_104 : decode cX7_run 104 = .ok (.invokevirtual 55, 3) := by decide +kernel
theorem dX7_run_107 : decode cX7_run 107 = .ok (.iadd, 1) := by decide +kernel
theorem dX7_run_108 : decode cX7_run 108 = .ok (.putfield 28, 3) := by decide +kernel
theorem dX7_run_111 : decode cX7_run 111 = .ok (.iinc 5 1, 3) := by decide +kernel
theorem dX7_run_114 : decode cX7_run 114 = .ok (.goto (-86), 3) := by decide +kernel
theorem dX7_run_117 : decode cX7_run 117 = .ok (.iconst 0, 1) := by decide +kernel
theorem dX7_run_118 : decode cX7_run 118 = .ok (.istore 5, 2) := by decide +kernel
theorem dX7_run_120 : decode cX7_run 120 = .ok (.iload 5, 2) := by decide +kernel
theorem dX7_run_122 : decode cX7_run 122 = .ok (.aload_n 0, 1) := by decide +kernel
theorem dX7_run_123 : decode cX7_run 123 = .ok (.getfield 17, 3) := by decide +kernel
theorem dX7_run_126 : decode cX7_run 126 = .ok (.getfield 61, 3) := by decide +kernel
theorem dX7_run_129 : decode cX7_run 129 = .ok (.if_icmp .ge 47, 3) := by decide +kernel
theorem dX7_run_132 : decode cX7_run 132 = .ok (.aload_n 0, 1) := by decide +kernel
theorem dX7_run_133 : decode cX7_run 133 = .ok (.iload 5, 2) := by decide +kernel
theorem dX7_run_135 : decode cX7_run 135 = .ok (.iload_n 1, 1) := by decide +kernel
theorem dX7_run_136 : decode cX7_run 136 = .ok (.invokevirtual 66, 3) := by decide +kernel
theorem dX7_run_139 : decode cX7_run 139 = .ok (.ifCond .eq 31, 3) := by decide +kernel
theorem dX7_run_142 : decode cX7_run 142 = .ok (.aload_n 0, 1) := by decide +kernel
theorem dX7_run_143 : decode cX7_run 143 = .ok (.getfield 17, 3) := by decide +kernel
theorem dX7_run_146 : decode cX7_run 146 = .ok (.getfield 70, 3) := by decide +kernel
theorem dX7_run_149 : decode cX7_run 149 = .ok (.iload 5, 2) := by decide +kernel
theorem dX7_run_151 : decode cX7_run 151 = .ok (.aaload, 1) := by decide +kernel
theorem dX7_run_152 : decode cX7_run 152 = .ok (.getfield 74, 3) := by decide +kernel
theorem dX7_run_155 : decode cX7_run 155 = .ok (.iload 4, 2) := by decide +kernel
theorem dX7_run_157 : decode cX7_run 157 = .ok (.if_icmp .ge 13, 3) := by decide +kernel
theorem dX7_run_160 : decode cX7_run 160 = .ok (.aload_n 0, 1) := by decide +kernel
theorem dX7_run_161 : decode cX7_run 161 = .ok (.dup, 1) := by decide +kernel
theorem dX7_run_162 : decode cX7_run 162 = .ok (.getfield 21, 3) := by decide +kernel
theorem dX7_run_165 : decode cX7_run 165 = .ok (.iconst 1, 1) := by decide +kernel
theorem dX7_run_166 : decode cX7_run 166 = .ok (.iadd, 1) := by decide +kernel
theorem dX7_run_167 : decode cX7_run 167 = .ok (.putfield 21, 3) := by decide +kernel
theorem dX7_run_170 : decode cX7_run 170 = .ok (.iinc 5 1, 3) := by decide +kernel
theorem dX7_run_173 : decode cX7_run 173 = .ok (.goto (-53), 3) := by decide +kernel
theorem dX7_run_176 : decode cX7_run 176 = .ok (.return_, 1) := by decide +kernel
theorem dX8_init_0 : decode cX8_init 0 = .ok (.aload_n 0, 1) := by decide +kernel
theorem dX8_init_1 : decode cX8_init 1 = .ok (.invokespecial 3, 3) := by decide +kernel
theorem dX8_init_4 : decode cX8_init 4 = .ok (.aload_n 0, 1) := by decide +kernel
theorem dX8_init_5 : decode cX8_init 5 = .ok (.iconst 4, 1) := by decide +kernel
theorem dX8_init_6 : decode cX8_init 6 = .ok (.iconst 4, 1) := by decide +kernel
theorem dX8_init_7 : decode cX8_init 7 = .ok (.multianewarray 9 2, 4) := by decide +kernel
theorem dX8_init_11 : decode cX8_init 11 = .ok (.putfield 11, 3) := by decide +kernel
theorem dX8_init_14 : decode cX8_init 14 = .ok (.aload_n 0, 1) := by decide +kernel
theorem dX8_init_15 : decode cX8_init 15 = .ok (.iconst 4, 1) := by decide +kernel
theorem dX8_init_16 : decode cX8_init 16 = .ok (.newarray .int, 2) := by decide +kernel
theorem dX8_init_18 : decode cX8_init 18 = .ok (.putfield 16, 3) := by decide +kernel
theorem dX8_init_21 : decode cX8_init 21 = .ok (.iconst 0, 1) := by decide +kernel
theorem dX8_init_22 : decode cX8_init 22 = .ok (.istore_n 1, 1) := by decide +kernel
theorem dX8_init_23 : decode cX8_init 23 = .ok (.iload_n 1, 1) := by decide +kernel
theorem dX8_init_24 : decode cX8_init 24 = .ok (.iconst 4, 1) := by decide +kernel
theorem dX8_init_25 : decode cX8_init 25 = .ok (.if_icmp .ge 40, 3) := by decide +kernel
theorem dX8_init_28 : decode cX8_init 28 = .ok (.aload_n 0, 1) := by decide +kernel
theorem dX8_init_29 : decode cX8_init 29 = .ok (.getfield 16, 3) := by decide +kernel
theorem dX8_init_32 : decode cX8_init 32 = .ok (.iload_n 1, 1) := by decide +kernel
theorem dX8_init_33 : decode cX8_init 33 = .ok (.bipush 50, 2) := by decide +kernel
theorem dX8_init_35 : decode cX8_init 35 = .ok (.iastore, 1) := by decide +kernel
theorem dX8_init_36 : decode cX8_init 36 = .ok (.iconst 0, 1) := by decide +kernel
theorem dX8_init_37 : decode cX8_init 37 = .ok (.istore_n 2, 1) := by decide +kernel
theorem dX8_init_38 : decode cX8_init 38 = .ok (.iload_n 2, 1) := by decide +kernel
theorem dX8_init_39 : decode cX8_init 39 = .ok (.iconst 4, 1) := by decide +kernel
theorem dX8_init_40 : decode cX8_init 40 = .ok (.if_icmp .ge 19, 3) := by decide +kernel
theorem dX8_init_43 : decode cX8_init 43 = .ok (.aload_n 0, 1) := by decide +kernel
theorem dX8_init_44 : decode cX8_init 44 = .ok (.getfield 11, 3) := by decide +kernel
theorem dX8_init_47 : decode cX8_init 47 = .ok (.iload_n 1, 1) := by decide +kernel
theorem dX8_init_48 : decode cX8_init 48 = .ok (.aaload, 1) := by decide +kernel
theorem dX8_init_49 : decode cX8_init 49 = .ok (.iload_n 2, 1) := by decide +kernel
theorem dX8_init_50 : decode cX8_init 50 = .ok (.bipush 10, 2) := by decide +kernel
theorem dX8_init_52 : decode cX8_init 52 = .ok (.iastore, 1) := by decide +kernel
theorem dX8_init_53 : decode cX8_init 53 = .ok (.iinc 2 1, 3) := by decide +kernel
theorem dX8_init_56 : decode cX8_init 56 = .ok (.goto (-18), 3) := by decide +kernel
theorem dX8_init_59 : decode cX8_init 59 = .ok (.iinc 1 1, 3) := by decide +kernel
theorem dX8_init_62 : decode cX8_init 62 = .ok (.goto (-39), 3) := by decide +kernel
theorem dX8_init_65 : decode cX8_init 65 = .ok (.return_, 1) := by decide +kernel
theorem dX9_init_0 : decode cX9_init 0 = .ok (.aload_n 0, 1) := by decide +kernel
theorem dX9_init_1 : decode cX9_init 1 = .ok (.invokespecial 3, 3) := by decide +kernel
theorem dX9_init_4 : decode cX9_init 4 = .ok (.aload_n 0, 1) := by decide +kernel
theorem dX9_init_5 : decode cX9_init 5 = .ok (.iconst 4, 1) := by decide +kernel
theorem dX9_init_6 : decode cX9_init 6 = .ok (.iconst 4, 1) := by decide +kernel
theorem dX9_init_7 : decode cX9_init 7 = .ok (.multianewarray 9 2, 4) := by decide +kernel
theorem dX9_init_11 : decode cX9_init 11 = .ok (.putfield 11, 3) := by decide +kernel
theorem dX9_init_14 : decode cX9_init 14 = .ok (.aload_n 0, 1) := by decide +kernel
theorem dX9_init_15 : decode cX9_init 15 = .ok (.iconst 4, 1) := by decide +kernel
theorem dX9_init_16 : decode cX9_init 16 = .ok (.iconst 4, 1) := by decide +kernel
theorem dX9_init_17 : decode cX9_init 17 = .ok (.multianewarray 9 2, 4) := by decide +kernel
theorem dX9_init_21 : decode cX9_init 21 = .ok (.putfield 16, 3) := by decide +kernel
theorem dX9_init_24 : decode cX9_init 24 = .ok (.aload_n 0, 1) := by decide +kernel
theorem dX9_init_25 : decode cX9_init 25 = .ok (.iconst 4, 1) := by decide +kernel
theorem dX9_init_26 : decode cX9_init 26 = .ok (.newarray .int, 2) := by decide +kernel
theorem dX9_init_28 : decode cX9_init 28 = .ok (.putfield 19, 3) := by decide +kernel
theorem dX9_init_31 : decode cX9_init 31 = .ok (.aload_n 0, 1) := by decide +kernel
theorem dX9_init_32 : decode cX9_init 32 = .ok (.iconst 4, 1) := by decide +kernel
theorem dX9_init_33 : decode cX9_init 33 = .ok (.bipush 61, 2) := by decide +kernel
theorem dX9_init_35 : decode cX9_init 35 = .ok (.multianewarray 9 2, 4) := by decide +kernel
theorem dX9_init_39 : decode cX9_init 39 = .ok (.putfield 23, 3) := by decide +kernel
theorem dX9_init_42 : decode cX9_init 42 = .ok (.aload_n 0, 1) := by decide +kernel
theorem dX9_init_43 : decode cX9_init 43 = .ok (.bipush 9, 2) := by decide +kernel
theorem dX9_init_45 : decode cX9_init 45 = .ok (.iconst 4, 1) := by decide +kernel
theorem dX9_init_46 : decode cX9_init 46 = .ok (.multianewarray 9 2, 4) := by decide +kernel
theorem dX9_init_50 : decode cX9_init 50 = .ok (.putfield 26, 3) := by decide +kernel
theorem dX9_init_53 : decode cX9_init 53 = .ok (.aload_n 0, 1) := by decide +kernel
theorem dX9_init_54 : decode cX9_init 54 = .ok (.iconst 4, 1) := by decide +kernel
theorem dX9_init_55 : decode cX9_init 55 = .ok (.newarray .long, 2) := by decide +kernel
theorem dX9_init_57 : decode cX9_init 57 = .ok (.putfield 29, 3) := by decide +kernel
theorem dX9_init_60 : decode cX9_init 60 = .ok (.aload_n 0, 1) := by decide +kernel
theorem dX9_init_61 : decode cX9_init 61 = .ok (.iconst 4, 1) := by decide +kernel
theorem dX9_init_62 : decode cX9_init 62 = .ok (.newarray .long, 2) := by decide +kernel
theorem dX9_init_64 : decode cX9_init 64 = .ok (.putfield 33, 3) := by decide +kernel
theorem dX9_init_67 : decode cX9_init 67 = .ok (.iconst 0, 1) := by decide +kernel
theorem dX9_init_68 : decode cX9_init 68 = .ok (.istore_n 1, 1) := by decide +kernel
theorem dX9_init_69 : decode cX9_init 69 = .ok (.iload_n 1, 1) := by decide +kernel
theorem dX9_init_70 : decode cX9_init 70 = .ok (.iconst 4, 1) := by decide +kernel
theorem dX9_init_71 : decode cX9_init 71 = .ok (.if_icmp .ge 60, 3) := by decide +kernel
theorem dX9_init_74 : decode cX9_init 74 = .ok (.aload_n 0, 1) := by decide +kernel
theorem dX9_init_75 : decode cX9_init 75 = .ok (.getfield 19, 3) := by decide +kernel
theorem dX9_init_78 : decode cX9_init 78 = .ok (.iload_n 1, 1) := by decide +kernel
theorem dX9_init_79 : decode cX9_init 79 = .ok (.iconst 1, 1) := by decide +kernel
theorem dX9_init_80 : decode cX9_init 80 = .ok (.iastore, 1) := by decide +kernel
theorem dX9_init_81 : decode cX9_init 81 = .ok (.iconst 0, 1) := by decide +kernel
theorem dX9_init_82 : decode cX9_init 82 = .ok (.istore_n 2, 1) := by decide +kernel
theorem dX9_init_83 : decode cX9_init 83 = .ok (.iload_n 2, 1) := by decide +kernel
theorem dX9_init_84 : decode cX9_init 84 = .ok (.iconst 4, 1) := by decide +kernel
theorem dX9_init_85 : decode cX9_init 85 = .ok (.if_icmp .ge 18, 3) := by decide +kernel
theorem dX9_init_88 : decode cX9_init 88 = .ok (.aload_n 0, 1) := by decide +kernel
theorem dX9_init_89 : decode cX9_init 89 = .ok (.getfield 11, 3) := by decide +kernel
theorem dX9_init_92 : decode cX9_init 92 = .ok (.iload_n 1, 1) := by decide +kernel
theorem dX9_init_93 : decode cX9_init 93 = .ok (.aaload, 1) := by decide +kernel
theorem dX9_init_94 : decode cX9_init 94 = .ok (.iload_n 2, 1) := by decide +kernel
theorem dX9_init_95 : decode cX9_init 95 = .ok (.iconst 1, 1) := by decide +kernel
theorem dX9_init_96 : decode cX9_init 96 = .ok (.iastore, 1) := by decide +kernel
theorem dX9_init_97 : decode cX9_init 97 = .ok (.iinc 2 1, 3) := by decide +kernel
theorem dX9_init_100 : decode cX9_init 100 = .ok (.goto (-17), 3) := by decide +kernel
theorem dX9_init_103 : decode cX9_init 103 = .ok (.iconst 0, 1) := by decide +kernel
theorem dX9_init_104 : decode cX9_init 104 = .ok (.istore_n 2, 1) := by decide +kernel
theorem dX9_init_105 : decode cX9_init 105 = .ok (.iload_n 2, 1) := by decide +kernel
theorem dX9_init_106 : decode cX9_init 106 = .ok (.iconst 4, 1) := by decide +kernel
theorem dX9_init_107 : decode cX9_init 107 = .ok (.if_icmp .ge 18, 3) := by decide +kernel
theorem dX9_init_110 : decode cX9_init 110 = .ok (.aload_n 0, 1) := by decide +kernel
theorem dX9_init_111 : decode cX9_init 111 = .ok (.getfield 16, 3) := by decide +kernel
theorem dX9_init_114 : decode cX9_init 114 = .ok (.iload_n 1, 1) := by decide +kernel
theorem dX9_init_115 : decode cX9_init 115 = .ok (.aaload, 1) := by decide +kernel
theorem dX9_init_116 : decode cX9_init 116 = .ok (.iload_n 2, 1) := by decide +kernel
theorem dX9_init_117 : decode cX9_init 117 = .ok (.iconst 1, 1) := by decide +kernel
theorem dX9_init_118 : decode cX9_init 118 = .ok (.iastore, 1) := by decide +kernel
theorem dX9_init_119 : decode cX9_init 119 = .ok (.iinc 2 1, 3) := by decide +kernel
theorem dX9_init_122 : decode cX9_init 122 = .ok (.goto (-17), 3) := by decide +kernel
theorem dX9_init_125 : decode cX9_init 125 = .ok (.iinc 1 1, 3) := by decide +kernel
theorem dX9_init_128 : decode cX9_init 128 = .ok (.goto (-59), 3) := by decide +kernel
theorem dX9_init_131 : decode cX9_init 131 = .ok (.iconst 0, 1) := by decide +kernel
theorem dX9_init_132 : decode cX9_init 132 = .ok (.istore_n 1, 1) := by decide +kernel
theorem dX9_init_133 : decode cX9_init 133 = .ok (.iload_n 1, 1) := by decide +kernel
theorem dX9_init_134 : decode cX9_init 134 = .ok (.iconst 4, 1) := by decide +kernel
theorem dX9_init_135 : decode cX9_init 135 = .ok (.if_icmp .ge 32, 3) := by decide +kernel
theorem dX9_init_138 : decode cX9_init 138 = .ok (.iconst 0, 1) := by decide +kernel
theorem dX9_init_139 : decode cX9_init 139 = .ok (.istore_n 2, 1) := by decide +kernel
theorem dX9_init_140 : decode cX9_init 140 = .ok (.iload_n 2, 1) := by decide +kernel
theorem dX9_init_141 : decode cX9_init 141 = .ok (.bipush 60, 2) := by decide +kernel
theorem dX9_init_143 : decode cX9_init 143 = .ok (.if_icmp .gt 18, 3) := by decide +kernel
theorem dX9_init_146 : decode cX9_init 146 = .ok (.aload_n 0, 1) := by decide +kernel
theorem dX9_init_147 : decode cX9_init 147 = .ok (.getfield 23, 3) := by decide +kernel
theorem dX9_init_150 : decode cX9_init 150 = .ok (.iload_n 1, 1) := by decide +kernel
theorem dX9_init_151 : decode cX9_init 151 = .ok (.aaload, 1) := by decide +kernel
theorem dX9_init_152 : decode cX9_init 152 = .ok (.iload_n 2, 1) := by decide +kernel
theorem dX9_init_153 : decode cX9_init 153 = .ok (.iconst (-1), 1) := by decide +kernel
theorem dX9_init_154 : decode cX9_init 154 = .ok (.iastore, 1) := by decide +kernel
theorem dX9_init_155 : decode cX9_init 155 = .ok (.iinc 2 1, 3) := by decide +kernel
theorem dX9_init_158 : decode cX9_init 158 = .ok (.goto (-18), 3) := by decide +kernel
theorem dX9_init_161 : decode cX9_init 161 = .ok (.iinc 1 1, 3) := by decide +kernel
theorem dX9_init_164 : decode cX9_init 164 = .ok (.goto (-31), 3) := by decide +kernel
theorem dX9_init_167 : decode cX9_init 167 = .ok (.return_, 1) := by decide +kernel
theorem dX9_fittingRows_0 : decode cX9_fittingRows 0 = .ok (.aload_n 0, 1) := by decide +kernel
theorem dX9_fittingRows_1 : decode cX9_fittingRows 1 = .ok (.iload_n 1, 1) := by decide +kernel
theorem dX9_fittingRows_2 : decode cX9_fittingRows 2 = .ok (.iload_n 2, 1) := by decide +kernel
theorem dX9_fittingRows_3 : decode cX9_fittingRows 3 = .ok (.iconst 1, 1) := by decide +kernel
theorem dX9_fittingRows_4 : decode cX9_fittingRows 4 = .ok (.invokevirtual 36, 3) := by decide +kernel
theorem dX9_fittingRows_7 : decode cX9_fittingRows 7 = .ok (.aload_n 0, 1) := by decide +kernel
theorem dX9_fittingRows_8 : decode cX9_fittingRows 8 = .ok (.invokevirtual 40, 3) := by decide +kernel
theorem dX9_fittingRows_11 : decode cX9_fittingRows 11 = .ok (.l2i, 1) := by decide +kernel
theorem dX9_fittingRows_12 : decode cX9_fittingRows 12 = .ok (.ireturn, 1) := by decide +kernel
theorem dX10_init_0 : decode cX10_init 0 = .ok (.aload_n 0, 1) := by decide +kernel
theorem dX10_init_1 : decode cX10_init 1 = .ok (.invokespecial 3, 3) := by decide +kernel
theorem dX10_init_4 : decode cX10_init 4 = .ok (.aload_n 0, 1) := by decide +kernel
theorem dX10_init_5 : decode cX10_init 5 = .ok (.new 9, 3) := by decide +kernel
theorem dX10_init_8 : decode cX10_init 8 = .ok (.dup, 1) := by decide +kernel
theorem dX10_init_9 : decode cX10_init 9 = .ok (.invokespecial 11, 3) := by decide +kernel
theorem dX10_init_12 : decode cX10_init 12 = .ok (.putfield 12, 3) := by decide +kernel
theorem dX10_init_15 : decode cX10_init 15 = .ok (.aload_n 0, 1) := by decide +kernel
theorem dX10_init_16 : decode cX10_init 16 = .ok (.new 16, 3) := by decide +kernel
theorem dX10_init_19 : decode cX10_init 19 = .ok (.dup, 1) := by decide +kernel
theorem dX10_init_20 : decode cX10_init 20 = .ok (.invokespecial 18, 3) := by decide +kernel
theorem dX10_init_23 : decode cX10_init 23 = .ok (.putfield 19, 3) := by decide +kernel
theorem dX10_init_26 : decode cX10_init 26 = .ok (.aload_n 0, 1) := by decide +kernel
theorem dX10_init_27 : decode cX10_init 27 = .ok (.new 23, 3) := by decide +kernel
theorem dX10_init_30 : decode cX10_init 30 = .ok (.dup, 1) := by decide +kernel
theorem dX10_init_31 : decode cX10_init 31 = .ok (.invokespecial 25, 3) := by decide +kernel
theorem dX10_init_34 : decode cX10_init 34 = .ok (.putfield 26, 3) := by decide +kernel
theorem dX10_init_37 : decode cX10_init 37 = .ok (.aload_n 0, 1) := by decide +kernel
theorem dX10_init_38 : decode cX10_init 38 = .ok (.new 30, 3) := by decide +kernel
theorem dX10_init_41 : decode cX10_init 41 = .ok (.dup, 1) := by decide +kernel
theorem dX10_init_42 : decode cX10_init 42 = .ok (.invokespecial 32, 3) := by decide +kernel
theorem dX10_init_45 : decode cX10_init 45 = .ok (.putfield 33, 3) := by decide +kernel
theorem dX10_init_48 : decode cX10_init 48 = .ok (.aload_n 0, 1) := by decide +kernel
theorem dX10_init_49 : decode cX10_init 49 = .ok (.iconst 4, 1) := by decide +kernel
theorem dX10_init_50 : decode cX10_init 50 = .ok (.anewarray 37, 3) := by decide +kernel
theorem dX10_init_53 : decode cX10_init 53 = .ok (.putfield 39, 3) := by decide +kernel
theorem dX10_init_56 : decode cX10_init 56 = .ok (.aload_n 0, 1) := by decide +kernel
theorem dX10_init_57 : decode cX10_init 57 = .ok (.new 43, 3) := by decide +kernel
theorem dX10_init_60 : decode cX10_init 60 = .ok (.dup, 1) := by decide +kernel
theorem dX10_init_61 : decode cX10_init 61 = .ok (.invokespecial 45, 3) := by decide +kernel
theorem dX10_init_64 : decode cX10_init 64 = .ok (.putfield 46, 3) := by decide +kernel
theorem dX10_init_67 : decode cX10_init 67 = .ok (.aload_n 0, 1) := by decide +kernel
theorem dX10_init_68 : decode cX10_init 68 = .ok (.new 50, 3) := by decide +kernel
theorem dX10_init_71 : decode cX10_init 71 = .ok (.dup, 1) := by decide +kernel
theorem dX10_init_72 : decode cX10_init 72 = .ok (.aload_n 0, 1) := by decide +kernel
theorem dX10_init_73 : decode cX10_init 73 = .ok (.getfield 12, 3) := by decide +kernel
theorem dX10_init_76 : decode cX10_init 76 = .ok (.aload_n 0, 1) := by decide +kernel
theorem dX10_init_77 : decode cX10_init 77 = .ok (.getfield 19, 3) := by decide +kernel
theorem dX10_init_80 : decode cX10_init 80 = .ok (.aload_n 0, 1) := by decide +kernel
theorem dX10_init_81 : decode cX10_init 81 = .ok (.getfield 26, 3) := by decide +kernel
theorem dX10_init_84 : decode cX10_init 84 = .ok (.invokespecial 52, 3) := by decide +kernel
theorem dX10_init_87 : decode cX10_init 87 = .ok (.putfield 55, 3) := by decide +kernel
theorem dX10_init_90 : decode cX10_init 90 = .ok (.aload_n 0, 1) := by decide +kernel
theorem dX10_init_91 : decode cX10_init 91 = .ok (.new 59, 3) := by decide +kernel
theorem dX10_init_94 : decode cX10_init 94 = .ok (.dup, 1) := by decide +kernel
theorem dX10_init_95 : decode cX10_init 95 = .ok (.aload_n 0, 1) := by decide +kernel
theorem dX10_init_96 : decode cX10_init 96 = .ok (.getfield 12, 3) := by decide +kernel
theorem dX10_init_99 : decode cX10_init 99 = .ok (.aload_n 0, 1) := by decide +kernel
theorem dX10_init_100 : decode cX10_init 100 = .ok (.getfield 19, 3) := by decide +kernel
theorem dX10_init_103 : decode cX10_init 103 = .ok (.aload_n 0, 1) := by decide +kernel
theorem dX10_init_104 : decode cX10_init 104 = .ok (.getfield 26, 3) := by decide +kernel
theorem dX10_init_107 : decode cX10_init 107 = .ok (.invokespecial 61, 3) := by decide +kernel
theorem dX10_init_110 : decode cX10_init 110 = .ok (.putfield 62, 3) := by decide +kernel
theorem dX10_init_113 : decode cX10_init 113 = .ok (.aload_n 0, 1) := by decide +kernel
theorem dX10_init_114 : decode cX10_init 114 = .ok (.bipush 66, 2) := by decide +kernel
theorem dX10_init_116 : decode cX10_init 116 = .ok (.newarray .int, 2) := by decide +kernel
theorem dX10_init_118 : decode cX10_init 118 = .ok (.putfield 66, 3) := by decide +kernel
theorem dX10_init_121 : decode cX10_init 121 = .ok (.aload_n 0, 1) := by decide +kernel
theorem dX10_init_122 : decode cX10_init 122 = .ok (.new 37, 3) := by decide +kernel
theorem dX10_init_125 : decode cX10_init 125 = .ok (.dup, 1) := by decide +kernel
theorem dX10_init_126 : decode cX10_init 126 = .ok (.invokespecial 70, 3) := by decide +kernel
theorem dX10_init_129 : decode cX10_init 129 = .ok (.putfield 71, 3) := by decide +kernel
theorem dX10_init_132 : decode cX10_init 132 = .ok (.iconst 0, 1) := by decide +kernel
theorem dX10_init_133 : decode cX10_init 133 = .ok (.istore_n 1, 1) := by decide +kernel
theorem dX10_init_134 : decode cX10_init 134 = .ok (.iload_n 1, 1) := by decide +kernel
theorem dX10_init_135 : decode cX10_init 135 = .ok (.iconst 4, 1) := by decide +kernel
theorem dX10_init_136 : decode cX10_init 136 = .ok (.if_icmp .ge 22, 3) := by decide +kernel
theorem dX10_init_139 : decode cX10_init 139 = .ok (.aload_n 0, 1) := by decide +kernel
theorem dX10_init_140 : decode cX10_init 140 = .ok (.getfield 39, 3) := by decide +kernel
theorem dX10_init_143 : decode cX10_init 143 = .ok (.iload_n 1, 1) := by decide +kernel
theorem dX10_init_144 : decode cX10_init 144 = .ok (.new 37, 3) := by decide +kernel
theorem dX10_init_147 : decode cX10_init 147 = .ok (.dup, 1) := by decide +kernel
theorem dX10_init_148 : decode cX10_init 148 = .ok (.invokespecial 70, 3) := by decide +kernel
theorem dX10_init_151 : decode cX10_init 151 = .ok (.aastore, 1) := by decide +kernel
theorem dX10_init_152 : decode cX10_init 152 = .ok (.iinc 1 1, 3) := by decide +kernel
theorem dX10_init_155 : decode cX10_init 155 = .ok (.goto (-21), 3) := by decide +kernel
theorem dX10_init_158 : decode cX10_init 158 = .ok (.return_, 1) := by decide +kernel
theorem dX10_isState_0 : decode cX10_isState 0 = .ok (.iload_n 0, 1) := by decide +kernel
theorem dX10_isState_1 : decode cX10_isState 1 = .ok (.iconst 0, 1) := by decide +kernel
theorem dX10_isState_2 : decode cX10_isState 2 = .ok (.iconst 3, 1) := by decide +kernel
theorem dX10_isState_3 : decode cX10_isState 3 = .ok (.invokestatic 90, 3) := by decide +kernel
theorem dX10_isState_6 : decode cX10_isState 6 = .ok (.ireturn, 1) := by decide +kernel
theorem dX10_isOften_0 : decode cX10_isOften 0 = .ok (.iload_n 0, 1) := by decide +kernel
theorem dX10_isOften_1 : decode cX10_isOften 1 = .ok (.iconst 0, 1) := by decide +kernel
theorem dX10_isOften_2 : decode cX10_isOften 2 = .ok (.iconst 4, 1) := by decide +kernel
theorem dX10_isOften_3 : decode cX10_isOften 3 = .ok (.invokestatic 90, 3) := by decide +kernel
theorem dX10_isOften_6 : decode cX10_isOften 6 = .ok (.ireturn, 1) := by decide +kernel
theorem dX10_exchange_0 : decode cX10_exchange 0 = .ok (.iload_n 1, 1) := by decide +kernel
theorem dX10_exchange_1 : decode cX10_exchange 1 = .ok (.ifCond .lt 9, 3) := by decide +kernel
theorem dX10_exchange_4 : decode cX10_exchange 4 = .ok (.iload_n 1, 1) := by decide +kernel
theorem dX10_exchange_5 : decode cX10_exchange 5 = .ok (.aload_n 0, 1) := by decide +kernel
theorem dX10_exchange_6 : decode cX10_exchange 6 = .ok (.arraylength, 1) := by decide +kernel
theorem dX10_exchange_7 : decode cX10_exchange 7 = .ok (.if_icmp .lt 7, 3) := by decide +kernel
theorem dX10_exchange_10 : decode cX10_exchange 10 = .ok (.sipush (-1002), 3) := by decide +kernel
theorem dX10_exchange_13 : decode cX10_exchange 13 = .ok (.ireturn, 1) := by decide +kernel
theorem dX10_exchange_14 : decode cX10_exchange 14 = .ok (.aload_n 0, 1) := by decide +kernel
theorem dX10_exchange_15 : decode cX10_exchange 15 = .ok (.iload_n 1, 1) := by decide +kernel
theorem dX10_exchange_16 : decode cX10_exchange 16 = .ok (.iaload, 1) := by decide +kernel
theorem dX10_exchange_17 : decode cX10_exchange 17 = .ok (.istore_n 3, 1) := by decide +kernel
theorem dX10_exchange_18 : decode cX10_exchange 18 = .ok (.aload_n 0, 1) := by decide +kernel
theorem dX10_exchange_19 : decode cX10_exchange 19 = .ok (.iload_n 1, 1) := by decide +kernel
theorem dX10_exchange_20 : decode cX10_exchange 20 = .ok (.iload_n 2, 1) := by decide +kernel
theorem dX10_exchange_21 : decode cX10_exchange 21 = .ok (.iastore, 1) := by decide +kernel
theorem dX10_exchange_22 : decode cX10_exchange 22 = .ok (.iload_n 3, 1) := by decide +kernel
theorem dX10_exchange_23 : decode cX10_exchange 23 = .ok (.ireturn, 1) := by decide +kernel
theorem dX10_move_0 : decode cX10_move 0 = .ok (.iload_n 1, 1) := by decide +kernel
theorem dX10_move_1 : decode cX10_move 1 = .ok (.invokestatic 75, 3) := by decide +kernel
theorem dX10_move_4 : decode cX10_move 4 = .ok (.ifCond .eq 17, 3) := by decide +kernel
theorem dX10_move_7 : decode cX10_move 7 = .ok (.iload_n 2, 1) := by decide +kernel
theorem dX10_move_8 : decode cX10_move 8 = .ok (.invokestatic 75, 3) := by decide +kernel
theorem dX10_move_11 : decode cX10_move 11 = .ok (.ifCond .eq 10, 3) := by decide +kernel
theorem dX10_move_14 : decode cX10_move 14 = .ok (.iload_n 3, 1) := by decide +kernel
theorem dX10_move_15 : decode cX10_move 15 = .ok (.invokestatic 79, 3) := by decide +kernel
theorem dX10_move_18 : decode cX10_move 18 = .ok (.ifCond .ne 7, 3) := by decide +kernel
theorem dX10_move_21 : decode cX10_move 21 = .ok (.sipush (-1002), 3) := by decide +kernel
theorem dX10_move_24 : decode cX10_move 24 = .ok (.ireturn, 1) := by decide +kernel
theorem dX10_move_25 : decode cX10_move 25 = .ok (.aload_n 0, 1) := by decide +kernel
theorem dX10_move_26 : decode cX10_move 26 = .ok (.getfield 12, 3) := by decide +kernel
theorem dX10_move_29 : decode cX10_move 29 = .ok (.getfield 82, 3) := by decide +kernel
theorem dX10_move_32 : decode cX10_move 32 = .ok (.iload_n 1, 1) := by decide +kernel
theorem dX10_move_33 : decode cX10_move 33 = .ok (.aaload, 1) := by decide +kernel
theorem dX10_move_34 : decode cX10_move 34 = .ok (.iload_n 2, 1) := by decide +kernel
theorem dX10_move_35 : decode cX10_move 35 = .ok (.iload_n 3, 1) := by decide +kernel
theorem dX10_move_36 : decode cX10_move 36 = .ok (.invokestatic 86, 3) := by decide +kernel
theorem dX10_move_39 : decode cX10_move 39 = .ok (.ireturn, 1) := by decide +kernel
theorem dX10_shows_0 : decode cX10_shows 0 = .ok (.iload_n 1, 1) := by decide +kernel
theorem dX10_shows_1 : decode cX10_shows 1 = .ok (.invokestatic 75, 3) := by decide +kernel
theorem dX10_shows_4 : decode cX10_shows 4 = .ok (.ifCond .eq 19, 3) := by decide +kernel
theorem dX10_shows_7 : decode cX10_shows 7 = .ok (.iload_n 2, 1) := by decide +kernel
theorem dX10_shows_8 : decode cX10_shows 8 = .ok (.iconst 0, 1) := by decide +kernel
theorem dX10_shows_9 : decode cX10_shows 9 = .ok (.iconst 3, 1) := by decide +kernel
theorem dX10_shows_10 : decode cX10_shows 10 = .ok (.invokestatic 90, 3) := by decide +kernel
theorem dX10_shows_13 : decode cX10_shows 13 = .ok (.ifCond .eq 10, 3) := by decide +kernel
theorem dX10_shows_16 : decode cX10_shows 16 = .ok (.iload_n 3, 1) := by decide +kernel
theorem dX10_shows_17 : decode cX10_shows 17 = .ok (.invokestatic 79, 3) := by decide +kernel
theorem dX10_shows_20 : decode cX10_shows 20 = .ok (.ifCond .ne 7, 3) := by decide +kernel
theorem dX10_shows_23 : decode cX10_shows 23 = .ok (.sipush (-1002), 3) := by decide +kernel
theorem dX10_shows_26 : decode cX10_shows 26 = .ok (.ireturn, 1) := by decide +kernel
theorem dX10_shows_27 : decode cX10_shows 27 = .ok (.aload_n 0, 1) := by decide +kernel
theorem dX10_shows_28 : decode cX10_shows 28 = .ok (.getfield 12, 3) := by decide +kernel
theorem dX10_shows_31 : decode cX10_shows 31 = .ok (.getfield 94, 3) := by decide +kernel
theorem dX10_shows_34 : decode cX10_shows 34 = .ok (.iload_n 1, 1) := by decide +kernel
theorem dX10_shows_35 : decode cX10_shows 35 = .ok (.aaload, 1) := by decide +kernel
theorem dX10_shows_36 : decode cX10_shows 36 = .ok (.iload_n 2, 1) := by decide +kernel
theorem dX10_shows_37 : decode cX10_shows 37 = .ok (.iload_n 3, 1) := by decide +kernel
theorem dX10_shows_38 : decode cX10_shows 38 = .ok (.invokestatic 86, 3) := by decide +kernel
theorem dX10_shows_41 : decode cX10_shows 41 = .ok (.ireturn, 1) := by decide +kernel
theorem dX10_begins_0 : decode cX10_begins 0 = .ok (.iload_n 1, 1) := by decide +kernel
theorem dX10_begins_1 : decode cX10_begins 1 = .ok (.invokestatic 75, 3) := by decide +kernel
theorem dX10_begins_4 : decode cX10_begins 4 = .ok (.ifCond .eq 10, 3) := by decide +kernel
theorem dX10_begins_7 : decode cX10_begins 7 = .ok (.iload_n 2, 1) := by decide +kernel
theorem dX10_begins_8 : decode cX10_begins 8 = .ok (.invokestatic 79, 3) := by decide +kernel
theorem dX10_begins_11 : decode cX10_begins 11 = .ok (.ifCond .ne 7, 3) := by decide +kernel
theorem dX10_begins_14 : decode cX10_begins 14 = .ok (.sipush (-1002), 3) := by decide +kernel
theorem dX10_begins_17 : decode cX10_begins 17 = .ok (.ireturn, 1) := by decide +kernel
theorem dX10_begins_18 : decode cX10_begins 18 = .ok (.aload_n 0, 1) := by decide +kernel
theorem dX10_begins_19 : decode cX10_begins 19 = .ok (.getfield 12, 3) := by decide +kernel
theorem dX10_begins_22 : decode cX10_begins 22 = .ok (.getfield 97, 3) := by decide +kernel
theorem dX10_begins_25 : decode cX10_begins 25 = .ok (.iload_n 1, 1) := by decide +kernel
theorem dX10_begins_26 : decode cX10_begins 26 = .ok (.iload_n 2, 1) := by decide +kernel
theorem dX10_begins_27 : decode cX10_begins 27 = .ok (.invokestatic 86, 3) := by decide +kernel
theorem dX10_begins_30 : decode cX10_begins 30 = .ok (.ireturn, 1) := by decide +kernel
theorem dX10_seams_0 : decode cX10_seams 0 = .ok (.iload_n 1, 1) := by decide +kernel
theorem dX10_seams_1 : decode cX10_seams 1 = .ok (.iconst 0, 1) := by decide +kernel
theorem dX10_seams_2 : decode cX10_seams 2 = .ok (.bipush 15, 2) := by decide +kernel
theorem dX10_seams_4 : decode cX10_seams 4 = .ok (.invokestatic 90, 3) := by decide +kernel
theorem dX10_seams_7 : decode cX10_seams 7 = .ok (.ifCond .ne 7, 3) := by decide +kernel
theorem dX10_seams_10 : decode cX10_seams 10 = .ok (.sipush (-1002), 3) := by decide +kernel
theorem dX10_seams_13 : decode cX10_seams 13 = .ok (.ireturn, 1) := by decide +kernel
theorem dX10_seams_14 : decode cX10_seams 14 = .ok (.aload_n 0, 1) := by decide +kernel
theorem dX10_seams_15 : decode cX10_seams 15 = .ok (.getfield 12, 3) := by decide +kernel
theorem dX10_seams_18 : decode cX10_seams 18 = .ok (.getfield 100, 3) := by decide +kernel
theorem dX10_seams_21 : decode cX10_seams 21 = .ok (.istore_n 2, 1) := by decide +kernel
theorem dX10_seams_22 : decode cX10_seams 22 = .ok (.aload_n 0, 1) := by decide +kernel
theorem dX10_seams_23 : decode cX10_seams 23 = .ok (.getfield 12, 3) := by decide +kernel
theorem dX10_seams_26 : decode cX10_seams 26 = .ok (.iload_n 1, 1) := by decide +kernel
theorem dX10_seams_27 : decode cX10_seams 27 = .ok (.putfield 100, 3) := by decide +kernel
theorem dX10_seams_30 : decode cX10_seams 30 = .ok (.iload_n 2, 1) := by decide +kernel
theorem dX10_seams_31 : decode cX10_seams 31 = .ok (.ireturn, 1) := by decide +kernel
theorem dX10_isPerson_0 : decode cX10_isPerson 0 = .ok (.iload_n 0, 1) := by decide +kernel
theorem dX10_isPerson_1 : decode cX10_isPerson 1 = .ok (.iconst 0, 1) := by decide +kernel
theorem dX10_isPerson_2 : decode cX10_isPerson 2 = .ok (.iconst 3, 1) := by decide +kernel
theorem dX10_isPerson_3 : decode cX10_isPerson 3 = .ok (.invokestatic 90, 3) := by decide +kernel
theorem dX10_isPerson_6 : decode cX10_isPerson 6 = .ok (.ireturn, 1) := by decide +kernel
theorem dX10_sign_0 : decode cX10_sign 0 = .ok (.iload_n 1, 1) := by decide +kernel
theorem dX10_sign_1 : decode cX10_sign 1 = .ok (.invokestatic 104, 3) := by decide +kernel
theorem dX10_sign_4 : decode cX10_sign 4 = .ok (.ifCond .ne 7, 3) := by decide +kernel
theorem dX10_sign_7 : decode cX10_sign 7 = .ok (.sipush (-1001), 3) := by decide +kernel
theorem dX10_sign_10 : decode cX10_sign 10 = .ok (.ireturn, 1) := by decide +kernel
theorem dX10_sign_11 : decode cX10_sign 11 = .ok (.iload_n 2, 1) := by decide +kernel
theorem dX10_sign_12 : decode cX10_sign 12 = .ok (.iconst (-1), 1) := by decide +kernel
theorem dX10_sign_13 : decode cX10_sign 13 = .ok (.iconst 3, 1) := by decide +kernel
theorem dX10_sign_14 : decode cX10_sign 14 = .ok (.invokestatic 90, 3) := by decide +kernel
theorem dX10_sign_17 : decode cX10_sign 17 = .ok (.ifCond .ne 7, 3) := by decide +kernel
theorem dX10_sign_20 : decode cX10_sign 20 = .ok (.sipush (-1002), 3) := by decide +kernel
theorem dX10_sign_23 : decode cX10_sign 23 = .ok (.ireturn, 1) := by decide +kernel
theorem dX10_sign_24 : decode cX10_sign 24 = .ok (.aload_n 0, 1) := by decide +kernel
theorem dX10_sign_25 : decode cX10_sign 25 = .ok (.getfield 12, 3) := by decide +kernel
theorem dX10_sign_28 : decode cX10_sign 28 = .ok (.getfield 107, 3) := by decide +kernel
theorem dX10_sign_31 : decode cX10_sign 31 = .ok (.iload_n 1, 1) := by decide +kernel
theorem dX10_sign_32 : decode cX10_sign 32 = .ok (.aaload, 1) := by decide +kernel
theorem dX10_sign_33 : decode cX10_sign 33 = .ok (.aload_n 0, 1) := by decide +kernel
theorem dX10_sign_34 : decode cX10_sign 34 = .ok (.getfield 110, 3) := by decide +kernel
theorem dX10_sign_37 : decode cX10_sign 37 = .ok (.iload_n 2, 1) := by decide +kernel
theorem dX10_sign_38 : decode cX10_sign 38 = .ok (.invokestatic 86, 3) := by decide +kernel
theorem dX10_sign_41 : decode cX10_sign 41 = .ok (.pop, 1) := by decide +kernel
theorem dX10_sign_42 : decode cX10_sign 42 = .ok (.iconst 1, 1) := by decide +kernel
theorem dX10_sign_43 : decode cX10_sign 43 = .ok (.ireturn, 1) := by decide +kernel
theorem dX10_go_0 : decode cX10_go 0 = .ok (.iload_n 1, 1) := by decide +kernel
theorem dX10_go_1 : decode cX10_go 1 = .ok (.iconst 0, 1) := by decide +kernel
theorem dX10_go_2 : decode cX10_go 2 = .ok (.bipush 20, 2) := by decide +kernel
theorem dX10_go_4 : decode cX10_go 4 = .ok (.invokestatic 90, 3) := by decide +kernel
theorem dX10_go_7 : decode cX10_go 7 = .ok (.ifCond .ne 7, 3) := by decide +kernel
theorem dX10_go_10 : decode cX10_go 10 = .ok (.sipush (-1002), 3) := by decide +kernel
theorem dX10_go_13 : decode cX10_go 13 = .ok (.ireturn, 1) := by decide +kernel
theorem dX10_go_14 : decode cX10_go 14 = .ok (.aload_n 0, 1) := by decide +kernel
theorem dX10_go_15 : decode cX10_go 15 = .ok (.getfield 110, 3) := by decide +kernel
theorem dX10_go_18 : decode cX10_go 18 = .ok (.iload_n 1, 1) := by decide +kernel
theorem dX10_go_19 : decode cX10_go 19 = .ok (.iadd, 1) := by decide +kernel
theorem dX10_go_20 : decode cX10_go 20 = .ok (.bipush 60, 2) := by decide +kernel
theorem dX10_go_22 : decode cX10_go 22 = .ok (.if_icmp .le 7, 3) := by decide +kernel
theorem dX10_go_25 : decode cX10_go 25 = .ok (.sipush (-1003), 3) := by decide +kernel
theorem dX10_go_28 : decode cX10_go 28 = .ok (.ireturn, 1) := by decide +kernel
theorem dX10_go_29 : decode cX10_go 29 = .ok (.aload_n 0, 1) := by decide +kernel
theorem dX10_go_30 : decode cX10_go 30 = .ok (.dup, 1) := by decide +kernel
theorem dX10_go_31 : decode cX10_go 31 = .ok (.getfield 110, 3) := by decide +kernel
theorem dX10_go_34 : decode cX10_go 34 = .ok (.iload_n 1, 1) := by decide +kernel
theorem dX10_go_35 : decode cX10_go 35 = .ok (.iadd, 1) := by decide +kernel
theorem dX10_go_36 : decode cX10_go 36 = .ok (.putfield 110, 3) := by decide +kernel
theorem dX10_go_39 : decode cX10_go 39 = .ok (.aload_n 0, 1) := by decide +kernel
theorem dX10_go_40 : decode cX10_go 40 = .ok (.getfield 110, 3) := by decide +kernel
theorem dX10_go_43 : decode cX10_go 43 = .ok (.ireturn, 1) := by decide +kernel
theorem dX10_fits_0 : decode cX10_fits 0 = .ok (.iload_n 1, 1) := by decide +kernel
theorem dX10_fits_1 : decode cX10_fits 1 = .ok (.invokestatic 104, 3) := by decide +kernel
theorem dX10_fits_4 : decode cX10_fits 4 = .ok (.ifCond .ne 7, 3) := by decide +kernel
theorem dX10_fits_7 : decode cX10_fits 7 = .ok (.sipush (-1001), 3) := by decide +kernel
theorem dX10_fits_10 : decode cX10_fits 10 = .ok (.ireturn, 1) := by decide +kernel
theorem dX10_fits_11 : decode cX10_fits 11 = .ok (.iload_n 2, 1) := by decide +kernel
theorem dX10_fits_12 : decode cX10_fits 12 = .ok (.iconst 0, 1) := by decide +kernel
theorem dX10_fits_13 : decode cX10_fits 13 = .ok (.aload_n 0, 1) := by decide +kernel
theorem dX10_fits_14 : decode cX10_fits 14 = .ok (.getfield 110, 3) := by decide +kernel
theorem dX10_fits_17 : decode cX10_fits 17 = .ok (.invokestatic 90, 3) := by decide +kernel
theorem dX10_fits_20 : decode cX10_fits 20 = .ok (.ifCond .ne 7, 3) := by decide +kernel
theorem dX10_fits_23 : decode cX10_fits 23 = .ok (.sipush (-1002), 3) := by decide +kernel
theorem dX10_fits_26 : decode cX10_fits 26 = .ok (.ireturn, 1) := by decide +kernel
theorem dX10_fits_27 : decode cX10_fits 27 = .ok (.aload_n 0, 1) := by decide +kernel
theorem dX10_fits_28 : decode cX10_fits 28 = .ok (.getfield 12, 3) := by decide +kernel
theorem dX10_fits_31 : decode cX10_fits 31 = .ok (.iload_n 1, 1) := by decide +kernel
theorem dX10_fits_32 : decode cX10_fits 32 = .ok (.iload_n 2, 1) := by decide +kernel
theorem dX10_fits_33 : decode cX10_fits 33 = .ok (.invokevirtual 113, 3) := by decide +kernel
theorem dX10_fits_36 : decode cX10_fits 36 = .ok (.ireturn, 1) := by decide +kernel
theorem dX10_isAhead_0 : decode cX10_isAhead 0 = .ok (.iload_n 0, 1) := by decide +kernel
theorem dX10_isAhead_1 : decode cX10_isAhead 1 = .ok (.iconst 0, 1) := by decide +kernel
theorem dX10_isAhead_2 : decode cX10_isAhead 2 = .ok (.bipush 8, 2) := by decide +kernel
theorem dX10_isAhead_4 : decode cX10_isAhead 4 = .ok (.invokestatic 90, 3) := by decide +kernel
theorem dX10_isAhead_7 : decode cX10_isAhead 7 = .ok (.ireturn, 1) := by decide +kernel
theorem dX10_odds_0 : decode cX10_odds 0 = .ok (.iload_n 1, 1) := by decide +kernel
theorem dX10_odds_1 : decode cX10_odds 1 = .ok (.invokestatic 104, 3) := by decide +kernel
theorem dX10_odds_4 : decode cX10_odds 4 = .ok (.ifCond .ne 7, 3) := by decide +kernel
theorem dX10_odds_7 : decode cX10_odds 7 = .ok (.sipush (-1001), 3) := by decide +kernel
theorem dX10_odds_10 : decode cX10_odds 10 = .ok (.ireturn, 1) := by decide +kernel
theorem dX10_odds_11 : decode cX10_odds 11 = .ok (.iload_n 2, 1) := by decide +kernel
theorem dX10_odds_12 : decode cX10_odds 12 = .ok (.invokestatic 75, 3) := by decide +kernel
theorem dX10_odds_15 : decode cX10_odds 15 = .ok (.ifCond .eq 10, 3) := by decide +kernel
theorem dX10_odds_18 : decode cX10_odds 18 = .ok (.iload_n 3, 1) := by decide +kernel
theorem dX10_odds_19 : decode cX10_odds 19 = .ok (.invokestatic 117, 3) := by decide +kernel
theorem dX10_odds_22 : decode cX10_odds 22 = .ok (.ifCond .ne 7, 3) := by decide +kernel
theorem dX10_odds_25 : decode cX10_odds 25 = .ok (.sipush (-1002), 3) := by decide +kernel
theorem dX10_odds_28 : decode cX10_odds 28 = .ok (.ireturn, 1) := by decide +kernel
theorem dX10_odds_29 : decode cX10_odds 29 = .ok (.aload_n 0, 1) := by decide +kernel
theorem dX10_odds_30 : decode cX10_odds 30 = .ok (.getfield 12, 3) := by decide +kernel
theorem dX10_odds_33 : decode cX10_odds 33 = .ok (.iload_n 1, 1) := by decide +kernel
theorem dX10_odds_34 : decode cX10_odds 34 = .ok (.aload_n 0, 1) := by decide +kernel
theorem dX10_odds_35 : decode cX10_odds 35 = .ok (.getfield 110, 3) := by decide +kernel
theorem dX10_odds_38 : decode cX10_odds 38 = .ok (.iload_n 3, 1) := by decide +kernel
theorem dX10_odds_39 : decode cX10_odds 39 = .ok (.invokevirtual 120, 3) := by decide +kernel
theorem dX10_odds_42 : decode cX10_odds 42 = .ok (.aload_n 0, 1) := by decide +kernel
theorem dX10_odds_43 : decode cX10_odds 43 = .ok (.getfield 12, 3) := by decide +kernel
theorem dX10_odds_46 : decode cX10_odds 46 = .ok (.getfield 124, 3) := by decide +kernel
theorem dX10_odds_49 : decode cX10_odds 49 = .ok (.iload_n 3, 1) := by decide +kernel
theorem dX10_odds_50 : decode cX10_odds 50 = .ok (.aaload, 1) := by decide +kernel
theorem dX10_odds_51 : decode cX10_odds 51 = .ok (.iload_n 2, 1) := by decide +kernel
theorem dX10_odds_52 : decode cX10_odds 52 = .ok (.iaload, 1) := by decide +kernel
theorem dX10_odds_53 : decode cX10_odds 53 = .ok (.ireturn, 1) := by decide +kernel
theorem dX10_seam_0 : decode cX10_seam 0 = .ok (.iload_n 1, 1) := by decide +kernel
theorem dX10_seam_1 : decode cX10_seam 1 = .ok (.invokestatic 104, 3) := by decide +kernel
theorem dX10_seam_4 : decode cX10_seam 4 = .ok (.ifCond .ne 7, 3) := by decide +kernel
theorem dX10_seam_7 : decode cX10_seam 7 = .ok (.sipush (-1001), 3) := by decide +kernel
theorem dX10_seam_10 : decode cX10_seam 10 = .ok (.ireturn, 1) := by decide +kernel
theorem dX10_seam_11 : decode cX10_seam 11 = .ok (.iload_n 2, 1) := by decide +kernel
theorem dX10_seam_12 : decode cX10_seam 12 = .ok (.invokestatic 117, 3) := by decide +kernel
theorem dX10_seam_15 : decode cX10_seam 15 = .ok (.ifCond .ne 7, 3) := by decide +kernel
theorem dX10_seam_18 : decode cX10_seam 18 = .ok (.sipush (-1002), 3) := by decide +kernel
theorem dX10_seam_21 : decode cX10_seam 21 = .ok (.ireturn, 1) := by decide +kernel
theorem dX10_seam_22 : decode cX10_seam 22 = .ok (.aload_n 0, 1) := by decide +kernel
theorem dX10_seam_23 : decode cX10_seam 23 = .ok (.getfield 12, 3) := by decide +kernel
theorem dX10_seam_26 : decode cX10_seam 26 = .ok (.iload_n 1, 1) := by decide +kernel
theorem dX10_seam_27 : decode cX10_seam 27 = .ok (.aload_n 0, 1) := by decide +kernel
theorem dX10_seam_28 : decode cX10_seam 28 = .ok (.getfield 110, 3) := by decide +kernel
theorem dX10_seam_31 : decode cX10_seam 31 = .ok (.iload_n 2, 1) := by decide +kernel
theorem dX10_seam_32 : decode cX10_seam 32 = .ok (.invokevirtual 120, 3) := by decide +kernel
theorem dX10_seam_35 : decode cX10_seam 35 = .ok (.aload_n 0, 1) := by decide +kernel
theorem dX10_seam_36 : decode cX10_seam 36 = .ok (.getfield 12, 3) := by decide +kernel
theorem dX10_seam_39 : decode cX10_seam 39 = .ok (.iload_n 2, 1) := by decide +kernel
theorem dX10_seam_40 : decode cX10_seam 40 = .ok (.invokevirtual 127, 3) := by decide +kernel
theorem dX10_seam_43 : decode cX10_seam 43 = .ok (.ireturn, 1) := by decide +kernel
theorem dX10_until_0 : decode cX10_until 0 = .ok (.iload_n 1, 1) := by decide +kernel
theorem dX10_until_1 : decode cX10_until 1 = .ok (.invokestatic 104, 3) := by decide +kernel
theorem dX10_until_4 : decode cX10_until 4 = .ok (.ifCond .ne 7, 3) := by decide +kernel
theorem dX10_until_7 : decode cX10_until 7 = .ok (.sipush (-1001), 3) := by decide +kernel
theorem dX10_until_10 : decode cX10_until 10 = .ok (.ireturn, 1) := by decide +kernel
theorem dX10_until_11 : decode cX10_until 11 = .ok (.iload_n 2, 1) := by decide +kernel
theorem dX10_until_12 : decode cX10_until 12 = .ok (.iconst 0, 1) := by decide +kernel
theorem dX10_until_13 : decode cX10_until 13 = .ok (.ldc 131, 2) := by decide +kernel
theorem dX10_until_15 : decode cX10_until 15 = .ok (.invokestatic 90, 3) := by decide +kernel
theorem dX10_until_18 : decode cX10_until 18 = .ok (.ifCond .ne 7, 3) := by decide +kernel
theorem dX10_until_21 : decode cX10_until 21 = .ok (.sipush (-1002), 3) := by decide +kernel
theorem dX10_until_24 : decode cX10_until 24 = .ok (.ireturn, 1) := by decide +kernel
theorem dX10_until_25 : decode cX10_until 25 = .ok (.aload_n 0, 1) := by decide +kernel
theorem dX10_until_26 : decode cX10_until 26 = .ok (.getfield 12, 3) := by decide +kernel
theorem dX10_until_29 : decode cX10_until 29 = .ok (.iload_n 1, 1) := by decide +kernel
theorem dX10_until_30 : decode cX10_until 30 = .ok (.aload_n 0, 1) := by decide +kernel
theorem dX10_until_31 : decode cX10_until 31 = .ok (.getfield 110, 3) := by decide +kernel
theorem dX10_until_34 : decode cX10_until 34 = .ok (.bipush 8, 2) := by decide +kernel
theorem dX10_until_36 : decode cX10_until 36 = .ok (.invokevirtual 120, 3) := by decide +kernel
theorem dX10_until_39 : decode cX10_until 39 = .ok (.iconst 0, 1) := by decide +kernel
theorem dX10_until_40 : decode cX10_until 40 = .ok (.istore_n 3, 1) := by decide +kernel
theorem dX10_until_41 : decode cX10_until 41 = .ok (.iload_n 3, 1) := by decide +kernel
theorem dX10_until_42 : decode cX10_until 42 = .ok (.bipush 8, 2) := by decide +kernel
theorem dX10_until_44 : decode cX10_until 44 = .ok (.if_icmp .gt 23, 3) := by decide +kernel
theorem dX10_until_47 : decode cX10_until 47 = .ok (.aload_n 0, 1) := by decide +kernel
theorem dX10_until_48 : decode cX10_until 48 = .ok (.getfield 12, 3) := by decide +kernel
theorem dX10_until_51 : decode cX10_until 51 = .ok (.iload_n 3, 1) := by decide +kernel
theorem dX10_until_52 : decode cX10_until 52 = .ok (.invokevirtual 127, 3) := by decide +kernel
theorem dX10_until_55 : decode cX10_until 55 = .ok (.iload_n 2, 1) := by decide +kernel
theorem dX10_until_56 : decode cX10_until 56 = .ok (.if_icmp .lt 5, 3) := by decide +kernel
theorem dX10_until_59 : decode cX10_until 59 = .ok (.iload_n 3, 1) := by decide +kernel
theorem dX10_until_60 : decode cX10_until 60 = .ok (.ireturn, 1) := by decide +kernel
theorem dX10_until_61 : decode cX10_until 61 = .ok (.iinc 3 1, 3) := by decide +kernel
theorem dX10_until_64 : decode cX10_until 64 = .ok (.goto (-23), 3) := by decide +kernel
theorem dX10_until_67 : decode cX10_until 67 = .ok (.iconst (-1), 1) := by decide +kernel
theorem dX10_until_68 : decode cX10_until 68 = .ok (.ireturn, 1) := by decide +kernel
theorem dX10_thing_0 : decode cX10_thing 0 = .ok (.iload_n 1, 1) := by decide +kernel
theorem dX10_thing_1 : decode cX10_thing 1 = .ok (.iconst 1, 1) := by decide +kernel
theorem dX10_thing_2 : decode cX10_thing 2 = .ok (.bipush 15, 2) := by decide +kernel
theorem dX10_thing_4 : decode cX10_thing 4 = .ok (.invokestatic 90, 3) := by decide +kernel
theorem dX10_thing_7 : decode cX10_thing 7 = .ok (.ifCond .ne 7, 3) := by decide +kernel
theorem dX10_thing_10 : decode cX10_thing 10 = .ok (.sipush (-1001), 3) := by decide +kernel
theorem dX10_thing_13 : decode cX10_thing 13 = .ok (.ireturn, 1) := by decide +kernel
theorem dX10_thing_14 : decode cX10_thing 14 = .ok (.iload_n 2, 1) := by decide +kernel
theorem dX10_thing_15 : decode cX10_thing 15 = .ok (.iconst 0, 1) := by decide +kernel
theorem dX10_thing_16 : decode cX10_thing 16 = .ok (.iconst 3, 1) := by decide +kernel
theorem dX10_thing_17 : decode cX10_thing 17 = .ok (.invokestatic 90, 3) := by decide +kernel
theorem dX10_thing_20 : decode cX10_thing 20 = .ok (.ifCond .eq 23, 3) := by decide +kernel
theorem dX10_thing_23 : decode cX10_thing 23 = .ok (.iload_n 3, 1) := by decide +kernel
theorem dX10_thing_24 : decode cX10_thing 24 = .ok (.iconst 0, 1) := by decide +kernel
theorem dX10_thing_25 : decode cX10_thing 25 = .ok (.iconst 5, 1) := by decide +kernel
theorem dX10_thing_26 : decode cX10_thing 26 = .ok (.invokestatic 90, 3) := by decide +kernel
theorem dX10_thing_29 : decode cX10_thing 29 = .ok (.ifCond .eq 14, 3) := by decide +kernel
theorem dX10_thing_32 : decode cX10_thing 32 = .ok (.iload 4, 2) := by decide +kernel
theorem dX10_thing_34 : decode cX10_thing 34 = .ok (.iconst 0, 1) := by decide +kernel
theorem dX10_thing_35 : decode cX10_thing 35 = .ok (.bipush 9, 2) := by decide +kernel
theorem dX10_thing_37 : decode cX10_thing 37 = .ok (.invokestatic 90, 3) := by decide +kernel
theorem dX10_thing_40 : decode cX10_thing 40 = .ok (.ifCond .ne 7, 3) := by decide +kernel
theorem dX10_thing_43 : decode cX10_thing 43 = .ok (.sipush (-1002), 3) := by decide +kernel
theorem dX10_thing_46 : decode cX10_thing 46 = .ok (.ireturn, 1) := by decide +kernel
theorem dX10_thing_47 : decode cX10_thing 47 = .ok (.iload 5, 2) := by decide +kernel
theorem dX10_thing_49 : decode cX10_thing 49 = .ok (.iconst 0, 1) := by decide +kernel
theorem dX10_thing_50 : decode cX10_thing 50 = .ok (.sipush 999, 3) := by decide +kernel
theorem dX10_thing_53 : decode cX10_thing 53 = .ok (.invokestatic 90, 3) := by decide +kernel
theorem dX10_thing_56 : decode cX10_thing 56 = .ok (.ifCond .eq 28, 3) := by decide +kernel
theorem dX10_thing_59 : decode cX10_thing 59 = .ok (.iload 6, 2) := by decide +kernel
theorem dX10_thing_61 : decode cX10_thing 61 = .ok (.iconst 0, 1) := by decide +kernel
theorem dX10_thing_62 : decode cX10_thing 62 = .ok (.bipush 99, 2) := by decide +kernel
theorem dX10_thing_64 : decode cX10_thing 64 = .ok (.invokestatic 90, 3) := by decide +kernel
theorem dX10_thing_67 : decode cX10_thing 67 = .ok (.ifCond .eq 17, 3) := by decide +kernel
theorem dX10_thing_70 : decode cX10_thing 70 = .ok (.iload 7, 2) := by decide +kernel
theorem dX10_thing_72 : decode cX10_thing 72 = .ok (.aload_n 0, 1) := by decide +kernel
theorem dX10_thing_73 : decode cX10_thing 73 = .ok (.getfield 110, 3) := by decide +kernel
theorem dX10_thing_76 : decode cX10_thing 76 = .ok (.bipush 60, 2) := by decide +kernel
theorem dX10_thing_78 : decode cX10_thing 78 = .ok (.invokestatic 90, 3) := by decide +kernel
theorem dX10_thing_81 : decode cX10_thing 81 = .ok (.ifCond .ne 7, 3) := by decide +kernel
theorem dX10_thing_84 : decode cX10_thing 84 = .ok (.sipush (-1002), 3) := by decide +kernel
theorem dX10_thing_87 : decode cX10_thing 87 = .ok (.ireturn, 1) := by decide +kernel
theorem dX10_thing_88 : decode cX10_thing 88 = .ok (.aload_n 0, 1) := by decide +kernel
theorem dX10_thing_89 : decode cX10_thing 89 = .ok (.getfield 26, 3) := by decide +kernel
theorem dX10_thing_92 : decode cX10_thing 92 = .ok (.getfield 132, 3) := by decide +kernel
theorem dX10_thing_95 : decode cX10_thing 95 = .ok (.bipush 10, 2) := by decide +kernel
theorem dX10_thing_97 : decode cX10_thing 97 = .ok (.if_icmp .lt 7, 3) := by decide +kernel
theorem dX10_thing_100 : decode cX10_thing 100 = .ok (.sipush (-1004), 3) := by decide +kernel
theorem dX10_thing_103 : decode cX10_thing 103 = .ok (.ireturn, 1) := by decide +kernel
theorem dX10_thing_104 : decode cX10_thing 104 = .ok (.aload_n 0, 1) := by decide +kernel
theorem dX10_thing_105 : decode cX10_thing 105 = .ok (.getfield 26, 3) := by decide +kernel
theorem dX10_thing_108 : decode cX10_thing 108 = .ok (.getfield 135, 3) := by decide +kernel
theorem dX10_thing_111 : decode cX10_thing 111 = .ok (.aload_n 0, 1) := by decide +kernel
theorem dX10_thing_112 : decode cX10_thing 112 = .ok (.getfield 26, 3) := by decide +kernel
theorem dX10_thing_115 : decode cX10_thing 115 = .ok (.getfield 132, 3) := by decide +kernel
theorem dX10_thing_118 : decode cX10_thing 118 = .ok (.aaload, 1) := by decide +kernel
theorem dX10_thing_119 : decode cX10_thing 119 = .ok (.astore 8, 2) := by decide +kernel
theorem dX10_thing_121 : decode cX10_thing 121 = .ok (.aload 8, 2) := by decide +kernel
theorem dX10_thing_123 : decode cX10_thing 123 = .ok (.iload_n 1, 1) := by decide +kernel
theorem dX10_thing_124 : decode cX10_thing 124 = .ok (.putfield 139, 3) := by decide +kernel
theorem dX10_thing_127 : decode cX10_thing 127 = .ok (.aload 8, 2) := by decide +kernel
theorem dX10_thing_129 : decode cX10_thing 129 = .ok (.iload_n 2, 1) := by decide +kernel
theorem dX10_thing_130 : decode cX10_thing 130 = .ok (.putfield 144, 3) := by decide +kernel
theorem dX10_thing_133 : decode cX10_thing 133 = .ok (.aload 8, 2) := by decide +kernel
theorem dX10_thing_135 : decode cX10_thing 135 = .ok (.iload_n 3, 1) := by decide +kernel
theorem dX10_thing_136 : decode cX10_thing 136 = .ok (.putfield 147, 3) := by decide +kernel
theorem dX10_thing_139 : decode cX10_thing 139 = .ok (.aload 8, 2) := by decide +kernel
theorem dX10_thing_141 : decode cX10_thing 141 = .ok (.iload 4, 2) := by decide +kernel
theorem dX10_thing_143 : decode cX10_thing 143 = .ok (.putfield 150, 3) := by decide +kernel
theorem dX10_thing_146 : decode cX10_thing 146 = .ok (.aload 8, 2) := by decide +kernel
theorem dX10_thing_148 : decode cX10_thing 148 = .ok (.iload 5, 2) := by decide +kernel
theorem dX10_thing_150 : decode cX10_thing 150 = .ok (.putfield 153, 3) := by decide +kernel
theorem dX10_thing_153 : decode cX10_thing 153 = .ok (.aload 8, 2) := by decide +kernel
theorem dX10_thing_155 : decode cX10_thing 155 = .ok (.iload 6, 2) := by decide +kernel
theorem dX10_thing_157 : decode cX10_thing 157 = .ok (.putfield 156, 3) := by decide +kernel
theorem dX10_thing_160 : decode cX10_thing 160 = .ok (.aload 8, 2) := by decide +kernel
theorem dX10_thing_162 : decode cX10_thing 162 = .ok (.iload 7, 2) := by decide +kernel
theorem dX10_thing_164 : decode cX10_thing 164 = .ok (.putfield 159, 3) := by decide +kernel
theorem dX10_thing_167 : decode cX10_thing 167 = .ok (.aload 8, 2) := by decide +kernel
theorem dX10_thing_169 : decode cX10_thing 169 = .ok (.aload_n 0, 1) := by decide +kernel
theorem dX10_thing_170 : decode cX10_thing 170 = .ok (.getfield 110, 3) := by decide +kernel
theorem dX10_thing_173 : decode cX10_thing 173 = .ok (.putfield 162, 3) := by decide +kernel
theorem dX10_thing_176 : decode cX10_thing 176 = .ok (.aload_n 0, 1) := by decide +kernel
theorem dX10_thing_177 : decode cX10_thing 177 = .ok (.getfield 26, 3) := by decide +kernel
theorem dX10_thing_180 : decode cX10_thing 180 = .ok (.dup, 1) := by decide +kernel
theorem dX10_thing_181 : decode cX10_thing 181 = .ok (.getfield 132, 3) := by decide +kernel
theorem dX10_thing_184 : decode cX10_thing 184 = .ok (.iconst 1, 1) := by decide +kernel
theorem dX10_thing_185 : decode cX10_thing 185 = .ok (.iadd, 1) := by decide +kernel
theorem dX10_thing_186 : decode cX10_thing 186 = .ok (.putfield 132, 3) := by decide +kernel
theorem dX10_thing_189 : decode cX10_thing 189 = .ok (.aload_n 0, 1) := by decide +kernel
theorem dX10_thing_190 : decode cX10_thing 190 = .ok (.getfield 26, 3) := by decide +kernel
theorem dX10_thing_193 : decode cX10_thing 193 = .ok (.getfield 132, 3) := by decide +kernel
theorem dX10_thing_196 : decode cX10_thing 196 = .ok (.iconst 1, 1) := by decide +kernel
theorem dX10_thing_197 : decode cX10_thing 197 = .ok (.isub, 1) := by decide +kernel
theorem dX10_thing_198 : decode cX10_thing 198 = .ok (.ireturn, 1) := by decide +kernel
theorem dX10_dead_0 : decode cX10_dead 0 = .ok (.aload_n 0, 1) := by decide +kernel
theorem dX10_dead_1 : decode cX10_dead 1 = .ok (.getfield 26, 3) := by decide +kernel
theorem dX10_dead_4 : decode cX10_dead 4 = .ok (.iload_n 1, 1) := by decide +kernel
theorem dX10_dead_5 : decode cX10_dead 5 = .ok (.invokevirtual 165, 3) := by decide +kernel
theorem dX10_dead_8 : decode cX10_dead 8 = .ok (.ifCond .ne 7, 3) := by decide +kernel
theorem dX10_dead_11 : decode cX10_dead 11 = .ok (.sipush (-1001), 3) := by decide +kernel
theorem dX10_dead_14 : decode cX10_dead 14 = .ok (.ireturn, 1) := by decide +kernel
theorem dX10_dead_15 : decode cX10_dead 15 = .ok (.aload_n 0, 1) := by decide +kernel
theorem dX10_dead_16 : decode cX10_dead 16 = .ok (.getfield 26, 3) := by decide +kernel
theorem dX10_dead_19 : decode cX10_dead 19 = .ok (.getfield 135, 3) := by decide +kernel
theorem dX10_dead_22 : decode cX10_dead 22 = .ok (.iload_n 1, 1) := by decide +kernel
theorem dX10_dead_23 : decode cX10_dead 23 = .ok (.aaload, 1) := by decide +kernel
theorem dX10_dead_24 : decode cX10_dead 24 = .ok (.getfield 168, 3) := by decide +kernel
theorem dX10_dead_27 : decode cX10_dead 27 = .ok (.ifCond .eq 7, 3) := by decide +kernel
theorem dX10_dead_30 : decode cX10_dead 30 = .ok (.sipush (-1003), 3) := by decide +kernel
theorem dX10_dead_33 : decode cX10_dead 33 = .ok (.ireturn, 1) := by decide +kernel
theorem dX10_dead_34 : decode cX10_dead 34 = .ok (.aload_n 0, 1) := by decide +kernel
theorem dX10_dead_35 : decode cX10_dead 35 = .ok (.getfield 26, 3) := by decide +kernel
theorem dX10_dead_38 : decode cX10_dead 38 = .ok (.getfield 135, 3) := by decide +kernel
theorem dX10_dead_41 : decode cX10_dead 41 = .ok (.iload_n 1, 1) := by decide +kernel
theorem dX10_dead_42 : decode cX10_dead 42 = .ok (.aaload, 1) := by decide +kernel
theorem dX10_dead_43 : decode cX10_dead 43 = .ok (.iconst 1, 1) := by decide +kernel
theorem dX10_dead_44 : decode cX10_dead 44 = .ok (.putfield 168, 3) := by decide +kernel
theorem dX10_dead_47 : decode cX10_dead 47 = .ok (.aload_n 0, 1) := by decide +kernel
theorem dX10_dead_48 : decode cX10_dead 48 = .ok (.getfield 26, 3) := by decide +kernel
theorem dX10_dead_51 : decode cX10_dead 51 = .ok (.iload_n 1, 1) := by decide +kernel
theorem dX10_dead_52 : decode cX10_dead 52 = .ok (.invokevirtual 172, 3) := by decide +kernel
theorem dX10_dead_55 : decode cX10_dead 55 = .ok (.ireturn, 1) := by decide +kernel
theorem dX10_told_0 : decode cX10_told 0 = .ok (.aload_n 0, 1) := by decide +kernel
theorem dX10_told_1 : decode cX10_told 1 = .ok (.getfield 26, 3) := by decide +kernel
theorem dX10_told_4 : decode cX10_told 4 = .ok (.iload_n 1, 1) := by decide +kernel
theorem dX10_told_5 : decode cX10_told 5 = .ok (.invokevirtual 165, 3) := by decide +kernel
theorem dX10_told_8 : decode cX10_told 8 = .ok (.ifCond .ne 7, 3) := by decide +kernel
theorem dX10_told_11 : decode cX10_told 11 = .ok (.sipush (-1001), 3) := by decide +kernel
theorem dX10_told_14 : decode cX10_told 14 = .ok (.ireturn, 1) := by decide +kernel
theorem dX10_told_15 : decode cX10_told 15 = .ok (.aload_n 0, 1) := by decide +kernel
theorem dX10_told_16 : decode cX10_told 16 = .ok (.getfield 26, 3) := by decide +kernel
theorem dX10_told_19 : decode cX10_told 19 = .ok (.getfield 135, 3) := by decide +kernel
theorem dX10_told_22 : decode cX10_told 22 = .ok (.iload_n 1, 1) := by decide +kernel
theorem dX10_told_23 : decode cX10_told 23 = .ok (.aaload, 1) := by decide +kernel
theorem dX10_told_24 : decode cX10_told 24 = .ok (.astore_n 3, 1) := by decide +kernel
theorem dX10_told_25 : decode cX10_told 25 = .ok (.iload_n 2, 1) := by decide +kernel
theorem dX10_told_26 : decode cX10_told 26 = .ok (.tableswitch 98 0 7 #[46, 51, 56, 61, 66, 71, 84, 93], 46) := by decide +kernel
theorem dX10_told_72 : decode cX10_told 72 = .ok (.aload_n 3, 1) := by decide +kernel
theorem dX10_told_73 : decode cX10_told 73 = .ok (.getfield 139, 3) := by decide +kernel
theorem dX10_told_76 : decode cX10_told 76 = .ok (.ireturn, 1) := by decide +kernel
theorem dX10_told_77 : decode cX10_told 77 = .ok (.aload_n 3, 1) := by decide +kernel
theorem dX10_told_78 : decode cX10_told 78 = .ok (.getfield 144, 3) := by decide +kernel
theorem dX10_told_81 : decode cX10_told 81 = .ok (.ireturn, 1) := by decide +kernel
theorem dX10_told_82 : decode cX10_told 82 = .ok (.aload_n 3, 1) := by decide +kernel
theorem dX10_told_83 : decode cX10_told 83 = .ok (.getfield 147, 3) := by decide +kernel
theorem dX10_told_86 : decode cX10_told 86 = .ok (.ireturn, 1) := by decide +kernel
theorem dX10_told_87 : decode cX10_told 87 = .ok (.aload_n 3, 1) := by decide +kernel
theorem dX10_told_88 : decode cX10_told 88 = .ok (.getfield 150, 3) := by decide +kernel
theorem dX10_told_91 : decode cX10_told 91 = .ok (.ireturn, 1) := by decide +kernel
theorem dX10_told_92 : decode cX10_told 92 = .ok (.aload_n 3, 1) := by decide +kernel
theorem dX10_told_93 : decode cX10_told 93 = .ok (.getfield 159, 3) := by decide +kernel
theorem dX10_told_96 : decode cX10_told 96 = .ok (.ireturn, 1) := by decide +kernel
theorem dX10_told_97 : decode cX10_told 97 = .ok (.aload_n 0, 1) := by decide +kernel
theorem dX10_told_98 : decode cX10_told 98 = .ok (.getfield 26, 3) := by decide +kernel
theorem dX10_told_101 : decode cX10_told 101 = .ok (.iload_n 1, 1) := by decide +kernel
theorem dX10_told_102 : decode cX10_told 102 = .ok (.aload_n 0, 1) := by decide +kernel
theorem dX10_told_103 : decode cX10_told 103 = .ok (.getfield 110, 3) := by decide +kernel
theorem dX10_told_106 : decode cX10_told 106 = .ok (.invokevirtual 175, 3) := by decide +kernel
theorem dX10_told_109 : decode cX10_told 109 = .ok (.ireturn, 1) := by decide +kernel
theorem dX10_told_110 : decode cX10_told 110 = .ok (.aload_n 0, 1) := by decide +kernel
theorem dX10_told_111 : decode cX10_told 111 = .ok (.getfield 26, 3) := by decide +kernel
theorem dX10_told_114 : decode cX10_told 114 = .ok (.iload_n 1, 1) := by decide +kernel
theorem dX10_told_115 : decode cX10_told 115 = .ok (.invokevirtual 172, 3) := by decide +kernel
theorem dX10_told_118 : decode cX10_told 118 = .ok (.ireturn, 1) := by decide +kernel
theorem dX10_told_119 : decode cX10_told 119 = .ok (.aload_n 3, 1) := by decide +kernel
theorem dX10_told_120 : decode cX10_told 120 = .ok (.getfield 162, 3) := by decide +kernel
theorem dX10_told_123 : decode cX10_told 123 = .ok (.ireturn, 1) := by decide +kernel
theorem dX10_told_124 : decode cX10_told 124 = .ok (.sipush (-1002), 3) := by decide +kernel
theorem dX10_told_127 : decode cX10_told 127 = .ok (.ireturn, 1) := by decide +kernel
theorem dX10_value_0 : decode cX10_value 0 = .ok (.aload_n 0, 1) := by decide +kernel
theorem dX10_value_1 : decode cX10_value 1 = .ok (.getfield 26, 3) := by decide +kernel
theorem dX10_value_4 : decode cX10_value 4 = .ok (.iload_n 1, 1) := by decide +kernel
theorem dX10_value_5 : decode cX10_value 5 = .ok (.invokevirtual 165, 3) := by decide +kernel
theorem dX10_value_8 : decode cX10_value 8 = .ok (.ifCond .eq 10, 3) := by decide +kernel
theorem dX10_value_11 : decode cX10_value 11 = .ok (.iload_n 2, 1) := by decide +kernel
theorem dX10_value_12 : decode cX10_value 12 = .ok (.invokestatic 104, 3) := by decide +kernel
theorem dX10_value_15 : decode cX10_value 15 = .ok (.ifCond .ne 7, 3) := by decide +kernel
theorem dX10_value_18 : decode cX10_value 18 = .ok (.sipush (-1001), 3) := by decide +kernel
theorem dX10_value_21 : decode cX10_value 21 = .ok (.ireturn, 1) := by decide +kernel
theorem dX10_value_22 : decode cX10_value 22 = .ok (.iload_n 3, 1) := by decide +kernel
theorem dX10_value_23 : decode cX10_value 23 = .ok (.invokestatic 117, 3) := by decide +kernel
theorem dX10_value_26 : decode cX10_value 26 = .ok (.ifCond .ne 7, 3) := by decide +kernel
theorem dX10_value_29 : decode cX10_value 29 = .ok (.sipush (-1002), 3) := by decide +kernel
theorem dX10_value_32 : decode cX10_value 32 = .ok (.ireturn, 1) := by decide +kernel
theorem dX10_value_33 : decode cX10_value 33 = .ok (.aload_n 0, 1) := by decide +kernel
theorem dX10_value_34 : decode cX10_value 34 = .ok (.getfield 12, 3) := by decide +kernel
theorem dX10_value_37 : decode cX10_value 37 = .ok (.iload_n 2, 1) := by decide +kernel
theorem dX10_value_38 : decode cX10_value 38 = .ok (.aload_n 0, 1) := by decide +kernel
theorem dX10_value_39 : decode cX10_value 39 = .ok (.getfield 110, 3) := by decide +kernel
theorem dX10_value_42 : decode cX10_value 42 = .ok (.iload_n 3, 1) := by decide +kernel
theorem dX10_value_43 : decode cX10_value 43 = .ok (.invokevirtual 120, 3) := by decide +kernel
theorem dX10_value_46 : decode cX10_value 46 = .ok (.aload_n 0, 1) := by decide +kernel
theorem dX10_value_47 : decode cX10_value 47 = .ok (.getfield 26, 3) := by decide +kernel
theorem dX10_value_50 : decode cX10_value 50 = .ok (.getfield 135, 3) := by decide +kernel
theorem dX10_value_53 : decode cX10_value 53 = .ok (.iload_n 1, 1) := by decide +kernel
theorem dX10_value_54 : decode cX10_value 54 = .ok (.aaload, 1) := by decide +kernel
theorem dX10_value_55 : decode cX10_value 55 = .ok (.aload_n 0, 1) := by decide +kernel
theorem dX10_value_56 : decode cX10_value 56 = .ok (.getfield 110, 3) := by decide +kernel
theorem dX10_value_59 : decode cX10_value 59 = .ok (.iload_n 3, 1) := by decide +kernel
theorem dX10_value_60 : decode cX10_value 60 = .ok (.iadd, 1) := by decide +kernel
theorem dX10_value_61 : decode cX10_value 61 = .ok (.aload_n 0, 1) := by decide +kernel
theorem dX10_value_62 : decode cX10_value 62 = .ok (.getfield 12, 3) := by decide +kernel
theorem dX10_value_65 : decode cX10_value 65 = .ok (.iload_n 3, 1) := by decide +kernel
theorem dX10_value_66 : decode cX10_value 66 = .ok (.invokevirtual 127, 3) := by decide +kernel
theorem dX10_value_69 : decode cX10_value 69 = .ok (.invokevirtual 178, 3) := by decide +kernel
theorem dX10_value_72 : decode cX10_value 72 = .ok (.ireturn, 1) := by decide +kernel
theorem dX10_isWay_0 : decode cX10_isWay 0 = .ok (.iload_n 0, 1) := by decide +kernel
theorem dX10_isWay_1 : decode cX10_isWay 1 = .ok (.iconst 0, 1) := by decide +kernel
theorem dX10_isWay_2 : decode cX10_isWay 2 = .ok (.iconst 3, 1) := by decide +kernel
theorem dX10_isWay_3 : decode cX10_isWay 3 = .ok (.invokestatic 90, 3) := by decide +kernel
theorem dX10_isWay_6 : decode cX10_isWay 6 = .ok (.ireturn, 1) := by decide +kernel
theorem dX10_cost_0 : decode cX10_cost 0 = .ok (.iload_n 1, 1) := by decide +kernel
theorem dX10_cost_1 : decode cX10_cost 1 = .ok (.invokestatic 181, 3) := by decide +kernel
theorem dX10_cost_4 : decode cX10_cost 4 = .ok (.ifCond .eq 21, 3) := by decide +kernel
theorem dX10_cost_7 : decode cX10_cost 7 = .ok (.iload_n 2, 1) := by decide +kernel
theorem dX10_cost_8 : decode cX10_cost 8 = .ok (.invokestatic 75, 3) := by decide +kernel
theorem dX10_cost_11 : decode cX10_cost 11 = .ok (.ifCond .eq 14, 3) := by decide +kernel
theorem dX10_cost_14 : decode cX10_cost 14 = .ok (.iload_n 3, 1) := by decide +kernel
theorem dX10_cost_15 : decode cX10_cost 15 = .ok (.iconst 0, 1) := by decide +kernel
theorem dX10_cost_16 : decode cX10_cost 16 = .ok (.sipush 999, 3) := by decide +kernel
theorem dX10_cost_19 : decode cX10_cost 19 = .ok (.invokestatic 90, 3) := by decide +kernel
theorem dX10_cost_22 : decode cX10_cost 22 = .ok (.ifCond .ne 7, 3) := by decide +kernel
theorem dX10_cost_25 : decode cX10_cost 25 = .ok (.sipush (-1002), 3) := by decide +kernel
theorem dX10_cost_28 : decode cX10_cost 28 = .ok (.ireturn, 1) := by decide +kernel
theorem dX10_cost_29 : decode cX10_cost 29 = .ok (.aload_n 0, 1) := by decide +kernel
theorem dX10_cost_30 : decode cX10_cost 30 = .ok (.getfield 19, 3) := by decide +kernel
theorem dX10_cost_33 : decode cX10_cost 33 = .ok (.getfield 184, 3) := by decide +kernel
theorem dX10_cost_36 : decode cX10_cost 36 = .ok (.iload_n 1, 1) := by decide +kernel
theorem dX10_cost_37 : decode cX10_cost 37 = .ok (.aaload, 1) := by decide +kernel
theorem dX10_cost_38 : decode cX10_cost 38 = .ok (.iload_n 2, 1) := by decide +kernel
theorem dX10_cost_39 : decode cX10_cost 39 = .ok (.iload_n 3, 1) := by decide +kernel
theorem dX10_cost_40 : decode cX10_cost 40 = .ok (.invokestatic 86, 3) := by decide +kernel
theorem dX10_cost_43 : decode cX10_cost 43 = .ok (.ireturn, 1) := by decide +kernel
theorem dX10_seen_0 : decode cX10_seen 0 = .ok (.iload_n 1, 1) := by decide +kernel
theorem dX10_seen_1 : decode cX10_seen 1 = .ok (.invokestatic 181, 3) := by decide +kernel
theorem dX10_seen_4 : decode cX10_seen 4 = .ok (.ifCond .eq 13, 3) := by decide +kernel
theorem dX10_seen_7 : decode cX10_seen 7 = .ok (.iload_n 2, 1) := by decide +kernel
theorem dX10_seen_8 : decode cX10_seen 8 = .ok (.iconst 0, 1) := by decide +kernel
theorem dX10_seen_9 : decode cX10_seen 9 = .ok (.bipush 100, 2) := by decide +kernel
theorem dX10_seen_11 : decode cX10_seen 11 = .ok (.invokestatic 90, 3) := by decide +kernel
theorem dX10_seen_14 : decode cX10_seen 14 = .ok (.ifCond .ne 7, 3) := by decide +kernel
theorem dX10_seen_17 : decode cX10_seen 17 = .ok (.sipush (-1002), 3) := by decide +kernel
theorem dX10_seen_20 : decode cX10_seen 20 = .ok (.ireturn, 1) := by decide +kernel
theorem dX10_seen_21 : decode cX10_seen 21 = .ok (.aload_n 0, 1) := by decide +kernel
theorem dX10_seen_22 : decode cX10_seen 22 = .ok (.getfield 19, 3) := by decide +kernel
theorem dX10_seen_25 : decode cX10_seen 25 = .ok (.getfield 187, 3) := by decide +kernel
theorem dX10_seen_28 : decode cX10_seen 28 = .ok (.iload_n 1, 1) := by decide +kernel
theorem dX10_seen_29 : decode cX10_seen 29 = .ok (.iload_n 2, 1) := by decide +kernel
theorem dX10_seen_30 : decode cX10_seen 30 = .ok (.invokestatic 86, 3) := by decide +kernel
theorem dX10_seen_33 : decode cX10_seen 33 = .ok (.ireturn, 1) := by decide +kernel
theorem dX10_loss_0 : decode cX10_loss 0 = .ok (.iload_n 1, 1) := by decide +kernel
theorem dX10_loss_1 : decode cX10_loss 1 = .ok (.invokestatic 104, 3) := by decide +kernel
theorem dX10_loss_4 : decode cX10_loss 4 = .ok (.ifCond .ne 7, 3) := by decide +kernel
theorem dX10_loss_7 : decode cX10_loss 7 = .ok (.sipush (-1001), 3) := by decide +kernel
theorem dX10_loss_10 : decode cX10_loss 10 = .ok (.ireturn, 1) := by decide +kernel
theorem dX10_loss_11 : decode cX10_loss 11 = .ok (.iload_n 2, 1) := by decide +kernel
theorem dX10_loss_12 : decode cX10_loss 12 = .ok (.invokestatic 181, 3) := by decide +kernel
theorem dX10_loss_15 : decode cX10_loss 15 = .ok (.ifCond .eq 10, 3) := by decide +kernel
theorem dX10_loss_18 : decode cX10_loss 18 = .ok (.iload_n 3, 1) := by decide +kernel
theorem dX10_loss_19 : decode cX10_loss 19 = .ok (.invokestatic 117, 3) := by decide +kernel
theorem dX10_loss_22 : decode cX10_loss 22 = .ok (.ifCond .ne 7, 3) := by decide +kernel
theorem dX10_loss_25 : decode cX10_loss 25 = .ok (.sipush (-1002), 3) := by decide +kernel
theorem dX10_loss_28 : decode cX10_loss 28 = .ok (.ireturn, 1) := by decide +kernel
theorem dX10_loss_29 : decode cX10_loss 29 = .ok (.aload_n 0, 1) := by decide +kernel
theorem dX10_loss_30 : decode cX10_loss 30 = .ok (.getfield 12, 3) := by decide +kernel
theorem dX10_loss_33 : decode cX10_loss 33 = .ok (.iload_n 1, 1) := by decide +kernel
theorem dX10_loss_34 : decode cX10_loss 34 = .ok (.aload_n 0, 1) := by decide +kernel
theorem dX10_loss_35 : decode cX10_loss 35 = .ok (.getfield 110, 3) := by decide +kernel
theorem dX10_loss_38 : decode cX10_loss 38 = .ok (.iload_n 3, 1) := by decide +kernel
theorem dX10_loss_39 : decode cX10_loss 39 = .ok (.invokevirtual 120, 3) := by decide +kernel
theorem dX10_loss_42 : decode cX10_loss 42 = .ok (.aload_n 0, 1) := by decide +kernel
theorem dX10_loss_43 : decode cX10_loss 43 = .ok (.getfield 19, 3) := by decide +kernel
theorem dX10_loss_46 : decode cX10_loss 46 = .ok (.iload_n 2, 1) := by decide +kernel
theorem dX10_loss_47 : decode cX10_loss 47 = .ok (.aload_n 0, 1) := by decide +kernel
theorem dX10_loss_48 : decode cX10_loss 48 = .ok (.getfield 12, 3) := by decide +kernel
theorem dX10_loss_51 : decode cX10_loss 51 = .ok (.getfield 124, 3) := by decide +kernel
theorem dX10_loss_54 : decode cX10_loss 54 = .ok (.iload_n 3, 1) := by decide +kernel
theorem dX10_loss_55 : decode cX10_loss 55 = .ok (.aaload, 1) := by decide +kernel
theorem dX10_loss_56 : decode cX10_loss 56 = .ok (.invokevirtual 190, 3) := by decide +kernel
theorem dX10_loss_59 : decode cX10_loss 59 = .ok (.ireturn, 1) := by decide +kernel
theorem dX10_count_0 : decode cX10_count 0 = .ok (.iload_n 1, 1) := by decide +kernel
theorem dX10_count_1 : decode cX10_count 1 = .ok (.tableswitch 128 0 7 #[47, 52, 60, 73, 86, 99, 112, 120], 47) := by decide +kernel
theorem dX10_count_48 : decode cX10_count 48 = .ok (.aload_n 0, 1) := by decide +kernel
theorem dX10_count_49 : decode cX10_count 49 = .ok (.getfield 110, 3) := by decide +kernel
theorem dX10_count_52 : decode cX10_count 52 = .ok (.ireturn, 1) := by decide +kernel
theorem dX10_count_53 : decode cX10_count 53 = .ok (.aload_n 0, 1) := by decide +kernel
theorem dX10_count_54 : decode cX10_count 54 = .ok (.getfield 26, 3) := by decide +kernel
theorem dX10_count_57 : decode cX10_count 57 = .ok (.getfield 132, 3) := by decide +kernel
theorem dX10_count_60 : decode cX10_count 60 = .ok (.ireturn, 1) := by decide +kernel
theorem dX10_count_61 : decode cX10_count 61 = .ok (.aload_n 0, 1) := by decide +kernel
theorem dX10_count_62 : decode cX10_count 62 = .ok (.getfield 26, 3) := by decide +kernel
theorem dX10_count_65 : decode cX10_count 65 = .ok (.iconst 0, 1) := by decide +kernel
theorem dX10_count_66 : decode cX10_count 66 = .ok (.aload_n 0, 1) := by decide +kernel
theorem dX10_count_67 : decode cX10_count 67 = .ok (.getfield 110, 3) := by decide +kernel
theorem dX10_count_70 : decode cX10_count 70 = .ok (.invokevirtual 194, 3) := by decide +kernel
theorem dX10_count_73 : decode cX10_count 73 = .ok (.ireturn, 1) := by decide +kernel
theorem dX10_count_74 : decode cX10_count 74 = .ok (.aload_n 0, 1) := by decide +kernel
theorem dX10_count_75 : decode cX10_count 75 = .ok (.getfield 26, 3) := by decide +kernel
theorem dX10_count_78 : decode cX10_count 78 = .ok (.iconst 1, 1) := by decide +kernel
theorem dX10_count_79 : decode cX10_count 79 = .ok (.aload_n 0, 1) := by decide +kernel
theorem dX10_count_80 : decode cX10_count 80 = .ok (.getfield 110, 3) := by decide +kernel
theorem dX10_count_83 : decode cX10_count 83 = .ok (.invokevirtual 194, 3) := by decide +kernel
theorem dX10_count_86 : decode cX10_count 86 = .ok (.ireturn, 1) := by decide +kernel
theorem dX10_count_87 : decode cX10_count 87 = .ok (.aload_n 0, 1) := by decide +kernel
theorem dX10_count_88 : decode cX10_count 88 = .ok (.getfield 26, 3) := by decide +kernel
theorem dX10_count_91 : decode cX10_count 91 = .ok (.iconst 2, 1) := by decide +kernel
theorem dX10_count_92 : decode cX10_count 92 = .ok (.aload_n 0, 1) := by decide +kernel
theorem dX10_count_93 : decode cX10_count 93 = .ok (.getfield 110, 3) := by decide +kernel
theorem dX10_count_96 : decode cX10_count 96 = .ok (.invokevirtual 194, 3) := by decide +kernel
theorem dX10_count_99 : decode cX10_count 99 = .ok (.ireturn, 1) := by decide +kernel
theorem dX10_count_100 : decode cX10_count 100 = .ok (.aload_n 0, 1) := by decide +kernel
theorem dX10_count_101 : decode cX10_count 101 = .ok (.getfield 26, 3) := by decide +kernel
theorem dX10_count_104 : decode cX10_count 104 = .ok (.iconst 3, 1) := by decide +kernel
theorem dX10_count_105 : decode cX10_count 105 = .ok (.aload_n 0, 1) := by decide +kernel
theorem dX10_count_106 : decode cX10_count 106 = .ok (.getfield 110, 3) := by decide +kernel
theorem dX10_count_109 : decode cX10_count 109 = .ok (.invokevirtual 194, 3) := by decide +kernel
theorem dX10_count_112 : decode cX10_count 112 = .ok (.ireturn, 1) := by decide +kernel
theorem dX10_count_113 : decode cX10_count 113 = .ok (.aload_n 0, 1) := by decide +kernel
theorem dX10_count_114 : decode cX10_count 114 = .ok (.getfield 26, 3) := by decide +kernel
theorem dX10_count_117 : decode cX10_count 117 = .ok (.getfield 197, 3) := by decide +kernel
theorem dX10_count_120 : decode cX10_count 120 = .ok (.ireturn, 1) := by decide +kernel
theorem dX10_count_121 : decode cX10_count 121 = .ok (.aload_n 0, 1) := by decide +kernel
theorem dX10_count_122 : decode cX10_count 122 = .ok (.getfield 33, 3) := by decide +kernel
theorem dX10_count_125 : decode cX10_count 125 = .ok (.getfield 200, 3) := by decide +kernel
theorem dX10_count_128 : decode cX10_count 128 = .ok (.ireturn, 1) := by decide +kernel
theorem dX10_count_129 : decode cX10_count 129 = .ok (.sipush (-1002), 3) := by decide +kernel
theorem dX10_count_132 : decode cX10_count 132 = .ok (.ireturn, 1) := by decide +kernel
theorem dX10_feed_0 : decode cX10_feed 0 = .ok (.iload_n 1, 1) := by decide +kernel
theorem dX10_feed_1 : decode cX10_feed 1 = .ok (.iconst 1, 1) := by decide +kernel
theorem dX10_feed_2 : decode cX10_feed 2 = .ok (.bipush 8, 2) := by decide +kernel
theorem dX10_feed_4 : decode cX10_feed 4 = .ok (.invokestatic 90, 3) := by decide +kernel
theorem dX10_feed_7 : decode cX10_feed 7 = .ok (.ifCond .ne 7, 3) := by decide +kernel
theorem dX10_feed_10 : decode cX10_feed 10 = .ok (.sipush (-1002), 3) := by decide +kernel
theorem dX10_feed_13 : decode cX10_feed 13 = .ok (.ireturn, 1) := by decide +kernel
theorem dX10_feed_14 : decode cX10_feed 14 = .ok (.aload_n 0, 1) := by decide +kernel
theorem dX10_feed_15 : decode cX10_feed 15 = .ok (.getfield 33, 3) := by decide +kernel
theorem dX10_feed_18 : decode cX10_feed 18 = .ok (.getfield 200, 3) := by decide +kernel
theorem dX10_feed_21 : decode cX10_feed 21 = .ok (.iload_n 1, 1) := by decide +kernel
theorem dX10_feed_22 : decode cX10_feed 22 = .ok (.iadd, 1) := by decide +kernel
theorem dX10_feed_23 : decode cX10_feed 23 = .ok (.sipush 160, 3) := by decide +kernel
theorem dX10_feed_26 : decode cX10_feed 26 = .ok (.if_icmp .le 7, 3) := by decide +kernel
theorem dX10_feed_29 : decode cX10_feed 29 = .ok (.sipush (-1004), 3) := by decide +kernel
theorem dX10_feed_32 : decode cX10_feed 32 = .ok (.ireturn, 1) := by decide +kernel
theorem dX10_feed_33 : decode cX10_feed 33 = .ok (.iload_n 1, 1) := by decide +kernel
theorem dX10_feed_34 : decode cX10_feed 34 = .ok (.iconst 1, 1) := by decide +kernel
theorem dX10_feed_35 : decode cX10_feed 35 = .ok (.isub, 1) := by decide +kernel
theorem dX10_feed_36 : decode cX10_feed 36 = .ok (.istore 4, 2) := by decide +kernel
theorem dX10_feed_38 : decode cX10_feed 38 = .ok (.iload 4, 2) := by decide +kernel
theorem dX10_feed_40 : decode cX10_feed 40 = .ok (.ifCond .lt 28, 3) := by decide +kernel
theorem dX10_feed_43 : decode cX10_feed 43 = .ok (.aload_n 0, 1) := by decide +kernel
theorem dX10_feed_44 : decode cX10_feed 44 = .ok (.getfield 33, 3) := by decide +kernel
theorem dX10_feed_47 : decode cX10_feed 47 = .ok (.lload_n 2, 1) := by decide +kernel
theorem dX10_feed_48 : decode cX10_feed 48 = .ok (.bipush 8, 2) := by decide +kernel
theorem dX10_feed_50 : decode cX10_feed 50 = .ok (.iload 4, 2) := by decide +kernel
theorem dX10_feed_52 : decode cX10_feed 52 = .ok (.imul, 1) := by decide +kernel
theorem dX10_feed_53 : decode cX10_feed 53 = .ok (.lushr, 1) := by decide +kernel
theorem dX10_feed_54 : decode cX10_feed 54 = .ok (.l2i, 1) := by decide +kernel
theorem dX10_feed_55 : decode cX10_feed 55 = .ok (.sipush 255, 3) := by decide +kernel
theorem dX10_feed_58 : decode cX10_feed 58 = .ok (.iand, 1) := by decide +kernel
theorem dX10_feed_59 : decode cX10_feed 59 = .ok (.invokevirtual 203, 3) := by decide +kernel
theorem dX10_feed_62 : decode cX10_feed 62 = .ok (.iinc 4 (-1), 3) := by decide +kernel
theorem dX10_feed_65 : decode cX10_feed 65 = .ok (.goto (-27), 3) := by decide +kernel
theorem dX10_feed_68 : decode cX10_feed 68 = .ok (.aload_n 0, 1) := by decide +kernel
theorem dX10_feed_69 : decode cX10_feed 69 = .ok (.getfield 33, 3) := by decide +kernel
theorem dX10_feed_72 : decode cX10_feed 72 = .ok (.getfield 200, 3) := by decide +kernel
theorem dX10_feed_75 : decode cX10_feed 75 = .ok (.ireturn, 1) := by decide +kernel
theorem dX10_read_0 : decode cX10_read 0 = .ok (.iload_n 1, 1) := by decide +kernel
theorem dX10_read_1 : decode cX10_read 1 = .ok (.invokestatic 104, 3) := by decide +kernel
theorem dX10_read_4 : decode cX10_read 4 = .ok (.ifCond .ne 7, 3) := by decide +kernel
theorem dX10_read_7 : decode cX10_read 7 = .ok (.sipush (-1001), 3) := by decide +kernel
theorem dX10_read_10 : decode cX10_read 10 = .ok (.ireturn, 1) := by decide +kernel
theorem dX10_read_11 : decode cX10_read 11 = .ok (.aload_n 0, 1) := by decide +kernel
theorem dX10_read_12 : decode cX10_read 12 = .ok (.getfield 33, 3) := by decide +kernel
theorem dX10_read_15 : decode cX10_read 15 = .ok (.aload_n 0, 1) := by decide +kernel
theorem dX10_read_16 : decode cX10_read 16 = .ok (.getfield 71, 3) := by decide +kernel
theorem dX10_read_19 : decode cX10_read 19 = .ok (.invokevirtual 207, 3) := by decide +kernel
theorem dX10_read_22 : decode cX10_read 22 = .ok (.aload_n 0, 1) := by decide +kernel
theorem dX10_read_23 : decode cX10_read 23 = .ok (.getfield 33, 3) := by decide +kernel
theorem dX10_read_26 : decode cX10_read 26 = .ok (.iconst 0, 1) := by decide +kernel
theorem dX10_read_27 : decode cX10_read 27 = .ok (.putfield 200, 3) := by decide +kernel
theorem dX10_read_30 : decode cX10_read 30 = .ok (.aload_n 0, 1) := by decide +kernel
theorem dX10_read_31 : decode cX10_read 31 = .ok (.getfield 33, 3) := by decide +kernel
theorem dX10_read_34 : decode cX10_read 34 = .ok (.getfield 211, 3) := by decide +kernel
theorem dX10_read_37 : decode cX10_read 37 = .ok (.ifCond .eq 14, 3) := by decide +kernel
theorem dX10_read_40 : decode cX10_read 40 = .ok (.bipush (-10), 2) := by decide +kernel
theorem dX10_read_42 : decode cX10_read 42 = .ok (.aload_n 0, 1) := by decide +kernel
theorem dX10_read_43 : decode cX10_read 43 = .ok (.getfield 33, 3) := by decide +kernel
theorem dX10_read_46 : decode cX10_read 46 = .ok (.getfield 211, 3) := by decide +kernel
theorem dX10_read_49 : decode cX10_read 49 = .ok (.isub, 1) := by decide +kernel
theorem dX10_read_50 : decode cX10_read 50 = .ok (.ireturn, 1) := by decide +kernel
theorem dX10_read_51 : decode cX10_read 51 = .ok (.aload_n 0, 1) := by decide +kernel
theorem dX10_read_52 : decode cX10_read 52 = .ok (.getfield 39, 3) := by decide +kernel
theorem dX10_read_55 : decode cX10_read 55 = .ok (.iload_n 1, 1) := by decide +kernel
theorem dX10_read_56 : decode cX10_read 56 = .ok (.aaload, 1) := by decide +kernel
theorem dX10_read_57 : decode cX10_read 57 = .ok (.astore_n 2, 1) := by decide +kernel
theorem dX10_read_58 : decode cX10_read 58 = .ok (.aload_n 0, 1) := by decide +kernel
theorem dX10_read_59 : decode cX10_read 59 = .ok (.getfield 39, 3) := by decide +kernel
theorem dX10_read_62 : decode cX10_read 62 = .ok (.iload_n 1, 1) := by decide +kernel
theorem dX10_read_63 : decode cX10_read 63 = .ok (.aload_n 0, 1) := by decide +kernel
theorem dX10_read_64 : decode cX10_read 64 = .ok (.getfield 71, 3) := by decide +kernel
theorem dX10_read_67 : decode cX10_read 67 = .ok (.aastore, 1) := by decide +kernel
theorem dX10_read_68 : decode cX10_read 68 = .ok (.aload_n 0, 1) := by decide +kernel
theorem dX10_read_69 : decode cX10_read 69 = .ok (.aload_n 2, 1) := by decide +kernel
theorem dX10_read_70 : decode cX10_read 70 = .ok (.putfield 71, 3) := by decide +kernel
theorem dX10_read_73 : decode cX10_read 73 = .ok (.aload_n 0, 1) := by decide +kernel
theorem dX10_read_74 : decode cX10_read 74 = .ok (.getfield 39, 3) := by decide +kernel
theorem dX10_read_77 : decode cX10_read 77 = .ok (.iload_n 1, 1) := by decide +kernel
theorem dX10_read_78 : decode cX10_read 78 = .ok (.aaload, 1) := by decide +kernel
theorem dX10_read_79 : decode cX10_read 79 = .ok (.getfield 214, 3) := by decide +kernel
theorem dX10_read_82 : decode cX10_read 82 = .ok (.ireturn, 1) := by decide +kernel
theorem dX10_fault_0 : decode cX10_fault 0 = .ok (.aload_n 0, 1) := by decide +kernel
theorem dX10_fault_1 : decode cX10_fault 1 = .ok (.getfield 33, 3) := by decide +kernel
theorem dX10_fault_4 : decode cX10_fault 4 = .ok (.getfield 217, 3) := by decide +kernel
theorem dX10_fault_7 : decode cX10_fault 7 = .ok (.ireturn, 1) := by decide +kernel
theorem dX10_barNow_0 : decode cX10_barNow 0 = .ok (.aload_n 0, 1) := by decide +kernel
theorem dX10_barNow_1 : decode cX10_barNow 1 = .ok (.getfield 12, 3) := by decide +kernel
theorem dX10_barNow_4 : decode cX10_barNow 4 = .ok (.iload_n 1, 1) := by decide +kernel
theorem dX10_barNow_5 : decode cX10_barNow 5 = .ok (.aload_n 0, 1) := by decide +kernel
theorem dX10_barNow_6 : decode cX10_barNow 6 = .ok (.getfield 110, 3) := by decide +kernel
theorem dX10_barNow_9 : decode cX10_barNow 9 = .ok (.iconst 0, 1) := by decide +kernel
theorem dX10_barNow_10 : decode cX10_barNow 10 = .ok (.invokevirtual 120, 3) := by decide +kernel
theorem dX10_barNow_13 : decode cX10_barNow 13 = .ok (.aload_n 0, 1) := by decide +kernel
theorem dX10_barNow_14 : decode cX10_barNow 14 = .ok (.getfield 46, 3) := by decide +kernel
theorem dX10_barNow_17 : decode cX10_barNow 17 = .ok (.aload_n 0, 1) := by decide +kernel
theorem dX10_barNow_18 : decode cX10_barNow 18 = .ok (.getfield 39, 3) := by decide +kernel
theorem dX10_barNow_21 : decode cX10_barNow 21 = .ok (.iload_n 1, 1) := by decide +kernel
theorem dX10_barNow_22 : decode cX10_barNow 22 = .ok (.aaload, 1) := by decide +kernel
theorem dX10_barNow_23 : decode cX10_barNow 23 = .ok (.aload_n 0, 1) := by decide +kernel
theorem dX10_barNow_24 : decode cX10_barNow 24 = .ok (.getfield 26, 3) := by decide +kernel
theorem dX10_barNow_27 : decode cX10_barNow 27 = .ok (.aload_n 0, 1) := by decide +kernel
theorem dX10_barNow_28 : decode cX10_barNow 28 = .ok (.getfield 110, 3) := by decide +kernel
theorem dX10_barNow_31 : decode cX10_barNow 31 = .ok (.aload_n 0, 1) := by decide +kernel
theorem dX10_barNow_32 : decode cX10_barNow 32 = .ok (.getfield 12, 3) := by decide +kernel
theorem dX10_barNow_35 : decode cX10_barNow 35 = .ok (.getfield 124, 3) := by decide +kernel
theorem dX10_barNow_38 : decode cX10_barNow 38 = .ok (.iconst 0, 1) := by decide +kernel
theorem dX10_barNow_39 : decode cX10_barNow 39 = .ok (.aaload, 1) := by decide +kernel
theorem dX10_barNow_40 : decode cX10_barNow 40 = .ok (.invokevirtual 227, 3) := by decide +kernel
theorem dX10_barNow_43 : decode cX10_barNow 43 = .ok (.aload_n 0, 1) := by decide +kernel
theorem dX10_barNow_44 : decode cX10_barNow 44 = .ok (.getfield 26, 3) := by decide +kernel
theorem dX10_barNow_47 : decode cX10_barNow 47 = .ok (.iload_n 1, 1) := by decide +kernel
theorem dX10_barNow_48 : decode cX10_barNow 48 = .ok (.aload_n 0, 1) := by decide +kernel
theorem dX10_barNow_49 : decode cX10_barNow 49 = .ok (.getfield 66, 3) := by decide +kernel
theorem dX10_barNow_52 : decode cX10_barNow 52 = .ok (.invokevirtual 231, 3) := by decide +kernel
theorem dX10_barNow_55 : decode cX10_barNow 55 = .ok (.aload_n 0, 1) := by decide +kernel
theorem dX10_barNow_56 : decode cX10_barNow 56 = .ok (.getfield 46, 3) := by decide +kernel
theorem dX10_barNow_59 : decode cX10_barNow 59 = .ok (.iload_n 2, 1) := by decide +kernel
theorem dX10_barNow_60 : decode cX10_barNow 60 = .ok (.iload_n 3, 1) := by decide +kernel
theorem dX10_barNow_61 : decode cX10_barNow 61 = .ok (.aload_n 0, 1) := by decide +kernel
theorem dX10_barNow_62 : decode cX10_barNow 62 = .ok (.getfield 39, 3) := by decide +kernel
theorem dX10_barNow_65 : decode cX10_barNow 65 = .ok (.iload_n 1, 1) := by decide +kernel
theorem dX10_barNow_66 : decode cX10_barNow 66 = .ok (.aaload, 1) := by decide +kernel
theorem dX10_barNow_67 : decode cX10_barNow 67 = .ok (.aload_n 0, 1) := by decide +kernel
theorem dX10_barNow_68 : decode cX10_barNow 68 = .ok (.getfield 66, 3) := by decide +kernel
theorem dX10_barNow_71 : decode cX10_barNow 71 = .ok (.aload_n 0, 1) := by decide +kernel
theorem dX10_barNow_72 : decode cX10_barNow 72 = .ok (.getfield 110, 3) := by decide +kernel
theorem dX10_barNow_75 : decode cX10_barNow 75 = .ok (.invokevirtual 235, 3) := by decide +kernel
theorem dX10_barNow_78 : decode cX10_barNow 78 = .ok (.invokevirtual 239, 3) := by decide +kernel
theorem dX10_barNow_81 : decode cX10_barNow 81 = .ok (.ireturn, 1) := by decide +kernel
theorem dX10_barred_0 : decode cX10_barred 0 = .ok (.iload_n 1, 1) := by decide +kernel
theorem dX10_barred_1 : decode cX10_barred 1 = .ok (.invokestatic 104, 3) := by decide +kernel
theorem dX10_barred_4 : decode cX10_barred 4 = .ok (.ifCond .eq 14, 3) := by decide +kernel
theorem dX10_barred_7 : decode cX10_barred 7 = .ok (.aload_n 0, 1) := by decide +kernel
theorem dX10_barred_8 : decode cX10_barred 8 = .ok (.getfield 26, 3) := by decide +kernel
theorem dX10_barred_11 : decode cX10_barred 11 = .ok (.iload_n 2, 1) := by decide +kernel
theorem dX10_barred_12 : decode cX10_barred 12 = .ok (.invokevirtual 220, 3) := by decide +kernel
theorem dX10_barred_15 : decode cX10_barred 15 = .ok (.ifCond .ne 7, 3) := by decide +kernel
theorem dX10_barred_18 : decode cX10_barred 18 = .ok (.sipush (-1001), 3) := by decide +kernel
theorem dX10_barred_21 : decode cX10_barred 21 = .ok (.ireturn, 1) := by decide +kernel
theorem dX10_barred_22 : decode cX10_barred 22 = .ok (.iload_n 3, 1) := by decide +kernel
theorem dX10_barred_23 : decode cX10_barred 23 = .ok (.invokestatic 181, 3) := by decide +kernel
theorem dX10_barred_26 : decode cX10_barred 26 = .ok (.ifCond .ne 7, 3) := by decide +kernel
theorem dX10_barred_29 : decode cX10_barred 29 = .ok (.sipush (-1002), 3) := by decide +kernel
theorem dX10_barred_32 : decode cX10_barred 32 = .ok (.ireturn, 1) := by decide +kernel
theorem dX10_barred_33 : decode cX10_barred 33 = .ok (.aload_n 0, 1) := by decide +kernel
theorem dX10_barred_34 : decode cX10_barred 34 = .ok (.iload_n 1, 1) := by decide +kernel
theorem dX10_barred_35 : decode cX10_barred 35 = .ok (.iload_n 2, 1) := by decide +kernel
theorem dX10_barred_36 : decode cX10_barred 36 = .ok (.iload_n 3, 1) := by decide +kernel
theorem dX10_barred_37 : decode cX10_barred 37 = .ok (.invokevirtual 223, 3) := by decide +kernel
theorem dX10_barred_40 : decode cX10_barred 40 = .ok (.ireturn, 1) := by decide +kernel
theorem dX10_plan_0 : decode cX10_plan 0 = .ok (.iload_n 1, 1) := by decide +kernel
theorem dX10_plan_1 : decode cX10_plan 1 = .ok (.invokestatic 104, 3) := by decide +kernel
theorem dX10_plan_4 : decode cX10_plan 4 = .ok (.ifCond .ne 7, 3) := by decide +kernel
theorem dX10_plan_7 : decode cX10_plan 7 = .ok (.sipush (-1001), 3) := by decide +kernel
theorem dX10_plan_10 : decode cX10_plan 10 = .ok (.ireturn, 1) := by decide +kernel
theorem dX10_plan_11 : decode cX10_plan 11 = .ok (.iload_n 2, 1) := by decide +kernel
theorem dX10_plan_12 : decode cX10_plan 12 = .ok (.iconst 1, 1) := by decide +kernel
theorem dX10_plan_13 : decode cX10_plan 13 = .ok (.bipush 6, 2) := by decide +kernel
theorem dX10_plan_15 : decode cX10_plan 15 = .ok (.invokestatic 90, 3) := by decide +kernel
theorem dX10_plan_18 : decode cX10_plan 18 = .ok (.ifCond .eq 24, 3) := by decide +kernel
theorem dX10_plan_21 : decode cX10_plan 21 = .ok (.iload_n 3, 1) := by decide +kernel
theorem dX10_plan_22 : decode cX10_plan 22 = .ok (.iconst (-1), 1) := by decide +kernel
theorem dX10_plan_23 : decode cX10_plan 23 = .ok (.iload_n 2, 1) := by decide +kernel
theorem dX10_plan_24 : decode cX10_plan 24 = .ok (.iconst 1, 1) := by decide +kernel
theorem dX10_plan_25 : decode cX10_plan 25 = .ok (.isub, 1) := by decide +kernel
theorem dX10_plan_26 : decode cX10_plan 26 = .ok (.invokestatic 90, 3) := by decide +kernel
theorem dX10_plan_29 : decode cX10_plan 29 = .ok (.ifCond .eq 13, 3) := by decide +kernel
theorem dX10_plan_32 : decode cX10_plan 32 = .ok (.iload 4, 2) := by decide +kernel
theorem dX10_plan_34 : decode cX10_plan 34 = .ok (.iconst 0, 1) := by decide +kernel
theorem dX10_plan_35 : decode cX10_plan 35 = .ok (.iconst 1, 1) := by decide +kernel
theorem dX10_plan_36 : decode cX10_plan 36 = .ok (.invokestatic 90, 3) := by decide +kernel
theorem dX10_plan_39 : decode cX10_plan 39 = .ok (.ifCond .ne 7, 3) := by decide +kernel
theorem dX10_plan_42 : decode cX10_plan 42 = .ok (.sipush (-1002), 3) := by decide +kernel
theorem dX10_plan_45 : decode cX10_plan 45 = .ok (.ireturn, 1) := by decide +kernel
theorem dX10_plan_46 : decode cX10_plan 46 = .ok (.aload_n 0, 1) := by decide +kernel
theorem dX10_plan_47 : decode cX10_plan 47 = .ok (.getfield 55, 3) := by decide +kernel
theorem dX10_plan_50 : decode cX10_plan 50 = .ok (.iload_n 1, 1) := by decide +kernel
theorem dX10_plan_51 : decode cX10_plan 51 = .ok (.iload_n 2, 1) := by decide +kernel
theorem dX10_plan_52 : decode cX10_plan 52 = .ok (.aload_n 0, 1) := by decide +kernel
theorem dX10_plan_53 : decode cX10_plan 53 = .ok (.getfield 110, 3) := by decide +kernel
theorem dX10_plan_56 : decode cX10_plan 56 = .ok (.aload_n 0, 1) := by decide +kernel
theorem dX10_plan_57 : decode cX10_plan 57 = .ok (.getfield 39, 3) := by decide +kernel
theorem dX10_plan_60 : decode cX10_plan 60 = .ok (.iload_n 1, 1) := by decide +kernel
theorem dX10_plan_61 : decode cX10_plan 61 = .ok (.aaload, 1) := by decide +kernel
theorem dX10_plan_62 : decode cX10_plan 62 = .ok (.invokevirtual 243, 3) := by decide +kernel
theorem dX10_plan_65 : decode cX10_plan 65 = .ok (.iload_n 3, 1) := by decide +kernel
theorem dX10_plan_66 : decode cX10_plan 66 = .ok (.iconst (-1), 1) := by decide +kernel
theorem dX10_plan_67 : decode cX10_plan 67 = .ok (.if_icmp .ne 11, 3) := by decide +kernel
theorem dX10_plan_70 : decode cX10_plan 70 = .ok (.aload_n 0, 1) := by decide +kernel
theorem dX10_plan_71 : decode cX10_plan 71 = .ok (.getfield 55, 3) := by decide +kernel
theorem dX10_plan_74 : decode cX10_plan 74 = .ok (.getfield 247, 3) := by decide +kernel
theorem dX10_plan_77 : decode cX10_plan 77 = .ok (.ireturn, 1) := by decide +kernel
theorem dX10_plan_78 : decode cX10_plan 78 = .ok (.iload 4, 2) := by decide +kernel
theorem dX10_plan_80 : decode cX10_plan 80 = .ok (.ifCond .ne 15, 3) := by decide +kernel
theorem dX10_plan_83 : decode cX10_plan 83 = .ok (.aload_n 0, 1) := by decide +kernel
theorem dX10_plan_84 : decode cX10_plan 84 = .ok (.getfield 55, 3) := by decide +kernel
theorem dX10_plan_87 : decode cX10_plan 87 = .ok (.getfield 250, 3) := by decide +kernel
theorem dX10_plan_90 : decode cX10_plan 90 = .ok (.iload_n 3, 1) := by decide +kernel
theorem dX10_plan_91 : decode cX10_plan 91 = .ok (.iaload, 1) := by decide +kernel
theorem dX10_plan_92 : decode cX10_plan 92 = .ok (.goto 12, 3) := by decide +kernel
theorem dX10_plan_95 : decode cX10_plan 95 = .ok (.aload_n 0, 1) := by decide +kernel
theorem dX10_plan_96 : decode cX10_plan 96 = .ok (.getfield 55, 3) := by decide +kernel
theorem dX10_plan_99 : decode cX10_plan 99 = .ok (.getfield 253, 3) := by decide +kernel
theorem dX10_plan_102 : decode cX10_plan 102 = .ok (.iload_n 3, 1) := by decide +kernel
theorem dX10_plan_103 : decode cX10_plan 103 = .ok (.iaload, 1) := by decide +kernel
theorem dX10_plan_104 : decode cX10_plan 104 = .ok (.ireturn, 1) := by decide +kernel
theorem dX10_say_0 : decode cX10_say 0 = .ok (.iload_n 1, 1) := by decide +kernel
theorem dX10_say_1 : decode cX10_say 1 = .ok (.invokestatic 104, 3) := by decide +kernel
theorem dX10_say_4 : decode cX10_say 4 = .ok (.ifCond .eq 14, 3) := by decide +kernel
theorem dX10_say_7 : decode cX10_say 7 = .ok (.aload_n 0, 1) := by decide +kernel
theorem dX10_say_8 : decode cX10_say 8 = .ok (.getfield 26, 3) := by decide +kernel
theorem dX10_say_11 : decode cX10_say 11 = .ok (.iload_n 2, 1) := by decide +kernel
theorem dX10_say_12 : decode cX10_say 12 = .ok (.invokevirtual 220, 3) := by decide +kernel
theorem dX10_say_15 : decode cX10_say 15 = .ok (.ifCond .ne 7, 3) := by decide +kernel
theorem dX10_say_18 : decode cX10_say 18 = .ok (.sipush (-1001), 3) := by decide +kernel
theorem dX10_say_21 : decode cX10_say 21 = .ok (.ireturn, 1) := by decide +kernel
theorem dX10_say_22 : decode cX10_say 22 = .ok (.iload_n 3, 1) := by decide +kernel
theorem dX10_say_23 : decode cX10_say 23 = .ok (.invokestatic 181, 3) := by decide +kernel
theorem dX10_say_26 : decode cX10_say 26 = .ok (.ifCond .ne 7, 3) := by decide +kernel
theorem dX10_say_29 : decode cX10_say 29 = .ok (.sipush (-1002), 3) := by decide +kernel
theorem dX10_say_32 : decode cX10_say 32 = .ok (.ireturn, 1) := by decide +kernel
theorem dX10_say_33 : decode cX10_say 33 = .ok (.aload_n 0, 1) := by decide +kernel
theorem dX10_say_34 : decode cX10_say 34 = .ok (.iload_n 1, 1) := by decide +kernel
theorem dX10_say_35 : decode cX10_say 35 = .ok (.iload_n 2, 1) := by decide +kernel
theorem dX10_say_36 : decode cX10_say 36 = .ok (.iload_n 3, 1) := by decide +kernel
theorem dX10_say_37 : decode cX10_say 37 = .ok (.invokevirtual 223, 3) := by decide +kernel
theorem dX10_say_40 : decode cX10_say 40 = .ok (.ifCond .ne 15, 3) := by decide +kernel
theorem dX10_say_43 : decode cX10_say 43 = .ok (.aload_n 0, 1) := by decide +kernel
theorem dX10_say_44 : decode cX10_say 44 = .ok (.getfield 26, 3) := by decide +kernel
theorem dX10_say_47 : decode cX10_say 47 = .ok (.iload_n 2, 1) := by decide +kernel
theorem dX10_say_48 : decode cX10_say 48 = .ok (.iload_n 1, 1) := by decide +kernel
theorem dX10_say_49 : decode cX10_say 49 = .ok (.invokevirtual 256, 3) := by decide +kernel
theorem dX10_say_52 : decode cX10_say 52 = .ok (.ifCond .ne 7, 3) := by decide +kernel
theorem dX10_say_55 : decode cX10_say 55 = .ok (.sipush (-1003), 3) := by decide +kernel
theorem dX10_say_58 : decode cX10_say 58 = .ok (.ireturn, 1) := by decide +kernel
theorem dX10_say_59 : decode cX10_say 59 = .ok (.aload_n 0, 1) := by decide +kernel
theorem dX10_say_60 : decode cX10_say 60 = .ok (.getfield 26, 3) := by decide +kernel
theorem dX10_say_63 : decode cX10_say 63 = .ok (.getfield 197, 3) := by decide +kernel
theorem dX10_say_66 : decode cX10_say 66 = .ok (.bipush 40, 2) := by decide +kernel
theorem dX10_say_68 : decode cX10_say 68 = .ok (.if_icmp .lt 7, 3) := by decide +kernel
theorem dX10_say_71 : decode cX10_say 71 = .ok (.sipush (-1004), 3) := by decide +kernel
theorem dX10_say_74 : decode cX10_say 74 = .ok (.ireturn, 1) := by decide +kernel
theorem dX10_say_75 : decode cX10_say 75 = .ok (.aload_n 0, 1) := by decide +kernel
theorem dX10_say_76 : decode cX10_say 76 = .ok (.getfield 26, 3) := by decide +kernel
theorem dX10_say_79 : decode cX10_say 79 = .ok (.getfield 260, 3) := by decide +kernel
theorem dX10_say_82 : decode cX10_say 82 = .ok (.aload_n 0, 1) := by decide +kernel
theorem dX10_say_83 : decode cX10_say 83 = .ok (.getfield 26, 3) := by decide +kernel
theorem dX10_say_86 : decode cX10_say 86 = .ok (.getfield 197, 3) := by decide +kernel
theorem dX10_say_89 : decode cX10_say 89 = .ok (.aaload, 1) := by decide +kernel
theorem dX10_say_90 : decode cX10_say 90 = .ok (.astore 4, 2) := by decide +kernel
theorem dX10_say_92 : decode cX10_say 92 = .ok (.aload 4, 2) := by decide +kernel
theorem dX10_say_94 : decode cX10_say 94 = .ok (.iload_n 1, 1) := by decide +kernel
theorem dX10_say_95 : decode cX10_say 95 = .ok (.putfield 264, 3) := by decide +kernel
theorem dX10_say_98 : decode cX10_say 98 = .ok (.aload 4, 2) := by decide +kernel
theorem dX10_say_100 : decode cX10_say 100 = .ok (.iload_n 2, 1) := by decide +kernel
theorem dX10_say_101 : decode cX10_say 101 = .ok (.putfield 269, 3) := by decide +kernel
theorem dX10_say_104 : decode cX10_say 104 = .ok (.aload 4, 2) := by decide +kernel
theorem dX10_say_106 : decode cX10_say 106 = .ok (.iload_n 3, 1) := by decide +kernel
theorem dX10_say_107 : decode cX10_say 107 = .ok (.putfield 272, 3) := by decide +kernel
theorem dX10_say_110 : decode cX10_say 110 = .ok (.aload 4, 2) := by decide +kernel
theorem dX10_say_112 : decode cX10_say 112 = .ok (.aload_n 0, 1) := by decide +kernel
theorem dX10_say_113 : decode cX10_say 113 = .ok (.getfield 110, 3) := by decide +kernel
theorem dX10_say_116 : decode cX10_say 116 = .ok (.putfield 275, 3) := by decide +kernel
theorem dX10_say_119 : decode cX10_say 119 = .ok (.aload_n 0, 1) := by decide +kernel
theorem dX10_say_120 : decode cX10_say 120 = .ok (.getfield 26, 3) := by decide +kernel
theorem dX10_say_123 : decode cX10_say 123 = .ok (.dup, 1) := by decide +kernel
theorem dX10_say_124 : decode cX10_say 124 = .ok (.getfield 197, 3) := by decide +kernel
theorem dX10_say_127 : decode cX10_say 127 = .ok (.iconst 1, 1) := by decide +kernel
theorem dX10_say_128 : decode cX10_say 128 = .ok (.iadd, 1) := by decide +kernel
theorem dX10_say_129 : decode cX10_say 129 = .ok (.putfield 197, 3) := by decide +kernel
theorem dX10_say_132 : decode cX10_say 132 = .ok (.aload_n 0, 1) := by decide +kernel
theorem dX10_say_133 : decode cX10_say 133 = .ok (.getfield 26, 3) := by decide +kernel
theorem dX10_say_136 : decode cX10_say 136 = .ok (.getfield 197, 3) := by decide +kernel
theorem dX10_say_139 : decode cX10_say 139 = .ok (.iconst 1, 1) := by decide +kernel
theorem dX10_say_140 : decode cX10_say 140 = .ok (.isub, 1) := by decide +kernel
theorem dX10_say_141 : decode cX10_say 141 = .ok (.ireturn, 1) := by decide +kernel
theorem dX10_came_0 : decode cX10_came 0 = .ok (.aload_n 0, 1) := by decide +kernel
theorem dX10_came_1 : decode cX10_came 1 = .ok (.getfield 26, 3) := by decide +kernel
theorem dX10_came_4 : decode cX10_came 4 = .ok (.iload_n 1, 1) := by decide +kernel
theorem dX10_came_5 : decode cX10_came 5 = .ok (.invokevirtual 276, 3) := by decide +kernel
theorem dX10_came_8 : decode cX10_came 8 = .ok (.ifCond .ne 7, 3) := by decide +kernel
theorem dX10_came_11 : decode cX10_came 11 = .ok (.sipush (-1001), 3) := by decide +kernel
theorem dX10_came_14 : decode cX10_came 14 = .ok (.ireturn, 1) := by decide +kernel
theorem dX10_came_15 : decode cX10_came 15 = .ok (.iload_n 2, 1) := by decide +kernel
theorem dX10_came_16 : decode cX10_came 16 = .ok (.iconst 1, 1) := by decide +kernel
theorem dX10_came_17 : decode cX10_came 17 = .ok (.iconst 3, 1) := by decide +kernel
theorem dX10_came_18 : decode cX10_came 18 = .ok (.invokestatic 90, 3) := by decide +kernel
theorem dX10_came_21 : decode cX10_came 21 = .ok (.ifCond .ne 7, 3) := by decide +kernel
theorem dX10_came_24 : decode cX10_came 24 = .ok (.sipush (-1002), 3) := by decide +kernel
theorem dX10_came_27 : decode cX10_came 27 = .ok (.ireturn, 1) := by decide +kernel
theorem dX10_came_28 : decode cX10_came 28 = .ok (.aload_n 0, 1) := by decide +kernel
theorem dX10_came_29 : decode cX10_came 29 = .ok (.getfield 26, 3) := by decide +kernel
theorem dX10_came_32 : decode cX10_came 32 = .ok (.getfield 260, 3) := by decide +kernel
theorem dX10_came_35 : decode cX10_came 35 = .ok (.iload_n 1, 1) := by decide +kernel
theorem dX10_came_36 : decode cX10_came 36 = .ok (.aaload, 1) := by decide +kernel
theorem dX10_came_37 : decode cX10_came 37 = .ok (.getfield 279, 3) := by decide +kernel
theorem dX10_came_40 : decode cX10_came 40 = .ok (.istore_n 3, 1) := by decide +kernel
theorem dX10_came_41 : decode cX10_came 41 = .ok (.iload_n 3, 1) := by decide +kernel
theorem dX10_came_42 : decode cX10_came 42 = .ok (.ifCond .eq 7, 3) := by decide +kernel
theorem dX10_came_45 : decode cX10_came 45 = .ok (.sipush (-1003), 3) := by decide +kernel
theorem dX10_came_48 : decode cX10_came 48 = .ok (.ireturn, 1) := by decide +kernel
theorem dX10_came_49 : decode cX10_came 49 = .ok (.aload_n 0, 1) := by decide +kernel
theorem dX10_came_50 : decode cX10_came 50 = .ok (.getfield 26, 3) := by decide +kernel
theorem dX10_came_53 : decode cX10_came 53 = .ok (.getfield 260, 3) := by decide +kernel
theorem dX10_came_56 : decode cX10_came 56 = .ok (.iload_n 1, 1) := by decide +kernel
theorem dX10_came_57 : decode cX10_came 57 = .ok (.aaload, 1) := by decide +kernel
theorem dX10_came_58 : decode cX10_came 58 = .ok (.iload_n 2, 1) := by decide +kernel
theorem dX10_came_59 : decode cX10_came 59 = .ok (.putfield 279, 3) := by decide +kernel
theorem dX10_came_62 : decode cX10_came 62 = .ok (.iload_n 3, 1) := by decide +kernel
theorem dX10_came_63 : decode cX10_came 63 = .ok (.ireturn, 1) := by decide +kernel
theorem dX10_saying_0 : decode cX10_saying 0 = .ok (.aload_n 0, 1) := by decide +kernel
theorem dX10_saying_1 : decode cX10_saying 1 = .ok (.getfield 26, 3) := by decide +kernel
theorem dX10_saying_4 : decode cX10_saying 4 = .ok (.iload_n 1, 1) := by decide +kernel
theorem dX10_saying_5 : decode cX10_saying 5 = .ok (.invokevirtual 276, 3) := by decide +kernel
theorem dX10_saying_8 : decode cX10_saying 8 = .ok (.ifCond .ne 7, 3) := by decide +kernel
theorem dX10_saying_11 : decode cX10_saying 11 = .ok (.sipush (-1001), 3) := by decide +kernel
theorem dX10_saying_14 : decode cX10_saying 14 = .ok (.ireturn, 1) := by decide +kernel
theorem dX10_saying_15 : decode cX10_saying 15 = .ok (.aload_n 0, 1) := by decide +kernel
theorem dX10_saying_16 : decode cX10_saying 16 = .ok (.getfield 26, 3) := by decide +kernel
theorem dX10_saying_19 : decode cX10_saying 19 = .ok (.getfield 260, 3) := by decide +kernel
theorem dX10_saying_22 : decode cX10_saying 22 = .ok (.iload_n 1, 1) := by decide +kernel
theorem dX10_saying_23 : decode cX10_saying 23 = .ok (.aaload, 1) := by decide +kernel
theorem dX10_saying_24 : decode cX10_saying 24 = .ok (.astore_n 3, 1) := by decide +kernel
theorem dX10_saying_25 : decode cX10_saying 25 = .ok (.iload_n 2, 1) := by decide +kernel
theorem dX10_saying_26 : decode cX10_saying 26 = .ok (.tableswitch 76 0 5 #[38, 43, 48, 53, 58, 63], 38) := by decide +kernel
theorem dX10_saying_64 : decode cX10_saying 64 = .ok (.aload_n 3, 1) := by decide +kernel
theorem dX10_saying_65 : decode cX10_saying 65 = .ok (.getfield 264, 3) := by decide +kernel
theorem dX10_saying_68 : decode cX10_saying 68 = .ok (.ireturn, 1) := by decide +kernel
theorem dX10_saying_69 : decode cX10_saying 69 = .ok (.aload_n 3, 1) := by decide +kernel
theorem dX10_saying_70 : decode cX10_saying 70 = .ok (.getfield 269, 3) := by decide +kernel
theorem dX10_saying_73 : decode cX10_saying 73 = .ok (.ireturn, 1) := by decide +kernel
theorem dX10_saying_74 : decode cX10_saying 74 = .ok (.aload_n 3, 1) := by decide +kernel
theorem dX10_saying_75 : decode cX10_saying 75 = .ok (.getfield 272, 3) := by decide +kernel
theorem dX10_saying_78 : decode cX10_saying 78 = .ok (.ireturn, 1) := by decide +kernel
theorem dX10_saying_79 : decode cX10_saying 79 = .ok (.aload_n 3, 1) := by decide +kernel
theorem dX10_saying_80 : decode cX10_saying 80 = .ok (.getfield 275, 3) := by decide +kernel
theorem dX10_saying_83 : decode cX10_saying 83 = .ok (.ireturn, 1) := by decide +kernel
theorem dX10_saying_84 : decode cX10_saying 84 = .ok (.aload_n 3, 1) := by decide +kernel
theorem dX10_saying_85 : decode cX10_saying 85 = .ok (.getfield 279, 3) := by decide +kernel
theorem dX10_saying_88 : decode cX10_saying 88 = .ok (.ireturn, 1) := by decide +kernel
theorem dX10_saying_89 : decode cX10_saying 89 = .ok (.aload_n 3, 1) := by decide +kernel
theorem dX10_saying_90 : decode cX10_saying 90 = .ok (.getfield 269, 3) := by decide +kernel
theorem dX10_saying_93 : decode cX10_saying 93 = .ok (.aload_n 0, 1) := by decide +kernel
theorem dX10_saying_94 : decode cX10_saying 94 = .ok (.getfield 26, 3) := by decide +kernel
theorem dX10_saying_97 : decode cX10_saying 97 = .ok (.invokevirtual 282, 3) := by decide +kernel
theorem dX10_saying_100 : decode cX10_saying 100 = .ok (.iand, 1) := by decide +kernel
theorem dX10_saying_101 : decode cX10_saying 101 = .ok (.ireturn, 1) := by decide +kernel
theorem dX10_saying_102 : decode cX10_saying 102 = .ok (.sipush (-1002), 3) := by decide +kernel
theorem dX10_saying_105 : decode cX10_saying 105 = .ok (.ireturn, 1) := by decide +kernel
theorem dX10_choose_0 : decode cX10_choose 0 = .ok (.iload_n 1, 1) := by decide +kernel
theorem dX10_choose_1 : decode cX10_choose 1 = .ok (.ifCond .lt 8, 3) := by decide +kernel
theorem dX10_choose_4 : decode cX10_choose 4 = .ok (.iload_n 1, 1) := by decide +kernel
theorem dX10_choose_5 : decode cX10_choose 5 = .ok (.iload_n 0, 1) := by decide +kernel
theorem dX10_choose_6 : decode cX10_choose 6 = .ok (.if_icmp .le 5, 3) := by decide +kernel
theorem dX10_choose_9 : decode cX10_choose 9 = .ok (.lconst 0, 1) := by decide +kernel
theorem dX10_choose_10 : decode cX10_choose 10 = .ok (.lreturn, 1) := by decide +kernel
theorem dX10_choose_11 : decode cX10_choose 11 = .ok (.lconst 1, 1) := by decide +kernel
theorem dX10_choose_12 : decode cX10_choose 12 = .ok (.lstore_n 2, 1) := by decide +kernel
theorem dX10_choose_13 : decode cX10_choose 13 = .ok (.iconst 1, 1) := by decide +kernel
theorem dX10_choose_14 : decode cX10_choose 14 = .ok (.istore 4, 2) := by decide +kernel
theorem dX10_choose_16 : decode cX10_choose 16 = .ok (.iload 4, 2) := by decide +kernel
theorem dX10_choose_18 : decode cX10_choose 18 = .ok (.iload_n 1, 1) := by decide +kernel
theorem dX10_choose_19 : decode cX10_choose 19 = .ok (.if_icmp .gt 23, 3) := by decide +kernel
theorem dX10_choose_22 : decode cX10_choose 22 = .ok (.lload_n 2, 1) := by decide +kernel
theorem dX10_choose_23 : decode cX10_choose 23 = .ok (.iload_n 0, 1) := by decide +kernel
theorem dX10_choose_24 : decode cX10_choose 24 = .ok (.iload_n 1, 1) := by decide +kernel
theorem dX10_choose_25 : decode cX10_choose 25 = .ok (.isub, 1) := by decide +kernel
theorem dX10_choose_26 : decode cX10_choose 26 = .ok (.iload 4, 2) := by decide +kernel
theorem dX10_choose_28 : decode cX10_choose 28 = .ok (.iadd, 1) := by decide +kernel
theorem dX10_choose_29 : decode cX10_choose 29 = .ok (.i2l, 1) := by decide +kernel
theorem dX10_choose_30 : decode cX10_choose 30 = .ok (.lmul, 1) := by decide +kernel
theorem dX10_choose_31 : decode cX10_choose 31 = .ok (.iload 4, 2) := by decide +kernel
theorem dX10_choose_33 : decode cX10_choose 33 = .ok (.i2l, 1) := by decide +kernel
theorem dX10_choose_34 : decode cX10_choose 34 = .ok (.ldiv, 1) := by decide +kernel
theorem dX10_choose_35 : decode cX10_choose 35 = .ok (.lstore_n 2, 1) := by decide +kernel
theorem dX10_choose_36 : decode cX10_choose 36 = .ok (.iinc 4 1, 3) := by decide +kernel
theorem dX10_choose_39 : decode cX10_choose 39 = .ok (.goto (-23), 3) := by decide +kernel
theorem dX10_choose_42 : decode cX10_choose 42 = .ok (.lload_n 2, 1) := by decide +kernel
theorem dX10_choose_43 : decode cX10_choose 43 = .ok (.lreturn, 1) := by decide +kernel
theorem dX10_commonPart_0 : decode cX10_commonPart 0 = .ok (.lload_n 0, 1) := by decide +kernel
theorem dX10_commonPart_1 : decode cX10_commonPart 1 = .ok (.lstore 4, 2) := by decide +kernel
theorem dX10_commonPart_3 : decode cX10_commonPart 3 = .ok (.lload_n 2, 1) := by decide +kernel
theorem dX10_commonPart_4 : decode cX10_commonPart 4 = .ok (.lstore 6, 2) := by decide +kernel
theorem dX10_commonPart_6 : decode cX10_commonPart 6 = .ok (.iconst 0, 1) := by decide +kernel
theorem dX10_commonPart_7 : decode cX10_commonPart 7 = .ok (.istore 8, 2) := by decide +kernel
theorem dX10_commonPart_9 : decode cX10_commonPart 9 = .ok (.iload 8, 2) := by decide +kernel
theorem dX10_commonPart_11 : decode cX10_commonPart 11 = .ok (.sipush 200, 3) := by decide +kernel
theorem dX10_commonPart_14 : decode cX10_commonPart 14 = .ok (.if_icmp .ge 31, 3) := by decide +kernel
theorem dX10_commonPart_17 : decode cX10_commonPart 17 = .ok (.lload 6, 2) := by decide +kernel
theorem dX10_commonPart_19 : decode cX10_commonPart 19 = .ok (.lconst 0, 1) := by decide +kernel
theorem dX10_commonPart_20 : decode cX10_commonPart 20 = .ok (.lcmp, 1) := by decide +kernel
theorem dX10_commonPart_21 : decode cX10_commonPart 21 = .ok (.ifCond .eq 24, 3) := by decide +kernel
theorem dX10_commonPart_24 : decode cX10_commonPart 24 = .ok (.lload 4, 2) := by decide +kernel
theorem dX10_commonPart_26 : decode cX10_commonPart 26 = .ok (.lload 6, 2) := by decide +kernel
theorem dX10_commonPart_28 : decode cX10_commonPart 28 = .ok (.lrem, 1) := by decide +kernel
theorem dX10_commonPart_29 : decode cX10_commonPart 29 = .ok (.lstore 9, 2) := by decide +kernel
theorem dX10_commonPart_31 : decode cX10_commonPart 31 = .ok (.lload 6, 2) := by decide +kernel
theorem dX10_commonPart_33 : decode cX10_commonPart 33 = .ok (.lstore 4, 2) := by decide +kernel
theorem dX10_commonPart_35 : decode cX10_commonPart 35 = .ok (.lload 9, 2) := by decide +kernel
theorem dX10_commonPart_37 : decode cX10_commonPart 37 = .ok (.lstore 6, 2) := by decide +kernel
theorem dX10_commonPart_39 : decode cX10_commonPart 39 = .ok (.iinc 8 1, 3) := by decide +kernel
theorem dX10_commonPart_42 : decode cX10_commonPart 42 = .ok (.goto (-33), 3) := by decide +kernel
theorem dX10_commonPart_45 : decode cX10_commonPart 45 = .ok (.lload 4, 2) := by decide +kernel
theorem dX10_commonPart_47 : decode cX10_commonPart 47 = .ok (.lreturn, 1) := by decide +kernel
theorem dX10_chance_0 : decode cX10_chance 0 = .ok (.iload_n 1, 1) := by decide +kernel
theorem dX10_chance_1 : decode cX10_chance 1 = .ok (.iload_n 3, 1) := by decide +kernel
theorem dX10_chance_2 : decode cX10_chance 2 = .ok (.iadd, 1) := by decide +kernel
theorem dX10_chance_3 : decode cX10_chance 3 = .ok (.iload_n 0, 1) := by decide +kernel
theorem dX10_chance_4 : decode cX10_chance 4 = .ok (.iload_n 2, 1) := by decide +kernel
theorem dX10_chance_5 : decode cX10_chance 5 = .ok (.iadd, 1) := by decide +kernel
theorem dX10_chance_6 : decode cX10_chance 6 = .ok (.invokestatic 296, 3) := by decide +kernel
theorem dX10_chance_9 : decode cX10_chance 9 = .ok (.lstore 5, 2) := by decide +kernel
theorem dX10_chance_11 : decode cX10_chance 11 = .ok (.lconst 0, 1) := by decide +kernel
theorem dX10_chance_12 : decode cX10_chance 12 = .ok (.lstore 7, 2) := by decide +kernel
theorem dX10_chance_14 : decode cX10_chance 14 = .ok (.iload_n 0, 1) := by decide +kernel
theorem dX10_chance_15 : decode cX10_chance 15 = .ok (.istore 9, 2) := by decide +kernel
theorem dX10_chance_17 : decode cX10_chance 17 = .ok (.iload 9, 2) := by decide +kernel
theorem dX10_chance_19 : decode cX10_chance 19 = .ok (.iload_n 1, 1) := by decide +kernel
theorem dX10_chance_20 : decode cX10_chance 20 = .ok (.if_icmp .gt 31, 3) := by decide +kernel
theorem dX10_chance_23 : decode cX10_chance 23 = .ok (.lload 7, 2) := by decide +kernel
theorem dX10_chance_25 : decode cX10_chance 25 = .ok (.iload_n 1, 1) := by decide +kernel
theorem dX10_chance_26 : decode cX10_chance 26 = .ok (.iload 9, 2) := by decide +kernel
theorem dX10_chance_28 : decode cX10_chance 28 = .ok (.invokestatic 296, 3) := by decide +kernel
theorem dX10_chance_31 : decode cX10_chance 31 = .ok (.iload_n 3, 1) := by decide +kernel
theorem dX10_chance_32 : decode cX10_chance 32 = .ok (.iload_n 0, 1) := by decide +kernel
theorem dX10_chance_33 : decode cX10_chance 33 = .ok (.iload_n 2, 1) := by decide +kernel
theorem dX10_chance_34 : decode cX10_chance 34 = .ok (.iadd, 1) := by decide +kernel
theorem dX10_chance_35 : decode cX10_chance 35 = .ok (.iload 9, 2) := by decide +kernel
theorem dX10_chance_37 : decode cX10_chance 37 = .ok (.isub, 1) := by decide +kernel
theorem dX10_chance_38 : decode cX10_chance 38 = .ok (.invokestatic 296, 3) := by decide +kernel
theorem dX10_chance_41 : decode cX10_chance 41 = .ok (.lmul, 1) := by decide +kernel
theorem dX10_chance_42 : decode cX10_chance 42 = .ok (.ladd, 1) := by decide +kernel
theorem dX10_chance_43 : decode cX10_chance 43 = .ok (.lstore 7, 2) := by decide +kernel
theorem dX10_chance_45 : decode cX10_chance 45 = .ok (.iinc 9 1, 3) := by decide +kernel
theorem dX10_chance_48 : decode cX10_chance 48 = .ok (.goto (-31), 3) := by decide +kernel
theorem dX10_chance_51 : decode cX10_chance 51 = .ok (.lload 7, 2) := by decide +kernel
theorem dX10_chance_53 : decode cX10_chance 53 = .ok (.lload 5, 2) := by decide +kernel
theorem dX10_chance_55 : decode cX10_chance 55 = .ok (.invokestatic 300, 3) := by decide +kernel
theorem dX10_chance_58 : decode cX10_chance 58 = .ok (.lstore 9, 2) := by decide +kernel
theorem dX10_chance_60 : decode cX10_chance 60 = .ok (.lload 9, 2) := by decide +kernel
theorem dX10_chance_62 : decode cX10_chance 62 = .ok (.lconst 0, 1) := by decide +kernel
theorem dX10_chance_63 : decode cX10_chance 63 = .ok (.lcmp, 1) := by decide +kernel
theorem dX10_chance_64 : decode cX10_chance 64 = .ok (.ifCond .gt 7, 3) := by decide +kernel
theorem dX10_chance_67 : decode cX10_chance 67 = .ok (.sipush (-1003), 3) := by decide +kernel
theorem dX10_chance_70 : decode cX10_chance 70 = .ok (.ireturn, 1) := by decide +kernel
theorem dX10_chance_71 : decode cX10_chance 71 = .ok (.iload 4, 2) := by decide +kernel
theorem dX10_chance_73 : decode cX10_chance 73 = .ok (.ifCond .eq 8, 3) := by decide +kernel
theorem dX10_chance_76 : decode cX10_chance 76 = .ok (.lload 7, 2) := by decide +kernel
theorem dX10_chance_78 : decode cX10_chance 78 = .ok (.goto 5, 3) := by decide +kernel
theorem dX10_chance_81 : decode cX10_chance 81 = .ok (.lload 5, 2) := by decide +kernel
theorem dX10_chance_83 : decode cX10_chance 83 = .ok (.lload 9, 2) := by decide +kernel
theorem dX10_chance_85 : decode cX10_chance 85 = .ok (.ldiv, 1) := by decide +kernel
theorem dX10_chance_86 : decode cX10_chance 86 = .ok (.l2i, 1) := by decide +kernel
theorem dX10_chance_87 : decode cX10_chance 87 = .ok (.ireturn, 1) := by decide +kernel
theorem dX10_learnt_0 : decode cX10_learnt 0 = .ok (.iload_n 1, 1) := by decide +kernel
theorem dX10_learnt_1 : decode cX10_learnt 1 = .ok (.invokestatic 181, 3) := by decide +kernel
theorem dX10_learnt_4 : decode cX10_learnt 4 = .ok (.ifCond .eq 24, 3) := by decide +kernel
theorem dX10_learnt_7 : decode cX10_learnt 7 = .ok (.iload_n 2, 1) := by decide +kernel
theorem dX10_learnt_8 : decode cX10_learnt 8 = .ok (.invokestatic 181, 3) := by decide +kernel
theorem dX10_learnt_11 : decode cX10_learnt 11 = .ok (.ifCond .eq 17, 3) := by decide +kernel
theorem dX10_learnt_14 : decode cX10_learnt 14 = .ok (.iload_n 1, 1) := by decide +kernel
theorem dX10_learnt_15 : decode cX10_learnt 15 = .ok (.iload_n 2, 1) := by decide +kernel
theorem dX10_learnt_16 : decode cX10_learnt 16 = .ok (.if_icmp .eq 12, 3) := by decide +kernel
theorem dX10_learnt_19 : decode cX10_learnt 19 = .ok (.iload_n 3, 1) := by decide +kernel
theorem dX10_learnt_20 : decode cX10_learnt 20 = .ok (.iconst 0, 1) := by decide +kernel
theorem dX10_learnt_21 : decode cX10_learnt 21 = .ok (.iconst 5, 1) := by decide +kernel
theorem dX10_learnt_22 : decode cX10_learnt 22 = .ok (.invokestatic 90, 3) := by decide +kernel
theorem dX10_learnt_25 : decode cX10_learnt 25 = .ok (.ifCond .ne 7, 3) := by decide +kernel
theorem dX10_learnt_28 : decode cX10_learnt 28 = .ok (.sipush (-1002), 3) := by decide +kernel
theorem dX10_learnt_31 : decode cX10_learnt 31 = .ok (.ireturn, 1) := by decide +kernel
theorem dX10_learnt_32 : decode cX10_learnt 32 = .ok (.aload_n 0, 1) := by decide +kernel
theorem dX10_learnt_33 : decode cX10_learnt 33 = .ok (.getfield 26, 3) := by decide +kernel
theorem dX10_learnt_36 : decode cX10_learnt 36 = .ok (.iload_n 1, 1) := by decide +kernel
theorem dX10_learnt_37 : decode cX10_learnt 37 = .ok (.invokevirtual 286, 3) := by decide +kernel
theorem dX10_learnt_40 : decode cX10_learnt 40 = .ok (.istore 4, 2) := by decide +kernel
theorem dX10_learnt_42 : decode cX10_learnt 42 = .ok (.aload_n 0, 1) := by decide +kernel
theorem dX10_learnt_43 : decode cX10_learnt 43 = .ok (.getfield 26, 3) := by decide +kernel
theorem dX10_learnt_46 : decode cX10_learnt 46 = .ok (.iload_n 1, 1) := by decide +kernel
theorem dX10_learnt_47 : decode cX10_learnt 47 = .ok (.invokevirtual 289, 3) := by decide +kernel
theorem dX10_learnt_50 : decode cX10_learnt 50 = .ok (.istore 5, 2) := by decide +kernel
theorem dX10_learnt_52 : decode cX10_learnt 52 = .ok (.aload_n 0, 1) := by decide +kernel
theorem dX10_learnt_53 : decode cX10_learnt 53 = .ok (.getfield 26, 3) := by decide +kernel
theorem dX10_learnt_56 : decode cX10_learnt 56 = .ok (.iload_n 2, 1) := by decide +kernel
theorem dX10_learnt_57 : decode cX10_learnt 57 = .ok (.invokevirtual 286, 3) := by decide +kernel
theorem dX10_learnt_60 : decode cX10_learnt 60 = .ok (.istore 6, 2) := by decide +kernel
theorem dX10_learnt_62 : decode cX10_learnt 62 = .ok (.aload_n 0, 1) := by decide +kernel
theorem dX10_learnt_63 : decode cX10_learnt 63 = .ok (.getfield 26, 3) := by decide +kernel
theorem dX10_learnt_66 : decode cX10_learnt 66 = .ok (.iload_n 2, 1) := by decide +kernel
theorem dX10_learnt_67 : decode cX10_learnt 67 = .ok (.invokevirtual 289, 3) := by decide +kernel
theorem dX10_learnt_70 : decode cX10_learnt 70 = .ok (.istore 7, 2) := by decide +kernel
theorem dX10_learnt_72 : decode cX10_learnt 72 = .ok (.iload_n 3, 1) := by decide +kernel
theorem dX10_learnt_73 : decode cX10_learnt 73 = .ok (.tableswitch 43 0 3 #[31, 34, 37, 40], 31) := by decide +kernel
theorem dX10_learnt_104 : decode cX10_learnt 104 = .ok (.iload 4, 2) := by decide +kernel
theorem dX10_learnt_106 : decode cX10_learnt 106 = .ok (.ireturn, 1) := by decide +kernel
theorem dX10_learnt_107 : decode cX10_learnt 107 = .ok (.iload 5, 2) := by decide +kernel
theorem dX10_learnt_109 : decode cX10_learnt 109 = .ok (.ireturn, 1) := by decide +kernel
theorem dX10_learnt_110 : decode cX10_learnt 110 = .ok (.iload 6, 2) := by decide +kernel
theorem dX10_learnt_112 : decode cX10_learnt 112 = .ok (.ireturn, 1) := by decide +kernel
theorem dX10_learnt_113 : decode cX10_learnt 113 = .ok (.iload 7, 2) := by decide +kernel
theorem dX10_learnt_115 : decode cX10_learnt 115 = .ok (.ireturn, 1) := by decide +kernel
theorem dX10_learnt_116 : decode cX10_learnt 116 = .ok (.iload 5, 2) := by decide +kernel
theorem dX10_learnt_118 : decode cX10_learnt 118 = .ok (.iload 7, 2) := by decide +kernel
theorem dX10_learnt_120 : decode cX10_learnt 120 = .ok (.iadd, 1) := by decide +kernel
theorem dX10_learnt_121 : decode cX10_learnt 121 = .ok (.bipush 30, 2) := by decide +kernel
theorem dX10_learnt_123 : decode cX10_learnt 123 = .ok (.if_icmp .le 9, 3) := by decide +kernel
theorem dX10_learnt_126 : decode cX10_learnt 126 = .ok (.sipush (-1003), 3) := by decide +kernel
theorem dX10_learnt_129 : decode cX10_learnt 129 = .ok (.goto 24, 3) := by decide +kernel
theorem dX10_learnt_132 : decode cX10_learnt 132 = .ok (.iload 4, 2) := by decide +kernel
theorem dX10_learnt_134 : decode cX10_learnt 134 = .ok (.iload 5, 2) := by decide +kernel
theorem dX10_learnt_136 : decode cX10_learnt 136 = .ok (.iload 6, 2) := by decide +kernel
theorem dX10_learnt_138 : decode cX10_learnt 138 = .ok (.iload 7, 2) := by decide +kernel
theorem dX10_learnt_140 : decode cX10_learnt 140 = .ok (.iload_n 3, 1) := by decide +kernel
theorem dX10_learnt_141 : decode cX10_learnt 141 = .ok (.iconst 4, 1) := by decide +kernel
theorem dX10_learnt_142 : decode cX10_learnt 142 = .ok (.if_icmp .ne 7, 3) := by decide +kernel
theorem dX10_learnt_145 : decode cX10_learnt 145 = .ok (.iconst 1, 1) := by decide +kernel
theorem dX10_learnt_146 : decode cX10_learnt 146 = .ok (.goto 4, 3) := by decide +kernel
theorem dX10_learnt_149 : decode cX10_learnt 149 = .ok (.iconst 0, 1) := by decide +kernel
theorem dX10_learnt_150 : decode cX10_learnt 150 = .ok (.invokestatic 292, 3) := by decide +kernel
theorem dX10_learnt_153 : decode cX10_learnt 153 = .ok (.ireturn, 1) := by decide +kernel
theorem dX10_who_0 : decode cX10_who 0 = .ok (.aload_n 0, 1) := by decide +kernel
theorem dX10_who_1 : decode cX10_who 1 = .ok (.getfield 26, 3) := by decide +kernel
theorem dX10_who_4 : decode cX10_who 4 = .ok (.iload_n 1, 1) := by decide +kernel
theorem dX10_who_5 : decode cX10_who 5 = .ok (.invokevirtual 165, 3) := by decide +kernel
theorem dX10_who_8 : decode cX10_who 8 = .ok (.ifCond .ne 7, 3) := by decide +kernel
theorem dX10_who_11 : decode cX10_who 11 = .ok (.sipush (-1001), 3) := by decide +kernel
theorem dX10_who_14 : decode cX10_who 14 = .ok (.ireturn, 1) := by decide +kernel
theorem dX10_who_15 : decode cX10_who 15 = .ok (.iload_n 2, 1) := by decide +kernel
theorem dX10_who_16 : decode cX10_who 16 = .ok (.iconst 0, 1) := by decide +kernel
theorem dX10_who_17 : decode cX10_who 17 = .ok (.iconst 1, 1) := by decide +kernel
theorem dX10_who_18 : decode cX10_who 18 = .ok (.invokestatic 90, 3) := by decide +kernel
theorem dX10_who_21 : decode cX10_who 21 = .ok (.ifCond .ne 7, 3) := by decide +kernel
theorem dX10_who_24 : decode cX10_who 24 = .ok (.sipush (-1002), 3) := by decide +kernel
theorem dX10_who_27 : decode cX10_who 27 = .ok (.ireturn, 1) := by decide +kernel
theorem dX10_who_28 : decode cX10_who 28 = .ok (.aload_n 0, 1) := by decide +kernel
theorem dX10_who_29 : decode cX10_who 29 = .ok (.getfield 26, 3) := by decide +kernel
theorem dX10_who_32 : decode cX10_who 32 = .ok (.getfield 135, 3) := by decide +kernel
theorem dX10_who_35 : decode cX10_who 35 = .ok (.iload_n 1, 1) := by decide +kernel
theorem dX10_who_36 : decode cX10_who 36 = .ok (.aaload, 1) := by decide +kernel
theorem dX10_who_37 : decode cX10_who 37 = .ok (.getfield 139, 3) := by decide +kernel
theorem dX10_who_40 : decode cX10_who 40 = .ok (.istore_n 3, 1) := by decide +kernel
theorem dX10_who_41 : decode cX10_who 41 = .ok (.iload_n 2, 1) := by decide +kernel
theorem dX10_who_42 : decode cX10_who 42 = .ok (.iconst 1, 1) := by decide +kernel
theorem dX10_who_43 : decode cX10_who 43 = .ok (.if_icmp .ne 16, 3) := by decide +kernel
theorem dX10_who_46 : decode cX10_who 46 = .ok (.iload_n 3, 1) := by decide +kernel
theorem dX10_who_47 : decode cX10_who 47 = .ok (.aload_n 0, 1) := by decide +kernel
theorem dX10_who_48 : decode cX10_who 48 = .ok (.getfield 26, 3) := by decide +kernel
theorem dX10_who_51 : decode cX10_who 51 = .ok (.iload_n 1, 1) := by decide +kernel
theorem dX10_who_52 : decode cX10_who 52 = .ok (.invokevirtual 304, 3) := by decide +kernel
theorem dX10_who_55 : decode cX10_who 55 = .ok (.iconst (-1), 1) := by decide +kernel
theorem dX10_who_56 : decode cX10_who 56 = .ok (.ixor, 1) := by decide +kernel
theorem dX10_who_57 : decode cX10_who 57 = .ok (.iand, 1) := by decide +kernel
theorem dX10_who_58 : decode cX10_who 58 = .ok (.istore_n 3, 1) := by decide +kernel
theorem dX10_who_59 : decode cX10_who 59 = .ok (.iconst (-1), 1) := by decide +kernel
theorem dX10_who_60 : decode cX10_who 60 = .ok (.istore 4, 2) := by decide +kernel
theorem dX10_who_62 : decode cX10_who 62 = .ok (.iconst (-1), 1) := by decide +kernel
theorem dX10_who_63 : decode cX10_who 63 = .ok (.istore 5, 2) := by decide +kernel
theorem dX10_who_65 : decode cX10_who 65 = .ok (.iconst 0, 1) := by decide +kernel
theorem dX10_who_66 : decode cX10_who 66 = .ok (.istore 6, 2) := by decide +kernel
theorem dX10_who_68 : decode cX10_who 68 = .ok (.iload 6, 2) := by decide +kernel
theorem dX10_who_70 : decode cX10_who 70 = .ok (.iconst 4, 1) := by decide +kernel
theorem dX10_who_71 : decode cX10_who 71 = .ok (.if_icmp .ge 59, 3) := by decide +kernel
theorem dX10_who_74 : decode cX10_who 74 = .ok (.iload_n 3, 1) := by decide +kernel
theorem dX10_who_75 : decode cX10_who 75 = .ok (.iload 6, 2) := by decide +kernel
theorem dX10_who_77 : decode cX10_who 77 = .ok (.invokestatic 307, 3) := by decide +kernel
theorem dX10_who_80 : decode cX10_who 80 = .ok (.ifCond .eq 44, 3) := by decide +kernel
theorem dX10_who_83 : decode cX10_who 83 = .ok (.aload_n 0, 1) := by decide +kernel
theorem dX10_who_84 : decode cX10_who 84 = .ok (.getfield 12, 3) := by decide +kernel
theorem dX10_who_87 : decode cX10_who 87 = .ok (.iload 6, 2) := by decide +kernel
theorem dX10_who_89 : decode cX10_who 89 = .ok (.aload_n 0, 1) := by decide +kernel
theorem dX10_who_90 : decode cX10_who 90 = .ok (.getfield 110, 3) := by decide +kernel
theorem dX10_who_93 : decode cX10_who 93 = .ok (.iconst 0, 1) := by decide +kernel
theorem dX10_who_94 : decode cX10_who 94 = .ok (.invokevirtual 120, 3) := by decide +kernel
theorem dX10_who_97 : decode cX10_who 97 = .ok (.aload_n 0, 1) := by decide +kernel
theorem dX10_who_98 : decode cX10_who 98 = .ok (.getfield 12, 3) := by decide +kernel
theorem dX10_who_101 : decode cX10_who 101 = .ok (.iconst 0, 1) := by decide +kernel
theorem dX10_who_102 : decode cX10_who 102 = .ok (.invokevirtual 127, 3) := by decide +kernel
theorem dX10_who_105 : decode cX10_who 105 = .ok (.iload 5, 2) := by decide +kernel
theorem dX10_who_107 : decode cX10_who 107 = .ok (.if_icmp .le 17, 3) := by decide +kernel
theorem dX10_who_110 : decode cX10_who 110 = .ok (.iload 6, 2) := by decide +kernel
theorem dX10_who_112 : decode cX10_who 112 = .ok (.istore 4, 2) := by decide +kernel
theorem dX10_who_114 : decode cX10_who 114 = .ok (.aload_n 0, 1) := by decide +kernel
theorem dX10_who_115 : decode cX10_who 115 = .ok (.getfield 12, 3) := by decide +kernel
theorem dX10_who_118 : decode cX10_who 118 = .ok (.iconst 0, 1) := by decide +kernel
theorem dX10_who_119 : decode cX10_who 119 = .ok (.invokevirtual 127, 3) := by decide +kernel
theorem dX10_who_122 : decode cX10_who 122 = .ok (.istore 5, 2) := by decide +kernel
theorem dX10_who_124 : decode cX10_who 124 = .ok (.iinc 6 1, 3) := by decide +kernel
theorem dX10_who_127 : decode cX10_who 127 = .ok (.goto (-59), 3) := by decide +kernel
theorem dX10_who_130 : decode cX10_who 130 = .ok (.iload 4, 2) := by decide +kernel
theorem dX10_who_132 : decode cX10_who 132 = .ok (.ireturn, 1) := by decide +kernel
theorem dX10_tried_0 : decode cX10_tried 0 = .ok (.iload_n 1, 1) := by decide +kernel
theorem dX10_tried_1 : decode cX10_tried 1 = .ok (.invokestatic 104, 3) := by decide +kernel
theorem dX10_tried_4 : decode cX10_tried 4 = .ok (.ifCond .ne 7, 3) := by decide +kernel
theorem dX10_tried_7 : decode cX10_tried 7 = .ok (.sipush (-1001), 3) := by decide +kernel
theorem dX10_tried_10 : decode cX10_tried 10 = .ok (.ireturn, 1) := by decide +kernel
theorem dX10_tried_11 : decode cX10_tried 11 = .ok (.iload_n 2, 1) := by decide +kernel
theorem dX10_tried_12 : decode cX10_tried 12 = .ok (.iconst 0, 1) := by decide +kernel
theorem dX10_tried_13 : decode cX10_tried 13 = .ok (.ldc 131, 2) := by decide +kernel
theorem dX10_tried_15 : decode cX10_tried 15 = .ok (.invokestatic 90, 3) := by decide +kernel
theorem dX10_tried_18 : decode cX10_tried 18 = .ok (.ifCond .eq 20, 3) := by decide +kernel
theorem dX10_tried_21 : decode cX10_tried 21 = .ok (.iload_n 3, 1) := by decide +kernel
theorem dX10_tried_22 : decode cX10_tried 22 = .ok (.invokestatic 181, 3) := by decide +kernel
theorem dX10_tried_25 : decode cX10_tried 25 = .ok (.ifCond .eq 13, 3) := by decide +kernel
theorem dX10_tried_28 : decode cX10_tried 28 = .ok (.iload 4, 2) := by decide +kernel
theorem dX10_tried_30 : decode cX10_tried 30 = .ok (.iconst 0, 1) := by decide +kernel
theorem dX10_tried_31 : decode cX10_tried 31 = .ok (.iconst 3, 1) := by decide +kernel
theorem dX10_tried_32 : decode cX10_tried 32 = .ok (.invokestatic 90, 3) := by decide +kernel
theorem dX10_tried_35 : decode cX10_tried 35 = .ok (.ifCond .ne 7, 3) := by decide +kernel
theorem dX10_tried_38 : decode cX10_tried 38 = .ok (.sipush (-1002), 3) := by decide +kernel
theorem dX10_tried_41 : decode cX10_tried 41 = .ok (.ireturn, 1) := by decide +kernel
theorem dX10_tried_42 : decode cX10_tried 42 = .ok (.aload_n 0, 1) := by decide +kernel
theorem dX10_tried_43 : decode cX10_tried 43 = .ok (.getfield 62, 3) := by decide +kernel
theorem dX10_tried_46 : decode cX10_tried 46 = .ok (.iload_n 1, 1) := by decide +kernel
theorem dX10_tried_47 : decode cX10_tried 47 = .ok (.iload_n 2, 1) := by decide +kernel
theorem dX10_tried_48 : decode cX10_tried 48 = .ok (.iload_n 3, 1) := by decide +kernel
theorem dX10_tried_49 : decode cX10_tried 49 = .ok (.aload_n 0, 1) := by decide +kernel
theorem dX10_tried_50 : decode cX10_tried 50 = .ok (.getfield 110, 3) := by decide +kernel
theorem dX10_tried_53 : decode cX10_tried 53 = .ok (.invokevirtual 310, 3) := by decide +kernel
theorem dX10_tried_56 : decode cX10_tried 56 = .ok (.iload 4, 2) := by decide +kernel
theorem dX10_tried_58 : decode cX10_tried 58 = .ok (.tableswitch 50 0 2 #[26, 34, 42], 26) := by decide +kernel
theorem dX10_tried_84 : decode cX10_tried 84 = .ok (.aload_n 0, 1) := by decide +kernel
theorem dX10_tried_85 : decode cX10_tried 85 = .ok (.getfield 62, 3) := by decide +kernel
theorem dX10_tried_88 : decode cX10_tried 88 = .ok (.getfield 314, 3) := by decide +kernel
theorem dX10_tried_91 : decode cX10_tried 91 = .ok (.ireturn, 1) := by decide +kernel
theorem dX10_tried_92 : decode cX10_tried 92 = .ok (.aload_n 0, 1) := by decide +kernel
theorem dX10_tried_93 : decode cX10_tried 93 = .ok (.getfield 62, 3) := by decide +kernel
theorem dX10_tried_96 : decode cX10_tried 96 = .ok (.getfield 317, 3) := by decide +kernel
theorem dX10_tried_99 : decode cX10_tried 99 = .ok (.ireturn, 1) := by decide +kernel
theorem dX10_tried_100 : decode cX10_tried 100 = .ok (.aload_n 0, 1) := by decide +kernel
theorem dX10_tried_101 : decode cX10_tried 101 = .ok (.getfield 62, 3) := by decide +kernel
theorem dX10_tried_104 : decode cX10_tried 104 = .ok (.getfield 320, 3) := by decide +kernel
theorem dX10_tried_107 : decode cX10_tried 107 = .ok (.ireturn, 1) := by decide +kernel
theorem dX10_tried_108 : decode cX10_tried 108 = .ok (.aload_n 0, 1) := by decide +kernel
theorem dX10_tried_109 : decode cX10_tried 109 = .ok (.getfield 62, 3) := by decide +kernel
theorem dX10_tried_112 : decode cX10_tried 112 = .ok (.getfield 323, 3) := by decide +kernel
theorem dX10_tried_115 : decode cX10_tried 115 = .ok (.ireturn, 1) := by decide +kernel
