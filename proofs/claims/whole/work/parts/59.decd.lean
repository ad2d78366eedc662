theorem dX11_read_0 : decode cX11_read 0 = .ok (.iload_n 1, 1) := by decide +kernel
theorem dX11_read_1 : decode cX11_read 1 = .ok (.invokestatic 153, 3) := by decide +kernel
theorem dX11_read_4 : decode cX11_read 4 = .ok (.ifCond .ne 7, 3) := by decide +kernel
theorem dX11_read_7 : decode cX11_read 7 = .ok (.sipush (-1001), 3) := by decide +kernel
theorem dX11_read_10 : decode cX11_read 10 = .ok (.ireturn, 1) := by decide +kernel
theorem dX11_read_11 : decode cX11_read 11 = .ok (.aload_n 0, 1) := by decide +kernel
theorem dX11_read_12 : decode cX11_read 12 = .ok (.iconst (-1), 1) := by decide +kernel
theorem dX11_read_13 : decode cX11_read 13 = .ok (.putfield 105, 3) := by decide +kernel
theorem dX11_read_16 : decode cX11_read 16 = .ok (.aload_n 0, 1) := by decide +kernel
theorem dX11_read_17 : decode cX11_read 17 = .ok (.iconst 0, 1) := by decide +kernel
theorem dX11_read_18 : decode cX11_read 18 = .ok (.putfield 232, 3) := by decide +kernel
theorem dX11_read_21 : decode cX11_read 21 = .ok (.iconst 0, 1) := by decide +kernel
theorem dX11_read_22 : decode cX11_read 22 = .ok (.istore_n 2, 1) := by decide +kernel
theorem dX11_read_23 : decode cX11_read 23 = .ok (.iconst 0, 1) := by decide +kernel
theorem dX11_read_24 : decode cX11_read 24 = .ok (.istore_n 3, 1) := by decide +kernel
theorem dX11_read_25 : decode cX11_read 25 = .ok (.iload_n 3, 1) := by decide +kernel
theorem dX11_read_26 : decode cX11_read 26 = .ok (.ifCond .ne 22, 3) := by decide +kernel
theorem dX11_read_29 : decode cX11_read 29 = .ok (.aload_n 0, 1) := by decide +kernel
theorem dX11_read_30 : decode cX11_read 30 = .ok (.invokevirtual 235, 3) := by decide +kernel
theorem dX11_read_33 : decode cX11_read 33 = .ok (.ifCond .lt 15, 3) := by decide +kernel
theorem dX11_read_36 : decode cX11_read 36 = .ok (.aload_n 0, 1) := by decide +kernel
theorem dX11_read_37 : decode cX11_read 37 = .ok (.iload_n 2, 1) := by decide +kernel
theorem dX11_read_38 : decode cX11_read 38 = .ok (.invokevirtual 295, 3) := by decide +kernel
theorem dX11_read_41 : decode cX11_read 41 = .ok (.istore_n 3, 1) := by decide +kernel
theorem dX11_read_42 : decode cX11_read 42 = .ok (.iinc 2 1, 3) := by decide +kernel
theorem dX11_read_45 : decode cX11_read 45 = .ok (.goto (-20), 3) := by decide +kernel
theorem dX11_read_48 : decode cX11_read 48 = .ok (.aload_n 0, 1) := by decide +kernel
theorem dX11_read_49 : decode cX11_read 49 = .ok (.iconst 0, 1) := by decide +kernel
theorem dX11_read_50 : decode cX11_read 50 = .ok (.putfield 227, 3) := by decide +kernel
theorem dX11_read_53 : decode cX11_read 53 = .ok (.iload_n 3, 1) := by decide +kernel
theorem dX11_read_54 : decode cX11_read 54 = .ok (.ifCond .le 8, 3) := by decide +kernel
theorem dX11_read_57 : decode cX11_read 57 = .ok (.bipush (-10), 2) := by decide +kernel
theorem dX11_read_59 : decode cX11_read 59 = .ok (.iload_n 3, 1) := by decide +kernel
theorem dX11_read_60 : decode cX11_read 60 = .ok (.isub, 1) := by decide +kernel
theorem dX11_read_61 : decode cX11_read 61 = .ok (.ireturn, 1) := by decide +kernel
theorem dX11_read_62 : decode cX11_read 62 = .ok (.aload_n 0, 1) := by decide +kernel
theorem dX11_read_63 : decode cX11_read 63 = .ok (.getfield 75, 3) := by decide +kernel
theorem dX11_read_66 : decode cX11_read 66 = .ok (.iload_n 1, 1) := by decide +kernel
theorem dX11_read_67 : decode cX11_read 67 = .ok (.iload_n 2, 1) := by decide +kernel
theorem dX11_read_68 : decode cX11_read 68 = .ok (.iastore, 1) := by decide +kernel
theorem dX11_read_69 : decode cX11_read 69 = .ok (.iconst 0, 1) := by decide +kernel
theorem dX11_read_70 : decode cX11_read 70 = .ok (.istore 4, 2) := by decide +kernel
theorem dX11_read_72 : decode cX11_read 72 = .ok (.iload 4, 2) := by decide +kernel
theorem dX11_read_74 : decode cX11_read 74 = .ok (.iload_n 2, 1) := by decide +kernel
theorem dX11_read_75 : decode cX11_read 75 = .ok (.if_icmp .ge 85, 3) := by decide +kernel
theorem dX11_read_78 : decode cX11_read 78 = .ok (.aload_n 0, 1) := by decide +kernel
theorem dX11_read_79 : decode cX11_read 79 = .ok (.getfield 78, 3) := by decide +kernel
theorem dX11_read_82 : decode cX11_read 82 = .ok (.bipush 8, 2) := by decide +kernel
theorem dX11_read_84 : decode cX11_read 84 = .ok (.iload_n 1, 1) := by decide +kernel
theorem dX11_read_85 : decode cX11_read 85 = .ok (.imul, 1) := by decide +kernel
theorem dX11_read_86 : decode cX11_read 86 = .ok (.iload 4, 2) := by decide +kernel
theorem dX11_read_88 : decode cX11_read 88 = .ok (.iadd, 1) := by decide +kernel
theorem dX11_read_89 : decode cX11_read 89 = .ok (.aload_n 0, 1) := by decide +kernel
theorem dX11_read_90 : decode cX11_read 90 = .ok (.getfield 90, 3) := by decide +kernel
theorem dX11_read_93 : decode cX11_read 93 = .ok (.iload 4, 2) := by decide +kernel
theorem dX11_read_95 : decode cX11_read 95 = .ok (.iaload, 1) := by decide +kernel
theorem dX11_read_96 : decode cX11_read 96 = .ok (.iastore, 1) := by decide +kernel
theorem dX11_read_97 : decode cX11_read 97 = .ok (.aload_n 0, 1) := by decide +kernel
theorem dX11_read_98 : decode cX11_read 98 = .ok (.getfield 81, 3) := by decide +kernel
theorem dX11_read_101 : decode cX11_read 101 = .ok (.bipush 8, 2) := by decide +kernel
theorem dX11_read_103 : decode cX11_read 103 = .ok (.iload_n 1, 1) := by decide +kernel
theorem dX11_read_104 : decode cX11_read 104 = .ok (.imul, 1) := by decide +kernel
theorem dX11_read_105 : decode cX11_read 105 = .ok (.iload 4, 2) := by decide +kernel
theorem dX11_read_107 : decode cX11_read 107 = .ok (.iadd, 1) := by decide +kernel
theorem dX11_read_108 : decode cX11_read 108 = .ok (.aload_n 0, 1) := by decide +kernel
theorem dX11_read_109 : decode cX11_read 109 = .ok (.getfield 93, 3) := by decide +kernel
theorem dX11_read_112 : decode cX11_read 112 = .ok (.iload 4, 2) := by decide +kernel
theorem dX11_read_114 : decode cX11_read 114 = .ok (.iaload, 1) := by decide +kernel
theorem dX11_read_115 : decode cX11_read 115 = .ok (.iastore, 1) := by decide +kernel
theorem dX11_read_116 : decode cX11_read 116 = .ok (.aload_n 0, 1) := by decide +kernel
theorem dX11_read_117 : decode cX11_read 117 = .ok (.getfield 84, 3) := by decide +kernel
theorem dX11_read_120 : decode cX11_read 120 = .ok (.bipush 8, 2) := by decide +kernel
theorem dX11_read_122 : decode cX11_read 122 = .ok (.iload_n 1, 1) := by decide +kernel
theorem dX11_read_123 : decode cX11_read 123 = .ok (.imul, 1) := by decide +kernel
theorem dX11_read_124 : decode cX11_read 124 = .ok (.iload 4, 2) := by decide +kernel
theorem dX11_read_126 : decode cX11_read 126 = .ok (.iadd, 1) := by decide +kernel
theorem dX11_read_127 : decode cX11_read 127 = .ok (.aload_n 0, 1) := by decide +kernel
theorem dX11_read_128 : decode cX11_read 128 = .ok (.getfield 96, 3) := by decide +kernel
theorem dX11_read_131 : decode cX11_read 131 = .ok (.iload 4, 2) := by decide +kernel
theorem dX11_read_133 : decode cX11_read 133 = .ok (.iaload, 1) := by decide +kernel
theorem dX11_read_134 : decode cX11_read 134 = .ok (.iastore, 1) := by decide +kernel
theorem dX11_read_135 : decode cX11_read 135 = .ok (.aload_n 0, 1) := by decide +kernel
theorem dX11_read_136 : decode cX11_read 136 = .ok (.getfield 87, 3) := by decide +kernel
theorem dX11_read_139 : decode cX11_read 139 = .ok (.bipush 8, 2) := by decide +kernel
theorem dX11_read_141 : decode cX11_read 141 = .ok (.iload_n 1, 1) := by decide +kernel
theorem dX11_read_142 : decode cX11_read 142 = .ok (.imul, 1) := by decide +kernel
theorem dX11_read_143 : decode cX11_read 143 = .ok (.iload 4, 2) := by decide +kernel
theorem dX11_read_145 : decode cX11_read 145 = .ok (.iadd, 1) := by decide +kernel
theorem dX11_read_146 : decode cX11_read 146 = .ok (.aload_n 0, 1) := by decide +kernel
theorem dX11_read_147 : decode cX11_read 147 = .ok (.getfield 99, 3) := by decide +kernel
theorem dX11_read_150 : decode cX11_read 150 = .ok (.iload 4, 2) := by decide +kernel
theorem dX11_read_152 : decode cX11_read 152 = .ok (.iaload, 1) := by decide +kernel
theorem dX11_read_153 : decode cX11_read 153 = .ok (.iastore, 1) := by decide +kernel
theorem dX11_read_154 : decode cX11_read 154 = .ok (.iinc 4 1, 3) := by decide +kernel
theorem dX11_read_157 : decode cX11_read 157 = .ok (.goto (-85), 3) := by decide +kernel
theorem dX11_read_160 : decode cX11_read 160 = .ok (.iload_n 2, 1) := by decide +kernel
theorem dX11_read_161 : decode cX11_read 161 = .ok (.ireturn, 1) := by decide +kernel
theorem dX11_fault_0 : decode cX11_fault 0 = .ok (.aload_n 0, 1) := by decide +kernel
theorem dX11_fault_1 : decode cX11_fault 1 = .ok (.getfield 105, 3) := by decide +kernel
theorem dX11_fault_4 : decode cX11_fault 4 = .ok (.ireturn, 1) := by decide +kernel
theorem dX11_isAlways_0 : decode cX11_isAlways 0 = .ok (.iconst 0, 1) := by decide +kernel
theorem dX11_isAlways_1 : decode cX11_isAlways 1 = .ok (.istore_n 3, 1) := by decide +kernel
theorem dX11_isAlways_2 : decode cX11_isAlways 2 = .ok (.iconst 0, 1) := by decide +kernel
theorem dX11_isAlways_3 : decode cX11_isAlways 3 = .ok (.istore 4, 2) := by decide +kernel
theorem dX11_isAlways_5 : decode cX11_isAlways 5 = .ok (.iload 4, 2) := by decide +kernel
theorem dX11_isAlways_7 : decode cX11_isAlways 7 = .ok (.aload_n 0, 1) := by decide +kernel
theorem dX11_isAlways_8 : decode cX11_isAlways 8 = .ok (.getfield 75, 3) := by decide +kernel
theorem dX11_isAlways_11 : decode cX11_isAlways 11 = .ok (.iload_n 1, 1) := by decide +kernel
theorem dX11_isAlways_12 : decode cX11_isAlways 12 = .ok (.iaload, 1) := by decide +kernel
theorem dX11_isAlways_13 : decode cX11_isAlways 13 = .ok (.if_icmp .ge 56, 3) := by decide +kernel
theorem dX11_isAlways_16 : decode cX11_isAlways 16 = .ok (.iload_n 3, 1) := by decide +kernel
theorem dX11_isAlways_17 : decode cX11_isAlways 17 = .ok (.ifCond .ne 40, 3) := by decide +kernel
theorem dX11_isAlways_20 : decode cX11_isAlways 20 = .ok (.aload_n 0, 1) := by decide +kernel
theorem dX11_isAlways_21 : decode cX11_isAlways 21 = .ok (.getfield 78, 3) := by decide +kernel
theorem dX11_isAlways_24 : decode cX11_isAlways 24 = .ok (.bipush 8, 2) := by decide +kernel
theorem dX11_isAlways_26 : decode cX11_isAlways 26 = .ok (.iload_n 1, 1) := by decide +kernel
theorem dX11_isAlways_27 : decode cX11_isAlways 27 = .ok (.imul, 1) := by decide +kernel
theorem dX11_isAlways_28 : decode cX11_isAlways 28 = .ok (.iload 4, 2) := by decide +kernel
theorem dX11_isAlways_30 : decode cX11_isAlways 30 = .ok (.iadd, 1) := by decide +kernel
theorem dX11_isAlways_31 : decode cX11_isAlways 31 = .ok (.iaload, 1) := by decide +kernel
theorem dX11_isAlways_32 : decode cX11_isAlways 32 = .ok (.iconst 4, 1) := by decide +kernel
theorem dX11_isAlways_33 : decode cX11_isAlways 33 = .ok (.if_icmp .ne 28, 3) := by decide +kernel
theorem dX11_isAlways_36 : decode cX11_isAlways 36 = .ok (.aload_n 0, 1) := by decide +kernel
theorem dX11_isAlways_37 : decode cX11_isAlways 37 = .ok (.getfield 81, 3) := by decide +kernel
theorem dX11_isAlways_40 : decode cX11_isAlways 40 = .ok (.bipush 8, 2) := by decide +kernel
theorem dX11_isAlways_42 : decode cX11_isAlways 42 = .ok (.iload_n 1, 1) := by decide +kernel
theorem dX11_isAlways_43 : decode cX11_isAlways 43 = .ok (.imul, 1) := by decide +kernel
theorem dX11_isAlways_44 : decode cX11_isAlways 44 = .ok (.iload 4, 2) := by decide +kernel
theorem dX11_isAlways_46 : decode cX11_isAlways 46 = .ok (.iadd, 1) := by decide +kernel
theorem dX11_isAlways_47 : decode cX11_isAlways 47 = .ok (.iaload, 1) := by decide +kernel
theorem dX11_isAlways_48 : decode cX11_isAlways 48 = .ok (.aload_n 0, 1) := by decide +kernel
theorem dX11_isAlways_49 : decode cX11_isAlways 49 = .ok (.getfield 50, 3) := by decide +kernel
theorem dX11_isAlways_52 : decode cX11_isAlways 52 = .ok (.iload_n 2, 1) := by decide +kernel
theorem dX11_isAlways_53 : decode cX11_isAlways 53 = .ok (.iaload, 1) := by decide +kernel
theorem dX11_isAlways_54 : decode cX11_isAlways 54 = .ok (.if_icmp .ne 7, 3) := by decide +kernel
theorem dX11_isAlways_57 : decode cX11_isAlways 57 = .ok (.iconst 1, 1) := by decide +kernel
theorem dX11_isAlways_58 : decode cX11_isAlways 58 = .ok (.goto 4, 3) := by decide +kernel
theorem dX11_isAlways_61 : decode cX11_isAlways 61 = .ok (.iconst 0, 1) := by decide +kernel
theorem dX11_isAlways_62 : decode cX11_isAlways 62 = .ok (.istore_n 3, 1) := by decide +kernel
theorem dX11_isAlways_63 : decode cX11_isAlways 63 = .ok (.iinc 4 1, 3) := by decide +kernel
theorem dX11_isAlways_66 : decode cX11_isAlways 66 = .ok (.goto (-61), 3) := by decide +kernel
theorem dX11_isAlways_69 : decode cX11_isAlways 69 = .ok (.iload_n 3, 1) := by decide +kernel
theorem dX11_isAlways_70 : decode cX11_isAlways 70 = .ok (.ireturn, 1) := by decide +kernel
theorem dX11_areAlways_0 : decode cX11_areAlways 0 = .ok (.iconst 1, 1) := by decide +kernel
theorem dX11_areAlways_1 : decode cX11_areAlways 1 = .ok (.istore_n 3, 1) := by decide +kernel
theorem dX11_areAlways_2 : decode cX11_areAlways 2 = .ok (.iconst 0, 1) := by decide +kernel
theorem dX11_areAlways_3 : decode cX11_areAlways 3 = .ok (.istore 4, 2) := by decide +kernel
theorem dX11_areAlways_5 : decode cX11_areAlways 5 = .ok (.iload 4, 2) := by decide +kernel
theorem dX11_areAlways_7 : decode cX11_areAlways 7 = .ok (.aload_n 0, 1) := by decide +kernel
theorem dX11_areAlways_8 : decode cX11_areAlways 8 = .ok (.getfield 182, 3) := by decide +kernel
theorem dX11_areAlways_11 : decode cX11_areAlways 11 = .ok (.if_icmp .ge 38, 3) := by decide +kernel
theorem dX11_areAlways_14 : decode cX11_areAlways 14 = .ok (.iload_n 3, 1) := by decide +kernel
theorem dX11_areAlways_15 : decode cX11_areAlways 15 = .ok (.ifCond .eq 26, 3) := by decide +kernel
theorem dX11_areAlways_18 : decode cX11_areAlways 18 = .ok (.iload_n 2, 1) := by decide +kernel
theorem dX11_areAlways_19 : decode cX11_areAlways 19 = .ok (.iload 4, 2) := by decide +kernel
theorem dX11_areAlways_21 : decode cX11_areAlways 21 = .ok (.ishr, 1) := by decide +kernel
theorem dX11_areAlways_22 : decode cX11_areAlways 22 = .ok (.iconst 1, 1) := by decide +kernel
theorem dX11_areAlways_23 : decode cX11_areAlways 23 = .ok (.iand, 1) := by decide +kernel
theorem dX11_areAlways_24 : decode cX11_areAlways 24 = .ok (.ifCond .eq 13, 3) := by decide +kernel
theorem dX11_areAlways_27 : decode cX11_areAlways 27 = .ok (.aload_n 0, 1) := by decide +kernel
theorem dX11_areAlways_28 : decode cX11_areAlways 28 = .ok (.iload_n 1, 1) := by decide +kernel
theorem dX11_areAlways_29 : decode cX11_areAlways 29 = .ok (.iload 4, 2) := by decide +kernel
theorem dX11_areAlways_31 : decode cX11_areAlways 31 = .ok (.invokevirtual 298, 3) := by decide +kernel
theorem dX11_areAlways_34 : decode cX11_areAlways 34 = .ok (.ifCond .eq 7, 3) := by decide +kernel
theorem dX11_areAlways_37 : decode cX11_areAlways 37 = .ok (.iconst 1, 1) := by decide +kernel
theorem dX11_areAlways_38 : decode cX11_areAlways 38 = .ok (.goto 4, 3) := by decide +kernel
theorem dX11_areAlways_41 : decode cX11_areAlways 41 = .ok (.iconst 0, 1) := by decide +kernel
theorem dX11_areAlways_42 : decode cX11_areAlways 42 = .ok (.istore_n 3, 1) := by decide +kernel
theorem dX11_areAlways_43 : decode cX11_areAlways 43 = .ok (.iinc 4 1, 3) := by decide +kernel
theorem dX11_areAlways_46 : decode cX11_areAlways 46 = .ok (.goto (-41), 3) := by decide +kernel
theorem dX11_areAlways_49 : decode cX11_areAlways 49 = .ok (.iload_n 3, 1) := by decide +kernel
theorem dX11_areAlways_50 : decode cX11_areAlways 50 = .ok (.ireturn, 1) := by decide +kernel
theorem dX11_isWayBarred_0 : decode cX11_isWayBarred 0 = .ok (.aload_n 0, 1) := by decide +kernel
theorem dX11_isWayBarred_1 : decode cX11_isWayBarred 1 = .ok (.iload_n 1, 1) := by decide +kernel
theorem dX11_isWayBarred_2 : decode cX11_isWayBarred 2 = .ok (.aload_n 0, 1) := by decide +kernel
theorem dX11_isWayBarred_3 : decode cX11_isWayBarred 3 = .ok (.getfield 158, 3) := by decide +kernel
theorem dX11_isWayBarred_6 : decode cX11_isWayBarred 6 = .ok (.iload_n 3, 1) := by decide +kernel
theorem dX11_isWayBarred_7 : decode cX11_isWayBarred 7 = .ok (.invokevirtual 173, 3) := by decide +kernel
theorem dX11_isWayBarred_10 : decode cX11_isWayBarred 10 = .ok (.iconst 0, 1) := by decide +kernel
theorem dX11_isWayBarred_11 : decode cX11_isWayBarred 11 = .ok (.istore 4, 2) := by decide +kernel
theorem dX11_isWayBarred_13 : decode cX11_isWayBarred 13 = .ok (.bipush 8, 2) := by decide +kernel
theorem dX11_isWayBarred_15 : decode cX11_isWayBarred 15 = .ok (.iload_n 1, 1) := by decide +kernel
theorem dX11_isWayBarred_16 : decode cX11_isWayBarred 16 = .ok (.imul, 1) := by decide +kernel
theorem dX11_isWayBarred_17 : decode cX11_isWayBarred 17 = .ok (.istore 5, 2) := by decide +kernel
theorem dX11_isWayBarred_19 : decode cX11_isWayBarred 19 = .ok (.iload 5, 2) := by decide +kernel
theorem dX11_isWayBarred_21 : decode cX11_isWayBarred 21 = .ok (.bipush 8, 2) := by decide +kernel
theorem dX11_isWayBarred_23 : decode cX11_isWayBarred 23 = .ok (.iload_n 1, 1) := by decide +kernel
theorem dX11_isWayBarred_24 : decode cX11_isWayBarred 24 = .ok (.imul, 1) := by decide +kernel
theorem dX11_isWayBarred_25 : decode cX11_isWayBarred 25 = .ok (.aload_n 0, 1) := by decide +kernel
theorem dX11_isWayBarred_26 : decode cX11_isWayBarred 26 = .ok (.getfield 75, 3) := by decide +kernel
theorem dX11_isWayBarred_29 : decode cX11_isWayBarred 29 = .ok (.iload_n 1, 1) := by decide +kernel
theorem dX11_isWayBarred_30 : decode cX11_isWayBarred 30 = .ok (.iaload, 1) := by decide +kernel
theorem dX11_isWayBarred_31 : decode cX11_isWayBarred 31 = .ok (.iadd, 1) := by decide +kernel
theorem dX11_isWayBarred_32 : decode cX11_isWayBarred 32 = .ok (.if_icmp .ge 98, 3) := by decide +kernel
theorem dX11_isWayBarred_35 : decode cX11_isWayBarred 35 = .ok (.aload_n 0, 1) := by decide +kernel
theorem dX11_isWayBarred_36 : decode cX11_isWayBarred 36 = .ok (.getfield 78, 3) := by decide +kernel
theorem dX11_isWayBarred_39 : decode cX11_isWayBarred 39 = .ok (.iload 5, 2) := by decide +kernel
theorem dX11_isWayBarred_41 : decode cX11_isWayBarred 41 = .ok (.iaload, 1) := by decide +kernel
theorem dX11_isWayBarred_42 : decode cX11_isWayBarred 42 = .ok (.iconst 2, 1) := by decide +kernel
theorem dX11_isWayBarred_43 : decode cX11_isWayBarred 43 = .ok (.if_icmp .ge 18, 3) := by decide +kernel
theorem dX11_isWayBarred_46 : decode cX11_isWayBarred 46 = .ok (.aload_n 0, 1) := by decide +kernel
theorem dX11_isWayBarred_47 : decode cX11_isWayBarred 47 = .ok (.getfield 81, 3) := by decide +kernel
theorem dX11_isWayBarred_50 : decode cX11_isWayBarred 50 = .ok (.iload 5, 2) := by decide +kernel
theorem dX11_isWayBarred_52 : decode cX11_isWayBarred 52 = .ok (.iaload, 1) := by decide +kernel
theorem dX11_isWayBarred_53 : decode cX11_isWayBarred 53 = .ok (.iload_n 2, 1) := by decide +kernel
theorem dX11_isWayBarred_54 : decode cX11_isWayBarred 54 = .ok (.if_icmp .ne 7, 3) := by decide +kernel
theorem dX11_isWayBarred_57 : decode cX11_isWayBarred 57 = .ok (.iconst 1, 1) := by decide +kernel
theorem dX11_isWayBarred_58 : decode cX11_isWayBarred 58 = .ok (.goto 4, 3) := by decide +kernel
theorem dX11_isWayBarred_61 : decode cX11_isWayBarred 61 = .ok (.iconst 0, 1) := by decide +kernel
theorem dX11_isWayBarred_62 : decode cX11_isWayBarred 62 = .ok (.istore 6, 2) := by decide +kernel
theorem dX11_isWayBarred_64 : decode cX11_isWayBarred 64 = .ok (.iload 4, 2) := by decide +kernel
theorem dX11_isWayBarred_66 : decode cX11_isWayBarred 66 = .ok (.ifCond .ne 51, 3) := by decide +kernel
theorem dX11_isWayBarred_69 : decode cX11_isWayBarred 69 = .ok (.iload 6, 2) := by decide +kernel
theorem dX11_isWayBarred_71 : decode cX11_isWayBarred 71 = .ok (.ifCond .eq 50, 3) := by decide +kernel
theorem dX11_isWayBarred_74 : decode cX11_isWayBarred 74 = .ok (.aload_n 0, 1) := by decide +kernel
theorem dX11_isWayBarred_75 : decode cX11_isWayBarred 75 = .ok (.getfield 78, 3) := by decide +kernel
theorem dX11_isWayBarred_78 : decode cX11_isWayBarred 78 = .ok (.iload 5, 2) := by decide +kernel
theorem dX11_isWayBarred_80 : decode cX11_isWayBarred 80 = .ok (.iaload, 1) := by decide +kernel
theorem dX11_isWayBarred_81 : decode cX11_isWayBarred 81 = .ok (.ifCond .eq 36, 3) := by decide +kernel
theorem dX11_isWayBarred_84 : decode cX11_isWayBarred 84 = .ok (.ldc2_w 217, 3) := by decide +kernel
theorem dX11_isWayBarred_87 : decode cX11_isWayBarred 87 = .ok (.aload_n 0, 1) := by decide +kernel
theorem dX11_isWayBarred_88 : decode cX11_isWayBarred 88 = .ok (.getfield 35, 3) := by decide +kernel
theorem dX11_isWayBarred_91 : decode cX11_isWayBarred 91 = .ok (.aload_n 0, 1) := by decide +kernel
theorem dX11_isWayBarred_92 : decode cX11_isWayBarred 92 = .ok (.getfield 84, 3) := by decide +kernel
theorem dX11_isWayBarred_95 : decode cX11_isWayBarred 95 = .ok (.iload 5, 2) := by decide +kernel
theorem dX11_isWayBarred_97 : decode cX11_isWayBarred 97 = .ok (.iaload, 1) := by decide +kernel
theorem dX11_isWayBarred_98 : decode cX11_isWayBarred 98 = .ok (.iaload, 1) := by decide +kernel
theorem dX11_isWayBarred_99 : decode cX11_isWayBarred 99 = .ok (.i2l, 1) := by decide +kernel
theorem dX11_isWayBarred_100 : decode cX11_isWayBarred 100 = .ok (.lmul, 1) := by decide +kernel
theorem dX11_isWayBarred_101 : decode cX11_isWayBarred 101 = .ok (.ldc2_w 171, 3) := by decide +kernel
theorem dX11_isWayBarred_104 : decode cX11_isWayBarred 104 = .ok (.aload_n 0, 1) := by decide +kernel
theorem dX11_isWayBarred_105 : decode cX11_isWayBarred 105 = .ok (.getfield 87, 3) := by decide +kernel
theorem dX11_isWayBarred_108 : decode cX11_isWayBarred 108 = .ok (.iload 5, 2) := by decide +kernel
theorem dX11_isWayBarred_110 : decode cX11_isWayBarred 110 = .ok (.iaload, 1) := by decide +kernel
theorem dX11_isWayBarred_111 : decode cX11_isWayBarred 111 = .ok (.i2l, 1) := by decide +kernel
theorem dX11_isWayBarred_112 : decode cX11_isWayBarred 112 = .ok (.lmul, 1) := by decide +kernel
theorem dX11_isWayBarred_113 : decode cX11_isWayBarred 113 = .ok (.lcmp, 1) := by decide +kernel
theorem dX11_isWayBarred_114 : decode cX11_isWayBarred 114 = .ok (.ifCond .lt 7, 3) := by decide +kernel
theorem dX11_isWayBarred_117 : decode cX11_isWayBarred 117 = .ok (.iconst 1, 1) := by decide +kernel
theorem dX11_isWayBarred_118 : decode cX11_isWayBarred 118 = .ok (.goto 4, 3) := by decide +kernel
theorem dX11_isWayBarred_121 : decode cX11_isWayBarred 121 = .ok (.iconst 0, 1) := by decide +kernel
theorem dX11_isWayBarred_122 : decode cX11_isWayBarred 122 = .ok (.istore 4, 2) := by decide +kernel
theorem dX11_isWayBarred_124 : decode cX11_isWayBarred 124 = .ok (.iinc 5 1, 3) := by decide +kernel
theorem dX11_isWayBarred_127 : decode cX11_isWayBarred 127 = .ok (.goto (-108), 3) := by decide +kernel
theorem dX11_isWayBarred_130 : decode cX11_isWayBarred 130 = .ok (.iload 4, 2) := by decide +kernel
theorem dX11_isWayBarred_132 : decode cX11_isWayBarred 132 = .ok (.ireturn, 1) := by decide +kernel
theorem dX11_isKindBarred_0 : decode cX11_isKindBarred 0 = .ok (.iconst 0, 1) := by decide +kernel
theorem dX11_isKindBarred_1 : decode cX11_isKindBarred 1 = .ok (.istore 4, 2) := by decide +kernel
theorem dX11_isKindBarred_3 : decode cX11_isKindBarred 3 = .ok (.iconst 0, 1) := by decide +kernel
theorem dX11_isKindBarred_4 : decode cX11_isKindBarred 4 = .ok (.istore 5, 2) := by decide +kernel
theorem dX11_isKindBarred_6 : decode cX11_isKindBarred 6 = .ok (.iload 5, 2) := by decide +kernel
theorem dX11_isKindBarred_8 : decode cX11_isKindBarred 8 = .ok (.aload_n 0, 1) := by decide +kernel
theorem dX11_isKindBarred_9 : decode cX11_isKindBarred 9 = .ok (.getfield 182, 3) := by decide +kernel
theorem dX11_isKindBarred_12 : decode cX11_isKindBarred 12 = .ok (.if_icmp .ge 125, 3) := by decide +kernel
theorem dX11_isKindBarred_15 : decode cX11_isKindBarred 15 = .ok (.iload_n 2, 1) := by decide +kernel
theorem dX11_isKindBarred_16 : decode cX11_isKindBarred 16 = .ok (.iload 5, 2) := by decide +kernel
theorem dX11_isKindBarred_18 : decode cX11_isKindBarred 18 = .ok (.ishr, 1) := by decide +kernel
theorem dX11_isKindBarred_19 : decode cX11_isKindBarred 19 = .ok (.iconst 1, 1) := by decide +kernel
theorem dX11_isKindBarred_20 : decode cX11_isKindBarred 20 = .ok (.iand, 1) := by decide +kernel
theorem dX11_isKindBarred_21 : decode cX11_isKindBarred 21 = .ok (.iconst 1, 1) := by decide +kernel
theorem dX11_isKindBarred_22 : decode cX11_isKindBarred 22 = .ok (.if_icmp .ne 17, 3) := by decide +kernel
theorem dX11_isKindBarred_25 : decode cX11_isKindBarred 25 = .ok (.aload_n 0, 1) := by decide +kernel
theorem dX11_isKindBarred_26 : decode cX11_isKindBarred 26 = .ok (.iload_n 1, 1) := by decide +kernel
theorem dX11_isKindBarred_27 : decode cX11_isKindBarred 27 = .ok (.iload 5, 2) := by decide +kernel
theorem dX11_isKindBarred_29 : decode cX11_isKindBarred 29 = .ok (.invokevirtual 298, 3) := by decide +kernel
theorem dX11_isKindBarred_32 : decode cX11_isKindBarred 32 = .ok (.ifCond .ne 7, 3) := by decide +kernel
theorem dX11_isKindBarred_35 : decode cX11_isKindBarred 35 = .ok (.iconst 1, 1) := by decide +kernel
theorem dX11_isKindBarred_36 : decode cX11_isKindBarred 36 = .ok (.goto 4, 3) := by decide +kernel
theorem dX11_isKindBarred_39 : decode cX11_isKindBarred 39 = .ok (.iconst 0, 1) := by decide +kernel
theorem dX11_isKindBarred_40 : decode cX11_isKindBarred 40 = .ok (.istore 6, 2) := by decide +kernel
theorem dX11_isKindBarred_42 : decode cX11_isKindBarred 42 = .ok (.bipush 8, 2) := by decide +kernel
theorem dX11_isKindBarred_44 : decode cX11_isKindBarred 44 = .ok (.iload_n 1, 1) := by decide +kernel
theorem dX11_isKindBarred_45 : decode cX11_isKindBarred 45 = .ok (.imul, 1) := by decide +kernel
theorem dX11_isKindBarred_46 : decode cX11_isKindBarred 46 = .ok (.istore 7, 2) := by decide +kernel
theorem dX11_isKindBarred_48 : decode cX11_isKindBarred 48 = .ok (.iload 7, 2) := by decide +kernel
theorem dX11_isKindBarred_50 : decode cX11_isKindBarred 50 = .ok (.bipush 8, 2) := by decide +kernel
theorem dX11_isKindBarred_52 : decode cX11_isKindBarred 52 = .ok (.iload_n 1, 1) := by decide +kernel
theorem dX11_isKindBarred_53 : decode cX11_isKindBarred 53 = .ok (.imul, 1) := by decide +kernel
theorem dX11_isKindBarred_54 : decode cX11_isKindBarred 54 = .ok (.aload_n 0, 1) := by decide +kernel
theorem dX11_isKindBarred_55 : decode cX11_isKindBarred 55 = .ok (.getfield 75, 3) := by decide +kernel
theorem dX11_isKindBarred_58 : decode cX11_isKindBarred 58 = .ok (.iload_n 1, 1) := by decide +kernel
theorem dX11_isKindBarred_59 : decode cX11_isKindBarred 59 = .ok (.iaload, 1) := by decide +kernel
theorem dX11_isKindBarred_60 : decode cX11_isKindBarred 60 = .ok (.iadd, 1) := by decide +kernel
theorem dX11_isKindBarred_61 : decode cX11_isKindBarred 61 = .ok (.if_icmp .ge 70, 3) := by decide +kernel
theorem dX11_isKindBarred_64 : decode cX11_isKindBarred 64 = .ok (.iload 6, 2) := by decide +kernel
theorem dX11_isKindBarred_66 : decode cX11_isKindBarred 66 = .ok (.ifCond .eq 65, 3) := by decide +kernel
theorem dX11_isKindBarred_69 : decode cX11_isKindBarred 69 = .ok (.iload 4, 2) := by decide +kernel
theorem dX11_isKindBarred_71 : decode cX11_isKindBarred 71 = .ok (.ifCond .ne 47, 3) := by decide +kernel
theorem dX11_isKindBarred_74 : decode cX11_isKindBarred 74 = .ok (.aload_n 0, 1) := by decide +kernel
theorem dX11_isKindBarred_75 : decode cX11_isKindBarred 75 = .ok (.getfield 78, 3) := by decide +kernel
theorem dX11_isKindBarred_78 : decode cX11_isKindBarred 78 = .ok (.iload 7, 2) := by decide +kernel
theorem dX11_isKindBarred_80 : decode cX11_isKindBarred 80 = .ok (.iaload, 1) := by decide +kernel
theorem dX11_isKindBarred_81 : decode cX11_isKindBarred 81 = .ok (.iconst 2, 1) := by decide +kernel
theorem dX11_isKindBarred_82 : decode cX11_isKindBarred 82 = .ok (.if_icmp .ne 40, 3) := by decide +kernel
theorem dX11_isKindBarred_85 : decode cX11_isKindBarred 85 = .ok (.aload_n 0, 1) := by decide +kernel
theorem dX11_isKindBarred_86 : decode cX11_isKindBarred 86 = .ok (.getfield 81, 3) := by decide +kernel
theorem dX11_isKindBarred_89 : decode cX11_isKindBarred 89 = .ok (.iload 7, 2) := by decide +kernel
theorem dX11_isKindBarred_91 : decode cX11_isKindBarred 91 = .ok (.iaload, 1) := by decide +kernel
theorem dX11_isKindBarred_92 : decode cX11_isKindBarred 92 = .ok (.aload_n 0, 1) := by decide +kernel
theorem dX11_isKindBarred_93 : decode cX11_isKindBarred 93 = .ok (.getfield 44, 3) := by decide +kernel
theorem dX11_isKindBarred_96 : decode cX11_isKindBarred 96 = .ok (.iload 5, 2) := by decide +kernel
theorem dX11_isKindBarred_98 : decode cX11_isKindBarred 98 = .ok (.iaload, 1) := by decide +kernel
theorem dX11_isKindBarred_99 : decode cX11_isKindBarred 99 = .ok (.if_icmp .ne 23, 3) := by decide +kernel
theorem dX11_isKindBarred_102 : decode cX11_isKindBarred 102 = .ok (.aload_n 0, 1) := by decide +kernel
theorem dX11_isKindBarred_103 : decode cX11_isKindBarred 103 = .ok (.getfield 158, 3) := by decide +kernel
theorem dX11_isKindBarred_106 : decode cX11_isKindBarred 106 = .ok (.iload_n 3, 1) := by decide +kernel
theorem dX11_isKindBarred_107 : decode cX11_isKindBarred 107 = .ok (.iadd, 1) := by decide +kernel
theorem dX11_isKindBarred_108 : decode cX11_isKindBarred 108 = .ok (.aload_n 0, 1) := by decide +kernel
theorem dX11_isKindBarred_109 : decode cX11_isKindBarred 109 = .ok (.getfield 84, 3) := by decide +kernel
theorem dX11_isKindBarred_112 : decode cX11_isKindBarred 112 = .ok (.iload 7, 2) := by decide +kernel
theorem dX11_isKindBarred_114 : decode cX11_isKindBarred 114 = .ok (.iaload, 1) := by decide +kernel
theorem dX11_isKindBarred_115 : decode cX11_isKindBarred 115 = .ok (.if_icmp .le 7, 3) := by decide +kernel
theorem dX11_isKindBarred_118 : decode cX11_isKindBarred 118 = .ok (.iconst 1, 1) := by decide +kernel
theorem dX11_isKindBarred_119 : decode cX11_isKindBarred 119 = .ok (.goto 4, 3) := by decide +kernel
theorem dX11_isKindBarred_122 : decode cX11_isKindBarred 122 = .ok (.iconst 0, 1) := by decide +kernel
theorem dX11_isKindBarred_123 : decode cX11_isKindBarred 123 = .ok (.istore 4, 2) := by decide +kernel
theorem dX11_isKindBarred_125 : decode cX11_isKindBarred 125 = .ok (.iinc 7 1, 3) := by decide +kernel
theorem dX11_isKindBarred_128 : decode cX11_isKindBarred 128 = .ok (.goto (-80), 3) := by decide +kernel
theorem dX11_isKindBarred_131 : decode cX11_isKindBarred 131 = .ok (.iinc 5 1, 3) := by decide +kernel
theorem dX11_isKindBarred_134 : decode cX11_isKindBarred 134 = .ok (.goto (-128), 3) := by decide +kernel
theorem dX11_isKindBarred_137 : decode cX11_isKindBarred 137 = .ok (.iload 4, 2) := by decide +kernel
theorem dX11_isKindBarred_139 : decode cX11_isKindBarred 139 = .ok (.ireturn, 1) := by decide +kernel
theorem dX11_areMost_0 : decode cX11_areMost 0 = .ok (.iconst 0, 1) := by decide +kernel
theorem dX11_areMost_1 : decode cX11_areMost 1 = .ok (.istore 4, 2) := by decide +kernel
theorem dX11_areMost_3 : decode cX11_areMost 3 = .ok (.aload_n 0, 1) := by decide +kernel
theorem dX11_areMost_4 : decode cX11_areMost 4 = .ok (.getfield 158, 3) := by decide +kernel
theorem dX11_areMost_7 : decode cX11_areMost 7 = .ok (.iload_n 2, 1) := by decide +kernel
theorem dX11_areMost_8 : decode cX11_areMost 8 = .ok (.iadd, 1) := by decide +kernel
theorem dX11_areMost_9 : decode cX11_areMost 9 = .ok (.istore 5, 2) := by decide +kernel
theorem dX11_areMost_11 : decode cX11_areMost 11 = .ok (.bipush 8, 2) := by decide +kernel
theorem dX11_areMost_13 : decode cX11_areMost 13 = .ok (.iload_n 1, 1) := by decide +kernel
theorem dX11_areMost_14 : decode cX11_areMost 14 = .ok (.imul, 1) := by decide +kernel
theorem dX11_areMost_15 : decode cX11_areMost 15 = .ok (.istore 6, 2) := by decide +kernel
theorem dX11_areMost_17 : decode cX11_areMost 17 = .ok (.iload 6, 2) := by decide +kernel
theorem dX11_areMost_19 : decode cX11_areMost 19 = .ok (.bipush 8, 2) := by decide +kernel
theorem dX11_areMost_21 : decode cX11_areMost 21 = .ok (.iload_n 1, 1) := by decide +kernel
theorem dX11_areMost_22 : decode cX11_areMost 22 = .ok (.imul, 1) := by decide +kernel
theorem dX11_areMost_23 : decode cX11_areMost 23 = .ok (.aload_n 0, 1) := by decide +kernel
theorem dX11_areMost_24 : decode cX11_areMost 24 = .ok (.getfield 75, 3) := by decide +kernel
theorem dX11_areMost_27 : decode cX11_areMost 27 = .ok (.iload_n 1, 1) := by decide +kernel
theorem dX11_areMost_28 : decode cX11_areMost 28 = .ok (.iaload, 1) := by decide +kernel
theorem dX11_areMost_29 : decode cX11_areMost 29 = .ok (.iadd, 1) := by decide +kernel
theorem dX11_areMost_30 : decode cX11_areMost 30 = .ok (.if_icmp .ge 171, 3) := by decide +kernel
theorem dX11_areMost_33 : decode cX11_areMost 33 = .ok (.aload_n 0, 1) := by decide +kernel
theorem dX11_areMost_34 : decode cX11_areMost 34 = .ok (.getfield 78, 3) := by decide +kernel
theorem dX11_areMost_37 : decode cX11_areMost 37 = .ok (.iload 6, 2) := by decide +kernel
theorem dX11_areMost_39 : decode cX11_areMost 39 = .ok (.iaload, 1) := by decide +kernel
theorem dX11_areMost_40 : decode cX11_areMost 40 = .ok (.iconst 3, 1) := by decide +kernel
theorem dX11_areMost_41 : decode cX11_areMost 41 = .ok (.if_icmp .ne 154, 3) := by decide +kernel
theorem dX11_areMost_44 : decode cX11_areMost 44 = .ok (.iconst 0, 1) := by decide +kernel
theorem dX11_areMost_45 : decode cX11_areMost 45 = .ok (.istore 7, 2) := by decide +kernel
theorem dX11_areMost_47 : decode cX11_areMost 47 = .ok (.iconst 0, 1) := by decide +kernel
theorem dX11_areMost_48 : decode cX11_areMost 48 = .ok (.istore 8, 2) := by decide +kernel
theorem dX11_areMost_50 : decode cX11_areMost 50 = .ok (.iload 8, 2) := by decide +kernel
theorem dX11_areMost_52 : decode cX11_areMost 52 = .ok (.aload_n 0, 1) := by decide +kernel
theorem dX11_areMost_53 : decode cX11_areMost 53 = .ok (.getfield 195, 3) := by decide +kernel
theorem dX11_areMost_56 : decode cX11_areMost 56 = .ok (.if_icmp .ge 60, 3) := by decide +kernel
theorem dX11_areMost_59 : decode cX11_areMost 59 = .ok (.iload 7, 2) := by decide +kernel
theorem dX11_areMost_61 : decode cX11_areMost 61 = .ok (.aload_n 0, 1) := by decide +kernel
theorem dX11_areMost_62 : decode cX11_areMost 62 = .ok (.getfield 121, 3) := by decide +kernel
theorem dX11_areMost_65 : decode cX11_areMost 65 = .ok (.iload 8, 2) := by decide +kernel
theorem dX11_areMost_67 : decode cX11_areMost 67 = .ok (.iaload, 1) := by decide +kernel
theorem dX11_areMost_68 : decode cX11_areMost 68 = .ok (.iload_n 1, 1) := by decide +kernel
theorem dX11_areMost_69 : decode cX11_areMost 69 = .ok (.if_icmp .ne 37, 3) := by decide +kernel
theorem dX11_areMost_72 : decode cX11_areMost 72 = .ok (.aload_n 0, 1) := by decide +kernel
theorem dX11_areMost_73 : decode cX11_areMost 73 = .ok (.getfield 130, 3) := by decide +kernel
theorem dX11_areMost_76 : decode cX11_areMost 76 = .ok (.iload 8, 2) := by decide +kernel
theorem dX11_areMost_78 : decode cX11_areMost 78 = .ok (.iaload, 1) := by decide +kernel
theorem dX11_areMost_79 : decode cX11_areMost 79 = .ok (.i2l, 1) := by decide +kernel
theorem dX11_areMost_80 : decode cX11_areMost 80 = .ok (.iload 5, 2) := by decide +kernel
theorem dX11_areMost_82 : decode cX11_areMost 82 = .ok (.aload_n 0, 1) := by decide +kernel
theorem dX11_areMost_83 : decode cX11_areMost 83 = .ok (.getfield 84, 3) := by decide +kernel
theorem dX11_areMost_86 : decode cX11_areMost 86 = .ok (.iload 6, 2) := by decide +kernel
theorem dX11_areMost_88 : decode cX11_areMost 88 = .ok (.iaload, 1) := by decide +kernel
theorem dX11_areMost_89 : decode cX11_areMost 89 = .ok (.isub, 1) := by decide +kernel
theorem dX11_areMost_90 : decode cX11_areMost 90 = .ok (.iconst 1, 1) := by decide +kernel
theorem dX11_areMost_91 : decode cX11_areMost 91 = .ok (.iadd, 1) := by decide +kernel
theorem dX11_areMost_92 : decode cX11_areMost 92 = .ok (.i2l, 1) := by decide +kernel
theorem dX11_areMost_93 : decode cX11_areMost 93 = .ok (.iload 5, 2) := by decide +kernel
theorem dX11_areMost_95 : decode cX11_areMost 95 = .ok (.i2l, 1) := by decide +kernel
theorem dX11_areMost_96 : decode cX11_areMost 96 = .ok (.invokestatic 138, 3) := by decide +kernel
theorem dX11_areMost_99 : decode cX11_areMost 99 = .ok (.ifCond .eq 7, 3) := by decide +kernel
theorem dX11_areMost_102 : decode cX11_areMost 102 = .ok (.iconst 1, 1) := by decide +kernel
theorem dX11_areMost_103 : decode cX11_areMost 103 = .ok (.goto 4, 3) := by decide +kernel
theorem dX11_areMost_106 : decode cX11_areMost 106 = .ok (.iconst 0, 1) := by decide +kernel
theorem dX11_areMost_107 : decode cX11_areMost 107 = .ok (.iadd, 1) := by decide +kernel
theorem dX11_areMost_108 : decode cX11_areMost 108 = .ok (.istore 7, 2) := by decide +kernel
theorem dX11_areMost_110 : decode cX11_areMost 110 = .ok (.iinc 8 1, 3) := by decide +kernel
theorem dX11_areMost_113 : decode cX11_areMost 113 = .ok (.goto (-63), 3) := by decide +kernel
theorem dX11_areMost_116 : decode cX11_areMost 116 = .ok (.iconst 0, 1) := by decide +kernel
theorem dX11_areMost_117 : decode cX11_areMost 117 = .ok (.istore 8, 2) := by decide +kernel
theorem dX11_areMost_119 : decode cX11_areMost 119 = .ok (.iload 8, 2) := by decide +kernel
theorem dX11_areMost_121 : decode cX11_areMost 121 = .ok (.iload_n 2, 1) := by decide +kernel
theorem dX11_areMost_122 : decode cX11_areMost 122 = .ok (.if_icmp .ge 49, 3) := by decide +kernel
theorem dX11_areMost_125 : decode cX11_areMost 125 = .ok (.iload 7, 2) := by decide +kernel
theorem dX11_areMost_127 : decode cX11_areMost 127 = .ok (.iload_n 3, 1) := by decide +kernel
theorem dX11_areMost_128 : decode cX11_areMost 128 = .ok (.iload 8, 2) := by decide +kernel
theorem dX11_areMost_130 : decode cX11_areMost 130 = .ok (.ishr, 1) := by decide +kernel
theorem dX11_areMost_131 : decode cX11_areMost 131 = .ok (.iconst 1, 1) := by decide +kernel
theorem dX11_areMost_132 : decode cX11_areMost 132 = .ok (.iand, 1) := by decide +kernel
theorem dX11_areMost_133 : decode cX11_areMost 133 = .ok (.iconst 1, 1) := by decide +kernel
theorem dX11_areMost_134 : decode cX11_areMost 134 = .ok (.if_icmp .ne 27, 3) := by decide +kernel
theorem dX11_areMost_137 : decode cX11_areMost 137 = .ok (.aload_n 0, 1) := by decide +kernel
theorem dX11_areMost_138 : decode cX11_areMost 138 = .ok (.getfield 158, 3) := by decide +kernel
theorem dX11_areMost_141 : decode cX11_areMost 141 = .ok (.iload 8, 2) := by decide +kernel
theorem dX11_areMost_143 : decode cX11_areMost 143 = .ok (.iadd, 1) := by decide +kernel
theorem dX11_areMost_144 : decode cX11_areMost 144 = .ok (.iload 5, 2) := by decide +kernel
theorem dX11_areMost_146 : decode cX11_areMost 146 = .ok (.aload_n 0, 1) := by decide +kernel
theorem dX11_areMost_147 : decode cX11_areMost 147 = .ok (.getfield 84, 3) := by decide +kernel
theorem dX11_areMost_150 : decode cX11_areMost 150 = .ok (.iload 6, 2) := by decide +kernel
theorem dX11_areMost_152 : decode cX11_areMost 152 = .ok (.iaload, 1) := by decide +kernel
theorem dX11_areMost_153 : decode cX11_areMost 153 = .ok (.isub, 1) := by decide +kernel
theorem dX11_areMost_154 : decode cX11_areMost 154 = .ok (.if_icmp .le 7, 3) := by decide +kernel
theorem dX11_areMost_157 : decode cX11_areMost 157 = .ok (.iconst 1, 1) := by decide +kernel
theorem dX11_areMost_158 : decode cX11_areMost 158 = .ok (.goto 4, 3) := by decide +kernel
theorem dX11_areMost_161 : decode cX11_areMost 161 = .ok (.iconst 0, 1) := by decide +kernel
theorem dX11_areMost_162 : decode cX11_areMost 162 = .ok (.iadd, 1) := by decide +kernel
theorem dX11_areMost_163 : decode cX11_areMost 163 = .ok (.istore 7, 2) := by decide +kernel
theorem dX11_areMost_165 : decode cX11_areMost 165 = .ok (.iinc 8 1, 3) := by decide +kernel
theorem dX11_areMost_168 : decode cX11_areMost 168 = .ok (.goto (-49), 3) := by decide +kernel
theorem dX11_areMost_171 : decode cX11_areMost 171 = .ok (.iload 4, 2) := by decide +kernel
theorem dX11_areMost_173 : decode cX11_areMost 173 = .ok (.ifCond .ne 15, 3) := by decide +kernel
theorem dX11_areMost_176 : decode cX11_areMost 176 = .ok (.iload 7, 2) := by decide +kernel
theorem dX11_areMost_178 : decode cX11_areMost 178 = .ok (.aload_n 0, 1) := by decide +kernel
theorem dX11_areMost_179 : decode cX11_areMost 179 = .ok (.getfield 81, 3) := by decide +kernel
theorem dX11_areMost_182 : decode cX11_areMost 182 = .ok (.iload 6, 2) := by decide +kernel
theorem dX11_areMost_184 : decode cX11_areMost 184 = .ok (.iaload, 1) := by decide +kernel
theorem dX11_areMost_185 : decode cX11_areMost 185 = .ok (.if_icmp .lt 7, 3) := by decide +kernel
theorem dX11_areMost_188 : decode cX11_areMost 188 = .ok (.iconst 1, 1) := by decide +kernel
theorem dX11_areMost_189 : decode cX11_areMost 189 = .ok (.goto 4, 3) := by decide +kernel
theorem dX11_areMost_192 : decode cX11_areMost 192 = .ok (.iconst 0, 1) := by decide +kernel
theorem dX11_areMost_193 : decode cX11_areMost 193 = .ok (.istore 4, 2) := by decide +kernel
theorem dX11_areMost_195 : decode cX11_areMost 195 = .ok (.iinc 6 1, 3) := by decide +kernel
theorem dX11_areMost_198 : decode cX11_areMost 198 = .ok (.goto (-181), 3) := by decide +kernel
theorem dX11_areMost_201 : decode cX11_areMost 201 = .ok (.iload 4, 2) := by decide +kernel
theorem dX11_areMost_203 : decode cX11_areMost 203 = .ok (.ireturn, 1) := by decide +kernel
theorem dX11_barring_0 : decode cX11_barring 0 = .ok (.aload_n 0, 1) := by decide +kernel
theorem dX11_barring_1 : decode cX11_barring 1 = .ok (.iload_n 1, 1) := by decide +kernel
theorem dX11_barring_2 : decode cX11_barring 2 = .ok (.iload_n 2, 1) := by decide +kernel
theorem dX11_barring_3 : decode cX11_barring 3 = .ok (.invokevirtual 302, 3) := by decide +kernel
theorem dX11_barring_6 : decode cX11_barring 6 = .ok (.istore 6, 2) := by decide +kernel
theorem dX11_barring_8 : decode cX11_barring 8 = .ok (.iload 6, 2) := by decide +kernel
theorem dX11_barring_10 : decode cX11_barring 10 = .ok (.ifCond .ne 16, 3) := by decide +kernel
theorem dX11_barring_13 : decode cX11_barring 13 = .ok (.aload_n 0, 1) := by decide +kernel
theorem dX11_barring_14 : decode cX11_barring 14 = .ok (.iload_n 1, 1) := by decide +kernel
theorem dX11_barring_15 : decode cX11_barring 15 = .ok (.iload_n 3, 1) := by decide +kernel
theorem dX11_barring_16 : decode cX11_barring 16 = .ok (.iload 4, 2) := by decide +kernel
theorem dX11_barring_18 : decode cX11_barring 18 = .ok (.invokevirtual 305, 3) := by decide +kernel
theorem dX11_barring_21 : decode cX11_barring 21 = .ok (.ifCond .eq 5, 3) := by decide +kernel
theorem dX11_barring_24 : decode cX11_barring 24 = .ok (.iconst 1, 1) := by decide +kernel
theorem dX11_barring_25 : decode cX11_barring 25 = .ok (.ireturn, 1) := by decide +kernel
theorem dX11_barring_26 : decode cX11_barring 26 = .ok (.aload_n 0, 1) := by decide +kernel
theorem dX11_barring_27 : decode cX11_barring 27 = .ok (.iload_n 1, 1) := by decide +kernel
theorem dX11_barring_28 : decode cX11_barring 28 = .ok (.iload_n 2, 1) := by decide +kernel
theorem dX11_barring_29 : decode cX11_barring 29 = .ok (.iload 4, 2) := by decide +kernel
theorem dX11_barring_31 : decode cX11_barring 31 = .ok (.invokevirtual 309, 3) := by decide +kernel
theorem dX11_barring_34 : decode cX11_barring 34 = .ok (.ifCond .eq 5, 3) := by decide +kernel
theorem dX11_barring_37 : decode cX11_barring 37 = .ok (.iconst 2, 1) := by decide +kernel
theorem dX11_barring_38 : decode cX11_barring 38 = .ok (.ireturn, 1) := by decide +kernel
theorem dX11_barring_39 : decode cX11_barring 39 = .ok (.iload 6, 2) := by decide +kernel
theorem dX11_barring_41 : decode cX11_barring 41 = .ok (.ifCond .ne 19, 3) := by decide +kernel
theorem dX11_barring_44 : decode cX11_barring 44 = .ok (.aload_n 0, 1) := by decide +kernel
theorem dX11_barring_45 : decode cX11_barring 45 = .ok (.iload_n 1, 1) := by decide +kernel
theorem dX11_barring_46 : decode cX11_barring 46 = .ok (.iload 4, 2) := by decide +kernel
theorem dX11_barring_48 : decode cX11_barring 48 = .ok (.iload 5, 2) := by decide +kernel
theorem dX11_barring_50 : decode cX11_barring 50 = .ok (.invokevirtual 312, 3) := by decide +kernel
theorem dX11_barring_53 : decode cX11_barring 53 = .ok (.ifCond .eq 7, 3) := by decide +kernel
theorem dX11_barring_56 : decode cX11_barring 56 = .ok (.iconst 3, 1) := by decide +kernel
theorem dX11_barring_57 : decode cX11_barring 57 = .ok (.goto 4, 3) := by decide +kernel
theorem dX11_barring_60 : decode cX11_barring 60 = .ok (.iconst 0, 1) := by decide +kernel
theorem dX11_barring_61 : decode cX11_barring 61 = .ok (.ireturn, 1) := by decide +kernel
theorem dX11_areThings_0 : decode cX11_areThings 0 = .ok (.iload_n 1, 1) := by decide +kernel
theorem dX11_areThings_1 : decode cX11_areThings 1 = .ok (.i2l, 1) := by decide +kernel
theorem dX11_areThings_2 : decode cX11_areThings 2 = .ok (.lconst 1, 1) := by decide +kernel
theorem dX11_areThings_3 : decode cX11_areThings 3 = .ok (.iconst 1, 1) := by decide +kernel
theorem dX11_areThings_4 : decode cX11_areThings 4 = .ok (.aload_n 0, 1) := by decide +kernel
theorem dX11_areThings_5 : decode cX11_areThings 5 = .ok (.getfield 182, 3) := by decide +kernel
theorem dX11_areThings_8 : decode cX11_areThings 8 = .ok (.ishl, 1) := by decide +kernel
theorem dX11_areThings_9 : decode cX11_areThings 9 = .ok (.iconst 1, 1) := by decide +kernel
theorem dX11_areThings_10 : decode cX11_areThings 10 = .ok (.isub, 1) := by decide +kernel
theorem dX11_areThings_11 : decode cX11_areThings 11 = .ok (.i2l, 1) := by decide +kernel
theorem dX11_areThings_12 : decode cX11_areThings 12 = .ok (.invokestatic 138, 3) := by decide +kernel
theorem dX11_areThings_15 : decode cX11_areThings 15 = .ok (.ireturn, 1) := by decide +kernel
theorem dX11_barred_0 : decode cX11_barred 0 = .ok (.iload_n 1, 1) := by decide +kernel
theorem dX11_barred_1 : decode cX11_barred 1 = .ok (.invokestatic 153, 3) := by decide +kernel
theorem dX11_barred_4 : decode cX11_barred 4 = .ok (.ifCond .eq 11, 3) := by decide +kernel
theorem dX11_barred_7 : decode cX11_barred 7 = .ok (.aload_n 0, 1) := by decide +kernel
theorem dX11_barred_8 : decode cX11_barred 8 = .ok (.iload_n 2, 1) := by decide +kernel
theorem dX11_barred_9 : decode cX11_barred 9 = .ok (.invokevirtual 315, 3) := by decide +kernel
theorem dX11_barred_12 : decode cX11_barred 12 = .ok (.ifCond .ne 7, 3) := by decide +kernel
theorem dX11_barred_15 : decode cX11_barred 15 = .ok (.sipush (-1001), 3) := by decide +kernel
theorem dX11_barred_18 : decode cX11_barred 18 = .ok (.ireturn, 1) := by decide +kernel
theorem dX11_barred_19 : decode cX11_barred 19 = .ok (.iload_n 3, 1) := by decide +kernel
theorem dX11_barred_20 : decode cX11_barred 20 = .ok (.invokestatic 214, 3) := by decide +kernel
theorem dX11_barred_23 : decode cX11_barred 23 = .ok (.ifCond .eq 15, 3) := by decide +kernel
theorem dX11_barred_26 : decode cX11_barred 26 = .ok (.aload_n 0, 1) := by decide +kernel
theorem dX11_barred_27 : decode cX11_barred 27 = .ok (.iload_n 1, 1) := by decide +kernel
theorem dX11_barred_28 : decode cX11_barred 28 = .ok (.iload_n 2, 1) := by decide +kernel
theorem dX11_barred_29 : decode cX11_barred 29 = .ok (.iload_n 3, 1) := by decide +kernel
theorem dX11_barred_30 : decode cX11_barred 30 = .ok (.iconst 0, 1) := by decide +kernel
theorem dX11_barred_31 : decode cX11_barred 31 = .ok (.iconst 0, 1) := by decide +kernel
theorem dX11_barred_32 : decode cX11_barred 32 = .ok (.invokevirtual 318, 3) := by decide +kernel
theorem dX11_barred_35 : decode cX11_barred 35 = .ok (.goto 6, 3) := by decide +kernel
theorem dX11_barred_38 : decode cX11_barred 38 = .ok (.sipush (-1002), 3) := by decide +kernel
theorem dX11_barred_41 : decode cX11_barred 41 = .ok (.ireturn, 1) := by decide +kernel
theorem dX11_setOf_0 : decode cX11_setOf 0 = .ok (.iconst 0, 1) := by decide +kernel
theorem dX11_setOf_1 : decode cX11_setOf 1 = .ok (.istore_n 2, 1) := by decide +kernel
theorem dX11_setOf_2 : decode cX11_setOf 2 = .ok (.iconst 0, 1) := by decide +kernel
theorem dX11_setOf_3 : decode cX11_setOf 3 = .ok (.istore_n 3, 1) := by decide +kernel
theorem dX11_setOf_4 : decode cX11_setOf 4 = .ok (.iload_n 3, 1) := by decide +kernel
theorem dX11_setOf_5 : decode cX11_setOf 5 = .ok (.aload_n 0, 1) := by decide +kernel
theorem dX11_setOf_6 : decode cX11_setOf 6 = .ok (.getfield 322, 3) := by decide +kernel
theorem dX11_setOf_9 : decode cX11_setOf 9 = .ok (.if_icmp .ge 24, 3) := by decide +kernel
theorem dX11_setOf_12 : decode cX11_setOf 12 = .ok (.iload_n 2, 1) := by decide +kernel
theorem dX11_setOf_13 : decode cX11_setOf 13 = .ok (.iload_n 1, 1) := by decide +kernel
theorem dX11_setOf_14 : decode cX11_setOf 14 = .ok (.iload_n 3, 1) := by decide +kernel
theorem dX11_setOf_15 : decode cX11_setOf 15 = .ok (.ishr, 1) := by decide +kernel
theorem dX11_setOf_16 : decode cX11_setOf 16 = .ok (.iconst 1, 1) := by decide +kernel
theorem dX11_setOf_17 : decode cX11_setOf 17 = .ok (.iand, 1) := by decide +kernel
theorem dX11_setOf_18 : decode cX11_setOf 18 = .ok (.aload_n 0, 1) := by decide +kernel
theorem dX11_setOf_19 : decode cX11_setOf 19 = .ok (.getfield 109, 3) := by decide +kernel
theorem dX11_setOf_22 : decode cX11_setOf 22 = .ok (.iload_n 3, 1) := by decide +kernel
theorem dX11_setOf_23 : decode cX11_setOf 23 = .ok (.iaload, 1) := by decide +kernel
theorem dX11_setOf_24 : decode cX11_setOf 24 = .ok (.ishl, 1) := by decide +kernel
theorem dX11_setOf_25 : decode cX11_setOf 25 = .ok (.ior, 1) := by decide +kernel
theorem dX11_setOf_26 : decode cX11_setOf 26 = .ok (.istore_n 2, 1) := by decide +kernel
theorem dX11_setOf_27 : decode cX11_setOf 27 = .ok (.iinc 3 1, 3) := by decide +kernel
theorem dX11_setOf_30 : decode cX11_setOf 30 = .ok (.goto (-26), 3) := by decide +kernel
theorem dX11_setOf_33 : decode cX11_setOf 33 = .ok (.iload_n 2, 1) := by decide +kernel
theorem dX11_setOf_34 : decode cX11_setOf 34 = .ok (.ireturn, 1) := by decide +kernel
theorem dX11_isOneMatter_0 : decode cX11_isOneMatter 0 = .ok (.iconst (-1), 1) := by decide +kernel
theorem dX11_isOneMatter_1 : decode cX11_isOneMatter 1 = .ok (.istore_n 2, 1) := by decide +kernel
theorem dX11_isOneMatter_2 : decode cX11_isOneMatter 2 = .ok (.iconst 1, 1) := by decide +kernel
theorem dX11_isOneMatter_3 : decode cX11_isOneMatter 3 = .ok (.istore_n 3, 1) := by decide +kernel
theorem dX11_isOneMatter_4 : decode cX11_isOneMatter 4 = .ok (.iconst 0, 1) := by decide +kernel
theorem dX11_isOneMatter_5 : decode cX11_isOneMatter 5 = .ok (.istore 4, 2) := by decide +kernel
theorem dX11_isOneMatter_7 : decode cX11_isOneMatter 7 = .ok (.iload 4, 2) := by decide +kernel
theorem dX11_isOneMatter_9 : decode cX11_isOneMatter 9 = .ok (.aload_n 0, 1) := by decide +kernel
theorem dX11_isOneMatter_10 : decode cX11_isOneMatter 10 = .ok (.getfield 182, 3) := by decide +kernel
theorem dX11_isOneMatter_13 : decode cX11_isOneMatter 13 = .ok (.if_icmp .ge 52, 3) := by decide +kernel
theorem dX11_isOneMatter_16 : decode cX11_isOneMatter 16 = .ok (.iload_n 1, 1) := by decide +kernel
theorem dX11_isOneMatter_17 : decode cX11_isOneMatter 17 = .ok (.iload 4, 2) := by decide +kernel
theorem dX11_isOneMatter_19 : decode cX11_isOneMatter 19 = .ok (.ishr, 1) := by decide +kernel
theorem dX11_isOneMatter_20 : decode cX11_isOneMatter 20 = .ok (.iconst 1, 1) := by decide +kernel
theorem dX11_isOneMatter_21 : decode cX11_isOneMatter 21 = .ok (.iand, 1) := by decide +kernel
theorem dX11_isOneMatter_22 : decode cX11_isOneMatter 22 = .ok (.iconst 1, 1) := by decide +kernel
theorem dX11_isOneMatter_23 : decode cX11_isOneMatter 23 = .ok (.if_icmp .ne 36, 3) := by decide +kernel
theorem dX11_isOneMatter_26 : decode cX11_isOneMatter 26 = .ok (.iload_n 3, 1) := by decide +kernel
theorem dX11_isOneMatter_27 : decode cX11_isOneMatter 27 = .ok (.ifCond .eq 22, 3) := by decide +kernel
theorem dX11_isOneMatter_30 : decode cX11_isOneMatter 30 = .ok (.iload_n 2, 1) := by decide +kernel
theorem dX11_isOneMatter_31 : decode cX11_isOneMatter 31 = .ok (.ifCond .lt 14, 3) := by decide +kernel
theorem dX11_isOneMatter_34 : decode cX11_isOneMatter 34 = .ok (.aload_n 0, 1) := by decide +kernel
theorem dX11_isOneMatter_35 : decode cX11_isOneMatter 35 = .ok (.getfield 47, 3) := by decide +kernel
theorem dX11_isOneMatter_38 : decode cX11_isOneMatter 38 = .ok (.iload 4, 2) := by decide +kernel
theorem dX11_isOneMatter_40 : decode cX11_isOneMatter 40 = .ok (.iaload, 1) := by decide +kernel
theorem dX11_isOneMatter_41 : decode cX11_isOneMatter 41 = .ok (.iload_n 2, 1) := by decide +kernel
theorem dX11_isOneMatter_42 : decode cX11_isOneMatter 42 = .ok (.if_icmp .ne 7, 3) := by decide +kernel
theorem dX11_isOneMatter_45 : decode cX11_isOneMatter 45 = .ok (.iconst 1, 1) := by decide +kernel
theorem dX11_isOneMatter_46 : decode cX11_isOneMatter 46 = .ok (.goto 4, 3) := by decide +kernel
theorem dX11_isOneMatter_49 : decode cX11_isOneMatter 49 = .ok (.iconst 0, 1) := by decide +kernel
theorem dX11_isOneMatter_50 : decode cX11_isOneMatter 50 = .ok (.istore_n 3, 1) := by decide +kernel
theorem dX11_isOneMatter_51 : decode cX11_isOneMatter 51 = .ok (.aload_n 0, 1) := by decide +kernel
theorem dX11_isOneMatter_52 : decode cX11_isOneMatter 52 = .ok (.getfield 47, 3) := by decide +kernel
theorem dX11_isOneMatter_55 : decode cX11_isOneMatter 55 = .ok (.iload 4, 2) := by decide +kernel
theorem dX11_isOneMatter_57 : decode cX11_isOneMatter 57 = .ok (.iaload, 1) := by decide +kernel
theorem dX11_isOneMatter_58 : decode cX11_isOneMatter 58 = .ok (.istore_n 2, 1) := by decide +kernel
theorem dX11_isOneMatter_59 : decode cX11_isOneMatter 59 = .ok (.iinc 4 1, 3) := by decide +kernel
theorem dX11_isOneMatter_62 : decode cX11_isOneMatter 62 = .ok (.goto (-55), 3) := by decide +kernel
theorem dX11_isOneMatter_65 : decode cX11_isOneMatter 65 = .ok (.iload_n 3, 1) := by decide +kernel
theorem dX11_isOneMatter_66 : decode cX11_isOneMatter 66 = .ok (.ireturn, 1) := by decide +kernel
theorem dX11_findGain_0 : decode cX11_findGain 0 = .ok (.aload_n 0, 1) := by decide +kernel
theorem dX11_findGain_1 : decode cX11_findGain 1 = .ok (.iload_n 3, 1) := by decide +kernel
theorem dX11_findGain_2 : decode cX11_findGain 2 = .ok (.invokevirtual 325, 3) := by decide +kernel
theorem dX11_findGain_5 : decode cX11_findGain 5 = .ok (.istore 4, 2) := by decide +kernel
theorem dX11_findGain_7 : decode cX11_findGain 7 = .ok (.bipush 64, 2) := by decide +kernel
theorem dX11_findGain_9 : decode cX11_findGain 9 = .ok (.iload_n 2, 1) := by decide +kernel
theorem dX11_findGain_10 : decode cX11_findGain 10 = .ok (.imul, 1) := by decide +kernel
theorem dX11_findGain_11 : decode cX11_findGain 11 = .ok (.iload_n 3, 1) := by decide +kernel
theorem dX11_findGain_12 : decode cX11_findGain 12 = .ok (.iadd, 1) := by decide +kernel
theorem dX11_findGain_13 : decode cX11_findGain 13 = .ok (.istore 5, 2) := by decide +kernel
theorem dX11_findGain_15 : decode cX11_findGain 15 = .ok (.aload_n 0, 1) := by decide +kernel
theorem dX11_findGain_16 : decode cX11_findGain 16 = .ok (.getfield 118, 3) := by decide +kernel
theorem dX11_findGain_19 : decode cX11_findGain 19 = .ok (.iload 5, 2) := by decide +kernel
theorem dX11_findGain_21 : decode cX11_findGain 21 = .ok (.iconst (-1), 1) := by decide +kernel
theorem dX11_findGain_22 : decode cX11_findGain 22 = .ok (.iastore, 1) := by decide +kernel
theorem dX11_findGain_23 : decode cX11_findGain 23 = .ok (.aload_n 0, 1) := by decide +kernel
theorem dX11_findGain_24 : decode cX11_findGain 24 = .ok (.getfield 115, 3) := by decide +kernel
theorem dX11_findGain_27 : decode cX11_findGain 27 = .ok (.iload 5, 2) := by decide +kernel
theorem dX11_findGain_29 : decode cX11_findGain 29 = .ok (.ldc_w 328, 3) := by decide +kernel
theorem dX11_findGain_32 : decode cX11_findGain 32 = .ok (.iastore, 1) := by decide +kernel
theorem dX11_findGain_33 : decode cX11_findGain 33 = .ok (.aload_n 0, 1) := by decide +kernel
theorem dX11_findGain_34 : decode cX11_findGain 34 = .ok (.iload 4, 2) := by decide +kernel
theorem dX11_findGain_36 : decode cX11_findGain 36 = .ok (.invokevirtual 329, 3) := by decide +kernel
theorem dX11_findGain_39 : decode cX11_findGain 39 = .ok (.ifCond .eq 14, 3) := by decide +kernel
theorem dX11_findGain_42 : decode cX11_findGain 42 = .ok (.aload_n 0, 1) := by decide +kernel
theorem dX11_findGain_43 : decode cX11_findGain 43 = .ok (.iload_n 1, 1) := by decide +kernel
theorem dX11_findGain_44 : decode cX11_findGain 44 = .ok (.iload 4, 2) := by decide +kernel
theorem dX11_findGain_46 : decode cX11_findGain 46 = .ok (.iload_n 2, 1) := by decide +kernel
theorem dX11_findGain_47 : decode cX11_findGain 47 = .ok (.invokevirtual 309, 3) := by decide +kernel
theorem dX11_findGain_50 : decode cX11_findGain 50 = .ok (.ifCond .eq 4, 3) := by decide +kernel
theorem dX11_findGain_53 : decode cX11_findGain 53 = .ok (.return_, 1) := by decide +kernel
theorem dX11_findGain_54 : decode cX11_findGain 54 = .ok (.iconst 0, 1) := by decide +kernel
theorem dX11_findGain_55 : decode cX11_findGain 55 = .ok (.istore 6, 2) := by decide +kernel
theorem dX11_findGain_57 : decode cX11_findGain 57 = .ok (.iconst 0, 1) := by decide +kernel
theorem dX11_findGain_58 : decode cX11_findGain 58 = .ok (.istore 7, 2) := by decide +kernel
theorem dX11_findGain_60 : decode cX11_findGain 60 = .ok (.iload 7, 2) := by decide +kernel
theorem dX11_findGain_62 : decode cX11_findGain 62 = .ok (.aload_n 0, 1) := by decide +kernel
theorem dX11_findGain_63 : decode cX11_findGain 63 = .ok (.getfield 322, 3) := by decide +kernel
theorem dX11_findGain_66 : decode cX11_findGain 66 = .ok (.if_icmp .ge 82, 3) := by decide +kernel
theorem dX11_findGain_69 : decode cX11_findGain 69 = .ok (.aload_n 0, 1) := by decide +kernel
theorem dX11_findGain_70 : decode cX11_findGain 70 = .ok (.getfield 109, 3) := by decide +kernel
theorem dX11_findGain_73 : decode cX11_findGain 73 = .ok (.iload 7, 2) := by decide +kernel
theorem dX11_findGain_75 : decode cX11_findGain 75 = .ok (.iaload, 1) := by decide +kernel
theorem dX11_findGain_76 : decode cX11_findGain 76 = .ok (.istore 8, 2) := by decide +kernel
theorem dX11_findGain_78 : decode cX11_findGain 78 = .ok (.aload_n 0, 1) := by decide +kernel
theorem dX11_findGain_79 : decode cX11_findGain 79 = .ok (.iload 8, 2) := by decide +kernel
theorem dX11_findGain_81 : decode cX11_findGain 81 = .ok (.iload_n 1, 1) := by decide +kernel
theorem dX11_findGain_82 : decode cX11_findGain 82 = .ok (.iload_n 2, 1) := by decide +kernel
theorem dX11_findGain_83 : decode cX11_findGain 83 = .ok (.invokevirtual 211, 3) := by decide +kernel
theorem dX11_findGain_86 : decode cX11_findGain 86 = .ok (.aload_n 0, 1) := by decide +kernel
theorem dX11_findGain_87 : decode cX11_findGain 87 = .ok (.iload 8, 2) := by decide +kernel
theorem dX11_findGain_89 : decode cX11_findGain 89 = .ok (.invokevirtual 332, 3) := by decide +kernel
theorem dX11_findGain_92 : decode cX11_findGain 92 = .ok (.ifCond .eq 25, 3) := by decide +kernel
theorem dX11_findGain_95 : decode cX11_findGain 95 = .ok (.aload_n 0, 1) := by decide +kernel
theorem dX11_findGain_96 : decode cX11_findGain 96 = .ok (.getfield 158, 3) := by decide +kernel
theorem dX11_findGain_99 : decode cX11_findGain 99 = .ok (.iload_n 2, 1) := by decide +kernel
theorem dX11_findGain_100 : decode cX11_findGain 100 = .ok (.iadd, 1) := by decide +kernel
theorem dX11_findGain_101 : decode cX11_findGain 101 = .ok (.aload_n 0, 1) := by decide +kernel
theorem dX11_findGain_102 : decode cX11_findGain 102 = .ok (.getfield 59, 3) := by decide +kernel
theorem dX11_findGain_105 : decode cX11_findGain 105 = .ok (.iload 8, 2) := by decide +kernel
theorem dX11_findGain_107 : decode cX11_findGain 107 = .ok (.iaload, 1) := by decide +kernel
theorem dX11_findGain_108 : decode cX11_findGain 108 = .ok (.if_icmp .gt 9, 3) := by decide +kernel
theorem dX11_findGain_111 : decode cX11_findGain 111 = .ok (.sipush 2000, 3) := by decide +kernel
theorem dX11_findGain_114 : decode cX11_findGain 114 = .ok (.goto 4, 3) := by decide +kernel
theorem dX11_findGain_117 : decode cX11_findGain 117 = .ok (.iconst 0, 1) := by decide +kernel
theorem dX11_findGain_118 : decode cX11_findGain 118 = .ok (.iadd, 1) := by decide +kernel
theorem dX11_findGain_119 : decode cX11_findGain 119 = .ok (.istore 9, 2) := by decide +kernel
theorem dX11_findGain_121 : decode cX11_findGain 121 = .ok (.iload 6, 2) := by decide +kernel
theorem dX11_findGain_123 : decode cX11_findGain 123 = .ok (.iload_n 3, 1) := by decide +kernel
theorem dX11_findGain_124 : decode cX11_findGain 124 = .ok (.iload 7, 2) := by decide +kernel
theorem dX11_findGain_126 : decode cX11_findGain 126 = .ok (.ishr, 1) := by decide +kernel
theorem dX11_findGain_127 : decode cX11_findGain 127 = .ok (.iconst 1, 1) := by decide +kernel
theorem dX11_findGain_128 : decode cX11_findGain 128 = .ok (.iand, 1) := by decide +kernel
theorem dX11_findGain_129 : decode cX11_findGain 129 = .ok (.iconst 1, 1) := by decide +kernel
theorem dX11_findGain_130 : decode cX11_findGain 130 = .ok (.if_icmp .ne 8, 3) := by decide +kernel
theorem dX11_findGain_133 : decode cX11_findGain 133 = .ok (.iload 9, 2) := by decide +kernel
theorem dX11_findGain_135 : decode cX11_findGain 135 = .ok (.goto 4, 3) := by decide +kernel
theorem dX11_findGain_138 : decode cX11_findGain 138 = .ok (.iconst 0, 1) := by decide +kernel
theorem dX11_findGain_139 : decode cX11_findGain 139 = .ok (.iadd, 1) := by decide +kernel
theorem dX11_findGain_140 : decode cX11_findGain 140 = .ok (.istore 6, 2) := by decide +kernel
theorem dX11_findGain_142 : decode cX11_findGain 142 = .ok (.iinc 7 1, 3) := by decide +kernel
theorem dX11_findGain_145 : decode cX11_findGain 145 = .ok (.goto (-85), 3) := by decide +kernel
theorem dX11_findGain_148 : decode cX11_findGain 148 = .ok (.iconst 0, 1) := by decide +kernel
theorem dX11_findGain_149 : decode cX11_findGain 149 = .ok (.istore 7, 2) := by decide +kernel
theorem dX11_findGain_151 : decode cX11_findGain 151 = .ok (.iload 7, 2) := by decide +kernel
theorem dX11_findGain_153 : decode cX11_findGain 153 = .ok (.iconst 4, 1) := by decide +kernel
theorem dX11_findGain_154 : decode cX11_findGain 154 = .ok (.if_icmp .ge 100, 3) := by decide +kernel
theorem dX11_findGain_157 : decode cX11_findGain 157 = .ok (.iload 6, 2) := by decide +kernel
theorem dX11_findGain_159 : decode cX11_findGain 159 = .ok (.aload_n 0, 1) := by decide +kernel
theorem dX11_findGain_160 : decode cX11_findGain 160 = .ok (.getfield 72, 3) := by decide +kernel
theorem dX11_findGain_163 : decode cX11_findGain 163 = .ok (.iload 7, 2) := by decide +kernel
theorem dX11_findGain_165 : decode cX11_findGain 165 = .ok (.iaload, 1) := by decide +kernel
theorem dX11_findGain_166 : decode cX11_findGain 166 = .ok (.imul, 1) := by decide +kernel
theorem dX11_findGain_167 : decode cX11_findGain 167 = .ok (.bipush 100, 2) := by decide +kernel
theorem dX11_findGain_169 : decode cX11_findGain 169 = .ok (.idiv, 1) := by decide +kernel
theorem dX11_findGain_170 : decode cX11_findGain 170 = .ok (.aload_n 0, 1) := by decide +kernel
theorem dX11_findGain_171 : decode cX11_findGain 171 = .ok (.iload_n 1, 1) := by decide +kernel
theorem dX11_findGain_172 : decode cX11_findGain 172 = .ok (.iload 7, 2) := by decide +kernel
theorem dX11_findGain_174 : decode cX11_findGain 174 = .ok (.aload_n 0, 1) := by decide +kernel
theorem dX11_findGain_175 : decode cX11_findGain 175 = .ok (.getfield 158, 3) := by decide +kernel
theorem dX11_findGain_178 : decode cX11_findGain 178 = .ok (.iload_n 2, 1) := by decide +kernel
theorem dX11_findGain_179 : decode cX11_findGain 179 = .ok (.invokevirtual 220, 3) := by decide +kernel
theorem dX11_findGain_182 : decode cX11_findGain 182 = .ok (.isub, 1) := by decide +kernel
theorem dX11_findGain_183 : decode cX11_findGain 183 = .ok (.istore 8, 2) := by decide +kernel
theorem dX11_findGain_185 : decode cX11_findGain 185 = .ok (.aload_n 0, 1) := by decide +kernel
theorem dX11_findGain_186 : decode cX11_findGain 186 = .ok (.iload_n 1, 1) := by decide +kernel
theorem dX11_findGain_187 : decode cX11_findGain 187 = .ok (.iload 4, 2) := by decide +kernel
theorem dX11_findGain_189 : decode cX11_findGain 189 = .ok (.invokevirtual 302, 3) := by decide +kernel
theorem dX11_findGain_192 : decode cX11_findGain 192 = .ok (.ifCond .ne 14, 3) := by decide +kernel
theorem dX11_findGain_195 : decode cX11_findGain 195 = .ok (.aload_n 0, 1) := by decide +kernel
theorem dX11_findGain_196 : decode cX11_findGain 196 = .ok (.iload_n 1, 1) := by decide +kernel
theorem dX11_findGain_197 : decode cX11_findGain 197 = .ok (.iload 7, 2) := by decide +kernel
theorem dX11_findGain_199 : decode cX11_findGain 199 = .ok (.iload_n 2, 1) := by decide +kernel
theorem dX11_findGain_200 : decode cX11_findGain 200 = .ok (.invokevirtual 305, 3) := by decide +kernel
theorem dX11_findGain_203 : decode cX11_findGain 203 = .ok (.ifCond .ne 7, 3) := by decide +kernel
theorem dX11_findGain_206 : decode cX11_findGain 206 = .ok (.iconst 1, 1) := by decide +kernel
theorem dX11_findGain_207 : decode cX11_findGain 207 = .ok (.goto 4, 3) := by decide +kernel
theorem dX11_findGain_210 : decode cX11_findGain 210 = .ok (.iconst 0, 1) := by decide +kernel
theorem dX11_findGain_211 : decode cX11_findGain 211 = .ok (.istore 9, 2) := by decide +kernel
theorem dX11_findGain_213 : decode cX11_findGain 213 = .ok (.iload 9, 2) := by decide +kernel
theorem dX11_findGain_215 : decode cX11_findGain 215 = .ok (.ifCond .eq 33, 3) := by decide +kernel
theorem dX11_findGain_218 : decode cX11_findGain 218 = .ok (.iload 8, 2) := by decide +kernel
theorem dX11_findGain_220 : decode cX11_findGain 220 = .ok (.aload_n 0, 1) := by decide +kernel
theorem dX11_findGain_221 : decode cX11_findGain 221 = .ok (.getfield 115, 3) := by decide +kernel
theorem dX11_findGain_224 : decode cX11_findGain 224 = .ok (.iload 5, 2) := by decide +kernel
theorem dX11_findGain_226 : decode cX11_findGain 226 = .ok (.iaload, 1) := by decide +kernel
theorem dX11_findGain_227 : decode cX11_findGain 227 = .ok (.if_icmp .le 21, 3) := by decide +kernel
theorem dX11_findGain_230 : decode cX11_findGain 230 = .ok (.aload_n 0, 1) := by decide +kernel
theorem dX11_findGain_231 : decode cX11_findGain 231 = .ok (.getfield 115, 3) := by decide +kernel
theorem dX11_findGain_234 : decode cX11_findGain 234 = .ok (.iload 5, 2) := by decide +kernel
theorem dX11_findGain_236 : decode cX11_findGain 236 = .ok (.iload 8, 2) := by decide +kernel
theorem dX11_findGain_238 : decode cX11_findGain 238 = .ok (.iastore, 1) := by decide +kernel
theorem dX11_findGain_239 : decode cX11_findGain 239 = .ok (.aload_n 0, 1) := by decide +kernel
theorem dX11_findGain_240 : decode cX11_findGain 240 = .ok (.getfield 118, 3) := by decide +kernel
theorem dX11_findGain_243 : decode cX11_findGain 243 = .ok (.iload 5, 2) := by decide +kernel
theorem dX11_findGain_245 : decode cX11_findGain 245 = .ok (.iload 7, 2) := by decide +kernel
theorem dX11_findGain_247 : decode cX11_findGain 247 = .ok (.iastore, 1) := by decide +kernel
theorem dX11_findGain_248 : decode cX11_findGain 248 = .ok (.iinc 7 1, 3) := by decide +kernel
theorem dX11_findGain_251 : decode cX11_findGain 251 = .ok (.goto (-100), 3) := by decide +kernel
theorem dX11_findGain_254 : decode cX11_findGain 254 = .ok (.return_, 1) := by decide +kernel
theorem dX11_place_0 : decode cX11_place 0 = .ok (.sipush 4096, 3) := by decide +kernel
theorem dX11_place_3 : decode cX11_place 3 = .ok (.iload_n 0, 1) := by decide +kernel
theorem dX11_place_4 : decode cX11_place 4 = .ok (.imul, 1) := by decide +kernel
theorem dX11_place_5 : decode cX11_place 5 = .ok (.bipush 64, 2) := by decide +kernel
theorem dX11_place_7 : decode cX11_place 7 = .ok (.iload_n 1, 1) := by decide +kernel
theorem dX11_place_8 : decode cX11_place 8 = .ok (.imul, 1) := by decide +kernel
theorem dX11_place_9 : decode cX11_place 9 = .ok (.iadd, 1) := by decide +kernel
theorem dX11_place_10 : decode cX11_place 10 = .ok (.iload_n 2, 1) := by decide +kernel
theorem dX11_place_11 : decode cX11_place 11 = .ok (.iadd, 1) := by decide +kernel
theorem dX11_place_12 : decode cX11_place 12 = .ok (.ireturn, 1) := by decide +kernel
theorem dX11_by_0 : decode cX11_by 0 = .ok (.bipush 64, 2) := by decide +kernel
theorem dX11_by_2 : decode cX11_by 2 = .ok (.iload_n 2, 1) := by decide +kernel
theorem dX11_by_3 : decode cX11_by 3 = .ok (.imul, 1) := by decide +kernel
theorem dX11_by_4 : decode cX11_by 4 = .ok (.iload 5, 2) := by decide +kernel
theorem dX11_by_6 : decode cX11_by 6 = .ok (.iadd, 1) := by decide +kernel
theorem dX11_by_7 : decode cX11_by 7 = .ok (.istore 6, 2) := by decide +kernel
theorem dX11_by_9 : decode cX11_by 9 = .ok (.aload_n 0, 1) := by decide +kernel
theorem dX11_by_10 : decode cX11_by 10 = .ok (.getfield 118, 3) := by decide +kernel
theorem dX11_by_13 : decode cX11_by 13 = .ok (.iload 6, 2) := by decide +kernel
theorem dX11_by_15 : decode cX11_by 15 = .ok (.iaload, 1) := by decide +kernel
theorem dX11_by_16 : decode cX11_by 16 = .ok (.ifCond .lt 32, 3) := by decide +kernel
theorem dX11_by_19 : decode cX11_by 19 = .ok (.aload_n 0, 1) := by decide +kernel
theorem dX11_by_20 : decode cX11_by 20 = .ok (.iload_n 1, 1) := by decide +kernel
theorem dX11_by_21 : decode cX11_by 21 = .ok (.aload_n 0, 1) := by decide +kernel
theorem dX11_by_22 : decode cX11_by 22 = .ok (.iload 5, 2) := by decide +kernel
theorem dX11_by_24 : decode cX11_by 24 = .ok (.invokevirtual 325, 3) := by decide +kernel
theorem dX11_by_27 : decode cX11_by 27 = .ok (.invokevirtual 302, 3) := by decide +kernel
theorem dX11_by_30 : decode cX11_by 30 = .ok (.ifCond .ne 14, 3) := by decide +kernel
theorem dX11_by_33 : decode cX11_by 33 = .ok (.aload_n 0, 1) := by decide +kernel
theorem dX11_by_34 : decode cX11_by 34 = .ok (.iload_n 1, 1) := by decide +kernel
theorem dX11_by_35 : decode cX11_by 35 = .ok (.iload_n 2, 1) := by decide +kernel
theorem dX11_by_36 : decode cX11_by 36 = .ok (.iload 4, 2) := by decide +kernel
theorem dX11_by_38 : decode cX11_by 38 = .ok (.invokevirtual 312, 3) := by decide +kernel
theorem dX11_by_41 : decode cX11_by 41 = .ok (.ifCond .ne 7, 3) := by decide +kernel
theorem dX11_by_44 : decode cX11_by 44 = .ok (.iconst 1, 1) := by decide +kernel
theorem dX11_by_45 : decode cX11_by 45 = .ok (.goto 4, 3) := by decide +kernel
theorem dX11_by_48 : decode cX11_by 48 = .ok (.iconst 0, 1) := by decide +kernel
theorem dX11_by_49 : decode cX11_by 49 = .ok (.istore 7, 2) := by decide +kernel
theorem dX11_by_51 : decode cX11_by 51 = .ok (.iload 7, 2) := by decide +kernel
theorem dX11_by_53 : decode cX11_by 53 = .ok (.ifCond .eq 37, 3) := by decide +kernel
theorem dX11_by_56 : decode cX11_by 56 = .ok (.aload_n 0, 1) := by decide +kernel
theorem dX11_by_57 : decode cX11_by 57 = .ok (.getfield 115, 3) := by decide +kernel
theorem dX11_by_60 : decode cX11_by 60 = .ok (.iload 6, 2) := by decide +kernel
theorem dX11_by_62 : decode cX11_by 62 = .ok (.iaload, 1) := by decide +kernel
theorem dX11_by_63 : decode cX11_by 63 = .ok (.aload_n 0, 1) := by decide +kernel
theorem dX11_by_64 : decode cX11_by 64 = .ok (.getfield 112, 3) := by decide +kernel
theorem dX11_by_67 : decode cX11_by 67 = .ok (.iload_n 2, 1) := by decide +kernel
theorem dX11_by_68 : decode cX11_by 68 = .ok (.iconst 1, 1) := by decide +kernel
theorem dX11_by_69 : decode cX11_by 69 = .ok (.iadd, 1) := by decide +kernel
theorem dX11_by_70 : decode cX11_by 70 = .ok (.iload_n 3, 1) := by decide +kernel
theorem dX11_by_71 : decode cX11_by 71 = .ok (.iload 5, 2) := by decide +kernel
theorem dX11_by_73 : decode cX11_by 73 = .ok (.iconst (-1), 1) := by decide +kernel
theorem dX11_by_74 : decode cX11_by 74 = .ok (.ixor, 1) := by decide +kernel
theorem dX11_by_75 : decode cX11_by 75 = .ok (.iand, 1) := by decide +kernel
theorem dX11_by_76 : decode cX11_by 76 = .ok (.iload 4, 2) := by decide +kernel
theorem dX11_by_78 : decode cX11_by 78 = .ok (.iconst 1, 1) := by decide +kernel
theorem dX11_by_79 : decode cX11_by 79 = .ok (.iload_n 2, 1) := by decide +kernel
theorem dX11_by_80 : decode cX11_by 80 = .ok (.ishl, 1) := by decide +kernel
theorem dX11_by_81 : decode cX11_by 81 = .ok (.ior, 1) := by decide +kernel
theorem dX11_by_82 : decode cX11_by 82 = .ok (.invokestatic 335, 3) := by decide +kernel
theorem dX11_by_85 : decode cX11_by 85 = .ok (.iaload, 1) := by decide +kernel
theorem dX11_by_86 : decode cX11_by 86 = .ok (.iadd, 1) := by decide +kernel
theorem dX11_by_87 : decode cX11_by 87 = .ok (.goto 6, 3) := by decide +kernel
theorem dX11_by_90 : decode cX11_by 90 = .ok (.ldc_w 328, 3) := by decide +kernel
theorem dX11_by_93 : decode cX11_by 93 = .ok (.ireturn, 1) := by decide +kernel
theorem dX11_findPlans_0 : decode cX11_findPlans 0 = .ok (.aload_n 0, 1) := by decide +kernel
theorem dX11_findPlans_1 : decode cX11_findPlans 1 = .ok (.iconst 0, 1) := by decide +kernel
theorem dX11_findPlans_2 : decode cX11_findPlans 2 = .ok (.putfield 322, 3) := by decide +kernel
theorem dX11_findPlans_5 : decode cX11_findPlans 5 = .ok (.iconst 0, 1) := by decide +kernel
theorem dX11_findPlans_6 : decode cX11_findPlans 6 = .ok (.istore_n 3, 1) := by decide +kernel
theorem dX11_findPlans_7 : decode cX11_findPlans 7 = .ok (.iload_n 3, 1) := by decide +kernel
theorem dX11_findPlans_8 : decode cX11_findPlans 8 = .ok (.aload_n 0, 1) := by decide +kernel
theorem dX11_findPlans_9 : decode cX11_findPlans 9 = .ok (.getfield 182, 3) := by decide +kernel
theorem dX11_findPlans_12 : decode cX11_findPlans 12 = .ok (.if_icmp .ge 60, 3) := by decide +kernel
theorem dX11_findPlans_15 : decode cX11_findPlans 15 = .ok (.aload_n 0, 1) := by decide +kernel
theorem dX11_findPlans_16 : decode cX11_findPlans 16 = .ok (.getfield 322, 3) := by decide +kernel
theorem dX11_findPlans_19 : decode cX11_findPlans 19 = .ok (.bipush 6, 2) := by decide +kernel
theorem dX11_findPlans_21 : decode cX11_findPlans 21 = .ok (.if_icmp .ge 51, 3) := by decide +kernel
theorem dX11_findPlans_24 : decode cX11_findPlans 24 = .ok (.aload_n 0, 1) := by decide +kernel
theorem dX11_findPlans_25 : decode cX11_findPlans 25 = .ok (.iload_n 3, 1) := by decide +kernel
theorem dX11_findPlans_26 : decode cX11_findPlans 26 = .ok (.invokevirtual 208, 3) := by decide +kernel
theorem dX11_findPlans_29 : decode cX11_findPlans 29 = .ok (.ifCond .ne 37, 3) := by decide +kernel
theorem dX11_findPlans_32 : decode cX11_findPlans 32 = .ok (.aload_n 0, 1) := by decide +kernel
theorem dX11_findPlans_33 : decode cX11_findPlans 33 = .ok (.getfield 41, 3) := by decide +kernel
theorem dX11_findPlans_36 : decode cX11_findPlans 36 = .ok (.iload_n 3, 1) := by decide +kernel
theorem dX11_findPlans_37 : decode cX11_findPlans 37 = .ok (.iaload, 1) := by decide +kernel
theorem dX11_findPlans_38 : decode cX11_findPlans 38 = .ok (.iload_n 1, 1) := by decide +kernel
theorem dX11_findPlans_39 : decode cX11_findPlans 39 = .ok (.ishr, 1) := by decide +kernel
theorem dX11_findPlans_40 : decode cX11_findPlans 40 = .ok (.iconst 1, 1) := by decide +kernel
theorem dX11_findPlans_41 : decode cX11_findPlans 41 = .ok (.iand, 1) := by decide +kernel
theorem dX11_findPlans_42 : decode cX11_findPlans 42 = .ok (.iconst 1, 1) := by decide +kernel
theorem dX11_findPlans_43 : decode cX11_findPlans 43 = .ok (.if_icmp .ne 23, 3) := by decide +kernel
theorem dX11_findPlans_46 : decode cX11_findPlans 46 = .ok (.aload_n 0, 1) := by decide +kernel
theorem dX11_findPlans_47 : decode cX11_findPlans 47 = .ok (.getfield 109, 3) := by decide +kernel
theorem dX11_findPlans_50 : decode cX11_findPlans 50 = .ok (.aload_n 0, 1) := by decide +kernel
theorem dX11_findPlans_51 : decode cX11_findPlans 51 = .ok (.getfield 322, 3) := by decide +kernel
theorem dX11_findPlans_54 : decode cX11_findPlans 54 = .ok (.iload_n 3, 1) := by decide +kernel
theorem dX11_findPlans_55 : decode cX11_findPlans 55 = .ok (.iastore, 1) := by decide +kernel
theorem dX11_findPlans_56 : decode cX11_findPlans 56 = .ok (.aload_n 0, 1) := by decide +kernel
theorem dX11_findPlans_57 : decode cX11_findPlans 57 = .ok (.dup, 1) := by decide +kernel
theorem dX11_findPlans_58 : decode cX11_findPlans 58 = .ok (.getfield 322, 3) := by decide +kernel
theorem dX11_findPlans_61 : decode cX11_findPlans 61 = .ok (.iconst 1, 1) := by decide +kernel
theorem dX11_findPlans_62 : decode cX11_findPlans 62 = .ok (.iadd, 1) := by decide +kernel
theorem dX11_findPlans_63 : decode cX11_findPlans 63 = .ok (.putfield 322, 3) := by decide +kernel
theorem dX11_findPlans_66 : decode cX11_findPlans 66 = .ok (.iinc 3 1, 3) := by decide +kernel
theorem dX11_findPlans_69 : decode cX11_findPlans 69 = .ok (.goto (-62), 3) := by decide +kernel
theorem dX11_findPlans_72 : decode cX11_findPlans 72 = .ok (.iconst 1, 1) := by decide +kernel
theorem dX11_findPlans_73 : decode cX11_findPlans 73 = .ok (.aload_n 0, 1) := by decide +kernel
theorem dX11_findPlans_74 : decode cX11_findPlans 74 = .ok (.getfield 322, 3) := by decide +kernel
theorem dX11_findPlans_77 : decode cX11_findPlans 77 = .ok (.ishl, 1) := by decide +kernel
theorem dX11_findPlans_78 : decode cX11_findPlans 78 = .ok (.istore_n 3, 1) := by decide +kernel
theorem dX11_findPlans_79 : decode cX11_findPlans 79 = .ok (.sipush 4096, 3) := by decide +kernel
theorem dX11_findPlans_82 : decode cX11_findPlans 82 = .ok (.iload_n 2, 1) := by decide +kernel
theorem dX11_findPlans_83 : decode cX11_findPlans 83 = .ok (.imul, 1) := by decide +kernel
theorem dX11_findPlans_84 : decode cX11_findPlans 84 = .ok (.istore 4, 2) := by decide +kernel
theorem dX11_findPlans_86 : decode cX11_findPlans 86 = .ok (.iload 4, 2) := by decide +kernel
theorem dX11_findPlans_88 : decode cX11_findPlans 88 = .ok (.sipush 4096, 3) := by decide +kernel
theorem dX11_findPlans_91 : decode cX11_findPlans 91 = .ok (.iload_n 2, 1) := by decide +kernel
theorem dX11_findPlans_92 : decode cX11_findPlans 92 = .ok (.imul, 1) := by decide +kernel
theorem dX11_findPlans_93 : decode cX11_findPlans 93 = .ok (.sipush 4096, 3) := by decide +kernel
theorem dX11_findPlans_96 : decode cX11_findPlans 96 = .ok (.iadd, 1) := by decide +kernel
theorem dX11_findPlans_97 : decode cX11_findPlans 97 = .ok (.if_icmp .ge 17, 3) := by decide +kernel
theorem dX11_findPlans_100 : decode cX11_findPlans 100 = .ok (.aload_n 0, 1) := by decide +kernel
theorem dX11_findPlans_101 : decode cX11_findPlans 101 = .ok (.getfield 112, 3) := by decide +kernel
theorem dX11_findPlans_104 : decode cX11_findPlans 104 = .ok (.iload 4, 2) := by decide +kernel
theorem dX11_findPlans_106 : decode cX11_findPlans 106 = .ok (.iconst 0, 1) := by decide +kernel
theorem dX11_findPlans_107 : decode cX11_findPlans 107 = .ok (.iastore, 1) := by decide +kernel
theorem dX11_findPlans_108 : decode cX11_findPlans 108 = .ok (.iinc 4 1, 3) := by decide +kernel
theorem dX11_findPlans_111 : decode cX11_findPlans 111 = .ok (.goto (-25), 3) := by decide +kernel
theorem dX11_findPlans_114 : decode cX11_findPlans 114 = .ok (.iload_n 2, 1) := by decide +kernel
theorem dX11_findPlans_115 : decode cX11_findPlans 115 = .ok (.iconst 1, 1) := by decide +kernel
theorem dX11_findPlans_116 : decode cX11_findPlans 116 = .ok (.isub, 1) := by decide +kernel
theorem dX11_findPlans_117 : decode cX11_findPlans 117 = .ok (.istore 4, 2) := by decide +kernel
theorem dX11_findPlans_119 : decode cX11_findPlans 119 = .ok (.iload 4, 2) := by decide +kernel
theorem dX11_findPlans_121 : decode cX11_findPlans 121 = .ok (.ifCond .lt 152, 3) := by decide +kernel
theorem dX11_findPlans_124 : decode cX11_findPlans 124 = .ok (.iconst 1, 1) := by decide +kernel
theorem dX11_findPlans_125 : decode cX11_findPlans 125 = .ok (.istore 5, 2) := by decide +kernel
theorem dX11_findPlans_127 : decode cX11_findPlans 127 = .ok (.iload 5, 2) := by decide +kernel
theorem dX11_findPlans_129 : decode cX11_findPlans 129 = .ok (.iload_n 3, 1) := by decide +kernel
theorem dX11_findPlans_130 : decode cX11_findPlans 130 = .ok (.if_icmp .ge 18, 3) := by decide +kernel
theorem dX11_findPlans_133 : decode cX11_findPlans 133 = .ok (.aload_n 0, 1) := by decide +kernel
theorem dX11_findPlans_134 : decode cX11_findPlans 134 = .ok (.iload_n 1, 1) := by decide +kernel
theorem dX11_findPlans_135 : decode cX11_findPlans 135 = .ok (.iload 4, 2) := by decide +kernel
theorem dX11_findPlans_137 : decode cX11_findPlans 137 = .ok (.iload 5, 2) := by decide +kernel
theorem dX11_findPlans_139 : decode cX11_findPlans 139 = .ok (.invokevirtual 338, 3) := by decide +kernel
theorem dX11_findPlans_142 : decode cX11_findPlans 142 = .ok (.iinc 5 1, 3) := by decide +kernel
theorem dX11_findPlans_145 : decode cX11_findPlans 145 = .ok (.goto (-18), 3) := by decide +kernel
theorem dX11_findPlans_148 : decode cX11_findPlans 148 = .ok (.iconst 0, 1) := by decide +kernel
theorem dX11_findPlans_149 : decode cX11_findPlans 149 = .ok (.istore 5, 2) := by decide +kernel
theorem dX11_findPlans_151 : decode cX11_findPlans 151 = .ok (.iload 5, 2) := by decide +kernel
theorem dX11_findPlans_153 : decode cX11_findPlans 153 = .ok (.iconst 1, 1) := by decide +kernel
theorem dX11_findPlans_154 : decode cX11_findPlans 154 = .ok (.iload 4, 2) := by decide +kernel
theorem dX11_findPlans_156 : decode cX11_findPlans 156 = .ok (.ishl, 1) := by decide +kernel
theorem dX11_findPlans_157 : decode cX11_findPlans 157 = .ok (.if_icmp .ge 110, 3) := by decide +kernel
theorem dX11_findPlans_160 : decode cX11_findPlans 160 = .ok (.iconst 0, 1) := by decide +kernel
theorem dX11_findPlans_161 : decode cX11_findPlans 161 = .ok (.istore 6, 2) := by decide +kernel
theorem dX11_findPlans_163 : decode cX11_findPlans 163 = .ok (.iload 6, 2) := by decide +kernel
theorem dX11_findPlans_165 : decode cX11_findPlans 165 = .ok (.iload_n 3, 1) := by decide +kernel
theorem dX11_findPlans_166 : decode cX11_findPlans 166 = .ok (.if_icmp .ge 95, 3) := by decide +kernel
theorem dX11_findPlans_169 : decode cX11_findPlans 169 = .ok (.aload_n 0, 1) := by decide +kernel
theorem dX11_findPlans_170 : decode cX11_findPlans 170 = .ok (.getfield 112, 3) := by decide +kernel
theorem dX11_findPlans_173 : decode cX11_findPlans 173 = .ok (.iload 4, 2) := by decide +kernel
theorem dX11_findPlans_175 : decode cX11_findPlans 175 = .ok (.iconst 1, 1) := by decide +kernel
theorem dX11_findPlans_176 : decode cX11_findPlans 176 = .ok (.iadd, 1) := by decide +kernel
theorem dX11_findPlans_177 : decode cX11_findPlans 177 = .ok (.iload 6, 2) := by decide +kernel
theorem dX11_findPlans_179 : decode cX11_findPlans 179 = .ok (.iload 5, 2) := by decide +kernel
theorem dX11_findPlans_181 : decode cX11_findPlans 181 = .ok (.invokestatic 335, 3) := by decide +kernel
theorem dX11_findPlans_184 : decode cX11_findPlans 184 = .ok (.iaload, 1) := by decide +kernel
theorem dX11_findPlans_185 : decode cX11_findPlans 185 = .ok (.istore 7, 2) := by decide +kernel
theorem dX11_findPlans_187 : decode cX11_findPlans 187 = .ok (.iload 6, 2) := by decide +kernel
theorem dX11_findPlans_189 : decode cX11_findPlans 189 = .ok (.istore 8, 2) := by decide +kernel
theorem dX11_findPlans_191 : decode cX11_findPlans 191 = .ok (.iload 8, 2) := by decide +kernel
theorem dX11_findPlans_193 : decode cX11_findPlans 193 = .ok (.ifCond .le 46, 3) := by decide +kernel
theorem dX11_findPlans_196 : decode cX11_findPlans 196 = .ok (.aload_n 0, 1) := by decide +kernel
theorem dX11_findPlans_197 : decode cX11_findPlans 197 = .ok (.iload_n 1, 1) := by decide +kernel
theorem dX11_findPlans_198 : decode cX11_findPlans 198 = .ok (.iload 4, 2) := by decide +kernel
theorem dX11_findPlans_200 : decode cX11_findPlans 200 = .ok (.iload 6, 2) := by decide +kernel
theorem dX11_findPlans_202 : decode cX11_findPlans 202 = .ok (.iload 5, 2) := by decide +kernel
theorem dX11_findPlans_204 : decode cX11_findPlans 204 = .ok (.iload 8, 2) := by decide +kernel
theorem dX11_findPlans_206 : decode cX11_findPlans 206 = .ok (.invokevirtual 341, 3) := by decide +kernel
theorem dX11_findPlans_209 : decode cX11_findPlans 209 = .ok (.istore 9, 2) := by decide +kernel
theorem dX11_findPlans_211 : decode cX11_findPlans 211 = .ok (.iload 9, 2) := by decide +kernel
theorem dX11_findPlans_213 : decode cX11_findPlans 213 = .ok (.iload 7, 2) := by decide +kernel
theorem dX11_findPlans_215 : decode cX11_findPlans 215 = .ok (.if_icmp .le 8, 3) := by decide +kernel
theorem dX11_findPlans_218 : decode cX11_findPlans 218 = .ok (.iload 9, 2) := by decide +kernel
theorem dX11_findPlans_220 : decode cX11_findPlans 220 = .ok (.goto 5, 3) := by decide +kernel
theorem dX11_findPlans_223 : decode cX11_findPlans 223 = .ok (.iload 7, 2) := by decide +kernel
theorem dX11_findPlans_225 : decode cX11_findPlans 225 = .ok (.istore 7, 2) := by decide +kernel
theorem dX11_findPlans_227 : decode cX11_findPlans 227 = .ok (.iload 8, 2) := by decide +kernel
theorem dX11_findPlans_229 : decode cX11_findPlans 229 = .ok (.iconst 1, 1) := by decide +kernel
theorem dX11_findPlans_230 : decode cX11_findPlans 230 = .ok (.isub, 1) := by decide +kernel
theorem dX11_findPlans_231 : decode cX11_findPlans 231 = .ok (.iload 6, 2) := by decide +kernel
theorem dX11_findPlans_233 : decode cX11_findPlans 233 = .ok (.iand, 1) := by decide +kernel
theorem dX11_findPlans_234 : decode cX11_findPlans 234 = .ok (.istore 8, 2) := by decide +kernel
theorem dX11_findPlans_236 : decode cX11_findPlans 236 = .ok (.goto (-45), 3) := by decide +kernel
theorem dX11_findPlans_239 : decode cX11_findPlans 239 = .ok (.aload_n 0, 1) := by decide +kernel
theorem dX11_findPlans_240 : decode cX11_findPlans 240 = .ok (.getfield 112, 3) := by decide +kernel
theorem dX11_findPlans_243 : decode cX11_findPlans 243 = .ok (.iload 4, 2) := by decide +kernel
theorem dX11_findPlans_245 : decode cX11_findPlans 245 = .ok (.iload 6, 2) := by decide +kernel
theorem dX11_findPlans_247 : decode cX11_findPlans 247 = .ok (.iload 5, 2) := by decide +kernel
theorem dX11_findPlans_249 : decode cX11_findPlans 249 = .ok (.invokestatic 335, 3) := by decide +kernel
theorem dX11_findPlans_252 : decode cX11_findPlans 252 = .ok (.iload 7, 2) := by decide +kernel
theorem dX11_findPlans_254 : decode cX11_findPlans 254 = .ok (.iastore, 1) := by decide +kernel
theorem dX11_findPlans_255 : decode cX11_findPlans 255 = .ok (.iinc 6 1, 3) := by decide +kernel
theorem dX11_findPlans_258 : decode cX11_findPlans 258 = .ok (.goto (-95), 3) := by decide +kernel
theorem dX11_findPlans_261 : decode cX11_findPlans 261 = .ok (.iinc 5 1, 3) := by decide +kernel
theorem dX11_findPlans_264 : decode cX11_findPlans 264 = .ok (.goto (-113), 3) := by decide +kernel
theorem dX11_findPlans_267 : decode cX11_findPlans 267 = .ok (.iinc 4 (-1), 3) := by decide +kernel
theorem dX11_findPlans_270 : decode cX11_findPlans 270 = .ok (.goto (-151), 3) := by decide +kernel
theorem dX11_findPlans_273 : decode cX11_findPlans 273 = .ok (.return_, 1) := by decide +kernel
theorem dX11_plan_0 : decode cX11_plan 0 = .ok (.iload_n 1, 1) := by decide +kernel
theorem dX11_plan_1 : decode cX11_plan 1 = .ok (.invokestatic 153, 3) := by decide +kernel
theorem dX11_plan_4 : decode cX11_plan 4 = .ok (.ifCond .ne 7, 3) := by decide +kernel
theorem dX11_plan_7 : decode cX11_plan 7 = .ok (.sipush (-1001), 3) := by decide +kernel
theorem dX11_plan_10 : decode cX11_plan 10 = .ok (.ireturn, 1) := by decide +kernel
theorem dX11_plan_11 : decode cX11_plan 11 = .ok (.iload_n 2, 1) := by decide +kernel
theorem dX11_plan_12 : decode cX11_plan 12 = .ok (.i2l, 1) := by decide +kernel
theorem dX11_plan_13 : decode cX11_plan 13 = .ok (.lconst 1, 1) := by decide +kernel
theorem dX11_plan_14 : decode cX11_plan 14 = .ok (.ldc2_w 344, 3) := by decide +kernel
theorem dX11_plan_17 : decode cX11_plan 17 = .ok (.invokestatic 138, 3) := by decide +kernel
theorem dX11_plan_20 : decode cX11_plan 20 = .ok (.ifCond .eq 29, 3) := by decide +kernel
theorem dX11_plan_23 : decode cX11_plan 23 = .ok (.iload_n 3, 1) := by decide +kernel
theorem dX11_plan_24 : decode cX11_plan 24 = .ok (.i2l, 1) := by decide +kernel
theorem dX11_plan_25 : decode cX11_plan 25 = .ok (.ldc2_w 156, 3) := by decide +kernel
theorem dX11_plan_28 : decode cX11_plan 28 = .ok (.iload_n 2, 1) := by decide +kernel
theorem dX11_plan_29 : decode cX11_plan 29 = .ok (.iconst 1, 1) := by decide +kernel
theorem dX11_plan_30 : decode cX11_plan 30 = .ok (.isub, 1) := by decide +kernel
theorem dX11_plan_31 : decode cX11_plan 31 = .ok (.i2l, 1) := by decide +kernel
theorem dX11_plan_32 : decode cX11_plan 32 = .ok (.invokestatic 138, 3) := by decide +kernel
theorem dX11_plan_35 : decode cX11_plan 35 = .ok (.ifCond .eq 14, 3) := by decide +kernel
theorem dX11_plan_38 : decode cX11_plan 38 = .ok (.iload 4, 2) := by decide +kernel
theorem dX11_plan_40 : decode cX11_plan 40 = .ok (.i2l, 1) := by decide +kernel
theorem dX11_plan_41 : decode cX11_plan 41 = .ok (.lconst 0, 1) := by decide +kernel
theorem dX11_plan_42 : decode cX11_plan 42 = .ok (.lconst 1, 1) := by decide +kernel
theorem dX11_plan_43 : decode cX11_plan 43 = .ok (.invokestatic 138, 3) := by decide +kernel
theorem dX11_plan_46 : decode cX11_plan 46 = .ok (.ifCond .ne 7, 3) := by decide +kernel
theorem dX11_plan_49 : decode cX11_plan 49 = .ok (.sipush (-1002), 3) := by decide +kernel
theorem dX11_plan_52 : decode cX11_plan 52 = .ok (.ireturn, 1) := by decide +kernel
theorem dX11_plan_53 : decode cX11_plan 53 = .ok (.aload_n 0, 1) := by decide +kernel
theorem dX11_plan_54 : decode cX11_plan 54 = .ok (.iload_n 1, 1) := by decide +kernel
theorem dX11_plan_55 : decode cX11_plan 55 = .ok (.iload_n 2, 1) := by decide +kernel
theorem dX11_plan_56 : decode cX11_plan 56 = .ok (.invokevirtual 346, 3) := by decide +kernel
theorem dX11_plan_59 : decode cX11_plan 59 = .ok (.iconst 1, 1) := by decide +kernel
theorem dX11_plan_60 : decode cX11_plan 60 = .ok (.aload_n 0, 1) := by decide +kernel
theorem dX11_plan_61 : decode cX11_plan 61 = .ok (.getfield 322, 3) := by decide +kernel
theorem dX11_plan_64 : decode cX11_plan 64 = .ok (.ishl, 1) := by decide +kernel
theorem dX11_plan_65 : decode cX11_plan 65 = .ok (.iconst 1, 1) := by decide +kernel
theorem dX11_plan_66 : decode cX11_plan 66 = .ok (.isub, 1) := by decide +kernel
theorem dX11_plan_67 : decode cX11_plan 67 = .ok (.istore 5, 2) := by decide +kernel
theorem dX11_plan_69 : decode cX11_plan 69 = .ok (.iload_n 3, 1) := by decide +kernel
theorem dX11_plan_70 : decode cX11_plan 70 = .ok (.iconst (-1), 1) := by decide +kernel
theorem dX11_plan_71 : decode cX11_plan 71 = .ok (.if_icmp .ne 16, 3) := by decide +kernel
theorem dX11_plan_74 : decode cX11_plan 74 = .ok (.aload_n 0, 1) := by decide +kernel
theorem dX11_plan_75 : decode cX11_plan 75 = .ok (.getfield 112, 3) := by decide +kernel
theorem dX11_plan_78 : decode cX11_plan 78 = .ok (.iconst 0, 1) := by decide +kernel
theorem dX11_plan_79 : decode cX11_plan 79 = .ok (.iload 5, 2) := by decide +kernel
theorem dX11_plan_81 : decode cX11_plan 81 = .ok (.iconst 0, 1) := by decide +kernel
theorem dX11_plan_82 : decode cX11_plan 82 = .ok (.invokestatic 335, 3) := by decide +kernel
theorem dX11_plan_85 : decode cX11_plan 85 = .ok (.iaload, 1) := by decide +kernel
theorem dX11_plan_86 : decode cX11_plan 86 = .ok (.ireturn, 1) := by decide +kernel
theorem dX11_plan_87 : decode cX11_plan 87 = .ok (.iload 5, 2) := by decide +kernel
theorem dX11_plan_89 : decode cX11_plan 89 = .ok (.istore 6, 2) := by decide +kernel
theorem dX11_plan_91 : decode cX11_plan 91 = .ok (.iconst 0, 1) := by decide +kernel
theorem dX11_plan_92 : decode cX11_plan 92 = .ok (.istore 7, 2) := by decide +kernel
theorem dX11_plan_94 : decode cX11_plan 94 = .ok (.iconst 0, 1) := by decide +kernel
theorem dX11_plan_95 : decode cX11_plan 95 = .ok (.istore 8, 2) := by decide +kernel
theorem dX11_plan_97 : decode cX11_plan 97 = .ok (.iconst 0, 1) := by decide +kernel
theorem dX11_plan_98 : decode cX11_plan 98 = .ok (.istore 9, 2) := by decide +kernel
theorem dX11_plan_100 : decode cX11_plan 100 = .ok (.iload 9, 2) := by decide +kernel
theorem dX11_plan_102 : decode cX11_plan 102 = .ok (.iload_n 3, 1) := by decide +kernel
theorem dX11_plan_103 : decode cX11_plan 103 = .ok (.if_icmp .gt 104, 3) := by decide +kernel
theorem dX11_plan_106 : decode cX11_plan 106 = .ok (.aload_n 0, 1) := by decide +kernel
theorem dX11_plan_107 : decode cX11_plan 107 = .ok (.getfield 112, 3) := by decide +kernel
theorem dX11_plan_110 : decode cX11_plan 110 = .ok (.iload 9, 2) := by decide +kernel
theorem dX11_plan_112 : decode cX11_plan 112 = .ok (.iload 6, 2) := by decide +kernel
theorem dX11_plan_114 : decode cX11_plan 114 = .ok (.iload 7, 2) := by decide +kernel
theorem dX11_plan_116 : decode cX11_plan 116 = .ok (.invokestatic 335, 3) := by decide +kernel
theorem dX11_plan_119 : decode cX11_plan 119 = .ok (.iaload, 1) := by decide +kernel
theorem dX11_plan_120 : decode cX11_plan 120 = .ok (.istore 10, 2) := by decide +kernel
theorem dX11_plan_122 : decode cX11_plan 122 = .ok (.iconst 0, 1) := by decide +kernel
theorem dX11_plan_123 : decode cX11_plan 123 = .ok (.istore 8, 2) := by decide +kernel
theorem dX11_plan_125 : decode cX11_plan 125 = .ok (.aload_n 0, 1) := by decide +kernel
theorem dX11_plan_126 : decode cX11_plan 126 = .ok (.getfield 112, 3) := by decide +kernel
theorem dX11_plan_129 : decode cX11_plan 129 = .ok (.iload 9, 2) := by decide +kernel
theorem dX11_plan_131 : decode cX11_plan 131 = .ok (.iconst 1, 1) := by decide +kernel
theorem dX11_plan_132 : decode cX11_plan 132 = .ok (.iadd, 1) := by decide +kernel
theorem dX11_plan_133 : decode cX11_plan 133 = .ok (.iload 6, 2) := by decide +kernel
theorem dX11_plan_135 : decode cX11_plan 135 = .ok (.iload 7, 2) := by decide +kernel
theorem dX11_plan_137 : decode cX11_plan 137 = .ok (.invokestatic 335, 3) := by decide +kernel
theorem dX11_plan_140 : decode cX11_plan 140 = .ok (.iaload, 1) := by decide +kernel
theorem dX11_plan_141 : decode cX11_plan 141 = .ok (.iload 10, 2) := by decide +kernel
theorem dX11_plan_143 : decode cX11_plan 143 = .ok (.if_icmp .eq 58, 3) := by decide +kernel
theorem dX11_plan_146 : decode cX11_plan 146 = .ok (.iconst 1, 1) := by decide +kernel
theorem dX11_plan_147 : decode cX11_plan 147 = .ok (.istore 8, 2) := by decide +kernel
theorem dX11_plan_149 : decode cX11_plan 149 = .ok (.iload 8, 2) := by decide +kernel
theorem dX11_plan_151 : decode cX11_plan 151 = .ok (.iload 6, 2) := by decide +kernel
theorem dX11_plan_153 : decode cX11_plan 153 = .ok (.iconst (-1), 1) := by decide +kernel
theorem dX11_plan_154 : decode cX11_plan 154 = .ok (.ixor, 1) := by decide +kernel
theorem dX11_plan_155 : decode cX11_plan 155 = .ok (.iand, 1) := by decide +kernel
theorem dX11_plan_156 : decode cX11_plan 156 = .ok (.ifCond .ne 21, 3) := by decide +kernel
theorem dX11_plan_159 : decode cX11_plan 159 = .ok (.aload_n 0, 1) := by decide +kernel
theorem dX11_plan_160 : decode cX11_plan 160 = .ok (.iload_n 1, 1) := by decide +kernel
theorem dX11_plan_161 : decode cX11_plan 161 = .ok (.iload 9, 2) := by decide +kernel
theorem dX11_plan_163 : decode cX11_plan 163 = .ok (.iload 6, 2) := by decide +kernel
theorem dX11_plan_165 : decode cX11_plan 165 = .ok (.iload 7, 2) := by decide +kernel
theorem dX11_plan_167 : decode cX11_plan 167 = .ok (.iload 8, 2) := by decide +kernel
theorem dX11_plan_169 : decode cX11_plan 169 = .ok (.invokevirtual 341, 3) := by decide +kernel
theorem dX11_plan_172 : decode cX11_plan 172 = .ok (.iload 10, 2) := by decide +kernel
theorem dX11_plan_174 : decode cX11_plan 174 = .ok (.if_icmp .eq 9, 3) := by decide +kernel
theorem dX11_plan_177 : decode cX11_plan 177 = .ok (.iinc 8 1, 3) := by decide +kernel
theorem dX11_plan_180 : decode cX11_plan 180 = .ok (.goto (-31), 3) := by decide +kernel
theorem dX11_plan_183 : decode cX11_plan 183 = .ok (.iload 6, 2) := by decide +kernel
theorem dX11_plan_185 : decode cX11_plan 185 = .ok (.iload 8, 2) := by decide +kernel
theorem dX11_plan_187 : decode cX11_plan 187 = .ok (.iconst (-1), 1) := by decide +kernel
theorem dX11_plan_188 : decode cX11_plan 188 = .ok (.ixor, 1) := by decide +kernel
theorem dX11_plan_189 : decode cX11_plan 189 = .ok (.iand, 1) := by decide +kernel
theorem dX11_plan_190 : decode cX11_plan 190 = .ok (.istore 6, 2) := by decide +kernel
theorem dX11_plan_192 : decode cX11_plan 192 = .ok (.iload 7, 2) := by decide +kernel
theorem dX11_plan_194 : decode cX11_plan 194 = .ok (.iconst 1, 1) := by decide +kernel
theorem dX11_plan_195 : decode cX11_plan 195 = .ok (.iload 9, 2) := by decide +kernel
theorem dX11_plan_197 : decode cX11_plan 197 = .ok (.ishl, 1) := by decide +kernel
theorem dX11_plan_198 : decode cX11_plan 198 = .ok (.ior, 1) := by decide +kernel
theorem dX11_plan_199 : decode cX11_plan 199 = .ok (.istore 7, 2) := by decide +kernel
theorem dX11_plan_201 : decode cX11_plan 201 = .ok (.iinc 9 1, 3) := by decide +kernel
theorem dX11_plan_204 : decode cX11_plan 204 = .ok (.goto (-104), 3) := by decide +kernel
theorem dX11_plan_207 : decode cX11_plan 207 = .ok (.iload 4, 2) := by decide +kernel
theorem dX11_plan_209 : decode cX11_plan 209 = .ok (.ifCond .ne 12, 3) := by decide +kernel
theorem dX11_plan_212 : decode cX11_plan 212 = .ok (.aload_n 0, 1) := by decide +kernel
theorem dX11_plan_213 : decode cX11_plan 213 = .ok (.iload 8, 2) := by decide +kernel
theorem dX11_plan_215 : decode cX11_plan 215 = .ok (.invokevirtual 325, 3) := by decide +kernel
theorem dX11_plan_218 : decode cX11_plan 218 = .ok (.goto 24, 3) := by decide +kernel
theorem dX11_plan_221 : decode cX11_plan 221 = .ok (.iload 8, 2) := by decide +kernel
theorem dX11_plan_223 : decode cX11_plan 223 = .ok (.ifCond .ne 7, 3) := by decide +kernel
theorem dX11_plan_226 : decode cX11_plan 226 = .ok (.iconst (-1), 1) := by decide +kernel
theorem dX11_plan_227 : decode cX11_plan 227 = .ok (.goto 15, 3) := by decide +kernel
theorem dX11_plan_230 : decode cX11_plan 230 = .ok (.aload_n 0, 1) := by decide +kernel
theorem dX11_plan_231 : decode cX11_plan 231 = .ok (.getfield 118, 3) := by decide +kernel
theorem dX11_plan_234 : decode cX11_plan 234 = .ok (.bipush 64, 2) := by decide +kernel
theorem dX11_plan_236 : decode cX11_plan 236 = .ok (.iload_n 3, 1) := by decide +kernel
theorem dX11_plan_237 : decode cX11_plan 237 = .ok (.imul, 1) := by decide +kernel
theorem dX11_plan_238 : decode cX11_plan 238 = .ok (.iload 8, 2) := by decide +kernel
theorem dX11_plan_240 : decode cX11_plan 240 = .ok (.iadd, 1) := by decide +kernel
theorem dX11_plan_241 : decode cX11_plan 241 = .ok (.iaload, 1) := by decide +kernel
theorem dX11_plan_242 : decode cX11_plan 242 = .ok (.ireturn, 1) := by decide +kernel
theorem dX11_deadOf_0 : decode cX11_deadOf 0 = .ok (.iconst 0, 1) := by decide +kernel
theorem dX11_deadOf_1 : decode cX11_deadOf 1 = .ok (.istore_n 2, 1) := by decide +kernel
theorem dX11_deadOf_2 : decode cX11_deadOf 2 = .ok (.iconst 0, 1) := by decide +kernel
theorem dX11_deadOf_3 : decode cX11_deadOf 3 = .ok (.istore_n 3, 1) := by decide +kernel
theorem dX11_deadOf_4 : decode cX11_deadOf 4 = .ok (.iload_n 3, 1) := by decide +kernel
theorem dX11_deadOf_5 : decode cX11_deadOf 5 = .ok (.aload_n 0, 1) := by decide +kernel
theorem dX11_deadOf_6 : decode cX11_deadOf 6 = .ok (.getfield 182, 3) := by decide +kernel
theorem dX11_deadOf_9 : decode cX11_deadOf 9 = .ok (.if_icmp .ge 30, 3) := by decide +kernel
theorem dX11_deadOf_12 : decode cX11_deadOf 12 = .ok (.iload_n 2, 1) := by decide +kernel
theorem dX11_deadOf_13 : decode cX11_deadOf 13 = .ok (.aload_n 0, 1) := by decide +kernel
theorem dX11_deadOf_14 : decode cX11_deadOf 14 = .ok (.getfield 65, 3) := by decide +kernel
theorem dX11_deadOf_17 : decode cX11_deadOf 17 = .ok (.iload_n 3, 1) := by decide +kernel
theorem dX11_deadOf_18 : decode cX11_deadOf 18 = .ok (.baload, 1) := by decide +kernel
theorem dX11_deadOf_19 : decode cX11_deadOf 19 = .ok (.ifCond .eq 11, 3) := by decide +kernel
theorem dX11_deadOf_22 : decode cX11_deadOf 22 = .ok (.iload_n 1, 1) := by decide +kernel
theorem dX11_deadOf_23 : decode cX11_deadOf 23 = .ok (.iconst 1, 1) := by decide +kernel
theorem dX11_deadOf_24 : decode cX11_deadOf 24 = .ok (.iload_n 3, 1) := by decide +kernel
theorem dX11_deadOf_25 : decode cX11_deadOf 25 = .ok (.ishl, 1) := by decide +kernel
theorem dX11_deadOf_26 : decode cX11_deadOf 26 = .ok (.iand, 1) := by decide +kernel
theorem dX11_deadOf_27 : decode cX11_deadOf 27 = .ok (.goto 4, 3) := by decide +kernel
theorem dX11_deadOf_30 : decode cX11_deadOf 30 = .ok (.iconst 0, 1) := by decide +kernel
theorem dX11_deadOf_31 : decode cX11_deadOf 31 = .ok (.ior, 1) := by decide +kernel
theorem dX11_deadOf_32 : decode cX11_deadOf 32 = .ok (.istore_n 2, 1) := by decide +kernel
theorem dX11_deadOf_33 : decode cX11_deadOf 33 = .ok (.iinc 3 1, 3) := by decide +kernel
theorem dX11_deadOf_36 : decode cX11_deadOf 36 = .ok (.goto (-32), 3) := by decide +kernel
theorem dX11_deadOf_39 : decode cX11_deadOf 39 = .ok (.iload_n 2, 1) := by decide +kernel
theorem dX11_deadOf_40 : decode cX11_deadOf 40 = .ok (.ireturn, 1) := by decide +kernel
theorem dX11_areFor_0 : decode cX11_areFor 0 = .ok (.iconst 1, 1) := by decide +kernel
theorem dX11_areFor_1 : decode cX11_areFor 1 = .ok (.istore_n 3, 1) := by decide +kernel
theorem dX11_areFor_2 : decode cX11_areFor 2 = .ok (.iconst 0, 1) := by decide +kernel
theorem dX11_areFor_3 : decode cX11_areFor 3 = .ok (.istore 4, 2) := by decide +kernel
theorem dX11_areFor_5 : decode cX11_areFor 5 = .ok (.iload 4, 2) := by decide +kernel
theorem dX11_areFor_7 : decode cX11_areFor 7 = .ok (.aload_n 0, 1) := by decide +kernel
theorem dX11_areFor_8 : decode cX11_areFor 8 = .ok (.getfield 182, 3) := by decide +kernel
theorem dX11_areFor_11 : decode cX11_areFor 11 = .ok (.if_icmp .ge 43, 3) := by decide +kernel
theorem dX11_areFor_14 : decode cX11_areFor 14 = .ok (.iload_n 3, 1) := by decide +kernel
theorem dX11_areFor_15 : decode cX11_areFor 15 = .ok (.ifCond .eq 31, 3) := by decide +kernel
theorem dX11_areFor_18 : decode cX11_areFor 18 = .ok (.iload_n 2, 1) := by decide +kernel
theorem dX11_areFor_19 : decode cX11_areFor 19 = .ok (.iload 4, 2) := by decide +kernel
theorem dX11_areFor_21 : decode cX11_areFor 21 = .ok (.ishr, 1) := by decide +kernel
theorem dX11_areFor_22 : decode cX11_areFor 22 = .ok (.iconst 1, 1) := by decide +kernel
theorem dX11_areFor_23 : decode cX11_areFor 23 = .ok (.iand, 1) := by decide +kernel
theorem dX11_areFor_24 : decode cX11_areFor 24 = .ok (.ifCond .eq 18, 3) := by decide +kernel
theorem dX11_areFor_27 : decode cX11_areFor 27 = .ok (.aload_n 0, 1) := by decide +kernel
theorem dX11_areFor_28 : decode cX11_areFor 28 = .ok (.getfield 41, 3) := by decide +kernel
theorem dX11_areFor_31 : decode cX11_areFor 31 = .ok (.iload 4, 2) := by decide +kernel
theorem dX11_areFor_33 : decode cX11_areFor 33 = .ok (.iaload, 1) := by decide +kernel
theorem dX11_areFor_34 : decode cX11_areFor 34 = .ok (.iload_n 1, 1) := by decide +kernel
theorem dX11_areFor_35 : decode cX11_areFor 35 = .ok (.ishr, 1) := by decide +kernel
theorem dX11_areFor_36 : decode cX11_areFor 36 = .ok (.iconst 1, 1) := by decide +kernel
theorem dX11_areFor_37 : decode cX11_areFor 37 = .ok (.iand, 1) := by decide +kernel
theorem dX11_areFor_38 : decode cX11_areFor 38 = .ok (.iconst 1, 1) := by decide +kernel
theorem dX11_areFor_39 : decode cX11_areFor 39 = .ok (.if_icmp .ne 7, 3) := by decide +kernel
theorem dX11_areFor_42 : decode cX11_areFor 42 = .ok (.iconst 1, 1) := by decide +kernel
theorem dX11_areFor_43 : decode cX11_areFor 43 = .ok (.goto 4, 3) := by decide +kernel
theorem dX11_areFor_46 : decode cX11_areFor 46 = .ok (.iconst 0, 1) := by decide +kernel
theorem dX11_areFor_47 : decode cX11_areFor 47 = .ok (.istore_n 3, 1) := by decide +kernel
theorem dX11_areFor_48 : decode cX11_areFor 48 = .ok (.iinc 4 1, 3) := by decide +kernel
theorem dX11_areFor_51 : decode cX11_areFor 51 = .ok (.goto (-46), 3) := by decide +kernel
theorem dX11_areFor_54 : decode cX11_areFor 54 = .ok (.iload_n 3, 1) := by decide +kernel
theorem dX11_areFor_55 : decode cX11_areFor 55 = .ok (.ireturn, 1) := by decide +kernel
theorem dX11_say_0 : decode cX11_say 0 = .ok (.iload_n 1, 1) := by decide +kernel
theorem dX11_say_1 : decode cX11_say 1 = .ok (.invokestatic 153, 3) := by decide +kernel
theorem dX11_say_4 : decode cX11_say 4 = .ok (.ifCond .eq 11, 3) := by decide +kernel
theorem dX11_say_7 : decode cX11_say 7 = .ok (.aload_n 0, 1) := by decide +kernel
theorem dX11_say_8 : decode cX11_say 8 = .ok (.iload_n 2, 1) := by decide +kernel
theorem dX11_say_9 : decode cX11_say 9 = .ok (.invokevirtual 315, 3) := by decide +kernel
theorem dX11_say_12 : decode cX11_say 12 = .ok (.ifCond .ne 7, 3) := by decide +kernel
theorem dX11_say_15 : decode cX11_say 15 = .ok (.sipush (-1001), 3) := by decide +kernel
theorem dX11_say_18 : decode cX11_say 18 = .ok (.ireturn, 1) := by decide +kernel
theorem dX11_say_19 : decode cX11_say 19 = .ok (.iload_n 3, 1) := by decide +kernel
theorem dX11_say_20 : decode cX11_say 20 = .ok (.invokestatic 214, 3) := by decide +kernel
theorem dX11_say_23 : decode cX11_say 23 = .ok (.ifCond .ne 7, 3) := by decide +kernel
theorem dX11_say_26 : decode cX11_say 26 = .ok (.sipush (-1002), 3) := by decide +kernel
theorem dX11_say_29 : decode cX11_say 29 = .ok (.ireturn, 1) := by decide +kernel
theorem dX11_say_30 : decode cX11_say 30 = .ok (.aload_n 0, 1) := by decide +kernel
theorem dX11_say_31 : decode cX11_say 31 = .ok (.iload_n 1, 1) := by decide +kernel
theorem dX11_say_32 : decode cX11_say 32 = .ok (.iload_n 2, 1) := by decide +kernel
theorem dX11_say_33 : decode cX11_say 33 = .ok (.iload_n 3, 1) := by decide +kernel
theorem dX11_say_34 : decode cX11_say 34 = .ok (.iconst 0, 1) := by decide +kernel
theorem dX11_say_35 : decode cX11_say 35 = .ok (.iconst 0, 1) := by decide +kernel
theorem dX11_say_36 : decode cX11_say 36 = .ok (.invokevirtual 318, 3) := by decide +kernel
theorem dX11_say_39 : decode cX11_say 39 = .ok (.ifCond .gt 28, 3) := by decide +kernel
theorem dX11_say_42 : decode cX11_say 42 = .ok (.aload_n 0, 1) := by decide +kernel
theorem dX11_say_43 : decode cX11_say 43 = .ok (.iload_n 2, 1) := by decide +kernel
theorem dX11_say_44 : decode cX11_say 44 = .ok (.invokevirtual 349, 3) := by decide +kernel
theorem dX11_say_47 : decode cX11_say 47 = .ok (.ifCond .ne 20, 3) := by decide +kernel
theorem dX11_say_50 : decode cX11_say 50 = .ok (.aload_n 0, 1) := by decide +kernel
theorem dX11_say_51 : decode cX11_say 51 = .ok (.iload_n 1, 1) := by decide +kernel
theorem dX11_say_52 : decode cX11_say 52 = .ok (.iload_n 2, 1) := by decide +kernel
theorem dX11_say_53 : decode cX11_say 53 = .ok (.invokevirtual 352, 3) := by decide +kernel
theorem dX11_say_56 : decode cX11_say 56 = .ok (.ifCond .eq 11, 3) := by decide +kernel
theorem dX11_say_59 : decode cX11_say 59 = .ok (.aload_n 0, 1) := by decide +kernel
theorem dX11_say_60 : decode cX11_say 60 = .ok (.iload_n 2, 1) := by decide +kernel
theorem dX11_say_61 : decode cX11_say 61 = .ok (.invokevirtual 329, 3) := by decide +kernel
theorem dX11_say_64 : decode cX11_say 64 = .ok (.ifCond .ne 7, 3) := by decide +kernel
theorem dX11_say_67 : decode cX11_say 67 = .ok (.sipush (-1003), 3) := by decide +kernel
theorem dX11_say_70 : decode cX11_say 70 = .ok (.ireturn, 1) := by decide +kernel
theorem dX11_say_71 : decode cX11_say 71 = .ok (.aload_n 0, 1) := by decide +kernel
theorem dX11_say_72 : decode cX11_say 72 = .ok (.getfield 195, 3) := by decide +kernel
theorem dX11_say_75 : decode cX11_say 75 = .ok (.bipush 40, 2) := by decide +kernel
theorem dX11_say_77 : decode cX11_say 77 = .ok (.if_icmp .ne 7, 3) := by decide +kernel
theorem dX11_say_80 : decode cX11_say 80 = .ok (.sipush (-1004), 3) := by decide +kernel
theorem dX11_say_83 : decode cX11_say 83 = .ok (.ireturn, 1) := by decide +kernel
theorem dX11_say_84 : decode cX11_say 84 = .ok (.aload_n 0, 1) := by decide +kernel
theorem dX11_say_85 : decode cX11_say 85 = .ok (.getfield 121, 3) := by decide +kernel
theorem dX11_say_88 : decode cX11_say 88 = .ok (.aload_n 0, 1) := by decide +kernel
theorem dX11_say_89 : decode cX11_say 89 = .ok (.getfield 195, 3) := by decide +kernel
theorem dX11_say_92 : decode cX11_say 92 = .ok (.iload_n 1, 1) := by decide +kernel
theorem dX11_say_93 : decode cX11_say 93 = .ok (.iastore, 1) := by decide +kernel
theorem dX11_say_94 : decode cX11_say 94 = .ok (.aload_n 0, 1) := by decide +kernel
theorem dX11_say_95 : decode cX11_say 95 = .ok (.getfield 124, 3) := by decide +kernel
theorem dX11_say_98 : decode cX11_say 98 = .ok (.aload_n 0, 1) := by decide +kernel
theorem dX11_say_99 : decode cX11_say 99 = .ok (.getfield 195, 3) := by decide +kernel
theorem dX11_say_102 : decode cX11_say 102 = .ok (.iload_n 2, 1) := by decide +kernel
theorem dX11_say_103 : decode cX11_say 103 = .ok (.iastore, 1) := by decide +kernel
theorem dX11_say_104 : decode cX11_say 104 = .ok (.aload_n 0, 1) := by decide +kernel
theorem dX11_say_105 : decode cX11_say 105 = .ok (.getfield 127, 3) := by decide +kernel
theorem dX11_say_108 : decode cX11_say 108 = .ok (.aload_n 0, 1) := by decide +kernel
theorem dX11_say_109 : decode cX11_say 109 = .ok (.getfield 195, 3) := by decide +kernel
theorem dX11_say_112 : decode cX11_say 112 = .ok (.iload_n 3, 1) := by decide +kernel
theorem dX11_say_113 : decode cX11_say 113 = .ok (.iastore, 1) := by decide +kernel
theorem dX11_say_114 : decode cX11_say 114 = .ok (.aload_n 0, 1) := by decide +kernel
theorem dX11_say_115 : decode cX11_say 115 = .ok (.getfield 130, 3) := by decide +kernel
theorem dX11_say_118 : decode cX11_say 118 = .ok (.aload_n 0, 1) := by decide +kernel
theorem dX11_say_119 : decode cX11_say 119 = .ok (.getfield 195, 3) := by decide +kernel
theorem dX11_say_122 : decode cX11_say 122 = .ok (.aload_n 0, 1) := by decide +kernel
theorem dX11_say_123 : decode cX11_say 123 = .ok (.getfield 158, 3) := by decide +kernel
theorem dX11_say_126 : decode cX11_say 126 = .ok (.iastore, 1) := by decide +kernel
theorem dX11_say_127 : decode cX11_say 127 = .ok (.aload_n 0, 1) := by decide +kernel
theorem dX11_say_128 : decode cX11_say 128 = .ok (.getfield 133, 3) := by decide +kernel
theorem dX11_say_131 : decode cX11_say 131 = .ok (.aload_n 0, 1) := by decide +kernel
theorem dX11_say_132 : decode cX11_say 132 = .ok (.getfield 195, 3) := by decide +kernel
theorem dX11_say_135 : decode cX11_say 135 = .ok (.iconst 0, 1) := by decide +kernel
theorem dX11_say_136 : decode cX11_say 136 = .ok (.iastore, 1) := by decide +kernel
theorem dX11_say_137 : decode cX11_say 137 = .ok (.aload_n 0, 1) := by decide +kernel
theorem dX11_say_138 : decode cX11_say 138 = .ok (.dup, 1) := by decide +kernel
theorem dX11_say_139 : decode cX11_say 139 = .ok (.getfield 195, 3) := by decide +kernel
theorem dX11_say_142 : decode cX11_say 142 = .ok (.iconst 1, 1) := by decide +kernel
theorem dX11_say_143 : decode cX11_say 143 = .ok (.iadd, 1) := by decide +kernel
theorem dX11_say_144 : decode cX11_say 144 = .ok (.putfield 195, 3) := by decide +kernel
theorem dX11_say_147 : decode cX11_say 147 = .ok (.aload_n 0, 1) := by decide +kernel
theorem dX11_say_148 : decode cX11_say 148 = .ok (.getfield 195, 3) := by decide +kernel
theorem dX11_say_151 : decode cX11_say 151 = .ok (.iconst 1, 1) := by decide +kernel
theorem dX11_say_152 : decode cX11_say 152 = .ok (.isub, 1) := by decide +kernel
theorem dX11_say_153 : decode cX11_say 153 = .ok (.ireturn, 1) := by decide +kernel
theorem dX11_isSaying_0 : decode cX11_isSaying 0 = .ok (.iload_n 1, 1) := by decide +kernel
theorem dX11_isSaying_1 : decode cX11_isSaying 1 = .ok (.i2l, 1) := by decide +kernel
theorem dX11_isSaying_2 : decode cX11_isSaying 2 = .ok (.lconst 0, 1) := by decide +kernel
theorem dX11_isSaying_3 : decode cX11_isSaying 3 = .ok (.aload_n 0, 1) := by decide +kernel
theorem dX11_isSaying_4 : decode cX11_isSaying 4 = .ok (.getfield 195, 3) := by decide +kernel
theorem dX11_isSaying_7 : decode cX11_isSaying 7 = .ok (.iconst 1, 1) := by decide +kernel
theorem dX11_isSaying_8 : decode cX11_isSaying 8 = .ok (.isub, 1) := by decide +kernel
theorem dX11_isSaying_9 : decode cX11_isSaying 9 = .ok (.i2l, 1) := by decide +kernel
theorem dX11_isSaying_10 : decode cX11_isSaying 10 = .ok (.invokestatic 138, 3) := by decide +kernel
theorem dX11_isSaying_13 : decode cX11_isSaying 13 = .ok (.ireturn, 1) := by decide +kernel
theorem dX11_came_0 : decode cX11_came 0 = .ok (.aload_n 0, 1) := by decide +kernel
theorem dX11_came_1 : decode cX11_came 1 = .ok (.iload_n 1, 1) := by decide +kernel
theorem dX11_came_2 : decode cX11_came 2 = .ok (.invokevirtual 355, 3) := by decide +kernel
theorem dX11_came_5 : decode cX11_came 5 = .ok (.ifCond .ne 7, 3) := by decide +kernel
theorem dX11_came_8 : decode cX11_came 8 = .ok (.sipush (-1001), 3) := by decide +kernel
theorem dX11_came_11 : decode cX11_came 11 = .ok (.ireturn, 1) := by decide +kernel
theorem dX11_came_12 : decode cX11_came 12 = .ok (.iload_n 2, 1) := by decide +kernel
theorem dX11_came_13 : decode cX11_came 13 = .ok (.i2l, 1) := by decide +kernel
theorem dX11_came_14 : decode cX11_came 14 = .ok (.lconst 1, 1) := by decide +kernel
theorem dX11_came_15 : decode cX11_came 15 = .ok (.ldc2_w 136, 3) := by decide +kernel
theorem dX11_came_18 : decode cX11_came 18 = .ok (.invokestatic 138, 3) := by decide +kernel
theorem dX11_came_21 : decode cX11_came 21 = .ok (.ifCond .ne 7, 3) := by decide +kernel
theorem dX11_came_24 : decode cX11_came 24 = .ok (.sipush (-1002), 3) := by decide +kernel
theorem dX11_came_27 : decode cX11_came 27 = .ok (.ireturn, 1) := by decide +kernel
theorem dX11_came_28 : decode cX11_came 28 = .ok (.aload_n 0, 1) := by decide +kernel
theorem dX11_came_29 : decode cX11_came 29 = .ok (.getfield 133, 3) := by decide +kernel
theorem dX11_came_32 : decode cX11_came 32 = .ok (.iload_n 1, 1) := by decide +kernel
theorem dX11_came_33 : decode cX11_came 33 = .ok (.iaload, 1) := by decide +kernel
theorem dX11_came_34 : decode cX11_came 34 = .ok (.ifCond .le 7, 3) := by decide +kernel
theorem dX11_came_37 : decode cX11_came 37 = .ok (.sipush (-1003), 3) := by decide +kernel
theorem dX11_came_40 : decode cX11_came 40 = .ok (.ireturn, 1) := by decide +kernel
theorem dX11_came_41 : decode cX11_came 41 = .ok (.aload_n 0, 1) := by decide +kernel
theorem dX11_came_42 : decode cX11_came 42 = .ok (.getfield 133, 3) := by decide +kernel
theorem dX11_came_45 : decode cX11_came 45 = .ok (.iload_n 1, 1) := by decide +kernel
theorem dX11_came_46 : decode cX11_came 46 = .ok (.iload_n 2, 1) := by decide +kernel
theorem dX11_came_47 : decode cX11_came 47 = .ok (.iastore, 1) := by decide +kernel
theorem dX11_came_48 : decode cX11_came 48 = .ok (.iconst 0, 1) := by decide +kernel
theorem dX11_came_49 : decode cX11_came 49 = .ok (.ireturn, 1) := by decide +kernel
theorem dX11_saying_0 : decode cX11_saying 0 = .ok (.aload_n 0, 1) := by decide +kernel
theorem dX11_saying_1 : decode cX11_saying 1 = .ok (.iload_n 1, 1) := by decide +kernel
theorem dX11_saying_2 : decode cX11_saying 2 = .ok (.invokevirtual 355, 3) := by decide +kernel
theorem dX11_saying_5 : decode cX11_saying 5 = .ok (.ifCond .ne 7, 3) := by decide +kernel
theorem dX11_saying_8 : decode cX11_saying 8 = .ok (.sipush (-1001), 3) := by decide +kernel
theorem dX11_saying_11 : decode cX11_saying 11 = .ok (.ireturn, 1) := by decide +kernel
theorem dX11_saying_12 : decode cX11_saying 12 = .ok (.iload_n 2, 1) := by decide +kernel
theorem dX11_saying_13 : decode cX11_saying 13 = .ok (.tableswitch 85 0 5 #[39, 46, 53, 60, 67, 74], 39) := by decide +kernel
theorem dX11_saying_52 : decode cX11_saying 52 = .ok (.aload_n 0, 1) := by decide +kernel
theorem dX11_saying_53 : decode cX11_saying 53 = .ok (.getfield 121, 3) := by decide +kernel
theorem dX11_saying_56 : decode cX11_saying 56 = .ok (.iload_n 1, 1) := by decide +kernel
theorem dX11_saying_57 : decode cX11_saying 57 = .ok (.iaload, 1) := by decide +kernel
theorem dX11_saying_58 : decode cX11_saying 58 = .ok (.ireturn, 1) := by decide +kernel
theorem dX11_saying_59 : decode cX11_saying 59 = .ok (.aload_n 0, 1) := by decide +kernel
theorem dX11_saying_60 : decode cX11_saying 60 = .ok (.getfield 124, 3) := by decide +kernel
theorem dX11_saying_63 : decode cX11_saying 63 = .ok (.iload_n 1, 1) := by decide +kernel
theorem dX11_saying_64 : decode cX11_saying 64 = .ok (.iaload, 1) := by decide +kernel
theorem dX11_saying_65 : decode cX11_saying 65 = .ok (.ireturn, 1) := by decide +kernel
theorem dX11_saying_66 : decode cX11_saying 66 = .ok (.aload_n 0, 1) := by decide +kernel
theorem dX11_saying_67 : decode cX11_saying 67 = .ok (.getfield 127, 3) := by decide +kernel
theorem dX11_saying_70 : decode cX11_saying 70 = .ok (.iload_n 1, 1) := by decide +kernel
theorem dX11_saying_71 : decode cX11_saying 71 = .ok (.iaload, 1) := by decide +kernel
theorem dX11_saying_72 : decode cX11_saying 72 = .ok (.ireturn, 1) := by decide +kernel
theorem dX11_saying_73 : decode cX11_saying 73 = .ok (.aload_n 0, 1) := by decide +kernel
theorem dX11_saying_74 : decode cX11_saying 74 = .ok (.getfield 130, 3) := by decide +kernel
theorem dX11_saying_77 : decode cX11_saying 77 = .ok (.iload_n 1, 1) := by decide +kernel
theorem dX11_saying_78 : decode cX11_saying 78 = .ok (.iaload, 1) := by decide +kernel
theorem dX11_saying_79 : decode cX11_saying 79 = .ok (.ireturn, 1) := by decide +kernel
theorem dX11_saying_80 : decode cX11_saying 80 = .ok (.aload_n 0, 1) := by decide +kernel
theorem dX11_saying_81 : decode cX11_saying 81 = .ok (.getfield 133, 3) := by decide +kernel
theorem dX11_saying_84 : decode cX11_saying 84 = .ok (.iload_n 1, 1) := by decide +kernel
theorem dX11_saying_85 : decode cX11_saying 85 = .ok (.iaload, 1) := by decide +kernel
theorem dX11_saying_86 : decode cX11_saying 86 = .ok (.ireturn, 1) := by decide +kernel
theorem dX11_saying_87 : decode cX11_saying 87 = .ok (.aload_n 0, 1) := by decide +kernel
theorem dX11_saying_88 : decode cX11_saying 88 = .ok (.aload_n 0, 1) := by decide +kernel
theorem dX11_saying_89 : decode cX11_saying 89 = .ok (.getfield 124, 3) := by decide +kernel
theorem dX11_saying_92 : decode cX11_saying 92 = .ok (.iload_n 1, 1) := by decide +kernel
theorem dX11_saying_93 : decode cX11_saying 93 = .ok (.iaload, 1) := by decide +kernel
theorem dX11_saying_94 : decode cX11_saying 94 = .ok (.invokevirtual 349, 3) := by decide +kernel
theorem dX11_saying_97 : decode cX11_saying 97 = .ok (.ireturn, 1) := by decide +kernel
theorem dX11_saying_98 : decode cX11_saying 98 = .ok (.sipush (-1002), 3) := by decide +kernel
theorem dX11_saying_101 : decode cX11_saying 101 = .ok (.ireturn, 1) := by decide +kernel
theorem dX11_cameOf_0 : decode cX11_cameOf 0 = .ok (.iconst 0, 1) := by decide +kernel
theorem dX11_cameOf_1 : decode cX11_cameOf 1 = .ok (.istore_n 3, 1) := by decide +kernel
theorem dX11_cameOf_2 : decode cX11_cameOf 2 = .ok (.iconst 0, 1) := by decide +kernel
theorem dX11_cameOf_3 : decode cX11_cameOf 3 = .ok (.istore 4, 2) := by decide +kernel
theorem dX11_cameOf_5 : decode cX11_cameOf 5 = .ok (.iload 4, 2) := by decide +kernel
theorem dX11_cameOf_7 : decode cX11_cameOf 7 = .ok (.aload_n 0, 1) := by decide +kernel
theorem dX11_cameOf_8 : decode cX11_cameOf 8 = .ok (.getfield 195, 3) := by decide +kernel
theorem dX11_cameOf_11 : decode cX11_cameOf 11 = .ok (.if_icmp .ge 56, 3) := by decide +kernel
theorem dX11_cameOf_14 : decode cX11_cameOf 14 = .ok (.iload_n 3, 1) := by decide +kernel
theorem dX11_cameOf_15 : decode cX11_cameOf 15 = .ok (.aload_n 0, 1) := by decide +kernel
theorem dX11_cameOf_16 : decode cX11_cameOf 16 = .ok (.getfield 127, 3) := by decide +kernel
theorem dX11_cameOf_19 : decode cX11_cameOf 19 = .ok (.iload 4, 2) := by decide +kernel
theorem dX11_cameOf_21 : decode cX11_cameOf 21 = .ok (.iaload, 1) := by decide +kernel
theorem dX11_cameOf_22 : decode cX11_cameOf 22 = .ok (.iload_n 1, 1) := by decide +kernel
theorem dX11_cameOf_23 : decode cX11_cameOf 23 = .ok (.if_icmp .ne 35, 3) := by decide +kernel
theorem dX11_cameOf_26 : decode cX11_cameOf 26 = .ok (.iload_n 2, 1) := by decide +kernel
theorem dX11_cameOf_27 : decode cX11_cameOf 27 = .ok (.ifCond .eq 17, 3) := by decide +kernel
theorem dX11_cameOf_30 : decode cX11_cameOf 30 = .ok (.aload_n 0, 1) := by decide +kernel
theorem dX11_cameOf_31 : decode cX11_cameOf 31 = .ok (.getfield 133, 3) := by decide +kernel
theorem dX11_cameOf_34 : decode cX11_cameOf 34 = .ok (.iload 4, 2) := by decide +kernel
theorem dX11_cameOf_36 : decode cX11_cameOf 36 = .ok (.iaload, 1) := by decide +kernel
theorem dX11_cameOf_37 : decode cX11_cameOf 37 = .ok (.iconst 1, 1) := by decide +kernel
theorem dX11_cameOf_38 : decode cX11_cameOf 38 = .ok (.if_icmp .ne 20, 3) := by decide +kernel
theorem dX11_cameOf_41 : decode cX11_cameOf 41 = .ok (.goto 13, 3) := by decide +kernel
theorem dX11_cameOf_44 : decode cX11_cameOf 44 = .ok (.aload_n 0, 1) := by decide +kernel
theorem dX11_cameOf_45 : decode cX11_cameOf 45 = .ok (.getfield 133, 3) := by decide +kernel
theorem dX11_cameOf_48 : decode cX11_cameOf 48 = .ok (.iload 4, 2) := by decide +kernel
theorem dX11_cameOf_50 : decode cX11_cameOf 50 = .ok (.iaload, 1) := by decide +kernel
theorem dX11_cameOf_51 : decode cX11_cameOf 51 = .ok (.ifCond .le 7, 3) := by decide +kernel
theorem dX11_cameOf_54 : decode cX11_cameOf 54 = .ok (.iconst 1, 1) := by decide +kernel
theorem dX11_cameOf_55 : decode cX11_cameOf 55 = .ok (.goto 4, 3) := by decide +kernel
theorem dX11_cameOf_58 : decode cX11_cameOf 58 = .ok (.iconst 0, 1) := by decide +kernel
theorem dX11_cameOf_59 : decode cX11_cameOf 59 = .ok (.iadd, 1) := by decide +kernel
theorem dX11_cameOf_60 : decode cX11_cameOf 60 = .ok (.istore_n 3, 1) := by decide +kernel
theorem dX11_cameOf_61 : decode cX11_cameOf 61 = .ok (.iinc 4 1, 3) := by decide +kernel
theorem dX11_cameOf_64 : decode cX11_cameOf 64 = .ok (.goto (-59), 3) := by decide +kernel
theorem dX11_cameOf_67 : decode cX11_cameOf 67 = .ok (.iload_n 3, 1) := by decide +kernel
theorem dX11_cameOf_68 : decode cX11_cameOf 68 = .ok (.ireturn, 1) := by decide +kernel
theorem dX11_choose_0 : decode cX11_choose 0 = .ok (.lconst 1, 1) := by decide +kernel
theorem dX11_choose_1 : decode cX11_choose 1 = .ok (.lstore_n 2, 1) := by decide +kernel
theorem dX11_choose_2 : decode cX11_choose 2 = .ok (.iconst 1, 1) := by decide +kernel
theorem dX11_choose_3 : decode cX11_choose 3 = .ok (.istore 4, 2) := by decide +kernel
theorem dX11_choose_5 : decode cX11_choose 5 = .ok (.iload 4, 2) := by decide +kernel
theorem dX11_choose_7 : decode cX11_choose 7 = .ok (.iload_n 1, 1) := by decide +kernel
theorem dX11_choose_8 : decode cX11_choose 8 = .ok (.if_icmp .gt 23, 3) := by decide +kernel
theorem dX11_choose_11 : decode cX11_choose 11 = .ok (.lload_n 2, 1) := by decide +kernel
theorem dX11_choose_12 : decode cX11_choose 12 = .ok (.iload_n 0, 1) := by decide +kernel
theorem dX11_choose_13 : decode cX11_choose 13 = .ok (.iload 4, 2) := by decide +kernel
theorem dX11_choose_15 : decode cX11_choose 15 = .ok (.isub, 1) := by decide +kernel
theorem dX11_choose_16 : decode cX11_choose 16 = .ok (.iconst 1, 1) := by decide +kernel
theorem dX11_choose_17 : decode cX11_choose 17 = .ok (.iadd, 1) := by decide +kernel
theorem dX11_choose_18 : decode cX11_choose 18 = .ok (.i2l, 1) := by decide +kernel
theorem dX11_choose_19 : decode cX11_choose 19 = .ok (.lmul, 1) := by decide +kernel
theorem dX11_choose_20 : decode cX11_choose 20 = .ok (.iload 4, 2) := by decide +kernel
theorem dX11_choose_22 : decode cX11_choose 22 = .ok (.i2l, 1) := by decide +kernel
theorem dX11_choose_23 : decode cX11_choose 23 = .ok (.ldiv, 1) := by decide +kernel
theorem dX11_choose_24 : decode cX11_choose 24 = .ok (.lstore_n 2, 1) := by decide +kernel
theorem dX11_choose_25 : decode cX11_choose 25 = .ok (.iinc 4 1, 3) := by decide +kernel
theorem dX11_choose_28 : decode cX11_choose 28 = .ok (.goto (-23), 3) := by decide +kernel
theorem dX11_choose_31 : decode cX11_choose 31 = .ok (.iload_n 1, 1) := by decide +kernel
theorem dX11_choose_32 : decode cX11_choose 32 = .ok (.iload_n 0, 1) := by decide +kernel
theorem dX11_choose_33 : decode cX11_choose 33 = .ok (.if_icmp .gt 7, 3) := by decide +kernel
theorem dX11_choose_36 : decode cX11_choose 36 = .ok (.iload_n 1, 1) := by decide +kernel
theorem dX11_choose_37 : decode cX11_choose 37 = .ok (.ifCond .ge 7, 3) := by decide +kernel
theorem dX11_choose_40 : decode cX11_choose 40 = .ok (.lconst 0, 1) := by decide +kernel
theorem dX11_choose_41 : decode cX11_choose 41 = .ok (.goto 4, 3) := by decide +kernel
theorem dX11_choose_44 : decode cX11_choose 44 = .ok (.lload_n 2, 1) := by decide +kernel
theorem dX11_choose_45 : decode cX11_choose 45 = .ok (.lreturn, 1) := by decide +kernel
theorem dX11_gcd_0 : decode cX11_gcd 0 = .ok (.lload_n 0, 1) := by decide +kernel
theorem dX11_gcd_1 : decode cX11_gcd 1 = .ok (.lstore 4, 2) := by decide +kernel
theorem dX11_gcd_3 : decode cX11_gcd 3 = .ok (.lload_n 2, 1) := by decide +kernel
theorem dX11_gcd_4 : decode cX11_gcd 4 = .ok (.lstore 6, 2) := by decide +kernel
theorem dX11_gcd_6 : decode cX11_gcd 6 = .ok (.lload 6, 2) := by decide +kernel
theorem dX11_gcd_8 : decode cX11_gcd 8 = .ok (.lconst 0, 1) := by decide +kernel
theorem dX11_gcd_9 : decode cX11_gcd 9 = .ok (.lcmp, 1) := by decide +kernel
theorem dX11_gcd_10 : decode cX11_gcd 10 = .ok (.ifCond .eq 21, 3) := by decide +kernel
theorem dX11_gcd_13 : decode cX11_gcd 13 = .ok (.lload 4, 2) := by decide +kernel
theorem dX11_gcd_15 : decode cX11_gcd 15 = .ok (.lload 6, 2) := by decide +kernel
theorem dX11_gcd_17 : decode cX11_gcd 17 = .ok (.lrem, 1) := by decide +kernel
theorem dX11_gcd_18 : decode cX11_gcd 18 = .ok (.lstore 8, 2) := by decide +kernel
theorem dX11_gcd_20 : decode cX11_gcd 20 = .ok (.lload 6, 2) := by decide +kernel
theorem dX11_gcd_22 : decode cX11_gcd 22 = .ok (.lstore 4, 2) := by decide +kernel
theorem dX11_gcd_24 : decode cX11_gcd 24 = .ok (.lload 8, 2) := by decide +kernel
theorem dX11_gcd_26 : decode cX11_gcd 26 = .ok (.lstore 6, 2) := by decide +kernel
theorem dX11_gcd_28 : decode cX11_gcd 28 = .ok (.goto (-22), 3) := by decide +kernel
theorem dX11_gcd_31 : decode cX11_gcd 31 = .ok (.lload 4, 2) := by decide +kernel
theorem dX11_gcd_33 : decode cX11_gcd 33 = .ok (.lreturn, 1) := by decide +kernel
theorem dX11_learnt_0 : decode cX11_learnt 0 = .ok (.iload_n 1, 1) := by decide +kernel
theorem dX11_learnt_1 : decode cX11_learnt 1 = .ok (.invokestatic 214, 3) := by decide +kernel
theorem dX11_learnt_4 : decode cX11_learnt 4 = .ok (.ifCond .eq 27, 3) := by decide +kernel
theorem dX11_learnt_7 : decode cX11_learnt 7 = .ok (.iload_n 2, 1) := by decide +kernel
theorem dX11_learnt_8 : decode cX11_learnt 8 = .ok (.invokestatic 214, 3) := by decide +kernel
theorem dX11_learnt_11 : decode cX11_learnt 11 = .ok (.ifCond .eq 20, 3) := by decide +kernel
theorem dX11_learnt_14 : decode cX11_learnt 14 = .ok (.iload_n 1, 1) := by decide +kernel
theorem dX11_learnt_15 : decode cX11_learnt 15 = .ok (.iload_n 2, 1) := by decide +kernel
theorem dX11_learnt_16 : decode cX11_learnt 16 = .ok (.if_icmp .eq 15, 3) := by decide +kernel
theorem dX11_learnt_19 : decode cX11_learnt 19 = .ok (.iload_n 3, 1) := by decide +kernel
theorem dX11_learnt_20 : decode cX11_learnt 20 = .ok (.i2l, 1) := by decide +kernel
theorem dX11_learnt_21 : decode cX11_learnt 21 = .ok (.lconst 0, 1) := by decide +kernel
theorem dX11_learnt_22 : decode cX11_learnt 22 = .ok (.ldc2_w 185, 3) := by decide +kernel
theorem dX11_learnt_25 : decode cX11_learnt 25 = .ok (.invokestatic 138, 3) := by decide +kernel
theorem dX11_learnt_28 : decode cX11_learnt 28 = .ok (.ifCond .ne 7, 3) := by decide +kernel
theorem dX11_learnt_31 : decode cX11_learnt 31 = .ok (.sipush (-1002), 3) := by decide +kernel
theorem dX11_learnt_34 : decode cX11_learnt 34 = .ok (.ireturn, 1) := by decide +kernel
theorem dX11_learnt_35 : decode cX11_learnt 35 = .ok (.aload_n 0, 1) := by decide +kernel
theorem dX11_learnt_36 : decode cX11_learnt 36 = .ok (.iload_n 1, 1) := by decide +kernel
theorem dX11_learnt_37 : decode cX11_learnt 37 = .ok (.iconst 1, 1) := by decide +kernel
theorem dX11_learnt_38 : decode cX11_learnt 38 = .ok (.invokevirtual 358, 3) := by decide +kernel
theorem dX11_learnt_41 : decode cX11_learnt 41 = .ok (.istore 4, 2) := by decide +kernel
theorem dX11_learnt_43 : decode cX11_learnt 43 = .ok (.aload_n 0, 1) := by decide +kernel
theorem dX11_learnt_44 : decode cX11_learnt 44 = .ok (.iload_n 1, 1) := by decide +kernel
theorem dX11_learnt_45 : decode cX11_learnt 45 = .ok (.iconst 0, 1) := by decide +kernel
theorem dX11_learnt_46 : decode cX11_learnt 46 = .ok (.invokevirtual 358, 3) := by decide +kernel
theorem dX11_learnt_49 : decode cX11_learnt 49 = .ok (.istore 5, 2) := by decide +kernel
theorem dX11_learnt_51 : decode cX11_learnt 51 = .ok (.aload_n 0, 1) := by decide +kernel
theorem dX11_learnt_52 : decode cX11_learnt 52 = .ok (.iload_n 2, 1) := by decide +kernel
theorem dX11_learnt_53 : decode cX11_learnt 53 = .ok (.iconst 1, 1) := by decide +kernel
theorem dX11_learnt_54 : decode cX11_learnt 54 = .ok (.invokevirtual 358, 3) := by decide +kernel
theorem dX11_learnt_57 : decode cX11_learnt 57 = .ok (.istore 6, 2) := by decide +kernel
theorem dX11_learnt_59 : decode cX11_learnt 59 = .ok (.aload_n 0, 1) := by decide +kernel
theorem dX11_learnt_60 : decode cX11_learnt 60 = .ok (.iload_n 2, 1) := by decide +kernel
theorem dX11_learnt_61 : decode cX11_learnt 61 = .ok (.iconst 0, 1) := by decide +kernel
theorem dX11_learnt_62 : decode cX11_learnt 62 = .ok (.invokevirtual 358, 3) := by decide +kernel
theorem dX11_learnt_65 : decode cX11_learnt 65 = .ok (.istore 7, 2) := by decide +kernel
theorem dX11_learnt_67 : decode cX11_learnt 67 = .ok (.iload_n 3, 1) := by decide +kernel
theorem dX11_learnt_68 : decode cX11_learnt 68 = .ok (.iconst 4, 1) := by decide +kernel
theorem dX11_learnt_69 : decode cX11_learnt 69 = .ok (.if_icmp .ge 35, 3) := by decide +kernel
theorem dX11_learnt_72 : decode cX11_learnt 72 = .ok (.iload_n 3, 1) := by decide +kernel
theorem dX11_learnt_73 : decode cX11_learnt 73 = .ok (.ifCond .ne 8, 3) := by decide +kernel
theorem dX11_learnt_76 : decode cX11_learnt 76 = .ok (.iload 4, 2) := by decide +kernel
theorem dX11_learnt_78 : decode cX11_learnt 78 = .ok (.goto 25, 3) := by decide +kernel
theorem dX11_learnt_81 : decode cX11_learnt 81 = .ok (.iload_n 3, 1) := by decide +kernel
theorem dX11_learnt_82 : decode cX11_learnt 82 = .ok (.iconst 1, 1) := by decide +kernel
theorem dX11_learnt_83 : decode cX11_learnt 83 = .ok (.if_icmp .ne 8, 3) := by decide +kernel
theorem dX11_learnt_86 : decode cX11_learnt 86 = .ok (.iload 5, 2) := by decide +kernel
theorem dX11_learnt_88 : decode cX11_learnt 88 = .ok (.goto 15, 3) := by decide +kernel
theorem dX11_learnt_91 : decode cX11_learnt 91 = .ok (.iload_n 3, 1) := by decide +kernel
theorem dX11_learnt_92 : decode cX11_learnt 92 = .ok (.iconst 2, 1) := by decide +kernel
theorem dX11_learnt_93 : decode cX11_learnt 93 = .ok (.if_icmp .ne 8, 3) := by decide +kernel
theorem dX11_learnt_96 : decode cX11_learnt 96 = .ok (.iload 6, 2) := by decide +kernel
theorem dX11_learnt_98 : decode cX11_learnt 98 = .ok (.goto 5, 3) := by decide +kernel
theorem dX11_learnt_101 : decode cX11_learnt 101 = .ok (.iload 7, 2) := by decide +kernel
theorem dX11_learnt_103 : decode cX11_learnt 103 = .ok (.ireturn, 1) := by decide +kernel
theorem dX11_learnt_104 : decode cX11_learnt 104 = .ok (.iload 5, 2) := by decide +kernel
theorem dX11_learnt_106 : decode cX11_learnt 106 = .ok (.iload 7, 2) := by decide +kernel
theorem dX11_learnt_108 : decode cX11_learnt 108 = .ok (.iadd, 1) := by decide +kernel
theorem dX11_learnt_109 : decode cX11_learnt 109 = .ok (.bipush 30, 2) := by decide +kernel
theorem dX11_learnt_111 : decode cX11_learnt 111 = .ok (.if_icmp .le 7, 3) := by decide +kernel
theorem dX11_learnt_114 : decode cX11_learnt 114 = .ok (.sipush (-1003), 3) := by decide +kernel
theorem dX11_learnt_117 : decode cX11_learnt 117 = .ok (.ireturn, 1) := by decide +kernel
theorem dX11_learnt_118 : decode cX11_learnt 118 = .ok (.lconst 0, 1) := by decide +kernel
theorem dX11_learnt_119 : decode cX11_learnt 119 = .ok (.lstore 8, 2) := by decide +kernel
theorem dX11_learnt_121 : decode cX11_learnt 121 = .ok (.iload 4, 2) := by decide +kernel
theorem dX11_learnt_123 : decode cX11_learnt 123 = .ok (.istore 10, 2) := by decide +kernel
theorem dX11_learnt_125 : decode cX11_learnt 125 = .ok (.iload 10, 2) := by decide +kernel
theorem dX11_learnt_127 : decode cX11_learnt 127 = .ok (.iload 5, 2) := by decide +kernel
theorem dX11_learnt_129 : decode cX11_learnt 129 = .ok (.if_icmp .gt 35, 3) := by decide +kernel
theorem dX11_learnt_132 : decode cX11_learnt 132 = .ok (.lload 8, 2) := by decide +kernel
theorem dX11_learnt_134 : decode cX11_learnt 134 = .ok (.iload 5, 2) := by decide +kernel
theorem dX11_learnt_136 : decode cX11_learnt 136 = .ok (.iload 10, 2) := by decide +kernel
theorem dX11_learnt_138 : decode cX11_learnt 138 = .ok (.invokestatic 362, 3) := by decide +kernel
theorem dX11_learnt_141 : decode cX11_learnt 141 = .ok (.iload 7, 2) := by decide +kernel
theorem dX11_learnt_143 : decode cX11_learnt 143 = .ok (.iload 4, 2) := by decide +kernel
theorem dX11_learnt_145 : decode cX11_learnt 145 = .ok (.iload 6, 2) := by decide +kernel
theorem dX11_learnt_147 : decode cX11_learnt 147 = .ok (.iadd, 1) := by decide +kernel
theorem dX11_learnt_148 : decode cX11_learnt 148 = .ok (.iload 10, 2) := by decide +kernel
theorem dX11_learnt_150 : decode cX11_learnt 150 = .ok (.isub, 1) := by decide +kernel
theorem dX11_learnt_151 : decode cX11_learnt 151 = .ok (.invokestatic 362, 3) := by decide +kernel
theorem dX11_learnt_154 : decode cX11_learnt 154 = .ok (.lmul, 1) := by decide +kernel
theorem dX11_learnt_155 : decode cX11_learnt 155 = .ok (.ladd, 1) := by decide +kernel
theorem dX11_learnt_156 : decode cX11_learnt 156 = .ok (.lstore 8, 2) := by decide +kernel
theorem dX11_learnt_158 : decode cX11_learnt 158 = .ok (.iinc 10 1, 3) := by decide +kernel
theorem dX11_learnt_161 : decode cX11_learnt 161 = .ok (.goto (-36), 3) := by decide +kernel
theorem dX11_learnt_164 : decode cX11_learnt 164 = .ok (.iload 5, 2) := by decide +kernel
theorem dX11_learnt_166 : decode cX11_learnt 166 = .ok (.iload 7, 2) := by decide +kernel
theorem dX11_learnt_168 : decode cX11_learnt 168 = .ok (.iadd, 1) := by decide +kernel
theorem dX11_learnt_169 : decode cX11_learnt 169 = .ok (.iload 4, 2) := by decide +kernel
theorem dX11_learnt_171 : decode cX11_learnt 171 = .ok (.iload 6, 2) := by decide +kernel
theorem dX11_learnt_173 : decode cX11_learnt 173 = .ok (.iadd, 1) := by decide +kernel
theorem dX11_learnt_174 : decode cX11_learnt 174 = .ok (.invokestatic 362, 3) := by decide +kernel
theorem dX11_learnt_177 : decode cX11_learnt 177 = .ok (.lstore 10, 2) := by decide +kernel
theorem dX11_learnt_179 : decode cX11_learnt 179 = .ok (.lload 8, 2) := by decide +kernel
theorem dX11_learnt_181 : decode cX11_learnt 181 = .ok (.lload 10, 2) := by decide +kernel
theorem dX11_learnt_183 : decode cX11_learnt 183 = .ok (.invokestatic 366, 3) := by decide +kernel
theorem dX11_learnt_186 : decode cX11_learnt 186 = .ok (.lstore 12, 2) := by decide +kernel
theorem dX11_learnt_188 : decode cX11_learnt 188 = .ok (.iload_n 3, 1) := by decide +kernel
theorem dX11_learnt_189 : decode cX11_learnt 189 = .ok (.iconst 4, 1) := by decide +kernel
theorem dX11_learnt_190 : decode cX11_learnt 190 = .ok (.if_icmp .ne 11, 3) := by decide +kernel
theorem dX11_learnt_193 : decode cX11_learnt 193 = .ok (.lload 8, 2) := by decide +kernel
theorem dX11_learnt_195 : decode cX11_learnt 195 = .ok (.lload 12, 2) := by decide +kernel
theorem dX11_learnt_197 : decode cX11_learnt 197 = .ok (.ldiv, 1) := by decide +kernel
theorem dX11_learnt_198 : decode cX11_learnt 198 = .ok (.goto 8, 3) := by decide +kernel
theorem dX11_learnt_201 : decode cX11_learnt 201 = .ok (.lload 10, 2) := by decide +kernel
theorem dX11_learnt_203 : decode cX11_learnt 203 = .ok (.lload 12, 2) := by decide +kernel
theorem dX11_learnt_205 : decode cX11_learnt 205 = .ok (.ldiv, 1) := by decide +kernel
theorem dX11_learnt_206 : decode cX11_learnt 206 = .ok (.l2i, 1) := by decide +kernel
theorem dX11_learnt_207 : decode cX11_learnt 207 = .ok (.ireturn, 1) := by decide +kernel
theorem dX11_who_0 : decode cX11_who 0 = .ok (.aload_n 0, 1) := by decide +kernel
theorem dX11_who_1 : decode cX11_who 1 = .ok (.iload_n 1, 1) := by decide +kernel
theorem dX11_who_2 : decode cX11_who 2 = .ok (.invokevirtual 198, 3) := by decide +kernel
theorem dX11_who_5 : decode cX11_who 5 = .ok (.ifCond .ne 7, 3) := by decide +kernel
theorem dX11_who_8 : decode cX11_who 8 = .ok (.sipush (-1001), 3) := by decide +kernel
theorem dX11_who_11 : decode cX11_who 11 = .ok (.ireturn, 1) := by decide +kernel
theorem dX11_who_12 : decode cX11_who 12 = .ok (.iload_n 2, 1) := by decide +kernel
theorem dX11_who_13 : decode cX11_who 13 = .ok (.i2l, 1) := by decide +kernel
theorem dX11_who_14 : decode cX11_who 14 = .ok (.lconst 0, 1) := by decide +kernel
theorem dX11_who_15 : decode cX11_who 15 = .ok (.lconst 1, 1) := by decide +kernel
theorem dX11_who_16 : decode cX11_who 16 = .ok (.invokestatic 138, 3) := by decide +kernel
theorem dX11_who_19 : decode cX11_who 19 = .ok (.ifCond .ne 7, 3) := by decide +kernel
theorem dX11_who_22 : decode cX11_who 22 = .ok (.sipush (-1002), 3) := by decide +kernel
theorem dX11_who_25 : decode cX11_who 25 = .ok (.ireturn, 1) := by decide +kernel
theorem dX11_who_26 : decode cX11_who 26 = .ok (.iconst 0, 1) := by decide +kernel
theorem dX11_who_27 : decode cX11_who 27 = .ok (.istore_n 3, 1) := by decide +kernel
theorem dX11_who_28 : decode cX11_who 28 = .ok (.iconst 0, 1) := by decide +kernel
theorem dX11_who_29 : decode cX11_who 29 = .ok (.istore 4, 2) := by decide +kernel
theorem dX11_who_31 : decode cX11_who 31 = .ok (.iload 4, 2) := by decide +kernel
theorem dX11_who_33 : decode cX11_who 33 = .ok (.aload_n 0, 1) := by decide +kernel
theorem dX11_who_34 : decode cX11_who 34 = .ok (.getfield 195, 3) := by decide +kernel
theorem dX11_who_37 : decode cX11_who 37 = .ok (.if_icmp .ge 40, 3) := by decide +kernel
theorem dX11_who_40 : decode cX11_who 40 = .ok (.iload_n 3, 1) := by decide +kernel
theorem dX11_who_41 : decode cX11_who 41 = .ok (.aload_n 0, 1) := by decide +kernel
theorem dX11_who_42 : decode cX11_who 42 = .ok (.getfield 124, 3) := by decide +kernel
theorem dX11_who_45 : decode cX11_who 45 = .ok (.iload 4, 2) := by decide +kernel
theorem dX11_who_47 : decode cX11_who 47 = .ok (.iaload, 1) := by decide +kernel
theorem dX11_who_48 : decode cX11_who 48 = .ok (.iload_n 1, 1) := by decide +kernel
theorem dX11_who_49 : decode cX11_who 49 = .ok (.ishr, 1) := by decide +kernel
theorem dX11_who_50 : decode cX11_who 50 = .ok (.iconst 1, 1) := by decide +kernel
theorem dX11_who_51 : decode cX11_who 51 = .ok (.iand, 1) := by decide +kernel
theorem dX11_who_52 : decode cX11_who 52 = .ok (.iconst 1, 1) := by decide +kernel
theorem dX11_who_53 : decode cX11_who 53 = .ok (.if_icmp .ne 15, 3) := by decide +kernel
theorem dX11_who_56 : decode cX11_who 56 = .ok (.iconst 1, 1) := by decide +kernel
theorem dX11_who_57 : decode cX11_who 57 = .ok (.aload_n 0, 1) := by decide +kernel
theorem dX11_who_58 : decode cX11_who 58 = .ok (.getfield 121, 3) := by decide +kernel
theorem dX11_who_61 : decode cX11_who 61 = .ok (.iload 4, 2) := by decide +kernel
theorem dX11_who_63 : decode cX11_who 63 = .ok (.iaload, 1) := by decide +kernel
theorem dX11_who_64 : decode cX11_who 64 = .ok (.ishl, 1) := by decide +kernel
theorem dX11_who_65 : decode cX11_who 65 = .ok (.goto 4, 3) := by decide +kernel
theorem dX11_who_68 : decode cX11_who 68 = .ok (.iconst 0, 1) := by decide +kernel
theorem dX11_who_69 : decode cX11_who 69 = .ok (.ior, 1) := by decide +kernel
theorem dX11_who_70 : decode cX11_who 70 = .ok (.istore_n 3, 1) := by decide +kernel
theorem dX11_who_71 : decode cX11_who 71 = .ok (.iinc 4 1, 3) := by decide +kernel
theorem dX11_who_74 : decode cX11_who 74 = .ok (.goto (-43), 3) := by decide +kernel
theorem dX11_who_77 : decode cX11_who 77 = .ok (.iload_n 2, 1) := by decide +kernel
theorem dX11_who_78 : decode cX11_who 78 = .ok (.ifCond .ne 12, 3) := by decide +kernel
theorem dX11_who_81 : decode cX11_who 81 = .ok (.aload_n 0, 1) := by decide +kernel
theorem dX11_who_82 : decode cX11_who 82 = .ok (.getfield 41, 3) := by decide +kernel
theorem dX11_who_85 : decode cX11_who 85 = .ok (.iload_n 1, 1) := by decide +kernel
theorem dX11_who_86 : decode cX11_who 86 = .ok (.iaload, 1) := by decide +kernel
theorem dX11_who_87 : decode cX11_who 87 = .ok (.goto 13, 3) := by decide +kernel
theorem dX11_who_90 : decode cX11_who 90 = .ok (.aload_n 0, 1) := by decide +kernel
theorem dX11_who_91 : decode cX11_who 91 = .ok (.getfield 41, 3) := by decide +kernel
theorem dX11_who_94 : decode cX11_who 94 = .ok (.iload_n 1, 1) := by decide +kernel
theorem dX11_who_95 : decode cX11_who 95 = .ok (.iaload, 1) := by decide +kernel
theorem dX11_who_96 : decode cX11_who 96 = .ok (.iload_n 3, 1) := by decide +kernel
theorem dX11_who_97 : decode cX11_who 97 = .ok (.iconst (-1), 1) := by decide +kernel
theorem dX11_who_98 : decode cX11_who 98 = .ok (.ixor, 1) := by decide +kernel
theorem dX11_who_99 : decode cX11_who 99 = .ok (.iand, 1) := by decide +kernel
theorem dX11_who_100 : decode cX11_who 100 = .ok (.istore 4, 2) := by decide +kernel
theorem dX11_who_102 : decode cX11_who 102 = .ok (.iconst (-1), 1) := by decide +kernel
theorem dX11_who_103 : decode cX11_who 103 = .ok (.istore 5, 2) := by decide +kernel
theorem dX11_who_105 : decode cX11_who 105 = .ok (.iconst (-1), 1) := by decide +kernel
theorem dX11_who_106 : decode cX11_who 106 = .ok (.istore 6, 2) := by decide +kernel
theorem dX11_who_108 : decode cX11_who 108 = .ok (.iconst 0, 1) := by decide +kernel
theorem dX11_who_109 : decode cX11_who 109 = .ok (.istore 7, 2) := by decide +kernel
theorem dX11_who_111 : decode cX11_who 111 = .ok (.iload 7, 2) := by decide +kernel
theorem dX11_who_113 : decode cX11_who 113 = .ok (.iconst 4, 1) := by decide +kernel
theorem dX11_who_114 : decode cX11_who 114 = .ok (.if_icmp .ge 52, 3) := by decide +kernel
theorem dX11_who_117 : decode cX11_who 117 = .ok (.iload 4, 2) := by decide +kernel
theorem dX11_who_119 : decode cX11_who 119 = .ok (.iload 7, 2) := by decide +kernel
theorem dX11_who_121 : decode cX11_who 121 = .ok (.ishr, 1) := by decide +kernel
theorem dX11_who_122 : decode cX11_who 122 = .ok (.iconst 1, 1) := by decide +kernel
theorem dX11_who_123 : decode cX11_who 123 = .ok (.iand, 1) := by decide +kernel
theorem dX11_who_124 : decode cX11_who 124 = .ok (.iconst 1, 1) := by decide +kernel
theorem dX11_who_125 : decode cX11_who 125 = .ok (.if_icmp .ne 17, 3) := by decide +kernel
theorem dX11_who_128 : decode cX11_who 128 = .ok (.aload_n 0, 1) := by decide +kernel
theorem dX11_who_129 : decode cX11_who 129 = .ok (.iload 7, 2) := by decide +kernel
theorem dX11_who_131 : decode cX11_who 131 = .ok (.aload_n 0, 1) := by decide +kernel
theorem dX11_who_132 : decode cX11_who 132 = .ok (.getfield 158, 3) := by decide +kernel
theorem dX11_who_135 : decode cX11_who 135 = .ok (.iconst 0, 1) := by decide +kernel
theorem dX11_who_136 : decode cX11_who 136 = .ok (.invokevirtual 179, 3) := by decide +kernel
theorem dX11_who_139 : decode cX11_who 139 = .ok (.goto 4, 3) := by decide +kernel
theorem dX11_who_142 : decode cX11_who 142 = .ok (.iconst (-1), 1) := by decide +kernel
theorem dX11_who_143 : decode cX11_who 143 = .ok (.istore 8, 2) := by decide +kernel
theorem dX11_who_145 : decode cX11_who 145 = .ok (.iload 8, 2) := by decide +kernel
theorem dX11_who_147 : decode cX11_who 147 = .ok (.iload 6, 2) := by decide +kernel
theorem dX11_who_149 : decode cX11_who 149 = .ok (.if_icmp .le 11, 3) := by decide +kernel
theorem dX11_who_152 : decode cX11_who 152 = .ok (.iload 7, 2) := by decide +kernel
theorem dX11_who_154 : decode cX11_who 154 = .ok (.istore 5, 2) := by decide +kernel
theorem dX11_who_156 : decode cX11_who 156 = .ok (.iload 8, 2) := by decide +kernel
theorem dX11_who_158 : decode cX11_who 158 = .ok (.istore 6, 2) := by decide +kernel
theorem dX11_who_160 : decode cX11_who 160 = .ok (.iinc 7 1, 3) := by decide +kernel
theorem dX11_who_163 : decode cX11_who 163 = .ok (.goto (-52), 3) := by decide +kernel
theorem dX11_who_166 : decode cX11_who 166 = .ok (.iload 5, 2) := by decide +kernel
theorem dX11_who_168 : decode cX11_who 168 = .ok (.ireturn, 1) := by decide +kernel
theorem dX11_tried_0 : decode cX11_tried 0 = .ok (.iload_n 1, 1) := by decide +kernel
theorem dX11_tried_1 : decode cX11_tried 1 = .ok (.invokestatic 153, 3) := by decide +kernel
theorem dX11_tried_4 : decode cX11_tried 4 = .ok (.ifCond .ne 7, 3) := by decide +kernel
theorem dX11_tried_7 : decode cX11_tried 7 = .ok (.sipush (-1001), 3) := by decide +kernel
theorem dX11_tried_10 : decode cX11_tried 10 = .ok (.ireturn, 1) := by decide +kernel
theorem dX11_tried_11 : decode cX11_tried 11 = .ok (.iload_n 2, 1) := by decide +kernel
theorem dX11_tried_12 : decode cX11_tried 12 = .ok (.i2l, 1) := by decide +kernel
theorem dX11_tried_13 : decode cX11_tried 13 = .ok (.lconst 0, 1) := by decide +kernel
theorem dX11_tried_14 : decode cX11_tried 14 = .ok (.ldc2_w 171, 3) := by decide +kernel
theorem dX11_tried_17 : decode cX11_tried 17 = .ok (.invokestatic 138, 3) := by decide +kernel
theorem dX11_tried_20 : decode cX11_tried 20 = .ok (.ifCond .eq 23, 3) := by decide +kernel
theorem dX11_tried_23 : decode cX11_tried 23 = .ok (.iload_n 3, 1) := by decide +kernel
theorem dX11_tried_24 : decode cX11_tried 24 = .ok (.invokestatic 214, 3) := by decide +kernel
theorem dX11_tried_27 : decode cX11_tried 27 = .ok (.ifCond .eq 16, 3) := by decide +kernel
theorem dX11_tried_30 : decode cX11_tried 30 = .ok (.iload 4, 2) := by decide +kernel
theorem dX11_tried_32 : decode cX11_tried 32 = .ok (.i2l, 1) := by decide +kernel
theorem dX11_tried_33 : decode cX11_tried 33 = .ok (.lconst 0, 1) := by decide +kernel
theorem dX11_tried_34 : decode cX11_tried 34 = .ok (.ldc2_w 136, 3) := by decide +kernel
theorem dX11_tried_37 : decode cX11_tried 37 = .ok (.invokestatic 138, 3) := by decide +kernel
theorem dX11_tried_40 : decode cX11_tried 40 = .ok (.ifCond .ne 7, 3) := by decide +kernel
theorem dX11_tried_43 : decode cX11_tried 43 = .ok (.sipush (-1002), 3) := by decide +kernel
theorem dX11_tried_46 : decode cX11_tried 46 = .ok (.ireturn, 1) := by decide +kernel
theorem dX11_tried_47 : decode cX11_tried 47 = .ok (.iconst 0, 1) := by decide +kernel
theorem dX11_tried_48 : decode cX11_tried 48 = .ok (.istore 5, 2) := by decide +kernel
theorem dX11_tried_50 : decode cX11_tried 50 = .ok (.iconst 0, 1) := by decide +kernel
theorem dX11_tried_51 : decode cX11_tried 51 = .ok (.istore 6, 2) := by decide +kernel
theorem dX11_tried_53 : decode cX11_tried 53 = .ok (.iconst 0, 1) := by decide +kernel
theorem dX11_tried_54 : decode cX11_tried 54 = .ok (.istore 7, 2) := by decide +kernel
theorem dX11_tried_56 : decode cX11_tried 56 = .ok (.iconst 0, 1) := by decide +kernel
theorem dX11_tried_57 : decode cX11_tried 57 = .ok (.istore 8, 2) := by decide +kernel
theorem dX11_tried_59 : decode cX11_tried 59 = .ok (.iconst 0, 1) := by decide +kernel
theorem dX11_tried_60 : decode cX11_tried 60 = .ok (.istore 9, 2) := by decide +kernel
theorem dX11_tried_62 : decode cX11_tried 62 = .ok (.iconst 0, 1) := by decide +kernel
theorem dX11_tried_63 : decode cX11_tried 63 = .ok (.istore 10, 2) := by decide +kernel
theorem dX11_tried_65 : decode cX11_tried 65 = .ok (.iload 10, 2) := by decide +kernel
theorem dX11_tried_67 : decode cX11_tried 67 = .ok (.aload_n 0, 1) := by decide +kernel
theorem dX11_tried_68 : decode cX11_tried 68 = .ok (.getfield 158, 3) := by decide +kernel
theorem dX11_tried_71 : decode cX11_tried 71 = .ok (.if_icmp .ge 199, 3) := by decide +kernel
theorem dX11_tried_74 : decode cX11_tried 74 = .ok (.aload_n 0, 1) := by decide +kernel
theorem dX11_tried_75 : decode cX11_tried 75 = .ok (.iload_n 1, 1) := by decide +kernel
theorem dX11_tried_76 : decode cX11_tried 76 = .ok (.iload 10, 2) := by decide +kernel
theorem dX11_tried_78 : decode cX11_tried 78 = .ok (.iconst 0, 1) := by decide +kernel
theorem dX11_tried_79 : decode cX11_tried 79 = .ok (.invokevirtual 179, 3) := by decide +kernel
theorem dX11_tried_82 : decode cX11_tried 82 = .ok (.iload_n 2, 1) := by decide +kernel
theorem dX11_tried_83 : decode cX11_tried 83 = .ok (.if_icmp .lt 7, 3) := by decide +kernel
theorem dX11_tried_86 : decode cX11_tried 86 = .ok (.iconst 1, 1) := by decide +kernel
theorem dX11_tried_87 : decode cX11_tried 87 = .ok (.goto 4, 3) := by decide +kernel
theorem dX11_tried_90 : decode cX11_tried 90 = .ok (.iconst 0, 1) := by decide +kernel
theorem dX11_tried_91 : decode cX11_tried 91 = .ok (.istore 11, 2) := by decide +kernel
theorem dX11_tried_93 : decode cX11_tried 93 = .ok (.iconst 0, 1) := by decide +kernel
theorem dX11_tried_94 : decode cX11_tried 94 = .ok (.istore 12, 2) := by decide +kernel
theorem dX11_tried_96 : decode cX11_tried 96 = .ok (.iconst 0, 1) := by decide +kernel
theorem dX11_tried_97 : decode cX11_tried 97 = .ok (.istore 13, 2) := by decide +kernel
theorem dX11_tried_99 : decode cX11_tried 99 = .ok (.iload 13, 2) := by decide +kernel
theorem dX11_tried_101 : decode cX11_tried 101 = .ok (.aload_n 0, 1) := by decide +kernel
theorem dX11_tried_102 : decode cX11_tried 102 = .ok (.getfield 182, 3) := by decide +kernel
theorem dX11_tried_105 : decode cX11_tried 105 = .ok (.if_icmp .ge 136, 3) := by decide +kernel
theorem dX11_tried_108 : decode cX11_tried 108 = .ok (.aload_n 0, 1) := by decide +kernel
theorem dX11_tried_109 : decode cX11_tried 109 = .ok (.getfield 41, 3) := by decide +kernel
theorem dX11_tried_112 : decode cX11_tried 112 = .ok (.iload 13, 2) := by decide +kernel
theorem dX11_tried_114 : decode cX11_tried 114 = .ok (.iaload, 1) := by decide +kernel
theorem dX11_tried_115 : decode cX11_tried 115 = .ok (.iload_n 1, 1) := by decide +kernel
theorem dX11_tried_116 : decode cX11_tried 116 = .ok (.ishr, 1) := by decide +kernel
theorem dX11_tried_117 : decode cX11_tried 117 = .ok (.iconst 1, 1) := by decide +kernel
theorem dX11_tried_118 : decode cX11_tried 118 = .ok (.iand, 1) := by decide +kernel
theorem dX11_tried_119 : decode cX11_tried 119 = .ok (.iconst 1, 1) := by decide +kernel
theorem dX11_tried_120 : decode cX11_tried 120 = .ok (.if_icmp .ne 29, 3) := by decide +kernel
theorem dX11_tried_123 : decode cX11_tried 123 = .ok (.iload 5, 2) := by decide +kernel
theorem dX11_tried_125 : decode cX11_tried 125 = .ok (.iload 13, 2) := by decide +kernel
theorem dX11_tried_127 : decode cX11_tried 127 = .ok (.ishr, 1) := by decide +kernel
theorem dX11_tried_128 : decode cX11_tried 128 = .ok (.iconst 1, 1) := by decide +kernel
theorem dX11_tried_129 : decode cX11_tried 129 = .ok (.iand, 1) := by decide +kernel
theorem dX11_tried_130 : decode cX11_tried 130 = .ok (.ifCond .ne 19, 3) := by decide +kernel
theorem dX11_tried_133 : decode cX11_tried 133 = .ok (.aload_n 0, 1) := by decide +kernel
theorem dX11_tried_134 : decode cX11_tried 134 = .ok (.getfield 62, 3) := by decide +kernel
theorem dX11_tried_137 : decode cX11_tried 137 = .ok (.iload 13, 2) := by decide +kernel
theorem dX11_tried_139 : decode cX11_tried 139 = .ok (.iaload, 1) := by decide +kernel
theorem dX11_tried_140 : decode cX11_tried 140 = .ok (.iload 10, 2) := by decide +kernel
theorem dX11_tried_142 : decode cX11_tried 142 = .ok (.if_icmp .gt 7, 3) := by decide +kernel
theorem dX11_tried_145 : decode cX11_tried 145 = .ok (.iconst 1, 1) := by decide +kernel
theorem dX11_tried_146 : decode cX11_tried 146 = .ok (.goto 4, 3) := by decide +kernel
theorem dX11_tried_149 : decode cX11_tried 149 = .ok (.iconst 0, 1) := by decide +kernel
theorem dX11_tried_150 : decode cX11_tried 150 = .ok (.istore 14, 2) := by decide +kernel
theorem dX11_tried_152 : decode cX11_tried 152 = .ok (.iload 14, 2) := by decide +kernel
theorem dX11_tried_154 : decode cX11_tried 154 = .ok (.ifCond .eq 81, 3) := by decide +kernel
theorem dX11_tried_157 : decode cX11_tried 157 = .ok (.iload 11, 2) := by decide +kernel
theorem dX11_tried_159 : decode cX11_tried 159 = .ok (.ifCond .ne 24, 3) := by decide +kernel
theorem dX11_tried_162 : decode cX11_tried 162 = .ok (.aload_n 0, 1) := by decide +kernel
theorem dX11_tried_163 : decode cX11_tried 163 = .ok (.iload 13, 2) := by decide +kernel
theorem dX11_tried_165 : decode cX11_tried 165 = .ok (.invokevirtual 332, 3) := by decide +kernel
theorem dX11_tried_168 : decode cX11_tried 168 = .ok (.ifCond .eq 67, 3) := by decide +kernel
theorem dX11_tried_171 : decode cX11_tried 171 = .ok (.aload_n 0, 1) := by decide +kernel
theorem dX11_tried_172 : decode cX11_tried 172 = .ok (.getfield 59, 3) := by decide +kernel
theorem dX11_tried_175 : decode cX11_tried 175 = .ok (.iload 13, 2) := by decide +kernel
theorem dX11_tried_177 : decode cX11_tried 177 = .ok (.iaload, 1) := by decide +kernel
theorem dX11_tried_178 : decode cX11_tried 178 = .ok (.iload 10, 2) := by decide +kernel
theorem dX11_tried_180 : decode cX11_tried 180 = .ok (.if_icmp .ne 55, 3) := by decide +kernel
theorem dX11_tried_183 : decode cX11_tried 183 = .ok (.iload 5, 2) := by decide +kernel
theorem dX11_tried_185 : decode cX11_tried 185 = .ok (.iconst 1, 1) := by decide +kernel
theorem dX11_tried_186 : decode cX11_tried 186 = .ok (.iload 13, 2) := by decide +kernel
theorem dX11_tried_188 : decode cX11_tried 188 = .ok (.ishl, 1) := by decide +kernel
theorem dX11_tried_189 : decode cX11_tried 189 = .ok (.ior, 1) := by decide +kernel
theorem dX11_tried_190 : decode cX11_tried 190 = .ok (.istore 5, 2) := by decide +kernel
theorem dX11_tried_192 : decode cX11_tried 192 = .ok (.iload 6, 2) := by decide +kernel
theorem dX11_tried_194 : decode cX11_tried 194 = .ok (.iload 10, 2) := by decide +kernel
theorem dX11_tried_196 : decode cX11_tried 196 = .ok (.aload_n 0, 1) := by decide +kernel
theorem dX11_tried_197 : decode cX11_tried 197 = .ok (.getfield 59, 3) := by decide +kernel
theorem dX11_tried_200 : decode cX11_tried 200 = .ok (.iload 13, 2) := by decide +kernel
theorem dX11_tried_202 : decode cX11_tried 202 = .ok (.iaload, 1) := by decide +kernel
theorem dX11_tried_203 : decode cX11_tried 203 = .ok (.if_icmp .le 7, 3) := by decide +kernel
theorem dX11_tried_206 : decode cX11_tried 206 = .ok (.iconst 1, 1) := by decide +kernel
theorem dX11_tried_207 : decode cX11_tried 207 = .ok (.goto 4, 3) := by decide +kernel
theorem dX11_tried_210 : decode cX11_tried 210 = .ok (.iconst 0, 1) := by decide +kernel
theorem dX11_tried_211 : decode cX11_tried 211 = .ok (.iadd, 1) := by decide +kernel
theorem dX11_tried_212 : decode cX11_tried 212 = .ok (.istore 6, 2) := by decide +kernel
theorem dX11_tried_214 : decode cX11_tried 214 = .ok (.iload 7, 2) := by decide +kernel
theorem dX11_tried_216 : decode cX11_tried 216 = .ok (.iload 10, 2) := by decide +kernel
theorem dX11_tried_218 : decode cX11_tried 218 = .ok (.aload_n 0, 1) := by decide +kernel
theorem dX11_tried_219 : decode cX11_tried 219 = .ok (.getfield 62, 3) := by decide +kernel
theorem dX11_tried_222 : decode cX11_tried 222 = .ok (.iload 13, 2) := by decide +kernel
theorem dX11_tried_224 : decode cX11_tried 224 = .ok (.iaload, 1) := by decide +kernel
theorem dX11_tried_225 : decode cX11_tried 225 = .ok (.isub, 1) := by decide +kernel
theorem dX11_tried_226 : decode cX11_tried 226 = .ok (.iadd, 1) := by decide +kernel
theorem dX11_tried_227 : decode cX11_tried 227 = .ok (.istore 7, 2) := by decide +kernel
theorem dX11_tried_229 : decode cX11_tried 229 = .ok (.iinc 9 1, 3) := by decide +kernel
theorem dX11_tried_232 : decode cX11_tried 232 = .ok (.iconst 1, 1) := by decide +kernel
theorem dX11_tried_233 : decode cX11_tried 233 = .ok (.istore 12, 2) := by decide +kernel
theorem dX11_tried_235 : decode cX11_tried 235 = .ok (.iinc 13 1, 3) := by decide +kernel
theorem dX11_tried_238 : decode cX11_tried 238 = .ok (.goto (-139), 3) := by decide +kernel
theorem dX11_tried_241 : decode cX11_tried 241 = .ok (.iload 8, 2) := by decide +kernel
theorem dX11_tried_243 : decode cX11_tried 243 = .ok (.iload 12, 2) := by decide +kernel
theorem dX11_tried_245 : decode cX11_tried 245 = .ok (.ifCond .eq 15, 3) := by decide +kernel
theorem dX11_tried_248 : decode cX11_tried 248 = .ok (.aload_n 0, 1) := by decide +kernel
theorem dX11_tried_249 : decode cX11_tried 249 = .ok (.iload_n 1, 1) := by decide +kernel
theorem dX11_tried_250 : decode cX11_tried 250 = .ok (.iload_n 3, 1) := by decide +kernel
theorem dX11_tried_251 : decode cX11_tried 251 = .ok (.iload 10, 2) := by decide +kernel
theorem dX11_tried_253 : decode cX11_tried 253 = .ok (.iconst 0, 1) := by decide +kernel
theorem dX11_tried_254 : decode cX11_tried 254 = .ok (.invokevirtual 220, 3) := by decide +kernel
theorem dX11_tried_257 : decode cX11_tried 257 = .ok (.goto 4, 3) := by decide +kernel
theorem dX11_tried_260 : decode cX11_tried 260 = .ok (.iconst 0, 1) := by decide +kernel
theorem dX11_tried_261 : decode cX11_tried 261 = .ok (.iadd, 1) := by decide +kernel
theorem dX11_tried_262 : decode cX11_tried 262 = .ok (.istore 8, 2) := by decide +kernel
theorem dX11_tried_264 : decode cX11_tried 264 = .ok (.iinc 10 1, 3) := by decide +kernel
theorem dX11_tried_267 : decode cX11_tried 267 = .ok (.goto (-202), 3) := by decide +kernel
theorem dX11_tried_270 : decode cX11_tried 270 = .ok (.iconst 0, 1) := by decide +kernel
theorem dX11_tried_271 : decode cX11_tried 271 = .ok (.istore 10, 2) := by decide +kernel
theorem dX11_tried_273 : decode cX11_tried 273 = .ok (.iload 10, 2) := by decide +kernel
theorem dX11_tried_275 : decode cX11_tried 275 = .ok (.aload_n 0, 1) := by decide +kernel
theorem dX11_tried_276 : decode cX11_tried 276 = .ok (.getfield 182, 3) := by decide +kernel
theorem dX11_tried_279 : decode cX11_tried 279 = .ok (.if_icmp .ge 70, 3) := by decide +kernel
theorem dX11_tried_282 : decode cX11_tried 282 = .ok (.aload_n 0, 1) := by decide +kernel
theorem dX11_tried_283 : decode cX11_tried 283 = .ok (.getfield 41, 3) := by decide +kernel
theorem dX11_tried_286 : decode cX11_tried 286 = .ok (.iload 10, 2) := by decide +kernel
theorem dX11_tried_288 : decode cX11_tried 288 = .ok (.iaload, 1) := by decide +kernel
theorem dX11_tried_289 : decode cX11_tried 289 = .ok (.iload_n 1, 1) := by decide +kernel
theorem dX11_tried_290 : decode cX11_tried 290 = .ok (.ishr, 1) := by decide +kernel
theorem dX11_tried_291 : decode cX11_tried 291 = .ok (.iconst 1, 1) := by decide +kernel
theorem dX11_tried_292 : decode cX11_tried 292 = .ok (.iand, 1) := by decide +kernel
theorem dX11_tried_293 : decode cX11_tried 293 = .ok (.iconst 1, 1) := by decide +kernel
theorem dX11_tried_294 : decode cX11_tried 294 = .ok (.if_icmp .ne 17, 3) := by decide +kernel
theorem dX11_tried_297 : decode cX11_tried 297 = .ok (.iload 5, 2) := by decide +kernel
theorem dX11_tried_299 : decode cX11_tried 299 = .ok (.iload 10, 2) := by decide +kernel
theorem dX11_tried_301 : decode cX11_tried 301 = .ok (.ishr, 1) := by decide +kernel
theorem dX11_tried_302 : decode cX11_tried 302 = .ok (.iconst 1, 1) := by decide +kernel
theorem dX11_tried_303 : decode cX11_tried 303 = .ok (.iand, 1) := by decide +kernel
theorem dX11_tried_304 : decode cX11_tried 304 = .ok (.ifCond .ne 7, 3) := by decide +kernel
theorem dX11_tried_307 : decode cX11_tried 307 = .ok (.iconst 1, 1) := by decide +kernel
theorem dX11_tried_308 : decode cX11_tried 308 = .ok (.goto 4, 3) := by decide +kernel
theorem dX11_tried_311 : decode cX11_tried 311 = .ok (.iconst 0, 1) := by decide +kernel
theorem dX11_tried_312 : decode cX11_tried 312 = .ok (.istore 11, 2) := by decide +kernel
theorem dX11_tried_314 : decode cX11_tried 314 = .ok (.iload 6, 2) := by decide +kernel
theorem dX11_tried_316 : decode cX11_tried 316 = .ok (.iload 11, 2) := by decide +kernel
theorem dX11_tried_318 : decode cX11_tried 318 = .ok (.ifCond .eq 21, 3) := by decide +kernel
theorem dX11_tried_321 : decode cX11_tried 321 = .ok (.aload_n 0, 1) := by decide +kernel
theorem dX11_tried_322 : decode cX11_tried 322 = .ok (.getfield 59, 3) := by decide +kernel
theorem dX11_tried_325 : decode cX11_tried 325 = .ok (.iload 10, 2) := by decide +kernel
theorem dX11_tried_327 : decode cX11_tried 327 = .ok (.iaload, 1) := by decide +kernel
theorem dX11_tried_328 : decode cX11_tried 328 = .ok (.aload_n 0, 1) := by decide +kernel
theorem dX11_tried_329 : decode cX11_tried 329 = .ok (.getfield 158, 3) := by decide +kernel
theorem dX11_tried_332 : decode cX11_tried 332 = .ok (.if_icmp .ge 7, 3) := by decide +kernel
theorem dX11_tried_335 : decode cX11_tried 335 = .ok (.iconst 1, 1) := by decide +kernel
theorem dX11_tried_336 : decode cX11_tried 336 = .ok (.goto 4, 3) := by decide +kernel
theorem dX11_tried_339 : decode cX11_tried 339 = .ok (.iconst 0, 1) := by decide +kernel
theorem dX11_tried_340 : decode cX11_tried 340 = .ok (.iadd, 1) := by decide +kernel
theorem dX11_tried_341 : decode cX11_tried 341 = .ok (.istore 6, 2) := by decide +kernel
theorem dX11_tried_343 : decode cX11_tried 343 = .ok (.iinc 10 1, 3) := by decide +kernel
theorem dX11_tried_346 : decode cX11_tried 346 = .ok (.goto (-73), 3) := by decide +kernel
theorem dX11_tried_349 : decode cX11_tried 349 = .ok (.iload 4, 2) := by decide +kernel
theorem dX11_tried_351 : decode cX11_tried 351 = .ok (.ifCond .ne 8, 3) := by decide +kernel
theorem dX11_tried_354 : decode cX11_tried 354 = .ok (.iload 6, 2) := by decide +kernel
theorem dX11_tried_356 : decode cX11_tried 356 = .ok (.goto 27, 3) := by decide +kernel
theorem dX11_tried_359 : decode cX11_tried 359 = .ok (.iload 4, 2) := by decide +kernel
theorem dX11_tried_361 : decode cX11_tried 361 = .ok (.iconst 1, 1) := by decide +kernel
theorem dX11_tried_362 : decode cX11_tried 362 = .ok (.if_icmp .ne 8, 3) := by decide +kernel
theorem dX11_tried_365 : decode cX11_tried 365 = .ok (.iload 7, 2) := by decide +kernel
theorem dX11_tried_367 : decode cX11_tried 367 = .ok (.goto 16, 3) := by decide +kernel
theorem dX11_tried_370 : decode cX11_tried 370 = .ok (.iload 4, 2) := by decide +kernel
theorem dX11_tried_372 : decode cX11_tried 372 = .ok (.iconst 2, 1) := by decide +kernel
theorem dX11_tried_373 : decode cX11_tried 373 = .ok (.if_icmp .ne 8, 3) := by decide +kernel
theorem dX11_tried_376 : decode cX11_tried 376 = .ok (.iload 8, 2) := by decide +kernel
theorem dX11_tried_378 : decode cX11_tried 378 = .ok (.goto 5, 3) := by decide +kernel
theorem dX11_tried_381 : decode cX11_tried 381 = .ok (.iload 9, 2) := by decide +kernel
theorem dX11_tried_383 : decode cX11_tried 383 = .ok (.ireturn, 1) := by decide +kernel
