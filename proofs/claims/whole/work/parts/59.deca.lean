theorem dX6_init_0 : decode cX6_init 0 = .ok (.aload_n 0, 1) := by decide +kernel
theorem dX6_init_1 : decode cX6_init 1 = .ok (.invokespecial 3, 3) := by decide +kernel
theorem dX6_init_4 : decode cX6_init 4 = .ok (.return_, 1) := by decide +kernel
theorem dX5_init_0 : decode cX5_init 0 = .ok (.aload_n 0, 1) := by decide +kernel
theorem dX5_init_1 : decode cX5_init 1 = .ok (.invokespecial 1, 3) := by decide +kernel
theorem dX5_init_4 : decode cX5_init 4 = .ok (.return_, 1) := by decide +kernel
theorem dX0_init_0 : decode cX0_init 0 = .ok (.aload_n 0, 1) := by decide +kernel
theorem dX0_init_1 : decode cX0_init 1 = .ok (.invokespecial 3, 3) := by decide +kernel
theorem dX0_init_4 : decode cX0_init 4 = .ok (.aload_n 0, 1) := by decide +kernel
theorem dX0_init_5 : decode cX0_init 5 = .ok (.bipush 10, 2) := by decide +kernel
theorem dX0_init_7 : decode cX0_init 7 = .ok (.anewarray 9, 3) := by decide +kernel
theorem dX0_init_10 : decode cX0_init 10 = .ok (.putfield 11, 3) := by decide +kernel
theorem dX0_init_13 : decode cX0_init 13 = .ok (.aload_n 0, 1) := by decide +kernel
theorem dX0_init_14 : decode cX0_init 14 = .ok (.bipush 40, 2) := by decide +kernel
theorem dX0_init_16 : decode cX0_init 16 = .ok (.anewarray 17, 3) := by decide +kernel
theorem dX0_init_19 : decode cX0_init 19 = .ok (.putfield 19, 3) := by decide +kernel
theorem dX0_init_22 : decode cX0_init 22 = .ok (.iconst 0, 1) := by decide +kernel
theorem dX0_init_23 : decode cX0_init 23 = .ok (.istore_n 1, 1) := by decide +kernel
theorem dX0_init_24 : decode cX0_init 24 = .ok (.iload_n 1, 1) := by decide +kernel
theorem dX0_init_25 : decode cX0_init 25 = .ok (.bipush 10, 2) := by decide +kernel
theorem dX0_init_27 : decode cX0_init 27 = .ok (.if_icmp .ge 22, 3) := by decide +kernel
theorem dX0_init_30 : decode cX0_init 30 = .ok (.aload_n 0, 1) := by decide +kernel
theorem dX0_init_31 : decode cX0_init 31 = .ok (.getfield 11, 3) := by decide +kernel
theorem dX0_init_34 : decode cX0_init 34 = .ok (.iload_n 1, 1) := by decide +kernel
theorem dX0_init_35 : decode cX0_init 35 = .ok (.new 9, 3) := by decide +kernel
theorem dX0_init_38 : decode cX0_init 38 = .ok (.dup, 1) := by decide +kernel
theorem dX0_init_39 : decode cX0_init 39 = .ok (.invokespecial 23, 3) := by decide +kernel
theorem dX0_init_42 : decode cX0_init 42 = .ok (.aastore, 1) := by decide +kernel
theorem dX0_init_43 : decode cX0_init 43 = .ok (.iinc 1 1, 3) := by decide +kernel
theorem dX0_init_46 : decode cX0_init 46 = .ok (.goto (-22), 3) := by decide +kernel
theorem dX0_init_49 : decode cX0_init 49 = .ok (.iconst 0, 1) := by decide +kernel
theorem dX0_init_50 : decode cX0_init 50 = .ok (.istore_n 1, 1) := by decide +kernel
theorem dX0_init_51 : decode cX0_init 51 = .ok (.iload_n 1, 1) := by decide +kernel
theorem dX0_init_52 : decode cX0_init 52 = .ok (.bipush 40, 2) := by decide +kernel
theorem dX0_init_54 : decode cX0_init 54 = .ok (.if_icmp .ge 22, 3) := by decide +kernel
theorem dX0_init_57 : decode cX0_init 57 = .ok (.aload_n 0, 1) := by decide +kernel
theorem dX0_init_58 : decode cX0_init 58 = .ok (.getfield 19, 3) := by decide +kernel
theorem dX0_init_61 : decode cX0_init 61 = .ok (.iload_n 1, 1) := by decide +kernel
theorem dX0_init_62 : decode cX0_init 62 = .ok (.new 17, 3) := by decide +kernel
theorem dX0_init_65 : decode cX0_init 65 = .ok (.dup, 1) := by decide +kernel
theorem dX0_init_66 : decode cX0_init 66 = .ok (.invokespecial 24, 3) := by decide +kernel
theorem dX0_init_69 : decode cX0_init 69 = .ok (.aastore, 1) := by decide +kernel
theorem dX0_init_70 : decode cX0_init 70 = .ok (.iinc 1 1, 3) := by decide +kernel
theorem dX0_init_73 : decode cX0_init 73 = .ok (.goto (-22), 3) := by decide +kernel
theorem dX0_init_76 : decode cX0_init 76 = .ok (.return_, 1) := by decide +kernel
theorem dX0_hasThing_0 : decode cX0_hasThing 0 = .ok (.iload_n 1, 1) := by decide +kernel
theorem dX0_hasThing_1 : decode cX0_hasThing 1 = .ok (.ifCond .lt 15, 3) := by decide +kernel
theorem dX0_hasThing_4 : decode cX0_hasThing 4 = .ok (.iload_n 1, 1) := by decide +kernel
theorem dX0_hasThing_5 : decode cX0_hasThing 5 = .ok (.aload_n 0, 1) := by decide +kernel
theorem dX0_hasThing_6 : decode cX0_hasThing 6 = .ok (.getfield 25, 3) := by decide +kernel
theorem dX0_hasThing_9 : decode cX0_hasThing 9 = .ok (.if_icmp .ge 7, 3) := by decide +kernel
theorem dX0_hasThing_12 : decode cX0_hasThing 12 = .ok (.iconst 1, 1) := by decide +kernel
theorem dX0_hasThing_13 : decode cX0_hasThing 13 = .ok (.goto 4, 3) := by decide +kernel
theorem dX0_hasThing_16 : decode cX0_hasThing 16 = .ok (.iconst 0, 1) := by decide +kernel
theorem dX0_hasThing_17 : decode cX0_hasThing 17 = .ok (.ireturn, 1) := by decide +kernel
theorem dX0_hasThings_0 : decode cX0_hasThings 0 = .ok (.iload_n 1, 1) := by decide +kernel
theorem dX0_hasThings_1 : decode cX0_hasThings 1 = .ok (.ifCond .le 17, 3) := by decide +kernel
theorem dX0_hasThings_4 : decode cX0_hasThings 4 = .ok (.iload_n 1, 1) := by decide +kernel
theorem dX0_hasThings_5 : decode cX0_hasThings 5 = .ok (.iconst 1, 1) := by decide +kernel
theorem dX0_hasThings_6 : decode cX0_hasThings 6 = .ok (.aload_n 0, 1) := by decide +kernel
theorem dX0_hasThings_7 : decode cX0_hasThings 7 = .ok (.getfield 25, 3) := by decide +kernel
theorem dX0_hasThings_10 : decode cX0_hasThings 10 = .ok (.ishl, 1) := by decide +kernel
theorem dX0_hasThings_11 : decode cX0_hasThings 11 = .ok (.if_icmp .ge 7, 3) := by decide +kernel
theorem dX0_hasThings_14 : decode cX0_hasThings 14 = .ok (.iconst 1, 1) := by decide +kernel
theorem dX0_hasThings_15 : decode cX0_hasThings 15 = .ok (.goto 4, 3) := by decide +kernel
theorem dX0_hasThings_18 : decode cX0_hasThings 18 = .ok (.iconst 0, 1) := by decide +kernel
theorem dX0_hasThings_19 : decode cX0_hasThings 19 = .ok (.ireturn, 1) := by decide +kernel
theorem dX0_hasSaying_0 : decode cX0_hasSaying 0 = .ok (.iload_n 1, 1) := by decide +kernel
theorem dX0_hasSaying_1 : decode cX0_hasSaying 1 = .ok (.ifCond .lt 15, 3) := by decide +kernel
theorem dX0_hasSaying_4 : decode cX0_hasSaying 4 = .ok (.iload_n 1, 1) := by decide +kernel
theorem dX0_hasSaying_5 : decode cX0_hasSaying 5 = .ok (.aload_n 0, 1) := by decide +kernel
theorem dX0_hasSaying_6 : decode cX0_hasSaying 6 = .ok (.getfield 29, 3) := by decide +kernel
theorem dX0_hasSaying_9 : decode cX0_hasSaying 9 = .ok (.if_icmp .ge 7, 3) := by decide +kernel
theorem dX0_hasSaying_12 : decode cX0_hasSaying 12 = .ok (.iconst 1, 1) := by decide +kernel
theorem dX0_hasSaying_13 : decode cX0_hasSaying 13 = .ok (.goto 4, 3) := by decide +kernel
theorem dX0_hasSaying_16 : decode cX0_hasSaying 16 = .ok (.iconst 0, 1) := by decide +kernel
theorem dX0_hasSaying_17 : decode cX0_hasSaying 17 = .ok (.ireturn, 1) := by decide +kernel
theorem dX10_contains_0 : decode cX10_contains 0 = .ok (.iload_n 0, 1) := by decide +kernel
theorem dX10_contains_1 : decode cX10_contains 1 = .ok (.iload_n 1, 1) := by decide +kernel
theorem dX10_contains_2 : decode cX10_contains 2 = .ok (.ishr, 1) := by decide +kernel
theorem dX10_contains_3 : decode cX10_contains 3 = .ok (.iconst 1, 1) := by decide +kernel
theorem dX10_contains_4 : decode cX10_contains 4 = .ok (.iand, 1) := by decide +kernel
theorem dX10_contains_5 : decode cX10_contains 5 = .ok (.ifCond .eq 7, 3) := by decide +kernel
theorem dX10_contains_8 : decode cX10_contains 8 = .ok (.iconst 1, 1) := by decide +kernel
theorem dX10_contains_9 : decode cX10_contains 9 = .ok (.goto 4, 3) := by decide +kernel
theorem dX10_contains_12 : decode cX10_contains 12 = .ok (.iconst 0, 1) := by decide +kernel
theorem dX10_contains_13 : decode cX10_contains 13 = .ok (.ireturn, 1) := by decide +kernel
theorem dJ6_bitCount_0f7a4_0 : decode cJ6_bitCount_0f7a4 0 = .ok (.iload_n 0, 1) := by decide +kernel
theorem dJ6_bitCount_0f7a4_1 : decode cJ6_bitCount_0f7a4 1 = .ok (.iload_n 0, 1) := by decide +kernel
theorem dJ6_bitCount_0f7a4_2 : decode cJ6_bitCount_0f7a4 2 = .ok (.iconst 1, 1) := by decide +kernel
theorem dJ6_bitCount_0f7a4_3 : decode cJ6_bitCount_0f7a4 3 = .ok (.iushr, 1) := by decide +kernel
theorem dJ6_bitCount_0f7a4_4 : decode cJ6_bitCount_0f7a4 4 = .ok (.ldc_w 265, 3) := by decide +kernel
theorem dJ6_bitCount_0f7a4_7 : decode cJ6_bitCount_0f7a4 7 = .ok (.iand, 1) := by decide +kernel
theorem dJ6_bitCount_0f7a4_8 : decode cJ6_bitCount_0f7a4 8 = .ok (.isub, 1) := by decide +kernel
theorem dJ6_bitCount_0f7a4_9 : decode cJ6_bitCount_0f7a4 9 = .ok (.istore_n 0, 1) := by decide +kernel
theorem dJ6_bitCount_0f7a4_10 : decode cJ6_bitCount_0f7a4 10 = .ok (.iload_n 0, 1) := by decide +kernel
theorem dJ6_bitCount_0f7a4_11 : decode cJ6_bitCount_0f7a4 11 = .ok (.ldc_w 266, 3) := by decide +kernel
theorem dJ6_bitCount_0f7a4_14 : decode cJ6_bitCount_0f7a4 14 = .ok (.iand, 1) := by decide +kernel
theorem dJ6_bitCount_0f7a4_15 : decode cJ6_bitCount_0f7a4 15 = .ok (.iload_n 0, 1) := by decide +kernel
theorem dJ6_bitCount_0f7a4_16 : decode cJ6_bitCount_0f7a4 16 = .ok (.iconst 2, 1) := by decide +kernel
theorem dJ6_bitCount_0f7a4_17 : decode cJ6_bitCount_0f7a4 17 = .ok (.iushr, 1) := by decide +kernel
theorem dJ6_bitCount_0f7a4_18 : decode cJ6_bitCount_0f7a4 18 = .ok (.ldc_w 266, 3) := by decide +kernel
theorem dJ6_bitCount_0f7a4_21 : decode cJ6_bitCount_0f7a4 21 = .ok (.iand, 1) := by decide +kernel
theorem dJ6_bitCount_0f7a4_22 : decode cJ6_bitCount_0f7a4 22 = .ok (.iadd, 1) := by decide +kernel
theorem dJ6_bitCount_0f7a4_23 : decode cJ6_bitCount_0f7a4 23 = .ok (.istore_n 0, 1) := by decide +kernel
theorem dJ6_bitCount_0f7a4_24 : decode cJ6_bitCount_0f7a4 24 = .ok (.iload_n 0, 1) := by decide +kernel
theorem dJ6_bitCount_0f7a4_25 : decode cJ6_bitCount_0f7a4 25 = .ok (.iload_n 0, 1) := by decide +kernel
theorem dJ6_bitCount_0f7a4_26 : decode cJ6_bitCount_0f7a4 26 = .ok (.iconst 4, 1) := by decide +kernel
theorem dJ6_bitCount_0f7a4_27 : decode cJ6_bitCount_0f7a4 27 = .ok (.iushr, 1) := by decide +kernel
theorem dJ6_bitCount_0f7a4_28 : decode cJ6_bitCount_0f7a4 28 = .ok (.iadd, 1) := by decide +kernel
theorem dJ6_bitCount_0f7a4_29 : decode cJ6_bitCount_0f7a4 29 = .ok (.ldc_w 267, 3) := by decide +kernel
theorem dJ6_bitCount_0f7a4_32 : decode cJ6_bitCount_0f7a4 32 = .ok (.iand, 1) := by decide +kernel
theorem dJ6_bitCount_0f7a4_33 : decode cJ6_bitCount_0f7a4 33 = .ok (.istore_n 0, 1) := by decide +kernel
theorem dJ6_bitCount_0f7a4_34 : decode cJ6_bitCount_0f7a4 34 = .ok (.iload_n 0, 1) := by decide +kernel
theorem dJ6_bitCount_0f7a4_35 : decode cJ6_bitCount_0f7a4 35 = .ok (.iload_n 0, 1) := by decide +kernel
theorem dJ6_bitCount_0f7a4_36 : decode cJ6_bitCount_0f7a4 36 = .ok (.bipush 8, 2) := by decide +kernel
theorem dJ6_bitCount_0f7a4_38 : decode cJ6_bitCount_0f7a4 38 = .ok (.iushr, 1) := by decide +kernel
theorem dJ6_bitCount_0f7a4_39 : decode cJ6_bitCount_0f7a4 39 = .ok (.iadd, 1) := by decide +kernel
theorem dJ6_bitCount_0f7a4_40 : decode cJ6_bitCount_0f7a4 40 = .ok (.istore_n 0, 1) := by decide +kernel
theorem dJ6_bitCount_0f7a4_41 : decode cJ6_bitCount_0f7a4 41 = .ok (.iload_n 0, 1) := by decide +kernel
theorem dJ6_bitCount_0f7a4_42 : decode cJ6_bitCount_0f7a4 42 = .ok (.iload_n 0, 1) := by decide +kernel
theorem dJ6_bitCount_0f7a4_43 : decode cJ6_bitCount_0f7a4 43 = .ok (.bipush 16, 2) := by decide +kernel
theorem dJ6_bitCount_0f7a4_45 : decode cJ6_bitCount_0f7a4 45 = .ok (.iushr, 1) := by decide +kernel
theorem dJ6_bitCount_0f7a4_46 : decode cJ6_bitCount_0f7a4 46 = .ok (.iadd, 1) := by decide +kernel
theorem dJ6_bitCount_0f7a4_47 : decode cJ6_bitCount_0f7a4 47 = .ok (.istore_n 0, 1) := by decide +kernel
theorem dJ6_bitCount_0f7a4_48 : decode cJ6_bitCount_0f7a4 48 = .ok (.iload_n 0, 1) := by decide +kernel
theorem dJ6_bitCount_0f7a4_49 : decode cJ6_bitCount_0f7a4 49 = .ok (.bipush 63, 2) := by decide +kernel
theorem dJ6_bitCount_0f7a4_51 : decode cJ6_bitCount_0f7a4 51 = .ok (.iand, 1) := by decide +kernel
theorem dJ6_bitCount_0f7a4_52 : decode cJ6_bitCount_0f7a4 52 = .ok (.ireturn, 1) := by decide +kernel
theorem dX0_isTold_0 : decode cX0_isTold 0 = .ok (.iconst 0, 1) := by decide +kernel
theorem dX0_isTold_1 : decode cX0_isTold 1 = .ok (.istore_n 2, 1) := by decide +kernel
theorem dX0_isTold_2 : decode cX0_isTold 2 = .ok (.iconst 0, 1) := by decide +kernel
theorem dX0_isTold_3 : decode cX0_isTold 3 = .ok (.istore_n 3, 1) := by decide +kernel
theorem dX0_isTold_4 : decode cX0_isTold 4 = .ok (.iconst 0, 1) := by decide +kernel
theorem dX0_isTold_5 : decode cX0_isTold 5 = .ok (.istore 4, 2) := by decide +kernel
theorem dX0_isTold_7 : decode cX0_isTold 7 = .ok (.iload 4, 2) := by decide +kernel
theorem dX0_isTold_9 : decode cX0_isTold 9 = .ok (.aload_n 0, 1) := by decide +kernel
theorem dX0_isTold_10 : decode cX0_isTold 10 = .ok (.getfield 29, 3) := by decide +kernel
theorem dX0_isTold_13 : decode cX0_isTold 13 = .ok (.if_icmp .ge 72, 3) := by decide +kernel
theorem dX0_isTold_16 : decode cX0_isTold 16 = .ok (.aload_n 0, 1) := by decide +kernel
theorem dX0_isTold_17 : decode cX0_isTold 17 = .ok (.getfield 19, 3) := by decide +kernel
theorem dX0_isTold_20 : decode cX0_isTold 20 = .ok (.iload 4, 2) := by decide +kernel
theorem dX0_isTold_22 : decode cX0_isTold 22 = .ok (.aaload, 1) := by decide +kernel
theorem dX0_isTold_23 : decode cX0_isTold 23 = .ok (.getfield 47, 3) := by decide +kernel
theorem dX0_isTold_26 : decode cX0_isTold 26 = .ok (.iload_n 1, 1) := by decide +kernel
theorem dX0_isTold_27 : decode cX0_isTold 27 = .ok (.invokestatic 50, 3) := by decide +kernel
theorem dX0_isTold_30 : decode cX0_isTold 30 = .ok (.ifCond .eq 49, 3) := by decide +kernel
theorem dX0_isTold_33 : decode cX0_isTold 33 = .ok (.aload_n 0, 1) := by decide +kernel
theorem dX0_isTold_34 : decode cX0_isTold 34 = .ok (.getfield 19, 3) := by decide +kernel
theorem dX0_isTold_37 : decode cX0_isTold 37 = .ok (.iload 4, 2) := by decide +kernel
theorem dX0_isTold_39 : decode cX0_isTold 39 = .ok (.aaload, 1) := by decide +kernel
theorem dX0_isTold_40 : decode cX0_isTold 40 = .ok (.getfield 54, 3) := by decide +kernel
theorem dX0_isTold_43 : decode cX0_isTold 43 = .ok (.iconst 3, 1) := by decide +kernel
theorem dX0_isTold_44 : decode cX0_isTold 44 = .ok (.if_icmp .eq 6, 3) := by decide +kernel
theorem dX0_isTold_47 : decode cX0_isTold 47 = .ok (.iinc 2 1, 3) := by decide +kernel
theorem dX0_isTold_50 : decode cX0_isTold 50 = .ok (.aload_n 0, 1) := by decide +kernel
theorem dX0_isTold_51 : decode cX0_isTold 51 = .ok (.getfield 19, 3) := by decide +kernel
theorem dX0_isTold_54 : decode cX0_isTold 54 = .ok (.iload 4, 2) := by decide +kernel
theorem dX0_isTold_56 : decode cX0_isTold 56 = .ok (.aaload, 1) := by decide +kernel
theorem dX0_isTold_57 : decode cX0_isTold 57 = .ok (.getfield 54, 3) := by decide +kernel
theorem dX0_isTold_60 : decode cX0_isTold 60 = .ok (.iconst 1, 1) := by decide +kernel
theorem dX0_isTold_61 : decode cX0_isTold 61 = .ok (.if_icmp .ne 18, 3) := by decide +kernel
theorem dX0_isTold_64 : decode cX0_isTold 64 = .ok (.iload_n 3, 1) := by decide +kernel
theorem dX0_isTold_65 : decode cX0_isTold 65 = .ok (.iconst 1, 1) := by decide +kernel
theorem dX0_isTold_66 : decode cX0_isTold 66 = .ok (.aload_n 0, 1) := by decide +kernel
theorem dX0_isTold_67 : decode cX0_isTold 67 = .ok (.getfield 19, 3) := by decide +kernel
theorem dX0_isTold_70 : decode cX0_isTold 70 = .ok (.iload 4, 2) := by decide +kernel
theorem dX0_isTold_72 : decode cX0_isTold 72 = .ok (.aaload, 1) := by decide +kernel
theorem dX0_isTold_73 : decode cX0_isTold 73 = .ok (.getfield 57, 3) := by decide +kernel
theorem dX0_isTold_76 : decode cX0_isTold 76 = .ok (.ishl, 1) := by decide +kernel
theorem dX0_isTold_77 : decode cX0_isTold 77 = .ok (.ior, 1) := by decide +kernel
theorem dX0_isTold_78 : decode cX0_isTold 78 = .ok (.istore_n 3, 1) := by decide +kernel
theorem dX0_isTold_79 : decode cX0_isTold 79 = .ok (.iinc 4 1, 3) := by decide +kernel
theorem dX0_isTold_82 : decode cX0_isTold 82 = .ok (.goto (-75), 3) := by decide +kernel
theorem dX0_isTold_85 : decode cX0_isTold 85 = .ok (.iload_n 2, 1) := by decide +kernel
theorem dX0_isTold_86 : decode cX0_isTold 86 = .ok (.ifCond .le 28, 3) := by decide +kernel
theorem dX0_isTold_89 : decode cX0_isTold 89 = .ok (.aload_n 0, 1) := by decide +kernel
theorem dX0_isTold_90 : decode cX0_isTold 90 = .ok (.getfield 11, 3) := by decide +kernel
theorem dX0_isTold_93 : decode cX0_isTold 93 = .ok (.iload_n 1, 1) := by decide +kernel
theorem dX0_isTold_94 : decode cX0_isTold 94 = .ok (.aaload, 1) := by decide +kernel
theorem dX0_isTold_95 : decode cX0_isTold 95 = .ok (.getfield 60, 3) := by decide +kernel
theorem dX0_isTold_98 : decode cX0_isTold 98 = .ok (.iconst 3, 1) := by decide +kernel
theorem dX0_isTold_99 : decode cX0_isTold 99 = .ok (.if_icmp .ne 11, 3) := by decide +kernel
theorem dX0_isTold_102 : decode cX0_isTold 102 = .ok (.iload_n 3, 1) := by decide +kernel
theorem dX0_isTold_103 : decode cX0_isTold 103 = .ok (.invokestatic 63, 3) := by decide +kernel
theorem dX0_isTold_106 : decode cX0_isTold 106 = .ok (.iconst 2, 1) := by decide +kernel
theorem dX0_isTold_107 : decode cX0_isTold 107 = .ok (.if_icmp .lt 7, 3) := by decide +kernel
theorem dX0_isTold_110 : decode cX0_isTold 110 = .ok (.iconst 1, 1) := by decide +kernel
theorem dX0_isTold_111 : decode cX0_isTold 111 = .ok (.goto 4, 3) := by decide +kernel
theorem dX0_isTold_114 : decode cX0_isTold 114 = .ok (.iconst 0, 1) := by decide +kernel
theorem dX0_isTold_115 : decode cX0_isTold 115 = .ok (.ireturn, 1) := by decide +kernel
theorem dX0_standing_0 : decode cX0_standing 0 = .ok (.aload_n 0, 1) := by decide +kernel
theorem dX0_standing_1 : decode cX0_standing 1 = .ok (.getfield 11, 3) := by decide +kernel
theorem dX0_standing_4 : decode cX0_standing 4 = .ok (.iload_n 1, 1) := by decide +kernel
theorem dX0_standing_5 : decode cX0_standing 5 = .ok (.aaload, 1) := by decide +kernel
theorem dX0_standing_6 : decode cX0_standing 6 = .ok (.getfield 32, 3) := by decide +kernel
theorem dX0_standing_9 : decode cX0_standing 9 = .ok (.ifCond .eq 5, 3) := by decide +kernel
theorem dX0_standing_12 : decode cX0_standing 12 = .ok (.iconst 2, 1) := by decide +kernel
theorem dX0_standing_13 : decode cX0_standing 13 = .ok (.ireturn, 1) := by decide +kernel
theorem dX0_standing_14 : decode cX0_standing 14 = .ok (.aload_n 0, 1) := by decide +kernel
theorem dX0_standing_15 : decode cX0_standing 15 = .ok (.iload_n 1, 1) := by decide +kernel
theorem dX0_standing_16 : decode cX0_standing 16 = .ok (.invokevirtual 36, 3) := by decide +kernel
theorem dX0_standing_19 : decode cX0_standing 19 = .ok (.ifCond .eq 5, 3) := by decide +kernel
theorem dX0_standing_22 : decode cX0_standing 22 = .ok (.iconst 1, 1) := by decide +kernel
theorem dX0_standing_23 : decode cX0_standing 23 = .ok (.ireturn, 1) := by decide +kernel
theorem dX0_standing_24 : decode cX0_standing 24 = .ok (.aload_n 0, 1) := by decide +kernel
theorem dX0_standing_25 : decode cX0_standing 25 = .ok (.getfield 11, 3) := by decide +kernel
theorem dX0_standing_28 : decode cX0_standing 28 = .ok (.iload_n 1, 1) := by decide +kernel
theorem dX0_standing_29 : decode cX0_standing 29 = .ok (.aaload, 1) := by decide +kernel
theorem dX0_standing_30 : decode cX0_standing 30 = .ok (.getfield 40, 3) := by decide +kernel
theorem dX0_standing_33 : decode cX0_standing 33 = .ok (.iload_n 2, 1) := by decide +kernel
theorem dX0_standing_34 : decode cX0_standing 34 = .ok (.if_icmp .ge 7, 3) := by decide +kernel
theorem dX0_standing_37 : decode cX0_standing 37 = .ok (.iconst 3, 1) := by decide +kernel
theorem dX0_standing_38 : decode cX0_standing 38 = .ok (.goto 4, 3) := by decide +kernel
theorem dX0_standing_41 : decode cX0_standing 41 = .ok (.iconst 0, 1) := by decide +kernel
theorem dX0_standing_42 : decode cX0_standing 42 = .ok (.ireturn, 1) := by decide +kernel
theorem dX0_thingsThatAre_0 : decode cX0_thingsThatAre 0 = .ok (.iconst 0, 1) := by decide +kernel
theorem dX0_thingsThatAre_1 : decode cX0_thingsThatAre 1 = .ok (.istore_n 3, 1) := by decide +kernel
theorem dX0_thingsThatAre_2 : decode cX0_thingsThatAre 2 = .ok (.iconst 0, 1) := by decide +kernel
theorem dX0_thingsThatAre_3 : decode cX0_thingsThatAre 3 = .ok (.istore 4, 2) := by decide +kernel
theorem dX0_thingsThatAre_5 : decode cX0_thingsThatAre 5 = .ok (.iload 4, 2) := by decide +kernel
theorem dX0_thingsThatAre_7 : decode cX0_thingsThatAre 7 = .ok (.aload_n 0, 1) := by decide +kernel
theorem dX0_thingsThatAre_8 : decode cX0_thingsThatAre 8 = .ok (.getfield 25, 3) := by decide +kernel
theorem dX0_thingsThatAre_11 : decode cX0_thingsThatAre 11 = .ok (.if_icmp .ge 23, 3) := by decide +kernel
theorem dX0_thingsThatAre_14 : decode cX0_thingsThatAre 14 = .ok (.aload_n 0, 1) := by decide +kernel
theorem dX0_thingsThatAre_15 : decode cX0_thingsThatAre 15 = .ok (.iload 4, 2) := by decide +kernel
theorem dX0_thingsThatAre_17 : decode cX0_thingsThatAre 17 = .ok (.iload_n 2, 1) := by decide +kernel
theorem dX0_thingsThatAre_18 : decode cX0_thingsThatAre 18 = .ok (.invokevirtual 43, 3) := by decide +kernel
theorem dX0_thingsThatAre_21 : decode cX0_thingsThatAre 21 = .ok (.iload_n 1, 1) := by decide +kernel
theorem dX0_thingsThatAre_22 : decode cX0_thingsThatAre 22 = .ok (.if_icmp .ne 6, 3) := by decide +kernel
theorem dX0_thingsThatAre_25 : decode cX0_thingsThatAre 25 = .ok (.iinc 3 1, 3) := by decide +kernel
theorem dX0_thingsThatAre_28 : decode cX0_thingsThatAre 28 = .ok (.iinc 4 1, 3) := by decide +kernel
theorem dX0_thingsThatAre_31 : decode cX0_thingsThatAre 31 = .ok (.goto (-26), 3) := by decide +kernel
theorem dX0_thingsThatAre_34 : decode cX0_thingsThatAre 34 = .ok (.iload_n 3, 1) := by decide +kernel
theorem dX0_thingsThatAre_35 : decode cX0_thingsThatAre 35 = .ok (.ireturn, 1) := by decide +kernel
theorem dX0_sayingsWith_0 : decode cX0_sayingsWith 0 = .ok (.iconst 0, 1) := by decide +kernel
theorem dX0_sayingsWith_1 : decode cX0_sayingsWith 1 = .ok (.istore_n 2, 1) := by decide +kernel
theorem dX0_sayingsWith_2 : decode cX0_sayingsWith 2 = .ok (.iconst 0, 1) := by decide +kernel
theorem dX0_sayingsWith_3 : decode cX0_sayingsWith 3 = .ok (.istore_n 3, 1) := by decide +kernel
theorem dX0_sayingsWith_4 : decode cX0_sayingsWith 4 = .ok (.iload_n 3, 1) := by decide +kernel
theorem dX0_sayingsWith_5 : decode cX0_sayingsWith 5 = .ok (.aload_n 0, 1) := by decide +kernel
theorem dX0_sayingsWith_6 : decode cX0_sayingsWith 6 = .ok (.getfield 29, 3) := by decide +kernel
theorem dX0_sayingsWith_9 : decode cX0_sayingsWith 9 = .ok (.if_icmp .ge 28, 3) := by decide +kernel
theorem dX0_sayingsWith_12 : decode cX0_sayingsWith 12 = .ok (.aload_n 0, 1) := by decide +kernel
theorem dX0_sayingsWith_13 : decode cX0_sayingsWith 13 = .ok (.getfield 19, 3) := by decide +kernel
theorem dX0_sayingsWith_16 : decode cX0_sayingsWith 16 = .ok (.iload_n 3, 1) := by decide +kernel
theorem dX0_sayingsWith_17 : decode cX0_sayingsWith 17 = .ok (.aaload, 1) := by decide +kernel
theorem dX0_sayingsWith_18 : decode cX0_sayingsWith 18 = .ok (.getfield 47, 3) := by decide +kernel
theorem dX0_sayingsWith_21 : decode cX0_sayingsWith 21 = .ok (.iload_n 1, 1) := by decide +kernel
theorem dX0_sayingsWith_22 : decode cX0_sayingsWith 22 = .ok (.invokestatic 50, 3) := by decide +kernel
theorem dX0_sayingsWith_25 : decode cX0_sayingsWith 25 = .ok (.ifCond .eq 6, 3) := by decide +kernel
theorem dX0_sayingsWith_28 : decode cX0_sayingsWith 28 = .ok (.iinc 2 1, 3) := by decide +kernel
theorem dX0_sayingsWith_31 : decode cX0_sayingsWith 31 = .ok (.iinc 3 1, 3) := by decide +kernel
theorem dX0_sayingsWith_34 : decode cX0_sayingsWith 34 = .ok (.goto (-30), 3) := by decide +kernel
theorem dX0_sayingsWith_37 : decode cX0_sayingsWith 37 = .ok (.iload_n 2, 1) := by decide +kernel
theorem dX0_sayingsWith_38 : decode cX0_sayingsWith 38 = .ok (.ireturn, 1) := by decide +kernel
theorem dX0_personsWith_0 : decode cX0_personsWith 0 = .ok (.iconst 0, 1) := by decide +kernel
theorem dX0_personsWith_1 : decode cX0_personsWith 1 = .ok (.istore_n 2, 1) := by decide +kernel
theorem dX0_personsWith_2 : decode cX0_personsWith 2 = .ok (.iconst 0, 1) := by decide +kernel
theorem dX0_personsWith_3 : decode cX0_personsWith 3 = .ok (.istore_n 3, 1) := by decide +kernel
theorem dX0_personsWith_4 : decode cX0_personsWith 4 = .ok (.iload_n 3, 1) := by decide +kernel
theorem dX0_personsWith_5 : decode cX0_personsWith 5 = .ok (.aload_n 0, 1) := by decide +kernel
theorem dX0_personsWith_6 : decode cX0_personsWith 6 = .ok (.getfield 29, 3) := by decide +kernel
theorem dX0_personsWith_9 : decode cX0_personsWith 9 = .ok (.if_icmp .ge 39, 3) := by decide +kernel
theorem dX0_personsWith_12 : decode cX0_personsWith 12 = .ok (.aload_n 0, 1) := by decide +kernel
theorem dX0_personsWith_13 : decode cX0_personsWith 13 = .ok (.getfield 19, 3) := by decide +kernel
theorem dX0_personsWith_16 : decode cX0_personsWith 16 = .ok (.iload_n 3, 1) := by decide +kernel
theorem dX0_personsWith_17 : decode cX0_personsWith 17 = .ok (.aaload, 1) := by decide +kernel
theorem dX0_personsWith_18 : decode cX0_personsWith 18 = .ok (.getfield 47, 3) := by decide +kernel
theorem dX0_personsWith_21 : decode cX0_personsWith 21 = .ok (.iload_n 1, 1) := by decide +kernel
theorem dX0_personsWith_22 : decode cX0_personsWith 22 = .ok (.invokestatic 50, 3) := by decide +kernel
theorem dX0_personsWith_25 : decode cX0_personsWith 25 = .ok (.ifCond .eq 17, 3) := by decide +kernel
theorem dX0_personsWith_28 : decode cX0_personsWith 28 = .ok (.iload_n 2, 1) := by decide +kernel
theorem dX0_personsWith_29 : decode cX0_personsWith 29 = .ok (.iconst 1, 1) := by decide +kernel
theorem dX0_personsWith_30 : decode cX0_personsWith 30 = .ok (.aload_n 0, 1) := by decide +kernel
theorem dX0_personsWith_31 : decode cX0_personsWith 31 = .ok (.getfield 19, 3) := by decide +kernel
theorem dX0_personsWith_34 : decode cX0_personsWith 34 = .ok (.iload_n 3, 1) := by decide +kernel
theorem dX0_personsWith_35 : decode cX0_personsWith 35 = .ok (.aaload, 1) := by decide +kernel
theorem dX0_personsWith_36 : decode cX0_personsWith 36 = .ok (.getfield 57, 3) := by decide +kernel
theorem dX0_personsWith_39 : decode cX0_personsWith 39 = .ok (.ishl, 1) := by decide +kernel
theorem dX0_personsWith_40 : decode cX0_personsWith 40 = .ok (.ior, 1) := by decide +kernel
theorem dX0_personsWith_41 : decode cX0_personsWith 41 = .ok (.istore_n 2, 1) := by decide +kernel
theorem dX0_personsWith_42 : decode cX0_personsWith 42 = .ok (.iinc 3 1, 3) := by decide +kernel
theorem dX0_personsWith_45 : decode cX0_personsWith 45 = .ok (.goto (-41), 3) := by decide +kernel
theorem dX0_personsWith_48 : decode cX0_personsWith 48 = .ok (.iload_n 2, 1) := by decide +kernel
theorem dX0_personsWith_49 : decode cX0_personsWith 49 = .ok (.ireturn, 1) := by decide +kernel
theorem dX0_deadThings_0 : decode cX0_deadThings 0 = .ok (.iconst 0, 1) := by decide +kernel
theorem dX0_deadThings_1 : decode cX0_deadThings 1 = .ok (.istore_n 1, 1) := by decide +kernel
theorem dX0_deadThings_2 : decode cX0_deadThings 2 = .ok (.iconst 0, 1) := by decide +kernel
theorem dX0_deadThings_3 : decode cX0_deadThings 3 = .ok (.istore_n 2, 1) := by decide +kernel
theorem dX0_deadThings_4 : decode cX0_deadThings 4 = .ok (.iload_n 2, 1) := by decide +kernel
theorem dX0_deadThings_5 : decode cX0_deadThings 5 = .ok (.aload_n 0, 1) := by decide +kernel
theorem dX0_deadThings_6 : decode cX0_deadThings 6 = .ok (.getfield 25, 3) := by decide +kernel
theorem dX0_deadThings_9 : decode cX0_deadThings 9 = .ok (.if_icmp .ge 27, 3) := by decide +kernel
theorem dX0_deadThings_12 : decode cX0_deadThings 12 = .ok (.aload_n 0, 1) := by decide +kernel
theorem dX0_deadThings_13 : decode cX0_deadThings 13 = .ok (.getfield 11, 3) := by decide +kernel
theorem dX0_deadThings_16 : decode cX0_deadThings 16 = .ok (.iload_n 2, 1) := by decide +kernel
theorem dX0_deadThings_17 : decode cX0_deadThings 17 = .ok (.aaload, 1) := by decide +kernel
theorem dX0_deadThings_18 : decode cX0_deadThings 18 = .ok (.getfield 32, 3) := by decide +kernel
theorem dX0_deadThings_21 : decode cX0_deadThings 21 = .ok (.ifCond .eq 9, 3) := by decide +kernel
theorem dX0_deadThings_24 : decode cX0_deadThings 24 = .ok (.iload_n 1, 1) := by decide +kernel
theorem dX0_deadThings_25 : decode cX0_deadThings 25 = .ok (.iconst 1, 1) := by decide +kernel
theorem dX0_deadThings_26 : decode cX0_deadThings 26 = .ok (.iload_n 2, 1) := by decide +kernel
theorem dX0_deadThings_27 : decode cX0_deadThings 27 = .ok (.ishl, 1) := by decide +kernel
theorem dX0_deadThings_28 : decode cX0_deadThings 28 = .ok (.ior, 1) := by decide +kernel
theorem dX0_deadThings_29 : decode cX0_deadThings 29 = .ok (.istore_n 1, 1) := by decide +kernel
theorem dX0_deadThings_30 : decode cX0_deadThings 30 = .ok (.iinc 2 1, 3) := by decide +kernel
theorem dX0_deadThings_33 : decode cX0_deadThings 33 = .ok (.goto (-29), 3) := by decide +kernel
theorem dX0_deadThings_36 : decode cX0_deadThings 36 = .ok (.iload_n 1, 1) := by decide +kernel
theorem dX0_deadThings_37 : decode cX0_deadThings 37 = .ok (.ireturn, 1) := by decide +kernel
theorem dX0_canBeSaid_0 : decode cX0_canBeSaid 0 = .ok (.iconst (-1), 1) := by decide +kernel
theorem dX0_canBeSaid_1 : decode cX0_canBeSaid 1 = .ok (.istore_n 3, 1) := by decide +kernel
theorem dX0_canBeSaid_2 : decode cX0_canBeSaid 2 = .ok (.iconst 0, 1) := by decide +kernel
theorem dX0_canBeSaid_3 : decode cX0_canBeSaid 3 = .ok (.istore 4, 2) := by decide +kernel
theorem dX0_canBeSaid_5 : decode cX0_canBeSaid 5 = .ok (.iload 4, 2) := by decide +kernel
theorem dX0_canBeSaid_7 : decode cX0_canBeSaid 7 = .ok (.aload_n 0, 1) := by decide +kernel
theorem dX0_canBeSaid_8 : decode cX0_canBeSaid 8 = .ok (.getfield 25, 3) := by decide +kernel
theorem dX0_canBeSaid_11 : decode cX0_canBeSaid 11 = .ok (.if_icmp .ge 71, 3) := by decide +kernel
theorem dX0_canBeSaid_14 : decode cX0_canBeSaid 14 = .ok (.iload_n 1, 1) := by decide +kernel
theorem dX0_canBeSaid_15 : decode cX0_canBeSaid 15 = .ok (.iload 4, 2) := by decide +kernel
theorem dX0_canBeSaid_17 : decode cX0_canBeSaid 17 = .ok (.invokestatic 50, 3) := by decide +kernel
theorem dX0_canBeSaid_20 : decode cX0_canBeSaid 20 = .ok (.ifCond .eq 56, 3) := by decide +kernel
theorem dX0_canBeSaid_23 : decode cX0_canBeSaid 23 = .ok (.aload_n 0, 1) := by decide +kernel
theorem dX0_canBeSaid_24 : decode cX0_canBeSaid 24 = .ok (.getfield 11, 3) := by decide +kernel
theorem dX0_canBeSaid_27 : decode cX0_canBeSaid 27 = .ok (.iload 4, 2) := by decide +kernel
theorem dX0_canBeSaid_29 : decode cX0_canBeSaid 29 = .ok (.aaload, 1) := by decide +kernel
theorem dX0_canBeSaid_30 : decode cX0_canBeSaid 30 = .ok (.astore 5, 2) := by decide +kernel
theorem dX0_canBeSaid_32 : decode cX0_canBeSaid 32 = .ok (.aload 5, 2) := by decide +kernel
theorem dX0_canBeSaid_34 : decode cX0_canBeSaid 34 = .ok (.getfield 32, 3) := by decide +kernel
theorem dX0_canBeSaid_37 : decode cX0_canBeSaid 37 = .ok (.ifCond .ne 15, 3) := by decide +kernel
theorem dX0_canBeSaid_40 : decode cX0_canBeSaid 40 = .ok (.aload 5, 2) := by decide +kernel
theorem dX0_canBeSaid_42 : decode cX0_canBeSaid 42 = .ok (.getfield 69, 3) := by decide +kernel
theorem dX0_canBeSaid_45 : decode cX0_canBeSaid 45 = .ok (.iload_n 2, 1) := by decide +kernel
theorem dX0_canBeSaid_46 : decode cX0_canBeSaid 46 = .ok (.invokestatic 50, 3) := by decide +kernel
theorem dX0_canBeSaid_49 : decode cX0_canBeSaid 49 = .ok (.ifCond .ne 5, 3) := by decide +kernel
theorem dX0_canBeSaid_52 : decode cX0_canBeSaid 52 = .ok (.iconst 0, 1) := by decide +kernel
theorem dX0_canBeSaid_53 : decode cX0_canBeSaid 53 = .ok (.ireturn, 1) := by decide +kernel
theorem dX0_canBeSaid_54 : decode cX0_canBeSaid 54 = .ok (.iload_n 3, 1) := by decide +kernel
theorem dX0_canBeSaid_55 : decode cX0_canBeSaid 55 = .ok (.iconst (-1), 1) := by decide +kernel
theorem dX0_canBeSaid_56 : decode cX0_canBeSaid 56 = .ok (.if_icmp .eq 14, 3) := by decide +kernel
theorem dX0_canBeSaid_59 : decode cX0_canBeSaid 59 = .ok (.iload_n 3, 1) := by decide +kernel
theorem dX0_canBeSaid_60 : decode cX0_canBeSaid 60 = .ok (.aload 5, 2) := by decide +kernel
theorem dX0_canBeSaid_62 : decode cX0_canBeSaid 62 = .ok (.getfield 72, 3) := by decide +kernel
theorem dX0_canBeSaid_65 : decode cX0_canBeSaid 65 = .ok (.if_icmp .eq 5, 3) := by decide +kernel
theorem dX0_canBeSaid_68 : decode cX0_canBeSaid 68 = .ok (.iconst 0, 1) := by decide +kernel
theorem dX0_canBeSaid_69 : decode cX0_canBeSaid 69 = .ok (.ireturn, 1) := by decide +kernel
theorem dX0_canBeSaid_70 : decode cX0_canBeSaid 70 = .ok (.aload 5, 2) := by decide +kernel
theorem dX0_canBeSaid_72 : decode cX0_canBeSaid 72 = .ok (.getfield 72, 3) := by decide +kernel
theorem dX0_canBeSaid_75 : decode cX0_canBeSaid 75 = .ok (.istore_n 3, 1) := by decide +kernel
theorem dX0_canBeSaid_76 : decode cX0_canBeSaid 76 = .ok (.iinc 4 1, 3) := by decide +kernel
theorem dX0_canBeSaid_79 : decode cX0_canBeSaid 79 = .ok (.goto (-74), 3) := by decide +kernel
theorem dX0_canBeSaid_82 : decode cX0_canBeSaid 82 = .ok (.iconst 1, 1) := by decide +kernel
theorem dX0_canBeSaid_83 : decode cX0_canBeSaid 83 = .ok (.ireturn, 1) := by decide +kernel
theorem dX0_countSaid_0 : decode cX0_countSaid 0 = .ok (.iconst 0, 1) := by decide +kernel
theorem dX0_countSaid_1 : decode cX0_countSaid 1 = .ok (.istore_n 3, 1) := by decide +kernel
theorem dX0_countSaid_2 : decode cX0_countSaid 2 = .ok (.iload_n 3, 1) := by decide +kernel
theorem dX0_countSaid_3 : decode cX0_countSaid 3 = .ok (.aload_n 2, 1) := by decide +kernel
theorem dX0_countSaid_4 : decode cX0_countSaid 4 = .ok (.arraylength, 1) := by decide +kernel
theorem dX0_countSaid_5 : decode cX0_countSaid 5 = .ok (.if_icmp .ge 13, 3) := by decide +kernel
theorem dX0_countSaid_8 : decode cX0_countSaid 8 = .ok (.aload_n 2, 1) := by decide +kernel
theorem dX0_countSaid_9 : decode cX0_countSaid 9 = .ok (.iload_n 3, 1) := by decide +kernel
theorem dX0_countSaid_10 : decode cX0_countSaid 10 = .ok (.iconst 0, 1) := by decide +kernel
theorem dX0_countSaid_11 : decode cX0_countSaid 11 = .ok (.iastore, 1) := by decide +kernel
theorem dX0_countSaid_12 : decode cX0_countSaid 12 = .ok (.iinc 3 1, 3) := by decide +kernel
theorem dX0_countSaid_15 : decode cX0_countSaid 15 = .ok (.goto (-13), 3) := by decide +kernel
theorem dX0_countSaid_18 : decode cX0_countSaid 18 = .ok (.iconst 0, 1) := by decide +kernel
theorem dX0_countSaid_19 : decode cX0_countSaid 19 = .ok (.istore_n 3, 1) := by decide +kernel
theorem dX0_countSaid_20 : decode cX0_countSaid 20 = .ok (.iload_n 3, 1) := by decide +kernel
theorem dX0_countSaid_21 : decode cX0_countSaid 21 = .ok (.aload_n 0, 1) := by decide +kernel
theorem dX0_countSaid_22 : decode cX0_countSaid 22 = .ok (.getfield 29, 3) := by decide +kernel
theorem dX0_countSaid_25 : decode cX0_countSaid 25 = .ok (.if_icmp .ge 53, 3) := by decide +kernel
theorem dX0_countSaid_28 : decode cX0_countSaid 28 = .ok (.aload_n 0, 1) := by decide +kernel
theorem dX0_countSaid_29 : decode cX0_countSaid 29 = .ok (.getfield 19, 3) := by decide +kernel
theorem dX0_countSaid_32 : decode cX0_countSaid 32 = .ok (.iload_n 3, 1) := by decide +kernel
theorem dX0_countSaid_33 : decode cX0_countSaid 33 = .ok (.aaload, 1) := by decide +kernel
theorem dX0_countSaid_34 : decode cX0_countSaid 34 = .ok (.getfield 75, 3) := by decide +kernel
theorem dX0_countSaid_37 : decode cX0_countSaid 37 = .ok (.istore 4, 2) := by decide +kernel
theorem dX0_countSaid_39 : decode cX0_countSaid 39 = .ok (.aload_n 0, 1) := by decide +kernel
theorem dX0_countSaid_40 : decode cX0_countSaid 40 = .ok (.getfield 19, 3) := by decide +kernel
theorem dX0_countSaid_43 : decode cX0_countSaid 43 = .ok (.iload_n 3, 1) := by decide +kernel
theorem dX0_countSaid_44 : decode cX0_countSaid 44 = .ok (.aaload, 1) := by decide +kernel
theorem dX0_countSaid_45 : decode cX0_countSaid 45 = .ok (.getfield 57, 3) := by decide +kernel
theorem dX0_countSaid_48 : decode cX0_countSaid 48 = .ok (.iload_n 1, 1) := by decide +kernel
theorem dX0_countSaid_49 : decode cX0_countSaid 49 = .ok (.if_icmp .ne 23, 3) := by decide +kernel
theorem dX0_countSaid_52 : decode cX0_countSaid 52 = .ok (.iload 4, 2) := by decide +kernel
theorem dX0_countSaid_54 : decode cX0_countSaid 54 = .ok (.ifCond .lt 18, 3) := by decide +kernel
theorem dX0_countSaid_57 : decode cX0_countSaid 57 = .ok (.iload 4, 2) := by decide +kernel
theorem dX0_countSaid_59 : decode cX0_countSaid 59 = .ok (.aload_n 2, 1) := by decide +kernel
theorem dX0_countSaid_60 : decode cX0_countSaid 60 = .ok (.arraylength, 1) := by decide +kernel
theorem dX0_countSaid_61 : decode cX0_countSaid 61 = .ok (.if_icmp .ge 11, 3) := by decide +kernel
theorem dX0_countSaid_64 : decode cX0_countSaid 64 = .ok (.aload_n 2, 1) := by decide +kernel
theorem dX0_countSaid_65 : decode cX0_countSaid 65 = .ok (.iload 4, 2) := by decide +kernel
theorem dX0_countSaid_67 : decode cX0_countSaid 67 = .ok (.dup2, 1) := by decide +kernel
theorem dX0_countSaid_68 : decode cX0_countSaid 68 = .ok (.iaload, 1) := by decide +kernel
theorem dX0_countSaid_69 : decode cX0_countSaid 69 = .ok (.iconst 1, 1) := by decide +kernel
theorem dX0_countSaid_70 : decode cX0_countSaid 70 = .ok (.iadd, 1) := by decide +kernel
theorem dX0_countSaid_71 : decode cX0_countSaid 71 = .ok (.iastore, 1) := by decide +kernel
theorem dX0_countSaid_72 : decode cX0_countSaid 72 = .ok (.iinc 3 1, 3) := by decide +kernel
theorem dX0_countSaid_75 : decode cX0_countSaid 75 = .ok (.goto (-55), 3) := by decide +kernel
theorem dX0_countSaid_78 : decode cX0_countSaid 78 = .ok (.return_, 1) := by decide +kernel
theorem dX0_outcomesBy_0 : decode cX0_outcomesBy 0 = .ok (.iconst 0, 1) := by decide +kernel
theorem dX0_outcomesBy_1 : decode cX0_outcomesBy 1 = .ok (.istore_n 2, 1) := by decide +kernel
theorem dX0_outcomesBy_2 : decode cX0_outcomesBy 2 = .ok (.iconst 0, 1) := by decide +kernel
theorem dX0_outcomesBy_3 : decode cX0_outcomesBy 3 = .ok (.istore_n 3, 1) := by decide +kernel
theorem dX0_outcomesBy_4 : decode cX0_outcomesBy 4 = .ok (.iload_n 3, 1) := by decide +kernel
theorem dX0_outcomesBy_5 : decode cX0_outcomesBy 5 = .ok (.aload_n 0, 1) := by decide +kernel
theorem dX0_outcomesBy_6 : decode cX0_outcomesBy 6 = .ok (.getfield 29, 3) := by decide +kernel
theorem dX0_outcomesBy_9 : decode cX0_outcomesBy 9 = .ok (.if_icmp .ge 37, 3) := by decide +kernel
theorem dX0_outcomesBy_12 : decode cX0_outcomesBy 12 = .ok (.aload_n 0, 1) := by decide +kernel
theorem dX0_outcomesBy_13 : decode cX0_outcomesBy 13 = .ok (.getfield 19, 3) := by decide +kernel
theorem dX0_outcomesBy_16 : decode cX0_outcomesBy 16 = .ok (.iload_n 3, 1) := by decide +kernel
theorem dX0_outcomesBy_17 : decode cX0_outcomesBy 17 = .ok (.aaload, 1) := by decide +kernel
theorem dX0_outcomesBy_18 : decode cX0_outcomesBy 18 = .ok (.getfield 78, 3) := by decide +kernel
theorem dX0_outcomesBy_21 : decode cX0_outcomesBy 21 = .ok (.iload_n 1, 1) := by decide +kernel
theorem dX0_outcomesBy_22 : decode cX0_outcomesBy 22 = .ok (.if_icmp .ne 18, 3) := by decide +kernel
theorem dX0_outcomesBy_25 : decode cX0_outcomesBy 25 = .ok (.aload_n 0, 1) := by decide +kernel
theorem dX0_outcomesBy_26 : decode cX0_outcomesBy 26 = .ok (.getfield 19, 3) := by decide +kernel
theorem dX0_outcomesBy_29 : decode cX0_outcomesBy 29 = .ok (.iload_n 3, 1) := by decide +kernel
theorem dX0_outcomesBy_30 : decode cX0_outcomesBy 30 = .ok (.aaload, 1) := by decide +kernel
theorem dX0_outcomesBy_31 : decode cX0_outcomesBy 31 = .ok (.getfield 54, 3) := by decide +kernel
theorem dX0_outcomesBy_34 : decode cX0_outcomesBy 34 = .ok (.ifCond .eq 6, 3) := by decide +kernel
theorem dX0_outcomesBy_37 : decode cX0_outcomesBy 37 = .ok (.iinc 2 1, 3) := by decide +kernel
theorem dX0_outcomesBy_40 : decode cX0_outcomesBy 40 = .ok (.iinc 3 1, 3) := by decide +kernel
theorem dX0_outcomesBy_43 : decode cX0_outcomesBy 43 = .ok (.goto (-39), 3) := by decide +kernel
theorem dX0_outcomesBy_46 : decode cX0_outcomesBy 46 = .ok (.iload_n 2, 1) := by decide +kernel
theorem dX0_outcomesBy_47 : decode cX0_outcomesBy 47 = .ok (.ireturn, 1) := by decide +kernel
theorem dX0_lookedAtBy_0 : decode cX0_lookedAtBy 0 = .ok (.iconst 0, 1) := by decide +kernel
theorem dX0_lookedAtBy_1 : decode cX0_lookedAtBy 1 = .ok (.istore_n 2, 1) := by decide +kernel
theorem dX0_lookedAtBy_2 : decode cX0_lookedAtBy 2 = .ok (.iconst 0, 1) := by decide +kernel
theorem dX0_lookedAtBy_3 : decode cX0_lookedAtBy 3 = .ok (.istore_n 3, 1) := by decide +kernel
theorem dX0_lookedAtBy_4 : decode cX0_lookedAtBy 4 = .ok (.iload_n 3, 1) := by decide +kernel
theorem dX0_lookedAtBy_5 : decode cX0_lookedAtBy 5 = .ok (.aload_n 0, 1) := by decide +kernel
theorem dX0_lookedAtBy_6 : decode cX0_lookedAtBy 6 = .ok (.getfield 29, 3) := by decide +kernel
theorem dX0_lookedAtBy_9 : decode cX0_lookedAtBy 9 = .ok (.if_icmp .ge 38, 3) := by decide +kernel
theorem dX0_lookedAtBy_12 : decode cX0_lookedAtBy 12 = .ok (.aload_n 0, 1) := by decide +kernel
theorem dX0_lookedAtBy_13 : decode cX0_lookedAtBy 13 = .ok (.getfield 19, 3) := by decide +kernel
theorem dX0_lookedAtBy_16 : decode cX0_lookedAtBy 16 = .ok (.iload_n 3, 1) := by decide +kernel
theorem dX0_lookedAtBy_17 : decode cX0_lookedAtBy 17 = .ok (.aaload, 1) := by decide +kernel
theorem dX0_lookedAtBy_18 : decode cX0_lookedAtBy 18 = .ok (.getfield 78, 3) := by decide +kernel
theorem dX0_lookedAtBy_21 : decode cX0_lookedAtBy 21 = .ok (.iload_n 1, 1) := by decide +kernel
theorem dX0_lookedAtBy_22 : decode cX0_lookedAtBy 22 = .ok (.if_icmp .ne 19, 3) := by decide +kernel
theorem dX0_lookedAtBy_25 : decode cX0_lookedAtBy 25 = .ok (.aload_n 0, 1) := by decide +kernel
theorem dX0_lookedAtBy_26 : decode cX0_lookedAtBy 26 = .ok (.getfield 19, 3) := by decide +kernel
theorem dX0_lookedAtBy_29 : decode cX0_lookedAtBy 29 = .ok (.iload_n 3, 1) := by decide +kernel
theorem dX0_lookedAtBy_30 : decode cX0_lookedAtBy 30 = .ok (.aaload, 1) := by decide +kernel
theorem dX0_lookedAtBy_31 : decode cX0_lookedAtBy 31 = .ok (.getfield 54, 3) := by decide +kernel
theorem dX0_lookedAtBy_34 : decode cX0_lookedAtBy 34 = .ok (.iconst 1, 1) := by decide +kernel
theorem dX0_lookedAtBy_35 : decode cX0_lookedAtBy 35 = .ok (.if_icmp .ne 6, 3) := by decide +kernel
theorem dX0_lookedAtBy_38 : decode cX0_lookedAtBy 38 = .ok (.iinc 2 1, 3) := by decide +kernel
theorem dX0_lookedAtBy_41 : decode cX0_lookedAtBy 41 = .ok (.iinc 3 1, 3) := by decide +kernel
theorem dX0_lookedAtBy_44 : decode cX0_lookedAtBy 44 = .ok (.goto (-40), 3) := by decide +kernel
theorem dX0_lookedAtBy_47 : decode cX0_lookedAtBy 47 = .ok (.iload_n 2, 1) := by decide +kernel
theorem dX0_lookedAtBy_48 : decode cX0_lookedAtBy 48 = .ok (.ireturn, 1) := by decide +kernel
theorem dX1_init_0 : decode cX1_init 0 = .ok (.aload_n 0, 1) := by decide +kernel
theorem dX1_init_1 : decode cX1_init 1 = .ok (.invokespecial 1, 3) := by decide +kernel
theorem dX1_init_4 : decode cX1_init 4 = .ok (.return_, 1) := by decide +kernel
theorem dX3_alwaysFrom_0 : decode cX3_alwaysFrom 0 = .ok (.iconst 0, 1) := by decide +kernel
theorem dX3_alwaysFrom_1 : decode cX3_alwaysFrom 1 = .ok (.istore_n 1, 1) := by decide +kernel
theorem dX3_alwaysFrom_2 : decode cX3_alwaysFrom 2 = .ok (.iconst 0, 1) := by decide +kernel
theorem dX3_alwaysFrom_3 : decode cX3_alwaysFrom 3 = .ok (.istore_n 2, 1) := by decide +kernel
theorem dX3_alwaysFrom_4 : decode cX3_alwaysFrom 4 = .ok (.iload_n 2, 1) := by decide +kernel
theorem dX3_alwaysFrom_5 : decode cX3_alwaysFrom 5 = .ok (.aload_n 0, 1) := by decide +kernel
theorem dX3_alwaysFrom_6 : decode cX3_alwaysFrom 6 = .ok (.getfield 24, 3) := by decide +kernel
theorem dX3_alwaysFrom_9 : decode cX3_alwaysFrom 9 = .ok (.if_icmp .ge 30, 3) := by decide +kernel
theorem dX3_alwaysFrom_12 : decode cX3_alwaysFrom 12 = .ok (.aload_n 0, 1) := by decide +kernel
theorem dX3_alwaysFrom_13 : decode cX3_alwaysFrom 13 = .ok (.getfield 9, 3) := by decide +kernel
theorem dX3_alwaysFrom_16 : decode cX3_alwaysFrom 16 = .ok (.iload_n 2, 1) := by decide +kernel
theorem dX3_alwaysFrom_17 : decode cX3_alwaysFrom 17 = .ok (.iaload, 1) := by decide +kernel
theorem dX3_alwaysFrom_18 : decode cX3_alwaysFrom 18 = .ok (.iconst 4, 1) := by decide +kernel
theorem dX3_alwaysFrom_19 : decode cX3_alwaysFrom 19 = .ok (.if_icmp .ne 14, 3) := by decide +kernel
theorem dX3_alwaysFrom_22 : decode cX3_alwaysFrom 22 = .ok (.iload_n 1, 1) := by decide +kernel
theorem dX3_alwaysFrom_23 : decode cX3_alwaysFrom 23 = .ok (.iconst 1, 1) := by decide +kernel
theorem dX3_alwaysFrom_24 : decode cX3_alwaysFrom 24 = .ok (.aload_n 0, 1) := by decide +kernel
theorem dX3_alwaysFrom_25 : decode cX3_alwaysFrom 25 = .ok (.getfield 15, 3) := by decide +kernel
theorem dX3_alwaysFrom_28 : decode cX3_alwaysFrom 28 = .ok (.iload_n 2, 1) := by decide +kernel
theorem dX3_alwaysFrom_29 : decode cX3_alwaysFrom 29 = .ok (.iaload, 1) := by decide +kernel
theorem dX3_alwaysFrom_30 : decode cX3_alwaysFrom 30 = .ok (.ishl, 1) := by decide +kernel
theorem dX3_alwaysFrom_31 : decode cX3_alwaysFrom 31 = .ok (.ior, 1) := by decide +kernel
theorem dX3_alwaysFrom_32 : decode cX3_alwaysFrom 32 = .ok (.istore_n 1, 1) := by decide +kernel
theorem dX3_alwaysFrom_33 : decode cX3_alwaysFrom 33 = .ok (.iinc 2 1, 3) := by decide +kernel
theorem dX3_alwaysFrom_36 : decode cX3_alwaysFrom 36 = .ok (.goto (-32), 3) := by decide +kernel
theorem dX3_alwaysFrom_39 : decode cX3_alwaysFrom 39 = .ok (.iload_n 1, 1) := by decide +kernel
theorem dX3_alwaysFrom_40 : decode cX3_alwaysFrom 40 = .ok (.ireturn, 1) := by decide +kernel
theorem dX3_barredKinds_0 : decode cX3_barredKinds 0 = .ok (.iconst 0, 1) := by decide +kernel
theorem dX3_barredKinds_1 : decode cX3_barredKinds 1 = .ok (.istore_n 2, 1) := by decide +kernel
theorem dX3_barredKinds_2 : decode cX3_barredKinds 2 = .ok (.iconst 0, 1) := by decide +kernel
theorem dX3_barredKinds_3 : decode cX3_barredKinds 3 = .ok (.istore_n 3, 1) := by decide +kernel
theorem dX3_barredKinds_4 : decode cX3_barredKinds 4 = .ok (.iload_n 3, 1) := by decide +kernel
theorem dX3_barredKinds_5 : decode cX3_barredKinds 5 = .ok (.aload_n 0, 1) := by decide +kernel
theorem dX3_barredKinds_6 : decode cX3_barredKinds 6 = .ok (.getfield 24, 3) := by decide +kernel
theorem dX3_barredKinds_9 : decode cX3_barredKinds 9 = .ok (.if_icmp .ge 40, 3) := by decide +kernel
theorem dX3_barredKinds_12 : decode cX3_barredKinds 12 = .ok (.aload_n 0, 1) := by decide +kernel
theorem dX3_barredKinds_13 : decode cX3_barredKinds 13 = .ok (.getfield 9, 3) := by decide +kernel
theorem dX3_barredKinds_16 : decode cX3_barredKinds 16 = .ok (.iload_n 3, 1) := by decide +kernel
theorem dX3_barredKinds_17 : decode cX3_barredKinds 17 = .ok (.iaload, 1) := by decide +kernel
theorem dX3_barredKinds_18 : decode cX3_barredKinds 18 = .ok (.iconst 2, 1) := by decide +kernel
theorem dX3_barredKinds_19 : decode cX3_barredKinds 19 = .ok (.if_icmp .ne 24, 3) := by decide +kernel
theorem dX3_barredKinds_22 : decode cX3_barredKinds 22 = .ok (.iload_n 1, 1) := by decide +kernel
theorem dX3_barredKinds_23 : decode cX3_barredKinds 23 = .ok (.aload_n 0, 1) := by decide +kernel
theorem dX3_barredKinds_24 : decode cX3_barredKinds 24 = .ok (.getfield 18, 3) := by decide +kernel
theorem dX3_barredKinds_27 : decode cX3_barredKinds 27 = .ok (.iload_n 3, 1) := by decide +kernel
theorem dX3_barredKinds_28 : decode cX3_barredKinds 28 = .ok (.iaload, 1) := by decide +kernel
theorem dX3_barredKinds_29 : decode cX3_barredKinds 29 = .ok (.if_icmp .le 14, 3) := by decide +kernel
theorem dX3_barredKinds_32 : decode cX3_barredKinds 32 = .ok (.iload_n 2, 1) := by decide +kernel
theorem dX3_barredKinds_33 : decode cX3_barredKinds 33 = .ok (.iconst 1, 1) := by decide +kernel
theorem dX3_barredKinds_34 : decode cX3_barredKinds 34 = .ok (.aload_n 0, 1) := by decide +kernel
theorem dX3_barredKinds_35 : decode cX3_barredKinds 35 = .ok (.getfield 15, 3) := by decide +kernel
theorem dX3_barredKinds_38 : decode cX3_barredKinds 38 = .ok (.iload_n 3, 1) := by decide +kernel
theorem dX3_barredKinds_39 : decode cX3_barredKinds 39 = .ok (.iaload, 1) := by decide +kernel
theorem dX3_barredKinds_40 : decode cX3_barredKinds 40 = .ok (.ishl, 1) := by decide +kernel
theorem dX3_barredKinds_41 : decode cX3_barredKinds 41 = .ok (.ior, 1) := by decide +kernel
theorem dX3_barredKinds_42 : decode cX3_barredKinds 42 = .ok (.istore_n 2, 1) := by decide +kernel
theorem dX3_barredKinds_43 : decode cX3_barredKinds 43 = .ok (.iinc 3 1, 3) := by decide +kernel
theorem dX3_barredKinds_46 : decode cX3_barredKinds 46 = .ok (.goto (-42), 3) := by decide +kernel
theorem dX3_barredKinds_49 : decode cX3_barredKinds 49 = .ok (.iload_n 2, 1) := by decide +kernel
theorem dX3_barredKinds_50 : decode cX3_barredKinds 50 = .ok (.ireturn, 1) := by decide +kernel
theorem dX3_isLikely_0 : decode cX3_isLikely 0 = .ok (.aload_n 0, 1) := by decide +kernel
theorem dX3_isLikely_1 : decode cX3_isLikely 1 = .ok (.getfield 18, 3) := by decide +kernel
theorem dX3_isLikely_4 : decode cX3_isLikely 4 = .ok (.iload_n 1, 1) := by decide +kernel
theorem dX3_isLikely_5 : decode cX3_isLikely 5 = .ok (.iaload, 1) := by decide +kernel
theorem dX3_isLikely_6 : decode cX3_isLikely 6 = .ok (.istore_n 3, 1) := by decide +kernel
theorem dX3_isLikely_7 : decode cX3_isLikely 7 = .ok (.iload_n 3, 1) := by decide +kernel
theorem dX3_isLikely_8 : decode cX3_isLikely 8 = .ok (.ifCond .lt 36, 3) := by decide +kernel
theorem dX3_isLikely_11 : decode cX3_isLikely 11 = .ok (.iload_n 3, 1) := by decide +kernel
theorem dX3_isLikely_12 : decode cX3_isLikely 12 = .ok (.aload_n 2, 1) := by decide +kernel
theorem dX3_isLikely_13 : decode cX3_isLikely 13 = .ok (.arraylength, 1) := by decide +kernel
theorem dX3_isLikely_14 : decode cX3_isLikely 14 = .ok (.if_icmp .ge 30, 3) := by decide +kernel
theorem dX3_isLikely_17 : decode cX3_isLikely 17 = .ok (.aload_n 2, 1) := by decide +kernel
theorem dX3_isLikely_18 : decode cX3_isLikely 18 = .ok (.iload_n 3, 1) := by decide +kernel
theorem dX3_isLikely_19 : decode cX3_isLikely 19 = .ok (.iaload, 1) := by decide +kernel
theorem dX3_isLikely_20 : decode cX3_isLikely 20 = .ok (.i2l, 1) := by decide +kernel
theorem dX3_isLikely_21 : decode cX3_isLikely 21 = .ok (.ldc2_w 32, 3) := by decide +kernel
theorem dX3_isLikely_24 : decode cX3_isLikely 24 = .ok (.lmul, 1) := by decide +kernel
theorem dX3_isLikely_25 : decode cX3_isLikely 25 = .ok (.aload_n 0, 1) := by decide +kernel
theorem dX3_isLikely_26 : decode cX3_isLikely 26 = .ok (.getfield 21, 3) := by decide +kernel
theorem dX3_isLikely_29 : decode cX3_isLikely 29 = .ok (.iload_n 1, 1) := by decide +kernel
theorem dX3_isLikely_30 : decode cX3_isLikely 30 = .ok (.iaload, 1) := by decide +kernel
theorem dX3_isLikely_31 : decode cX3_isLikely 31 = .ok (.i2l, 1) := by decide +kernel
theorem dX3_isLikely_32 : decode cX3_isLikely 32 = .ok (.ldc2_w 34, 3) := by decide +kernel
theorem dX3_isLikely_35 : decode cX3_isLikely 35 = .ok (.lmul, 1) := by decide +kernel
theorem dX3_isLikely_36 : decode cX3_isLikely 36 = .ok (.lcmp, 1) := by decide +kernel
theorem dX3_isLikely_37 : decode cX3_isLikely 37 = .ok (.ifCond .lt 7, 3) := by decide +kernel
theorem dX3_isLikely_40 : decode cX3_isLikely 40 = .ok (.iconst 1, 1) := by decide +kernel
theorem dX3_isLikely_41 : decode cX3_isLikely 41 = .ok (.goto 4, 3) := by decide +kernel
theorem dX3_isLikely_44 : decode cX3_isLikely 44 = .ok (.iconst 0, 1) := by decide +kernel
theorem dX3_isLikely_45 : decode cX3_isLikely 45 = .ok (.ireturn, 1) := by decide +kernel
theorem dX3_barredWays_0 : decode cX3_barredWays 0 = .ok (.iconst 0, 1) := by decide +kernel
theorem dX3_barredWays_1 : decode cX3_barredWays 1 = .ok (.istore_n 2, 1) := by decide +kernel
theorem dX3_barredWays_2 : decode cX3_barredWays 2 = .ok (.iconst 0, 1) := by decide +kernel
theorem dX3_barredWays_3 : decode cX3_barredWays 3 = .ok (.istore_n 3, 1) := by decide +kernel
theorem dX3_barredWays_4 : decode cX3_barredWays 4 = .ok (.iload_n 3, 1) := by decide +kernel
theorem dX3_barredWays_5 : decode cX3_barredWays 5 = .ok (.aload_n 0, 1) := by decide +kernel
theorem dX3_barredWays_6 : decode cX3_barredWays 6 = .ok (.getfield 24, 3) := by decide +kernel
theorem dX3_barredWays_9 : decode cX3_barredWays 9 = .ok (.if_icmp .ge 48, 3) := by decide +kernel
theorem dX3_barredWays_12 : decode cX3_barredWays 12 = .ok (.aload_n 0, 1) := by decide +kernel
theorem dX3_barredWays_13 : decode cX3_barredWays 13 = .ok (.getfield 9, 3) := by decide +kernel
theorem dX3_barredWays_16 : decode cX3_barredWays 16 = .ok (.iload_n 3, 1) := by decide +kernel
theorem dX3_barredWays_17 : decode cX3_barredWays 17 = .ok (.iaload, 1) := by decide +kernel
theorem dX3_barredWays_18 : decode cX3_barredWays 18 = .ok (.ifCond .eq 22, 3) := by decide +kernel
theorem dX3_barredWays_21 : decode cX3_barredWays 21 = .ok (.aload_n 0, 1) := by decide +kernel
theorem dX3_barredWays_22 : decode cX3_barredWays 22 = .ok (.getfield 9, 3) := by decide +kernel
theorem dX3_barredWays_25 : decode cX3_barredWays 25 = .ok (.iload_n 3, 1) := by decide +kernel
theorem dX3_barredWays_26 : decode cX3_barredWays 26 = .ok (.iaload, 1) := by decide +kernel
theorem dX3_barredWays_27 : decode cX3_barredWays 27 = .ok (.iconst 1, 1) := by decide +kernel
theorem dX3_barredWays_28 : decode cX3_barredWays 28 = .ok (.if_icmp .ne 23, 3) := by decide +kernel
theorem dX3_barredWays_31 : decode cX3_barredWays 31 = .ok (.aload_n 0, 1) := by decide +kernel
theorem dX3_barredWays_32 : decode cX3_barredWays 32 = .ok (.iload_n 3, 1) := by decide +kernel
theorem dX3_barredWays_33 : decode cX3_barredWays 33 = .ok (.aload_n 1, 1) := by decide +kernel
theorem dX3_barredWays_34 : decode cX3_barredWays 34 = .ok (.invokevirtual 28, 3) := by decide +kernel
theorem dX3_barredWays_37 : decode cX3_barredWays 37 = .ok (.ifCond .eq 14, 3) := by decide +kernel
theorem dX3_barredWays_40 : decode cX3_barredWays 40 = .ok (.iload_n 2, 1) := by decide +kernel
theorem dX3_barredWays_41 : decode cX3_barredWays 41 = .ok (.iconst 1, 1) := by decide +kernel
theorem dX3_barredWays_42 : decode cX3_barredWays 42 = .ok (.aload_n 0, 1) := by decide +kernel
theorem dX3_barredWays_43 : decode cX3_barredWays 43 = .ok (.getfield 15, 3) := by decide +kernel
theorem dX3_barredWays_46 : decode cX3_barredWays 46 = .ok (.iload_n 3, 1) := by decide +kernel
theorem dX3_barredWays_47 : decode cX3_barredWays 47 = .ok (.iaload, 1) := by decide +kernel
theorem dX3_barredWays_48 : decode cX3_barredWays 48 = .ok (.ishl, 1) := by decide +kernel
theorem dX3_barredWays_49 : decode cX3_barredWays 49 = .ok (.ior, 1) := by decide +kernel
theorem dX3_barredWays_50 : decode cX3_barredWays 50 = .ok (.istore_n 2, 1) := by decide +kernel
theorem dX3_barredWays_51 : decode cX3_barredWays 51 = .ok (.iinc 3 1, 3) := by decide +kernel
theorem dX3_barredWays_54 : decode cX3_barredWays 54 = .ok (.goto (-50), 3) := by decide +kernel
theorem dX3_barredWays_57 : decode cX3_barredWays 57 = .ok (.iload_n 2, 1) := by decide +kernel
theorem dX3_barredWays_58 : decode cX3_barredWays 58 = .ok (.ireturn, 1) := by decide +kernel
theorem dX1_open_0 : decode cX1_open 0 = .ok (.aload_n 1, 1) := by decide +kernel
theorem dX1_open_1 : decode cX1_open 1 = .ok (.invokevirtual 7, 3) := by decide +kernel
theorem dX1_open_4 : decode cX1_open 4 = .ok (.istore 5, 2) := by decide +kernel
theorem dX1_open_6 : decode cX1_open 6 = .ok (.aload_n 1, 1) := by decide +kernel
theorem dX1_open_7 : decode cX1_open 7 = .ok (.iload_n 3, 1) := by decide +kernel
theorem dX1_open_8 : decode cX1_open 8 = .ok (.invokevirtual 13, 3) := by decide +kernel
theorem dX1_open_11 : decode cX1_open 11 = .ok (.istore 6, 2) := by decide +kernel
theorem dX1_open_13 : decode cX1_open 13 = .ok (.aload_n 0, 1) := by decide +kernel
theorem dX1_open_14 : decode cX1_open 14 = .ok (.aload_n 1, 1) := by decide +kernel
theorem dX1_open_15 : decode cX1_open 15 = .ok (.aload 4, 2) := by decide +kernel
theorem dX1_open_17 : decode cX1_open 17 = .ok (.invokevirtual 17, 3) := by decide +kernel
theorem dX1_open_20 : decode cX1_open 20 = .ok (.putfield 21, 3) := by decide +kernel
theorem dX1_open_23 : decode cX1_open 23 = .ok (.aload_n 0, 1) := by decide +kernel
theorem dX1_open_24 : decode cX1_open 24 = .ok (.iconst 0, 1) := by decide +kernel
theorem dX1_open_25 : decode cX1_open 25 = .ok (.putfield 27, 3) := by decide +kernel
theorem dX1_open_28 : decode cX1_open 28 = .ok (.aload_n 0, 1) := by decide +kernel
theorem dX1_open_29 : decode cX1_open 29 = .ok (.iconst 0, 1) := by decide +kernel
theorem dX1_open_30 : decode cX1_open 30 = .ok (.putfield 30, 3) := by decide +kernel
theorem dX1_open_33 : decode cX1_open 33 = .ok (.iconst 0, 1) := by decide +kernel
theorem dX1_open_34 : decode cX1_open 34 = .ok (.istore 7, 2) := by decide +kernel
theorem dX1_open_36 : decode cX1_open 36 = .ok (.iload 7, 2) := by decide +kernel
theorem dX1_open_38 : decode cX1_open 38 = .ok (.aload_n 2, 1) := by decide +kernel
theorem dX1_open_39 : decode cX1_open 39 = .ok (.getfield 33, 3) := by decide +kernel
theorem dX1_open_42 : decode cX1_open 42 = .ok (.if_icmp .ge 74, 3) := by decide +kernel
theorem dX1_open_45 : decode cX1_open 45 = .ok (.iload 5, 2) := by decide +kernel
theorem dX1_open_47 : decode cX1_open 47 = .ok (.aload_n 2, 1) := by decide +kernel
theorem dX1_open_48 : decode cX1_open 48 = .ok (.getfield 38, 3) := by decide +kernel
theorem dX1_open_51 : decode cX1_open 51 = .ok (.iload 7, 2) := by decide +kernel
theorem dX1_open_53 : decode cX1_open 53 = .ok (.aaload, 1) := by decide +kernel
theorem dX1_open_54 : decode cX1_open 54 = .ok (.getfield 42, 3) := by decide +kernel
theorem dX1_open_57 : decode cX1_open 57 = .ok (.invokestatic 47, 3) := by decide +kernel
theorem dX1_open_60 : decode cX1_open 60 = .ok (.ifCond .eq 19, 3) := by decide +kernel
theorem dX1_open_63 : decode cX1_open 63 = .ok (.aload_n 0, 1) := by decide +kernel
theorem dX1_open_64 : decode cX1_open 64 = .ok (.dup, 1) := by decide +kernel
theorem dX1_open_65 : decode cX1_open 65 = .ok (.getfield 27, 3) := by decide +kernel
theorem dX1_open_68 : decode cX1_open 68 = .ok (.iconst 1, 1) := by decide +kernel
theorem dX1_open_69 : decode cX1_open 69 = .ok (.iload 7, 2) := by decide +kernel
theorem dX1_open_71 : decode cX1_open 71 = .ok (.ishl, 1) := by decide +kernel
theorem dX1_open_72 : decode cX1_open 72 = .ok (.ior, 1) := by decide +kernel
theorem dX1_open_73 : decode cX1_open 73 = .ok (.putfield 27, 3) := by decide +kernel
theorem dX1_open_76 : decode cX1_open 76 = .ok (.goto 34, 3) := by decide +kernel
theorem dX1_open_79 : decode cX1_open 79 = .ok (.iload 6, 2) := by decide +kernel
theorem dX1_open_81 : decode cX1_open 81 = .ok (.aload_n 2, 1) := by decide +kernel
theorem dX1_open_82 : decode cX1_open 82 = .ok (.getfield 38, 3) := by decide +kernel
theorem dX1_open_85 : decode cX1_open 85 = .ok (.iload 7, 2) := by decide +kernel
theorem dX1_open_87 : decode cX1_open 87 = .ok (.aaload, 1) := by decide +kernel
theorem dX1_open_88 : decode cX1_open 88 = .ok (.getfield 53, 3) := by decide +kernel
theorem dX1_open_91 : decode cX1_open 91 = .ok (.invokestatic 47, 3) := by decide +kernel
theorem dX1_open_94 : decode cX1_open 94 = .ok (.ifCond .eq 16, 3) := by decide +kernel
theorem dX1_open_97 : decode cX1_open 97 = .ok (.aload_n 0, 1) := by decide +kernel
theorem dX1_open_98 : decode cX1_open 98 = .ok (.dup, 1) := by decide +kernel
theorem dX1_open_99 : decode cX1_open 99 = .ok (.getfield 30, 3) := by decide +kernel
theorem dX1_open_102 : decode cX1_open 102 = .ok (.iconst 1, 1) := by decide +kernel
theorem dX1_open_103 : decode cX1_open 103 = .ok (.iload 7, 2) := by decide +kernel
theorem dX1_open_105 : decode cX1_open 105 = .ok (.ishl, 1) := by decide +kernel
theorem dX1_open_106 : decode cX1_open 106 = .ok (.ior, 1) := by decide +kernel
theorem dX1_open_107 : decode cX1_open 107 = .ok (.putfield 30, 3) := by decide +kernel
theorem dX1_open_110 : decode cX1_open 110 = .ok (.iinc 7 1, 3) := by decide +kernel
theorem dX1_open_113 : decode cX1_open 113 = .ok (.goto (-77), 3) := by decide +kernel
theorem dX1_open_116 : decode cX1_open 116 = .ok (.return_, 1) := by decide +kernel
theorem dX1_isAlways_0 : decode cX1_isAlways 0 = .ok (.iload_n 1, 1) := by decide +kernel
theorem dX1_isAlways_1 : decode cX1_isAlways 1 = .ok (.aload_n 0, 1) := by decide +kernel
theorem dX1_isAlways_2 : decode cX1_isAlways 2 = .ok (.getfield 27, 3) := by decide +kernel
theorem dX1_isAlways_5 : decode cX1_isAlways 5 = .ok (.iconst (-1), 1) := by decide +kernel
theorem dX1_isAlways_6 : decode cX1_isAlways 6 = .ok (.ixor, 1) := by decide +kernel
theorem dX1_isAlways_7 : decode cX1_isAlways 7 = .ok (.iand, 1) := by decide +kernel
theorem dX1_isAlways_8 : decode cX1_isAlways 8 = .ok (.ifCond .ne 7, 3) := by decide +kernel
theorem dX1_isAlways_11 : decode cX1_isAlways 11 = .ok (.iconst 1, 1) := by decide +kernel
theorem dX1_isAlways_12 : decode cX1_isAlways 12 = .ok (.goto 4, 3) := by decide +kernel
theorem dX1_isAlways_15 : decode cX1_isAlways 15 = .ok (.iconst 0, 1) := by decide +kernel
theorem dX1_isAlways_16 : decode cX1_isAlways 16 = .ok (.ireturn, 1) := by decide +kernel
theorem dX1_bar_0 : decode cX1_bar 0 = .ok (.aload_n 0, 1) := by decide +kernel
theorem dX1_bar_1 : decode cX1_bar 1 = .ok (.iload_n 1, 1) := by decide +kernel
theorem dX1_bar_2 : decode cX1_bar 2 = .ok (.invokevirtual 56, 3) := by decide +kernel
theorem dX1_bar_5 : decode cX1_bar 5 = .ok (.istore 4, 2) := by decide +kernel
theorem dX1_bar_7 : decode cX1_bar 7 = .ok (.iload 4, 2) := by decide +kernel
theorem dX1_bar_9 : decode cX1_bar 9 = .ok (.ifCond .ne 16, 3) := by decide +kernel
theorem dX1_bar_12 : decode cX1_bar 12 = .ok (.aload_n 0, 1) := by decide +kernel
theorem dX1_bar_13 : decode cX1_bar 13 = .ok (.getfield 21, 3) := by decide +kernel
theorem dX1_bar_16 : decode cX1_bar 16 = .ok (.iload_n 2, 1) := by decide +kernel
theorem dX1_bar_17 : decode cX1_bar 17 = .ok (.invokestatic 47, 3) := by decide +kernel
theorem dX1_bar_20 : decode cX1_bar 20 = .ok (.ifCond .eq 5, 3) := by decide +kernel
theorem dX1_bar_23 : decode cX1_bar 23 = .ok (.iconst 1, 1) := by decide +kernel
theorem dX1_bar_24 : decode cX1_bar 24 = .ok (.ireturn, 1) := by decide +kernel
theorem dX1_bar_25 : decode cX1_bar 25 = .ok (.iload_n 1, 1) := by decide +kernel
theorem dX1_bar_26 : decode cX1_bar 26 = .ok (.aload_n 0, 1) := by decide +kernel
theorem dX1_bar_27 : decode cX1_bar 27 = .ok (.getfield 30, 3) := by decide +kernel
theorem dX1_bar_30 : decode cX1_bar 30 = .ok (.iand, 1) := by decide +kernel
theorem dX1_bar_31 : decode cX1_bar 31 = .ok (.ifCond .eq 5, 3) := by decide +kernel
theorem dX1_bar_34 : decode cX1_bar 34 = .ok (.iconst 2, 1) := by decide +kernel
theorem dX1_bar_35 : decode cX1_bar 35 = .ok (.ireturn, 1) := by decide +kernel
theorem dX1_bar_36 : decode cX1_bar 36 = .ok (.iload 4, 2) := by decide +kernel
theorem dX1_bar_38 : decode cX1_bar 38 = .ok (.ifCond .ne 11, 3) := by decide +kernel
theorem dX1_bar_41 : decode cX1_bar 41 = .ok (.iload_n 3, 1) := by decide +kernel
theorem dX1_bar_42 : decode cX1_bar 42 = .ok (.ifCond .eq 7, 3) := by decide +kernel
theorem dX1_bar_45 : decode cX1_bar 45 = .ok (.iconst 3, 1) := by decide +kernel
theorem dX1_bar_46 : decode cX1_bar 46 = .ok (.goto 4, 3) := by decide +kernel
theorem dX1_bar_49 : decode cX1_bar 49 = .ok (.iconst 0, 1) := by decide +kernel
theorem dX1_bar_50 : decode cX1_bar 50 = .ok (.ireturn, 1) := by decide +kernel
theorem dX2_init_0 : decode cX2_init 0 = .ok (.aload_n 0, 1) := by decide +kernel
theorem dX2_init_1 : decode cX2_init 1 = .ok (.invokespecial 3, 3) := by decide +kernel
theorem dX2_init_4 : decode cX2_init 4 = .ok (.aload_n 0, 1) := by decide +kernel
theorem dX2_init_5 : decode cX2_init 5 = .ok (.iconst (-1), 1) := by decide +kernel
theorem dX2_init_6 : decode cX2_init 6 = .ok (.putfield 9, 3) := by decide +kernel
theorem dX2_init_9 : decode cX2_init 9 = .ok (.aload_n 0, 1) := by decide +kernel
theorem dX2_init_10 : decode cX2_init 10 = .ok (.sipush 160, 3) := by decide +kernel
theorem dX2_init_13 : decode cX2_init 13 = .ok (.newarray .int, 2) := by decide +kernel
theorem dX2_init_15 : decode cX2_init 15 = .ok (.putfield 15, 3) := by decide +kernel
theorem dX2_init_18 : decode cX2_init 18 = .ok (.return_, 1) := by decide +kernel
theorem dX2_append_0 : decode cX2_append 0 = .ok (.aload_n 0, 1) := by decide +kernel
theorem dX2_append_1 : decode cX2_append 1 = .ok (.getfield 19, 3) := by decide +kernel
theorem dX2_append_4 : decode cX2_append 4 = .ok (.sipush 160, 3) := by decide +kernel
theorem dX2_append_7 : decode cX2_append 7 = .ok (.if_icmp .ge 23, 3) := by decide +kernel
theorem dX2_append_10 : decode cX2_append 10 = .ok (.aload_n 0, 1) := by decide +kernel
theorem dX2_append_11 : decode cX2_append 11 = .ok (.getfield 15, 3) := by decide +kernel
theorem dX2_append_14 : decode cX2_append 14 = .ok (.aload_n 0, 1) := by decide +kernel
theorem dX2_append_15 : decode cX2_append 15 = .ok (.getfield 19, 3) := by decide +kernel
theorem dX2_append_18 : decode cX2_append 18 = .ok (.iload_n 1, 1) := by decide +kernel
theorem dX2_append_19 : decode cX2_append 19 = .ok (.iastore, 1) := by decide +kernel
theorem dX2_append_20 : decode cX2_append 20 = .ok (.aload_n 0, 1) := by decide +kernel
theorem dX2_append_21 : decode cX2_append 21 = .ok (.dup, 1) := by decide +kernel
theorem dX2_append_22 : decode cX2_append 22 = .ok (.getfield 19, 3) := by decide +kernel
theorem dX2_append_25 : decode cX2_append 25 = .ok (.iconst 1, 1) := by decide +kernel
theorem dX2_append_26 : decode cX2_append 26 = .ok (.iadd, 1) := by decide +kernel
theorem dX2_append_27 : decode cX2_append 27 = .ok (.putfield 19, 3) := by decide +kernel
theorem dX2_append_30 : decode cX2_append 30 = .ok (.return_, 1) := by decide +kernel
theorem dX2_skipBlanks_0 : decode cX2_skipBlanks 0 = .ok (.aload_n 0, 1) := by decide +kernel
theorem dX2_skipBlanks_1 : decode cX2_skipBlanks 1 = .ok (.getfield 22, 3) := by decide +kernel
theorem dX2_skipBlanks_4 : decode cX2_skipBlanks 4 = .ok (.aload_n 0, 1) := by decide +kernel
theorem dX2_skipBlanks_5 : decode cX2_skipBlanks 5 = .ok (.getfield 19, 3) := by decide +kernel
theorem dX2_skipBlanks_8 : decode cX2_skipBlanks 8 = .ok (.if_icmp .ge 30, 3) := by decide +kernel
theorem dX2_skipBlanks_11 : decode cX2_skipBlanks 11 = .ok (.aload_n 0, 1) := by decide +kernel
theorem dX2_skipBlanks_12 : decode cX2_skipBlanks 12 = .ok (.getfield 15, 3) := by decide +kernel
theorem dX2_skipBlanks_15 : decode cX2_skipBlanks 15 = .ok (.aload_n 0, 1) := by decide +kernel
theorem dX2_skipBlanks_16 : decode cX2_skipBlanks 16 = .ok (.getfield 22, 3) := by decide +kernel
theorem dX2_skipBlanks_19 : decode cX2_skipBlanks 19 = .ok (.iaload, 1) := by decide +kernel
theorem dX2_skipBlanks_20 : decode cX2_skipBlanks 20 = .ok (.bipush 32, 2) := by decide +kernel
theorem dX2_skipBlanks_22 : decode cX2_skipBlanks 22 = .ok (.if_icmp .ne 16, 3) := by decide +kernel
theorem dX2_skipBlanks_25 : decode cX2_skipBlanks 25 = .ok (.aload_n 0, 1) := by decide +kernel
theorem dX2_skipBlanks_26 : decode cX2_skipBlanks 26 = .ok (.dup, 1) := by decide +kernel
theorem dX2_skipBlanks_27 : decode cX2_skipBlanks 27 = .ok (.getfield 22, 3) := by decide +kernel
theorem dX2_skipBlanks_30 : decode cX2_skipBlanks 30 = .ok (.iconst 1, 1) := by decide +kernel
theorem dX2_skipBlanks_31 : decode cX2_skipBlanks 31 = .ok (.iadd, 1) := by decide +kernel
theorem dX2_skipBlanks_32 : decode cX2_skipBlanks 32 = .ok (.putfield 22, 3) := by decide +kernel
theorem dX2_skipBlanks_35 : decode cX2_skipBlanks 35 = .ok (.goto (-35), 3) := by decide +kernel
theorem dX2_skipBlanks_38 : decode cX2_skipBlanks 38 = .ok (.return_, 1) := by decide +kernel
theorem dX2_takeWord_0 : decode cX2_takeWord 0 = .ok (.aload_n 0, 1) := by decide +kernel
theorem dX2_takeWord_1 : decode cX2_takeWord 1 = .ok (.getfield 25, 3) := by decide +kernel
theorem dX2_takeWord_4 : decode cX2_takeWord 4 = .ok (.ifCond .eq 5, 3) := by decide +kernel
theorem dX2_takeWord_7 : decode cX2_takeWord 7 = .ok (.iconst 0, 1) := by decide +kernel
theorem dX2_takeWord_8 : decode cX2_takeWord 8 = .ok (.ireturn, 1) := by decide +kernel
theorem dX2_takeWord_9 : decode cX2_takeWord 9 = .ok (.aload_n 0, 1) := by decide +kernel
theorem dX2_takeWord_10 : decode cX2_takeWord 10 = .ok (.invokevirtual 33, 3) := by decide +kernel
theorem dX2_takeWord_13 : decode cX2_takeWord 13 = .ok (.aload_n 0, 1) := by decide +kernel
theorem dX2_takeWord_14 : decode cX2_takeWord 14 = .ok (.getfield 22, 3) := by decide +kernel
theorem dX2_takeWord_17 : decode cX2_takeWord 17 = .ok (.istore_n 2, 1) := by decide +kernel
theorem dX2_takeWord_18 : decode cX2_takeWord 18 = .ok (.iload_n 2, 1) := by decide +kernel
theorem dX2_takeWord_19 : decode cX2_takeWord 19 = .ok (.aload_n 0, 1) := by decide +kernel
theorem dX2_takeWord_20 : decode cX2_takeWord 20 = .ok (.getfield 19, 3) := by decide +kernel
theorem dX2_takeWord_23 : decode cX2_takeWord 23 = .ok (.if_icmp .ge 31, 3) := by decide +kernel
theorem dX2_takeWord_26 : decode cX2_takeWord 26 = .ok (.aload_n 0, 1) := by decide +kernel
theorem dX2_takeWord_27 : decode cX2_takeWord 27 = .ok (.getfield 15, 3) := by decide +kernel
theorem dX2_takeWord_30 : decode cX2_takeWord 30 = .ok (.iload_n 2, 1) := by decide +kernel
theorem dX2_takeWord_31 : decode cX2_takeWord 31 = .ok (.iaload, 1) := by decide +kernel
theorem dX2_takeWord_32 : decode cX2_takeWord 32 = .ok (.bipush 97, 2) := by decide +kernel
theorem dX2_takeWord_34 : decode cX2_takeWord 34 = .ok (.if_icmp .lt 20, 3) := by decide +kernel
theorem dX2_takeWord_37 : decode cX2_takeWord 37 = .ok (.aload_n 0, 1) := by decide +kernel
theorem dX2_takeWord_38 : decode cX2_takeWord 38 = .ok (.getfield 15, 3) := by decide +kernel
theorem dX2_takeWord_41 : decode cX2_takeWord 41 = .ok (.iload_n 2, 1) := by decide +kernel
theorem dX2_takeWord_42 : decode cX2_takeWord 42 = .ok (.iaload, 1) := by decide +kernel
theorem dX2_takeWord_43 : decode cX2_takeWord 43 = .ok (.bipush 122, 2) := by decide +kernel
theorem dX2_takeWord_45 : decode cX2_takeWord 45 = .ok (.if_icmp .gt 9, 3) := by decide +kernel
theorem dX2_takeWord_48 : decode cX2_takeWord 48 = .ok (.iinc 2 1, 3) := by decide +kernel
theorem dX2_takeWord_51 : decode cX2_takeWord 51 = .ok (.goto (-33), 3) := by decide +kernel
theorem dX2_takeWord_54 : decode cX2_takeWord 54 = .ok (.iload_n 2, 1) := by decide +kernel
theorem dX2_takeWord_55 : decode cX2_takeWord 55 = .ok (.aload_n 0, 1) := by decide +kernel
theorem dX2_takeWord_56 : decode cX2_takeWord 56 = .ok (.getfield 22, 3) := by decide +kernel
theorem dX2_takeWord_59 : decode cX2_takeWord 59 = .ok (.isub, 1) := by decide +kernel
theorem dX2_takeWord_60 : decode cX2_takeWord 60 = .ok (.aload_n 1, 1) := by decide +kernel
theorem dX2_takeWord_61 : decode cX2_takeWord 61 = .ok (.invokevirtual 89, 3) := by decide +kernel
theorem dX2_takeWord_64 : decode cX2_takeWord 64 = .ok (.if_icmp .eq 5, 3) := by decide +kernel
theorem dX2_takeWord_67 : decode cX2_takeWord 67 = .ok (.iconst 0, 1) := by decide +kernel
theorem dX2_takeWord_68 : decode cX2_takeWord 68 = .ok (.ireturn, 1) := by decide +kernel
theorem dX2_takeWord_69 : decode cX2_takeWord 69 = .ok (.iconst 0, 1) := by decide +kernel
theorem dX2_takeWord_70 : decode cX2_takeWord 70 = .ok (.istore_n 3, 1) := by decide +kernel
theorem dX2_takeWord_71 : decode cX2_takeWord 71 = .ok (.iload_n 3, 1) := by decide +kernel
theorem dX2_takeWord_72 : decode cX2_takeWord 72 = .ok (.aload_n 1, 1) := by decide +kernel
theorem dX2_takeWord_73 : decode cX2_takeWord 73 = .ok (.invokevirtual 89, 3) := by decide +kernel
theorem dX2_takeWord_76 : decode cX2_takeWord 76 = .ok (.if_icmp .ge 30, 3) := by decide +kernel
theorem dX2_takeWord_79 : decode cX2_takeWord 79 = .ok (.aload_n 0, 1) := by decide +kernel
theorem dX2_takeWord_80 : decode cX2_takeWord 80 = .ok (.getfield 15, 3) := by decide +kernel
theorem dX2_takeWord_83 : decode cX2_takeWord 83 = .ok (.aload_n 0, 1) := by decide +kernel
theorem dX2_takeWord_84 : decode cX2_takeWord 84 = .ok (.getfield 22, 3) := by decide +kernel
theorem dX2_takeWord_87 : decode cX2_takeWord 87 = .ok (.iload_n 3, 1) := by decide +kernel
theorem dX2_takeWord_88 : decode cX2_takeWord 88 = .ok (.iadd, 1) := by decide +kernel
theorem dX2_takeWord_89 : decode cX2_takeWord 89 = .ok (.iaload, 1) := by decide +kernel
theorem dX2_takeWord_90 : decode cX2_takeWord 90 = .ok (.aload_n 1, 1) := by decide +kernel
theorem dX2_takeWord_91 : decode cX2_takeWord 91 = .ok (.iload_n 3, 1) := by decide +kernel
theorem dX2_takeWord_92 : decode cX2_takeWord 92 = .ok (.invokevirtual 94, 3) := by decide +kernel
theorem dX2_takeWord_95 : decode cX2_takeWord 95 = .ok (.if_icmp .eq 5, 3) := by decide +kernel
theorem dX2_takeWord_98 : decode cX2_takeWord 98 = .ok (.iconst 0, 1) := by decide +kernel
theorem dX2_takeWord_99 : decode cX2_takeWord 99 = .ok (.ireturn, 1) := by decide +kernel
theorem dX2_takeWord_100 : decode cX2_takeWord 100 = .ok (.iinc 3 1, 3) := by decide +kernel
theorem dX2_takeWord_103 : decode cX2_takeWord 103 = .ok (.goto (-32), 3) := by decide +kernel
theorem dX2_takeWord_106 : decode cX2_takeWord 106 = .ok (.aload_n 0, 1) := by decide +kernel
theorem dX2_takeWord_107 : decode cX2_takeWord 107 = .ok (.iload_n 2, 1) := by decide +kernel
theorem dX2_takeWord_108 : decode cX2_takeWord 108 = .ok (.putfield 22, 3) := by decide +kernel
theorem dX2_takeWord_111 : decode cX2_takeWord 111 = .ok (.iconst 1, 1) := by decide +kernel
theorem dX2_takeWord_112 : decode cX2_takeWord 112 = .ok (.ireturn, 1) := by decide +kernel
theorem dX2_note_0 : decode cX2_note 0 = .ok (.aload_n 0, 1) := by decide +kernel
theorem dX2_note_1 : decode cX2_note 1 = .ok (.getfield 25, 3) := by decide +kernel
theorem dX2_note_4 : decode cX2_note 4 = .ok (.ifCond .ne 13, 3) := by decide +kernel
theorem dX2_note_7 : decode cX2_note 7 = .ok (.aload_n 0, 1) := by decide +kernel
theorem dX2_note_8 : decode cX2_note 8 = .ok (.iload_n 1, 1) := by decide +kernel
theorem dX2_note_9 : decode cX2_note 9 = .ok (.putfield 25, 3) := by decide +kernel
theorem dX2_note_12 : decode cX2_note 12 = .ok (.aload_n 0, 1) := by decide +kernel
theorem dX2_note_13 : decode cX2_note 13 = .ok (.iload_n 2, 1) := by decide +kernel
theorem dX2_note_14 : decode cX2_note 14 = .ok (.putfield 9, 3) := by decide +kernel
theorem dX2_note_17 : decode cX2_note 17 = .ok (.return_, 1) := by decide +kernel
theorem dX2_refuseNinth_0 : decode cX2_refuseNinth 0 = .ok (.aload_n 1, 1) := by decide +kernel
theorem dX2_refuseNinth_1 : decode cX2_refuseNinth 1 = .ok (.getfield 28, 3) := by decide +kernel
theorem dX2_refuseNinth_4 : decode cX2_refuseNinth 4 = .ok (.bipush 8, 2) := by decide +kernel
theorem dX2_refuseNinth_6 : decode cX2_refuseNinth 6 = .ok (.if_icmp .lt 9, 3) := by decide +kernel
theorem dX2_refuseNinth_9 : decode cX2_refuseNinth 9 = .ok (.aload_n 0, 1) := by decide +kernel
theorem dX2_refuseNinth_10 : decode cX2_refuseNinth 10 = .ok (.iconst 3, 1) := by decide +kernel
theorem dX2_refuseNinth_11 : decode cX2_refuseNinth 11 = .ok (.iload_n 2, 1) := by decide +kernel
theorem dX2_refuseNinth_12 : decode cX2_refuseNinth 12 = .ok (.invokevirtual 73, 3) := by decide +kernel
theorem dX2_refuseNinth_15 : decode cX2_refuseNinth 15 = .ok (.return_, 1) := by decide +kernel
theorem dX10_within_0 : decode cX10_within 0 = .ok (.iload_n 0, 1) := by decide +kernel
theorem dX10_within_1 : decode cX10_within 1 = .ok (.iload_n 1, 1) := by decide +kernel
theorem dX10_within_2 : decode cX10_within 2 = .ok (.if_icmp .lt 12, 3) := by decide +kernel
theorem dX10_within_5 : decode cX10_within 5 = .ok (.iload_n 0, 1) := by decide +kernel
theorem dX10_within_6 : decode cX10_within 6 = .ok (.iload_n 2, 1) := by decide +kernel
theorem dX10_within_7 : decode cX10_within 7 = .ok (.if_icmp .gt 7, 3) := by decide +kernel
theorem dX10_within_10 : decode cX10_within 10 = .ok (.iconst 1, 1) := by decide +kernel
theorem dX10_within_11 : decode cX10_within 11 = .ok (.goto 4, 3) := by decide +kernel
theorem dX10_within_14 : decode cX10_within 14 = .ok (.iconst 0, 1) := by decide +kernel
theorem dX10_within_15 : decode cX10_within 15 = .ok (.ireturn, 1) := by decide +kernel
theorem dX2_takeNumber_0 : decode cX2_takeNumber 0 = .ok (.aload_n 0, 1) := by decide +kernel
theorem dX2_takeNumber_1 : decode cX2_takeNumber 1 = .ok (.getfield 25, 3) := by decide +kernel
theorem dX2_takeNumber_4 : decode cX2_takeNumber 4 = .ok (.ifCond .eq 5, 3) := by decide +kernel
theorem dX2_takeNumber_7 : decode cX2_takeNumber 7 = .ok (.iconst 0, 1) := by decide +kernel
theorem dX2_takeNumber_8 : decode cX2_takeNumber 8 = .ok (.ireturn, 1) := by decide +kernel
theorem dX2_takeNumber_9 : decode cX2_takeNumber 9 = .ok (.aload_n 0, 1) := by decide +kernel
theorem dX2_takeNumber_10 : decode cX2_takeNumber 10 = .ok (.invokevirtual 33, 3) := by decide +kernel
theorem dX2_takeNumber_13 : decode cX2_takeNumber 13 = .ok (.aload_n 0, 1) := by decide +kernel
theorem dX2_takeNumber_14 : decode cX2_takeNumber 14 = .ok (.getfield 22, 3) := by decide +kernel
theorem dX2_takeNumber_17 : decode cX2_takeNumber 17 = .ok (.istore_n 3, 1) := by decide +kernel
theorem dX2_takeNumber_18 : decode cX2_takeNumber 18 = .ok (.iconst 0, 1) := by decide +kernel
theorem dX2_takeNumber_19 : decode cX2_takeNumber 19 = .ok (.istore 4, 2) := by decide +kernel
theorem dX2_takeNumber_21 : decode cX2_takeNumber 21 = .ok (.aload_n 0, 1) := by decide +kernel
theorem dX2_takeNumber_22 : decode cX2_takeNumber 22 = .ok (.getfield 22, 3) := by decide +kernel
theorem dX2_takeNumber_25 : decode cX2_takeNumber 25 = .ok (.aload_n 0, 1) := by decide +kernel
theorem dX2_takeNumber_26 : decode cX2_takeNumber 26 = .ok (.getfield 19, 3) := by decide +kernel
theorem dX2_takeNumber_29 : decode cX2_takeNumber 29 = .ok (.if_icmp .ge 74, 3) := by decide +kernel
theorem dX2_takeNumber_32 : decode cX2_takeNumber 32 = .ok (.aload_n 0, 1) := by decide +kernel
theorem dX2_takeNumber_33 : decode cX2_takeNumber 33 = .ok (.getfield 15, 3) := by decide +kernel
theorem dX2_takeNumber_36 : decode cX2_takeNumber 36 = .ok (.aload_n 0, 1) := by decide +kernel
theorem dX2_takeNumber_37 : decode cX2_takeNumber 37 = .ok (.getfield 22, 3) := by decide +kernel
theorem dX2_takeNumber_40 : decode cX2_takeNumber 40 = .ok (.iaload, 1) := by decide +kernel
theorem dX2_takeNumber_41 : decode cX2_takeNumber 41 = .ok (.bipush 48, 2) := by decide +kernel
theorem dX2_takeNumber_43 : decode cX2_takeNumber 43 = .ok (.if_icmp .lt 60, 3) := by decide +kernel
theorem dX2_takeNumber_46 : decode cX2_takeNumber 46 = .ok (.aload_n 0, 1) := by decide +kernel
theorem dX2_takeNumber_47 : decode cX2_takeNumber 47 = .ok (.getfield 15, 3) := by decide +kernel
theorem dX2_takeNumber_50 : decode cX2_takeNumber 50 = .ok (.aload_n 0, 1) := by decide +kernel
theorem dX2_takeNumber_51 : decode cX2_takeNumber 51 = .ok (.getfield 22, 3) := by decide +kernel
theorem dX2_takeNumber_54 : decode cX2_takeNumber 54 = .ok (.iaload, 1) := by decide +kernel
theorem dX2_takeNumber_55 : decode cX2_takeNumber 55 = .ok (.bipush 57, 2) := by decide +kernel
theorem dX2_takeNumber_57 : decode cX2_takeNumber 57 = .ok (.if_icmp .gt 46, 3) := by decide +kernel
theorem dX2_takeNumber_60 : decode cX2_takeNumber 60 = .ok (.aload_n 0, 1) := by decide +kernel
theorem dX2_takeNumber_61 : decode cX2_takeNumber 61 = .ok (.getfield 22, 3) := by decide +kernel
theorem dX2_takeNumber_64 : decode cX2_takeNumber 64 = .ok (.iload_n 3, 1) := by decide +kernel
theorem dX2_takeNumber_65 : decode cX2_takeNumber 65 = .ok (.isub, 1) := by decide +kernel
theorem dX2_takeNumber_66 : decode cX2_takeNumber 66 = .ok (.iconst 3, 1) := by decide +kernel
theorem dX2_takeNumber_67 : decode cX2_takeNumber 67 = .ok (.if_icmp .ge 23, 3) := by decide +kernel
theorem dX2_takeNumber_70 : decode cX2_takeNumber 70 = .ok (.iload 4, 2) := by decide +kernel
theorem dX2_takeNumber_72 : decode cX2_takeNumber 72 = .ok (.bipush 10, 2) := by decide +kernel
theorem dX2_takeNumber_74 : decode cX2_takeNumber 74 = .ok (.imul, 1) := by decide +kernel
theorem dX2_takeNumber_75 : decode cX2_takeNumber 75 = .ok (.aload_n 0, 1) := by decide +kernel
theorem dX2_takeNumber_76 : decode cX2_takeNumber 76 = .ok (.getfield 15, 3) := by decide +kernel
theorem dX2_takeNumber_79 : decode cX2_takeNumber 79 = .ok (.aload_n 0, 1) := by decide +kernel
theorem dX2_takeNumber_80 : decode cX2_takeNumber 80 = .ok (.getfield 22, 3) := by decide +kernel
theorem dX2_takeNumber_83 : decode cX2_takeNumber 83 = .ok (.iaload, 1) := by decide +kernel
theorem dX2_takeNumber_84 : decode cX2_takeNumber 84 = .ok (.iadd, 1) := by decide +kernel
theorem dX2_takeNumber_85 : decode cX2_takeNumber 85 = .ok (.bipush 48, 2) := by decide +kernel
theorem dX2_takeNumber_87 : decode cX2_takeNumber 87 = .ok (.isub, 1) := by decide +kernel
theorem dX2_takeNumber_88 : decode cX2_takeNumber 88 = .ok (.istore 4, 2) := by decide +kernel
theorem dX2_takeNumber_90 : decode cX2_takeNumber 90 = .ok (.aload_n 0, 1) := by decide +kernel
theorem dX2_takeNumber_91 : decode cX2_takeNumber 91 = .ok (.dup, 1) := by decide +kernel
theorem dX2_takeNumber_92 : decode cX2_takeNumber 92 = .ok (.getfield 22, 3) := by decide +kernel
theorem dX2_takeNumber_95 : decode cX2_takeNumber 95 = .ok (.iconst 1, 1) := by decide +kernel
theorem dX2_takeNumber_96 : decode cX2_takeNumber 96 = .ok (.iadd, 1) := by decide +kernel
theorem dX2_takeNumber_97 : decode cX2_takeNumber 97 = .ok (.putfield 22, 3) := by decide +kernel
theorem dX2_takeNumber_100 : decode cX2_takeNumber 100 = .ok (.goto (-79), 3) := by decide +kernel
theorem dX2_takeNumber_103 : decode cX2_takeNumber 103 = .ok (.aload_n 0, 1) := by decide +kernel
theorem dX2_takeNumber_104 : decode cX2_takeNumber 104 = .ok (.getfield 22, 3) := by decide +kernel
theorem dX2_takeNumber_107 : decode cX2_takeNumber 107 = .ok (.iload_n 3, 1) := by decide +kernel
theorem dX2_takeNumber_108 : decode cX2_takeNumber 108 = .ok (.if_icmp .ne 12, 3) := by decide +kernel
theorem dX2_takeNumber_111 : decode cX2_takeNumber 111 = .ok (.aload_n 0, 1) := by decide +kernel
theorem dX2_takeNumber_112 : decode cX2_takeNumber 112 = .ok (.iconst 1, 1) := by decide +kernel
theorem dX2_takeNumber_113 : decode cX2_takeNumber 113 = .ok (.iload_n 3, 1) := by decide +kernel
theorem dX2_takeNumber_114 : decode cX2_takeNumber 114 = .ok (.invokevirtual 73, 3) := by decide +kernel
theorem dX2_takeNumber_117 : decode cX2_takeNumber 117 = .ok (.goto 29, 3) := by decide +kernel
theorem dX2_takeNumber_120 : decode cX2_takeNumber 120 = .ok (.aload_n 0, 1) := by decide +kernel
theorem dX2_takeNumber_121 : decode cX2_takeNumber 121 = .ok (.getfield 22, 3) := by decide +kernel
theorem dX2_takeNumber_124 : decode cX2_takeNumber 124 = .ok (.iload_n 3, 1) := by decide +kernel
theorem dX2_takeNumber_125 : decode cX2_takeNumber 125 = .ok (.isub, 1) := by decide +kernel
theorem dX2_takeNumber_126 : decode cX2_takeNumber 126 = .ok (.iconst 3, 1) := by decide +kernel
theorem dX2_takeNumber_127 : decode cX2_takeNumber 127 = .ok (.if_icmp .gt 13, 3) := by decide +kernel
theorem dX2_takeNumber_130 : decode cX2_takeNumber 130 = .ok (.iload 4, 2) := by decide +kernel
theorem dX2_takeNumber_132 : decode cX2_takeNumber 132 = .ok (.iload_n 1, 1) := by decide +kernel
theorem dX2_takeNumber_133 : decode cX2_takeNumber 133 = .ok (.iload_n 2, 1) := by decide +kernel
theorem dX2_takeNumber_134 : decode cX2_takeNumber 134 = .ok (.invokestatic 98, 3) := by decide +kernel
theorem dX2_takeNumber_137 : decode cX2_takeNumber 137 = .ok (.ifCond .ne 9, 3) := by decide +kernel
theorem dX2_takeNumber_140 : decode cX2_takeNumber 140 = .ok (.aload_n 0, 1) := by decide +kernel
theorem dX2_takeNumber_141 : decode cX2_takeNumber 141 = .ok (.iconst 2, 1) := by decide +kernel
theorem dX2_takeNumber_142 : decode cX2_takeNumber 142 = .ok (.iload_n 3, 1) := by decide +kernel
theorem dX2_takeNumber_143 : decode cX2_takeNumber 143 = .ok (.invokevirtual 73, 3) := by decide +kernel
theorem dX2_takeNumber_146 : decode cX2_takeNumber 146 = .ok (.iload 4, 2) := by decide +kernel
theorem dX2_takeNumber_148 : decode cX2_takeNumber 148 = .ok (.ireturn, 1) := by decide +kernel
theorem dX3_add_0 : decode cX3_add 0 = .ok (.aload_n 0, 1) := by decide +kernel
theorem dX3_add_1 : decode cX3_add 1 = .ok (.getfield 24, 3) := by decide +kernel
theorem dX3_add_4 : decode cX3_add 4 = .ok (.bipush 8, 2) := by decide +kernel
theorem dX3_add_6 : decode cX3_add 6 = .ok (.if_icmp .ge 54, 3) := by decide +kernel
theorem dX3_add_9 : decode cX3_add 9 = .ok (.aload_n 0, 1) := by decide +kernel
theorem dX3_add_10 : decode cX3_add 10 = .ok (.getfield 9, 3) := by decide +kernel
theorem dX3_add_13 : decode cX3_add 13 = .ok (.aload_n 0, 1) := by decide +kernel
theorem dX3_add_14 : decode cX3_add 14 = .ok (.getfield 24, 3) := by decide +kernel
theorem dX3_add_17 : decode cX3_add 17 = .ok (.iload_n 1, 1) := by decide +kernel
theorem dX3_add_18 : decode cX3_add 18 = .ok (.iastore, 1) := by decide +kernel
theorem dX3_add_19 : decode cX3_add 19 = .ok (.aload_n 0, 1) := by decide +kernel
theorem dX3_add_20 : decode cX3_add 20 = .ok (.getfield 15, 3) := by decide +kernel
theorem dX3_add_23 : decode cX3_add 23 = .ok (.aload_n 0, 1) := by decide +kernel
theorem dX3_add_24 : decode cX3_add 24 = .ok (.getfield 24, 3) := by decide +kernel
theorem dX3_add_27 : decode cX3_add 27 = .ok (.iload_n 2, 1) := by decide +kernel
theorem dX3_add_28 : decode cX3_add 28 = .ok (.iastore, 1) := by decide +kernel
theorem dX3_add_29 : decode cX3_add 29 = .ok (.aload_n 0, 1) := by decide +kernel
theorem dX3_add_30 : decode cX3_add 30 = .ok (.getfield 18, 3) := by decide +kernel
theorem dX3_add_33 : decode cX3_add 33 = .ok (.aload_n 0, 1) := by decide +kernel
theorem dX3_add_34 : decode cX3_add 34 = .ok (.getfield 24, 3) := by decide +kernel
theorem dX3_add_37 : decode cX3_add 37 = .ok (.iload_n 3, 1) := by decide +kernel
theorem dX3_add_38 : decode cX3_add 38 = .ok (.iastore, 1) := by decide +kernel
theorem dX3_add_39 : decode cX3_add 39 = .ok (.aload_n 0, 1) := by decide +kernel
theorem dX3_add_40 : decode cX3_add 40 = .ok (.getfield 21, 3) := by decide +kernel
theorem dX3_add_43 : decode cX3_add 43 = .ok (.aload_n 0, 1) := by decide +kernel
theorem dX3_add_44 : decode cX3_add 44 = .ok (.getfield 24, 3) := by decide +kernel
theorem dX3_add_47 : decode cX3_add 47 = .ok (.iload 4, 2) := by decide +kernel
theorem dX3_add_49 : decode cX3_add 49 = .ok (.iastore, 1) := by decide +kernel
theorem dX3_add_50 : decode cX3_add 50 = .ok (.aload_n 0, 1) := by decide +kernel
theorem dX3_add_51 : decode cX3_add 51 = .ok (.dup, 1) := by decide +kernel
theorem dX3_add_52 : decode cX3_add 52 = .ok (.getfield 24, 3) := by decide +kernel
theorem dX3_add_55 : decode cX3_add 55 = .ok (.iconst 1, 1) := by decide +kernel
theorem dX3_add_56 : decode cX3_add 56 = .ok (.iadd, 1) := by decide +kernel
theorem dX3_add_57 : decode cX3_add 57 = .ok (.putfield 24, 3) := by decide +kernel
theorem dX3_add_60 : decode cX3_add 60 = .ok (.return_, 1) := by decide +kernel
theorem dX2_finish_0 : decode cX2_finish 0 = .ok (.aload_n 0, 1) := by decide +kernel
theorem dX2_finish_1 : decode cX2_finish 1 = .ok (.invokevirtual 33, 3) := by decide +kernel
theorem dX2_finish_4 : decode cX2_finish 4 = .ok (.aload_n 0, 1) := by decide +kernel
theorem dX2_finish_5 : decode cX2_finish 5 = .ok (.getfield 22, 3) := by decide +kernel
theorem dX2_finish_8 : decode cX2_finish 8 = .ok (.aload_n 0, 1) := by decide +kernel
theorem dX2_finish_9 : decode cX2_finish 9 = .ok (.getfield 19, 3) := by decide +kernel
theorem dX2_finish_12 : decode cX2_finish 12 = .ok (.if_icmp .ge 17, 3) := by decide +kernel
theorem dX2_finish_15 : decode cX2_finish 15 = .ok (.aload_n 0, 1) := by decide +kernel
theorem dX2_finish_16 : decode cX2_finish 16 = .ok (.getfield 15, 3) := by decide +kernel
theorem dX2_finish_19 : decode cX2_finish 19 = .ok (.aload_n 0, 1) := by decide +kernel
theorem dX2_finish_20 : decode cX2_finish 20 = .ok (.getfield 22, 3) := by decide +kernel
theorem dX2_finish_23 : decode cX2_finish 23 = .ok (.iaload, 1) := by decide +kernel
theorem dX2_finish_24 : decode cX2_finish 24 = .ok (.bipush 59, 2) := by decide +kernel
theorem dX2_finish_26 : decode cX2_finish 26 = .ok (.if_icmp .eq 12, 3) := by decide +kernel
theorem dX2_finish_29 : decode cX2_finish 29 = .ok (.aload_n 0, 1) := by decide +kernel
theorem dX2_finish_30 : decode cX2_finish 30 = .ok (.iconst 1, 1) := by decide +kernel
theorem dX2_finish_31 : decode cX2_finish 31 = .ok (.aload_n 0, 1) := by decide +kernel
theorem dX2_finish_32 : decode cX2_finish 32 = .ok (.getfield 22, 3) := by decide +kernel
theorem dX2_finish_35 : decode cX2_finish 35 = .ok (.invokevirtual 73, 3) := by decide +kernel
theorem dX2_finish_38 : decode cX2_finish 38 = .ok (.aload_n 0, 1) := by decide +kernel
theorem dX2_finish_39 : decode cX2_finish 39 = .ok (.getfield 25, 3) := by decide +kernel
theorem dX2_finish_42 : decode cX2_finish 42 = .ok (.ifCond .ne 23, 3) := by decide +kernel
theorem dX2_finish_45 : decode cX2_finish 45 = .ok (.aload_n 0, 1) := by decide +kernel
theorem dX2_finish_46 : decode cX2_finish 46 = .ok (.dup, 1) := by decide +kernel
theorem dX2_finish_47 : decode cX2_finish 47 = .ok (.getfield 22, 3) := by decide +kernel
theorem dX2_finish_50 : decode cX2_finish 50 = .ok (.iconst 1, 1) := by decide +kernel
theorem dX2_finish_51 : decode cX2_finish 51 = .ok (.iadd, 1) := by decide +kernel
theorem dX2_finish_52 : decode cX2_finish 52 = .ok (.putfield 22, 3) := by decide +kernel
theorem dX2_finish_55 : decode cX2_finish 55 = .ok (.aload_n 1, 1) := by decide +kernel
theorem dX2_finish_56 : decode cX2_finish 56 = .ok (.iload_n 2, 1) := by decide +kernel
theorem dX2_finish_57 : decode cX2_finish 57 = .ok (.iload_n 3, 1) := by decide +kernel
theorem dX2_finish_58 : decode cX2_finish 58 = .ok (.iload 4, 2) := by decide +kernel
theorem dX2_finish_60 : decode cX2_finish 60 = .ok (.iload 5, 2) := by decide +kernel
theorem dX2_finish_62 : decode cX2_finish 62 = .ok (.invokevirtual 85, 3) := by decide +kernel
theorem dX2_finish_65 : decode cX2_finish 65 = .ok (.return_, 1) := by decide +kernel
theorem dX2_needWord_0 : decode cX2_needWord 0 = .ok (.aload_n 0, 1) := by decide +kernel
theorem dX2_needWord_1 : decode cX2_needWord 1 = .ok (.aload_n 1, 1) := by decide +kernel
theorem dX2_needWord_2 : decode cX2_needWord 2 = .ok (.invokevirtual 42, 3) := by decide +kernel
theorem dX2_needWord_5 : decode cX2_needWord 5 = .ok (.ifCond .ne 12, 3) := by decide +kernel
theorem dX2_needWord_8 : decode cX2_needWord 8 = .ok (.aload_n 0, 1) := by decide +kernel
theorem dX2_needWord_9 : decode cX2_needWord 9 = .ok (.iconst 1, 1) := by decide +kernel
theorem dX2_needWord_10 : decode cX2_needWord 10 = .ok (.aload_n 0, 1) := by decide +kernel
theorem dX2_needWord_11 : decode cX2_needWord 11 = .ok (.getfield 22, 3) := by decide +kernel
theorem dX2_needWord_14 : decode cX2_needWord 14 = .ok (.invokevirtual 73, 3) := by decide +kernel
theorem dX2_needWord_17 : decode cX2_needWord 17 = .ok (.return_, 1) := by decide +kernel
theorem dX2_readNever_0 : decode cX2_readNever 0 = .ok (.aload_n 0, 1) := by decide +kernel
theorem dX2_readNever_1 : decode cX2_readNever 1 = .ok (.ldc 77, 2) := by decide +kernel
theorem dX2_readNever_3 : decode cX2_readNever 3 = .ok (.invokevirtual 42, 3) := by decide +kernel
theorem dX2_readNever_6 : decode cX2_readNever 6 = .ok (.ifCond .eq 60, 3) := by decide +kernel
theorem dX2_readNever_9 : decode cX2_readNever 9 = .ok (.aload_n 0, 1) := by decide +kernel
theorem dX2_readNever_10 : decode cX2_readNever 10 = .ok (.iconst 0, 1) := by decide +kernel
theorem dX2_readNever_11 : decode cX2_readNever 11 = .ok (.iconst 3, 1) := by decide +kernel
theorem dX2_readNever_12 : decode cX2_readNever 12 = .ok (.invokevirtual 55, 3) := by decide +kernel
theorem dX2_readNever_15 : decode cX2_readNever 15 = .ok (.istore_n 2, 1) := by decide +kernel
theorem dX2_readNever_16 : decode cX2_readNever 16 = .ok (.aload_n 0, 1) := by decide +kernel
theorem dX2_readNever_17 : decode cX2_readNever 17 = .ok (.ldc 79, 2) := by decide +kernel
theorem dX2_readNever_19 : decode cX2_readNever 19 = .ok (.invokevirtual 42, 3) := by decide +kernel
theorem dX2_readNever_22 : decode cX2_readNever 22 = .ok (.ifCond .eq 32, 3) := by decide +kernel
theorem dX2_readNever_25 : decode cX2_readNever 25 = .ok (.aload_n 0, 1) := by decide +kernel
theorem dX2_readNever_26 : decode cX2_readNever 26 = .ok (.iconst 0, 1) := by decide +kernel
theorem dX2_readNever_27 : decode cX2_readNever 27 = .ok (.iconst 3, 1) := by decide +kernel
theorem dX2_readNever_28 : decode cX2_readNever 28 = .ok (.invokevirtual 55, 3) := by decide +kernel
theorem dX2_readNever_31 : decode cX2_readNever 31 = .ok (.istore_n 3, 1) := by decide +kernel
theorem dX2_readNever_32 : decode cX2_readNever 32 = .ok (.aload_n 0, 1) := by decide +kernel
theorem dX2_readNever_33 : decode cX2_readNever 33 = .ok (.iconst 0, 1) := by decide +kernel
theorem dX2_readNever_34 : decode cX2_readNever 34 = .ok (.bipush 100, 2) := by decide +kernel
theorem dX2_readNever_36 : decode cX2_readNever 36 = .ok (.invokevirtual 55, 3) := by decide +kernel
theorem dX2_readNever_39 : decode cX2_readNever 39 = .ok (.istore 4, 2) := by decide +kernel
theorem dX2_readNever_41 : decode cX2_readNever 41 = .ok (.aload_n 0, 1) := by decide +kernel
theorem dX2_readNever_42 : decode cX2_readNever 42 = .ok (.aload_n 1, 1) := by decide +kernel
theorem dX2_readNever_43 : decode cX2_readNever 43 = .ok (.iconst 1, 1) := by decide +kernel
theorem dX2_readNever_44 : decode cX2_readNever 44 = .ok (.iload_n 2, 1) := by decide +kernel
theorem dX2_readNever_45 : decode cX2_readNever 45 = .ok (.iload_n 3, 1) := by decide +kernel
theorem dX2_readNever_46 : decode cX2_readNever 46 = .ok (.iload 4, 2) := by decide +kernel
theorem dX2_readNever_48 : decode cX2_readNever 48 = .ok (.invokevirtual 65, 3) := by decide +kernel
theorem dX2_readNever_51 : decode cX2_readNever 51 = .ok (.goto 12, 3) := by decide +kernel
theorem dX2_readNever_54 : decode cX2_readNever 54 = .ok (.aload_n 0, 1) := by decide +kernel
theorem dX2_readNever_55 : decode cX2_readNever 55 = .ok (.aload_n 1, 1) := by decide +kernel
theorem dX2_readNever_56 : decode cX2_readNever 56 = .ok (.iconst 0, 1) := by decide +kernel
theorem dX2_readNever_57 : decode cX2_readNever 57 = .ok (.iload_n 2, 1) := by decide +kernel
theorem dX2_readNever_58 : decode cX2_readNever 58 = .ok (.iconst 0, 1) := by decide +kernel
theorem dX2_readNever_59 : decode cX2_readNever 59 = .ok (.iconst 0, 1) := by decide +kernel
theorem dX2_readNever_60 : decode cX2_readNever 60 = .ok (.invokevirtual 65, 3) := by decide +kernel
theorem dX2_readNever_63 : decode cX2_readNever 63 = .ok (.goto 39, 3) := by decide +kernel
theorem dX2_readNever_66 : decode cX2_readNever 66 = .ok (.aload_n 0, 1) := by decide +kernel
theorem dX2_readNever_67 : decode cX2_readNever 67 = .ok (.ldc 81, 2) := by decide +kernel
theorem dX2_readNever_69 : decode cX2_readNever 69 = .ok (.invokevirtual 61, 3) := by decide +kernel
theorem dX2_readNever_72 : decode cX2_readNever 72 = .ok (.aload_n 0, 1) := by decide +kernel
theorem dX2_readNever_73 : decode cX2_readNever 73 = .ok (.iconst 0, 1) := by decide +kernel
theorem dX2_readNever_74 : decode cX2_readNever 74 = .ok (.iconst 3, 1) := by decide +kernel
theorem dX2_readNever_75 : decode cX2_readNever 75 = .ok (.invokevirtual 55, 3) := by decide +kernel
theorem dX2_readNever_78 : decode cX2_readNever 78 = .ok (.istore_n 2, 1) := by decide +kernel
theorem dX2_readNever_79 : decode cX2_readNever 79 = .ok (.aload_n 0, 1) := by decide +kernel
theorem dX2_readNever_80 : decode cX2_readNever 80 = .ok (.ldc 83, 2) := by decide +kernel
theorem dX2_readNever_82 : decode cX2_readNever 82 = .ok (.invokevirtual 61, 3) := by decide +kernel
theorem dX2_readNever_85 : decode cX2_readNever 85 = .ok (.aload_n 0, 1) := by decide +kernel
theorem dX2_readNever_86 : decode cX2_readNever 86 = .ok (.iconst 0, 1) := by decide +kernel
theorem dX2_readNever_87 : decode cX2_readNever 87 = .ok (.bipush 60, 2) := by decide +kernel
theorem dX2_readNever_89 : decode cX2_readNever 89 = .ok (.invokevirtual 55, 3) := by decide +kernel
theorem dX2_readNever_92 : decode cX2_readNever 92 = .ok (.istore_n 3, 1) := by decide +kernel
theorem dX2_readNever_93 : decode cX2_readNever 93 = .ok (.aload_n 0, 1) := by decide +kernel
theorem dX2_readNever_94 : decode cX2_readNever 94 = .ok (.aload_n 1, 1) := by decide +kernel
theorem dX2_readNever_95 : decode cX2_readNever 95 = .ok (.iconst 2, 1) := by decide +kernel
theorem dX2_readNever_96 : decode cX2_readNever 96 = .ok (.iload_n 2, 1) := by decide +kernel
theorem dX2_readNever_97 : decode cX2_readNever 97 = .ok (.iload_n 3, 1) := by decide +kernel
theorem dX2_readNever_98 : decode cX2_readNever 98 = .ok (.iconst 0, 1) := by decide +kernel
theorem dX2_readNever_99 : decode cX2_readNever 99 = .ok (.invokevirtual 65, 3) := by decide +kernel
theorem dX2_readNever_102 : decode cX2_readNever 102 = .ok (.return_, 1) := by decide +kernel
theorem dX2_readClause_0 : decode cX2_readClause 0 = .ok (.aload_n 0, 1) := by decide +kernel
theorem dX2_readClause_1 : decode cX2_readClause 1 = .ok (.getfield 22, 3) := by decide +kernel
theorem dX2_readClause_4 : decode cX2_readClause 4 = .ok (.istore_n 2, 1) := by decide +kernel
theorem dX2_readClause_5 : decode cX2_readClause 5 = .ok (.aload_n 0, 1) := by decide +kernel
theorem dX2_readClause_6 : decode cX2_readClause 6 = .ok (.ldc 40, 2) := by decide +kernel
theorem dX2_readClause_8 : decode cX2_readClause 8 = .ok (.invokevirtual 42, 3) := by decide +kernel
theorem dX2_readClause_11 : decode cX2_readClause 11 = .ok (.ifCond .eq 17, 3) := by decide +kernel
theorem dX2_readClause_14 : decode cX2_readClause 14 = .ok (.aload_n 0, 1) := by decide +kernel
theorem dX2_readClause_15 : decode cX2_readClause 15 = .ok (.aload_n 1, 1) := by decide +kernel
theorem dX2_readClause_16 : decode cX2_readClause 16 = .ok (.iload_n 2, 1) := by decide +kernel
theorem dX2_readClause_17 : decode cX2_readClause 17 = .ok (.invokevirtual 46, 3) := by decide +kernel
theorem dX2_readClause_20 : decode cX2_readClause 20 = .ok (.aload_n 0, 1) := by decide +kernel
theorem dX2_readClause_21 : decode cX2_readClause 21 = .ok (.aload_n 1, 1) := by decide +kernel
theorem dX2_readClause_22 : decode cX2_readClause 22 = .ok (.invokevirtual 50, 3) := by decide +kernel
theorem dX2_readClause_25 : decode cX2_readClause 25 = .ok (.goto 104, 3) := by decide +kernel
theorem dX2_readClause_28 : decode cX2_readClause 28 = .ok (.aload_n 0, 1) := by decide +kernel
theorem dX2_readClause_29 : decode cX2_readClause 29 = .ok (.ldc 53, 2) := by decide +kernel
theorem dX2_readClause_31 : decode cX2_readClause 31 = .ok (.invokevirtual 42, 3) := by decide +kernel
theorem dX2_readClause_34 : decode cX2_readClause 34 = .ok (.ifCond .eq 45, 3) := by decide +kernel
theorem dX2_readClause_37 : decode cX2_readClause 37 = .ok (.aload_n 0, 1) := by decide +kernel
theorem dX2_readClause_38 : decode cX2_readClause 38 = .ok (.aload_n 1, 1) := by decide +kernel
theorem dX2_readClause_39 : decode cX2_readClause 39 = .ok (.iload_n 2, 1) := by decide +kernel
theorem dX2_readClause_40 : decode cX2_readClause 40 = .ok (.invokevirtual 46, 3) := by decide +kernel
theorem dX2_readClause_43 : decode cX2_readClause 43 = .ok (.aload_n 0, 1) := by decide +kernel
theorem dX2_readClause_44 : decode cX2_readClause 44 = .ok (.iconst 0, 1) := by decide +kernel
theorem dX2_readClause_45 : decode cX2_readClause 45 = .ok (.bipush 9, 2) := by decide +kernel
theorem dX2_readClause_47 : decode cX2_readClause 47 = .ok (.invokevirtual 55, 3) := by decide +kernel
theorem dX2_readClause_50 : decode cX2_readClause 50 = .ok (.istore_n 3, 1) := by decide +kernel
theorem dX2_readClause_51 : decode cX2_readClause 51 = .ok (.aload_n 0, 1) := by decide +kernel
theorem dX2_readClause_52 : decode cX2_readClause 52 = .ok (.ldc 59, 2) := by decide +kernel
theorem dX2_readClause_54 : decode cX2_readClause 54 = .ok (.invokevirtual 61, 3) := by decide +kernel
theorem dX2_readClause_57 : decode cX2_readClause 57 = .ok (.aload_n 0, 1) := by decide +kernel
theorem dX2_readClause_58 : decode cX2_readClause 58 = .ok (.iconst 1, 1) := by decide +kernel
theorem dX2_readClause_59 : decode cX2_readClause 59 = .ok (.bipush 60, 2) := by decide +kernel
theorem dX2_readClause_61 : decode cX2_readClause 61 = .ok (.invokevirtual 55, 3) := by decide +kernel
theorem dX2_readClause_64 : decode cX2_readClause 64 = .ok (.istore 4, 2) := by decide +kernel
theorem dX2_readClause_66 : decode cX2_readClause 66 = .ok (.aload_n 0, 1) := by decide +kernel
theorem dX2_readClause_67 : decode cX2_readClause 67 = .ok (.aload_n 1, 1) := by decide +kernel
theorem dX2_readClause_68 : decode cX2_readClause 68 = .ok (.iconst 3, 1) := by decide +kernel
theorem dX2_readClause_69 : decode cX2_readClause 69 = .ok (.iload_n 3, 1) := by decide +kernel
theorem dX2_readClause_70 : decode cX2_readClause 70 = .ok (.iload 4, 2) := by decide +kernel
theorem dX2_readClause_72 : decode cX2_readClause 72 = .ok (.iconst 0, 1) := by decide +kernel
theorem dX2_readClause_73 : decode cX2_readClause 73 = .ok (.invokevirtual 65, 3) := by decide +kernel
theorem dX2_readClause_76 : decode cX2_readClause 76 = .ok (.goto 53, 3) := by decide +kernel
theorem dX2_readClause_79 : decode cX2_readClause 79 = .ok (.aload_n 0, 1) := by decide +kernel
theorem dX2_readClause_80 : decode cX2_readClause 80 = .ok (.ldc 69, 2) := by decide +kernel
theorem dX2_readClause_82 : decode cX2_readClause 82 = .ok (.invokevirtual 42, 3) := by decide +kernel
theorem dX2_readClause_85 : decode cX2_readClause 85 = .ok (.ifCond .eq 35, 3) := by decide +kernel
theorem dX2_readClause_88 : decode cX2_readClause 88 = .ok (.aload_n 0, 1) := by decide +kernel
theorem dX2_readClause_89 : decode cX2_readClause 89 = .ok (.aload_n 1, 1) := by decide +kernel
theorem dX2_readClause_90 : decode cX2_readClause 90 = .ok (.iload_n 2, 1) := by decide +kernel
theorem dX2_readClause_91 : decode cX2_readClause 91 = .ok (.invokevirtual 46, 3) := by decide +kernel
theorem dX2_readClause_94 : decode cX2_readClause 94 = .ok (.aload_n 0, 1) := by decide +kernel
theorem dX2_readClause_95 : decode cX2_readClause 95 = .ok (.ldc 71, 2) := by decide +kernel
theorem dX2_readClause_97 : decode cX2_readClause 97 = .ok (.invokevirtual 61, 3) := by decide +kernel
theorem dX2_readClause_100 : decode cX2_readClause 100 = .ok (.aload_n 0, 1) := by decide +kernel
theorem dX2_readClause_101 : decode cX2_readClause 101 = .ok (.iconst 0, 1) := by decide +kernel
theorem dX2_readClause_102 : decode cX2_readClause 102 = .ok (.bipush 9, 2) := by decide +kernel
theorem dX2_readClause_104 : decode cX2_readClause 104 = .ok (.invokevirtual 55, 3) := by decide +kernel
theorem dX2_readClause_107 : decode cX2_readClause 107 = .ok (.istore_n 3, 1) := by decide +kernel
theorem dX2_readClause_108 : decode cX2_readClause 108 = .ok (.aload_n 0, 1) := by decide +kernel
theorem dX2_readClause_109 : decode cX2_readClause 109 = .ok (.aload_n 1, 1) := by decide +kernel
theorem dX2_readClause_110 : decode cX2_readClause 110 = .ok (.iconst 4, 1) := by decide +kernel
theorem dX2_readClause_111 : decode cX2_readClause 111 = .ok (.iload_n 3, 1) := by decide +kernel
theorem dX2_readClause_112 : decode cX2_readClause 112 = .ok (.iconst 0, 1) := by decide +kernel
theorem dX2_readClause_113 : decode cX2_readClause 113 = .ok (.iconst 0, 1) := by decide +kernel
theorem dX2_readClause_114 : decode cX2_readClause 114 = .ok (.invokevirtual 65, 3) := by decide +kernel
theorem dX2_readClause_117 : decode cX2_readClause 117 = .ok (.goto 12, 3) := by decide +kernel
theorem dX2_readClause_120 : decode cX2_readClause 120 = .ok (.aload_n 0, 1) := by decide +kernel
theorem dX2_readClause_121 : decode cX2_readClause 121 = .ok (.iconst 1, 1) := by decide +kernel
theorem dX2_readClause_122 : decode cX2_readClause 122 = .ok (.aload_n 0, 1) := by decide +kernel
theorem dX2_readClause_123 : decode cX2_readClause 123 = .ok (.getfield 22, 3) := by decide +kernel
theorem dX2_readClause_126 : decode cX2_readClause 126 = .ok (.invokevirtual 73, 3) := by decide +kernel
theorem dX2_readClause_129 : decode cX2_readClause 129 = .ok (.return_, 1) := by decide +kernel
theorem dX2_parse_0 : decode cX2_parse 0 = .ok (.aload_n 0, 1) := by decide +kernel
theorem dX2_parse_1 : decode cX2_parse 1 = .ok (.iconst 0, 1) := by decide +kernel
theorem dX2_parse_2 : decode cX2_parse 2 = .ok (.putfield 22, 3) := by decide +kernel
theorem dX2_parse_5 : decode cX2_parse 5 = .ok (.aload_n 0, 1) := by decide +kernel
theorem dX2_parse_6 : decode cX2_parse 6 = .ok (.iconst 0, 1) := by decide +kernel
theorem dX2_parse_7 : decode cX2_parse 7 = .ok (.putfield 25, 3) := by decide +kernel
theorem dX2_parse_10 : decode cX2_parse 10 = .ok (.aload_n 0, 1) := by decide +kernel
theorem dX2_parse_11 : decode cX2_parse 11 = .ok (.iconst (-1), 1) := by decide +kernel
theorem dX2_parse_12 : decode cX2_parse 12 = .ok (.putfield 9, 3) := by decide +kernel
theorem dX2_parse_15 : decode cX2_parse 15 = .ok (.aload_n 1, 1) := by decide +kernel
theorem dX2_parse_16 : decode cX2_parse 16 = .ok (.iconst 0, 1) := by decide +kernel
theorem dX2_parse_17 : decode cX2_parse 17 = .ok (.putfield 28, 3) := by decide +kernel
theorem dX2_parse_20 : decode cX2_parse 20 = .ok (.aload_n 0, 1) := by decide +kernel
theorem dX2_parse_21 : decode cX2_parse 21 = .ok (.invokevirtual 33, 3) := by decide +kernel
theorem dX2_parse_24 : decode cX2_parse 24 = .ok (.iconst 0, 1) := by decide +kernel
theorem dX2_parse_25 : decode cX2_parse 25 = .ok (.istore_n 2, 1) := by decide +kernel
theorem dX2_parse_26 : decode cX2_parse 26 = .ok (.iload_n 2, 1) := by decide +kernel
theorem dX2_parse_27 : decode cX2_parse 27 = .ok (.sipush 160, 3) := by decide +kernel
theorem dX2_parse_30 : decode cX2_parse 30 = .ok (.if_icmp .ge 36, 3) := by decide +kernel
theorem dX2_parse_33 : decode cX2_parse 33 = .ok (.aload_n 0, 1) := by decide +kernel
theorem dX2_parse_34 : decode cX2_parse 34 = .ok (.getfield 22, 3) := by decide +kernel
theorem dX2_parse_37 : decode cX2_parse 37 = .ok (.aload_n 0, 1) := by decide +kernel
theorem dX2_parse_38 : decode cX2_parse 38 = .ok (.getfield 19, 3) := by decide +kernel
theorem dX2_parse_41 : decode cX2_parse 41 = .ok (.if_icmp .ge 25, 3) := by decide +kernel
theorem dX2_parse_44 : decode cX2_parse 44 = .ok (.aload_n 0, 1) := by decide +kernel
theorem dX2_parse_45 : decode cX2_parse 45 = .ok (.getfield 25, 3) := by decide +kernel
theorem dX2_parse_48 : decode cX2_parse 48 = .ok (.ifCond .ne 18, 3) := by decide +kernel
theorem dX2_parse_51 : decode cX2_parse 51 = .ok (.aload_n 0, 1) := by decide +kernel
theorem dX2_parse_52 : decode cX2_parse 52 = .ok (.aload_n 1, 1) := by decide +kernel
theorem dX2_parse_53 : decode cX2_parse 53 = .ok (.invokevirtual 36, 3) := by decide +kernel
theorem dX2_parse_56 : decode cX2_parse 56 = .ok (.aload_n 0, 1) := by decide +kernel
theorem dX2_parse_57 : decode cX2_parse 57 = .ok (.invokevirtual 33, 3) := by decide +kernel
theorem dX2_parse_60 : decode cX2_parse 60 = .ok (.iinc 2 1, 3) := by decide +kernel
theorem dX2_parse_63 : decode cX2_parse 63 = .ok (.goto (-37), 3) := by decide +kernel
theorem dX2_parse_66 : decode cX2_parse 66 = .ok (.return_, 1) := by decide +kernel
theorem dX3_init_0 : decode cX3_init 0 = .ok (.aload_n 0, 1) := by decide +kernel
theorem dX3_init_1 : decode cX3_init 1 = .ok (.invokespecial 3, 3) := by decide +kernel
theorem dX3_init_4 : decode cX3_init 4 = .ok (.aload_n 0, 1) := by decide +kernel
theorem dX3_init_5 : decode cX3_init 5 = .ok (.bipush 8, 2) := by decide +kernel
theorem dX3_init_7 : decode cX3_init 7 = .ok (.newarray .int, 2) := by decide +kernel
theorem dX3_init_9 : decode cX3_init 9 = .ok (.putfield 9, 3) := by decide +kernel
theorem dX3_init_12 : decode cX3_init 12 = .ok (.aload_n 0, 1) := by decide +kernel
theorem dX3_init_13 : decode cX3_init 13 = .ok (.bipush 8, 2) := by decide +kernel
theorem dX3_init_15 : decode cX3_init 15 = .ok (.newarray .int, 2) := by decide +kernel
theorem dX3_init_17 : decode cX3_init 17 = .ok (.putfield 15, 3) := by decide +kernel
theorem dX3_init_20 : decode cX3_init 20 = .ok (.aload_n 0, 1) := by decide +kernel
theorem dX3_init_21 : decode cX3_init 21 = .ok (.bipush 8, 2) := by decide +kernel
theorem dX3_init_23 : decode cX3_init 23 = .ok (.newarray .int, 2) := by decide +kernel
theorem dX3_init_25 : decode cX3_init 25 = .ok (.putfield 18, 3) := by decide +kernel
theorem dX3_init_28 : decode cX3_init 28 = .ok (.aload_n 0, 1) := by decide +kernel
theorem dX3_init_29 : decode cX3_init 29 = .ok (.bipush 8, 2) := by decide +kernel
theorem dX3_init_31 : decode cX3_init 31 = .ok (.newarray .int, 2) := by decide +kernel
theorem dX3_init_33 : decode cX3_init 33 = .ok (.putfield 21, 3) := by decide +kernel
theorem dX3_init_36 : decode cX3_init 36 = .ok (.return_, 1) := by decide +kernel
theorem dX3_countsSayings_0 : decode cX3_countsSayings 0 = .ok (.iconst 0, 1) := by decide +kernel
theorem dX3_countsSayings_1 : decode cX3_countsSayings 1 = .ok (.istore_n 1, 1) := by decide +kernel
theorem dX3_countsSayings_2 : decode cX3_countsSayings 2 = .ok (.iload_n 1, 1) := by decide +kernel
theorem dX3_countsSayings_3 : decode cX3_countsSayings 3 = .ok (.aload_n 0, 1) := by decide +kernel
theorem dX3_countsSayings_4 : decode cX3_countsSayings 4 = .ok (.getfield 24, 3) := by decide +kernel
theorem dX3_countsSayings_7 : decode cX3_countsSayings 7 = .ok (.if_icmp .ge 21, 3) := by decide +kernel
theorem dX3_countsSayings_10 : decode cX3_countsSayings 10 = .ok (.aload_n 0, 1) := by decide +kernel
theorem dX3_countsSayings_11 : decode cX3_countsSayings 11 = .ok (.getfield 9, 3) := by decide +kernel
theorem dX3_countsSayings_14 : decode cX3_countsSayings 14 = .ok (.iload_n 1, 1) := by decide +kernel
theorem dX3_countsSayings_15 : decode cX3_countsSayings 15 = .ok (.iaload, 1) := by decide +kernel
theorem dX3_countsSayings_16 : decode cX3_countsSayings 16 = .ok (.iconst 3, 1) := by decide +kernel
theorem dX3_countsSayings_17 : decode cX3_countsSayings 17 = .ok (.if_icmp .ne 5, 3) := by decide +kernel
theorem dX3_countsSayings_20 : decode cX3_countsSayings 20 = .ok (.iconst 1, 1) := by decide +kernel
theorem dX3_countsSayings_21 : decode cX3_countsSayings 21 = .ok (.ireturn, 1) := by decide +kernel
theorem dX3_countsSayings_22 : decode cX3_countsSayings 22 = .ok (.iinc 1 1, 3) := by decide +kernel
theorem dX3_countsSayings_25 : decode cX3_countsSayings 25 = .ok (.goto (-23), 3) := by decide +kernel
theorem dX3_countsSayings_28 : decode cX3_countsSayings 28 = .ok (.iconst 0, 1) := by decide +kernel
theorem dX3_countsSayings_29 : decode cX3_countsSayings 29 = .ok (.ireturn, 1) := by decide +kernel
theorem dX3_saidWithin_0 : decode cX3_saidWithin 0 = .ok (.iconst 0, 1) := by decide +kernel
theorem dX3_saidWithin_1 : decode cX3_saidWithin 1 = .ok (.istore_n 3, 1) := by decide +kernel
theorem dX3_saidWithin_2 : decode cX3_saidWithin 2 = .ok (.iconst 0, 1) := by decide +kernel
theorem dX3_saidWithin_3 : decode cX3_saidWithin 3 = .ok (.iload_n 1, 1) := by decide +kernel
theorem dX3_saidWithin_4 : decode cX3_saidWithin 4 = .ok (.invokestatic 40, 3) := by decide +kernel
theorem dX3_saidWithin_7 : decode cX3_saidWithin 7 = .ok (.istore 4, 2) := by decide +kernel
theorem dX3_saidWithin_9 : decode cX3_saidWithin 9 = .ok (.iload 4, 2) := by decide +kernel
theorem dX3_saidWithin_11 : decode cX3_saidWithin 11 = .ok (.iload_n 2, 1) := by decide +kernel
theorem dX3_saidWithin_12 : decode cX3_saidWithin 12 = .ok (.if_icmp .gt 23, 3) := by decide +kernel
theorem dX3_saidWithin_15 : decode cX3_saidWithin 15 = .ok (.iload 4, 2) := by decide +kernel
theorem dX3_saidWithin_17 : decode cX3_saidWithin 17 = .ok (.aload_n 0, 1) := by decide +kernel
theorem dX3_saidWithin_18 : decode cX3_saidWithin 18 = .ok (.arraylength, 1) := by decide +kernel
theorem dX3_saidWithin_19 : decode cX3_saidWithin 19 = .ok (.if_icmp .ge 16, 3) := by decide +kernel
theorem dX3_saidWithin_22 : decode cX3_saidWithin 22 = .ok (.iload_n 3, 1) := by decide +kernel
theorem dX3_saidWithin_23 : decode cX3_saidWithin 23 = .ok (.aload_n 0, 1) := by decide +kernel
theorem dX3_saidWithin_24 : decode cX3_saidWithin 24 = .ok (.iload 4, 2) := by decide +kernel
theorem dX3_saidWithin_26 : decode cX3_saidWithin 26 = .ok (.iaload, 1) := by decide +kernel
theorem dX3_saidWithin_27 : decode cX3_saidWithin 27 = .ok (.iadd, 1) := by decide +kernel
theorem dX3_saidWithin_28 : decode cX3_saidWithin 28 = .ok (.istore_n 3, 1) := by decide +kernel
theorem dX3_saidWithin_29 : decode cX3_saidWithin 29 = .ok (.iinc 4 1, 3) := by decide +kernel
theorem dX3_saidWithin_32 : decode cX3_saidWithin 32 = .ok (.goto (-23), 3) := by decide +kernel
theorem dX3_saidWithin_35 : decode cX3_saidWithin 35 = .ok (.iload_n 3, 1) := by decide +kernel
theorem dX3_saidWithin_36 : decode cX3_saidWithin 36 = .ok (.ireturn, 1) := by decide +kernel
theorem dX3_mostBars_0 : decode cX3_mostBars 0 = .ok (.iconst 0, 1) := by decide +kernel
theorem dX3_mostBars_1 : decode cX3_mostBars 1 = .ok (.istore_n 3, 1) := by decide +kernel
theorem dX3_mostBars_2 : decode cX3_mostBars 2 = .ok (.iload_n 3, 1) := by decide +kernel
theorem dX3_mostBars_3 : decode cX3_mostBars 3 = .ok (.aload_n 0, 1) := by decide +kernel
theorem dX3_mostBars_4 : decode cX3_mostBars 4 = .ok (.getfield 24, 3) := by decide +kernel
theorem dX3_mostBars_7 : decode cX3_mostBars 7 = .ok (.if_icmp .ge 45, 3) := by decide +kernel
theorem dX3_mostBars_10 : decode cX3_mostBars 10 = .ok (.aload_n 0, 1) := by decide +kernel
theorem dX3_mostBars_11 : decode cX3_mostBars 11 = .ok (.getfield 9, 3) := by decide +kernel
theorem dX3_mostBars_14 : decode cX3_mostBars 14 = .ok (.iload_n 3, 1) := by decide +kernel
theorem dX3_mostBars_15 : decode cX3_mostBars 15 = .ok (.iaload, 1) := by decide +kernel
theorem dX3_mostBars_16 : decode cX3_mostBars 16 = .ok (.iconst 3, 1) := by decide +kernel
theorem dX3_mostBars_17 : decode cX3_mostBars 17 = .ok (.if_icmp .ne 29, 3) := by decide +kernel
theorem dX3_mostBars_20 : decode cX3_mostBars 20 = .ok (.aload_n 1, 1) := by decide +kernel
theorem dX3_mostBars_21 : decode cX3_mostBars 21 = .ok (.iload_n 2, 1) := by decide +kernel
theorem dX3_mostBars_22 : decode cX3_mostBars 22 = .ok (.aload_n 0, 1) := by decide +kernel
theorem dX3_mostBars_23 : decode cX3_mostBars 23 = .ok (.getfield 18, 3) := by decide +kernel
theorem dX3_mostBars_26 : decode cX3_mostBars 26 = .ok (.iload_n 3, 1) := by decide +kernel
theorem dX3_mostBars_27 : decode cX3_mostBars 27 = .ok (.iaload, 1) := by decide +kernel
theorem dX3_mostBars_28 : decode cX3_mostBars 28 = .ok (.isub, 1) := by decide +kernel
theorem dX3_mostBars_29 : decode cX3_mostBars 29 = .ok (.iconst 1, 1) := by decide +kernel
theorem dX3_mostBars_30 : decode cX3_mostBars 30 = .ok (.iadd, 1) := by decide +kernel
theorem dX3_mostBars_31 : decode cX3_mostBars 31 = .ok (.iload_n 2, 1) := by decide +kernel
theorem dX3_mostBars_32 : decode cX3_mostBars 32 = .ok (.invokestatic 36, 3) := by decide +kernel
theorem dX3_mostBars_35 : decode cX3_mostBars 35 = .ok (.aload_n 0, 1) := by decide +kernel
theorem dX3_mostBars_36 : decode cX3_mostBars 36 = .ok (.getfield 15, 3) := by decide +kernel
theorem dX3_mostBars_39 : decode cX3_mostBars 39 = .ok (.iload_n 3, 1) := by decide +kernel
theorem dX3_mostBars_40 : decode cX3_mostBars 40 = .ok (.iaload, 1) := by decide +kernel
theorem dX3_mostBars_41 : decode cX3_mostBars 41 = .ok (.if_icmp .lt 5, 3) := by decide +kernel
theorem dX3_mostBars_44 : decode cX3_mostBars 44 = .ok (.iconst 1, 1) := by decide +kernel
theorem dX3_mostBars_45 : decode cX3_mostBars 45 = .ok (.ireturn, 1) := by decide +kernel
theorem dX3_mostBars_46 : decode cX3_mostBars 46 = .ok (.iinc 3 1, 3) := by decide +kernel
theorem dX3_mostBars_49 : decode cX3_mostBars 49 = .ok (.goto (-47), 3) := by decide +kernel
theorem dX3_mostBars_52 : decode cX3_mostBars 52 = .ok (.iconst 0, 1) := by decide +kernel
theorem dX3_mostBars_53 : decode cX3_mostBars 53 = .ok (.ireturn, 1) := by decide +kernel
theorem dX4_init_0 : decode cX4_init 0 = .ok (.aload_n 0, 1) := by decide +kernel
theorem dX4_init_1 : decode cX4_init 1 = .ok (.invokespecial 3, 3) := by decide +kernel
theorem dX4_init_4 : decode cX4_init 4 = .ok (.aload_n 0, 1) := by decide +kernel
theorem dX4_init_5 : decode cX4_init 5 = .ok (.bipush 6, 2) := by decide +kernel
theorem dX4_init_7 : decode cX4_init 7 = .ok (.newarray .int, 2) := by decide +kernel
theorem dX4_init_9 : decode cX4_init 9 = .ok (.putfield 9, 3) := by decide +kernel
theorem dX4_init_12 : decode cX4_init 12 = .ok (.aload_n 0, 1) := by decide +kernel
theorem dX4_init_13 : decode cX4_init 13 = .ok (.bipush 6, 2) := by decide +kernel
theorem dX4_init_15 : decode cX4_init 15 = .ok (.newarray .int, 2) := by decide +kernel
theorem dX4_init_17 : decode cX4_init 17 = .ok (.putfield 15, 3) := by decide +kernel
theorem dX4_init_20 : decode cX4_init 20 = .ok (.aload_n 0, 1) := by decide +kernel
theorem dX4_init_21 : decode cX4_init 21 = .ok (.new 18, 3) := by decide +kernel
theorem dX4_init_24 : decode cX4_init 24 = .ok (.dup, 1) := by decide +kernel
theorem dX4_init_25 : decode cX4_init 25 = .ok (.invokespecial 20, 3) := by decide +kernel
theorem dX4_init_28 : decode cX4_init 28 = .ok (.putfield 21, 3) := by decide +kernel
theorem dX4_init_31 : decode cX4_init 31 = .ok (.aload_n 0, 1) := by decide +kernel
theorem dX4_init_32 : decode cX4_init 32 = .ok (.bipush 6, 2) := by decide +kernel
theorem dX4_init_34 : decode cX4_init 34 = .ok (.newarray .int, 2) := by decide +kernel
theorem dX4_init_36 : decode cX4_init 36 = .ok (.putfield 25, 3) := by decide +kernel
theorem dX4_init_39 : decode cX4_init 39 = .ok (.aload_n 0, 1) := by decide +kernel
theorem dX4_init_40 : decode cX4_init 40 = .ok (.bipush 64, 2) := by decide +kernel
theorem dX4_init_42 : decode cX4_init 42 = .ok (.newarray .int, 2) := by decide +kernel
theorem dX4_init_44 : decode cX4_init 44 = .ok (.putfield 28, 3) := by decide +kernel
theorem dX4_init_47 : decode cX4_init 47 = .ok (.aload_n 0, 1) := by decide +kernel
theorem dX4_init_48 : decode cX4_init 48 = .ok (.bipush 64, 2) := by decide +kernel
theorem dX4_init_50 : decode cX4_init 50 = .ok (.newarray .int, 2) := by decide +kernel
theorem dX4_init_52 : decode cX4_init 52 = .ok (.putfield 31, 3) := by decide +kernel
theorem dX4_init_55 : decode cX4_init 55 = .ok (.aload_n 0, 1) := by decide +kernel
theorem dX4_init_56 : decode cX4_init 56 = .ok (.bipush 64, 2) := by decide +kernel
theorem dX4_init_58 : decode cX4_init 58 = .ok (.newarray .int, 2) := by decide +kernel
theorem dX4_init_60 : decode cX4_init 60 = .ok (.putfield 34, 3) := by decide +kernel
theorem dX4_init_63 : decode cX4_init 63 = .ok (.aload_n 0, 1) := by decide +kernel
theorem dX4_init_64 : decode cX4_init 64 = .ok (.iconst 4, 1) := by decide +kernel
theorem dX4_init_65 : decode cX4_init 65 = .ok (.newarray .int, 2) := by decide +kernel
theorem dX4_init_67 : decode cX4_init 67 = .ok (.putfield 37, 3) := by decide +kernel
theorem dX4_init_70 : decode cX4_init 70 = .ok (.aload_n 0, 1) := by decide +kernel
theorem dX4_init_71 : decode cX4_init 71 = .ok (.sipush 384, 3) := by decide +kernel
theorem dX4_init_74 : decode cX4_init 74 = .ok (.newarray .int, 2) := by decide +kernel
theorem dX4_init_76 : decode cX4_init 76 = .ok (.putfield 40, 3) := by decide +kernel
theorem dX4_init_79 : decode cX4_init 79 = .ok (.aload_n 0, 1) := by decide +kernel
theorem dX4_init_80 : decode cX4_init 80 = .ok (.sipush 384, 3) := by decide +kernel
theorem dX4_init_83 : decode cX4_init 83 = .ok (.newarray .int, 2) := by decide +kernel
theorem dX4_init_85 : decode cX4_init 85 = .ok (.putfield 43, 3) := by decide +kernel
theorem dX4_init_88 : decode cX4_init 88 = .ok (.aload_n 0, 1) := by decide +kernel
theorem dX4_init_89 : decode cX4_init 89 = .ok (.sipush 4096, 3) := by decide +kernel
theorem dX4_init_92 : decode cX4_init 92 = .ok (.newarray .int, 2) := by decide +kernel
theorem dX4_init_94 : decode cX4_init 94 = .ok (.putfield 46, 3) := by decide +kernel
theorem dX4_init_97 : decode cX4_init 97 = .ok (.aload_n 0, 1) := by decide +kernel
theorem dX4_init_98 : decode cX4_init 98 = .ok (.bipush 66, 2) := by decide +kernel
theorem dX4_init_100 : decode cX4_init 100 = .ok (.newarray .int, 2) := by decide +kernel
theorem dX4_init_102 : decode cX4_init 102 = .ok (.putfield 49, 3) := by decide +kernel
theorem dX4_init_105 : decode cX4_init 105 = .ok (.aload_n 0, 1) := by decide +kernel
theorem dX4_init_106 : decode cX4_init 106 = .ok (.aload_n 1, 1) := by decide +kernel
theorem dX4_init_107 : decode cX4_init 107 = .ok (.putfield 52, 3) := by decide +kernel
theorem dX4_init_110 : decode cX4_init 110 = .ok (.aload_n 0, 1) := by decide +kernel
theorem dX4_init_111 : decode cX4_init 111 = .ok (.aload_n 2, 1) := by decide +kernel
theorem dX4_init_112 : decode cX4_init 112 = .ok (.putfield 56, 3) := by decide +kernel
theorem dX4_init_115 : decode cX4_init 115 = .ok (.aload_n 0, 1) := by decide +kernel
theorem dX4_init_116 : decode cX4_init 116 = .ok (.aload_n 3, 1) := by decide +kernel
theorem dX4_init_117 : decode cX4_init 117 = .ok (.putfield 60, 3) := by decide +kernel
theorem dX4_init_120 : decode cX4_init 120 = .ok (.return_, 1) := by decide +kernel
theorem dX4_pick_0 : decode cX4_pick 0 = .ok (.aload_n 0, 1) := by decide +kernel
theorem dX4_pick_1 : decode cX4_pick 1 = .ok (.iconst 0, 1) := by decide +kernel
theorem dX4_pick_2 : decode cX4_pick 2 = .ok (.putfield 108, 3) := by decide +kernel
theorem dX4_pick_5 : decode cX4_pick 5 = .ok (.iconst 0, 1) := by decide +kernel
theorem dX4_pick_6 : decode cX4_pick 6 = .ok (.istore_n 3, 1) := by decide +kernel
theorem dX4_pick_7 : decode cX4_pick 7 = .ok (.iload_n 3, 1) := by decide +kernel
theorem dX4_pick_8 : decode cX4_pick 8 = .ok (.aload_n 0, 1) := by decide +kernel
theorem dX4_pick_9 : decode cX4_pick 9 = .ok (.getfield 60, 3) := by decide +kernel
theorem dX4_pick_12 : decode cX4_pick 12 = .ok (.getfield 121, 3) := by decide +kernel
theorem dX4_pick_15 : decode cX4_pick 15 = .ok (.if_icmp .ge 69, 3) := by decide +kernel
theorem dX4_pick_18 : decode cX4_pick 18 = .ok (.aload_n 0, 1) := by decide +kernel
theorem dX4_pick_19 : decode cX4_pick 19 = .ok (.getfield 108, 3) := by decide +kernel
theorem dX4_pick_22 : decode cX4_pick 22 = .ok (.bipush 6, 2) := by decide +kernel
theorem dX4_pick_24 : decode cX4_pick 24 = .ok (.if_icmp .ge 60, 3) := by decide +kernel
theorem dX4_pick_27 : decode cX4_pick 27 = .ok (.aload_n 0, 1) := by decide +kernel
theorem dX4_pick_28 : decode cX4_pick 28 = .ok (.getfield 60, 3) := by decide +kernel
theorem dX4_pick_31 : decode cX4_pick 31 = .ok (.getfield 124, 3) := by decide +kernel
theorem dX4_pick_34 : decode cX4_pick 34 = .ok (.iload_n 3, 1) := by decide +kernel
theorem dX4_pick_35 : decode cX4_pick 35 = .ok (.aaload, 1) := by decide +kernel
theorem dX4_pick_36 : decode cX4_pick 36 = .ok (.getfield 128, 3) := by decide +kernel
theorem dX4_pick_39 : decode cX4_pick 39 = .ok (.iload_n 1, 1) := by decide +kernel
theorem dX4_pick_40 : decode cX4_pick 40 = .ok (.invokestatic 133, 3) := by decide +kernel
theorem dX4_pick_43 : decode cX4_pick 43 = .ok (.ifCond .eq 35, 3) := by decide +kernel
theorem dX4_pick_46 : decode cX4_pick 46 = .ok (.aload_n 0, 1) := by decide +kernel
theorem dX4_pick_47 : decode cX4_pick 47 = .ok (.getfield 60, 3) := by decide +kernel
theorem dX4_pick_50 : decode cX4_pick 50 = .ok (.iload_n 3, 1) := by decide +kernel
theorem dX4_pick_51 : decode cX4_pick 51 = .ok (.iload_n 2, 1) := by decide +kernel
theorem dX4_pick_52 : decode cX4_pick 52 = .ok (.invokevirtual 137, 3) := by decide +kernel
theorem dX4_pick_55 : decode cX4_pick 55 = .ok (.ifCond .ne 23, 3) := by decide +kernel
theorem dX4_pick_58 : decode cX4_pick 58 = .ok (.aload_n 0, 1) := by decide +kernel
theorem dX4_pick_59 : decode cX4_pick 59 = .ok (.getfield 25, 3) := by decide +kernel
theorem dX4_pick_62 : decode cX4_pick 62 = .ok (.aload_n 0, 1) := by decide +kernel
theorem dX4_pick_63 : decode cX4_pick 63 = .ok (.getfield 108, 3) := by decide +kernel
theorem dX4_pick_66 : decode cX4_pick 66 = .ok (.iload_n 3, 1) := by decide +kernel
theorem dX4_pick_67 : decode cX4_pick 67 = .ok (.iastore, 1) := by decide +kernel
theorem dX4_pick_68 : decode cX4_pick 68 = .ok (.aload_n 0, 1) := by decide +kernel
theorem dX4_pick_69 : decode cX4_pick 69 = .ok (.dup, 1) := by decide +kernel
theorem dX4_pick_70 : decode cX4_pick 70 = .ok (.getfield 108, 3) := by decide +kernel
theorem dX4_pick_73 : decode cX4_pick 73 = .ok (.iconst 1, 1) := by decide +kernel
theorem dX4_pick_74 : decode cX4_pick 74 = .ok (.iadd, 1) := by decide +kernel
theorem dX4_pick_75 : decode cX4_pick 75 = .ok (.putfield 108, 3) := by decide +kernel
theorem dX4_pick_78 : decode cX4_pick 78 = .ok (.iinc 3 1, 3) := by decide +kernel
theorem dX4_pick_81 : decode cX4_pick 81 = .ok (.goto (-74), 3) := by decide +kernel
theorem dX4_pick_84 : decode cX4_pick 84 = .ok (.aload_n 0, 1) := by decide +kernel
theorem dX4_pick_85 : decode cX4_pick 85 = .ok (.getfield 28, 3) := by decide +kernel
theorem dX4_pick_88 : decode cX4_pick 88 = .ok (.iconst 0, 1) := by decide +kernel
theorem dX4_pick_89 : decode cX4_pick 89 = .ok (.iconst 0, 1) := by decide +kernel
theorem dX4_pick_90 : decode cX4_pick 90 = .ok (.iastore, 1) := by decide +kernel
theorem dX4_pick_91 : decode cX4_pick 91 = .ok (.iconst 0, 1) := by decide +kernel
theorem dX4_pick_92 : decode cX4_pick 92 = .ok (.istore_n 3, 1) := by decide +kernel
theorem dX4_pick_93 : decode cX4_pick 93 = .ok (.iload_n 3, 1) := by decide +kernel
theorem dX4_pick_94 : decode cX4_pick 94 = .ok (.aload_n 0, 1) := by decide +kernel
theorem dX4_pick_95 : decode cX4_pick 95 = .ok (.getfield 108, 3) := by decide +kernel
theorem dX4_pick_98 : decode cX4_pick 98 = .ok (.if_icmp .ge 106, 3) := by decide +kernel
theorem dX4_pick_101 : decode cX4_pick 101 = .ok (.aload_n 0, 1) := by decide +kernel
theorem dX4_pick_102 : decode cX4_pick 102 = .ok (.getfield 60, 3) := by decide +kernel
theorem dX4_pick_105 : decode cX4_pick 105 = .ok (.getfield 124, 3) := by decide +kernel
theorem dX4_pick_108 : decode cX4_pick 108 = .ok (.aload_n 0, 1) := by decide +kernel
theorem dX4_pick_109 : decode cX4_pick 109 = .ok (.getfield 25, 3) := by decide +kernel
theorem dX4_pick_112 : decode cX4_pick 112 = .ok (.iload_n 3, 1) := by decide +kernel
theorem dX4_pick_113 : decode cX4_pick 113 = .ok (.iaload, 1) := by decide +kernel
theorem dX4_pick_114 : decode cX4_pick 114 = .ok (.aaload, 1) := by decide +kernel
theorem dX4_pick_115 : decode cX4_pick 115 = .ok (.getfield 140, 3) := by decide +kernel
theorem dX4_pick_118 : decode cX4_pick 118 = .ok (.istore 4, 2) := by decide +kernel
theorem dX4_pick_120 : decode cX4_pick 120 = .ok (.iconst 0, 1) := by decide +kernel
theorem dX4_pick_121 : decode cX4_pick 121 = .ok (.istore 5, 2) := by decide +kernel
theorem dX4_pick_123 : decode cX4_pick 123 = .ok (.iload 5, 2) := by decide +kernel
theorem dX4_pick_125 : decode cX4_pick 125 = .ok (.iconst 1, 1) := by decide +kernel
theorem dX4_pick_126 : decode cX4_pick 126 = .ok (.iload_n 3, 1) := by decide +kernel
theorem dX4_pick_127 : decode cX4_pick 127 = .ok (.ishl, 1) := by decide +kernel
theorem dX4_pick_128 : decode cX4_pick 128 = .ok (.if_icmp .ge 70, 3) := by decide +kernel
theorem dX4_pick_131 : decode cX4_pick 131 = .ok (.iload 5, 2) := by decide +kernel
theorem dX4_pick_133 : decode cX4_pick 133 = .ok (.iconst 1, 1) := by decide +kernel
theorem dX4_pick_134 : decode cX4_pick 134 = .ok (.iload_n 3, 1) := by decide +kernel
theorem dX4_pick_135 : decode cX4_pick 135 = .ok (.ishl, 1) := by decide +kernel
theorem dX4_pick_136 : decode cX4_pick 136 = .ok (.ior, 1) := by decide +kernel
theorem dX4_pick_137 : decode cX4_pick 137 = .ok (.istore 6, 2) := by decide +kernel
theorem dX4_pick_139 : decode cX4_pick 139 = .ok (.aload_n 0, 1) := by decide +kernel
theorem dX4_pick_140 : decode cX4_pick 140 = .ok (.getfield 28, 3) := by decide +kernel
theorem dX4_pick_143 : decode cX4_pick 143 = .ok (.iload 6, 2) := by decide +kernel
theorem dX4_pick_145 : decode cX4_pick 145 = .ok (.aload_n 0, 1) := by decide +kernel
theorem dX4_pick_146 : decode cX4_pick 146 = .ok (.getfield 28, 3) := by decide +kernel
theorem dX4_pick_149 : decode cX4_pick 149 = .ok (.iload 5, 2) := by decide +kernel
theorem dX4_pick_151 : decode cX4_pick 151 = .ok (.iaload, 1) := by decide +kernel
theorem dX4_pick_152 : decode cX4_pick 152 = .ok (.iconst 1, 1) := by decide +kernel
theorem dX4_pick_153 : decode cX4_pick 153 = .ok (.aload_n 0, 1) := by decide +kernel
theorem dX4_pick_154 : decode cX4_pick 154 = .ok (.getfield 25, 3) := by decide +kernel
theorem dX4_pick_157 : decode cX4_pick 157 = .ok (.iload_n 3, 1) := by decide +kernel
theorem dX4_pick_158 : decode cX4_pick 158 = .ok (.iaload, 1) := by decide +kernel
theorem dX4_pick_159 : decode cX4_pick 159 = .ok (.ishl, 1) := by decide +kernel
theorem dX4_pick_160 : decode cX4_pick 160 = .ok (.ior, 1) := by decide +kernel
theorem dX4_pick_161 : decode cX4_pick 161 = .ok (.iastore, 1) := by decide +kernel
theorem dX4_pick_162 : decode cX4_pick 162 = .ok (.aload_n 0, 1) := by decide +kernel
theorem dX4_pick_163 : decode cX4_pick 163 = .ok (.getfield 31, 3) := by decide +kernel
theorem dX4_pick_166 : decode cX4_pick 166 = .ok (.iload 6, 2) := by decide +kernel
theorem dX4_pick_168 : decode cX4_pick 168 = .ok (.iload 5, 2) := by decide +kernel
theorem dX4_pick_170 : decode cX4_pick 170 = .ok (.ifCond .eq 15, 3) := by decide +kernel
theorem dX4_pick_173 : decode cX4_pick 173 = .ok (.aload_n 0, 1) := by decide +kernel
theorem dX4_pick_174 : decode cX4_pick 174 = .ok (.getfield 31, 3) := by decide +kernel
theorem dX4_pick_177 : decode cX4_pick 177 = .ok (.iload 5, 2) := by decide +kernel
theorem dX4_pick_179 : decode cX4_pick 179 = .ok (.iaload, 1) := by decide +kernel
theorem dX4_pick_180 : decode cX4_pick 180 = .ok (.iload 4, 2) := by decide +kernel
theorem dX4_pick_182 : decode cX4_pick 182 = .ok (.if_icmp .ne 8, 3) := by decide +kernel
theorem dX4_pick_185 : decode cX4_pick 185 = .ok (.iload 4, 2) := by decide +kernel
theorem dX4_pick_187 : decode cX4_pick 187 = .ok (.goto 4, 3) := by decide +kernel
theorem dX4_pick_190 : decode cX4_pick 190 = .ok (.iconst (-1), 1) := by decide +kernel
theorem dX4_pick_191 : decode cX4_pick 191 = .ok (.iastore, 1) := by decide +kernel
theorem dX4_pick_192 : decode cX4_pick 192 = .ok (.iinc 5 1, 3) := by decide +kernel
theorem dX4_pick_195 : decode cX4_pick 195 = .ok (.goto (-72), 3) := by decide +kernel
theorem dX4_pick_198 : decode cX4_pick 198 = .ok (.iinc 3 1, 3) := by decide +kernel
theorem dX4_pick_201 : decode cX4_pick 201 = .ok (.goto (-108), 3) := by decide +kernel
theorem dX4_pick_204 : decode cX4_pick 204 = .ok (.return_, 1) := by decide +kernel
theorem dX9_factor_0 : decode cX9_factor 0 = .ok (.iload_n 1, 1) := by decide +kernel
theorem dX9_factor_1 : decode cX9_factor 1 = .ok (.ifCond .eq 11, 3) := by decide +kernel
theorem dX9_factor_4 : decode cX9_factor 4 = .ok (.iload_n 0, 1) := by decide +kernel
theorem dX9_factor_5 : decode cX9_factor 5 = .ok (.ifCond .le 7, 3) := by decide +kernel
theorem dX9_factor_8 : decode cX9_factor 8 = .ok (.lconst 1, 1) := by decide +kernel
theorem dX9_factor_9 : decode cX9_factor 9 = .ok (.goto 5, 3) := by decide +kernel
theorem dX9_factor_12 : decode cX9_factor 12 = .ok (.iload_n 0, 1) := by decide +kernel
theorem dX9_factor_13 : decode cX9_factor 13 = .ok (.i2l, 1) := by decide +kernel
theorem dX9_factor_14 : decode cX9_factor 14 = .ok (.lreturn, 1) := by decide +kernel
theorem dX9_signFactor_0 : decode cX9_signFactor 0 = .ok (.iload_n 2, 1) := by decide +kernel
theorem dX9_signFactor_1 : decode cX9_signFactor 1 = .ok (.ifCond .lt 8, 3) := by decide +kernel
theorem dX9_signFactor_4 : decode cX9_signFactor 4 = .ok (.iload_n 2, 1) := by decide +kernel
theorem dX9_signFactor_5 : decode cX9_signFactor 5 = .ok (.iconst 4, 1) := by decide +kernel
theorem dX9_signFactor_6 : decode cX9_signFactor 6 = .ok (.if_icmp .lt 7, 3) := by decide +kernel
theorem dX9_signFactor_9 : decode cX9_signFactor 9 = .ok (.lconst 1, 1) := by decide +kernel
theorem dX9_signFactor_10 : decode cX9_signFactor 10 = .ok (.goto 15, 3) := by decide +kernel
theorem dX9_signFactor_13 : decode cX9_signFactor 13 = .ok (.aload_n 0, 1) := by decide +kernel
theorem dX9_signFactor_14 : decode cX9_signFactor 14 = .ok (.getfield 16, 3) := by decide +kernel
theorem dX9_signFactor_17 : decode cX9_signFactor 17 = .ok (.iload_n 1, 1) := by decide +kernel
theorem dX9_signFactor_18 : decode cX9_signFactor 18 = .ok (.aaload, 1) := by decide +kernel
theorem dX9_signFactor_19 : decode cX9_signFactor 19 = .ok (.iload_n 2, 1) := by decide +kernel
theorem dX9_signFactor_20 : decode cX9_signFactor 20 = .ok (.iaload, 1) := by decide +kernel
theorem dX9_signFactor_21 : decode cX9_signFactor 21 = .ok (.iload_n 3, 1) := by decide +kernel
theorem dX9_signFactor_22 : decode cX9_signFactor 22 = .ok (.invokestatic 58, 3) := by decide +kernel
theorem dX9_signFactor_25 : decode cX9_signFactor 25 = .ok (.lreturn, 1) := by decide +kernel
theorem dX9_weigh_0 : decode cX9_weigh 0 = .ok (.iload_n 2, 1) := by decide +kernel
theorem dX9_weigh_1 : decode cX9_weigh 1 = .ok (.bipush 6, 2) := by decide +kernel
theorem dX9_weigh_3 : decode cX9_weigh 3 = .ok (.if_icmp .le 10, 3) := by decide +kernel
theorem dX9_weigh_6 : decode cX9_weigh 6 = .ok (.iload_n 2, 1) := by decide +kernel
theorem dX9_weigh_7 : decode cX9_weigh 7 = .ok (.bipush 6, 2) := by decide +kernel
theorem dX9_weigh_9 : decode cX9_weigh 9 = .ok (.isub, 1) := by decide +kernel
theorem dX9_weigh_10 : decode cX9_weigh 10 = .ok (.goto 4, 3) := by decide +kernel
theorem dX9_weigh_13 : decode cX9_weigh 13 = .ok (.iconst 0, 1) := by decide +kernel
theorem dX9_weigh_14 : decode cX9_weigh 14 = .ok (.istore 4, 2) := by decide +kernel
theorem dX9_weigh_16 : decode cX9_weigh 16 = .ok (.iconst 0, 1) := by decide +kernel
theorem dX9_weigh_17 : decode cX9_weigh 17 = .ok (.istore 5, 2) := by decide +kernel
theorem dX9_weigh_19 : decode cX9_weigh 19 = .ok (.iload 5, 2) := by decide +kernel
theorem dX9_weigh_21 : decode cX9_weigh 21 = .ok (.iconst 4, 1) := by decide +kernel
theorem dX9_weigh_22 : decode cX9_weigh 22 = .ok (.if_icmp .ge 44, 3) := by decide +kernel
theorem dX9_weigh_25 : decode cX9_weigh 25 = .ok (.aload_n 0, 1) := by decide +kernel
theorem dX9_weigh_26 : decode cX9_weigh 26 = .ok (.getfield 29, 3) := by decide +kernel
theorem dX9_weigh_29 : decode cX9_weigh 29 = .ok (.iload 5, 2) := by decide +kernel
theorem dX9_weigh_31 : decode cX9_weigh 31 = .ok (.aload_n 0, 1) := by decide +kernel
theorem dX9_weigh_32 : decode cX9_weigh 32 = .ok (.getfield 19, 3) := by decide +kernel
theorem dX9_weigh_35 : decode cX9_weigh 35 = .ok (.iload 5, 2) := by decide +kernel
theorem dX9_weigh_37 : decode cX9_weigh 37 = .ok (.iaload, 1) := by decide +kernel
theorem dX9_weigh_38 : decode cX9_weigh 38 = .ok (.iload_n 3, 1) := by decide +kernel
theorem dX9_weigh_39 : decode cX9_weigh 39 = .ok (.invokestatic 58, 3) := by decide +kernel
theorem dX9_weigh_42 : decode cX9_weigh 42 = .ok (.aload_n 0, 1) := by decide +kernel
theorem dX9_weigh_43 : decode cX9_weigh 43 = .ok (.iload 5, 2) := by decide +kernel
theorem dX9_weigh_45 : decode cX9_weigh 45 = .ok (.aload_n 0, 1) := by decide +kernel
theorem dX9_weigh_46 : decode cX9_weigh 46 = .ok (.getfield 23, 3) := by decide +kernel
theorem dX9_weigh_49 : decode cX9_weigh 49 = .ok (.iload_n 1, 1) := by decide +kernel
theorem dX9_weigh_50 : decode cX9_weigh 50 = .ok (.aaload, 1) := by decide +kernel
theorem dX9_weigh_51 : decode cX9_weigh 51 = .ok (.iload 4, 2) := by decide +kernel
theorem dX9_weigh_53 : decode cX9_weigh 53 = .ok (.iaload, 1) := by decide +kernel
theorem dX9_weigh_54 : decode cX9_weigh 54 = .ok (.iload_n 3, 1) := by decide +kernel
theorem dX9_weigh_55 : decode cX9_weigh 55 = .ok (.invokevirtual 62, 3) := by decide +kernel
theorem dX9_weigh_58 : decode cX9_weigh 58 = .ok (.lmul, 1) := by decide +kernel
theorem dX9_weigh_59 : decode cX9_weigh 59 = .ok (.lastore, 1) := by decide +kernel
theorem dX9_weigh_60 : decode cX9_weigh 60 = .ok (.iinc 5 1, 3) := by decide +kernel
theorem dX9_weigh_63 : decode cX9_weigh 63 = .ok (.goto (-44), 3) := by decide +kernel
theorem dX9_weigh_66 : decode cX9_weigh 66 = .ok (.iload 4, 2) := by decide +kernel
theorem dX9_weigh_68 : decode cX9_weigh 68 = .ok (.iconst 1, 1) := by decide +kernel
theorem dX9_weigh_69 : decode cX9_weigh 69 = .ok (.iadd, 1) := by decide +kernel
theorem dX9_weigh_70 : decode cX9_weigh 70 = .ok (.istore 5, 2) := by decide +kernel
theorem dX9_weigh_72 : decode cX9_weigh 72 = .ok (.iload 5, 2) := by decide +kernel
theorem dX9_weigh_74 : decode cX9_weigh 74 = .ok (.iload_n 2, 1) := by decide +kernel
theorem dX9_weigh_75 : decode cX9_weigh 75 = .ok (.if_icmp .gt 115, 3) := by decide +kernel
theorem dX9_weigh_78 : decode cX9_weigh 78 = .ok (.iconst 0, 1) := by decide +kernel
theorem dX9_weigh_79 : decode cX9_weigh 79 = .ok (.istore 6, 2) := by decide +kernel
theorem dX9_weigh_81 : decode cX9_weigh 81 = .ok (.iload 6, 2) := by decide +kernel
theorem dX9_weigh_83 : decode cX9_weigh 83 = .ok (.iconst 4, 1) := by decide +kernel
theorem dX9_weigh_84 : decode cX9_weigh 84 = .ok (.if_icmp .ge 80, 3) := by decide +kernel
theorem dX9_weigh_87 : decode cX9_weigh 87 = .ok (.lconst 0, 1) := by decide +kernel
theorem dX9_weigh_88 : decode cX9_weigh 88 = .ok (.lstore 7, 2) := by decide +kernel
theorem dX9_weigh_90 : decode cX9_weigh 90 = .ok (.iconst 0, 1) := by decide +kernel
theorem dX9_weigh_91 : decode cX9_weigh 91 = .ok (.istore 9, 2) := by decide +kernel
theorem dX9_weigh_93 : decode cX9_weigh 93 = .ok (.iload 9, 2) := by decide +kernel
theorem dX9_weigh_95 : decode cX9_weigh 95 = .ok (.iconst 4, 1) := by decide +kernel
theorem dX9_weigh_96 : decode cX9_weigh 96 = .ok (.if_icmp .ge 36, 3) := by decide +kernel
theorem dX9_weigh_99 : decode cX9_weigh 99 = .ok (.lload 7, 2) := by decide +kernel
theorem dX9_weigh_101 : decode cX9_weigh 101 = .ok (.aload_n 0, 1) := by decide +kernel
theorem dX9_weigh_102 : decode cX9_weigh 102 = .ok (.getfield 29, 3) := by decide +kernel
theorem dX9_weigh_105 : decode cX9_weigh 105 = .ok (.iload 9, 2) := by decide +kernel
theorem dX9_weigh_107 : decode cX9_weigh 107 = .ok (.laload, 1) := by decide +kernel
theorem dX9_weigh_108 : decode cX9_weigh 108 = .ok (.aload_n 0, 1) := by decide +kernel
theorem dX9_weigh_109 : decode cX9_weigh 109 = .ok (.getfield 11, 3) := by decide +kernel
theorem dX9_weigh_112 : decode cX9_weigh 112 = .ok (.iload 9, 2) := by decide +kernel
theorem dX9_weigh_114 : decode cX9_weigh 114 = .ok (.aaload, 1) := by decide +kernel
theorem dX9_weigh_115 : decode cX9_weigh 115 = .ok (.iload 6, 2) := by decide +kernel
theorem dX9_weigh_117 : decode cX9_weigh 117 = .ok (.iaload, 1) := by decide +kernel
theorem dX9_weigh_118 : decode cX9_weigh 118 = .ok (.iload_n 3, 1) := by decide +kernel
theorem dX9_weigh_119 : decode cX9_weigh 119 = .ok (.invokestatic 58, 3) := by decide +kernel
theorem dX9_weigh_122 : decode cX9_weigh 122 = .ok (.lmul, 1) := by decide +kernel
theorem dX9_weigh_123 : decode cX9_weigh 123 = .ok (.ladd, 1) := by decide +kernel
theorem dX9_weigh_124 : decode cX9_weigh 124 = .ok (.lstore 7, 2) := by decide +kernel
theorem dX9_weigh_126 : decode cX9_weigh 126 = .ok (.iinc 9 1, 3) := by decide +kernel
theorem dX9_weigh_129 : decode cX9_weigh 129 = .ok (.goto (-36), 3) := by decide +kernel
theorem dX9_weigh_132 : decode cX9_weigh 132 = .ok (.aload_n 0, 1) := by decide +kernel
theorem dX9_weigh_133 : decode cX9_weigh 133 = .ok (.getfield 33, 3) := by decide +kernel
theorem dX9_weigh_136 : decode cX9_weigh 136 = .ok (.iload 6, 2) := by decide +kernel
theorem dX9_weigh_138 : decode cX9_weigh 138 = .ok (.lload 7, 2) := by decide +kernel
theorem dX9_weigh_140 : decode cX9_weigh 140 = .ok (.aload_n 0, 1) := by decide +kernel
theorem dX9_weigh_141 : decode cX9_weigh 141 = .ok (.iload 6, 2) := by decide +kernel
theorem dX9_weigh_143 : decode cX9_weigh 143 = .ok (.aload_n 0, 1) := by decide +kernel
theorem dX9_weigh_144 : decode cX9_weigh 144 = .ok (.getfield 23, 3) := by decide +kernel
theorem dX9_weigh_147 : decode cX9_weigh 147 = .ok (.iload_n 1, 1) := by decide +kernel
theorem dX9_weigh_148 : decode cX9_weigh 148 = .ok (.aaload, 1) := by decide +kernel
theorem dX9_weigh_149 : decode cX9_weigh 149 = .ok (.iload 5, 2) := by decide +kernel
theorem dX9_weigh_151 : decode cX9_weigh 151 = .ok (.iaload, 1) := by decide +kernel
theorem dX9_weigh_152 : decode cX9_weigh 152 = .ok (.iload_n 3, 1) := by decide +kernel
theorem dX9_weigh_153 : decode cX9_weigh 153 = .ok (.invokevirtual 62, 3) := by decide +kernel
theorem dX9_weigh_156 : decode cX9_weigh 156 = .ok (.lmul, 1) := by decide +kernel
theorem dX9_weigh_157 : decode cX9_weigh 157 = .ok (.lastore, 1) := by decide +kernel
theorem dX9_weigh_158 : decode cX9_weigh 158 = .ok (.iinc 6 1, 3) := by decide +kernel
theorem dX9_weigh_161 : decode cX9_weigh 161 = .ok (.goto (-80), 3) := by decide +kernel
theorem dX9_weigh_164 : decode cX9_weigh 164 = .ok (.aload_n 0, 1) := by decide +kernel
theorem dX9_weigh_165 : decode cX9_weigh 165 = .ok (.getfield 29, 3) := by decide +kernel
theorem dX9_weigh_168 : decode cX9_weigh 168 = .ok (.astore 6, 2) := by decide +kernel
theorem dX9_weigh_170 : decode cX9_weigh 170 = .ok (.aload_n 0, 1) := by decide +kernel
theorem dX9_weigh_171 : decode cX9_weigh 171 = .ok (.aload_n 0, 1) := by decide +kernel
theorem dX9_weigh_172 : decode cX9_weigh 172 = .ok (.getfield 33, 3) := by decide +kernel
theorem dX9_weigh_175 : decode cX9_weigh 175 = .ok (.putfield 29, 3) := by decide +kernel
theorem dX9_weigh_178 : decode cX9_weigh 178 = .ok (.aload_n 0, 1) := by decide +kernel
theorem dX9_weigh_179 : decode cX9_weigh 179 = .ok (.aload 6, 2) := by decide +kernel
theorem dX9_weigh_181 : decode cX9_weigh 181 = .ok (.putfield 33, 3) := by decide +kernel
theorem dX9_weigh_184 : decode cX9_weigh 184 = .ok (.iinc 5 1, 3) := by decide +kernel
theorem dX9_weigh_187 : decode cX9_weigh 187 = .ok (.goto (-115), 3) := by decide +kernel
theorem dX9_weigh_190 : decode cX9_weigh 190 = .ok (.return_, 1) := by decide +kernel
theorem dX9_allWeights_0 : decode cX9_allWeights 0 = .ok (.aload_n 0, 1) := by decide +kernel
theorem dX9_allWeights_1 : decode cX9_allWeights 1 = .ok (.getfield 29, 3) := by decide +kernel
theorem dX9_allWeights_4 : decode cX9_allWeights 4 = .ok (.iconst 0, 1) := by decide +kernel
theorem dX9_allWeights_5 : decode cX9_allWeights 5 = .ok (.laload, 1) := by decide +kernel
theorem dX9_allWeights_6 : decode cX9_allWeights 6 = .ok (.aload_n 0, 1) := by decide +kernel
theorem dX9_allWeights_7 : decode cX9_allWeights 7 = .ok (.getfield 29, 3) := by decide +kernel
theorem dX9_allWeights_10 : decode cX9_allWeights 10 = .ok (.iconst 1, 1) := by decide +kernel
theorem dX9_allWeights_11 : decode cX9_allWeights 11 = .ok (.laload, 1) := by decide +kernel
theorem dX9_allWeights_12 : decode cX9_allWeights 12 = .ok (.ladd, 1) := by decide +kernel
theorem dX9_allWeights_13 : decode cX9_allWeights 13 = .ok (.aload_n 0, 1) := by decide +kernel
theorem dX9_allWeights_14 : decode cX9_allWeights 14 = .ok (.getfield 29, 3) := by decide +kernel
theorem dX9_allWeights_17 : decode cX9_allWeights 17 = .ok (.iconst 2, 1) := by decide +kernel
theorem dX9_allWeights_18 : decode cX9_allWeights 18 = .ok (.laload, 1) := by decide +kernel
theorem dX9_allWeights_19 : decode cX9_allWeights 19 = .ok (.ladd, 1) := by decide +kernel
theorem dX9_allWeights_20 : decode cX9_allWeights 20 = .ok (.aload_n 0, 1) := by decide +kernel
theorem dX9_allWeights_21 : decode cX9_allWeights 21 = .ok (.getfield 29, 3) := by decide +kernel
theorem dX9_allWeights_24 : decode cX9_allWeights 24 = .ok (.iconst 3, 1) := by decide +kernel
theorem dX9_allWeights_25 : decode cX9_allWeights 25 = .ok (.laload, 1) := by decide +kernel
theorem dX9_allWeights_26 : decode cX9_allWeights 26 = .ok (.ladd, 1) := by decide +kernel
theorem dX9_allWeights_27 : decode cX9_allWeights 27 = .ok (.lreturn, 1) := by decide +kernel
theorem dX9_moveOn_0 : decode cX9_moveOn 0 = .ok (.iconst 0, 1) := by decide +kernel
theorem dX9_moveOn_1 : decode cX9_moveOn 1 = .ok (.istore_n 3, 1) := by decide +kernel
theorem dX9_moveOn_2 : decode cX9_moveOn 2 = .ok (.iload_n 3, 1) := by decide +kernel
theorem dX9_moveOn_3 : decode cX9_moveOn 3 = .ok (.iconst 4, 1) := by decide +kernel
theorem dX9_moveOn_4 : decode cX9_moveOn 4 = .ok (.if_icmp .ge 13, 3) := by decide +kernel
theorem dX9_moveOn_7 : decode cX9_moveOn 7 = .ok (.aload_n 2, 1) := by decide +kernel
theorem dX9_moveOn_8 : decode cX9_moveOn 8 = .ok (.iload_n 3, 1) := by decide +kernel
theorem dX9_moveOn_9 : decode cX9_moveOn 9 = .ok (.iconst 0, 1) := by decide +kernel
theorem dX9_moveOn_10 : decode cX9_moveOn 10 = .ok (.iastore, 1) := by decide +kernel
theorem dX9_moveOn_11 : decode cX9_moveOn 11 = .ok (.iinc 3 1, 3) := by decide +kernel
theorem dX9_moveOn_14 : decode cX9_moveOn 14 = .ok (.goto (-12), 3) := by decide +kernel
theorem dX9_moveOn_17 : decode cX9_moveOn 17 = .ok (.iconst 0, 1) := by decide +kernel
theorem dX9_moveOn_18 : decode cX9_moveOn 18 = .ok (.istore_n 3, 1) := by decide +kernel
theorem dX9_moveOn_19 : decode cX9_moveOn 19 = .ok (.iload_n 3, 1) := by decide +kernel
theorem dX9_moveOn_20 : decode cX9_moveOn 20 = .ok (.iconst 4, 1) := by decide +kernel
theorem dX9_moveOn_21 : decode cX9_moveOn 21 = .ok (.if_icmp .ge 89, 3) := by decide +kernel
theorem dX9_moveOn_24 : decode cX9_moveOn 24 = .ok (.aload_n 0, 1) := by decide +kernel
theorem dX9_moveOn_25 : decode cX9_moveOn 25 = .ok (.getfield 11, 3) := by decide +kernel
theorem dX9_moveOn_28 : decode cX9_moveOn 28 = .ok (.iload_n 3, 1) := by decide +kernel
theorem dX9_moveOn_29 : decode cX9_moveOn 29 = .ok (.aaload, 1) := by decide +kernel
theorem dX9_moveOn_30 : decode cX9_moveOn 30 = .ok (.iconst 0, 1) := by decide +kernel
theorem dX9_moveOn_31 : decode cX9_moveOn 31 = .ok (.iaload, 1) := by decide +kernel
theorem dX9_moveOn_32 : decode cX9_moveOn 32 = .ok (.aload_n 0, 1) := by decide +kernel
theorem dX9_moveOn_33 : decode cX9_moveOn 33 = .ok (.getfield 11, 3) := by decide +kernel
theorem dX9_moveOn_36 : decode cX9_moveOn 36 = .ok (.iload_n 3, 1) := by decide +kernel
theorem dX9_moveOn_37 : decode cX9_moveOn 37 = .ok (.aaload, 1) := by decide +kernel
theorem dX9_moveOn_38 : decode cX9_moveOn 38 = .ok (.iconst 1, 1) := by decide +kernel
theorem dX9_moveOn_39 : decode cX9_moveOn 39 = .ok (.iaload, 1) := by decide +kernel
theorem dX9_moveOn_40 : decode cX9_moveOn 40 = .ok (.iadd, 1) := by decide +kernel
theorem dX9_moveOn_41 : decode cX9_moveOn 41 = .ok (.aload_n 0, 1) := by decide +kernel
theorem dX9_moveOn_42 : decode cX9_moveOn 42 = .ok (.getfield 11, 3) := by decide +kernel
theorem dX9_moveOn_45 : decode cX9_moveOn 45 = .ok (.iload_n 3, 1) := by decide +kernel
theorem dX9_moveOn_46 : decode cX9_moveOn 46 = .ok (.aaload, 1) := by decide +kernel
theorem dX9_moveOn_47 : decode cX9_moveOn 47 = .ok (.iconst 2, 1) := by decide +kernel
theorem dX9_moveOn_48 : decode cX9_moveOn 48 = .ok (.iaload, 1) := by decide +kernel
theorem dX9_moveOn_49 : decode cX9_moveOn 49 = .ok (.iadd, 1) := by decide +kernel
theorem dX9_moveOn_50 : decode cX9_moveOn 50 = .ok (.aload_n 0, 1) := by decide +kernel
theorem dX9_moveOn_51 : decode cX9_moveOn 51 = .ok (.getfield 11, 3) := by decide +kernel
theorem dX9_moveOn_54 : decode cX9_moveOn 54 = .ok (.iload_n 3, 1) := by decide +kernel
theorem dX9_moveOn_55 : decode cX9_moveOn 55 = .ok (.aaload, 1) := by decide +kernel
theorem dX9_moveOn_56 : decode cX9_moveOn 56 = .ok (.iconst 3, 1) := by decide +kernel
theorem dX9_moveOn_57 : decode cX9_moveOn 57 = .ok (.iaload, 1) := by decide +kernel
theorem dX9_moveOn_58 : decode cX9_moveOn 58 = .ok (.iadd, 1) := by decide +kernel
theorem dX9_moveOn_59 : decode cX9_moveOn 59 = .ok (.istore 4, 2) := by decide +kernel
theorem dX9_moveOn_61 : decode cX9_moveOn 61 = .ok (.iload 4, 2) := by decide +kernel
theorem dX9_moveOn_63 : decode cX9_moveOn 63 = .ok (.ifCond .le 41, 3) := by decide +kernel
theorem dX9_moveOn_66 : decode cX9_moveOn 66 = .ok (.iconst 0, 1) := by decide +kernel
theorem dX9_moveOn_67 : decode cX9_moveOn 67 = .ok (.istore 5, 2) := by decide +kernel
theorem dX9_moveOn_69 : decode cX9_moveOn 69 = .ok (.iload 5, 2) := by decide +kernel
theorem dX9_moveOn_71 : decode cX9_moveOn 71 = .ok (.iconst 4, 1) := by decide +kernel
theorem dX9_moveOn_72 : decode cX9_moveOn 72 = .ok (.if_icmp .ge 32, 3) := by decide +kernel
theorem dX9_moveOn_75 : decode cX9_moveOn 75 = .ok (.aload_n 2, 1) := by decide +kernel
theorem dX9_moveOn_76 : decode cX9_moveOn 76 = .ok (.iload 5, 2) := by decide +kernel
theorem dX9_moveOn_78 : decode cX9_moveOn 78 = .ok (.dup2, 1) := by decide +kernel
theorem dX9_moveOn_79 : decode cX9_moveOn 79 = .ok (.iaload, 1) := by decide +kernel
theorem dX9_moveOn_80 : decode cX9_moveOn 80 = .ok (.aload_n 1, 1) := by decide +kernel
theorem dX9_moveOn_81 : decode cX9_moveOn 81 = .ok (.iload_n 3, 1) := by decide +kernel
theorem dX9_moveOn_82 : decode cX9_moveOn 82 = .ok (.iaload, 1) := by decide +kernel
theorem dX9_moveOn_83 : decode cX9_moveOn 83 = .ok (.aload_n 0, 1) := by decide +kernel
theorem dX9_moveOn_84 : decode cX9_moveOn 84 = .ok (.getfield 11, 3) := by decide +kernel
theorem dX9_moveOn_87 : decode cX9_moveOn 87 = .ok (.iload_n 3, 1) := by decide +kernel
theorem dX9_moveOn_88 : decode cX9_moveOn 88 = .ok (.aaload, 1) := by decide +kernel
theorem dX9_moveOn_89 : decode cX9_moveOn 89 = .ok (.iload 5, 2) := by decide +kernel
theorem dX9_moveOn_91 : decode cX9_moveOn 91 = .ok (.iaload, 1) := by decide +kernel
theorem dX9_moveOn_92 : decode cX9_moveOn 92 = .ok (.imul, 1) := by decide +kernel
theorem dX9_moveOn_93 : decode cX9_moveOn 93 = .ok (.iload 4, 2) := by decide +kernel
theorem dX9_moveOn_95 : decode cX9_moveOn 95 = .ok (.idiv, 1) := by decide +kernel
theorem dX9_moveOn_96 : decode cX9_moveOn 96 = .ok (.iadd, 1) := by decide +kernel
theorem dX9_moveOn_97 : decode cX9_moveOn 97 = .ok (.iastore, 1) := by decide +kernel
theorem dX9_moveOn_98 : decode cX9_moveOn 98 = .ok (.iinc 5 1, 3) := by decide +kernel
theorem dX9_moveOn_101 : decode cX9_moveOn 101 = .ok (.goto (-32), 3) := by decide +kernel
theorem dX9_moveOn_104 : decode cX9_moveOn 104 = .ok (.iinc 3 1, 3) := by decide +kernel
theorem dX9_moveOn_107 : decode cX9_moveOn 107 = .ok (.goto (-88), 3) := by decide +kernel
theorem dX9_moveOn_110 : decode cX9_moveOn 110 = .ok (.return_, 1) := by decide +kernel
theorem dX9_lookAhead_0 : decode cX9_lookAhead 0 = .ok (.aload_n 0, 1) := by decide +kernel
theorem dX9_lookAhead_1 : decode cX9_lookAhead 1 = .ok (.iload_n 1, 1) := by decide +kernel
theorem dX9_lookAhead_2 : decode cX9_lookAhead 2 = .ok (.iload_n 2, 1) := by decide +kernel
theorem dX9_lookAhead_3 : decode cX9_lookAhead 3 = .ok (.iconst 0, 1) := by decide +kernel
theorem dX9_lookAhead_4 : decode cX9_lookAhead 4 = .ok (.invokevirtual 36, 3) := by decide +kernel
theorem dX9_lookAhead_7 : decode cX9_lookAhead 7 = .ok (.aload_n 0, 1) := by decide +kernel
theorem dX9_lookAhead_8 : decode cX9_lookAhead 8 = .ok (.invokevirtual 40, 3) := by decide +kernel
theorem dX9_lookAhead_11 : decode cX9_lookAhead 11 = .ok (.lstore 4, 2) := by decide +kernel
theorem dX9_lookAhead_13 : decode cX9_lookAhead 13 = .ok (.iconst 0, 1) := by decide +kernel
theorem dX9_lookAhead_14 : decode cX9_lookAhead 14 = .ok (.istore 6, 2) := by decide +kernel
theorem dX9_lookAhead_16 : decode cX9_lookAhead 16 = .ok (.iload 6, 2) := by decide +kernel
theorem dX9_lookAhead_18 : decode cX9_lookAhead 18 = .ok (.iconst 4, 1) := by decide +kernel
theorem dX9_lookAhead_19 : decode cX9_lookAhead 19 = .ok (.if_icmp .ge 44, 3) := by decide +kernel
theorem dX9_lookAhead_22 : decode cX9_lookAhead 22 = .ok (.aload_n 0, 1) := by decide +kernel
theorem dX9_lookAhead_23 : decode cX9_lookAhead 23 = .ok (.getfield 26, 3) := by decide +kernel
theorem dX9_lookAhead_26 : decode cX9_lookAhead 26 = .ok (.iconst 0, 1) := by decide +kernel
theorem dX9_lookAhead_27 : decode cX9_lookAhead 27 = .ok (.aaload, 1) := by decide +kernel
theorem dX9_lookAhead_28 : decode cX9_lookAhead 28 = .ok (.iload 6, 2) := by decide +kernel
theorem dX9_lookAhead_30 : decode cX9_lookAhead 30 = .ok (.lload 4, 2) := by decide +kernel
theorem dX9_lookAhead_32 : decode cX9_lookAhead 32 = .ok (.lconst 0, 1) := by decide +kernel
theorem dX9_lookAhead_33 : decode cX9_lookAhead 33 = .ok (.lcmp, 1) := by decide +kernel
theorem dX9_lookAhead_34 : decode cX9_lookAhead 34 = .ok (.ifCond .gt 7, 3) := by decide +kernel
theorem dX9_lookAhead_37 : decode cX9_lookAhead 37 = .ok (.iconst 0, 1) := by decide +kernel
theorem dX9_lookAhead_38 : decode cX9_lookAhead 38 = .ok (.goto 18, 3) := by decide +kernel
theorem dX9_lookAhead_41 : decode cX9_lookAhead 41 = .ok (.aload_n 0, 1) := by decide +kernel
theorem dX9_lookAhead_42 : decode cX9_lookAhead 42 = .ok (.getfield 29, 3) := by decide +kernel
theorem dX9_lookAhead_45 : decode cX9_lookAhead 45 = .ok (.iload 6, 2) := by decide +kernel
theorem dX9_lookAhead_47 : decode cX9_lookAhead 47 = .ok (.laload, 1) := by decide +kernel
theorem dX9_lookAhead_48 : decode cX9_lookAhead 48 = .ok (.ldc2_w 44, 3) := by decide +kernel
theorem dX9_lookAhead_51 : decode cX9_lookAhead 51 = .ok (.lmul, 1) := by decide +kernel
theorem dX9_lookAhead_52 : decode cX9_lookAhead 52 = .ok (.lload 4, 2) := by decide +kernel
theorem dX9_lookAhead_54 : decode cX9_lookAhead 54 = .ok (.ldiv, 1) := by decide +kernel
theorem dX9_lookAhead_55 : decode cX9_lookAhead 55 = .ok (.l2i, 1) := by decide +kernel
theorem dX9_lookAhead_56 : decode cX9_lookAhead 56 = .ok (.iastore, 1) := by decide +kernel
theorem dX9_lookAhead_57 : decode cX9_lookAhead 57 = .ok (.iinc 6 1, 3) := by decide +kernel
theorem dX9_lookAhead_60 : decode cX9_lookAhead 60 = .ok (.goto (-44), 3) := by decide +kernel
theorem dX9_lookAhead_63 : decode cX9_lookAhead 63 = .ok (.iconst 1, 1) := by decide +kernel
theorem dX9_lookAhead_64 : decode cX9_lookAhead 64 = .ok (.istore 6, 2) := by decide +kernel
theorem dX9_lookAhead_66 : decode cX9_lookAhead 66 = .ok (.iload 6, 2) := by decide +kernel
theorem dX9_lookAhead_68 : decode cX9_lookAhead 68 = .ok (.iload_n 3, 1) := by decide +kernel
theorem dX9_lookAhead_69 : decode cX9_lookAhead 69 = .ok (.if_icmp .gt 36, 3) := by decide +kernel
theorem dX9_lookAhead_72 : decode cX9_lookAhead 72 = .ok (.iload 6, 2) := by decide +kernel
theorem dX9_lookAhead_74 : decode cX9_lookAhead 74 = .ok (.bipush 8, 2) := by decide +kernel
theorem dX9_lookAhead_76 : decode cX9_lookAhead 76 = .ok (.if_icmp .gt 29, 3) := by decide +kernel
theorem dX9_lookAhead_79 : decode cX9_lookAhead 79 = .ok (.aload_n 0, 1) := by decide +kernel
theorem dX9_lookAhead_80 : decode cX9_lookAhead 80 = .ok (.aload_n 0, 1) := by decide +kernel
theorem dX9_lookAhead_81 : decode cX9_lookAhead 81 = .ok (.getfield 26, 3) := by decide +kernel
theorem dX9_lookAhead_84 : decode cX9_lookAhead 84 = .ok (.iload 6, 2) := by decide +kernel
theorem dX9_lookAhead_86 : decode cX9_lookAhead 86 = .ok (.iconst 1, 1) := by decide +kernel
theorem dX9_lookAhead_87 : decode cX9_lookAhead 87 = .ok (.isub, 1) := by decide +kernel
theorem dX9_lookAhead_88 : decode cX9_lookAhead 88 = .ok (.aaload, 1) := by decide +kernel
theorem dX9_lookAhead_89 : decode cX9_lookAhead 89 = .ok (.aload_n 0, 1) := by decide +kernel
theorem dX9_lookAhead_90 : decode cX9_lookAhead 90 = .ok (.getfield 26, 3) := by decide +kernel
theorem dX9_lookAhead_93 : decode cX9_lookAhead 93 = .ok (.iload 6, 2) := by decide +kernel
theorem dX9_lookAhead_95 : decode cX9_lookAhead 95 = .ok (.aaload, 1) := by decide +kernel
theorem dX9_lookAhead_96 : decode cX9_lookAhead 96 = .ok (.invokevirtual 46, 3) := by decide +kernel
theorem dX9_lookAhead_99 : decode cX9_lookAhead 99 = .ok (.iinc 6 1, 3) := by decide +kernel
theorem dX9_lookAhead_102 : decode cX9_lookAhead 102 = .ok (.goto (-36), 3) := by decide +kernel
theorem dX9_lookAhead_105 : decode cX9_lookAhead 105 = .ok (.return_, 1) := by decide +kernel
theorem dX8_lossBy_0 : decode cX8_lossBy 0 = .ok (.iconst 0, 1) := by decide +kernel
theorem dX8_lossBy_1 : decode cX8_lossBy 1 = .ok (.istore_n 3, 1) := by decide +kernel
theorem dX8_lossBy_2 : decode cX8_lossBy 2 = .ok (.iconst 0, 1) := by decide +kernel
theorem dX8_lossBy_3 : decode cX8_lossBy 3 = .ok (.istore 4, 2) := by decide +kernel
theorem dX8_lossBy_5 : decode cX8_lossBy 5 = .ok (.iload 4, 2) := by decide +kernel
theorem dX8_lossBy_7 : decode cX8_lossBy 7 = .ok (.iconst 4, 1) := by decide +kernel
theorem dX8_lossBy_8 : decode cX8_lossBy 8 = .ok (.if_icmp .ge 33, 3) := by decide +kernel
theorem dX8_lossBy_11 : decode cX8_lossBy 11 = .ok (.iload_n 3, 1) := by decide +kernel
theorem dX8_lossBy_12 : decode cX8_lossBy 12 = .ok (.aload_n 2, 1) := by decide +kernel
theorem dX8_lossBy_13 : decode cX8_lossBy 13 = .ok (.iload 4, 2) := by decide +kernel
theorem dX8_lossBy_15 : decode cX8_lossBy 15 = .ok (.iaload, 1) := by decide +kernel
theorem dX8_lossBy_16 : decode cX8_lossBy 16 = .ok (.i2l, 1) := by decide +kernel
theorem dX8_lossBy_17 : decode cX8_lossBy 17 = .ok (.aload_n 0, 1) := by decide +kernel
theorem dX8_lossBy_18 : decode cX8_lossBy 18 = .ok (.getfield 11, 3) := by decide +kernel
theorem dX8_lossBy_21 : decode cX8_lossBy 21 = .ok (.iload_n 1, 1) := by decide +kernel
theorem dX8_lossBy_22 : decode cX8_lossBy 22 = .ok (.aaload, 1) := by decide +kernel
theorem dX8_lossBy_23 : decode cX8_lossBy 23 = .ok (.iload 4, 2) := by decide +kernel
theorem dX8_lossBy_25 : decode cX8_lossBy 25 = .ok (.iaload, 1) := by decide +kernel
theorem dX8_lossBy_26 : decode cX8_lossBy 26 = .ok (.i2l, 1) := by decide +kernel
theorem dX8_lossBy_27 : decode cX8_lossBy 27 = .ok (.lmul, 1) := by decide +kernel
theorem dX8_lossBy_28 : decode cX8_lossBy 28 = .ok (.ldc2_w 20, 3) := by decide +kernel
theorem dX8_lossBy_31 : decode cX8_lossBy 31 = .ok (.ldiv, 1) := by decide +kernel
theorem dX8_lossBy_32 : decode cX8_lossBy 32 = .ok (.l2i, 1) := by decide +kernel
theorem dX8_lossBy_33 : decode cX8_lossBy 33 = .ok (.iadd, 1) := by decide +kernel
theorem dX8_lossBy_34 : decode cX8_lossBy 34 = .ok (.istore_n 3, 1) := by decide +kernel
theorem dX8_lossBy_35 : decode cX8_lossBy 35 = .ok (.iinc 4 1, 3) := by decide +kernel
theorem dX8_lossBy_38 : decode cX8_lossBy 38 = .ok (.goto (-33), 3) := by decide +kernel
theorem dX8_lossBy_41 : decode cX8_lossBy 41 = .ok (.iload_n 3, 1) := by decide +kernel
theorem dX8_lossBy_42 : decode cX8_lossBy 42 = .ok (.ireturn, 1) := by decide +kernel
theorem dX9_seamOdds_0 : decode cX9_seamOdds 0 = .ok (.iconst 0, 1) := by decide +kernel
theorem dX9_seamOdds_1 : decode cX9_seamOdds 1 = .ok (.istore_n 2, 1) := by decide +kernel
theorem dX9_seamOdds_2 : decode cX9_seamOdds 2 = .ok (.iconst 0, 1) := by decide +kernel
theorem dX9_seamOdds_3 : decode cX9_seamOdds 3 = .ok (.istore_n 3, 1) := by decide +kernel
theorem dX9_seamOdds_4 : decode cX9_seamOdds 4 = .ok (.iload_n 3, 1) := by decide +kernel
theorem dX9_seamOdds_5 : decode cX9_seamOdds 5 = .ok (.iconst 4, 1) := by decide +kernel
theorem dX9_seamOdds_6 : decode cX9_seamOdds 6 = .ok (.if_icmp .ge 31, 3) := by decide +kernel
theorem dX9_seamOdds_9 : decode cX9_seamOdds 9 = .ok (.aload_n 0, 1) := by decide +kernel
theorem dX9_seamOdds_10 : decode cX9_seamOdds 10 = .ok (.getfield 50, 3) := by decide +kernel
theorem dX9_seamOdds_13 : decode cX9_seamOdds 13 = .ok (.iload_n 3, 1) := by decide +kernel
theorem dX9_seamOdds_14 : decode cX9_seamOdds 14 = .ok (.invokestatic 54, 3) := by decide +kernel
theorem dX9_seamOdds_17 : decode cX9_seamOdds 17 = .ok (.ifCond .eq 14, 3) := by decide +kernel
theorem dX9_seamOdds_20 : decode cX9_seamOdds 20 = .ok (.iload_n 2, 1) := by decide +kernel
theorem dX9_seamOdds_21 : decode cX9_seamOdds 21 = .ok (.aload_n 0, 1) := by decide +kernel
theorem dX9_seamOdds_22 : decode cX9_seamOdds 22 = .ok (.getfield 26, 3) := by decide +kernel
theorem dX9_seamOdds_25 : decode cX9_seamOdds 25 = .ok (.iload_n 1, 1) := by decide +kernel
theorem dX9_seamOdds_26 : decode cX9_seamOdds 26 = .ok (.aaload, 1) := by decide +kernel
theorem dX9_seamOdds_27 : decode cX9_seamOdds 27 = .ok (.iload_n 3, 1) := by decide +kernel
theorem dX9_seamOdds_28 : decode cX9_seamOdds 28 = .ok (.iaload, 1) := by decide +kernel
theorem dX9_seamOdds_29 : decode cX9_seamOdds 29 = .ok (.iadd, 1) := by decide +kernel
theorem dX9_seamOdds_30 : decode cX9_seamOdds 30 = .ok (.istore_n 2, 1) := by decide +kernel
theorem dX9_seamOdds_31 : decode cX9_seamOdds 31 = .ok (.iinc 3 1, 3) := by decide +kernel
theorem dX9_seamOdds_34 : decode cX9_seamOdds 34 = .ok (.goto (-30), 3) := by decide +kernel
theorem dX9_seamOdds_37 : decode cX9_seamOdds 37 = .ok (.iload_n 2, 1) := by decide +kernel
theorem dX9_seamOdds_38 : decode cX9_seamOdds 38 = .ok (.ireturn, 1) := by decide +kernel
theorem dX6_isMust_0 : decode cX6_isMust 0 = .ok (.aload_n 0, 1) := by decide +kernel
theorem dX6_isMust_1 : decode cX6_isMust 1 = .ok (.getfield 34, 3) := by decide +kernel
theorem dX6_isMust_4 : decode cX6_isMust 4 = .ok (.ifCond .eq 11, 3) := by decide +kernel
theorem dX6_isMust_7 : decode cX6_isMust 7 = .ok (.aload_n 0, 1) := by decide +kernel
theorem dX6_isMust_8 : decode cX6_isMust 8 = .ok (.getfield 34, 3) := by decide +kernel
theorem dX6_isMust_11 : decode cX6_isMust 11 = .ok (.iconst 3, 1) := by decide +kernel
theorem dX6_isMust_12 : decode cX6_isMust 12 = .ok (.if_icmp .ne 7, 3) := by decide +kernel
theorem dX6_isMust_15 : decode cX6_isMust 15 = .ok (.iconst 1, 1) := by decide +kernel
theorem dX6_isMust_16 : decode cX6_isMust 16 = .ok (.goto 4, 3) := by decide +kernel
theorem dX6_isMust_19 : decode cX6_isMust 19 = .ok (.iconst 0, 1) := by decide +kernel
theorem dX6_isMust_20 : decode cX6_isMust 20 = .ok (.ireturn, 1) := by decide +kernel
theorem dX6_valueIn_0 : decode cX6_valueIn 0 = .ok (.aload_n 0, 1) := by decide +kernel
theorem dX6_valueIn_1 : decode cX6_valueIn 1 = .ok (.getfield 9, 3) := by decide +kernel
theorem dX6_valueIn_4 : decode cX6_valueIn 4 = .ok (.ifCond .ne 11, 3) := by decide +kernel
theorem dX6_valueIn_7 : decode cX6_valueIn 7 = .ok (.iload_n 1, 1) := by decide +kernel
theorem dX6_valueIn_8 : decode cX6_valueIn 8 = .ok (.aload_n 0, 1) := by decide +kernel
theorem dX6_valueIn_9 : decode cX6_valueIn 9 = .ok (.getfield 15, 3) := by decide +kernel
theorem dX6_valueIn_12 : decode cX6_valueIn 12 = .ok (.if_icmp .le 5, 3) := by decide +kernel
theorem dX6_valueIn_15 : decode cX6_valueIn 15 = .ok (.iconst 0, 1) := by decide +kernel
theorem dX6_valueIn_16 : decode cX6_valueIn 16 = .ok (.ireturn, 1) := by decide +kernel
theorem dX6_valueIn_17 : decode cX6_valueIn 17 = .ok (.iconst 0, 1) := by decide +kernel
theorem dX6_valueIn_18 : decode cX6_valueIn 18 = .ok (.aload_n 0, 1) := by decide +kernel
theorem dX6_valueIn_19 : decode cX6_valueIn 19 = .ok (.getfield 19, 3) := by decide +kernel
theorem dX6_valueIn_22 : decode cX6_valueIn 22 = .ok (.aload_n 0, 1) := by decide +kernel
theorem dX6_valueIn_23 : decode cX6_valueIn 23 = .ok (.getfield 22, 3) := by decide +kernel
theorem dX6_valueIn_26 : decode cX6_valueIn 26 = .ok (.iload_n 1, 1) := by decide +kernel
theorem dX6_valueIn_27 : decode cX6_valueIn 27 = .ok (.aload_n 0, 1) := by decide +kernel
theorem dX6_valueIn_28 : decode cX6_valueIn 28 = .ok (.getfield 25, 3) := by decide +kernel
theorem dX6_valueIn_31 : decode cX6_valueIn 31 = .ok (.isub, 1) := by decide +kernel
theorem dX6_valueIn_32 : decode cX6_valueIn 32 = .ok (.imul, 1) := by decide +kernel
theorem dX6_valueIn_33 : decode cX6_valueIn 33 = .ok (.isub, 1) := by decide +kernel
theorem dX6_valueIn_34 : decode cX6_valueIn 34 = .ok (.invokestatic 28, 3) := by decide +kernel
theorem dX6_valueIn_37 : decode cX6_valueIn 37 = .ok (.istore_n 3, 1) := by decide +kernel
theorem dX6_valueIn_38 : decode cX6_valueIn 38 = .ok (.aload_n 0, 1) := by decide +kernel
theorem dX6_valueIn_39 : decode cX6_valueIn 39 = .ok (.getfield 34, 3) := by decide +kernel
theorem dX6_valueIn_42 : decode cX6_valueIn 42 = .ok (.iconst 2, 1) := by decide +kernel
theorem dX6_valueIn_43 : decode cX6_valueIn 43 = .ok (.if_icmp .ne 16, 3) := by decide +kernel
theorem dX6_valueIn_46 : decode cX6_valueIn 46 = .ok (.iload_n 3, 1) := by decide +kernel
theorem dX6_valueIn_47 : decode cX6_valueIn 47 = .ok (.i2l, 1) := by decide +kernel
theorem dX6_valueIn_48 : decode cX6_valueIn 48 = .ok (.iload_n 2, 1) := by decide +kernel
theorem dX6_valueIn_49 : decode cX6_valueIn 49 = .ok (.i2l, 1) := by decide +kernel
theorem dX6_valueIn_50 : decode cX6_valueIn 50 = .ok (.lmul, 1) := by decide +kernel
theorem dX6_valueIn_51 : decode cX6_valueIn 51 = .ok (.ldc2_w 37, 3) := by decide +kernel
theorem dX6_valueIn_54 : decode cX6_valueIn 54 = .ok (.ldiv, 1) := by decide +kernel
theorem dX6_valueIn_55 : decode cX6_valueIn 55 = .ok (.l2i, 1) := by decide +kernel
theorem dX6_valueIn_56 : decode cX6_valueIn 56 = .ok (.goto 4, 3) := by decide +kernel
theorem dX6_valueIn_59 : decode cX6_valueIn 59 = .ok (.iload_n 3, 1) := by decide +kernel
theorem dX6_valueIn_60 : decode cX6_valueIn 60 = .ok (.ireturn, 1) := by decide +kernel
theorem dX6_planValueIn_0 : decode cX6_planValueIn 0 = .ok (.aload_n 0, 1) := by decide +kernel
theorem dX6_planValueIn_1 : decode cX6_planValueIn 1 = .ok (.invokevirtual 39, 3) := by decide +kernel
theorem dX6_planValueIn_4 : decode cX6_planValueIn 4 = .ok (.ifCond .eq 17, 3) := by decide +kernel
theorem dX6_planValueIn_7 : decode cX6_planValueIn 7 = .ok (.iload_n 1, 1) := by decide +kernel
theorem dX6_planValueIn_8 : decode cX6_planValueIn 8 = .ok (.aload_n 0, 1) := by decide +kernel
theorem dX6_planValueIn_9 : decode cX6_planValueIn 9 = .ok (.getfield 15, 3) := by decide +kernel
theorem dX6_planValueIn_12 : decode cX6_planValueIn 12 = .ok (.if_icmp .gt 9, 3) := by decide +kernel
theorem dX6_planValueIn_15 : decode cX6_planValueIn 15 = .ok (.sipush 2000, 3) := by decide +kernel
theorem dX6_planValueIn_18 : decode cX6_planValueIn 18 = .ok (.goto 4, 3) := by decide +kernel
theorem dX6_planValueIn_21 : decode cX6_planValueIn 21 = .ok (.iconst 0, 1) := by decide +kernel
theorem dX6_planValueIn_22 : decode cX6_planValueIn 22 = .ok (.istore_n 3, 1) := by decide +kernel
theorem dX6_planValueIn_23 : decode cX6_planValueIn 23 = .ok (.aload_n 0, 1) := by decide +kernel
theorem dX6_planValueIn_24 : decode cX6_planValueIn 24 = .ok (.iload_n 1, 1) := by decide +kernel
theorem dX6_planValueIn_25 : decode cX6_planValueIn 25 = .ok (.iload_n 2, 1) := by decide +kernel
theorem dX6_planValueIn_26 : decode cX6_planValueIn 26 = .ok (.invokevirtual 43, 3) := by decide +kernel
theorem dX6_planValueIn_29 : decode cX6_planValueIn 29 = .ok (.iload_n 3, 1) := by decide +kernel
theorem dX6_planValueIn_30 : decode cX6_planValueIn 30 = .ok (.iadd, 1) := by decide +kernel
theorem dX6_planValueIn_31 : decode cX6_planValueIn 31 = .ok (.ireturn, 1) := by decide +kernel
theorem dX4_priceSet_0 : decode cX4_priceSet 0 = .ok (.aload_n 0, 1) := by decide +kernel
theorem dX4_priceSet_1 : decode cX4_priceSet 1 = .ok (.getfield 40, 3) := by decide +kernel
theorem dX4_priceSet_4 : decode cX4_priceSet 4 = .ok (.iload_n 1, 1) := by decide +kernel
theorem dX4_priceSet_5 : decode cX4_priceSet 5 = .ok (.iconst 0, 1) := by decide +kernel
theorem dX4_priceSet_6 : decode cX4_priceSet 6 = .ok (.iastore, 1) := by decide +kernel
theorem dX4_priceSet_7 : decode cX4_priceSet 7 = .ok (.aload_n 0, 1) := by decide +kernel
theorem dX4_priceSet_8 : decode cX4_priceSet 8 = .ok (.getfield 43, 3) := by decide +kernel
theorem dX4_priceSet_11 : decode cX4_priceSet 11 = .ok (.iload_n 1, 1) := by decide +kernel
theorem dX4_priceSet_12 : decode cX4_priceSet 12 = .ok (.iconst (-1), 1) := by decide +kernel
theorem dX4_priceSet_13 : decode cX4_priceSet 13 = .ok (.iastore, 1) := by decide +kernel
theorem dX4_priceSet_14 : decode cX4_priceSet 14 = .ok (.aload_n 0, 1) := by decide +kernel
theorem dX4_priceSet_15 : decode cX4_priceSet 15 = .ok (.getfield 31, 3) := by decide +kernel
theorem dX4_priceSet_18 : decode cX4_priceSet 18 = .ok (.iload_n 2, 1) := by decide +kernel
theorem dX4_priceSet_19 : decode cX4_priceSet 19 = .ok (.iaload, 1) := by decide +kernel
theorem dX4_priceSet_20 : decode cX4_priceSet 20 = .ok (.iconst (-1), 1) := by decide +kernel
theorem dX4_priceSet_21 : decode cX4_priceSet 21 = .ok (.if_icmp .ne 4, 3) := by decide +kernel
theorem dX4_priceSet_24 : decode cX4_priceSet 24 = .ok (.return_, 1) := by decide +kernel
theorem dX4_priceSet_25 : decode cX4_priceSet 25 = .ok (.iconst 0, 1) := by decide +kernel
theorem dX4_priceSet_26 : decode cX4_priceSet 26 = .ok (.istore_n 3, 1) := by decide +kernel
theorem dX4_priceSet_27 : decode cX4_priceSet 27 = .ok (.iload_n 3, 1) := by decide +kernel
theorem dX4_priceSet_28 : decode cX4_priceSet 28 = .ok (.iconst 4, 1) := by decide +kernel
theorem dX4_priceSet_29 : decode cX4_priceSet 29 = .ok (.if_icmp .ge 81, 3) := by decide +kernel
theorem dX4_priceSet_32 : decode cX4_priceSet 32 = .ok (.aload_n 0, 1) := by decide +kernel
theorem dX4_priceSet_33 : decode cX4_priceSet 33 = .ok (.getfield 34, 3) := by decide +kernel
theorem dX4_priceSet_36 : decode cX4_priceSet 36 = .ok (.iload_n 2, 1) := by decide +kernel
theorem dX4_priceSet_37 : decode cX4_priceSet 37 = .ok (.iaload, 1) := by decide +kernel
theorem dX4_priceSet_38 : decode cX4_priceSet 38 = .ok (.aload_n 0, 1) := by decide +kernel
theorem dX4_priceSet_39 : decode cX4_priceSet 39 = .ok (.getfield 56, 3) := by decide +kernel
theorem dX4_priceSet_42 : decode cX4_priceSet 42 = .ok (.getfield 167, 3) := by decide +kernel
theorem dX4_priceSet_45 : decode cX4_priceSet 45 = .ok (.iload_n 3, 1) := by decide +kernel
theorem dX4_priceSet_46 : decode cX4_priceSet 46 = .ok (.iaload, 1) := by decide +kernel
theorem dX4_priceSet_47 : decode cX4_priceSet 47 = .ok (.imul, 1) := by decide +kernel
theorem dX4_priceSet_48 : decode cX4_priceSet 48 = .ok (.bipush 100, 2) := by decide +kernel
theorem dX4_priceSet_50 : decode cX4_priceSet 50 = .ok (.idiv, 1) := by decide +kernel
theorem dX4_priceSet_51 : decode cX4_priceSet 51 = .ok (.aload_n 0, 1) := by decide +kernel
theorem dX4_priceSet_52 : decode cX4_priceSet 52 = .ok (.getfield 37, 3) := by decide +kernel
theorem dX4_priceSet_55 : decode cX4_priceSet 55 = .ok (.iload_n 3, 1) := by decide +kernel
theorem dX4_priceSet_56 : decode cX4_priceSet 56 = .ok (.iaload, 1) := by decide +kernel
theorem dX4_priceSet_57 : decode cX4_priceSet 57 = .ok (.isub, 1) := by decide +kernel
theorem dX4_priceSet_58 : decode cX4_priceSet 58 = .ok (.istore 4, 2) := by decide +kernel
theorem dX4_priceSet_60 : decode cX4_priceSet 60 = .ok (.iload 4, 2) := by decide +kernel
theorem dX4_priceSet_62 : decode cX4_priceSet 62 = .ok (.aload_n 0, 1) := by decide +kernel
theorem dX4_priceSet_63 : decode cX4_priceSet 63 = .ok (.getfield 40, 3) := by decide +kernel
theorem dX4_priceSet_66 : decode cX4_priceSet 66 = .ok (.iload_n 1, 1) := by decide +kernel
theorem dX4_priceSet_67 : decode cX4_priceSet 67 = .ok (.iaload, 1) := by decide +kernel
theorem dX4_priceSet_68 : decode cX4_priceSet 68 = .ok (.if_icmp .le 36, 3) := by decide +kernel
theorem dX4_priceSet_71 : decode cX4_priceSet 71 = .ok (.aload_n 0, 1) := by decide +kernel
theorem dX4_priceSet_72 : decode cX4_priceSet 72 = .ok (.getfield 21, 3) := by decide +kernel
theorem dX4_priceSet_75 : decode cX4_priceSet 75 = .ok (.aload_n 0, 1) := by decide +kernel
theorem dX4_priceSet_76 : decode cX4_priceSet 76 = .ok (.getfield 28, 3) := by decide +kernel
theorem dX4_priceSet_79 : decode cX4_priceSet 79 = .ok (.iload_n 2, 1) := by decide +kernel
theorem dX4_priceSet_80 : decode cX4_priceSet 80 = .ok (.iaload, 1) := by decide +kernel
theorem dX4_priceSet_81 : decode cX4_priceSet 81 = .ok (.iload_n 3, 1) := by decide +kernel
theorem dX4_priceSet_82 : decode cX4_priceSet 82 = .ok (.iconst 0, 1) := by decide +kernel
theorem dX4_priceSet_83 : decode cX4_priceSet 83 = .ok (.invokevirtual 170, 3) := by decide +kernel
theorem dX4_priceSet_86 : decode cX4_priceSet 86 = .ok (.ifCond .ne 18, 3) := by decide +kernel
theorem dX4_priceSet_89 : decode cX4_priceSet 89 = .ok (.aload_n 0, 1) := by decide +kernel
theorem dX4_priceSet_90 : decode cX4_priceSet 90 = .ok (.getfield 40, 3) := by decide +kernel
theorem dX4_priceSet_93 : decode cX4_priceSet 93 = .ok (.iload_n 1, 1) := by decide +kernel
theorem dX4_priceSet_94 : decode cX4_priceSet 94 = .ok (.iload 4, 2) := by decide +kernel
theorem dX4_priceSet_96 : decode cX4_priceSet 96 = .ok (.iastore, 1) := by decide +kernel
theorem dX4_priceSet_97 : decode cX4_priceSet 97 = .ok (.aload_n 0, 1) := by decide +kernel
theorem dX4_priceSet_98 : decode cX4_priceSet 98 = .ok (.getfield 43, 3) := by decide +kernel
theorem dX4_priceSet_101 : decode cX4_priceSet 101 = .ok (.iload_n 1, 1) := by decide +kernel
theorem dX4_priceSet_102 : decode cX4_priceSet 102 = .ok (.iload_n 3, 1) := by decide +kernel
theorem dX4_priceSet_103 : decode cX4_priceSet 103 = .ok (.iastore, 1) := by decide +kernel
theorem dX4_priceSet_104 : decode cX4_priceSet 104 = .ok (.iinc 3 1, 3) := by decide +kernel
theorem dX4_priceSet_107 : decode cX4_priceSet 107 = .ok (.goto (-80), 3) := by decide +kernel
theorem dX4_priceSet_110 : decode cX4_priceSet 110 = .ok (.return_, 1) := by decide +kernel
theorem dX4_price_0 : decode cX4_price 0 = .ok (.aload_n 0, 1) := by decide +kernel
theorem dX4_price_1 : decode cX4_price 1 = .ok (.getfield 21, 3) := by decide +kernel
theorem dX4_price_4 : decode cX4_price 4 = .ok (.aload_n 3, 1) := by decide +kernel
theorem dX4_price_5 : decode cX4_price 5 = .ok (.aload_n 0, 1) := by decide +kernel
theorem dX4_price_6 : decode cX4_price 6 = .ok (.getfield 60, 3) := by decide +kernel
theorem dX4_price_9 : decode cX4_price 9 = .ok (.iload_n 2, 1) := by decide +kernel
theorem dX4_price_10 : decode cX4_price 10 = .ok (.aload_n 0, 1) := by decide +kernel
theorem dX4_price_11 : decode cX4_price 11 = .ok (.getfield 52, 3) := by decide +kernel
theorem dX4_price_14 : decode cX4_price 14 = .ok (.getfield 143, 3) := by decide +kernel
theorem dX4_price_17 : decode cX4_price 17 = .ok (.iload_n 1, 1) := by decide +kernel
theorem dX4_price_18 : decode cX4_price 18 = .ok (.aaload, 1) := by decide +kernel
theorem dX4_price_19 : decode cX4_price 19 = .ok (.invokevirtual 147, 3) := by decide +kernel
theorem dX4_price_22 : decode cX4_price 22 = .ok (.iconst 0, 1) := by decide +kernel
theorem dX4_price_23 : decode cX4_price 23 = .ok (.istore 4, 2) := by decide +kernel
theorem dX4_price_25 : decode cX4_price 25 = .ok (.iload 4, 2) := by decide +kernel
theorem dX4_price_27 : decode cX4_price 27 = .ok (.iconst 4, 1) := by decide +kernel
theorem dX4_price_28 : decode cX4_price 28 = .ok (.if_icmp .ge 34, 3) := by decide +kernel
theorem dX4_price_31 : decode cX4_price 31 = .ok (.aload_n 0, 1) := by decide +kernel
theorem dX4_price_32 : decode cX4_price 32 = .ok (.getfield 37, 3) := by decide +kernel
theorem dX4_price_35 : decode cX4_price 35 = .ok (.iload 4, 2) := by decide +kernel
theorem dX4_price_37 : decode cX4_price 37 = .ok (.aload_n 0, 1) := by decide +kernel
theorem dX4_price_38 : decode cX4_price 38 = .ok (.getfield 56, 3) := by decide +kernel
theorem dX4_price_41 : decode cX4_price 41 = .ok (.iload 4, 2) := by decide +kernel
theorem dX4_price_43 : decode cX4_price 43 = .ok (.aload_n 0, 1) := by decide +kernel
theorem dX4_price_44 : decode cX4_price 44 = .ok (.getfield 52, 3) := by decide +kernel
theorem dX4_price_47 : decode cX4_price 47 = .ok (.getfield 143, 3) := by decide +kernel
theorem dX4_price_50 : decode cX4_price 50 = .ok (.iload_n 1, 1) := by decide +kernel
theorem dX4_price_51 : decode cX4_price 51 = .ok (.aaload, 1) := by decide +kernel
theorem dX4_price_52 : decode cX4_price 52 = .ok (.invokevirtual 151, 3) := by decide +kernel
theorem dX4_price_55 : decode cX4_price 55 = .ok (.iastore, 1) := by decide +kernel
theorem dX4_price_56 : decode cX4_price 56 = .ok (.iinc 4 1, 3) := by decide +kernel
theorem dX4_price_59 : decode cX4_price 59 = .ok (.goto (-34), 3) := by decide +kernel
theorem dX4_price_62 : decode cX4_price 62 = .ok (.aload_n 0, 1) := by decide +kernel
theorem dX4_price_63 : decode cX4_price 63 = .ok (.getfield 34, 3) := by decide +kernel
theorem dX4_price_66 : decode cX4_price 66 = .ok (.iconst 0, 1) := by decide +kernel
theorem dX4_price_67 : decode cX4_price 67 = .ok (.iconst 0, 1) := by decide +kernel
theorem dX4_price_68 : decode cX4_price 68 = .ok (.iastore, 1) := by decide +kernel
theorem dX4_price_69 : decode cX4_price 69 = .ok (.iconst 0, 1) := by decide +kernel
theorem dX4_price_70 : decode cX4_price 70 = .ok (.istore 4, 2) := by decide +kernel
theorem dX4_price_72 : decode cX4_price 72 = .ok (.iload 4, 2) := by decide +kernel
theorem dX4_price_74 : decode cX4_price 74 = .ok (.aload_n 0, 1) := by decide +kernel
theorem dX4_price_75 : decode cX4_price 75 = .ok (.getfield 108, 3) := by decide +kernel
theorem dX4_price_78 : decode cX4_price 78 = .ok (.if_icmp .ge 78, 3) := by decide +kernel
theorem dX4_price_81 : decode cX4_price 81 = .ok (.aload_n 0, 1) := by decide +kernel
theorem dX4_price_82 : decode cX4_price 82 = .ok (.getfield 60, 3) := by decide +kernel
theorem dX4_price_85 : decode cX4_price 85 = .ok (.getfield 124, 3) := by decide +kernel
theorem dX4_price_88 : decode cX4_price 88 = .ok (.aload_n 0, 1) := by decide +kernel
theorem dX4_price_89 : decode cX4_price 89 = .ok (.getfield 25, 3) := by decide +kernel
theorem dX4_price_92 : decode cX4_price 92 = .ok (.iload 4, 2) := by decide +kernel
theorem dX4_price_94 : decode cX4_price 94 = .ok (.iaload, 1) := by decide +kernel
theorem dX4_price_95 : decode cX4_price 95 = .ok (.aaload, 1) := by decide +kernel
theorem dX4_price_96 : decode cX4_price 96 = .ok (.iload_n 2, 1) := by decide +kernel
theorem dX4_price_97 : decode cX4_price 97 = .ok (.aload_n 0, 1) := by decide +kernel
theorem dX4_price_98 : decode cX4_price 98 = .ok (.getfield 52, 3) := by decide +kernel
theorem dX4_price_101 : decode cX4_price 101 = .ok (.iload_n 1, 1) := by decide +kernel
theorem dX4_price_102 : decode cX4_price 102 = .ok (.invokevirtual 157, 3) := by decide +kernel
theorem dX4_price_105 : decode cX4_price 105 = .ok (.invokevirtual 161, 3) := by decide +kernel
theorem dX4_price_108 : decode cX4_price 108 = .ok (.istore 5, 2) := by decide +kernel
theorem dX4_price_110 : decode cX4_price 110 = .ok (.iconst 0, 1) := by decide +kernel
theorem dX4_price_111 : decode cX4_price 111 = .ok (.istore 6, 2) := by decide +kernel
theorem dX4_price_113 : decode cX4_price 113 = .ok (.iload 6, 2) := by decide +kernel
theorem dX4_price_115 : decode cX4_price 115 = .ok (.iconst 1, 1) := by decide +kernel
theorem dX4_price_116 : decode cX4_price 116 = .ok (.iload 4, 2) := by decide +kernel
theorem dX4_price_118 : decode cX4_price 118 = .ok (.ishl, 1) := by decide +kernel
theorem dX4_price_119 : decode cX4_price 119 = .ok (.if_icmp .ge 31, 3) := by decide +kernel
theorem dX4_price_122 : decode cX4_price 122 = .ok (.aload_n 0, 1) := by decide +kernel
theorem dX4_price_123 : decode cX4_price 123 = .ok (.getfield 34, 3) := by decide +kernel
theorem dX4_price_126 : decode cX4_price 126 = .ok (.iload 6, 2) := by decide +kernel
theorem dX4_price_128 : decode cX4_price 128 = .ok (.iconst 1, 1) := by decide +kernel
theorem dX4_price_129 : decode cX4_price 129 = .ok (.iload 4, 2) := by decide +kernel
theorem dX4_price_131 : decode cX4_price 131 = .ok (.ishl, 1) := by decide +kernel
theorem dX4_price_132 : decode cX4_price 132 = .ok (.ior, 1) := by decide +kernel
theorem dX4_price_133 : decode cX4_price 133 = .ok (.aload_n 0, 1) := by decide +kernel
theorem dX4_price_134 : decode cX4_price 134 = .ok (.getfield 34, 3) := by decide +kernel
theorem dX4_price_137 : decode cX4_price 137 = .ok (.iload 6, 2) := by decide +kernel
theorem dX4_price_139 : decode cX4_price 139 = .ok (.iaload, 1) := by decide +kernel
theorem dX4_price_140 : decode cX4_price 140 = .ok (.iload 5, 2) := by decide +kernel
theorem dX4_price_142 : decode cX4_price 142 = .ok (.iadd, 1) := by decide +kernel
theorem dX4_price_143 : decode cX4_price 143 = .ok (.iastore, 1) := by decide +kernel
theorem dX4_price_144 : decode cX4_price 144 = .ok (.iinc 6 1, 3) := by decide +kernel
theorem dX4_price_147 : decode cX4_price 147 = .ok (.goto (-34), 3) := by decide +kernel
theorem dX4_price_150 : decode cX4_price 150 = .ok (.iinc 4 1, 3) := by decide +kernel
theorem dX4_price_153 : decode cX4_price 153 = .ok (.goto (-81), 3) := by decide +kernel
theorem dX4_price_156 : decode cX4_price 156 = .ok (.iconst 1, 1) := by decide +kernel
theorem dX4_price_157 : decode cX4_price 157 = .ok (.istore 4, 2) := by decide +kernel
theorem dX4_price_159 : decode cX4_price 159 = .ok (.iload 4, 2) := by decide +kernel
theorem dX4_price_161 : decode cX4_price 161 = .ok (.iconst 1, 1) := by decide +kernel
theorem dX4_price_162 : decode cX4_price 162 = .ok (.aload_n 0, 1) := by decide +kernel
theorem dX4_price_163 : decode cX4_price 163 = .ok (.getfield 108, 3) := by decide +kernel
theorem dX4_price_166 : decode cX4_price 166 = .ok (.ishl, 1) := by decide +kernel
theorem dX4_price_167 : decode cX4_price 167 = .ok (.if_icmp .ge 22, 3) := by decide +kernel
theorem dX4_price_170 : decode cX4_price 170 = .ok (.aload_n 0, 1) := by decide +kernel
theorem dX4_price_171 : decode cX4_price 171 = .ok (.iload_n 1, 1) := by decide +kernel
theorem dX4_price_172 : decode cX4_price 172 = .ok (.bipush 64, 2) := by decide +kernel
theorem dX4_price_174 : decode cX4_price 174 = .ok (.imul, 1) := by decide +kernel
theorem dX4_price_175 : decode cX4_price 175 = .ok (.iload 4, 2) := by decide +kernel
theorem dX4_price_177 : decode cX4_price 177 = .ok (.iadd, 1) := by decide +kernel
theorem dX4_price_178 : decode cX4_price 178 = .ok (.iload 4, 2) := by decide +kernel
theorem dX4_price_180 : decode cX4_price 180 = .ok (.invokevirtual 164, 3) := by decide +kernel
theorem dX4_price_183 : decode cX4_price 183 = .ok (.iinc 4 1, 3) := by decide +kernel
theorem dX4_price_186 : decode cX4_price 186 = .ok (.goto (-27), 3) := by decide +kernel
theorem dX4_price_189 : decode cX4_price 189 = .ok (.return_, 1) := by decide +kernel
theorem dX4_mostBarsAt_0 : decode cX4_mostBarsAt 0 = .ok (.aload_n 0, 1) := by decide +kernel
theorem dX4_mostBarsAt_1 : decode cX4_mostBarsAt 1 = .ok (.getfield 80, 3) := by decide +kernel
theorem dX4_mostBarsAt_4 : decode cX4_mostBarsAt 4 = .ok (.ifCond .eq 14, 3) := by decide +kernel
theorem dX4_mostBarsAt_7 : decode cX4_mostBarsAt 7 = .ok (.iload_n 3, 1) := by decide +kernel
theorem dX4_mostBarsAt_8 : decode cX4_mostBarsAt 8 = .ok (.iload_n 2, 1) := by decide +kernel
theorem dX4_mostBarsAt_9 : decode cX4_mostBarsAt 9 = .ok (.iadd, 1) := by decide +kernel
theorem dX4_mostBarsAt_10 : decode cX4_mostBarsAt 10 = .ok (.aload_n 0, 1) := by decide +kernel
theorem dX4_mostBarsAt_11 : decode cX4_mostBarsAt 11 = .ok (.getfield 49, 3) := by decide +kernel
theorem dX4_mostBarsAt_14 : decode cX4_mostBarsAt 14 = .ok (.arraylength, 1) := by decide +kernel
theorem dX4_mostBarsAt_15 : decode cX4_mostBarsAt 15 = .ok (.if_icmp .lt 5, 3) := by decide +kernel
theorem dX4_mostBarsAt_18 : decode cX4_mostBarsAt 18 = .ok (.iconst 0, 1) := by decide +kernel
theorem dX4_mostBarsAt_19 : decode cX4_mostBarsAt 19 = .ok (.ireturn, 1) := by decide +kernel
theorem dX4_mostBarsAt_20 : decode cX4_mostBarsAt 20 = .ok (.iconst 0, 1) := by decide +kernel
theorem dX4_mostBarsAt_21 : decode cX4_mostBarsAt 21 = .ok (.istore 6, 2) := by decide +kernel
theorem dX4_mostBarsAt_23 : decode cX4_mostBarsAt 23 = .ok (.iload 6, 2) := by decide +kernel
theorem dX4_mostBarsAt_25 : decode cX4_mostBarsAt 25 = .ok (.iload_n 2, 1) := by decide +kernel
theorem dX4_mostBarsAt_26 : decode cX4_mostBarsAt 26 = .ok (.if_icmp .ge 28, 3) := by decide +kernel
theorem dX4_mostBarsAt_29 : decode cX4_mostBarsAt 29 = .ok (.aload_n 0, 1) := by decide +kernel
theorem dX4_mostBarsAt_30 : decode cX4_mostBarsAt 30 = .ok (.getfield 49, 3) := by decide +kernel
theorem dX4_mostBarsAt_33 : decode cX4_mostBarsAt 33 = .ok (.iload_n 3, 1) := by decide +kernel
theorem dX4_mostBarsAt_34 : decode cX4_mostBarsAt 34 = .ok (.iload 6, 2) := by decide +kernel
theorem dX4_mostBarsAt_36 : decode cX4_mostBarsAt 36 = .ok (.iadd, 1) := by decide +kernel
theorem dX4_mostBarsAt_37 : decode cX4_mostBarsAt 37 = .ok (.iload_n 1, 1) := by decide +kernel
theorem dX4_mostBarsAt_38 : decode cX4_mostBarsAt 38 = .ok (.iload_n 2, 1) := by decide +kernel
theorem dX4_mostBarsAt_39 : decode cX4_mostBarsAt 39 = .ok (.iconst 1, 1) := by decide +kernel
theorem dX4_mostBarsAt_40 : decode cX4_mostBarsAt 40 = .ok (.isub, 1) := by decide +kernel
theorem dX4_mostBarsAt_41 : decode cX4_mostBarsAt 41 = .ok (.iload 6, 2) := by decide +kernel
theorem dX4_mostBarsAt_43 : decode cX4_mostBarsAt 43 = .ok (.isub, 1) := by decide +kernel
theorem dX4_mostBarsAt_44 : decode cX4_mostBarsAt 44 = .ok (.ishr, 1) := by decide +kernel
theorem dX4_mostBarsAt_45 : decode cX4_mostBarsAt 45 = .ok (.iconst 1, 1) := by decide +kernel
theorem dX4_mostBarsAt_46 : decode cX4_mostBarsAt 46 = .ok (.iand, 1) := by decide +kernel
theorem dX4_mostBarsAt_47 : decode cX4_mostBarsAt 47 = .ok (.iastore, 1) := by decide +kernel
theorem dX4_mostBarsAt_48 : decode cX4_mostBarsAt 48 = .ok (.iinc 6 1, 3) := by decide +kernel
theorem dX4_mostBarsAt_51 : decode cX4_mostBarsAt 51 = .ok (.goto (-28), 3) := by decide +kernel
theorem dX4_mostBarsAt_54 : decode cX4_mostBarsAt 54 = .ok (.aload_n 0, 1) := by decide +kernel
theorem dX4_mostBarsAt_55 : decode cX4_mostBarsAt 55 = .ok (.getfield 49, 3) := by decide +kernel
theorem dX4_mostBarsAt_58 : decode cX4_mostBarsAt 58 = .ok (.iload_n 3, 1) := by decide +kernel
theorem dX4_mostBarsAt_59 : decode cX4_mostBarsAt 59 = .ok (.iload_n 2, 1) := by decide +kernel
theorem dX4_mostBarsAt_60 : decode cX4_mostBarsAt 60 = .ok (.iadd, 1) := by decide +kernel
theorem dX4_mostBarsAt_61 : decode cX4_mostBarsAt 61 = .ok (.iconst 0, 1) := by decide +kernel
theorem dX4_mostBarsAt_62 : decode cX4_mostBarsAt 62 = .ok (.iastore, 1) := by decide +kernel
theorem dX4_mostBarsAt_63 : decode cX4_mostBarsAt 63 = .ok (.aload_n 0, 1) := by decide +kernel
theorem dX4_mostBarsAt_64 : decode cX4_mostBarsAt 64 = .ok (.getfield 49, 3) := by decide +kernel
theorem dX4_mostBarsAt_67 : decode cX4_mostBarsAt 67 = .ok (.iload_n 3, 1) := by decide +kernel
theorem dX4_mostBarsAt_68 : decode cX4_mostBarsAt 68 = .ok (.dup2, 1) := by decide +kernel
theorem dX4_mostBarsAt_69 : decode cX4_mostBarsAt 69 = .ok (.iaload, 1) := by decide +kernel
theorem dX4_mostBarsAt_70 : decode cX4_mostBarsAt 70 = .ok (.iload 4, 2) := by decide +kernel
theorem dX4_mostBarsAt_72 : decode cX4_mostBarsAt 72 = .ok (.iadd, 1) := by decide +kernel
theorem dX4_mostBarsAt_73 : decode cX4_mostBarsAt 73 = .ok (.iastore, 1) := by decide +kernel
theorem dX4_mostBarsAt_74 : decode cX4_mostBarsAt 74 = .ok (.aload 5, 2) := by decide +kernel
theorem dX4_mostBarsAt_76 : decode cX4_mostBarsAt 76 = .ok (.aload_n 0, 1) := by decide +kernel
theorem dX4_mostBarsAt_77 : decode cX4_mostBarsAt 77 = .ok (.getfield 49, 3) := by decide +kernel
theorem dX4_mostBarsAt_80 : decode cX4_mostBarsAt 80 = .ok (.iload_n 3, 1) := by decide +kernel
theorem dX4_mostBarsAt_81 : decode cX4_mostBarsAt 81 = .ok (.iload_n 2, 1) := by decide +kernel
theorem dX4_mostBarsAt_82 : decode cX4_mostBarsAt 82 = .ok (.iadd, 1) := by decide +kernel
theorem dX4_mostBarsAt_83 : decode cX4_mostBarsAt 83 = .ok (.invokevirtual 174, 3) := by decide +kernel
theorem dX4_mostBarsAt_86 : decode cX4_mostBarsAt 86 = .ok (.ireturn, 1) := by decide +kernel
theorem dX4_nodeBehind_0 : decode cX4_nodeBehind 0 = .ok (.iload_n 1, 1) := by decide +kernel
theorem dX4_nodeBehind_1 : decode cX4_nodeBehind 1 = .ok (.iconst 2, 1) := by decide +kernel
theorem dX4_nodeBehind_2 : decode cX4_nodeBehind 2 = .ok (.imul, 1) := by decide +kernel
theorem dX4_nodeBehind_3 : decode cX4_nodeBehind 3 = .ok (.iload_n 2, 1) := by decide +kernel
theorem dX4_nodeBehind_4 : decode cX4_nodeBehind 4 = .ok (.ifCond .eq 14, 3) := by decide +kernel
theorem dX4_nodeBehind_7 : decode cX4_nodeBehind 7 = .ok (.aload_n 0, 1) := by decide +kernel
theorem dX4_nodeBehind_8 : decode cX4_nodeBehind 8 = .ok (.getfield 80, 3) := by decide +kernel
theorem dX4_nodeBehind_11 : decode cX4_nodeBehind 11 = .ok (.ifCond .eq 7, 3) := by decide +kernel
theorem dX4_nodeBehind_14 : decode cX4_nodeBehind 14 = .ok (.iconst 1, 1) := by decide +kernel
theorem dX4_nodeBehind_15 : decode cX4_nodeBehind 15 = .ok (.goto 4, 3) := by decide +kernel
theorem dX4_nodeBehind_18 : decode cX4_nodeBehind 18 = .ok (.iconst 0, 1) := by decide +kernel
theorem dX4_nodeBehind_19 : decode cX4_nodeBehind 19 = .ok (.iadd, 1) := by decide +kernel
theorem dX4_nodeBehind_20 : decode cX4_nodeBehind 20 = .ok (.ireturn, 1) := by decide +kernel
theorem dX4_total_0 : decode cX4_total 0 = .ok (.iload_n 1, 1) := by decide +kernel
theorem dX4_total_1 : decode cX4_total 1 = .ok (.iconst 1, 1) := by decide +kernel
theorem dX4_total_2 : decode cX4_total 2 = .ok (.aload_n 0, 1) := by decide +kernel
theorem dX4_total_3 : decode cX4_total 3 = .ok (.getfield 70, 3) := by decide +kernel
theorem dX4_total_6 : decode cX4_total 6 = .ok (.ishl, 1) := by decide +kernel
theorem dX4_total_7 : decode cX4_total 7 = .ok (.if_icmp .lt 7, 3) := by decide +kernel
theorem dX4_total_10 : decode cX4_total 10 = .ok (.iconst 0, 1) := by decide +kernel
theorem dX4_total_11 : decode cX4_total 11 = .ok (.goto 14, 3) := by decide +kernel
theorem dX4_total_14 : decode cX4_total 14 = .ok (.aload_n 0, 1) := by decide +kernel
theorem dX4_total_15 : decode cX4_total 15 = .ok (.getfield 46, 3) := by decide +kernel
theorem dX4_total_18 : decode cX4_total 18 = .ok (.iload_n 1, 1) := by decide +kernel
theorem dX4_total_19 : decode cX4_total 19 = .ok (.bipush 64, 2) := by decide +kernel
theorem dX4_total_21 : decode cX4_total 21 = .ok (.imul, 1) := by decide +kernel
theorem dX4_total_22 : decode cX4_total 22 = .ok (.iload_n 2, 1) := by decide +kernel
theorem dX4_total_23 : decode cX4_total 23 = .ok (.iadd, 1) := by decide +kernel
theorem dX4_total_24 : decode cX4_total 24 = .ok (.iaload, 1) := by decide +kernel
theorem dX4_total_25 : decode cX4_total 25 = .ok (.ireturn, 1) := by decide +kernel
theorem dX4_decide_0 : decode cX4_decide 0 = .ok (.iconst 1, 1) := by decide +kernel
theorem dX4_decide_1 : decode cX4_decide 1 = .ok (.aload_n 0, 1) := by decide +kernel
theorem dX4_decide_2 : decode cX4_decide 2 = .ok (.getfield 108, 3) := by decide +kernel
theorem dX4_decide_5 : decode cX4_decide 5 = .ok (.ishl, 1) := by decide +kernel
theorem dX4_decide_6 : decode cX4_decide 6 = .ok (.iconst 1, 1) := by decide +kernel
theorem dX4_decide_7 : decode cX4_decide 7 = .ok (.isub, 1) := by decide +kernel
theorem dX4_decide_8 : decode cX4_decide 8 = .ok (.iload_n 3, 1) := by decide +kernel
theorem dX4_decide_9 : decode cX4_decide 9 = .ok (.iconst (-1), 1) := by decide +kernel
theorem dX4_decide_10 : decode cX4_decide 10 = .ok (.ixor, 1) := by decide +kernel
theorem dX4_decide_11 : decode cX4_decide 11 = .ok (.iand, 1) := by decide +kernel
theorem dX4_decide_12 : decode cX4_decide 12 = .ok (.istore 5, 2) := by decide +kernel
theorem dX4_decide_14 : decode cX4_decide 14 = .ok (.iconst 0, 1) := by decide +kernel
theorem dX4_decide_15 : decode cX4_decide 15 = .ok (.istore 6, 2) := by decide +kernel
theorem dX4_decide_17 : decode cX4_decide 17 = .ok (.aload_n 0, 1) := by decide +kernel
theorem dX4_decide_18 : decode cX4_decide 18 = .ok (.aload_n 0, 1) := by decide +kernel
theorem dX4_decide_19 : decode cX4_decide 19 = .ok (.iload_n 1, 1) := by decide +kernel
theorem dX4_decide_20 : decode cX4_decide 20 = .ok (.iconst 0, 1) := by decide +kernel
theorem dX4_decide_21 : decode cX4_decide 21 = .ok (.invokevirtual 178, 3) := by decide +kernel
theorem dX4_decide_24 : decode cX4_decide 24 = .ok (.iload_n 3, 1) := by decide +kernel
theorem dX4_decide_25 : decode cX4_decide 25 = .ok (.invokevirtual 182, 3) := by decide +kernel
theorem dX4_decide_28 : decode cX4_decide 28 = .ok (.istore 7, 2) := by decide +kernel
theorem dX4_decide_30 : decode cX4_decide 30 = .ok (.iconst 0, 1) := by decide +kernel
theorem dX4_decide_31 : decode cX4_decide 31 = .ok (.istore 8, 2) := by decide +kernel
theorem dX4_decide_33 : decode cX4_decide 33 = .ok (.iconst 1, 1) := by decide +kernel
theorem dX4_decide_34 : decode cX4_decide 34 = .ok (.iload 5, 2) := by decide +kernel
theorem dX4_decide_36 : decode cX4_decide 36 = .ok (.invokestatic 185, 3) := by decide +kernel
theorem dX4_decide_39 : decode cX4_decide 39 = .ok (.ishl, 1) := by decide +kernel
theorem dX4_decide_40 : decode cX4_decide 40 = .ok (.istore 9, 2) := by decide +kernel
theorem dX4_decide_42 : decode cX4_decide 42 = .ok (.iconst 1, 1) := by decide +kernel
theorem dX4_decide_43 : decode cX4_decide 43 = .ok (.istore 10, 2) := by decide +kernel
theorem dX4_decide_45 : decode cX4_decide 45 = .ok (.iload 10, 2) := by decide +kernel
theorem dX4_decide_47 : decode cX4_decide 47 = .ok (.iload 9, 2) := by decide +kernel
theorem dX4_decide_49 : decode cX4_decide 49 = .ok (.if_icmp .ge 94, 3) := by decide +kernel
theorem dX4_decide_52 : decode cX4_decide 52 = .ok (.iload 8, 2) := by decide +kernel
theorem dX4_decide_54 : decode cX4_decide 54 = .ok (.iload 5, 2) := by decide +kernel
theorem dX4_decide_56 : decode cX4_decide 56 = .ok (.isub, 1) := by decide +kernel
theorem dX4_decide_57 : decode cX4_decide 57 = .ok (.iload 5, 2) := by decide +kernel
theorem dX4_decide_59 : decode cX4_decide 59 = .ok (.iand, 1) := by decide +kernel
theorem dX4_decide_60 : decode cX4_decide 60 = .ok (.istore 8, 2) := by decide +kernel
theorem dX4_decide_62 : decode cX4_decide 62 = .ok (.aload_n 0, 1) := by decide +kernel
theorem dX4_decide_63 : decode cX4_decide 63 = .ok (.getfield 40, 3) := by decide +kernel
theorem dX4_decide_66 : decode cX4_decide 66 = .ok (.iload_n 2, 1) := by decide +kernel
theorem dX4_decide_67 : decode cX4_decide 67 = .ok (.bipush 64, 2) := by decide +kernel
theorem dX4_decide_69 : decode cX4_decide 69 = .ok (.imul, 1) := by decide +kernel
theorem dX4_decide_70 : decode cX4_decide 70 = .ok (.iload 8, 2) := by decide +kernel
theorem dX4_decide_72 : decode cX4_decide 72 = .ok (.iadd, 1) := by decide +kernel
theorem dX4_decide_73 : decode cX4_decide 73 = .ok (.iaload, 1) := by decide +kernel
theorem dX4_decide_74 : decode cX4_decide 74 = .ok (.istore 11, 2) := by decide +kernel
theorem dX4_decide_76 : decode cX4_decide 76 = .ok (.iload 11, 2) := by decide +kernel
theorem dX4_decide_78 : decode cX4_decide 78 = .ok (.ifCond .le 59, 3) := by decide +kernel
theorem dX4_decide_81 : decode cX4_decide 81 = .ok (.iload 4, 2) := by decide +kernel
theorem dX4_decide_83 : decode cX4_decide 83 = .ok (.ifCond .eq 20, 3) := by decide +kernel
theorem dX4_decide_86 : decode cX4_decide 86 = .ok (.aload_n 0, 1) := by decide +kernel
theorem dX4_decide_87 : decode cX4_decide 87 = .ok (.getfield 21, 3) := by decide +kernel
theorem dX4_decide_90 : decode cX4_decide 90 = .ok (.aload_n 0, 1) := by decide +kernel
theorem dX4_decide_91 : decode cX4_decide 91 = .ok (.getfield 28, 3) := by decide +kernel
theorem dX4_decide_94 : decode cX4_decide 94 = .ok (.iload 8, 2) := by decide +kernel
theorem dX4_decide_96 : decode cX4_decide 96 = .ok (.iaload, 1) := by decide +kernel
theorem dX4_decide_97 : decode cX4_decide 97 = .ok (.invokevirtual 190, 3) := by decide +kernel
theorem dX4_decide_100 : decode cX4_decide 100 = .ok (.ifCond .eq 37, 3) := by decide +kernel
theorem dX4_decide_103 : decode cX4_decide 103 = .ok (.iload 11, 2) := by decide +kernel
theorem dX4_decide_105 : decode cX4_decide 105 = .ok (.aload_n 0, 1) := by decide +kernel
theorem dX4_decide_106 : decode cX4_decide 106 = .ok (.aload_n 0, 1) := by decide +kernel
theorem dX4_decide_107 : decode cX4_decide 107 = .ok (.iload_n 1, 1) := by decide +kernel
theorem dX4_decide_108 : decode cX4_decide 108 = .ok (.iconst 1, 1) := by decide +kernel
theorem dX4_decide_109 : decode cX4_decide 109 = .ok (.invokevirtual 178, 3) := by decide +kernel
theorem dX4_decide_112 : decode cX4_decide 112 = .ok (.iload_n 3, 1) := by decide +kernel
theorem dX4_decide_113 : decode cX4_decide 113 = .ok (.iload 8, 2) := by decide +kernel
theorem dX4_decide_115 : decode cX4_decide 115 = .ok (.ior, 1) := by decide +kernel
theorem dX4_decide_116 : decode cX4_decide 116 = .ok (.invokevirtual 182, 3) := by decide +kernel
theorem dX4_decide_119 : decode cX4_decide 119 = .ok (.iadd, 1) := by decide +kernel
theorem dX4_decide_120 : decode cX4_decide 120 = .ok (.istore 12, 2) := by decide +kernel
theorem dX4_decide_122 : decode cX4_decide 122 = .ok (.iload 12, 2) := by decide +kernel
theorem dX4_decide_124 : decode cX4_decide 124 = .ok (.iload 7, 2) := by decide +kernel
theorem dX4_decide_126 : decode cX4_decide 126 = .ok (.if_icmp .le 11, 3) := by decide +kernel
theorem dX4_decide_129 : decode cX4_decide 129 = .ok (.iload 12, 2) := by decide +kernel
theorem dX4_decide_131 : decode cX4_decide 131 = .ok (.istore 7, 2) := by decide +kernel
theorem dX4_decide_133 : decode cX4_decide 133 = .ok (.iload 8, 2) := by decide +kernel
theorem dX4_decide_135 : decode cX4_decide 135 = .ok (.istore 6, 2) := by decide +kernel
theorem dX4_decide_137 : decode cX4_decide 137 = .ok (.iinc 10 1, 3) := by decide +kernel
theorem dX4_decide_140 : decode cX4_decide 140 = .ok (.goto (-95), 3) := by decide +kernel
theorem dX4_decide_143 : decode cX4_decide 143 = .ok (.aload_n 0, 1) := by decide +kernel
theorem dX4_decide_144 : decode cX4_decide 144 = .ok (.getfield 46, 3) := by decide +kernel
theorem dX4_decide_147 : decode cX4_decide 147 = .ok (.iload_n 1, 1) := by decide +kernel
theorem dX4_decide_148 : decode cX4_decide 148 = .ok (.bipush 64, 2) := by decide +kernel
theorem dX4_decide_150 : decode cX4_decide 150 = .ok (.imul, 1) := by decide +kernel
theorem dX4_decide_151 : decode cX4_decide 151 = .ok (.iload_n 3, 1) := by decide +kernel
theorem dX4_decide_152 : decode cX4_decide 152 = .ok (.iadd, 1) := by decide +kernel
theorem dX4_decide_153 : decode cX4_decide 153 = .ok (.iload 7, 2) := by decide +kernel
theorem dX4_decide_155 : decode cX4_decide 155 = .ok (.iastore, 1) := by decide +kernel
theorem dX4_decide_156 : decode cX4_decide 156 = .ok (.iload 6, 2) := by decide +kernel
theorem dX4_decide_158 : decode cX4_decide 158 = .ok (.ireturn, 1) := by decide +kernel
