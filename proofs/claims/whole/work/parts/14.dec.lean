theorem dJ6_bitCount_0f7a4_0 : decode cJ6_bitCount_0f7a4 0 = .ok (.iload_n 0, 1) := by decide +kernel
theorem dJ6_bitCount_0f7a4_1 : decode cJ6_bitCount_0f7a4 1 = .ok (.iload_n 0, 1) := by decide +kernel
theorem dJ6_bitCount_0f7a4_2 : decode cJ6_bitCount_0f7a4 2 = .ok (.iconst 1, 1) := by decide +kernel
theorem dJ6_bitCount_0f7a4_3 : decode cJ6_bitCount_0f7a4 3 = .ok (.iushr, 1) := by decide +kernel
theorem dJ6_bitCount_0f7a4_4 : decode cJ6_bitCount_0f7a4 4 = .ok (.ldc_w 265, 3) := by decide +kernel
theorem dJ6_bitCount_0f7a4_7 : decode cJ6_bitCount_0f7a4 7 = .ok (.iand, 1) := by decide +kernel
theorem dJ6_bitCount_0f7a4_8 : decode cJ6_bitCount_0f7a4 8 = .ok (.isub, 1) := by decide +kernel
theorem dJ6_bitCount_0f7a4_9 : decode cJ6_bitCount_0f7a4 9 = .ok (.istore_n 0, 1) := by decide +kernel
theorem dJ6_bitCount_0f7a4_10 : decode cJ6_bitCount_0f7a4 10 = .ok (.iload_n 0, 1) := by decide +kernel
theorem dJ6_bitCount_0f7a4_11 : decode cJ6_bitCount_0f7a4 11 = .ok (.ldc_w 266, 3) := by decide +kernel
theorem dJ6_bitCount_0f7a4_14 : decode cJ6_bitCount_0f7a4 14 = .ok (.iand, 1) := by decide +kernel
theorem dJ6_bitCount_0f7a4_15 : decode cJ6_bitCount_0f7a4 15 = .ok (.iload_n 0, 1) := by decide +kernel
theorem dJ6_bitCount_0f7a4_16 : decode cJ6_bitCount_0f7a4 16 = .ok (.iconst 2, 1) := by decide +kernel
theorem dJ6_bitCount_0f7a4_17 : decode cJ6_bitCount_0f7a4 17 = .ok (.iushr, 1) := by decide +kernel
theorem dJ6_bitCount_0f7a4_18 : decode cJ6_bitCount_0f7a4 18 = .ok (.ldc_w 266, 3) := by decide +kernel
theorem dJ6_bitCount_0f7a4_21 : decode cJ6_bitCount_0f7a4 21 = .ok (.iand, 1) := by decide +kernel
theorem dJ6_bitCount_0f7a4_22 : decode cJ6_bitCount_0f7a4 22 = .ok (.iadd, 1) := by decide +kernel
theorem dJ6_bitCount_0f7a4_23 : decode cJ6_bitCount_0f7a4 23 = .ok (.istore_n 0, 1) := by decide +kernel
theorem dJ6_bitCount_0f7a4_24 : decode cJ6_bitCount_0f7a4 24 = .ok (.iload_n 0, 1) := by decide +kernel
theorem dJ6_bitCount_0f7a4_25 : decode cJ6_bitCount_0f7a4 25 = .ok (.iload_n 0, 1) := by decide +kernel
theorem dJ6_bitCount_0f7a4_26 : decode cJ6_bitCount_0f7a4 26 = .ok (.iconst 4, 1) := by decide +kernel
theorem dJ6_bitCount_0f7a4_27 : decode cJ6_bitCount_0f7a4 27 = .ok (.iushr, 1) := by decide +kernel
theorem dJ6_bitCount_0f7a4_28 : decode cJ6_bitCount_0f7a4 28 = .ok (.iadd, 1) := by decide +kernel
theorem dJ6_bitCount_0f7a4_29 : decode cJ6_bitCount_0f7a4 29 = .ok (.ldc_w 267, 3) := by decide +kernel
theorem dJ6_bitCount_0f7a4_32 : decode cJ6_bitCount_0f7a4 32 = .ok (.iand, 1) := by decide +kernel
theorem dJ6_bitCount_0f7a4_33 : decode cJ6_bitCount_0f7a4 33 = .ok (.istore_n 0, 1) := by decide +kernel
theorem dJ6_bitCount_0f7a4_34 : decode cJ6_bitCount_0f7a4 34 = .ok (.iload_n 0, 1) := by decide +kernel
theorem dJ6_bitCount_0f7a4_35 : decode cJ6_bitCount_0f7a4 35 = .ok (.iload_n 0, 1) := by decide +kernel
theorem dJ6_bitCount_0f7a4_36 : decode cJ6_bitCount_0f7a4 36 = .ok (.bipush 8, 2) := by decide +kernel
theorem dJ6_bitCount_0f7a4_38 : decode cJ6_bitCount_0f7a4 38 = .ok (.iushr, 1) := by decide +kernel
theorem dJ6_bitCount_0f7a4_39 : decode cJ6_bitCount_0f7a4 39 = .ok (.iadd, 1) := by decide +kernel
theorem dJ6_bitCount_0f7a4_40 : decode cJ6_bitCount_0f7a4 40 = .ok (.istore_n 0, 1) := by decide +kernel
theorem dJ6_bitCount_0f7a4_41 : decode cJ6_bitCount_0f7a4 41 = .ok (.iload_n 0, 1) := by decide +kernel
theorem dJ6_bitCount_0f7a4_42 : decode cJ6_bitCount_0f7a4 42 = .ok (.iload_n 0, 1) := by decide +kernel
theorem dJ6_bitCount_0f7a4_43 : decode cJ6_bitCount_0f7a4 43 = .ok (.bipush 16, 2) := by decide +kernel
theorem dJ6_bitCount_0f7a4_45 : decode cJ6_bitCount_0f7a4 45 = .ok (.iushr, 1) := by decide +kernel
theorem dJ6_bitCount_0f7a4_46 : decode cJ6_bitCount_0f7a4 46 = .ok (.iadd, 1) := by decide +kernel
theorem dJ6_bitCount_0f7a4_47 : decode cJ6_bitCount_0f7a4 47 = .ok (.istore_n 0, 1) := by decide +kernel
theorem dJ6_bitCount_0f7a4_48 : decode cJ6_bitCount_0f7a4 48 = .ok (.iload_n 0, 1) := by decide +kernel
theorem dJ6_bitCount_0f7a4_49 : decode cJ6_bitCount_0f7a4 49 = .ok (.bipush 63, 2) := by decide +kernel
theorem dJ6_bitCount_0f7a4_51 : decode cJ6_bitCount_0f7a4 51 = .ok (.iand, 1) := by decide +kernel
theorem dJ6_bitCount_0f7a4_52 : decode cJ6_bitCount_0f7a4 52 = .ok (.ireturn, 1) := by decide +kernel
theorem dJ7_fill_53178_0 : decode cJ7_fill_53178 0 = .ok (.iconst 0, 1) := by decide +kernel
theorem dJ7_fill_53178_1 : decode cJ7_fill_53178 1 = .ok (.istore_n 2, 1) := by decide +kernel
theorem dJ7_fill_53178_2 : decode cJ7_fill_53178 2 = .ok (.aload_n 0, 1) := by decide +kernel
theorem dJ7_fill_53178_3 : decode cJ7_fill_53178 3 = .ok (.arraylength, 1) := by decide +kernel
theorem dJ7_fill_53178_4 : decode cJ7_fill_53178 4 = .ok (.istore_n 3, 1) := by decide +kernel
theorem dJ7_fill_53178_5 : decode cJ7_fill_53178 5 = .ok (.iload_n 2, 1) := by decide +kernel
theorem dJ7_fill_53178_6 : decode cJ7_fill_53178 6 = .ok (.iload_n 3, 1) := by decide +kernel
theorem dJ7_fill_53178_7 : decode cJ7_fill_53178 7 = .ok (.if_icmp .ge 13, 3) := by decide +kernel
theorem dJ7_fill_53178_10 : decode cJ7_fill_53178 10 = .ok (.aload_n 0, 1) := by decide +kernel
theorem dJ7_fill_53178_11 : decode cJ7_fill_53178 11 = .ok (.iload_n 2, 1) := by decide +kernel
theorem dJ7_fill_53178_12 : decode cJ7_fill_53178 12 = .ok (.iload_n 1, 1) := by decide +kernel
theorem dJ7_fill_53178_13 : decode cJ7_fill_53178 13 = .ok (.iastore, 1) := by decide +kernel
theorem dJ7_fill_53178_14 : decode cJ7_fill_53178 14 = .ok (.iinc 2 1, 3) := by decide +kernel
theorem dJ7_fill_53178_17 : decode cJ7_fill_53178 17 = .ok (.goto (-12), 3) := by decide +kernel
theorem dJ7_fill_53178_20 : decode cJ7_fill_53178 20 = .ok (.return_, 1) := by decide +kernel
theorem dX0_start_0 : decode cX0_start 0 = .ok (.aload_n 0, 1) := by decide +kernel
theorem dX0_start_1 : decode cX0_start 1 = .ok (.iconst 0, 1) := by decide +kernel
theorem dX0_start_2 : decode cX0_start 2 = .ok (.putfield 39, 3) := by decide +kernel
theorem dX0_start_5 : decode cX0_start 5 = .ok (.aload_n 1, 1) := by decide +kernel
theorem dX0_start_6 : decode cX0_start 6 = .ok (.getfield 43, 3) := by decide +kernel
theorem dX0_start_9 : decode cX0_start 9 = .ok (.iconst 0, 1) := by decide +kernel
theorem dX0_start_10 : decode cX0_start 10 = .ok (.aload_n 0, 1) := by decide +kernel
theorem dX0_start_11 : decode cX0_start 11 = .ok (.getfield 9, 3) := by decide +kernel
theorem dX0_start_14 : decode cX0_start 14 = .ok (.iconst 0, 1) := by decide +kernel
theorem dX0_start_15 : decode cX0_start 15 = .ok (.bipush 7, 2) := by decide +kernel
theorem dX0_start_17 : decode cX0_start 17 = .ok (.invokestatic 46, 3) := by decide +kernel
theorem dX0_start_20 : decode cX0_start 20 = .ok (.aload_n 0, 1) := by decide +kernel
theorem dX0_start_21 : decode cX0_start 21 = .ok (.getfield 15, 3) := by decide +kernel
theorem dX0_start_24 : decode cX0_start 24 = .ok (.iconst 0, 1) := by decide +kernel
theorem dX0_start_25 : decode cX0_start 25 = .ok (.invokestatic 52, 3) := by decide +kernel
theorem dX0_start_28 : decode cX0_start 28 = .ok (.aload_n 0, 1) := by decide +kernel
theorem dX0_start_29 : decode cX0_start 29 = .ok (.getfield 18, 3) := by decide +kernel
theorem dX0_start_32 : decode cX0_start 32 = .ok (.iconst (-1), 1) := by decide +kernel
theorem dX0_start_33 : decode cX0_start 33 = .ok (.invokestatic 52, 3) := by decide +kernel
theorem dX0_start_36 : decode cX0_start 36 = .ok (.aload_n 0, 1) := by decide +kernel
theorem dX0_start_37 : decode cX0_start 37 = .ok (.getfield 21, 3) := by decide +kernel
theorem dX0_start_40 : decode cX0_start 40 = .ok (.iconst 0, 1) := by decide +kernel
theorem dX0_start_41 : decode cX0_start 41 = .ok (.invokestatic 52, 3) := by decide +kernel
theorem dX0_start_44 : decode cX0_start 44 = .ok (.aload_n 0, 1) := by decide +kernel
theorem dX0_start_45 : decode cX0_start 45 = .ok (.getfield 24, 3) := by decide +kernel
theorem dX0_start_48 : decode cX0_start 48 = .ok (.iconst (-1), 1) := by decide +kernel
theorem dX0_start_49 : decode cX0_start 49 = .ok (.invokestatic 52, 3) := by decide +kernel
theorem dX0_start_52 : decode cX0_start 52 = .ok (.aload_n 0, 1) := by decide +kernel
theorem dX0_start_53 : decode cX0_start 53 = .ok (.getfield 27, 3) := by decide +kernel
theorem dX0_start_56 : decode cX0_start 56 = .ok (.iconst (-1), 1) := by decide +kernel
theorem dX0_start_57 : decode cX0_start 57 = .ok (.invokestatic 52, 3) := by decide +kernel
theorem dX0_start_60 : decode cX0_start 60 = .ok (.aload_n 0, 1) := by decide +kernel
theorem dX0_start_61 : decode cX0_start 61 = .ok (.getfield 30, 3) := by decide +kernel
theorem dX0_start_64 : decode cX0_start 64 = .ok (.iconst (-1), 1) := by decide +kernel
theorem dX0_start_65 : decode cX0_start 65 = .ok (.invokestatic 52, 3) := by decide +kernel
theorem dX0_start_68 : decode cX0_start 68 = .ok (.aload_n 0, 1) := by decide +kernel
theorem dX0_start_69 : decode cX0_start 69 = .ok (.getfield 33, 3) := by decide +kernel
theorem dX0_start_72 : decode cX0_start 72 = .ok (.iconst (-1), 1) := by decide +kernel
theorem dX0_start_73 : decode cX0_start 73 = .ok (.invokestatic 52, 3) := by decide +kernel
theorem dX0_start_76 : decode cX0_start 76 = .ok (.aload_n 0, 1) := by decide +kernel
theorem dX0_start_77 : decode cX0_start 77 = .ok (.getfield 36, 3) := by decide +kernel
theorem dX0_start_80 : decode cX0_start 80 = .ok (.iconst 0, 1) := by decide +kernel
theorem dX0_start_81 : decode cX0_start 81 = .ok (.invokestatic 52, 3) := by decide +kernel
theorem dX0_start_84 : decode cX0_start 84 = .ok (.return_, 1) := by decide +kernel
theorem dX0_copy_0 : decode cX0_copy 0 = .ok (.aload_n 0, 1) := by decide +kernel
theorem dX0_copy_1 : decode cX0_copy 1 = .ok (.aload_n 1, 1) := by decide +kernel
theorem dX0_copy_2 : decode cX0_copy 2 = .ok (.getfield 39, 3) := by decide +kernel
theorem dX0_copy_5 : decode cX0_copy 5 = .ok (.putfield 39, 3) := by decide +kernel
theorem dX0_copy_8 : decode cX0_copy 8 = .ok (.aload_n 1, 1) := by decide +kernel
theorem dX0_copy_9 : decode cX0_copy 9 = .ok (.getfield 9, 3) := by decide +kernel
theorem dX0_copy_12 : decode cX0_copy 12 = .ok (.iconst 0, 1) := by decide +kernel
theorem dX0_copy_13 : decode cX0_copy 13 = .ok (.aload_n 0, 1) := by decide +kernel
theorem dX0_copy_14 : decode cX0_copy 14 = .ok (.getfield 9, 3) := by decide +kernel
theorem dX0_copy_17 : decode cX0_copy 17 = .ok (.iconst 0, 1) := by decide +kernel
theorem dX0_copy_18 : decode cX0_copy 18 = .ok (.bipush 7, 2) := by decide +kernel
theorem dX0_copy_20 : decode cX0_copy 20 = .ok (.invokestatic 46, 3) := by decide +kernel
theorem dX0_copy_23 : decode cX0_copy 23 = .ok (.aload_n 1, 1) := by decide +kernel
theorem dX0_copy_24 : decode cX0_copy 24 = .ok (.getfield 15, 3) := by decide +kernel
theorem dX0_copy_27 : decode cX0_copy 27 = .ok (.iconst 0, 1) := by decide +kernel
theorem dX0_copy_28 : decode cX0_copy 28 = .ok (.aload_n 0, 1) := by decide +kernel
theorem dX0_copy_29 : decode cX0_copy 29 = .ok (.getfield 15, 3) := by decide +kernel
theorem dX0_copy_32 : decode cX0_copy 32 = .ok (.iconst 0, 1) := by decide +kernel
theorem dX0_copy_33 : decode cX0_copy 33 = .ok (.bipush 7, 2) := by decide +kernel
theorem dX0_copy_35 : decode cX0_copy 35 = .ok (.invokestatic 46, 3) := by decide +kernel
theorem dX0_copy_38 : decode cX0_copy 38 = .ok (.aload_n 1, 1) := by decide +kernel
theorem dX0_copy_39 : decode cX0_copy 39 = .ok (.getfield 18, 3) := by decide +kernel
theorem dX0_copy_42 : decode cX0_copy 42 = .ok (.iconst 0, 1) := by decide +kernel
theorem dX0_copy_43 : decode cX0_copy 43 = .ok (.aload_n 0, 1) := by decide +kernel
theorem dX0_copy_44 : decode cX0_copy 44 = .ok (.getfield 18, 3) := by decide +kernel
theorem dX0_copy_47 : decode cX0_copy 47 = .ok (.iconst 0, 1) := by decide +kernel
theorem dX0_copy_48 : decode cX0_copy 48 = .ok (.bipush 6, 2) := by decide +kernel
theorem dX0_copy_50 : decode cX0_copy 50 = .ok (.invokestatic 46, 3) := by decide +kernel
theorem dX0_copy_53 : decode cX0_copy 53 = .ok (.aload_n 1, 1) := by decide +kernel
theorem dX0_copy_54 : decode cX0_copy 54 = .ok (.getfield 21, 3) := by decide +kernel
theorem dX0_copy_57 : decode cX0_copy 57 = .ok (.iconst 0, 1) := by decide +kernel
theorem dX0_copy_58 : decode cX0_copy 58 = .ok (.aload_n 0, 1) := by decide +kernel
theorem dX0_copy_59 : decode cX0_copy 59 = .ok (.getfield 21, 3) := by decide +kernel
theorem dX0_copy_62 : decode cX0_copy 62 = .ok (.iconst 0, 1) := by decide +kernel
theorem dX0_copy_63 : decode cX0_copy 63 = .ok (.bipush 6, 2) := by decide +kernel
theorem dX0_copy_65 : decode cX0_copy 65 = .ok (.invokestatic 46, 3) := by decide +kernel
theorem dX0_copy_68 : decode cX0_copy 68 = .ok (.aload_n 1, 1) := by decide +kernel
theorem dX0_copy_69 : decode cX0_copy 69 = .ok (.getfield 24, 3) := by decide +kernel
theorem dX0_copy_72 : decode cX0_copy 72 = .ok (.iconst 0, 1) := by decide +kernel
theorem dX0_copy_73 : decode cX0_copy 73 = .ok (.aload_n 0, 1) := by decide +kernel
theorem dX0_copy_74 : decode cX0_copy 74 = .ok (.getfield 24, 3) := by decide +kernel
theorem dX0_copy_77 : decode cX0_copy 77 = .ok (.iconst 0, 1) := by decide +kernel
theorem dX0_copy_78 : decode cX0_copy 78 = .ok (.bipush 6, 2) := by decide +kernel
theorem dX0_copy_80 : decode cX0_copy 80 = .ok (.invokestatic 46, 3) := by decide +kernel
theorem dX0_copy_83 : decode cX0_copy 83 = .ok (.aload_n 1, 1) := by decide +kernel
theorem dX0_copy_84 : decode cX0_copy 84 = .ok (.getfield 27, 3) := by decide +kernel
theorem dX0_copy_87 : decode cX0_copy 87 = .ok (.iconst 0, 1) := by decide +kernel
theorem dX0_copy_88 : decode cX0_copy 88 = .ok (.aload_n 0, 1) := by decide +kernel
theorem dX0_copy_89 : decode cX0_copy 89 = .ok (.getfield 27, 3) := by decide +kernel
theorem dX0_copy_92 : decode cX0_copy 92 = .ok (.iconst 0, 1) := by decide +kernel
theorem dX0_copy_93 : decode cX0_copy 93 = .ok (.bipush 6, 2) := by decide +kernel
theorem dX0_copy_95 : decode cX0_copy 95 = .ok (.invokestatic 46, 3) := by decide +kernel
theorem dX0_copy_98 : decode cX0_copy 98 = .ok (.aload_n 1, 1) := by decide +kernel
theorem dX0_copy_99 : decode cX0_copy 99 = .ok (.getfield 30, 3) := by decide +kernel
theorem dX0_copy_102 : decode cX0_copy 102 = .ok (.iconst 0, 1) := by decide +kernel
theorem dX0_copy_103 : decode cX0_copy 103 = .ok (.aload_n 0, 1) := by decide +kernel
theorem dX0_copy_104 : decode cX0_copy 104 = .ok (.getfield 30, 3) := by decide +kernel
theorem dX0_copy_107 : decode cX0_copy 107 = .ok (.iconst 0, 1) := by decide +kernel
theorem dX0_copy_108 : decode cX0_copy 108 = .ok (.bipush 6, 2) := by decide +kernel
theorem dX0_copy_110 : decode cX0_copy 110 = .ok (.invokestatic 46, 3) := by decide +kernel
theorem dX0_copy_113 : decode cX0_copy 113 = .ok (.aload_n 1, 1) := by decide +kernel
theorem dX0_copy_114 : decode cX0_copy 114 = .ok (.getfield 33, 3) := by decide +kernel
theorem dX0_copy_117 : decode cX0_copy 117 = .ok (.iconst 0, 1) := by decide +kernel
theorem dX0_copy_118 : decode cX0_copy 118 = .ok (.aload_n 0, 1) := by decide +kernel
theorem dX0_copy_119 : decode cX0_copy 119 = .ok (.getfield 33, 3) := by decide +kernel
theorem dX0_copy_122 : decode cX0_copy 122 = .ok (.iconst 0, 1) := by decide +kernel
theorem dX0_copy_123 : decode cX0_copy 123 = .ok (.bipush 6, 2) := by decide +kernel
theorem dX0_copy_125 : decode cX0_copy 125 = .ok (.invokestatic 46, 3) := by decide +kernel
theorem dX0_copy_128 : decode cX0_copy 128 = .ok (.aload_n 1, 1) := by decide +kernel
theorem dX0_copy_129 : decode cX0_copy 129 = .ok (.getfield 36, 3) := by decide +kernel
theorem dX0_copy_132 : decode cX0_copy 132 = .ok (.iconst 0, 1) := by decide +kernel
theorem dX0_copy_133 : decode cX0_copy 133 = .ok (.aload_n 0, 1) := by decide +kernel
theorem dX0_copy_134 : decode cX0_copy 134 = .ok (.getfield 36, 3) := by decide +kernel
theorem dX0_copy_137 : decode cX0_copy 137 = .ok (.iconst 0, 1) := by decide +kernel
theorem dX0_copy_138 : decode cX0_copy 138 = .ok (.bipush 6, 2) := by decide +kernel
theorem dX0_copy_140 : decode cX0_copy 140 = .ok (.invokestatic 46, 3) := by decide +kernel
theorem dX0_copy_143 : decode cX0_copy 143 = .ok (.return_, 1) := by decide +kernel
theorem dX0_heardBy_0 : decode cX0_heardBy 0 = .ok (.iconst 0, 1) := by decide +kernel
theorem dX0_heardBy_1 : decode cX0_heardBy 1 = .ok (.istore_n 2, 1) := by decide +kernel
theorem dX0_heardBy_2 : decode cX0_heardBy 2 = .ok (.iload_n 2, 1) := by decide +kernel
theorem dX0_heardBy_3 : decode cX0_heardBy 3 = .ok (.bipush 6, 2) := by decide +kernel
theorem dX0_heardBy_5 : decode cX0_heardBy 5 = .ok (.if_icmp .ge 21, 3) := by decide +kernel
theorem dX0_heardBy_8 : decode cX0_heardBy 8 = .ok (.aload_n 0, 1) := by decide +kernel
theorem dX0_heardBy_9 : decode cX0_heardBy 9 = .ok (.getfield 18, 3) := by decide +kernel
theorem dX0_heardBy_12 : decode cX0_heardBy 12 = .ok (.iload_n 2, 1) := by decide +kernel
theorem dX0_heardBy_13 : decode cX0_heardBy 13 = .ok (.iaload, 1) := by decide +kernel
theorem dX0_heardBy_14 : decode cX0_heardBy 14 = .ok (.iload_n 1, 1) := by decide +kernel
theorem dX0_heardBy_15 : decode cX0_heardBy 15 = .ok (.if_icmp .ne 5, 3) := by decide +kernel
theorem dX0_heardBy_18 : decode cX0_heardBy 18 = .ok (.iload_n 2, 1) := by decide +kernel
theorem dX0_heardBy_19 : decode cX0_heardBy 19 = .ok (.ireturn, 1) := by decide +kernel
theorem dX0_heardBy_20 : decode cX0_heardBy 20 = .ok (.iinc 2 1, 3) := by decide +kernel
theorem dX0_heardBy_23 : decode cX0_heardBy 23 = .ok (.goto (-21), 3) := by decide +kernel
theorem dX0_heardBy_26 : decode cX0_heardBy 26 = .ok (.iconst (-1), 1) := by decide +kernel
theorem dX0_heardBy_27 : decode cX0_heardBy 27 = .ok (.ireturn, 1) := by decide +kernel
theorem dX0_settleCase_0 : decode cX0_settleCase 0 = .ok (.aload_n 0, 1) := by decide +kernel
theorem dX0_settleCase_1 : decode cX0_settleCase 1 = .ok (.getfield 18, 3) := by decide +kernel
theorem dX0_settleCase_4 : decode cX0_settleCase 4 = .ok (.iload_n 1, 1) := by decide +kernel
theorem dX0_settleCase_5 : decode cX0_settleCase 5 = .ok (.iaload, 1) := by decide +kernel
theorem dX0_settleCase_6 : decode cX0_settleCase 6 = .ok (.istore_n 3, 1) := by decide +kernel
theorem dX0_settleCase_7 : decode cX0_settleCase 7 = .ok (.aload_n 0, 1) := by decide +kernel
theorem dX0_settleCase_8 : decode cX0_settleCase 8 = .ok (.getfield 27, 3) := by decide +kernel
theorem dX0_settleCase_11 : decode cX0_settleCase 11 = .ok (.iload_n 1, 1) := by decide +kernel
theorem dX0_settleCase_12 : decode cX0_settleCase 12 = .ok (.iload_n 3, 1) := by decide +kernel
theorem dX0_settleCase_13 : decode cX0_settleCase 13 = .ok (.iastore, 1) := by decide +kernel
theorem dX0_settleCase_14 : decode cX0_settleCase 14 = .ok (.aload_n 0, 1) := by decide +kernel
theorem dX0_settleCase_15 : decode cX0_settleCase 15 = .ok (.getfield 30, 3) := by decide +kernel
theorem dX0_settleCase_18 : decode cX0_settleCase 18 = .ok (.iload_n 1, 1) := by decide +kernel
theorem dX0_settleCase_19 : decode cX0_settleCase 19 = .ok (.aload_n 0, 1) := by decide +kernel
theorem dX0_settleCase_20 : decode cX0_settleCase 20 = .ok (.getfield 24, 3) := by decide +kernel
theorem dX0_settleCase_23 : decode cX0_settleCase 23 = .ok (.iload_n 1, 1) := by decide +kernel
theorem dX0_settleCase_24 : decode cX0_settleCase 24 = .ok (.iaload, 1) := by decide +kernel
theorem dX0_settleCase_25 : decode cX0_settleCase 25 = .ok (.iastore, 1) := by decide +kernel
theorem dX0_settleCase_26 : decode cX0_settleCase 26 = .ok (.aload_n 0, 1) := by decide +kernel
theorem dX0_settleCase_27 : decode cX0_settleCase 27 = .ok (.getfield 33, 3) := by decide +kernel
theorem dX0_settleCase_30 : decode cX0_settleCase 30 = .ok (.iload_n 1, 1) := by decide +kernel
theorem dX0_settleCase_31 : decode cX0_settleCase 31 = .ok (.aload_n 2, 1) := by decide +kernel
theorem dX0_settleCase_32 : decode cX0_settleCase 32 = .ok (.getfield 65, 3) := by decide +kernel
theorem dX0_settleCase_35 : decode cX0_settleCase 35 = .ok (.iload_n 3, 1) := by decide +kernel
theorem dX0_settleCase_36 : decode cX0_settleCase 36 = .ok (.iaload, 1) := by decide +kernel
theorem dX0_settleCase_37 : decode cX0_settleCase 37 = .ok (.aload_n 0, 1) := by decide +kernel
theorem dX0_settleCase_38 : decode cX0_settleCase 38 = .ok (.getfield 39, 3) := by decide +kernel
theorem dX0_settleCase_41 : decode cX0_settleCase 41 = .ok (.iadd, 1) := by decide +kernel
theorem dX0_settleCase_42 : decode cX0_settleCase 42 = .ok (.iastore, 1) := by decide +kernel
theorem dX0_settleCase_43 : decode cX0_settleCase 43 = .ok (.aload_n 0, 1) := by decide +kernel
theorem dX0_settleCase_44 : decode cX0_settleCase 44 = .ok (.getfield 36, 3) := by decide +kernel
theorem dX0_settleCase_47 : decode cX0_settleCase 47 = .ok (.iload_n 1, 1) := by decide +kernel
theorem dX0_settleCase_48 : decode cX0_settleCase 48 = .ok (.dup2, 1) := by decide +kernel
theorem dX0_settleCase_49 : decode cX0_settleCase 49 = .ok (.iaload, 1) := by decide +kernel
theorem dX0_settleCase_50 : decode cX0_settleCase 50 = .ok (.iconst 1, 1) := by decide +kernel
theorem dX0_settleCase_51 : decode cX0_settleCase 51 = .ok (.iadd, 1) := by decide +kernel
theorem dX0_settleCase_52 : decode cX0_settleCase 52 = .ok (.iastore, 1) := by decide +kernel
theorem dX0_settleCase_53 : decode cX0_settleCase 53 = .ok (.aload_n 0, 1) := by decide +kernel
theorem dX0_settleCase_54 : decode cX0_settleCase 54 = .ok (.getfield 15, 3) := by decide +kernel
theorem dX0_settleCase_57 : decode cX0_settleCase 57 = .ok (.iload_n 3, 1) := by decide +kernel
theorem dX0_settleCase_58 : decode cX0_settleCase 58 = .ok (.dup2, 1) := by decide +kernel
theorem dX0_settleCase_59 : decode cX0_settleCase 59 = .ok (.iaload, 1) := by decide +kernel
theorem dX0_settleCase_60 : decode cX0_settleCase 60 = .ok (.iconst 1, 1) := by decide +kernel
theorem dX0_settleCase_61 : decode cX0_settleCase 61 = .ok (.iadd, 1) := by decide +kernel
theorem dX0_settleCase_62 : decode cX0_settleCase 62 = .ok (.iastore, 1) := by decide +kernel
theorem dX0_settleCase_63 : decode cX0_settleCase 63 = .ok (.aload_n 0, 1) := by decide +kernel
theorem dX0_settleCase_64 : decode cX0_settleCase 64 = .ok (.getfield 18, 3) := by decide +kernel
theorem dX0_settleCase_67 : decode cX0_settleCase 67 = .ok (.iload_n 1, 1) := by decide +kernel
theorem dX0_settleCase_68 : decode cX0_settleCase 68 = .ok (.iconst (-1), 1) := by decide +kernel
theorem dX0_settleCase_69 : decode cX0_settleCase 69 = .ok (.iastore, 1) := by decide +kernel
theorem dX0_settleCase_70 : decode cX0_settleCase 70 = .ok (.aload_n 0, 1) := by decide +kernel
theorem dX0_settleCase_71 : decode cX0_settleCase 71 = .ok (.getfield 21, 3) := by decide +kernel
theorem dX0_settleCase_74 : decode cX0_settleCase 74 = .ok (.iload_n 1, 1) := by decide +kernel
theorem dX0_settleCase_75 : decode cX0_settleCase 75 = .ok (.iconst 0, 1) := by decide +kernel
theorem dX0_settleCase_76 : decode cX0_settleCase 76 = .ok (.iastore, 1) := by decide +kernel
theorem dX0_settleCase_77 : decode cX0_settleCase 77 = .ok (.return_, 1) := by decide +kernel
theorem dX0_pass_0 : decode cX0_pass 0 = .ok (.iconst 0, 1) := by decide +kernel
theorem dX0_pass_1 : decode cX0_pass 1 = .ok (.istore_n 2, 1) := by decide +kernel
theorem dX0_pass_2 : decode cX0_pass 2 = .ok (.iconst 0, 1) := by decide +kernel
theorem dX0_pass_3 : decode cX0_pass 3 = .ok (.istore_n 3, 1) := by decide +kernel
theorem dX0_pass_4 : decode cX0_pass 4 = .ok (.iload_n 3, 1) := by decide +kernel
theorem dX0_pass_5 : decode cX0_pass 5 = .ok (.aload_n 1, 1) := by decide +kernel
theorem dX0_pass_6 : decode cX0_pass 6 = .ok (.getfield 58, 3) := by decide +kernel
theorem dX0_pass_9 : decode cX0_pass 9 = .ok (.if_icmp .ge 49, 3) := by decide +kernel
theorem dX0_pass_12 : decode cX0_pass 12 = .ok (.aload_n 0, 1) := by decide +kernel
theorem dX0_pass_13 : decode cX0_pass 13 = .ok (.getfield 18, 3) := by decide +kernel
theorem dX0_pass_16 : decode cX0_pass 16 = .ok (.iload_n 3, 1) := by decide +kernel
theorem dX0_pass_17 : decode cX0_pass 17 = .ok (.iaload, 1) := by decide +kernel
theorem dX0_pass_18 : decode cX0_pass 18 = .ok (.ifCond .lt 34, 3) := by decide +kernel
theorem dX0_pass_21 : decode cX0_pass 21 = .ok (.aload_n 0, 1) := by decide +kernel
theorem dX0_pass_22 : decode cX0_pass 22 = .ok (.getfield 21, 3) := by decide +kernel
theorem dX0_pass_25 : decode cX0_pass 25 = .ok (.iload_n 3, 1) := by decide +kernel
theorem dX0_pass_26 : decode cX0_pass 26 = .ok (.dup2, 1) := by decide +kernel
theorem dX0_pass_27 : decode cX0_pass 27 = .ok (.iaload, 1) := by decide +kernel
theorem dX0_pass_28 : decode cX0_pass 28 = .ok (.iconst 1, 1) := by decide +kernel
theorem dX0_pass_29 : decode cX0_pass 29 = .ok (.isub, 1) := by decide +kernel
theorem dX0_pass_30 : decode cX0_pass 30 = .ok (.iastore, 1) := by decide +kernel
theorem dX0_pass_31 : decode cX0_pass 31 = .ok (.aload_n 0, 1) := by decide +kernel
theorem dX0_pass_32 : decode cX0_pass 32 = .ok (.getfield 21, 3) := by decide +kernel
theorem dX0_pass_35 : decode cX0_pass 35 = .ok (.iload_n 3, 1) := by decide +kernel
theorem dX0_pass_36 : decode cX0_pass 36 = .ok (.iaload, 1) := by decide +kernel
theorem dX0_pass_37 : decode cX0_pass 37 = .ok (.ifCond .gt 15, 3) := by decide +kernel
theorem dX0_pass_40 : decode cX0_pass 40 = .ok (.aload_n 0, 1) := by decide +kernel
theorem dX0_pass_41 : decode cX0_pass 41 = .ok (.iload_n 3, 1) := by decide +kernel
theorem dX0_pass_42 : decode cX0_pass 42 = .ok (.aload_n 1, 1) := by decide +kernel
theorem dX0_pass_43 : decode cX0_pass 43 = .ok (.invokevirtual 61, 3) := by decide +kernel
theorem dX0_pass_46 : decode cX0_pass 46 = .ok (.iload_n 2, 1) := by decide +kernel
theorem dX0_pass_47 : decode cX0_pass 47 = .ok (.iconst 1, 1) := by decide +kernel
theorem dX0_pass_48 : decode cX0_pass 48 = .ok (.iload_n 3, 1) := by decide +kernel
theorem dX0_pass_49 : decode cX0_pass 49 = .ok (.ishl, 1) := by decide +kernel
theorem dX0_pass_50 : decode cX0_pass 50 = .ok (.ior, 1) := by decide +kernel
theorem dX0_pass_51 : decode cX0_pass 51 = .ok (.istore_n 2, 1) := by decide +kernel
theorem dX0_pass_52 : decode cX0_pass 52 = .ok (.iinc 3 1, 3) := by decide +kernel
theorem dX0_pass_55 : decode cX0_pass 55 = .ok (.goto (-51), 3) := by decide +kernel
theorem dX0_pass_58 : decode cX0_pass 58 = .ok (.aload_n 0, 1) := by decide +kernel
theorem dX0_pass_59 : decode cX0_pass 59 = .ok (.dup, 1) := by decide +kernel
theorem dX0_pass_60 : decode cX0_pass 60 = .ok (.getfield 39, 3) := by decide +kernel
theorem dX0_pass_63 : decode cX0_pass 63 = .ok (.iconst 1, 1) := by decide +kernel
theorem dX0_pass_64 : decode cX0_pass 64 = .ok (.iadd, 1) := by decide +kernel
theorem dX0_pass_65 : decode cX0_pass 65 = .ok (.putfield 39, 3) := by decide +kernel
theorem dX0_pass_68 : decode cX0_pass 68 = .ok (.iload_n 2, 1) := by decide +kernel
theorem dX0_pass_69 : decode cX0_pass 69 = .ok (.ireturn, 1) := by decide +kernel
theorem dX0_heardBits_0 : decode cX0_heardBits 0 = .ok (.iconst 0, 1) := by decide +kernel
theorem dX0_heardBits_1 : decode cX0_heardBits 1 = .ok (.istore_n 2, 1) := by decide +kernel
theorem dX0_heardBits_2 : decode cX0_heardBits 2 = .ok (.iconst 0, 1) := by decide +kernel
theorem dX0_heardBits_3 : decode cX0_heardBits 3 = .ok (.istore_n 3, 1) := by decide +kernel
theorem dX0_heardBits_4 : decode cX0_heardBits 4 = .ok (.iload_n 3, 1) := by decide +kernel
theorem dX0_heardBits_5 : decode cX0_heardBits 5 = .ok (.iload_n 1, 1) := by decide +kernel
theorem dX0_heardBits_6 : decode cX0_heardBits 6 = .ok (.if_icmp .ge 24, 3) := by decide +kernel
theorem dX0_heardBits_9 : decode cX0_heardBits 9 = .ok (.aload_n 0, 1) := by decide +kernel
theorem dX0_heardBits_10 : decode cX0_heardBits 10 = .ok (.getfield 18, 3) := by decide +kernel
theorem dX0_heardBits_13 : decode cX0_heardBits 13 = .ok (.iload_n 3, 1) := by decide +kernel
theorem dX0_heardBits_14 : decode cX0_heardBits 14 = .ok (.iaload, 1) := by decide +kernel
theorem dX0_heardBits_15 : decode cX0_heardBits 15 = .ok (.ifCond .lt 9, 3) := by decide +kernel
theorem dX0_heardBits_18 : decode cX0_heardBits 18 = .ok (.iload_n 2, 1) := by decide +kernel
theorem dX0_heardBits_19 : decode cX0_heardBits 19 = .ok (.iconst 1, 1) := by decide +kernel
theorem dX0_heardBits_20 : decode cX0_heardBits 20 = .ok (.iload_n 3, 1) := by decide +kernel
theorem dX0_heardBits_21 : decode cX0_heardBits 21 = .ok (.ishl, 1) := by decide +kernel
theorem dX0_heardBits_22 : decode cX0_heardBits 22 = .ok (.ior, 1) := by decide +kernel
theorem dX0_heardBits_23 : decode cX0_heardBits 23 = .ok (.istore_n 2, 1) := by decide +kernel
theorem dX0_heardBits_24 : decode cX0_heardBits 24 = .ok (.iinc 3 1, 3) := by decide +kernel
theorem dX0_heardBits_27 : decode cX0_heardBits 27 = .ok (.goto (-23), 3) := by decide +kernel
theorem dX0_heardBits_30 : decode cX0_heardBits 30 = .ok (.iload_n 2, 1) := by decide +kernel
theorem dX0_heardBits_31 : decode cX0_heardBits 31 = .ok (.ireturn, 1) := by decide +kernel
theorem dX0_ruledBits_0 : decode cX0_ruledBits 0 = .ok (.iconst 0, 1) := by decide +kernel
theorem dX0_ruledBits_1 : decode cX0_ruledBits 1 = .ok (.istore_n 2, 1) := by decide +kernel
theorem dX0_ruledBits_2 : decode cX0_ruledBits 2 = .ok (.iconst 0, 1) := by decide +kernel
theorem dX0_ruledBits_3 : decode cX0_ruledBits 3 = .ok (.istore_n 3, 1) := by decide +kernel
theorem dX0_ruledBits_4 : decode cX0_ruledBits 4 = .ok (.iload_n 3, 1) := by decide +kernel
theorem dX0_ruledBits_5 : decode cX0_ruledBits 5 = .ok (.iload_n 1, 1) := by decide +kernel
theorem dX0_ruledBits_6 : decode cX0_ruledBits 6 = .ok (.if_icmp .ge 24, 3) := by decide +kernel
theorem dX0_ruledBits_9 : decode cX0_ruledBits 9 = .ok (.aload_n 0, 1) := by decide +kernel
theorem dX0_ruledBits_10 : decode cX0_ruledBits 10 = .ok (.getfield 36, 3) := by decide +kernel
theorem dX0_ruledBits_13 : decode cX0_ruledBits 13 = .ok (.iload_n 3, 1) := by decide +kernel
theorem dX0_ruledBits_14 : decode cX0_ruledBits 14 = .ok (.iaload, 1) := by decide +kernel
theorem dX0_ruledBits_15 : decode cX0_ruledBits 15 = .ok (.ifCond .le 9, 3) := by decide +kernel
theorem dX0_ruledBits_18 : decode cX0_ruledBits 18 = .ok (.iload_n 2, 1) := by decide +kernel
theorem dX0_ruledBits_19 : decode cX0_ruledBits 19 = .ok (.iconst 1, 1) := by decide +kernel
theorem dX0_ruledBits_20 : decode cX0_ruledBits 20 = .ok (.iload_n 3, 1) := by decide +kernel
theorem dX0_ruledBits_21 : decode cX0_ruledBits 21 = .ok (.ishl, 1) := by decide +kernel
theorem dX0_ruledBits_22 : decode cX0_ruledBits 22 = .ok (.ior, 1) := by decide +kernel
theorem dX0_ruledBits_23 : decode cX0_ruledBits 23 = .ok (.istore_n 2, 1) := by decide +kernel
theorem dX0_ruledBits_24 : decode cX0_ruledBits 24 = .ok (.iinc 3 1, 3) := by decide +kernel
theorem dX0_ruledBits_27 : decode cX0_ruledBits 27 = .ok (.goto (-23), 3) := by decide +kernel
theorem dX0_ruledBits_30 : decode cX0_ruledBits 30 = .ok (.iload_n 2, 1) := by decide +kernel
theorem dX0_ruledBits_31 : decode cX0_ruledBits 31 = .ok (.ireturn, 1) := by decide +kernel
theorem dX9_isYounger_0 : decode cX9_isYounger 0 = .ok (.aload_n 0, 1) := by decide +kernel
theorem dX9_isYounger_1 : decode cX9_isYounger 1 = .ok (.getfield 9, 3) := by decide +kernel
theorem dX9_isYounger_4 : decode cX9_isYounger 4 = .ok (.iload_n 2, 1) := by decide +kernel
theorem dX9_isYounger_5 : decode cX9_isYounger 5 = .ok (.iaload, 1) := by decide +kernel
theorem dX9_isYounger_6 : decode cX9_isYounger 6 = .ok (.aload_n 0, 1) := by decide +kernel
theorem dX9_isYounger_7 : decode cX9_isYounger 7 = .ok (.getfield 9, 3) := by decide +kernel
theorem dX9_isYounger_10 : decode cX9_isYounger 10 = .ok (.iload_n 1, 1) := by decide +kernel
theorem dX9_isYounger_11 : decode cX9_isYounger 11 = .ok (.iaload, 1) := by decide +kernel
theorem dX9_isYounger_12 : decode cX9_isYounger 12 = .ok (.isub, 1) := by decide +kernel
theorem dX9_isYounger_13 : decode cX9_isYounger 13 = .ok (.aload_n 0, 1) := by decide +kernel
theorem dX9_isYounger_14 : decode cX9_isYounger 14 = .ok (.getfield 40, 3) := by decide +kernel
theorem dX9_isYounger_17 : decode cX9_isYounger 17 = .ok (.if_icmp .lt 7, 3) := by decide +kernel
theorem dX9_isYounger_20 : decode cX9_isYounger 20 = .ok (.iconst 1, 1) := by decide +kernel
theorem dX9_isYounger_21 : decode cX9_isYounger 21 = .ok (.goto 4, 3) := by decide +kernel
theorem dX9_isYounger_24 : decode cX9_isYounger 24 = .ok (.iconst 0, 1) := by decide +kernel
theorem dX9_isYounger_25 : decode cX9_isYounger 25 = .ok (.ireturn, 1) := by decide +kernel
theorem dX9_areTwins_0 : decode cX9_areTwins 0 = .ok (.aload_n 0, 1) := by decide +kernel
theorem dX9_areTwins_1 : decode cX9_areTwins 1 = .ok (.getfield 21, 3) := by decide +kernel
theorem dX9_areTwins_4 : decode cX9_areTwins 4 = .ok (.iload_n 1, 1) := by decide +kernel
theorem dX9_areTwins_5 : decode cX9_areTwins 5 = .ok (.iaload, 1) := by decide +kernel
theorem dX9_areTwins_6 : decode cX9_areTwins 6 = .ok (.iload_n 2, 1) := by decide +kernel
theorem dX9_areTwins_7 : decode cX9_areTwins 7 = .ok (.ishr, 1) := by decide +kernel
theorem dX9_areTwins_8 : decode cX9_areTwins 8 = .ok (.iconst 1, 1) := by decide +kernel
theorem dX9_areTwins_9 : decode cX9_areTwins 9 = .ok (.iand, 1) := by decide +kernel
theorem dX9_areTwins_10 : decode cX9_areTwins 10 = .ok (.ifCond .eq 7, 3) := by decide +kernel
theorem dX9_areTwins_13 : decode cX9_areTwins 13 = .ok (.iconst 1, 1) := by decide +kernel
theorem dX9_areTwins_14 : decode cX9_areTwins 14 = .ok (.goto 4, 3) := by decide +kernel
theorem dX9_areTwins_17 : decode cX9_areTwins 17 = .ok (.iconst 0, 1) := by decide +kernel
theorem dX9_areTwins_18 : decode cX9_areTwins 18 = .ok (.ireturn, 1) := by decide +kernel
theorem dX9_tillBirthday_0 : decode cX9_tillBirthday 0 = .ok (.aload_n 0, 1) := by decide +kernel
theorem dX9_tillBirthday_1 : decode cX9_tillBirthday 1 = .ok (.getfield 44, 3) := by decide +kernel
theorem dX9_tillBirthday_4 : decode cX9_tillBirthday 4 = .ok (.ifCond .le 17, 3) := by decide +kernel
theorem dX9_tillBirthday_7 : decode cX9_tillBirthday 7 = .ok (.aload_n 0, 1) := by decide +kernel
theorem dX9_tillBirthday_8 : decode cX9_tillBirthday 8 = .ok (.getfield 44, 3) := by decide +kernel
theorem dX9_tillBirthday_11 : decode cX9_tillBirthday 11 = .ok (.iload_n 1, 1) := by decide +kernel
theorem dX9_tillBirthday_12 : decode cX9_tillBirthday 12 = .ok (.aload_n 0, 1) := by decide +kernel
theorem dX9_tillBirthday_13 : decode cX9_tillBirthday 13 = .ok (.getfield 44, 3) := by decide +kernel
theorem dX9_tillBirthday_16 : decode cX9_tillBirthday 16 = .ok (.irem, 1) := by decide +kernel
theorem dX9_tillBirthday_17 : decode cX9_tillBirthday 17 = .ok (.isub, 1) := by decide +kernel
theorem dX9_tillBirthday_18 : decode cX9_tillBirthday 18 = .ok (.goto 4, 3) := by decide +kernel
theorem dX9_tillBirthday_21 : decode cX9_tillBirthday 21 = .ok (.iconst 0, 1) := by decide +kernel
theorem dX9_tillBirthday_22 : decode cX9_tillBirthday 22 = .ok (.ireturn, 1) := by decide +kernel
theorem dX9_sits_0 : decode cX9_sits 0 = .ok (.iload_n 1, 1) := by decide +kernel
theorem dX9_sits_1 : decode cX9_sits 1 = .ok (.aload_n 0, 1) := by decide +kernel
theorem dX9_sits_2 : decode cX9_sits 2 = .ok (.getfield 47, 3) := by decide +kernel
theorem dX9_sits_5 : decode cX9_sits 5 = .ok (.if_icmp .lt 15, 3) := by decide +kernel
theorem dX9_sits_8 : decode cX9_sits 8 = .ok (.iload_n 1, 1) := by decide +kernel
theorem dX9_sits_9 : decode cX9_sits 9 = .ok (.aload_n 0, 1) := by decide +kernel
theorem dX9_sits_10 : decode cX9_sits 10 = .ok (.getfield 50, 3) := by decide +kernel
theorem dX9_sits_13 : decode cX9_sits 13 = .ok (.if_icmp .gt 7, 3) := by decide +kernel
theorem dX9_sits_16 : decode cX9_sits 16 = .ok (.iconst 1, 1) := by decide +kernel
theorem dX9_sits_17 : decode cX9_sits 17 = .ok (.goto 4, 3) := by decide +kernel
theorem dX9_sits_20 : decode cX9_sits 20 = .ok (.iconst 0, 1) := by decide +kernel
theorem dX9_sits_21 : decode cX9_sits 21 = .ok (.ireturn, 1) := by decide +kernel
theorem dX1_canSit_0 : decode cX1_canSit 0 = .ok (.aload_n 0, 1) := by decide +kernel
theorem dX1_canSit_1 : decode cX1_canSit 1 = .ok (.getfield 18, 3) := by decide +kernel
theorem dX1_canSit_4 : decode cX1_canSit 4 = .ok (.getfield 26, 3) := by decide +kernel
theorem dX1_canSit_7 : decode cX1_canSit 7 = .ok (.astore 5, 2) := by decide +kernel
theorem dX1_canSit_9 : decode cX1_canSit 9 = .ok (.aload 5, 2) := by decide +kernel
theorem dX1_canSit_11 : decode cX1_canSit 11 = .ok (.iload_n 1, 1) := by decide +kernel
theorem dX1_canSit_12 : decode cX1_canSit 12 = .ok (.iload_n 2, 1) := by decide +kernel
theorem dX1_canSit_13 : decode cX1_canSit 13 = .ok (.invokevirtual 32, 3) := by decide +kernel
theorem dX1_canSit_16 : decode cX1_canSit 16 = .ok (.ifCond .eq 13, 3) := by decide +kernel
theorem dX1_canSit_19 : decode cX1_canSit 19 = .ok (.aload 5, 2) := by decide +kernel
theorem dX1_canSit_21 : decode cX1_canSit 21 = .ok (.iload_n 1, 1) := by decide +kernel
theorem dX1_canSit_22 : decode cX1_canSit 22 = .ok (.iload_n 2, 1) := by decide +kernel
theorem dX1_canSit_23 : decode cX1_canSit 23 = .ok (.invokevirtual 38, 3) := by decide +kernel
theorem dX1_canSit_26 : decode cX1_canSit 26 = .ok (.ifCond .eq 5, 3) := by decide +kernel
theorem dX1_canSit_29 : decode cX1_canSit 29 = .ok (.iconst 0, 1) := by decide +kernel
theorem dX1_canSit_30 : decode cX1_canSit 30 = .ok (.ireturn, 1) := by decide +kernel
theorem dX1_canSit_31 : decode cX1_canSit 31 = .ok (.aload 5, 2) := by decide +kernel
theorem dX1_canSit_33 : decode cX1_canSit 33 = .ok (.getfield 41, 3) := by decide +kernel
theorem dX1_canSit_36 : decode cX1_canSit 36 = .ok (.iload_n 1, 1) := by decide +kernel
theorem dX1_canSit_37 : decode cX1_canSit 37 = .ok (.iaload, 1) := by decide +kernel
theorem dX1_canSit_38 : decode cX1_canSit 38 = .ok (.iload 4, 2) := by decide +kernel
theorem dX1_canSit_40 : decode cX1_canSit 40 = .ok (.iadd, 1) := by decide +kernel
theorem dX1_canSit_41 : decode cX1_canSit 41 = .ok (.istore 6, 2) := by decide +kernel
theorem dX1_canSit_43 : decode cX1_canSit 43 = .ok (.aload 5, 2) := by decide +kernel
theorem dX1_canSit_45 : decode cX1_canSit 45 = .ok (.iload 6, 2) := by decide +kernel
theorem dX1_canSit_47 : decode cX1_canSit 47 = .ok (.invokevirtual 45, 3) := by decide +kernel
theorem dX1_canSit_50 : decode cX1_canSit 50 = .ok (.istore 7, 2) := by decide +kernel
theorem dX1_canSit_52 : decode cX1_canSit 52 = .ok (.aload 5, 2) := by decide +kernel
theorem dX1_canSit_54 : decode cX1_canSit 54 = .ok (.iload 6, 2) := by decide +kernel
theorem dX1_canSit_56 : decode cX1_canSit 56 = .ok (.invokevirtual 49, 3) := by decide +kernel
theorem dX1_canSit_59 : decode cX1_canSit 59 = .ok (.ifCond .eq 37, 3) := by decide +kernel
theorem dX1_canSit_62 : decode cX1_canSit 62 = .ok (.aload 5, 2) := by decide +kernel
theorem dX1_canSit_64 : decode cX1_canSit 64 = .ok (.iload 6, 2) := by decide +kernel
theorem dX1_canSit_66 : decode cX1_canSit 66 = .ok (.iload_n 3, 1) := by decide +kernel
theorem dX1_canSit_67 : decode cX1_canSit 67 = .ok (.iadd, 1) := by decide +kernel
theorem dX1_canSit_68 : decode cX1_canSit 68 = .ok (.iconst 1, 1) := by decide +kernel
theorem dX1_canSit_69 : decode cX1_canSit 69 = .ok (.isub, 1) := by decide +kernel
theorem dX1_canSit_70 : decode cX1_canSit 70 = .ok (.invokevirtual 49, 3) := by decide +kernel
theorem dX1_canSit_73 : decode cX1_canSit 73 = .ok (.ifCond .eq 23, 3) := by decide +kernel
theorem dX1_canSit_76 : decode cX1_canSit 76 = .ok (.iload 7, 2) := by decide +kernel
theorem dX1_canSit_78 : decode cX1_canSit 78 = .ok (.aload 5, 2) := by decide +kernel
theorem dX1_canSit_80 : decode cX1_canSit 80 = .ok (.getfield 53, 3) := by decide +kernel
theorem dX1_canSit_83 : decode cX1_canSit 83 = .ok (.if_icmp .ge 13, 3) := by decide +kernel
theorem dX1_canSit_86 : decode cX1_canSit 86 = .ok (.iload 7, 2) := by decide +kernel
theorem dX1_canSit_88 : decode cX1_canSit 88 = .ok (.iload_n 3, 1) := by decide +kernel
theorem dX1_canSit_89 : decode cX1_canSit 89 = .ok (.if_icmp .lt 7, 3) := by decide +kernel
theorem dX1_canSit_92 : decode cX1_canSit 92 = .ok (.iconst 1, 1) := by decide +kernel
theorem dX1_canSit_93 : decode cX1_canSit 93 = .ok (.goto 4, 3) := by decide +kernel
theorem dX1_canSit_96 : decode cX1_canSit 96 = .ok (.iconst 0, 1) := by decide +kernel
theorem dX1_canSit_97 : decode cX1_canSit 97 = .ok (.ireturn, 1) := by decide +kernel
theorem dX1_canHear_0 : decode cX1_canHear 0 = .ok (.aload_n 0, 1) := by decide +kernel
theorem dX1_canHear_1 : decode cX1_canHear 1 = .ok (.getfield 18, 3) := by decide +kernel
theorem dX1_canHear_4 : decode cX1_canHear 4 = .ok (.getfield 26, 3) := by decide +kernel
theorem dX1_canHear_7 : decode cX1_canHear 7 = .ok (.astore 4, 2) := by decide +kernel
theorem dX1_canHear_9 : decode cX1_canHear 9 = .ok (.iload_n 3, 1) := by decide +kernel
theorem dX1_canHear_10 : decode cX1_canHear 10 = .ok (.aload 4, 2) := by decide +kernel
theorem dX1_canHear_12 : decode cX1_canHear 12 = .ok (.getfield 57, 3) := by decide +kernel
theorem dX1_canHear_15 : decode cX1_canHear 15 = .ok (.iload_n 1, 1) := by decide +kernel
theorem dX1_canHear_16 : decode cX1_canHear 16 = .ok (.iaload, 1) := by decide +kernel
theorem dX1_canHear_17 : decode cX1_canHear 17 = .ok (.if_icmp .lt 30, 3) := by decide +kernel
theorem dX1_canHear_20 : decode cX1_canHear 20 = .ok (.aload_n 0, 1) := by decide +kernel
theorem dX1_canHear_21 : decode cX1_canHear 21 = .ok (.iload_n 2, 1) := by decide +kernel
theorem dX1_canHear_22 : decode cX1_canHear 22 = .ok (.aload 4, 2) := by decide +kernel
theorem dX1_canHear_24 : decode cX1_canHear 24 = .ok (.getfield 60, 3) := by decide +kernel
theorem dX1_canHear_27 : decode cX1_canHear 27 = .ok (.iload_n 1, 1) := by decide +kernel
theorem dX1_canHear_28 : decode cX1_canHear 28 = .ok (.iaload, 1) := by decide +kernel
theorem dX1_canHear_29 : decode cX1_canHear 29 = .ok (.aload 4, 2) := by decide +kernel
theorem dX1_canHear_31 : decode cX1_canHear 31 = .ok (.getfield 63, 3) := by decide +kernel
theorem dX1_canHear_34 : decode cX1_canHear 34 = .ok (.iload_n 1, 1) := by decide +kernel
theorem dX1_canHear_35 : decode cX1_canHear 35 = .ok (.iaload, 1) := by decide +kernel
theorem dX1_canHear_36 : decode cX1_canHear 36 = .ok (.iload_n 3, 1) := by decide +kernel
theorem dX1_canHear_37 : decode cX1_canHear 37 = .ok (.invokevirtual 66, 3) := by decide +kernel
theorem dX1_canHear_40 : decode cX1_canHear 40 = .ok (.ifCond .eq 7, 3) := by decide +kernel
theorem dX1_canHear_43 : decode cX1_canHear 43 = .ok (.iconst 1, 1) := by decide +kernel
theorem dX1_canHear_44 : decode cX1_canHear 44 = .ok (.goto 4, 3) := by decide +kernel
theorem dX1_canHear_47 : decode cX1_canHear 47 = .ok (.iconst 0, 1) := by decide +kernel
theorem dX1_canHear_48 : decode cX1_canHear 48 = .ok (.ireturn, 1) := by decide +kernel
theorem dX1_mayHear_0 : decode cX1_mayHear 0 = .ok (.aload_n 0, 1) := by decide +kernel
theorem dX1_mayHear_1 : decode cX1_mayHear 1 = .ok (.getfield 18, 3) := by decide +kernel
theorem dX1_mayHear_4 : decode cX1_mayHear 4 = .ok (.getfield 70, 3) := by decide +kernel
theorem dX1_mayHear_7 : decode cX1_mayHear 7 = .ok (.astore_n 3, 1) := by decide +kernel
theorem dX1_mayHear_8 : decode cX1_mayHear 8 = .ok (.aload_n 3, 1) := by decide +kernel
theorem dX1_mayHear_9 : decode cX1_mayHear 9 = .ok (.getfield 74, 3) := by decide +kernel
theorem dX1_mayHear_12 : decode cX1_mayHear 12 = .ok (.iload_n 1, 1) := by decide +kernel
theorem dX1_mayHear_13 : decode cX1_mayHear 13 = .ok (.iaload, 1) := by decide +kernel
theorem dX1_mayHear_14 : decode cX1_mayHear 14 = .ok (.ifCond .ge 24, 3) := by decide +kernel
theorem dX1_mayHear_17 : decode cX1_mayHear 17 = .ok (.aload_n 3, 1) := by decide +kernel
theorem dX1_mayHear_18 : decode cX1_mayHear 18 = .ok (.iload_n 2, 1) := by decide +kernel
theorem dX1_mayHear_19 : decode cX1_mayHear 19 = .ok (.invokevirtual 79, 3) := by decide +kernel
theorem dX1_mayHear_22 : decode cX1_mayHear 22 = .ok (.ifCond .ge 16, 3) := by decide +kernel
theorem dX1_mayHear_25 : decode cX1_mayHear 25 = .ok (.aload_n 0, 1) := by decide +kernel
theorem dX1_mayHear_26 : decode cX1_mayHear 26 = .ok (.iload_n 1, 1) := by decide +kernel
theorem dX1_mayHear_27 : decode cX1_mayHear 27 = .ok (.iload_n 2, 1) := by decide +kernel
theorem dX1_mayHear_28 : decode cX1_mayHear 28 = .ok (.aload_n 3, 1) := by decide +kernel
theorem dX1_mayHear_29 : decode cX1_mayHear 29 = .ok (.getfield 82, 3) := by decide +kernel
theorem dX1_mayHear_32 : decode cX1_mayHear 32 = .ok (.invokevirtual 85, 3) := by decide +kernel
theorem dX1_mayHear_35 : decode cX1_mayHear 35 = .ok (.ifCond .ne 5, 3) := by decide +kernel
theorem dX1_mayHear_38 : decode cX1_mayHear 38 = .ok (.iconst 0, 1) := by decide +kernel
theorem dX1_mayHear_39 : decode cX1_mayHear 39 = .ok (.ireturn, 1) := by decide +kernel
theorem dX1_mayHear_40 : decode cX1_mayHear 40 = .ok (.aload_n 3, 1) := by decide +kernel
theorem dX1_mayHear_41 : decode cX1_mayHear 41 = .ok (.getfield 89, 3) := by decide +kernel
theorem dX1_mayHear_44 : decode cX1_mayHear 44 = .ok (.iload_n 1, 1) := by decide +kernel
theorem dX1_mayHear_45 : decode cX1_mayHear 45 = .ok (.iaload, 1) := by decide +kernel
theorem dX1_mayHear_46 : decode cX1_mayHear 46 = .ok (.istore 4, 2) := by decide +kernel
theorem dX1_mayHear_48 : decode cX1_mayHear 48 = .ok (.iload 4, 2) := by decide +kernel
theorem dX1_mayHear_50 : decode cX1_mayHear 50 = .ok (.ifCond .lt 19, 3) := by decide +kernel
theorem dX1_mayHear_53 : decode cX1_mayHear 53 = .ok (.aload_n 0, 1) := by decide +kernel
theorem dX1_mayHear_54 : decode cX1_mayHear 54 = .ok (.getfield 18, 3) := by decide +kernel
theorem dX1_mayHear_57 : decode cX1_mayHear 57 = .ok (.getfield 26, 3) := by decide +kernel
theorem dX1_mayHear_60 : decode cX1_mayHear 60 = .ok (.iload_n 2, 1) := by decide +kernel
theorem dX1_mayHear_61 : decode cX1_mayHear 61 = .ok (.iload 4, 2) := by decide +kernel
theorem dX1_mayHear_63 : decode cX1_mayHear 63 = .ok (.invokevirtual 32, 3) := by decide +kernel
theorem dX1_mayHear_66 : decode cX1_mayHear 66 = .ok (.ifCond .eq 7, 3) := by decide +kernel
theorem dX1_mayHear_69 : decode cX1_mayHear 69 = .ok (.iconst 1, 1) := by decide +kernel
theorem dX1_mayHear_70 : decode cX1_mayHear 70 = .ok (.goto 4, 3) := by decide +kernel
theorem dX1_mayHear_73 : decode cX1_mayHear 73 = .ok (.iconst 0, 1) := by decide +kernel
theorem dX1_mayHear_74 : decode cX1_mayHear 74 = .ok (.ireturn, 1) := by decide +kernel
theorem dX1_charge_0 : decode cX1_charge 0 = .ok (.aload_n 0, 1) := by decide +kernel
theorem dX1_charge_1 : decode cX1_charge 1 = .ok (.getfield 9, 3) := by decide +kernel
theorem dX1_charge_4 : decode cX1_charge 4 = .ok (.iconst 4, 1) := by decide +kernel
theorem dX1_charge_5 : decode cX1_charge 5 = .ok (.iload_n 1, 1) := by decide +kernel
theorem dX1_charge_6 : decode cX1_charge 6 = .ok (.i2l, 1) := by decide +kernel
theorem dX1_charge_7 : decode cX1_charge 7 = .ok (.lastore, 1) := by decide +kernel
theorem dX1_charge_8 : decode cX1_charge 8 = .ok (.aload_n 0, 1) := by decide +kernel
theorem dX1_charge_9 : decode cX1_charge 9 = .ok (.getfield 9, 3) := by decide +kernel
theorem dX1_charge_12 : decode cX1_charge 12 = .ok (.iconst 5, 1) := by decide +kernel
theorem dX1_charge_13 : decode cX1_charge 13 = .ok (.iload_n 2, 1) := by decide +kernel
theorem dX1_charge_14 : decode cX1_charge 14 = .ok (.i2l, 1) := by decide +kernel
theorem dX1_charge_15 : decode cX1_charge 15 = .ok (.lastore, 1) := by decide +kernel
theorem dX1_charge_16 : decode cX1_charge 16 = .ok (.aload_n 0, 1) := by decide +kernel
theorem dX1_charge_17 : decode cX1_charge 17 = .ok (.getfield 9, 3) := by decide +kernel
theorem dX1_charge_20 : decode cX1_charge 20 = .ok (.bipush 6, 2) := by decide +kernel
theorem dX1_charge_22 : decode cX1_charge 22 = .ok (.iload_n 3, 1) := by decide +kernel
theorem dX1_charge_23 : decode cX1_charge 23 = .ok (.i2l, 1) := by decide +kernel
theorem dX1_charge_24 : decode cX1_charge 24 = .ok (.lastore, 1) := by decide +kernel
theorem dX1_charge_25 : decode cX1_charge 25 = .ok (.aload_n 0, 1) := by decide +kernel
theorem dX1_charge_26 : decode cX1_charge 26 = .ok (.getfield 9, 3) := by decide +kernel
theorem dX1_charge_29 : decode cX1_charge 29 = .ok (.bipush 10, 2) := by decide +kernel
theorem dX1_charge_31 : decode cX1_charge 31 = .ok (.iload 4, 2) := by decide +kernel
theorem dX1_charge_33 : decode cX1_charge 33 = .ok (.i2l, 1) := by decide +kernel
theorem dX1_charge_34 : decode cX1_charge 34 = .ok (.lastore, 1) := by decide +kernel
theorem dX1_charge_35 : decode cX1_charge 35 = .ok (.return_, 1) := by decide +kernel
theorem dX1_chargeOf_0 : decode cX1_chargeOf 0 = .ok (.aload_n 0, 1) := by decide +kernel
theorem dX1_chargeOf_1 : decode cX1_chargeOf 1 = .ok (.getfield 18, 3) := by decide +kernel
theorem dX1_chargeOf_4 : decode cX1_chargeOf 4 = .ok (.getfield 26, 3) := by decide +kernel
theorem dX1_chargeOf_7 : decode cX1_chargeOf 7 = .ok (.astore_n 3, 1) := by decide +kernel
theorem dX1_chargeOf_8 : decode cX1_chargeOf 8 = .ok (.aload_n 0, 1) := by decide +kernel
theorem dX1_chargeOf_9 : decode cX1_chargeOf 9 = .ok (.aload_n 3, 1) := by decide +kernel
theorem dX1_chargeOf_10 : decode cX1_chargeOf 10 = .ok (.getfield 60, 3) := by decide +kernel
theorem dX1_chargeOf_13 : decode cX1_chargeOf 13 = .ok (.iload_n 1, 1) := by decide +kernel
theorem dX1_chargeOf_14 : decode cX1_chargeOf 14 = .ok (.iaload, 1) := by decide +kernel
theorem dX1_chargeOf_15 : decode cX1_chargeOf 15 = .ok (.aload_n 3, 1) := by decide +kernel
theorem dX1_chargeOf_16 : decode cX1_chargeOf 16 = .ok (.getfield 102, 3) := by decide +kernel
theorem dX1_chargeOf_19 : decode cX1_chargeOf 19 = .ok (.iload_n 1, 1) := by decide +kernel
theorem dX1_chargeOf_20 : decode cX1_chargeOf 20 = .ok (.iaload, 1) := by decide +kernel
theorem dX1_chargeOf_21 : decode cX1_chargeOf 21 = .ok (.aload_n 3, 1) := by decide +kernel
theorem dX1_chargeOf_22 : decode cX1_chargeOf 22 = .ok (.getfield 63, 3) := by decide +kernel
theorem dX1_chargeOf_25 : decode cX1_chargeOf 25 = .ok (.iload_n 1, 1) := by decide +kernel
theorem dX1_chargeOf_26 : decode cX1_chargeOf 26 = .ok (.iaload, 1) := by decide +kernel
theorem dX1_chargeOf_27 : decode cX1_chargeOf 27 = .ok (.iload_n 2, 1) := by decide +kernel
theorem dX1_chargeOf_28 : decode cX1_chargeOf 28 = .ok (.invokevirtual 105, 3) := by decide +kernel
theorem dX1_chargeOf_31 : decode cX1_chargeOf 31 = .ok (.return_, 1) := by decide +kernel
theorem dX9_hasPerson_0 : decode cX9_hasPerson 0 = .ok (.iload_n 1, 1) := by decide +kernel
theorem dX9_hasPerson_1 : decode cX9_hasPerson 1 = .ok (.ifCond .lt 15, 3) := by decide +kernel
theorem dX9_hasPerson_4 : decode cX9_hasPerson 4 = .ok (.iload_n 1, 1) := by decide +kernel
theorem dX9_hasPerson_5 : decode cX9_hasPerson 5 = .ok (.aload_n 0, 1) := by decide +kernel
theorem dX9_hasPerson_6 : decode cX9_hasPerson 6 = .ok (.getfield 53, 3) := by decide +kernel
theorem dX9_hasPerson_9 : decode cX9_hasPerson 9 = .ok (.if_icmp .ge 7, 3) := by decide +kernel
theorem dX9_hasPerson_12 : decode cX9_hasPerson 12 = .ok (.iconst 1, 1) := by decide +kernel
theorem dX9_hasPerson_13 : decode cX9_hasPerson 13 = .ok (.goto 4, 3) := by decide +kernel
theorem dX9_hasPerson_16 : decode cX9_hasPerson 16 = .ok (.iconst 0, 1) := by decide +kernel
theorem dX9_hasPerson_17 : decode cX9_hasPerson 17 = .ok (.ireturn, 1) := by decide +kernel
theorem dX1_nameJudge_0 : decode cX1_nameJudge 0 = .ok (.aload_n 0, 1) := by decide +kernel
theorem dX1_nameJudge_1 : decode cX1_nameJudge 1 = .ok (.getfield 18, 3) := by decide +kernel
theorem dX1_nameJudge_4 : decode cX1_nameJudge 4 = .ok (.getfield 26, 3) := by decide +kernel
theorem dX1_nameJudge_7 : decode cX1_nameJudge 7 = .ok (.astore 4, 2) := by decide +kernel
theorem dX1_nameJudge_9 : decode cX1_nameJudge 9 = .ok (.aload 4, 2) := by decide +kernel
theorem dX1_nameJudge_11 : decode cX1_nameJudge 11 = .ok (.getfield 41, 3) := by decide +kernel
theorem dX1_nameJudge_14 : decode cX1_nameJudge 14 = .ok (.iload_n 1, 1) := by decide +kernel
theorem dX1_nameJudge_15 : decode cX1_nameJudge 15 = .ok (.iaload, 1) := by decide +kernel
theorem dX1_nameJudge_16 : decode cX1_nameJudge 16 = .ok (.iload_n 2, 1) := by decide +kernel
theorem dX1_nameJudge_17 : decode cX1_nameJudge 17 = .ok (.iadd, 1) := by decide +kernel
theorem dX1_nameJudge_18 : decode cX1_nameJudge 18 = .ok (.istore 5, 2) := by decide +kernel
theorem dX1_nameJudge_20 : decode cX1_nameJudge 20 = .ok (.aload_n 0, 1) := by decide +kernel
theorem dX1_nameJudge_21 : decode cX1_nameJudge 21 = .ok (.getfield 9, 3) := by decide +kernel
theorem dX1_nameJudge_24 : decode cX1_nameJudge 24 = .ok (.iconst 4, 1) := by decide +kernel
theorem dX1_nameJudge_25 : decode cX1_nameJudge 25 = .ok (.laload, 1) := by decide +kernel
theorem dX1_nameJudge_26 : decode cX1_nameJudge 26 = .ok (.l2i, 1) := by decide +kernel
theorem dX1_nameJudge_27 : decode cX1_nameJudge 27 = .ok (.istore 6, 2) := by decide +kernel
theorem dX1_nameJudge_29 : decode cX1_nameJudge 29 = .ok (.aload_n 0, 1) := by decide +kernel
theorem dX1_nameJudge_30 : decode cX1_nameJudge 30 = .ok (.getfield 9, 3) := by decide +kernel
theorem dX1_nameJudge_33 : decode cX1_nameJudge 33 = .ok (.iconst 0, 1) := by decide +kernel
theorem dX1_nameJudge_34 : decode cX1_nameJudge 34 = .ok (.iload_n 1, 1) := by decide +kernel
theorem dX1_nameJudge_35 : decode cX1_nameJudge 35 = .ok (.i2l, 1) := by decide +kernel
theorem dX1_nameJudge_36 : decode cX1_nameJudge 36 = .ok (.lastore, 1) := by decide +kernel
theorem dX1_nameJudge_37 : decode cX1_nameJudge 37 = .ok (.aload_n 0, 1) := by decide +kernel
theorem dX1_nameJudge_38 : decode cX1_nameJudge 38 = .ok (.getfield 9, 3) := by decide +kernel
theorem dX1_nameJudge_41 : decode cX1_nameJudge 41 = .ok (.iconst 1, 1) := by decide +kernel
theorem dX1_nameJudge_42 : decode cX1_nameJudge 42 = .ok (.aload_n 0, 1) := by decide +kernel
theorem dX1_nameJudge_43 : decode cX1_nameJudge 43 = .ok (.getfield 18, 3) := by decide +kernel
theorem dX1_nameJudge_46 : decode cX1_nameJudge 46 = .ok (.getfield 70, 3) := by decide +kernel
theorem dX1_nameJudge_49 : decode cX1_nameJudge 49 = .ok (.getfield 130, 3) := by decide +kernel
theorem dX1_nameJudge_52 : decode cX1_nameJudge 52 = .ok (.iload_n 1, 1) := by decide +kernel
theorem dX1_nameJudge_53 : decode cX1_nameJudge 53 = .ok (.iaload, 1) := by decide +kernel
theorem dX1_nameJudge_54 : decode cX1_nameJudge 54 = .ok (.i2l, 1) := by decide +kernel
theorem dX1_nameJudge_55 : decode cX1_nameJudge 55 = .ok (.lastore, 1) := by decide +kernel
theorem dX1_nameJudge_56 : decode cX1_nameJudge 56 = .ok (.aload_n 0, 1) := by decide +kernel
theorem dX1_nameJudge_57 : decode cX1_nameJudge 57 = .ok (.getfield 9, 3) := by decide +kernel
theorem dX1_nameJudge_60 : decode cX1_nameJudge 60 = .ok (.iconst 2, 1) := by decide +kernel
theorem dX1_nameJudge_61 : decode cX1_nameJudge 61 = .ok (.iload 5, 2) := by decide +kernel
theorem dX1_nameJudge_63 : decode cX1_nameJudge 63 = .ok (.i2l, 1) := by decide +kernel
theorem dX1_nameJudge_64 : decode cX1_nameJudge 64 = .ok (.lastore, 1) := by decide +kernel
theorem dX1_nameJudge_65 : decode cX1_nameJudge 65 = .ok (.aload_n 0, 1) := by decide +kernel
theorem dX1_nameJudge_66 : decode cX1_nameJudge 66 = .ok (.getfield 9, 3) := by decide +kernel
theorem dX1_nameJudge_69 : decode cX1_nameJudge 69 = .ok (.iconst 3, 1) := by decide +kernel
theorem dX1_nameJudge_70 : decode cX1_nameJudge 70 = .ok (.aload 4, 2) := by decide +kernel
theorem dX1_nameJudge_72 : decode cX1_nameJudge 72 = .ok (.getfield 137, 3) := by decide +kernel
theorem dX1_nameJudge_75 : decode cX1_nameJudge 75 = .ok (.iload_n 1, 1) := by decide +kernel
theorem dX1_nameJudge_76 : decode cX1_nameJudge 76 = .ok (.iaload, 1) := by decide +kernel
theorem dX1_nameJudge_77 : decode cX1_nameJudge 77 = .ok (.i2l, 1) := by decide +kernel
theorem dX1_nameJudge_78 : decode cX1_nameJudge 78 = .ok (.lastore, 1) := by decide +kernel
theorem dX1_nameJudge_79 : decode cX1_nameJudge 79 = .ok (.aload_n 0, 1) := by decide +kernel
theorem dX1_nameJudge_80 : decode cX1_nameJudge 80 = .ok (.getfield 9, 3) := by decide +kernel
theorem dX1_nameJudge_83 : decode cX1_nameJudge 83 = .ok (.bipush 7, 2) := by decide +kernel
theorem dX1_nameJudge_85 : decode cX1_nameJudge 85 = .ok (.aload 4, 2) := by decide +kernel
theorem dX1_nameJudge_87 : decode cX1_nameJudge 87 = .ok (.iload 6, 2) := by decide +kernel
theorem dX1_nameJudge_89 : decode cX1_nameJudge 89 = .ok (.invokevirtual 161, 3) := by decide +kernel
theorem dX1_nameJudge_92 : decode cX1_nameJudge 92 = .ok (.ifCond .eq 23, 3) := by decide +kernel
theorem dX1_nameJudge_95 : decode cX1_nameJudge 95 = .ok (.aload 4, 2) := by decide +kernel
theorem dX1_nameJudge_97 : decode cX1_nameJudge 97 = .ok (.getfield 41, 3) := by decide +kernel
theorem dX1_nameJudge_100 : decode cX1_nameJudge 100 = .ok (.iload 6, 2) := by decide +kernel
theorem dX1_nameJudge_102 : decode cX1_nameJudge 102 = .ok (.iaload, 1) := by decide +kernel
theorem dX1_nameJudge_103 : decode cX1_nameJudge 103 = .ok (.aload 4, 2) := by decide +kernel
theorem dX1_nameJudge_105 : decode cX1_nameJudge 105 = .ok (.getfield 41, 3) := by decide +kernel
theorem dX1_nameJudge_108 : decode cX1_nameJudge 108 = .ok (.iload_n 1, 1) := by decide +kernel
theorem dX1_nameJudge_109 : decode cX1_nameJudge 109 = .ok (.iaload, 1) := by decide +kernel
theorem dX1_nameJudge_110 : decode cX1_nameJudge 110 = .ok (.isub, 1) := by decide +kernel
theorem dX1_nameJudge_111 : decode cX1_nameJudge 111 = .ok (.i2l, 1) := by decide +kernel
theorem dX1_nameJudge_112 : decode cX1_nameJudge 112 = .ok (.goto 4, 3) := by decide +kernel
theorem dX1_nameJudge_115 : decode cX1_nameJudge 115 = .ok (.lconst 0, 1) := by decide +kernel
theorem dX1_nameJudge_116 : decode cX1_nameJudge 116 = .ok (.lastore, 1) := by decide +kernel
theorem dX1_nameJudge_117 : decode cX1_nameJudge 117 = .ok (.aload_n 0, 1) := by decide +kernel
theorem dX1_nameJudge_118 : decode cX1_nameJudge 118 = .ok (.getfield 9, 3) := by decide +kernel
theorem dX1_nameJudge_121 : decode cX1_nameJudge 121 = .ok (.bipush 8, 2) := by decide +kernel
theorem dX1_nameJudge_123 : decode cX1_nameJudge 123 = .ok (.iload_n 2, 1) := by decide +kernel
theorem dX1_nameJudge_124 : decode cX1_nameJudge 124 = .ok (.i2l, 1) := by decide +kernel
theorem dX1_nameJudge_125 : decode cX1_nameJudge 125 = .ok (.lastore, 1) := by decide +kernel
theorem dX1_nameJudge_126 : decode cX1_nameJudge 126 = .ok (.aload_n 0, 1) := by decide +kernel
theorem dX1_nameJudge_127 : decode cX1_nameJudge 127 = .ok (.getfield 9, 3) := by decide +kernel
theorem dX1_nameJudge_130 : decode cX1_nameJudge 130 = .ok (.bipush 9, 2) := by decide +kernel
theorem dX1_nameJudge_132 : decode cX1_nameJudge 132 = .ok (.iload_n 3, 1) := by decide +kernel
theorem dX1_nameJudge_133 : decode cX1_nameJudge 133 = .ok (.i2l, 1) := by decide +kernel
theorem dX1_nameJudge_134 : decode cX1_nameJudge 134 = .ok (.lastore, 1) := by decide +kernel
theorem dX1_nameJudge_135 : decode cX1_nameJudge 135 = .ok (.aload_n 0, 1) := by decide +kernel
theorem dX1_nameJudge_136 : decode cX1_nameJudge 136 = .ok (.getfield 9, 3) := by decide +kernel
theorem dX1_nameJudge_139 : decode cX1_nameJudge 139 = .ok (.bipush 11, 2) := by decide +kernel
theorem dX1_nameJudge_141 : decode cX1_nameJudge 141 = .ok (.aload 4, 2) := by decide +kernel
theorem dX1_nameJudge_143 : decode cX1_nameJudge 143 = .ok (.iload 5, 2) := by decide +kernel
theorem dX1_nameJudge_145 : decode cX1_nameJudge 145 = .ok (.invokevirtual 45, 3) := by decide +kernel
theorem dX1_nameJudge_148 : decode cX1_nameJudge 148 = .ok (.i2l, 1) := by decide +kernel
theorem dX1_nameJudge_149 : decode cX1_nameJudge 149 = .ok (.lastore, 1) := by decide +kernel
theorem dX1_nameJudge_150 : decode cX1_nameJudge 150 = .ok (.return_, 1) := by decide +kernel
theorem dX5_valueOf_0 : decode cX5_valueOf 0 = .ok (.iload_n 0, 1) := by decide +kernel
theorem dX5_valueOf_1 : decode cX5_valueOf 1 = .ok (.ldc 25, 2) := by decide +kernel
theorem dX5_valueOf_3 : decode cX5_valueOf 3 = .ok (.if_icmp .ge 6, 3) := by decide +kernel
theorem dX5_valueOf_6 : decode cX5_valueOf 6 = .ok (.iload_n 0, 1) := by decide +kernel
theorem dX5_valueOf_7 : decode cX5_valueOf 7 = .ok (.i2l, 1) := by decide +kernel
theorem dX5_valueOf_8 : decode cX5_valueOf 8 = .ok (.lreturn, 1) := by decide +kernel
theorem dX5_valueOf_9 : decode cX5_valueOf 9 = .ok (.iload_n 0, 1) := by decide +kernel
theorem dX5_valueOf_10 : decode cX5_valueOf 10 = .ok (.ldc 25, 2) := by decide +kernel
theorem dX5_valueOf_12 : decode cX5_valueOf 12 = .ok (.isub, 1) := by decide +kernel
theorem dX5_valueOf_13 : decode cX5_valueOf 13 = .ok (.istore_n 2, 1) := by decide +kernel
theorem dX5_valueOf_14 : decode cX5_valueOf 14 = .ok (.iload_n 2, 1) := by decide +kernel
theorem dX5_valueOf_15 : decode cX5_valueOf 15 = .ok (.aload_n 1, 1) := by decide +kernel
theorem dX5_valueOf_16 : decode cX5_valueOf 16 = .ok (.arraylength, 1) := by decide +kernel
theorem dX5_valueOf_17 : decode cX5_valueOf 17 = .ok (.if_icmp .ge 9, 3) := by decide +kernel
theorem dX5_valueOf_20 : decode cX5_valueOf 20 = .ok (.aload_n 1, 1) := by decide +kernel
theorem dX5_valueOf_21 : decode cX5_valueOf 21 = .ok (.iload_n 2, 1) := by decide +kernel
theorem dX5_valueOf_22 : decode cX5_valueOf 22 = .ok (.laload, 1) := by decide +kernel
theorem dX5_valueOf_23 : decode cX5_valueOf 23 = .ok (.goto 4, 3) := by decide +kernel
theorem dX5_valueOf_26 : decode cX5_valueOf 26 = .ok (.lconst 0, 1) := by decide +kernel
theorem dX5_valueOf_27 : decode cX5_valueOf 27 = .ok (.lreturn, 1) := by decide +kernel
theorem dX5_joined_0 : decode cX5_joined 0 = .ok (.iload_n 0, 1) := by decide +kernel
theorem dX5_joined_1 : decode cX5_joined 1 = .ok (.tableswitch 163 200000 200010 #[59, 63, 67, 71, 85, 99, 111, 123, 135, 147, 159], 59) := by decide +kernel
theorem dX5_joined_60 : decode cX5_joined 60 = .ok (.lload_n 1, 1) := by decide +kernel
theorem dX5_joined_61 : decode cX5_joined 61 = .ok (.lload_n 3, 1) := by decide +kernel
theorem dX5_joined_62 : decode cX5_joined 62 = .ok (.ladd, 1) := by decide +kernel
theorem dX5_joined_63 : decode cX5_joined 63 = .ok (.lreturn, 1) := by decide +kernel
theorem dX5_joined_64 : decode cX5_joined 64 = .ok (.lload_n 1, 1) := by decide +kernel
theorem dX5_joined_65 : decode cX5_joined 65 = .ok (.lload_n 3, 1) := by decide +kernel
theorem dX5_joined_66 : decode cX5_joined 66 = .ok (.lsub, 1) := by decide +kernel
theorem dX5_joined_67 : decode cX5_joined 67 = .ok (.lreturn, 1) := by decide +kernel
theorem dX5_joined_68 : decode cX5_joined 68 = .ok (.lload_n 1, 1) := by decide +kernel
theorem dX5_joined_69 : decode cX5_joined 69 = .ok (.lload_n 3, 1) := by decide +kernel
theorem dX5_joined_70 : decode cX5_joined 70 = .ok (.lmul, 1) := by decide +kernel
theorem dX5_joined_71 : decode cX5_joined 71 = .ok (.lreturn, 1) := by decide +kernel
theorem dX5_joined_72 : decode cX5_joined 72 = .ok (.lload_n 3, 1) := by decide +kernel
theorem dX5_joined_73 : decode cX5_joined 73 = .ok (.lconst 0, 1) := by decide +kernel
theorem dX5_joined_74 : decode cX5_joined 74 = .ok (.lcmp, 1) := by decide +kernel
theorem dX5_joined_75 : decode cX5_joined 75 = .ok (.ifCond .ne 7, 3) := by decide +kernel
theorem dX5_joined_78 : decode cX5_joined 78 = .ok (.lconst 0, 1) := by decide +kernel
theorem dX5_joined_79 : decode cX5_joined 79 = .ok (.goto 6, 3) := by decide +kernel
theorem dX5_joined_82 : decode cX5_joined 82 = .ok (.lload_n 1, 1) := by decide +kernel
theorem dX5_joined_83 : decode cX5_joined 83 = .ok (.lload_n 3, 1) := by decide +kernel
theorem dX5_joined_84 : decode cX5_joined 84 = .ok (.ldiv, 1) := by decide +kernel
theorem dX5_joined_85 : decode cX5_joined 85 = .ok (.lreturn, 1) := by decide +kernel
theorem dX5_joined_86 : decode cX5_joined 86 = .ok (.lload_n 3, 1) := by decide +kernel
theorem dX5_joined_87 : decode cX5_joined 87 = .ok (.lconst 0, 1) := by decide +kernel
theorem dX5_joined_88 : decode cX5_joined 88 = .ok (.lcmp, 1) := by decide +kernel
theorem dX5_joined_89 : decode cX5_joined 89 = .ok (.ifCond .ne 7, 3) := by decide +kernel
theorem dX5_joined_92 : decode cX5_joined 92 = .ok (.lconst 0, 1) := by decide +kernel
theorem dX5_joined_93 : decode cX5_joined 93 = .ok (.goto 6, 3) := by decide +kernel
theorem dX5_joined_96 : decode cX5_joined 96 = .ok (.lload_n 1, 1) := by decide +kernel
theorem dX5_joined_97 : decode cX5_joined 97 = .ok (.lload_n 3, 1) := by decide +kernel
theorem dX5_joined_98 : decode cX5_joined 98 = .ok (.lrem, 1) := by decide +kernel
theorem dX5_joined_99 : decode cX5_joined 99 = .ok (.lreturn, 1) := by decide +kernel
theorem dX5_joined_100 : decode cX5_joined 100 = .ok (.lload_n 1, 1) := by decide +kernel
theorem dX5_joined_101 : decode cX5_joined 101 = .ok (.lload_n 3, 1) := by decide +kernel
theorem dX5_joined_102 : decode cX5_joined 102 = .ok (.lcmp, 1) := by decide +kernel
theorem dX5_joined_103 : decode cX5_joined 103 = .ok (.ifCond .ge 7, 3) := by decide +kernel
theorem dX5_joined_106 : decode cX5_joined 106 = .ok (.lconst 1, 1) := by decide +kernel
theorem dX5_joined_107 : decode cX5_joined 107 = .ok (.goto 4, 3) := by decide +kernel
theorem dX5_joined_110 : decode cX5_joined 110 = .ok (.lconst 0, 1) := by decide +kernel
theorem dX5_joined_111 : decode cX5_joined 111 = .ok (.lreturn, 1) := by decide +kernel
theorem dX5_joined_112 : decode cX5_joined 112 = .ok (.lload_n 1, 1) := by decide +kernel
theorem dX5_joined_113 : decode cX5_joined 113 = .ok (.lload_n 3, 1) := by decide +kernel
theorem dX5_joined_114 : decode cX5_joined 114 = .ok (.lcmp, 1) := by decide +kernel
theorem dX5_joined_115 : decode cX5_joined 115 = .ok (.ifCond .gt 7, 3) := by decide +kernel
theorem dX5_joined_118 : decode cX5_joined 118 = .ok (.lconst 1, 1) := by decide +kernel
theorem dX5_joined_119 : decode cX5_joined 119 = .ok (.goto 4, 3) := by decide +kernel
theorem dX5_joined_122 : decode cX5_joined 122 = .ok (.lconst 0, 1) := by decide +kernel
theorem dX5_joined_123 : decode cX5_joined 123 = .ok (.lreturn, 1) := by decide +kernel
theorem dX5_joined_124 : decode cX5_joined 124 = .ok (.lload_n 1, 1) := by decide +kernel
theorem dX5_joined_125 : decode cX5_joined 125 = .ok (.lload_n 3, 1) := by decide +kernel
theorem dX5_joined_126 : decode cX5_joined 126 = .ok (.lcmp, 1) := by decide +kernel
theorem dX5_joined_127 : decode cX5_joined 127 = .ok (.ifCond .ne 7, 3) := by decide +kernel
theorem dX5_joined_130 : decode cX5_joined 130 = .ok (.lconst 1, 1) := by decide +kernel
theorem dX5_joined_131 : decode cX5_joined 131 = .ok (.goto 4, 3) := by decide +kernel
theorem dX5_joined_134 : decode cX5_joined 134 = .ok (.lconst 0, 1) := by decide +kernel
theorem dX5_joined_135 : decode cX5_joined 135 = .ok (.lreturn, 1) := by decide +kernel
theorem dX5_joined_136 : decode cX5_joined 136 = .ok (.lload_n 1, 1) := by decide +kernel
theorem dX5_joined_137 : decode cX5_joined 137 = .ok (.lload_n 3, 1) := by decide +kernel
theorem dX5_joined_138 : decode cX5_joined 138 = .ok (.lcmp, 1) := by decide +kernel
theorem dX5_joined_139 : decode cX5_joined 139 = .ok (.ifCond .lt 7, 3) := by decide +kernel
theorem dX5_joined_142 : decode cX5_joined 142 = .ok (.lconst 1, 1) := by decide +kernel
theorem dX5_joined_143 : decode cX5_joined 143 = .ok (.goto 4, 3) := by decide +kernel
theorem dX5_joined_146 : decode cX5_joined 146 = .ok (.lconst 0, 1) := by decide +kernel
theorem dX5_joined_147 : decode cX5_joined 147 = .ok (.lreturn, 1) := by decide +kernel
theorem dX5_joined_148 : decode cX5_joined 148 = .ok (.lload_n 1, 1) := by decide +kernel
theorem dX5_joined_149 : decode cX5_joined 149 = .ok (.lload_n 3, 1) := by decide +kernel
theorem dX5_joined_150 : decode cX5_joined 150 = .ok (.lcmp, 1) := by decide +kernel
theorem dX5_joined_151 : decode cX5_joined 151 = .ok (.ifCond .le 7, 3) := by decide +kernel
theorem dX5_joined_154 : decode cX5_joined 154 = .ok (.lconst 1, 1) := by decide +kernel
theorem dX5_joined_155 : decode cX5_joined 155 = .ok (.goto 4, 3) := by decide +kernel
theorem dX5_joined_158 : decode cX5_joined 158 = .ok (.lconst 0, 1) := by decide +kernel
theorem dX5_joined_159 : decode cX5_joined 159 = .ok (.lreturn, 1) := by decide +kernel
theorem dX5_joined_160 : decode cX5_joined 160 = .ok (.lload_n 1, 1) := by decide +kernel
theorem dX5_joined_161 : decode cX5_joined 161 = .ok (.lload_n 3, 1) := by decide +kernel
theorem dX5_joined_162 : decode cX5_joined 162 = .ok (.land, 1) := by decide +kernel
theorem dX5_joined_163 : decode cX5_joined 163 = .ok (.lreturn, 1) := by decide +kernel
theorem dX5_joined_164 : decode cX5_joined 164 = .ok (.lload_n 1, 1) := by decide +kernel
theorem dX5_joined_165 : decode cX5_joined 165 = .ok (.lload_n 3, 1) := by decide +kernel
theorem dX5_joined_166 : decode cX5_joined 166 = .ok (.lor, 1) := by decide +kernel
theorem dX5_joined_167 : decode cX5_joined 167 = .ok (.lreturn, 1) := by decide +kernel
theorem dX5_sum_0 : decode cX5_sum 0 = .ok (.iconst 0, 1) := by decide +kernel
theorem dX5_sum_1 : decode cX5_sum 1 = .ok (.istore_n 3, 1) := by decide +kernel
theorem dX5_sum_2 : decode cX5_sum 2 = .ok (.iconst 0, 1) := by decide +kernel
theorem dX5_sum_3 : decode cX5_sum 3 = .ok (.istore 4, 2) := by decide +kernel
theorem dX5_sum_5 : decode cX5_sum 5 = .ok (.iload 4, 2) := by decide +kernel
theorem dX5_sum_7 : decode cX5_sum 7 = .ok (.aload_n 0, 1) := by decide +kernel
theorem dX5_sum_8 : decode cX5_sum 8 = .ok (.getfield 9, 3) := by decide +kernel
theorem dX5_sum_11 : decode cX5_sum 11 = .ok (.arraylength, 1) := by decide +kernel
theorem dX5_sum_12 : decode cX5_sum 12 = .ok (.if_icmp .ge 163, 3) := by decide +kernel
theorem dX5_sum_15 : decode cX5_sum 15 = .ok (.aload_n 0, 1) := by decide +kernel
theorem dX5_sum_16 : decode cX5_sum 16 = .ok (.getfield 9, 3) := by decide +kernel
theorem dX5_sum_19 : decode cX5_sum 19 = .ok (.iload 4, 2) := by decide +kernel
theorem dX5_sum_21 : decode cX5_sum 21 = .ok (.iaload, 1) := by decide +kernel
theorem dX5_sum_22 : decode cX5_sum 22 = .ok (.istore 5, 2) := by decide +kernel
theorem dX5_sum_24 : decode cX5_sum 24 = .ok (.iload 5, 2) := by decide +kernel
theorem dX5_sum_26 : decode cX5_sum 26 = .ok (.ldc 13, 2) := by decide +kernel
theorem dX5_sum_28 : decode cX5_sum 28 = .ok (.if_icmp .ge 26, 3) := by decide +kernel
theorem dX5_sum_31 : decode cX5_sum 31 = .ok (.iload_n 3, 1) := by decide +kernel
theorem dX5_sum_32 : decode cX5_sum 32 = .ok (.aload_n 2, 1) := by decide +kernel
theorem dX5_sum_33 : decode cX5_sum 33 = .ok (.arraylength, 1) := by decide +kernel
theorem dX5_sum_34 : decode cX5_sum 34 = .ok (.if_icmp .lt 5, 3) := by decide +kernel
theorem dX5_sum_37 : decode cX5_sum 37 = .ok (.lconst 0, 1) := by decide +kernel
theorem dX5_sum_38 : decode cX5_sum 38 = .ok (.lreturn, 1) := by decide +kernel
theorem dX5_sum_39 : decode cX5_sum 39 = .ok (.aload_n 2, 1) := by decide +kernel
theorem dX5_sum_40 : decode cX5_sum 40 = .ok (.iload_n 3, 1) := by decide +kernel
theorem dX5_sum_41 : decode cX5_sum 41 = .ok (.iload 5, 2) := by decide +kernel
theorem dX5_sum_43 : decode cX5_sum 43 = .ok (.aload_n 1, 1) := by decide +kernel
theorem dX5_sum_44 : decode cX5_sum 44 = .ok (.invokestatic 14, 3) := by decide +kernel
theorem dX5_sum_47 : decode cX5_sum 47 = .ok (.lastore, 1) := by decide +kernel
theorem dX5_sum_48 : decode cX5_sum 48 = .ok (.iinc 3 1, 3) := by decide +kernel
theorem dX5_sum_51 : decode cX5_sum 51 = .ok (.goto 118, 3) := by decide +kernel
theorem dX5_sum_54 : decode cX5_sum 54 = .ok (.iload 5, 2) := by decide +kernel
theorem dX5_sum_56 : decode cX5_sum 56 = .ok (.ldc 18, 2) := by decide +kernel
theorem dX5_sum_58 : decode cX5_sum 58 = .ok (.if_icmp .gt 34, 3) := by decide +kernel
theorem dX5_sum_61 : decode cX5_sum 61 = .ok (.iload_n 3, 1) := by decide +kernel
theorem dX5_sum_62 : decode cX5_sum 62 = .ok (.iconst 2, 1) := by decide +kernel
theorem dX5_sum_63 : decode cX5_sum 63 = .ok (.if_icmp .ge 5, 3) := by decide +kernel
theorem dX5_sum_66 : decode cX5_sum 66 = .ok (.lconst 0, 1) := by decide +kernel
theorem dX5_sum_67 : decode cX5_sum 67 = .ok (.lreturn, 1) := by decide +kernel
theorem dX5_sum_68 : decode cX5_sum 68 = .ok (.iinc 3 (-1), 3) := by decide +kernel
theorem dX5_sum_71 : decode cX5_sum 71 = .ok (.aload_n 2, 1) := by decide +kernel
theorem dX5_sum_72 : decode cX5_sum 72 = .ok (.iload_n 3, 1) := by decide +kernel
theorem dX5_sum_73 : decode cX5_sum 73 = .ok (.iconst 1, 1) := by decide +kernel
theorem dX5_sum_74 : decode cX5_sum 74 = .ok (.isub, 1) := by decide +kernel
theorem dX5_sum_75 : decode cX5_sum 75 = .ok (.iload 5, 2) := by decide +kernel
theorem dX5_sum_77 : decode cX5_sum 77 = .ok (.aload_n 2, 1) := by decide +kernel
theorem dX5_sum_78 : decode cX5_sum 78 = .ok (.iload_n 3, 1) := by decide +kernel
theorem dX5_sum_79 : decode cX5_sum 79 = .ok (.iconst 1, 1) := by decide +kernel
theorem dX5_sum_80 : decode cX5_sum 80 = .ok (.isub, 1) := by decide +kernel
theorem dX5_sum_81 : decode cX5_sum 81 = .ok (.laload, 1) := by decide +kernel
theorem dX5_sum_82 : decode cX5_sum 82 = .ok (.aload_n 2, 1) := by decide +kernel
theorem dX5_sum_83 : decode cX5_sum 83 = .ok (.iload_n 3, 1) := by decide +kernel
theorem dX5_sum_84 : decode cX5_sum 84 = .ok (.laload, 1) := by decide +kernel
theorem dX5_sum_85 : decode cX5_sum 85 = .ok (.invokestatic 19, 3) := by decide +kernel
theorem dX5_sum_88 : decode cX5_sum 88 = .ok (.lastore, 1) := by decide +kernel
theorem dX5_sum_89 : decode cX5_sum 89 = .ok (.goto 80, 3) := by decide +kernel
theorem dX5_sum_92 : decode cX5_sum 92 = .ok (.iload 5, 2) := by decide +kernel
theorem dX5_sum_94 : decode cX5_sum 94 = .ok (.ldc 23, 2) := by decide +kernel
theorem dX5_sum_96 : decode cX5_sum 96 = .ok (.if_icmp .ne 25, 3) := by decide +kernel
theorem dX5_sum_99 : decode cX5_sum 99 = .ok (.iload_n 3, 1) := by decide +kernel
theorem dX5_sum_100 : decode cX5_sum 100 = .ok (.iconst 1, 1) := by decide +kernel
theorem dX5_sum_101 : decode cX5_sum 101 = .ok (.if_icmp .ge 5, 3) := by decide +kernel
theorem dX5_sum_104 : decode cX5_sum 104 = .ok (.lconst 0, 1) := by decide +kernel
theorem dX5_sum_105 : decode cX5_sum 105 = .ok (.lreturn, 1) := by decide +kernel
theorem dX5_sum_106 : decode cX5_sum 106 = .ok (.aload_n 2, 1) := by decide +kernel
theorem dX5_sum_107 : decode cX5_sum 107 = .ok (.iload_n 3, 1) := by decide +kernel
theorem dX5_sum_108 : decode cX5_sum 108 = .ok (.iconst 1, 1) := by decide +kernel
theorem dX5_sum_109 : decode cX5_sum 109 = .ok (.isub, 1) := by decide +kernel
theorem dX5_sum_110 : decode cX5_sum 110 = .ok (.lconst 1, 1) := by decide +kernel
theorem dX5_sum_111 : decode cX5_sum 111 = .ok (.aload_n 2, 1) := by decide +kernel
theorem dX5_sum_112 : decode cX5_sum 112 = .ok (.iload_n 3, 1) := by decide +kernel
theorem dX5_sum_113 : decode cX5_sum 113 = .ok (.iconst 1, 1) := by decide +kernel
theorem dX5_sum_114 : decode cX5_sum 114 = .ok (.isub, 1) := by decide +kernel
theorem dX5_sum_115 : decode cX5_sum 115 = .ok (.laload, 1) := by decide +kernel
theorem dX5_sum_116 : decode cX5_sum 116 = .ok (.lsub, 1) := by decide +kernel
theorem dX5_sum_117 : decode cX5_sum 117 = .ok (.lastore, 1) := by decide +kernel
theorem dX5_sum_118 : decode cX5_sum 118 = .ok (.goto 51, 3) := by decide +kernel
theorem dX5_sum_121 : decode cX5_sum 121 = .ok (.iload 5, 2) := by decide +kernel
theorem dX5_sum_123 : decode cX5_sum 123 = .ok (.ldc 24, 2) := by decide +kernel
theorem dX5_sum_125 : decode cX5_sum 125 = .ok (.if_icmp .ne 18, 3) := by decide +kernel
theorem dX5_sum_128 : decode cX5_sum 128 = .ok (.iload_n 3, 1) := by decide +kernel
theorem dX5_sum_129 : decode cX5_sum 129 = .ok (.iconst 1, 1) := by decide +kernel
theorem dX5_sum_130 : decode cX5_sum 130 = .ok (.if_icmp .ge 7, 3) := by decide +kernel
theorem dX5_sum_133 : decode cX5_sum 133 = .ok (.lconst 0, 1) := by decide +kernel
theorem dX5_sum_134 : decode cX5_sum 134 = .ok (.goto 8, 3) := by decide +kernel
theorem dX5_sum_137 : decode cX5_sum 137 = .ok (.aload_n 2, 1) := by decide +kernel
theorem dX5_sum_138 : decode cX5_sum 138 = .ok (.iload_n 3, 1) := by decide +kernel
theorem dX5_sum_139 : decode cX5_sum 139 = .ok (.iconst 1, 1) := by decide +kernel
theorem dX5_sum_140 : decode cX5_sum 140 = .ok (.isub, 1) := by decide +kernel
theorem dX5_sum_141 : decode cX5_sum 141 = .ok (.laload, 1) := by decide +kernel
theorem dX5_sum_142 : decode cX5_sum 142 = .ok (.lreturn, 1) := by decide +kernel
theorem dX5_sum_143 : decode cX5_sum 143 = .ok (.iload_n 3, 1) := by decide +kernel
theorem dX5_sum_144 : decode cX5_sum 144 = .ok (.iconst 2, 1) := by decide +kernel
theorem dX5_sum_145 : decode cX5_sum 145 = .ok (.if_icmp .ge 5, 3) := by decide +kernel
theorem dX5_sum_148 : decode cX5_sum 148 = .ok (.lconst 0, 1) := by decide +kernel
theorem dX5_sum_149 : decode cX5_sum 149 = .ok (.lreturn, 1) := by decide +kernel
theorem dX5_sum_150 : decode cX5_sum 150 = .ok (.aload_n 2, 1) := by decide +kernel
theorem dX5_sum_151 : decode cX5_sum 151 = .ok (.iload_n 3, 1) := by decide +kernel
theorem dX5_sum_152 : decode cX5_sum 152 = .ok (.iconst 1, 1) := by decide +kernel
theorem dX5_sum_153 : decode cX5_sum 153 = .ok (.isub, 1) := by decide +kernel
theorem dX5_sum_154 : decode cX5_sum 154 = .ok (.laload, 1) := by decide +kernel
theorem dX5_sum_155 : decode cX5_sum 155 = .ok (.lconst 0, 1) := by decide +kernel
theorem dX5_sum_156 : decode cX5_sum 156 = .ok (.lcmp, 1) := by decide +kernel
theorem dX5_sum_157 : decode cX5_sum 157 = .ok (.ifCond .eq 9, 3) := by decide +kernel
theorem dX5_sum_160 : decode cX5_sum 160 = .ok (.aload_n 2, 1) := by decide +kernel
theorem dX5_sum_161 : decode cX5_sum 161 = .ok (.iload_n 3, 1) := by decide +kernel
theorem dX5_sum_162 : decode cX5_sum 162 = .ok (.iconst 2, 1) := by decide +kernel
theorem dX5_sum_163 : decode cX5_sum 163 = .ok (.isub, 1) := by decide +kernel
theorem dX5_sum_164 : decode cX5_sum 164 = .ok (.laload, 1) := by decide +kernel
theorem dX5_sum_165 : decode cX5_sum 165 = .ok (.lreturn, 1) := by decide +kernel
theorem dX5_sum_166 : decode cX5_sum 166 = .ok (.iinc 3 (-2), 3) := by decide +kernel
theorem dX5_sum_169 : decode cX5_sum 169 = .ok (.iinc 4 1, 3) := by decide +kernel
theorem dX5_sum_172 : decode cX5_sum 172 = .ok (.goto (-167), 3) := by decide +kernel
theorem dX5_sum_175 : decode cX5_sum 175 = .ok (.lconst 0, 1) := by decide +kernel
theorem dX5_sum_176 : decode cX5_sum 176 = .ok (.lreturn, 1) := by decide +kernel
theorem dX1_rightOf_0 : decode cX1_rightOf 0 = .ok (.aload_n 0, 1) := by decide +kernel
theorem dX1_rightOf_1 : decode cX1_rightOf 1 = .ok (.getfield 18, 3) := by decide +kernel
theorem dX1_rightOf_4 : decode cX1_rightOf 4 = .ok (.getfield 123, 3) := by decide +kernel
theorem dX1_rightOf_7 : decode cX1_rightOf 7 = .ok (.istore 4, 2) := by decide +kernel
theorem dX1_rightOf_9 : decode cX1_rightOf 9 = .ok (.iload 4, 2) := by decide +kernel
theorem dX1_rightOf_11 : decode cX1_rightOf 11 = .ok (.ifCond .lt 20, 3) := by decide +kernel
theorem dX1_rightOf_14 : decode cX1_rightOf 14 = .ok (.iload 4, 2) := by decide +kernel
theorem dX1_rightOf_16 : decode cX1_rightOf 16 = .ok (.bipush 6, 2) := by decide +kernel
theorem dX1_rightOf_18 : decode cX1_rightOf 18 = .ok (.if_icmp .ge 13, 3) := by decide +kernel
theorem dX1_rightOf_21 : decode cX1_rightOf 21 = .ok (.aload_n 0, 1) := by decide +kernel
theorem dX1_rightOf_22 : decode cX1_rightOf 22 = .ok (.getfield 22, 3) := by decide +kernel
theorem dX1_rightOf_25 : decode cX1_rightOf 25 = .ok (.iload 4, 2) := by decide +kernel
theorem dX1_rightOf_27 : decode cX1_rightOf 27 = .ok (.aaload, 1) := by decide +kernel
theorem dX1_rightOf_28 : decode cX1_rightOf 28 = .ok (.ifnonnull 62, 3) := by decide +kernel
theorem dX1_rightOf_31 : decode cX1_rightOf 31 = .ok (.aload_n 0, 1) := by decide +kernel
theorem dX1_rightOf_32 : decode cX1_rightOf 32 = .ok (.getfield 9, 3) := by decide +kernel
theorem dX1_rightOf_35 : decode cX1_rightOf 35 = .ok (.iconst 5, 1) := by decide +kernel
theorem dX1_rightOf_36 : decode cX1_rightOf 36 = .ok (.laload, 1) := by decide +kernel
theorem dX1_rightOf_37 : decode cX1_rightOf 37 = .ok (.lstore 7, 2) := by decide +kernel
theorem dX1_rightOf_39 : decode cX1_rightOf 39 = .ok (.ldc2_w 126, 3) := by decide +kernel
theorem dX1_rightOf_42 : decode cX1_rightOf 42 = .ok (.ldc2_w 128, 3) := by decide +kernel
theorem dX1_rightOf_45 : decode cX1_rightOf 45 = .ok (.aload_n 0, 1) := by decide +kernel
theorem dX1_rightOf_46 : decode cX1_rightOf 46 = .ok (.getfield 18, 3) := by decide +kernel
theorem dX1_rightOf_49 : decode cX1_rightOf 49 = .ok (.getfield 70, 3) := by decide +kernel
theorem dX1_rightOf_52 : decode cX1_rightOf 52 = .ok (.getfield 130, 3) := by decide +kernel
theorem dX1_rightOf_55 : decode cX1_rightOf 55 = .ok (.iload_n 1, 1) := by decide +kernel
theorem dX1_rightOf_56 : decode cX1_rightOf 56 = .ok (.iaload, 1) := by decide +kernel
theorem dX1_rightOf_57 : decode cX1_rightOf 57 = .ok (.i2l, 1) := by decide +kernel
theorem dX1_rightOf_58 : decode cX1_rightOf 58 = .ok (.lmul, 1) := by decide +kernel
theorem dX1_rightOf_59 : decode cX1_rightOf 59 = .ok (.ladd, 1) := by decide +kernel
theorem dX1_rightOf_60 : decode cX1_rightOf 60 = .ok (.ldc2_w 133, 3) := by decide +kernel
theorem dX1_rightOf_63 : decode cX1_rightOf 63 = .ok (.lload 7, 2) := by decide +kernel
theorem dX1_rightOf_65 : decode cX1_rightOf 65 = .ok (.lmul, 1) := by decide +kernel
theorem dX1_rightOf_66 : decode cX1_rightOf 66 = .ok (.lsub, 1) := by decide +kernel
theorem dX1_rightOf_67 : decode cX1_rightOf 67 = .ok (.ldc2_w 135, 3) := by decide +kernel
theorem dX1_rightOf_70 : decode cX1_rightOf 70 = .ok (.aload_n 0, 1) := by decide +kernel
theorem dX1_rightOf_71 : decode cX1_rightOf 71 = .ok (.getfield 18, 3) := by decide +kernel
theorem dX1_rightOf_74 : decode cX1_rightOf 74 = .ok (.getfield 26, 3) := by decide +kernel
theorem dX1_rightOf_77 : decode cX1_rightOf 77 = .ok (.getfield 137, 3) := by decide +kernel
theorem dX1_rightOf_80 : decode cX1_rightOf 80 = .ok (.iload_n 1, 1) := by decide +kernel
theorem dX1_rightOf_81 : decode cX1_rightOf 81 = .ok (.iaload, 1) := by decide +kernel
theorem dX1_rightOf_82 : decode cX1_rightOf 82 = .ok (.i2l, 1) := by decide +kernel
theorem dX1_rightOf_83 : decode cX1_rightOf 83 = .ok (.lmul, 1) := by decide +kernel
theorem dX1_rightOf_84 : decode cX1_rightOf 84 = .ok (.lsub, 1) := by decide +kernel
theorem dX1_rightOf_85 : decode cX1_rightOf 85 = .ok (.lstore 5, 2) := by decide +kernel
theorem dX1_rightOf_87 : decode cX1_rightOf 87 = .ok (.goto 30, 3) := by decide +kernel
theorem dX1_rightOf_90 : decode cX1_rightOf 90 = .ok (.aload_n 0, 1) := by decide +kernel
theorem dX1_rightOf_91 : decode cX1_rightOf 91 = .ok (.iload_n 1, 1) := by decide +kernel
theorem dX1_rightOf_92 : decode cX1_rightOf 92 = .ok (.iload_n 2, 1) := by decide +kernel
theorem dX1_rightOf_93 : decode cX1_rightOf 93 = .ok (.iload_n 3, 1) := by decide +kernel
theorem dX1_rightOf_94 : decode cX1_rightOf 94 = .ok (.invokevirtual 140, 3) := by decide +kernel
theorem dX1_rightOf_97 : decode cX1_rightOf 97 = .ok (.aload_n 0, 1) := by decide +kernel
theorem dX1_rightOf_98 : decode cX1_rightOf 98 = .ok (.getfield 22, 3) := by decide +kernel
theorem dX1_rightOf_101 : decode cX1_rightOf 101 = .ok (.iload 4, 2) := by decide +kernel
theorem dX1_rightOf_103 : decode cX1_rightOf 103 = .ok (.aaload, 1) := by decide +kernel
theorem dX1_rightOf_104 : decode cX1_rightOf 104 = .ok (.aload_n 0, 1) := by decide +kernel
theorem dX1_rightOf_105 : decode cX1_rightOf 105 = .ok (.getfield 9, 3) := by decide +kernel
theorem dX1_rightOf_108 : decode cX1_rightOf 108 = .ok (.aload_n 0, 1) := by decide +kernel
theorem dX1_rightOf_109 : decode cX1_rightOf 109 = .ok (.getfield 15, 3) := by decide +kernel
theorem dX1_rightOf_112 : decode cX1_rightOf 112 = .ok (.invokevirtual 144, 3) := by decide +kernel
theorem dX1_rightOf_115 : decode cX1_rightOf 115 = .ok (.lstore 5, 2) := by decide +kernel
theorem dX1_rightOf_117 : decode cX1_rightOf 117 = .ok (.lconst 0, 1) := by decide +kernel
theorem dX1_rightOf_118 : decode cX1_rightOf 118 = .ok (.ldc2_w 150, 3) := by decide +kernel
theorem dX1_rightOf_121 : decode cX1_rightOf 121 = .ok (.lload 5, 2) := by decide +kernel
theorem dX1_rightOf_123 : decode cX1_rightOf 123 = .ok (.invokestatic 152, 3) := by decide +kernel
theorem dX1_rightOf_126 : decode cX1_rightOf 126 = .ok (.invokestatic 158, 3) := by decide +kernel
theorem dX1_rightOf_129 : decode cX1_rightOf 129 = .ok (.l2i, 1) := by decide +kernel
theorem dX1_rightOf_130 : decode cX1_rightOf 130 = .ok (.ireturn, 1) := by decide +kernel
theorem dX1_rightNow_0 : decode cX1_rightNow 0 = .ok (.aload_n 0, 1) := by decide +kernel
theorem dX1_rightNow_1 : decode cX1_rightNow 1 = .ok (.iload_n 1, 1) := by decide +kernel
theorem dX1_rightNow_2 : decode cX1_rightNow 2 = .ok (.aload_n 0, 1) := by decide +kernel
theorem dX1_rightNow_3 : decode cX1_rightNow 3 = .ok (.getfield 18, 3) := by decide +kernel
theorem dX1_rightNow_6 : decode cX1_rightNow 6 = .ok (.getfield 70, 3) := by decide +kernel
theorem dX1_rightNow_9 : decode cX1_rightNow 9 = .ok (.getfield 109, 3) := by decide +kernel
theorem dX1_rightNow_12 : decode cX1_rightNow 12 = .ok (.iload_n 1, 1) := by decide +kernel
theorem dX1_rightNow_13 : decode cX1_rightNow 13 = .ok (.iaload, 1) := by decide +kernel
theorem dX1_rightNow_14 : decode cX1_rightNow 14 = .ok (.invokevirtual 112, 3) := by decide +kernel
theorem dX1_rightNow_17 : decode cX1_rightNow 17 = .ok (.aload_n 0, 1) := by decide +kernel
theorem dX1_rightNow_18 : decode cX1_rightNow 18 = .ok (.iload_n 2, 1) := by decide +kernel
theorem dX1_rightNow_19 : decode cX1_rightNow 19 = .ok (.aload_n 0, 1) := by decide +kernel
theorem dX1_rightNow_20 : decode cX1_rightNow 20 = .ok (.getfield 18, 3) := by decide +kernel
theorem dX1_rightNow_23 : decode cX1_rightNow 23 = .ok (.getfield 70, 3) := by decide +kernel
theorem dX1_rightNow_26 : decode cX1_rightNow 26 = .ok (.getfield 82, 3) := by decide +kernel
theorem dX1_rightNow_29 : decode cX1_rightNow 29 = .ok (.aload_n 0, 1) := by decide +kernel
theorem dX1_rightNow_30 : decode cX1_rightNow 30 = .ok (.getfield 18, 3) := by decide +kernel
theorem dX1_rightNow_33 : decode cX1_rightNow 33 = .ok (.getfield 70, 3) := by decide +kernel
theorem dX1_rightNow_36 : decode cX1_rightNow 36 = .ok (.getfield 116, 3) := by decide +kernel
theorem dX1_rightNow_39 : decode cX1_rightNow 39 = .ok (.iload_n 2, 1) := by decide +kernel
theorem dX1_rightNow_40 : decode cX1_rightNow 40 = .ok (.iaload, 1) := by decide +kernel
theorem dX1_rightNow_41 : decode cX1_rightNow 41 = .ok (.invokevirtual 119, 3) := by decide +kernel
theorem dX1_rightNow_44 : decode cX1_rightNow 44 = .ok (.ireturn, 1) := by decide +kernel
theorem dX1_begin_0 : decode cX1_begin 0 = .ok (.aload_n 0, 1) := by decide +kernel
theorem dX1_begin_1 : decode cX1_begin 1 = .ok (.getfield 18, 3) := by decide +kernel
theorem dX1_begin_4 : decode cX1_begin 4 = .ok (.getfield 70, 3) := by decide +kernel
theorem dX1_begin_7 : decode cX1_begin 7 = .ok (.astore_n 3, 1) := by decide +kernel
theorem dX1_begin_8 : decode cX1_begin 8 = .ok (.aload_n 3, 1) := by decide +kernel
theorem dX1_begin_9 : decode cX1_begin 9 = .ok (.getfield 92, 3) := by decide +kernel
theorem dX1_begin_12 : decode cX1_begin 12 = .ok (.iload_n 1, 1) := by decide +kernel
theorem dX1_begin_13 : decode cX1_begin 13 = .ok (.aload_n 0, 1) := by decide +kernel
theorem dX1_begin_14 : decode cX1_begin 14 = .ok (.iload_n 1, 1) := by decide +kernel
theorem dX1_begin_15 : decode cX1_begin 15 = .ok (.iload_n 2, 1) := by decide +kernel
theorem dX1_begin_16 : decode cX1_begin 16 = .ok (.invokevirtual 95, 3) := by decide +kernel
theorem dX1_begin_19 : decode cX1_begin 19 = .ok (.iastore, 1) := by decide +kernel
theorem dX1_begin_20 : decode cX1_begin 20 = .ok (.aload_n 3, 1) := by decide +kernel
theorem dX1_begin_21 : decode cX1_begin 21 = .ok (.getfield 74, 3) := by decide +kernel
theorem dX1_begin_24 : decode cX1_begin 24 = .ok (.iload_n 1, 1) := by decide +kernel
theorem dX1_begin_25 : decode cX1_begin 25 = .ok (.iload_n 2, 1) := by decide +kernel
theorem dX1_begin_26 : decode cX1_begin 26 = .ok (.iastore, 1) := by decide +kernel
theorem dX1_begin_27 : decode cX1_begin 27 = .ok (.aload_n 3, 1) := by decide +kernel
theorem dX1_begin_28 : decode cX1_begin 28 = .ok (.getfield 99, 3) := by decide +kernel
theorem dX1_begin_31 : decode cX1_begin 31 = .ok (.iload_n 1, 1) := by decide +kernel
theorem dX1_begin_32 : decode cX1_begin 32 = .ok (.aload_n 0, 1) := by decide +kernel
theorem dX1_begin_33 : decode cX1_begin 33 = .ok (.getfield 18, 3) := by decide +kernel
theorem dX1_begin_36 : decode cX1_begin 36 = .ok (.getfield 26, 3) := by decide +kernel
theorem dX1_begin_39 : decode cX1_begin 39 = .ok (.getfield 63, 3) := by decide +kernel
theorem dX1_begin_42 : decode cX1_begin 42 = .ok (.iload_n 1, 1) := by decide +kernel
theorem dX1_begin_43 : decode cX1_begin 43 = .ok (.iaload, 1) := by decide +kernel
theorem dX1_begin_44 : decode cX1_begin 44 = .ok (.iastore, 1) := by decide +kernel
theorem dX1_begin_45 : decode cX1_begin 45 = .ok (.return_, 1) := by decide +kernel
theorem dX2_forget_0 : decode cX2_forget 0 = .ok (.aload_n 0, 1) := by decide +kernel
theorem dX2_forget_1 : decode cX2_forget 1 = .ok (.iconst 0, 1) := by decide +kernel
theorem dX2_forget_2 : decode cX2_forget 2 = .ok (.putfield 17, 3) := by decide +kernel
theorem dX2_forget_5 : decode cX2_forget 5 = .ok (.return_, 1) := by decide +kernel
theorem dX2_takeBack_0 : decode cX2_takeBack 0 = .ok (.aload_n 0, 1) := by decide +kernel
theorem dX2_takeBack_1 : decode cX2_takeBack 1 = .ok (.getfield 21, 3) := by decide +kernel
theorem dX2_takeBack_4 : decode cX2_takeBack 4 = .ok (.ifCond .le 12, 3) := by decide +kernel
theorem dX2_takeBack_7 : decode cX2_takeBack 7 = .ok (.aload_n 0, 1) := by decide +kernel
theorem dX2_takeBack_8 : decode cX2_takeBack 8 = .ok (.getfield 21, 3) := by decide +kernel
theorem dX2_takeBack_11 : decode cX2_takeBack 11 = .ok (.iconst 1, 1) := by decide +kernel
theorem dX2_takeBack_12 : decode cX2_takeBack 12 = .ok (.isub, 1) := by decide +kernel
theorem dX2_takeBack_13 : decode cX2_takeBack 13 = .ok (.goto 5, 3) := by decide +kernel
theorem dX2_takeBack_16 : decode cX2_takeBack 16 = .ok (.bipush 19, 2) := by decide +kernel
theorem dX2_takeBack_18 : decode cX2_takeBack 18 = .ok (.istore_n 2, 1) := by decide +kernel
theorem dX2_takeBack_19 : decode cX2_takeBack 19 = .ok (.aload_n 0, 1) := by decide +kernel
theorem dX2_takeBack_20 : decode cX2_takeBack 20 = .ok (.getfield 17, 3) := by decide +kernel
theorem dX2_takeBack_23 : decode cX2_takeBack 23 = .ok (.ifCond .le 12, 3) := by decide +kernel
theorem dX2_takeBack_26 : decode cX2_takeBack 26 = .ok (.aload_n 0, 1) := by decide +kernel
theorem dX2_takeBack_27 : decode cX2_takeBack 27 = .ok (.getfield 11, 3) := by decide +kernel
theorem dX2_takeBack_30 : decode cX2_takeBack 30 = .ok (.iload_n 2, 1) := by decide +kernel
theorem dX2_takeBack_31 : decode cX2_takeBack 31 = .ok (.aaload, 1) := by decide +kernel
theorem dX2_takeBack_32 : decode cX2_takeBack 32 = .ok (.ifnonnull 5, 3) := by decide +kernel
theorem dX2_takeBack_35 : decode cX2_takeBack 35 = .ok (.iconst 0, 1) := by decide +kernel
theorem dX2_takeBack_36 : decode cX2_takeBack 36 = .ok (.ireturn, 1) := by decide +kernel
theorem dX2_takeBack_37 : decode cX2_takeBack 37 = .ok (.aload_n 1, 1) := by decide +kernel
theorem dX2_takeBack_38 : decode cX2_takeBack 38 = .ok (.aload_n 0, 1) := by decide +kernel
theorem dX2_takeBack_39 : decode cX2_takeBack 39 = .ok (.getfield 11, 3) := by decide +kernel
theorem dX2_takeBack_42 : decode cX2_takeBack 42 = .ok (.iload_n 2, 1) := by decide +kernel
theorem dX2_takeBack_43 : decode cX2_takeBack 43 = .ok (.aaload, 1) := by decide +kernel
theorem dX2_takeBack_44 : decode cX2_takeBack 44 = .ok (.invokevirtual 25, 3) := by decide +kernel
theorem dX2_takeBack_47 : decode cX2_takeBack 47 = .ok (.aload_n 0, 1) := by decide +kernel
theorem dX2_takeBack_48 : decode cX2_takeBack 48 = .ok (.iload_n 2, 1) := by decide +kernel
theorem dX2_takeBack_49 : decode cX2_takeBack 49 = .ok (.putfield 21, 3) := by decide +kernel
theorem dX2_takeBack_52 : decode cX2_takeBack 52 = .ok (.aload_n 0, 1) := by decide +kernel
theorem dX2_takeBack_53 : decode cX2_takeBack 53 = .ok (.dup, 1) := by decide +kernel
theorem dX2_takeBack_54 : decode cX2_takeBack 54 = .ok (.getfield 17, 3) := by decide +kernel
theorem dX2_takeBack_57 : decode cX2_takeBack 57 = .ok (.iconst 1, 1) := by decide +kernel
theorem dX2_takeBack_58 : decode cX2_takeBack 58 = .ok (.isub, 1) := by decide +kernel
theorem dX2_takeBack_59 : decode cX2_takeBack 59 = .ok (.putfield 17, 3) := by decide +kernel
theorem dX2_takeBack_62 : decode cX2_takeBack 62 = .ok (.iconst 1, 1) := by decide +kernel
theorem dX2_takeBack_63 : decode cX2_takeBack 63 = .ok (.ireturn, 1) := by decide +kernel
theorem dX3_moveTo_0 : decode cX3_moveTo 0 = .ok (.aload_n 0, 1) := by decide +kernel
theorem dX3_moveTo_1 : decode cX3_moveTo 1 = .ok (.iload_n 1, 1) := by decide +kernel
theorem dX3_moveTo_2 : decode cX3_moveTo 2 = .ok (.putfield 32, 3) := by decide +kernel
theorem dX3_moveTo_5 : decode cX3_moveTo 5 = .ok (.aload_n 0, 1) := by decide +kernel
theorem dX3_moveTo_6 : decode cX3_moveTo 6 = .ok (.getfield 32, 3) := by decide +kernel
theorem dX3_moveTo_9 : decode cX3_moveTo 9 = .ok (.aload_n 0, 1) := by decide +kernel
theorem dX3_moveTo_10 : decode cX3_moveTo 10 = .ok (.getfield 21, 3) := by decide +kernel
theorem dX3_moveTo_13 : decode cX3_moveTo 13 = .ok (.if_icmp .ge 30, 3) := by decide +kernel
theorem dX3_moveTo_16 : decode cX3_moveTo 16 = .ok (.aload_n 0, 1) := by decide +kernel
theorem dX3_moveTo_17 : decode cX3_moveTo 17 = .ok (.getfield 9, 3) := by decide +kernel
theorem dX3_moveTo_20 : decode cX3_moveTo 20 = .ok (.aload_n 0, 1) := by decide +kernel
theorem dX3_moveTo_21 : decode cX3_moveTo 21 = .ok (.getfield 32, 3) := by decide +kernel
theorem dX3_moveTo_24 : decode cX3_moveTo 24 = .ok (.iaload, 1) := by decide +kernel
theorem dX3_moveTo_25 : decode cX3_moveTo 25 = .ok (.bipush 32, 2) := by decide +kernel
theorem dX3_moveTo_27 : decode cX3_moveTo 27 = .ok (.if_icmp .ne 16, 3) := by decide +kernel
theorem dX3_moveTo_30 : decode cX3_moveTo 30 = .ok (.aload_n 0, 1) := by decide +kernel
theorem dX3_moveTo_31 : decode cX3_moveTo 31 = .ok (.dup, 1) := by decide +kernel
theorem dX3_moveTo_32 : decode cX3_moveTo 32 = .ok (.getfield 32, 3) := by decide +kernel
theorem dX3_moveTo_35 : decode cX3_moveTo 35 = .ok (.iconst 1, 1) := by decide +kernel
theorem dX3_moveTo_36 : decode cX3_moveTo 36 = .ok (.iadd, 1) := by decide +kernel
theorem dX3_moveTo_37 : decode cX3_moveTo 37 = .ok (.putfield 32, 3) := by decide +kernel
theorem dX3_moveTo_40 : decode cX3_moveTo 40 = .ok (.goto (-35), 3) := by decide +kernel
theorem dX3_moveTo_43 : decode cX3_moveTo 43 = .ok (.return_, 1) := by decide +kernel
theorem dX3_open_0 : decode cX3_open 0 = .ok (.aload_n 0, 1) := by decide +kernel
theorem dX3_open_1 : decode cX3_open 1 = .ok (.iload_n 1, 1) := by decide +kernel
theorem dX3_open_2 : decode cX3_open 2 = .ok (.aload_n 0, 1) := by decide +kernel
theorem dX3_open_3 : decode cX3_open 3 = .ok (.getfield 9, 3) := by decide +kernel
theorem dX3_open_6 : decode cX3_open 6 = .ok (.arraylength, 1) := by decide +kernel
theorem dX3_open_7 : decode cX3_open 7 = .ok (.invokestatic 15, 3) := by decide +kernel
theorem dX3_open_10 : decode cX3_open 10 = .ok (.putfield 21, 3) := by decide +kernel
theorem dX3_open_13 : decode cX3_open 13 = .ok (.aload_n 0, 1) := by decide +kernel
theorem dX3_open_14 : decode cX3_open 14 = .ok (.iconst 0, 1) := by decide +kernel
theorem dX3_open_15 : decode cX3_open 15 = .ok (.putfield 25, 3) := by decide +kernel
theorem dX3_open_18 : decode cX3_open 18 = .ok (.aload_n 0, 1) := by decide +kernel
theorem dX3_open_19 : decode cX3_open 19 = .ok (.iconst 0, 1) := by decide +kernel
theorem dX3_open_20 : decode cX3_open 20 = .ok (.invokevirtual 28, 3) := by decide +kernel
theorem dX3_open_23 : decode cX3_open 23 = .ok (.return_, 1) := by decide +kernel
theorem dX3_passSign_0 : decode cX3_passSign 0 = .ok (.aload_n 0, 1) := by decide +kernel
theorem dX3_passSign_1 : decode cX3_passSign 1 = .ok (.aload_n 0, 1) := by decide +kernel
theorem dX3_passSign_2 : decode cX3_passSign 2 = .ok (.getfield 32, 3) := by decide +kernel
theorem dX3_passSign_5 : decode cX3_passSign 5 = .ok (.iconst 1, 1) := by decide +kernel
theorem dX3_passSign_6 : decode cX3_passSign 6 = .ok (.iadd, 1) := by decide +kernel
theorem dX3_passSign_7 : decode cX3_passSign 7 = .ok (.invokevirtual 28, 3) := by decide +kernel
theorem dX3_passSign_10 : decode cX3_passSign 10 = .ok (.return_, 1) := by decide +kernel
theorem dX3_passWord_0 : decode cX3_passWord 0 = .ok (.aload_n 0, 1) := by decide +kernel
theorem dX3_passWord_1 : decode cX3_passWord 1 = .ok (.aload_n 0, 1) := by decide +kernel
theorem dX3_passWord_2 : decode cX3_passWord 2 = .ok (.getfield 35, 3) := by decide +kernel
theorem dX3_passWord_5 : decode cX3_passWord 5 = .ok (.invokevirtual 28, 3) := by decide +kernel
theorem dX3_passWord_8 : decode cX3_passWord 8 = .ok (.return_, 1) := by decide +kernel
theorem dX3_sign_0 : decode cX3_sign 0 = .ok (.aload_n 0, 1) := by decide +kernel
theorem dX3_sign_1 : decode cX3_sign 1 = .ok (.getfield 32, 3) := by decide +kernel
theorem dX3_sign_4 : decode cX3_sign 4 = .ok (.aload_n 0, 1) := by decide +kernel
theorem dX3_sign_5 : decode cX3_sign 5 = .ok (.getfield 21, 3) := by decide +kernel
theorem dX3_sign_8 : decode cX3_sign 8 = .ok (.if_icmp .ge 15, 3) := by decide +kernel
theorem dX3_sign_11 : decode cX3_sign 11 = .ok (.aload_n 0, 1) := by decide +kernel
theorem dX3_sign_12 : decode cX3_sign 12 = .ok (.getfield 9, 3) := by decide +kernel
theorem dX3_sign_15 : decode cX3_sign 15 = .ok (.aload_n 0, 1) := by decide +kernel
theorem dX3_sign_16 : decode cX3_sign 16 = .ok (.getfield 32, 3) := by decide +kernel
theorem dX3_sign_19 : decode cX3_sign 19 = .ok (.iaload, 1) := by decide +kernel
theorem dX3_sign_20 : decode cX3_sign 20 = .ok (.goto 4, 3) := by decide +kernel
theorem dX3_sign_23 : decode cX3_sign 23 = .ok (.iconst (-1), 1) := by decide +kernel
theorem dX3_sign_24 : decode cX3_sign 24 = .ok (.ireturn, 1) := by decide +kernel
theorem dX3_failAt_0 : decode cX3_failAt 0 = .ok (.aload_n 0, 1) := by decide +kernel
theorem dX3_failAt_1 : decode cX3_failAt 1 = .ok (.iconst 1, 1) := by decide +kernel
theorem dX3_failAt_2 : decode cX3_failAt 2 = .ok (.bipush 8, 2) := by decide +kernel
theorem dX3_failAt_4 : decode cX3_failAt 4 = .ok (.iload_n 1, 1) := by decide +kernel
theorem dX3_failAt_5 : decode cX3_failAt 5 = .ok (.imul, 1) := by decide +kernel
theorem dX3_failAt_6 : decode cX3_failAt 6 = .ok (.iadd, 1) := by decide +kernel
theorem dX3_failAt_7 : decode cX3_failAt 7 = .ok (.iload_n 2, 1) := by decide +kernel
theorem dX3_failAt_8 : decode cX3_failAt 8 = .ok (.iadd, 1) := by decide +kernel
theorem dX3_failAt_9 : decode cX3_failAt 9 = .ok (.putfield 25, 3) := by decide +kernel
theorem dX3_failAt_12 : decode cX3_failAt 12 = .ok (.iconst 0, 1) := by decide +kernel
theorem dX3_failAt_13 : decode cX3_failAt 13 = .ok (.ireturn, 1) := by decide +kernel
theorem dX3_fail_0 : decode cX3_fail 0 = .ok (.aload_n 0, 1) := by decide +kernel
theorem dX3_fail_1 : decode cX3_fail 1 = .ok (.aload_n 0, 1) := by decide +kernel
theorem dX3_fail_2 : decode cX3_fail 2 = .ok (.getfield 32, 3) := by decide +kernel
theorem dX3_fail_5 : decode cX3_fail 5 = .ok (.iload_n 1, 1) := by decide +kernel
theorem dX3_fail_6 : decode cX3_fail 6 = .ok (.invokevirtual 38, 3) := by decide +kernel
theorem dX3_fail_9 : decode cX3_fail 9 = .ok (.ireturn, 1) := by decide +kernel
theorem dX3_atDigit_0 : decode cX3_atDigit 0 = .ok (.aload_n 0, 1) := by decide +kernel
theorem dX3_atDigit_1 : decode cX3_atDigit 1 = .ok (.invokevirtual 42, 3) := by decide +kernel
theorem dX3_atDigit_4 : decode cX3_atDigit 4 = .ok (.bipush 48, 2) := by decide +kernel
theorem dX3_atDigit_6 : decode cX3_atDigit 6 = .ok (.if_icmp .lt 16, 3) := by decide +kernel
theorem dX3_atDigit_9 : decode cX3_atDigit 9 = .ok (.aload_n 0, 1) := by decide +kernel
theorem dX3_atDigit_10 : decode cX3_atDigit 10 = .ok (.invokevirtual 42, 3) := by decide +kernel
theorem dX3_atDigit_13 : decode cX3_atDigit 13 = .ok (.bipush 57, 2) := by decide +kernel
theorem dX3_atDigit_15 : decode cX3_atDigit 15 = .ok (.if_icmp .gt 7, 3) := by decide +kernel
theorem dX3_atDigit_18 : decode cX3_atDigit 18 = .ok (.iconst 1, 1) := by decide +kernel
theorem dX3_atDigit_19 : decode cX3_atDigit 19 = .ok (.goto 4, 3) := by decide +kernel
theorem dX3_atDigit_22 : decode cX3_atDigit 22 = .ok (.iconst 0, 1) := by decide +kernel
theorem dX3_atDigit_23 : decode cX3_atDigit 23 = .ok (.ireturn, 1) := by decide +kernel
theorem dX3_word_0 : decode cX3_word 0 = .ok (.aload_n 0, 1) := by decide +kernel
theorem dX3_word_1 : decode cX3_word 1 = .ok (.aload_n 0, 1) := by decide +kernel
theorem dX3_word_2 : decode cX3_word 2 = .ok (.getfield 32, 3) := by decide +kernel
theorem dX3_word_5 : decode cX3_word 5 = .ok (.putfield 35, 3) := by decide +kernel
theorem dX3_word_8 : decode cX3_word 8 = .ok (.aload_n 0, 1) := by decide +kernel
theorem dX3_word_9 : decode cX3_word 9 = .ok (.getfield 35, 3) := by decide +kernel
theorem dX3_word_12 : decode cX3_word 12 = .ok (.aload_n 0, 1) := by decide +kernel
theorem dX3_word_13 : decode cX3_word 13 = .ok (.getfield 21, 3) := by decide +kernel
theorem dX3_word_16 : decode cX3_word 16 = .ok (.if_icmp .ge 44, 3) := by decide +kernel
theorem dX3_word_19 : decode cX3_word 19 = .ok (.aload_n 0, 1) := by decide +kernel
theorem dX3_word_20 : decode cX3_word 20 = .ok (.getfield 9, 3) := by decide +kernel
theorem dX3_word_23 : decode cX3_word 23 = .ok (.aload_n 0, 1) := by decide +kernel
theorem dX3_word_24 : decode cX3_word 24 = .ok (.getfield 35, 3) := by decide +kernel
theorem dX3_word_27 : decode cX3_word 27 = .ok (.iaload, 1) := by decide +kernel
theorem dX3_word_28 : decode cX3_word 28 = .ok (.bipush 97, 2) := by decide +kernel
theorem dX3_word_30 : decode cX3_word 30 = .ok (.if_icmp .lt 30, 3) := by decide +kernel
theorem dX3_word_33 : decode cX3_word 33 = .ok (.aload_n 0, 1) := by decide +kernel
theorem dX3_word_34 : decode cX3_word 34 = .ok (.getfield 9, 3) := by decide +kernel
theorem dX3_word_37 : decode cX3_word 37 = .ok (.aload_n 0, 1) := by decide +kernel
theorem dX3_word_38 : decode cX3_word 38 = .ok (.getfield 35, 3) := by decide +kernel
theorem dX3_word_41 : decode cX3_word 41 = .ok (.iaload, 1) := by decide +kernel
theorem dX3_word_42 : decode cX3_word 42 = .ok (.bipush 122, 2) := by decide +kernel
theorem dX3_word_44 : decode cX3_word 44 = .ok (.if_icmp .gt 16, 3) := by decide +kernel
theorem dX3_word_47 : decode cX3_word 47 = .ok (.aload_n 0, 1) := by decide +kernel
theorem dX3_word_48 : decode cX3_word 48 = .ok (.dup, 1) := by decide +kernel
theorem dX3_word_49 : decode cX3_word 49 = .ok (.getfield 35, 3) := by decide +kernel
theorem dX3_word_52 : decode cX3_word 52 = .ok (.iconst 1, 1) := by decide +kernel
theorem dX3_word_53 : decode cX3_word 53 = .ok (.iadd, 1) := by decide +kernel
theorem dX3_word_54 : decode cX3_word 54 = .ok (.putfield 35, 3) := by decide +kernel
theorem dX3_word_57 : decode cX3_word 57 = .ok (.goto (-49), 3) := by decide +kernel
theorem dX3_word_60 : decode cX3_word 60 = .ok (.iconst 0, 1) := by decide +kernel
theorem dX3_word_61 : decode cX3_word 61 = .ok (.istore_n 1, 1) := by decide +kernel
theorem dX3_word_62 : decode cX3_word 62 = .ok (.aload_n 0, 1) := by decide +kernel
theorem dX3_word_63 : decode cX3_word 63 = .ok (.getfield 32, 3) := by decide +kernel
theorem dX3_word_66 : decode cX3_word 66 = .ok (.istore_n 2, 1) := by decide +kernel
theorem dX3_word_67 : decode cX3_word 67 = .ok (.iconst 1, 1) := by decide +kernel
theorem dX3_word_68 : decode cX3_word 68 = .ok (.istore_n 3, 1) := by decide +kernel
theorem dX3_word_69 : decode cX3_word 69 = .ok (.iconst 0, 1) := by decide +kernel
theorem dX3_word_70 : decode cX3_word 70 = .ok (.istore 4, 2) := by decide +kernel
theorem dX3_word_72 : decode cX3_word 72 = .ok (.iload 4, 2) := by decide +kernel
theorem dX3_word_74 : decode cX3_word 74 = .ok (.ldc 46, 2) := by decide +kernel
theorem dX3_word_76 : decode cX3_word 76 = .ok (.invokevirtual 48, 3) := by decide +kernel
theorem dX3_word_79 : decode cX3_word 79 = .ok (.if_icmp .ge 83, 3) := by decide +kernel
theorem dX3_word_82 : decode cX3_word 82 = .ok (.ldc 46, 2) := by decide +kernel
theorem dX3_word_84 : decode cX3_word 84 = .ok (.iload 4, 2) := by decide +kernel
theorem dX3_word_86 : decode cX3_word 86 = .ok (.invokevirtual 52, 3) := by decide +kernel
theorem dX3_word_89 : decode cX3_word 89 = .ok (.istore 5, 2) := by decide +kernel
theorem dX3_word_91 : decode cX3_word 91 = .ok (.iload 5, 2) := by decide +kernel
theorem dX3_word_93 : decode cX3_word 93 = .ok (.bipush 32, 2) := by decide +kernel
theorem dX3_word_95 : decode cX3_word 95 = .ok (.if_icmp .ne 30, 3) := by decide +kernel
theorem dX3_word_98 : decode cX3_word 98 = .ok (.iload_n 3, 1) := by decide +kernel
theorem dX3_word_99 : decode cX3_word 99 = .ok (.ifCond .eq 13, 3) := by decide +kernel
theorem dX3_word_102 : decode cX3_word 102 = .ok (.iload_n 2, 1) := by decide +kernel
theorem dX3_word_103 : decode cX3_word 103 = .ok (.aload_n 0, 1) := by decide +kernel
theorem dX3_word_104 : decode cX3_word 104 = .ok (.getfield 35, 3) := by decide +kernel
theorem dX3_word_107 : decode cX3_word 107 = .ok (.if_icmp .ne 5, 3) := by decide +kernel
theorem dX3_word_110 : decode cX3_word 110 = .ok (.iload_n 1, 1) := by decide +kernel
theorem dX3_word_111 : decode cX3_word 111 = .ok (.ireturn, 1) := by decide +kernel
theorem dX3_word_112 : decode cX3_word 112 = .ok (.iinc 1 1, 3) := by decide +kernel
theorem dX3_word_115 : decode cX3_word 115 = .ok (.aload_n 0, 1) := by decide +kernel
theorem dX3_word_116 : decode cX3_word 116 = .ok (.getfield 32, 3) := by decide +kernel
theorem dX3_word_119 : decode cX3_word 119 = .ok (.istore_n 2, 1) := by decide +kernel
theorem dX3_word_120 : decode cX3_word 120 = .ok (.iconst 1, 1) := by decide +kernel
theorem dX3_word_121 : decode cX3_word 121 = .ok (.istore_n 3, 1) := by decide +kernel
theorem dX3_word_122 : decode cX3_word 122 = .ok (.goto 34, 3) := by decide +kernel
theorem dX3_word_125 : decode cX3_word 125 = .ok (.iload_n 3, 1) := by decide +kernel
theorem dX3_word_126 : decode cX3_word 126 = .ok (.ifCond .eq 28, 3) := by decide +kernel
theorem dX3_word_129 : decode cX3_word 129 = .ok (.iload_n 2, 1) := by decide +kernel
theorem dX3_word_130 : decode cX3_word 130 = .ok (.aload_n 0, 1) := by decide +kernel
theorem dX3_word_131 : decode cX3_word 131 = .ok (.getfield 35, 3) := by decide +kernel
theorem dX3_word_134 : decode cX3_word 134 = .ok (.if_icmp .ge 20, 3) := by decide +kernel
theorem dX3_word_137 : decode cX3_word 137 = .ok (.aload_n 0, 1) := by decide +kernel
theorem dX3_word_138 : decode cX3_word 138 = .ok (.getfield 9, 3) := by decide +kernel
theorem dX3_word_141 : decode cX3_word 141 = .ok (.iload_n 2, 1) := by decide +kernel
theorem dX3_word_142 : decode cX3_word 142 = .ok (.iaload, 1) := by decide +kernel
theorem dX3_word_143 : decode cX3_word 143 = .ok (.iload 5, 2) := by decide +kernel
theorem dX3_word_145 : decode cX3_word 145 = .ok (.if_icmp .ne 9, 3) := by decide +kernel
theorem dX3_word_148 : decode cX3_word 148 = .ok (.iinc 2 1, 3) := by decide +kernel
theorem dX3_word_151 : decode cX3_word 151 = .ok (.goto 5, 3) := by decide +kernel
theorem dX3_word_154 : decode cX3_word 154 = .ok (.iconst 0, 1) := by decide +kernel
theorem dX3_word_155 : decode cX3_word 155 = .ok (.istore_n 3, 1) := by decide +kernel
theorem dX3_word_156 : decode cX3_word 156 = .ok (.iinc 4 1, 3) := by decide +kernel
theorem dX3_word_159 : decode cX3_word 159 = .ok (.goto (-87), 3) := by decide +kernel
theorem dX3_word_162 : decode cX3_word 162 = .ok (.iconst (-1), 1) := by decide +kernel
theorem dX3_word_163 : decode cX3_word 163 = .ok (.ireturn, 1) := by decide +kernel
theorem dX3_number_0 : decode cX3_number 0 = .ok (.aload_n 0, 1) := by decide +kernel
theorem dX3_number_1 : decode cX3_number 1 = .ok (.getfield 32, 3) := by decide +kernel
theorem dX3_number_4 : decode cX3_number 4 = .ok (.istore_n 3, 1) := by decide +kernel
theorem dX3_number_5 : decode cX3_number 5 = .ok (.iconst 0, 1) := by decide +kernel
theorem dX3_number_6 : decode cX3_number 6 = .ok (.istore 4, 2) := by decide +kernel
theorem dX3_number_8 : decode cX3_number 8 = .ok (.iload_n 3, 1) := by decide +kernel
theorem dX3_number_9 : decode cX3_number 9 = .ok (.aload_n 0, 1) := by decide +kernel
theorem dX3_number_10 : decode cX3_number 10 = .ok (.getfield 21, 3) := by decide +kernel
theorem dX3_number_13 : decode cX3_number 13 = .ok (.if_icmp .ge 58, 3) := by decide +kernel
theorem dX3_number_16 : decode cX3_number 16 = .ok (.aload_n 0, 1) := by decide +kernel
theorem dX3_number_17 : decode cX3_number 17 = .ok (.getfield 9, 3) := by decide +kernel
theorem dX3_number_20 : decode cX3_number 20 = .ok (.iload_n 3, 1) := by decide +kernel
theorem dX3_number_21 : decode cX3_number 21 = .ok (.iaload, 1) := by decide +kernel
theorem dX3_number_22 : decode cX3_number 22 = .ok (.bipush 48, 2) := by decide +kernel
theorem dX3_number_24 : decode cX3_number 24 = .ok (.if_icmp .lt 47, 3) := by decide +kernel
theorem dX3_number_27 : decode cX3_number 27 = .ok (.aload_n 0, 1) := by decide +kernel
theorem dX3_number_28 : decode cX3_number 28 = .ok (.getfield 9, 3) := by decide +kernel
theorem dX3_number_31 : decode cX3_number 31 = .ok (.iload_n 3, 1) := by decide +kernel
theorem dX3_number_32 : decode cX3_number 32 = .ok (.iaload, 1) := by decide +kernel
theorem dX3_number_33 : decode cX3_number 33 = .ok (.bipush 57, 2) := by decide +kernel
theorem dX3_number_35 : decode cX3_number 35 = .ok (.if_icmp .gt 36, 3) := by decide +kernel
theorem dX3_number_38 : decode cX3_number 38 = .ok (.iload_n 3, 1) := by decide +kernel
theorem dX3_number_39 : decode cX3_number 39 = .ok (.aload_n 0, 1) := by decide +kernel
theorem dX3_number_40 : decode cX3_number 40 = .ok (.getfield 32, 3) := by decide +kernel
theorem dX3_number_43 : decode cX3_number 43 = .ok (.isub, 1) := by decide +kernel
theorem dX3_number_44 : decode cX3_number 44 = .ok (.iconst 5, 1) := by decide +kernel
theorem dX3_number_45 : decode cX3_number 45 = .ok (.if_icmp .ge 20, 3) := by decide +kernel
theorem dX3_number_48 : decode cX3_number 48 = .ok (.iload 4, 2) := by decide +kernel
theorem dX3_number_50 : decode cX3_number 50 = .ok (.bipush 10, 2) := by decide +kernel
theorem dX3_number_52 : decode cX3_number 52 = .ok (.imul, 1) := by decide +kernel
theorem dX3_number_53 : decode cX3_number 53 = .ok (.aload_n 0, 1) := by decide +kernel
theorem dX3_number_54 : decode cX3_number 54 = .ok (.getfield 9, 3) := by decide +kernel
theorem dX3_number_57 : decode cX3_number 57 = .ok (.iload_n 3, 1) := by decide +kernel
theorem dX3_number_58 : decode cX3_number 58 = .ok (.iaload, 1) := by decide +kernel
theorem dX3_number_59 : decode cX3_number 59 = .ok (.iadd, 1) := by decide +kernel
theorem dX3_number_60 : decode cX3_number 60 = .ok (.bipush 48, 2) := by decide +kernel
theorem dX3_number_62 : decode cX3_number 62 = .ok (.isub, 1) := by decide +kernel
theorem dX3_number_63 : decode cX3_number 63 = .ok (.istore 4, 2) := by decide +kernel
theorem dX3_number_65 : decode cX3_number 65 = .ok (.iinc 3 1, 3) := by decide +kernel
theorem dX3_number_68 : decode cX3_number 68 = .ok (.goto (-60), 3) := by decide +kernel
theorem dX3_number_71 : decode cX3_number 71 = .ok (.iload_n 3, 1) := by decide +kernel
theorem dX3_number_72 : decode cX3_number 72 = .ok (.aload_n 0, 1) := by decide +kernel
theorem dX3_number_73 : decode cX3_number 73 = .ok (.getfield 32, 3) := by decide +kernel
theorem dX3_number_76 : decode cX3_number 76 = .ok (.if_icmp .ne 15, 3) := by decide +kernel
theorem dX3_number_79 : decode cX3_number 79 = .ok (.aload_n 0, 1) := by decide +kernel
theorem dX3_number_80 : decode cX3_number 80 = .ok (.aload_n 0, 1) := by decide +kernel
theorem dX3_number_81 : decode cX3_number 81 = .ok (.getfield 32, 3) := by decide +kernel
theorem dX3_number_84 : decode cX3_number 84 = .ok (.iconst 0, 1) := by decide +kernel
theorem dX3_number_85 : decode cX3_number 85 = .ok (.invokevirtual 38, 3) := by decide +kernel
theorem dX3_number_88 : decode cX3_number 88 = .ok (.pop, 1) := by decide +kernel
theorem dX3_number_89 : decode cX3_number 89 = .ok (.iconst (-1), 1) := by decide +kernel
theorem dX3_number_90 : decode cX3_number 90 = .ok (.ireturn, 1) := by decide +kernel
theorem dX3_number_91 : decode cX3_number 91 = .ok (.iload_n 3, 1) := by decide +kernel
theorem dX3_number_92 : decode cX3_number 92 = .ok (.aload_n 0, 1) := by decide +kernel
theorem dX3_number_93 : decode cX3_number 93 = .ok (.getfield 32, 3) := by decide +kernel
theorem dX3_number_96 : decode cX3_number 96 = .ok (.isub, 1) := by decide +kernel
theorem dX3_number_97 : decode cX3_number 97 = .ok (.iconst 5, 1) := by decide +kernel
theorem dX3_number_98 : decode cX3_number 98 = .ok (.if_icmp .gt 15, 3) := by decide +kernel
theorem dX3_number_101 : decode cX3_number 101 = .ok (.iload 4, 2) := by decide +kernel
theorem dX3_number_103 : decode cX3_number 103 = .ok (.iload_n 1, 1) := by decide +kernel
theorem dX3_number_104 : decode cX3_number 104 = .ok (.if_icmp .lt 9, 3) := by decide +kernel
theorem dX3_number_107 : decode cX3_number 107 = .ok (.iload 4, 2) := by decide +kernel
theorem dX3_number_109 : decode cX3_number 109 = .ok (.iload_n 2, 1) := by decide +kernel
theorem dX3_number_110 : decode cX3_number 110 = .ok (.if_icmp .le 15, 3) := by decide +kernel
theorem dX3_number_113 : decode cX3_number 113 = .ok (.aload_n 0, 1) := by decide +kernel
theorem dX3_number_114 : decode cX3_number 114 = .ok (.aload_n 0, 1) := by decide +kernel
theorem dX3_number_115 : decode cX3_number 115 = .ok (.getfield 32, 3) := by decide +kernel
theorem dX3_number_118 : decode cX3_number 118 = .ok (.iconst 1, 1) := by decide +kernel
theorem dX3_number_119 : decode cX3_number 119 = .ok (.invokevirtual 38, 3) := by decide +kernel
theorem dX3_number_122 : decode cX3_number 122 = .ok (.pop, 1) := by decide +kernel
theorem dX3_number_123 : decode cX3_number 123 = .ok (.iconst (-1), 1) := by decide +kernel
theorem dX3_number_124 : decode cX3_number 124 = .ok (.ireturn, 1) := by decide +kernel
theorem dX3_number_125 : decode cX3_number 125 = .ok (.aload_n 0, 1) := by decide +kernel
theorem dX3_number_126 : decode cX3_number 126 = .ok (.iload_n 3, 1) := by decide +kernel
theorem dX3_number_127 : decode cX3_number 127 = .ok (.invokevirtual 28, 3) := by decide +kernel
theorem dX3_number_130 : decode cX3_number 130 = .ok (.iload 4, 2) := by decide +kernel
theorem dX3_number_132 : decode cX3_number 132 = .ok (.ireturn, 1) := by decide +kernel
theorem dX4_gatherOpen_0 : decode cX4_gatherOpen 0 = .ok (.aload_n 0, 1) := by decide +kernel
theorem dX4_gatherOpen_1 : decode cX4_gatherOpen 1 = .ok (.getfield 51, 3) := by decide +kernel
theorem dX4_gatherOpen_4 : decode cX4_gatherOpen 4 = .ok (.getfield 74, 3) := by decide +kernel
theorem dX4_gatherOpen_7 : decode cX4_gatherOpen 7 = .ok (.getfield 80, 3) := by decide +kernel
theorem dX4_gatherOpen_10 : decode cX4_gatherOpen 10 = .ok (.astore_n 1, 1) := by decide +kernel
theorem dX4_gatherOpen_11 : decode cX4_gatherOpen 11 = .ok (.aload_n 0, 1) := by decide +kernel
theorem dX4_gatherOpen_12 : decode cX4_gatherOpen 12 = .ok (.iconst 0, 1) := by decide +kernel
theorem dX4_gatherOpen_13 : decode cX4_gatherOpen 13 = .ok (.putfield 58, 3) := by decide +kernel
theorem dX4_gatherOpen_16 : decode cX4_gatherOpen 16 = .ok (.iconst 0, 1) := by decide +kernel
theorem dX4_gatherOpen_17 : decode cX4_gatherOpen 17 = .ok (.istore_n 2, 1) := by decide +kernel
theorem dX4_gatherOpen_18 : decode cX4_gatherOpen 18 = .ok (.iload_n 2, 1) := by decide +kernel
theorem dX4_gatherOpen_19 : decode cX4_gatherOpen 19 = .ok (.aload_n 0, 1) := by decide +kernel
theorem dX4_gatherOpen_20 : decode cX4_gatherOpen 20 = .ok (.getfield 51, 3) := by decide +kernel
theorem dX4_gatherOpen_23 : decode cX4_gatherOpen 23 = .ok (.getfield 74, 3) := by decide +kernel
theorem dX4_gatherOpen_26 : decode cX4_gatherOpen 26 = .ok (.getfield 91, 3) := by decide +kernel
theorem dX4_gatherOpen_29 : decode cX4_gatherOpen 29 = .ok (.getfield 104, 3) := by decide +kernel
theorem dX4_gatherOpen_32 : decode cX4_gatherOpen 32 = .ok (.if_icmp .ge 55, 3) := by decide +kernel
theorem dX4_gatherOpen_35 : decode cX4_gatherOpen 35 = .ok (.aload_n 1, 1) := by decide +kernel
theorem dX4_gatherOpen_36 : decode cX4_gatherOpen 36 = .ok (.getfield 107, 3) := by decide +kernel
theorem dX4_gatherOpen_39 : decode cX4_gatherOpen 39 = .ok (.iload_n 2, 1) := by decide +kernel
theorem dX4_gatherOpen_40 : decode cX4_gatherOpen 40 = .ok (.iaload, 1) := by decide +kernel
theorem dX4_gatherOpen_41 : decode cX4_gatherOpen 41 = .ok (.ifCond .ge 40, 3) := by decide +kernel
theorem dX4_gatherOpen_44 : decode cX4_gatherOpen 44 = .ok (.aload_n 1, 1) := by decide +kernel
theorem dX4_gatherOpen_45 : decode cX4_gatherOpen 45 = .ok (.getfield 110, 3) := by decide +kernel
theorem dX4_gatherOpen_48 : decode cX4_gatherOpen 48 = .ok (.iload_n 2, 1) := by decide +kernel
theorem dX4_gatherOpen_49 : decode cX4_gatherOpen 49 = .ok (.iaload, 1) := by decide +kernel
theorem dX4_gatherOpen_50 : decode cX4_gatherOpen 50 = .ok (.ifCond .ne 31, 3) := by decide +kernel
theorem dX4_gatherOpen_53 : decode cX4_gatherOpen 53 = .ok (.aload_n 0, 1) := by decide +kernel
theorem dX4_gatherOpen_54 : decode cX4_gatherOpen 54 = .ok (.getfield 58, 3) := by decide +kernel
theorem dX4_gatherOpen_57 : decode cX4_gatherOpen 57 = .ok (.iconst 4, 1) := by decide +kernel
theorem dX4_gatherOpen_58 : decode cX4_gatherOpen 58 = .ok (.if_icmp .ge 13, 3) := by decide +kernel
theorem dX4_gatherOpen_61 : decode cX4_gatherOpen 61 = .ok (.aload_n 0, 1) := by decide +kernel
theorem dX4_gatherOpen_62 : decode cX4_gatherOpen 62 = .ok (.getfield 27, 3) := by decide +kernel
theorem dX4_gatherOpen_65 : decode cX4_gatherOpen 65 = .ok (.aload_n 0, 1) := by decide +kernel
theorem dX4_gatherOpen_66 : decode cX4_gatherOpen 66 = .ok (.getfield 58, 3) := by decide +kernel
theorem dX4_gatherOpen_69 : decode cX4_gatherOpen 69 = .ok (.iload_n 2, 1) := by decide +kernel
theorem dX4_gatherOpen_70 : decode cX4_gatherOpen 70 = .ok (.iastore, 1) := by decide +kernel
theorem dX4_gatherOpen_71 : decode cX4_gatherOpen 71 = .ok (.aload_n 0, 1) := by decide +kernel
theorem dX4_gatherOpen_72 : decode cX4_gatherOpen 72 = .ok (.dup, 1) := by decide +kernel
theorem dX4_gatherOpen_73 : decode cX4_gatherOpen 73 = .ok (.getfield 58, 3) := by decide +kernel
theorem dX4_gatherOpen_76 : decode cX4_gatherOpen 76 = .ok (.iconst 1, 1) := by decide +kernel
theorem dX4_gatherOpen_77 : decode cX4_gatherOpen 77 = .ok (.iadd, 1) := by decide +kernel
theorem dX4_gatherOpen_78 : decode cX4_gatherOpen 78 = .ok (.putfield 58, 3) := by decide +kernel
theorem dX4_gatherOpen_81 : decode cX4_gatherOpen 81 = .ok (.iinc 2 1, 3) := by decide +kernel
theorem dX4_gatherOpen_84 : decode cX4_gatherOpen 84 = .ok (.goto (-66), 3) := by decide +kernel
theorem dX4_gatherOpen_87 : decode cX4_gatherOpen 87 = .ok (.return_, 1) := by decide +kernel
theorem dX4_isFree_0 : decode cX4_isFree 0 = .ok (.iload_n 2, 1) := by decide +kernel
theorem dX4_isFree_1 : decode cX4_isFree 1 = .ok (.istore 5, 2) := by decide +kernel
theorem dX4_isFree_3 : decode cX4_isFree 3 = .ok (.iconst 0, 1) := by decide +kernel
theorem dX4_isFree_4 : decode cX4_isFree 4 = .ok (.istore 6, 2) := by decide +kernel
theorem dX4_isFree_6 : decode cX4_isFree 6 = .ok (.iload 6, 2) := by decide +kernel
theorem dX4_isFree_8 : decode cX4_isFree 8 = .ok (.iconst 4, 1) := by decide +kernel
theorem dX4_isFree_9 : decode cX4_isFree 9 = .ok (.if_icmp .ge 85, 3) := by decide +kernel
theorem dX4_isFree_12 : decode cX4_isFree 12 = .ok (.iload 5, 2) := by decide +kernel
theorem dX4_isFree_14 : decode cX4_isFree 14 = .ok (.ifCond .le 80, 3) := by decide +kernel
theorem dX4_isFree_17 : decode cX4_isFree 17 = .ok (.aload_n 0, 1) := by decide +kernel
theorem dX4_isFree_18 : decode cX4_isFree 18 = .ok (.getfield 21, 3) := by decide +kernel
theorem dX4_isFree_21 : decode cX4_isFree 21 = .ok (.iload_n 1, 1) := by decide +kernel
theorem dX4_isFree_22 : decode cX4_isFree 22 = .ok (.bipush 65, 2) := by decide +kernel
theorem dX4_isFree_24 : decode cX4_isFree 24 = .ok (.imul, 1) := by decide +kernel
theorem dX4_isFree_25 : decode cX4_isFree 25 = .ok (.iload 5, 2) := by decide +kernel
theorem dX4_isFree_27 : decode cX4_isFree 27 = .ok (.iadd, 1) := by decide +kernel
theorem dX4_isFree_28 : decode cX4_isFree 28 = .ok (.iaload, 1) := by decide +kernel
theorem dX4_isFree_29 : decode cX4_isFree 29 = .ok (.istore 7, 2) := by decide +kernel
theorem dX4_isFree_31 : decode cX4_isFree 31 = .ok (.iload 7, 2) := by decide +kernel
theorem dX4_isFree_33 : decode cX4_isFree 33 = .ok (.aload_n 0, 1) := by decide +kernel
theorem dX4_isFree_34 : decode cX4_isFree 34 = .ok (.getfield 51, 3) := by decide +kernel
theorem dX4_isFree_37 : decode cX4_isFree 37 = .ok (.getfield 74, 3) := by decide +kernel
theorem dX4_isFree_40 : decode cX4_isFree 40 = .ok (.getfield 91, 3) := by decide +kernel
theorem dX4_isFree_43 : decode cX4_isFree 43 = .ok (.getfield 131, 3) := by decide +kernel
theorem dX4_isFree_46 : decode cX4_isFree 46 = .ok (.aload_n 0, 1) := by decide +kernel
theorem dX4_isFree_47 : decode cX4_isFree 47 = .ok (.getfield 27, 3) := by decide +kernel
theorem dX4_isFree_50 : decode cX4_isFree 50 = .ok (.aload_n 0, 1) := by decide +kernel
theorem dX4_isFree_51 : decode cX4_isFree 51 = .ok (.getfield 18, 3) := by decide +kernel
theorem dX4_isFree_54 : decode cX4_isFree 54 = .ok (.iload 5, 2) := by decide +kernel
theorem dX4_isFree_56 : decode cX4_isFree 56 = .ok (.iaload, 1) := by decide +kernel
theorem dX4_isFree_57 : decode cX4_isFree 57 = .ok (.iaload, 1) := by decide +kernel
theorem dX4_isFree_58 : decode cX4_isFree 58 = .ok (.iaload, 1) := by decide +kernel
theorem dX4_isFree_59 : decode cX4_isFree 59 = .ok (.iadd, 1) := by decide +kernel
theorem dX4_isFree_60 : decode cX4_isFree 60 = .ok (.istore 8, 2) := by decide +kernel
theorem dX4_isFree_62 : decode cX4_isFree 62 = .ok (.iload_n 3, 1) := by decide +kernel
theorem dX4_isFree_63 : decode cX4_isFree 63 = .ok (.iload 8, 2) := by decide +kernel
theorem dX4_isFree_65 : decode cX4_isFree 65 = .ok (.if_icmp .ge 14, 3) := by decide +kernel
theorem dX4_isFree_68 : decode cX4_isFree 68 = .ok (.iload 7, 2) := by decide +kernel
theorem dX4_isFree_70 : decode cX4_isFree 70 = .ok (.iload_n 3, 1) := by decide +kernel
theorem dX4_isFree_71 : decode cX4_isFree 71 = .ok (.iload 4, 2) := by decide +kernel
theorem dX4_isFree_73 : decode cX4_isFree 73 = .ok (.iadd, 1) := by decide +kernel
theorem dX4_isFree_74 : decode cX4_isFree 74 = .ok (.if_icmp .ge 5, 3) := by decide +kernel
theorem dX4_isFree_77 : decode cX4_isFree 77 = .ok (.iconst 0, 1) := by decide +kernel
theorem dX4_isFree_78 : decode cX4_isFree 78 = .ok (.ireturn, 1) := by decide +kernel
theorem dX4_isFree_79 : decode cX4_isFree 79 = .ok (.aload_n 0, 1) := by decide +kernel
theorem dX4_isFree_80 : decode cX4_isFree 80 = .ok (.getfield 15, 3) := by decide +kernel
theorem dX4_isFree_83 : decode cX4_isFree 83 = .ok (.iload 5, 2) := by decide +kernel
theorem dX4_isFree_85 : decode cX4_isFree 85 = .ok (.iaload, 1) := by decide +kernel
theorem dX4_isFree_86 : decode cX4_isFree 86 = .ok (.istore 5, 2) := by decide +kernel
theorem dX4_isFree_88 : decode cX4_isFree 88 = .ok (.iinc 6 1, 3) := by decide +kernel
theorem dX4_isFree_91 : decode cX4_isFree 91 = .ok (.goto (-85), 3) := by decide +kernel
theorem dX4_isFree_94 : decode cX4_isFree 94 = .ok (.iconst 1, 1) := by decide +kernel
theorem dX4_isFree_95 : decode cX4_isFree 95 = .ok (.ireturn, 1) := by decide +kernel
theorem dX4_firstDay_0 : decode cX4_firstDay 0 = .ok (.iload_n 1, 1) := by decide +kernel
theorem dX4_firstDay_1 : decode cX4_firstDay 1 = .ok (.bipush 65, 2) := by decide +kernel
theorem dX4_firstDay_3 : decode cX4_firstDay 3 = .ok (.imul, 1) := by decide +kernel
theorem dX4_firstDay_4 : decode cX4_firstDay 4 = .ok (.istore_n 3, 1) := by decide +kernel
theorem dX4_firstDay_5 : decode cX4_firstDay 5 = .ok (.aload_n 0, 1) := by decide +kernel
theorem dX4_firstDay_6 : decode cX4_firstDay 6 = .ok (.getfield 15, 3) := by decide +kernel
theorem dX4_firstDay_9 : decode cX4_firstDay 9 = .ok (.iload_n 2, 1) := by decide +kernel
theorem dX4_firstDay_10 : decode cX4_firstDay 10 = .ok (.iaload, 1) := by decide +kernel
theorem dX4_firstDay_11 : decode cX4_firstDay 11 = .ok (.istore 4, 2) := by decide +kernel
theorem dX4_firstDay_13 : decode cX4_firstDay 13 = .ok (.aload_n 0, 1) := by decide +kernel
theorem dX4_firstDay_14 : decode cX4_firstDay 14 = .ok (.getfield 18, 3) := by decide +kernel
theorem dX4_firstDay_17 : decode cX4_firstDay 17 = .ok (.iload_n 2, 1) := by decide +kernel
theorem dX4_firstDay_18 : decode cX4_firstDay 18 = .ok (.iaload, 1) := by decide +kernel
theorem dX4_firstDay_19 : decode cX4_firstDay 19 = .ok (.aload_n 0, 1) := by decide +kernel
theorem dX4_firstDay_20 : decode cX4_firstDay 20 = .ok (.getfield 58, 3) := by decide +kernel
theorem dX4_firstDay_23 : decode cX4_firstDay 23 = .ok (.if_icmp .ge 20, 3) := by decide +kernel
theorem dX4_firstDay_26 : decode cX4_firstDay 26 = .ok (.iload 4, 2) := by decide +kernel
theorem dX4_firstDay_28 : decode cX4_firstDay 28 = .ok (.ifCond .le 17, 3) := by decide +kernel
theorem dX4_firstDay_31 : decode cX4_firstDay 31 = .ok (.aload_n 0, 1) := by decide +kernel
theorem dX4_firstDay_32 : decode cX4_firstDay 32 = .ok (.getfield 21, 3) := by decide +kernel
theorem dX4_firstDay_35 : decode cX4_firstDay 35 = .ok (.iload_n 3, 1) := by decide +kernel
theorem dX4_firstDay_36 : decode cX4_firstDay 36 = .ok (.iload 4, 2) := by decide +kernel
theorem dX4_firstDay_38 : decode cX4_firstDay 38 = .ok (.iadd, 1) := by decide +kernel
theorem dX4_firstDay_39 : decode cX4_firstDay 39 = .ok (.iaload, 1) := by decide +kernel
theorem dX4_firstDay_40 : decode cX4_firstDay 40 = .ok (.ifCond .ge 5, 3) := by decide +kernel
theorem dX4_firstDay_43 : decode cX4_firstDay 43 = .ok (.iconst (-1), 1) := by decide +kernel
theorem dX4_firstDay_44 : decode cX4_firstDay 44 = .ok (.ireturn, 1) := by decide +kernel
theorem dX4_firstDay_45 : decode cX4_firstDay 45 = .ok (.aload_n 0, 1) := by decide +kernel
theorem dX4_firstDay_46 : decode cX4_firstDay 46 = .ok (.getfield 27, 3) := by decide +kernel
theorem dX4_firstDay_49 : decode cX4_firstDay 49 = .ok (.aload_n 0, 1) := by decide +kernel
theorem dX4_firstDay_50 : decode cX4_firstDay 50 = .ok (.getfield 18, 3) := by decide +kernel
theorem dX4_firstDay_53 : decode cX4_firstDay 53 = .ok (.iload_n 2, 1) := by decide +kernel
theorem dX4_firstDay_54 : decode cX4_firstDay 54 = .ok (.iaload, 1) := by decide +kernel
theorem dX4_firstDay_55 : decode cX4_firstDay 55 = .ok (.iaload, 1) := by decide +kernel
theorem dX4_firstDay_56 : decode cX4_firstDay 56 = .ok (.istore 5, 2) := by decide +kernel
theorem dX4_firstDay_58 : decode cX4_firstDay 58 = .ok (.aload_n 0, 1) := by decide +kernel
theorem dX4_firstDay_59 : decode cX4_firstDay 59 = .ok (.getfield 51, 3) := by decide +kernel
theorem dX4_firstDay_62 : decode cX4_firstDay 62 = .ok (.getfield 74, 3) := by decide +kernel
theorem dX4_firstDay_65 : decode cX4_firstDay 65 = .ok (.getfield 80, 3) := by decide +kernel
theorem dX4_firstDay_68 : decode cX4_firstDay 68 = .ok (.astore 6, 2) := by decide +kernel
theorem dX4_firstDay_70 : decode cX4_firstDay 70 = .ok (.aload 6, 2) := by decide +kernel
theorem dX4_firstDay_72 : decode cX4_firstDay 72 = .ok (.iload_n 1, 1) := by decide +kernel
theorem dX4_firstDay_73 : decode cX4_firstDay 73 = .ok (.invokevirtual 117, 3) := by decide +kernel
theorem dX4_firstDay_76 : decode cX4_firstDay 76 = .ok (.istore 7, 2) := by decide +kernel
theorem dX4_firstDay_78 : decode cX4_firstDay 78 = .ok (.aload 6, 2) := by decide +kernel
theorem dX4_firstDay_80 : decode cX4_firstDay 80 = .ok (.getfield 121, 3) := by decide +kernel
theorem dX4_firstDay_83 : decode cX4_firstDay 83 = .ok (.iload 7, 2) := by decide +kernel
theorem dX4_firstDay_85 : decode cX4_firstDay 85 = .ok (.ifCond .ge 7, 3) := by decide +kernel
theorem dX4_firstDay_88 : decode cX4_firstDay 88 = .ok (.iconst 0, 1) := by decide +kernel
theorem dX4_firstDay_89 : decode cX4_firstDay 89 = .ok (.goto 11, 3) := by decide +kernel
theorem dX4_firstDay_92 : decode cX4_firstDay 92 = .ok (.aload 6, 2) := by decide +kernel
theorem dX4_firstDay_94 : decode cX4_firstDay 94 = .ok (.getfield 124, 3) := by decide +kernel
theorem dX4_firstDay_97 : decode cX4_firstDay 97 = .ok (.iload 7, 2) := by decide +kernel
theorem dX4_firstDay_99 : decode cX4_firstDay 99 = .ok (.iaload, 1) := by decide +kernel
theorem dX4_firstDay_100 : decode cX4_firstDay 100 = .ok (.iadd, 1) := by decide +kernel
theorem dX4_firstDay_101 : decode cX4_firstDay 101 = .ok (.istore 8, 2) := by decide +kernel
theorem dX4_firstDay_103 : decode cX4_firstDay 103 = .ok (.iload 8, 2) := by decide +kernel
theorem dX4_firstDay_105 : decode cX4_firstDay 105 = .ok (.istore 9, 2) := by decide +kernel
theorem dX4_firstDay_107 : decode cX4_firstDay 107 = .ok (.iload 9, 2) := by decide +kernel
theorem dX4_firstDay_109 : decode cX4_firstDay 109 = .ok (.aload 6, 2) := by decide +kernel
theorem dX4_firstDay_111 : decode cX4_firstDay 111 = .ok (.getfield 121, 3) := by decide +kernel
theorem dX4_firstDay_114 : decode cX4_firstDay 114 = .ok (.bipush 100, 2) := by decide +kernel
theorem dX4_firstDay_116 : decode cX4_firstDay 116 = .ok (.iadd, 1) := by decide +kernel
theorem dX4_firstDay_117 : decode cX4_firstDay 117 = .ok (.if_icmp .ge 55, 3) := by decide +kernel
theorem dX4_firstDay_120 : decode cX4_firstDay 120 = .ok (.aload_n 0, 1) := by decide +kernel
theorem dX4_firstDay_121 : decode cX4_firstDay 121 = .ok (.getfield 51, 3) := by decide +kernel
theorem dX4_firstDay_124 : decode cX4_firstDay 124 = .ok (.iload 5, 2) := by decide +kernel
theorem dX4_firstDay_126 : decode cX4_firstDay 126 = .ok (.iload_n 1, 1) := by decide +kernel
theorem dX4_firstDay_127 : decode cX4_firstDay 127 = .ok (.iload 9, 2) := by decide +kernel
theorem dX4_firstDay_129 : decode cX4_firstDay 129 = .ok (.invokevirtual 127, 3) := by decide +kernel
theorem dX4_firstDay_132 : decode cX4_firstDay 132 = .ok (.ifCond .eq 34, 3) := by decide +kernel
theorem dX4_firstDay_135 : decode cX4_firstDay 135 = .ok (.aload_n 0, 1) := by decide +kernel
theorem dX4_firstDay_136 : decode cX4_firstDay 136 = .ok (.iload_n 1, 1) := by decide +kernel
theorem dX4_firstDay_137 : decode cX4_firstDay 137 = .ok (.iload 4, 2) := by decide +kernel
theorem dX4_firstDay_139 : decode cX4_firstDay 139 = .ok (.iload 9, 2) := by decide +kernel
theorem dX4_firstDay_141 : decode cX4_firstDay 141 = .ok (.aload_n 0, 1) := by decide +kernel
theorem dX4_firstDay_142 : decode cX4_firstDay 142 = .ok (.getfield 51, 3) := by decide +kernel
theorem dX4_firstDay_145 : decode cX4_firstDay 145 = .ok (.getfield 74, 3) := by decide +kernel
theorem dX4_firstDay_148 : decode cX4_firstDay 148 = .ok (.getfield 91, 3) := by decide +kernel
theorem dX4_firstDay_151 : decode cX4_firstDay 151 = .ok (.getfield 131, 3) := by decide +kernel
theorem dX4_firstDay_154 : decode cX4_firstDay 154 = .ok (.iload 5, 2) := by decide +kernel
theorem dX4_firstDay_156 : decode cX4_firstDay 156 = .ok (.iaload, 1) := by decide +kernel
theorem dX4_firstDay_157 : decode cX4_firstDay 157 = .ok (.invokevirtual 134, 3) := by decide +kernel
theorem dX4_firstDay_160 : decode cX4_firstDay 160 = .ok (.ifCond .eq 6, 3) := by decide +kernel
theorem dX4_firstDay_163 : decode cX4_firstDay 163 = .ok (.iload 9, 2) := by decide +kernel
theorem dX4_firstDay_165 : decode cX4_firstDay 165 = .ok (.ireturn, 1) := by decide +kernel
theorem dX4_firstDay_166 : decode cX4_firstDay 166 = .ok (.iinc 9 1, 3) := by decide +kernel
theorem dX4_firstDay_169 : decode cX4_firstDay 169 = .ok (.goto (-62), 3) := by decide +kernel
theorem dX4_firstDay_172 : decode cX4_firstDay 172 = .ok (.iconst (-1), 1) := by decide +kernel
theorem dX4_firstDay_173 : decode cX4_firstDay 173 = .ok (.ireturn, 1) := by decide +kernel
theorem dX4_weigh_0 : decode cX4_weigh 0 = .ok (.aload_n 0, 1) := by decide +kernel
theorem dX4_weigh_1 : decode cX4_weigh 1 = .ok (.getfield 51, 3) := by decide +kernel
theorem dX4_weigh_4 : decode cX4_weigh 4 = .ok (.getfield 74, 3) := by decide +kernel
theorem dX4_weigh_7 : decode cX4_weigh 7 = .ok (.getfield 80, 3) := by decide +kernel
theorem dX4_weigh_10 : decode cX4_weigh 10 = .ok (.getfield 138, 3) := by decide +kernel
theorem dX4_weigh_13 : decode cX4_weigh 13 = .ok (.iload_n 1, 1) := by decide +kernel
theorem dX4_weigh_14 : decode cX4_weigh 14 = .ok (.iaload, 1) := by decide +kernel
theorem dX4_weigh_15 : decode cX4_weigh 15 = .ok (.istore_n 2, 1) := by decide +kernel
theorem dX4_weigh_16 : decode cX4_weigh 16 = .ok (.iconst 1, 1) := by decide +kernel
theorem dX4_weigh_17 : decode cX4_weigh 17 = .ok (.istore_n 3, 1) := by decide +kernel
theorem dX4_weigh_18 : decode cX4_weigh 18 = .ok (.iload_n 3, 1) := by decide +kernel
theorem dX4_weigh_19 : decode cX4_weigh 19 = .ok (.bipush 65, 2) := by decide +kernel
theorem dX4_weigh_21 : decode cX4_weigh 21 = .ok (.if_icmp .ge 69, 3) := by decide +kernel
theorem dX4_weigh_24 : decode cX4_weigh 24 = .ok (.iload_n 1, 1) := by decide +kernel
theorem dX4_weigh_25 : decode cX4_weigh 25 = .ok (.bipush 65, 2) := by decide +kernel
theorem dX4_weigh_27 : decode cX4_weigh 27 = .ok (.imul, 1) := by decide +kernel
theorem dX4_weigh_28 : decode cX4_weigh 28 = .ok (.iload_n 3, 1) := by decide +kernel
theorem dX4_weigh_29 : decode cX4_weigh 29 = .ok (.iadd, 1) := by decide +kernel
theorem dX4_weigh_30 : decode cX4_weigh 30 = .ok (.istore 4, 2) := by decide +kernel
theorem dX4_weigh_32 : decode cX4_weigh 32 = .ok (.aload_n 0, 1) := by decide +kernel
theorem dX4_weigh_33 : decode cX4_weigh 33 = .ok (.getfield 21, 3) := by decide +kernel
theorem dX4_weigh_36 : decode cX4_weigh 36 = .ok (.iload 4, 2) := by decide +kernel
theorem dX4_weigh_38 : decode cX4_weigh 38 = .ok (.iaload, 1) := by decide +kernel
theorem dX4_weigh_39 : decode cX4_weigh 39 = .ok (.ifCond .lt 45, 3) := by decide +kernel
theorem dX4_weigh_42 : decode cX4_weigh 42 = .ok (.aload_n 0, 1) := by decide +kernel
theorem dX4_weigh_43 : decode cX4_weigh 43 = .ok (.getfield 51, 3) := by decide +kernel
theorem dX4_weigh_46 : decode cX4_weigh 46 = .ok (.aload_n 0, 1) := by decide +kernel
theorem dX4_weigh_47 : decode cX4_weigh 47 = .ok (.getfield 27, 3) := by decide +kernel
theorem dX4_weigh_50 : decode cX4_weigh 50 = .ok (.aload_n 0, 1) := by decide +kernel
theorem dX4_weigh_51 : decode cX4_weigh 51 = .ok (.getfield 18, 3) := by decide +kernel
theorem dX4_weigh_54 : decode cX4_weigh 54 = .ok (.iload_n 3, 1) := by decide +kernel
theorem dX4_weigh_55 : decode cX4_weigh 55 = .ok (.iaload, 1) := by decide +kernel
theorem dX4_weigh_56 : decode cX4_weigh 56 = .ok (.iaload, 1) := by decide +kernel
theorem dX4_weigh_57 : decode cX4_weigh 57 = .ok (.iconst 0, 1) := by decide +kernel
theorem dX4_weigh_58 : decode cX4_weigh 58 = .ok (.invokevirtual 141, 3) := by decide +kernel
theorem dX4_weigh_61 : decode cX4_weigh 61 = .ok (.aload_n 0, 1) := by decide +kernel
theorem dX4_weigh_62 : decode cX4_weigh 62 = .ok (.getfield 24, 3) := by decide +kernel
theorem dX4_weigh_65 : decode cX4_weigh 65 = .ok (.iload 4, 2) := by decide +kernel
theorem dX4_weigh_67 : decode cX4_weigh 67 = .ok (.aload_n 0, 1) := by decide +kernel
theorem dX4_weigh_68 : decode cX4_weigh 68 = .ok (.getfield 51, 3) := by decide +kernel
theorem dX4_weigh_71 : decode cX4_weigh 71 = .ok (.iload_n 1, 1) := by decide +kernel
theorem dX4_weigh_72 : decode cX4_weigh 72 = .ok (.aload_n 0, 1) := by decide +kernel
theorem dX4_weigh_73 : decode cX4_weigh 73 = .ok (.getfield 21, 3) := by decide +kernel
theorem dX4_weigh_76 : decode cX4_weigh 76 = .ok (.iload 4, 2) := by decide +kernel
theorem dX4_weigh_78 : decode cX4_weigh 78 = .ok (.iaload, 1) := by decide +kernel
theorem dX4_weigh_79 : decode cX4_weigh 79 = .ok (.iload_n 2, 1) := by decide +kernel
theorem dX4_weigh_80 : decode cX4_weigh 80 = .ok (.invokevirtual 145, 3) := by decide +kernel
theorem dX4_weigh_83 : decode cX4_weigh 83 = .ok (.iastore, 1) := by decide +kernel
theorem dX4_weigh_84 : decode cX4_weigh 84 = .ok (.iinc 3 1, 3) := by decide +kernel
theorem dX4_weigh_87 : decode cX4_weigh 87 = .ok (.goto (-69), 3) := by decide +kernel
theorem dX4_weigh_90 : decode cX4_weigh 90 = .ok (.return_, 1) := by decide +kernel
theorem dX4_placeAll_0 : decode cX4_placeAll 0 = .ok (.iconst 0, 1) := by decide +kernel
theorem dX4_placeAll_1 : decode cX4_placeAll 1 = .ok (.istore_n 1, 1) := by decide +kernel
theorem dX4_placeAll_2 : decode cX4_placeAll 2 = .ok (.iload_n 1, 1) := by decide +kernel
theorem dX4_placeAll_3 : decode cX4_placeAll 3 = .ok (.aload_n 0, 1) := by decide +kernel
theorem dX4_placeAll_4 : decode cX4_placeAll 4 = .ok (.getfield 51, 3) := by decide +kernel
theorem dX4_placeAll_7 : decode cX4_placeAll 7 = .ok (.getfield 74, 3) := by decide +kernel
theorem dX4_placeAll_10 : decode cX4_placeAll 10 = .ok (.getfield 91, 3) := by decide +kernel
theorem dX4_placeAll_13 : decode cX4_placeAll 13 = .ok (.getfield 95, 3) := by decide +kernel
theorem dX4_placeAll_16 : decode cX4_placeAll 16 = .ok (.if_icmp .ge 45, 3) := by decide +kernel
theorem dX4_placeAll_19 : decode cX4_placeAll 19 = .ok (.iconst 1, 1) := by decide +kernel
theorem dX4_placeAll_20 : decode cX4_placeAll 20 = .ok (.istore_n 2, 1) := by decide +kernel
theorem dX4_placeAll_21 : decode cX4_placeAll 21 = .ok (.iload_n 2, 1) := by decide +kernel
theorem dX4_placeAll_22 : decode cX4_placeAll 22 = .ok (.bipush 65, 2) := by decide +kernel
theorem dX4_placeAll_24 : decode cX4_placeAll 24 = .ok (.if_icmp .ge 26, 3) := by decide +kernel
theorem dX4_placeAll_27 : decode cX4_placeAll 27 = .ok (.aload_n 0, 1) := by decide +kernel
theorem dX4_placeAll_28 : decode cX4_placeAll 28 = .ok (.getfield 21, 3) := by decide +kernel
theorem dX4_placeAll_31 : decode cX4_placeAll 31 = .ok (.iload_n 1, 1) := by decide +kernel
theorem dX4_placeAll_32 : decode cX4_placeAll 32 = .ok (.bipush 65, 2) := by decide +kernel
theorem dX4_placeAll_34 : decode cX4_placeAll 34 = .ok (.imul, 1) := by decide +kernel
theorem dX4_placeAll_35 : decode cX4_placeAll 35 = .ok (.iload_n 2, 1) := by decide +kernel
theorem dX4_placeAll_36 : decode cX4_placeAll 36 = .ok (.iadd, 1) := by decide +kernel
theorem dX4_placeAll_37 : decode cX4_placeAll 37 = .ok (.aload_n 0, 1) := by decide +kernel
theorem dX4_placeAll_38 : decode cX4_placeAll 38 = .ok (.iload_n 1, 1) := by decide +kernel
theorem dX4_placeAll_39 : decode cX4_placeAll 39 = .ok (.iload_n 2, 1) := by decide +kernel
theorem dX4_placeAll_40 : decode cX4_placeAll 40 = .ok (.invokevirtual 113, 3) := by decide +kernel
theorem dX4_placeAll_43 : decode cX4_placeAll 43 = .ok (.iastore, 1) := by decide +kernel
theorem dX4_placeAll_44 : decode cX4_placeAll 44 = .ok (.iinc 2 1, 3) := by decide +kernel
theorem dX4_placeAll_47 : decode cX4_placeAll 47 = .ok (.goto (-26), 3) := by decide +kernel
theorem dX4_placeAll_50 : decode cX4_placeAll 50 = .ok (.aload_n 0, 1) := by decide +kernel
theorem dX4_placeAll_51 : decode cX4_placeAll 51 = .ok (.iload_n 1, 1) := by decide +kernel
theorem dX4_placeAll_52 : decode cX4_placeAll 52 = .ok (.invokevirtual 100, 3) := by decide +kernel
theorem dX4_placeAll_55 : decode cX4_placeAll 55 = .ok (.iinc 1 1, 3) := by decide +kernel
theorem dX4_placeAll_58 : decode cX4_placeAll 58 = .ok (.goto (-56), 3) := by decide +kernel
theorem dX4_placeAll_61 : decode cX4_placeAll 61 = .ok (.return_, 1) := by decide +kernel
theorem dX4_keepIfBetter_0 : decode cX4_keepIfBetter 0 = .ok (.iload_n 1, 1) := by decide +kernel
theorem dX4_keepIfBetter_1 : decode cX4_keepIfBetter 1 = .ok (.aload_n 0, 1) := by decide +kernel
theorem dX4_keepIfBetter_2 : decode cX4_keepIfBetter 2 = .ok (.getfield 68, 3) := by decide +kernel
theorem dX4_keepIfBetter_5 : decode cX4_keepIfBetter 5 = .ok (.if_icmp .lt 19, 3) := by decide +kernel
theorem dX4_keepIfBetter_8 : decode cX4_keepIfBetter 8 = .ok (.iload_n 1, 1) := by decide +kernel
theorem dX4_keepIfBetter_9 : decode cX4_keepIfBetter 9 = .ok (.aload_n 0, 1) := by decide +kernel
theorem dX4_keepIfBetter_10 : decode cX4_keepIfBetter 10 = .ok (.getfield 68, 3) := by decide +kernel
theorem dX4_keepIfBetter_13 : decode cX4_keepIfBetter 13 = .ok (.if_icmp .ne 12, 3) := by decide +kernel
theorem dX4_keepIfBetter_16 : decode cX4_keepIfBetter 16 = .ok (.iload_n 2, 1) := by decide +kernel
theorem dX4_keepIfBetter_17 : decode cX4_keepIfBetter 17 = .ok (.aload_n 0, 1) := by decide +kernel
theorem dX4_keepIfBetter_18 : decode cX4_keepIfBetter 18 = .ok (.getfield 71, 3) := by decide +kernel
theorem dX4_keepIfBetter_21 : decode cX4_keepIfBetter 21 = .ok (.if_icmp .lt 4, 3) := by decide +kernel
theorem dX4_keepIfBetter_24 : decode cX4_keepIfBetter 24 = .ok (.return_, 1) := by decide +kernel
theorem dX4_keepIfBetter_25 : decode cX4_keepIfBetter 25 = .ok (.aload_n 0, 1) := by decide +kernel
theorem dX4_keepIfBetter_26 : decode cX4_keepIfBetter 26 = .ok (.iload_n 1, 1) := by decide +kernel
theorem dX4_keepIfBetter_27 : decode cX4_keepIfBetter 27 = .ok (.putfield 68, 3) := by decide +kernel
theorem dX4_keepIfBetter_30 : decode cX4_keepIfBetter 30 = .ok (.aload_n 0, 1) := by decide +kernel
theorem dX4_keepIfBetter_31 : decode cX4_keepIfBetter 31 = .ok (.iload_n 2, 1) := by decide +kernel
theorem dX4_keepIfBetter_32 : decode cX4_keepIfBetter 32 = .ok (.putfield 71, 3) := by decide +kernel
theorem dX4_keepIfBetter_35 : decode cX4_keepIfBetter 35 = .ok (.iconst 0, 1) := by decide +kernel
theorem dX4_keepIfBetter_36 : decode cX4_keepIfBetter 36 = .ok (.istore_n 3, 1) := by decide +kernel
theorem dX4_keepIfBetter_37 : decode cX4_keepIfBetter 37 = .ok (.iload_n 3, 1) := by decide +kernel
theorem dX4_keepIfBetter_38 : decode cX4_keepIfBetter 38 = .ok (.aload_n 0, 1) := by decide +kernel
theorem dX4_keepIfBetter_39 : decode cX4_keepIfBetter 39 = .ok (.getfield 58, 3) := by decide +kernel
theorem dX4_keepIfBetter_42 : decode cX4_keepIfBetter 42 = .ok (.if_icmp .ge 55, 3) := by decide +kernel
theorem dX4_keepIfBetter_45 : decode cX4_keepIfBetter 45 = .ok (.iload_n 3, 1) := by decide +kernel
theorem dX4_keepIfBetter_46 : decode cX4_keepIfBetter 46 = .ok (.iconst 4, 1) := by decide +kernel
theorem dX4_keepIfBetter_47 : decode cX4_keepIfBetter 47 = .ok (.if_icmp .ge 50, 3) := by decide +kernel
theorem dX4_keepIfBetter_50 : decode cX4_keepIfBetter 50 = .ok (.aload_n 0, 1) := by decide +kernel
theorem dX4_keepIfBetter_51 : decode cX4_keepIfBetter 51 = .ok (.getfield 42, 3) := by decide +kernel
theorem dX4_keepIfBetter_54 : decode cX4_keepIfBetter 54 = .ok (.iload_n 3, 1) := by decide +kernel
theorem dX4_keepIfBetter_55 : decode cX4_keepIfBetter 55 = .ok (.aload_n 0, 1) := by decide +kernel
theorem dX4_keepIfBetter_56 : decode cX4_keepIfBetter 56 = .ok (.getfield 27, 3) := by decide +kernel
theorem dX4_keepIfBetter_59 : decode cX4_keepIfBetter 59 = .ok (.aload_n 0, 1) := by decide +kernel
theorem dX4_keepIfBetter_60 : decode cX4_keepIfBetter 60 = .ok (.getfield 30, 3) := by decide +kernel
theorem dX4_keepIfBetter_63 : decode cX4_keepIfBetter 63 = .ok (.iload_n 3, 1) := by decide +kernel
theorem dX4_keepIfBetter_64 : decode cX4_keepIfBetter 64 = .ok (.iaload, 1) := by decide +kernel
theorem dX4_keepIfBetter_65 : decode cX4_keepIfBetter 65 = .ok (.iaload, 1) := by decide +kernel
theorem dX4_keepIfBetter_66 : decode cX4_keepIfBetter 66 = .ok (.iastore, 1) := by decide +kernel
theorem dX4_keepIfBetter_67 : decode cX4_keepIfBetter 67 = .ok (.aload_n 0, 1) := by decide +kernel
theorem dX4_keepIfBetter_68 : decode cX4_keepIfBetter 68 = .ok (.getfield 45, 3) := by decide +kernel
theorem dX4_keepIfBetter_71 : decode cX4_keepIfBetter 71 = .ok (.iload_n 3, 1) := by decide +kernel
theorem dX4_keepIfBetter_72 : decode cX4_keepIfBetter 72 = .ok (.aload_n 0, 1) := by decide +kernel
theorem dX4_keepIfBetter_73 : decode cX4_keepIfBetter 73 = .ok (.getfield 33, 3) := by decide +kernel
theorem dX4_keepIfBetter_76 : decode cX4_keepIfBetter 76 = .ok (.iload_n 3, 1) := by decide +kernel
theorem dX4_keepIfBetter_77 : decode cX4_keepIfBetter 77 = .ok (.iaload, 1) := by decide +kernel
theorem dX4_keepIfBetter_78 : decode cX4_keepIfBetter 78 = .ok (.iastore, 1) := by decide +kernel
theorem dX4_keepIfBetter_79 : decode cX4_keepIfBetter 79 = .ok (.aload_n 0, 1) := by decide +kernel
theorem dX4_keepIfBetter_80 : decode cX4_keepIfBetter 80 = .ok (.getfield 48, 3) := by decide +kernel
theorem dX4_keepIfBetter_83 : decode cX4_keepIfBetter 83 = .ok (.iload_n 3, 1) := by decide +kernel
theorem dX4_keepIfBetter_84 : decode cX4_keepIfBetter 84 = .ok (.aload_n 0, 1) := by decide +kernel
theorem dX4_keepIfBetter_85 : decode cX4_keepIfBetter 85 = .ok (.getfield 36, 3) := by decide +kernel
theorem dX4_keepIfBetter_88 : decode cX4_keepIfBetter 88 = .ok (.iload_n 3, 1) := by decide +kernel
theorem dX4_keepIfBetter_89 : decode cX4_keepIfBetter 89 = .ok (.iaload, 1) := by decide +kernel
theorem dX4_keepIfBetter_90 : decode cX4_keepIfBetter 90 = .ok (.iastore, 1) := by decide +kernel
theorem dX4_keepIfBetter_91 : decode cX4_keepIfBetter 91 = .ok (.iinc 3 1, 3) := by decide +kernel
theorem dX4_keepIfBetter_94 : decode cX4_keepIfBetter 94 = .ok (.goto (-57), 3) := by decide +kernel
theorem dX4_keepIfBetter_97 : decode cX4_keepIfBetter 97 = .ok (.return_, 1) := by decide +kernel
theorem dX6_put_0 : decode cX6_put 0 = .ok (.aload_n 0, 1) := by decide +kernel
theorem dX6_put_1 : decode cX6_put 1 = .ok (.getfield 21, 3) := by decide +kernel
theorem dX6_put_4 : decode cX6_put 4 = .ok (.sipush 400, 3) := by decide +kernel
theorem dX6_put_7 : decode cX6_put 7 = .ok (.if_icmp .ge 23, 3) := by decide +kernel
theorem dX6_put_10 : decode cX6_put 10 = .ok (.aload_n 0, 1) := by decide +kernel
theorem dX6_put_11 : decode cX6_put 11 = .ok (.getfield 9, 3) := by decide +kernel
theorem dX6_put_14 : decode cX6_put 14 = .ok (.aload_n 0, 1) := by decide +kernel
theorem dX6_put_15 : decode cX6_put 15 = .ok (.getfield 21, 3) := by decide +kernel
theorem dX6_put_18 : decode cX6_put 18 = .ok (.iload_n 1, 1) := by decide +kernel
theorem dX6_put_19 : decode cX6_put 19 = .ok (.iastore, 1) := by decide +kernel
theorem dX6_put_20 : decode cX6_put 20 = .ok (.aload_n 0, 1) := by decide +kernel
theorem dX6_put_21 : decode cX6_put 21 = .ok (.dup, 1) := by decide +kernel
theorem dX6_put_22 : decode cX6_put 22 = .ok (.getfield 21, 3) := by decide +kernel
theorem dX6_put_25 : decode cX6_put 25 = .ok (.iconst 1, 1) := by decide +kernel
theorem dX6_put_26 : decode cX6_put 26 = .ok (.iadd, 1) := by decide +kernel
theorem dX6_put_27 : decode cX6_put 27 = .ok (.putfield 21, 3) := by decide +kernel
theorem dX6_put_30 : decode cX6_put 30 = .ok (.return_, 1) := by decide +kernel
theorem dX6_readsValue_0 : decode cX6_readsValue 0 = .ok (.aload_n 0, 1) := by decide +kernel
theorem dX6_readsValue_1 : decode cX6_readsValue 1 = .ok (.getfield 15, 3) := by decide +kernel
theorem dX6_readsValue_4 : decode cX6_readsValue 4 = .ok (.getfield 83, 3) := by decide +kernel
theorem dX6_readsValue_7 : decode cX6_readsValue 7 = .ok (.istore_n 1, 1) := by decide +kernel
theorem dX6_readsValue_8 : decode cX6_readsValue 8 = .ok (.aload_n 0, 1) := by decide +kernel
theorem dX6_readsValue_9 : decode cX6_readsValue 9 = .ok (.getfield 15, 3) := by decide +kernel
theorem dX6_readsValue_12 : decode cX6_readsValue 12 = .ok (.invokevirtual 112, 3) := by decide +kernel
theorem dX6_readsValue_15 : decode cX6_readsValue 15 = .ok (.ifCond .eq 20, 3) := by decide +kernel
theorem dX6_readsValue_18 : decode cX6_readsValue 18 = .ok (.aload_n 0, 1) := by decide +kernel
theorem dX6_readsValue_19 : decode cX6_readsValue 19 = .ok (.getfield 15, 3) := by decide +kernel
theorem dX6_readsValue_22 : decode cX6_readsValue 22 = .ok (.iconst 0, 1) := by decide +kernel
theorem dX6_readsValue_23 : decode cX6_readsValue 23 = .ok (.ldc 115, 2) := by decide +kernel
theorem dX6_readsValue_25 : decode cX6_readsValue 25 = .ok (.invokevirtual 116, 3) := by decide +kernel
theorem dX6_readsValue_28 : decode cX6_readsValue 28 = .ok (.istore_n 2, 1) := by decide +kernel
theorem dX6_readsValue_29 : decode cX6_readsValue 29 = .ok (.iload_n 2, 1) := by decide +kernel
theorem dX6_readsValue_30 : decode cX6_readsValue 30 = .ok (.ifCond .ge 44, 3) := by decide +kernel
theorem dX6_readsValue_33 : decode cX6_readsValue 33 = .ok (.iconst 0, 1) := by decide +kernel
theorem dX6_readsValue_34 : decode cX6_readsValue 34 = .ok (.ireturn, 1) := by decide +kernel
theorem dX6_readsValue_35 : decode cX6_readsValue 35 = .ok (.aload_n 0, 1) := by decide +kernel
theorem dX6_readsValue_36 : decode cX6_readsValue 36 = .ok (.getfield 15, 3) := by decide +kernel
theorem dX6_readsValue_39 : decode cX6_readsValue 39 = .ok (.invokevirtual 37, 3) := by decide +kernel
theorem dX6_readsValue_42 : decode cX6_readsValue 42 = .ok (.istore_n 3, 1) := by decide +kernel
theorem dX6_readsValue_43 : decode cX6_readsValue 43 = .ok (.iload_n 3, 1) := by decide +kernel
theorem dX6_readsValue_44 : decode cX6_readsValue 44 = .ok (.ifCond .lt 9, 3) := by decide +kernel
theorem dX6_readsValue_47 : decode cX6_readsValue 47 = .ok (.iload_n 3, 1) := by decide +kernel
theorem dX6_readsValue_48 : decode cX6_readsValue 48 = .ok (.bipush 12, 2) := by decide +kernel
theorem dX6_readsValue_50 : decode cX6_readsValue 50 = .ok (.if_icmp .lt 12, 3) := by decide +kernel
theorem dX6_readsValue_53 : decode cX6_readsValue 53 = .ok (.aload_n 0, 1) := by decide +kernel
theorem dX6_readsValue_54 : decode cX6_readsValue 54 = .ok (.getfield 15, 3) := by decide +kernel
theorem dX6_readsValue_57 : decode cX6_readsValue 57 = .ok (.iconst 0, 1) := by decide +kernel
theorem dX6_readsValue_58 : decode cX6_readsValue 58 = .ok (.invokevirtual 43, 3) := by decide +kernel
theorem dX6_readsValue_61 : decode cX6_readsValue 61 = .ok (.ireturn, 1) := by decide +kernel
theorem dX6_readsValue_62 : decode cX6_readsValue 62 = .ok (.aload_n 0, 1) := by decide +kernel
theorem dX6_readsValue_63 : decode cX6_readsValue 63 = .ok (.getfield 15, 3) := by decide +kernel
theorem dX6_readsValue_66 : decode cX6_readsValue 66 = .ok (.invokevirtual 47, 3) := by decide +kernel
theorem dX6_readsValue_69 : decode cX6_readsValue 69 = .ok (.ldc 120, 2) := by decide +kernel
theorem dX6_readsValue_71 : decode cX6_readsValue 71 = .ok (.iload_n 3, 1) := by decide +kernel
theorem dX6_readsValue_72 : decode cX6_readsValue 72 = .ok (.iadd, 1) := by decide +kernel
theorem dX6_readsValue_73 : decode cX6_readsValue 73 = .ok (.istore_n 2, 1) := by decide +kernel
theorem dX6_readsValue_74 : decode cX6_readsValue 74 = .ok (.aload_n 0, 1) := by decide +kernel
theorem dX6_readsValue_75 : decode cX6_readsValue 75 = .ok (.getfield 34, 3) := by decide +kernel
theorem dX6_readsValue_78 : decode cX6_readsValue 78 = .ok (.bipush 60, 2) := by decide +kernel
theorem dX6_readsValue_80 : decode cX6_readsValue 80 = .ok (.if_icmp .lt 13, 3) := by decide +kernel
theorem dX6_readsValue_83 : decode cX6_readsValue 83 = .ok (.aload_n 0, 1) := by decide +kernel
theorem dX6_readsValue_84 : decode cX6_readsValue 84 = .ok (.getfield 15, 3) := by decide +kernel
theorem dX6_readsValue_87 : decode cX6_readsValue 87 = .ok (.iload_n 1, 1) := by decide +kernel
theorem dX6_readsValue_88 : decode cX6_readsValue 88 = .ok (.iconst 3, 1) := by decide +kernel
theorem dX6_readsValue_89 : decode cX6_readsValue 89 = .ok (.invokevirtual 121, 3) := by decide +kernel
theorem dX6_readsValue_92 : decode cX6_readsValue 92 = .ok (.ireturn, 1) := by decide +kernel
theorem dX6_readsValue_93 : decode cX6_readsValue 93 = .ok (.aload_n 0, 1) := by decide +kernel
theorem dX6_readsValue_94 : decode cX6_readsValue 94 = .ok (.dup, 1) := by decide +kernel
theorem dX6_readsValue_95 : decode cX6_readsValue 95 = .ok (.getfield 34, 3) := by decide +kernel
theorem dX6_readsValue_98 : decode cX6_readsValue 98 = .ok (.iconst 1, 1) := by decide +kernel
theorem dX6_readsValue_99 : decode cX6_readsValue 99 = .ok (.iadd, 1) := by decide +kernel
theorem dX6_readsValue_100 : decode cX6_readsValue 100 = .ok (.putfield 34, 3) := by decide +kernel
theorem dX6_readsValue_103 : decode cX6_readsValue 103 = .ok (.aload_n 0, 1) := by decide +kernel
theorem dX6_readsValue_104 : decode cX6_readsValue 104 = .ok (.iload_n 2, 1) := by decide +kernel
theorem dX6_readsValue_105 : decode cX6_readsValue 105 = .ok (.invokevirtual 59, 3) := by decide +kernel
theorem dX6_readsValue_108 : decode cX6_readsValue 108 = .ok (.iconst 1, 1) := by decide +kernel
theorem dX6_readsValue_109 : decode cX6_readsValue 109 = .ok (.ireturn, 1) := by decide +kernel
theorem dX6_timesOrBy_0 : decode cX6_timesOrBy 0 = .ok (.aload_n 0, 1) := by decide +kernel
theorem dX6_timesOrBy_1 : decode cX6_timesOrBy 1 = .ok (.getfield 15, 3) := by decide +kernel
theorem dX6_timesOrBy_4 : decode cX6_timesOrBy 4 = .ok (.invokevirtual 63, 3) := by decide +kernel
theorem dX6_timesOrBy_7 : decode cX6_timesOrBy 7 = .ok (.lookupswitch 42 #[(37, 39), (42, 33), (47, 36)], 33) := by decide +kernel
theorem dX6_timesOrBy_40 : decode cX6_timesOrBy 40 = .ok (.ldc 107, 2) := by decide +kernel
theorem dX6_timesOrBy_42 : decode cX6_timesOrBy 42 = .ok (.ireturn, 1) := by decide +kernel
theorem dX6_timesOrBy_43 : decode cX6_timesOrBy 43 = .ok (.ldc 108, 2) := by decide +kernel
theorem dX6_timesOrBy_45 : decode cX6_timesOrBy 45 = .ok (.ireturn, 1) := by decide +kernel
theorem dX6_timesOrBy_46 : decode cX6_timesOrBy 46 = .ok (.ldc 109, 2) := by decide +kernel
theorem dX6_timesOrBy_48 : decode cX6_timesOrBy 48 = .ok (.ireturn, 1) := by decide +kernel
theorem dX6_timesOrBy_49 : decode cX6_timesOrBy 49 = .ok (.iconst (-1), 1) := by decide +kernel
theorem dX6_timesOrBy_50 : decode cX6_timesOrBy 50 = .ok (.ireturn, 1) := by decide +kernel
theorem dX6_plusOrMinus_0 : decode cX6_plusOrMinus 0 = .ok (.aload_n 0, 1) := by decide +kernel
theorem dX6_plusOrMinus_1 : decode cX6_plusOrMinus 1 = .ok (.getfield 15, 3) := by decide +kernel
theorem dX6_plusOrMinus_4 : decode cX6_plusOrMinus 4 = .ok (.invokevirtual 63, 3) := by decide +kernel
theorem dX6_plusOrMinus_7 : decode cX6_plusOrMinus 7 = .ok (.lookupswitch 31 #[(43, 25), (45, 28)], 25) := by decide +kernel
theorem dX6_plusOrMinus_32 : decode cX6_plusOrMinus 32 = .ok (.ldc 110, 2) := by decide +kernel
theorem dX6_plusOrMinus_34 : decode cX6_plusOrMinus 34 = .ok (.ireturn, 1) := by decide +kernel
theorem dX6_plusOrMinus_35 : decode cX6_plusOrMinus 35 = .ok (.ldc 111, 2) := by decide +kernel
theorem dX6_plusOrMinus_37 : decode cX6_plusOrMinus 37 = .ok (.ireturn, 1) := by decide +kernel
theorem dX6_plusOrMinus_38 : decode cX6_plusOrMinus 38 = .ok (.iconst (-1), 1) := by decide +kernel
theorem dX6_plusOrMinus_39 : decode cX6_plusOrMinus 39 = .ok (.ireturn, 1) := by decide +kernel
theorem dX6_readsSum_0 : decode cX6_readsSum 0 = .ok (.iconst (-1), 1) := by decide +kernel
theorem dX6_readsSum_1 : decode cX6_readsSum 1 = .ok (.istore_n 1, 1) := by decide +kernel
theorem dX6_readsSum_2 : decode cX6_readsSum 2 = .ok (.iconst (-1), 1) := by decide +kernel
theorem dX6_readsSum_3 : decode cX6_readsSum 3 = .ok (.istore_n 2, 1) := by decide +kernel
theorem dX6_readsSum_4 : decode cX6_readsSum 4 = .ok (.iconst 0, 1) := by decide +kernel
theorem dX6_readsSum_5 : decode cX6_readsSum 5 = .ok (.istore_n 3, 1) := by decide +kernel
theorem dX6_readsSum_6 : decode cX6_readsSum 6 = .ok (.iload_n 3, 1) := by decide +kernel
theorem dX6_readsSum_7 : decode cX6_readsSum 7 = .ok (.sipush 400, 3) := by decide +kernel
theorem dX6_readsSum_10 : decode cX6_readsSum 10 = .ok (.if_icmp .ge 67, 3) := by decide +kernel
theorem dX6_readsSum_13 : decode cX6_readsSum 13 = .ok (.aload_n 0, 1) := by decide +kernel
theorem dX6_readsSum_14 : decode cX6_readsSum 14 = .ok (.invokevirtual 98, 3) := by decide +kernel
theorem dX6_readsSum_17 : decode cX6_readsSum 17 = .ok (.ifCond .ne 5, 3) := by decide +kernel
theorem dX6_readsSum_20 : decode cX6_readsSum 20 = .ok (.iconst 0, 1) := by decide +kernel
theorem dX6_readsSum_21 : decode cX6_readsSum 21 = .ok (.ireturn, 1) := by decide +kernel
theorem dX6_readsSum_22 : decode cX6_readsSum 22 = .ok (.iload_n 1, 1) := by decide +kernel
theorem dX6_readsSum_23 : decode cX6_readsSum 23 = .ok (.iconst (-1), 1) := by decide +kernel
theorem dX6_readsSum_24 : decode cX6_readsSum 24 = .ok (.if_icmp .eq 8, 3) := by decide +kernel
theorem dX6_readsSum_27 : decode cX6_readsSum 27 = .ok (.aload_n 0, 1) := by decide +kernel
theorem dX6_readsSum_28 : decode cX6_readsSum 28 = .ok (.iload_n 1, 1) := by decide +kernel
theorem dX6_readsSum_29 : decode cX6_readsSum 29 = .ok (.invokevirtual 59, 3) := by decide +kernel
theorem dX6_readsSum_32 : decode cX6_readsSum 32 = .ok (.aload_n 0, 1) := by decide +kernel
theorem dX6_readsSum_33 : decode cX6_readsSum 33 = .ok (.invokevirtual 101, 3) := by decide +kernel
theorem dX6_readsSum_36 : decode cX6_readsSum 36 = .ok (.istore_n 1, 1) := by decide +kernel
theorem dX6_readsSum_37 : decode cX6_readsSum 37 = .ok (.iload_n 1, 1) := by decide +kernel
theorem dX6_readsSum_38 : decode cX6_readsSum 38 = .ok (.iconst (-1), 1) := by decide +kernel
theorem dX6_readsSum_39 : decode cX6_readsSum 39 = .ok (.if_icmp .ne 25, 3) := by decide +kernel
theorem dX6_readsSum_42 : decode cX6_readsSum 42 = .ok (.iload_n 2, 1) := by decide +kernel
theorem dX6_readsSum_43 : decode cX6_readsSum 43 = .ok (.iconst (-1), 1) := by decide +kernel
theorem dX6_readsSum_44 : decode cX6_readsSum 44 = .ok (.if_icmp .eq 8, 3) := by decide +kernel
theorem dX6_readsSum_47 : decode cX6_readsSum 47 = .ok (.aload_n 0, 1) := by decide +kernel
theorem dX6_readsSum_48 : decode cX6_readsSum 48 = .ok (.iload_n 2, 1) := by decide +kernel
theorem dX6_readsSum_49 : decode cX6_readsSum 49 = .ok (.invokevirtual 59, 3) := by decide +kernel
theorem dX6_readsSum_52 : decode cX6_readsSum 52 = .ok (.aload_n 0, 1) := by decide +kernel
theorem dX6_readsSum_53 : decode cX6_readsSum 53 = .ok (.invokevirtual 104, 3) := by decide +kernel
theorem dX6_readsSum_56 : decode cX6_readsSum 56 = .ok (.istore_n 2, 1) := by decide +kernel
theorem dX6_readsSum_57 : decode cX6_readsSum 57 = .ok (.iload_n 2, 1) := by decide +kernel
theorem dX6_readsSum_58 : decode cX6_readsSum 58 = .ok (.iconst (-1), 1) := by decide +kernel
theorem dX6_readsSum_59 : decode cX6_readsSum 59 = .ok (.if_icmp .ne 5, 3) := by decide +kernel
theorem dX6_readsSum_62 : decode cX6_readsSum 62 = .ok (.iconst 1, 1) := by decide +kernel
theorem dX6_readsSum_63 : decode cX6_readsSum 63 = .ok (.ireturn, 1) := by decide +kernel
theorem dX6_readsSum_64 : decode cX6_readsSum 64 = .ok (.aload_n 0, 1) := by decide +kernel
theorem dX6_readsSum_65 : decode cX6_readsSum 65 = .ok (.getfield 15, 3) := by decide +kernel
theorem dX6_readsSum_68 : decode cX6_readsSum 68 = .ok (.invokevirtual 66, 3) := by decide +kernel
theorem dX6_readsSum_71 : decode cX6_readsSum 71 = .ok (.iinc 3 1, 3) := by decide +kernel
theorem dX6_readsSum_74 : decode cX6_readsSum 74 = .ok (.goto (-68), 3) := by decide +kernel
theorem dX6_readsSum_77 : decode cX6_readsSum 77 = .ok (.iconst 0, 1) := by decide +kernel
theorem dX6_readsSum_78 : decode cX6_readsSum 78 = .ok (.ireturn, 1) := by decide +kernel
theorem dX6_comparison_0 : decode cX6_comparison 0 = .ok (.aload_n 0, 1) := by decide +kernel
theorem dX6_comparison_1 : decode cX6_comparison 1 = .ok (.getfield 15, 3) := by decide +kernel
theorem dX6_comparison_4 : decode cX6_comparison 4 = .ok (.getfield 83, 3) := by decide +kernel
theorem dX6_comparison_7 : decode cX6_comparison 7 = .ok (.iconst 1, 1) := by decide +kernel
theorem dX6_comparison_8 : decode cX6_comparison 8 = .ok (.iadd, 1) := by decide +kernel
theorem dX6_comparison_9 : decode cX6_comparison 9 = .ok (.istore_n 1, 1) := by decide +kernel
theorem dX6_comparison_10 : decode cX6_comparison 10 = .ok (.iload_n 1, 1) := by decide +kernel
theorem dX6_comparison_11 : decode cX6_comparison 11 = .ok (.aload_n 0, 1) := by decide +kernel
theorem dX6_comparison_12 : decode cX6_comparison 12 = .ok (.getfield 15, 3) := by decide +kernel
theorem dX6_comparison_15 : decode cX6_comparison 15 = .ok (.getfield 89, 3) := by decide +kernel
theorem dX6_comparison_18 : decode cX6_comparison 18 = .ok (.if_icmp .ge 21, 3) := by decide +kernel
theorem dX6_comparison_21 : decode cX6_comparison 21 = .ok (.aload_n 0, 1) := by decide +kernel
theorem dX6_comparison_22 : decode cX6_comparison 22 = .ok (.getfield 15, 3) := by decide +kernel
theorem dX6_comparison_25 : decode cX6_comparison 25 = .ok (.getfield 92, 3) := by decide +kernel
theorem dX6_comparison_28 : decode cX6_comparison 28 = .ok (.iload_n 1, 1) := by decide +kernel
theorem dX6_comparison_29 : decode cX6_comparison 29 = .ok (.iaload, 1) := by decide +kernel
theorem dX6_comparison_30 : decode cX6_comparison 30 = .ok (.bipush 61, 2) := by decide +kernel
theorem dX6_comparison_32 : decode cX6_comparison 32 = .ok (.if_icmp .ne 7, 3) := by decide +kernel
theorem dX6_comparison_35 : decode cX6_comparison 35 = .ok (.iconst 1, 1) := by decide +kernel
theorem dX6_comparison_36 : decode cX6_comparison 36 = .ok (.goto 4, 3) := by decide +kernel
theorem dX6_comparison_39 : decode cX6_comparison 39 = .ok (.iconst 0, 1) := by decide +kernel
theorem dX6_comparison_40 : decode cX6_comparison 40 = .ok (.istore_n 2, 1) := by decide +kernel
theorem dX6_comparison_41 : decode cX6_comparison 41 = .ok (.aload_n 0, 1) := by decide +kernel
theorem dX6_comparison_42 : decode cX6_comparison 42 = .ok (.getfield 15, 3) := by decide +kernel
theorem dX6_comparison_45 : decode cX6_comparison 45 = .ok (.invokevirtual 63, 3) := by decide +kernel
theorem dX6_comparison_48 : decode cX6_comparison 48 = .ok (.tableswitch 55 60 62 #[28, 40, 43], 28) := by decide +kernel
theorem dX6_comparison_76 : decode cX6_comparison 76 = .ok (.iload_n 2, 1) := by decide +kernel
theorem dX6_comparison_77 : decode cX6_comparison 77 = .ok (.ifCond .eq 8, 3) := by decide +kernel
theorem dX6_comparison_80 : decode cX6_comparison 80 = .ok (.ldc 81, 2) := by decide +kernel
theorem dX6_comparison_82 : decode cX6_comparison 82 = .ok (.goto 5, 3) := by decide +kernel
theorem dX6_comparison_85 : decode cX6_comparison 85 = .ok (.ldc 95, 2) := by decide +kernel
theorem dX6_comparison_87 : decode cX6_comparison 87 = .ok (.ireturn, 1) := by decide +kernel
theorem dX6_comparison_88 : decode cX6_comparison 88 = .ok (.ldc 96, 2) := by decide +kernel
theorem dX6_comparison_90 : decode cX6_comparison 90 = .ok (.ireturn, 1) := by decide +kernel
theorem dX6_comparison_91 : decode cX6_comparison 91 = .ok (.iload_n 2, 1) := by decide +kernel
theorem dX6_comparison_92 : decode cX6_comparison 92 = .ok (.ifCond .eq 8, 3) := by decide +kernel
theorem dX6_comparison_95 : decode cX6_comparison 95 = .ok (.ldc 82, 2) := by decide +kernel
theorem dX6_comparison_97 : decode cX6_comparison 97 = .ok (.goto 5, 3) := by decide +kernel
theorem dX6_comparison_100 : decode cX6_comparison 100 = .ok (.ldc 97, 2) := by decide +kernel
theorem dX6_comparison_102 : decode cX6_comparison 102 = .ok (.ireturn, 1) := by decide +kernel
theorem dX6_comparison_103 : decode cX6_comparison 103 = .ok (.iconst (-1), 1) := by decide +kernel
theorem dX6_comparison_104 : decode cX6_comparison 104 = .ok (.ireturn, 1) := by decide +kernel
theorem dX6_readsComparison_0 : decode cX6_readsComparison 0 = .ok (.aload_n 0, 1) := by decide +kernel
theorem dX6_readsComparison_1 : decode cX6_readsComparison 1 = .ok (.invokevirtual 78, 3) := by decide +kernel
theorem dX6_readsComparison_4 : decode cX6_readsComparison 4 = .ok (.istore_n 1, 1) := by decide +kernel
theorem dX6_readsComparison_5 : decode cX6_readsComparison 5 = .ok (.iload_n 1, 1) := by decide +kernel
theorem dX6_readsComparison_6 : decode cX6_readsComparison 6 = .ok (.iconst (-1), 1) := by decide +kernel
theorem dX6_readsComparison_7 : decode cX6_readsComparison 7 = .ok (.if_icmp .ne 14, 3) := by decide +kernel
theorem dX6_readsComparison_10 : decode cX6_readsComparison 10 = .ok (.aload_n 0, 1) := by decide +kernel
theorem dX6_readsComparison_11 : decode cX6_readsComparison 11 = .ok (.getfield 15, 3) := by decide +kernel
theorem dX6_readsComparison_14 : decode cX6_readsComparison 14 = .ok (.iconst 0, 1) := by decide +kernel
theorem dX6_readsComparison_15 : decode cX6_readsComparison 15 = .ok (.invokevirtual 43, 3) := by decide +kernel
theorem dX6_readsComparison_18 : decode cX6_readsComparison 18 = .ok (.pop, 1) := by decide +kernel
theorem dX6_readsComparison_19 : decode cX6_readsComparison 19 = .ok (.iconst (-1), 1) := by decide +kernel
theorem dX6_readsComparison_20 : decode cX6_readsComparison 20 = .ok (.ireturn, 1) := by decide +kernel
theorem dX6_readsComparison_21 : decode cX6_readsComparison 21 = .ok (.aload_n 0, 1) := by decide +kernel
theorem dX6_readsComparison_22 : decode cX6_readsComparison 22 = .ok (.getfield 34, 3) := by decide +kernel
theorem dX6_readsComparison_25 : decode cX6_readsComparison 25 = .ok (.bipush 60, 2) := by decide +kernel
theorem dX6_readsComparison_27 : decode cX6_readsComparison 27 = .ok (.if_icmp .lt 14, 3) := by decide +kernel
theorem dX6_readsComparison_30 : decode cX6_readsComparison 30 = .ok (.aload_n 0, 1) := by decide +kernel
theorem dX6_readsComparison_31 : decode cX6_readsComparison 31 = .ok (.getfield 15, 3) := by decide +kernel
theorem dX6_readsComparison_34 : decode cX6_readsComparison 34 = .ok (.iconst 3, 1) := by decide +kernel
theorem dX6_readsComparison_35 : decode cX6_readsComparison 35 = .ok (.invokevirtual 43, 3) := by decide +kernel
theorem dX6_readsComparison_38 : decode cX6_readsComparison 38 = .ok (.pop, 1) := by decide +kernel
theorem dX6_readsComparison_39 : decode cX6_readsComparison 39 = .ok (.iconst (-1), 1) := by decide +kernel
theorem dX6_readsComparison_40 : decode cX6_readsComparison 40 = .ok (.ireturn, 1) := by decide +kernel
theorem dX6_readsComparison_41 : decode cX6_readsComparison 41 = .ok (.aload_n 0, 1) := by decide +kernel
theorem dX6_readsComparison_42 : decode cX6_readsComparison 42 = .ok (.dup, 1) := by decide +kernel
theorem dX6_readsComparison_43 : decode cX6_readsComparison 43 = .ok (.getfield 34, 3) := by decide +kernel
theorem dX6_readsComparison_46 : decode cX6_readsComparison 46 = .ok (.iconst 1, 1) := by decide +kernel
theorem dX6_readsComparison_47 : decode cX6_readsComparison 47 = .ok (.iadd, 1) := by decide +kernel
theorem dX6_readsComparison_48 : decode cX6_readsComparison 48 = .ok (.putfield 34, 3) := by decide +kernel
theorem dX6_readsComparison_51 : decode cX6_readsComparison 51 = .ok (.iload_n 1, 1) := by decide +kernel
theorem dX6_readsComparison_52 : decode cX6_readsComparison 52 = .ok (.ldc 81, 2) := by decide +kernel
theorem dX6_readsComparison_54 : decode cX6_readsComparison 54 = .ok (.if_icmp .eq 9, 3) := by decide +kernel
theorem dX6_readsComparison_57 : decode cX6_readsComparison 57 = .ok (.iload_n 1, 1) := by decide +kernel
theorem dX6_readsComparison_58 : decode cX6_readsComparison 58 = .ok (.ldc 82, 2) := by decide +kernel
theorem dX6_readsComparison_60 : decode cX6_readsComparison 60 = .ok (.if_icmp .ne 7, 3) := by decide +kernel
theorem dX6_readsComparison_63 : decode cX6_readsComparison 63 = .ok (.iconst 1, 1) := by decide +kernel
theorem dX6_readsComparison_64 : decode cX6_readsComparison 64 = .ok (.goto 4, 3) := by decide +kernel
theorem dX6_readsComparison_67 : decode cX6_readsComparison 67 = .ok (.iconst 0, 1) := by decide +kernel
theorem dX6_readsComparison_68 : decode cX6_readsComparison 68 = .ok (.istore_n 2, 1) := by decide +kernel
theorem dX6_readsComparison_69 : decode cX6_readsComparison 69 = .ok (.aload_n 0, 1) := by decide +kernel
theorem dX6_readsComparison_70 : decode cX6_readsComparison 70 = .ok (.getfield 15, 3) := by decide +kernel
theorem dX6_readsComparison_73 : decode cX6_readsComparison 73 = .ok (.aload_n 0, 1) := by decide +kernel
theorem dX6_readsComparison_74 : decode cX6_readsComparison 74 = .ok (.getfield 15, 3) := by decide +kernel
theorem dX6_readsComparison_77 : decode cX6_readsComparison 77 = .ok (.getfield 83, 3) := by decide +kernel
theorem dX6_readsComparison_80 : decode cX6_readsComparison 80 = .ok (.iload_n 2, 1) := by decide +kernel
theorem dX6_readsComparison_81 : decode cX6_readsComparison 81 = .ok (.ifCond .eq 7, 3) := by decide +kernel
theorem dX6_readsComparison_84 : decode cX6_readsComparison 84 = .ok (.iconst 2, 1) := by decide +kernel
theorem dX6_readsComparison_85 : decode cX6_readsComparison 85 = .ok (.goto 4, 3) := by decide +kernel
theorem dX6_readsComparison_88 : decode cX6_readsComparison 88 = .ok (.iconst 1, 1) := by decide +kernel
theorem dX6_readsComparison_89 : decode cX6_readsComparison 89 = .ok (.iadd, 1) := by decide +kernel
theorem dX6_readsComparison_90 : decode cX6_readsComparison 90 = .ok (.invokevirtual 86, 3) := by decide +kernel
theorem dX6_readsComparison_93 : decode cX6_readsComparison 93 = .ok (.iload_n 1, 1) := by decide +kernel
theorem dX6_readsComparison_94 : decode cX6_readsComparison 94 = .ok (.ireturn, 1) := by decide +kernel
theorem dX8_factsAllow_0 : decode cX8_factsAllow 0 = .ok (.iconst 0, 1) := by decide +kernel
theorem dX8_factsAllow_1 : decode cX8_factsAllow 1 = .ok (.istore 6, 2) := by decide +kernel
theorem dX8_factsAllow_3 : decode cX8_factsAllow 3 = .ok (.iload 6, 2) := by decide +kernel
theorem dX8_factsAllow_5 : decode cX8_factsAllow 5 = .ok (.aload_n 0, 1) := by decide +kernel
theorem dX8_factsAllow_6 : decode cX8_factsAllow 6 = .ok (.getfield 46, 3) := by decide +kernel
theorem dX8_factsAllow_9 : decode cX8_factsAllow 9 = .ok (.if_icmp .ge 118, 3) := by decide +kernel
theorem dX8_factsAllow_12 : decode cX8_factsAllow 12 = .ok (.aload_n 0, 1) := by decide +kernel
theorem dX8_factsAllow_13 : decode cX8_factsAllow 13 = .ok (.getfield 25, 3) := by decide +kernel
theorem dX8_factsAllow_16 : decode cX8_factsAllow 16 = .ok (.iload 6, 2) := by decide +kernel
theorem dX8_factsAllow_18 : decode cX8_factsAllow 18 = .ok (.iaload, 1) := by decide +kernel
theorem dX8_factsAllow_19 : decode cX8_factsAllow 19 = .ok (.iload_n 1, 1) := by decide +kernel
theorem dX8_factsAllow_20 : decode cX8_factsAllow 20 = .ok (.if_icmp .ne 101, 3) := by decide +kernel
theorem dX8_factsAllow_23 : decode cX8_factsAllow 23 = .ok (.aload_n 0, 1) := by decide +kernel
theorem dX8_factsAllow_24 : decode cX8_factsAllow 24 = .ok (.getfield 29, 3) := by decide +kernel
theorem dX8_factsAllow_27 : decode cX8_factsAllow 27 = .ok (.iload 6, 2) := by decide +kernel
theorem dX8_factsAllow_29 : decode cX8_factsAllow 29 = .ok (.iaload, 1) := by decide +kernel
theorem dX8_factsAllow_30 : decode cX8_factsAllow 30 = .ok (.iconst 1, 1) := by decide +kernel
theorem dX8_factsAllow_31 : decode cX8_factsAllow 31 = .ok (.ishr, 1) := by decide +kernel
theorem dX8_factsAllow_32 : decode cX8_factsAllow 32 = .ok (.istore 7, 2) := by decide +kernel
theorem dX8_factsAllow_34 : decode cX8_factsAllow 34 = .ok (.iload 7, 2) := by decide +kernel
theorem dX8_factsAllow_36 : decode cX8_factsAllow 36 = .ok (.ifCond .ne 7, 3) := by decide +kernel
theorem dX8_factsAllow_39 : decode cX8_factsAllow 39 = .ok (.iload_n 2, 1) := by decide +kernel
theorem dX8_factsAllow_40 : decode cX8_factsAllow 40 = .ok (.goto 26, 3) := by decide +kernel
theorem dX8_factsAllow_43 : decode cX8_factsAllow 43 = .ok (.iload 7, 2) := by decide +kernel
theorem dX8_factsAllow_45 : decode cX8_factsAllow 45 = .ok (.iconst 1, 1) := by decide +kernel
theorem dX8_factsAllow_46 : decode cX8_factsAllow 46 = .ok (.if_icmp .ne 7, 3) := by decide +kernel
theorem dX8_factsAllow_49 : decode cX8_factsAllow 49 = .ok (.iload_n 3, 1) := by decide +kernel
theorem dX8_factsAllow_50 : decode cX8_factsAllow 50 = .ok (.goto 16, 3) := by decide +kernel
theorem dX8_factsAllow_53 : decode cX8_factsAllow 53 = .ok (.iload 7, 2) := by decide +kernel
theorem dX8_factsAllow_55 : decode cX8_factsAllow 55 = .ok (.iconst 2, 1) := by decide +kernel
theorem dX8_factsAllow_56 : decode cX8_factsAllow 56 = .ok (.if_icmp .ne 8, 3) := by decide +kernel
theorem dX8_factsAllow_59 : decode cX8_factsAllow 59 = .ok (.iload 4, 2) := by decide +kernel
theorem dX8_factsAllow_61 : decode cX8_factsAllow 61 = .ok (.goto 5, 3) := by decide +kernel
theorem dX8_factsAllow_64 : decode cX8_factsAllow 64 = .ok (.iload 5, 2) := by decide +kernel
theorem dX8_factsAllow_66 : decode cX8_factsAllow 66 = .ok (.istore 8, 2) := by decide +kernel
theorem dX8_factsAllow_68 : decode cX8_factsAllow 68 = .ok (.aload_n 0, 1) := by decide +kernel
theorem dX8_factsAllow_69 : decode cX8_factsAllow 69 = .ok (.getfield 29, 3) := by decide +kernel
theorem dX8_factsAllow_72 : decode cX8_factsAllow 72 = .ok (.iload 6, 2) := by decide +kernel
theorem dX8_factsAllow_74 : decode cX8_factsAllow 74 = .ok (.iaload, 1) := by decide +kernel
theorem dX8_factsAllow_75 : decode cX8_factsAllow 75 = .ok (.iconst 1, 1) := by decide +kernel
theorem dX8_factsAllow_76 : decode cX8_factsAllow 76 = .ok (.iand, 1) := by decide +kernel
theorem dX8_factsAllow_77 : decode cX8_factsAllow 77 = .ok (.ifCond .ne 7, 3) := by decide +kernel
theorem dX8_factsAllow_80 : decode cX8_factsAllow 80 = .ok (.iconst 1, 1) := by decide +kernel
theorem dX8_factsAllow_81 : decode cX8_factsAllow 81 = .ok (.goto 4, 3) := by decide +kernel
theorem dX8_factsAllow_84 : decode cX8_factsAllow 84 = .ok (.iconst 0, 1) := by decide +kernel
theorem dX8_factsAllow_85 : decode cX8_factsAllow 85 = .ok (.istore 9, 2) := by decide +kernel
theorem dX8_factsAllow_87 : decode cX8_factsAllow 87 = .ok (.iload 9, 2) := by decide +kernel
theorem dX8_factsAllow_89 : decode cX8_factsAllow 89 = .ok (.ifCond .eq 18, 3) := by decide +kernel
theorem dX8_factsAllow_92 : decode cX8_factsAllow 92 = .ok (.iload 8, 2) := by decide +kernel
theorem dX8_factsAllow_94 : decode cX8_factsAllow 94 = .ok (.aload_n 0, 1) := by decide +kernel
theorem dX8_factsAllow_95 : decode cX8_factsAllow 95 = .ok (.getfield 32, 3) := by decide +kernel
theorem dX8_factsAllow_98 : decode cX8_factsAllow 98 = .ok (.iload 6, 2) := by decide +kernel
theorem dX8_factsAllow_100 : decode cX8_factsAllow 100 = .ok (.iaload, 1) := by decide +kernel
theorem dX8_factsAllow_101 : decode cX8_factsAllow 101 = .ok (.if_icmp .ge 20, 3) := by decide +kernel
theorem dX8_factsAllow_104 : decode cX8_factsAllow 104 = .ok (.goto 15, 3) := by decide +kernel
theorem dX8_factsAllow_107 : decode cX8_factsAllow 107 = .ok (.iload 8, 2) := by decide +kernel
theorem dX8_factsAllow_109 : decode cX8_factsAllow 109 = .ok (.aload_n 0, 1) := by decide +kernel
theorem dX8_factsAllow_110 : decode cX8_factsAllow 110 = .ok (.getfield 32, 3) := by decide +kernel
theorem dX8_factsAllow_113 : decode cX8_factsAllow 113 = .ok (.iload 6, 2) := by decide +kernel
theorem dX8_factsAllow_115 : decode cX8_factsAllow 115 = .ok (.iaload, 1) := by decide +kernel
theorem dX8_factsAllow_116 : decode cX8_factsAllow 116 = .ok (.if_icmp .le 5, 3) := by decide +kernel
theorem dX8_factsAllow_119 : decode cX8_factsAllow 119 = .ok (.iconst 0, 1) := by decide +kernel
theorem dX8_factsAllow_120 : decode cX8_factsAllow 120 = .ok (.ireturn, 1) := by decide +kernel
theorem dX8_factsAllow_121 : decode cX8_factsAllow 121 = .ok (.iinc 6 1, 3) := by decide +kernel
theorem dX8_factsAllow_124 : decode cX8_factsAllow 124 = .ok (.goto (-121), 3) := by decide +kernel
theorem dX8_factsAllow_127 : decode cX8_factsAllow 127 = .ok (.iconst 1, 1) := by decide +kernel
theorem dX8_factsAllow_128 : decode cX8_factsAllow 128 = .ok (.ireturn, 1) := by decide +kernel
theorem dX7_weigh_0 : decode cX7_weigh 0 = .ok (.aload_n 0, 1) := by decide +kernel
theorem dX7_weigh_1 : decode cX7_weigh 1 = .ok (.getfield 21, 3) := by decide +kernel
theorem dX7_weigh_4 : decode cX7_weigh 4 = .ok (.getfield 50, 3) := by decide +kernel
theorem dX7_weigh_7 : decode cX7_weigh 7 = .ok (.astore 4, 2) := by decide +kernel
theorem dX7_weigh_9 : decode cX7_weigh 9 = .ok (.aload_n 0, 1) := by decide +kernel
theorem dX7_weigh_10 : decode cX7_weigh 10 = .ok (.getfield 21, 3) := by decide +kernel
theorem dX7_weigh_13 : decode cX7_weigh 13 = .ok (.iload_n 2, 1) := by decide +kernel
theorem dX7_weigh_14 : decode cX7_weigh 14 = .ok (.iload_n 3, 1) := by decide +kernel
theorem dX7_weigh_15 : decode cX7_weigh 15 = .ok (.iconst 0, 1) := by decide +kernel
theorem dX7_weigh_16 : decode cX7_weigh 16 = .ok (.invokevirtual 73, 3) := by decide +kernel
theorem dX7_weigh_19 : decode cX7_weigh 19 = .ok (.istore 5, 2) := by decide +kernel
theorem dX7_weigh_21 : decode cX7_weigh 21 = .ok (.aload 4, 2) := by decide +kernel
theorem dX7_weigh_23 : decode cX7_weigh 23 = .ok (.iload_n 1, 1) := by decide +kernel
theorem dX7_weigh_24 : decode cX7_weigh 24 = .ok (.aload 4, 2) := by decide +kernel
theorem dX7_weigh_26 : decode cX7_weigh 26 = .ok (.getfield 54, 3) := by decide +kernel
theorem dX7_weigh_29 : decode cX7_weigh 29 = .ok (.getfield 77, 3) := by decide +kernel
theorem dX7_weigh_32 : decode cX7_weigh 32 = .ok (.iload_n 2, 1) := by decide +kernel
theorem dX7_weigh_33 : decode cX7_weigh 33 = .ok (.iaload, 1) := by decide +kernel
theorem dX7_weigh_34 : decode cX7_weigh 34 = .ok (.iload_n 3, 1) := by decide +kernel
theorem dX7_weigh_35 : decode cX7_weigh 35 = .ok (.iadd, 1) := by decide +kernel
theorem dX7_weigh_36 : decode cX7_weigh 36 = .ok (.aload 4, 2) := by decide +kernel
theorem dX7_weigh_38 : decode cX7_weigh 38 = .ok (.getfield 80, 3) := by decide +kernel
theorem dX7_weigh_41 : decode cX7_weigh 41 = .ok (.getfield 84, 3) := by decide +kernel
theorem dX7_weigh_44 : decode cX7_weigh 44 = .ok (.iload_n 2, 1) := by decide +kernel
theorem dX7_weigh_45 : decode cX7_weigh 45 = .ok (.iaload, 1) := by decide +kernel
theorem dX7_weigh_46 : decode cX7_weigh 46 = .ok (.iload_n 3, 1) := by decide +kernel
theorem dX7_weigh_47 : decode cX7_weigh 47 = .ok (.iload 5, 2) := by decide +kernel
theorem dX7_weigh_49 : decode cX7_weigh 49 = .ok (.invokevirtual 89, 3) := by decide +kernel
theorem dX7_weigh_52 : decode cX7_weigh 52 = .ok (.ifCond .ne 4, 3) := by decide +kernel
theorem dX7_weigh_55 : decode cX7_weigh 55 = .ok (.return_, 1) := by decide +kernel
theorem dX7_weigh_56 : decode cX7_weigh 56 = .ok (.aload_n 0, 1) := by decide +kernel
theorem dX7_weigh_57 : decode cX7_weigh 57 = .ok (.getfield 25, 3) := by decide +kernel
theorem dX7_weigh_60 : decode cX7_weigh 60 = .ok (.ifCond .ne 13, 3) := by decide +kernel
theorem dX7_weigh_63 : decode cX7_weigh 63 = .ok (.aload_n 0, 1) := by decide +kernel
theorem dX7_weigh_64 : decode cX7_weigh 64 = .ok (.iload_n 2, 1) := by decide +kernel
theorem dX7_weigh_65 : decode cX7_weigh 65 = .ok (.putfield 29, 3) := by decide +kernel
theorem dX7_weigh_68 : decode cX7_weigh 68 = .ok (.aload_n 0, 1) := by decide +kernel
theorem dX7_weigh_69 : decode cX7_weigh 69 = .ok (.iload_n 3, 1) := by decide +kernel
theorem dX7_weigh_70 : decode cX7_weigh 70 = .ok (.putfield 32, 3) := by decide +kernel
theorem dX7_weigh_73 : decode cX7_weigh 73 = .ok (.aload_n 0, 1) := by decide +kernel
theorem dX7_weigh_74 : decode cX7_weigh 74 = .ok (.dup, 1) := by decide +kernel
theorem dX7_weigh_75 : decode cX7_weigh 75 = .ok (.getfield 25, 3) := by decide +kernel
theorem dX7_weigh_78 : decode cX7_weigh 78 = .ok (.iconst 1, 1) := by decide +kernel
theorem dX7_weigh_79 : decode cX7_weigh 79 = .ok (.iadd, 1) := by decide +kernel
theorem dX7_weigh_80 : decode cX7_weigh 80 = .ok (.putfield 25, 3) := by decide +kernel
theorem dX7_weigh_83 : decode cX7_weigh 83 = .ok (.aload_n 0, 1) := by decide +kernel
theorem dX7_weigh_84 : decode cX7_weigh 84 = .ok (.dup, 1) := by decide +kernel
theorem dX7_weigh_85 : decode cX7_weigh 85 = .ok (.getfield 35, 3) := by decide +kernel
theorem dX7_weigh_88 : decode cX7_weigh 88 = .ok (.iconst 1, 1) := by decide +kernel
theorem dX7_weigh_89 : decode cX7_weigh 89 = .ok (.iload_n 2, 1) := by decide +kernel
theorem dX7_weigh_90 : decode cX7_weigh 90 = .ok (.ishl, 1) := by decide +kernel
theorem dX7_weigh_91 : decode cX7_weigh 91 = .ok (.ior, 1) := by decide +kernel
theorem dX7_weigh_92 : decode cX7_weigh 92 = .ok (.putfield 35, 3) := by decide +kernel
theorem dX7_weigh_95 : decode cX7_weigh 95 = .ok (.aload_n 0, 1) := by decide +kernel
theorem dX7_weigh_96 : decode cX7_weigh 96 = .ok (.getfield 9, 3) := by decide +kernel
theorem dX7_weigh_99 : decode cX7_weigh 99 = .ok (.iload_n 2, 1) := by decide +kernel
theorem dX7_weigh_100 : decode cX7_weigh 100 = .ok (.dup2, 1) := by decide +kernel
theorem dX7_weigh_101 : decode cX7_weigh 101 = .ok (.iaload, 1) := by decide +kernel
theorem dX7_weigh_102 : decode cX7_weigh 102 = .ok (.iconst 1, 1) := by decide +kernel
theorem dX7_weigh_103 : decode cX7_weigh 103 = .ok (.iadd, 1) := by decide +kernel
theorem dX7_weigh_104 : decode cX7_weigh 104 = .ok (.iastore, 1) := by decide +kernel
theorem dX7_weigh_105 : decode cX7_weigh 105 = .ok (.aload_n 0, 1) := by decide +kernel
theorem dX7_weigh_106 : decode cX7_weigh 106 = .ok (.getfield 15, 3) := by decide +kernel
theorem dX7_weigh_109 : decode cX7_weigh 109 = .ok (.iload_n 3, 1) := by decide +kernel
theorem dX7_weigh_110 : decode cX7_weigh 110 = .ok (.dup2, 1) := by decide +kernel
theorem dX7_weigh_111 : decode cX7_weigh 111 = .ok (.iaload, 1) := by decide +kernel
theorem dX7_weigh_112 : decode cX7_weigh 112 = .ok (.iconst 1, 1) := by decide +kernel
theorem dX7_weigh_113 : decode cX7_weigh 113 = .ok (.iadd, 1) := by decide +kernel
theorem dX7_weigh_114 : decode cX7_weigh 114 = .ok (.iastore, 1) := by decide +kernel
theorem dX7_weigh_115 : decode cX7_weigh 115 = .ok (.aload_n 0, 1) := by decide +kernel
theorem dX7_weigh_116 : decode cX7_weigh 116 = .ok (.getfield 18, 3) := by decide +kernel
theorem dX7_weigh_119 : decode cX7_weigh 119 = .ok (.iload 5, 2) := by decide +kernel
theorem dX7_weigh_121 : decode cX7_weigh 121 = .ok (.dup2, 1) := by decide +kernel
theorem dX7_weigh_122 : decode cX7_weigh 122 = .ok (.iaload, 1) := by decide +kernel
theorem dX7_weigh_123 : decode cX7_weigh 123 = .ok (.iconst 1, 1) := by decide +kernel
theorem dX7_weigh_124 : decode cX7_weigh 124 = .ok (.iadd, 1) := by decide +kernel
theorem dX7_weigh_125 : decode cX7_weigh 125 = .ok (.iastore, 1) := by decide +kernel
theorem dX7_weigh_126 : decode cX7_weigh 126 = .ok (.return_, 1) := by decide +kernel
theorem dX7_sift_0 : decode cX7_sift 0 = .ok (.aload_n 0, 1) := by decide +kernel
theorem dX7_sift_1 : decode cX7_sift 1 = .ok (.iconst 0, 1) := by decide +kernel
theorem dX7_sift_2 : decode cX7_sift 2 = .ok (.putfield 25, 3) := by decide +kernel
theorem dX7_sift_5 : decode cX7_sift 5 = .ok (.aload_n 0, 1) := by decide +kernel
theorem dX7_sift_6 : decode cX7_sift 6 = .ok (.bipush (-2), 2) := by decide +kernel
theorem dX7_sift_8 : decode cX7_sift 8 = .ok (.putfield 29, 3) := by decide +kernel
theorem dX7_sift_11 : decode cX7_sift 11 = .ok (.aload_n 0, 1) := by decide +kernel
theorem dX7_sift_12 : decode cX7_sift 12 = .ok (.bipush (-2), 2) := by decide +kernel
theorem dX7_sift_14 : decode cX7_sift 14 = .ok (.putfield 32, 3) := by decide +kernel
theorem dX7_sift_17 : decode cX7_sift 17 = .ok (.aload_n 0, 1) := by decide +kernel
theorem dX7_sift_18 : decode cX7_sift 18 = .ok (.iconst 0, 1) := by decide +kernel
theorem dX7_sift_19 : decode cX7_sift 19 = .ok (.putfield 35, 3) := by decide +kernel
theorem dX7_sift_22 : decode cX7_sift 22 = .ok (.aload_n 0, 1) := by decide +kernel
theorem dX7_sift_23 : decode cX7_sift 23 = .ok (.getfield 9, 3) := by decide +kernel
theorem dX7_sift_26 : decode cX7_sift 26 = .ok (.iconst 0, 1) := by decide +kernel
theorem dX7_sift_27 : decode cX7_sift 27 = .ok (.invokestatic 38, 3) := by decide +kernel
theorem dX7_sift_30 : decode cX7_sift 30 = .ok (.aload_n 0, 1) := by decide +kernel
theorem dX7_sift_31 : decode cX7_sift 31 = .ok (.getfield 15, 3) := by decide +kernel
theorem dX7_sift_34 : decode cX7_sift 34 = .ok (.iconst 0, 1) := by decide +kernel
theorem dX7_sift_35 : decode cX7_sift 35 = .ok (.invokestatic 38, 3) := by decide +kernel
theorem dX7_sift_38 : decode cX7_sift 38 = .ok (.aload_n 0, 1) := by decide +kernel
theorem dX7_sift_39 : decode cX7_sift 39 = .ok (.getfield 18, 3) := by decide +kernel
theorem dX7_sift_42 : decode cX7_sift 42 = .ok (.iconst 0, 1) := by decide +kernel
theorem dX7_sift_43 : decode cX7_sift 43 = .ok (.invokestatic 38, 3) := by decide +kernel
theorem dX7_sift_46 : decode cX7_sift 46 = .ok (.aload_n 0, 1) := by decide +kernel
theorem dX7_sift_47 : decode cX7_sift 47 = .ok (.getfield 21, 3) := by decide +kernel
theorem dX7_sift_50 : decode cX7_sift 50 = .ok (.iload_n 1, 1) := by decide +kernel
theorem dX7_sift_51 : decode cX7_sift 51 = .ok (.iconst 0, 1) := by decide +kernel
theorem dX7_sift_52 : decode cX7_sift 52 = .ok (.invokevirtual 44, 3) := by decide +kernel
theorem dX7_sift_55 : decode cX7_sift 55 = .ok (.iconst 0, 1) := by decide +kernel
theorem dX7_sift_56 : decode cX7_sift 56 = .ok (.istore_n 2, 1) := by decide +kernel
theorem dX7_sift_57 : decode cX7_sift 57 = .ok (.iload_n 2, 1) := by decide +kernel
theorem dX7_sift_58 : decode cX7_sift 58 = .ok (.aload_n 0, 1) := by decide +kernel
theorem dX7_sift_59 : decode cX7_sift 59 = .ok (.getfield 21, 3) := by decide +kernel
theorem dX7_sift_62 : decode cX7_sift 62 = .ok (.getfield 50, 3) := by decide +kernel
theorem dX7_sift_65 : decode cX7_sift 65 = .ok (.getfield 54, 3) := by decide +kernel
theorem dX7_sift_68 : decode cX7_sift 68 = .ok (.getfield 60, 3) := by decide +kernel
theorem dX7_sift_71 : decode cX7_sift 71 = .ok (.if_icmp .ge 43, 3) := by decide +kernel
theorem dX7_sift_74 : decode cX7_sift 74 = .ok (.iconst 0, 1) := by decide +kernel
theorem dX7_sift_75 : decode cX7_sift 75 = .ok (.istore_n 3, 1) := by decide +kernel
theorem dX7_sift_76 : decode cX7_sift 76 = .ok (.iload_n 3, 1) := by decide +kernel
theorem dX7_sift_77 : decode cX7_sift 77 = .ok (.bipush 61, 2) := by decide +kernel
theorem dX7_sift_79 : decode cX7_sift 79 = .ok (.if_icmp .ge 29, 3) := by decide +kernel
theorem dX7_sift_82 : decode cX7_sift 82 = .ok (.aload_n 0, 1) := by decide +kernel
theorem dX7_sift_83 : decode cX7_sift 83 = .ok (.getfield 21, 3) := by decide +kernel
theorem dX7_sift_86 : decode cX7_sift 86 = .ok (.iload_n 1, 1) := by decide +kernel
theorem dX7_sift_87 : decode cX7_sift 87 = .ok (.iload_n 2, 1) := by decide +kernel
theorem dX7_sift_88 : decode cX7_sift 88 = .ok (.iload_n 3, 1) := by decide +kernel
theorem dX7_sift_89 : decode cX7_sift 89 = .ok (.invokevirtual 65, 3) := by decide +kernel
theorem dX7_sift_92 : decode cX7_sift 92 = .ok (.ifCond .eq 10, 3) := by decide +kernel
theorem dX7_sift_95 : decode cX7_sift 95 = .ok (.aload_n 0, 1) := by decide +kernel
theorem dX7_sift_96 : decode cX7_sift 96 = .ok (.iload_n 1, 1) := by decide +kernel
theorem dX7_sift_97 : decode cX7_sift 97 = .ok (.iload_n 2, 1) := by decide +kernel
theorem dX7_sift_98 : decode cX7_sift 98 = .ok (.iload_n 3, 1) := by decide +kernel
theorem dX7_sift_99 : decode cX7_sift 99 = .ok (.invokevirtual 69, 3) := by decide +kernel
theorem dX7_sift_102 : decode cX7_sift 102 = .ok (.iinc 3 1, 3) := by decide +kernel
theorem dX7_sift_105 : decode cX7_sift 105 = .ok (.goto (-29), 3) := by decide +kernel
theorem dX7_sift_108 : decode cX7_sift 108 = .ok (.iinc 2 1, 3) := by decide +kernel
theorem dX7_sift_111 : decode cX7_sift 111 = .ok (.goto (-54), 3) := by decide +kernel
theorem dX7_sift_114 : decode cX7_sift 114 = .ok (.return_, 1) := by decide +kernel
theorem dX7_most_0 : decode cX7_most 0 = .ok (.iconst 0, 1) := by decide +kernel
theorem dX7_most_1 : decode cX7_most 1 = .ok (.istore_n 1, 1) := by decide +kernel
theorem dX7_most_2 : decode cX7_most 2 = .ok (.iconst 0, 1) := by decide +kernel
theorem dX7_most_3 : decode cX7_most 3 = .ok (.istore_n 2, 1) := by decide +kernel
theorem dX7_most_4 : decode cX7_most 4 = .ok (.iload_n 2, 1) := by decide +kernel
theorem dX7_most_5 : decode cX7_most 5 = .ok (.aload_n 0, 1) := by decide +kernel
theorem dX7_most_6 : decode cX7_most 6 = .ok (.arraylength, 1) := by decide +kernel
theorem dX7_most_7 : decode cX7_most 7 = .ok (.if_icmp .ge 17, 3) := by decide +kernel
theorem dX7_most_10 : decode cX7_most 10 = .ok (.iload_n 1, 1) := by decide +kernel
theorem dX7_most_11 : decode cX7_most 11 = .ok (.aload_n 0, 1) := by decide +kernel
theorem dX7_most_12 : decode cX7_most 12 = .ok (.iload_n 2, 1) := by decide +kernel
theorem dX7_most_13 : decode cX7_most 13 = .ok (.iaload, 1) := by decide +kernel
theorem dX7_most_14 : decode cX7_most 14 = .ok (.invokestatic 97, 3) := by decide +kernel
theorem dX7_most_17 : decode cX7_most 17 = .ok (.istore_n 1, 1) := by decide +kernel
theorem dX7_most_18 : decode cX7_most 18 = .ok (.iinc 2 1, 3) := by decide +kernel
theorem dX7_most_21 : decode cX7_most 21 = .ok (.goto (-17), 3) := by decide +kernel
theorem dX7_most_24 : decode cX7_most 24 = .ok (.iload_n 1, 1) := by decide +kernel
theorem dX7_most_25 : decode cX7_most 25 = .ok (.ireturn, 1) := by decide +kernel
theorem dX7_part_0 : decode cX7_part 0 = .ok (.aload_n 0, 1) := by decide +kernel
theorem dX7_part_1 : decode cX7_part 1 = .ok (.getfield 25, 3) := by decide +kernel
theorem dX7_part_4 : decode cX7_part 4 = .ok (.ifCond .ne 6, 3) := by decide +kernel
theorem dX7_part_7 : decode cX7_part 7 = .ok (.bipush (-2), 2) := by decide +kernel
theorem dX7_part_9 : decode cX7_part 9 = .ok (.ireturn, 1) := by decide +kernel
theorem dX7_part_10 : decode cX7_part 10 = .ok (.iconst 0, 1) := by decide +kernel
theorem dX7_part_11 : decode cX7_part 11 = .ok (.istore_n 2, 1) := by decide +kernel
theorem dX7_part_12 : decode cX7_part 12 = .ok (.aload_n 0, 1) := by decide +kernel
theorem dX7_part_13 : decode cX7_part 13 = .ok (.getfield 9, 3) := by decide +kernel
theorem dX7_part_16 : decode cX7_part 16 = .ok (.invokestatic 93, 3) := by decide +kernel
theorem dX7_part_19 : decode cX7_part 19 = .ok (.istore_n 3, 1) := by decide +kernel
theorem dX7_part_20 : decode cX7_part 20 = .ok (.aload_n 0, 1) := by decide +kernel
theorem dX7_part_21 : decode cX7_part 21 = .ok (.getfield 15, 3) := by decide +kernel
theorem dX7_part_24 : decode cX7_part 24 = .ok (.invokestatic 93, 3) := by decide +kernel
theorem dX7_part_27 : decode cX7_part 27 = .ok (.iload_n 3, 1) := by decide +kernel
theorem dX7_part_28 : decode cX7_part 28 = .ok (.if_icmp .ge 13, 3) := by decide +kernel
theorem dX7_part_31 : decode cX7_part 31 = .ok (.iconst 1, 1) := by decide +kernel
theorem dX7_part_32 : decode cX7_part 32 = .ok (.istore_n 2, 1) := by decide +kernel
theorem dX7_part_33 : decode cX7_part 33 = .ok (.aload_n 0, 1) := by decide +kernel
theorem dX7_part_34 : decode cX7_part 34 = .ok (.getfield 15, 3) := by decide +kernel
theorem dX7_part_37 : decode cX7_part 37 = .ok (.invokestatic 93, 3) := by decide +kernel
theorem dX7_part_40 : decode cX7_part 40 = .ok (.istore_n 3, 1) := by decide +kernel
theorem dX7_part_41 : decode cX7_part 41 = .ok (.aload_n 0, 1) := by decide +kernel
theorem dX7_part_42 : decode cX7_part 42 = .ok (.getfield 18, 3) := by decide +kernel
theorem dX7_part_45 : decode cX7_part 45 = .ok (.invokestatic 93, 3) := by decide +kernel
theorem dX7_part_48 : decode cX7_part 48 = .ok (.iload_n 3, 1) := by decide +kernel
theorem dX7_part_49 : decode cX7_part 49 = .ok (.if_icmp .ge 13, 3) := by decide +kernel
theorem dX7_part_52 : decode cX7_part 52 = .ok (.iconst 2, 1) := by decide +kernel
theorem dX7_part_53 : decode cX7_part 53 = .ok (.istore_n 2, 1) := by decide +kernel
theorem dX7_part_54 : decode cX7_part 54 = .ok (.aload_n 0, 1) := by decide +kernel
theorem dX7_part_55 : decode cX7_part 55 = .ok (.getfield 18, 3) := by decide +kernel
theorem dX7_part_58 : decode cX7_part 58 = .ok (.invokestatic 93, 3) := by decide +kernel
theorem dX7_part_61 : decode cX7_part 61 = .ok (.istore_n 3, 1) := by decide +kernel
theorem dX7_part_62 : decode cX7_part 62 = .ok (.iload_n 1, 1) := by decide +kernel
theorem dX7_part_63 : decode cX7_part 63 = .ok (.ifCond .eq 7, 3) := by decide +kernel
theorem dX7_part_66 : decode cX7_part 66 = .ok (.iload_n 2, 1) := by decide +kernel
theorem dX7_part_67 : decode cX7_part 67 = .ok (.goto 4, 3) := by decide +kernel
theorem dX7_part_70 : decode cX7_part 70 = .ok (.iload_n 3, 1) := by decide +kernel
theorem dX7_part_71 : decode cX7_part 71 = .ok (.ireturn, 1) := by decide +kernel
theorem dX9_copy_0 : decode cX9_copy 0 = .ok (.aload_n 0, 1) := by decide +kernel
theorem dX9_copy_1 : decode cX9_copy 1 = .ok (.aload_n 1, 1) := by decide +kernel
theorem dX9_copy_2 : decode cX9_copy 2 = .ok (.getfield 36, 3) := by decide +kernel
theorem dX9_copy_5 : decode cX9_copy 5 = .ok (.putfield 36, 3) := by decide +kernel
theorem dX9_copy_8 : decode cX9_copy 8 = .ok (.aload_n 0, 1) := by decide +kernel
theorem dX9_copy_9 : decode cX9_copy 9 = .ok (.aload_n 1, 1) := by decide +kernel
theorem dX9_copy_10 : decode cX9_copy 10 = .ok (.getfield 40, 3) := by decide +kernel
theorem dX9_copy_13 : decode cX9_copy 13 = .ok (.putfield 40, 3) := by decide +kernel
theorem dX9_copy_16 : decode cX9_copy 16 = .ok (.aload_n 0, 1) := by decide +kernel
theorem dX9_copy_17 : decode cX9_copy 17 = .ok (.aload_n 1, 1) := by decide +kernel
theorem dX9_copy_18 : decode cX9_copy 18 = .ok (.getfield 44, 3) := by decide +kernel
theorem dX9_copy_21 : decode cX9_copy 21 = .ok (.putfield 44, 3) := by decide +kernel
theorem dX9_copy_24 : decode cX9_copy 24 = .ok (.aload_n 0, 1) := by decide +kernel
theorem dX9_copy_25 : decode cX9_copy 25 = .ok (.aload_n 1, 1) := by decide +kernel
theorem dX9_copy_26 : decode cX9_copy 26 = .ok (.getfield 47, 3) := by decide +kernel
theorem dX9_copy_29 : decode cX9_copy 29 = .ok (.putfield 47, 3) := by decide +kernel
theorem dX9_copy_32 : decode cX9_copy 32 = .ok (.aload_n 0, 1) := by decide +kernel
theorem dX9_copy_33 : decode cX9_copy 33 = .ok (.aload_n 1, 1) := by decide +kernel
theorem dX9_copy_34 : decode cX9_copy 34 = .ok (.getfield 50, 3) := by decide +kernel
theorem dX9_copy_37 : decode cX9_copy 37 = .ok (.putfield 50, 3) := by decide +kernel
theorem dX9_copy_40 : decode cX9_copy 40 = .ok (.aload_n 0, 1) := by decide +kernel
theorem dX9_copy_41 : decode cX9_copy 41 = .ok (.aload_n 1, 1) := by decide +kernel
theorem dX9_copy_42 : decode cX9_copy 42 = .ok (.getfield 53, 3) := by decide +kernel
theorem dX9_copy_45 : decode cX9_copy 45 = .ok (.putfield 53, 3) := by decide +kernel
theorem dX9_copy_48 : decode cX9_copy 48 = .ok (.aload_n 0, 1) := by decide +kernel
theorem dX9_copy_49 : decode cX9_copy 49 = .ok (.aload_n 1, 1) := by decide +kernel
theorem dX9_copy_50 : decode cX9_copy 50 = .ok (.getfield 56, 3) := by decide +kernel
theorem dX9_copy_53 : decode cX9_copy 53 = .ok (.putfield 56, 3) := by decide +kernel
theorem dX9_copy_56 : decode cX9_copy 56 = .ok (.aload_n 1, 1) := by decide +kernel
theorem dX9_copy_57 : decode cX9_copy 57 = .ok (.getfield 9, 3) := by decide +kernel
theorem dX9_copy_60 : decode cX9_copy 60 = .ok (.iconst 0, 1) := by decide +kernel
theorem dX9_copy_61 : decode cX9_copy 61 = .ok (.aload_n 0, 1) := by decide +kernel
theorem dX9_copy_62 : decode cX9_copy 62 = .ok (.getfield 9, 3) := by decide +kernel
theorem dX9_copy_65 : decode cX9_copy 65 = .ok (.iconst 0, 1) := by decide +kernel
theorem dX9_copy_66 : decode cX9_copy 66 = .ok (.bipush 7, 2) := by decide +kernel
theorem dX9_copy_68 : decode cX9_copy 68 = .ok (.invokestatic 65, 3) := by decide +kernel
theorem dX9_copy_71 : decode cX9_copy 71 = .ok (.aload_n 1, 1) := by decide +kernel
theorem dX9_copy_72 : decode cX9_copy 72 = .ok (.getfield 15, 3) := by decide +kernel
theorem dX9_copy_75 : decode cX9_copy 75 = .ok (.iconst 0, 1) := by decide +kernel
theorem dX9_copy_76 : decode cX9_copy 76 = .ok (.aload_n 0, 1) := by decide +kernel
theorem dX9_copy_77 : decode cX9_copy 77 = .ok (.getfield 15, 3) := by decide +kernel
theorem dX9_copy_80 : decode cX9_copy 80 = .ok (.iconst 0, 1) := by decide +kernel
theorem dX9_copy_81 : decode cX9_copy 81 = .ok (.bipush 7, 2) := by decide +kernel
theorem dX9_copy_83 : decode cX9_copy 83 = .ok (.invokestatic 65, 3) := by decide +kernel
theorem dX9_copy_86 : decode cX9_copy 86 = .ok (.aload_n 1, 1) := by decide +kernel
theorem dX9_copy_87 : decode cX9_copy 87 = .ok (.getfield 18, 3) := by decide +kernel
theorem dX9_copy_90 : decode cX9_copy 90 = .ok (.iconst 0, 1) := by decide +kernel
theorem dX9_copy_91 : decode cX9_copy 91 = .ok (.aload_n 0, 1) := by decide +kernel
theorem dX9_copy_92 : decode cX9_copy 92 = .ok (.getfield 18, 3) := by decide +kernel
theorem dX9_copy_95 : decode cX9_copy 95 = .ok (.iconst 0, 1) := by decide +kernel
theorem dX9_copy_96 : decode cX9_copy 96 = .ok (.bipush 7, 2) := by decide +kernel
theorem dX9_copy_98 : decode cX9_copy 98 = .ok (.invokestatic 65, 3) := by decide +kernel
theorem dX9_copy_101 : decode cX9_copy 101 = .ok (.aload_n 1, 1) := by decide +kernel
theorem dX9_copy_102 : decode cX9_copy 102 = .ok (.getfield 21, 3) := by decide +kernel
theorem dX9_copy_105 : decode cX9_copy 105 = .ok (.iconst 0, 1) := by decide +kernel
theorem dX9_copy_106 : decode cX9_copy 106 = .ok (.aload_n 0, 1) := by decide +kernel
theorem dX9_copy_107 : decode cX9_copy 107 = .ok (.getfield 21, 3) := by decide +kernel
theorem dX9_copy_110 : decode cX9_copy 110 = .ok (.iconst 0, 1) := by decide +kernel
theorem dX9_copy_111 : decode cX9_copy 111 = .ok (.bipush 7, 2) := by decide +kernel
theorem dX9_copy_113 : decode cX9_copy 113 = .ok (.invokestatic 65, 3) := by decide +kernel
theorem dX9_copy_116 : decode cX9_copy 116 = .ok (.aload_n 1, 1) := by decide +kernel
theorem dX9_copy_117 : decode cX9_copy 117 = .ok (.getfield 24, 3) := by decide +kernel
theorem dX9_copy_120 : decode cX9_copy 120 = .ok (.iconst 0, 1) := by decide +kernel
theorem dX9_copy_121 : decode cX9_copy 121 = .ok (.aload_n 0, 1) := by decide +kernel
theorem dX9_copy_122 : decode cX9_copy 122 = .ok (.getfield 24, 3) := by decide +kernel
theorem dX9_copy_125 : decode cX9_copy 125 = .ok (.iconst 0, 1) := by decide +kernel
theorem dX9_copy_126 : decode cX9_copy 126 = .ok (.bipush 6, 2) := by decide +kernel
theorem dX9_copy_128 : decode cX9_copy 128 = .ok (.invokestatic 65, 3) := by decide +kernel
theorem dX9_copy_131 : decode cX9_copy 131 = .ok (.aload_n 1, 1) := by decide +kernel
theorem dX9_copy_132 : decode cX9_copy 132 = .ok (.getfield 27, 3) := by decide +kernel
theorem dX9_copy_135 : decode cX9_copy 135 = .ok (.iconst 0, 1) := by decide +kernel
theorem dX9_copy_136 : decode cX9_copy 136 = .ok (.aload_n 0, 1) := by decide +kernel
theorem dX9_copy_137 : decode cX9_copy 137 = .ok (.getfield 27, 3) := by decide +kernel
theorem dX9_copy_140 : decode cX9_copy 140 = .ok (.iconst 0, 1) := by decide +kernel
theorem dX9_copy_141 : decode cX9_copy 141 = .ok (.bipush 6, 2) := by decide +kernel
theorem dX9_copy_143 : decode cX9_copy 143 = .ok (.invokestatic 65, 3) := by decide +kernel
theorem dX9_copy_146 : decode cX9_copy 146 = .ok (.aload_n 1, 1) := by decide +kernel
theorem dX9_copy_147 : decode cX9_copy 147 = .ok (.getfield 30, 3) := by decide +kernel
theorem dX9_copy_150 : decode cX9_copy 150 = .ok (.iconst 0, 1) := by decide +kernel
theorem dX9_copy_151 : decode cX9_copy 151 = .ok (.aload_n 0, 1) := by decide +kernel
theorem dX9_copy_152 : decode cX9_copy 152 = .ok (.getfield 30, 3) := by decide +kernel
theorem dX9_copy_155 : decode cX9_copy 155 = .ok (.iconst 0, 1) := by decide +kernel
theorem dX9_copy_156 : decode cX9_copy 156 = .ok (.bipush 6, 2) := by decide +kernel
theorem dX9_copy_158 : decode cX9_copy 158 = .ok (.invokestatic 65, 3) := by decide +kernel
theorem dX9_copy_161 : decode cX9_copy 161 = .ok (.aload_n 1, 1) := by decide +kernel
theorem dX9_copy_162 : decode cX9_copy 162 = .ok (.getfield 33, 3) := by decide +kernel
theorem dX9_copy_165 : decode cX9_copy 165 = .ok (.iconst 0, 1) := by decide +kernel
theorem dX9_copy_166 : decode cX9_copy 166 = .ok (.aload_n 0, 1) := by decide +kernel
theorem dX9_copy_167 : decode cX9_copy 167 = .ok (.getfield 33, 3) := by decide +kernel
theorem dX9_copy_170 : decode cX9_copy 170 = .ok (.iconst 0, 1) := by decide +kernel
theorem dX9_copy_171 : decode cX9_copy 171 = .ok (.bipush 6, 2) := by decide +kernel
theorem dX9_copy_173 : decode cX9_copy 173 = .ok (.invokestatic 65, 3) := by decide +kernel
theorem dX9_copy_176 : decode cX9_copy 176 = .ok (.return_, 1) := by decide +kernel
theorem dX8_copy_0 : decode cX8_copy 0 = .ok (.aload_n 0, 1) := by decide +kernel
theorem dX8_copy_1 : decode cX8_copy 1 = .ok (.getfield 12, 3) := by decide +kernel
theorem dX8_copy_4 : decode cX8_copy 4 = .ok (.aload_n 1, 1) := by decide +kernel
theorem dX8_copy_5 : decode cX8_copy 5 = .ok (.getfield 12, 3) := by decide +kernel
theorem dX8_copy_8 : decode cX8_copy 8 = .ok (.invokevirtual 39, 3) := by decide +kernel
theorem dX8_copy_11 : decode cX8_copy 11 = .ok (.aload_n 0, 1) := by decide +kernel
theorem dX8_copy_12 : decode cX8_copy 12 = .ok (.getfield 21, 3) := by decide +kernel
theorem dX8_copy_15 : decode cX8_copy 15 = .ok (.aload_n 1, 1) := by decide +kernel
theorem dX8_copy_16 : decode cX8_copy 16 = .ok (.getfield 21, 3) := by decide +kernel
theorem dX8_copy_19 : decode cX8_copy 19 = .ok (.invokevirtual 43, 3) := by decide +kernel
theorem dX8_copy_22 : decode cX8_copy 22 = .ok (.aload_n 0, 1) := by decide +kernel
theorem dX8_copy_23 : decode cX8_copy 23 = .ok (.aload_n 1, 1) := by decide +kernel
theorem dX8_copy_24 : decode cX8_copy 24 = .ok (.getfield 46, 3) := by decide +kernel
theorem dX8_copy_27 : decode cX8_copy 27 = .ok (.putfield 46, 3) := by decide +kernel
theorem dX8_copy_30 : decode cX8_copy 30 = .ok (.aload_n 1, 1) := by decide +kernel
theorem dX8_copy_31 : decode cX8_copy 31 = .ok (.getfield 25, 3) := by decide +kernel
theorem dX8_copy_34 : decode cX8_copy 34 = .ok (.iconst 0, 1) := by decide +kernel
theorem dX8_copy_35 : decode cX8_copy 35 = .ok (.aload_n 0, 1) := by decide +kernel
theorem dX8_copy_36 : decode cX8_copy 36 = .ok (.getfield 25, 3) := by decide +kernel
theorem dX8_copy_39 : decode cX8_copy 39 = .ok (.iconst 0, 1) := by decide +kernel
theorem dX8_copy_40 : decode cX8_copy 40 = .ok (.bipush 10, 2) := by decide +kernel
theorem dX8_copy_42 : decode cX8_copy 42 = .ok (.invokestatic 49, 3) := by decide +kernel
theorem dX8_copy_45 : decode cX8_copy 45 = .ok (.aload_n 1, 1) := by decide +kernel
theorem dX8_copy_46 : decode cX8_copy 46 = .ok (.getfield 29, 3) := by decide +kernel
theorem dX8_copy_49 : decode cX8_copy 49 = .ok (.iconst 0, 1) := by decide +kernel
theorem dX8_copy_50 : decode cX8_copy 50 = .ok (.aload_n 0, 1) := by decide +kernel
theorem dX8_copy_51 : decode cX8_copy 51 = .ok (.getfield 29, 3) := by decide +kernel
theorem dX8_copy_54 : decode cX8_copy 54 = .ok (.iconst 0, 1) := by decide +kernel
theorem dX8_copy_55 : decode cX8_copy 55 = .ok (.bipush 10, 2) := by decide +kernel
theorem dX8_copy_57 : decode cX8_copy 57 = .ok (.invokestatic 49, 3) := by decide +kernel
theorem dX8_copy_60 : decode cX8_copy 60 = .ok (.aload_n 1, 1) := by decide +kernel
theorem dX8_copy_61 : decode cX8_copy 61 = .ok (.getfield 32, 3) := by decide +kernel
theorem dX8_copy_64 : decode cX8_copy 64 = .ok (.iconst 0, 1) := by decide +kernel
theorem dX8_copy_65 : decode cX8_copy 65 = .ok (.aload_n 0, 1) := by decide +kernel
theorem dX8_copy_66 : decode cX8_copy 66 = .ok (.getfield 32, 3) := by decide +kernel
theorem dX8_copy_69 : decode cX8_copy 69 = .ok (.iconst 0, 1) := by decide +kernel
theorem dX8_copy_70 : decode cX8_copy 70 = .ok (.bipush 10, 2) := by decide +kernel
theorem dX8_copy_72 : decode cX8_copy 72 = .ok (.invokestatic 49, 3) := by decide +kernel
theorem dX8_copy_75 : decode cX8_copy 75 = .ok (.aload_n 0, 1) := by decide +kernel
theorem dX8_copy_76 : decode cX8_copy 76 = .ok (.aload_n 1, 1) := by decide +kernel
theorem dX8_copy_77 : decode cX8_copy 77 = .ok (.getfield 35, 3) := by decide +kernel
theorem dX8_copy_80 : decode cX8_copy 80 = .ok (.putfield 35, 3) := by decide +kernel
theorem dX8_copy_83 : decode cX8_copy 83 = .ok (.aload_n 0, 1) := by decide +kernel
theorem dX8_copy_84 : decode cX8_copy 84 = .ok (.aload_n 1, 1) := by decide +kernel
theorem dX8_copy_85 : decode cX8_copy 85 = .ok (.getfield 55, 3) := by decide +kernel
theorem dX8_copy_88 : decode cX8_copy 88 = .ok (.putfield 55, 3) := by decide +kernel
theorem dX8_copy_91 : decode cX8_copy 91 = .ok (.return_, 1) := by decide +kernel
theorem dX8_settle_0 : decode cX8_settle 0 = .ok (.aload_n 0, 1) := by decide +kernel
theorem dX8_settle_1 : decode cX8_settle 1 = .ok (.getfield 12, 3) := by decide +kernel
theorem dX8_settle_4 : decode cX8_settle 4 = .ok (.aload_n 1, 1) := by decide +kernel
theorem dX8_settle_5 : decode cX8_settle 5 = .ok (.invokevirtual 39, 3) := by decide +kernel
theorem dX8_settle_8 : decode cX8_settle 8 = .ok (.aload_n 0, 1) := by decide +kernel
theorem dX8_settle_9 : decode cX8_settle 9 = .ok (.getfield 21, 3) := by decide +kernel
theorem dX8_settle_12 : decode cX8_settle 12 = .ok (.aload_n 1, 1) := by decide +kernel
theorem dX8_settle_13 : decode cX8_settle 13 = .ok (.invokevirtual 58, 3) := by decide +kernel
theorem dX8_settle_16 : decode cX8_settle 16 = .ok (.aload_n 0, 1) := by decide +kernel
theorem dX8_settle_17 : decode cX8_settle 17 = .ok (.iconst 0, 1) := by decide +kernel
theorem dX8_settle_18 : decode cX8_settle 18 = .ok (.putfield 46, 3) := by decide +kernel
theorem dX8_settle_21 : decode cX8_settle 21 = .ok (.return_, 1) := by decide +kernel
theorem dX8_addFact_0 : decode cX8_addFact 0 = .ok (.aload_n 0, 1) := by decide +kernel
theorem dX8_addFact_1 : decode cX8_addFact 1 = .ok (.getfield 46, 3) := by decide +kernel
theorem dX8_addFact_4 : decode cX8_addFact 4 = .ok (.bipush 10, 2) := by decide +kernel
theorem dX8_addFact_6 : decode cX8_addFact 6 = .ok (.if_icmp .ge 43, 3) := by decide +kernel
theorem dX8_addFact_9 : decode cX8_addFact 9 = .ok (.aload_n 0, 1) := by decide +kernel
theorem dX8_addFact_10 : decode cX8_addFact 10 = .ok (.getfield 25, 3) := by decide +kernel
theorem dX8_addFact_13 : decode cX8_addFact 13 = .ok (.aload_n 0, 1) := by decide +kernel
theorem dX8_addFact_14 : decode cX8_addFact 14 = .ok (.getfield 46, 3) := by decide +kernel
theorem dX8_addFact_17 : decode cX8_addFact 17 = .ok (.iload_n 1, 1) := by decide +kernel
theorem dX8_addFact_18 : decode cX8_addFact 18 = .ok (.iastore, 1) := by decide +kernel
theorem dX8_addFact_19 : decode cX8_addFact 19 = .ok (.aload_n 0, 1) := by decide +kernel
theorem dX8_addFact_20 : decode cX8_addFact 20 = .ok (.getfield 29, 3) := by decide +kernel
theorem dX8_addFact_23 : decode cX8_addFact 23 = .ok (.aload_n 0, 1) := by decide +kernel
theorem dX8_addFact_24 : decode cX8_addFact 24 = .ok (.getfield 46, 3) := by decide +kernel
theorem dX8_addFact_27 : decode cX8_addFact 27 = .ok (.iload_n 2, 1) := by decide +kernel
theorem dX8_addFact_28 : decode cX8_addFact 28 = .ok (.iastore, 1) := by decide +kernel
theorem dX8_addFact_29 : decode cX8_addFact 29 = .ok (.aload_n 0, 1) := by decide +kernel
theorem dX8_addFact_30 : decode cX8_addFact 30 = .ok (.getfield 32, 3) := by decide +kernel
theorem dX8_addFact_33 : decode cX8_addFact 33 = .ok (.aload_n 0, 1) := by decide +kernel
theorem dX8_addFact_34 : decode cX8_addFact 34 = .ok (.getfield 46, 3) := by decide +kernel
theorem dX8_addFact_37 : decode cX8_addFact 37 = .ok (.iload_n 3, 1) := by decide +kernel
theorem dX8_addFact_38 : decode cX8_addFact 38 = .ok (.iastore, 1) := by decide +kernel
theorem dX8_addFact_39 : decode cX8_addFact 39 = .ok (.aload_n 0, 1) := by decide +kernel
theorem dX8_addFact_40 : decode cX8_addFact 40 = .ok (.dup, 1) := by decide +kernel
theorem dX8_addFact_41 : decode cX8_addFact 41 = .ok (.getfield 46, 3) := by decide +kernel
theorem dX8_addFact_44 : decode cX8_addFact 44 = .ok (.iconst 1, 1) := by decide +kernel
theorem dX8_addFact_45 : decode cX8_addFact 45 = .ok (.iadd, 1) := by decide +kernel
theorem dX8_addFact_46 : decode cX8_addFact 46 = .ok (.putfield 46, 3) := by decide +kernel
theorem dX8_addFact_49 : decode cX8_addFact 49 = .ok (.return_, 1) := by decide +kernel
theorem dX8_draw_0 : decode cX8_draw 0 = .ok (.aload_n 0, 1) := by decide +kernel
theorem dX8_draw_1 : decode cX8_draw 1 = .ok (.aload_n 0, 1) := by decide +kernel
theorem dX8_draw_2 : decode cX8_draw 2 = .ok (.getfield 55, 3) := by decide +kernel
theorem dX8_draw_5 : decode cX8_draw 5 = .ok (.i2l, 1) := by decide +kernel
theorem dX8_draw_6 : decode cX8_draw 6 = .ok (.ldc2_w 61, 3) := by decide +kernel
theorem dX8_draw_9 : decode cX8_draw 9 = .ok (.lmul, 1) := by decide +kernel
theorem dX8_draw_10 : decode cX8_draw 10 = .ok (.ldc2_w 63, 3) := by decide +kernel
theorem dX8_draw_13 : decode cX8_draw 13 = .ok (.ladd, 1) := by decide +kernel
theorem dX8_draw_14 : decode cX8_draw 14 = .ok (.ldc2_w 65, 3) := by decide +kernel
theorem dX8_draw_17 : decode cX8_draw 17 = .ok (.land, 1) := by decide +kernel
theorem dX8_draw_18 : decode cX8_draw 18 = .ok (.l2i, 1) := by decide +kernel
theorem dX8_draw_19 : decode cX8_draw 19 = .ok (.putfield 55, 3) := by decide +kernel
theorem dX8_draw_22 : decode cX8_draw 22 = .ok (.aload_n 0, 1) := by decide +kernel
theorem dX8_draw_23 : decode cX8_draw 23 = .ok (.getfield 55, 3) := by decide +kernel
theorem dX8_draw_26 : decode cX8_draw 26 = .ok (.ldc 67, 2) := by decide +kernel
theorem dX8_draw_28 : decode cX8_draw 28 = .ok (.idiv, 1) := by decide +kernel
theorem dX8_draw_29 : decode cX8_draw 29 = .ok (.ireturn, 1) := by decide +kernel
theorem dX9_clear_0 : decode cX9_clear 0 = .ok (.aload_n 0, 1) := by decide +kernel
theorem dX9_clear_1 : decode cX9_clear 1 = .ok (.iconst 0, 1) := by decide +kernel
theorem dX9_clear_2 : decode cX9_clear 2 = .ok (.putfield 36, 3) := by decide +kernel
theorem dX9_clear_5 : decode cX9_clear 5 = .ok (.aload_n 0, 1) := by decide +kernel
theorem dX9_clear_6 : decode cX9_clear 6 = .ok (.iconst 0, 1) := by decide +kernel
theorem dX9_clear_7 : decode cX9_clear 7 = .ok (.putfield 40, 3) := by decide +kernel
theorem dX9_clear_10 : decode cX9_clear 10 = .ok (.aload_n 0, 1) := by decide +kernel
theorem dX9_clear_11 : decode cX9_clear 11 = .ok (.iconst 0, 1) := by decide +kernel
theorem dX9_clear_12 : decode cX9_clear 12 = .ok (.putfield 44, 3) := by decide +kernel
theorem dX9_clear_15 : decode cX9_clear 15 = .ok (.aload_n 0, 1) := by decide +kernel
theorem dX9_clear_16 : decode cX9_clear 16 = .ok (.iconst 0, 1) := by decide +kernel
theorem dX9_clear_17 : decode cX9_clear 17 = .ok (.putfield 47, 3) := by decide +kernel
theorem dX9_clear_20 : decode cX9_clear 20 = .ok (.aload_n 0, 1) := by decide +kernel
theorem dX9_clear_21 : decode cX9_clear 21 = .ok (.sipush 9999, 3) := by decide +kernel
theorem dX9_clear_24 : decode cX9_clear 24 = .ok (.putfield 50, 3) := by decide +kernel
theorem dX9_clear_27 : decode cX9_clear 27 = .ok (.aload_n 0, 1) := by decide +kernel
theorem dX9_clear_28 : decode cX9_clear 28 = .ok (.iconst 0, 1) := by decide +kernel
theorem dX9_clear_29 : decode cX9_clear 29 = .ok (.putfield 53, 3) := by decide +kernel
theorem dX9_clear_32 : decode cX9_clear 32 = .ok (.aload_n 0, 1) := by decide +kernel
theorem dX9_clear_33 : decode cX9_clear 33 = .ok (.iconst 0, 1) := by decide +kernel
theorem dX9_clear_34 : decode cX9_clear 34 = .ok (.putfield 56, 3) := by decide +kernel
theorem dX9_clear_37 : decode cX9_clear 37 = .ok (.aload_n 0, 1) := by decide +kernel
theorem dX9_clear_38 : decode cX9_clear 38 = .ok (.getfield 21, 3) := by decide +kernel
theorem dX9_clear_41 : decode cX9_clear 41 = .ok (.iconst 0, 1) := by decide +kernel
theorem dX9_clear_42 : decode cX9_clear 42 = .ok (.invokestatic 59, 3) := by decide +kernel
theorem dX9_clear_45 : decode cX9_clear 45 = .ok (.return_, 1) := by decide +kernel
theorem dX9_hasCase_0 : decode cX9_hasCase 0 = .ok (.iload_n 1, 1) := by decide +kernel
theorem dX9_hasCase_1 : decode cX9_hasCase 1 = .ok (.ifCond .lt 15, 3) := by decide +kernel
theorem dX9_hasCase_4 : decode cX9_hasCase 4 = .ok (.iload_n 1, 1) := by decide +kernel
theorem dX9_hasCase_5 : decode cX9_hasCase 5 = .ok (.aload_n 0, 1) := by decide +kernel
theorem dX9_hasCase_6 : decode cX9_hasCase 6 = .ok (.getfield 56, 3) := by decide +kernel
theorem dX9_hasCase_9 : decode cX9_hasCase 9 = .ok (.if_icmp .ge 7, 3) := by decide +kernel
theorem dX9_hasCase_12 : decode cX9_hasCase 12 = .ok (.iconst 1, 1) := by decide +kernel
theorem dX9_hasCase_13 : decode cX9_hasCase 13 = .ok (.goto 4, 3) := by decide +kernel
theorem dX9_hasCase_16 : decode cX9_hasCase 16 = .ok (.iconst 0, 1) := by decide +kernel
theorem dX9_hasCase_17 : decode cX9_hasCase 17 = .ok (.ireturn, 1) := by decide +kernel
theorem dX10_isOneTooMany_0 : decode cX10_isOneTooMany 0 = .ok (.aload_n 0, 1) := by decide +kernel
theorem dX10_isOneTooMany_1 : decode cX10_isOneTooMany 1 = .ok (.getfield 32, 3) := by decide +kernel
theorem dX10_isOneTooMany_4 : decode cX10_isOneTooMany 4 = .ok (.bipush 40, 2) := by decide +kernel
theorem dX10_isOneTooMany_6 : decode cX10_isOneTooMany 6 = .ok (.if_icmp .ge 24, 3) := by decide +kernel
theorem dX10_isOneTooMany_9 : decode cX10_isOneTooMany 9 = .ok (.aload_n 0, 1) := by decide +kernel
theorem dX10_isOneTooMany_10 : decode cX10_isOneTooMany 10 = .ok (.getfield 15, 3) := by decide +kernel
theorem dX10_isOneTooMany_13 : decode cX10_isOneTooMany 13 = .ok (.getfield 76, 3) := by decide +kernel
theorem dX10_isOneTooMany_16 : decode cX10_isOneTooMany 16 = .ok (.iload_n 1, 1) := by decide +kernel
theorem dX10_isOneTooMany_17 : decode cX10_isOneTooMany 17 = .ok (.bipush 17, 2) := by decide +kernel
theorem dX10_isOneTooMany_19 : decode cX10_isOneTooMany 19 = .ok (.if_icmp .ne 7, 3) := by decide +kernel
theorem dX10_isOneTooMany_22 : decode cX10_isOneTooMany 22 = .ok (.iconst 1, 1) := by decide +kernel
theorem dX10_isOneTooMany_23 : decode cX10_isOneTooMany 23 = .ok (.goto 4, 3) := by decide +kernel
theorem dX10_isOneTooMany_26 : decode cX10_isOneTooMany 26 = .ok (.iconst 0, 1) := by decide +kernel
theorem dX10_isOneTooMany_27 : decode cX10_isOneTooMany 27 = .ok (.if_icmp .ne 5, 3) := by decide +kernel
theorem dX10_isOneTooMany_30 : decode cX10_isOneTooMany 30 = .ok (.iconst 1, 1) := by decide +kernel
theorem dX10_isOneTooMany_31 : decode cX10_isOneTooMany 31 = .ok (.ireturn, 1) := by decide +kernel
theorem dX10_isOneTooMany_32 : decode cX10_isOneTooMany 32 = .ok (.iload_n 1, 1) := by decide +kernel
theorem dX10_isOneTooMany_33 : decode cX10_isOneTooMany 33 = .ok (.tableswitch 86 18 21 #[31, 36, 54, 68], 31) := by decide +kernel
theorem dX10_isOneTooMany_64 : decode cX10_isOneTooMany 64 = .ok (.aload_n 0, 1) := by decide +kernel
theorem dX10_isOneTooMany_65 : decode cX10_isOneTooMany 65 = .ok (.getfield 28, 3) := by decide +kernel
theorem dX10_isOneTooMany_68 : decode cX10_isOneTooMany 68 = .ok (.ireturn, 1) := by decide +kernel
theorem dX10_isOneTooMany_69 : decode cX10_isOneTooMany 69 = .ok (.aload_n 0, 1) := by decide +kernel
theorem dX10_isOneTooMany_70 : decode cX10_isOneTooMany 70 = .ok (.getfield 15, 3) := by decide +kernel
theorem dX10_isOneTooMany_73 : decode cX10_isOneTooMany 73 = .ok (.getfield 79, 3) := by decide +kernel
theorem dX10_isOneTooMany_76 : decode cX10_isOneTooMany 76 = .ok (.bipush 7, 2) := by decide +kernel
theorem dX10_isOneTooMany_78 : decode cX10_isOneTooMany 78 = .ok (.if_icmp .lt 7, 3) := by decide +kernel
theorem dX10_isOneTooMany_81 : decode cX10_isOneTooMany 81 = .ok (.iconst 1, 1) := by decide +kernel
theorem dX10_isOneTooMany_82 : decode cX10_isOneTooMany 82 = .ok (.goto 4, 3) := by decide +kernel
theorem dX10_isOneTooMany_85 : decode cX10_isOneTooMany 85 = .ok (.iconst 0, 1) := by decide +kernel
theorem dX10_isOneTooMany_86 : decode cX10_isOneTooMany 86 = .ok (.ireturn, 1) := by decide +kernel
theorem dX10_isOneTooMany_87 : decode cX10_isOneTooMany 87 = .ok (.aload_n 0, 1) := by decide +kernel
theorem dX10_isOneTooMany_88 : decode cX10_isOneTooMany 88 = .ok (.getfield 24, 3) := by decide +kernel
theorem dX10_isOneTooMany_91 : decode cX10_isOneTooMany 91 = .ok (.iconst 4, 1) := by decide +kernel
theorem dX10_isOneTooMany_92 : decode cX10_isOneTooMany 92 = .ok (.if_icmp .lt 7, 3) := by decide +kernel
theorem dX10_isOneTooMany_95 : decode cX10_isOneTooMany 95 = .ok (.iconst 1, 1) := by decide +kernel
theorem dX10_isOneTooMany_96 : decode cX10_isOneTooMany 96 = .ok (.goto 4, 3) := by decide +kernel
theorem dX10_isOneTooMany_99 : decode cX10_isOneTooMany 99 = .ok (.iconst 0, 1) := by decide +kernel
theorem dX10_isOneTooMany_100 : decode cX10_isOneTooMany 100 = .ok (.ireturn, 1) := by decide +kernel
theorem dX10_isOneTooMany_101 : decode cX10_isOneTooMany 101 = .ok (.aload_n 0, 1) := by decide +kernel
theorem dX10_isOneTooMany_102 : decode cX10_isOneTooMany 102 = .ok (.getfield 15, 3) := by decide +kernel
theorem dX10_isOneTooMany_105 : decode cX10_isOneTooMany 105 = .ok (.getfield 82, 3) := by decide +kernel
theorem dX10_isOneTooMany_108 : decode cX10_isOneTooMany 108 = .ok (.bipush 6, 2) := by decide +kernel
theorem dX10_isOneTooMany_110 : decode cX10_isOneTooMany 110 = .ok (.if_icmp .lt 7, 3) := by decide +kernel
theorem dX10_isOneTooMany_113 : decode cX10_isOneTooMany 113 = .ok (.iconst 1, 1) := by decide +kernel
theorem dX10_isOneTooMany_114 : decode cX10_isOneTooMany 114 = .ok (.goto 4, 3) := by decide +kernel
theorem dX10_isOneTooMany_117 : decode cX10_isOneTooMany 117 = .ok (.iconst 0, 1) := by decide +kernel
theorem dX10_isOneTooMany_118 : decode cX10_isOneTooMany 118 = .ok (.ireturn, 1) := by decide +kernel
theorem dX10_isOneTooMany_119 : decode cX10_isOneTooMany 119 = .ok (.iconst 0, 1) := by decide +kernel
theorem dX10_isOneTooMany_120 : decode cX10_isOneTooMany 120 = .ok (.ireturn, 1) := by decide +kernel
theorem dX10_readsTown_0 : decode cX10_readsTown 0 = .ok (.aload_n 0, 1) := by decide +kernel
theorem dX10_readsTown_1 : decode cX10_readsTown 1 = .ok (.getfield 15, 3) := by decide +kernel
theorem dX10_readsTown_4 : decode cX10_readsTown 4 = .ok (.aload_n 0, 1) := by decide +kernel
theorem dX10_readsTown_5 : decode cX10_readsTown 5 = .ok (.getfield 9, 3) := by decide +kernel
theorem dX10_readsTown_8 : decode cX10_readsTown 8 = .ok (.iconst 1, 1) := by decide +kernel
theorem dX10_readsTown_9 : decode cX10_readsTown 9 = .ok (.bipush 99, 2) := by decide +kernel
theorem dX10_readsTown_11 : decode cX10_readsTown 11 = .ok (.invokevirtual 85, 3) := by decide +kernel
theorem dX10_readsTown_14 : decode cX10_readsTown 14 = .ok (.putfield 89, 3) := by decide +kernel
theorem dX10_readsTown_17 : decode cX10_readsTown 17 = .ok (.aload_n 0, 1) := by decide +kernel
theorem dX10_readsTown_18 : decode cX10_readsTown 18 = .ok (.getfield 15, 3) := by decide +kernel
theorem dX10_readsTown_21 : decode cX10_readsTown 21 = .ok (.getfield 89, 3) := by decide +kernel
theorem dX10_readsTown_24 : decode cX10_readsTown 24 = .ok (.ifCond .ge 5, 3) := by decide +kernel
theorem dX10_readsTown_27 : decode cX10_readsTown 27 = .ok (.iconst 0, 1) := by decide +kernel
theorem dX10_readsTown_28 : decode cX10_readsTown 28 = .ok (.ireturn, 1) := by decide +kernel
theorem dX10_readsTown_29 : decode cX10_readsTown 29 = .ok (.aload_n 0, 1) := by decide +kernel
theorem dX10_readsTown_30 : decode cX10_readsTown 30 = .ok (.getfield 15, 3) := by decide +kernel
theorem dX10_readsTown_33 : decode cX10_readsTown 33 = .ok (.aload_n 0, 1) := by decide +kernel
theorem dX10_readsTown_34 : decode cX10_readsTown 34 = .ok (.getfield 9, 3) := by decide +kernel
theorem dX10_readsTown_37 : decode cX10_readsTown 37 = .ok (.iconst 5, 1) := by decide +kernel
theorem dX10_readsTown_38 : decode cX10_readsTown 38 = .ok (.bipush 99, 2) := by decide +kernel
theorem dX10_readsTown_40 : decode cX10_readsTown 40 = .ok (.invokevirtual 85, 3) := by decide +kernel
theorem dX10_readsTown_43 : decode cX10_readsTown 43 = .ok (.putfield 92, 3) := by decide +kernel
theorem dX10_readsTown_46 : decode cX10_readsTown 46 = .ok (.aload_n 0, 1) := by decide +kernel
theorem dX10_readsTown_47 : decode cX10_readsTown 47 = .ok (.getfield 15, 3) := by decide +kernel
theorem dX10_readsTown_50 : decode cX10_readsTown 50 = .ok (.aload_n 0, 1) := by decide +kernel
theorem dX10_readsTown_51 : decode cX10_readsTown 51 = .ok (.getfield 15, 3) := by decide +kernel
theorem dX10_readsTown_54 : decode cX10_readsTown 54 = .ok (.getfield 92, 3) := by decide +kernel
theorem dX10_readsTown_57 : decode cX10_readsTown 57 = .ok (.ifCond .lt 7, 3) := by decide +kernel
theorem dX10_readsTown_60 : decode cX10_readsTown 60 = .ok (.iconst 1, 1) := by decide +kernel
theorem dX10_readsTown_61 : decode cX10_readsTown 61 = .ok (.goto 4, 3) := by decide +kernel
theorem dX10_readsTown_64 : decode cX10_readsTown 64 = .ok (.iconst 0, 1) := by decide +kernel
theorem dX10_readsTown_65 : decode cX10_readsTown 65 = .ok (.putfield 76, 3) := by decide +kernel
theorem dX10_readsTown_68 : decode cX10_readsTown 68 = .ok (.aload_n 0, 1) := by decide +kernel
theorem dX10_readsTown_69 : decode cX10_readsTown 69 = .ok (.getfield 15, 3) := by decide +kernel
theorem dX10_readsTown_72 : decode cX10_readsTown 72 = .ok (.getfield 76, 3) := by decide +kernel
theorem dX10_readsTown_75 : decode cX10_readsTown 75 = .ok (.ireturn, 1) := by decide +kernel
theorem dX10_readsBench_0 : decode cX10_readsBench 0 = .ok (.aload_n 0, 1) := by decide +kernel
theorem dX10_readsBench_1 : decode cX10_readsBench 1 = .ok (.getfield 15, 3) := by decide +kernel
theorem dX10_readsBench_4 : decode cX10_readsBench 4 = .ok (.aload_n 0, 1) := by decide +kernel
theorem dX10_readsBench_5 : decode cX10_readsBench 5 = .ok (.getfield 9, 3) := by decide +kernel
theorem dX10_readsBench_8 : decode cX10_readsBench 8 = .ok (.iconst 0, 1) := by decide +kernel
theorem dX10_readsBench_9 : decode cX10_readsBench 9 = .ok (.sipush 9999, 3) := by decide +kernel
theorem dX10_readsBench_12 : decode cX10_readsBench 12 = .ok (.invokevirtual 85, 3) := by decide +kernel
theorem dX10_readsBench_15 : decode cX10_readsBench 15 = .ok (.putfield 95, 3) := by decide +kernel
theorem dX10_readsBench_18 : decode cX10_readsBench 18 = .ok (.aload_n 0, 1) := by decide +kernel
theorem dX10_readsBench_19 : decode cX10_readsBench 19 = .ok (.getfield 15, 3) := by decide +kernel
theorem dX10_readsBench_22 : decode cX10_readsBench 22 = .ok (.getfield 95, 3) := by decide +kernel
theorem dX10_readsBench_25 : decode cX10_readsBench 25 = .ok (.ifCond .ge 5, 3) := by decide +kernel
theorem dX10_readsBench_28 : decode cX10_readsBench 28 = .ok (.iconst 0, 1) := by decide +kernel
theorem dX10_readsBench_29 : decode cX10_readsBench 29 = .ok (.ireturn, 1) := by decide +kernel
theorem dX10_readsBench_30 : decode cX10_readsBench 30 = .ok (.aload_n 0, 1) := by decide +kernel
theorem dX10_readsBench_31 : decode cX10_readsBench 31 = .ok (.getfield 15, 3) := by decide +kernel
theorem dX10_readsBench_34 : decode cX10_readsBench 34 = .ok (.aload_n 0, 1) := by decide +kernel
theorem dX10_readsBench_35 : decode cX10_readsBench 35 = .ok (.getfield 9, 3) := by decide +kernel
theorem dX10_readsBench_38 : decode cX10_readsBench 38 = .ok (.aload_n 0, 1) := by decide +kernel
theorem dX10_readsBench_39 : decode cX10_readsBench 39 = .ok (.getfield 15, 3) := by decide +kernel
theorem dX10_readsBench_42 : decode cX10_readsBench 42 = .ok (.getfield 95, 3) := by decide +kernel
theorem dX10_readsBench_45 : decode cX10_readsBench 45 = .ok (.sipush 9999, 3) := by decide +kernel
theorem dX10_readsBench_48 : decode cX10_readsBench 48 = .ok (.invokevirtual 85, 3) := by decide +kernel
theorem dX10_readsBench_51 : decode cX10_readsBench 51 = .ok (.putfield 98, 3) := by decide +kernel
theorem dX10_readsBench_54 : decode cX10_readsBench 54 = .ok (.aload_n 0, 1) := by decide +kernel
theorem dX10_readsBench_55 : decode cX10_readsBench 55 = .ok (.aload_n 0, 1) := by decide +kernel
theorem dX10_readsBench_56 : decode cX10_readsBench 56 = .ok (.getfield 15, 3) := by decide +kernel
theorem dX10_readsBench_59 : decode cX10_readsBench 59 = .ok (.getfield 98, 3) := by decide +kernel
theorem dX10_readsBench_62 : decode cX10_readsBench 62 = .ok (.ifCond .lt 7, 3) := by decide +kernel
theorem dX10_readsBench_65 : decode cX10_readsBench 65 = .ok (.iconst 1, 1) := by decide +kernel
theorem dX10_readsBench_66 : decode cX10_readsBench 66 = .ok (.goto 4, 3) := by decide +kernel
theorem dX10_readsBench_69 : decode cX10_readsBench 69 = .ok (.iconst 0, 1) := by decide +kernel
theorem dX10_readsBench_70 : decode cX10_readsBench 70 = .ok (.putfield 28, 3) := by decide +kernel
theorem dX10_readsBench_73 : decode cX10_readsBench 73 = .ok (.aload_n 0, 1) := by decide +kernel
theorem dX10_readsBench_74 : decode cX10_readsBench 74 = .ok (.getfield 28, 3) := by decide +kernel
theorem dX10_readsBench_77 : decode cX10_readsBench 77 = .ok (.ireturn, 1) := by decide +kernel
theorem dX10_readsPerson_0 : decode cX10_readsPerson 0 = .ok (.aload_n 0, 1) := by decide +kernel
theorem dX10_readsPerson_1 : decode cX10_readsPerson 1 = .ok (.getfield 9, 3) := by decide +kernel
theorem dX10_readsPerson_4 : decode cX10_readsPerson 4 = .ok (.iconst 0, 1) := by decide +kernel
theorem dX10_readsPerson_5 : decode cX10_readsPerson 5 = .ok (.sipush 9999, 3) := by decide +kernel
theorem dX10_readsPerson_8 : decode cX10_readsPerson 8 = .ok (.invokevirtual 85, 3) := by decide +kernel
theorem dX10_readsPerson_11 : decode cX10_readsPerson 11 = .ok (.istore_n 1, 1) := by decide +kernel
theorem dX10_readsPerson_12 : decode cX10_readsPerson 12 = .ok (.iload_n 1, 1) := by decide +kernel
theorem dX10_readsPerson_13 : decode cX10_readsPerson 13 = .ok (.ifCond .ge 7, 3) := by decide +kernel
theorem dX10_readsPerson_16 : decode cX10_readsPerson 16 = .ok (.iconst (-1), 1) := by decide +kernel
theorem dX10_readsPerson_17 : decode cX10_readsPerson 17 = .ok (.goto 13, 3) := by decide +kernel
theorem dX10_readsPerson_20 : decode cX10_readsPerson 20 = .ok (.aload_n 0, 1) := by decide +kernel
theorem dX10_readsPerson_21 : decode cX10_readsPerson 21 = .ok (.getfield 9, 3) := by decide +kernel
theorem dX10_readsPerson_24 : decode cX10_readsPerson 24 = .ok (.iconst 0, 1) := by decide +kernel
theorem dX10_readsPerson_25 : decode cX10_readsPerson 25 = .ok (.bipush 9, 2) := by decide +kernel
theorem dX10_readsPerson_27 : decode cX10_readsPerson 27 = .ok (.invokevirtual 85, 3) := by decide +kernel
theorem dX10_readsPerson_30 : decode cX10_readsPerson 30 = .ok (.istore_n 2, 1) := by decide +kernel
theorem dX10_readsPerson_31 : decode cX10_readsPerson 31 = .ok (.iload_n 2, 1) := by decide +kernel
theorem dX10_readsPerson_32 : decode cX10_readsPerson 32 = .ok (.ifCond .ge 7, 3) := by decide +kernel
theorem dX10_readsPerson_35 : decode cX10_readsPerson 35 = .ok (.iconst (-1), 1) := by decide +kernel
theorem dX10_readsPerson_36 : decode cX10_readsPerson 36 = .ok (.goto 13, 3) := by decide +kernel
theorem dX10_readsPerson_39 : decode cX10_readsPerson 39 = .ok (.aload_n 0, 1) := by decide +kernel
theorem dX10_readsPerson_40 : decode cX10_readsPerson 40 = .ok (.getfield 9, 3) := by decide +kernel
theorem dX10_readsPerson_43 : decode cX10_readsPerson 43 = .ok (.iconst 0, 1) := by decide +kernel
theorem dX10_readsPerson_44 : decode cX10_readsPerson 44 = .ok (.bipush 9, 2) := by decide +kernel
theorem dX10_readsPerson_46 : decode cX10_readsPerson 46 = .ok (.invokevirtual 85, 3) := by decide +kernel
theorem dX10_readsPerson_49 : decode cX10_readsPerson 49 = .ok (.istore_n 3, 1) := by decide +kernel
theorem dX10_readsPerson_50 : decode cX10_readsPerson 50 = .ok (.iload_n 3, 1) := by decide +kernel
theorem dX10_readsPerson_51 : decode cX10_readsPerson 51 = .ok (.ifCond .ge 5, 3) := by decide +kernel
theorem dX10_readsPerson_54 : decode cX10_readsPerson 54 = .ok (.iconst 0, 1) := by decide +kernel
theorem dX10_readsPerson_55 : decode cX10_readsPerson 55 = .ok (.ireturn, 1) := by decide +kernel
theorem dX10_readsPerson_56 : decode cX10_readsPerson 56 = .ok (.aload_n 0, 1) := by decide +kernel
theorem dX10_readsPerson_57 : decode cX10_readsPerson 57 = .ok (.getfield 15, 3) := by decide +kernel
theorem dX10_readsPerson_60 : decode cX10_readsPerson 60 = .ok (.getfield 101, 3) := by decide +kernel
theorem dX10_readsPerson_63 : decode cX10_readsPerson 63 = .ok (.aload_n 0, 1) := by decide +kernel
theorem dX10_readsPerson_64 : decode cX10_readsPerson 64 = .ok (.getfield 15, 3) := by decide +kernel
theorem dX10_readsPerson_67 : decode cX10_readsPerson 67 = .ok (.getfield 79, 3) := by decide +kernel
theorem dX10_readsPerson_70 : decode cX10_readsPerson 70 = .ok (.iload_n 1, 1) := by decide +kernel
theorem dX10_readsPerson_71 : decode cX10_readsPerson 71 = .ok (.iastore, 1) := by decide +kernel
theorem dX10_readsPerson_72 : decode cX10_readsPerson 72 = .ok (.aload_n 0, 1) := by decide +kernel
theorem dX10_readsPerson_73 : decode cX10_readsPerson 73 = .ok (.getfield 15, 3) := by decide +kernel
theorem dX10_readsPerson_76 : decode cX10_readsPerson 76 = .ok (.getfield 105, 3) := by decide +kernel
theorem dX10_readsPerson_79 : decode cX10_readsPerson 79 = .ok (.aload_n 0, 1) := by decide +kernel
theorem dX10_readsPerson_80 : decode cX10_readsPerson 80 = .ok (.getfield 15, 3) := by decide +kernel
theorem dX10_readsPerson_83 : decode cX10_readsPerson 83 = .ok (.getfield 79, 3) := by decide +kernel
theorem dX10_readsPerson_86 : decode cX10_readsPerson 86 = .ok (.iload_n 2, 1) := by decide +kernel
theorem dX10_readsPerson_87 : decode cX10_readsPerson 87 = .ok (.iastore, 1) := by decide +kernel
theorem dX10_readsPerson_88 : decode cX10_readsPerson 88 = .ok (.aload_n 0, 1) := by decide +kernel
theorem dX10_readsPerson_89 : decode cX10_readsPerson 89 = .ok (.getfield 15, 3) := by decide +kernel
theorem dX10_readsPerson_92 : decode cX10_readsPerson 92 = .ok (.getfield 108, 3) := by decide +kernel
theorem dX10_readsPerson_95 : decode cX10_readsPerson 95 = .ok (.aload_n 0, 1) := by decide +kernel
theorem dX10_readsPerson_96 : decode cX10_readsPerson 96 = .ok (.getfield 15, 3) := by decide +kernel
theorem dX10_readsPerson_99 : decode cX10_readsPerson 99 = .ok (.getfield 79, 3) := by decide +kernel
theorem dX10_readsPerson_102 : decode cX10_readsPerson 102 = .ok (.iload_n 3, 1) := by decide +kernel
theorem dX10_readsPerson_103 : decode cX10_readsPerson 103 = .ok (.iastore, 1) := by decide +kernel
theorem dX10_readsPerson_104 : decode cX10_readsPerson 104 = .ok (.aload_n 0, 1) := by decide +kernel
theorem dX10_readsPerson_105 : decode cX10_readsPerson 105 = .ok (.getfield 15, 3) := by decide +kernel
theorem dX10_readsPerson_108 : decode cX10_readsPerson 108 = .ok (.dup, 1) := by decide +kernel
theorem dX10_readsPerson_109 : decode cX10_readsPerson 109 = .ok (.getfield 79, 3) := by decide +kernel
theorem dX10_readsPerson_112 : decode cX10_readsPerson 112 = .ok (.iconst 1, 1) := by decide +kernel
theorem dX10_readsPerson_113 : decode cX10_readsPerson 113 = .ok (.iadd, 1) := by decide +kernel
theorem dX10_readsPerson_114 : decode cX10_readsPerson 114 = .ok (.putfield 79, 3) := by decide +kernel
theorem dX10_readsPerson_117 : decode cX10_readsPerson 117 = .ok (.iconst 1, 1) := by decide +kernel
theorem dX10_readsPerson_118 : decode cX10_readsPerson 118 = .ok (.ireturn, 1) := by decide +kernel
theorem dX10_readsTwins_0 : decode cX10_readsTwins 0 = .ok (.aload_n 0, 1) := by decide +kernel
theorem dX10_readsTwins_1 : decode cX10_readsTwins 1 = .ok (.getfield 9, 3) := by decide +kernel
theorem dX10_readsTwins_4 : decode cX10_readsTwins 4 = .ok (.iconst 0, 1) := by decide +kernel
theorem dX10_readsTwins_5 : decode cX10_readsTwins 5 = .ok (.aload_n 0, 1) := by decide +kernel
theorem dX10_readsTwins_6 : decode cX10_readsTwins 6 = .ok (.getfield 15, 3) := by decide +kernel
theorem dX10_readsTwins_9 : decode cX10_readsTwins 9 = .ok (.getfield 79, 3) := by decide +kernel
theorem dX10_readsTwins_12 : decode cX10_readsTwins 12 = .ok (.iconst 1, 1) := by decide +kernel
theorem dX10_readsTwins_13 : decode cX10_readsTwins 13 = .ok (.isub, 1) := by decide +kernel
theorem dX10_readsTwins_14 : decode cX10_readsTwins 14 = .ok (.invokevirtual 85, 3) := by decide +kernel
theorem dX10_readsTwins_17 : decode cX10_readsTwins 17 = .ok (.istore_n 1, 1) := by decide +kernel
theorem dX10_readsTwins_18 : decode cX10_readsTwins 18 = .ok (.iload_n 1, 1) := by decide +kernel
theorem dX10_readsTwins_19 : decode cX10_readsTwins 19 = .ok (.ifCond .ge 5, 3) := by decide +kernel
theorem dX10_readsTwins_22 : decode cX10_readsTwins 22 = .ok (.iconst 0, 1) := by decide +kernel
theorem dX10_readsTwins_23 : decode cX10_readsTwins 23 = .ok (.ireturn, 1) := by decide +kernel
theorem dX10_readsTwins_24 : decode cX10_readsTwins 24 = .ok (.aload_n 0, 1) := by decide +kernel
theorem dX10_readsTwins_25 : decode cX10_readsTwins 25 = .ok (.getfield 9, 3) := by decide +kernel
theorem dX10_readsTwins_28 : decode cX10_readsTwins 28 = .ok (.getfield 111, 3) := by decide +kernel
theorem dX10_readsTwins_31 : decode cX10_readsTwins 31 = .ok (.istore_n 2, 1) := by decide +kernel
theorem dX10_readsTwins_32 : decode cX10_readsTwins 32 = .ok (.aload_n 0, 1) := by decide +kernel
theorem dX10_readsTwins_33 : decode cX10_readsTwins 33 = .ok (.getfield 9, 3) := by decide +kernel
theorem dX10_readsTwins_36 : decode cX10_readsTwins 36 = .ok (.iconst 0, 1) := by decide +kernel
theorem dX10_readsTwins_37 : decode cX10_readsTwins 37 = .ok (.aload_n 0, 1) := by decide +kernel
theorem dX10_readsTwins_38 : decode cX10_readsTwins 38 = .ok (.getfield 15, 3) := by decide +kernel
theorem dX10_readsTwins_41 : decode cX10_readsTwins 41 = .ok (.getfield 79, 3) := by decide +kernel
theorem dX10_readsTwins_44 : decode cX10_readsTwins 44 = .ok (.iconst 1, 1) := by decide +kernel
theorem dX10_readsTwins_45 : decode cX10_readsTwins 45 = .ok (.isub, 1) := by decide +kernel
theorem dX10_readsTwins_46 : decode cX10_readsTwins 46 = .ok (.invokevirtual 85, 3) := by decide +kernel
theorem dX10_readsTwins_49 : decode cX10_readsTwins 49 = .ok (.istore_n 3, 1) := by decide +kernel
theorem dX10_readsTwins_50 : decode cX10_readsTwins 50 = .ok (.iload_n 3, 1) := by decide +kernel
theorem dX10_readsTwins_51 : decode cX10_readsTwins 51 = .ok (.ifCond .ge 5, 3) := by decide +kernel
theorem dX10_readsTwins_54 : decode cX10_readsTwins 54 = .ok (.iconst 0, 1) := by decide +kernel
theorem dX10_readsTwins_55 : decode cX10_readsTwins 55 = .ok (.ireturn, 1) := by decide +kernel
theorem dX10_readsTwins_56 : decode cX10_readsTwins 56 = .ok (.iload_n 3, 1) := by decide +kernel
theorem dX10_readsTwins_57 : decode cX10_readsTwins 57 = .ok (.iload_n 1, 1) := by decide +kernel
theorem dX10_readsTwins_58 : decode cX10_readsTwins 58 = .ok (.if_icmp .ne 13, 3) := by decide +kernel
theorem dX10_readsTwins_61 : decode cX10_readsTwins 61 = .ok (.aload_n 0, 1) := by decide +kernel
theorem dX10_readsTwins_62 : decode cX10_readsTwins 62 = .ok (.getfield 9, 3) := by decide +kernel
theorem dX10_readsTwins_65 : decode cX10_readsTwins 65 = .ok (.iload_n 2, 1) := by decide +kernel
theorem dX10_readsTwins_66 : decode cX10_readsTwins 66 = .ok (.iconst 1, 1) := by decide +kernel
theorem dX10_readsTwins_67 : decode cX10_readsTwins 67 = .ok (.invokevirtual 114, 3) := by decide +kernel
theorem dX10_readsTwins_70 : decode cX10_readsTwins 70 = .ok (.ireturn, 1) := by decide +kernel
theorem dX10_readsTwins_71 : decode cX10_readsTwins 71 = .ok (.aload_n 0, 1) := by decide +kernel
theorem dX10_readsTwins_72 : decode cX10_readsTwins 72 = .ok (.getfield 15, 3) := by decide +kernel
theorem dX10_readsTwins_75 : decode cX10_readsTwins 75 = .ok (.getfield 118, 3) := by decide +kernel
theorem dX10_readsTwins_78 : decode cX10_readsTwins 78 = .ok (.iload_n 1, 1) := by decide +kernel
theorem dX10_readsTwins_79 : decode cX10_readsTwins 79 = .ok (.dup2, 1) := by decide +kernel
theorem dX10_readsTwins_80 : decode cX10_readsTwins 80 = .ok (.iaload, 1) := by decide +kernel
theorem dX10_readsTwins_81 : decode cX10_readsTwins 81 = .ok (.iconst 1, 1) := by decide +kernel
theorem dX10_readsTwins_82 : decode cX10_readsTwins 82 = .ok (.iload_n 3, 1) := by decide +kernel
theorem dX10_readsTwins_83 : decode cX10_readsTwins 83 = .ok (.ishl, 1) := by decide +kernel
theorem dX10_readsTwins_84 : decode cX10_readsTwins 84 = .ok (.ior, 1) := by decide +kernel
theorem dX10_readsTwins_85 : decode cX10_readsTwins 85 = .ok (.iastore, 1) := by decide +kernel
theorem dX10_readsTwins_86 : decode cX10_readsTwins 86 = .ok (.aload_n 0, 1) := by decide +kernel
theorem dX10_readsTwins_87 : decode cX10_readsTwins 87 = .ok (.getfield 15, 3) := by decide +kernel
theorem dX10_readsTwins_90 : decode cX10_readsTwins 90 = .ok (.getfield 118, 3) := by decide +kernel
theorem dX10_readsTwins_93 : decode cX10_readsTwins 93 = .ok (.iload_n 3, 1) := by decide +kernel
theorem dX10_readsTwins_94 : decode cX10_readsTwins 94 = .ok (.dup2, 1) := by decide +kernel
theorem dX10_readsTwins_95 : decode cX10_readsTwins 95 = .ok (.iaload, 1) := by decide +kernel
theorem dX10_readsTwins_96 : decode cX10_readsTwins 96 = .ok (.iconst 1, 1) := by decide +kernel
theorem dX10_readsTwins_97 : decode cX10_readsTwins 97 = .ok (.iload_n 1, 1) := by decide +kernel
theorem dX10_readsTwins_98 : decode cX10_readsTwins 98 = .ok (.ishl, 1) := by decide +kernel
theorem dX10_readsTwins_99 : decode cX10_readsTwins 99 = .ok (.ior, 1) := by decide +kernel
theorem dX10_readsTwins_100 : decode cX10_readsTwins 100 = .ok (.iastore, 1) := by decide +kernel
theorem dX10_readsTwins_101 : decode cX10_readsTwins 101 = .ok (.aload_n 0, 1) := by decide +kernel
theorem dX10_readsTwins_102 : decode cX10_readsTwins 102 = .ok (.dup, 1) := by decide +kernel
theorem dX10_readsTwins_103 : decode cX10_readsTwins 103 = .ok (.getfield 24, 3) := by decide +kernel
theorem dX10_readsTwins_106 : decode cX10_readsTwins 106 = .ok (.iconst 1, 1) := by decide +kernel
theorem dX10_readsTwins_107 : decode cX10_readsTwins 107 = .ok (.iadd, 1) := by decide +kernel
theorem dX10_readsTwins_108 : decode cX10_readsTwins 108 = .ok (.putfield 24, 3) := by decide +kernel
theorem dX10_readsTwins_111 : decode cX10_readsTwins 111 = .ok (.iconst 1, 1) := by decide +kernel
theorem dX10_readsTwins_112 : decode cX10_readsTwins 112 = .ok (.ireturn, 1) := by decide +kernel
theorem dX10_readsCase_0 : decode cX10_readsCase 0 = .ok (.aload_n 0, 1) := by decide +kernel
theorem dX10_readsCase_1 : decode cX10_readsCase 1 = .ok (.getfield 9, 3) := by decide +kernel
theorem dX10_readsCase_4 : decode cX10_readsCase 4 = .ok (.iconst 0, 1) := by decide +kernel
theorem dX10_readsCase_5 : decode cX10_readsCase 5 = .ok (.aload_n 0, 1) := by decide +kernel
theorem dX10_readsCase_6 : decode cX10_readsCase 6 = .ok (.getfield 15, 3) := by decide +kernel
theorem dX10_readsCase_9 : decode cX10_readsCase 9 = .ok (.getfield 79, 3) := by decide +kernel
theorem dX10_readsCase_12 : decode cX10_readsCase 12 = .ok (.iconst 1, 1) := by decide +kernel
theorem dX10_readsCase_13 : decode cX10_readsCase 13 = .ok (.isub, 1) := by decide +kernel
theorem dX10_readsCase_14 : decode cX10_readsCase 14 = .ok (.invokevirtual 85, 3) := by decide +kernel
theorem dX10_readsCase_17 : decode cX10_readsCase 17 = .ok (.istore_n 1, 1) := by decide +kernel
theorem dX10_readsCase_18 : decode cX10_readsCase 18 = .ok (.iload_n 1, 1) := by decide +kernel
theorem dX10_readsCase_19 : decode cX10_readsCase 19 = .ok (.ifCond .ge 7, 3) := by decide +kernel
theorem dX10_readsCase_22 : decode cX10_readsCase 22 = .ok (.iconst (-1), 1) := by decide +kernel
theorem dX10_readsCase_23 : decode cX10_readsCase 23 = .ok (.goto 13, 3) := by decide +kernel
theorem dX10_readsCase_26 : decode cX10_readsCase 26 = .ok (.aload_n 0, 1) := by decide +kernel
theorem dX10_readsCase_27 : decode cX10_readsCase 27 = .ok (.getfield 9, 3) := by decide +kernel
theorem dX10_readsCase_30 : decode cX10_readsCase 30 = .ok (.iconst 1, 1) := by decide +kernel
theorem dX10_readsCase_31 : decode cX10_readsCase 31 = .ok (.bipush 9, 2) := by decide +kernel
theorem dX10_readsCase_33 : decode cX10_readsCase 33 = .ok (.invokevirtual 85, 3) := by decide +kernel
theorem dX10_readsCase_36 : decode cX10_readsCase 36 = .ok (.istore_n 2, 1) := by decide +kernel
theorem dX10_readsCase_37 : decode cX10_readsCase 37 = .ok (.iload_n 2, 1) := by decide +kernel
theorem dX10_readsCase_38 : decode cX10_readsCase 38 = .ok (.ifCond .ge 7, 3) := by decide +kernel
theorem dX10_readsCase_41 : decode cX10_readsCase 41 = .ok (.iconst (-1), 1) := by decide +kernel
theorem dX10_readsCase_42 : decode cX10_readsCase 42 = .ok (.goto 13, 3) := by decide +kernel
theorem dX10_readsCase_45 : decode cX10_readsCase 45 = .ok (.aload_n 0, 1) := by decide +kernel
theorem dX10_readsCase_46 : decode cX10_readsCase 46 = .ok (.getfield 9, 3) := by decide +kernel
theorem dX10_readsCase_49 : decode cX10_readsCase 49 = .ok (.iconst 1, 1) := by decide +kernel
theorem dX10_readsCase_50 : decode cX10_readsCase 50 = .ok (.bipush 9, 2) := by decide +kernel
theorem dX10_readsCase_52 : decode cX10_readsCase 52 = .ok (.invokevirtual 85, 3) := by decide +kernel
theorem dX10_readsCase_55 : decode cX10_readsCase 55 = .ok (.istore_n 3, 1) := by decide +kernel
theorem dX10_readsCase_56 : decode cX10_readsCase 56 = .ok (.iload_n 3, 1) := by decide +kernel
theorem dX10_readsCase_57 : decode cX10_readsCase 57 = .ok (.ifCond .ge 7, 3) := by decide +kernel
theorem dX10_readsCase_60 : decode cX10_readsCase 60 = .ok (.iconst (-1), 1) := by decide +kernel
theorem dX10_readsCase_61 : decode cX10_readsCase 61 = .ok (.goto 13, 3) := by decide +kernel
theorem dX10_readsCase_64 : decode cX10_readsCase 64 = .ok (.aload_n 0, 1) := by decide +kernel
theorem dX10_readsCase_65 : decode cX10_readsCase 65 = .ok (.getfield 9, 3) := by decide +kernel
theorem dX10_readsCase_68 : decode cX10_readsCase 68 = .ok (.iconst 0, 1) := by decide +kernel
theorem dX10_readsCase_69 : decode cX10_readsCase 69 = .ok (.bipush 99, 2) := by decide +kernel
theorem dX10_readsCase_71 : decode cX10_readsCase 71 = .ok (.invokevirtual 85, 3) := by decide +kernel
theorem dX10_readsCase_74 : decode cX10_readsCase 74 = .ok (.istore 4, 2) := by decide +kernel
theorem dX10_readsCase_76 : decode cX10_readsCase 76 = .ok (.iload 4, 2) := by decide +kernel
theorem dX10_readsCase_78 : decode cX10_readsCase 78 = .ok (.ifCond .ge 5, 3) := by decide +kernel
theorem dX10_readsCase_81 : decode cX10_readsCase 81 = .ok (.iconst 0, 1) := by decide +kernel
theorem dX10_readsCase_82 : decode cX10_readsCase 82 = .ok (.ireturn, 1) := by decide +kernel
theorem dX10_readsCase_83 : decode cX10_readsCase 83 = .ok (.aload_n 0, 1) := by decide +kernel
theorem dX10_readsCase_84 : decode cX10_readsCase 84 = .ok (.getfield 15, 3) := by decide +kernel
theorem dX10_readsCase_87 : decode cX10_readsCase 87 = .ok (.getfield 121, 3) := by decide +kernel
theorem dX10_readsCase_90 : decode cX10_readsCase 90 = .ok (.aload_n 0, 1) := by decide +kernel
theorem dX10_readsCase_91 : decode cX10_readsCase 91 = .ok (.getfield 15, 3) := by decide +kernel
theorem dX10_readsCase_94 : decode cX10_readsCase 94 = .ok (.getfield 82, 3) := by decide +kernel
theorem dX10_readsCase_97 : decode cX10_readsCase 97 = .ok (.iload_n 1, 1) := by decide +kernel
theorem dX10_readsCase_98 : decode cX10_readsCase 98 = .ok (.iastore, 1) := by decide +kernel
theorem dX10_readsCase_99 : decode cX10_readsCase 99 = .ok (.aload_n 0, 1) := by decide +kernel
theorem dX10_readsCase_100 : decode cX10_readsCase 100 = .ok (.getfield 15, 3) := by decide +kernel
theorem dX10_readsCase_103 : decode cX10_readsCase 103 = .ok (.getfield 124, 3) := by decide +kernel
theorem dX10_readsCase_106 : decode cX10_readsCase 106 = .ok (.aload_n 0, 1) := by decide +kernel
theorem dX10_readsCase_107 : decode cX10_readsCase 107 = .ok (.getfield 15, 3) := by decide +kernel
theorem dX10_readsCase_110 : decode cX10_readsCase 110 = .ok (.getfield 82, 3) := by decide +kernel
theorem dX10_readsCase_113 : decode cX10_readsCase 113 = .ok (.iload_n 2, 1) := by decide +kernel
theorem dX10_readsCase_114 : decode cX10_readsCase 114 = .ok (.iastore, 1) := by decide +kernel
theorem dX10_readsCase_115 : decode cX10_readsCase 115 = .ok (.aload_n 0, 1) := by decide +kernel
theorem dX10_readsCase_116 : decode cX10_readsCase 116 = .ok (.getfield 15, 3) := by decide +kernel
theorem dX10_readsCase_119 : decode cX10_readsCase 119 = .ok (.getfield 127, 3) := by decide +kernel
theorem dX10_readsCase_122 : decode cX10_readsCase 122 = .ok (.aload_n 0, 1) := by decide +kernel
theorem dX10_readsCase_123 : decode cX10_readsCase 123 = .ok (.getfield 15, 3) := by decide +kernel
theorem dX10_readsCase_126 : decode cX10_readsCase 126 = .ok (.getfield 82, 3) := by decide +kernel
theorem dX10_readsCase_129 : decode cX10_readsCase 129 = .ok (.iload_n 3, 1) := by decide +kernel
theorem dX10_readsCase_130 : decode cX10_readsCase 130 = .ok (.iastore, 1) := by decide +kernel
theorem dX10_readsCase_131 : decode cX10_readsCase 131 = .ok (.aload_n 0, 1) := by decide +kernel
theorem dX10_readsCase_132 : decode cX10_readsCase 132 = .ok (.getfield 15, 3) := by decide +kernel
theorem dX10_readsCase_135 : decode cX10_readsCase 135 = .ok (.getfield 130, 3) := by decide +kernel
theorem dX10_readsCase_138 : decode cX10_readsCase 138 = .ok (.aload_n 0, 1) := by decide +kernel
theorem dX10_readsCase_139 : decode cX10_readsCase 139 = .ok (.getfield 15, 3) := by decide +kernel
theorem dX10_readsCase_142 : decode cX10_readsCase 142 = .ok (.getfield 82, 3) := by decide +kernel
theorem dX10_readsCase_145 : decode cX10_readsCase 145 = .ok (.iload 4, 2) := by decide +kernel
theorem dX10_readsCase_147 : decode cX10_readsCase 147 = .ok (.iastore, 1) := by decide +kernel
theorem dX10_readsCase_148 : decode cX10_readsCase 148 = .ok (.aload_n 0, 1) := by decide +kernel
theorem dX10_readsCase_149 : decode cX10_readsCase 149 = .ok (.getfield 15, 3) := by decide +kernel
theorem dX10_readsCase_152 : decode cX10_readsCase 152 = .ok (.dup, 1) := by decide +kernel
theorem dX10_readsCase_153 : decode cX10_readsCase 153 = .ok (.getfield 82, 3) := by decide +kernel
theorem dX10_readsCase_156 : decode cX10_readsCase 156 = .ok (.iconst 1, 1) := by decide +kernel
theorem dX10_readsCase_157 : decode cX10_readsCase 157 = .ok (.iadd, 1) := by decide +kernel
theorem dX10_readsCase_158 : decode cX10_readsCase 158 = .ok (.putfield 82, 3) := by decide +kernel
theorem dX10_readsCase_161 : decode cX10_readsCase 161 = .ok (.iconst 1, 1) := by decide +kernel
theorem dX10_readsCase_162 : decode cX10_readsCase 162 = .ok (.ireturn, 1) := by decide +kernel
theorem dX10_readsClause_0 : decode cX10_readsClause 0 = .ok (.aload_n 0, 1) := by decide +kernel
theorem dX10_readsClause_1 : decode cX10_readsClause 1 = .ok (.getfield 9, 3) := by decide +kernel
theorem dX10_readsClause_4 : decode cX10_readsClause 4 = .ok (.invokevirtual 52, 3) := by decide +kernel
theorem dX10_readsClause_7 : decode cX10_readsClause 7 = .ok (.istore_n 1, 1) := by decide +kernel
theorem dX10_readsClause_8 : decode cX10_readsClause 8 = .ok (.iload_n 1, 1) := by decide +kernel
theorem dX10_readsClause_9 : decode cX10_readsClause 9 = .ok (.bipush 17, 2) := by decide +kernel
theorem dX10_readsClause_11 : decode cX10_readsClause 11 = .ok (.if_icmp .ge 12, 3) := by decide +kernel
theorem dX10_readsClause_14 : decode cX10_readsClause 14 = .ok (.aload_n 0, 1) := by decide +kernel
theorem dX10_readsClause_15 : decode cX10_readsClause 15 = .ok (.getfield 9, 3) := by decide +kernel
theorem dX10_readsClause_18 : decode cX10_readsClause 18 = .ok (.iconst 0, 1) := by decide +kernel
theorem dX10_readsClause_19 : decode cX10_readsClause 19 = .ok (.invokevirtual 45, 3) := by decide +kernel
theorem dX10_readsClause_22 : decode cX10_readsClause 22 = .ok (.ireturn, 1) := by decide +kernel
theorem dX10_readsClause_23 : decode cX10_readsClause 23 = .ok (.aload_n 0, 1) := by decide +kernel
theorem dX10_readsClause_24 : decode cX10_readsClause 24 = .ok (.iload_n 1, 1) := by decide +kernel
theorem dX10_readsClause_25 : decode cX10_readsClause 25 = .ok (.invokevirtual 55, 3) := by decide +kernel
theorem dX10_readsClause_28 : decode cX10_readsClause 28 = .ok (.ifCond .eq 12, 3) := by decide +kernel
theorem dX10_readsClause_31 : decode cX10_readsClause 31 = .ok (.aload_n 0, 1) := by decide +kernel
theorem dX10_readsClause_32 : decode cX10_readsClause 32 = .ok (.getfield 9, 3) := by decide +kernel
theorem dX10_readsClause_35 : decode cX10_readsClause 35 = .ok (.iconst 4, 1) := by decide +kernel
theorem dX10_readsClause_36 : decode cX10_readsClause 36 = .ok (.invokevirtual 45, 3) := by decide +kernel
theorem dX10_readsClause_39 : decode cX10_readsClause 39 = .ok (.ireturn, 1) := by decide +kernel
theorem dX10_readsClause_40 : decode cX10_readsClause 40 = .ok (.aload_n 0, 1) := by decide +kernel
theorem dX10_readsClause_41 : decode cX10_readsClause 41 = .ok (.getfield 9, 3) := by decide +kernel
theorem dX10_readsClause_44 : decode cX10_readsClause 44 = .ok (.invokevirtual 58, 3) := by decide +kernel
theorem dX10_readsClause_47 : decode cX10_readsClause 47 = .ok (.iload_n 1, 1) := by decide +kernel
theorem dX10_readsClause_48 : decode cX10_readsClause 48 = .ok (.tableswitch 52 17 20 #[32, 37, 42, 47], 32) := by decide +kernel
theorem dX10_readsClause_80 : decode cX10_readsClause 80 = .ok (.aload_n 0, 1) := by decide +kernel
theorem dX10_readsClause_81 : decode cX10_readsClause 81 = .ok (.invokevirtual 61, 3) := by decide +kernel
theorem dX10_readsClause_84 : decode cX10_readsClause 84 = .ok (.ireturn, 1) := by decide +kernel
theorem dX10_readsClause_85 : decode cX10_readsClause 85 = .ok (.aload_n 0, 1) := by decide +kernel
theorem dX10_readsClause_86 : decode cX10_readsClause 86 = .ok (.invokevirtual 64, 3) := by decide +kernel
theorem dX10_readsClause_89 : decode cX10_readsClause 89 = .ok (.ireturn, 1) := by decide +kernel
theorem dX10_readsClause_90 : decode cX10_readsClause 90 = .ok (.aload_n 0, 1) := by decide +kernel
theorem dX10_readsClause_91 : decode cX10_readsClause 91 = .ok (.invokevirtual 67, 3) := by decide +kernel
theorem dX10_readsClause_94 : decode cX10_readsClause 94 = .ok (.ireturn, 1) := by decide +kernel
theorem dX10_readsClause_95 : decode cX10_readsClause 95 = .ok (.aload_n 0, 1) := by decide +kernel
theorem dX10_readsClause_96 : decode cX10_readsClause 96 = .ok (.invokevirtual 70, 3) := by decide +kernel
theorem dX10_readsClause_99 : decode cX10_readsClause 99 = .ok (.ireturn, 1) := by decide +kernel
theorem dX10_readsClause_100 : decode cX10_readsClause 100 = .ok (.aload_n 0, 1) := by decide +kernel
theorem dX10_readsClause_101 : decode cX10_readsClause 101 = .ok (.invokevirtual 73, 3) := by decide +kernel
theorem dX10_readsClause_104 : decode cX10_readsClause 104 = .ok (.ireturn, 1) := by decide +kernel
theorem dX10_reads_0 : decode cX10_reads 0 = .ok (.aload_n 0, 1) := by decide +kernel
theorem dX10_reads_1 : decode cX10_reads 1 = .ok (.getfield 15, 3) := by decide +kernel
theorem dX10_reads_4 : decode cX10_reads 4 = .ok (.invokevirtual 19, 3) := by decide +kernel
theorem dX10_reads_7 : decode cX10_reads 7 = .ok (.aload_n 0, 1) := by decide +kernel
theorem dX10_reads_8 : decode cX10_reads 8 = .ok (.iconst 0, 1) := by decide +kernel
theorem dX10_reads_9 : decode cX10_reads 9 = .ok (.putfield 24, 3) := by decide +kernel
theorem dX10_reads_12 : decode cX10_reads 12 = .ok (.aload_n 0, 1) := by decide +kernel
theorem dX10_reads_13 : decode cX10_reads 13 = .ok (.iconst 0, 1) := by decide +kernel
theorem dX10_reads_14 : decode cX10_reads 14 = .ok (.putfield 28, 3) := by decide +kernel
theorem dX10_reads_17 : decode cX10_reads 17 = .ok (.aload_n 0, 1) := by decide +kernel
theorem dX10_reads_18 : decode cX10_reads 18 = .ok (.iconst 0, 1) := by decide +kernel
theorem dX10_reads_19 : decode cX10_reads 19 = .ok (.putfield 32, 3) := by decide +kernel
theorem dX10_reads_22 : decode cX10_reads 22 = .ok (.aload_n 0, 1) := by decide +kernel
theorem dX10_reads_23 : decode cX10_reads 23 = .ok (.getfield 32, 3) := by decide +kernel
theorem dX10_reads_26 : decode cX10_reads 26 = .ok (.bipush 40, 2) := by decide +kernel
theorem dX10_reads_28 : decode cX10_reads 28 = .ok (.if_icmp .gt 66, 3) := by decide +kernel
theorem dX10_reads_31 : decode cX10_reads 31 = .ok (.aload_n 0, 1) := by decide +kernel
theorem dX10_reads_32 : decode cX10_reads 32 = .ok (.invokevirtual 35, 3) := by decide +kernel
theorem dX10_reads_35 : decode cX10_reads 35 = .ok (.ifCond .ne 5, 3) := by decide +kernel
theorem dX10_reads_38 : decode cX10_reads 38 = .ok (.iconst 0, 1) := by decide +kernel
theorem dX10_reads_39 : decode cX10_reads 39 = .ok (.ireturn, 1) := by decide +kernel
theorem dX10_reads_40 : decode cX10_reads 40 = .ok (.aload_n 0, 1) := by decide +kernel
theorem dX10_reads_41 : decode cX10_reads 41 = .ok (.getfield 9, 3) := by decide +kernel
theorem dX10_reads_44 : decode cX10_reads 44 = .ok (.invokevirtual 39, 3) := by decide +kernel
theorem dX10_reads_47 : decode cX10_reads 47 = .ok (.iconst (-1), 1) := by decide +kernel
theorem dX10_reads_48 : decode cX10_reads 48 = .ok (.if_icmp .ne 5, 3) := by decide +kernel
theorem dX10_reads_51 : decode cX10_reads 51 = .ok (.iconst 1, 1) := by decide +kernel
theorem dX10_reads_52 : decode cX10_reads 52 = .ok (.ireturn, 1) := by decide +kernel
theorem dX10_reads_53 : decode cX10_reads 53 = .ok (.aload_n 0, 1) := by decide +kernel
theorem dX10_reads_54 : decode cX10_reads 54 = .ok (.getfield 9, 3) := by decide +kernel
theorem dX10_reads_57 : decode cX10_reads 57 = .ok (.invokevirtual 39, 3) := by decide +kernel
theorem dX10_reads_60 : decode cX10_reads 60 = .ok (.bipush 59, 2) := by decide +kernel
theorem dX10_reads_62 : decode cX10_reads 62 = .ok (.if_icmp .eq 12, 3) := by decide +kernel
theorem dX10_reads_65 : decode cX10_reads 65 = .ok (.aload_n 0, 1) := by decide +kernel
theorem dX10_reads_66 : decode cX10_reads 66 = .ok (.getfield 9, 3) := by decide +kernel
theorem dX10_reads_69 : decode cX10_reads 69 = .ok (.iconst 0, 1) := by decide +kernel
theorem dX10_reads_70 : decode cX10_reads 70 = .ok (.invokevirtual 45, 3) := by decide +kernel
theorem dX10_reads_73 : decode cX10_reads 73 = .ok (.ireturn, 1) := by decide +kernel
theorem dX10_reads_74 : decode cX10_reads 74 = .ok (.aload_n 0, 1) := by decide +kernel
theorem dX10_reads_75 : decode cX10_reads 75 = .ok (.getfield 9, 3) := by decide +kernel
theorem dX10_reads_78 : decode cX10_reads 78 = .ok (.invokevirtual 49, 3) := by decide +kernel
theorem dX10_reads_81 : decode cX10_reads 81 = .ok (.aload_n 0, 1) := by decide +kernel
theorem dX10_reads_82 : decode cX10_reads 82 = .ok (.dup, 1) := by decide +kernel
theorem dX10_reads_83 : decode cX10_reads 83 = .ok (.getfield 32, 3) := by decide +kernel
theorem dX10_reads_86 : decode cX10_reads 86 = .ok (.iconst 1, 1) := by decide +kernel
theorem dX10_reads_87 : decode cX10_reads 87 = .ok (.iadd, 1) := by decide +kernel
theorem dX10_reads_88 : decode cX10_reads 88 = .ok (.putfield 32, 3) := by decide +kernel
theorem dX10_reads_91 : decode cX10_reads 91 = .ok (.goto (-69), 3) := by decide +kernel
theorem dX10_reads_94 : decode cX10_reads 94 = .ok (.iconst 0, 1) := by decide +kernel
theorem dX10_reads_95 : decode cX10_reads 95 = .ok (.ireturn, 1) := by decide +kernel
theorem dX11_putBytes_0 : decode cX11_putBytes 0 = .ok (.bipush 24, 2) := by decide +kernel
theorem dX11_putBytes_2 : decode cX11_putBytes 2 = .ok (.istore_n 2, 1) := by decide +kernel
theorem dX11_putBytes_3 : decode cX11_putBytes 3 = .ok (.iload_n 2, 1) := by decide +kernel
theorem dX11_putBytes_4 : decode cX11_putBytes 4 = .ok (.ifCond .lt 45, 3) := by decide +kernel
theorem dX11_putBytes_7 : decode cX11_putBytes 7 = .ok (.aload_n 0, 1) := by decide +kernel
theorem dX11_putBytes_8 : decode cX11_putBytes 8 = .ok (.getfield 106, 3) := by decide +kernel
theorem dX11_putBytes_11 : decode cX11_putBytes 11 = .ok (.sipush 400, 3) := by decide +kernel
theorem dX11_putBytes_14 : decode cX11_putBytes 14 = .ok (.if_icmp .ge 35, 3) := by decide +kernel
theorem dX11_putBytes_17 : decode cX11_putBytes 17 = .ok (.aload_n 0, 1) := by decide +kernel
theorem dX11_putBytes_18 : decode cX11_putBytes 18 = .ok (.getfield 9, 3) := by decide +kernel
theorem dX11_putBytes_21 : decode cX11_putBytes 21 = .ok (.aload_n 0, 1) := by decide +kernel
theorem dX11_putBytes_22 : decode cX11_putBytes 22 = .ok (.getfield 106, 3) := by decide +kernel
theorem dX11_putBytes_25 : decode cX11_putBytes 25 = .ok (.iload_n 1, 1) := by decide +kernel
theorem dX11_putBytes_26 : decode cX11_putBytes 26 = .ok (.iload_n 2, 1) := by decide +kernel
theorem dX11_putBytes_27 : decode cX11_putBytes 27 = .ok (.iushr, 1) := by decide +kernel
theorem dX11_putBytes_28 : decode cX11_putBytes 28 = .ok (.sipush 255, 3) := by decide +kernel
theorem dX11_putBytes_31 : decode cX11_putBytes 31 = .ok (.iand, 1) := by decide +kernel
theorem dX11_putBytes_32 : decode cX11_putBytes 32 = .ok (.iastore, 1) := by decide +kernel
theorem dX11_putBytes_33 : decode cX11_putBytes 33 = .ok (.aload_n 0, 1) := by decide +kernel
theorem dX11_putBytes_34 : decode cX11_putBytes 34 = .ok (.dup, 1) := by decide +kernel
theorem dX11_putBytes_35 : decode cX11_putBytes 35 = .ok (.getfield 106, 3) := by decide +kernel
theorem dX11_putBytes_38 : decode cX11_putBytes 38 = .ok (.iconst 1, 1) := by decide +kernel
theorem dX11_putBytes_39 : decode cX11_putBytes 39 = .ok (.iadd, 1) := by decide +kernel
theorem dX11_putBytes_40 : decode cX11_putBytes 40 = .ok (.putfield 106, 3) := by decide +kernel
theorem dX11_putBytes_43 : decode cX11_putBytes 43 = .ok (.iinc 2 (-8), 3) := by decide +kernel
theorem dX11_putBytes_46 : decode cX11_putBytes 46 = .ok (.goto (-43), 3) := by decide +kernel
theorem dX11_putBytes_49 : decode cX11_putBytes 49 = .ok (.return_, 1) := by decide +kernel
theorem dX11_feed_0 : decode cX11_feed 0 = .ok (.aload_n 0, 1) := by decide +kernel
theorem dX11_feed_1 : decode cX11_feed 1 = .ok (.getfield 106, 3) := by decide +kernel
theorem dX11_feed_4 : decode cX11_feed 4 = .ok (.bipush 20, 2) := by decide +kernel
theorem dX11_feed_6 : decode cX11_feed 6 = .ok (.iadd, 1) := by decide +kernel
theorem dX11_feed_7 : decode cX11_feed 7 = .ok (.sipush 400, 3) := by decide +kernel
theorem dX11_feed_10 : decode cX11_feed 10 = .ok (.if_icmp .le 5, 3) := by decide +kernel
theorem dX11_feed_13 : decode cX11_feed 13 = .ok (.iconst (-1), 1) := by decide +kernel
theorem dX11_feed_14 : decode cX11_feed 14 = .ok (.ireturn, 1) := by decide +kernel
theorem dX11_feed_15 : decode cX11_feed 15 = .ok (.aload_n 0, 1) := by decide +kernel
theorem dX11_feed_16 : decode cX11_feed 16 = .ok (.iload_n 1, 1) := by decide +kernel
theorem dX11_feed_17 : decode cX11_feed 17 = .ok (.invokevirtual 113, 3) := by decide +kernel
theorem dX11_feed_20 : decode cX11_feed 20 = .ok (.aload_n 0, 1) := by decide +kernel
theorem dX11_feed_21 : decode cX11_feed 21 = .ok (.iload_n 2, 1) := by decide +kernel
theorem dX11_feed_22 : decode cX11_feed 22 = .ok (.invokevirtual 113, 3) := by decide +kernel
theorem dX11_feed_25 : decode cX11_feed 25 = .ok (.aload_n 0, 1) := by decide +kernel
theorem dX11_feed_26 : decode cX11_feed 26 = .ok (.iload_n 3, 1) := by decide +kernel
theorem dX11_feed_27 : decode cX11_feed 27 = .ok (.invokevirtual 113, 3) := by decide +kernel
theorem dX11_feed_30 : decode cX11_feed 30 = .ok (.aload_n 0, 1) := by decide +kernel
theorem dX11_feed_31 : decode cX11_feed 31 = .ok (.iload 4, 2) := by decide +kernel
theorem dX11_feed_33 : decode cX11_feed 33 = .ok (.invokevirtual 113, 3) := by decide +kernel
theorem dX11_feed_36 : decode cX11_feed 36 = .ok (.aload_n 0, 1) := by decide +kernel
theorem dX11_feed_37 : decode cX11_feed 37 = .ok (.iload 5, 2) := by decide +kernel
theorem dX11_feed_39 : decode cX11_feed 39 = .ok (.invokevirtual 113, 3) := by decide +kernel
theorem dX11_feed_42 : decode cX11_feed 42 = .ok (.aload_n 0, 1) := by decide +kernel
theorem dX11_feed_43 : decode cX11_feed 43 = .ok (.getfield 106, 3) := by decide +kernel
theorem dX11_feed_46 : decode cX11_feed 46 = .ok (.ireturn, 1) := by decide +kernel
theorem dX11_end_0 : decode cX11_end 0 = .ok (.iload_n 1, 1) := by decide +kernel
theorem dX11_end_1 : decode cX11_end 1 = .ok (.ifCond .lt 11, 3) := by decide +kernel
theorem dX11_end_4 : decode cX11_end 4 = .ok (.iload_n 1, 1) := by decide +kernel
theorem dX11_end_5 : decode cX11_end 5 = .ok (.aload_n 0, 1) := by decide +kernel
theorem dX11_end_6 : decode cX11_end 6 = .ok (.getfield 106, 3) := by decide +kernel
theorem dX11_end_9 : decode cX11_end 9 = .ok (.if_icmp .le 5, 3) := by decide +kernel
theorem dX11_end_12 : decode cX11_end 12 = .ok (.iconst (-1), 1) := by decide +kernel
theorem dX11_end_13 : decode cX11_end 13 = .ok (.ireturn, 1) := by decide +kernel
theorem dX11_end_14 : decode cX11_end 14 = .ok (.aload_n 0, 1) := by decide +kernel
theorem dX11_end_15 : decode cX11_end 15 = .ok (.iload_n 1, 1) := by decide +kernel
theorem dX11_end_16 : decode cX11_end 16 = .ok (.putfield 106, 3) := by decide +kernel
theorem dX11_end_19 : decode cX11_end 19 = .ok (.iload_n 1, 1) := by decide +kernel
theorem dX11_end_20 : decode cX11_end 20 = .ok (.ireturn, 1) := by decide +kernel
theorem dX11_openTape_0 : decode cX11_openTape 0 = .ok (.aload_n 0, 1) := by decide +kernel
theorem dX11_openTape_1 : decode cX11_openTape 1 = .ok (.getfield 18, 3) := by decide +kernel
theorem dX11_openTape_4 : decode cX11_openTape 4 = .ok (.aload_n 0, 1) := by decide +kernel
theorem dX11_openTape_5 : decode cX11_openTape 5 = .ok (.getfield 106, 3) := by decide +kernel
theorem dX11_openTape_8 : decode cX11_openTape 8 = .ok (.invokevirtual 140, 3) := by decide +kernel
theorem dX11_openTape_11 : decode cX11_openTape 11 = .ok (.aload_n 0, 1) := by decide +kernel
theorem dX11_openTape_12 : decode cX11_openTape 12 = .ok (.iconst 0, 1) := by decide +kernel
theorem dX11_openTape_13 : decode cX11_openTape 13 = .ok (.putfield 106, 3) := by decide +kernel
theorem dX11_openTape_16 : decode cX11_openTape 16 = .ok (.return_, 1) := by decide +kernel
theorem dX11_town_0 : decode cX11_town 0 = .ok (.aload_n 0, 1) := by decide +kernel
theorem dX11_town_1 : decode cX11_town 1 = .ok (.invokevirtual 117, 3) := by decide +kernel
theorem dX11_town_4 : decode cX11_town 4 = .ok (.aload_n 0, 1) := by decide +kernel
theorem dX11_town_5 : decode cX11_town 5 = .ok (.getfield 83, 3) := by decide +kernel
theorem dX11_town_8 : decode cX11_town 8 = .ok (.invokevirtual 120, 3) := by decide +kernel
theorem dX11_town_11 : decode cX11_town 11 = .ok (.ifCond .ne 14, 3) := by decide +kernel
theorem dX11_town_14 : decode cX11_town 14 = .ok (.bipush (-2), 2) := by decide +kernel
theorem dX11_town_16 : decode cX11_town 16 = .ok (.aload_n 0, 1) := by decide +kernel
theorem dX11_town_17 : decode cX11_town 17 = .ok (.getfield 18, 3) := by decide +kernel
theorem dX11_town_20 : decode cX11_town 20 = .ok (.getfield 124, 3) := by decide +kernel
theorem dX11_town_23 : decode cX11_town 23 = .ok (.isub, 1) := by decide +kernel
theorem dX11_town_24 : decode cX11_town 24 = .ok (.ireturn, 1) := by decide +kernel
theorem dX11_town_25 : decode cX11_town 25 = .ok (.aload_n 0, 1) := by decide +kernel
theorem dX11_town_26 : decode cX11_town 26 = .ok (.getfield 31, 3) := by decide +kernel
theorem dX11_town_29 : decode cX11_town 29 = .ok (.aload_n 0, 1) := by decide +kernel
theorem dX11_town_30 : decode cX11_town 30 = .ok (.getfield 74, 3) := by decide +kernel
theorem dX11_town_33 : decode cX11_town 33 = .ok (.invokevirtual 127, 3) := by decide +kernel
theorem dX11_town_36 : decode cX11_town 36 = .ok (.aload_n 0, 1) := by decide +kernel
theorem dX11_town_37 : decode cX11_town 37 = .ok (.getfield 42, 3) := by decide +kernel
theorem dX11_town_40 : decode cX11_town 40 = .ok (.invokevirtual 131, 3) := by decide +kernel
theorem dX11_town_43 : decode cX11_town 43 = .ok (.aload_n 0, 1) := by decide +kernel
theorem dX11_town_44 : decode cX11_town 44 = .ok (.getfield 31, 3) := by decide +kernel
theorem dX11_town_47 : decode cX11_town 47 = .ok (.getfield 134, 3) := by decide +kernel
theorem dX11_town_50 : decode cX11_town 50 = .ok (.getfield 137, 3) := by decide +kernel
theorem dX11_town_53 : decode cX11_town 53 = .ok (.ireturn, 1) := by decide +kernel
theorem dX11_force_0 : decode cX11_force 0 = .ok (.iload_n 1, 1) := by decide +kernel
theorem dX11_force_1 : decode cX11_force 1 = .ok (.iconst (-1), 1) := by decide +kernel
theorem dX11_force_2 : decode cX11_force 2 = .ok (.if_icmp .lt 11, 3) := by decide +kernel
theorem dX11_force_5 : decode cX11_force 5 = .ok (.iload_n 1, 1) := by decide +kernel
theorem dX11_force_6 : decode cX11_force 6 = .ok (.aload_n 0, 1) := by decide +kernel
theorem dX11_force_7 : decode cX11_force 7 = .ok (.getfield 110, 3) := by decide +kernel
theorem dX11_force_10 : decode cX11_force 10 = .ok (.if_icmp .lt 6, 3) := by decide +kernel
theorem dX11_force_13 : decode cX11_force 13 = .ok (.bipush (-2), 2) := by decide +kernel
theorem dX11_force_15 : decode cX11_force 15 = .ok (.ireturn, 1) := by decide +kernel
theorem dX11_force_16 : decode cX11_force 16 = .ok (.aload_n 0, 1) := by decide +kernel
theorem dX11_force_17 : decode cX11_force 17 = .ok (.getfield 31, 3) := by decide +kernel
theorem dX11_force_20 : decode cX11_force 20 = .ok (.getfield 148, 3) := by decide +kernel
theorem dX11_force_23 : decode cX11_force 23 = .ok (.istore_n 2, 1) := by decide +kernel
theorem dX11_force_24 : decode cX11_force 24 = .ok (.aload_n 0, 1) := by decide +kernel
theorem dX11_force_25 : decode cX11_force 25 = .ok (.getfield 31, 3) := by decide +kernel
theorem dX11_force_28 : decode cX11_force 28 = .ok (.iload_n 1, 1) := by decide +kernel
theorem dX11_force_29 : decode cX11_force 29 = .ok (.putfield 148, 3) := by decide +kernel
theorem dX11_force_32 : decode cX11_force 32 = .ok (.iload_n 2, 1) := by decide +kernel
theorem dX11_force_33 : decode cX11_force 33 = .ok (.ireturn, 1) := by decide +kernel
theorem dX11_person_0 : decode cX11_person 0 = .ok (.aload_n 0, 1) := by decide +kernel
theorem dX11_person_1 : decode cX11_person 1 = .ok (.getfield 31, 3) := by decide +kernel
theorem dX11_person_4 : decode cX11_person 4 = .ok (.getfield 134, 3) := by decide +kernel
theorem dX11_person_7 : decode cX11_person 7 = .ok (.iload_n 1, 1) := by decide +kernel
theorem dX11_person_8 : decode cX11_person 8 = .ok (.invokevirtual 151, 3) := by decide +kernel
theorem dX11_person_11 : decode cX11_person 11 = .ok (.ifCond .ne 5, 3) := by decide +kernel
theorem dX11_person_14 : decode cX11_person 14 = .ok (.iconst (-1), 1) := by decide +kernel
theorem dX11_person_15 : decode cX11_person 15 = .ok (.ireturn, 1) := by decide +kernel
theorem dX11_person_16 : decode cX11_person 16 = .ok (.aload_n 0, 1) := by decide +kernel
theorem dX11_person_17 : decode cX11_person 17 = .ok (.getfield 31, 3) := by decide +kernel
theorem dX11_person_20 : decode cX11_person 20 = .ok (.getfield 134, 3) := by decide +kernel
theorem dX11_person_23 : decode cX11_person 23 = .ok (.astore_n 3, 1) := by decide +kernel
theorem dX11_person_24 : decode cX11_person 24 = .ok (.aload_n 0, 1) := by decide +kernel
theorem dX11_person_25 : decode cX11_person 25 = .ok (.getfield 31, 3) := by decide +kernel
theorem dX11_person_28 : decode cX11_person 28 = .ok (.getfield 155, 3) := by decide +kernel
theorem dX11_person_31 : decode cX11_person 31 = .ok (.astore 4, 2) := by decide +kernel
theorem dX11_person_33 : decode cX11_person 33 = .ok (.aload_n 3, 1) := by decide +kernel
theorem dX11_person_34 : decode cX11_person 34 = .ok (.getfield 158, 3) := by decide +kernel
theorem dX11_person_37 : decode cX11_person 37 = .ok (.iload_n 1, 1) := by decide +kernel
theorem dX11_person_38 : decode cX11_person 38 = .ok (.iaload, 1) := by decide +kernel
theorem dX11_person_39 : decode cX11_person 39 = .ok (.aload 4, 2) := by decide +kernel
theorem dX11_person_41 : decode cX11_person 41 = .ok (.getfield 161, 3) := by decide +kernel
theorem dX11_person_44 : decode cX11_person 44 = .ok (.iadd, 1) := by decide +kernel
theorem dX11_person_45 : decode cX11_person 45 = .ok (.istore 5, 2) := by decide +kernel
theorem dX11_person_47 : decode cX11_person 47 = .ok (.iload_n 2, 1) := by decide +kernel
theorem dX11_person_48 : decode cX11_person 48 = .ok (.tableswitch 110 0 7 #[48, 51, 59, 66, 73, 80, 87, 95], 48) := by decide +kernel
theorem dX11_person_96 : decode cX11_person 96 = .ok (.iload 5, 2) := by decide +kernel
theorem dX11_person_98 : decode cX11_person 98 = .ok (.ireturn, 1) := by decide +kernel
theorem dX11_person_99 : decode cX11_person 99 = .ok (.aload 4, 2) := by decide +kernel
theorem dX11_person_101 : decode cX11_person 101 = .ok (.getfield 164, 3) := by decide +kernel
theorem dX11_person_104 : decode cX11_person 104 = .ok (.iload_n 1, 1) := by decide +kernel
theorem dX11_person_105 : decode cX11_person 105 = .ok (.iaload, 1) := by decide +kernel
theorem dX11_person_106 : decode cX11_person 106 = .ok (.ireturn, 1) := by decide +kernel
theorem dX11_person_107 : decode cX11_person 107 = .ok (.aload_n 3, 1) := by decide +kernel
theorem dX11_person_108 : decode cX11_person 108 = .ok (.getfield 167, 3) := by decide +kernel
theorem dX11_person_111 : decode cX11_person 111 = .ok (.iload_n 1, 1) := by decide +kernel
theorem dX11_person_112 : decode cX11_person 112 = .ok (.iaload, 1) := by decide +kernel
theorem dX11_person_113 : decode cX11_person 113 = .ok (.ireturn, 1) := by decide +kernel
theorem dX11_person_114 : decode cX11_person 114 = .ok (.aload_n 3, 1) := by decide +kernel
theorem dX11_person_115 : decode cX11_person 115 = .ok (.getfield 170, 3) := by decide +kernel
theorem dX11_person_118 : decode cX11_person 118 = .ok (.iload_n 1, 1) := by decide +kernel
theorem dX11_person_119 : decode cX11_person 119 = .ok (.iaload, 1) := by decide +kernel
theorem dX11_person_120 : decode cX11_person 120 = .ok (.ireturn, 1) := by decide +kernel
theorem dX11_person_121 : decode cX11_person 121 = .ok (.aload_n 3, 1) := by decide +kernel
theorem dX11_person_122 : decode cX11_person 122 = .ok (.iload 5, 2) := by decide +kernel
theorem dX11_person_124 : decode cX11_person 124 = .ok (.invokevirtual 173, 3) := by decide +kernel
theorem dX11_person_127 : decode cX11_person 127 = .ok (.ireturn, 1) := by decide +kernel
theorem dX11_person_128 : decode cX11_person 128 = .ok (.aload 4, 2) := by decide +kernel
theorem dX11_person_130 : decode cX11_person 130 = .ok (.iload_n 1, 1) := by decide +kernel
theorem dX11_person_131 : decode cX11_person 131 = .ok (.invokevirtual 177, 3) := by decide +kernel
theorem dX11_person_134 : decode cX11_person 134 = .ok (.ireturn, 1) := by decide +kernel
theorem dX11_person_135 : decode cX11_person 135 = .ok (.aload 4, 2) := by decide +kernel
theorem dX11_person_137 : decode cX11_person 137 = .ok (.getfield 180, 3) := by decide +kernel
theorem dX11_person_140 : decode cX11_person 140 = .ok (.iload_n 1, 1) := by decide +kernel
theorem dX11_person_141 : decode cX11_person 141 = .ok (.iaload, 1) := by decide +kernel
theorem dX11_person_142 : decode cX11_person 142 = .ok (.ireturn, 1) := by decide +kernel
theorem dX11_person_143 : decode cX11_person 143 = .ok (.aload_n 3, 1) := by decide +kernel
theorem dX11_person_144 : decode cX11_person 144 = .ok (.iload 5, 2) := by decide +kernel
theorem dX11_person_146 : decode cX11_person 146 = .ok (.invokevirtual 183, 3) := by decide +kernel
theorem dX11_person_149 : decode cX11_person 149 = .ok (.ifCond .eq 7, 3) := by decide +kernel
theorem dX11_person_152 : decode cX11_person 152 = .ok (.iconst 1, 1) := by decide +kernel
theorem dX11_person_153 : decode cX11_person 153 = .ok (.goto 4, 3) := by decide +kernel
theorem dX11_person_156 : decode cX11_person 156 = .ok (.iconst 0, 1) := by decide +kernel
theorem dX11_person_157 : decode cX11_person 157 = .ok (.ireturn, 1) := by decide +kernel
theorem dX11_person_158 : decode cX11_person 158 = .ok (.iconst (-1), 1) := by decide +kernel
theorem dX11_person_159 : decode cX11_person 159 = .ok (.ireturn, 1) := by decide +kernel
theorem dX11_trial_0 : decode cX11_trial 0 = .ok (.aload_n 0, 1) := by decide +kernel
theorem dX11_trial_1 : decode cX11_trial 1 = .ok (.getfield 31, 3) := by decide +kernel
theorem dX11_trial_4 : decode cX11_trial 4 = .ok (.getfield 134, 3) := by decide +kernel
theorem dX11_trial_7 : decode cX11_trial 7 = .ok (.iload_n 1, 1) := by decide +kernel
theorem dX11_trial_8 : decode cX11_trial 8 = .ok (.invokevirtual 186, 3) := by decide +kernel
theorem dX11_trial_11 : decode cX11_trial 11 = .ok (.ifCond .ne 6, 3) := by decide +kernel
theorem dX11_trial_14 : decode cX11_trial 14 = .ok (.bipush (-2), 2) := by decide +kernel
theorem dX11_trial_16 : decode cX11_trial 16 = .ok (.ireturn, 1) := by decide +kernel
theorem dX11_trial_17 : decode cX11_trial 17 = .ok (.aload_n 0, 1) := by decide +kernel
theorem dX11_trial_18 : decode cX11_trial 18 = .ok (.getfield 31, 3) := by decide +kernel
theorem dX11_trial_21 : decode cX11_trial 21 = .ok (.getfield 134, 3) := by decide +kernel
theorem dX11_trial_24 : decode cX11_trial 24 = .ok (.astore_n 3, 1) := by decide +kernel
theorem dX11_trial_25 : decode cX11_trial 25 = .ok (.aload_n 0, 1) := by decide +kernel
theorem dX11_trial_26 : decode cX11_trial 26 = .ok (.getfield 31, 3) := by decide +kernel
theorem dX11_trial_29 : decode cX11_trial 29 = .ok (.getfield 155, 3) := by decide +kernel
theorem dX11_trial_32 : decode cX11_trial 32 = .ok (.astore 4, 2) := by decide +kernel
theorem dX11_trial_34 : decode cX11_trial 34 = .ok (.iload_n 2, 1) := by decide +kernel
theorem dX11_trial_35 : decode cX11_trial 35 = .ok (.tableswitch 129 0 9 #[53, 60, 67, 74, 81, 89, 97, 105, 113, 121], 53) := by decide +kernel
theorem dX11_trial_88 : decode cX11_trial 88 = .ok (.aload_n 3, 1) := by decide +kernel
theorem dX11_trial_89 : decode cX11_trial 89 = .ok (.getfield 189, 3) := by decide +kernel
theorem dX11_trial_92 : decode cX11_trial 92 = .ok (.iload_n 1, 1) := by decide +kernel
theorem dX11_trial_93 : decode cX11_trial 93 = .ok (.iaload, 1) := by decide +kernel
theorem dX11_trial_94 : decode cX11_trial 94 = .ok (.ireturn, 1) := by decide +kernel
theorem dX11_trial_95 : decode cX11_trial 95 = .ok (.aload_n 3, 1) := by decide +kernel
theorem dX11_trial_96 : decode cX11_trial 96 = .ok (.getfield 192, 3) := by decide +kernel
theorem dX11_trial_99 : decode cX11_trial 99 = .ok (.iload_n 1, 1) := by decide +kernel
theorem dX11_trial_100 : decode cX11_trial 100 = .ok (.iaload, 1) := by decide +kernel
theorem dX11_trial_101 : decode cX11_trial 101 = .ok (.ireturn, 1) := by decide +kernel
theorem dX11_trial_102 : decode cX11_trial 102 = .ok (.aload_n 3, 1) := by decide +kernel
theorem dX11_trial_103 : decode cX11_trial 103 = .ok (.getfield 195, 3) := by decide +kernel
theorem dX11_trial_106 : decode cX11_trial 106 = .ok (.iload_n 1, 1) := by decide +kernel
theorem dX11_trial_107 : decode cX11_trial 107 = .ok (.iaload, 1) := by decide +kernel
theorem dX11_trial_108 : decode cX11_trial 108 = .ok (.ireturn, 1) := by decide +kernel
theorem dX11_trial_109 : decode cX11_trial 109 = .ok (.aload_n 3, 1) := by decide +kernel
theorem dX11_trial_110 : decode cX11_trial 110 = .ok (.getfield 198, 3) := by decide +kernel
theorem dX11_trial_113 : decode cX11_trial 113 = .ok (.iload_n 1, 1) := by decide +kernel
theorem dX11_trial_114 : decode cX11_trial 114 = .ok (.iaload, 1) := by decide +kernel
theorem dX11_trial_115 : decode cX11_trial 115 = .ok (.ireturn, 1) := by decide +kernel
theorem dX11_trial_116 : decode cX11_trial 116 = .ok (.aload 4, 2) := by decide +kernel
theorem dX11_trial_118 : decode cX11_trial 118 = .ok (.getfield 201, 3) := by decide +kernel
theorem dX11_trial_121 : decode cX11_trial 121 = .ok (.iload_n 1, 1) := by decide +kernel
theorem dX11_trial_122 : decode cX11_trial 122 = .ok (.iaload, 1) := by decide +kernel
theorem dX11_trial_123 : decode cX11_trial 123 = .ok (.ireturn, 1) := by decide +kernel
theorem dX11_trial_124 : decode cX11_trial 124 = .ok (.aload 4, 2) := by decide +kernel
theorem dX11_trial_126 : decode cX11_trial 126 = .ok (.getfield 204, 3) := by decide +kernel
theorem dX11_trial_129 : decode cX11_trial 129 = .ok (.iload_n 1, 1) := by decide +kernel
theorem dX11_trial_130 : decode cX11_trial 130 = .ok (.iaload, 1) := by decide +kernel
theorem dX11_trial_131 : decode cX11_trial 131 = .ok (.ireturn, 1) := by decide +kernel
theorem dX11_trial_132 : decode cX11_trial 132 = .ok (.aload 4, 2) := by decide +kernel
theorem dX11_trial_134 : decode cX11_trial 134 = .ok (.getfield 207, 3) := by decide +kernel
theorem dX11_trial_137 : decode cX11_trial 137 = .ok (.iload_n 1, 1) := by decide +kernel
theorem dX11_trial_138 : decode cX11_trial 138 = .ok (.iaload, 1) := by decide +kernel
theorem dX11_trial_139 : decode cX11_trial 139 = .ok (.ireturn, 1) := by decide +kernel
theorem dX11_trial_140 : decode cX11_trial 140 = .ok (.aload 4, 2) := by decide +kernel
theorem dX11_trial_142 : decode cX11_trial 142 = .ok (.getfield 210, 3) := by decide +kernel
theorem dX11_trial_145 : decode cX11_trial 145 = .ok (.iload_n 1, 1) := by decide +kernel
theorem dX11_trial_146 : decode cX11_trial 146 = .ok (.iaload, 1) := by decide +kernel
theorem dX11_trial_147 : decode cX11_trial 147 = .ok (.ireturn, 1) := by decide +kernel
theorem dX11_trial_148 : decode cX11_trial 148 = .ok (.aload 4, 2) := by decide +kernel
theorem dX11_trial_150 : decode cX11_trial 150 = .ok (.getfield 213, 3) := by decide +kernel
theorem dX11_trial_153 : decode cX11_trial 153 = .ok (.iload_n 1, 1) := by decide +kernel
theorem dX11_trial_154 : decode cX11_trial 154 = .ok (.iaload, 1) := by decide +kernel
theorem dX11_trial_155 : decode cX11_trial 155 = .ok (.ireturn, 1) := by decide +kernel
theorem dX11_trial_156 : decode cX11_trial 156 = .ok (.aload 4, 2) := by decide +kernel
theorem dX11_trial_158 : decode cX11_trial 158 = .ok (.getfield 216, 3) := by decide +kernel
theorem dX11_trial_161 : decode cX11_trial 161 = .ok (.iload_n 1, 1) := by decide +kernel
theorem dX11_trial_162 : decode cX11_trial 162 = .ok (.iaload, 1) := by decide +kernel
theorem dX11_trial_163 : decode cX11_trial 163 = .ok (.ireturn, 1) := by decide +kernel
theorem dX11_trial_164 : decode cX11_trial 164 = .ok (.bipush (-2), 2) := by decide +kernel
theorem dX11_trial_166 : decode cX11_trial 166 = .ok (.ireturn, 1) := by decide +kernel
theorem dX11_hasBoth_0 : decode cX11_hasBoth 0 = .ok (.aload_n 0, 1) := by decide +kernel
theorem dX11_hasBoth_1 : decode cX11_hasBoth 1 = .ok (.getfield 31, 3) := by decide +kernel
theorem dX11_hasBoth_4 : decode cX11_hasBoth 4 = .ok (.getfield 134, 3) := by decide +kernel
theorem dX11_hasBoth_7 : decode cX11_hasBoth 7 = .ok (.iload_n 1, 1) := by decide +kernel
theorem dX11_hasBoth_8 : decode cX11_hasBoth 8 = .ok (.invokevirtual 186, 3) := by decide +kernel
theorem dX11_hasBoth_11 : decode cX11_hasBoth 11 = .ok (.ifCond .eq 21, 3) := by decide +kernel
theorem dX11_hasBoth_14 : decode cX11_hasBoth 14 = .ok (.aload_n 0, 1) := by decide +kernel
theorem dX11_hasBoth_15 : decode cX11_hasBoth 15 = .ok (.getfield 31, 3) := by decide +kernel
theorem dX11_hasBoth_18 : decode cX11_hasBoth 18 = .ok (.getfield 134, 3) := by decide +kernel
theorem dX11_hasBoth_21 : decode cX11_hasBoth 21 = .ok (.iload_n 2, 1) := by decide +kernel
theorem dX11_hasBoth_22 : decode cX11_hasBoth 22 = .ok (.invokevirtual 151, 3) := by decide +kernel
theorem dX11_hasBoth_25 : decode cX11_hasBoth 25 = .ok (.ifCond .eq 7, 3) := by decide +kernel
theorem dX11_hasBoth_28 : decode cX11_hasBoth 28 = .ok (.iconst 1, 1) := by decide +kernel
theorem dX11_hasBoth_29 : decode cX11_hasBoth 29 = .ok (.goto 4, 3) := by decide +kernel
theorem dX11_hasBoth_32 : decode cX11_hasBoth 32 = .ok (.iconst 0, 1) := by decide +kernel
theorem dX11_hasBoth_33 : decode cX11_hasBoth 33 = .ok (.ireturn, 1) := by decide +kernel
theorem dX11_can_0 : decode cX11_can 0 = .ok (.aload_n 0, 1) := by decide +kernel
theorem dX11_can_1 : decode cX11_can 1 = .ok (.iload_n 1, 1) := by decide +kernel
theorem dX11_can_2 : decode cX11_can 2 = .ok (.iload_n 2, 1) := by decide +kernel
theorem dX11_can_3 : decode cX11_can 3 = .ok (.invokevirtual 219, 3) := by decide +kernel
theorem dX11_can_6 : decode cX11_can 6 = .ok (.ifCond .eq 14, 3) := by decide +kernel
theorem dX11_can_9 : decode cX11_can 9 = .ok (.iload_n 3, 1) := by decide +kernel
theorem dX11_can_10 : decode cX11_can 10 = .ok (.ifCond .lt 10, 3) := by decide +kernel
theorem dX11_can_13 : decode cX11_can 13 = .ok (.iload_n 3, 1) := by decide +kernel
theorem dX11_can_14 : decode cX11_can 14 = .ok (.sipush 999, 3) := by decide +kernel
theorem dX11_can_17 : decode cX11_can 17 = .ok (.if_icmp .le 5, 3) := by decide +kernel
theorem dX11_can_20 : decode cX11_can 20 = .ok (.iconst (-1), 1) := by decide +kernel
theorem dX11_can_21 : decode cX11_can 21 = .ok (.ireturn, 1) := by decide +kernel
theorem dX11_can_22 : decode cX11_can 22 = .ok (.aload_n 0, 1) := by decide +kernel
theorem dX11_can_23 : decode cX11_can 23 = .ok (.getfield 51, 3) := by decide +kernel
theorem dX11_can_26 : decode cX11_can 26 = .ok (.iload_n 1, 1) := by decide +kernel
theorem dX11_can_27 : decode cX11_can 27 = .ok (.iload_n 2, 1) := by decide +kernel
theorem dX11_can_28 : decode cX11_can 28 = .ok (.iload_n 3, 1) := by decide +kernel
theorem dX11_can_29 : decode cX11_can 29 = .ok (.invokevirtual 223, 3) := by decide +kernel
theorem dX11_can_32 : decode cX11_can 32 = .ok (.ifCond .eq 7, 3) := by decide +kernel
theorem dX11_can_35 : decode cX11_can 35 = .ok (.iconst 1, 1) := by decide +kernel
theorem dX11_can_36 : decode cX11_can 36 = .ok (.goto 4, 3) := by decide +kernel
theorem dX11_can_39 : decode cX11_can 39 = .ok (.iconst 0, 1) := by decide +kernel
theorem dX11_can_40 : decode cX11_can 40 = .ok (.ireturn, 1) := by decide +kernel
theorem dX11_right_0 : decode cX11_right 0 = .ok (.aload_n 0, 1) := by decide +kernel
theorem dX11_right_1 : decode cX11_right 1 = .ok (.iload_n 1, 1) := by decide +kernel
theorem dX11_right_2 : decode cX11_right 2 = .ok (.iload_n 2, 1) := by decide +kernel
theorem dX11_right_3 : decode cX11_right 3 = .ok (.invokevirtual 219, 3) := by decide +kernel
theorem dX11_right_6 : decode cX11_right 6 = .ok (.ifCond .eq 15, 3) := by decide +kernel
theorem dX11_right_9 : decode cX11_right 9 = .ok (.aload_n 0, 1) := by decide +kernel
theorem dX11_right_10 : decode cX11_right 10 = .ok (.getfield 51, 3) := by decide +kernel
theorem dX11_right_13 : decode cX11_right 13 = .ok (.iload_n 1, 1) := by decide +kernel
theorem dX11_right_14 : decode cX11_right 14 = .ok (.iload_n 2, 1) := by decide +kernel
theorem dX11_right_15 : decode cX11_right 15 = .ok (.invokevirtual 227, 3) := by decide +kernel
theorem dX11_right_18 : decode cX11_right 18 = .ok (.goto 4, 3) := by decide +kernel
theorem dX11_right_21 : decode cX11_right 21 = .ok (.iconst (-1), 1) := by decide +kernel
theorem dX11_right_22 : decode cX11_right 22 = .ok (.ireturn, 1) := by decide +kernel
theorem dX11_undo_0 : decode cX11_undo 0 = .ok (.aload_n 0, 1) := by decide +kernel
theorem dX11_undo_1 : decode cX11_undo 1 = .ok (.getfield 42, 3) := by decide +kernel
theorem dX11_undo_4 : decode cX11_undo 4 = .ok (.aload_n 0, 1) := by decide +kernel
theorem dX11_undo_5 : decode cX11_undo 5 = .ok (.getfield 31, 3) := by decide +kernel
theorem dX11_undo_8 : decode cX11_undo 8 = .ok (.getfield 155, 3) := by decide +kernel
theorem dX11_undo_11 : decode cX11_undo 11 = .ok (.invokevirtual 258, 3) := by decide +kernel
theorem dX11_undo_14 : decode cX11_undo 14 = .ok (.ifCond .eq 13, 3) := by decide +kernel
theorem dX11_undo_17 : decode cX11_undo 17 = .ok (.aload_n 0, 1) := by decide +kernel
theorem dX11_undo_18 : decode cX11_undo 18 = .ok (.getfield 42, 3) := by decide +kernel
theorem dX11_undo_21 : decode cX11_undo 21 = .ok (.getfield 262, 3) := by decide +kernel
theorem dX11_undo_24 : decode cX11_undo 24 = .ok (.goto 4, 3) := by decide +kernel
theorem dX11_undo_27 : decode cX11_undo 27 = .ok (.iconst (-1), 1) := by decide +kernel
theorem dX11_undo_28 : decode cX11_undo 28 = .ok (.ireturn, 1) := by decide +kernel
theorem dX11_soonest_0 : decode cX11_soonest 0 = .ok (.aload_n 0, 1) := by decide +kernel
theorem dX11_soonest_1 : decode cX11_soonest 1 = .ok (.iload_n 1, 1) := by decide +kernel
theorem dX11_soonest_2 : decode cX11_soonest 2 = .ok (.iload_n 2, 1) := by decide +kernel
theorem dX11_soonest_3 : decode cX11_soonest 3 = .ok (.invokevirtual 219, 3) := by decide +kernel
theorem dX11_soonest_6 : decode cX11_soonest 6 = .ok (.ifCond .ne 5, 3) := by decide +kernel
theorem dX11_soonest_9 : decode cX11_soonest 9 = .ok (.iconst (-1), 1) := by decide +kernel
theorem dX11_soonest_10 : decode cX11_soonest 10 = .ok (.ireturn, 1) := by decide +kernel
theorem dX11_soonest_11 : decode cX11_soonest 11 = .ok (.aload_n 0, 1) := by decide +kernel
theorem dX11_soonest_12 : decode cX11_soonest 12 = .ok (.getfield 31, 3) := by decide +kernel
theorem dX11_soonest_15 : decode cX11_soonest 15 = .ok (.getfield 155, 3) := by decide +kernel
theorem dX11_soonest_18 : decode cX11_soonest 18 = .ok (.getfield 161, 3) := by decide +kernel
theorem dX11_soonest_21 : decode cX11_soonest 21 = .ok (.istore_n 3, 1) := by decide +kernel
theorem dX11_soonest_22 : decode cX11_soonest 22 = .ok (.iload_n 3, 1) := by decide +kernel
theorem dX11_soonest_23 : decode cX11_soonest 23 = .ok (.istore 4, 2) := by decide +kernel
theorem dX11_soonest_25 : decode cX11_soonest 25 = .ok (.iload 4, 2) := by decide +kernel
theorem dX11_soonest_27 : decode cX11_soonest 27 = .ok (.iload_n 3, 1) := by decide +kernel
theorem dX11_soonest_28 : decode cX11_soonest 28 = .ok (.bipush 100, 2) := by decide +kernel
theorem dX11_soonest_30 : decode cX11_soonest 30 = .ok (.iadd, 1) := by decide +kernel
theorem dX11_soonest_31 : decode cX11_soonest 31 = .ok (.if_icmp .ge 26, 3) := by decide +kernel
theorem dX11_soonest_34 : decode cX11_soonest 34 = .ok (.aload_n 0, 1) := by decide +kernel
theorem dX11_soonest_35 : decode cX11_soonest 35 = .ok (.getfield 51, 3) := by decide +kernel
theorem dX11_soonest_38 : decode cX11_soonest 38 = .ok (.iload_n 1, 1) := by decide +kernel
theorem dX11_soonest_39 : decode cX11_soonest 39 = .ok (.iload_n 2, 1) := by decide +kernel
theorem dX11_soonest_40 : decode cX11_soonest 40 = .ok (.iload 4, 2) := by decide +kernel
theorem dX11_soonest_42 : decode cX11_soonest 42 = .ok (.invokevirtual 223, 3) := by decide +kernel
theorem dX11_soonest_45 : decode cX11_soonest 45 = .ok (.ifCond .eq 6, 3) := by decide +kernel
theorem dX11_soonest_48 : decode cX11_soonest 48 = .ok (.iload 4, 2) := by decide +kernel
theorem dX11_soonest_50 : decode cX11_soonest 50 = .ok (.ireturn, 1) := by decide +kernel
theorem dX11_soonest_51 : decode cX11_soonest 51 = .ok (.iinc 4 1, 3) := by decide +kernel
theorem dX11_soonest_54 : decode cX11_soonest 54 = .ok (.goto (-29), 3) := by decide +kernel
theorem dX11_soonest_57 : decode cX11_soonest 57 = .ok (.bipush (-2), 2) := by decide +kernel
theorem dX11_soonest_59 : decode cX11_soonest 59 = .ok (.ireturn, 1) := by decide +kernel
theorem dX11_isBelow_0 : decode cX11_isBelow 0 = .ok (.iload_n 2, 1) := by decide +kernel
theorem dX11_isBelow_1 : decode cX11_isBelow 1 = .ok (.ifCond .lt 18, 3) := by decide +kernel
theorem dX11_isBelow_4 : decode cX11_isBelow 4 = .ok (.aload_n 0, 1) := by decide +kernel
theorem dX11_isBelow_5 : decode cX11_isBelow 5 = .ok (.getfield 31, 3) := by decide +kernel
theorem dX11_isBelow_8 : decode cX11_isBelow 8 = .ok (.getfield 134, 3) := by decide +kernel
theorem dX11_isBelow_11 : decode cX11_isBelow 11 = .ok (.iload_n 1, 1) := by decide +kernel
theorem dX11_isBelow_12 : decode cX11_isBelow 12 = .ok (.iload_n 2, 1) := by decide +kernel
theorem dX11_isBelow_13 : decode cX11_isBelow 13 = .ok (.invokevirtual 285, 3) := by decide +kernel
theorem dX11_isBelow_16 : decode cX11_isBelow 16 = .ok (.ifCond .eq 7, 3) := by decide +kernel
theorem dX11_isBelow_19 : decode cX11_isBelow 19 = .ok (.iconst 1, 1) := by decide +kernel
theorem dX11_isBelow_20 : decode cX11_isBelow 20 = .ok (.goto 4, 3) := by decide +kernel
theorem dX11_isBelow_23 : decode cX11_isBelow 23 = .ok (.iconst 0, 1) := by decide +kernel
theorem dX11_isBelow_24 : decode cX11_isBelow 24 = .ok (.ireturn, 1) := by decide +kernel
theorem dX11_longestBelow_0 : decode cX11_longestBelow 0 = .ok (.iconst 0, 1) := by decide +kernel
theorem dX11_longestBelow_1 : decode cX11_longestBelow 1 = .ok (.istore_n 2, 1) := by decide +kernel
theorem dX11_longestBelow_2 : decode cX11_longestBelow 2 = .ok (.iconst 0, 1) := by decide +kernel
theorem dX11_longestBelow_3 : decode cX11_longestBelow 3 = .ok (.istore_n 3, 1) := by decide +kernel
theorem dX11_longestBelow_4 : decode cX11_longestBelow 4 = .ok (.iload_n 3, 1) := by decide +kernel
theorem dX11_longestBelow_5 : decode cX11_longestBelow 5 = .ok (.aload_n 0, 1) := by decide +kernel
theorem dX11_longestBelow_6 : decode cX11_longestBelow 6 = .ok (.getfield 31, 3) := by decide +kernel
theorem dX11_longestBelow_9 : decode cX11_longestBelow 9 = .ok (.getfield 134, 3) := by decide +kernel
theorem dX11_longestBelow_12 : decode cX11_longestBelow 12 = .ok (.getfield 137, 3) := by decide +kernel
theorem dX11_longestBelow_15 : decode cX11_longestBelow 15 = .ok (.if_icmp .ge 29, 3) := by decide +kernel
theorem dX11_longestBelow_18 : decode cX11_longestBelow 18 = .ok (.aload_n 0, 1) := by decide +kernel
theorem dX11_longestBelow_19 : decode cX11_longestBelow 19 = .ok (.iload_n 3, 1) := by decide +kernel
theorem dX11_longestBelow_20 : decode cX11_longestBelow 20 = .ok (.iload_n 1, 1) := by decide +kernel
theorem dX11_longestBelow_21 : decode cX11_longestBelow 21 = .ok (.invokevirtual 277, 3) := by decide +kernel
theorem dX11_longestBelow_24 : decode cX11_longestBelow 24 = .ok (.ifCond .eq 14, 3) := by decide +kernel
theorem dX11_longestBelow_27 : decode cX11_longestBelow 27 = .ok (.iload_n 2, 1) := by decide +kernel
theorem dX11_longestBelow_28 : decode cX11_longestBelow 28 = .ok (.aload_n 0, 1) := by decide +kernel
theorem dX11_longestBelow_29 : decode cX11_longestBelow 29 = .ok (.getfield 103, 3) := by decide +kernel
theorem dX11_longestBelow_32 : decode cX11_longestBelow 32 = .ok (.iload_n 3, 1) := by decide +kernel
theorem dX11_longestBelow_33 : decode cX11_longestBelow 33 = .ok (.iaload, 1) := by decide +kernel
theorem dX11_longestBelow_34 : decode cX11_longestBelow 34 = .ok (.invokestatic 280, 3) := by decide +kernel
theorem dX11_longestBelow_37 : decode cX11_longestBelow 37 = .ok (.istore_n 2, 1) := by decide +kernel
theorem dX11_longestBelow_38 : decode cX11_longestBelow 38 = .ok (.iinc 3 1, 3) := by decide +kernel
theorem dX11_longestBelow_41 : decode cX11_longestBelow 41 = .ok (.goto (-37), 3) := by decide +kernel
theorem dX11_longestBelow_44 : decode cX11_longestBelow 44 = .ok (.iload_n 2, 1) := by decide +kernel
theorem dX11_longestBelow_45 : decode cX11_longestBelow 45 = .ok (.ireturn, 1) := by decide +kernel
theorem dX11_measureChains_0 : decode cX11_measureChains 0 = .ok (.aload_n 0, 1) := by decide +kernel
theorem dX11_measureChains_1 : decode cX11_measureChains 1 = .ok (.getfield 31, 3) := by decide +kernel
theorem dX11_measureChains_4 : decode cX11_measureChains 4 = .ok (.getfield 134, 3) := by decide +kernel
theorem dX11_measureChains_7 : decode cX11_measureChains 7 = .ok (.getfield 137, 3) := by decide +kernel
theorem dX11_measureChains_10 : decode cX11_measureChains 10 = .ok (.istore_n 2, 1) := by decide +kernel
theorem dX11_measureChains_11 : decode cX11_measureChains 11 = .ok (.iconst 0, 1) := by decide +kernel
theorem dX11_measureChains_12 : decode cX11_measureChains 12 = .ok (.istore_n 3, 1) := by decide +kernel
theorem dX11_measureChains_13 : decode cX11_measureChains 13 = .ok (.iload_n 3, 1) := by decide +kernel
theorem dX11_measureChains_14 : decode cX11_measureChains 14 = .ok (.iload_n 2, 1) := by decide +kernel
theorem dX11_measureChains_15 : decode cX11_measureChains 15 = .ok (.if_icmp .ge 16, 3) := by decide +kernel
theorem dX11_measureChains_18 : decode cX11_measureChains 18 = .ok (.aload_n 0, 1) := by decide +kernel
theorem dX11_measureChains_19 : decode cX11_measureChains 19 = .ok (.getfield 103, 3) := by decide +kernel
theorem dX11_measureChains_22 : decode cX11_measureChains 22 = .ok (.iload_n 3, 1) := by decide +kernel
theorem dX11_measureChains_23 : decode cX11_measureChains 23 = .ok (.iconst 0, 1) := by decide +kernel
theorem dX11_measureChains_24 : decode cX11_measureChains 24 = .ok (.iastore, 1) := by decide +kernel
theorem dX11_measureChains_25 : decode cX11_measureChains 25 = .ok (.iinc 3 1, 3) := by decide +kernel
theorem dX11_measureChains_28 : decode cX11_measureChains 28 = .ok (.goto (-15), 3) := by decide +kernel
theorem dX11_measureChains_31 : decode cX11_measureChains 31 = .ok (.iconst 0, 1) := by decide +kernel
theorem dX11_measureChains_32 : decode cX11_measureChains 32 = .ok (.istore_n 3, 1) := by decide +kernel
theorem dX11_measureChains_33 : decode cX11_measureChains 33 = .ok (.iload_n 3, 1) := by decide +kernel
theorem dX11_measureChains_34 : decode cX11_measureChains 34 = .ok (.iload_n 2, 1) := by decide +kernel
theorem dX11_measureChains_35 : decode cX11_measureChains 35 = .ok (.if_icmp .ge 62, 3) := by decide +kernel
theorem dX11_measureChains_38 : decode cX11_measureChains 38 = .ok (.iconst 0, 1) := by decide +kernel
theorem dX11_measureChains_39 : decode cX11_measureChains 39 = .ok (.istore 4, 2) := by decide +kernel
theorem dX11_measureChains_41 : decode cX11_measureChains 41 = .ok (.iload 4, 2) := by decide +kernel
theorem dX11_measureChains_43 : decode cX11_measureChains 43 = .ok (.iload_n 2, 1) := by decide +kernel
theorem dX11_measureChains_44 : decode cX11_measureChains 44 = .ok (.if_icmp .ge 47, 3) := by decide +kernel
theorem dX11_measureChains_47 : decode cX11_measureChains 47 = .ok (.aload_n 0, 1) := by decide +kernel
theorem dX11_measureChains_48 : decode cX11_measureChains 48 = .ok (.getfield 51, 3) := by decide +kernel
theorem dX11_measureChains_51 : decode cX11_measureChains 51 = .ok (.iload_n 1, 1) := by decide +kernel
theorem dX11_measureChains_52 : decode cX11_measureChains 52 = .ok (.iload 4, 2) := by decide +kernel
theorem dX11_measureChains_54 : decode cX11_measureChains 54 = .ok (.aload_n 0, 1) := by decide +kernel
theorem dX11_measureChains_55 : decode cX11_measureChains 55 = .ok (.getfield 31, 3) := by decide +kernel
theorem dX11_measureChains_58 : decode cX11_measureChains 58 = .ok (.getfield 155, 3) := by decide +kernel
theorem dX11_measureChains_61 : decode cX11_measureChains 61 = .ok (.getfield 161, 3) := by decide +kernel
theorem dX11_measureChains_64 : decode cX11_measureChains 64 = .ok (.invokevirtual 223, 3) := by decide +kernel
theorem dX11_measureChains_67 : decode cX11_measureChains 67 = .ok (.ifCond .eq 18, 3) := by decide +kernel
theorem dX11_measureChains_70 : decode cX11_measureChains 70 = .ok (.aload_n 0, 1) := by decide +kernel
theorem dX11_measureChains_71 : decode cX11_measureChains 71 = .ok (.getfield 103, 3) := by decide +kernel
theorem dX11_measureChains_74 : decode cX11_measureChains 74 = .ok (.iload 4, 2) := by decide +kernel
theorem dX11_measureChains_76 : decode cX11_measureChains 76 = .ok (.iconst 1, 1) := by decide +kernel
theorem dX11_measureChains_77 : decode cX11_measureChains 77 = .ok (.aload_n 0, 1) := by decide +kernel
theorem dX11_measureChains_78 : decode cX11_measureChains 78 = .ok (.iload 4, 2) := by decide +kernel
theorem dX11_measureChains_80 : decode cX11_measureChains 80 = .ok (.invokevirtual 271, 3) := by decide +kernel
theorem dX11_measureChains_83 : decode cX11_measureChains 83 = .ok (.iadd, 1) := by decide +kernel
theorem dX11_measureChains_84 : decode cX11_measureChains 84 = .ok (.iastore, 1) := by decide +kernel
theorem dX11_measureChains_85 : decode cX11_measureChains 85 = .ok (.iinc 4 1, 3) := by decide +kernel
theorem dX11_measureChains_88 : decode cX11_measureChains 88 = .ok (.goto (-47), 3) := by decide +kernel
theorem dX11_measureChains_91 : decode cX11_measureChains 91 = .ok (.iinc 3 1, 3) := by decide +kernel
theorem dX11_measureChains_94 : decode cX11_measureChains 94 = .ok (.goto (-61), 3) := by decide +kernel
theorem dX11_measureChains_97 : decode cX11_measureChains 97 = .ok (.return_, 1) := by decide +kernel
theorem dX11_firstBelow_0 : decode cX11_firstBelow 0 = .ok (.iconst 0, 1) := by decide +kernel
theorem dX11_firstBelow_1 : decode cX11_firstBelow 1 = .ok (.istore_n 3, 1) := by decide +kernel
theorem dX11_firstBelow_2 : decode cX11_firstBelow 2 = .ok (.iload_n 3, 1) := by decide +kernel
theorem dX11_firstBelow_3 : decode cX11_firstBelow 3 = .ok (.aload_n 0, 1) := by decide +kernel
theorem dX11_firstBelow_4 : decode cX11_firstBelow 4 = .ok (.getfield 31, 3) := by decide +kernel
theorem dX11_firstBelow_7 : decode cX11_firstBelow 7 = .ok (.getfield 134, 3) := by decide +kernel
theorem dX11_firstBelow_10 : decode cX11_firstBelow 10 = .ok (.getfield 137, 3) := by decide +kernel
theorem dX11_firstBelow_13 : decode cX11_firstBelow 13 = .ok (.if_icmp .ge 30, 3) := by decide +kernel
theorem dX11_firstBelow_16 : decode cX11_firstBelow 16 = .ok (.aload_n 0, 1) := by decide +kernel
theorem dX11_firstBelow_17 : decode cX11_firstBelow 17 = .ok (.getfield 103, 3) := by decide +kernel
theorem dX11_firstBelow_20 : decode cX11_firstBelow 20 = .ok (.iload_n 3, 1) := by decide +kernel
theorem dX11_firstBelow_21 : decode cX11_firstBelow 21 = .ok (.iaload, 1) := by decide +kernel
theorem dX11_firstBelow_22 : decode cX11_firstBelow 22 = .ok (.iload_n 2, 1) := by decide +kernel
theorem dX11_firstBelow_23 : decode cX11_firstBelow 23 = .ok (.if_icmp .ne 14, 3) := by decide +kernel
theorem dX11_firstBelow_26 : decode cX11_firstBelow 26 = .ok (.aload_n 0, 1) := by decide +kernel
theorem dX11_firstBelow_27 : decode cX11_firstBelow 27 = .ok (.iload_n 3, 1) := by decide +kernel
theorem dX11_firstBelow_28 : decode cX11_firstBelow 28 = .ok (.iload_n 1, 1) := by decide +kernel
theorem dX11_firstBelow_29 : decode cX11_firstBelow 29 = .ok (.invokevirtual 277, 3) := by decide +kernel
theorem dX11_firstBelow_32 : decode cX11_firstBelow 32 = .ok (.ifCond .eq 5, 3) := by decide +kernel
theorem dX11_firstBelow_35 : decode cX11_firstBelow 35 = .ok (.iload_n 3, 1) := by decide +kernel
theorem dX11_firstBelow_36 : decode cX11_firstBelow 36 = .ok (.ireturn, 1) := by decide +kernel
theorem dX11_firstBelow_37 : decode cX11_firstBelow 37 = .ok (.iinc 3 1, 3) := by decide +kernel
theorem dX11_firstBelow_40 : decode cX11_firstBelow 40 = .ok (.goto (-38), 3) := by decide +kernel
theorem dX11_firstBelow_43 : decode cX11_firstBelow 43 = .ok (.bipush (-2), 2) := by decide +kernel
theorem dX11_firstBelow_45 : decode cX11_firstBelow 45 = .ok (.ireturn, 1) := by decide +kernel
theorem dX11_down_0 : decode cX11_down 0 = .ok (.aload_n 0, 1) := by decide +kernel
theorem dX11_down_1 : decode cX11_down 1 = .ok (.getfield 31, 3) := by decide +kernel
theorem dX11_down_4 : decode cX11_down 4 = .ok (.getfield 134, 3) := by decide +kernel
theorem dX11_down_7 : decode cX11_down 7 = .ok (.iload_n 1, 1) := by decide +kernel
theorem dX11_down_8 : decode cX11_down 8 = .ok (.invokevirtual 186, 3) := by decide +kernel
theorem dX11_down_11 : decode cX11_down 11 = .ok (.ifCond .eq 13, 3) := by decide +kernel
theorem dX11_down_14 : decode cX11_down 14 = .ok (.iload_n 2, 1) := by decide +kernel
theorem dX11_down_15 : decode cX11_down 15 = .ok (.ifCond .lt 9, 3) := by decide +kernel
theorem dX11_down_18 : decode cX11_down 18 = .ok (.iload_n 2, 1) := by decide +kernel
theorem dX11_down_19 : decode cX11_down 19 = .ok (.bipush 7, 2) := by decide +kernel
theorem dX11_down_21 : decode cX11_down 21 = .ok (.if_icmp .le 5, 3) := by decide +kernel
theorem dX11_down_24 : decode cX11_down 24 = .ok (.iconst (-1), 1) := by decide +kernel
theorem dX11_down_25 : decode cX11_down 25 = .ok (.ireturn, 1) := by decide +kernel
theorem dX11_down_26 : decode cX11_down 26 = .ok (.aload_n 0, 1) := by decide +kernel
theorem dX11_down_27 : decode cX11_down 27 = .ok (.iload_n 1, 1) := by decide +kernel
theorem dX11_down_28 : decode cX11_down 28 = .ok (.invokevirtual 268, 3) := by decide +kernel
theorem dX11_down_31 : decode cX11_down 31 = .ok (.aload_n 0, 1) := by decide +kernel
theorem dX11_down_32 : decode cX11_down 32 = .ok (.getfield 31, 3) := by decide +kernel
theorem dX11_down_35 : decode cX11_down 35 = .ok (.getfield 155, 3) := by decide +kernel
theorem dX11_down_38 : decode cX11_down 38 = .ok (.getfield 207, 3) := by decide +kernel
theorem dX11_down_41 : decode cX11_down 41 = .ok (.iload_n 1, 1) := by decide +kernel
theorem dX11_down_42 : decode cX11_down 42 = .ok (.iaload, 1) := by decide +kernel
theorem dX11_down_43 : decode cX11_down 43 = .ok (.istore_n 3, 1) := by decide +kernel
theorem dX11_down_44 : decode cX11_down 44 = .ok (.aload_n 0, 1) := by decide +kernel
theorem dX11_down_45 : decode cX11_down 45 = .ok (.iload_n 3, 1) := by decide +kernel
theorem dX11_down_46 : decode cX11_down 46 = .ok (.invokevirtual 271, 3) := by decide +kernel
theorem dX11_down_49 : decode cX11_down 49 = .ok (.istore 4, 2) := by decide +kernel
theorem dX11_down_51 : decode cX11_down 51 = .ok (.iload_n 2, 1) := by decide +kernel
theorem dX11_down_52 : decode cX11_down 52 = .ok (.ifCond .ne 6, 3) := by decide +kernel
theorem dX11_down_55 : decode cX11_down 55 = .ok (.iload 4, 2) := by decide +kernel
theorem dX11_down_57 : decode cX11_down 57 = .ok (.ireturn, 1) := by decide +kernel
theorem dX11_down_58 : decode cX11_down 58 = .ok (.iload_n 2, 1) := by decide +kernel
theorem dX11_down_59 : decode cX11_down 59 = .ok (.iload 4, 2) := by decide +kernel
theorem dX11_down_61 : decode cX11_down 61 = .ok (.if_icmp .le 6, 3) := by decide +kernel
theorem dX11_down_64 : decode cX11_down 64 = .ok (.bipush (-2), 2) := by decide +kernel
theorem dX11_down_66 : decode cX11_down 66 = .ok (.ireturn, 1) := by decide +kernel
theorem dX11_down_67 : decode cX11_down 67 = .ok (.iload_n 3, 1) := by decide +kernel
theorem dX11_down_68 : decode cX11_down 68 = .ok (.istore 5, 2) := by decide +kernel
theorem dX11_down_70 : decode cX11_down 70 = .ok (.iconst 1, 1) := by decide +kernel
theorem dX11_down_71 : decode cX11_down 71 = .ok (.istore 6, 2) := by decide +kernel
theorem dX11_down_73 : decode cX11_down 73 = .ok (.iload 6, 2) := by decide +kernel
theorem dX11_down_75 : decode cX11_down 75 = .ok (.iload_n 2, 1) := by decide +kernel
theorem dX11_down_76 : decode cX11_down 76 = .ok (.if_icmp .gt 24, 3) := by decide +kernel
theorem dX11_down_79 : decode cX11_down 79 = .ok (.aload_n 0, 1) := by decide +kernel
theorem dX11_down_80 : decode cX11_down 80 = .ok (.iload 5, 2) := by decide +kernel
theorem dX11_down_82 : decode cX11_down 82 = .ok (.iload 4, 2) := by decide +kernel
theorem dX11_down_84 : decode cX11_down 84 = .ok (.iload 6, 2) := by decide +kernel
theorem dX11_down_86 : decode cX11_down 86 = .ok (.isub, 1) := by decide +kernel
theorem dX11_down_87 : decode cX11_down 87 = .ok (.iconst 1, 1) := by decide +kernel
theorem dX11_down_88 : decode cX11_down 88 = .ok (.iadd, 1) := by decide +kernel
theorem dX11_down_89 : decode cX11_down 89 = .ok (.invokevirtual 274, 3) := by decide +kernel
theorem dX11_down_92 : decode cX11_down 92 = .ok (.istore 5, 2) := by decide +kernel
theorem dX11_down_94 : decode cX11_down 94 = .ok (.iinc 6 1, 3) := by decide +kernel
theorem dX11_down_97 : decode cX11_down 97 = .ok (.goto (-24), 3) := by decide +kernel
theorem dX11_down_100 : decode cX11_down 100 = .ok (.iload 5, 2) := by decide +kernel
theorem dX11_down_102 : decode cX11_down 102 = .ok (.ireturn, 1) := by decide +kernel
theorem dX11_isDigit_0 : decode cX11_isDigit 0 = .ok (.iload_n 0, 1) := by decide +kernel
theorem dX11_isDigit_1 : decode cX11_isDigit 1 = .ok (.iconst 1, 1) := by decide +kernel
theorem dX11_isDigit_2 : decode cX11_isDigit 2 = .ok (.if_icmp .lt 13, 3) := by decide +kernel
theorem dX11_isDigit_5 : decode cX11_isDigit 5 = .ok (.iload_n 0, 1) := by decide +kernel
theorem dX11_isDigit_6 : decode cX11_isDigit 6 = .ok (.bipush 9, 2) := by decide +kernel
theorem dX11_isDigit_8 : decode cX11_isDigit 8 = .ok (.if_icmp .gt 7, 3) := by decide +kernel
theorem dX11_isDigit_11 : decode cX11_isDigit 11 = .ok (.iconst 1, 1) := by decide +kernel
theorem dX11_isDigit_12 : decode cX11_isDigit 12 = .ok (.goto 4, 3) := by decide +kernel
theorem dX11_isDigit_15 : decode cX11_isDigit 15 = .ok (.iconst 0, 1) := by decide +kernel
theorem dX11_isDigit_16 : decode cX11_isDigit 16 = .ok (.ireturn, 1) := by decide +kernel
theorem dX11_mostRight_0 : decode cX11_mostRight 0 = .ok (.iconst 0, 1) := by decide +kernel
theorem dX11_mostRight_1 : decode cX11_mostRight 1 = .ok (.istore 4, 2) := by decide +kernel
theorem dX11_mostRight_3 : decode cX11_mostRight 3 = .ok (.iconst 0, 1) := by decide +kernel
theorem dX11_mostRight_4 : decode cX11_mostRight 4 = .ok (.istore 5, 2) := by decide +kernel
theorem dX11_mostRight_6 : decode cX11_mostRight 6 = .ok (.iload 5, 2) := by decide +kernel
theorem dX11_mostRight_8 : decode cX11_mostRight 8 = .ok (.aload_n 0, 1) := by decide +kernel
theorem dX11_mostRight_9 : decode cX11_mostRight 9 = .ok (.getfield 31, 3) := by decide +kernel
theorem dX11_mostRight_12 : decode cX11_mostRight 12 = .ok (.getfield 134, 3) := by decide +kernel
theorem dX11_mostRight_15 : decode cX11_mostRight 15 = .ok (.getfield 137, 3) := by decide +kernel
theorem dX11_mostRight_18 : decode cX11_mostRight 18 = .ok (.if_icmp .ge 54, 3) := by decide +kernel
theorem dX11_mostRight_21 : decode cX11_mostRight 21 = .ok (.aload_n 0, 1) := by decide +kernel
theorem dX11_mostRight_22 : decode cX11_mostRight 22 = .ok (.getfield 51, 3) := by decide +kernel
theorem dX11_mostRight_25 : decode cX11_mostRight 25 = .ok (.iload 5, 2) := by decide +kernel
theorem dX11_mostRight_27 : decode cX11_mostRight 27 = .ok (.iload_n 1, 1) := by decide +kernel
theorem dX11_mostRight_28 : decode cX11_mostRight 28 = .ok (.iload_n 2, 1) := by decide +kernel
theorem dX11_mostRight_29 : decode cX11_mostRight 29 = .ok (.iload_n 3, 1) := by decide +kernel
theorem dX11_mostRight_30 : decode cX11_mostRight 30 = .ok (.invokevirtual 299, 3) := by decide +kernel
theorem dX11_mostRight_33 : decode cX11_mostRight 33 = .ok (.ifCond .eq 33, 3) := by decide +kernel
theorem dX11_mostRight_36 : decode cX11_mostRight 36 = .ok (.iload 4, 2) := by decide +kernel
theorem dX11_mostRight_38 : decode cX11_mostRight 38 = .ok (.aload_n 0, 1) := by decide +kernel
theorem dX11_mostRight_39 : decode cX11_mostRight 39 = .ok (.getfield 51, 3) := by decide +kernel
theorem dX11_mostRight_42 : decode cX11_mostRight 42 = .ok (.iload 5, 2) := by decide +kernel
theorem dX11_mostRight_44 : decode cX11_mostRight 44 = .ok (.iload_n 3, 1) := by decide +kernel
theorem dX11_mostRight_45 : decode cX11_mostRight 45 = .ok (.aload_n 0, 1) := by decide +kernel
theorem dX11_mostRight_46 : decode cX11_mostRight 46 = .ok (.getfield 31, 3) := by decide +kernel
theorem dX11_mostRight_49 : decode cX11_mostRight 49 = .ok (.getfield 155, 3) := by decide +kernel
theorem dX11_mostRight_52 : decode cX11_mostRight 52 = .ok (.getfield 180, 3) := by decide +kernel
theorem dX11_mostRight_55 : decode cX11_mostRight 55 = .ok (.iload 5, 2) := by decide +kernel
theorem dX11_mostRight_57 : decode cX11_mostRight 57 = .ok (.iaload, 1) := by decide +kernel
theorem dX11_mostRight_58 : decode cX11_mostRight 58 = .ok (.invokevirtual 303, 3) := by decide +kernel
theorem dX11_mostRight_61 : decode cX11_mostRight 61 = .ok (.invokestatic 280, 3) := by decide +kernel
theorem dX11_mostRight_64 : decode cX11_mostRight 64 = .ok (.istore 4, 2) := by decide +kernel
theorem dX11_mostRight_66 : decode cX11_mostRight 66 = .ok (.iinc 5 1, 3) := by decide +kernel
theorem dX11_mostRight_69 : decode cX11_mostRight 69 = .ok (.goto (-63), 3) := by decide +kernel
theorem dX11_mostRight_72 : decode cX11_mostRight 72 = .ok (.iload 4, 2) := by decide +kernel
theorem dX11_mostRight_74 : decode cX11_mostRight 74 = .ok (.ireturn, 1) := by decide +kernel
theorem dX11_commit_0 : decode cX11_commit 0 = .ok (.aload_n 0, 1) := by decide +kernel
theorem dX11_commit_1 : decode cX11_commit 1 = .ok (.getfield 31, 3) := by decide +kernel
theorem dX11_commit_4 : decode cX11_commit 4 = .ok (.getfield 134, 3) := by decide +kernel
theorem dX11_commit_7 : decode cX11_commit 7 = .ok (.iload_n 1, 1) := by decide +kernel
theorem dX11_commit_8 : decode cX11_commit 8 = .ok (.invokevirtual 151, 3) := by decide +kernel
theorem dX11_commit_11 : decode cX11_commit 11 = .ok (.ifCond .eq 21, 3) := by decide +kernel
theorem dX11_commit_14 : decode cX11_commit 14 = .ok (.iload_n 2, 1) := by decide +kernel
theorem dX11_commit_15 : decode cX11_commit 15 = .ok (.invokestatic 288, 3) := by decide +kernel
theorem dX11_commit_18 : decode cX11_commit 18 = .ok (.ifCond .eq 14, 3) := by decide +kernel
theorem dX11_commit_21 : decode cX11_commit 21 = .ok (.iload_n 3, 1) := by decide +kernel
theorem dX11_commit_22 : decode cX11_commit 22 = .ok (.invokestatic 288, 3) := by decide +kernel
theorem dX11_commit_25 : decode cX11_commit 25 = .ok (.ifCond .eq 7, 3) := by decide +kernel
theorem dX11_commit_28 : decode cX11_commit 28 = .ok (.iconst 1, 1) := by decide +kernel
theorem dX11_commit_29 : decode cX11_commit 29 = .ok (.goto 4, 3) := by decide +kernel
theorem dX11_commit_32 : decode cX11_commit 32 = .ok (.iconst 0, 1) := by decide +kernel
theorem dX11_commit_33 : decode cX11_commit 33 = .ok (.istore 6, 2) := by decide +kernel
theorem dX11_commit_35 : decode cX11_commit 35 = .ok (.iload 6, 2) := by decide +kernel
theorem dX11_commit_37 : decode cX11_commit 37 = .ok (.ifCond .eq 27, 3) := by decide +kernel
theorem dX11_commit_40 : decode cX11_commit 40 = .ok (.iload 4, 2) := by decide +kernel
theorem dX11_commit_42 : decode cX11_commit 42 = .ok (.iconst 1, 1) := by decide +kernel
theorem dX11_commit_43 : decode cX11_commit 43 = .ok (.if_icmp .lt 21, 3) := by decide +kernel
theorem dX11_commit_46 : decode cX11_commit 46 = .ok (.iload 4, 2) := by decide +kernel
theorem dX11_commit_48 : decode cX11_commit 48 = .ok (.bipush 60, 2) := by decide +kernel
theorem dX11_commit_50 : decode cX11_commit 50 = .ok (.if_icmp .gt 14, 3) := by decide +kernel
theorem dX11_commit_53 : decode cX11_commit 53 = .ok (.iload 5, 2) := by decide +kernel
theorem dX11_commit_55 : decode cX11_commit 55 = .ok (.ifCond .lt 9, 3) := by decide +kernel
theorem dX11_commit_58 : decode cX11_commit 58 = .ok (.iload 5, 2) := by decide +kernel
theorem dX11_commit_60 : decode cX11_commit 60 = .ok (.iconst 1, 1) := by decide +kernel
theorem dX11_commit_61 : decode cX11_commit 61 = .ok (.if_icmp .le 5, 3) := by decide +kernel
theorem dX11_commit_64 : decode cX11_commit 64 = .ok (.iconst (-1), 1) := by decide +kernel
theorem dX11_commit_65 : decode cX11_commit 65 = .ok (.ireturn, 1) := by decide +kernel
theorem dX11_commit_66 : decode cX11_commit 66 = .ok (.aload_n 0, 1) := by decide +kernel
theorem dX11_commit_67 : decode cX11_commit 67 = .ok (.getfield 51, 3) := by decide +kernel
theorem dX11_commit_70 : decode cX11_commit 70 = .ok (.iload_n 1, 1) := by decide +kernel
theorem dX11_commit_71 : decode cX11_commit 71 = .ok (.iload_n 2, 1) := by decide +kernel
theorem dX11_commit_72 : decode cX11_commit 72 = .ok (.iload_n 3, 1) := by decide +kernel
theorem dX11_commit_73 : decode cX11_commit 73 = .ok (.iconst 0, 1) := by decide +kernel
theorem dX11_commit_74 : decode cX11_commit 74 = .ok (.invokevirtual 291, 3) := by decide +kernel
theorem dX11_commit_77 : decode cX11_commit 77 = .ok (.aload_n 0, 1) := by decide +kernel
theorem dX11_commit_78 : decode cX11_commit 78 = .ok (.getfield 31, 3) := by decide +kernel
theorem dX11_commit_81 : decode cX11_commit 81 = .ok (.getfield 155, 3) := by decide +kernel
theorem dX11_commit_84 : decode cX11_commit 84 = .ok (.getfield 161, 3) := by decide +kernel
theorem dX11_commit_87 : decode cX11_commit 87 = .ok (.istore 7, 2) := by decide +kernel
theorem dX11_commit_89 : decode cX11_commit 89 = .ok (.iload 7, 2) := by decide +kernel
theorem dX11_commit_91 : decode cX11_commit 91 = .ok (.istore 8, 2) := by decide +kernel
theorem dX11_commit_93 : decode cX11_commit 93 = .ok (.bipush 101, 2) := by decide +kernel
theorem dX11_commit_95 : decode cX11_commit 95 = .ok (.istore 9, 2) := by decide +kernel
theorem dX11_commit_97 : decode cX11_commit 97 = .ok (.iload 7, 2) := by decide +kernel
theorem dX11_commit_99 : decode cX11_commit 99 = .ok (.istore 10, 2) := by decide +kernel
theorem dX11_commit_101 : decode cX11_commit 101 = .ok (.iload 10, 2) := by decide +kernel
theorem dX11_commit_103 : decode cX11_commit 103 = .ok (.iload 7, 2) := by decide +kernel
theorem dX11_commit_105 : decode cX11_commit 105 = .ok (.iload 4, 2) := by decide +kernel
theorem dX11_commit_107 : decode cX11_commit 107 = .ok (.iadd, 1) := by decide +kernel
theorem dX11_commit_108 : decode cX11_commit 108 = .ok (.if_icmp .ge 34, 3) := by decide +kernel
theorem dX11_commit_111 : decode cX11_commit 111 = .ok (.aload_n 0, 1) := by decide +kernel
theorem dX11_commit_112 : decode cX11_commit 112 = .ok (.iload_n 1, 1) := by decide +kernel
theorem dX11_commit_113 : decode cX11_commit 113 = .ok (.iload_n 3, 1) := by decide +kernel
theorem dX11_commit_114 : decode cX11_commit 114 = .ok (.iload 10, 2) := by decide +kernel
theorem dX11_commit_116 : decode cX11_commit 116 = .ok (.invokevirtual 295, 3) := by decide +kernel
theorem dX11_commit_119 : decode cX11_commit 119 = .ok (.istore 11, 2) := by decide +kernel
theorem dX11_commit_121 : decode cX11_commit 121 = .ok (.iload 11, 2) := by decide +kernel
theorem dX11_commit_123 : decode cX11_commit 123 = .ok (.iload 9, 2) := by decide +kernel
theorem dX11_commit_125 : decode cX11_commit 125 = .ok (.if_icmp .ge 11, 3) := by decide +kernel
theorem dX11_commit_128 : decode cX11_commit 128 = .ok (.iload 11, 2) := by decide +kernel
theorem dX11_commit_130 : decode cX11_commit 130 = .ok (.istore 9, 2) := by decide +kernel
theorem dX11_commit_132 : decode cX11_commit 132 = .ok (.iload 10, 2) := by decide +kernel
theorem dX11_commit_134 : decode cX11_commit 134 = .ok (.istore 8, 2) := by decide +kernel
theorem dX11_commit_136 : decode cX11_commit 136 = .ok (.iinc 10 1, 3) := by decide +kernel
theorem dX11_commit_139 : decode cX11_commit 139 = .ok (.goto (-38), 3) := by decide +kernel
theorem dX11_commit_142 : decode cX11_commit 142 = .ok (.iload 5, 2) := by decide +kernel
theorem dX11_commit_144 : decode cX11_commit 144 = .ok (.ifCond .ne 8, 3) := by decide +kernel
theorem dX11_commit_147 : decode cX11_commit 147 = .ok (.iload 8, 2) := by decide +kernel
theorem dX11_commit_149 : decode cX11_commit 149 = .ok (.goto 5, 3) := by decide +kernel
theorem dX11_commit_152 : decode cX11_commit 152 = .ok (.iload 9, 2) := by decide +kernel
theorem dX11_commit_154 : decode cX11_commit 154 = .ok (.ireturn, 1) := by decide +kernel
theorem dX11_isTriable_0 : decode cX11_isTriable 0 = .ok (.aload_n 0, 1) := by decide +kernel
theorem dX11_isTriable_1 : decode cX11_isTriable 1 = .ok (.getfield 31, 3) := by decide +kernel
theorem dX11_isTriable_4 : decode cX11_isTriable 4 = .ok (.getfield 155, 3) := by decide +kernel
theorem dX11_isTriable_7 : decode cX11_isTriable 7 = .ok (.getfield 161, 3) := by decide +kernel
theorem dX11_isTriable_10 : decode cX11_isTriable 10 = .ok (.istore_n 3, 1) := by decide +kernel
theorem dX11_isTriable_11 : decode cX11_isTriable 11 = .ok (.iconst 0, 1) := by decide +kernel
theorem dX11_isTriable_12 : decode cX11_isTriable 12 = .ok (.istore 4, 2) := by decide +kernel
theorem dX11_isTriable_14 : decode cX11_isTriable 14 = .ok (.iload 4, 2) := by decide +kernel
theorem dX11_isTriable_16 : decode cX11_isTriable 16 = .ok (.aload_n 0, 1) := by decide +kernel
theorem dX11_isTriable_17 : decode cX11_isTriable 17 = .ok (.getfield 31, 3) := by decide +kernel
theorem dX11_isTriable_20 : decode cX11_isTriable 20 = .ok (.getfield 134, 3) := by decide +kernel
theorem dX11_isTriable_23 : decode cX11_isTriable 23 = .ok (.getfield 137, 3) := by decide +kernel
theorem dX11_isTriable_26 : decode cX11_isTriable 26 = .ok (.if_icmp .ge 44, 3) := by decide +kernel
theorem dX11_isTriable_29 : decode cX11_isTriable 29 = .ok (.iload_n 3, 1) := by decide +kernel
theorem dX11_isTriable_30 : decode cX11_isTriable 30 = .ok (.istore 5, 2) := by decide +kernel
theorem dX11_isTriable_32 : decode cX11_isTriable 32 = .ok (.iload 5, 2) := by decide +kernel
theorem dX11_isTriable_34 : decode cX11_isTriable 34 = .ok (.iload_n 3, 1) := by decide +kernel
theorem dX11_isTriable_35 : decode cX11_isTriable 35 = .ok (.iload_n 2, 1) := by decide +kernel
theorem dX11_isTriable_36 : decode cX11_isTriable 36 = .ok (.iadd, 1) := by decide +kernel
theorem dX11_isTriable_37 : decode cX11_isTriable 37 = .ok (.if_icmp .ge 27, 3) := by decide +kernel
theorem dX11_isTriable_40 : decode cX11_isTriable 40 = .ok (.aload_n 0, 1) := by decide +kernel
theorem dX11_isTriable_41 : decode cX11_isTriable 41 = .ok (.getfield 51, 3) := by decide +kernel
theorem dX11_isTriable_44 : decode cX11_isTriable 44 = .ok (.iload 4, 2) := by decide +kernel
theorem dX11_isTriable_46 : decode cX11_isTriable 46 = .ok (.iload_n 1, 1) := by decide +kernel
theorem dX11_isTriable_47 : decode cX11_isTriable 47 = .ok (.iconst 1, 1) := by decide +kernel
theorem dX11_isTriable_48 : decode cX11_isTriable 48 = .ok (.iload 5, 2) := by decide +kernel
theorem dX11_isTriable_50 : decode cX11_isTriable 50 = .ok (.invokevirtual 299, 3) := by decide +kernel
theorem dX11_isTriable_53 : decode cX11_isTriable 53 = .ok (.ifCond .eq 5, 3) := by decide +kernel
theorem dX11_isTriable_56 : decode cX11_isTriable 56 = .ok (.iconst 1, 1) := by decide +kernel
theorem dX11_isTriable_57 : decode cX11_isTriable 57 = .ok (.ireturn, 1) := by decide +kernel
theorem dX11_isTriable_58 : decode cX11_isTriable 58 = .ok (.iinc 5 1, 3) := by decide +kernel
theorem dX11_isTriable_61 : decode cX11_isTriable 61 = .ok (.goto (-29), 3) := by decide +kernel
theorem dX11_isTriable_64 : decode cX11_isTriable 64 = .ok (.iinc 4 1, 3) := by decide +kernel
theorem dX11_isTriable_67 : decode cX11_isTriable 67 = .ok (.goto (-53), 3) := by decide +kernel
theorem dX11_isTriable_70 : decode cX11_isTriable 70 = .ok (.iconst 0, 1) := by decide +kernel
theorem dX11_isTriable_71 : decode cX11_isTriable 71 = .ok (.ireturn, 1) := by decide +kernel
theorem dX11_above_0 : decode cX11_above 0 = .ok (.aload_n 0, 1) := by decide +kernel
theorem dX11_above_1 : decode cX11_above 1 = .ok (.getfield 31, 3) := by decide +kernel
theorem dX11_above_4 : decode cX11_above 4 = .ok (.getfield 134, 3) := by decide +kernel
theorem dX11_above_7 : decode cX11_above 7 = .ok (.getfield 231, 3) := by decide +kernel
theorem dX11_above_10 : decode cX11_above 10 = .ok (.ifCond .eq 14, 3) := by decide +kernel
theorem dX11_above_13 : decode cX11_above 13 = .ok (.iload_n 1, 1) := by decide +kernel
theorem dX11_above_14 : decode cX11_above 14 = .ok (.iconst 1, 1) := by decide +kernel
theorem dX11_above_15 : decode cX11_above 15 = .ok (.if_icmp .lt 9, 3) := by decide +kernel
theorem dX11_above_18 : decode cX11_above 18 = .ok (.iload_n 1, 1) := by decide +kernel
theorem dX11_above_19 : decode cX11_above 19 = .ok (.bipush 60, 2) := by decide +kernel
theorem dX11_above_21 : decode cX11_above 21 = .ok (.if_icmp .le 5, 3) := by decide +kernel
theorem dX11_above_24 : decode cX11_above 24 = .ok (.iconst (-1), 1) := by decide +kernel
theorem dX11_above_25 : decode cX11_above 25 = .ok (.ireturn, 1) := by decide +kernel
theorem dX11_above_26 : decode cX11_above 26 = .ok (.iconst 0, 1) := by decide +kernel
theorem dX11_above_27 : decode cX11_above 27 = .ok (.istore_n 2, 1) := by decide +kernel
theorem dX11_above_28 : decode cX11_above 28 = .ok (.iconst 0, 1) := by decide +kernel
theorem dX11_above_29 : decode cX11_above 29 = .ok (.istore_n 3, 1) := by decide +kernel
theorem dX11_above_30 : decode cX11_above 30 = .ok (.iload_n 3, 1) := by decide +kernel
theorem dX11_above_31 : decode cX11_above 31 = .ok (.aload_n 0, 1) := by decide +kernel
theorem dX11_above_32 : decode cX11_above 32 = .ok (.getfield 31, 3) := by decide +kernel
theorem dX11_above_35 : decode cX11_above 35 = .ok (.getfield 134, 3) := by decide +kernel
theorem dX11_above_38 : decode cX11_above 38 = .ok (.getfield 137, 3) := by decide +kernel
theorem dX11_above_41 : decode cX11_above 41 = .ok (.if_icmp .ge 24, 3) := by decide +kernel
theorem dX11_above_44 : decode cX11_above 44 = .ok (.aload_n 0, 1) := by decide +kernel
theorem dX11_above_45 : decode cX11_above 45 = .ok (.iload_n 3, 1) := by decide +kernel
theorem dX11_above_46 : decode cX11_above 46 = .ok (.iload_n 1, 1) := by decide +kernel
theorem dX11_above_47 : decode cX11_above 47 = .ok (.invokevirtual 306, 3) := by decide +kernel
theorem dX11_above_50 : decode cX11_above 50 = .ok (.ifCond .ne 9, 3) := by decide +kernel
theorem dX11_above_53 : decode cX11_above 53 = .ok (.iload_n 2, 1) := by decide +kernel
theorem dX11_above_54 : decode cX11_above 54 = .ok (.iconst 1, 1) := by decide +kernel
theorem dX11_above_55 : decode cX11_above 55 = .ok (.iload_n 3, 1) := by decide +kernel
theorem dX11_above_56 : decode cX11_above 56 = .ok (.ishl, 1) := by decide +kernel
theorem dX11_above_57 : decode cX11_above 57 = .ok (.ior, 1) := by decide +kernel
theorem dX11_above_58 : decode cX11_above 58 = .ok (.istore_n 2, 1) := by decide +kernel
theorem dX11_above_59 : decode cX11_above 59 = .ok (.iinc 3 1, 3) := by decide +kernel
theorem dX11_above_62 : decode cX11_above 62 = .ok (.goto (-32), 3) := by decide +kernel
theorem dX11_above_65 : decode cX11_above 65 = .ok (.iload_n 2, 1) := by decide +kernel
theorem dX11_above_66 : decode cX11_above 66 = .ok (.ireturn, 1) := by decide +kernel
theorem dX11_clement_0 : decode cX11_clement 0 = .ok (.aload_n 0, 1) := by decide +kernel
theorem dX11_clement_1 : decode cX11_clement 1 = .ok (.getfield 31, 3) := by decide +kernel
theorem dX11_clement_4 : decode cX11_clement 4 = .ok (.getfield 134, 3) := by decide +kernel
theorem dX11_clement_7 : decode cX11_clement 7 = .ok (.iload_n 1, 1) := by decide +kernel
theorem dX11_clement_8 : decode cX11_clement 8 = .ok (.invokevirtual 186, 3) := by decide +kernel
theorem dX11_clement_11 : decode cX11_clement 11 = .ok (.ifCond .eq 12, 3) := by decide +kernel
theorem dX11_clement_14 : decode cX11_clement 14 = .ok (.iload_n 2, 1) := by decide +kernel
theorem dX11_clement_15 : decode cX11_clement 15 = .ok (.ifCond .lt 8, 3) := by decide +kernel
theorem dX11_clement_18 : decode cX11_clement 18 = .ok (.iload_n 2, 1) := by decide +kernel
theorem dX11_clement_19 : decode cX11_clement 19 = .ok (.iconst 3, 1) := by decide +kernel
theorem dX11_clement_20 : decode cX11_clement 20 = .ok (.if_icmp .le 5, 3) := by decide +kernel
theorem dX11_clement_23 : decode cX11_clement 23 = .ok (.iconst (-1), 1) := by decide +kernel
theorem dX11_clement_24 : decode cX11_clement 24 = .ok (.ireturn, 1) := by decide +kernel
theorem dX11_clement_25 : decode cX11_clement 25 = .ok (.iload_n 2, 1) := by decide +kernel
theorem dX11_clement_26 : decode cX11_clement 26 = .ok (.iconst 2, 1) := by decide +kernel
theorem dX11_clement_27 : decode cX11_clement 27 = .ok (.if_icmp .ge 7, 3) := by decide +kernel
theorem dX11_clement_30 : decode cX11_clement 30 = .ok (.iconst 1, 1) := by decide +kernel
theorem dX11_clement_31 : decode cX11_clement 31 = .ok (.goto 4, 3) := by decide +kernel
theorem dX11_clement_34 : decode cX11_clement 34 = .ok (.iconst 0, 1) := by decide +kernel
theorem dX11_clement_35 : decode cX11_clement 35 = .ok (.istore_n 3, 1) := by decide +kernel
theorem dX11_clement_36 : decode cX11_clement 36 = .ok (.bipush (-2), 2) := by decide +kernel
theorem dX11_clement_38 : decode cX11_clement 38 = .ok (.istore 4, 2) := by decide +kernel
theorem dX11_clement_40 : decode cX11_clement 40 = .ok (.bipush (-2), 2) := by decide +kernel
theorem dX11_clement_42 : decode cX11_clement 42 = .ok (.istore 5, 2) := by decide +kernel
theorem dX11_clement_44 : decode cX11_clement 44 = .ok (.iconst 0, 1) := by decide +kernel
theorem dX11_clement_45 : decode cX11_clement 45 = .ok (.istore 6, 2) := by decide +kernel
theorem dX11_clement_47 : decode cX11_clement 47 = .ok (.iload 6, 2) := by decide +kernel
theorem dX11_clement_49 : decode cX11_clement 49 = .ok (.aload_n 0, 1) := by decide +kernel
theorem dX11_clement_50 : decode cX11_clement 50 = .ok (.getfield 31, 3) := by decide +kernel
theorem dX11_clement_53 : decode cX11_clement 53 = .ok (.getfield 134, 3) := by decide +kernel
theorem dX11_clement_56 : decode cX11_clement 56 = .ok (.getfield 137, 3) := by decide +kernel
theorem dX11_clement_59 : decode cX11_clement 59 = .ok (.if_icmp .ge 78, 3) := by decide +kernel
theorem dX11_clement_62 : decode cX11_clement 62 = .ok (.aload_n 0, 1) := by decide +kernel
theorem dX11_clement_63 : decode cX11_clement 63 = .ok (.getfield 51, 3) := by decide +kernel
theorem dX11_clement_66 : decode cX11_clement 66 = .ok (.iload_n 1, 1) := by decide +kernel
theorem dX11_clement_67 : decode cX11_clement 67 = .ok (.iload 6, 2) := by decide +kernel
theorem dX11_clement_69 : decode cX11_clement 69 = .ok (.aload_n 0, 1) := by decide +kernel
theorem dX11_clement_70 : decode cX11_clement 70 = .ok (.getfield 31, 3) := by decide +kernel
theorem dX11_clement_73 : decode cX11_clement 73 = .ok (.getfield 155, 3) := by decide +kernel
theorem dX11_clement_76 : decode cX11_clement 76 = .ok (.getfield 161, 3) := by decide +kernel
theorem dX11_clement_79 : decode cX11_clement 79 = .ok (.invokevirtual 223, 3) := by decide +kernel
theorem dX11_clement_82 : decode cX11_clement 82 = .ok (.ifCond .eq 49, 3) := by decide +kernel
theorem dX11_clement_85 : decode cX11_clement 85 = .ok (.aload_n 0, 1) := by decide +kernel
theorem dX11_clement_86 : decode cX11_clement 86 = .ok (.getfield 51, 3) := by decide +kernel
theorem dX11_clement_89 : decode cX11_clement 89 = .ok (.iload_n 1, 1) := by decide +kernel
theorem dX11_clement_90 : decode cX11_clement 90 = .ok (.iload 6, 2) := by decide +kernel
theorem dX11_clement_92 : decode cX11_clement 92 = .ok (.invokevirtual 227, 3) := by decide +kernel
theorem dX11_clement_95 : decode cX11_clement 95 = .ok (.istore 7, 2) := by decide +kernel
theorem dX11_clement_97 : decode cX11_clement 97 = .ok (.iload 4, 2) := by decide +kernel
theorem dX11_clement_99 : decode cX11_clement 99 = .ok (.ifCond .lt 24, 3) := by decide +kernel
theorem dX11_clement_102 : decode cX11_clement 102 = .ok (.iload_n 3, 1) := by decide +kernel
theorem dX11_clement_103 : decode cX11_clement 103 = .ok (.ifCond .eq 13, 3) := by decide +kernel
theorem dX11_clement_106 : decode cX11_clement 106 = .ok (.iload 7, 2) := by decide +kernel
theorem dX11_clement_108 : decode cX11_clement 108 = .ok (.iload 5, 2) := by decide +kernel
theorem dX11_clement_110 : decode cX11_clement 110 = .ok (.if_icmp .ge 21, 3) := by decide +kernel
theorem dX11_clement_113 : decode cX11_clement 113 = .ok (.goto 10, 3) := by decide +kernel
theorem dX11_clement_116 : decode cX11_clement 116 = .ok (.iload 7, 2) := by decide +kernel
theorem dX11_clement_118 : decode cX11_clement 118 = .ok (.iload 5, 2) := by decide +kernel
theorem dX11_clement_120 : decode cX11_clement 120 = .ok (.if_icmp .le 11, 3) := by decide +kernel
theorem dX11_clement_123 : decode cX11_clement 123 = .ok (.iload 6, 2) := by decide +kernel
theorem dX11_clement_125 : decode cX11_clement 125 = .ok (.istore 4, 2) := by decide +kernel
theorem dX11_clement_127 : decode cX11_clement 127 = .ok (.iload 7, 2) := by decide +kernel
theorem dX11_clement_129 : decode cX11_clement 129 = .ok (.istore 5, 2) := by decide +kernel
theorem dX11_clement_131 : decode cX11_clement 131 = .ok (.iinc 6 1, 3) := by decide +kernel
theorem dX11_clement_134 : decode cX11_clement 134 = .ok (.goto (-87), 3) := by decide +kernel
theorem dX11_clement_137 : decode cX11_clement 137 = .ok (.iload_n 2, 1) := by decide +kernel
theorem dX11_clement_138 : decode cX11_clement 138 = .ok (.iconst 1, 1) := by decide +kernel
theorem dX11_clement_139 : decode cX11_clement 139 = .ok (.iand, 1) := by decide +kernel
theorem dX11_clement_140 : decode cX11_clement 140 = .ok (.ifCond .ne 8, 3) := by decide +kernel
theorem dX11_clement_143 : decode cX11_clement 143 = .ok (.iload 4, 2) := by decide +kernel
theorem dX11_clement_145 : decode cX11_clement 145 = .ok (.goto 5, 3) := by decide +kernel
theorem dX11_clement_148 : decode cX11_clement 148 = .ok (.iload 5, 2) := by decide +kernel
theorem dX11_clement_150 : decode cX11_clement 150 = .ok (.ireturn, 1) := by decide +kernel
theorem dX11_fact_0 : decode cX11_fact 0 = .ok (.iload_n 1, 1) := by decide +kernel
theorem dX11_fact_1 : decode cX11_fact 1 = .ok (.iconst (-1), 1) := by decide +kernel
theorem dX11_fact_2 : decode cX11_fact 2 = .ok (.if_icmp .ne 13, 3) := by decide +kernel
theorem dX11_fact_5 : decode cX11_fact 5 = .ok (.aload_n 0, 1) := by decide +kernel
theorem dX11_fact_6 : decode cX11_fact 6 = .ok (.getfield 31, 3) := by decide +kernel
theorem dX11_fact_9 : decode cX11_fact 9 = .ok (.iconst 0, 1) := by decide +kernel
theorem dX11_fact_10 : decode cX11_fact 10 = .ok (.putfield 313, 3) := by decide +kernel
theorem dX11_fact_13 : decode cX11_fact 13 = .ok (.iconst 0, 1) := by decide +kernel
theorem dX11_fact_14 : decode cX11_fact 14 = .ok (.ireturn, 1) := by decide +kernel
theorem dX11_fact_15 : decode cX11_fact 15 = .ok (.aload_n 0, 1) := by decide +kernel
theorem dX11_fact_16 : decode cX11_fact 16 = .ok (.getfield 31, 3) := by decide +kernel
theorem dX11_fact_19 : decode cX11_fact 19 = .ok (.getfield 134, 3) := by decide +kernel
theorem dX11_fact_22 : decode cX11_fact 22 = .ok (.iload_n 1, 1) := by decide +kernel
theorem dX11_fact_23 : decode cX11_fact 23 = .ok (.invokevirtual 186, 3) := by decide +kernel
theorem dX11_fact_26 : decode cX11_fact 26 = .ok (.ifCond .eq 28, 3) := by decide +kernel
theorem dX11_fact_29 : decode cX11_fact 29 = .ok (.iload_n 2, 1) := by decide +kernel
theorem dX11_fact_30 : decode cX11_fact 30 = .ok (.ifCond .lt 24, 3) := by decide +kernel
theorem dX11_fact_33 : decode cX11_fact 33 = .ok (.iload_n 2, 1) := by decide +kernel
theorem dX11_fact_34 : decode cX11_fact 34 = .ok (.bipush 7, 2) := by decide +kernel
theorem dX11_fact_36 : decode cX11_fact 36 = .ok (.if_icmp .gt 18, 3) := by decide +kernel
theorem dX11_fact_39 : decode cX11_fact 39 = .ok (.iload_n 3, 1) := by decide +kernel
theorem dX11_fact_40 : decode cX11_fact 40 = .ok (.ifCond .lt 14, 3) := by decide +kernel
theorem dX11_fact_43 : decode cX11_fact 43 = .ok (.iload_n 3, 1) := by decide +kernel
theorem dX11_fact_44 : decode cX11_fact 44 = .ok (.sipush 9999, 3) := by decide +kernel
theorem dX11_fact_47 : decode cX11_fact 47 = .ok (.if_icmp .gt 7, 3) := by decide +kernel
theorem dX11_fact_50 : decode cX11_fact 50 = .ok (.iconst 1, 1) := by decide +kernel
theorem dX11_fact_51 : decode cX11_fact 51 = .ok (.goto 4, 3) := by decide +kernel
theorem dX11_fact_54 : decode cX11_fact 54 = .ok (.iconst 0, 1) := by decide +kernel
theorem dX11_fact_55 : decode cX11_fact 55 = .ok (.istore 4, 2) := by decide +kernel
theorem dX11_fact_57 : decode cX11_fact 57 = .ok (.iload 4, 2) := by decide +kernel
theorem dX11_fact_59 : decode cX11_fact 59 = .ok (.ifCond .eq 15, 3) := by decide +kernel
theorem dX11_fact_62 : decode cX11_fact 62 = .ok (.aload_n 0, 1) := by decide +kernel
theorem dX11_fact_63 : decode cX11_fact 63 = .ok (.getfield 31, 3) := by decide +kernel
theorem dX11_fact_66 : decode cX11_fact 66 = .ok (.getfield 313, 3) := by decide +kernel
theorem dX11_fact_69 : decode cX11_fact 69 = .ok (.bipush 10, 2) := by decide +kernel
theorem dX11_fact_71 : decode cX11_fact 71 = .ok (.if_icmp .lt 6, 3) := by decide +kernel
theorem dX11_fact_74 : decode cX11_fact 74 = .ok (.bipush (-2), 2) := by decide +kernel
theorem dX11_fact_76 : decode cX11_fact 76 = .ok (.ireturn, 1) := by decide +kernel
theorem dX11_fact_77 : decode cX11_fact 77 = .ok (.aload_n 0, 1) := by decide +kernel
theorem dX11_fact_78 : decode cX11_fact 78 = .ok (.getfield 31, 3) := by decide +kernel
theorem dX11_fact_81 : decode cX11_fact 81 = .ok (.iload_n 1, 1) := by decide +kernel
theorem dX11_fact_82 : decode cX11_fact 82 = .ok (.iload_n 2, 1) := by decide +kernel
theorem dX11_fact_83 : decode cX11_fact 83 = .ok (.iload_n 3, 1) := by decide +kernel
theorem dX11_fact_84 : decode cX11_fact 84 = .ok (.invokevirtual 316, 3) := by decide +kernel
theorem dX11_fact_87 : decode cX11_fact 87 = .ok (.aload_n 0, 1) := by decide +kernel
theorem dX11_fact_88 : decode cX11_fact 88 = .ok (.getfield 31, 3) := by decide +kernel
theorem dX11_fact_91 : decode cX11_fact 91 = .ok (.getfield 313, 3) := by decide +kernel
theorem dX11_fact_94 : decode cX11_fact 94 = .ok (.ireturn, 1) := by decide +kernel
theorem dX11_who_0 : decode cX11_who 0 = .ok (.aload_n 0, 1) := by decide +kernel
theorem dX11_who_1 : decode cX11_who 1 = .ok (.getfield 31, 3) := by decide +kernel
theorem dX11_who_4 : decode cX11_who 4 = .ok (.getfield 134, 3) := by decide +kernel
theorem dX11_who_7 : decode cX11_who 7 = .ok (.iload_n 1, 1) := by decide +kernel
theorem dX11_who_8 : decode cX11_who 8 = .ok (.invokevirtual 186, 3) := by decide +kernel
theorem dX11_who_11 : decode cX11_who 11 = .ok (.ifCond .eq 12, 3) := by decide +kernel
theorem dX11_who_14 : decode cX11_who 14 = .ok (.iload_n 2, 1) := by decide +kernel
theorem dX11_who_15 : decode cX11_who 15 = .ok (.ifCond .lt 8, 3) := by decide +kernel
theorem dX11_who_18 : decode cX11_who 18 = .ok (.iload_n 2, 1) := by decide +kernel
theorem dX11_who_19 : decode cX11_who 19 = .ok (.iconst 3, 1) := by decide +kernel
theorem dX11_who_20 : decode cX11_who 20 = .ok (.if_icmp .le 5, 3) := by decide +kernel
theorem dX11_who_23 : decode cX11_who 23 = .ok (.iconst (-1), 1) := by decide +kernel
theorem dX11_who_24 : decode cX11_who 24 = .ok (.ireturn, 1) := by decide +kernel
theorem dX11_who_25 : decode cX11_who 25 = .ok (.aload_n 0, 1) := by decide +kernel
theorem dX11_who_26 : decode cX11_who 26 = .ok (.getfield 67, 3) := by decide +kernel
theorem dX11_who_29 : decode cX11_who 29 = .ok (.iload_n 1, 1) := by decide +kernel
theorem dX11_who_30 : decode cX11_who 30 = .ok (.invokevirtual 320, 3) := by decide +kernel
theorem dX11_who_33 : decode cX11_who 33 = .ok (.iload_n 2, 1) := by decide +kernel
theorem dX11_who_34 : decode cX11_who 34 = .ok (.tableswitch 50 0 2 #[26, 34, 42], 26) := by decide +kernel
theorem dX11_who_60 : decode cX11_who 60 = .ok (.aload_n 0, 1) := by decide +kernel
theorem dX11_who_61 : decode cX11_who 61 = .ok (.getfield 67, 3) := by decide +kernel
theorem dX11_who_64 : decode cX11_who 64 = .ok (.getfield 323, 3) := by decide +kernel
theorem dX11_who_67 : decode cX11_who 67 = .ok (.ireturn, 1) := by decide +kernel
theorem dX11_who_68 : decode cX11_who 68 = .ok (.aload_n 0, 1) := by decide +kernel
theorem dX11_who_69 : decode cX11_who 69 = .ok (.getfield 67, 3) := by decide +kernel
theorem dX11_who_72 : decode cX11_who 72 = .ok (.getfield 324, 3) := by decide +kernel
theorem dX11_who_75 : decode cX11_who 75 = .ok (.ireturn, 1) := by decide +kernel
theorem dX11_who_76 : decode cX11_who 76 = .ok (.aload_n 0, 1) := by decide +kernel
theorem dX11_who_77 : decode cX11_who 77 = .ok (.getfield 67, 3) := by decide +kernel
theorem dX11_who_80 : decode cX11_who 80 = .ok (.getfield 326, 3) := by decide +kernel
theorem dX11_who_83 : decode cX11_who 83 = .ok (.ireturn, 1) := by decide +kernel
theorem dX11_who_84 : decode cX11_who 84 = .ok (.aload_n 0, 1) := by decide +kernel
theorem dX11_who_85 : decode cX11_who 85 = .ok (.getfield 67, 3) := by decide +kernel
theorem dX11_who_88 : decode cX11_who 88 = .ok (.getfield 327, 3) := by decide +kernel
theorem dX11_who_91 : decode cX11_who 91 = .ok (.ireturn, 1) := by decide +kernel
theorem dX11_look_0 : decode cX11_look 0 = .ok (.aload_n 0, 1) := by decide +kernel
theorem dX11_look_1 : decode cX11_look 1 = .ok (.getfield 31, 3) := by decide +kernel
theorem dX11_look_4 : decode cX11_look 4 = .ok (.getfield 134, 3) := by decide +kernel
theorem dX11_look_7 : decode cX11_look 7 = .ok (.iload_n 1, 1) := by decide +kernel
theorem dX11_look_8 : decode cX11_look 8 = .ok (.invokevirtual 186, 3) := by decide +kernel
theorem dX11_look_11 : decode cX11_look 11 = .ok (.ifCond .eq 12, 3) := by decide +kernel
theorem dX11_look_14 : decode cX11_look 14 = .ok (.iload_n 2, 1) := by decide +kernel
theorem dX11_look_15 : decode cX11_look 15 = .ok (.ifCond .lt 8, 3) := by decide +kernel
theorem dX11_look_18 : decode cX11_look 18 = .ok (.iload_n 2, 1) := by decide +kernel
theorem dX11_look_19 : decode cX11_look 19 = .ok (.iconst 1, 1) := by decide +kernel
theorem dX11_look_20 : decode cX11_look 20 = .ok (.if_icmp .le 5, 3) := by decide +kernel
theorem dX11_look_23 : decode cX11_look 23 = .ok (.iconst (-1), 1) := by decide +kernel
theorem dX11_look_24 : decode cX11_look 24 = .ok (.ireturn, 1) := by decide +kernel
theorem dX11_look_25 : decode cX11_look 25 = .ok (.aload_n 0, 1) := by decide +kernel
theorem dX11_look_26 : decode cX11_look 26 = .ok (.getfield 67, 3) := by decide +kernel
theorem dX11_look_29 : decode cX11_look 29 = .ok (.iload_n 1, 1) := by decide +kernel
theorem dX11_look_30 : decode cX11_look 30 = .ok (.invokevirtual 320, 3) := by decide +kernel
theorem dX11_look_33 : decode cX11_look 33 = .ok (.aload_n 0, 1) := by decide +kernel
theorem dX11_look_34 : decode cX11_look 34 = .ok (.getfield 67, 3) := by decide +kernel
theorem dX11_look_37 : decode cX11_look 37 = .ok (.iload_n 2, 1) := by decide +kernel
theorem dX11_look_38 : decode cX11_look 38 = .ok (.ifCond .ne 7, 3) := by decide +kernel
theorem dX11_look_41 : decode cX11_look 41 = .ok (.iconst 1, 1) := by decide +kernel
theorem dX11_look_42 : decode cX11_look 42 = .ok (.goto 4, 3) := by decide +kernel
theorem dX11_look_45 : decode cX11_look 45 = .ok (.iconst 0, 1) := by decide +kernel
theorem dX11_look_46 : decode cX11_look 46 = .ok (.invokevirtual 330, 3) := by decide +kernel
theorem dX11_look_49 : decode cX11_look 49 = .ok (.ireturn, 1) := by decide +kernel
theorem dX11_seed_0 : decode cX11_seed 0 = .ok (.iload_n 1, 1) := by decide +kernel
theorem dX11_seed_1 : decode cX11_seed 1 = .ok (.ifCond .ge 5, 3) := by decide +kernel
theorem dX11_seed_4 : decode cX11_seed 4 = .ok (.iconst (-1), 1) := by decide +kernel
theorem dX11_seed_5 : decode cX11_seed 5 = .ok (.ireturn, 1) := by decide +kernel
theorem dX11_seed_6 : decode cX11_seed 6 = .ok (.aload_n 0, 1) := by decide +kernel
theorem dX11_seed_7 : decode cX11_seed 7 = .ok (.getfield 31, 3) := by decide +kernel
theorem dX11_seed_10 : decode cX11_seed 10 = .ok (.getfield 333, 3) := by decide +kernel
theorem dX11_seed_13 : decode cX11_seed 13 = .ok (.istore_n 2, 1) := by decide +kernel
theorem dX11_seed_14 : decode cX11_seed 14 = .ok (.aload_n 0, 1) := by decide +kernel
theorem dX11_seed_15 : decode cX11_seed 15 = .ok (.getfield 31, 3) := by decide +kernel
theorem dX11_seed_18 : decode cX11_seed 18 = .ok (.iload_n 1, 1) := by decide +kernel
theorem dX11_seed_19 : decode cX11_seed 19 = .ok (.putfield 333, 3) := by decide +kernel
theorem dX11_seed_22 : decode cX11_seed 22 = .ok (.iload_n 2, 1) := by decide +kernel
theorem dX11_seed_23 : decode cX11_seed 23 = .ok (.ireturn, 1) := by decide +kernel
theorem dX11_hearByDraw_0 : decode cX11_hearByDraw 0 = .ok (.aload_n 0, 1) := by decide +kernel
theorem dX11_hearByDraw_1 : decode cX11_hearByDraw 1 = .ok (.getfield 31, 3) := by decide +kernel
theorem dX11_hearByDraw_4 : decode cX11_hearByDraw 4 = .ok (.getfield 134, 3) := by decide +kernel
theorem dX11_hearByDraw_7 : decode cX11_hearByDraw 7 = .ok (.getfield 137, 3) := by decide +kernel
theorem dX11_hearByDraw_10 : decode cX11_hearByDraw 10 = .ok (.istore_n 1, 1) := by decide +kernel
theorem dX11_hearByDraw_11 : decode cX11_hearByDraw 11 = .ok (.iload_n 1, 1) := by decide +kernel
theorem dX11_hearByDraw_12 : decode cX11_hearByDraw 12 = .ok (.ifCond .gt 4, 3) := by decide +kernel
theorem dX11_hearByDraw_15 : decode cX11_hearByDraw 15 = .ok (.return_, 1) := by decide +kernel
theorem dX11_hearByDraw_16 : decode cX11_hearByDraw 16 = .ok (.aload_n 0, 1) := by decide +kernel
theorem dX11_hearByDraw_17 : decode cX11_hearByDraw 17 = .ok (.getfield 31, 3) := by decide +kernel
theorem dX11_hearByDraw_20 : decode cX11_hearByDraw 20 = .ok (.invokevirtual 345, 3) := by decide +kernel
theorem dX11_hearByDraw_23 : decode cX11_hearByDraw 23 = .ok (.iload_n 1, 1) := by decide +kernel
theorem dX11_hearByDraw_24 : decode cX11_hearByDraw 24 = .ok (.irem, 1) := by decide +kernel
theorem dX11_hearByDraw_25 : decode cX11_hearByDraw 25 = .ok (.istore_n 2, 1) := by decide +kernel
theorem dX11_hearByDraw_26 : decode cX11_hearByDraw 26 = .ok (.iconst 0, 1) := by decide +kernel
theorem dX11_hearByDraw_27 : decode cX11_hearByDraw 27 = .ok (.istore_n 3, 1) := by decide +kernel
theorem dX11_hearByDraw_28 : decode cX11_hearByDraw 28 = .ok (.iload_n 3, 1) := by decide +kernel
theorem dX11_hearByDraw_29 : decode cX11_hearByDraw 29 = .ok (.aload_n 0, 1) := by decide +kernel
theorem dX11_hearByDraw_30 : decode cX11_hearByDraw 30 = .ok (.getfield 31, 3) := by decide +kernel
theorem dX11_hearByDraw_33 : decode cX11_hearByDraw 33 = .ok (.getfield 134, 3) := by decide +kernel
theorem dX11_hearByDraw_36 : decode cX11_hearByDraw 36 = .ok (.getfield 349, 3) := by decide +kernel
theorem dX11_hearByDraw_39 : decode cX11_hearByDraw 39 = .ok (.if_icmp .ge 31, 3) := by decide +kernel
theorem dX11_hearByDraw_42 : decode cX11_hearByDraw 42 = .ok (.aload_n 0, 1) := by decide +kernel
theorem dX11_hearByDraw_43 : decode cX11_hearByDraw 43 = .ok (.getfield 51, 3) := by decide +kernel
theorem dX11_hearByDraw_46 : decode cX11_hearByDraw 46 = .ok (.iload_n 3, 1) := by decide +kernel
theorem dX11_hearByDraw_47 : decode cX11_hearByDraw 47 = .ok (.iload_n 2, 1) := by decide +kernel
theorem dX11_hearByDraw_48 : decode cX11_hearByDraw 48 = .ok (.invokevirtual 248, 3) := by decide +kernel
theorem dX11_hearByDraw_51 : decode cX11_hearByDraw 51 = .ok (.ifCond .eq 13, 3) := by decide +kernel
theorem dX11_hearByDraw_54 : decode cX11_hearByDraw 54 = .ok (.aload_n 0, 1) := by decide +kernel
theorem dX11_hearByDraw_55 : decode cX11_hearByDraw 55 = .ok (.getfield 51, 3) := by decide +kernel
theorem dX11_hearByDraw_58 : decode cX11_hearByDraw 58 = .ok (.iload_n 3, 1) := by decide +kernel
theorem dX11_hearByDraw_59 : decode cX11_hearByDraw 59 = .ok (.iload_n 2, 1) := by decide +kernel
theorem dX11_hearByDraw_60 : decode cX11_hearByDraw 60 = .ok (.invokevirtual 251, 3) := by decide +kernel
theorem dX11_hearByDraw_63 : decode cX11_hearByDraw 63 = .ok (.return_, 1) := by decide +kernel
theorem dX11_hearByDraw_64 : decode cX11_hearByDraw 64 = .ok (.iinc 3 1, 3) := by decide +kernel
theorem dX11_hearByDraw_67 : decode cX11_hearByDraw 67 = .ok (.goto (-39), 3) := by decide +kernel
theorem dX11_hearByDraw_70 : decode cX11_hearByDraw 70 = .ok (.return_, 1) := by decide +kernel
theorem dX11_ruledRightly_0 : decode cX11_ruledRightly 0 = .ok (.iconst 0, 1) := by decide +kernel
theorem dX11_ruledRightly_1 : decode cX11_ruledRightly 1 = .ok (.istore_n 2, 1) := by decide +kernel
theorem dX11_ruledRightly_2 : decode cX11_ruledRightly 2 = .ok (.iconst 0, 1) := by decide +kernel
theorem dX11_ruledRightly_3 : decode cX11_ruledRightly 3 = .ok (.istore_n 3, 1) := by decide +kernel
theorem dX11_ruledRightly_4 : decode cX11_ruledRightly 4 = .ok (.iload_n 3, 1) := by decide +kernel
theorem dX11_ruledRightly_5 : decode cX11_ruledRightly 5 = .ok (.aload_n 0, 1) := by decide +kernel
theorem dX11_ruledRightly_6 : decode cX11_ruledRightly 6 = .ok (.getfield 31, 3) := by decide +kernel
theorem dX11_ruledRightly_9 : decode cX11_ruledRightly 9 = .ok (.getfield 134, 3) := by decide +kernel
theorem dX11_ruledRightly_12 : decode cX11_ruledRightly 12 = .ok (.getfield 349, 3) := by decide +kernel
theorem dX11_ruledRightly_15 : decode cX11_ruledRightly 15 = .ok (.if_icmp .ge 45, 3) := by decide +kernel
theorem dX11_ruledRightly_18 : decode cX11_ruledRightly 18 = .ok (.iload_n 1, 1) := by decide +kernel
theorem dX11_ruledRightly_19 : decode cX11_ruledRightly 19 = .ok (.iload_n 3, 1) := by decide +kernel
theorem dX11_ruledRightly_20 : decode cX11_ruledRightly 20 = .ok (.ishr, 1) := by decide +kernel
theorem dX11_ruledRightly_21 : decode cX11_ruledRightly 21 = .ok (.iconst 1, 1) := by decide +kernel
theorem dX11_ruledRightly_22 : decode cX11_ruledRightly 22 = .ok (.iand, 1) := by decide +kernel
theorem dX11_ruledRightly_23 : decode cX11_ruledRightly 23 = .ok (.ifCond .eq 31, 3) := by decide +kernel
theorem dX11_ruledRightly_26 : decode cX11_ruledRightly 26 = .ok (.aload_n 0, 1) := by decide +kernel
theorem dX11_ruledRightly_27 : decode cX11_ruledRightly 27 = .ok (.getfield 31, 3) := by decide +kernel
theorem dX11_ruledRightly_30 : decode cX11_ruledRightly 30 = .ok (.invokevirtual 345, 3) := by decide +kernel
theorem dX11_ruledRightly_33 : decode cX11_ruledRightly 33 = .ok (.bipush 100, 2) := by decide +kernel
theorem dX11_ruledRightly_35 : decode cX11_ruledRightly 35 = .ok (.irem, 1) := by decide +kernel
theorem dX11_ruledRightly_36 : decode cX11_ruledRightly 36 = .ok (.aload_n 0, 1) := by decide +kernel
theorem dX11_ruledRightly_37 : decode cX11_ruledRightly 37 = .ok (.getfield 31, 3) := by decide +kernel
theorem dX11_ruledRightly_40 : decode cX11_ruledRightly 40 = .ok (.getfield 155, 3) := by decide +kernel
theorem dX11_ruledRightly_43 : decode cX11_ruledRightly 43 = .ok (.getfield 210, 3) := by decide +kernel
theorem dX11_ruledRightly_46 : decode cX11_ruledRightly 46 = .ok (.iload_n 3, 1) := by decide +kernel
theorem dX11_ruledRightly_47 : decode cX11_ruledRightly 47 = .ok (.iaload, 1) := by decide +kernel
theorem dX11_ruledRightly_48 : decode cX11_ruledRightly 48 = .ok (.if_icmp .ge 6, 3) := by decide +kernel
theorem dX11_ruledRightly_51 : decode cX11_ruledRightly 51 = .ok (.iinc 2 1, 3) := by decide +kernel
theorem dX11_ruledRightly_54 : decode cX11_ruledRightly 54 = .ok (.iinc 3 1, 3) := by decide +kernel
theorem dX11_ruledRightly_57 : decode cX11_ruledRightly 57 = .ok (.goto (-53), 3) := by decide +kernel
theorem dX11_ruledRightly_60 : decode cX11_ruledRightly 60 = .ok (.iload_n 2, 1) := by decide +kernel
theorem dX11_ruledRightly_61 : decode cX11_ruledRightly 61 = .ok (.ireturn, 1) := by decide +kernel
theorem dX11_years_0 : decode cX11_years 0 = .ok (.aload_n 0, 1) := by decide +kernel
theorem dX11_years_1 : decode cX11_years 1 = .ok (.getfield 31, 3) := by decide +kernel
theorem dX11_years_4 : decode cX11_years 4 = .ok (.getfield 134, 3) := by decide +kernel
theorem dX11_years_7 : decode cX11_years 7 = .ok (.getfield 231, 3) := by decide +kernel
theorem dX11_years_10 : decode cX11_years 10 = .ok (.ifCond .eq 29, 3) := by decide +kernel
theorem dX11_years_13 : decode cX11_years 13 = .ok (.iload_n 1, 1) := by decide +kernel
theorem dX11_years_14 : decode cX11_years 14 = .ok (.iconst 1, 1) := by decide +kernel
theorem dX11_years_15 : decode cX11_years 15 = .ok (.if_icmp .lt 24, 3) := by decide +kernel
theorem dX11_years_18 : decode cX11_years 18 = .ok (.iload_n 1, 1) := by decide +kernel
theorem dX11_years_19 : decode cX11_years 19 = .ok (.bipush 10, 2) := by decide +kernel
theorem dX11_years_21 : decode cX11_years 21 = .ok (.if_icmp .gt 18, 3) := by decide +kernel
theorem dX11_years_24 : decode cX11_years 24 = .ok (.iload_n 2, 1) := by decide +kernel
theorem dX11_years_25 : decode cX11_years 25 = .ok (.iconst 1, 1) := by decide +kernel
theorem dX11_years_26 : decode cX11_years 26 = .ok (.if_icmp .lt 13, 3) := by decide +kernel
theorem dX11_years_29 : decode cX11_years 29 = .ok (.iload_n 2, 1) := by decide +kernel
theorem dX11_years_30 : decode cX11_years 30 = .ok (.bipush 99, 2) := by decide +kernel
theorem dX11_years_32 : decode cX11_years 32 = .ok (.if_icmp .gt 7, 3) := by decide +kernel
theorem dX11_years_35 : decode cX11_years 35 = .ok (.iconst 1, 1) := by decide +kernel
theorem dX11_years_36 : decode cX11_years 36 = .ok (.goto 4, 3) := by decide +kernel
theorem dX11_years_39 : decode cX11_years 39 = .ok (.iconst 0, 1) := by decide +kernel
theorem dX11_years_40 : decode cX11_years 40 = .ok (.istore 4, 2) := by decide +kernel
theorem dX11_years_42 : decode cX11_years 42 = .ok (.iload 4, 2) := by decide +kernel
theorem dX11_years_44 : decode cX11_years 44 = .ok (.ifCond .eq 12, 3) := by decide +kernel
theorem dX11_years_47 : decode cX11_years 47 = .ok (.iload_n 3, 1) := by decide +kernel
theorem dX11_years_48 : decode cX11_years 48 = .ok (.ifCond .lt 8, 3) := by decide +kernel
theorem dX11_years_51 : decode cX11_years 51 = .ok (.iload_n 3, 1) := by decide +kernel
theorem dX11_years_52 : decode cX11_years 52 = .ok (.iconst 1, 1) := by decide +kernel
theorem dX11_years_53 : decode cX11_years 53 = .ok (.if_icmp .le 5, 3) := by decide +kernel
theorem dX11_years_56 : decode cX11_years 56 = .ok (.iconst (-1), 1) := by decide +kernel
theorem dX11_years_57 : decode cX11_years 57 = .ok (.ireturn, 1) := by decide +kernel
theorem dX11_years_58 : decode cX11_years 58 = .ok (.aload_n 0, 1) := by decide +kernel
theorem dX11_years_59 : decode cX11_years 59 = .ok (.getfield 31, 3) := by decide +kernel
theorem dX11_years_62 : decode cX11_years 62 = .ok (.getfield 333, 3) := by decide +kernel
theorem dX11_years_65 : decode cX11_years 65 = .ok (.istore 5, 2) := by decide +kernel
theorem dX11_years_67 : decode cX11_years 67 = .ok (.iconst 0, 1) := by decide +kernel
theorem dX11_years_68 : decode cX11_years 68 = .ok (.istore 6, 2) := by decide +kernel
theorem dX11_years_70 : decode cX11_years 70 = .ok (.iconst 0, 1) := by decide +kernel
theorem dX11_years_71 : decode cX11_years 71 = .ok (.istore 7, 2) := by decide +kernel
theorem dX11_years_73 : decode cX11_years 73 = .ok (.aload_n 0, 1) := by decide +kernel
theorem dX11_years_74 : decode cX11_years 74 = .ok (.getfield 99, 3) := by decide +kernel
theorem dX11_years_77 : decode cX11_years 77 = .ok (.aload_n 0, 1) := by decide +kernel
theorem dX11_years_78 : decode cX11_years 78 = .ok (.getfield 31, 3) := by decide +kernel
theorem dX11_years_81 : decode cX11_years 81 = .ok (.getfield 155, 3) := by decide +kernel
theorem dX11_years_84 : decode cX11_years 84 = .ok (.invokevirtual 336, 3) := by decide +kernel
theorem dX11_years_87 : decode cX11_years 87 = .ok (.iconst 0, 1) := by decide +kernel
theorem dX11_years_88 : decode cX11_years 88 = .ok (.istore 8, 2) := by decide +kernel
theorem dX11_years_90 : decode cX11_years 90 = .ok (.iload 8, 2) := by decide +kernel
theorem dX11_years_92 : decode cX11_years 92 = .ok (.iload_n 1, 1) := by decide +kernel
theorem dX11_years_93 : decode cX11_years 93 = .ok (.if_icmp .ge 82, 3) := by decide +kernel
theorem dX11_years_96 : decode cX11_years 96 = .ok (.iconst 0, 1) := by decide +kernel
theorem dX11_years_97 : decode cX11_years 97 = .ok (.istore 9, 2) := by decide +kernel
theorem dX11_years_99 : decode cX11_years 99 = .ok (.iload 9, 2) := by decide +kernel
theorem dX11_years_101 : decode cX11_years 101 = .ok (.iload_n 2, 1) := by decide +kernel
theorem dX11_years_102 : decode cX11_years 102 = .ok (.if_icmp .ge 53, 3) := by decide +kernel
theorem dX11_years_105 : decode cX11_years 105 = .ok (.aload_n 0, 1) := by decide +kernel
theorem dX11_years_106 : decode cX11_years 106 = .ok (.invokevirtual 339, 3) := by decide +kernel
theorem dX11_years_109 : decode cX11_years 109 = .ok (.aload_n 0, 1) := by decide +kernel
theorem dX11_years_110 : decode cX11_years 110 = .ok (.getfield 31, 3) := by decide +kernel
theorem dX11_years_113 : decode cX11_years 113 = .ok (.getfield 155, 3) := by decide +kernel
theorem dX11_years_116 : decode cX11_years 116 = .ok (.aload_n 0, 1) := by decide +kernel
theorem dX11_years_117 : decode cX11_years 117 = .ok (.getfield 31, 3) := by decide +kernel
theorem dX11_years_120 : decode cX11_years 120 = .ok (.getfield 134, 3) := by decide +kernel
theorem dX11_years_123 : decode cX11_years 123 = .ok (.invokevirtual 239, 3) := by decide +kernel
theorem dX11_years_126 : decode cX11_years 126 = .ok (.istore 10, 2) := by decide +kernel
theorem dX11_years_128 : decode cX11_years 128 = .ok (.iload 7, 2) := by decide +kernel
theorem dX11_years_130 : decode cX11_years 130 = .ok (.iload 10, 2) := by decide +kernel
theorem dX11_years_132 : decode cX11_years 132 = .ok (.invokestatic 243, 3) := by decide +kernel
theorem dX11_years_135 : decode cX11_years 135 = .ok (.iadd, 1) := by decide +kernel
theorem dX11_years_136 : decode cX11_years 136 = .ok (.istore 7, 2) := by decide +kernel
theorem dX11_years_138 : decode cX11_years 138 = .ok (.iload 6, 2) := by decide +kernel
theorem dX11_years_140 : decode cX11_years 140 = .ok (.aload_n 0, 1) := by decide +kernel
theorem dX11_years_141 : decode cX11_years 141 = .ok (.iload 10, 2) := by decide +kernel
theorem dX11_years_143 : decode cX11_years 143 = .ok (.invokevirtual 342, 3) := by decide +kernel
theorem dX11_years_146 : decode cX11_years 146 = .ok (.iadd, 1) := by decide +kernel
theorem dX11_years_147 : decode cX11_years 147 = .ok (.istore 6, 2) := by decide +kernel
theorem dX11_years_149 : decode cX11_years 149 = .ok (.iinc 9 1, 3) := by decide +kernel
theorem dX11_years_152 : decode cX11_years 152 = .ok (.goto (-53), 3) := by decide +kernel
theorem dX11_years_155 : decode cX11_years 155 = .ok (.aload_n 0, 1) := by decide +kernel
theorem dX11_years_156 : decode cX11_years 156 = .ok (.getfield 31, 3) := by decide +kernel
theorem dX11_years_159 : decode cX11_years 159 = .ok (.getfield 155, 3) := by decide +kernel
theorem dX11_years_162 : decode cX11_years 162 = .ok (.aload_n 0, 1) := by decide +kernel
theorem dX11_years_163 : decode cX11_years 163 = .ok (.getfield 99, 3) := by decide +kernel
theorem dX11_years_166 : decode cX11_years 166 = .ok (.invokevirtual 336, 3) := by decide +kernel
theorem dX11_years_169 : decode cX11_years 169 = .ok (.iinc 8 1, 3) := by decide +kernel
theorem dX11_years_172 : decode cX11_years 172 = .ok (.goto (-82), 3) := by decide +kernel
theorem dX11_years_175 : decode cX11_years 175 = .ok (.aload_n 0, 1) := by decide +kernel
theorem dX11_years_176 : decode cX11_years 176 = .ok (.getfield 31, 3) := by decide +kernel
theorem dX11_years_179 : decode cX11_years 179 = .ok (.iload 5, 2) := by decide +kernel
theorem dX11_years_181 : decode cX11_years 181 = .ok (.putfield 333, 3) := by decide +kernel
theorem dX11_years_184 : decode cX11_years 184 = .ok (.iload_n 3, 1) := by decide +kernel
theorem dX11_years_185 : decode cX11_years 185 = .ok (.ifCond .ne 8, 3) := by decide +kernel
theorem dX11_years_188 : decode cX11_years 188 = .ok (.iload 6, 2) := by decide +kernel
theorem dX11_years_190 : decode cX11_years 190 = .ok (.goto 5, 3) := by decide +kernel
theorem dX11_years_193 : decode cX11_years 193 = .ok (.iload 7, 2) := by decide +kernel
theorem dX11_years_195 : decode cX11_years 195 = .ok (.ireturn, 1) := by decide +kernel
theorem dX11_count_0 : decode cX11_count 0 = .ok (.aload_n 0, 1) := by decide +kernel
theorem dX11_count_1 : decode cX11_count 1 = .ok (.getfield 31, 3) := by decide +kernel
theorem dX11_count_4 : decode cX11_count 4 = .ok (.getfield 134, 3) := by decide +kernel
theorem dX11_count_7 : decode cX11_count 7 = .ok (.astore_n 2, 1) := by decide +kernel
theorem dX11_count_8 : decode cX11_count 8 = .ok (.iload_n 1, 1) := by decide +kernel
theorem dX11_count_9 : decode cX11_count 9 = .ok (.tableswitch 210 0 14 #[75, 80, 85, 90, 95, 100, 108, 119, 134, 149, 165, 181, 189, 197, 205], 75) := by decide +kernel
theorem dX11_count_84 : decode cX11_count 84 = .ok (.aload_n 2, 1) := by decide +kernel
theorem dX11_count_85 : decode cX11_count 85 = .ok (.getfield 352, 3) := by decide +kernel
theorem dX11_count_88 : decode cX11_count 88 = .ok (.ireturn, 1) := by decide +kernel
theorem dX11_count_89 : decode cX11_count 89 = .ok (.aload_n 2, 1) := by decide +kernel
theorem dX11_count_90 : decode cX11_count 90 = .ok (.getfield 355, 3) := by decide +kernel
theorem dX11_count_93 : decode cX11_count 93 = .ok (.ireturn, 1) := by decide +kernel
theorem dX11_count_94 : decode cX11_count 94 = .ok (.aload_n 2, 1) := by decide +kernel
theorem dX11_count_95 : decode cX11_count 95 = .ok (.getfield 137, 3) := by decide +kernel
theorem dX11_count_98 : decode cX11_count 98 = .ok (.ireturn, 1) := by decide +kernel
theorem dX11_count_99 : decode cX11_count 99 = .ok (.aload_n 2, 1) := by decide +kernel
theorem dX11_count_100 : decode cX11_count 100 = .ok (.getfield 349, 3) := by decide +kernel
theorem dX11_count_103 : decode cX11_count 103 = .ok (.ireturn, 1) := by decide +kernel
theorem dX11_count_104 : decode cX11_count 104 = .ok (.aload_n 0, 1) := by decide +kernel
theorem dX11_count_105 : decode cX11_count 105 = .ok (.getfield 110, 3) := by decide +kernel
theorem dX11_count_108 : decode cX11_count 108 = .ok (.ireturn, 1) := by decide +kernel
theorem dX11_count_109 : decode cX11_count 109 = .ok (.aload_n 0, 1) := by decide +kernel
theorem dX11_count_110 : decode cX11_count 110 = .ok (.getfield 31, 3) := by decide +kernel
theorem dX11_count_113 : decode cX11_count 113 = .ok (.getfield 148, 3) := by decide +kernel
theorem dX11_count_116 : decode cX11_count 116 = .ok (.ireturn, 1) := by decide +kernel
theorem dX11_count_117 : decode cX11_count 117 = .ok (.aload_n 0, 1) := by decide +kernel
theorem dX11_count_118 : decode cX11_count 118 = .ok (.getfield 31, 3) := by decide +kernel
theorem dX11_count_121 : decode cX11_count 121 = .ok (.getfield 155, 3) := by decide +kernel
theorem dX11_count_124 : decode cX11_count 124 = .ok (.getfield 161, 3) := by decide +kernel
theorem dX11_count_127 : decode cX11_count 127 = .ok (.ireturn, 1) := by decide +kernel
theorem dX11_count_128 : decode cX11_count 128 = .ok (.aload_n 0, 1) := by decide +kernel
theorem dX11_count_129 : decode cX11_count 129 = .ok (.getfield 31, 3) := by decide +kernel
theorem dX11_count_132 : decode cX11_count 132 = .ok (.getfield 155, 3) := by decide +kernel
theorem dX11_count_135 : decode cX11_count 135 = .ok (.aload_n 2, 1) := by decide +kernel
theorem dX11_count_136 : decode cX11_count 136 = .ok (.getfield 349, 3) := by decide +kernel
theorem dX11_count_139 : decode cX11_count 139 = .ok (.invokevirtual 358, 3) := by decide +kernel
theorem dX11_count_142 : decode cX11_count 142 = .ok (.ireturn, 1) := by decide +kernel
theorem dX11_count_143 : decode cX11_count 143 = .ok (.aload_n 0, 1) := by decide +kernel
theorem dX11_count_144 : decode cX11_count 144 = .ok (.getfield 31, 3) := by decide +kernel
theorem dX11_count_147 : decode cX11_count 147 = .ok (.getfield 155, 3) := by decide +kernel
theorem dX11_count_150 : decode cX11_count 150 = .ok (.aload_n 2, 1) := by decide +kernel
theorem dX11_count_151 : decode cX11_count 151 = .ok (.getfield 349, 3) := by decide +kernel
theorem dX11_count_154 : decode cX11_count 154 = .ok (.invokevirtual 361, 3) := by decide +kernel
theorem dX11_count_157 : decode cX11_count 157 = .ok (.ireturn, 1) := by decide +kernel
theorem dX11_count_158 : decode cX11_count 158 = .ok (.aload_n 2, 1) := by decide +kernel
theorem dX11_count_159 : decode cX11_count 159 = .ok (.getfield 231, 3) := by decide +kernel
theorem dX11_count_162 : decode cX11_count 162 = .ok (.ifCond .eq 10, 3) := by decide +kernel
theorem dX11_count_165 : decode cX11_count 165 = .ok (.aload_n 2, 1) := by decide +kernel
theorem dX11_count_166 : decode cX11_count 166 = .ok (.getfield 364, 3) := by decide +kernel
theorem dX11_count_169 : decode cX11_count 169 = .ok (.goto 4, 3) := by decide +kernel
theorem dX11_count_172 : decode cX11_count 172 = .ok (.iconst (-1), 1) := by decide +kernel
theorem dX11_count_173 : decode cX11_count 173 = .ok (.ireturn, 1) := by decide +kernel
theorem dX11_count_174 : decode cX11_count 174 = .ok (.aload_n 2, 1) := by decide +kernel
theorem dX11_count_175 : decode cX11_count 175 = .ok (.getfield 231, 3) := by decide +kernel
theorem dX11_count_178 : decode cX11_count 178 = .ok (.ifCond .eq 10, 3) := by decide +kernel
theorem dX11_count_181 : decode cX11_count 181 = .ok (.aload_n 2, 1) := by decide +kernel
theorem dX11_count_182 : decode cX11_count 182 = .ok (.getfield 367, 3) := by decide +kernel
theorem dX11_count_185 : decode cX11_count 185 = .ok (.goto 4, 3) := by decide +kernel
theorem dX11_count_188 : decode cX11_count 188 = .ok (.iconst (-1), 1) := by decide +kernel
theorem dX11_count_189 : decode cX11_count 189 = .ok (.ireturn, 1) := by decide +kernel
theorem dX11_count_190 : decode cX11_count 190 = .ok (.aload_n 0, 1) := by decide +kernel
theorem dX11_count_191 : decode cX11_count 191 = .ok (.getfield 31, 3) := by decide +kernel
theorem dX11_count_194 : decode cX11_count 194 = .ok (.getfield 313, 3) := by decide +kernel
theorem dX11_count_197 : decode cX11_count 197 = .ok (.ireturn, 1) := by decide +kernel
theorem dX11_count_198 : decode cX11_count 198 = .ok (.aload_n 0, 1) := by decide +kernel
theorem dX11_count_199 : decode cX11_count 199 = .ok (.getfield 42, 3) := by decide +kernel
theorem dX11_count_202 : decode cX11_count 202 = .ok (.getfield 262, 3) := by decide +kernel
theorem dX11_count_205 : decode cX11_count 205 = .ok (.ireturn, 1) := by decide +kernel
theorem dX11_count_206 : decode cX11_count 206 = .ok (.aload_n 0, 1) := by decide +kernel
theorem dX11_count_207 : decode cX11_count 207 = .ok (.getfield 31, 3) := by decide +kernel
theorem dX11_count_210 : decode cX11_count 210 = .ok (.getfield 333, 3) := by decide +kernel
theorem dX11_count_213 : decode cX11_count 213 = .ok (.ireturn, 1) := by decide +kernel
theorem dX11_count_214 : decode cX11_count 214 = .ok (.aload_n 0, 1) := by decide +kernel
theorem dX11_count_215 : decode cX11_count 215 = .ok (.getfield 106, 3) := by decide +kernel
theorem dX11_count_218 : decode cX11_count 218 = .ok (.ireturn, 1) := by decide +kernel
theorem dX11_count_219 : decode cX11_count 219 = .ok (.iconst (-1), 1) := by decide +kernel
theorem dX11_count_220 : decode cX11_count 220 = .ok (.ireturn, 1) := by decide +kernel
theorem dX11_back_0 : decode cX11_back 0 = .ok (.iload_n 1, 1) := by decide +kernel
theorem dX11_back_1 : decode cX11_back 1 = .ok (.ifCond .lt 17, 3) := by decide +kernel
theorem dX11_back_4 : decode cX11_back 4 = .ok (.iload_n 1, 1) := by decide +kernel
theorem dX11_back_5 : decode cX11_back 5 = .ok (.iconst 4, 1) := by decide +kernel
theorem dX11_back_6 : decode cX11_back 6 = .ok (.if_icmp .ge 12, 3) := by decide +kernel
theorem dX11_back_9 : decode cX11_back 9 = .ok (.aload_n 0, 1) := by decide +kernel
theorem dX11_back_10 : decode cX11_back 10 = .ok (.getfield 35, 3) := by decide +kernel
theorem dX11_back_13 : decode cX11_back 13 = .ok (.iload_n 1, 1) := by decide +kernel
theorem dX11_back_14 : decode cX11_back 14 = .ok (.aaload, 1) := by decide +kernel
theorem dX11_back_15 : decode cX11_back 15 = .ok (.ifnonnull 5, 3) := by decide +kernel
theorem dX11_back_18 : decode cX11_back 18 = .ok (.iconst (-1), 1) := by decide +kernel
theorem dX11_back_19 : decode cX11_back 19 = .ok (.ireturn, 1) := by decide +kernel
theorem dX11_back_20 : decode cX11_back 20 = .ok (.aload_n 0, 1) := by decide +kernel
theorem dX11_back_21 : decode cX11_back 21 = .ok (.getfield 31, 3) := by decide +kernel
theorem dX11_back_24 : decode cX11_back 24 = .ok (.aload_n 0, 1) := by decide +kernel
theorem dX11_back_25 : decode cX11_back 25 = .ok (.getfield 35, 3) := by decide +kernel
theorem dX11_back_28 : decode cX11_back 28 = .ok (.iload_n 1, 1) := by decide +kernel
theorem dX11_back_29 : decode cX11_back 29 = .ok (.aaload, 1) := by decide +kernel
theorem dX11_back_30 : decode cX11_back 30 = .ok (.invokevirtual 370, 3) := by decide +kernel
theorem dX11_back_33 : decode cX11_back 33 = .ok (.aload_n 0, 1) := by decide +kernel
theorem dX11_back_34 : decode cX11_back 34 = .ok (.getfield 42, 3) := by decide +kernel
theorem dX11_back_37 : decode cX11_back 37 = .ok (.invokevirtual 131, 3) := by decide +kernel
theorem dX11_back_40 : decode cX11_back 40 = .ok (.aload_n 0, 1) := by decide +kernel
theorem dX11_back_41 : decode cX11_back 41 = .ok (.getfield 31, 3) := by decide +kernel
theorem dX11_back_44 : decode cX11_back 44 = .ok (.getfield 155, 3) := by decide +kernel
theorem dX11_back_47 : decode cX11_back 47 = .ok (.getfield 161, 3) := by decide +kernel
theorem dX11_back_50 : decode cX11_back 50 = .ok (.ireturn, 1) := by decide +kernel
theorem dX4_tryJudges_0 : decode cX4_tryJudges 0 = .ok (.iload_n 1, 1) := by decide +kernel
theorem dX4_tryJudges_1 : decode cX4_tryJudges 1 = .ok (.aload_n 0, 1) := by decide +kernel
theorem dX4_tryJudges_2 : decode cX4_tryJudges 2 = .ok (.getfield 58, 3) := by decide +kernel
theorem dX4_tryJudges_5 : decode cX4_tryJudges 5 = .ok (.if_icmp .ge 8, 3) := by decide +kernel
theorem dX4_tryJudges_8 : decode cX4_tryJudges 8 = .ok (.iload_n 1, 1) := by decide +kernel
theorem dX4_tryJudges_9 : decode cX4_tryJudges 9 = .ok (.iconst 4, 1) := by decide +kernel
theorem dX4_tryJudges_10 : decode cX4_tryJudges 10 = .ok (.if_icmp .lt 10, 3) := by decide +kernel
theorem dX4_tryJudges_13 : decode cX4_tryJudges 13 = .ok (.aload_n 0, 1) := by decide +kernel
theorem dX4_tryJudges_14 : decode cX4_tryJudges 14 = .ok (.iload_n 2, 1) := by decide +kernel
theorem dX4_tryJudges_15 : decode cX4_tryJudges 15 = .ok (.iload_n 3, 1) := by decide +kernel
theorem dX4_tryJudges_16 : decode cX4_tryJudges 16 = .ok (.invokevirtual 162, 3) := by decide +kernel
theorem dX4_tryJudges_19 : decode cX4_tryJudges 19 = .ok (.return_, 1) := by decide +kernel
theorem dX4_tryJudges_20 : decode cX4_tryJudges 20 = .ok (.aload_n 0, 1) := by decide +kernel
theorem dX4_tryJudges_21 : decode cX4_tryJudges 21 = .ok (.getfield 30, 3) := by decide +kernel
theorem dX4_tryJudges_24 : decode cX4_tryJudges 24 = .ok (.iload_n 1, 1) := by decide +kernel
theorem dX4_tryJudges_25 : decode cX4_tryJudges 25 = .ok (.iaload, 1) := by decide +kernel
theorem dX4_tryJudges_26 : decode cX4_tryJudges 26 = .ok (.istore 4, 2) := by decide +kernel
theorem dX4_tryJudges_28 : decode cX4_tryJudges 28 = .ok (.iload_n 1, 1) := by decide +kernel
theorem dX4_tryJudges_29 : decode cX4_tryJudges 29 = .ok (.ifCond .le 20, 3) := by decide +kernel
theorem dX4_tryJudges_32 : decode cX4_tryJudges 32 = .ok (.aload_n 0, 1) := by decide +kernel
theorem dX4_tryJudges_33 : decode cX4_tryJudges 33 = .ok (.getfield 30, 3) := by decide +kernel
theorem dX4_tryJudges_36 : decode cX4_tryJudges 36 = .ok (.iload_n 1, 1) := by decide +kernel
theorem dX4_tryJudges_37 : decode cX4_tryJudges 37 = .ok (.iconst 1, 1) := by decide +kernel
theorem dX4_tryJudges_38 : decode cX4_tryJudges 38 = .ok (.isub, 1) := by decide +kernel
theorem dX4_tryJudges_39 : decode cX4_tryJudges 39 = .ok (.iaload, 1) := by decide +kernel
theorem dX4_tryJudges_40 : decode cX4_tryJudges 40 = .ok (.iload 4, 2) := by decide +kernel
theorem dX4_tryJudges_42 : decode cX4_tryJudges 42 = .ok (.if_icmp .le 7, 3) := by decide +kernel
theorem dX4_tryJudges_45 : decode cX4_tryJudges 45 = .ok (.iconst 1, 1) := by decide +kernel
theorem dX4_tryJudges_46 : decode cX4_tryJudges 46 = .ok (.goto 4, 3) := by decide +kernel
theorem dX4_tryJudges_49 : decode cX4_tryJudges 49 = .ok (.iconst 0, 1) := by decide +kernel
theorem dX4_tryJudges_50 : decode cX4_tryJudges 50 = .ok (.istore 5, 2) := by decide +kernel
theorem dX4_tryJudges_52 : decode cX4_tryJudges 52 = .ok (.iload 5, 2) := by decide +kernel
theorem dX4_tryJudges_54 : decode cX4_tryJudges 54 = .ok (.ifCond .eq 14, 3) := by decide +kernel
theorem dX4_tryJudges_57 : decode cX4_tryJudges 57 = .ok (.aload_n 0, 1) := by decide +kernel
theorem dX4_tryJudges_58 : decode cX4_tryJudges 58 = .ok (.getfield 33, 3) := by decide +kernel
theorem dX4_tryJudges_61 : decode cX4_tryJudges 61 = .ok (.iload_n 1, 1) := by decide +kernel
theorem dX4_tryJudges_62 : decode cX4_tryJudges 62 = .ok (.iconst 1, 1) := by decide +kernel
theorem dX4_tryJudges_63 : decode cX4_tryJudges 63 = .ok (.isub, 1) := by decide +kernel
theorem dX4_tryJudges_64 : decode cX4_tryJudges 64 = .ok (.iaload, 1) := by decide +kernel
theorem dX4_tryJudges_65 : decode cX4_tryJudges 65 = .ok (.goto 4, 3) := by decide +kernel
theorem dX4_tryJudges_68 : decode cX4_tryJudges 68 = .ok (.iconst 0, 1) := by decide +kernel
theorem dX4_tryJudges_69 : decode cX4_tryJudges 69 = .ok (.istore 6, 2) := by decide +kernel
theorem dX4_tryJudges_71 : decode cX4_tryJudges 71 = .ok (.iload 5, 2) := by decide +kernel
theorem dX4_tryJudges_73 : decode cX4_tryJudges 73 = .ok (.ifCond .eq 10, 3) := by decide +kernel
theorem dX4_tryJudges_76 : decode cX4_tryJudges 76 = .ok (.iload 6, 2) := by decide +kernel
theorem dX4_tryJudges_78 : decode cX4_tryJudges 78 = .ok (.iconst 1, 1) := by decide +kernel
theorem dX4_tryJudges_79 : decode cX4_tryJudges 79 = .ok (.iadd, 1) := by decide +kernel
theorem dX4_tryJudges_80 : decode cX4_tryJudges 80 = .ok (.goto 16, 3) := by decide +kernel
theorem dX4_tryJudges_83 : decode cX4_tryJudges 83 = .ok (.aload_n 0, 1) := by decide +kernel
theorem dX4_tryJudges_84 : decode cX4_tryJudges 84 = .ok (.getfield 51, 3) := by decide +kernel
theorem dX4_tryJudges_87 : decode cX4_tryJudges 87 = .ok (.getfield 74, 3) := by decide +kernel
theorem dX4_tryJudges_90 : decode cX4_tryJudges 90 = .ok (.getfield 91, 3) := by decide +kernel
theorem dX4_tryJudges_93 : decode cX4_tryJudges 93 = .ok (.getfield 95, 3) := by decide +kernel
theorem dX4_tryJudges_96 : decode cX4_tryJudges 96 = .ok (.istore 7, 2) := by decide +kernel
theorem dX4_tryJudges_98 : decode cX4_tryJudges 98 = .ok (.iload 6, 2) := by decide +kernel
theorem dX4_tryJudges_100 : decode cX4_tryJudges 100 = .ok (.istore 8, 2) := by decide +kernel
theorem dX4_tryJudges_102 : decode cX4_tryJudges 102 = .ok (.iload 8, 2) := by decide +kernel
theorem dX4_tryJudges_104 : decode cX4_tryJudges 104 = .ok (.iload 7, 2) := by decide +kernel
theorem dX4_tryJudges_106 : decode cX4_tryJudges 106 = .ok (.if_icmp .ge 151, 3) := by decide +kernel
theorem dX4_tryJudges_109 : decode cX4_tryJudges 109 = .ok (.aload_n 0, 1) := by decide +kernel
theorem dX4_tryJudges_110 : decode cX4_tryJudges 110 = .ok (.getfield 39, 3) := by decide +kernel
theorem dX4_tryJudges_113 : decode cX4_tryJudges 113 = .ok (.iload 8, 2) := by decide +kernel
theorem dX4_tryJudges_115 : decode cX4_tryJudges 115 = .ok (.iaload, 1) := by decide +kernel
theorem dX4_tryJudges_116 : decode cX4_tryJudges 116 = .ok (.istore 9, 2) := by decide +kernel
theorem dX4_tryJudges_118 : decode cX4_tryJudges 118 = .ok (.aload_n 0, 1) := by decide +kernel
theorem dX4_tryJudges_119 : decode cX4_tryJudges 119 = .ok (.getfield 11, 3) := by decide +kernel
theorem dX4_tryJudges_122 : decode cX4_tryJudges 122 = .ok (.iload 9, 2) := by decide +kernel
theorem dX4_tryJudges_124 : decode cX4_tryJudges 124 = .ok (.iconst 4, 1) := by decide +kernel
theorem dX4_tryJudges_125 : decode cX4_tryJudges 125 = .ok (.imul, 1) := by decide +kernel
theorem dX4_tryJudges_126 : decode cX4_tryJudges 126 = .ok (.iload 4, 2) := by decide +kernel
theorem dX4_tryJudges_128 : decode cX4_tryJudges 128 = .ok (.iadd, 1) := by decide +kernel
theorem dX4_tryJudges_129 : decode cX4_tryJudges 129 = .ok (.iaload, 1) := by decide +kernel
theorem dX4_tryJudges_130 : decode cX4_tryJudges 130 = .ok (.istore 10, 2) := by decide +kernel
theorem dX4_tryJudges_132 : decode cX4_tryJudges 132 = .ok (.iload 8, 2) := by decide +kernel
theorem dX4_tryJudges_134 : decode cX4_tryJudges 134 = .ok (.bipush 65, 2) := by decide +kernel
theorem dX4_tryJudges_136 : decode cX4_tryJudges 136 = .ok (.imul, 1) := by decide +kernel
theorem dX4_tryJudges_137 : decode cX4_tryJudges 137 = .ok (.iload 10, 2) := by decide +kernel
theorem dX4_tryJudges_139 : decode cX4_tryJudges 139 = .ok (.iadd, 1) := by decide +kernel
theorem dX4_tryJudges_140 : decode cX4_tryJudges 140 = .ok (.istore 11, 2) := by decide +kernel
theorem dX4_tryJudges_142 : decode cX4_tryJudges 142 = .ok (.iload 10, 2) := by decide +kernel
theorem dX4_tryJudges_144 : decode cX4_tryJudges 144 = .ok (.ifCond .le 107, 3) := by decide +kernel
theorem dX4_tryJudges_147 : decode cX4_tryJudges 147 = .ok (.aload_n 0, 1) := by decide +kernel
theorem dX4_tryJudges_148 : decode cX4_tryJudges 148 = .ok (.getfield 21, 3) := by decide +kernel
theorem dX4_tryJudges_151 : decode cX4_tryJudges 151 = .ok (.iload 11, 2) := by decide +kernel
theorem dX4_tryJudges_153 : decode cX4_tryJudges 153 = .ok (.iaload, 1) := by decide +kernel
theorem dX4_tryJudges_154 : decode cX4_tryJudges 154 = .ok (.ifCond .lt 97, 3) := by decide +kernel
theorem dX4_tryJudges_157 : decode cX4_tryJudges 157 = .ok (.aload_n 0, 1) := by decide +kernel
theorem dX4_tryJudges_158 : decode cX4_tryJudges 158 = .ok (.getfield 39, 3) := by decide +kernel
theorem dX4_tryJudges_161 : decode cX4_tryJudges 161 = .ok (.iload 8, 2) := by decide +kernel
theorem dX4_tryJudges_163 : decode cX4_tryJudges 163 = .ok (.iload 10, 2) := by decide +kernel
theorem dX4_tryJudges_165 : decode cX4_tryJudges 165 = .ok (.iastore, 1) := by decide +kernel
theorem dX4_tryJudges_166 : decode cX4_tryJudges 166 = .ok (.aload_n 0, 1) := by decide +kernel
theorem dX4_tryJudges_167 : decode cX4_tryJudges 167 = .ok (.getfield 33, 3) := by decide +kernel
theorem dX4_tryJudges_170 : decode cX4_tryJudges 170 = .ok (.iload_n 1, 1) := by decide +kernel
theorem dX4_tryJudges_171 : decode cX4_tryJudges 171 = .ok (.iload 8, 2) := by decide +kernel
theorem dX4_tryJudges_173 : decode cX4_tryJudges 173 = .ok (.iastore, 1) := by decide +kernel
theorem dX4_tryJudges_174 : decode cX4_tryJudges 174 = .ok (.aload_n 0, 1) := by decide +kernel
theorem dX4_tryJudges_175 : decode cX4_tryJudges 175 = .ok (.getfield 36, 3) := by decide +kernel
theorem dX4_tryJudges_178 : decode cX4_tryJudges 178 = .ok (.iload_n 1, 1) := by decide +kernel
theorem dX4_tryJudges_179 : decode cX4_tryJudges 179 = .ok (.aload_n 0, 1) := by decide +kernel
theorem dX4_tryJudges_180 : decode cX4_tryJudges 180 = .ok (.getfield 21, 3) := by decide +kernel
theorem dX4_tryJudges_183 : decode cX4_tryJudges 183 = .ok (.iload 11, 2) := by decide +kernel
theorem dX4_tryJudges_185 : decode cX4_tryJudges 185 = .ok (.iaload, 1) := by decide +kernel
theorem dX4_tryJudges_186 : decode cX4_tryJudges 186 = .ok (.iastore, 1) := by decide +kernel
theorem dX4_tryJudges_187 : decode cX4_tryJudges 187 = .ok (.aload_n 0, 1) := by decide +kernel
theorem dX4_tryJudges_188 : decode cX4_tryJudges 188 = .ok (.getfield 21, 3) := by decide +kernel
theorem dX4_tryJudges_191 : decode cX4_tryJudges 191 = .ok (.iload 11, 2) := by decide +kernel
theorem dX4_tryJudges_193 : decode cX4_tryJudges 193 = .ok (.iaload, 1) := by decide +kernel
theorem dX4_tryJudges_194 : decode cX4_tryJudges 194 = .ok (.aload_n 0, 1) := by decide +kernel
theorem dX4_tryJudges_195 : decode cX4_tryJudges 195 = .ok (.getfield 51, 3) := by decide +kernel
theorem dX4_tryJudges_198 : decode cX4_tryJudges 198 = .ok (.getfield 74, 3) := by decide +kernel
theorem dX4_tryJudges_201 : decode cX4_tryJudges 201 = .ok (.getfield 91, 3) := by decide +kernel
theorem dX4_tryJudges_204 : decode cX4_tryJudges 204 = .ok (.getfield 131, 3) := by decide +kernel
theorem dX4_tryJudges_207 : decode cX4_tryJudges 207 = .ok (.aload_n 0, 1) := by decide +kernel
theorem dX4_tryJudges_208 : decode cX4_tryJudges 208 = .ok (.getfield 27, 3) := by decide +kernel
theorem dX4_tryJudges_211 : decode cX4_tryJudges 211 = .ok (.iload 4, 2) := by decide +kernel
theorem dX4_tryJudges_213 : decode cX4_tryJudges 213 = .ok (.iaload, 1) := by decide +kernel
theorem dX4_tryJudges_214 : decode cX4_tryJudges 214 = .ok (.iaload, 1) := by decide +kernel
theorem dX4_tryJudges_215 : decode cX4_tryJudges 215 = .ok (.iadd, 1) := by decide +kernel
theorem dX4_tryJudges_216 : decode cX4_tryJudges 216 = .ok (.iconst 1, 1) := by decide +kernel
theorem dX4_tryJudges_217 : decode cX4_tryJudges 217 = .ok (.isub, 1) := by decide +kernel
theorem dX4_tryJudges_218 : decode cX4_tryJudges 218 = .ok (.istore 12, 2) := by decide +kernel
theorem dX4_tryJudges_220 : decode cX4_tryJudges 220 = .ok (.aload_n 0, 1) := by decide +kernel
theorem dX4_tryJudges_221 : decode cX4_tryJudges 221 = .ok (.iload_n 1, 1) := by decide +kernel
theorem dX4_tryJudges_222 : decode cX4_tryJudges 222 = .ok (.iconst 1, 1) := by decide +kernel
theorem dX4_tryJudges_223 : decode cX4_tryJudges 223 = .ok (.iadd, 1) := by decide +kernel
theorem dX4_tryJudges_224 : decode cX4_tryJudges 224 = .ok (.iload_n 2, 1) := by decide +kernel
theorem dX4_tryJudges_225 : decode cX4_tryJudges 225 = .ok (.aload_n 0, 1) := by decide +kernel
theorem dX4_tryJudges_226 : decode cX4_tryJudges 226 = .ok (.getfield 24, 3) := by decide +kernel
theorem dX4_tryJudges_229 : decode cX4_tryJudges 229 = .ok (.iload 11, 2) := by decide +kernel
theorem dX4_tryJudges_231 : decode cX4_tryJudges 231 = .ok (.iaload, 1) := by decide +kernel
theorem dX4_tryJudges_232 : decode cX4_tryJudges 232 = .ok (.iadd, 1) := by decide +kernel
theorem dX4_tryJudges_233 : decode cX4_tryJudges 233 = .ok (.iload_n 3, 1) := by decide +kernel
theorem dX4_tryJudges_234 : decode cX4_tryJudges 234 = .ok (.iload 12, 2) := by decide +kernel
theorem dX4_tryJudges_236 : decode cX4_tryJudges 236 = .ok (.invokestatic 165, 3) := by decide +kernel
theorem dX4_tryJudges_239 : decode cX4_tryJudges 239 = .ok (.invokevirtual 158, 3) := by decide +kernel
theorem dX4_tryJudges_242 : decode cX4_tryJudges 242 = .ok (.aload_n 0, 1) := by decide +kernel
theorem dX4_tryJudges_243 : decode cX4_tryJudges 243 = .ok (.getfield 39, 3) := by decide +kernel
theorem dX4_tryJudges_246 : decode cX4_tryJudges 246 = .ok (.iload 8, 2) := by decide +kernel
theorem dX4_tryJudges_248 : decode cX4_tryJudges 248 = .ok (.iload 9, 2) := by decide +kernel
theorem dX4_tryJudges_250 : decode cX4_tryJudges 250 = .ok (.iastore, 1) := by decide +kernel
theorem dX4_tryJudges_251 : decode cX4_tryJudges 251 = .ok (.iinc 8 1, 3) := by decide +kernel
theorem dX4_tryJudges_254 : decode cX4_tryJudges 254 = .ok (.goto (-152), 3) := by decide +kernel
theorem dX4_tryJudges_257 : decode cX4_tryJudges 257 = .ok (.return_, 1) := by decide +kernel
theorem dX4_tryRows_0 : decode cX4_tryRows 0 = .ok (.iload_n 1, 1) := by decide +kernel
theorem dX4_tryRows_1 : decode cX4_tryRows 1 = .ok (.aload_n 0, 1) := by decide +kernel
theorem dX4_tryRows_2 : decode cX4_tryRows 2 = .ok (.getfield 58, 3) := by decide +kernel
theorem dX4_tryRows_5 : decode cX4_tryRows 5 = .ok (.if_icmp .ge 8, 3) := by decide +kernel
theorem dX4_tryRows_8 : decode cX4_tryRows 8 = .ok (.iload_n 1, 1) := by decide +kernel
theorem dX4_tryRows_9 : decode cX4_tryRows 9 = .ok (.iconst 4, 1) := by decide +kernel
theorem dX4_tryRows_10 : decode cX4_tryRows 10 = .ok (.if_icmp .lt 11, 3) := by decide +kernel
theorem dX4_tryRows_13 : decode cX4_tryRows 13 = .ok (.aload_n 0, 1) := by decide +kernel
theorem dX4_tryRows_14 : decode cX4_tryRows 14 = .ok (.iconst 0, 1) := by decide +kernel
theorem dX4_tryRows_15 : decode cX4_tryRows 15 = .ok (.iconst 0, 1) := by decide +kernel
theorem dX4_tryRows_16 : decode cX4_tryRows 16 = .ok (.iconst (-1), 1) := by decide +kernel
theorem dX4_tryRows_17 : decode cX4_tryRows 17 = .ok (.invokevirtual 158, 3) := by decide +kernel
theorem dX4_tryRows_20 : decode cX4_tryRows 20 = .ok (.return_, 1) := by decide +kernel
theorem dX4_tryRows_21 : decode cX4_tryRows 21 = .ok (.iconst 0, 1) := by decide +kernel
theorem dX4_tryRows_22 : decode cX4_tryRows 22 = .ok (.istore_n 3, 1) := by decide +kernel
theorem dX4_tryRows_23 : decode cX4_tryRows 23 = .ok (.iload_n 3, 1) := by decide +kernel
theorem dX4_tryRows_24 : decode cX4_tryRows 24 = .ok (.aload_n 0, 1) := by decide +kernel
theorem dX4_tryRows_25 : decode cX4_tryRows 25 = .ok (.getfield 58, 3) := by decide +kernel
theorem dX4_tryRows_28 : decode cX4_tryRows 28 = .ok (.if_icmp .ge 36, 3) := by decide +kernel
theorem dX4_tryRows_31 : decode cX4_tryRows 31 = .ok (.iload_n 2, 1) := by decide +kernel
theorem dX4_tryRows_32 : decode cX4_tryRows 32 = .ok (.iload_n 3, 1) := by decide +kernel
theorem dX4_tryRows_33 : decode cX4_tryRows 33 = .ok (.ishr, 1) := by decide +kernel
theorem dX4_tryRows_34 : decode cX4_tryRows 34 = .ok (.iconst 1, 1) := by decide +kernel
theorem dX4_tryRows_35 : decode cX4_tryRows 35 = .ok (.iand, 1) := by decide +kernel
theorem dX4_tryRows_36 : decode cX4_tryRows 36 = .ok (.ifCond .ne 22, 3) := by decide +kernel
theorem dX4_tryRows_39 : decode cX4_tryRows 39 = .ok (.aload_n 0, 1) := by decide +kernel
theorem dX4_tryRows_40 : decode cX4_tryRows 40 = .ok (.getfield 30, 3) := by decide +kernel
theorem dX4_tryRows_43 : decode cX4_tryRows 43 = .ok (.iload_n 1, 1) := by decide +kernel
theorem dX4_tryRows_44 : decode cX4_tryRows 44 = .ok (.iload_n 3, 1) := by decide +kernel
theorem dX4_tryRows_45 : decode cX4_tryRows 45 = .ok (.iastore, 1) := by decide +kernel
theorem dX4_tryRows_46 : decode cX4_tryRows 46 = .ok (.aload_n 0, 1) := by decide +kernel
theorem dX4_tryRows_47 : decode cX4_tryRows 47 = .ok (.iload_n 1, 1) := by decide +kernel
theorem dX4_tryRows_48 : decode cX4_tryRows 48 = .ok (.iconst 1, 1) := by decide +kernel
theorem dX4_tryRows_49 : decode cX4_tryRows 49 = .ok (.iadd, 1) := by decide +kernel
theorem dX4_tryRows_50 : decode cX4_tryRows 50 = .ok (.iload_n 2, 1) := by decide +kernel
theorem dX4_tryRows_51 : decode cX4_tryRows 51 = .ok (.iconst 1, 1) := by decide +kernel
theorem dX4_tryRows_52 : decode cX4_tryRows 52 = .ok (.iload_n 3, 1) := by decide +kernel
theorem dX4_tryRows_53 : decode cX4_tryRows 53 = .ok (.ishl, 1) := by decide +kernel
theorem dX4_tryRows_54 : decode cX4_tryRows 54 = .ok (.ior, 1) := by decide +kernel
theorem dX4_tryRows_55 : decode cX4_tryRows 55 = .ok (.invokevirtual 155, 3) := by decide +kernel
theorem dX4_tryRows_58 : decode cX4_tryRows 58 = .ok (.iinc 3 1, 3) := by decide +kernel
theorem dX4_tryRows_61 : decode cX4_tryRows 61 = .ok (.goto (-38), 3) := by decide +kernel
theorem dX4_tryRows_64 : decode cX4_tryRows 64 = .ok (.return_, 1) := by decide +kernel
theorem dX6_readsTest_0 : decode cX6_readsTest 0 = .ok (.iconst 0, 1) := by decide +kernel
theorem dX6_readsTest_1 : decode cX6_readsTest 1 = .ok (.istore_n 2, 1) := by decide +kernel
theorem dX6_readsTest_2 : decode cX6_readsTest 2 = .ok (.iconst 0, 1) := by decide +kernel
theorem dX6_readsTest_3 : decode cX6_readsTest 3 = .ok (.istore_n 3, 1) := by decide +kernel
theorem dX6_readsTest_4 : decode cX6_readsTest 4 = .ok (.iconst 0, 1) := by decide +kernel
theorem dX6_readsTest_5 : decode cX6_readsTest 5 = .ok (.istore 4, 2) := by decide +kernel
theorem dX6_readsTest_7 : decode cX6_readsTest 7 = .ok (.iload 4, 2) := by decide +kernel
theorem dX6_readsTest_9 : decode cX6_readsTest 9 = .ok (.sipush 400, 3) := by decide +kernel
theorem dX6_readsTest_12 : decode cX6_readsTest 12 = .ok (.if_icmp .ge 95, 3) := by decide +kernel
theorem dX6_readsTest_15 : decode cX6_readsTest 15 = .ok (.aload_n 0, 1) := by decide +kernel
theorem dX6_readsTest_16 : decode cX6_readsTest 16 = .ok (.iload_n 1, 1) := by decide +kernel
theorem dX6_readsTest_17 : decode cX6_readsTest 17 = .ok (.invokevirtual 69, 3) := by decide +kernel
theorem dX6_readsTest_20 : decode cX6_readsTest 20 = .ok (.ifCond .ne 5, 3) := by decide +kernel
theorem dX6_readsTest_23 : decode cX6_readsTest 23 = .ok (.iconst 0, 1) := by decide +kernel
theorem dX6_readsTest_24 : decode cX6_readsTest 24 = .ok (.ireturn, 1) := by decide +kernel
theorem dX6_readsTest_25 : decode cX6_readsTest 25 = .ok (.iload_n 2, 1) := by decide +kernel
theorem dX6_readsTest_26 : decode cX6_readsTest 26 = .ok (.ifCond .eq 9, 3) := by decide +kernel
theorem dX6_readsTest_29 : decode cX6_readsTest 29 = .ok (.aload_n 0, 1) := by decide +kernel
theorem dX6_readsTest_30 : decode cX6_readsTest 30 = .ok (.ldc 72, 2) := by decide +kernel
theorem dX6_readsTest_32 : decode cX6_readsTest 32 = .ok (.invokevirtual 59, 3) := by decide +kernel
theorem dX6_readsTest_35 : decode cX6_readsTest 35 = .ok (.aload_n 0, 1) := by decide +kernel
theorem dX6_readsTest_36 : decode cX6_readsTest 36 = .ok (.getfield 15, 3) := by decide +kernel
theorem dX6_readsTest_39 : decode cX6_readsTest 39 = .ok (.invokevirtual 37, 3) := by decide +kernel
theorem dX6_readsTest_42 : decode cX6_readsTest 42 = .ok (.istore 5, 2) := by decide +kernel
theorem dX6_readsTest_44 : decode cX6_readsTest 44 = .ok (.iload 5, 2) := by decide +kernel
theorem dX6_readsTest_46 : decode cX6_readsTest 46 = .ok (.bipush 15, 2) := by decide +kernel
theorem dX6_readsTest_48 : decode cX6_readsTest 48 = .ok (.if_icmp .ne 7, 3) := by decide +kernel
theorem dX6_readsTest_51 : decode cX6_readsTest 51 = .ok (.iconst 1, 1) := by decide +kernel
theorem dX6_readsTest_52 : decode cX6_readsTest 52 = .ok (.goto 4, 3) := by decide +kernel
theorem dX6_readsTest_55 : decode cX6_readsTest 55 = .ok (.iconst 0, 1) := by decide +kernel
theorem dX6_readsTest_56 : decode cX6_readsTest 56 = .ok (.istore_n 2, 1) := by decide +kernel
theorem dX6_readsTest_57 : decode cX6_readsTest 57 = .ok (.iload_n 2, 1) := by decide +kernel
theorem dX6_readsTest_58 : decode cX6_readsTest 58 = .ok (.ifCond .ne 26, 3) := by decide +kernel
theorem dX6_readsTest_61 : decode cX6_readsTest 61 = .ok (.iload_n 3, 1) := by decide +kernel
theorem dX6_readsTest_62 : decode cX6_readsTest 62 = .ok (.ifCond .eq 9, 3) := by decide +kernel
theorem dX6_readsTest_65 : decode cX6_readsTest 65 = .ok (.aload_n 0, 1) := by decide +kernel
theorem dX6_readsTest_66 : decode cX6_readsTest 66 = .ok (.ldc 73, 2) := by decide +kernel
theorem dX6_readsTest_68 : decode cX6_readsTest 68 = .ok (.invokevirtual 59, 3) := by decide +kernel
theorem dX6_readsTest_71 : decode cX6_readsTest 71 = .ok (.iload 5, 2) := by decide +kernel
theorem dX6_readsTest_73 : decode cX6_readsTest 73 = .ok (.bipush 14, 2) := by decide +kernel
theorem dX6_readsTest_75 : decode cX6_readsTest 75 = .ok (.if_icmp .ne 7, 3) := by decide +kernel
theorem dX6_readsTest_78 : decode cX6_readsTest 78 = .ok (.iconst 1, 1) := by decide +kernel
theorem dX6_readsTest_79 : decode cX6_readsTest 79 = .ok (.goto 4, 3) := by decide +kernel
theorem dX6_readsTest_82 : decode cX6_readsTest 82 = .ok (.iconst 0, 1) := by decide +kernel
theorem dX6_readsTest_83 : decode cX6_readsTest 83 = .ok (.istore_n 3, 1) := by decide +kernel
theorem dX6_readsTest_84 : decode cX6_readsTest 84 = .ok (.iload_n 2, 1) := by decide +kernel
theorem dX6_readsTest_85 : decode cX6_readsTest 85 = .ok (.ifCond .ne 9, 3) := by decide +kernel
theorem dX6_readsTest_88 : decode cX6_readsTest 88 = .ok (.iload_n 3, 1) := by decide +kernel
theorem dX6_readsTest_89 : decode cX6_readsTest 89 = .ok (.ifCond .ne 5, 3) := by decide +kernel
theorem dX6_readsTest_92 : decode cX6_readsTest 92 = .ok (.iconst 1, 1) := by decide +kernel
theorem dX6_readsTest_93 : decode cX6_readsTest 93 = .ok (.ireturn, 1) := by decide +kernel
theorem dX6_readsTest_94 : decode cX6_readsTest 94 = .ok (.aload_n 0, 1) := by decide +kernel
theorem dX6_readsTest_95 : decode cX6_readsTest 95 = .ok (.getfield 15, 3) := by decide +kernel
theorem dX6_readsTest_98 : decode cX6_readsTest 98 = .ok (.invokevirtual 47, 3) := by decide +kernel
theorem dX6_readsTest_101 : decode cX6_readsTest 101 = .ok (.iinc 4 1, 3) := by decide +kernel
theorem dX6_readsTest_104 : decode cX6_readsTest 104 = .ok (.goto (-97), 3) := by decide +kernel
theorem dX6_readsTest_107 : decode cX6_readsTest 107 = .ok (.iconst 0, 1) := by decide +kernel
theorem dX6_readsTest_108 : decode cX6_readsTest 108 = .ok (.ireturn, 1) := by decide +kernel
theorem dX6_readsFact_0 : decode cX6_readsFact 0 = .ok (.aload_n 0, 1) := by decide +kernel
theorem dX6_readsFact_1 : decode cX6_readsFact 1 = .ok (.getfield 15, 3) := by decide +kernel
theorem dX6_readsFact_4 : decode cX6_readsFact 4 = .ok (.invokevirtual 37, 3) := by decide +kernel
theorem dX6_readsFact_7 : decode cX6_readsFact 7 = .ok (.bipush 16, 2) := by decide +kernel
theorem dX6_readsFact_9 : decode cX6_readsFact 9 = .ok (.if_icmp .ne 7, 3) := by decide +kernel
theorem dX6_readsFact_12 : decode cX6_readsFact 12 = .ok (.iconst 1, 1) := by decide +kernel
theorem dX6_readsFact_13 : decode cX6_readsFact 13 = .ok (.goto 4, 3) := by decide +kernel
theorem dX6_readsFact_16 : decode cX6_readsFact 16 = .ok (.iconst 0, 1) := by decide +kernel
theorem dX6_readsFact_17 : decode cX6_readsFact 17 = .ok (.istore_n 2, 1) := by decide +kernel
theorem dX6_readsFact_18 : decode cX6_readsFact 18 = .ok (.aload_n 0, 1) := by decide +kernel
theorem dX6_readsFact_19 : decode cX6_readsFact 19 = .ok (.getfield 15, 3) := by decide +kernel
theorem dX6_readsFact_22 : decode cX6_readsFact 22 = .ok (.invokevirtual 63, 3) := by decide +kernel
theorem dX6_readsFact_25 : decode cX6_readsFact 25 = .ok (.bipush 91, 2) := by decide +kernel
theorem dX6_readsFact_27 : decode cX6_readsFact 27 = .ok (.if_icmp .ne 7, 3) := by decide +kernel
theorem dX6_readsFact_30 : decode cX6_readsFact 30 = .ok (.iconst 1, 1) := by decide +kernel
theorem dX6_readsFact_31 : decode cX6_readsFact 31 = .ok (.goto 4, 3) := by decide +kernel
theorem dX6_readsFact_34 : decode cX6_readsFact 34 = .ok (.iconst 0, 1) := by decide +kernel
theorem dX6_readsFact_35 : decode cX6_readsFact 35 = .ok (.istore_n 3, 1) := by decide +kernel
theorem dX6_readsFact_36 : decode cX6_readsFact 36 = .ok (.iload_n 2, 1) := by decide +kernel
theorem dX6_readsFact_37 : decode cX6_readsFact 37 = .ok (.ifCond .ne 45, 3) := by decide +kernel
theorem dX6_readsFact_40 : decode cX6_readsFact 40 = .ok (.iload_n 3, 1) := by decide +kernel
theorem dX6_readsFact_41 : decode cX6_readsFact 41 = .ok (.ifCond .ne 41, 3) := by decide +kernel
theorem dX6_readsFact_44 : decode cX6_readsFact 44 = .ok (.aload_n 0, 1) := by decide +kernel
theorem dX6_readsFact_45 : decode cX6_readsFact 45 = .ok (.invokevirtual 50, 3) := by decide +kernel
theorem dX6_readsFact_48 : decode cX6_readsFact 48 = .ok (.ifCond .ne 5, 3) := by decide +kernel
theorem dX6_readsFact_51 : decode cX6_readsFact 51 = .ok (.iconst 0, 1) := by decide +kernel
theorem dX6_readsFact_52 : decode cX6_readsFact 52 = .ok (.ireturn, 1) := by decide +kernel
theorem dX6_readsFact_53 : decode cX6_readsFact 53 = .ok (.aload_n 0, 1) := by decide +kernel
theorem dX6_readsFact_54 : decode cX6_readsFact 54 = .ok (.invokevirtual 74, 3) := by decide +kernel
theorem dX6_readsFact_57 : decode cX6_readsFact 57 = .ok (.istore 4, 2) := by decide +kernel
theorem dX6_readsFact_59 : decode cX6_readsFact 59 = .ok (.iload 4, 2) := by decide +kernel
theorem dX6_readsFact_61 : decode cX6_readsFact 61 = .ok (.iconst (-1), 1) := by decide +kernel
theorem dX6_readsFact_62 : decode cX6_readsFact 62 = .ok (.if_icmp .eq 10, 3) := by decide +kernel
theorem dX6_readsFact_65 : decode cX6_readsFact 65 = .ok (.aload_n 0, 1) := by decide +kernel
theorem dX6_readsFact_66 : decode cX6_readsFact 66 = .ok (.invokevirtual 50, 3) := by decide +kernel
theorem dX6_readsFact_69 : decode cX6_readsFact 69 = .ok (.ifCond .ne 5, 3) := by decide +kernel
theorem dX6_readsFact_72 : decode cX6_readsFact 72 = .ok (.iconst 0, 1) := by decide +kernel
theorem dX6_readsFact_73 : decode cX6_readsFact 73 = .ok (.ireturn, 1) := by decide +kernel
theorem dX6_readsFact_74 : decode cX6_readsFact 74 = .ok (.aload_n 0, 1) := by decide +kernel
theorem dX6_readsFact_75 : decode cX6_readsFact 75 = .ok (.iload 4, 2) := by decide +kernel
theorem dX6_readsFact_77 : decode cX6_readsFact 77 = .ok (.invokevirtual 59, 3) := by decide +kernel
theorem dX6_readsFact_80 : decode cX6_readsFact 80 = .ok (.iconst 1, 1) := by decide +kernel
theorem dX6_readsFact_81 : decode cX6_readsFact 81 = .ok (.ireturn, 1) := by decide +kernel
theorem dX6_readsFact_82 : decode cX6_readsFact 82 = .ok (.iload_n 1, 1) := by decide +kernel
theorem dX6_readsFact_83 : decode cX6_readsFact 83 = .ok (.bipush 10, 2) := by decide +kernel
theorem dX6_readsFact_85 : decode cX6_readsFact 85 = .ok (.if_icmp .lt 12, 3) := by decide +kernel
theorem dX6_readsFact_88 : decode cX6_readsFact 88 = .ok (.aload_n 0, 1) := by decide +kernel
theorem dX6_readsFact_89 : decode cX6_readsFact 89 = .ok (.getfield 15, 3) := by decide +kernel
theorem dX6_readsFact_92 : decode cX6_readsFact 92 = .ok (.iconst 2, 1) := by decide +kernel
theorem dX6_readsFact_93 : decode cX6_readsFact 93 = .ok (.invokevirtual 43, 3) := by decide +kernel
theorem dX6_readsFact_96 : decode cX6_readsFact 96 = .ok (.ireturn, 1) := by decide +kernel
theorem dX6_readsFact_97 : decode cX6_readsFact 97 = .ok (.iload_n 2, 1) := by decide +kernel
theorem dX6_readsFact_98 : decode cX6_readsFact 98 = .ok (.ifCond .eq 30, 3) := by decide +kernel
theorem dX6_readsFact_101 : decode cX6_readsFact 101 = .ok (.aload_n 0, 1) := by decide +kernel
theorem dX6_readsFact_102 : decode cX6_readsFact 102 = .ok (.getfield 15, 3) := by decide +kernel
theorem dX6_readsFact_105 : decode cX6_readsFact 105 = .ok (.invokevirtual 47, 3) := by decide +kernel
theorem dX6_readsFact_108 : decode cX6_readsFact 108 = .ok (.aload_n 0, 1) := by decide +kernel
theorem dX6_readsFact_109 : decode cX6_readsFact 109 = .ok (.iload_n 1, 1) := by decide +kernel
theorem dX6_readsFact_110 : decode cX6_readsFact 110 = .ok (.iconst 1, 1) := by decide +kernel
theorem dX6_readsFact_111 : decode cX6_readsFact 111 = .ok (.iadd, 1) := by decide +kernel
theorem dX6_readsFact_112 : decode cX6_readsFact 112 = .ok (.invokevirtual 69, 3) := by decide +kernel
theorem dX6_readsFact_115 : decode cX6_readsFact 115 = .ok (.ifCond .ne 5, 3) := by decide +kernel
theorem dX6_readsFact_118 : decode cX6_readsFact 118 = .ok (.iconst 0, 1) := by decide +kernel
theorem dX6_readsFact_119 : decode cX6_readsFact 119 = .ok (.ireturn, 1) := by decide +kernel
theorem dX6_readsFact_120 : decode cX6_readsFact 120 = .ok (.aload_n 0, 1) := by decide +kernel
theorem dX6_readsFact_121 : decode cX6_readsFact 121 = .ok (.ldc 77, 2) := by decide +kernel
theorem dX6_readsFact_123 : decode cX6_readsFact 123 = .ok (.invokevirtual 59, 3) := by decide +kernel
theorem dX6_readsFact_126 : decode cX6_readsFact 126 = .ok (.iconst 1, 1) := by decide +kernel
theorem dX6_readsFact_127 : decode cX6_readsFact 127 = .ok (.ireturn, 1) := by decide +kernel
theorem dX6_readsFact_128 : decode cX6_readsFact 128 = .ok (.aload_n 0, 1) := by decide +kernel
theorem dX6_readsFact_129 : decode cX6_readsFact 129 = .ok (.getfield 15, 3) := by decide +kernel
theorem dX6_readsFact_132 : decode cX6_readsFact 132 = .ok (.invokevirtual 66, 3) := by decide +kernel
theorem dX6_readsFact_135 : decode cX6_readsFact 135 = .ok (.aload_n 0, 1) := by decide +kernel
theorem dX6_readsFact_136 : decode cX6_readsFact 136 = .ok (.iload_n 1, 1) := by decide +kernel
theorem dX6_readsFact_137 : decode cX6_readsFact 137 = .ok (.iconst 1, 1) := by decide +kernel
theorem dX6_readsFact_138 : decode cX6_readsFact 138 = .ok (.iadd, 1) := by decide +kernel
theorem dX6_readsFact_139 : decode cX6_readsFact 139 = .ok (.invokevirtual 54, 3) := by decide +kernel
theorem dX6_readsFact_142 : decode cX6_readsFact 142 = .ok (.ifCond .ne 5, 3) := by decide +kernel
theorem dX6_readsFact_145 : decode cX6_readsFact 145 = .ok (.iconst 0, 1) := by decide +kernel
theorem dX6_readsFact_146 : decode cX6_readsFact 146 = .ok (.ireturn, 1) := by decide +kernel
theorem dX6_readsFact_147 : decode cX6_readsFact 147 = .ok (.aload_n 0, 1) := by decide +kernel
theorem dX6_readsFact_148 : decode cX6_readsFact 148 = .ok (.getfield 15, 3) := by decide +kernel
theorem dX6_readsFact_151 : decode cX6_readsFact 151 = .ok (.invokevirtual 63, 3) := by decide +kernel
theorem dX6_readsFact_154 : decode cX6_readsFact 154 = .ok (.bipush 93, 2) := by decide +kernel
theorem dX6_readsFact_156 : decode cX6_readsFact 156 = .ok (.if_icmp .eq 12, 3) := by decide +kernel
theorem dX6_readsFact_159 : decode cX6_readsFact 159 = .ok (.aload_n 0, 1) := by decide +kernel
theorem dX6_readsFact_160 : decode cX6_readsFact 160 = .ok (.getfield 15, 3) := by decide +kernel
theorem dX6_readsFact_163 : decode cX6_readsFact 163 = .ok (.iconst 0, 1) := by decide +kernel
theorem dX6_readsFact_164 : decode cX6_readsFact 164 = .ok (.invokevirtual 43, 3) := by decide +kernel
theorem dX6_readsFact_167 : decode cX6_readsFact 167 = .ok (.ireturn, 1) := by decide +kernel
theorem dX6_readsFact_168 : decode cX6_readsFact 168 = .ok (.aload_n 0, 1) := by decide +kernel
theorem dX6_readsFact_169 : decode cX6_readsFact 169 = .ok (.getfield 15, 3) := by decide +kernel
theorem dX6_readsFact_172 : decode cX6_readsFact 172 = .ok (.invokevirtual 66, 3) := by decide +kernel
theorem dX6_readsFact_175 : decode cX6_readsFact 175 = .ok (.iconst 1, 1) := by decide +kernel
theorem dX6_readsFact_176 : decode cX6_readsFact 176 = .ok (.ireturn, 1) := by decide +kernel
theorem dX4_search_0 : decode cX4_search 0 = .ok (.aload_n 0, 1) := by decide +kernel
theorem dX4_search_1 : decode cX4_search 1 = .ok (.iconst (-1), 1) := by decide +kernel
theorem dX4_search_2 : decode cX4_search 2 = .ok (.putfield 68, 3) := by decide +kernel
theorem dX4_search_5 : decode cX4_search 5 = .ok (.aload_n 0, 1) := by decide +kernel
theorem dX4_search_6 : decode cX4_search 6 = .ok (.iconst (-1), 1) := by decide +kernel
theorem dX4_search_7 : decode cX4_search 7 = .ok (.putfield 71, 3) := by decide +kernel
theorem dX4_search_10 : decode cX4_search 10 = .ok (.aload_n 0, 1) := by decide +kernel
theorem dX4_search_11 : decode cX4_search 11 = .ok (.getfield 39, 3) := by decide +kernel
theorem dX4_search_14 : decode cX4_search 14 = .ok (.iconst 0, 1) := by decide +kernel
theorem dX4_search_15 : decode cX4_search 15 = .ok (.invokestatic 149, 3) := by decide +kernel
theorem dX4_search_18 : decode cX4_search 18 = .ok (.aload_n 0, 1) := by decide +kernel
theorem dX4_search_19 : decode cX4_search 19 = .ok (.getfield 58, 3) := by decide +kernel
theorem dX4_search_22 : decode cX4_search 22 = .ok (.ifCond .ne 11, 3) := by decide +kernel
theorem dX4_search_25 : decode cX4_search 25 = .ok (.aload_n 0, 1) := by decide +kernel
theorem dX4_search_26 : decode cX4_search 26 = .ok (.iconst 0, 1) := by decide +kernel
theorem dX4_search_27 : decode cX4_search 27 = .ok (.putfield 68, 3) := by decide +kernel
theorem dX4_search_30 : decode cX4_search 30 = .ok (.goto 9, 3) := by decide +kernel
theorem dX4_search_33 : decode cX4_search 33 = .ok (.aload_n 0, 1) := by decide +kernel
theorem dX4_search_34 : decode cX4_search 34 = .ok (.iconst 0, 1) := by decide +kernel
theorem dX4_search_35 : decode cX4_search 35 = .ok (.iconst 0, 1) := by decide +kernel
theorem dX4_search_36 : decode cX4_search 36 = .ok (.invokevirtual 155, 3) := by decide +kernel
theorem dX4_search_39 : decode cX4_search 39 = .ok (.return_, 1) := by decide +kernel
theorem dX4_answer_0 : decode cX4_answer 0 = .ok (.aload_n 0, 1) := by decide +kernel
theorem dX4_answer_1 : decode cX4_answer 1 = .ok (.invokevirtual 55, 3) := by decide +kernel
theorem dX4_answer_4 : decode cX4_answer 4 = .ok (.aload_n 0, 1) := by decide +kernel
theorem dX4_answer_5 : decode cX4_answer 5 = .ok (.getfield 58, 3) := by decide +kernel
theorem dX4_answer_8 : decode cX4_answer 8 = .ok (.iconst 4, 1) := by decide +kernel
theorem dX4_answer_9 : decode cX4_answer 9 = .ok (.if_icmp .le 6, 3) := by decide +kernel
theorem dX4_answer_12 : decode cX4_answer 12 = .ok (.bipush (-3), 2) := by decide +kernel
theorem dX4_answer_14 : decode cX4_answer 14 = .ok (.ireturn, 1) := by decide +kernel
theorem dX4_answer_15 : decode cX4_answer 15 = .ok (.aload_n 0, 1) := by decide +kernel
theorem dX4_answer_16 : decode cX4_answer 16 = .ok (.invokevirtual 62, 3) := by decide +kernel
theorem dX4_answer_19 : decode cX4_answer 19 = .ok (.aload_n 0, 1) := by decide +kernel
theorem dX4_answer_20 : decode cX4_answer 20 = .ok (.invokevirtual 65, 3) := by decide +kernel
theorem dX4_answer_23 : decode cX4_answer 23 = .ok (.aload_n 0, 1) := by decide +kernel
theorem dX4_answer_24 : decode cX4_answer 24 = .ok (.getfield 68, 3) := by decide +kernel
theorem dX4_answer_27 : decode cX4_answer 27 = .ok (.ifCond .ge 6, 3) := by decide +kernel
theorem dX4_answer_30 : decode cX4_answer 30 = .ok (.bipush (-2), 2) := by decide +kernel
theorem dX4_answer_32 : decode cX4_answer 32 = .ok (.ireturn, 1) := by decide +kernel
theorem dX4_answer_33 : decode cX4_answer 33 = .ok (.iload_n 1, 1) := by decide +kernel
theorem dX4_answer_34 : decode cX4_answer 34 = .ok (.iconst 2, 1) := by decide +kernel
theorem dX4_answer_35 : decode cX4_answer 35 = .ok (.if_icmp .ge 19, 3) := by decide +kernel
theorem dX4_answer_38 : decode cX4_answer 38 = .ok (.iload_n 1, 1) := by decide +kernel
theorem dX4_answer_39 : decode cX4_answer 39 = .ok (.ifCond .ne 10, 3) := by decide +kernel
theorem dX4_answer_42 : decode cX4_answer 42 = .ok (.aload_n 0, 1) := by decide +kernel
theorem dX4_answer_43 : decode cX4_answer 43 = .ok (.getfield 68, 3) := by decide +kernel
theorem dX4_answer_46 : decode cX4_answer 46 = .ok (.goto 7, 3) := by decide +kernel
theorem dX4_answer_49 : decode cX4_answer 49 = .ok (.aload_n 0, 1) := by decide +kernel
theorem dX4_answer_50 : decode cX4_answer 50 = .ok (.getfield 71, 3) := by decide +kernel
theorem dX4_answer_53 : decode cX4_answer 53 = .ok (.ireturn, 1) := by decide +kernel
theorem dX4_answer_54 : decode cX4_answer 54 = .ok (.iload_n 1, 1) := by decide +kernel
theorem dX4_answer_55 : decode cX4_answer 55 = .ok (.iconst 2, 1) := by decide +kernel
theorem dX4_answer_56 : decode cX4_answer 56 = .ok (.isub, 1) := by decide +kernel
theorem dX4_answer_57 : decode cX4_answer 57 = .ok (.iconst 4, 1) := by decide +kernel
theorem dX4_answer_58 : decode cX4_answer 58 = .ok (.irem, 1) := by decide +kernel
theorem dX4_answer_59 : decode cX4_answer 59 = .ok (.istore_n 2, 1) := by decide +kernel
theorem dX4_answer_60 : decode cX4_answer 60 = .ok (.iload_n 2, 1) := by decide +kernel
theorem dX4_answer_61 : decode cX4_answer 61 = .ok (.aload_n 0, 1) := by decide +kernel
theorem dX4_answer_62 : decode cX4_answer 62 = .ok (.getfield 58, 3) := by decide +kernel
theorem dX4_answer_65 : decode cX4_answer 65 = .ok (.if_icmp .lt 6, 3) := by decide +kernel
theorem dX4_answer_68 : decode cX4_answer 68 = .ok (.bipush (-2), 2) := by decide +kernel
theorem dX4_answer_70 : decode cX4_answer 70 = .ok (.ireturn, 1) := by decide +kernel
theorem dX4_answer_71 : decode cX4_answer 71 = .ok (.iload_n 1, 1) := by decide +kernel
theorem dX4_answer_72 : decode cX4_answer 72 = .ok (.bipush 6, 2) := by decide +kernel
theorem dX4_answer_74 : decode cX4_answer 74 = .ok (.if_icmp .ge 12, 3) := by decide +kernel
theorem dX4_answer_77 : decode cX4_answer 77 = .ok (.aload_n 0, 1) := by decide +kernel
theorem dX4_answer_78 : decode cX4_answer 78 = .ok (.getfield 42, 3) := by decide +kernel
theorem dX4_answer_81 : decode cX4_answer 81 = .ok (.iload_n 2, 1) := by decide +kernel
theorem dX4_answer_82 : decode cX4_answer 82 = .ok (.iaload, 1) := by decide +kernel
theorem dX4_answer_83 : decode cX4_answer 83 = .ok (.goto 24, 3) := by decide +kernel
theorem dX4_answer_86 : decode cX4_answer 86 = .ok (.iload_n 1, 1) := by decide +kernel
theorem dX4_answer_87 : decode cX4_answer 87 = .ok (.bipush 10, 2) := by decide +kernel
theorem dX4_answer_89 : decode cX4_answer 89 = .ok (.if_icmp .ge 12, 3) := by decide +kernel
theorem dX4_answer_92 : decode cX4_answer 92 = .ok (.aload_n 0, 1) := by decide +kernel
theorem dX4_answer_93 : decode cX4_answer 93 = .ok (.getfield 45, 3) := by decide +kernel
theorem dX4_answer_96 : decode cX4_answer 96 = .ok (.iload_n 2, 1) := by decide +kernel
theorem dX4_answer_97 : decode cX4_answer 97 = .ok (.iaload, 1) := by decide +kernel
theorem dX4_answer_98 : decode cX4_answer 98 = .ok (.goto 9, 3) := by decide +kernel
theorem dX4_answer_101 : decode cX4_answer 101 = .ok (.aload_n 0, 1) := by decide +kernel
theorem dX4_answer_102 : decode cX4_answer 102 = .ok (.getfield 48, 3) := by decide +kernel
theorem dX4_answer_105 : decode cX4_answer 105 = .ok (.iload_n 2, 1) := by decide +kernel
theorem dX4_answer_106 : decode cX4_answer 106 = .ok (.iaload, 1) := by decide +kernel
theorem dX4_answer_107 : decode cX4_answer 107 = .ok (.ireturn, 1) := by decide +kernel
theorem dX4_bestPupil_0 : decode cX4_bestPupil 0 = .ok (.aload_n 0, 1) := by decide +kernel
theorem dX4_bestPupil_1 : decode cX4_bestPupil 1 = .ok (.invokevirtual 55, 3) := by decide +kernel
theorem dX4_bestPupil_4 : decode cX4_bestPupil 4 = .ok (.aload_n 0, 1) := by decide +kernel
theorem dX4_bestPupil_5 : decode cX4_bestPupil 5 = .ok (.getfield 58, 3) := by decide +kernel
theorem dX4_bestPupil_8 : decode cX4_bestPupil 8 = .ok (.iconst 4, 1) := by decide +kernel
theorem dX4_bestPupil_9 : decode cX4_bestPupil 9 = .ok (.if_icmp .le 6, 3) := by decide +kernel
theorem dX4_bestPupil_12 : decode cX4_bestPupil 12 = .ok (.bipush (-3), 2) := by decide +kernel
theorem dX4_bestPupil_14 : decode cX4_bestPupil 14 = .ok (.ireturn, 1) := by decide +kernel
theorem dX4_bestPupil_15 : decode cX4_bestPupil 15 = .ok (.aload_n 0, 1) := by decide +kernel
theorem dX4_bestPupil_16 : decode cX4_bestPupil 16 = .ok (.invokevirtual 62, 3) := by decide +kernel
theorem dX4_bestPupil_19 : decode cX4_bestPupil 19 = .ok (.aload_n 0, 1) := by decide +kernel
theorem dX4_bestPupil_20 : decode cX4_bestPupil 20 = .ok (.getfield 51, 3) := by decide +kernel
theorem dX4_bestPupil_23 : decode cX4_bestPupil 23 = .ok (.getfield 74, 3) := by decide +kernel
theorem dX4_bestPupil_26 : decode cX4_bestPupil 26 = .ok (.getfield 80, 3) := by decide +kernel
theorem dX4_bestPupil_29 : decode cX4_bestPupil 29 = .ok (.getfield 86, 3) := by decide +kernel
theorem dX4_bestPupil_32 : decode cX4_bestPupil 32 = .ok (.astore_n 2, 1) := by decide +kernel
theorem dX4_bestPupil_33 : decode cX4_bestPupil 33 = .ok (.bipush (-2), 2) := by decide +kernel
theorem dX4_bestPupil_35 : decode cX4_bestPupil 35 = .ok (.istore_n 3, 1) := by decide +kernel
theorem dX4_bestPupil_36 : decode cX4_bestPupil 36 = .ok (.bipush (-2), 2) := by decide +kernel
theorem dX4_bestPupil_38 : decode cX4_bestPupil 38 = .ok (.istore 4, 2) := by decide +kernel
theorem dX4_bestPupil_40 : decode cX4_bestPupil 40 = .ok (.iconst 0, 1) := by decide +kernel
theorem dX4_bestPupil_41 : decode cX4_bestPupil 41 = .ok (.istore 5, 2) := by decide +kernel
theorem dX4_bestPupil_43 : decode cX4_bestPupil 43 = .ok (.iload 5, 2) := by decide +kernel
theorem dX4_bestPupil_45 : decode cX4_bestPupil 45 = .ok (.aload_n 0, 1) := by decide +kernel
theorem dX4_bestPupil_46 : decode cX4_bestPupil 46 = .ok (.getfield 51, 3) := by decide +kernel
theorem dX4_bestPupil_49 : decode cX4_bestPupil 49 = .ok (.getfield 74, 3) := by decide +kernel
theorem dX4_bestPupil_52 : decode cX4_bestPupil 52 = .ok (.getfield 91, 3) := by decide +kernel
theorem dX4_bestPupil_55 : decode cX4_bestPupil 55 = .ok (.getfield 95, 3) := by decide +kernel
theorem dX4_bestPupil_58 : decode cX4_bestPupil 58 = .ok (.if_icmp .ge 75, 3) := by decide +kernel
theorem dX4_bestPupil_61 : decode cX4_bestPupil 61 = .ok (.aload_n 2, 1) := by decide +kernel
theorem dX4_bestPupil_62 : decode cX4_bestPupil 62 = .ok (.iload 5, 2) := by decide +kernel
theorem dX4_bestPupil_64 : decode cX4_bestPupil 64 = .ok (.iaload, 1) := by decide +kernel
theorem dX4_bestPupil_65 : decode cX4_bestPupil 65 = .ok (.bipush 9, 2) := by decide +kernel
theorem dX4_bestPupil_67 : decode cX4_bestPupil 67 = .ok (.if_icmp .ge 60, 3) := by decide +kernel
theorem dX4_bestPupil_70 : decode cX4_bestPupil 70 = .ok (.aload_n 2, 1) := by decide +kernel
theorem dX4_bestPupil_71 : decode cX4_bestPupil 71 = .ok (.iload 5, 2) := by decide +kernel
theorem dX4_bestPupil_73 : decode cX4_bestPupil 73 = .ok (.dup2, 1) := by decide +kernel
theorem dX4_bestPupil_74 : decode cX4_bestPupil 74 = .ok (.iaload, 1) := by decide +kernel
theorem dX4_bestPupil_75 : decode cX4_bestPupil 75 = .ok (.iconst 1, 1) := by decide +kernel
theorem dX4_bestPupil_76 : decode cX4_bestPupil 76 = .ok (.iadd, 1) := by decide +kernel
theorem dX4_bestPupil_77 : decode cX4_bestPupil 77 = .ok (.iastore, 1) := by decide +kernel
theorem dX4_bestPupil_78 : decode cX4_bestPupil 78 = .ok (.aload_n 0, 1) := by decide +kernel
theorem dX4_bestPupil_79 : decode cX4_bestPupil 79 = .ok (.iload 5, 2) := by decide +kernel
theorem dX4_bestPupil_81 : decode cX4_bestPupil 81 = .ok (.invokevirtual 100, 3) := by decide +kernel
theorem dX4_bestPupil_84 : decode cX4_bestPupil 84 = .ok (.aload_n 0, 1) := by decide +kernel
theorem dX4_bestPupil_85 : decode cX4_bestPupil 85 = .ok (.invokevirtual 65, 3) := by decide +kernel
theorem dX4_bestPupil_88 : decode cX4_bestPupil 88 = .ok (.aload_n 2, 1) := by decide +kernel
theorem dX4_bestPupil_89 : decode cX4_bestPupil 89 = .ok (.iload 5, 2) := by decide +kernel
theorem dX4_bestPupil_91 : decode cX4_bestPupil 91 = .ok (.dup2, 1) := by decide +kernel
theorem dX4_bestPupil_92 : decode cX4_bestPupil 92 = .ok (.iaload, 1) := by decide +kernel
theorem dX4_bestPupil_93 : decode cX4_bestPupil 93 = .ok (.iconst 1, 1) := by decide +kernel
theorem dX4_bestPupil_94 : decode cX4_bestPupil 94 = .ok (.isub, 1) := by decide +kernel
theorem dX4_bestPupil_95 : decode cX4_bestPupil 95 = .ok (.iastore, 1) := by decide +kernel
theorem dX4_bestPupil_96 : decode cX4_bestPupil 96 = .ok (.aload_n 0, 1) := by decide +kernel
theorem dX4_bestPupil_97 : decode cX4_bestPupil 97 = .ok (.iload 5, 2) := by decide +kernel
theorem dX4_bestPupil_99 : decode cX4_bestPupil 99 = .ok (.invokevirtual 100, 3) := by decide +kernel
theorem dX4_bestPupil_102 : decode cX4_bestPupil 102 = .ok (.aload_n 0, 1) := by decide +kernel
theorem dX4_bestPupil_103 : decode cX4_bestPupil 103 = .ok (.getfield 68, 3) := by decide +kernel
theorem dX4_bestPupil_106 : decode cX4_bestPupil 106 = .ok (.iload 4, 2) := by decide +kernel
theorem dX4_bestPupil_108 : decode cX4_bestPupil 108 = .ok (.if_icmp .le 19, 3) := by decide +kernel
theorem dX4_bestPupil_111 : decode cX4_bestPupil 111 = .ok (.aload_n 0, 1) := by decide +kernel
theorem dX4_bestPupil_112 : decode cX4_bestPupil 112 = .ok (.getfield 68, 3) := by decide +kernel
theorem dX4_bestPupil_115 : decode cX4_bestPupil 115 = .ok (.ifCond .lt 12, 3) := by decide +kernel
theorem dX4_bestPupil_118 : decode cX4_bestPupil 118 = .ok (.aload_n 0, 1) := by decide +kernel
theorem dX4_bestPupil_119 : decode cX4_bestPupil 119 = .ok (.getfield 68, 3) := by decide +kernel
theorem dX4_bestPupil_122 : decode cX4_bestPupil 122 = .ok (.istore 4, 2) := by decide +kernel
theorem dX4_bestPupil_124 : decode cX4_bestPupil 124 = .ok (.iload 5, 2) := by decide +kernel
theorem dX4_bestPupil_126 : decode cX4_bestPupil 126 = .ok (.istore_n 3, 1) := by decide +kernel
theorem dX4_bestPupil_127 : decode cX4_bestPupil 127 = .ok (.iinc 5 1, 3) := by decide +kernel
theorem dX4_bestPupil_130 : decode cX4_bestPupil 130 = .ok (.goto (-87), 3) := by decide +kernel
theorem dX4_bestPupil_133 : decode cX4_bestPupil 133 = .ok (.iload_n 1, 1) := by decide +kernel
theorem dX4_bestPupil_134 : decode cX4_bestPupil 134 = .ok (.ifCond .eq 7, 3) := by decide +kernel
theorem dX4_bestPupil_137 : decode cX4_bestPupil 137 = .ok (.iload_n 3, 1) := by decide +kernel
theorem dX4_bestPupil_138 : decode cX4_bestPupil 138 = .ok (.goto 5, 3) := by decide +kernel
theorem dX4_bestPupil_141 : decode cX4_bestPupil 141 = .ok (.iload 4, 2) := by decide +kernel
theorem dX4_bestPupil_143 : decode cX4_bestPupil 143 = .ok (.ireturn, 1) := by decide +kernel
theorem dX6_reads_0 : decode cX6_reads 0 = .ok (.aload_n 0, 1) := by decide +kernel
theorem dX6_reads_1 : decode cX6_reads 1 = .ok (.iconst 0, 1) := by decide +kernel
theorem dX6_reads_2 : decode cX6_reads 2 = .ok (.putfield 21, 3) := by decide +kernel
theorem dX6_reads_5 : decode cX6_reads 5 = .ok (.aload_n 0, 1) := by decide +kernel
theorem dX6_reads_6 : decode cX6_reads 6 = .ok (.iconst 0, 1) := by decide +kernel
theorem dX6_reads_7 : decode cX6_reads 7 = .ok (.putfield 34, 3) := by decide +kernel
theorem dX6_reads_10 : decode cX6_reads 10 = .ok (.iconst 0, 1) := by decide +kernel
theorem dX6_reads_11 : decode cX6_reads 11 = .ok (.istore_n 1, 1) := by decide +kernel
theorem dX6_reads_12 : decode cX6_reads 12 = .ok (.iload_n 1, 1) := by decide +kernel
theorem dX6_reads_13 : decode cX6_reads 13 = .ok (.bipush 12, 2) := by decide +kernel
theorem dX6_reads_15 : decode cX6_reads 15 = .ok (.if_icmp .gt 156, 3) := by decide +kernel
theorem dX6_reads_18 : decode cX6_reads 18 = .ok (.aload_n 0, 1) := by decide +kernel
theorem dX6_reads_19 : decode cX6_reads 19 = .ok (.getfield 15, 3) := by decide +kernel
theorem dX6_reads_22 : decode cX6_reads 22 = .ok (.invokevirtual 37, 3) := by decide +kernel
theorem dX6_reads_25 : decode cX6_reads 25 = .ok (.bipush 12, 2) := by decide +kernel
theorem dX6_reads_27 : decode cX6_reads 27 = .ok (.if_icmp .eq 12, 3) := by decide +kernel
theorem dX6_reads_30 : decode cX6_reads 30 = .ok (.aload_n 0, 1) := by decide +kernel
theorem dX6_reads_31 : decode cX6_reads 31 = .ok (.getfield 15, 3) := by decide +kernel
theorem dX6_reads_34 : decode cX6_reads 34 = .ok (.iconst 0, 1) := by decide +kernel
theorem dX6_reads_35 : decode cX6_reads 35 = .ok (.invokevirtual 43, 3) := by decide +kernel
theorem dX6_reads_38 : decode cX6_reads 38 = .ok (.ireturn, 1) := by decide +kernel
theorem dX6_reads_39 : decode cX6_reads 39 = .ok (.iload_n 1, 1) := by decide +kernel
theorem dX6_reads_40 : decode cX6_reads 40 = .ok (.bipush 12, 2) := by decide +kernel
theorem dX6_reads_42 : decode cX6_reads 42 = .ok (.if_icmp .ne 12, 3) := by decide +kernel
theorem dX6_reads_45 : decode cX6_reads 45 = .ok (.aload_n 0, 1) := by decide +kernel
theorem dX6_reads_46 : decode cX6_reads 46 = .ok (.getfield 15, 3) := by decide +kernel
theorem dX6_reads_49 : decode cX6_reads 49 = .ok (.iconst 4, 1) := by decide +kernel
theorem dX6_reads_50 : decode cX6_reads 50 = .ok (.invokevirtual 43, 3) := by decide +kernel
theorem dX6_reads_53 : decode cX6_reads 53 = .ok (.ireturn, 1) := by decide +kernel
theorem dX6_reads_54 : decode cX6_reads 54 = .ok (.aload_n 0, 1) := by decide +kernel
theorem dX6_reads_55 : decode cX6_reads 55 = .ok (.getfield 15, 3) := by decide +kernel
theorem dX6_reads_58 : decode cX6_reads 58 = .ok (.invokevirtual 47, 3) := by decide +kernel
theorem dX6_reads_61 : decode cX6_reads 61 = .ok (.aload_n 0, 1) := by decide +kernel
theorem dX6_reads_62 : decode cX6_reads 62 = .ok (.invokevirtual 50, 3) := by decide +kernel
theorem dX6_reads_65 : decode cX6_reads 65 = .ok (.ifCond .ne 5, 3) := by decide +kernel
theorem dX6_reads_68 : decode cX6_reads 68 = .ok (.iconst 0, 1) := by decide +kernel
theorem dX6_reads_69 : decode cX6_reads 69 = .ok (.ireturn, 1) := by decide +kernel
theorem dX6_reads_70 : decode cX6_reads 70 = .ok (.aload_n 0, 1) := by decide +kernel
theorem dX6_reads_71 : decode cX6_reads 71 = .ok (.getfield 15, 3) := by decide +kernel
theorem dX6_reads_74 : decode cX6_reads 74 = .ok (.invokevirtual 37, 3) := by decide +kernel
theorem dX6_reads_77 : decode cX6_reads 77 = .ok (.bipush 13, 2) := by decide +kernel
theorem dX6_reads_79 : decode cX6_reads 79 = .ok (.if_icmp .eq 7, 3) := by decide +kernel
theorem dX6_reads_82 : decode cX6_reads 82 = .ok (.iconst 1, 1) := by decide +kernel
theorem dX6_reads_83 : decode cX6_reads 83 = .ok (.goto 4, 3) := by decide +kernel
theorem dX6_reads_86 : decode cX6_reads 86 = .ok (.iconst 0, 1) := by decide +kernel
theorem dX6_reads_87 : decode cX6_reads 87 = .ok (.istore_n 2, 1) := by decide +kernel
theorem dX6_reads_88 : decode cX6_reads 88 = .ok (.iload_n 2, 1) := by decide +kernel
theorem dX6_reads_89 : decode cX6_reads 89 = .ok (.ifCond .ne 20, 3) := by decide +kernel
theorem dX6_reads_92 : decode cX6_reads 92 = .ok (.aload_n 0, 1) := by decide +kernel
theorem dX6_reads_93 : decode cX6_reads 93 = .ok (.getfield 15, 3) := by decide +kernel
theorem dX6_reads_96 : decode cX6_reads 96 = .ok (.invokevirtual 47, 3) := by decide +kernel
theorem dX6_reads_99 : decode cX6_reads 99 = .ok (.aload_n 0, 1) := by decide +kernel
theorem dX6_reads_100 : decode cX6_reads 100 = .ok (.iconst 0, 1) := by decide +kernel
theorem dX6_reads_101 : decode cX6_reads 101 = .ok (.invokevirtual 54, 3) := by decide +kernel
theorem dX6_reads_104 : decode cX6_reads 104 = .ok (.ifCond .ne 5, 3) := by decide +kernel
theorem dX6_reads_107 : decode cX6_reads 107 = .ok (.iconst 0, 1) := by decide +kernel
theorem dX6_reads_108 : decode cX6_reads 108 = .ok (.ireturn, 1) := by decide +kernel
theorem dX6_reads_109 : decode cX6_reads 109 = .ok (.aload_n 0, 1) := by decide +kernel
theorem dX6_reads_110 : decode cX6_reads 110 = .ok (.iload_n 2, 1) := by decide +kernel
theorem dX6_reads_111 : decode cX6_reads 111 = .ok (.ifCond .eq 8, 3) := by decide +kernel
theorem dX6_reads_114 : decode cX6_reads 114 = .ok (.ldc 57, 2) := by decide +kernel
theorem dX6_reads_116 : decode cX6_reads 116 = .ok (.goto 5, 3) := by decide +kernel
theorem dX6_reads_119 : decode cX6_reads 119 = .ok (.ldc 58, 2) := by decide +kernel
theorem dX6_reads_121 : decode cX6_reads 121 = .ok (.invokevirtual 59, 3) := by decide +kernel
theorem dX6_reads_124 : decode cX6_reads 124 = .ok (.aload_n 0, 1) := by decide +kernel
theorem dX6_reads_125 : decode cX6_reads 125 = .ok (.getfield 15, 3) := by decide +kernel
theorem dX6_reads_128 : decode cX6_reads 128 = .ok (.invokevirtual 63, 3) := by decide +kernel
theorem dX6_reads_131 : decode cX6_reads 131 = .ok (.iconst (-1), 1) := by decide +kernel
theorem dX6_reads_132 : decode cX6_reads 132 = .ok (.if_icmp .ne 5, 3) := by decide +kernel
theorem dX6_reads_135 : decode cX6_reads 135 = .ok (.iconst 1, 1) := by decide +kernel
theorem dX6_reads_136 : decode cX6_reads 136 = .ok (.ireturn, 1) := by decide +kernel
theorem dX6_reads_137 : decode cX6_reads 137 = .ok (.aload_n 0, 1) := by decide +kernel
theorem dX6_reads_138 : decode cX6_reads 138 = .ok (.getfield 15, 3) := by decide +kernel
theorem dX6_reads_141 : decode cX6_reads 141 = .ok (.invokevirtual 63, 3) := by decide +kernel
theorem dX6_reads_144 : decode cX6_reads 144 = .ok (.bipush 59, 2) := by decide +kernel
theorem dX6_reads_146 : decode cX6_reads 146 = .ok (.if_icmp .eq 12, 3) := by decide +kernel
theorem dX6_reads_149 : decode cX6_reads 149 = .ok (.aload_n 0, 1) := by decide +kernel
theorem dX6_reads_150 : decode cX6_reads 150 = .ok (.getfield 15, 3) := by decide +kernel
theorem dX6_reads_153 : decode cX6_reads 153 = .ok (.iconst 0, 1) := by decide +kernel
theorem dX6_reads_154 : decode cX6_reads 154 = .ok (.invokevirtual 43, 3) := by decide +kernel
theorem dX6_reads_157 : decode cX6_reads 157 = .ok (.ireturn, 1) := by decide +kernel
theorem dX6_reads_158 : decode cX6_reads 158 = .ok (.aload_n 0, 1) := by decide +kernel
theorem dX6_reads_159 : decode cX6_reads 159 = .ok (.getfield 15, 3) := by decide +kernel
theorem dX6_reads_162 : decode cX6_reads 162 = .ok (.invokevirtual 66, 3) := by decide +kernel
theorem dX6_reads_165 : decode cX6_reads 165 = .ok (.iinc 1 1, 3) := by decide +kernel
theorem dX6_reads_168 : decode cX6_reads 168 = .ok (.goto (-156), 3) := by decide +kernel
theorem dX6_reads_171 : decode cX6_reads 171 = .ok (.iconst 0, 1) := by decide +kernel
theorem dX6_reads_172 : decode cX6_reads 172 = .ok (.ireturn, 1) := by decide +kernel
theorem dX11_benches_0 : decode cX11_benches 0 = .ok (.aload_n 0, 1) := by decide +kernel
theorem dX11_benches_1 : decode cX11_benches 1 = .ok (.getfield 31, 3) := by decide +kernel
theorem dX11_benches_4 : decode cX11_benches 4 = .ok (.getfield 134, 3) := by decide +kernel
theorem dX11_benches_7 : decode cX11_benches 7 = .ok (.getfield 231, 3) := by decide +kernel
theorem dX11_benches_10 : decode cX11_benches 10 = .ok (.ifCond .eq 13, 3) := by decide +kernel
theorem dX11_benches_13 : decode cX11_benches 13 = .ok (.iload_n 1, 1) := by decide +kernel
theorem dX11_benches_14 : decode cX11_benches 14 = .ok (.ifCond .lt 9, 3) := by decide +kernel
theorem dX11_benches_17 : decode cX11_benches 17 = .ok (.iload_n 1, 1) := by decide +kernel
theorem dX11_benches_18 : decode cX11_benches 18 = .ok (.bipush 13, 2) := by decide +kernel
theorem dX11_benches_20 : decode cX11_benches 20 = .ok (.if_icmp .le 5, 3) := by decide +kernel
theorem dX11_benches_23 : decode cX11_benches 23 = .ok (.iconst (-1), 1) := by decide +kernel
theorem dX11_benches_24 : decode cX11_benches 24 = .ok (.ireturn, 1) := by decide +kernel
theorem dX11_benches_25 : decode cX11_benches 25 = .ok (.aload_n 0, 1) := by decide +kernel
theorem dX11_benches_26 : decode cX11_benches 26 = .ok (.getfield 60, 3) := by decide +kernel
theorem dX11_benches_29 : decode cX11_benches 29 = .ok (.iload_n 1, 1) := by decide +kernel
theorem dX11_benches_30 : decode cX11_benches 30 = .ok (.invokevirtual 265, 3) := by decide +kernel
theorem dX11_benches_33 : decode cX11_benches 33 = .ok (.ireturn, 1) := by decide +kernel
theorem dX11_lesson_0 : decode cX11_lesson 0 = .ok (.aload_n 0, 1) := by decide +kernel
theorem dX11_lesson_1 : decode cX11_lesson 1 = .ok (.getfield 31, 3) := by decide +kernel
theorem dX11_lesson_4 : decode cX11_lesson 4 = .ok (.getfield 134, 3) := by decide +kernel
theorem dX11_lesson_7 : decode cX11_lesson 7 = .ok (.getfield 231, 3) := by decide +kernel
theorem dX11_lesson_10 : decode cX11_lesson 10 = .ok (.ifCond .eq 12, 3) := by decide +kernel
theorem dX11_lesson_13 : decode cX11_lesson 13 = .ok (.iload_n 1, 1) := by decide +kernel
theorem dX11_lesson_14 : decode cX11_lesson 14 = .ok (.ifCond .lt 8, 3) := by decide +kernel
theorem dX11_lesson_17 : decode cX11_lesson 17 = .ok (.iload_n 1, 1) := by decide +kernel
theorem dX11_lesson_18 : decode cX11_lesson 18 = .ok (.iconst 1, 1) := by decide +kernel
theorem dX11_lesson_19 : decode cX11_lesson 19 = .ok (.if_icmp .le 5, 3) := by decide +kernel
theorem dX11_lesson_22 : decode cX11_lesson 22 = .ok (.iconst (-1), 1) := by decide +kernel
theorem dX11_lesson_23 : decode cX11_lesson 23 = .ok (.ireturn, 1) := by decide +kernel
theorem dX11_lesson_24 : decode cX11_lesson 24 = .ok (.aload_n 0, 1) := by decide +kernel
theorem dX11_lesson_25 : decode cX11_lesson 25 = .ok (.getfield 60, 3) := by decide +kernel
theorem dX11_lesson_28 : decode cX11_lesson 28 = .ok (.iload_n 1, 1) := by decide +kernel
theorem dX11_lesson_29 : decode cX11_lesson 29 = .ok (.ifCond .ne 7, 3) := by decide +kernel
theorem dX11_lesson_32 : decode cX11_lesson 32 = .ok (.iconst 1, 1) := by decide +kernel
theorem dX11_lesson_33 : decode cX11_lesson 33 = .ok (.goto 4, 3) := by decide +kernel
theorem dX11_lesson_36 : decode cX11_lesson 36 = .ok (.iconst 0, 1) := by decide +kernel
theorem dX11_lesson_37 : decode cX11_lesson 37 = .ok (.invokevirtual 309, 3) := by decide +kernel
theorem dX11_lesson_40 : decode cX11_lesson 40 = .ok (.ireturn, 1) := by decide +kernel
