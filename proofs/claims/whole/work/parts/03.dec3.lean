theorem dX9_findsParties_10 : decode cX9_findsParties 10 = .ok (.invokevirtual 327, 3) := by decide +kernel
theorem dX9_findsParties_13 : decode cX9_findsParties 13 = .ok (.ifCond .ne 10, 3) := by decide +kernel
theorem dX9_findsParties_16 : decode cX9_findsParties 16 = .ok (.aload_n 0, 1) := by decide +kernel
theorem dX9_findsParties_17 : decode cX9_findsParties 17 = .ok (.getfield 314, 3) := by decide +kernel
theorem dX9_findsParties_20 : decode cX9_findsParties 20 = .ok (.ifCond .eq 7, 3) := by decide +kernel
theorem dX9_findsParties_23 : decode cX9_findsParties 23 = .ok (.iconst 1, 1) := by decide +kernel
theorem dX9_findsParties_24 : decode cX9_findsParties 24 = .ok (.goto 4, 3) := by decide +kernel
theorem dX9_findsParties_27 : decode cX9_findsParties 27 = .ok (.iconst 0, 1) := by decide +kernel
theorem dX9_findsParties_28 : decode cX9_findsParties 28 = .ok (.ireturn, 1) := by decide +kernel
theorem dX9_findsParties_29 : decode cX9_findsParties 29 = .ok (.iconst 0, 1) := by decide +kernel
theorem dX9_findsParties_30 : decode cX9_findsParties 30 = .ok (.istore_n 3, 1) := by decide +kernel
theorem dX9_findsParties_31 : decode cX9_findsParties 31 = .ok (.iload_n 3, 1) := by decide +kernel
theorem dX9_findsParties_32 : decode cX9_findsParties 32 = .ok (.aload_n 0, 1) := by decide +kernel
theorem dX9_findsParties_33 : decode cX9_findsParties 33 = .ok (.getfield 305, 3) := by decide +kernel
theorem dX9_findsParties_36 : decode cX9_findsParties 36 = .ok (.if_icmp .ge 61, 3) := by decide +kernel
theorem dX9_findsParties_39 : decode cX9_findsParties 39 = .ok (.aload_n 0, 1) := by decide +kernel
theorem dX9_findsParties_40 : decode cX9_findsParties 40 = .ok (.iload_n 2, 1) := by decide +kernel
theorem dX9_findsParties_41 : decode cX9_findsParties 41 = .ok (.aload_n 0, 1) := by decide +kernel
theorem dX9_findsParties_42 : decode cX9_findsParties 42 = .ok (.getfield 84, 3) := by decide +kernel
theorem dX9_findsParties_45 : decode cX9_findsParties 45 = .ok (.iload_n 3, 1) := by decide +kernel
theorem dX9_findsParties_46 : decode cX9_findsParties 46 = .ok (.iaload, 1) := by decide +kernel
theorem dX9_findsParties_47 : decode cX9_findsParties 47 = .ok (.invokevirtual 331, 3) := by decide +kernel
theorem dX9_findsParties_50 : decode cX9_findsParties 50 = .ok (.ifCond .eq 6, 3) := by decide +kernel
theorem dX9_findsParties_53 : decode cX9_findsParties 53 = .ok (.goto 38, 3) := by decide +kernel
theorem dX9_findsParties_56 : decode cX9_findsParties 56 = .ok (.aload_n 0, 1) := by decide +kernel
theorem dX9_findsParties_57 : decode cX9_findsParties 57 = .ok (.getfield 96, 3) := by decide +kernel
theorem dX9_findsParties_60 : decode cX9_findsParties 60 = .ok (.iload_n 2, 1) := by decide +kernel
theorem dX9_findsParties_61 : decode cX9_findsParties 61 = .ok (.aload_n 0, 1) := by decide +kernel
theorem dX9_findsParties_62 : decode cX9_findsParties 62 = .ok (.getfield 84, 3) := by decide +kernel
theorem dX9_findsParties_65 : decode cX9_findsParties 65 = .ok (.iload_n 3, 1) := by decide +kernel
theorem dX9_findsParties_66 : decode cX9_findsParties 66 = .ok (.iaload, 1) := by decide +kernel
theorem dX9_findsParties_67 : decode cX9_findsParties 67 = .ok (.iastore, 1) := by decide +kernel
theorem dX9_findsParties_68 : decode cX9_findsParties 68 = .ok (.aload_n 1, 1) := by decide +kernel
theorem dX9_findsParties_69 : decode cX9_findsParties 69 = .ok (.aload_n 0, 1) := by decide +kernel
theorem dX9_findsParties_70 : decode cX9_findsParties 70 = .ok (.iload_n 2, 1) := by decide +kernel
theorem dX9_findsParties_71 : decode cX9_findsParties 71 = .ok (.invokevirtual 334, 3) := by decide +kernel
theorem dX9_findsParties_74 : decode cX9_findsParties 74 = .ok (.iaload, 1) := by decide +kernel
theorem dX9_findsParties_75 : decode cX9_findsParties 75 = .ok (.ifCond .le 16, 3) := by decide +kernel
theorem dX9_findsParties_78 : decode cX9_findsParties 78 = .ok (.aload_n 0, 1) := by decide +kernel
theorem dX9_findsParties_79 : decode cX9_findsParties 79 = .ok (.aload_n 1, 1) := by decide +kernel
theorem dX9_findsParties_80 : decode cX9_findsParties 80 = .ok (.iload_n 2, 1) := by decide +kernel
theorem dX9_findsParties_81 : decode cX9_findsParties 81 = .ok (.iconst 1, 1) := by decide +kernel
theorem dX9_findsParties_82 : decode cX9_findsParties 82 = .ok (.iadd, 1) := by decide +kernel
theorem dX9_findsParties_83 : decode cX9_findsParties 83 = .ok (.invokevirtual 321, 3) := by decide +kernel
theorem dX9_findsParties_86 : decode cX9_findsParties 86 = .ok (.ifCond .eq 5, 3) := by decide +kernel
theorem dX9_findsParties_89 : decode cX9_findsParties 89 = .ok (.iconst 1, 1) := by decide +kernel
theorem dX9_findsParties_90 : decode cX9_findsParties 90 = .ok (.ireturn, 1) := by decide +kernel
theorem dX9_findsParties_91 : decode cX9_findsParties 91 = .ok (.iinc 3 1, 3) := by decide +kernel
theorem dX9_findsParties_94 : decode cX9_findsParties 94 = .ok (.goto (-63), 3) := by decide +kernel
theorem dX9_findsParties_97 : decode cX9_findsParties 97 = .ok (.iconst 0, 1) := by decide +kernel
theorem dX9_findsParties_98 : decode cX9_findsParties 98 = .ok (.ireturn, 1) := by decide +kernel
theorem dX9_times_0 : decode cX9_times 0 = .ok (.lload_n 1, 1) := by decide +kernel
theorem dX9_times_1 : decode cX9_times 1 = .ok (.lconst 0, 1) := by decide +kernel
theorem dX9_times_2 : decode cX9_times 2 = .ok (.lcmp, 1) := by decide +kernel
theorem dX9_times_3 : decode cX9_times 3 = .ok (.ifCond .le 20, 3) := by decide +kernel
theorem dX9_times_6 : decode cX9_times 6 = .ok (.lload_n 3, 1) := by decide +kernel
theorem dX9_times_7 : decode cX9_times 7 = .ok (.ldc2_w 337, 3) := by decide +kernel
theorem dX9_times_10 : decode cX9_times 10 = .ok (.lload_n 1, 1) := by decide +kernel
theorem dX9_times_11 : decode cX9_times 11 = .ok (.ldiv, 1) := by decide +kernel
theorem dX9_times_12 : decode cX9_times 12 = .ok (.lcmp, 1) := by decide +kernel
theorem dX9_times_13 : decode cX9_times 13 = .ok (.ifCond .le 10, 3) := by decide +kernel
theorem dX9_times_16 : decode cX9_times 16 = .ok (.aload_n 0, 1) := by decide +kernel
theorem dX9_times_17 : decode cX9_times 17 = .ok (.iconst 1, 1) := by decide +kernel
theorem dX9_times_18 : decode cX9_times 18 = .ok (.putfield 314, 3) := by decide +kernel
theorem dX9_times_21 : decode cX9_times 21 = .ok (.lconst 0, 1) := by decide +kernel
theorem dX9_times_22 : decode cX9_times 22 = .ok (.lreturn, 1) := by decide +kernel
theorem dX9_times_23 : decode cX9_times 23 = .ok (.lload_n 1, 1) := by decide +kernel
theorem dX9_times_24 : decode cX9_times 24 = .ok (.lload_n 3, 1) := by decide +kernel
theorem dX9_times_25 : decode cX9_times 25 = .ok (.lmul, 1) := by decide +kernel
theorem dX9_times_26 : decode cX9_times 26 = .ok (.lreturn, 1) := by decide +kernel
theorem dX9_isBetter_0 : decode cX9_isBetter 0 = .ok (.aload_n 0, 1) := by decide +kernel
theorem dX9_isBetter_1 : decode cX9_isBetter 1 = .ok (.aload_n 1, 1) := by decide +kernel
theorem dX9_isBetter_2 : decode cX9_isBetter 2 = .ok (.iconst 1, 1) := by decide +kernel
theorem dX9_isBetter_3 : decode cX9_isBetter 3 = .ok (.invokevirtual 339, 3) := by decide +kernel
theorem dX9_isBetter_6 : decode cX9_isBetter 6 = .ok (.lstore_n 2, 1) := by decide +kernel
theorem dX9_isBetter_7 : decode cX9_isBetter 7 = .ok (.aload_n 0, 1) := by decide +kernel
theorem dX9_isBetter_8 : decode cX9_isBetter 8 = .ok (.aload_n 1, 1) := by decide +kernel
theorem dX9_isBetter_9 : decode cX9_isBetter 9 = .ok (.iconst 0, 1) := by decide +kernel
theorem dX9_isBetter_10 : decode cX9_isBetter 10 = .ok (.invokevirtual 339, 3) := by decide +kernel
theorem dX9_isBetter_13 : decode cX9_isBetter 13 = .ok (.lstore 4, 2) := by decide +kernel
theorem dX9_isBetter_15 : decode cX9_isBetter 15 = .ok (.aload_n 0, 1) := by decide +kernel
theorem dX9_isBetter_16 : decode cX9_isBetter 16 = .ok (.getfield 314, 3) := by decide +kernel
theorem dX9_isBetter_19 : decode cX9_isBetter 19 = .ok (.ifCond .ne 14, 3) := by decide +kernel
theorem dX9_isBetter_22 : decode cX9_isBetter 22 = .ok (.lload_n 2, 1) := by decide +kernel
theorem dX9_isBetter_23 : decode cX9_isBetter 23 = .ok (.lload 4, 2) := by decide +kernel
theorem dX9_isBetter_25 : decode cX9_isBetter 25 = .ok (.lcmp, 1) := by decide +kernel
theorem dX9_isBetter_26 : decode cX9_isBetter 26 = .ok (.ifCond .le 7, 3) := by decide +kernel
theorem dX9_isBetter_29 : decode cX9_isBetter 29 = .ok (.iconst 1, 1) := by decide +kernel
theorem dX9_isBetter_30 : decode cX9_isBetter 30 = .ok (.goto 4, 3) := by decide +kernel
theorem dX9_isBetter_33 : decode cX9_isBetter 33 = .ok (.iconst 0, 1) := by decide +kernel
theorem dX9_isBetter_34 : decode cX9_isBetter 34 = .ok (.ireturn, 1) := by decide +kernel
theorem dX9_product_0 : decode cX9_product 0 = .ok (.lconst 1, 1) := by decide +kernel
theorem dX9_product_1 : decode cX9_product 1 = .ok (.lstore_n 3, 1) := by decide +kernel
theorem dX9_product_2 : decode cX9_product 2 = .ok (.iconst 0, 1) := by decide +kernel
theorem dX9_product_3 : decode cX9_product 3 = .ok (.istore 5, 2) := by decide +kernel
theorem dX9_product_5 : decode cX9_product 5 = .ok (.iload 5, 2) := by decide +kernel
theorem dX9_product_7 : decode cX9_product 7 = .ok (.aload_n 0, 1) := by decide +kernel
theorem dX9_product_8 : decode cX9_product 8 = .ok (.getfield 311, 3) := by decide +kernel
theorem dX9_product_11 : decode cX9_product 11 = .ok (.if_icmp .ge 40, 3) := by decide +kernel
theorem dX9_product_14 : decode cX9_product 14 = .ok (.aload_n 0, 1) := by decide +kernel
theorem dX9_product_15 : decode cX9_product 15 = .ok (.lload_n 3, 1) := by decide +kernel
theorem dX9_product_16 : decode cX9_product 16 = .ok (.aload_n 0, 1) := by decide +kernel
theorem dX9_product_17 : decode cX9_product 17 = .ok (.getfield 21, 3) := by decide +kernel
theorem dX9_product_20 : decode cX9_product 20 = .ok (.iload_n 2, 1) := by decide +kernel
theorem dX9_product_21 : decode cX9_product 21 = .ok (.ifCond .eq 12, 3) := by decide +kernel
theorem dX9_product_24 : decode cX9_product 24 = .ok (.aload_n 0, 1) := by decide +kernel
theorem dX9_product_25 : decode cX9_product 25 = .ok (.iload 5, 2) := by decide +kernel
theorem dX9_product_27 : decode cX9_product 27 = .ok (.invokevirtual 343, 3) := by decide +kernel
theorem dX9_product_30 : decode cX9_product 30 = .ok (.goto 9, 3) := by decide +kernel
theorem dX9_product_33 : decode cX9_product 33 = .ok (.aload_n 0, 1) := by decide +kernel
theorem dX9_product_34 : decode cX9_product 34 = .ok (.iload 5, 2) := by decide +kernel
theorem dX9_product_36 : decode cX9_product 36 = .ok (.invokevirtual 334, 3) := by decide +kernel
theorem dX9_product_39 : decode cX9_product 39 = .ok (.iaload, 1) := by decide +kernel
theorem dX9_product_40 : decode cX9_product 40 = .ok (.i2l, 1) := by decide +kernel
theorem dX9_product_41 : decode cX9_product 41 = .ok (.invokevirtual 346, 3) := by decide +kernel
theorem dX9_product_44 : decode cX9_product 44 = .ok (.lstore_n 3, 1) := by decide +kernel
theorem dX9_product_45 : decode cX9_product 45 = .ok (.iinc 5 1, 3) := by decide +kernel
theorem dX9_product_48 : decode cX9_product 48 = .ok (.goto (-43), 3) := by decide +kernel
theorem dX9_product_51 : decode cX9_product 51 = .ok (.iconst 0, 1) := by decide +kernel
theorem dX9_product_52 : decode cX9_product 52 = .ok (.istore 5, 2) := by decide +kernel
theorem dX9_product_54 : decode cX9_product 54 = .ok (.iload 5, 2) := by decide +kernel
theorem dX9_product_56 : decode cX9_product 56 = .ok (.aload_n 0, 1) := by decide +kernel
theorem dX9_product_57 : decode cX9_product 57 = .ok (.getfield 311, 3) := by decide +kernel
theorem dX9_product_60 : decode cX9_product 60 = .ok (.if_icmp .ge 49, 3) := by decide +kernel
theorem dX9_product_63 : decode cX9_product 63 = .ok (.aload_n 0, 1) := by decide +kernel
theorem dX9_product_64 : decode cX9_product 64 = .ok (.lload_n 3, 1) := by decide +kernel
theorem dX9_product_65 : decode cX9_product 65 = .ok (.aload_n 0, 1) := by decide +kernel
theorem dX9_product_66 : decode cX9_product 66 = .ok (.aload_n 0, 1) := by decide +kernel
theorem dX9_product_67 : decode cX9_product 67 = .ok (.invokevirtual 192, 3) := by decide +kernel
theorem dX9_product_70 : decode cX9_product 70 = .ok (.iload_n 2, 1) := by decide +kernel
theorem dX9_product_71 : decode cX9_product 71 = .ok (.ifCond .eq 16, 3) := by decide +kernel
theorem dX9_product_74 : decode cX9_product 74 = .ok (.aload_n 1, 1) := by decide +kernel
theorem dX9_product_75 : decode cX9_product 75 = .ok (.aload_n 0, 1) := by decide +kernel
theorem dX9_product_76 : decode cX9_product 76 = .ok (.iload 5, 2) := by decide +kernel
theorem dX9_product_78 : decode cX9_product 78 = .ok (.invokevirtual 343, 3) := by decide +kernel
theorem dX9_product_81 : decode cX9_product 81 = .ok (.iaload, 1) := by decide +kernel
theorem dX9_product_82 : decode cX9_product 82 = .ok (.iconst 1, 1) := by decide +kernel
theorem dX9_product_83 : decode cX9_product 83 = .ok (.iadd, 1) := by decide +kernel
theorem dX9_product_84 : decode cX9_product 84 = .ok (.goto 11, 3) := by decide +kernel
theorem dX9_product_87 : decode cX9_product 87 = .ok (.aload_n 1, 1) := by decide +kernel
theorem dX9_product_88 : decode cX9_product 88 = .ok (.aload_n 0, 1) := by decide +kernel
theorem dX9_product_89 : decode cX9_product 89 = .ok (.iload 5, 2) := by decide +kernel
theorem dX9_product_91 : decode cX9_product 91 = .ok (.invokevirtual 334, 3) := by decide +kernel
theorem dX9_product_94 : decode cX9_product 94 = .ok (.iaload, 1) := by decide +kernel
theorem dX9_product_95 : decode cX9_product 95 = .ok (.invokevirtual 175, 3) := by decide +kernel
theorem dX9_product_98 : decode cX9_product 98 = .ok (.i2l, 1) := by decide +kernel
theorem dX9_product_99 : decode cX9_product 99 = .ok (.invokevirtual 346, 3) := by decide +kernel
theorem dX9_product_102 : decode cX9_product 102 = .ok (.lstore_n 3, 1) := by decide +kernel
theorem dX9_product_103 : decode cX9_product 103 = .ok (.iinc 5 1, 3) := by decide +kernel
theorem dX9_product_106 : decode cX9_product 106 = .ok (.goto (-52), 3) := by decide +kernel
theorem dX9_product_109 : decode cX9_product 109 = .ok (.iconst 0, 1) := by decide +kernel
theorem dX9_product_110 : decode cX9_product 110 = .ok (.istore 5, 2) := by decide +kernel
theorem dX9_product_112 : decode cX9_product 112 = .ok (.iload 5, 2) := by decide +kernel
theorem dX9_product_114 : decode cX9_product 114 = .ok (.aload_n 0, 1) := by decide +kernel
theorem dX9_product_115 : decode cX9_product 115 = .ok (.getfield 311, 3) := by decide +kernel
theorem dX9_product_118 : decode cX9_product 118 = .ok (.if_icmp .ge 49, 3) := by decide +kernel
theorem dX9_product_121 : decode cX9_product 121 = .ok (.aload_n 0, 1) := by decide +kernel
theorem dX9_product_122 : decode cX9_product 122 = .ok (.lload_n 3, 1) := by decide +kernel
theorem dX9_product_123 : decode cX9_product 123 = .ok (.aload_n 0, 1) := by decide +kernel
theorem dX9_product_124 : decode cX9_product 124 = .ok (.aload_n 0, 1) := by decide +kernel
theorem dX9_product_125 : decode cX9_product 125 = .ok (.invokevirtual 192, 3) := by decide +kernel
theorem dX9_product_128 : decode cX9_product 128 = .ok (.iload_n 2, 1) := by decide +kernel
theorem dX9_product_129 : decode cX9_product 129 = .ok (.ifCond .eq 14, 3) := by decide +kernel
theorem dX9_product_132 : decode cX9_product 132 = .ok (.aload_n 1, 1) := by decide +kernel
theorem dX9_product_133 : decode cX9_product 133 = .ok (.aload_n 0, 1) := by decide +kernel
theorem dX9_product_134 : decode cX9_product 134 = .ok (.iload 5, 2) := by decide +kernel
theorem dX9_product_136 : decode cX9_product 136 = .ok (.invokevirtual 334, 3) := by decide +kernel
theorem dX9_product_139 : decode cX9_product 139 = .ok (.iaload, 1) := by decide +kernel
theorem dX9_product_140 : decode cX9_product 140 = .ok (.goto 13, 3) := by decide +kernel
theorem dX9_product_143 : decode cX9_product 143 = .ok (.aload_n 1, 1) := by decide +kernel
theorem dX9_product_144 : decode cX9_product 144 = .ok (.aload_n 0, 1) := by decide +kernel
theorem dX9_product_145 : decode cX9_product 145 = .ok (.iload 5, 2) := by decide +kernel
theorem dX9_product_147 : decode cX9_product 147 = .ok (.invokevirtual 343, 3) := by decide +kernel
theorem dX9_product_150 : decode cX9_product 150 = .ok (.iaload, 1) := by decide +kernel
theorem dX9_product_151 : decode cX9_product 151 = .ok (.iconst 1, 1) := by decide +kernel
theorem dX9_product_152 : decode cX9_product 152 = .ok (.iadd, 1) := by decide +kernel
theorem dX9_product_153 : decode cX9_product 153 = .ok (.invokevirtual 178, 3) := by decide +kernel
theorem dX9_product_156 : decode cX9_product 156 = .ok (.i2l, 1) := by decide +kernel
theorem dX9_product_157 : decode cX9_product 157 = .ok (.invokevirtual 346, 3) := by decide +kernel
theorem dX9_product_160 : decode cX9_product 160 = .ok (.lstore_n 3, 1) := by decide +kernel
theorem dX9_product_161 : decode cX9_product 161 = .ok (.iinc 5 1, 3) := by decide +kernel
theorem dX9_product_164 : decode cX9_product 164 = .ok (.goto (-52), 3) := by decide +kernel
theorem dX9_product_167 : decode cX9_product 167 = .ok (.lload_n 3, 1) := by decide +kernel
theorem dX9_product_168 : decode cX9_product 168 = .ok (.lreturn, 1) := by decide +kernel
theorem dX9_solves_0 : decode cX9_solves 0 = .ok (.aload_n 0, 1) := by decide +kernel
theorem dX9_solves_1 : decode cX9_solves 1 = .ok (.getfield 108, 3) := by decide +kernel
theorem dX9_solves_4 : decode cX9_solves 4 = .ok (.ifCond .ne 16, 3) := by decide +kernel
theorem dX9_solves_7 : decode cX9_solves 7 = .ok (.aload_n 0, 1) := by decide +kernel
theorem dX9_solves_8 : decode cX9_solves 8 = .ok (.aload_n 0, 1) := by decide +kernel
theorem dX9_solves_9 : decode cX9_solves 9 = .ok (.invokevirtual 349, 3) := by decide +kernel
theorem dX9_solves_12 : decode cX9_solves 12 = .ok (.putfield 352, 3) := by decide +kernel
theorem dX9_solves_15 : decode cX9_solves 15 = .ok (.aload_n 0, 1) := by decide +kernel
theorem dX9_solves_16 : decode cX9_solves 16 = .ok (.iconst 1, 1) := by decide +kernel
theorem dX9_solves_17 : decode cX9_solves 17 = .ok (.putfield 108, 3) := by decide +kernel
theorem dX9_solves_20 : decode cX9_solves 20 = .ok (.aload_n 0, 1) := by decide +kernel
theorem dX9_solves_21 : decode cX9_solves 21 = .ok (.getfield 352, 3) := by decide +kernel
theorem dX9_solves_24 : decode cX9_solves 24 = .ok (.ireturn, 1) := by decide +kernel
theorem dX9_solvesAnew_0 : decode cX9_solvesAnew 0 = .ok (.aload_n 0, 1) := by decide +kernel
theorem dX9_solvesAnew_1 : decode cX9_solvesAnew 1 = .ok (.invokevirtual 355, 3) := by decide +kernel
theorem dX9_solvesAnew_4 : decode cX9_solvesAnew 4 = .ok (.ifCond .ne 6, 3) := by decide +kernel
theorem dX9_solvesAnew_7 : decode cX9_solvesAnew 7 = .ok (.bipush (-3), 2) := by decide +kernel
theorem dX9_solvesAnew_9 : decode cX9_solvesAnew 9 = .ok (.ireturn, 1) := by decide +kernel
theorem dX9_solvesAnew_10 : decode cX9_solvesAnew 10 = .ok (.aload_n 0, 1) := by decide +kernel
theorem dX9_solvesAnew_11 : decode cX9_solvesAnew 11 = .ok (.invokevirtual 358, 3) := by decide +kernel
theorem dX9_solvesAnew_14 : decode cX9_solvesAnew 14 = .ok (.iconst 0, 1) := by decide +kernel
theorem dX9_solvesAnew_15 : decode cX9_solvesAnew 15 = .ok (.istore_n 1, 1) := by decide +kernel
theorem dX9_solvesAnew_16 : decode cX9_solvesAnew 16 = .ok (.iload_n 1, 1) := by decide +kernel
theorem dX9_solvesAnew_17 : decode cX9_solvesAnew 17 = .ok (.sipush 200, 3) := by decide +kernel
theorem dX9_solvesAnew_20 : decode cX9_solvesAnew 20 = .ok (.if_icmp .ge 74, 3) := by decide +kernel
theorem dX9_solvesAnew_23 : decode cX9_solvesAnew 23 = .ok (.aload_n 0, 1) := by decide +kernel
theorem dX9_solvesAnew_24 : decode cX9_solvesAnew 24 = .ok (.aload_n 0, 1) := by decide +kernel
theorem dX9_solvesAnew_25 : decode cX9_solvesAnew 25 = .ok (.getfield 90, 3) := by decide +kernel
theorem dX9_solvesAnew_28 : decode cX9_solvesAnew 28 = .ok (.invokevirtual 361, 3) := by decide +kernel
theorem dX9_solvesAnew_31 : decode cX9_solvesAnew 31 = .ok (.ifCond .eq 63, 3) := by decide +kernel
theorem dX9_solvesAnew_34 : decode cX9_solvesAnew 34 = .ok (.aload_n 0, 1) := by decide +kernel
theorem dX9_solvesAnew_35 : decode cX9_solvesAnew 35 = .ok (.getfield 314, 3) := by decide +kernel
theorem dX9_solvesAnew_38 : decode cX9_solvesAnew 38 = .ok (.ifCond .eq 6, 3) := by decide +kernel
theorem dX9_solvesAnew_41 : decode cX9_solvesAnew 41 = .ok (.bipush (-6), 2) := by decide +kernel
theorem dX9_solvesAnew_43 : decode cX9_solvesAnew 43 = .ok (.ireturn, 1) := by decide +kernel
theorem dX9_solvesAnew_44 : decode cX9_solvesAnew 44 = .ok (.iconst 0, 1) := by decide +kernel
theorem dX9_solvesAnew_45 : decode cX9_solvesAnew 45 = .ok (.istore_n 2, 1) := by decide +kernel
theorem dX9_solvesAnew_46 : decode cX9_solvesAnew 46 = .ok (.iload_n 2, 1) := by decide +kernel
theorem dX9_solvesAnew_47 : decode cX9_solvesAnew 47 = .ok (.aload_n 0, 1) := by decide +kernel
theorem dX9_solvesAnew_48 : decode cX9_solvesAnew 48 = .ok (.getfield 311, 3) := by decide +kernel
theorem dX9_solvesAnew_51 : decode cX9_solvesAnew 51 = .ok (.if_icmp .ge 37, 3) := by decide +kernel
theorem dX9_solvesAnew_54 : decode cX9_solvesAnew 54 = .ok (.aload_n 0, 1) := by decide +kernel
theorem dX9_solvesAnew_55 : decode cX9_solvesAnew 55 = .ok (.getfield 90, 3) := by decide +kernel
theorem dX9_solvesAnew_58 : decode cX9_solvesAnew 58 = .ok (.aload_n 0, 1) := by decide +kernel
theorem dX9_solvesAnew_59 : decode cX9_solvesAnew 59 = .ok (.iload_n 2, 1) := by decide +kernel
theorem dX9_solvesAnew_60 : decode cX9_solvesAnew 60 = .ok (.invokevirtual 334, 3) := by decide +kernel
theorem dX9_solvesAnew_63 : decode cX9_solvesAnew 63 = .ok (.dup2, 1) := by decide +kernel
theorem dX9_solvesAnew_64 : decode cX9_solvesAnew 64 = .ok (.iaload, 1) := by decide +kernel
theorem dX9_solvesAnew_65 : decode cX9_solvesAnew 65 = .ok (.iconst 1, 1) := by decide +kernel
theorem dX9_solvesAnew_66 : decode cX9_solvesAnew 66 = .ok (.isub, 1) := by decide +kernel
theorem dX9_solvesAnew_67 : decode cX9_solvesAnew 67 = .ok (.iastore, 1) := by decide +kernel
theorem dX9_solvesAnew_68 : decode cX9_solvesAnew 68 = .ok (.aload_n 0, 1) := by decide +kernel
theorem dX9_solvesAnew_69 : decode cX9_solvesAnew 69 = .ok (.getfield 90, 3) := by decide +kernel
theorem dX9_solvesAnew_72 : decode cX9_solvesAnew 72 = .ok (.aload_n 0, 1) := by decide +kernel
theorem dX9_solvesAnew_73 : decode cX9_solvesAnew 73 = .ok (.iload_n 2, 1) := by decide +kernel
theorem dX9_solvesAnew_74 : decode cX9_solvesAnew 74 = .ok (.invokevirtual 343, 3) := by decide +kernel
theorem dX9_solvesAnew_77 : decode cX9_solvesAnew 77 = .ok (.dup2, 1) := by decide +kernel
theorem dX9_solvesAnew_78 : decode cX9_solvesAnew 78 = .ok (.iaload, 1) := by decide +kernel
theorem dX9_solvesAnew_79 : decode cX9_solvesAnew 79 = .ok (.iconst 1, 1) := by decide +kernel
theorem dX9_solvesAnew_80 : decode cX9_solvesAnew 80 = .ok (.iadd, 1) := by decide +kernel
theorem dX9_solvesAnew_81 : decode cX9_solvesAnew 81 = .ok (.iastore, 1) := by decide +kernel
theorem dX9_solvesAnew_82 : decode cX9_solvesAnew 82 = .ok (.iinc 2 1, 3) := by decide +kernel
theorem dX9_solvesAnew_85 : decode cX9_solvesAnew 85 = .ok (.goto (-39), 3) := by decide +kernel
theorem dX9_solvesAnew_88 : decode cX9_solvesAnew 88 = .ok (.iinc 1 1, 3) := by decide +kernel
theorem dX9_solvesAnew_91 : decode cX9_solvesAnew 91 = .ok (.goto (-75), 3) := by decide +kernel
theorem dX9_solvesAnew_94 : decode cX9_solvesAnew 94 = .ok (.iload_n 1, 1) := by decide +kernel
theorem dX9_solvesAnew_95 : decode cX9_solvesAnew 95 = .ok (.ireturn, 1) := by decide +kernel
theorem dX9_solve_0 : decode cX9_solve 0 = .ok (.aload_n 0, 1) := by decide +kernel
theorem dX9_solve_1 : decode cX9_solve 1 = .ok (.invokevirtual 364, 3) := by decide +kernel
theorem dX9_solve_4 : decode cX9_solve 4 = .ok (.ireturn, 1) := by decide +kernel
theorem dX9_cell_0 : decode cX9_cell 0 = .ok (.iload_n 1, 1) := by decide +kernel
theorem dX9_cell_1 : decode cX9_cell 1 = .ok (.invokestatic 129, 3) := by decide +kernel
theorem dX9_cell_4 : decode cX9_cell 4 = .ok (.ifCond .eq 10, 3) := by decide +kernel
theorem dX9_cell_7 : decode cX9_cell 7 = .ok (.iload_n 2, 1) := by decide +kernel
theorem dX9_cell_8 : decode cX9_cell 8 = .ok (.invokestatic 133, 3) := by decide +kernel
theorem dX9_cell_11 : decode cX9_cell 11 = .ok (.ifCond .ne 5, 3) := by decide +kernel
theorem dX9_cell_14 : decode cX9_cell 14 = .ok (.iconst (-1), 1) := by decide +kernel
theorem dX9_cell_15 : decode cX9_cell 15 = .ok (.ireturn, 1) := by decide +kernel
theorem dX9_cell_16 : decode cX9_cell 16 = .ok (.aload_n 0, 1) := by decide +kernel
theorem dX9_cell_17 : decode cX9_cell 17 = .ok (.invokevirtual 364, 3) := by decide +kernel
theorem dX9_cell_20 : decode cX9_cell 20 = .ok (.istore_n 3, 1) := by decide +kernel
theorem dX9_cell_21 : decode cX9_cell 21 = .ok (.iload_n 3, 1) := by decide +kernel
theorem dX9_cell_22 : decode cX9_cell 22 = .ok (.ifCond .ge 7, 3) := by decide +kernel
theorem dX9_cell_25 : decode cX9_cell 25 = .ok (.iload_n 3, 1) := by decide +kernel
theorem dX9_cell_26 : decode cX9_cell 26 = .ok (.goto 14, 3) := by decide +kernel
theorem dX9_cell_29 : decode cX9_cell 29 = .ok (.aload_n 0, 1) := by decide +kernel
theorem dX9_cell_30 : decode cX9_cell 30 = .ok (.getfield 90, 3) := by decide +kernel
theorem dX9_cell_33 : decode cX9_cell 33 = .ok (.bipush 6, 2) := by decide +kernel
theorem dX9_cell_35 : decode cX9_cell 35 = .ok (.iload_n 1, 1) := by decide +kernel
theorem dX9_cell_36 : decode cX9_cell 36 = .ok (.imul, 1) := by decide +kernel
theorem dX9_cell_37 : decode cX9_cell 37 = .ok (.iload_n 2, 1) := by decide +kernel
theorem dX9_cell_38 : decode cX9_cell 38 = .ok (.iadd, 1) := by decide +kernel
theorem dX9_cell_39 : decode cX9_cell 39 = .ok (.iaload, 1) := by decide +kernel
theorem dX9_cell_40 : decode cX9_cell 40 = .ok (.ireturn, 1) := by decide +kernel
theorem dX9_bound_0 : decode cX9_bound 0 = .ok (.iload_n 1, 1) := by decide +kernel
theorem dX9_bound_1 : decode cX9_bound 1 = .ok (.invokestatic 129, 3) := by decide +kernel
theorem dX9_bound_4 : decode cX9_bound 4 = .ok (.ifCond .eq 45, 3) := by decide +kernel
theorem dX9_bound_7 : decode cX9_bound 7 = .ok (.iload_n 2, 1) := by decide +kernel
theorem dX9_bound_8 : decode cX9_bound 8 = .ok (.invokestatic 129, 3) := by decide +kernel
theorem dX9_bound_11 : decode cX9_bound 11 = .ok (.ifCond .eq 38, 3) := by decide +kernel
theorem dX9_bound_14 : decode cX9_bound 14 = .ok (.iload_n 1, 1) := by decide +kernel
theorem dX9_bound_15 : decode cX9_bound 15 = .ok (.iload_n 2, 1) := by decide +kernel
theorem dX9_bound_16 : decode cX9_bound 16 = .ok (.if_icmp .eq 33, 3) := by decide +kernel
theorem dX9_bound_19 : decode cX9_bound 19 = .ok (.iload_n 3, 1) := by decide +kernel
theorem dX9_bound_20 : decode cX9_bound 20 = .ok (.invokestatic 189, 3) := by decide +kernel
theorem dX9_bound_23 : decode cX9_bound 23 = .ok (.ifCond .eq 26, 3) := by decide +kernel
theorem dX9_bound_26 : decode cX9_bound 26 = .ok (.aload_n 0, 1) := by decide +kernel
theorem dX9_bound_27 : decode cX9_bound 27 = .ok (.invokevirtual 364, 3) := by decide +kernel
theorem dX9_bound_30 : decode cX9_bound 30 = .ok (.ifCond .lt 19, 3) := by decide +kernel
theorem dX9_bound_33 : decode cX9_bound 33 = .ok (.aload_n 0, 1) := by decide +kernel
theorem dX9_bound_34 : decode cX9_bound 34 = .ok (.iload_n 1, 1) := by decide +kernel
theorem dX9_bound_35 : decode cX9_bound 35 = .ok (.invokevirtual 296, 3) := by decide +kernel
theorem dX9_bound_38 : decode cX9_bound 38 = .ok (.ifCond .eq 11, 3) := by decide +kernel
theorem dX9_bound_41 : decode cX9_bound 41 = .ok (.aload_n 0, 1) := by decide +kernel
theorem dX9_bound_42 : decode cX9_bound 42 = .ok (.iload_n 2, 1) := by decide +kernel
theorem dX9_bound_43 : decode cX9_bound 43 = .ok (.invokevirtual 296, 3) := by decide +kernel
theorem dX9_bound_46 : decode cX9_bound 46 = .ok (.ifCond .ne 7, 3) := by decide +kernel
theorem dX9_bound_49 : decode cX9_bound 49 = .ok (.ldc2_w 195, 3) := by decide +kernel
theorem dX9_bound_52 : decode cX9_bound 52 = .ok (.lreturn, 1) := by decide +kernel
theorem dX9_bound_53 : decode cX9_bound 53 = .ok (.lconst 0, 1) := by decide +kernel
theorem dX9_bound_54 : decode cX9_bound 54 = .ok (.lstore 4, 2) := by decide +kernel
theorem dX9_bound_56 : decode cX9_bound 56 = .ok (.lconst 0, 1) := by decide +kernel
theorem dX9_bound_57 : decode cX9_bound 57 = .ok (.lstore 6, 2) := by decide +kernel
theorem dX9_bound_59 : decode cX9_bound 59 = .ok (.aload_n 0, 1) := by decide +kernel
theorem dX9_bound_60 : decode cX9_bound 60 = .ok (.iconst 0, 1) := by decide +kernel
theorem dX9_bound_61 : decode cX9_bound 61 = .ok (.putfield 314, 3) := by decide +kernel
theorem dX9_bound_64 : decode cX9_bound 64 = .ok (.iconst 0, 1) := by decide +kernel
theorem dX9_bound_65 : decode cX9_bound 65 = .ok (.istore 8, 2) := by decide +kernel
theorem dX9_bound_67 : decode cX9_bound 67 = .ok (.iload 8, 2) := by decide +kernel
theorem dX9_bound_69 : decode cX9_bound 69 = .ok (.bipush 6, 2) := by decide +kernel
theorem dX9_bound_71 : decode cX9_bound 71 = .ok (.if_icmp .ge 206, 3) := by decide +kernel
theorem dX9_bound_74 : decode cX9_bound 74 = .ok (.aload_n 0, 1) := by decide +kernel
theorem dX9_bound_75 : decode cX9_bound 75 = .ok (.getfield 90, 3) := by decide +kernel
theorem dX9_bound_78 : decode cX9_bound 78 = .ok (.bipush 6, 2) := by decide +kernel
theorem dX9_bound_80 : decode cX9_bound 80 = .ok (.iload_n 1, 1) := by decide +kernel
theorem dX9_bound_81 : decode cX9_bound 81 = .ok (.imul, 1) := by decide +kernel
theorem dX9_bound_82 : decode cX9_bound 82 = .ok (.iload 8, 2) := by decide +kernel
theorem dX9_bound_84 : decode cX9_bound 84 = .ok (.iadd, 1) := by decide +kernel
theorem dX9_bound_85 : decode cX9_bound 85 = .ok (.iaload, 1) := by decide +kernel
theorem dX9_bound_86 : decode cX9_bound 86 = .ok (.iconst 1, 1) := by decide +kernel
theorem dX9_bound_87 : decode cX9_bound 87 = .ok (.iadd, 1) := by decide +kernel
theorem dX9_bound_88 : decode cX9_bound 88 = .ok (.istore 9, 2) := by decide +kernel
theorem dX9_bound_90 : decode cX9_bound 90 = .ok (.aload_n 0, 1) := by decide +kernel
theorem dX9_bound_91 : decode cX9_bound 91 = .ok (.getfield 90, 3) := by decide +kernel
theorem dX9_bound_94 : decode cX9_bound 94 = .ok (.bipush 6, 2) := by decide +kernel
theorem dX9_bound_96 : decode cX9_bound 96 = .ok (.iload_n 2, 1) := by decide +kernel
theorem dX9_bound_97 : decode cX9_bound 97 = .ok (.imul, 1) := by decide +kernel
theorem dX9_bound_98 : decode cX9_bound 98 = .ok (.iload 8, 2) := by decide +kernel
theorem dX9_bound_100 : decode cX9_bound 100 = .ok (.iadd, 1) := by decide +kernel
theorem dX9_bound_101 : decode cX9_bound 101 = .ok (.iaload, 1) := by decide +kernel
theorem dX9_bound_102 : decode cX9_bound 102 = .ok (.istore 10, 2) := by decide +kernel
theorem dX9_bound_104 : decode cX9_bound 104 = .ok (.iload 10, 2) := by decide +kernel
theorem dX9_bound_106 : decode cX9_bound 106 = .ok (.ifCond .ne 6, 3) := by decide +kernel
theorem dX9_bound_109 : decode cX9_bound 109 = .ok (.goto 162, 3) := by decide +kernel
theorem dX9_bound_112 : decode cX9_bound 112 = .ok (.aload_n 0, 1) := by decide +kernel
theorem dX9_bound_113 : decode cX9_bound 113 = .ok (.aload_n 0, 1) := by decide +kernel
theorem dX9_bound_114 : decode cX9_bound 114 = .ok (.aload_n 0, 1) := by decide +kernel
theorem dX9_bound_115 : decode cX9_bound 115 = .ok (.iload_n 1, 1) := by decide +kernel
theorem dX9_bound_116 : decode cX9_bound 116 = .ok (.iload 8, 2) := by decide +kernel
theorem dX9_bound_118 : decode cX9_bound 118 = .ok (.invokevirtual 112, 3) := by decide +kernel
theorem dX9_bound_121 : decode cX9_bound 121 = .ok (.i2l, 1) := by decide +kernel
theorem dX9_bound_122 : decode cX9_bound 122 = .ok (.aload_n 0, 1) := by decide +kernel
theorem dX9_bound_123 : decode cX9_bound 123 = .ok (.aload_n 0, 1) := by decide +kernel
theorem dX9_bound_124 : decode cX9_bound 124 = .ok (.invokevirtual 192, 3) := by decide +kernel
theorem dX9_bound_127 : decode cX9_bound 127 = .ok (.iload 9, 2) := by decide +kernel
theorem dX9_bound_129 : decode cX9_bound 129 = .ok (.invokevirtual 175, 3) := by decide +kernel
theorem dX9_bound_132 : decode cX9_bound 132 = .ok (.i2l, 1) := by decide +kernel
theorem dX9_bound_133 : decode cX9_bound 133 = .ok (.invokevirtual 346, 3) := by decide +kernel
theorem dX9_bound_136 : decode cX9_bound 136 = .ok (.aload_n 0, 1) := by decide +kernel
theorem dX9_bound_137 : decode cX9_bound 137 = .ok (.aload_n 0, 1) := by decide +kernel
theorem dX9_bound_138 : decode cX9_bound 138 = .ok (.invokevirtual 192, 3) := by decide +kernel
theorem dX9_bound_141 : decode cX9_bound 141 = .ok (.iload 10, 2) := by decide +kernel
theorem dX9_bound_143 : decode cX9_bound 143 = .ok (.invokevirtual 178, 3) := by decide +kernel
theorem dX9_bound_146 : decode cX9_bound 146 = .ok (.i2l, 1) := by decide +kernel
theorem dX9_bound_147 : decode cX9_bound 147 = .ok (.invokevirtual 346, 3) := by decide +kernel
theorem dX9_bound_150 : decode cX9_bound 150 = .ok (.lstore 11, 2) := by decide +kernel
theorem dX9_bound_152 : decode cX9_bound 152 = .ok (.aload_n 0, 1) := by decide +kernel
theorem dX9_bound_153 : decode cX9_bound 153 = .ok (.aload_n 0, 1) := by decide +kernel
theorem dX9_bound_154 : decode cX9_bound 154 = .ok (.aload_n 0, 1) := by decide +kernel
theorem dX9_bound_155 : decode cX9_bound 155 = .ok (.iload_n 2, 1) := by decide +kernel
theorem dX9_bound_156 : decode cX9_bound 156 = .ok (.iload 8, 2) := by decide +kernel
theorem dX9_bound_158 : decode cX9_bound 158 = .ok (.invokevirtual 112, 3) := by decide +kernel
theorem dX9_bound_161 : decode cX9_bound 161 = .ok (.i2l, 1) := by decide +kernel
theorem dX9_bound_162 : decode cX9_bound 162 = .ok (.aload_n 0, 1) := by decide +kernel
theorem dX9_bound_163 : decode cX9_bound 163 = .ok (.aload_n 0, 1) := by decide +kernel
theorem dX9_bound_164 : decode cX9_bound 164 = .ok (.invokevirtual 192, 3) := by decide +kernel
theorem dX9_bound_167 : decode cX9_bound 167 = .ok (.iload 10, 2) := by decide +kernel
theorem dX9_bound_169 : decode cX9_bound 169 = .ok (.invokevirtual 175, 3) := by decide +kernel
theorem dX9_bound_172 : decode cX9_bound 172 = .ok (.i2l, 1) := by decide +kernel
theorem dX9_bound_173 : decode cX9_bound 173 = .ok (.invokevirtual 346, 3) := by decide +kernel
theorem dX9_bound_176 : decode cX9_bound 176 = .ok (.aload_n 0, 1) := by decide +kernel
theorem dX9_bound_177 : decode cX9_bound 177 = .ok (.aload_n 0, 1) := by decide +kernel
theorem dX9_bound_178 : decode cX9_bound 178 = .ok (.invokevirtual 192, 3) := by decide +kernel
theorem dX9_bound_181 : decode cX9_bound 181 = .ok (.iload 9, 2) := by decide +kernel
theorem dX9_bound_183 : decode cX9_bound 183 = .ok (.invokevirtual 178, 3) := by decide +kernel
theorem dX9_bound_186 : decode cX9_bound 186 = .ok (.i2l, 1) := by decide +kernel
theorem dX9_bound_187 : decode cX9_bound 187 = .ok (.invokevirtual 346, 3) := by decide +kernel
theorem dX9_bound_190 : decode cX9_bound 190 = .ok (.lstore 13, 2) := by decide +kernel
theorem dX9_bound_192 : decode cX9_bound 192 = .ok (.aload_n 0, 1) := by decide +kernel
theorem dX9_bound_193 : decode cX9_bound 193 = .ok (.aload_n 0, 1) := by decide +kernel
theorem dX9_bound_194 : decode cX9_bound 194 = .ok (.invokevirtual 192, 3) := by decide +kernel
theorem dX9_bound_197 : decode cX9_bound 197 = .ok (.iload 10, 2) := by decide +kernel
theorem dX9_bound_199 : decode cX9_bound 199 = .ok (.invokevirtual 178, 3) := by decide +kernel
theorem dX9_bound_202 : decode cX9_bound 202 = .ok (.ifCond .eq 10, 3) := by decide +kernel
theorem dX9_bound_205 : decode cX9_bound 205 = .ok (.lload 13, 2) := by decide +kernel
theorem dX9_bound_207 : decode cX9_bound 207 = .ok (.lconst 0, 1) := by decide +kernel
theorem dX9_bound_208 : decode cX9_bound 208 = .ok (.lcmp, 1) := by decide +kernel
theorem dX9_bound_209 : decode cX9_bound 209 = .ok (.ifCond .ne 7, 3) := by decide +kernel
theorem dX9_bound_212 : decode cX9_bound 212 = .ok (.ldc2_w 195, 3) := by decide +kernel
theorem dX9_bound_215 : decode cX9_bound 215 = .ok (.lreturn, 1) := by decide +kernel
theorem dX9_bound_216 : decode cX9_bound 216 = .ok (.lload 11, 2) := by decide +kernel
theorem dX9_bound_218 : decode cX9_bound 218 = .ok (.lload 13, 2) := by decide +kernel
theorem dX9_bound_220 : decode cX9_bound 220 = .ok (.iconst 0, 1) := by decide +kernel
theorem dX9_bound_221 : decode cX9_bound 221 = .ok (.invokestatic 197, 3) := by decide +kernel
theorem dX9_bound_224 : decode cX9_bound 224 = .ok (.lstore 15, 2) := by decide +kernel
theorem dX9_bound_226 : decode cX9_bound 226 = .ok (.lload 11, 2) := by decide +kernel
theorem dX9_bound_228 : decode cX9_bound 228 = .ok (.lload 13, 2) := by decide +kernel
theorem dX9_bound_230 : decode cX9_bound 230 = .ok (.iconst 1, 1) := by decide +kernel
theorem dX9_bound_231 : decode cX9_bound 231 = .ok (.invokestatic 197, 3) := by decide +kernel
theorem dX9_bound_234 : decode cX9_bound 234 = .ok (.lstore 17, 2) := by decide +kernel
theorem dX9_bound_236 : decode cX9_bound 236 = .ok (.lload 6, 2) := by decide +kernel
theorem dX9_bound_238 : decode cX9_bound 238 = .ok (.lconst 0, 1) := by decide +kernel
theorem dX9_bound_239 : decode cX9_bound 239 = .ok (.lcmp, 1) := by decide +kernel
theorem dX9_bound_240 : decode cX9_bound 240 = .ok (.ifCond .eq 23, 3) := by decide +kernel
theorem dX9_bound_243 : decode cX9_bound 243 = .ok (.aload_n 0, 1) := by decide +kernel
theorem dX9_bound_244 : decode cX9_bound 244 = .ok (.lload 15, 2) := by decide +kernel
theorem dX9_bound_246 : decode cX9_bound 246 = .ok (.lload 6, 2) := by decide +kernel
theorem dX9_bound_248 : decode cX9_bound 248 = .ok (.invokevirtual 346, 3) := by decide +kernel
theorem dX9_bound_251 : decode cX9_bound 251 = .ok (.aload_n 0, 1) := by decide +kernel
theorem dX9_bound_252 : decode cX9_bound 252 = .ok (.lload 4, 2) := by decide +kernel
theorem dX9_bound_254 : decode cX9_bound 254 = .ok (.lload 17, 2) := by decide +kernel
theorem dX9_bound_256 : decode cX9_bound 256 = .ok (.invokevirtual 346, 3) := by decide +kernel
theorem dX9_bound_259 : decode cX9_bound 259 = .ok (.lcmp, 1) := by decide +kernel
theorem dX9_bound_260 : decode cX9_bound 260 = .ok (.ifCond .le 11, 3) := by decide +kernel
theorem dX9_bound_263 : decode cX9_bound 263 = .ok (.lload 15, 2) := by decide +kernel
theorem dX9_bound_265 : decode cX9_bound 265 = .ok (.lstore 4, 2) := by decide +kernel
theorem dX9_bound_267 : decode cX9_bound 267 = .ok (.lload 17, 2) := by decide +kernel
theorem dX9_bound_269 : decode cX9_bound 269 = .ok (.lstore 6, 2) := by decide +kernel
theorem dX9_bound_271 : decode cX9_bound 271 = .ok (.iinc 8 1, 3) := by decide +kernel
theorem dX9_bound_274 : decode cX9_bound 274 = .ok (.goto (-207), 3) := by decide +kernel
theorem dX9_bound_277 : decode cX9_bound 277 = .ok (.aload_n 0, 1) := by decide +kernel
theorem dX9_bound_278 : decode cX9_bound 278 = .ok (.getfield 314, 3) := by decide +kernel
theorem dX9_bound_281 : decode cX9_bound 281 = .ok (.ifCond .ne 10, 3) := by decide +kernel
theorem dX9_bound_284 : decode cX9_bound 284 = .ok (.lload 6, 2) := by decide +kernel
theorem dX9_bound_286 : decode cX9_bound 286 = .ok (.lconst 0, 1) := by decide +kernel
theorem dX9_bound_287 : decode cX9_bound 287 = .ok (.lcmp, 1) := by decide +kernel
theorem dX9_bound_288 : decode cX9_bound 288 = .ok (.ifCond .ne 9, 3) := by decide +kernel
theorem dX9_bound_291 : decode cX9_bound 291 = .ok (.ldc2_w 195, 3) := by decide +kernel
theorem dX9_bound_294 : decode cX9_bound 294 = .ok (.goto 11, 3) := by decide +kernel
theorem dX9_bound_297 : decode cX9_bound 297 = .ok (.lload 4, 2) := by decide +kernel
theorem dX9_bound_299 : decode cX9_bound 299 = .ok (.lload 6, 2) := by decide +kernel
theorem dX9_bound_301 : decode cX9_bound 301 = .ok (.iload_n 3, 1) := by decide +kernel
theorem dX9_bound_302 : decode cX9_bound 302 = .ok (.invokestatic 197, 3) := by decide +kernel
theorem dX9_bound_305 : decode cX9_bound 305 = .ok (.lreturn, 1) := by decide +kernel
theorem dX9_isRow_0 : decode cX9_isRow 0 = .ok (.iload_n 0, 1) := by decide +kernel
theorem dX9_isRow_1 : decode cX9_isRow 1 = .ok (.i2l, 1) := by decide +kernel
theorem dX9_isRow_2 : decode cX9_isRow 2 = .ok (.lconst 0, 1) := by decide +kernel
theorem dX9_isRow_3 : decode cX9_isRow 3 = .ok (.ldc2_w 5, 3) := by decide +kernel
theorem dX9_isRow_6 : decode cX9_isRow 6 = .ok (.invokestatic 7, 3) := by decide +kernel
theorem dX9_isRow_9 : decode cX9_isRow 9 = .ok (.ireturn, 1) := by decide +kernel
theorem dX9_row_0 : decode cX9_row 0 = .ok (.iload_n 1, 1) := by decide +kernel
theorem dX9_row_1 : decode cX9_row 1 = .ok (.invokestatic 367, 3) := by decide +kernel
theorem dX9_row_4 : decode cX9_row 4 = .ok (.ifCond .ne 5, 3) := by decide +kernel
theorem dX9_row_7 : decode cX9_row 7 = .ok (.iconst (-1), 1) := by decide +kernel
theorem dX9_row_8 : decode cX9_row 8 = .ok (.ireturn, 1) := by decide +kernel
theorem dX9_row_9 : decode cX9_row 9 = .ok (.iload_n 2, 1) := by decide +kernel
theorem dX9_row_10 : decode cX9_row 10 = .ok (.bipush 40, 2) := by decide +kernel
theorem dX9_row_12 : decode cX9_row 12 = .ok (.if_icmp .le 6, 3) := by decide +kernel
theorem dX9_row_15 : decode cX9_row 15 = .ok (.bipush (-2), 2) := by decide +kernel
theorem dX9_row_17 : decode cX9_row 17 = .ok (.ireturn, 1) := by decide +kernel
theorem dX9_row_18 : decode cX9_row 18 = .ok (.iload_n 2, 1) := by decide +kernel
theorem dX9_row_19 : decode cX9_row 19 = .ok (.ifCond .ge 6, 3) := by decide +kernel
theorem dX9_row_22 : decode cX9_row 22 = .ok (.bipush (-14), 2) := by decide +kernel
theorem dX9_row_24 : decode cX9_row 24 = .ok (.ireturn, 1) := by decide +kernel
theorem dX9_row_25 : decode cX9_row 25 = .ok (.aload_n 0, 1) := by decide +kernel
theorem dX9_row_26 : decode cX9_row 26 = .ok (.getfield 102, 3) := by decide +kernel
theorem dX9_row_29 : decode cX9_row 29 = .ok (.iload_n 1, 1) := by decide +kernel
theorem dX9_row_30 : decode cX9_row 30 = .ok (.iload_n 2, 1) := by decide +kernel
theorem dX9_row_31 : decode cX9_row 31 = .ok (.iastore, 1) := by decide +kernel
theorem dX9_row_32 : decode cX9_row 32 = .ok (.iconst 0, 1) := by decide +kernel
theorem dX9_row_33 : decode cX9_row 33 = .ok (.istore_n 3, 1) := by decide +kernel
theorem dX9_row_34 : decode cX9_row 34 = .ok (.iload_n 3, 1) := by decide +kernel
theorem dX9_row_35 : decode cX9_row 35 = .ok (.iload_n 2, 1) := by decide +kernel
theorem dX9_row_36 : decode cX9_row 36 = .ok (.if_icmp .ge 21, 3) := by decide +kernel
theorem dX9_row_39 : decode cX9_row 39 = .ok (.aload_n 0, 1) := by decide +kernel
theorem dX9_row_40 : decode cX9_row 40 = .ok (.getfield 99, 3) := by decide +kernel
theorem dX9_row_43 : decode cX9_row 43 = .ok (.bipush 40, 2) := by decide +kernel
theorem dX9_row_45 : decode cX9_row 45 = .ok (.iload_n 1, 1) := by decide +kernel
theorem dX9_row_46 : decode cX9_row 46 = .ok (.imul, 1) := by decide +kernel
theorem dX9_row_47 : decode cX9_row 47 = .ok (.iload_n 3, 1) := by decide +kernel
theorem dX9_row_48 : decode cX9_row 48 = .ok (.iadd, 1) := by decide +kernel
theorem dX9_row_49 : decode cX9_row 49 = .ok (.iconst 0, 1) := by decide +kernel
theorem dX9_row_50 : decode cX9_row 50 = .ok (.iastore, 1) := by decide +kernel
theorem dX9_row_51 : decode cX9_row 51 = .ok (.iinc 3 1, 3) := by decide +kernel
theorem dX9_row_54 : decode cX9_row 54 = .ok (.goto (-20), 3) := by decide +kernel
theorem dX9_row_57 : decode cX9_row 57 = .ok (.iconst 1, 1) := by decide +kernel
theorem dX9_row_58 : decode cX9_row 58 = .ok (.ireturn, 1) := by decide +kernel
theorem dX9_set_0 : decode cX9_set 0 = .ok (.iload_n 1, 1) := by decide +kernel
theorem dX9_set_1 : decode cX9_set 1 = .ok (.invokestatic 367, 3) := by decide +kernel
theorem dX9_set_4 : decode cX9_set 4 = .ok (.ifCond .ne 5, 3) := by decide +kernel
theorem dX9_set_7 : decode cX9_set 7 = .ok (.iconst (-1), 1) := by decide +kernel
theorem dX9_set_8 : decode cX9_set 8 = .ok (.ireturn, 1) := by decide +kernel
theorem dX9_set_9 : decode cX9_set 9 = .ok (.aload_n 0, 1) := by decide +kernel
theorem dX9_set_10 : decode cX9_set 10 = .ok (.getfield 102, 3) := by decide +kernel
theorem dX9_set_13 : decode cX9_set 13 = .ok (.iload_n 1, 1) := by decide +kernel
theorem dX9_set_14 : decode cX9_set 14 = .ok (.iaload, 1) := by decide +kernel
theorem dX9_set_15 : decode cX9_set 15 = .ok (.iconst (-1), 1) := by decide +kernel
theorem dX9_set_16 : decode cX9_set 16 = .ok (.if_icmp .ne 6, 3) := by decide +kernel
theorem dX9_set_19 : decode cX9_set 19 = .ok (.bipush (-11), 2) := by decide +kernel
theorem dX9_set_21 : decode cX9_set 21 = .ok (.ireturn, 1) := by decide +kernel
theorem dX9_set_22 : decode cX9_set 22 = .ok (.iload_n 2, 1) := by decide +kernel
theorem dX9_set_23 : decode cX9_set 23 = .ok (.i2l, 1) := by decide +kernel
theorem dX9_set_24 : decode cX9_set 24 = .ok (.lconst 0, 1) := by decide +kernel
theorem dX9_set_25 : decode cX9_set 25 = .ok (.aload_n 0, 1) := by decide +kernel
theorem dX9_set_26 : decode cX9_set 26 = .ok (.getfield 102, 3) := by decide +kernel
theorem dX9_set_29 : decode cX9_set 29 = .ok (.iload_n 1, 1) := by decide +kernel
theorem dX9_set_30 : decode cX9_set 30 = .ok (.iaload, 1) := by decide +kernel
theorem dX9_set_31 : decode cX9_set 31 = .ok (.iconst 1, 1) := by decide +kernel
theorem dX9_set_32 : decode cX9_set 32 = .ok (.isub, 1) := by decide +kernel
theorem dX9_set_33 : decode cX9_set 33 = .ok (.i2l, 1) := by decide +kernel
theorem dX9_set_34 : decode cX9_set 34 = .ok (.invokestatic 7, 3) := by decide +kernel
theorem dX9_set_37 : decode cX9_set 37 = .ok (.ifCond .ne 6, 3) := by decide +kernel
theorem dX9_set_40 : decode cX9_set 40 = .ok (.bipush (-13), 2) := by decide +kernel
theorem dX9_set_42 : decode cX9_set 42 = .ok (.ireturn, 1) := by decide +kernel
theorem dX9_set_43 : decode cX9_set 43 = .ok (.aload_n 0, 1) := by decide +kernel
theorem dX9_set_44 : decode cX9_set 44 = .ok (.getfield 99, 3) := by decide +kernel
theorem dX9_set_47 : decode cX9_set 47 = .ok (.bipush 40, 2) := by decide +kernel
theorem dX9_set_49 : decode cX9_set 49 = .ok (.iload_n 1, 1) := by decide +kernel
theorem dX9_set_50 : decode cX9_set 50 = .ok (.imul, 1) := by decide +kernel
theorem dX9_set_51 : decode cX9_set 51 = .ok (.iload_n 2, 1) := by decide +kernel
theorem dX9_set_52 : decode cX9_set 52 = .ok (.iadd, 1) := by decide +kernel
theorem dX9_set_53 : decode cX9_set 53 = .ok (.iload_n 3, 1) := by decide +kernel
theorem dX9_set_54 : decode cX9_set 54 = .ok (.iastore, 1) := by decide +kernel
theorem dX9_set_55 : decode cX9_set 55 = .ok (.iconst 1, 1) := by decide +kernel
theorem dX9_set_56 : decode cX9_set 56 = .ok (.ireturn, 1) := by decide +kernel
theorem dX9_get_0 : decode cX9_get 0 = .ok (.iload_n 1, 1) := by decide +kernel
theorem dX9_get_1 : decode cX9_get 1 = .ok (.invokestatic 367, 3) := by decide +kernel
theorem dX9_get_4 : decode cX9_get 4 = .ok (.ifCond .eq 36, 3) := by decide +kernel
theorem dX9_get_7 : decode cX9_get 7 = .ok (.iload_n 2, 1) := by decide +kernel
theorem dX9_get_8 : decode cX9_get 8 = .ok (.i2l, 1) := by decide +kernel
theorem dX9_get_9 : decode cX9_get 9 = .ok (.lconst 0, 1) := by decide +kernel
theorem dX9_get_10 : decode cX9_get 10 = .ok (.aload_n 0, 1) := by decide +kernel
theorem dX9_get_11 : decode cX9_get 11 = .ok (.getfield 102, 3) := by decide +kernel
theorem dX9_get_14 : decode cX9_get 14 = .ok (.iload_n 1, 1) := by decide +kernel
theorem dX9_get_15 : decode cX9_get 15 = .ok (.iaload, 1) := by decide +kernel
theorem dX9_get_16 : decode cX9_get 16 = .ok (.iconst 1, 1) := by decide +kernel
theorem dX9_get_17 : decode cX9_get 17 = .ok (.isub, 1) := by decide +kernel
theorem dX9_get_18 : decode cX9_get 18 = .ok (.i2l, 1) := by decide +kernel
theorem dX9_get_19 : decode cX9_get 19 = .ok (.invokestatic 7, 3) := by decide +kernel
theorem dX9_get_22 : decode cX9_get 22 = .ok (.ifCond .eq 18, 3) := by decide +kernel
theorem dX9_get_25 : decode cX9_get 25 = .ok (.aload_n 0, 1) := by decide +kernel
theorem dX9_get_26 : decode cX9_get 26 = .ok (.getfield 99, 3) := by decide +kernel
theorem dX9_get_29 : decode cX9_get 29 = .ok (.bipush 40, 2) := by decide +kernel
theorem dX9_get_31 : decode cX9_get 31 = .ok (.iload_n 1, 1) := by decide +kernel
theorem dX9_get_32 : decode cX9_get 32 = .ok (.imul, 1) := by decide +kernel
theorem dX9_get_33 : decode cX9_get 33 = .ok (.iload_n 2, 1) := by decide +kernel
theorem dX9_get_34 : decode cX9_get 34 = .ok (.iadd, 1) := by decide +kernel
theorem dX9_get_35 : decode cX9_get 35 = .ok (.iaload, 1) := by decide +kernel
theorem dX9_get_36 : decode cX9_get 36 = .ok (.i2l, 1) := by decide +kernel
theorem dX9_get_37 : decode cX9_get 37 = .ok (.goto 6, 3) := by decide +kernel
theorem dX9_get_40 : decode cX9_get 40 = .ok (.ldc2_w 195, 3) := by decide +kernel
theorem dX9_get_43 : decode cX9_get 43 = .ok (.lreturn, 1) := by decide +kernel
theorem dX9_lay_0 : decode cX9_lay 0 = .ok (.iload_n 1, 1) := by decide +kernel
theorem dX9_lay_1 : decode cX9_lay 1 = .ok (.invokestatic 367, 3) := by decide +kernel
theorem dX9_lay_4 : decode cX9_lay 4 = .ok (.ifCond .ne 5, 3) := by decide +kernel
theorem dX9_lay_7 : decode cX9_lay 7 = .ok (.iconst (-1), 1) := by decide +kernel
theorem dX9_lay_8 : decode cX9_lay 8 = .ok (.ireturn, 1) := by decide +kernel
theorem dX9_lay_9 : decode cX9_lay 9 = .ok (.aload_n 0, 1) := by decide +kernel
theorem dX9_lay_10 : decode cX9_lay 10 = .ok (.getfield 102, 3) := by decide +kernel
theorem dX9_lay_13 : decode cX9_lay 13 = .ok (.iload_n 1, 1) := by decide +kernel
theorem dX9_lay_14 : decode cX9_lay 14 = .ok (.iaload, 1) := by decide +kernel
theorem dX9_lay_15 : decode cX9_lay 15 = .ok (.iconst (-1), 1) := by decide +kernel
theorem dX9_lay_16 : decode cX9_lay 16 = .ok (.if_icmp .ne 6, 3) := by decide +kernel
theorem dX9_lay_19 : decode cX9_lay 19 = .ok (.bipush (-11), 2) := by decide +kernel
theorem dX9_lay_21 : decode cX9_lay 21 = .ok (.ireturn, 1) := by decide +kernel
theorem dX9_lay_22 : decode cX9_lay 22 = .ok (.aload_n 0, 1) := by decide +kernel
theorem dX9_lay_23 : decode cX9_lay 23 = .ok (.invokevirtual 364, 3) := by decide +kernel
theorem dX9_lay_26 : decode cX9_lay 26 = .ok (.istore_n 3, 1) := by decide +kernel
theorem dX9_lay_27 : decode cX9_lay 27 = .ok (.iload_n 3, 1) := by decide +kernel
theorem dX9_lay_28 : decode cX9_lay 28 = .ok (.ifCond .ge 5, 3) := by decide +kernel
theorem dX9_lay_31 : decode cX9_lay 31 = .ok (.iload_n 3, 1) := by decide +kernel
theorem dX9_lay_32 : decode cX9_lay 32 = .ok (.ireturn, 1) := by decide +kernel
theorem dX9_lay_33 : decode cX9_lay 33 = .ok (.iconst 0, 1) := by decide +kernel
theorem dX9_lay_34 : decode cX9_lay 34 = .ok (.istore 4, 2) := by decide +kernel
theorem dX9_lay_36 : decode cX9_lay 36 = .ok (.iload 4, 2) := by decide +kernel
theorem dX9_lay_38 : decode cX9_lay 38 = .ok (.bipush 24, 2) := by decide +kernel
theorem dX9_lay_40 : decode cX9_lay 40 = .ok (.if_icmp .ge 47, 3) := by decide +kernel
theorem dX9_lay_43 : decode cX9_lay 43 = .ok (.iload_n 2, 1) := by decide +kernel
theorem dX9_lay_44 : decode cX9_lay 44 = .ok (.ifCond .lt 43, 3) := by decide +kernel
theorem dX9_lay_47 : decode cX9_lay 47 = .ok (.iload_n 2, 1) := by decide +kernel
theorem dX9_lay_48 : decode cX9_lay 48 = .ok (.aload_n 0, 1) := by decide +kernel
theorem dX9_lay_49 : decode cX9_lay 49 = .ok (.getfield 102, 3) := by decide +kernel
theorem dX9_lay_52 : decode cX9_lay 52 = .ok (.iload_n 1, 1) := by decide +kernel
theorem dX9_lay_53 : decode cX9_lay 53 = .ok (.iaload, 1) := by decide +kernel
theorem dX9_lay_54 : decode cX9_lay 54 = .ok (.iload 4, 2) := by decide +kernel
theorem dX9_lay_56 : decode cX9_lay 56 = .ok (.isub, 1) := by decide +kernel
theorem dX9_lay_57 : decode cX9_lay 57 = .ok (.if_icmp .ge 30, 3) := by decide +kernel
theorem dX9_lay_60 : decode cX9_lay 60 = .ok (.aload_n 0, 1) := by decide +kernel
theorem dX9_lay_61 : decode cX9_lay 61 = .ok (.getfield 99, 3) := by decide +kernel
theorem dX9_lay_64 : decode cX9_lay 64 = .ok (.bipush 40, 2) := by decide +kernel
theorem dX9_lay_66 : decode cX9_lay 66 = .ok (.iload_n 1, 1) := by decide +kernel
theorem dX9_lay_67 : decode cX9_lay 67 = .ok (.imul, 1) := by decide +kernel
theorem dX9_lay_68 : decode cX9_lay 68 = .ok (.iload_n 2, 1) := by decide +kernel
theorem dX9_lay_69 : decode cX9_lay 69 = .ok (.iadd, 1) := by decide +kernel
theorem dX9_lay_70 : decode cX9_lay 70 = .ok (.iload 4, 2) := by decide +kernel
theorem dX9_lay_72 : decode cX9_lay 72 = .ok (.iadd, 1) := by decide +kernel
theorem dX9_lay_73 : decode cX9_lay 73 = .ok (.aload_n 0, 1) := by decide +kernel
theorem dX9_lay_74 : decode cX9_lay 74 = .ok (.getfield 90, 3) := by decide +kernel
theorem dX9_lay_77 : decode cX9_lay 77 = .ok (.iload 4, 2) := by decide +kernel
theorem dX9_lay_79 : decode cX9_lay 79 = .ok (.iaload, 1) := by decide +kernel
theorem dX9_lay_80 : decode cX9_lay 80 = .ok (.iastore, 1) := by decide +kernel
theorem dX9_lay_81 : decode cX9_lay 81 = .ok (.iinc 4 1, 3) := by decide +kernel
theorem dX9_lay_84 : decode cX9_lay 84 = .ok (.goto (-48), 3) := by decide +kernel
theorem dX9_lay_87 : decode cX9_lay 87 = .ok (.iload 4, 2) := by decide +kernel
theorem dX9_lay_89 : decode cX9_lay 89 = .ok (.bipush 24, 2) := by decide +kernel
theorem dX9_lay_91 : decode cX9_lay 91 = .ok (.if_icmp .ne 8, 3) := by decide +kernel
theorem dX9_lay_94 : decode cX9_lay 94 = .ok (.bipush 24, 2) := by decide +kernel
theorem dX9_lay_96 : decode cX9_lay 96 = .ok (.goto 5, 3) := by decide +kernel
theorem dX9_lay_99 : decode cX9_lay 99 = .ok (.bipush (-13), 2) := by decide +kernel
theorem dX9_lay_101 : decode cX9_lay 101 = .ok (.ireturn, 1) := by decide +kernel
theorem dX9_isPlanned_0 : decode cX9_isPlanned 0 = .ok (.iconst 0, 1) := by decide +kernel
theorem dX9_isPlanned_1 : decode cX9_isPlanned 1 = .ok (.istore_n 1, 1) := by decide +kernel
theorem dX9_isPlanned_2 : decode cX9_isPlanned 2 = .ok (.iload_n 1, 1) := by decide +kernel
theorem dX9_isPlanned_3 : decode cX9_isPlanned 3 = .ok (.bipush 6, 2) := by decide +kernel
theorem dX9_isPlanned_5 : decode cX9_isPlanned 5 = .ok (.if_icmp .ge 89, 3) := by decide +kernel
theorem dX9_isPlanned_8 : decode cX9_isPlanned 8 = .ok (.lconst 0, 1) := by decide +kernel
theorem dX9_isPlanned_9 : decode cX9_isPlanned 9 = .ok (.lstore_n 2, 1) := by decide +kernel
theorem dX9_isPlanned_10 : decode cX9_isPlanned 10 = .ok (.iconst 0, 1) := by decide +kernel
theorem dX9_isPlanned_11 : decode cX9_isPlanned 11 = .ok (.istore 4, 2) := by decide +kernel
theorem dX9_isPlanned_13 : decode cX9_isPlanned 13 = .ok (.iload 4, 2) := by decide +kernel
theorem dX9_isPlanned_15 : decode cX9_isPlanned 15 = .ok (.iconst 4, 1) := by decide +kernel
theorem dX9_isPlanned_16 : decode cX9_isPlanned 16 = .ok (.if_icmp .ge 58, 3) := by decide +kernel
theorem dX9_isPlanned_19 : decode cX9_isPlanned 19 = .ok (.aload_n 0, 1) := by decide +kernel
theorem dX9_isPlanned_20 : decode cX9_isPlanned 20 = .ok (.getfield 105, 3) := by decide +kernel
theorem dX9_isPlanned_23 : decode cX9_isPlanned 23 = .ok (.bipush 6, 2) := by decide +kernel
theorem dX9_isPlanned_25 : decode cX9_isPlanned 25 = .ok (.iload 4, 2) := by decide +kernel
theorem dX9_isPlanned_27 : decode cX9_isPlanned 27 = .ok (.imul, 1) := by decide +kernel
theorem dX9_isPlanned_28 : decode cX9_isPlanned 28 = .ok (.iload_n 1, 1) := by decide +kernel
theorem dX9_isPlanned_29 : decode cX9_isPlanned 29 = .ok (.iadd, 1) := by decide +kernel
theorem dX9_isPlanned_30 : decode cX9_isPlanned 30 = .ok (.iaload, 1) := by decide +kernel
theorem dX9_isPlanned_31 : decode cX9_isPlanned 31 = .ok (.istore 5, 2) := by decide +kernel
theorem dX9_isPlanned_33 : decode cX9_isPlanned 33 = .ok (.iload 5, 2) := by decide +kernel
theorem dX9_isPlanned_35 : decode cX9_isPlanned 35 = .ok (.ifCond .lt 25, 3) := by decide +kernel
theorem dX9_isPlanned_38 : decode cX9_isPlanned 38 = .ok (.iload 5, 2) := by decide +kernel
theorem dX9_isPlanned_40 : decode cX9_isPlanned 40 = .ok (.ifCond .le 22, 3) := by decide +kernel
theorem dX9_isPlanned_43 : decode cX9_isPlanned 43 = .ok (.aload_n 0, 1) := by decide +kernel
theorem dX9_isPlanned_44 : decode cX9_isPlanned 44 = .ok (.iload 4, 2) := by decide +kernel
theorem dX9_isPlanned_46 : decode cX9_isPlanned 46 = .ok (.invokevirtual 296, 3) := by decide +kernel
theorem dX9_isPlanned_49 : decode cX9_isPlanned 49 = .ok (.ifCond .eq 11, 3) := by decide +kernel
theorem dX9_isPlanned_52 : decode cX9_isPlanned 52 = .ok (.aload_n 0, 1) := by decide +kernel
theorem dX9_isPlanned_53 : decode cX9_isPlanned 53 = .ok (.iload_n 1, 1) := by decide +kernel
theorem dX9_isPlanned_54 : decode cX9_isPlanned 54 = .ok (.invokevirtual 234, 3) := by decide +kernel
theorem dX9_isPlanned_57 : decode cX9_isPlanned 57 = .ok (.ifCond .ne 5, 3) := by decide +kernel
theorem dX9_isPlanned_60 : decode cX9_isPlanned 60 = .ok (.iconst 0, 1) := by decide +kernel
theorem dX9_isPlanned_61 : decode cX9_isPlanned 61 = .ok (.ireturn, 1) := by decide +kernel
theorem dX9_isPlanned_62 : decode cX9_isPlanned 62 = .ok (.lload_n 2, 1) := by decide +kernel
theorem dX9_isPlanned_63 : decode cX9_isPlanned 63 = .ok (.iload 5, 2) := by decide +kernel
theorem dX9_isPlanned_65 : decode cX9_isPlanned 65 = .ok (.i2l, 1) := by decide +kernel
theorem dX9_isPlanned_66 : decode cX9_isPlanned 66 = .ok (.ladd, 1) := by decide +kernel
theorem dX9_isPlanned_67 : decode cX9_isPlanned 67 = .ok (.lstore_n 2, 1) := by decide +kernel
theorem dX9_isPlanned_68 : decode cX9_isPlanned 68 = .ok (.iinc 4 1, 3) := by decide +kernel
theorem dX9_isPlanned_71 : decode cX9_isPlanned 71 = .ok (.goto (-58), 3) := by decide +kernel
theorem dX9_isPlanned_74 : decode cX9_isPlanned 74 = .ok (.lload_n 2, 1) := by decide +kernel
theorem dX9_isPlanned_75 : decode cX9_isPlanned 75 = .ok (.aload_n 0, 1) := by decide +kernel
theorem dX9_isPlanned_76 : decode cX9_isPlanned 76 = .ok (.getfield 87, 3) := by decide +kernel
theorem dX9_isPlanned_79 : decode cX9_isPlanned 79 = .ok (.iload_n 1, 1) := by decide +kernel
theorem dX9_isPlanned_80 : decode cX9_isPlanned 80 = .ok (.iaload, 1) := by decide +kernel
theorem dX9_isPlanned_81 : decode cX9_isPlanned 81 = .ok (.i2l, 1) := by decide +kernel
theorem dX9_isPlanned_82 : decode cX9_isPlanned 82 = .ok (.lcmp, 1) := by decide +kernel
theorem dX9_isPlanned_83 : decode cX9_isPlanned 83 = .ok (.ifCond .eq 5, 3) := by decide +kernel
theorem dX9_isPlanned_86 : decode cX9_isPlanned 86 = .ok (.iconst 0, 1) := by decide +kernel
theorem dX9_isPlanned_87 : decode cX9_isPlanned 87 = .ok (.ireturn, 1) := by decide +kernel
theorem dX9_isPlanned_88 : decode cX9_isPlanned 88 = .ok (.iinc 1 1, 3) := by decide +kernel
theorem dX9_isPlanned_91 : decode cX9_isPlanned 91 = .ok (.goto (-89), 3) := by decide +kernel
theorem dX9_isPlanned_94 : decode cX9_isPlanned 94 = .ok (.iconst 0, 1) := by decide +kernel
theorem dX9_isPlanned_95 : decode cX9_isPlanned 95 = .ok (.istore_n 1, 1) := by decide +kernel
theorem dX9_isPlanned_96 : decode cX9_isPlanned 96 = .ok (.iload_n 1, 1) := by decide +kernel
theorem dX9_isPlanned_97 : decode cX9_isPlanned 97 = .ok (.iconst 4, 1) := by decide +kernel
theorem dX9_isPlanned_98 : decode cX9_isPlanned 98 = .ok (.if_icmp .ge 56, 3) := by decide +kernel
theorem dX9_isPlanned_101 : decode cX9_isPlanned 101 = .ok (.lconst 0, 1) := by decide +kernel
theorem dX9_isPlanned_102 : decode cX9_isPlanned 102 = .ok (.lstore_n 2, 1) := by decide +kernel
theorem dX9_isPlanned_103 : decode cX9_isPlanned 103 = .ok (.iconst 0, 1) := by decide +kernel
theorem dX9_isPlanned_104 : decode cX9_isPlanned 104 = .ok (.istore 4, 2) := by decide +kernel
theorem dX9_isPlanned_106 : decode cX9_isPlanned 106 = .ok (.iload 4, 2) := by decide +kernel
theorem dX9_isPlanned_108 : decode cX9_isPlanned 108 = .ok (.bipush 6, 2) := by decide +kernel
theorem dX9_isPlanned_110 : decode cX9_isPlanned 110 = .ok (.if_icmp .ge 25, 3) := by decide +kernel
theorem dX9_isPlanned_113 : decode cX9_isPlanned 113 = .ok (.lload_n 2, 1) := by decide +kernel
theorem dX9_isPlanned_114 : decode cX9_isPlanned 114 = .ok (.aload_n 0, 1) := by decide +kernel
theorem dX9_isPlanned_115 : decode cX9_isPlanned 115 = .ok (.getfield 105, 3) := by decide +kernel
theorem dX9_isPlanned_118 : decode cX9_isPlanned 118 = .ok (.bipush 6, 2) := by decide +kernel
theorem dX9_isPlanned_120 : decode cX9_isPlanned 120 = .ok (.iload_n 1, 1) := by decide +kernel
theorem dX9_isPlanned_121 : decode cX9_isPlanned 121 = .ok (.imul, 1) := by decide +kernel
theorem dX9_isPlanned_122 : decode cX9_isPlanned 122 = .ok (.iload 4, 2) := by decide +kernel
theorem dX9_isPlanned_124 : decode cX9_isPlanned 124 = .ok (.iadd, 1) := by decide +kernel
theorem dX9_isPlanned_125 : decode cX9_isPlanned 125 = .ok (.iaload, 1) := by decide +kernel
theorem dX9_isPlanned_126 : decode cX9_isPlanned 126 = .ok (.i2l, 1) := by decide +kernel
theorem dX9_isPlanned_127 : decode cX9_isPlanned 127 = .ok (.ladd, 1) := by decide +kernel
theorem dX9_isPlanned_128 : decode cX9_isPlanned 128 = .ok (.lstore_n 2, 1) := by decide +kernel
theorem dX9_isPlanned_129 : decode cX9_isPlanned 129 = .ok (.iinc 4 1, 3) := by decide +kernel
theorem dX9_isPlanned_132 : decode cX9_isPlanned 132 = .ok (.goto (-26), 3) := by decide +kernel
theorem dX9_isPlanned_135 : decode cX9_isPlanned 135 = .ok (.lload_n 2, 1) := by decide +kernel
theorem dX9_isPlanned_136 : decode cX9_isPlanned 136 = .ok (.aload_n 0, 1) := by decide +kernel
theorem dX9_isPlanned_137 : decode cX9_isPlanned 137 = .ok (.iload_n 1, 1) := by decide +kernel
theorem dX9_isPlanned_138 : decode cX9_isPlanned 138 = .ok (.invokevirtual 296, 3) := by decide +kernel
theorem dX9_isPlanned_141 : decode cX9_isPlanned 141 = .ok (.i2l, 1) := by decide +kernel
theorem dX9_isPlanned_142 : decode cX9_isPlanned 142 = .ok (.lcmp, 1) := by decide +kernel
theorem dX9_isPlanned_143 : decode cX9_isPlanned 143 = .ok (.ifCond .eq 5, 3) := by decide +kernel
theorem dX9_isPlanned_146 : decode cX9_isPlanned 146 = .ok (.iconst 0, 1) := by decide +kernel
theorem dX9_isPlanned_147 : decode cX9_isPlanned 147 = .ok (.ireturn, 1) := by decide +kernel
theorem dX9_isPlanned_148 : decode cX9_isPlanned 148 = .ok (.iinc 1 1, 3) := by decide +kernel
theorem dX9_isPlanned_151 : decode cX9_isPlanned 151 = .ok (.goto (-55), 3) := by decide +kernel
theorem dX9_isPlanned_154 : decode cX9_isPlanned 154 = .ok (.iconst 1, 1) := by decide +kernel
theorem dX9_isPlanned_155 : decode cX9_isPlanned 155 = .ok (.ireturn, 1) := by decide +kernel
theorem dX9_judge_0 : decode cX9_judge 0 = .ok (.iload_n 1, 1) := by decide +kernel
theorem dX9_judge_1 : decode cX9_judge 1 = .ok (.invokestatic 367, 3) := by decide +kernel
theorem dX9_judge_4 : decode cX9_judge 4 = .ok (.ifCond .eq 15, 3) := by decide +kernel
theorem dX9_judge_7 : decode cX9_judge 7 = .ok (.iload_n 3, 1) := by decide +kernel
theorem dX9_judge_8 : decode cX9_judge 8 = .ok (.i2l, 1) := by decide +kernel
theorem dX9_judge_9 : decode cX9_judge 9 = .ok (.lconst 0, 1) := by decide +kernel
theorem dX9_judge_10 : decode cX9_judge 10 = .ok (.ldc2_w 370, 3) := by decide +kernel
theorem dX9_judge_13 : decode cX9_judge 13 = .ok (.invokestatic 7, 3) := by decide +kernel
theorem dX9_judge_16 : decode cX9_judge 16 = .ok (.ifCond .ne 5, 3) := by decide +kernel
theorem dX9_judge_19 : decode cX9_judge 19 = .ok (.iconst (-1), 1) := by decide +kernel
theorem dX9_judge_20 : decode cX9_judge 20 = .ok (.ireturn, 1) := by decide +kernel
theorem dX9_judge_21 : decode cX9_judge 21 = .ok (.iload_n 2, 1) := by decide +kernel
theorem dX9_judge_22 : decode cX9_judge 22 = .ok (.ifCond .lt 23, 3) := by decide +kernel
theorem dX9_judge_25 : decode cX9_judge 25 = .ok (.iload_n 2, 1) := by decide +kernel
theorem dX9_judge_26 : decode cX9_judge 26 = .ok (.aload_n 0, 1) := by decide +kernel
theorem dX9_judge_27 : decode cX9_judge 27 = .ok (.getfield 102, 3) := by decide +kernel
theorem dX9_judge_30 : decode cX9_judge 30 = .ok (.iload_n 1, 1) := by decide +kernel
theorem dX9_judge_31 : decode cX9_judge 31 = .ok (.iaload, 1) := by decide +kernel
theorem dX9_judge_32 : decode cX9_judge 32 = .ok (.bipush 24, 2) := by decide +kernel
theorem dX9_judge_34 : decode cX9_judge 34 = .ok (.isub, 1) := by decide +kernel
theorem dX9_judge_35 : decode cX9_judge 35 = .ok (.if_icmp .gt 10, 3) := by decide +kernel
theorem dX9_judge_38 : decode cX9_judge 38 = .ok (.aload_n 0, 1) := by decide +kernel
theorem dX9_judge_39 : decode cX9_judge 39 = .ok (.invokevirtual 355, 3) := by decide +kernel
theorem dX9_judge_42 : decode cX9_judge 42 = .ok (.ifCond .ne 6, 3) := by decide +kernel
theorem dX9_judge_45 : decode cX9_judge 45 = .ok (.bipush (-3), 2) := by decide +kernel
theorem dX9_judge_47 : decode cX9_judge 47 = .ok (.ireturn, 1) := by decide +kernel
theorem dX9_judge_48 : decode cX9_judge 48 = .ok (.iconst 0, 1) := by decide +kernel
theorem dX9_judge_49 : decode cX9_judge 49 = .ok (.istore 4, 2) := by decide +kernel
theorem dX9_judge_51 : decode cX9_judge 51 = .ok (.iload 4, 2) := by decide +kernel
theorem dX9_judge_53 : decode cX9_judge 53 = .ok (.bipush 24, 2) := by decide +kernel
theorem dX9_judge_55 : decode cX9_judge 55 = .ok (.if_icmp .ge 30, 3) := by decide +kernel
theorem dX9_judge_58 : decode cX9_judge 58 = .ok (.aload_n 0, 1) := by decide +kernel
theorem dX9_judge_59 : decode cX9_judge 59 = .ok (.getfield 105, 3) := by decide +kernel
theorem dX9_judge_62 : decode cX9_judge 62 = .ok (.iload 4, 2) := by decide +kernel
theorem dX9_judge_64 : decode cX9_judge 64 = .ok (.aload_n 0, 1) := by decide +kernel
theorem dX9_judge_65 : decode cX9_judge 65 = .ok (.getfield 99, 3) := by decide +kernel
theorem dX9_judge_68 : decode cX9_judge 68 = .ok (.bipush 40, 2) := by decide +kernel
theorem dX9_judge_70 : decode cX9_judge 70 = .ok (.iload_n 1, 1) := by decide +kernel
theorem dX9_judge_71 : decode cX9_judge 71 = .ok (.imul, 1) := by decide +kernel
theorem dX9_judge_72 : decode cX9_judge 72 = .ok (.iload_n 2, 1) := by decide +kernel
theorem dX9_judge_73 : decode cX9_judge 73 = .ok (.iadd, 1) := by decide +kernel
theorem dX9_judge_74 : decode cX9_judge 74 = .ok (.iload 4, 2) := by decide +kernel
theorem dX9_judge_76 : decode cX9_judge 76 = .ok (.iadd, 1) := by decide +kernel
theorem dX9_judge_77 : decode cX9_judge 77 = .ok (.iaload, 1) := by decide +kernel
theorem dX9_judge_78 : decode cX9_judge 78 = .ok (.iastore, 1) := by decide +kernel
theorem dX9_judge_79 : decode cX9_judge 79 = .ok (.iinc 4 1, 3) := by decide +kernel
theorem dX9_judge_82 : decode cX9_judge 82 = .ok (.goto (-31), 3) := by decide +kernel
theorem dX9_judge_85 : decode cX9_judge 85 = .ok (.aload_n 0, 1) := by decide +kernel
theorem dX9_judge_86 : decode cX9_judge 86 = .ok (.invokevirtual 372, 3) := by decide +kernel
theorem dX9_judge_89 : decode cX9_judge 89 = .ok (.ifCond .ne 6, 3) := by decide +kernel
theorem dX9_judge_92 : decode cX9_judge 92 = .ok (.bipush (-3), 2) := by decide +kernel
theorem dX9_judge_94 : decode cX9_judge 94 = .ok (.ireturn, 1) := by decide +kernel
theorem dX9_judge_95 : decode cX9_judge 95 = .ok (.aload_n 0, 1) := by decide +kernel
theorem dX9_judge_96 : decode cX9_judge 96 = .ok (.aload_n 0, 1) := by decide +kernel
theorem dX9_judge_97 : decode cX9_judge 97 = .ok (.getfield 105, 3) := by decide +kernel
theorem dX9_judge_100 : decode cX9_judge 100 = .ok (.invokevirtual 361, 3) := by decide +kernel
theorem dX9_judge_103 : decode cX9_judge 103 = .ok (.istore 4, 2) := by decide +kernel
theorem dX9_judge_105 : decode cX9_judge 105 = .ok (.aload_n 0, 1) := by decide +kernel
theorem dX9_judge_106 : decode cX9_judge 106 = .ok (.getfield 314, 3) := by decide +kernel
theorem dX9_judge_109 : decode cX9_judge 109 = .ok (.ifCond .eq 6, 3) := by decide +kernel
theorem dX9_judge_112 : decode cX9_judge 112 = .ok (.bipush (-6), 2) := by decide +kernel
theorem dX9_judge_114 : decode cX9_judge 114 = .ok (.ireturn, 1) := by decide +kernel
theorem dX9_judge_115 : decode cX9_judge 115 = .ok (.iload 4, 2) := by decide +kernel
theorem dX9_judge_117 : decode cX9_judge 117 = .ok (.ifCond .ne 6, 3) := by decide +kernel
theorem dX9_judge_120 : decode cX9_judge 120 = .ok (.bipush (-5), 2) := by decide +kernel
theorem dX9_judge_122 : decode cX9_judge 122 = .ok (.ireturn, 1) := by decide +kernel
theorem dX9_judge_123 : decode cX9_judge 123 = .ok (.iload_n 3, 1) := by decide +kernel
theorem dX9_judge_124 : decode cX9_judge 124 = .ok (.ifCond .ne 8, 3) := by decide +kernel
theorem dX9_judge_127 : decode cX9_judge 127 = .ok (.aload_n 0, 1) := by decide +kernel
theorem dX9_judge_128 : decode cX9_judge 128 = .ok (.getfield 311, 3) := by decide +kernel
theorem dX9_judge_131 : decode cX9_judge 131 = .ok (.ireturn, 1) := by decide +kernel
theorem dX9_judge_132 : decode cX9_judge 132 = .ok (.iload_n 3, 1) := by decide +kernel
theorem dX9_judge_133 : decode cX9_judge 133 = .ok (.iconst 1, 1) := by decide +kernel
theorem dX9_judge_134 : decode cX9_judge 134 = .ok (.isub, 1) := by decide +kernel
theorem dX9_judge_135 : decode cX9_judge 135 = .ok (.iconst 4, 1) := by decide +kernel
theorem dX9_judge_136 : decode cX9_judge 136 = .ok (.irem, 1) := by decide +kernel
theorem dX9_judge_137 : decode cX9_judge 137 = .ok (.istore 5, 2) := by decide +kernel
theorem dX9_judge_139 : decode cX9_judge 139 = .ok (.iload 5, 2) := by decide +kernel
theorem dX9_judge_141 : decode cX9_judge 141 = .ok (.aload_n 0, 1) := by decide +kernel
theorem dX9_judge_142 : decode cX9_judge 142 = .ok (.getfield 311, 3) := by decide +kernel
theorem dX9_judge_145 : decode cX9_judge 145 = .ok (.if_icmp .lt 6, 3) := by decide +kernel
theorem dX9_judge_148 : decode cX9_judge 148 = .ok (.bipush (-5), 2) := by decide +kernel
theorem dX9_judge_150 : decode cX9_judge 150 = .ok (.ireturn, 1) := by decide +kernel
theorem dX9_judge_151 : decode cX9_judge 151 = .ok (.iload_n 3, 1) := by decide +kernel
theorem dX9_judge_152 : decode cX9_judge 152 = .ok (.iconst 4, 1) := by decide +kernel
theorem dX9_judge_153 : decode cX9_judge 153 = .ok (.if_icmp .gt 13, 3) := by decide +kernel
theorem dX9_judge_156 : decode cX9_judge 156 = .ok (.aload_n 0, 1) := by decide +kernel
theorem dX9_judge_157 : decode cX9_judge 157 = .ok (.getfield 93, 3) := by decide +kernel
theorem dX9_judge_160 : decode cX9_judge 160 = .ok (.iload 5, 2) := by decide +kernel
theorem dX9_judge_162 : decode cX9_judge 162 = .ok (.iaload, 1) := by decide +kernel
theorem dX9_judge_163 : decode cX9_judge 163 = .ok (.goto 10, 3) := by decide +kernel
theorem dX9_judge_166 : decode cX9_judge 166 = .ok (.aload_n 0, 1) := by decide +kernel
theorem dX9_judge_167 : decode cX9_judge 167 = .ok (.getfield 96, 3) := by decide +kernel
theorem dX9_judge_170 : decode cX9_judge 170 = .ok (.iload 5, 2) := by decide +kernel
theorem dX9_judge_172 : decode cX9_judge 172 = .ok (.iaload, 1) := by decide +kernel
theorem dX9_judge_173 : decode cX9_judge 173 = .ok (.ireturn, 1) := by decide +kernel
theorem dX9_moved_0 : decode cX9_moved 0 = .ok (.aload_n 0, 1) := by decide +kernel
theorem dX9_moved_1 : decode cX9_moved 1 = .ok (.invokevirtual 364, 3) := by decide +kernel
theorem dX9_moved_4 : decode cX9_moved 4 = .ok (.istore_n 1, 1) := by decide +kernel
theorem dX9_moved_5 : decode cX9_moved 5 = .ok (.iload_n 1, 1) := by decide +kernel
theorem dX9_moved_6 : decode cX9_moved 6 = .ok (.ifCond .ge 5, 3) := by decide +kernel
theorem dX9_moved_9 : decode cX9_moved 9 = .ok (.iload_n 1, 1) := by decide +kernel
theorem dX9_moved_10 : decode cX9_moved 10 = .ok (.ireturn, 1) := by decide +kernel
theorem dX9_moved_11 : decode cX9_moved 11 = .ok (.iconst 0, 1) := by decide +kernel
theorem dX9_moved_12 : decode cX9_moved 12 = .ok (.istore_n 2, 1) := by decide +kernel
theorem dX9_moved_13 : decode cX9_moved 13 = .ok (.iconst 0, 1) := by decide +kernel
theorem dX9_moved_14 : decode cX9_moved 14 = .ok (.istore_n 3, 1) := by decide +kernel
theorem dX9_moved_15 : decode cX9_moved 15 = .ok (.iload_n 3, 1) := by decide +kernel
theorem dX9_moved_16 : decode cX9_moved 16 = .ok (.iconst 4, 1) := by decide +kernel
theorem dX9_moved_17 : decode cX9_moved 17 = .ok (.if_icmp .ge 143, 3) := by decide +kernel
theorem dX9_moved_20 : decode cX9_moved 20 = .ok (.aload_n 0, 1) := by decide +kernel
theorem dX9_moved_21 : decode cX9_moved 21 = .ok (.invokevirtual 231, 3) := by decide +kernel
theorem dX9_moved_24 : decode cX9_moved 24 = .ok (.iconst 0, 1) := by decide +kernel
theorem dX9_moved_25 : decode cX9_moved 25 = .ok (.istore 4, 2) := by decide +kernel
theorem dX9_moved_27 : decode cX9_moved 27 = .ok (.iload 4, 2) := by decide +kernel
theorem dX9_moved_29 : decode cX9_moved 29 = .ok (.bipush 6, 2) := by decide +kernel
theorem dX9_moved_31 : decode cX9_moved 31 = .ok (.if_icmp .ge 32, 3) := by decide +kernel
theorem dX9_moved_34 : decode cX9_moved 34 = .ok (.aload_n 0, 1) := by decide +kernel
theorem dX9_moved_35 : decode cX9_moved 35 = .ok (.iload 4, 2) := by decide +kernel
theorem dX9_moved_37 : decode cX9_moved 37 = .ok (.invokevirtual 234, 3) := by decide +kernel
theorem dX9_moved_40 : decode cX9_moved 40 = .ok (.ifCond .eq 17, 3) := by decide +kernel
theorem dX9_moved_43 : decode cX9_moved 43 = .ok (.aload_n 0, 1) := by decide +kernel
theorem dX9_moved_44 : decode cX9_moved 44 = .ok (.iload 4, 2) := by decide +kernel
theorem dX9_moved_46 : decode cX9_moved 46 = .ok (.aload_n 0, 1) := by decide +kernel
theorem dX9_moved_47 : decode cX9_moved 47 = .ok (.iload_n 3, 1) := by decide +kernel
theorem dX9_moved_48 : decode cX9_moved 48 = .ok (.iload 4, 2) := by decide +kernel
theorem dX9_moved_50 : decode cX9_moved 50 = .ok (.invokevirtual 112, 3) := by decide +kernel
theorem dX9_moved_53 : decode cX9_moved 53 = .ok (.iconst 0, 1) := by decide +kernel
theorem dX9_moved_54 : decode cX9_moved 54 = .ok (.invokevirtual 243, 3) := by decide +kernel
theorem dX9_moved_57 : decode cX9_moved 57 = .ok (.iinc 4 1, 3) := by decide +kernel
theorem dX9_moved_60 : decode cX9_moved 60 = .ok (.goto (-33), 3) := by decide +kernel
theorem dX9_moved_63 : decode cX9_moved 63 = .ok (.aload_n 0, 1) := by decide +kernel
theorem dX9_moved_64 : decode cX9_moved 64 = .ok (.iload_n 3, 1) := by decide +kernel
theorem dX9_moved_65 : decode cX9_moved 65 = .ok (.invokevirtual 296, 3) := by decide +kernel
theorem dX9_moved_68 : decode cX9_moved 68 = .ok (.ifCond .le 22, 3) := by decide +kernel
theorem dX9_moved_71 : decode cX9_moved 71 = .ok (.aload_n 0, 1) := by decide +kernel
theorem dX9_moved_72 : decode cX9_moved 72 = .ok (.aload_n 0, 1) := by decide +kernel
theorem dX9_moved_73 : decode cX9_moved 73 = .ok (.invokevirtual 192, 3) := by decide +kernel
theorem dX9_moved_76 : decode cX9_moved 76 = .ok (.aload_n 0, 1) := by decide +kernel
theorem dX9_moved_77 : decode cX9_moved 77 = .ok (.iload_n 3, 1) := by decide +kernel
theorem dX9_moved_78 : decode cX9_moved 78 = .ok (.invokevirtual 296, 3) := by decide +kernel
theorem dX9_moved_81 : decode cX9_moved 81 = .ok (.invokevirtual 246, 3) := by decide +kernel
theorem dX9_moved_84 : decode cX9_moved 84 = .ok (.ifCond .ne 6, 3) := by decide +kernel
theorem dX9_moved_87 : decode cX9_moved 87 = .ok (.bipush (-3), 2) := by decide +kernel
theorem dX9_moved_89 : decode cX9_moved 89 = .ok (.ireturn, 1) := by decide +kernel
theorem dX9_moved_90 : decode cX9_moved 90 = .ok (.iconst 0, 1) := by decide +kernel
theorem dX9_moved_91 : decode cX9_moved 91 = .ok (.istore 4, 2) := by decide +kernel
theorem dX9_moved_93 : decode cX9_moved 93 = .ok (.iload 4, 2) := by decide +kernel
theorem dX9_moved_95 : decode cX9_moved 95 = .ok (.bipush 6, 2) := by decide +kernel
theorem dX9_moved_97 : decode cX9_moved 97 = .ok (.if_icmp .ge 57, 3) := by decide +kernel
theorem dX9_moved_100 : decode cX9_moved 100 = .ok (.aload_n 0, 1) := by decide +kernel
theorem dX9_moved_101 : decode cX9_moved 101 = .ok (.iload_n 3, 1) := by decide +kernel
theorem dX9_moved_102 : decode cX9_moved 102 = .ok (.invokevirtual 296, 3) := by decide +kernel
theorem dX9_moved_105 : decode cX9_moved 105 = .ok (.ifCond .le 49, 3) := by decide +kernel
theorem dX9_moved_108 : decode cX9_moved 108 = .ok (.iload_n 2, 1) := by decide +kernel
theorem dX9_moved_109 : decode cX9_moved 109 = .ok (.aload_n 0, 1) := by decide +kernel
theorem dX9_moved_110 : decode cX9_moved 110 = .ok (.getfield 90, 3) := by decide +kernel
theorem dX9_moved_113 : decode cX9_moved 113 = .ok (.bipush 6, 2) := by decide +kernel
theorem dX9_moved_115 : decode cX9_moved 115 = .ok (.iload_n 3, 1) := by decide +kernel
theorem dX9_moved_116 : decode cX9_moved 116 = .ok (.imul, 1) := by decide +kernel
theorem dX9_moved_117 : decode cX9_moved 117 = .ok (.iload 4, 2) := by decide +kernel
theorem dX9_moved_119 : decode cX9_moved 119 = .ok (.iadd, 1) := by decide +kernel
theorem dX9_moved_120 : decode cX9_moved 120 = .ok (.iaload, 1) := by decide +kernel
theorem dX9_moved_121 : decode cX9_moved 121 = .ok (.aload_n 0, 1) := by decide +kernel
theorem dX9_moved_122 : decode cX9_moved 122 = .ok (.getfield 34, 3) := by decide +kernel
theorem dX9_moved_125 : decode cX9_moved 125 = .ok (.iload 4, 2) := by decide +kernel
theorem dX9_moved_127 : decode cX9_moved 127 = .ok (.baload, 1) := by decide +kernel
theorem dX9_moved_128 : decode cX9_moved 128 = .ok (.ifCond .eq 13, 3) := by decide +kernel
theorem dX9_moved_131 : decode cX9_moved 131 = .ok (.aload_n 0, 1) := by decide +kernel
theorem dX9_moved_132 : decode cX9_moved 132 = .ok (.getfield 44, 3) := by decide +kernel
theorem dX9_moved_135 : decode cX9_moved 135 = .ok (.iload 4, 2) := by decide +kernel
theorem dX9_moved_137 : decode cX9_moved 137 = .ok (.iaload, 1) := by decide +kernel
theorem dX9_moved_138 : decode cX9_moved 138 = .ok (.goto 4, 3) := by decide +kernel
theorem dX9_moved_141 : decode cX9_moved 141 = .ok (.iconst 0, 1) := by decide +kernel
theorem dX9_moved_142 : decode cX9_moved 142 = .ok (.isub, 1) := by decide +kernel
theorem dX9_moved_143 : decode cX9_moved 143 = .ok (.invokestatic 267, 3) := by decide +kernel
theorem dX9_moved_146 : decode cX9_moved 146 = .ok (.iadd, 1) := by decide +kernel
theorem dX9_moved_147 : decode cX9_moved 147 = .ok (.istore_n 2, 1) := by decide +kernel
theorem dX9_moved_148 : decode cX9_moved 148 = .ok (.iinc 4 1, 3) := by decide +kernel
theorem dX9_moved_151 : decode cX9_moved 151 = .ok (.goto (-58), 3) := by decide +kernel
theorem dX9_moved_154 : decode cX9_moved 154 = .ok (.iinc 3 1, 3) := by decide +kernel
theorem dX9_moved_157 : decode cX9_moved 157 = .ok (.goto (-142), 3) := by decide +kernel
theorem dX9_moved_160 : decode cX9_moved 160 = .ok (.iload_n 2, 1) := by decide +kernel
theorem dX9_moved_161 : decode cX9_moved 161 = .ok (.iconst 2, 1) := by decide +kernel
theorem dX9_moved_162 : decode cX9_moved 162 = .ok (.idiv, 1) := by decide +kernel
theorem dX9_moved_163 : decode cX9_moved 163 = .ok (.ireturn, 1) := by decide +kernel
theorem dX9_spellPlan_0 : decode cX9_spellPlan 0 = .ok (.aload_n 0, 1) := by decide +kernel
theorem dX9_spellPlan_1 : decode cX9_spellPlan 1 = .ok (.invokevirtual 364, 3) := by decide +kernel
theorem dX9_spellPlan_4 : decode cX9_spellPlan 4 = .ok (.istore_n 1, 1) := by decide +kernel
theorem dX9_spellPlan_5 : decode cX9_spellPlan 5 = .ok (.iload_n 1, 1) := by decide +kernel
theorem dX9_spellPlan_6 : decode cX9_spellPlan 6 = .ok (.ifCond .ge 5, 3) := by decide +kernel
theorem dX9_spellPlan_9 : decode cX9_spellPlan 9 = .ok (.iload_n 1, 1) := by decide +kernel
theorem dX9_spellPlan_10 : decode cX9_spellPlan 10 = .ok (.ireturn, 1) := by decide +kernel
theorem dX9_spellPlan_11 : decode cX9_spellPlan 11 = .ok (.aload_n 0, 1) := by decide +kernel
theorem dX9_spellPlan_12 : decode cX9_spellPlan 12 = .ok (.iconst 0, 1) := by decide +kernel
theorem dX9_spellPlan_13 : decode cX9_spellPlan 13 = .ok (.putfield 286, 3) := by decide +kernel
theorem dX9_spellPlan_16 : decode cX9_spellPlan 16 = .ok (.iconst 0, 1) := by decide +kernel
theorem dX9_spellPlan_17 : decode cX9_spellPlan 17 = .ok (.istore_n 2, 1) := by decide +kernel
theorem dX9_spellPlan_18 : decode cX9_spellPlan 18 = .ok (.iload_n 2, 1) := by decide +kernel
theorem dX9_spellPlan_19 : decode cX9_spellPlan 19 = .ok (.bipush 24, 2) := by decide +kernel
theorem dX9_spellPlan_21 : decode cX9_spellPlan 21 = .ok (.if_icmp .ge 41, 3) := by decide +kernel
theorem dX9_spellPlan_24 : decode cX9_spellPlan 24 = .ok (.iload_n 2, 1) := by decide +kernel
theorem dX9_spellPlan_25 : decode cX9_spellPlan 25 = .ok (.ifCond .le 21, 3) := by decide +kernel
theorem dX9_spellPlan_28 : decode cX9_spellPlan 28 = .ok (.aload_n 0, 1) := by decide +kernel
theorem dX9_spellPlan_29 : decode cX9_spellPlan 29 = .ok (.iload_n 2, 1) := by decide +kernel
theorem dX9_spellPlan_30 : decode cX9_spellPlan 30 = .ok (.bipush 6, 2) := by decide +kernel
theorem dX9_spellPlan_32 : decode cX9_spellPlan 32 = .ok (.irem, 1) := by decide +kernel
theorem dX9_spellPlan_33 : decode cX9_spellPlan 33 = .ok (.ifCond .ne 8, 3) := by decide +kernel
theorem dX9_spellPlan_36 : decode cX9_spellPlan 36 = .ok (.bipush 47, 2) := by decide +kernel
theorem dX9_spellPlan_38 : decode cX9_spellPlan 38 = .ok (.goto 5, 3) := by decide +kernel
theorem dX9_spellPlan_41 : decode cX9_spellPlan 41 = .ok (.bipush 44, 2) := by decide +kernel
theorem dX9_spellPlan_43 : decode cX9_spellPlan 43 = .ok (.invokevirtual 289, 3) := by decide +kernel
theorem dX9_spellPlan_46 : decode cX9_spellPlan 46 = .ok (.aload_n 0, 1) := by decide +kernel
theorem dX9_spellPlan_47 : decode cX9_spellPlan 47 = .ok (.aload_n 0, 1) := by decide +kernel
theorem dX9_spellPlan_48 : decode cX9_spellPlan 48 = .ok (.getfield 90, 3) := by decide +kernel
theorem dX9_spellPlan_51 : decode cX9_spellPlan 51 = .ok (.iload_n 2, 1) := by decide +kernel
theorem dX9_spellPlan_52 : decode cX9_spellPlan 52 = .ok (.iaload, 1) := by decide +kernel
theorem dX9_spellPlan_53 : decode cX9_spellPlan 53 = .ok (.invokevirtual 293, 3) := by decide +kernel
theorem dX9_spellPlan_56 : decode cX9_spellPlan 56 = .ok (.iinc 2 1, 3) := by decide +kernel
theorem dX9_spellPlan_59 : decode cX9_spellPlan 59 = .ok (.goto (-41), 3) := by decide +kernel
theorem dX9_spellPlan_62 : decode cX9_spellPlan 62 = .ok (.aload_n 0, 1) := by decide +kernel
theorem dX9_spellPlan_63 : decode cX9_spellPlan 63 = .ok (.getfield 286, 3) := by decide +kernel
theorem dX9_spellPlan_66 : decode cX9_spellPlan 66 = .ok (.ireturn, 1) := by decide +kernel
theorem dX9_listsIn_0 : decode cX9_listsIn 0 = .ok (.iconst 0, 1) := by decide +kernel
theorem dX9_listsIn_1 : decode cX9_listsIn 1 = .ok (.istore_n 1, 1) := by decide +kernel
theorem dX9_listsIn_2 : decode cX9_listsIn 2 = .ok (.iconst 0, 1) := by decide +kernel
theorem dX9_listsIn_3 : decode cX9_listsIn 3 = .ok (.istore_n 2, 1) := by decide +kernel
theorem dX9_listsIn_4 : decode cX9_listsIn 4 = .ok (.iload_n 2, 1) := by decide +kernel
theorem dX9_listsIn_5 : decode cX9_listsIn 5 = .ok (.bipush 6, 2) := by decide +kernel
theorem dX9_listsIn_7 : decode cX9_listsIn 7 = .ok (.if_icmp .ge 31, 3) := by decide +kernel
theorem dX9_listsIn_10 : decode cX9_listsIn 10 = .ok (.iload_n 1, 1) := by decide +kernel
theorem dX9_listsIn_11 : decode cX9_listsIn 11 = .ok (.aload_n 0, 1) := by decide +kernel
theorem dX9_listsIn_12 : decode cX9_listsIn 12 = .ok (.iload_n 2, 1) := by decide +kernel
theorem dX9_listsIn_13 : decode cX9_listsIn 13 = .ok (.invokevirtual 234, 3) := by decide +kernel
theorem dX9_listsIn_16 : decode cX9_listsIn 16 = .ok (.ifCond .eq 13, 3) := by decide +kernel
theorem dX9_listsIn_19 : decode cX9_listsIn 19 = .ok (.iconst 1, 1) := by decide +kernel
theorem dX9_listsIn_20 : decode cX9_listsIn 20 = .ok (.aload_n 0, 1) := by decide +kernel
theorem dX9_listsIn_21 : decode cX9_listsIn 21 = .ok (.iload_n 2, 1) := by decide +kernel
theorem dX9_listsIn_22 : decode cX9_listsIn 22 = .ok (.invokevirtual 237, 3) := by decide +kernel
theorem dX9_listsIn_25 : decode cX9_listsIn 25 = .ok (.ishl, 1) := by decide +kernel
theorem dX9_listsIn_26 : decode cX9_listsIn 26 = .ok (.goto 4, 3) := by decide +kernel
theorem dX9_listsIn_29 : decode cX9_listsIn 29 = .ok (.iconst 0, 1) := by decide +kernel
theorem dX9_listsIn_30 : decode cX9_listsIn 30 = .ok (.ior, 1) := by decide +kernel
theorem dX9_listsIn_31 : decode cX9_listsIn 31 = .ok (.istore_n 1, 1) := by decide +kernel
theorem dX9_listsIn_32 : decode cX9_listsIn 32 = .ok (.iinc 2 1, 3) := by decide +kernel
theorem dX9_listsIn_35 : decode cX9_listsIn 35 = .ok (.goto (-31), 3) := by decide +kernel
theorem dX9_listsIn_38 : decode cX9_listsIn 38 = .ok (.iload_n 1, 1) := by decide +kernel
theorem dX9_listsIn_39 : decode cX9_listsIn 39 = .ok (.ireturn, 1) := by decide +kernel
theorem dX9_wardsWithSeats_0 : decode cX9_wardsWithSeats 0 = .ok (.iconst 0, 1) := by decide +kernel
theorem dX9_wardsWithSeats_1 : decode cX9_wardsWithSeats 1 = .ok (.istore_n 1, 1) := by decide +kernel
theorem dX9_wardsWithSeats_2 : decode cX9_wardsWithSeats 2 = .ok (.iconst 0, 1) := by decide +kernel
theorem dX9_wardsWithSeats_3 : decode cX9_wardsWithSeats 3 = .ok (.istore_n 2, 1) := by decide +kernel
theorem dX9_wardsWithSeats_4 : decode cX9_wardsWithSeats 4 = .ok (.iload_n 2, 1) := by decide +kernel
theorem dX9_wardsWithSeats_5 : decode cX9_wardsWithSeats 5 = .ok (.iconst 4, 1) := by decide +kernel
theorem dX9_wardsWithSeats_6 : decode cX9_wardsWithSeats 6 = .ok (.if_icmp .ge 27, 3) := by decide +kernel
theorem dX9_wardsWithSeats_9 : decode cX9_wardsWithSeats 9 = .ok (.iload_n 1, 1) := by decide +kernel
theorem dX9_wardsWithSeats_10 : decode cX9_wardsWithSeats 10 = .ok (.aload_n 0, 1) := by decide +kernel
theorem dX9_wardsWithSeats_11 : decode cX9_wardsWithSeats 11 = .ok (.iload_n 2, 1) := by decide +kernel
theorem dX9_wardsWithSeats_12 : decode cX9_wardsWithSeats 12 = .ok (.invokevirtual 296, 3) := by decide +kernel
theorem dX9_wardsWithSeats_15 : decode cX9_wardsWithSeats 15 = .ok (.ifCond .le 9, 3) := by decide +kernel
theorem dX9_wardsWithSeats_18 : decode cX9_wardsWithSeats 18 = .ok (.iconst 1, 1) := by decide +kernel
theorem dX9_wardsWithSeats_19 : decode cX9_wardsWithSeats 19 = .ok (.iload_n 2, 1) := by decide +kernel
theorem dX9_wardsWithSeats_20 : decode cX9_wardsWithSeats 20 = .ok (.ishl, 1) := by decide +kernel
theorem dX9_wardsWithSeats_21 : decode cX9_wardsWithSeats 21 = .ok (.goto 4, 3) := by decide +kernel
theorem dX9_wardsWithSeats_24 : decode cX9_wardsWithSeats 24 = .ok (.iconst 0, 1) := by decide +kernel
theorem dX9_wardsWithSeats_25 : decode cX9_wardsWithSeats 25 = .ok (.ior, 1) := by decide +kernel
theorem dX9_wardsWithSeats_26 : decode cX9_wardsWithSeats 26 = .ok (.istore_n 1, 1) := by decide +kernel
theorem dX9_wardsWithSeats_27 : decode cX9_wardsWithSeats 27 = .ok (.iinc 2 1, 3) := by decide +kernel
theorem dX9_wardsWithSeats_30 : decode cX9_wardsWithSeats 30 = .ok (.goto (-26), 3) := by decide +kernel
theorem dX9_wardsWithSeats_33 : decode cX9_wardsWithSeats 33 = .ok (.iload_n 1, 1) := by decide +kernel
theorem dX9_wardsWithSeats_34 : decode cX9_wardsWithSeats 34 = .ok (.ireturn, 1) := by decide +kernel
theorem dX9_told_0 : decode cX9_told 0 = .ok (.iload_n 1, 1) := by decide +kernel
theorem dX9_told_1 : decode cX9_told 1 = .ok (.i2l, 1) := by decide +kernel
theorem dX9_told_2 : decode cX9_told 2 = .ok (.ldc2_w 375, 3) := by decide +kernel
theorem dX9_told_5 : decode cX9_told 5 = .ok (.ldc2_w 377, 3) := by decide +kernel
theorem dX9_told_8 : decode cX9_told 8 = .ok (.invokestatic 7, 3) := by decide +kernel
theorem dX9_told_11 : decode cX9_told 11 = .ok (.ifCond .eq 12, 3) := by decide +kernel
theorem dX9_told_14 : decode cX9_told 14 = .ok (.aload_n 0, 1) := by decide +kernel
theorem dX9_told_15 : decode cX9_told 15 = .ok (.iload_n 1, 1) := by decide +kernel
theorem dX9_told_16 : decode cX9_told 16 = .ok (.bipush 10, 2) := by decide +kernel
theorem dX9_told_18 : decode cX9_told 18 = .ok (.isub, 1) := by decide +kernel
theorem dX9_told_19 : decode cX9_told 19 = .ok (.invokevirtual 296, 3) := by decide +kernel
theorem dX9_told_22 : decode cX9_told 22 = .ok (.ireturn, 1) := by decide +kernel
theorem dX9_told_23 : decode cX9_told 23 = .ok (.iload_n 1, 1) := by decide +kernel
theorem dX9_told_24 : decode cX9_told 24 = .ok (.i2l, 1) := by decide +kernel
theorem dX9_told_25 : decode cX9_told 25 = .ok (.ldc2_w 379, 3) := by decide +kernel
theorem dX9_told_28 : decode cX9_told 28 = .ok (.ldc2_w 381, 3) := by decide +kernel
theorem dX9_told_31 : decode cX9_told 31 = .ok (.invokestatic 7, 3) := by decide +kernel
theorem dX9_told_34 : decode cX9_told 34 = .ok (.ifCond .eq 12, 3) := by decide +kernel
theorem dX9_told_37 : decode cX9_told 37 = .ok (.aload_n 0, 1) := by decide +kernel
theorem dX9_told_38 : decode cX9_told 38 = .ok (.iload_n 1, 1) := by decide +kernel
theorem dX9_told_39 : decode cX9_told 39 = .ok (.bipush 20, 2) := by decide +kernel
theorem dX9_told_41 : decode cX9_told 41 = .ok (.isub, 1) := by decide +kernel
theorem dX9_told_42 : decode cX9_told 42 = .ok (.invokevirtual 240, 3) := by decide +kernel
theorem dX9_told_45 : decode cX9_told 45 = .ok (.ireturn, 1) := by decide +kernel
theorem dX9_told_46 : decode cX9_told 46 = .ok (.iload_n 1, 1) := by decide +kernel
theorem dX9_told_47 : decode cX9_told 47 = .ok (.i2l, 1) := by decide +kernel
theorem dX9_told_48 : decode cX9_told 48 = .ok (.ldc2_w 141, 3) := by decide +kernel
theorem dX9_told_51 : decode cX9_told 51 = .ok (.ldc2_w 383, 3) := by decide +kernel
theorem dX9_told_54 : decode cX9_told 54 = .ok (.invokestatic 7, 3) := by decide +kernel
theorem dX9_told_57 : decode cX9_told 57 = .ok (.ifCond .eq 12, 3) := by decide +kernel
theorem dX9_told_60 : decode cX9_told 60 = .ok (.aload_n 0, 1) := by decide +kernel
theorem dX9_told_61 : decode cX9_told 61 = .ok (.iload_n 1, 1) := by decide +kernel
theorem dX9_told_62 : decode cX9_told 62 = .ok (.bipush 30, 2) := by decide +kernel
theorem dX9_told_64 : decode cX9_told 64 = .ok (.isub, 1) := by decide +kernel
theorem dX9_told_65 : decode cX9_told 65 = .ok (.invokevirtual 237, 3) := by decide +kernel
theorem dX9_told_68 : decode cX9_told 68 = .ok (.ireturn, 1) := by decide +kernel
theorem dX9_told_69 : decode cX9_told 69 = .ok (.iload_n 1, 1) := by decide +kernel
theorem dX9_told_70 : decode cX9_told 70 = .ok (.tableswitch 113 0 9 #[54, 59, 64, 69, 77, 85, 93, 98, 103, 108], 54) := by decide +kernel
theorem dX9_told_124 : decode cX9_told 124 = .ok (.aload_n 0, 1) := by decide +kernel
theorem dX9_told_125 : decode cX9_told 125 = .ok (.invokevirtual 125, 3) := by decide +kernel
theorem dX9_told_128 : decode cX9_told 128 = .ok (.ireturn, 1) := by decide +kernel
theorem dX9_told_129 : decode cX9_told 129 = .ok (.aload_n 0, 1) := by decide +kernel
theorem dX9_told_130 : decode cX9_told 130 = .ok (.invokevirtual 299, 3) := by decide +kernel
theorem dX9_told_133 : decode cX9_told 133 = .ok (.ireturn, 1) := by decide +kernel
theorem dX9_told_134 : decode cX9_told 134 = .ok (.aload_n 0, 1) := by decide +kernel
theorem dX9_told_135 : decode cX9_told 135 = .ok (.invokevirtual 192, 3) := by decide +kernel
theorem dX9_told_138 : decode cX9_told 138 = .ok (.ireturn, 1) := by decide +kernel
theorem dX9_told_139 : decode cX9_told 139 = .ok (.aload_n 0, 1) := by decide +kernel
theorem dX9_told_140 : decode cX9_told 140 = .ok (.getfield 21, 3) := by decide +kernel
theorem dX9_told_143 : decode cX9_told 143 = .ok (.bipush 40, 2) := by decide +kernel
theorem dX9_told_145 : decode cX9_told 145 = .ok (.iaload, 1) := by decide +kernel
theorem dX9_told_146 : decode cX9_told 146 = .ok (.ireturn, 1) := by decide +kernel
theorem dX9_told_147 : decode cX9_told 147 = .ok (.aload_n 0, 1) := by decide +kernel
theorem dX9_told_148 : decode cX9_told 148 = .ok (.getfield 21, 3) := by decide +kernel
theorem dX9_told_151 : decode cX9_told 151 = .ok (.bipush 42, 2) := by decide +kernel
theorem dX9_told_153 : decode cX9_told 153 = .ok (.iaload, 1) := by decide +kernel
theorem dX9_told_154 : decode cX9_told 154 = .ok (.ireturn, 1) := by decide +kernel
theorem dX9_told_155 : decode cX9_told 155 = .ok (.aload_n 0, 1) := by decide +kernel
theorem dX9_told_156 : decode cX9_told 156 = .ok (.getfield 21, 3) := by decide +kernel
theorem dX9_told_159 : decode cX9_told 159 = .ok (.bipush 43, 2) := by decide +kernel
theorem dX9_told_161 : decode cX9_told 161 = .ok (.iaload, 1) := by decide +kernel
theorem dX9_told_162 : decode cX9_told 162 = .ok (.ireturn, 1) := by decide +kernel
theorem dX9_told_163 : decode cX9_told 163 = .ok (.aload_n 0, 1) := by decide +kernel
theorem dX9_told_164 : decode cX9_told 164 = .ok (.getfield 153, 3) := by decide +kernel
theorem dX9_told_167 : decode cX9_told 167 = .ok (.ireturn, 1) := by decide +kernel
theorem dX9_told_168 : decode cX9_told 168 = .ok (.aload_n 0, 1) := by decide +kernel
theorem dX9_told_169 : decode cX9_told 169 = .ok (.getfield 286, 3) := by decide +kernel
theorem dX9_told_172 : decode cX9_told 172 = .ok (.ireturn, 1) := by decide +kernel
theorem dX9_told_173 : decode cX9_told 173 = .ok (.aload_n 0, 1) := by decide +kernel
theorem dX9_told_174 : decode cX9_told 174 = .ok (.invokevirtual 385, 3) := by decide +kernel
theorem dX9_told_177 : decode cX9_told 177 = .ok (.ireturn, 1) := by decide +kernel
theorem dX9_told_178 : decode cX9_told 178 = .ok (.aload_n 0, 1) := by decide +kernel
theorem dX9_told_179 : decode cX9_told 179 = .ok (.invokevirtual 388, 3) := by decide +kernel
theorem dX9_told_182 : decode cX9_told 182 = .ok (.ireturn, 1) := by decide +kernel
theorem dX9_told_183 : decode cX9_told 183 = .ok (.iconst (-1), 1) := by decide +kernel
theorem dX9_told_184 : decode cX9_told 184 = .ok (.ireturn, 1) := by decide +kernel
theorem dX9_image_0 : decode cX9_image 0 = .ok (.aload_n 0, 1) := by decide +kernel
theorem dX9_image_1 : decode cX9_image 1 = .ok (.getfield 21, 3) := by decide +kernel
theorem dX9_image_4 : decode cX9_image 4 = .ok (.iconst 0, 1) := by decide +kernel
theorem dX9_image_5 : decode cX9_image 5 = .ok (.aload_n 0, 1) := by decide +kernel
theorem dX9_image_6 : decode cX9_image 6 = .ok (.getfield 25, 3) := by decide +kernel
theorem dX9_image_9 : decode cX9_image 9 = .ok (.iconst 0, 1) := by decide +kernel
theorem dX9_image_10 : decode cX9_image 10 = .ok (.bipush 44, 2) := by decide +kernel
theorem dX9_image_12 : decode cX9_image 12 = .ok (.invokestatic 391, 3) := by decide +kernel
theorem dX9_image_15 : decode cX9_image 15 = .ok (.aload_n 0, 1) := by decide +kernel
theorem dX9_image_16 : decode cX9_image 16 = .ok (.iconst 1, 1) := by decide +kernel
theorem dX9_image_17 : decode cX9_image 17 = .ok (.putfield 397, 3) := by decide +kernel
theorem dX9_image_20 : decode cX9_image 20 = .ok (.aload_n 0, 1) := by decide +kernel
theorem dX9_image_21 : decode cX9_image 21 = .ok (.invokevirtual 125, 3) := by decide +kernel
theorem dX9_image_24 : decode cX9_image 24 = .ok (.ireturn, 1) := by decide +kernel
theorem dX9_undo_0 : decode cX9_undo 0 = .ok (.aload_n 0, 1) := by decide +kernel
theorem dX9_undo_1 : decode cX9_undo 1 = .ok (.getfield 397, 3) := by decide +kernel
theorem dX9_undo_4 : decode cX9_undo 4 = .ok (.ifCond .ne 6, 3) := by decide +kernel
theorem dX9_undo_7 : decode cX9_undo 7 = .ok (.bipush (-3), 2) := by decide +kernel
theorem dX9_undo_9 : decode cX9_undo 9 = .ok (.ireturn, 1) := by decide +kernel
theorem dX9_undo_10 : decode cX9_undo 10 = .ok (.aload_n 0, 1) := by decide +kernel
theorem dX9_undo_11 : decode cX9_undo 11 = .ok (.getfield 25, 3) := by decide +kernel
theorem dX9_undo_14 : decode cX9_undo 14 = .ok (.iconst 0, 1) := by decide +kernel
theorem dX9_undo_15 : decode cX9_undo 15 = .ok (.aload_n 0, 1) := by decide +kernel
theorem dX9_undo_16 : decode cX9_undo 16 = .ok (.getfield 21, 3) := by decide +kernel
theorem dX9_undo_19 : decode cX9_undo 19 = .ok (.iconst 0, 1) := by decide +kernel
theorem dX9_undo_20 : decode cX9_undo 20 = .ok (.bipush 44, 2) := by decide +kernel
theorem dX9_undo_22 : decode cX9_undo 22 = .ok (.invokestatic 391, 3) := by decide +kernel
theorem dX9_undo_25 : decode cX9_undo 25 = .ok (.aload_n 0, 1) := by decide +kernel
theorem dX9_undo_26 : decode cX9_undo 26 = .ok (.iconst 0, 1) := by decide +kernel
theorem dX9_undo_27 : decode cX9_undo 27 = .ok (.putfield 108, 3) := by decide +kernel
theorem dX9_undo_30 : decode cX9_undo 30 = .ok (.aload_n 0, 1) := by decide +kernel
theorem dX9_undo_31 : decode cX9_undo 31 = .ok (.invokevirtual 125, 3) := by decide +kernel
theorem dX9_undo_34 : decode cX9_undo 34 = .ok (.ireturn, 1) := by decide +kernel
theorem dJ6_bitCount_0f7a4_0 : decode cJ6_bitCount_0f7a4 0 = .ok (.iload_n 0, 1) := by decide +kernel
theorem dJ6_bitCount_0f7a4_1 : decode cJ6_bitCount_0f7a4 1 = .ok (.iload_n 0, 1) := by decide +kernel
theorem dJ6_bitCount_0f7a4_2 : decode cJ6_bitCount_0f7a4 2 = .ok (.iconst 1, 1) := by decide +kernel
theorem dJ6_bitCount_0f7a4_3 : decode cJ6_bitCount_0f7a4 3 = .ok (.iushr, 1) := by decide +kernel
theorem dJ6_bitCount_0f7a4_4 : decode cJ6_bitCount_0f7a4 4 = .ok (.ldc_w 265, 3) := by decide +kernel
theorem dJ6_bitCount_0f7a4_7 : decode cJ6_bitCount_0f7a4 7 = .ok (.iand, 1) := by decide +kernel
theorem dJ6_bitCount_0f7a4_8 : decode cJ6_bitCount_0f7a4 8 = .ok (.isub, 1) := by decide +kernel
theorem dJ6_bitCount_0f7a4_9 : decode cJ6_bitCount_0f7a4 9 = .ok (.istore_n 0, 1) := by decide +kernel
theorem dJ6_bitCount_0f7a4_10 : decode cJ6_bitCount_0f7a4 10 = .ok (.iload_n 0, 1) := by decide +kernel
theorem dJ6_bitCount_0f7a4_11 : decode cJ6_bitCount_0f7a4 11 = .ok (.ldc_w 266, 3) := by decide +kernel
theorem dJ6_bitCount_0f7a4_14 : decode cJ6_bitCount_0f7a4 14 = .ok (.iand, 1) := by decide +kernel
theorem dJ6_bitCount_0f7a4_15 : decode cJ6_bitCount_0f7a4 15 = .ok (.iload_n 0, 1) := by decide +kernel
theorem dJ6_bitCount_0f7a4_16 : decode cJ6_bitCount_0f7a4 16 = .ok (.iconst 2, 1) := by decide +kernel
theorem dJ6_bitCount_0f7a4_17 : decode cJ6_bitCount_0f7a4 17 = .ok (.iushr, 1) := by decide +kernel
theorem dJ6_bitCount_0f7a4_18 : decode cJ6_bitCount_0f7a4 18 = .ok (.ldc_w 266, 3) := by decide +kernel
theorem dJ6_bitCount_0f7a4_21 : decode cJ6_bitCount_0f7a4 21 = .ok (.iand, 1) := by decide +kernel
theorem dJ6_bitCount_0f7a4_22 : decode cJ6_bitCount_0f7a4 22 = .ok (.iadd, 1) := by decide +kernel
theorem dJ6_bitCount_0f7a4_23 : decode cJ6_bitCount_0f7a4 23 = .ok (.istore_n 0, 1) := by decide +kernel
theorem dJ6_bitCount_0f7a4_24 : decode cJ6_bitCount_0f7a4 24 = .ok (.iload_n 0, 1) := by decide +kernel
theorem dJ6_bitCount_0f7a4_25 : decode cJ6_bitCount_0f7a4 25 = .ok (.iload_n 0, 1) := by decide +kernel
theorem dJ6_bitCount_0f7a4_26 : decode cJ6_bitCount_0f7a4 26 = .ok (.iconst 4, 1) := by decide +kernel
theorem dJ6_bitCount_0f7a4_27 : decode cJ6_bitCount_0f7a4 27 = .ok (.iushr, 1) := by decide +kernel
theorem dJ6_bitCount_0f7a4_28 : decode cJ6_bitCount_0f7a4 28 = .ok (.iadd, 1) := by decide +kernel
theorem dJ6_bitCount_0f7a4_29 : decode cJ6_bitCount_0f7a4 29 = .ok (.ldc_w 267, 3) := by decide +kernel
theorem dJ6_bitCount_0f7a4_32 : decode cJ6_bitCount_0f7a4 32 = .ok (.iand, 1) := by decide +kernel
theorem dJ6_bitCount_0f7a4_33 : decode cJ6_bitCount_0f7a4 33 = .ok (.istore_n 0, 1) := by decide +kernel
theorem dJ6_bitCount_0f7a4_34 : decode cJ6_bitCount_0f7a4 34 = .ok (.iload_n 0, 1) := by decide +kernel
theorem dJ6_bitCount_0f7a4_35 : decode cJ6_bitCount_0f7a4 35 = .ok (.iload_n 0, 1) := by decide +kernel
theorem dJ6_bitCount_0f7a4_36 : decode cJ6_bitCount_0f7a4 36 = .ok (.bipush 8, 2) := by decide +kernel
theorem dJ6_bitCount_0f7a4_38 : decode cJ6_bitCount_0f7a4 38 = .ok (.iushr, 1) := by decide +kernel
theorem dJ6_bitCount_0f7a4_39 : decode cJ6_bitCount_0f7a4 39 = .ok (.iadd, 1) := by decide +kernel
theorem dJ6_bitCount_0f7a4_40 : decode cJ6_bitCount_0f7a4 40 = .ok (.istore_n 0, 1) := by decide +kernel
theorem dJ6_bitCount_0f7a4_41 : decode cJ6_bitCount_0f7a4 41 = .ok (.iload_n 0, 1) := by decide +kernel
theorem dJ6_bitCount_0f7a4_42 : decode cJ6_bitCount_0f7a4 42 = .ok (.iload_n 0, 1) := by decide +kernel
theorem dJ6_bitCount_0f7a4_43 : decode cJ6_bitCount_0f7a4 43 = .ok (.bipush 16, 2) := by decide +kernel
theorem dJ6_bitCount_0f7a4_45 : decode cJ6_bitCount_0f7a4 45 = .ok (.iushr, 1) := by decide +kernel
theorem dJ6_bitCount_0f7a4_46 : decode cJ6_bitCount_0f7a4 46 = .ok (.iadd, 1) := by decide +kernel
theorem dJ6_bitCount_0f7a4_47 : decode cJ6_bitCount_0f7a4 47 = .ok (.istore_n 0, 1) := by decide +kernel
theorem dJ6_bitCount_0f7a4_48 : decode cJ6_bitCount_0f7a4 48 = .ok (.iload_n 0, 1) := by decide +kernel
theorem dJ6_bitCount_0f7a4_49 : decode cJ6_bitCount_0f7a4 49 = .ok (.bipush 63, 2) := by decide +kernel
theorem dJ6_bitCount_0f7a4_51 : decode cJ6_bitCount_0f7a4 51 = .ok (.iand, 1) := by decide +kernel
theorem dJ6_bitCount_0f7a4_52 : decode cJ6_bitCount_0f7a4 52 = .ok (.ireturn, 1) := by decide +kernel
theorem dJ13_compare_74951_0 : decode cJ13_compare_74951 0 = .ok (.lload_n 0, 1) := by decide +kernel
theorem dJ13_compare_74951_1 : decode cJ13_compare_74951 1 = .ok (.lload_n 2, 1) := by decide +kernel
theorem dJ13_compare_74951_2 : decode cJ13_compare_74951 2 = .ok (.lcmp, 1) := by decide +kernel
theorem dJ13_compare_74951_3 : decode cJ13_compare_74951 3 = .ok (.ifCond .ge 7, 3) := by decide +kernel
theorem dJ13_compare_74951_6 : decode cJ13_compare_74951 6 = .ok (.iconst (-1), 1) := by decide +kernel
theorem dJ13_compare_74951_7 : decode cJ13_compare_74951 7 = .ok (.goto 14, 3) := by decide +kernel
theorem dJ13_compare_74951_10 : decode cJ13_compare_74951 10 = .ok (.lload_n 0, 1) := by decide +kernel
theorem dJ13_compare_74951_11 : decode cJ13_compare_74951 11 = .ok (.lload_n 2, 1) := by decide +kernel
theorem dJ13_compare_74951_12 : decode cJ13_compare_74951 12 = .ok (.lcmp, 1) := by decide +kernel
theorem dJ13_compare_74951_13 : decode cJ13_compare_74951 13 = .ok (.ifCond .ne 7, 3) := by decide +kernel
theorem dJ13_compare_74951_16 : decode cJ13_compare_74951 16 = .ok (.iconst 0, 1) := by decide +kernel
theorem dJ13_compare_74951_17 : decode cJ13_compare_74951 17 = .ok (.goto 4, 3) := by decide +kernel
theorem dJ13_compare_74951_20 : decode cJ13_compare_74951 20 = .ok (.iconst 1, 1) := by decide +kernel
theorem dJ13_compare_74951_21 : decode cJ13_compare_74951 21 = .ok (.ireturn, 1) := by decide +kernel
theorem dJ9_abs_0f7a4_0 : decode cJ9_abs_0f7a4 0 = .ok (.iload_n 0, 1) := by decide +kernel
theorem dJ9_abs_0f7a4_1 : decode cJ9_abs_0f7a4 1 = .ok (.ifCond .ge 8, 3) := by decide +kernel
theorem dJ9_abs_0f7a4_4 : decode cJ9_abs_0f7a4 4 = .ok (.iload_n 0, 1) := by decide +kernel
theorem dJ9_abs_0f7a4_5 : decode cJ9_abs_0f7a4 5 = .ok (.ineg, 1) := by decide +kernel
theorem dJ9_abs_0f7a4_6 : decode cJ9_abs_0f7a4 6 = .ok (.goto 4, 3) := by decide +kernel
theorem dJ9_abs_0f7a4_9 : decode cJ9_abs_0f7a4 9 = .ok (.iload_n 0, 1) := by decide +kernel
theorem dJ9_abs_0f7a4_10 : decode cJ9_abs_0f7a4 10 = .ok (.ireturn, 1) := by decide +kernel
theorem dJ9_max_7cf53_0 : decode cJ9_max_7cf53 0 = .ok (.iload_n 0, 1) := by decide +kernel
theorem dJ9_max_7cf53_1 : decode cJ9_max_7cf53 1 = .ok (.iload_n 1, 1) := by decide +kernel
theorem dJ9_max_7cf53_2 : decode cJ9_max_7cf53 2 = .ok (.if_icmp .lt 7, 3) := by decide +kernel
theorem dJ9_max_7cf53_5 : decode cJ9_max_7cf53 5 = .ok (.iload_n 0, 1) := by decide +kernel
theorem dJ9_max_7cf53_6 : decode cJ9_max_7cf53 6 = .ok (.goto 4, 3) := by decide +kernel
theorem dJ9_max_7cf53_9 : decode cJ9_max_7cf53 9 = .ok (.iload_n 1, 1) := by decide +kernel
theorem dJ9_max_7cf53_10 : decode cJ9_max_7cf53 10 = .ok (.ireturn, 1) := by decide +kernel
theorem dJ9_max_f86c9_0 : decode cJ9_max_f86c9 0 = .ok (.lload_n 0, 1) := by decide +kernel
theorem dJ9_max_f86c9_1 : decode cJ9_max_f86c9 1 = .ok (.lload_n 2, 1) := by decide +kernel
theorem dJ9_max_f86c9_2 : decode cJ9_max_f86c9 2 = .ok (.lcmp, 1) := by decide +kernel
theorem dJ9_max_f86c9_3 : decode cJ9_max_f86c9 3 = .ok (.ifCond .lt 7, 3) := by decide +kernel
theorem dJ9_max_f86c9_6 : decode cJ9_max_f86c9 6 = .ok (.lload_n 0, 1) := by decide +kernel
theorem dJ9_max_f86c9_7 : decode cJ9_max_f86c9 7 = .ok (.goto 4, 3) := by decide +kernel
theorem dJ9_max_f86c9_10 : decode cJ9_max_f86c9 10 = .ok (.lload_n 2, 1) := by decide +kernel
theorem dJ9_max_f86c9_11 : decode cJ9_max_f86c9 11 = .ok (.lreturn, 1) := by decide +kernel
theorem dJ9_min_7cf53_0 : decode cJ9_min_7cf53 0 = .ok (.iload_n 0, 1) := by decide +kernel
theorem dJ9_min_7cf53_1 : decode cJ9_min_7cf53 1 = .ok (.iload_n 1, 1) := by decide +kernel
theorem dJ9_min_7cf53_2 : decode cJ9_min_7cf53 2 = .ok (.if_icmp .gt 7, 3) := by decide +kernel
theorem dJ9_min_7cf53_5 : decode cJ9_min_7cf53 5 = .ok (.iload_n 0, 1) := by decide +kernel
theorem dJ9_min_7cf53_6 : decode cJ9_min_7cf53 6 = .ok (.goto 4, 3) := by decide +kernel
theorem dJ9_min_7cf53_9 : decode cJ9_min_7cf53 9 = .ok (.iload_n 1, 1) := by decide +kernel
theorem dJ9_min_7cf53_10 : decode cJ9_min_7cf53 10 = .ok (.ireturn, 1) := by decide +kernel
theorem dJ7_fill_d0a16_0 : decode cJ7_fill_d0a16 0 = .ok (.iconst 0, 1) := by decide +kernel
theorem dJ7_fill_d0a16_1 : decode cJ7_fill_d0a16 1 = .ok (.istore_n 3, 1) := by decide +kernel
theorem dJ7_fill_d0a16_2 : decode cJ7_fill_d0a16 2 = .ok (.aload_n 0, 1) := by decide +kernel
theorem dJ7_fill_d0a16_3 : decode cJ7_fill_d0a16 3 = .ok (.arraylength, 1) := by decide +kernel
theorem dJ7_fill_d0a16_4 : decode cJ7_fill_d0a16 4 = .ok (.istore 4, 2) := by decide +kernel
theorem dJ7_fill_d0a16_6 : decode cJ7_fill_d0a16 6 = .ok (.iload_n 3, 1) := by decide +kernel
theorem dJ7_fill_d0a16_7 : decode cJ7_fill_d0a16 7 = .ok (.iload 4, 2) := by decide +kernel
theorem dJ7_fill_d0a16_9 : decode cJ7_fill_d0a16 9 = .ok (.if_icmp .ge 13, 3) := by decide +kernel
theorem dJ7_fill_d0a16_12 : decode cJ7_fill_d0a16 12 = .ok (.aload_n 0, 1) := by decide +kernel
theorem dJ7_fill_d0a16_13 : decode cJ7_fill_d0a16 13 = .ok (.iload_n 3, 1) := by decide +kernel
theorem dJ7_fill_d0a16_14 : decode cJ7_fill_d0a16 14 = .ok (.lload_n 1, 1) := by decide +kernel
theorem dJ7_fill_d0a16_15 : decode cJ7_fill_d0a16 15 = .ok (.lastore, 1) := by decide +kernel
theorem dJ7_fill_d0a16_16 : decode cJ7_fill_d0a16 16 = .ok (.iinc 3 1, 3) := by decide +kernel
theorem dJ7_fill_d0a16_19 : decode cJ7_fill_d0a16 19 = .ok (.goto (-13), 3) := by decide +kernel
theorem dJ7_fill_d0a16_22 : decode cJ7_fill_d0a16 22 = .ok (.return_, 1) := by decide +kernel
theorem dJ7_fill_53178_0 : decode cJ7_fill_53178 0 = .ok (.iconst 0, 1) := by decide +kernel
theorem dJ7_fill_53178_1 : decode cJ7_fill_53178 1 = .ok (.istore_n 2, 1) := by decide +kernel
theorem dJ7_fill_53178_2 : decode cJ7_fill_53178 2 = .ok (.aload_n 0, 1) := by decide +kernel
theorem dJ7_fill_53178_3 : decode cJ7_fill_53178 3 = .ok (.arraylength, 1) := by decide +kernel
theorem dJ7_fill_53178_4 : decode cJ7_fill_53178 4 = .ok (.istore_n 3, 1) := by decide +kernel
theorem dJ7_fill_53178_5 : decode cJ7_fill_53178 5 = .ok (.iload_n 2, 1) := by decide +kernel
theorem dJ7_fill_53178_6 : decode cJ7_fill_53178 6 = .ok (.iload_n 3, 1) := by decide +kernel
theorem dJ7_fill_53178_7 : decode cJ7_fill_53178 7 = .ok (.if_icmp .ge 13, 3) := by decide +kernel
theorem dJ7_fill_53178_10 : decode cJ7_fill_53178 10 = .ok (.aload_n 0, 1) := by decide +kernel
theorem dJ7_fill_53178_11 : decode cJ7_fill_53178 11 = .ok (.iload_n 2, 1) := by decide +kernel
theorem dJ7_fill_53178_12 : decode cJ7_fill_53178 12 = .ok (.iload_n 1, 1) := by decide +kernel
theorem dJ7_fill_53178_13 : decode cJ7_fill_53178 13 = .ok (.iastore, 1) := by decide +kernel
theorem dJ7_fill_53178_14 : decode cJ7_fill_53178 14 = .ok (.iinc 2 1, 3) := by decide +kernel
theorem dJ7_fill_53178_17 : decode cJ7_fill_53178 17 = .ok (.goto (-12), 3) := by decide +kernel
theorem dJ7_fill_53178_20 : decode cJ7_fill_53178 20 = .ok (.return_, 1) := by decide +kernel
theorem dL_law_0 : decode cL_law 0 = .ok (.new 7, 3) := by decide +kernel
theorem dL_law_3 : decode cL_law 3 = .ok (.dup, 1) := by decide +kernel
theorem dL_law_4 : decode cL_law 4 = .ok (.invokespecial 9, 3) := by decide +kernel
theorem dL_law_7 : decode cL_law 7 = .ok (.astore_n 1, 1) := by decide +kernel
theorem dL_law_8 : decode cL_law 8 = .ok (.new 10, 3) := by decide +kernel
theorem dL_law_11 : decode cL_law 11 = .ok (.dup, 1) := by decide +kernel
theorem dL_law_12 : decode cL_law 12 = .ok (.invokespecial 12, 3) := by decide +kernel
theorem dL_law_15 : decode cL_law 15 = .ok (.astore_n 2, 1) := by decide +kernel
theorem dL_law_16 : decode cL_law 16 = .ok (.iconst 0, 1) := by decide +kernel
theorem dL_law_17 : decode cL_law 17 = .ok (.istore_n 3, 1) := by decide +kernel
theorem dL_law_18 : decode cL_law 18 = .ok (.iload_n 3, 1) := by decide +kernel
theorem dL_law_19 : decode cL_law 19 = .ok (.aload_n 0, 1) := by decide +kernel
theorem dL_law_20 : decode cL_law 20 = .ok (.arraylength, 1) := by decide +kernel
theorem dL_law_21 : decode cL_law 21 = .ok (.iconst 5, 1) := by decide +kernel
theorem dL_law_22 : decode cL_law 22 = .ok (.isub, 1) := by decide +kernel
theorem dL_law_23 : decode cL_law 23 = .ok (.if_icmp .gt 1365, 3) := by decide +kernel
theorem dL_law_26 : decode cL_law 26 = .ok (.aload_n 0, 1) := by decide +kernel
theorem dL_law_27 : decode cL_law 27 = .ok (.iload_n 3, 1) := by decide +kernel
theorem dL_law_28 : decode cL_law 28 = .ok (.iaload, 1) := by decide +kernel
theorem dL_law_29 : decode cL_law 29 = .ok (.bipush 63, 2) := by decide +kernel
theorem dL_law_31 : decode cL_law 31 = .ok (.iand, 1) := by decide +kernel
theorem dL_law_32 : decode cL_law 32 = .ok (.tableswitch 1350 0 39 #[176, 219, 252, 285, 318, 351, 374, 397, 430, 453, 466, 489, 502, 535, 568, 601, 624, 667, 700, 723, 767, 811, 834, 857, 910, 953, 976, 999, 1012, 1045, 1089, 1132, 1145, 1158, 1181, 1214, 1257, 1291, 1324, 1337], 176) := by decide +kernel
theorem dL_law_208 : decode cL_law 208 = .ok (.aload_n 1, 1) := by decide +kernel
theorem dL_law_209 : decode cL_law 209 = .ok (.aload_n 0, 1) := by decide +kernel
theorem dL_law_210 : decode cL_law 210 = .ok (.iload_n 3, 1) := by decide +kernel
theorem dL_law_211 : decode cL_law 211 = .ok (.iconst 1, 1) := by decide +kernel
theorem dL_law_212 : decode cL_law 212 = .ok (.iadd, 1) := by decide +kernel
theorem dL_law_213 : decode cL_law 213 = .ok (.iaload, 1) := by decide +kernel
theorem dL_law_214 : decode cL_law 214 = .ok (.aload_n 0, 1) := by decide +kernel
theorem dL_law_215 : decode cL_law 215 = .ok (.iload_n 3, 1) := by decide +kernel
theorem dL_law_216 : decode cL_law 216 = .ok (.iconst 2, 1) := by decide +kernel
theorem dL_law_217 : decode cL_law 217 = .ok (.iadd, 1) := by decide +kernel
theorem dL_law_218 : decode cL_law 218 = .ok (.iaload, 1) := by decide +kernel
theorem dL_law_219 : decode cL_law 219 = .ok (.aload_n 0, 1) := by decide +kernel
theorem dL_law_220 : decode cL_law 220 = .ok (.iload_n 3, 1) := by decide +kernel
theorem dL_law_221 : decode cL_law 221 = .ok (.iconst 3, 1) := by decide +kernel
theorem dL_law_222 : decode cL_law 222 = .ok (.iadd, 1) := by decide +kernel
theorem dL_law_223 : decode cL_law 223 = .ok (.iaload, 1) := by decide +kernel
theorem dL_law_224 : decode cL_law 224 = .ok (.invokevirtual 13, 3) := by decide +kernel
theorem dL_law_227 : decode cL_law 227 = .ok (.aload_n 2, 1) := by decide +kernel
theorem dL_law_228 : decode cL_law 228 = .ok (.aload_n 0, 1) := by decide +kernel
theorem dL_law_229 : decode cL_law 229 = .ok (.iload_n 3, 1) := by decide +kernel
theorem dL_law_230 : decode cL_law 230 = .ok (.iconst 1, 1) := by decide +kernel
theorem dL_law_231 : decode cL_law 231 = .ok (.iadd, 1) := by decide +kernel
theorem dL_law_232 : decode cL_law 232 = .ok (.iaload, 1) := by decide +kernel
theorem dL_law_233 : decode cL_law 233 = .ok (.aload_n 0, 1) := by decide +kernel
theorem dL_law_234 : decode cL_law 234 = .ok (.iload_n 3, 1) := by decide +kernel
theorem dL_law_235 : decode cL_law 235 = .ok (.iconst 2, 1) := by decide +kernel
theorem dL_law_236 : decode cL_law 236 = .ok (.iadd, 1) := by decide +kernel
theorem dL_law_237 : decode cL_law 237 = .ok (.iaload, 1) := by decide +kernel
theorem dL_law_238 : decode cL_law 238 = .ok (.aload_n 0, 1) := by decide +kernel
theorem dL_law_239 : decode cL_law 239 = .ok (.iload_n 3, 1) := by decide +kernel
theorem dL_law_240 : decode cL_law 240 = .ok (.iconst 3, 1) := by decide +kernel
theorem dL_law_241 : decode cL_law 241 = .ok (.iadd, 1) := by decide +kernel
theorem dL_law_242 : decode cL_law 242 = .ok (.iaload, 1) := by decide +kernel
theorem dL_law_243 : decode cL_law 243 = .ok (.invokevirtual 17, 3) := by decide +kernel
theorem dL_law_246 : decode cL_law 246 = .ok (.if_icmp .eq 1136, 3) := by decide +kernel
theorem dL_law_249 : decode cL_law 249 = .ok (.iconst 0, 1) := by decide +kernel
theorem dL_law_250 : decode cL_law 250 = .ok (.ireturn, 1) := by decide +kernel
theorem dL_law_251 : decode cL_law 251 = .ok (.aload_n 1, 1) := by decide +kernel
theorem dL_law_252 : decode cL_law 252 = .ok (.aload_n 0, 1) := by decide +kernel
theorem dL_law_253 : decode cL_law 253 = .ok (.iload_n 3, 1) := by decide +kernel
theorem dL_law_254 : decode cL_law 254 = .ok (.iconst 1, 1) := by decide +kernel
theorem dL_law_255 : decode cL_law 255 = .ok (.iadd, 1) := by decide +kernel
theorem dL_law_256 : decode cL_law 256 = .ok (.iaload, 1) := by decide +kernel
theorem dL_law_257 : decode cL_law 257 = .ok (.aload_n 0, 1) := by decide +kernel
theorem dL_law_258 : decode cL_law 258 = .ok (.iload_n 3, 1) := by decide +kernel
theorem dL_law_259 : decode cL_law 259 = .ok (.iconst 2, 1) := by decide +kernel
theorem dL_law_260 : decode cL_law 260 = .ok (.iadd, 1) := by decide +kernel
theorem dL_law_261 : decode cL_law 261 = .ok (.iaload, 1) := by decide +kernel
theorem dL_law_262 : decode cL_law 262 = .ok (.invokevirtual 18, 3) := by decide +kernel
theorem dL_law_265 : decode cL_law 265 = .ok (.aload_n 2, 1) := by decide +kernel
theorem dL_law_266 : decode cL_law 266 = .ok (.aload_n 0, 1) := by decide +kernel
theorem dL_law_267 : decode cL_law 267 = .ok (.iload_n 3, 1) := by decide +kernel
theorem dL_law_268 : decode cL_law 268 = .ok (.iconst 1, 1) := by decide +kernel
theorem dL_law_269 : decode cL_law 269 = .ok (.iadd, 1) := by decide +kernel
theorem dL_law_270 : decode cL_law 270 = .ok (.iaload, 1) := by decide +kernel
theorem dL_law_271 : decode cL_law 271 = .ok (.aload_n 0, 1) := by decide +kernel
theorem dL_law_272 : decode cL_law 272 = .ok (.iload_n 3, 1) := by decide +kernel
theorem dL_law_273 : decode cL_law 273 = .ok (.iconst 2, 1) := by decide +kernel
theorem dL_law_274 : decode cL_law 274 = .ok (.iadd, 1) := by decide +kernel
theorem dL_law_275 : decode cL_law 275 = .ok (.iaload, 1) := by decide +kernel
theorem dL_law_276 : decode cL_law 276 = .ok (.invokevirtual 22, 3) := by decide +kernel
theorem dL_law_279 : decode cL_law 279 = .ok (.if_icmp .eq 1103, 3) := by decide +kernel
theorem dL_law_282 : decode cL_law 282 = .ok (.iconst 0, 1) := by decide +kernel
theorem dL_law_283 : decode cL_law 283 = .ok (.ireturn, 1) := by decide +kernel
theorem dL_law_284 : decode cL_law 284 = .ok (.aload_n 1, 1) := by decide +kernel
theorem dL_law_285 : decode cL_law 285 = .ok (.aload_n 0, 1) := by decide +kernel
theorem dL_law_286 : decode cL_law 286 = .ok (.iload_n 3, 1) := by decide +kernel
theorem dL_law_287 : decode cL_law 287 = .ok (.iconst 1, 1) := by decide +kernel
theorem dL_law_288 : decode cL_law 288 = .ok (.iadd, 1) := by decide +kernel
theorem dL_law_289 : decode cL_law 289 = .ok (.iaload, 1) := by decide +kernel
theorem dL_law_290 : decode cL_law 290 = .ok (.aload_n 0, 1) := by decide +kernel
theorem dL_law_291 : decode cL_law 291 = .ok (.iload_n 3, 1) := by decide +kernel
theorem dL_law_292 : decode cL_law 292 = .ok (.iconst 2, 1) := by decide +kernel
theorem dL_law_293 : decode cL_law 293 = .ok (.iadd, 1) := by decide +kernel
theorem dL_law_294 : decode cL_law 294 = .ok (.iaload, 1) := by decide +kernel
theorem dL_law_295 : decode cL_law 295 = .ok (.invokevirtual 23, 3) := by decide +kernel
theorem dL_law_298 : decode cL_law 298 = .ok (.aload_n 2, 1) := by decide +kernel
theorem dL_law_299 : decode cL_law 299 = .ok (.aload_n 0, 1) := by decide +kernel
theorem dL_law_300 : decode cL_law 300 = .ok (.iload_n 3, 1) := by decide +kernel
theorem dL_law_301 : decode cL_law 301 = .ok (.iconst 1, 1) := by decide +kernel
theorem dL_law_302 : decode cL_law 302 = .ok (.iadd, 1) := by decide +kernel
theorem dL_law_303 : decode cL_law 303 = .ok (.iaload, 1) := by decide +kernel
theorem dL_law_304 : decode cL_law 304 = .ok (.aload_n 0, 1) := by decide +kernel
theorem dL_law_305 : decode cL_law 305 = .ok (.iload_n 3, 1) := by decide +kernel
theorem dL_law_306 : decode cL_law 306 = .ok (.iconst 2, 1) := by decide +kernel
theorem dL_law_307 : decode cL_law 307 = .ok (.iadd, 1) := by decide +kernel
theorem dL_law_308 : decode cL_law 308 = .ok (.iaload, 1) := by decide +kernel
theorem dL_law_309 : decode cL_law 309 = .ok (.invokevirtual 26, 3) := by decide +kernel
theorem dL_law_312 : decode cL_law 312 = .ok (.if_icmp .eq 1070, 3) := by decide +kernel
theorem dL_law_315 : decode cL_law 315 = .ok (.iconst 0, 1) := by decide +kernel
theorem dL_law_316 : decode cL_law 316 = .ok (.ireturn, 1) := by decide +kernel
theorem dL_law_317 : decode cL_law 317 = .ok (.aload_n 1, 1) := by decide +kernel
theorem dL_law_318 : decode cL_law 318 = .ok (.aload_n 0, 1) := by decide +kernel
theorem dL_law_319 : decode cL_law 319 = .ok (.iload_n 3, 1) := by decide +kernel
theorem dL_law_320 : decode cL_law 320 = .ok (.iconst 1, 1) := by decide +kernel
theorem dL_law_321 : decode cL_law 321 = .ok (.iadd, 1) := by decide +kernel
theorem dL_law_322 : decode cL_law 322 = .ok (.iaload, 1) := by decide +kernel
theorem dL_law_323 : decode cL_law 323 = .ok (.aload_n 0, 1) := by decide +kernel
theorem dL_law_324 : decode cL_law 324 = .ok (.iload_n 3, 1) := by decide +kernel
theorem dL_law_325 : decode cL_law 325 = .ok (.iconst 2, 1) := by decide +kernel
theorem dL_law_326 : decode cL_law 326 = .ok (.iadd, 1) := by decide +kernel
theorem dL_law_327 : decode cL_law 327 = .ok (.iaload, 1) := by decide +kernel
theorem dL_law_328 : decode cL_law 328 = .ok (.invokevirtual 27, 3) := by decide +kernel
theorem dL_law_331 : decode cL_law 331 = .ok (.aload_n 2, 1) := by decide +kernel
theorem dL_law_332 : decode cL_law 332 = .ok (.aload_n 0, 1) := by decide +kernel
theorem dL_law_333 : decode cL_law 333 = .ok (.iload_n 3, 1) := by decide +kernel
theorem dL_law_334 : decode cL_law 334 = .ok (.iconst 1, 1) := by decide +kernel
theorem dL_law_335 : decode cL_law 335 = .ok (.iadd, 1) := by decide +kernel
theorem dL_law_336 : decode cL_law 336 = .ok (.iaload, 1) := by decide +kernel
theorem dL_law_337 : decode cL_law 337 = .ok (.aload_n 0, 1) := by decide +kernel
theorem dL_law_338 : decode cL_law 338 = .ok (.iload_n 3, 1) := by decide +kernel
theorem dL_law_339 : decode cL_law 339 = .ok (.iconst 2, 1) := by decide +kernel
theorem dL_law_340 : decode cL_law 340 = .ok (.iadd, 1) := by decide +kernel
theorem dL_law_341 : decode cL_law 341 = .ok (.iaload, 1) := by decide +kernel
theorem dL_law_342 : decode cL_law 342 = .ok (.invokevirtual 30, 3) := by decide +kernel
theorem dL_law_345 : decode cL_law 345 = .ok (.if_icmp .eq 1037, 3) := by decide +kernel
theorem dL_law_348 : decode cL_law 348 = .ok (.iconst 0, 1) := by decide +kernel
theorem dL_law_349 : decode cL_law 349 = .ok (.ireturn, 1) := by decide +kernel
theorem dL_law_350 : decode cL_law 350 = .ok (.aload_n 1, 1) := by decide +kernel
theorem dL_law_351 : decode cL_law 351 = .ok (.aload_n 0, 1) := by decide +kernel
theorem dL_law_352 : decode cL_law 352 = .ok (.iload_n 3, 1) := by decide +kernel
theorem dL_law_353 : decode cL_law 353 = .ok (.iconst 1, 1) := by decide +kernel
theorem dL_law_354 : decode cL_law 354 = .ok (.iadd, 1) := by decide +kernel
theorem dL_law_355 : decode cL_law 355 = .ok (.iaload, 1) := by decide +kernel
theorem dL_law_356 : decode cL_law 356 = .ok (.aload_n 0, 1) := by decide +kernel
theorem dL_law_357 : decode cL_law 357 = .ok (.iload_n 3, 1) := by decide +kernel
theorem dL_law_358 : decode cL_law 358 = .ok (.iconst 2, 1) := by decide +kernel
theorem dL_law_359 : decode cL_law 359 = .ok (.iadd, 1) := by decide +kernel
theorem dL_law_360 : decode cL_law 360 = .ok (.iaload, 1) := by decide +kernel
theorem dL_law_361 : decode cL_law 361 = .ok (.invokevirtual 31, 3) := by decide +kernel
theorem dL_law_364 : decode cL_law 364 = .ok (.aload_n 2, 1) := by decide +kernel
theorem dL_law_365 : decode cL_law 365 = .ok (.aload_n 0, 1) := by decide +kernel
theorem dL_law_366 : decode cL_law 366 = .ok (.iload_n 3, 1) := by decide +kernel
theorem dL_law_367 : decode cL_law 367 = .ok (.iconst 1, 1) := by decide +kernel
theorem dL_law_368 : decode cL_law 368 = .ok (.iadd, 1) := by decide +kernel
theorem dL_law_369 : decode cL_law 369 = .ok (.iaload, 1) := by decide +kernel
theorem dL_law_370 : decode cL_law 370 = .ok (.aload_n 0, 1) := by decide +kernel
theorem dL_law_371 : decode cL_law 371 = .ok (.iload_n 3, 1) := by decide +kernel
theorem dL_law_372 : decode cL_law 372 = .ok (.iconst 2, 1) := by decide +kernel
theorem dL_law_373 : decode cL_law 373 = .ok (.iadd, 1) := by decide +kernel
theorem dL_law_374 : decode cL_law 374 = .ok (.iaload, 1) := by decide +kernel
theorem dL_law_375 : decode cL_law 375 = .ok (.invokevirtual 34, 3) := by decide +kernel
theorem dL_law_378 : decode cL_law 378 = .ok (.if_icmp .eq 1004, 3) := by decide +kernel
theorem dL_law_381 : decode cL_law 381 = .ok (.iconst 0, 1) := by decide +kernel
theorem dL_law_382 : decode cL_law 382 = .ok (.ireturn, 1) := by decide +kernel
theorem dL_law_383 : decode cL_law 383 = .ok (.aload_n 1, 1) := by decide +kernel
theorem dL_law_384 : decode cL_law 384 = .ok (.aload_n 0, 1) := by decide +kernel
theorem dL_law_385 : decode cL_law 385 = .ok (.iload_n 3, 1) := by decide +kernel
theorem dL_law_386 : decode cL_law 386 = .ok (.iconst 1, 1) := by decide +kernel
theorem dL_law_387 : decode cL_law 387 = .ok (.iadd, 1) := by decide +kernel
theorem dL_law_388 : decode cL_law 388 = .ok (.iaload, 1) := by decide +kernel
theorem dL_law_389 : decode cL_law 389 = .ok (.invokevirtual 35, 3) := by decide +kernel
theorem dL_law_392 : decode cL_law 392 = .ok (.aload_n 2, 1) := by decide +kernel
theorem dL_law_393 : decode cL_law 393 = .ok (.aload_n 0, 1) := by decide +kernel
theorem dL_law_394 : decode cL_law 394 = .ok (.iload_n 3, 1) := by decide +kernel
theorem dL_law_395 : decode cL_law 395 = .ok (.iconst 1, 1) := by decide +kernel
theorem dL_law_396 : decode cL_law 396 = .ok (.iadd, 1) := by decide +kernel
theorem dL_law_397 : decode cL_law 397 = .ok (.iaload, 1) := by decide +kernel
theorem dL_law_398 : decode cL_law 398 = .ok (.invokevirtual 39, 3) := by decide +kernel
theorem dL_law_401 : decode cL_law 401 = .ok (.if_icmp .eq 981, 3) := by decide +kernel
theorem dL_law_404 : decode cL_law 404 = .ok (.iconst 0, 1) := by decide +kernel
theorem dL_law_405 : decode cL_law 405 = .ok (.ireturn, 1) := by decide +kernel
theorem dL_law_406 : decode cL_law 406 = .ok (.aload_n 1, 1) := by decide +kernel
theorem dL_law_407 : decode cL_law 407 = .ok (.aload_n 0, 1) := by decide +kernel
theorem dL_law_408 : decode cL_law 408 = .ok (.iload_n 3, 1) := by decide +kernel
theorem dL_law_409 : decode cL_law 409 = .ok (.iconst 1, 1) := by decide +kernel
theorem dL_law_410 : decode cL_law 410 = .ok (.iadd, 1) := by decide +kernel
theorem dL_law_411 : decode cL_law 411 = .ok (.iaload, 1) := by decide +kernel
theorem dL_law_412 : decode cL_law 412 = .ok (.invokevirtual 40, 3) := by decide +kernel
theorem dL_law_415 : decode cL_law 415 = .ok (.aload_n 2, 1) := by decide +kernel
theorem dL_law_416 : decode cL_law 416 = .ok (.aload_n 0, 1) := by decide +kernel
theorem dL_law_417 : decode cL_law 417 = .ok (.iload_n 3, 1) := by decide +kernel
theorem dL_law_418 : decode cL_law 418 = .ok (.iconst 1, 1) := by decide +kernel
theorem dL_law_419 : decode cL_law 419 = .ok (.iadd, 1) := by decide +kernel
theorem dL_law_420 : decode cL_law 420 = .ok (.iaload, 1) := by decide +kernel
theorem dL_law_421 : decode cL_law 421 = .ok (.invokevirtual 43, 3) := by decide +kernel
theorem dL_law_424 : decode cL_law 424 = .ok (.if_icmp .eq 958, 3) := by decide +kernel
theorem dL_law_427 : decode cL_law 427 = .ok (.iconst 0, 1) := by decide +kernel
theorem dL_law_428 : decode cL_law 428 = .ok (.ireturn, 1) := by decide +kernel
theorem dL_law_429 : decode cL_law 429 = .ok (.aload_n 1, 1) := by decide +kernel
theorem dL_law_430 : decode cL_law 430 = .ok (.aload_n 0, 1) := by decide +kernel
theorem dL_law_431 : decode cL_law 431 = .ok (.iload_n 3, 1) := by decide +kernel
theorem dL_law_432 : decode cL_law 432 = .ok (.iconst 1, 1) := by decide +kernel
theorem dL_law_433 : decode cL_law 433 = .ok (.iadd, 1) := by decide +kernel
theorem dL_law_434 : decode cL_law 434 = .ok (.iaload, 1) := by decide +kernel
theorem dL_law_435 : decode cL_law 435 = .ok (.aload_n 0, 1) := by decide +kernel
theorem dL_law_436 : decode cL_law 436 = .ok (.iload_n 3, 1) := by decide +kernel
theorem dL_law_437 : decode cL_law 437 = .ok (.iconst 2, 1) := by decide +kernel
theorem dL_law_438 : decode cL_law 438 = .ok (.iadd, 1) := by decide +kernel
theorem dL_law_439 : decode cL_law 439 = .ok (.iaload, 1) := by decide +kernel
theorem dL_law_440 : decode cL_law 440 = .ok (.invokevirtual 44, 3) := by decide +kernel
theorem dL_law_443 : decode cL_law 443 = .ok (.aload_n 2, 1) := by decide +kernel
theorem dL_law_444 : decode cL_law 444 = .ok (.aload_n 0, 1) := by decide +kernel
theorem dL_law_445 : decode cL_law 445 = .ok (.iload_n 3, 1) := by decide +kernel
theorem dL_law_446 : decode cL_law 446 = .ok (.iconst 1, 1) := by decide +kernel
theorem dL_law_447 : decode cL_law 447 = .ok (.iadd, 1) := by decide +kernel
theorem dL_law_448 : decode cL_law 448 = .ok (.iaload, 1) := by decide +kernel
theorem dL_law_449 : decode cL_law 449 = .ok (.aload_n 0, 1) := by decide +kernel
theorem dL_law_450 : decode cL_law 450 = .ok (.iload_n 3, 1) := by decide +kernel
theorem dL_law_451 : decode cL_law 451 = .ok (.iconst 2, 1) := by decide +kernel
theorem dL_law_452 : decode cL_law 452 = .ok (.iadd, 1) := by decide +kernel
theorem dL_law_453 : decode cL_law 453 = .ok (.iaload, 1) := by decide +kernel
theorem dL_law_454 : decode cL_law 454 = .ok (.invokevirtual 47, 3) := by decide +kernel
theorem dL_law_457 : decode cL_law 457 = .ok (.if_icmp .eq 925, 3) := by decide +kernel
theorem dL_law_460 : decode cL_law 460 = .ok (.iconst 0, 1) := by decide +kernel
theorem dL_law_461 : decode cL_law 461 = .ok (.ireturn, 1) := by decide +kernel
theorem dL_law_462 : decode cL_law 462 = .ok (.aload_n 1, 1) := by decide +kernel
theorem dL_law_463 : decode cL_law 463 = .ok (.aload_n 0, 1) := by decide +kernel
theorem dL_law_464 : decode cL_law 464 = .ok (.iload_n 3, 1) := by decide +kernel
theorem dL_law_465 : decode cL_law 465 = .ok (.iconst 1, 1) := by decide +kernel
theorem dL_law_466 : decode cL_law 466 = .ok (.iadd, 1) := by decide +kernel
theorem dL_law_467 : decode cL_law 467 = .ok (.iaload, 1) := by decide +kernel
theorem dL_law_468 : decode cL_law 468 = .ok (.invokevirtual 48, 3) := by decide +kernel
theorem dL_law_471 : decode cL_law 471 = .ok (.aload_n 2, 1) := by decide +kernel
theorem dL_law_472 : decode cL_law 472 = .ok (.aload_n 0, 1) := by decide +kernel
theorem dL_law_473 : decode cL_law 473 = .ok (.iload_n 3, 1) := by decide +kernel
theorem dL_law_474 : decode cL_law 474 = .ok (.iconst 1, 1) := by decide +kernel
theorem dL_law_475 : decode cL_law 475 = .ok (.iadd, 1) := by decide +kernel
theorem dL_law_476 : decode cL_law 476 = .ok (.iaload, 1) := by decide +kernel
theorem dL_law_477 : decode cL_law 477 = .ok (.invokevirtual 51, 3) := by decide +kernel
theorem dL_law_480 : decode cL_law 480 = .ok (.if_icmp .eq 902, 3) := by decide +kernel
theorem dL_law_483 : decode cL_law 483 = .ok (.iconst 0, 1) := by decide +kernel
theorem dL_law_484 : decode cL_law 484 = .ok (.ireturn, 1) := by decide +kernel
theorem dL_law_485 : decode cL_law 485 = .ok (.aload_n 1, 1) := by decide +kernel
theorem dL_law_486 : decode cL_law 486 = .ok (.invokevirtual 52, 3) := by decide +kernel
theorem dL_law_489 : decode cL_law 489 = .ok (.aload_n 2, 1) := by decide +kernel
theorem dL_law_490 : decode cL_law 490 = .ok (.invokevirtual 56, 3) := by decide +kernel
theorem dL_law_493 : decode cL_law 493 = .ok (.if_icmp .eq 889, 3) := by decide +kernel
theorem dL_law_496 : decode cL_law 496 = .ok (.iconst 0, 1) := by decide +kernel
theorem dL_law_497 : decode cL_law 497 = .ok (.ireturn, 1) := by decide +kernel
theorem dL_law_498 : decode cL_law 498 = .ok (.aload_n 1, 1) := by decide +kernel
theorem dL_law_499 : decode cL_law 499 = .ok (.aload_n 0, 1) := by decide +kernel
theorem dL_law_500 : decode cL_law 500 = .ok (.iload_n 3, 1) := by decide +kernel
theorem dL_law_501 : decode cL_law 501 = .ok (.iconst 1, 1) := by decide +kernel
theorem dL_law_502 : decode cL_law 502 = .ok (.iadd, 1) := by decide +kernel
theorem dL_law_503 : decode cL_law 503 = .ok (.iaload, 1) := by decide +kernel
theorem dL_law_504 : decode cL_law 504 = .ok (.invokevirtual 57, 3) := by decide +kernel
theorem dL_law_507 : decode cL_law 507 = .ok (.aload_n 2, 1) := by decide +kernel
theorem dL_law_508 : decode cL_law 508 = .ok (.aload_n 0, 1) := by decide +kernel
theorem dL_law_509 : decode cL_law 509 = .ok (.iload_n 3, 1) := by decide +kernel
theorem dL_law_510 : decode cL_law 510 = .ok (.iconst 1, 1) := by decide +kernel
theorem dL_law_511 : decode cL_law 511 = .ok (.iadd, 1) := by decide +kernel
theorem dL_law_512 : decode cL_law 512 = .ok (.iaload, 1) := by decide +kernel
theorem dL_law_513 : decode cL_law 513 = .ok (.invokevirtual 60, 3) := by decide +kernel
theorem dL_law_516 : decode cL_law 516 = .ok (.if_icmp .eq 866, 3) := by decide +kernel
theorem dL_law_519 : decode cL_law 519 = .ok (.iconst 0, 1) := by decide +kernel
theorem dL_law_520 : decode cL_law 520 = .ok (.ireturn, 1) := by decide +kernel
theorem dL_law_521 : decode cL_law 521 = .ok (.aload_n 1, 1) := by decide +kernel
theorem dL_law_522 : decode cL_law 522 = .ok (.invokevirtual 61, 3) := by decide +kernel
theorem dL_law_525 : decode cL_law 525 = .ok (.aload_n 2, 1) := by decide +kernel
theorem dL_law_526 : decode cL_law 526 = .ok (.invokevirtual 64, 3) := by decide +kernel
theorem dL_law_529 : decode cL_law 529 = .ok (.if_icmp .eq 853, 3) := by decide +kernel
theorem dL_law_532 : decode cL_law 532 = .ok (.iconst 0, 1) := by decide +kernel
theorem dL_law_533 : decode cL_law 533 = .ok (.ireturn, 1) := by decide +kernel
theorem dL_law_534 : decode cL_law 534 = .ok (.aload_n 1, 1) := by decide +kernel
theorem dL_law_535 : decode cL_law 535 = .ok (.aload_n 0, 1) := by decide +kernel
theorem dL_law_536 : decode cL_law 536 = .ok (.iload_n 3, 1) := by decide +kernel
theorem dL_law_537 : decode cL_law 537 = .ok (.iconst 1, 1) := by decide +kernel
theorem dL_law_538 : decode cL_law 538 = .ok (.iadd, 1) := by decide +kernel
theorem dL_law_539 : decode cL_law 539 = .ok (.iaload, 1) := by decide +kernel
theorem dL_law_540 : decode cL_law 540 = .ok (.aload_n 0, 1) := by decide +kernel
theorem dL_law_541 : decode cL_law 541 = .ok (.iload_n 3, 1) := by decide +kernel
theorem dL_law_542 : decode cL_law 542 = .ok (.iconst 2, 1) := by decide +kernel
theorem dL_law_543 : decode cL_law 543 = .ok (.iadd, 1) := by decide +kernel
theorem dL_law_544 : decode cL_law 544 = .ok (.iaload, 1) := by decide +kernel
theorem dL_law_545 : decode cL_law 545 = .ok (.invokevirtual 65, 3) := by decide +kernel
theorem dL_law_548 : decode cL_law 548 = .ok (.aload_n 2, 1) := by decide +kernel
theorem dL_law_549 : decode cL_law 549 = .ok (.aload_n 0, 1) := by decide +kernel
theorem dL_law_550 : decode cL_law 550 = .ok (.iload_n 3, 1) := by decide +kernel
theorem dL_law_551 : decode cL_law 551 = .ok (.iconst 1, 1) := by decide +kernel
theorem dL_law_552 : decode cL_law 552 = .ok (.iadd, 1) := by decide +kernel
theorem dL_law_553 : decode cL_law 553 = .ok (.iaload, 1) := by decide +kernel
theorem dL_law_554 : decode cL_law 554 = .ok (.aload_n 0, 1) := by decide +kernel
theorem dL_law_555 : decode cL_law 555 = .ok (.iload_n 3, 1) := by decide +kernel
theorem dL_law_556 : decode cL_law 556 = .ok (.iconst 2, 1) := by decide +kernel
theorem dL_law_557 : decode cL_law 557 = .ok (.iadd, 1) := by decide +kernel
theorem dL_law_558 : decode cL_law 558 = .ok (.iaload, 1) := by decide +kernel
theorem dL_law_559 : decode cL_law 559 = .ok (.invokevirtual 68, 3) := by decide +kernel
theorem dL_law_562 : decode cL_law 562 = .ok (.if_icmp .eq 820, 3) := by decide +kernel
theorem dL_law_565 : decode cL_law 565 = .ok (.iconst 0, 1) := by decide +kernel
theorem dL_law_566 : decode cL_law 566 = .ok (.ireturn, 1) := by decide +kernel
theorem dL_law_567 : decode cL_law 567 = .ok (.aload_n 1, 1) := by decide +kernel
theorem dL_law_568 : decode cL_law 568 = .ok (.aload_n 0, 1) := by decide +kernel
theorem dL_law_569 : decode cL_law 569 = .ok (.iload_n 3, 1) := by decide +kernel
theorem dL_law_570 : decode cL_law 570 = .ok (.iconst 1, 1) := by decide +kernel
theorem dL_law_571 : decode cL_law 571 = .ok (.iadd, 1) := by decide +kernel
theorem dL_law_572 : decode cL_law 572 = .ok (.iaload, 1) := by decide +kernel
theorem dL_law_573 : decode cL_law 573 = .ok (.aload_n 0, 1) := by decide +kernel
theorem dL_law_574 : decode cL_law 574 = .ok (.iload_n 3, 1) := by decide +kernel
theorem dL_law_575 : decode cL_law 575 = .ok (.iconst 2, 1) := by decide +kernel
theorem dL_law_576 : decode cL_law 576 = .ok (.iadd, 1) := by decide +kernel
theorem dL_law_577 : decode cL_law 577 = .ok (.iaload, 1) := by decide +kernel
theorem dL_law_578 : decode cL_law 578 = .ok (.invokevirtual 69, 3) := by decide +kernel
theorem dL_law_581 : decode cL_law 581 = .ok (.aload_n 2, 1) := by decide +kernel
theorem dL_law_582 : decode cL_law 582 = .ok (.aload_n 0, 1) := by decide +kernel
theorem dL_law_583 : decode cL_law 583 = .ok (.iload_n 3, 1) := by decide +kernel
theorem dL_law_584 : decode cL_law 584 = .ok (.iconst 1, 1) := by decide +kernel
theorem dL_law_585 : decode cL_law 585 = .ok (.iadd, 1) := by decide +kernel
theorem dL_law_586 : decode cL_law 586 = .ok (.iaload, 1) := by decide +kernel
theorem dL_law_587 : decode cL_law 587 = .ok (.aload_n 0, 1) := by decide +kernel
theorem dL_law_588 : decode cL_law 588 = .ok (.iload_n 3, 1) := by decide +kernel
theorem dL_law_589 : decode cL_law 589 = .ok (.iconst 2, 1) := by decide +kernel
theorem dL_law_590 : decode cL_law 590 = .ok (.iadd, 1) := by decide +kernel
theorem dL_law_591 : decode cL_law 591 = .ok (.iaload, 1) := by decide +kernel
theorem dL_law_592 : decode cL_law 592 = .ok (.invokevirtual 72, 3) := by decide +kernel
theorem dL_law_595 : decode cL_law 595 = .ok (.if_icmp .eq 787, 3) := by decide +kernel
theorem dL_law_598 : decode cL_law 598 = .ok (.iconst 0, 1) := by decide +kernel
theorem dL_law_599 : decode cL_law 599 = .ok (.ireturn, 1) := by decide +kernel
theorem dL_law_600 : decode cL_law 600 = .ok (.aload_n 1, 1) := by decide +kernel
theorem dL_law_601 : decode cL_law 601 = .ok (.aload_n 0, 1) := by decide +kernel
theorem dL_law_602 : decode cL_law 602 = .ok (.iload_n 3, 1) := by decide +kernel
theorem dL_law_603 : decode cL_law 603 = .ok (.iconst 1, 1) := by decide +kernel
theorem dL_law_604 : decode cL_law 604 = .ok (.iadd, 1) := by decide +kernel
theorem dL_law_605 : decode cL_law 605 = .ok (.iaload, 1) := by decide +kernel
theorem dL_law_606 : decode cL_law 606 = .ok (.aload_n 0, 1) := by decide +kernel
theorem dL_law_607 : decode cL_law 607 = .ok (.iload_n 3, 1) := by decide +kernel
theorem dL_law_608 : decode cL_law 608 = .ok (.iconst 2, 1) := by decide +kernel
theorem dL_law_609 : decode cL_law 609 = .ok (.iadd, 1) := by decide +kernel
theorem dL_law_610 : decode cL_law 610 = .ok (.iaload, 1) := by decide +kernel
theorem dL_law_611 : decode cL_law 611 = .ok (.invokevirtual 73, 3) := by decide +kernel
theorem dL_law_614 : decode cL_law 614 = .ok (.aload_n 2, 1) := by decide +kernel
theorem dL_law_615 : decode cL_law 615 = .ok (.aload_n 0, 1) := by decide +kernel
theorem dL_law_616 : decode cL_law 616 = .ok (.iload_n 3, 1) := by decide +kernel
theorem dL_law_617 : decode cL_law 617 = .ok (.iconst 1, 1) := by decide +kernel
theorem dL_law_618 : decode cL_law 618 = .ok (.iadd, 1) := by decide +kernel
theorem dL_law_619 : decode cL_law 619 = .ok (.iaload, 1) := by decide +kernel
theorem dL_law_620 : decode cL_law 620 = .ok (.aload_n 0, 1) := by decide +kernel
theorem dL_law_621 : decode cL_law 621 = .ok (.iload_n 3, 1) := by decide +kernel
theorem dL_law_622 : decode cL_law 622 = .ok (.iconst 2, 1) := by decide +kernel
theorem dL_law_623 : decode cL_law 623 = .ok (.iadd, 1) := by decide +kernel
theorem dL_law_624 : decode cL_law 624 = .ok (.iaload, 1) := by decide +kernel
theorem dL_law_625 : decode cL_law 625 = .ok (.invokevirtual 76, 3) := by decide +kernel
theorem dL_law_628 : decode cL_law 628 = .ok (.if_icmp .eq 754, 3) := by decide +kernel
theorem dL_law_631 : decode cL_law 631 = .ok (.iconst 0, 1) := by decide +kernel
theorem dL_law_632 : decode cL_law 632 = .ok (.ireturn, 1) := by decide +kernel
theorem dL_law_633 : decode cL_law 633 = .ok (.aload_n 1, 1) := by decide +kernel
theorem dL_law_634 : decode cL_law 634 = .ok (.aload_n 0, 1) := by decide +kernel
theorem dL_law_635 : decode cL_law 635 = .ok (.iload_n 3, 1) := by decide +kernel
theorem dL_law_636 : decode cL_law 636 = .ok (.iconst 1, 1) := by decide +kernel
theorem dL_law_637 : decode cL_law 637 = .ok (.iadd, 1) := by decide +kernel
theorem dL_law_638 : decode cL_law 638 = .ok (.iaload, 1) := by decide +kernel
theorem dL_law_639 : decode cL_law 639 = .ok (.invokevirtual 77, 3) := by decide +kernel
theorem dL_law_642 : decode cL_law 642 = .ok (.aload_n 2, 1) := by decide +kernel
theorem dL_law_643 : decode cL_law 643 = .ok (.aload_n 0, 1) := by decide +kernel
theorem dL_law_644 : decode cL_law 644 = .ok (.iload_n 3, 1) := by decide +kernel
theorem dL_law_645 : decode cL_law 645 = .ok (.iconst 1, 1) := by decide +kernel
theorem dL_law_646 : decode cL_law 646 = .ok (.iadd, 1) := by decide +kernel
theorem dL_law_647 : decode cL_law 647 = .ok (.iaload, 1) := by decide +kernel
theorem dL_law_648 : decode cL_law 648 = .ok (.invokevirtual 80, 3) := by decide +kernel
theorem dL_law_651 : decode cL_law 651 = .ok (.if_icmp .eq 731, 3) := by decide +kernel
theorem dL_law_654 : decode cL_law 654 = .ok (.iconst 0, 1) := by decide +kernel
theorem dL_law_655 : decode cL_law 655 = .ok (.ireturn, 1) := by decide +kernel
theorem dL_law_656 : decode cL_law 656 = .ok (.aload_n 1, 1) := by decide +kernel
theorem dL_law_657 : decode cL_law 657 = .ok (.aload_n 0, 1) := by decide +kernel
theorem dL_law_658 : decode cL_law 658 = .ok (.iload_n 3, 1) := by decide +kernel
theorem dL_law_659 : decode cL_law 659 = .ok (.iconst 1, 1) := by decide +kernel
theorem dL_law_660 : decode cL_law 660 = .ok (.iadd, 1) := by decide +kernel
theorem dL_law_661 : decode cL_law 661 = .ok (.iaload, 1) := by decide +kernel
theorem dL_law_662 : decode cL_law 662 = .ok (.aload_n 0, 1) := by decide +kernel
theorem dL_law_663 : decode cL_law 663 = .ok (.iload_n 3, 1) := by decide +kernel
theorem dL_law_664 : decode cL_law 664 = .ok (.iconst 2, 1) := by decide +kernel
theorem dL_law_665 : decode cL_law 665 = .ok (.iadd, 1) := by decide +kernel
theorem dL_law_666 : decode cL_law 666 = .ok (.iaload, 1) := by decide +kernel
theorem dL_law_667 : decode cL_law 667 = .ok (.aload_n 0, 1) := by decide +kernel
theorem dL_law_668 : decode cL_law 668 = .ok (.iload_n 3, 1) := by decide +kernel
theorem dL_law_669 : decode cL_law 669 = .ok (.iconst 3, 1) := by decide +kernel
theorem dL_law_670 : decode cL_law 670 = .ok (.iadd, 1) := by decide +kernel
theorem dL_law_671 : decode cL_law 671 = .ok (.iaload, 1) := by decide +kernel
theorem dL_law_672 : decode cL_law 672 = .ok (.invokevirtual 81, 3) := by decide +kernel
theorem dL_law_675 : decode cL_law 675 = .ok (.aload_n 2, 1) := by decide +kernel
theorem dL_law_676 : decode cL_law 676 = .ok (.aload_n 0, 1) := by decide +kernel
theorem dL_law_677 : decode cL_law 677 = .ok (.iload_n 3, 1) := by decide +kernel
theorem dL_law_678 : decode cL_law 678 = .ok (.iconst 1, 1) := by decide +kernel
theorem dL_law_679 : decode cL_law 679 = .ok (.iadd, 1) := by decide +kernel
theorem dL_law_680 : decode cL_law 680 = .ok (.iaload, 1) := by decide +kernel
theorem dL_law_681 : decode cL_law 681 = .ok (.aload_n 0, 1) := by decide +kernel
theorem dL_law_682 : decode cL_law 682 = .ok (.iload_n 3, 1) := by decide +kernel
theorem dL_law_683 : decode cL_law 683 = .ok (.iconst 2, 1) := by decide +kernel
theorem dL_law_684 : decode cL_law 684 = .ok (.iadd, 1) := by decide +kernel
theorem dL_law_685 : decode cL_law 685 = .ok (.iaload, 1) := by decide +kernel
theorem dL_law_686 : decode cL_law 686 = .ok (.aload_n 0, 1) := by decide +kernel
theorem dL_law_687 : decode cL_law 687 = .ok (.iload_n 3, 1) := by decide +kernel
theorem dL_law_688 : decode cL_law 688 = .ok (.iconst 3, 1) := by decide +kernel
theorem dL_law_689 : decode cL_law 689 = .ok (.iadd, 1) := by decide +kernel
theorem dL_law_690 : decode cL_law 690 = .ok (.iaload, 1) := by decide +kernel
theorem dL_law_691 : decode cL_law 691 = .ok (.invokevirtual 84, 3) := by decide +kernel
theorem dL_law_694 : decode cL_law 694 = .ok (.if_icmp .eq 688, 3) := by decide +kernel
theorem dL_law_697 : decode cL_law 697 = .ok (.iconst 0, 1) := by decide +kernel
theorem dL_law_698 : decode cL_law 698 = .ok (.ireturn, 1) := by decide +kernel
theorem dL_law_699 : decode cL_law 699 = .ok (.aload_n 1, 1) := by decide +kernel
theorem dL_law_700 : decode cL_law 700 = .ok (.aload_n 0, 1) := by decide +kernel
theorem dL_law_701 : decode cL_law 701 = .ok (.iload_n 3, 1) := by decide +kernel
theorem dL_law_702 : decode cL_law 702 = .ok (.iconst 1, 1) := by decide +kernel
theorem dL_law_703 : decode cL_law 703 = .ok (.iadd, 1) := by decide +kernel
theorem dL_law_704 : decode cL_law 704 = .ok (.iaload, 1) := by decide +kernel
theorem dL_law_705 : decode cL_law 705 = .ok (.aload_n 0, 1) := by decide +kernel
theorem dL_law_706 : decode cL_law 706 = .ok (.iload_n 3, 1) := by decide +kernel
theorem dL_law_707 : decode cL_law 707 = .ok (.iconst 2, 1) := by decide +kernel
theorem dL_law_708 : decode cL_law 708 = .ok (.iadd, 1) := by decide +kernel
theorem dL_law_709 : decode cL_law 709 = .ok (.iaload, 1) := by decide +kernel
theorem dL_law_710 : decode cL_law 710 = .ok (.invokevirtual 85, 3) := by decide +kernel
theorem dL_law_713 : decode cL_law 713 = .ok (.aload_n 2, 1) := by decide +kernel
theorem dL_law_714 : decode cL_law 714 = .ok (.aload_n 0, 1) := by decide +kernel
theorem dL_law_715 : decode cL_law 715 = .ok (.iload_n 3, 1) := by decide +kernel
theorem dL_law_716 : decode cL_law 716 = .ok (.iconst 1, 1) := by decide +kernel
theorem dL_law_717 : decode cL_law 717 = .ok (.iadd, 1) := by decide +kernel
theorem dL_law_718 : decode cL_law 718 = .ok (.iaload, 1) := by decide +kernel
theorem dL_law_719 : decode cL_law 719 = .ok (.aload_n 0, 1) := by decide +kernel
theorem dL_law_720 : decode cL_law 720 = .ok (.iload_n 3, 1) := by decide +kernel
theorem dL_law_721 : decode cL_law 721 = .ok (.iconst 2, 1) := by decide +kernel
theorem dL_law_722 : decode cL_law 722 = .ok (.iadd, 1) := by decide +kernel
theorem dL_law_723 : decode cL_law 723 = .ok (.iaload, 1) := by decide +kernel
theorem dL_law_724 : decode cL_law 724 = .ok (.invokevirtual 88, 3) := by decide +kernel
theorem dL_law_727 : decode cL_law 727 = .ok (.if_icmp .eq 655, 3) := by decide +kernel
theorem dL_law_730 : decode cL_law 730 = .ok (.iconst 0, 1) := by decide +kernel
theorem dL_law_731 : decode cL_law 731 = .ok (.ireturn, 1) := by decide +kernel
theorem dL_law_732 : decode cL_law 732 = .ok (.aload_n 1, 1) := by decide +kernel
theorem dL_law_733 : decode cL_law 733 = .ok (.aload_n 0, 1) := by decide +kernel
theorem dL_law_734 : decode cL_law 734 = .ok (.iload_n 3, 1) := by decide +kernel
theorem dL_law_735 : decode cL_law 735 = .ok (.iconst 1, 1) := by decide +kernel
theorem dL_law_736 : decode cL_law 736 = .ok (.iadd, 1) := by decide +kernel
theorem dL_law_737 : decode cL_law 737 = .ok (.iaload, 1) := by decide +kernel
theorem dL_law_738 : decode cL_law 738 = .ok (.invokevirtual 89, 3) := by decide +kernel
theorem dL_law_741 : decode cL_law 741 = .ok (.aload_n 2, 1) := by decide +kernel
theorem dL_law_742 : decode cL_law 742 = .ok (.aload_n 0, 1) := by decide +kernel
theorem dL_law_743 : decode cL_law 743 = .ok (.iload_n 3, 1) := by decide +kernel
theorem dL_law_744 : decode cL_law 744 = .ok (.iconst 1, 1) := by decide +kernel
theorem dL_law_745 : decode cL_law 745 = .ok (.iadd, 1) := by decide +kernel
theorem dL_law_746 : decode cL_law 746 = .ok (.iaload, 1) := by decide +kernel
theorem dL_law_747 : decode cL_law 747 = .ok (.invokevirtual 92, 3) := by decide +kernel
theorem dL_law_750 : decode cL_law 750 = .ok (.if_icmp .eq 632, 3) := by decide +kernel
theorem dL_law_753 : decode cL_law 753 = .ok (.iconst 0, 1) := by decide +kernel
theorem dL_law_754 : decode cL_law 754 = .ok (.ireturn, 1) := by decide +kernel
theorem dL_law_755 : decode cL_law 755 = .ok (.aload_n 1, 1) := by decide +kernel
theorem dL_law_756 : decode cL_law 756 = .ok (.aload_n 0, 1) := by decide +kernel
theorem dL_law_757 : decode cL_law 757 = .ok (.iload_n 3, 1) := by decide +kernel
theorem dL_law_758 : decode cL_law 758 = .ok (.iconst 1, 1) := by decide +kernel
theorem dL_law_759 : decode cL_law 759 = .ok (.iadd, 1) := by decide +kernel
theorem dL_law_760 : decode cL_law 760 = .ok (.iaload, 1) := by decide +kernel
theorem dL_law_761 : decode cL_law 761 = .ok (.aload_n 0, 1) := by decide +kernel
theorem dL_law_762 : decode cL_law 762 = .ok (.iload_n 3, 1) := by decide +kernel
theorem dL_law_763 : decode cL_law 763 = .ok (.iconst 2, 1) := by decide +kernel
theorem dL_law_764 : decode cL_law 764 = .ok (.iadd, 1) := by decide +kernel
theorem dL_law_765 : decode cL_law 765 = .ok (.iaload, 1) := by decide +kernel
theorem dL_law_766 : decode cL_law 766 = .ok (.aload_n 0, 1) := by decide +kernel
theorem dL_law_767 : decode cL_law 767 = .ok (.iload_n 3, 1) := by decide +kernel
theorem dL_law_768 : decode cL_law 768 = .ok (.iconst 3, 1) := by decide +kernel
theorem dL_law_769 : decode cL_law 769 = .ok (.iadd, 1) := by decide +kernel
theorem dL_law_770 : decode cL_law 770 = .ok (.iaload, 1) := by decide +kernel
theorem dL_law_771 : decode cL_law 771 = .ok (.invokevirtual 93, 3) := by decide +kernel
theorem dL_law_774 : decode cL_law 774 = .ok (.aload_n 2, 1) := by decide +kernel
theorem dL_law_775 : decode cL_law 775 = .ok (.aload_n 0, 1) := by decide +kernel
theorem dL_law_776 : decode cL_law 776 = .ok (.iload_n 3, 1) := by decide +kernel
theorem dL_law_777 : decode cL_law 777 = .ok (.iconst 1, 1) := by decide +kernel
theorem dL_law_778 : decode cL_law 778 = .ok (.iadd, 1) := by decide +kernel
theorem dL_law_779 : decode cL_law 779 = .ok (.iaload, 1) := by decide +kernel
theorem dL_law_780 : decode cL_law 780 = .ok (.aload_n 0, 1) := by decide +kernel
theorem dL_law_781 : decode cL_law 781 = .ok (.iload_n 3, 1) := by decide +kernel
theorem dL_law_782 : decode cL_law 782 = .ok (.iconst 2, 1) := by decide +kernel
theorem dL_law_783 : decode cL_law 783 = .ok (.iadd, 1) := by decide +kernel
theorem dL_law_784 : decode cL_law 784 = .ok (.iaload, 1) := by decide +kernel
theorem dL_law_785 : decode cL_law 785 = .ok (.aload_n 0, 1) := by decide +kernel
theorem dL_law_786 : decode cL_law 786 = .ok (.iload_n 3, 1) := by decide +kernel
theorem dL_law_787 : decode cL_law 787 = .ok (.iconst 3, 1) := by decide +kernel
theorem dL_law_788 : decode cL_law 788 = .ok (.iadd, 1) := by decide +kernel
theorem dL_law_789 : decode cL_law 789 = .ok (.iaload, 1) := by decide +kernel
theorem dL_law_790 : decode cL_law 790 = .ok (.invokevirtual 97, 3) := by decide +kernel
theorem dL_law_793 : decode cL_law 793 = .ok (.lcmp, 1) := by decide +kernel
theorem dL_law_794 : decode cL_law 794 = .ok (.ifCond .eq 588, 3) := by decide +kernel
theorem dL_law_797 : decode cL_law 797 = .ok (.iconst 0, 1) := by decide +kernel
theorem dL_law_798 : decode cL_law 798 = .ok (.ireturn, 1) := by decide +kernel
theorem dL_law_799 : decode cL_law 799 = .ok (.aload_n 1, 1) := by decide +kernel
theorem dL_law_800 : decode cL_law 800 = .ok (.aload_n 0, 1) := by decide +kernel
theorem dL_law_801 : decode cL_law 801 = .ok (.iload_n 3, 1) := by decide +kernel
theorem dL_law_802 : decode cL_law 802 = .ok (.iconst 1, 1) := by decide +kernel
theorem dL_law_803 : decode cL_law 803 = .ok (.iadd, 1) := by decide +kernel
theorem dL_law_804 : decode cL_law 804 = .ok (.iaload, 1) := by decide +kernel
theorem dL_law_805 : decode cL_law 805 = .ok (.aload_n 0, 1) := by decide +kernel
theorem dL_law_806 : decode cL_law 806 = .ok (.iload_n 3, 1) := by decide +kernel
theorem dL_law_807 : decode cL_law 807 = .ok (.iconst 2, 1) := by decide +kernel
theorem dL_law_808 : decode cL_law 808 = .ok (.iadd, 1) := by decide +kernel
theorem dL_law_809 : decode cL_law 809 = .ok (.iaload, 1) := by decide +kernel
theorem dL_law_810 : decode cL_law 810 = .ok (.aload_n 0, 1) := by decide +kernel
theorem dL_law_811 : decode cL_law 811 = .ok (.iload_n 3, 1) := by decide +kernel
theorem dL_law_812 : decode cL_law 812 = .ok (.iconst 3, 1) := by decide +kernel
theorem dL_law_813 : decode cL_law 813 = .ok (.iadd, 1) := by decide +kernel
theorem dL_law_814 : decode cL_law 814 = .ok (.iaload, 1) := by decide +kernel
theorem dL_law_815 : decode cL_law 815 = .ok (.invokevirtual 98, 3) := by decide +kernel
theorem dL_law_818 : decode cL_law 818 = .ok (.aload_n 2, 1) := by decide +kernel
theorem dL_law_819 : decode cL_law 819 = .ok (.aload_n 0, 1) := by decide +kernel
theorem dL_law_820 : decode cL_law 820 = .ok (.iload_n 3, 1) := by decide +kernel
theorem dL_law_821 : decode cL_law 821 = .ok (.iconst 1, 1) := by decide +kernel
theorem dL_law_822 : decode cL_law 822 = .ok (.iadd, 1) := by decide +kernel
theorem dL_law_823 : decode cL_law 823 = .ok (.iaload, 1) := by decide +kernel
theorem dL_law_824 : decode cL_law 824 = .ok (.aload_n 0, 1) := by decide +kernel
theorem dL_law_825 : decode cL_law 825 = .ok (.iload_n 3, 1) := by decide +kernel
theorem dL_law_826 : decode cL_law 826 = .ok (.iconst 2, 1) := by decide +kernel
theorem dL_law_827 : decode cL_law 827 = .ok (.iadd, 1) := by decide +kernel
theorem dL_law_828 : decode cL_law 828 = .ok (.iaload, 1) := by decide +kernel
theorem dL_law_829 : decode cL_law 829 = .ok (.aload_n 0, 1) := by decide +kernel
theorem dL_law_830 : decode cL_law 830 = .ok (.iload_n 3, 1) := by decide +kernel
theorem dL_law_831 : decode cL_law 831 = .ok (.iconst 3, 1) := by decide +kernel
theorem dL_law_832 : decode cL_law 832 = .ok (.iadd, 1) := by decide +kernel
theorem dL_law_833 : decode cL_law 833 = .ok (.iaload, 1) := by decide +kernel
theorem dL_law_834 : decode cL_law 834 = .ok (.invokevirtual 101, 3) := by decide +kernel
theorem dL_law_837 : decode cL_law 837 = .ok (.lcmp, 1) := by decide +kernel
theorem dL_law_838 : decode cL_law 838 = .ok (.ifCond .eq 544, 3) := by decide +kernel
theorem dL_law_841 : decode cL_law 841 = .ok (.iconst 0, 1) := by decide +kernel
theorem dL_law_842 : decode cL_law 842 = .ok (.ireturn, 1) := by decide +kernel
theorem dL_law_843 : decode cL_law 843 = .ok (.aload_n 1, 1) := by decide +kernel
theorem dL_law_844 : decode cL_law 844 = .ok (.aload_n 0, 1) := by decide +kernel
theorem dL_law_845 : decode cL_law 845 = .ok (.iload_n 3, 1) := by decide +kernel
theorem dL_law_846 : decode cL_law 846 = .ok (.iconst 1, 1) := by decide +kernel
theorem dL_law_847 : decode cL_law 847 = .ok (.iadd, 1) := by decide +kernel
theorem dL_law_848 : decode cL_law 848 = .ok (.iaload, 1) := by decide +kernel
theorem dL_law_849 : decode cL_law 849 = .ok (.invokevirtual 102, 3) := by decide +kernel
theorem dL_law_852 : decode cL_law 852 = .ok (.aload_n 2, 1) := by decide +kernel
theorem dL_law_853 : decode cL_law 853 = .ok (.aload_n 0, 1) := by decide +kernel
theorem dL_law_854 : decode cL_law 854 = .ok (.iload_n 3, 1) := by decide +kernel
theorem dL_law_855 : decode cL_law 855 = .ok (.iconst 1, 1) := by decide +kernel
theorem dL_law_856 : decode cL_law 856 = .ok (.iadd, 1) := by decide +kernel
theorem dL_law_857 : decode cL_law 857 = .ok (.iaload, 1) := by decide +kernel
theorem dL_law_858 : decode cL_law 858 = .ok (.invokevirtual 105, 3) := by decide +kernel
theorem dL_law_861 : decode cL_law 861 = .ok (.if_icmp .eq 521, 3) := by decide +kernel
theorem dL_law_864 : decode cL_law 864 = .ok (.iconst 0, 1) := by decide +kernel
theorem dL_law_865 : decode cL_law 865 = .ok (.ireturn, 1) := by decide +kernel
theorem dL_law_866 : decode cL_law 866 = .ok (.aload_n 1, 1) := by decide +kernel
theorem dL_law_867 : decode cL_law 867 = .ok (.aload_n 0, 1) := by decide +kernel
theorem dL_law_868 : decode cL_law 868 = .ok (.iload_n 3, 1) := by decide +kernel
theorem dL_law_869 : decode cL_law 869 = .ok (.iconst 1, 1) := by decide +kernel
theorem dL_law_870 : decode cL_law 870 = .ok (.iadd, 1) := by decide +kernel
theorem dL_law_871 : decode cL_law 871 = .ok (.iaload, 1) := by decide +kernel
theorem dL_law_872 : decode cL_law 872 = .ok (.invokevirtual 106, 3) := by decide +kernel
theorem dL_law_875 : decode cL_law 875 = .ok (.aload_n 2, 1) := by decide +kernel
theorem dL_law_876 : decode cL_law 876 = .ok (.aload_n 0, 1) := by decide +kernel
theorem dL_law_877 : decode cL_law 877 = .ok (.iload_n 3, 1) := by decide +kernel
theorem dL_law_878 : decode cL_law 878 = .ok (.iconst 1, 1) := by decide +kernel
theorem dL_law_879 : decode cL_law 879 = .ok (.iadd, 1) := by decide +kernel
theorem dL_law_880 : decode cL_law 880 = .ok (.iaload, 1) := by decide +kernel
theorem dL_law_881 : decode cL_law 881 = .ok (.invokevirtual 109, 3) := by decide +kernel
theorem dL_law_884 : decode cL_law 884 = .ok (.if_icmp .eq 498, 3) := by decide +kernel
theorem dL_law_887 : decode cL_law 887 = .ok (.iconst 0, 1) := by decide +kernel
theorem dL_law_888 : decode cL_law 888 = .ok (.ireturn, 1) := by decide +kernel
theorem dL_law_889 : decode cL_law 889 = .ok (.aload_n 1, 1) := by decide +kernel
theorem dL_law_890 : decode cL_law 890 = .ok (.aload_n 0, 1) := by decide +kernel
theorem dL_law_891 : decode cL_law 891 = .ok (.iload_n 3, 1) := by decide +kernel
theorem dL_law_892 : decode cL_law 892 = .ok (.iconst 1, 1) := by decide +kernel
theorem dL_law_893 : decode cL_law 893 = .ok (.iadd, 1) := by decide +kernel
theorem dL_law_894 : decode cL_law 894 = .ok (.iaload, 1) := by decide +kernel
theorem dL_law_895 : decode cL_law 895 = .ok (.aload_n 0, 1) := by decide +kernel
theorem dL_law_896 : decode cL_law 896 = .ok (.iload_n 3, 1) := by decide +kernel
theorem dL_law_897 : decode cL_law 897 = .ok (.iconst 2, 1) := by decide +kernel
theorem dL_law_898 : decode cL_law 898 = .ok (.iadd, 1) := by decide +kernel
theorem dL_law_899 : decode cL_law 899 = .ok (.iaload, 1) := by decide +kernel
theorem dL_law_900 : decode cL_law 900 = .ok (.aload_n 0, 1) := by decide +kernel
theorem dL_law_901 : decode cL_law 901 = .ok (.iload_n 3, 1) := by decide +kernel
theorem dL_law_902 : decode cL_law 902 = .ok (.iconst 3, 1) := by decide +kernel
theorem dL_law_903 : decode cL_law 903 = .ok (.iadd, 1) := by decide +kernel
theorem dL_law_904 : decode cL_law 904 = .ok (.iaload, 1) := by decide +kernel
theorem dL_law_905 : decode cL_law 905 = .ok (.aload_n 0, 1) := by decide +kernel
theorem dL_law_906 : decode cL_law 906 = .ok (.iload_n 3, 1) := by decide +kernel
theorem dL_law_907 : decode cL_law 907 = .ok (.iconst 4, 1) := by decide +kernel
theorem dL_law_908 : decode cL_law 908 = .ok (.iadd, 1) := by decide +kernel
theorem dL_law_909 : decode cL_law 909 = .ok (.iaload, 1) := by decide +kernel
theorem dL_law_910 : decode cL_law 910 = .ok (.invokevirtual 110, 3) := by decide +kernel
theorem dL_law_913 : decode cL_law 913 = .ok (.aload_n 2, 1) := by decide +kernel
theorem dL_law_914 : decode cL_law 914 = .ok (.aload_n 0, 1) := by decide +kernel
theorem dL_law_915 : decode cL_law 915 = .ok (.iload_n 3, 1) := by decide +kernel
theorem dL_law_916 : decode cL_law 916 = .ok (.iconst 1, 1) := by decide +kernel
theorem dL_law_917 : decode cL_law 917 = .ok (.iadd, 1) := by decide +kernel
theorem dL_law_918 : decode cL_law 918 = .ok (.iaload, 1) := by decide +kernel
theorem dL_law_919 : decode cL_law 919 = .ok (.aload_n 0, 1) := by decide +kernel
theorem dL_law_920 : decode cL_law 920 = .ok (.iload_n 3, 1) := by decide +kernel
theorem dL_law_921 : decode cL_law 921 = .ok (.iconst 2, 1) := by decide +kernel
theorem dL_law_922 : decode cL_law 922 = .ok (.iadd, 1) := by decide +kernel
theorem dL_law_923 : decode cL_law 923 = .ok (.iaload, 1) := by decide +kernel
theorem dL_law_924 : decode cL_law 924 = .ok (.aload_n 0, 1) := by decide +kernel
theorem dL_law_925 : decode cL_law 925 = .ok (.iload_n 3, 1) := by decide +kernel
theorem dL_law_926 : decode cL_law 926 = .ok (.iconst 3, 1) := by decide +kernel
theorem dL_law_927 : decode cL_law 927 = .ok (.iadd, 1) := by decide +kernel
theorem dL_law_928 : decode cL_law 928 = .ok (.iaload, 1) := by decide +kernel
theorem dL_law_929 : decode cL_law 929 = .ok (.aload_n 0, 1) := by decide +kernel
theorem dL_law_930 : decode cL_law 930 = .ok (.iload_n 3, 1) := by decide +kernel
theorem dL_law_931 : decode cL_law 931 = .ok (.iconst 4, 1) := by decide +kernel
theorem dL_law_932 : decode cL_law 932 = .ok (.iadd, 1) := by decide +kernel
theorem dL_law_933 : decode cL_law 933 = .ok (.iaload, 1) := by decide +kernel
theorem dL_law_934 : decode cL_law 934 = .ok (.invokevirtual 114, 3) := by decide +kernel
theorem dL_law_937 : decode cL_law 937 = .ok (.if_icmp .eq 445, 3) := by decide +kernel
theorem dL_law_940 : decode cL_law 940 = .ok (.iconst 0, 1) := by decide +kernel
theorem dL_law_941 : decode cL_law 941 = .ok (.ireturn, 1) := by decide +kernel
theorem dL_law_942 : decode cL_law 942 = .ok (.aload_n 1, 1) := by decide +kernel
theorem dL_law_943 : decode cL_law 943 = .ok (.aload_n 0, 1) := by decide +kernel
theorem dL_law_944 : decode cL_law 944 = .ok (.iload_n 3, 1) := by decide +kernel
theorem dL_law_945 : decode cL_law 945 = .ok (.iconst 1, 1) := by decide +kernel
theorem dL_law_946 : decode cL_law 946 = .ok (.iadd, 1) := by decide +kernel
theorem dL_law_947 : decode cL_law 947 = .ok (.iaload, 1) := by decide +kernel
theorem dL_law_948 : decode cL_law 948 = .ok (.aload_n 0, 1) := by decide +kernel
theorem dL_law_949 : decode cL_law 949 = .ok (.iload_n 3, 1) := by decide +kernel
theorem dL_law_950 : decode cL_law 950 = .ok (.iconst 2, 1) := by decide +kernel
theorem dL_law_951 : decode cL_law 951 = .ok (.iadd, 1) := by decide +kernel
theorem dL_law_952 : decode cL_law 952 = .ok (.iaload, 1) := by decide +kernel
theorem dL_law_953 : decode cL_law 953 = .ok (.aload_n 0, 1) := by decide +kernel
theorem dL_law_954 : decode cL_law 954 = .ok (.iload_n 3, 1) := by decide +kernel
theorem dL_law_955 : decode cL_law 955 = .ok (.iconst 3, 1) := by decide +kernel
theorem dL_law_956 : decode cL_law 956 = .ok (.iadd, 1) := by decide +kernel
theorem dL_law_957 : decode cL_law 957 = .ok (.iaload, 1) := by decide +kernel
theorem dL_law_958 : decode cL_law 958 = .ok (.invokevirtual 115, 3) := by decide +kernel
theorem dL_law_961 : decode cL_law 961 = .ok (.aload_n 2, 1) := by decide +kernel
theorem dL_law_962 : decode cL_law 962 = .ok (.aload_n 0, 1) := by decide +kernel
theorem dL_law_963 : decode cL_law 963 = .ok (.iload_n 3, 1) := by decide +kernel
theorem dL_law_964 : decode cL_law 964 = .ok (.iconst 1, 1) := by decide +kernel
theorem dL_law_965 : decode cL_law 965 = .ok (.iadd, 1) := by decide +kernel
theorem dL_law_966 : decode cL_law 966 = .ok (.iaload, 1) := by decide +kernel
theorem dL_law_967 : decode cL_law 967 = .ok (.aload_n 0, 1) := by decide +kernel
theorem dL_law_968 : decode cL_law 968 = .ok (.iload_n 3, 1) := by decide +kernel
theorem dL_law_969 : decode cL_law 969 = .ok (.iconst 2, 1) := by decide +kernel
theorem dL_law_970 : decode cL_law 970 = .ok (.iadd, 1) := by decide +kernel
theorem dL_law_971 : decode cL_law 971 = .ok (.iaload, 1) := by decide +kernel
theorem dL_law_972 : decode cL_law 972 = .ok (.aload_n 0, 1) := by decide +kernel
theorem dL_law_973 : decode cL_law 973 = .ok (.iload_n 3, 1) := by decide +kernel
theorem dL_law_974 : decode cL_law 974 = .ok (.iconst 3, 1) := by decide +kernel
theorem dL_law_975 : decode cL_law 975 = .ok (.iadd, 1) := by decide +kernel
theorem dL_law_976 : decode cL_law 976 = .ok (.iaload, 1) := by decide +kernel
theorem dL_law_977 : decode cL_law 977 = .ok (.invokevirtual 118, 3) := by decide +kernel
theorem dL_law_980 : decode cL_law 980 = .ok (.if_icmp .eq 402, 3) := by decide +kernel
theorem dL_law_983 : decode cL_law 983 = .ok (.iconst 0, 1) := by decide +kernel
theorem dL_law_984 : decode cL_law 984 = .ok (.ireturn, 1) := by decide +kernel
theorem dL_law_985 : decode cL_law 985 = .ok (.aload_n 1, 1) := by decide +kernel
theorem dL_law_986 : decode cL_law 986 = .ok (.aload_n 0, 1) := by decide +kernel
theorem dL_law_987 : decode cL_law 987 = .ok (.iload_n 3, 1) := by decide +kernel
theorem dL_law_988 : decode cL_law 988 = .ok (.iconst 1, 1) := by decide +kernel
theorem dL_law_989 : decode cL_law 989 = .ok (.iadd, 1) := by decide +kernel
theorem dL_law_990 : decode cL_law 990 = .ok (.iaload, 1) := by decide +kernel
theorem dL_law_991 : decode cL_law 991 = .ok (.invokevirtual 119, 3) := by decide +kernel
theorem dL_law_994 : decode cL_law 994 = .ok (.aload_n 2, 1) := by decide +kernel
theorem dL_law_995 : decode cL_law 995 = .ok (.aload_n 0, 1) := by decide +kernel
theorem dL_law_996 : decode cL_law 996 = .ok (.iload_n 3, 1) := by decide +kernel
theorem dL_law_997 : decode cL_law 997 = .ok (.iconst 1, 1) := by decide +kernel
theorem dL_law_998 : decode cL_law 998 = .ok (.iadd, 1) := by decide +kernel
theorem dL_law_999 : decode cL_law 999 = .ok (.iaload, 1) := by decide +kernel
theorem dL_law_1000 : decode cL_law 1000 = .ok (.invokevirtual 122, 3) := by decide +kernel
theorem dL_law_1003 : decode cL_law 1003 = .ok (.if_icmp .eq 379, 3) := by decide +kernel
theorem dL_law_1006 : decode cL_law 1006 = .ok (.iconst 0, 1) := by decide +kernel
theorem dL_law_1007 : decode cL_law 1007 = .ok (.ireturn, 1) := by decide +kernel
theorem dL_law_1008 : decode cL_law 1008 = .ok (.aload_n 1, 1) := by decide +kernel
theorem dL_law_1009 : decode cL_law 1009 = .ok (.aload_n 0, 1) := by decide +kernel
theorem dL_law_1010 : decode cL_law 1010 = .ok (.iload_n 3, 1) := by decide +kernel
theorem dL_law_1011 : decode cL_law 1011 = .ok (.iconst 1, 1) := by decide +kernel
theorem dL_law_1012 : decode cL_law 1012 = .ok (.iadd, 1) := by decide +kernel
theorem dL_law_1013 : decode cL_law 1013 = .ok (.iaload, 1) := by decide +kernel
theorem dL_law_1014 : decode cL_law 1014 = .ok (.invokevirtual 123, 3) := by decide +kernel
theorem dL_law_1017 : decode cL_law 1017 = .ok (.aload_n 2, 1) := by decide +kernel
theorem dL_law_1018 : decode cL_law 1018 = .ok (.aload_n 0, 1) := by decide +kernel
theorem dL_law_1019 : decode cL_law 1019 = .ok (.iload_n 3, 1) := by decide +kernel
theorem dL_law_1020 : decode cL_law 1020 = .ok (.iconst 1, 1) := by decide +kernel
theorem dL_law_1021 : decode cL_law 1021 = .ok (.iadd, 1) := by decide +kernel
theorem dL_law_1022 : decode cL_law 1022 = .ok (.iaload, 1) := by decide +kernel
theorem dL_law_1023 : decode cL_law 1023 = .ok (.invokevirtual 126, 3) := by decide +kernel
theorem dL_law_1026 : decode cL_law 1026 = .ok (.if_icmp .eq 356, 3) := by decide +kernel
theorem dL_law_1029 : decode cL_law 1029 = .ok (.iconst 0, 1) := by decide +kernel
theorem dL_law_1030 : decode cL_law 1030 = .ok (.ireturn, 1) := by decide +kernel
theorem dL_law_1031 : decode cL_law 1031 = .ok (.aload_n 1, 1) := by decide +kernel
theorem dL_law_1032 : decode cL_law 1032 = .ok (.invokevirtual 127, 3) := by decide +kernel
theorem dL_law_1035 : decode cL_law 1035 = .ok (.aload_n 2, 1) := by decide +kernel
theorem dL_law_1036 : decode cL_law 1036 = .ok (.invokevirtual 130, 3) := by decide +kernel
theorem dL_law_1039 : decode cL_law 1039 = .ok (.if_icmp .eq 343, 3) := by decide +kernel
theorem dL_law_1042 : decode cL_law 1042 = .ok (.iconst 0, 1) := by decide +kernel
theorem dL_law_1043 : decode cL_law 1043 = .ok (.ireturn, 1) := by decide +kernel
theorem dL_law_1044 : decode cL_law 1044 = .ok (.aload_n 1, 1) := by decide +kernel
theorem dL_law_1045 : decode cL_law 1045 = .ok (.aload_n 0, 1) := by decide +kernel
theorem dL_law_1046 : decode cL_law 1046 = .ok (.iload_n 3, 1) := by decide +kernel
theorem dL_law_1047 : decode cL_law 1047 = .ok (.iconst 1, 1) := by decide +kernel
theorem dL_law_1048 : decode cL_law 1048 = .ok (.iadd, 1) := by decide +kernel
theorem dL_law_1049 : decode cL_law 1049 = .ok (.iaload, 1) := by decide +kernel
theorem dL_law_1050 : decode cL_law 1050 = .ok (.aload_n 0, 1) := by decide +kernel
theorem dL_law_1051 : decode cL_law 1051 = .ok (.iload_n 3, 1) := by decide +kernel
theorem dL_law_1052 : decode cL_law 1052 = .ok (.iconst 2, 1) := by decide +kernel
theorem dL_law_1053 : decode cL_law 1053 = .ok (.iadd, 1) := by decide +kernel
theorem dL_law_1054 : decode cL_law 1054 = .ok (.iaload, 1) := by decide +kernel
theorem dL_law_1055 : decode cL_law 1055 = .ok (.invokevirtual 131, 3) := by decide +kernel
theorem dL_law_1058 : decode cL_law 1058 = .ok (.aload_n 2, 1) := by decide +kernel
theorem dL_law_1059 : decode cL_law 1059 = .ok (.aload_n 0, 1) := by decide +kernel
theorem dL_law_1060 : decode cL_law 1060 = .ok (.iload_n 3, 1) := by decide +kernel
theorem dL_law_1061 : decode cL_law 1061 = .ok (.iconst 1, 1) := by decide +kernel
theorem dL_law_1062 : decode cL_law 1062 = .ok (.iadd, 1) := by decide +kernel
theorem dL_law_1063 : decode cL_law 1063 = .ok (.iaload, 1) := by decide +kernel
theorem dL_law_1064 : decode cL_law 1064 = .ok (.aload_n 0, 1) := by decide +kernel
theorem dL_law_1065 : decode cL_law 1065 = .ok (.iload_n 3, 1) := by decide +kernel
theorem dL_law_1066 : decode cL_law 1066 = .ok (.iconst 2, 1) := by decide +kernel
theorem dL_law_1067 : decode cL_law 1067 = .ok (.iadd, 1) := by decide +kernel
theorem dL_law_1068 : decode cL_law 1068 = .ok (.iaload, 1) := by decide +kernel
theorem dL_law_1069 : decode cL_law 1069 = .ok (.invokevirtual 134, 3) := by decide +kernel
theorem dL_law_1072 : decode cL_law 1072 = .ok (.if_icmp .eq 310, 3) := by decide +kernel
theorem dL_law_1075 : decode cL_law 1075 = .ok (.iconst 0, 1) := by decide +kernel
theorem dL_law_1076 : decode cL_law 1076 = .ok (.ireturn, 1) := by decide +kernel
theorem dL_law_1077 : decode cL_law 1077 = .ok (.aload_n 1, 1) := by decide +kernel
theorem dL_law_1078 : decode cL_law 1078 = .ok (.aload_n 0, 1) := by decide +kernel
theorem dL_law_1079 : decode cL_law 1079 = .ok (.iload_n 3, 1) := by decide +kernel
theorem dL_law_1080 : decode cL_law 1080 = .ok (.iconst 1, 1) := by decide +kernel
theorem dL_law_1081 : decode cL_law 1081 = .ok (.iadd, 1) := by decide +kernel
theorem dL_law_1082 : decode cL_law 1082 = .ok (.iaload, 1) := by decide +kernel
theorem dL_law_1083 : decode cL_law 1083 = .ok (.aload_n 0, 1) := by decide +kernel
theorem dL_law_1084 : decode cL_law 1084 = .ok (.iload_n 3, 1) := by decide +kernel
theorem dL_law_1085 : decode cL_law 1085 = .ok (.iconst 2, 1) := by decide +kernel
theorem dL_law_1086 : decode cL_law 1086 = .ok (.iadd, 1) := by decide +kernel
theorem dL_law_1087 : decode cL_law 1087 = .ok (.iaload, 1) := by decide +kernel
theorem dL_law_1088 : decode cL_law 1088 = .ok (.aload_n 0, 1) := by decide +kernel
theorem dL_law_1089 : decode cL_law 1089 = .ok (.iload_n 3, 1) := by decide +kernel
theorem dL_law_1090 : decode cL_law 1090 = .ok (.iconst 3, 1) := by decide +kernel
theorem dL_law_1091 : decode cL_law 1091 = .ok (.iadd, 1) := by decide +kernel
theorem dL_law_1092 : decode cL_law 1092 = .ok (.iaload, 1) := by decide +kernel
theorem dL_law_1093 : decode cL_law 1093 = .ok (.invokevirtual 135, 3) := by decide +kernel
theorem dL_law_1096 : decode cL_law 1096 = .ok (.aload_n 2, 1) := by decide +kernel
theorem dL_law_1097 : decode cL_law 1097 = .ok (.aload_n 0, 1) := by decide +kernel
theorem dL_law_1098 : decode cL_law 1098 = .ok (.iload_n 3, 1) := by decide +kernel
theorem dL_law_1099 : decode cL_law 1099 = .ok (.iconst 1, 1) := by decide +kernel
theorem dL_law_1100 : decode cL_law 1100 = .ok (.iadd, 1) := by decide +kernel
theorem dL_law_1101 : decode cL_law 1101 = .ok (.iaload, 1) := by decide +kernel
theorem dL_law_1102 : decode cL_law 1102 = .ok (.aload_n 0, 1) := by decide +kernel
theorem dL_law_1103 : decode cL_law 1103 = .ok (.iload_n 3, 1) := by decide +kernel
theorem dL_law_1104 : decode cL_law 1104 = .ok (.iconst 2, 1) := by decide +kernel
theorem dL_law_1105 : decode cL_law 1105 = .ok (.iadd, 1) := by decide +kernel
theorem dL_law_1106 : decode cL_law 1106 = .ok (.iaload, 1) := by decide +kernel
theorem dL_law_1107 : decode cL_law 1107 = .ok (.aload_n 0, 1) := by decide +kernel
theorem dL_law_1108 : decode cL_law 1108 = .ok (.iload_n 3, 1) := by decide +kernel
theorem dL_law_1109 : decode cL_law 1109 = .ok (.iconst 3, 1) := by decide +kernel
theorem dL_law_1110 : decode cL_law 1110 = .ok (.iadd, 1) := by decide +kernel
theorem dL_law_1111 : decode cL_law 1111 = .ok (.iaload, 1) := by decide +kernel
theorem dL_law_1112 : decode cL_law 1112 = .ok (.invokevirtual 138, 3) := by decide +kernel
theorem dL_law_1115 : decode cL_law 1115 = .ok (.lcmp, 1) := by decide +kernel
theorem dL_law_1116 : decode cL_law 1116 = .ok (.ifCond .eq 266, 3) := by decide +kernel
theorem dL_law_1119 : decode cL_law 1119 = .ok (.iconst 0, 1) := by decide +kernel
theorem dL_law_1120 : decode cL_law 1120 = .ok (.ireturn, 1) := by decide +kernel
theorem dL_law_1121 : decode cL_law 1121 = .ok (.aload_n 1, 1) := by decide +kernel
theorem dL_law_1122 : decode cL_law 1122 = .ok (.aload_n 0, 1) := by decide +kernel
theorem dL_law_1123 : decode cL_law 1123 = .ok (.iload_n 3, 1) := by decide +kernel
theorem dL_law_1124 : decode cL_law 1124 = .ok (.iconst 1, 1) := by decide +kernel
theorem dL_law_1125 : decode cL_law 1125 = .ok (.iadd, 1) := by decide +kernel
theorem dL_law_1126 : decode cL_law 1126 = .ok (.iaload, 1) := by decide +kernel
theorem dL_law_1127 : decode cL_law 1127 = .ok (.aload_n 0, 1) := by decide +kernel
theorem dL_law_1128 : decode cL_law 1128 = .ok (.iload_n 3, 1) := by decide +kernel
theorem dL_law_1129 : decode cL_law 1129 = .ok (.iconst 2, 1) := by decide +kernel
theorem dL_law_1130 : decode cL_law 1130 = .ok (.iadd, 1) := by decide +kernel
theorem dL_law_1131 : decode cL_law 1131 = .ok (.iaload, 1) := by decide +kernel
theorem dL_law_1132 : decode cL_law 1132 = .ok (.aload_n 0, 1) := by decide +kernel
theorem dL_law_1133 : decode cL_law 1133 = .ok (.iload_n 3, 1) := by decide +kernel
theorem dL_law_1134 : decode cL_law 1134 = .ok (.iconst 3, 1) := by decide +kernel
theorem dL_law_1135 : decode cL_law 1135 = .ok (.iadd, 1) := by decide +kernel
theorem dL_law_1136 : decode cL_law 1136 = .ok (.iaload, 1) := by decide +kernel
theorem dL_law_1137 : decode cL_law 1137 = .ok (.invokevirtual 139, 3) := by decide +kernel
theorem dL_law_1140 : decode cL_law 1140 = .ok (.aload_n 2, 1) := by decide +kernel
theorem dL_law_1141 : decode cL_law 1141 = .ok (.aload_n 0, 1) := by decide +kernel
theorem dL_law_1142 : decode cL_law 1142 = .ok (.iload_n 3, 1) := by decide +kernel
theorem dL_law_1143 : decode cL_law 1143 = .ok (.iconst 1, 1) := by decide +kernel
theorem dL_law_1144 : decode cL_law 1144 = .ok (.iadd, 1) := by decide +kernel
theorem dL_law_1145 : decode cL_law 1145 = .ok (.iaload, 1) := by decide +kernel
theorem dL_law_1146 : decode cL_law 1146 = .ok (.aload_n 0, 1) := by decide +kernel
theorem dL_law_1147 : decode cL_law 1147 = .ok (.iload_n 3, 1) := by decide +kernel
theorem dL_law_1148 : decode cL_law 1148 = .ok (.iconst 2, 1) := by decide +kernel
theorem dL_law_1149 : decode cL_law 1149 = .ok (.iadd, 1) := by decide +kernel
theorem dL_law_1150 : decode cL_law 1150 = .ok (.iaload, 1) := by decide +kernel
theorem dL_law_1151 : decode cL_law 1151 = .ok (.aload_n 0, 1) := by decide +kernel
theorem dL_law_1152 : decode cL_law 1152 = .ok (.iload_n 3, 1) := by decide +kernel
theorem dL_law_1153 : decode cL_law 1153 = .ok (.iconst 3, 1) := by decide +kernel
theorem dL_law_1154 : decode cL_law 1154 = .ok (.iadd, 1) := by decide +kernel
theorem dL_law_1155 : decode cL_law 1155 = .ok (.iaload, 1) := by decide +kernel
theorem dL_law_1156 : decode cL_law 1156 = .ok (.invokevirtual 142, 3) := by decide +kernel
theorem dL_law_1159 : decode cL_law 1159 = .ok (.if_icmp .eq 223, 3) := by decide +kernel
theorem dL_law_1162 : decode cL_law 1162 = .ok (.iconst 0, 1) := by decide +kernel
theorem dL_law_1163 : decode cL_law 1163 = .ok (.ireturn, 1) := by decide +kernel
theorem dL_law_1164 : decode cL_law 1164 = .ok (.aload_n 1, 1) := by decide +kernel
theorem dL_law_1165 : decode cL_law 1165 = .ok (.invokevirtual 143, 3) := by decide +kernel
theorem dL_law_1168 : decode cL_law 1168 = .ok (.aload_n 2, 1) := by decide +kernel
theorem dL_law_1169 : decode cL_law 1169 = .ok (.invokevirtual 146, 3) := by decide +kernel
theorem dL_law_1172 : decode cL_law 1172 = .ok (.if_icmp .eq 210, 3) := by decide +kernel
theorem dL_law_1175 : decode cL_law 1175 = .ok (.iconst 0, 1) := by decide +kernel
theorem dL_law_1176 : decode cL_law 1176 = .ok (.ireturn, 1) := by decide +kernel
theorem dL_law_1177 : decode cL_law 1177 = .ok (.aload_n 1, 1) := by decide +kernel
theorem dL_law_1178 : decode cL_law 1178 = .ok (.invokevirtual 147, 3) := by decide +kernel
theorem dL_law_1181 : decode cL_law 1181 = .ok (.aload_n 2, 1) := by decide +kernel
theorem dL_law_1182 : decode cL_law 1182 = .ok (.invokevirtual 150, 3) := by decide +kernel
theorem dL_law_1185 : decode cL_law 1185 = .ok (.if_icmp .eq 197, 3) := by decide +kernel
theorem dL_law_1188 : decode cL_law 1188 = .ok (.iconst 0, 1) := by decide +kernel
theorem dL_law_1189 : decode cL_law 1189 = .ok (.ireturn, 1) := by decide +kernel
theorem dL_law_1190 : decode cL_law 1190 = .ok (.aload_n 1, 1) := by decide +kernel
theorem dL_law_1191 : decode cL_law 1191 = .ok (.aload_n 0, 1) := by decide +kernel
theorem dL_law_1192 : decode cL_law 1192 = .ok (.iload_n 3, 1) := by decide +kernel
theorem dL_law_1193 : decode cL_law 1193 = .ok (.iconst 1, 1) := by decide +kernel
theorem dL_law_1194 : decode cL_law 1194 = .ok (.iadd, 1) := by decide +kernel
theorem dL_law_1195 : decode cL_law 1195 = .ok (.iaload, 1) := by decide +kernel
theorem dL_law_1196 : decode cL_law 1196 = .ok (.invokevirtual 151, 3) := by decide +kernel
theorem dL_law_1199 : decode cL_law 1199 = .ok (.aload_n 2, 1) := by decide +kernel
theorem dL_law_1200 : decode cL_law 1200 = .ok (.aload_n 0, 1) := by decide +kernel
theorem dL_law_1201 : decode cL_law 1201 = .ok (.iload_n 3, 1) := by decide +kernel
theorem dL_law_1202 : decode cL_law 1202 = .ok (.iconst 1, 1) := by decide +kernel
theorem dL_law_1203 : decode cL_law 1203 = .ok (.iadd, 1) := by decide +kernel
theorem dL_law_1204 : decode cL_law 1204 = .ok (.iaload, 1) := by decide +kernel
theorem dL_law_1205 : decode cL_law 1205 = .ok (.invokevirtual 154, 3) := by decide +kernel
theorem dL_law_1208 : decode cL_law 1208 = .ok (.if_icmp .eq 174, 3) := by decide +kernel
theorem dL_law_1211 : decode cL_law 1211 = .ok (.iconst 0, 1) := by decide +kernel
theorem dL_law_1212 : decode cL_law 1212 = .ok (.ireturn, 1) := by decide +kernel
theorem dL_law_1213 : decode cL_law 1213 = .ok (.aload_n 1, 1) := by decide +kernel
theorem dL_law_1214 : decode cL_law 1214 = .ok (.aload_n 0, 1) := by decide +kernel
theorem dL_law_1215 : decode cL_law 1215 = .ok (.iload_n 3, 1) := by decide +kernel
theorem dL_law_1216 : decode cL_law 1216 = .ok (.iconst 1, 1) := by decide +kernel
theorem dL_law_1217 : decode cL_law 1217 = .ok (.iadd, 1) := by decide +kernel
theorem dL_law_1218 : decode cL_law 1218 = .ok (.iaload, 1) := by decide +kernel
theorem dL_law_1219 : decode cL_law 1219 = .ok (.aload_n 0, 1) := by decide +kernel
theorem dL_law_1220 : decode cL_law 1220 = .ok (.iload_n 3, 1) := by decide +kernel
theorem dL_law_1221 : decode cL_law 1221 = .ok (.iconst 2, 1) := by decide +kernel
theorem dL_law_1222 : decode cL_law 1222 = .ok (.iadd, 1) := by decide +kernel
theorem dL_law_1223 : decode cL_law 1223 = .ok (.iaload, 1) := by decide +kernel
theorem dL_law_1224 : decode cL_law 1224 = .ok (.invokevirtual 155, 3) := by decide +kernel
theorem dL_law_1227 : decode cL_law 1227 = .ok (.aload_n 2, 1) := by decide +kernel
theorem dL_law_1228 : decode cL_law 1228 = .ok (.aload_n 0, 1) := by decide +kernel
theorem dL_law_1229 : decode cL_law 1229 = .ok (.iload_n 3, 1) := by decide +kernel
theorem dL_law_1230 : decode cL_law 1230 = .ok (.iconst 1, 1) := by decide +kernel
theorem dL_law_1231 : decode cL_law 1231 = .ok (.iadd, 1) := by decide +kernel
theorem dL_law_1232 : decode cL_law 1232 = .ok (.iaload, 1) := by decide +kernel
theorem dL_law_1233 : decode cL_law 1233 = .ok (.aload_n 0, 1) := by decide +kernel
theorem dL_law_1234 : decode cL_law 1234 = .ok (.iload_n 3, 1) := by decide +kernel
theorem dL_law_1235 : decode cL_law 1235 = .ok (.iconst 2, 1) := by decide +kernel
theorem dL_law_1236 : decode cL_law 1236 = .ok (.iadd, 1) := by decide +kernel
theorem dL_law_1237 : decode cL_law 1237 = .ok (.iaload, 1) := by decide +kernel
theorem dL_law_1238 : decode cL_law 1238 = .ok (.invokevirtual 158, 3) := by decide +kernel
theorem dL_law_1241 : decode cL_law 1241 = .ok (.if_icmp .eq 141, 3) := by decide +kernel
theorem dL_law_1244 : decode cL_law 1244 = .ok (.iconst 0, 1) := by decide +kernel
theorem dL_law_1245 : decode cL_law 1245 = .ok (.ireturn, 1) := by decide +kernel
theorem dL_law_1246 : decode cL_law 1246 = .ok (.aload_n 1, 1) := by decide +kernel
theorem dL_law_1247 : decode cL_law 1247 = .ok (.aload_n 0, 1) := by decide +kernel
theorem dL_law_1248 : decode cL_law 1248 = .ok (.iload_n 3, 1) := by decide +kernel
theorem dL_law_1249 : decode cL_law 1249 = .ok (.iconst 1, 1) := by decide +kernel
theorem dL_law_1250 : decode cL_law 1250 = .ok (.iadd, 1) := by decide +kernel
theorem dL_law_1251 : decode cL_law 1251 = .ok (.iaload, 1) := by decide +kernel
theorem dL_law_1252 : decode cL_law 1252 = .ok (.aload_n 0, 1) := by decide +kernel
theorem dL_law_1253 : decode cL_law 1253 = .ok (.iload_n 3, 1) := by decide +kernel
theorem dL_law_1254 : decode cL_law 1254 = .ok (.iconst 2, 1) := by decide +kernel
theorem dL_law_1255 : decode cL_law 1255 = .ok (.iadd, 1) := by decide +kernel
theorem dL_law_1256 : decode cL_law 1256 = .ok (.iaload, 1) := by decide +kernel
theorem dL_law_1257 : decode cL_law 1257 = .ok (.aload_n 0, 1) := by decide +kernel
theorem dL_law_1258 : decode cL_law 1258 = .ok (.iload_n 3, 1) := by decide +kernel
theorem dL_law_1259 : decode cL_law 1259 = .ok (.iconst 3, 1) := by decide +kernel
theorem dL_law_1260 : decode cL_law 1260 = .ok (.iadd, 1) := by decide +kernel
theorem dL_law_1261 : decode cL_law 1261 = .ok (.iaload, 1) := by decide +kernel
theorem dL_law_1262 : decode cL_law 1262 = .ok (.invokevirtual 159, 3) := by decide +kernel
theorem dL_law_1265 : decode cL_law 1265 = .ok (.aload_n 2, 1) := by decide +kernel
theorem dL_law_1266 : decode cL_law 1266 = .ok (.aload_n 0, 1) := by decide +kernel
theorem dL_law_1267 : decode cL_law 1267 = .ok (.iload_n 3, 1) := by decide +kernel
theorem dL_law_1268 : decode cL_law 1268 = .ok (.iconst 1, 1) := by decide +kernel
theorem dL_law_1269 : decode cL_law 1269 = .ok (.iadd, 1) := by decide +kernel
theorem dL_law_1270 : decode cL_law 1270 = .ok (.iaload, 1) := by decide +kernel
theorem dL_law_1271 : decode cL_law 1271 = .ok (.aload_n 0, 1) := by decide +kernel
theorem dL_law_1272 : decode cL_law 1272 = .ok (.iload_n 3, 1) := by decide +kernel
theorem dL_law_1273 : decode cL_law 1273 = .ok (.iconst 2, 1) := by decide +kernel
theorem dL_law_1274 : decode cL_law 1274 = .ok (.iadd, 1) := by decide +kernel
theorem dL_law_1275 : decode cL_law 1275 = .ok (.iaload, 1) := by decide +kernel
theorem dL_law_1276 : decode cL_law 1276 = .ok (.aload_n 0, 1) := by decide +kernel
theorem dL_law_1277 : decode cL_law 1277 = .ok (.iload_n 3, 1) := by decide +kernel
theorem dL_law_1278 : decode cL_law 1278 = .ok (.iconst 3, 1) := by decide +kernel
theorem dL_law_1279 : decode cL_law 1279 = .ok (.iadd, 1) := by decide +kernel
theorem dL_law_1280 : decode cL_law 1280 = .ok (.iaload, 1) := by decide +kernel
theorem dL_law_1281 : decode cL_law 1281 = .ok (.invokevirtual 162, 3) := by decide +kernel
theorem dL_law_1284 : decode cL_law 1284 = .ok (.if_icmp .eq 98, 3) := by decide +kernel
theorem dL_law_1287 : decode cL_law 1287 = .ok (.iconst 0, 1) := by decide +kernel
theorem dL_law_1288 : decode cL_law 1288 = .ok (.ireturn, 1) := by decide +kernel
theorem dL_law_1289 : decode cL_law 1289 = .ok (.aload_n 1, 1) := by decide +kernel
theorem dL_law_1290 : decode cL_law 1290 = .ok (.aload_n 0, 1) := by decide +kernel
theorem dL_law_1291 : decode cL_law 1291 = .ok (.iload_n 3, 1) := by decide +kernel
theorem dL_law_1292 : decode cL_law 1292 = .ok (.iconst 1, 1) := by decide +kernel
theorem dL_law_1293 : decode cL_law 1293 = .ok (.iadd, 1) := by decide +kernel
theorem dL_law_1294 : decode cL_law 1294 = .ok (.iaload, 1) := by decide +kernel
theorem dL_law_1295 : decode cL_law 1295 = .ok (.aload_n 0, 1) := by decide +kernel
theorem dL_law_1296 : decode cL_law 1296 = .ok (.iload_n 3, 1) := by decide +kernel
theorem dL_law_1297 : decode cL_law 1297 = .ok (.iconst 2, 1) := by decide +kernel
theorem dL_law_1298 : decode cL_law 1298 = .ok (.iadd, 1) := by decide +kernel
theorem dL_law_1299 : decode cL_law 1299 = .ok (.iaload, 1) := by decide +kernel
theorem dL_law_1300 : decode cL_law 1300 = .ok (.invokevirtual 163, 3) := by decide +kernel
theorem dL_law_1303 : decode cL_law 1303 = .ok (.aload_n 2, 1) := by decide +kernel
theorem dL_law_1304 : decode cL_law 1304 = .ok (.aload_n 0, 1) := by decide +kernel
theorem dL_law_1305 : decode cL_law 1305 = .ok (.iload_n 3, 1) := by decide +kernel
theorem dL_law_1306 : decode cL_law 1306 = .ok (.iconst 1, 1) := by decide +kernel
theorem dL_law_1307 : decode cL_law 1307 = .ok (.iadd, 1) := by decide +kernel
theorem dL_law_1308 : decode cL_law 1308 = .ok (.iaload, 1) := by decide +kernel
theorem dL_law_1309 : decode cL_law 1309 = .ok (.aload_n 0, 1) := by decide +kernel
theorem dL_law_1310 : decode cL_law 1310 = .ok (.iload_n 3, 1) := by decide +kernel
theorem dL_law_1311 : decode cL_law 1311 = .ok (.iconst 2, 1) := by decide +kernel
theorem dL_law_1312 : decode cL_law 1312 = .ok (.iadd, 1) := by decide +kernel
theorem dL_law_1313 : decode cL_law 1313 = .ok (.iaload, 1) := by decide +kernel
theorem dL_law_1314 : decode cL_law 1314 = .ok (.invokevirtual 167, 3) := by decide +kernel
theorem dL_law_1317 : decode cL_law 1317 = .ok (.lcmp, 1) := by decide +kernel
theorem dL_law_1318 : decode cL_law 1318 = .ok (.ifCond .eq 64, 3) := by decide +kernel
theorem dL_law_1321 : decode cL_law 1321 = .ok (.iconst 0, 1) := by decide +kernel
theorem dL_law_1322 : decode cL_law 1322 = .ok (.ireturn, 1) := by decide +kernel
theorem dL_law_1323 : decode cL_law 1323 = .ok (.aload_n 1, 1) := by decide +kernel
theorem dL_law_1324 : decode cL_law 1324 = .ok (.aload_n 0, 1) := by decide +kernel
theorem dL_law_1325 : decode cL_law 1325 = .ok (.iload_n 3, 1) := by decide +kernel
theorem dL_law_1326 : decode cL_law 1326 = .ok (.iconst 1, 1) := by decide +kernel
theorem dL_law_1327 : decode cL_law 1327 = .ok (.iadd, 1) := by decide +kernel
theorem dL_law_1328 : decode cL_law 1328 = .ok (.iaload, 1) := by decide +kernel
theorem dL_law_1329 : decode cL_law 1329 = .ok (.aload_n 0, 1) := by decide +kernel
theorem dL_law_1330 : decode cL_law 1330 = .ok (.iload_n 3, 1) := by decide +kernel
theorem dL_law_1331 : decode cL_law 1331 = .ok (.iconst 2, 1) := by decide +kernel
theorem dL_law_1332 : decode cL_law 1332 = .ok (.iadd, 1) := by decide +kernel
theorem dL_law_1333 : decode cL_law 1333 = .ok (.iaload, 1) := by decide +kernel
theorem dL_law_1334 : decode cL_law 1334 = .ok (.invokevirtual 168, 3) := by decide +kernel
theorem dL_law_1337 : decode cL_law 1337 = .ok (.aload_n 2, 1) := by decide +kernel
theorem dL_law_1338 : decode cL_law 1338 = .ok (.aload_n 0, 1) := by decide +kernel
theorem dL_law_1339 : decode cL_law 1339 = .ok (.iload_n 3, 1) := by decide +kernel
theorem dL_law_1340 : decode cL_law 1340 = .ok (.iconst 1, 1) := by decide +kernel
theorem dL_law_1341 : decode cL_law 1341 = .ok (.iadd, 1) := by decide +kernel
theorem dL_law_1342 : decode cL_law 1342 = .ok (.iaload, 1) := by decide +kernel
theorem dL_law_1343 : decode cL_law 1343 = .ok (.aload_n 0, 1) := by decide +kernel
theorem dL_law_1344 : decode cL_law 1344 = .ok (.iload_n 3, 1) := by decide +kernel
theorem dL_law_1345 : decode cL_law 1345 = .ok (.iconst 2, 1) := by decide +kernel
theorem dL_law_1346 : decode cL_law 1346 = .ok (.iadd, 1) := by decide +kernel
theorem dL_law_1347 : decode cL_law 1347 = .ok (.iaload, 1) := by decide +kernel
theorem dL_law_1348 : decode cL_law 1348 = .ok (.invokevirtual 171, 3) := by decide +kernel
theorem dL_law_1351 : decode cL_law 1351 = .ok (.if_icmp .eq 31, 3) := by decide +kernel
theorem dL_law_1354 : decode cL_law 1354 = .ok (.iconst 0, 1) := by decide +kernel
theorem dL_law_1355 : decode cL_law 1355 = .ok (.ireturn, 1) := by decide +kernel
theorem dL_law_1356 : decode cL_law 1356 = .ok (.aload_n 1, 1) := by decide +kernel
theorem dL_law_1357 : decode cL_law 1357 = .ok (.invokevirtual 172, 3) := by decide +kernel
theorem dL_law_1360 : decode cL_law 1360 = .ok (.aload_n 2, 1) := by decide +kernel
theorem dL_law_1361 : decode cL_law 1361 = .ok (.invokevirtual 175, 3) := by decide +kernel
theorem dL_law_1364 : decode cL_law 1364 = .ok (.if_icmp .eq 18, 3) := by decide +kernel
theorem dL_law_1367 : decode cL_law 1367 = .ok (.iconst 0, 1) := by decide +kernel
theorem dL_law_1368 : decode cL_law 1368 = .ok (.ireturn, 1) := by decide +kernel
theorem dL_law_1369 : decode cL_law 1369 = .ok (.aload_n 1, 1) := by decide +kernel
theorem dL_law_1370 : decode cL_law 1370 = .ok (.invokevirtual 176, 3) := by decide +kernel
theorem dL_law_1373 : decode cL_law 1373 = .ok (.aload_n 2, 1) := by decide +kernel
theorem dL_law_1374 : decode cL_law 1374 = .ok (.invokevirtual 179, 3) := by decide +kernel
theorem dL_law_1377 : decode cL_law 1377 = .ok (.if_icmp .eq 5, 3) := by decide +kernel
theorem dL_law_1380 : decode cL_law 1380 = .ok (.iconst 0, 1) := by decide +kernel
theorem dL_law_1381 : decode cL_law 1381 = .ok (.ireturn, 1) := by decide +kernel
theorem dL_law_1382 : decode cL_law 1382 = .ok (.iinc 3 5, 3) := by decide +kernel
theorem dL_law_1385 : decode cL_law 1385 = .ok (.goto (-1367), 3) := by decide +kernel
theorem dL_law_1388 : decode cL_law 1388 = .ok (.iconst 1, 1) := by decide +kernel
theorem dL_law_1389 : decode cL_law 1389 = .ok (.ireturn, 1) := by decide +kernel
