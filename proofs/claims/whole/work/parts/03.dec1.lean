theorem dX6_copyIn_15 : decode cX6_copyIn 15 = .ok (.iadd, 1) := by decide +kernel
theorem dX6_copyIn_16 : decode cX6_copyIn 16 = .ok (.aload_n 3, 1) := by decide +kernel
theorem dX6_copyIn_17 : decode cX6_copyIn 17 = .ok (.iload 4, 2) := by decide +kernel
theorem dX6_copyIn_19 : decode cX6_copyIn 19 = .ok (.iaload, 1) := by decide +kernel
theorem dX6_copyIn_20 : decode cX6_copyIn 20 = .ok (.invokevirtual 30, 3) := by decide +kernel
theorem dX6_copyIn_23 : decode cX6_copyIn 23 = .ok (.ifCond .ne 5, 3) := by decide +kernel
theorem dX6_copyIn_26 : decode cX6_copyIn 26 = .ok (.iconst 0, 1) := by decide +kernel
theorem dX6_copyIn_27 : decode cX6_copyIn 27 = .ok (.ireturn, 1) := by decide +kernel
theorem dX6_copyIn_28 : decode cX6_copyIn 28 = .ok (.iinc 4 1, 3) := by decide +kernel
theorem dX6_copyIn_31 : decode cX6_copyIn 31 = .ok (.goto (-28), 3) := by decide +kernel
theorem dX6_copyIn_34 : decode cX6_copyIn 34 = .ok (.iconst 1, 1) := by decide +kernel
theorem dX6_copyIn_35 : decode cX6_copyIn 35 = .ok (.ireturn, 1) := by decide +kernel
theorem dX6_copyOut_0 : decode cX6_copyOut 0 = .ok (.iload_n 2, 1) := by decide +kernel
theorem dX6_copyOut_1 : decode cX6_copyOut 1 = .ok (.ifCond .lt 16, 3) := by decide +kernel
theorem dX6_copyOut_4 : decode cX6_copyOut 4 = .ok (.iload_n 2, 1) := by decide +kernel
theorem dX6_copyOut_5 : decode cX6_copyOut 5 = .ok (.aload_n 0, 1) := by decide +kernel
theorem dX6_copyOut_6 : decode cX6_copyOut 6 = .ok (.getfield 16, 3) := by decide +kernel
theorem dX6_copyOut_9 : decode cX6_copyOut 9 = .ok (.iload_n 1, 1) := by decide +kernel
theorem dX6_copyOut_10 : decode cX6_copyOut 10 = .ok (.iaload, 1) := by decide +kernel
theorem dX6_copyOut_11 : decode cX6_copyOut 11 = .ok (.bipush 24, 2) := by decide +kernel
theorem dX6_copyOut_13 : decode cX6_copyOut 13 = .ok (.isub, 1) := by decide +kernel
theorem dX6_copyOut_14 : decode cX6_copyOut 14 = .ok (.if_icmp .le 5, 3) := by decide +kernel
theorem dX6_copyOut_17 : decode cX6_copyOut 17 = .ok (.iconst 0, 1) := by decide +kernel
theorem dX6_copyOut_18 : decode cX6_copyOut 18 = .ok (.ireturn, 1) := by decide +kernel
theorem dX6_copyOut_19 : decode cX6_copyOut 19 = .ok (.iconst 0, 1) := by decide +kernel
theorem dX6_copyOut_20 : decode cX6_copyOut 20 = .ok (.istore 4, 2) := by decide +kernel
theorem dX6_copyOut_22 : decode cX6_copyOut 22 = .ok (.iload 4, 2) := by decide +kernel
theorem dX6_copyOut_24 : decode cX6_copyOut 24 = .ok (.bipush 24, 2) := by decide +kernel
theorem dX6_copyOut_26 : decode cX6_copyOut 26 = .ok (.if_icmp .ge 24, 3) := by decide +kernel
theorem dX6_copyOut_29 : decode cX6_copyOut 29 = .ok (.aload_n 3, 1) := by decide +kernel
theorem dX6_copyOut_30 : decode cX6_copyOut 30 = .ok (.iload 4, 2) := by decide +kernel
theorem dX6_copyOut_32 : decode cX6_copyOut 32 = .ok (.aload_n 0, 1) := by decide +kernel
theorem dX6_copyOut_33 : decode cX6_copyOut 33 = .ok (.getfield 11, 3) := by decide +kernel
theorem dX6_copyOut_36 : decode cX6_copyOut 36 = .ok (.iload_n 1, 1) := by decide +kernel
theorem dX6_copyOut_37 : decode cX6_copyOut 37 = .ok (.aaload, 1) := by decide +kernel
theorem dX6_copyOut_38 : decode cX6_copyOut 38 = .ok (.iload_n 2, 1) := by decide +kernel
theorem dX6_copyOut_39 : decode cX6_copyOut 39 = .ok (.iload 4, 2) := by decide +kernel
theorem dX6_copyOut_41 : decode cX6_copyOut 41 = .ok (.iadd, 1) := by decide +kernel
theorem dX6_copyOut_42 : decode cX6_copyOut 42 = .ok (.iaload, 1) := by decide +kernel
theorem dX6_copyOut_43 : decode cX6_copyOut 43 = .ok (.iastore, 1) := by decide +kernel
theorem dX6_copyOut_44 : decode cX6_copyOut 44 = .ok (.iinc 4 1, 3) := by decide +kernel
theorem dX6_copyOut_47 : decode cX6_copyOut 47 = .ok (.goto (-25), 3) := by decide +kernel
theorem dX6_copyOut_50 : decode cX6_copyOut 50 = .ok (.iconst 1, 1) := by decide +kernel
theorem dX6_copyOut_51 : decode cX6_copyOut 51 = .ok (.ireturn, 1) := by decide +kernel
theorem dX7_init_0 : decode cX7_init 0 = .ok (.aload_n 0, 1) := by decide +kernel
theorem dX7_init_1 : decode cX7_init 1 = .ok (.invokespecial 3, 3) := by decide +kernel
theorem dX7_init_4 : decode cX7_init 4 = .ok (.aload_n 0, 1) := by decide +kernel
theorem dX7_init_5 : decode cX7_init 5 = .ok (.bipush 120, 2) := by decide +kernel
theorem dX7_init_7 : decode cX7_init 7 = .ok (.newarray .int, 2) := by decide +kernel
theorem dX7_init_9 : decode cX7_init 9 = .ok (.putfield 9, 3) := by decide +kernel
theorem dX7_init_12 : decode cX7_init 12 = .ok (.return_, 1) := by decide +kernel
theorem dX7_takeByte_0 : decode cX7_takeByte 0 = .ok (.aload_n 0, 1) := by decide +kernel
theorem dX7_takeByte_1 : decode cX7_takeByte 1 = .ok (.getfield 15, 3) := by decide +kernel
theorem dX7_takeByte_4 : decode cX7_takeByte 4 = .ok (.ifCond .lt 12, 3) := by decide +kernel
theorem dX7_takeByte_7 : decode cX7_takeByte 7 = .ok (.aload_n 0, 1) := by decide +kernel
theorem dX7_takeByte_8 : decode cX7_takeByte 8 = .ok (.getfield 15, 3) := by decide +kernel
theorem dX7_takeByte_11 : decode cX7_takeByte 11 = .ok (.bipush 120, 2) := by decide +kernel
theorem dX7_takeByte_13 : decode cX7_takeByte 13 = .ok (.if_icmp .lt 5, 3) := by decide +kernel
theorem dX7_takeByte_16 : decode cX7_takeByte 16 = .ok (.iconst 0, 1) := by decide +kernel
theorem dX7_takeByte_17 : decode cX7_takeByte 17 = .ok (.ireturn, 1) := by decide +kernel
theorem dX7_takeByte_18 : decode cX7_takeByte 18 = .ok (.aload_n 0, 1) := by decide +kernel
theorem dX7_takeByte_19 : decode cX7_takeByte 19 = .ok (.getfield 9, 3) := by decide +kernel
theorem dX7_takeByte_22 : decode cX7_takeByte 22 = .ok (.aload_n 0, 1) := by decide +kernel
theorem dX7_takeByte_23 : decode cX7_takeByte 23 = .ok (.dup, 1) := by decide +kernel
theorem dX7_takeByte_24 : decode cX7_takeByte 24 = .ok (.getfield 15, 3) := by decide +kernel
theorem dX7_takeByte_27 : decode cX7_takeByte 27 = .ok (.dup_x1, 1) := by decide +kernel
theorem dX7_takeByte_28 : decode cX7_takeByte 28 = .ok (.iconst 1, 1) := by decide +kernel
theorem dX7_takeByte_29 : decode cX7_takeByte 29 = .ok (.iadd, 1) := by decide +kernel
theorem dX7_takeByte_30 : decode cX7_takeByte 30 = .ok (.putfield 15, 3) := by decide +kernel
theorem dX7_takeByte_33 : decode cX7_takeByte 33 = .ok (.iload_n 1, 1) := by decide +kernel
theorem dX7_takeByte_34 : decode cX7_takeByte 34 = .ok (.iastore, 1) := by decide +kernel
theorem dX7_takeByte_35 : decode cX7_takeByte 35 = .ok (.iconst 1, 1) := by decide +kernel
theorem dX7_takeByte_36 : decode cX7_takeByte 36 = .ok (.ireturn, 1) := by decide +kernel
theorem dX7_parse_0 : decode cX7_parse 0 = .ok (.aload_n 2, 1) := by decide +kernel
theorem dX7_parse_1 : decode cX7_parse 1 = .ok (.aload_n 3, 1) := by decide +kernel
theorem dX7_parse_2 : decode cX7_parse 2 = .ok (.invokevirtual 19, 3) := by decide +kernel
theorem dX7_parse_5 : decode cX7_parse 5 = .ok (.iload_n 1, 1) := by decide +kernel
theorem dX7_parse_6 : decode cX7_parse 6 = .ok (.istore 4, 2) := by decide +kernel
theorem dX7_parse_8 : decode cX7_parse 8 = .ok (.iconst 0, 1) := by decide +kernel
theorem dX7_parse_9 : decode cX7_parse 9 = .ok (.istore 5, 2) := by decide +kernel
theorem dX7_parse_11 : decode cX7_parse 11 = .ok (.iconst 0, 1) := by decide +kernel
theorem dX7_parse_12 : decode cX7_parse 12 = .ok (.istore 6, 2) := by decide +kernel
theorem dX7_parse_14 : decode cX7_parse 14 = .ok (.iconst 1, 1) := by decide +kernel
theorem dX7_parse_15 : decode cX7_parse 15 = .ok (.istore 7, 2) := by decide +kernel
theorem dX7_parse_17 : decode cX7_parse 17 = .ok (.iload 7, 2) := by decide +kernel
theorem dX7_parse_19 : decode cX7_parse 19 = .ok (.bipush 24, 2) := by decide +kernel
theorem dX7_parse_21 : decode cX7_parse 21 = .ok (.if_icmp .gt 157, 3) := by decide +kernel
theorem dX7_parse_24 : decode cX7_parse 24 = .ok (.aload_n 0, 1) := by decide +kernel
theorem dX7_parse_25 : decode cX7_parse 25 = .ok (.iload 6, 2) := by decide +kernel
theorem dX7_parse_27 : decode cX7_parse 27 = .ok (.invokevirtual 25, 3) := by decide +kernel
theorem dX7_parse_30 : decode cX7_parse 30 = .ok (.istore 8, 2) := by decide +kernel
theorem dX7_parse_32 : decode cX7_parse 32 = .ok (.aload_n 0, 1) := by decide +kernel
theorem dX7_parse_33 : decode cX7_parse 33 = .ok (.iload 6, 2) := by decide +kernel
theorem dX7_parse_35 : decode cX7_parse 35 = .ok (.iload 8, 2) := by decide +kernel
theorem dX7_parse_37 : decode cX7_parse 37 = .ok (.invokevirtual 29, 3) := by decide +kernel
theorem dX7_parse_40 : decode cX7_parse 40 = .ok (.istore 9, 2) := by decide +kernel
theorem dX7_parse_42 : decode cX7_parse 42 = .ok (.iload 8, 2) := by decide +kernel
theorem dX7_parse_44 : decode cX7_parse 44 = .ok (.ifCond .eq 10, 3) := by decide +kernel
theorem dX7_parse_47 : decode cX7_parse 47 = .ok (.iload 9, 2) := by decide +kernel
theorem dX7_parse_49 : decode cX7_parse 49 = .ok (.ldc 33, 2) := by decide +kernel
theorem dX7_parse_51 : decode cX7_parse 51 = .ok (.if_icmp .le 9, 3) := by decide +kernel
theorem dX7_parse_54 : decode cX7_parse 54 = .ok (.bipush (-100), 2) := by decide +kernel
theorem dX7_parse_56 : decode cX7_parse 56 = .ok (.iload 6, 2) := by decide +kernel
theorem dX7_parse_58 : decode cX7_parse 58 = .ok (.isub, 1) := by decide +kernel
theorem dX7_parse_59 : decode cX7_parse 59 = .ok (.ireturn, 1) := by decide +kernel
theorem dX7_parse_60 : decode cX7_parse 60 = .ok (.aload_n 2, 1) := by decide +kernel
theorem dX7_parse_61 : decode cX7_parse 61 = .ok (.getfield 34, 3) := by decide +kernel
theorem dX7_parse_64 : decode cX7_parse 64 = .ok (.iload 4, 2) := by decide +kernel
theorem dX7_parse_66 : decode cX7_parse 66 = .ok (.iload 5, 2) := by decide +kernel
theorem dX7_parse_68 : decode cX7_parse 68 = .ok (.invokestatic 37, 3) := by decide +kernel
theorem dX7_parse_71 : decode cX7_parse 71 = .ok (.iload 9, 2) := by decide +kernel
theorem dX7_parse_73 : decode cX7_parse 73 = .ok (.iastore, 1) := by decide +kernel
theorem dX7_parse_74 : decode cX7_parse 74 = .ok (.iload 6, 2) := by decide +kernel
theorem dX7_parse_76 : decode cX7_parse 76 = .ok (.iload 8, 2) := by decide +kernel
theorem dX7_parse_78 : decode cX7_parse 78 = .ok (.iadd, 1) := by decide +kernel
theorem dX7_parse_79 : decode cX7_parse 79 = .ok (.istore 6, 2) := by decide +kernel
theorem dX7_parse_81 : decode cX7_parse 81 = .ok (.iload 6, 2) := by decide +kernel
theorem dX7_parse_83 : decode cX7_parse 83 = .ok (.aload_n 0, 1) := by decide +kernel
theorem dX7_parse_84 : decode cX7_parse 84 = .ok (.getfield 15, 3) := by decide +kernel
theorem dX7_parse_87 : decode cX7_parse 87 = .ok (.if_icmp .lt 6, 3) := by decide +kernel
theorem dX7_parse_90 : decode cX7_parse 90 = .ok (.iload 7, 2) := by decide +kernel
theorem dX7_parse_92 : decode cX7_parse 92 = .ok (.ireturn, 1) := by decide +kernel
theorem dX7_parse_93 : decode cX7_parse 93 = .ok (.aload_n 0, 1) := by decide +kernel
theorem dX7_parse_94 : decode cX7_parse 94 = .ok (.getfield 9, 3) := by decide +kernel
theorem dX7_parse_97 : decode cX7_parse 97 = .ok (.iload 6, 2) := by decide +kernel
theorem dX7_parse_99 : decode cX7_parse 99 = .ok (.iaload, 1) := by decide +kernel
theorem dX7_parse_100 : decode cX7_parse 100 = .ok (.bipush 44, 2) := by decide +kernel
theorem dX7_parse_102 : decode cX7_parse 102 = .ok (.if_icmp .ne 15, 3) := by decide +kernel
theorem dX7_parse_105 : decode cX7_parse 105 = .ok (.iload 5, 2) := by decide +kernel
theorem dX7_parse_107 : decode cX7_parse 107 = .ok (.iconst 5, 1) := by decide +kernel
theorem dX7_parse_108 : decode cX7_parse 108 = .ok (.if_icmp .ge 9, 3) := by decide +kernel
theorem dX7_parse_111 : decode cX7_parse 111 = .ok (.iinc 5 1, 3) := by decide +kernel
theorem dX7_parse_114 : decode cX7_parse 114 = .ok (.goto 55, 3) := by decide +kernel
theorem dX7_parse_117 : decode cX7_parse 117 = .ok (.aload_n 0, 1) := by decide +kernel
theorem dX7_parse_118 : decode cX7_parse 118 = .ok (.getfield 9, 3) := by decide +kernel
theorem dX7_parse_121 : decode cX7_parse 121 = .ok (.iload 6, 2) := by decide +kernel
theorem dX7_parse_123 : decode cX7_parse 123 = .ok (.iaload, 1) := by decide +kernel
theorem dX7_parse_124 : decode cX7_parse 124 = .ok (.bipush 47, 2) := by decide +kernel
theorem dX7_parse_126 : decode cX7_parse 126 = .ok (.if_icmp .ne 18, 3) := by decide +kernel
theorem dX7_parse_129 : decode cX7_parse 129 = .ok (.iload 4, 2) := by decide +kernel
theorem dX7_parse_131 : decode cX7_parse 131 = .ok (.iconst 3, 1) := by decide +kernel
theorem dX7_parse_132 : decode cX7_parse 132 = .ok (.if_icmp .ge 12, 3) := by decide +kernel
theorem dX7_parse_135 : decode cX7_parse 135 = .ok (.iinc 4 1, 3) := by decide +kernel
theorem dX7_parse_138 : decode cX7_parse 138 = .ok (.iconst 0, 1) := by decide +kernel
theorem dX7_parse_139 : decode cX7_parse 139 = .ok (.istore 5, 2) := by decide +kernel
theorem dX7_parse_141 : decode cX7_parse 141 = .ok (.goto 28, 3) := by decide +kernel
theorem dX7_parse_144 : decode cX7_parse 144 = .ok (.bipush (-100), 2) := by decide +kernel
theorem dX7_parse_146 : decode cX7_parse 146 = .ok (.aload_n 0, 1) := by decide +kernel
theorem dX7_parse_147 : decode cX7_parse 147 = .ok (.getfield 9, 3) := by decide +kernel
theorem dX7_parse_150 : decode cX7_parse 150 = .ok (.iload 6, 2) := by decide +kernel
theorem dX7_parse_152 : decode cX7_parse 152 = .ok (.iaload, 1) := by decide +kernel
theorem dX7_parse_153 : decode cX7_parse 153 = .ok (.bipush 47, 2) := by decide +kernel
theorem dX7_parse_155 : decode cX7_parse 155 = .ok (.if_icmp .ne 10, 3) := by decide +kernel
theorem dX7_parse_158 : decode cX7_parse 158 = .ok (.iload 6, 2) := by decide +kernel
theorem dX7_parse_160 : decode cX7_parse 160 = .ok (.iconst 1, 1) := by decide +kernel
theorem dX7_parse_161 : decode cX7_parse 161 = .ok (.iadd, 1) := by decide +kernel
theorem dX7_parse_162 : decode cX7_parse 162 = .ok (.goto 5, 3) := by decide +kernel
theorem dX7_parse_165 : decode cX7_parse 165 = .ok (.iload 6, 2) := by decide +kernel
theorem dX7_parse_167 : decode cX7_parse 167 = .ok (.isub, 1) := by decide +kernel
theorem dX7_parse_168 : decode cX7_parse 168 = .ok (.ireturn, 1) := by decide +kernel
theorem dX7_parse_169 : decode cX7_parse 169 = .ok (.iinc 6 1, 3) := by decide +kernel
theorem dX7_parse_172 : decode cX7_parse 172 = .ok (.iinc 7 1, 3) := by decide +kernel
theorem dX7_parse_175 : decode cX7_parse 175 = .ok (.goto (-158), 3) := by decide +kernel
theorem dX7_parse_178 : decode cX7_parse 178 = .ok (.bipush (-100), 2) := by decide +kernel
theorem dX7_parse_180 : decode cX7_parse 180 = .ok (.iload 6, 2) := by decide +kernel
theorem dX7_parse_182 : decode cX7_parse 182 = .ok (.isub, 1) := by decide +kernel
theorem dX7_parse_183 : decode cX7_parse 183 = .ok (.ireturn, 1) := by decide +kernel
theorem dX7_figuresAt_0 : decode cX7_figuresAt 0 = .ok (.iconst 0, 1) := by decide +kernel
theorem dX7_figuresAt_1 : decode cX7_figuresAt 1 = .ok (.istore_n 2, 1) := by decide +kernel
theorem dX7_figuresAt_2 : decode cX7_figuresAt 2 = .ok (.iload_n 2, 1) := by decide +kernel
theorem dX7_figuresAt_3 : decode cX7_figuresAt 3 = .ok (.bipush 6, 2) := by decide +kernel
theorem dX7_figuresAt_5 : decode cX7_figuresAt 5 = .ok (.if_icmp .ge 33, 3) := by decide +kernel
theorem dX7_figuresAt_8 : decode cX7_figuresAt 8 = .ok (.iload_n 1, 1) := by decide +kernel
theorem dX7_figuresAt_9 : decode cX7_figuresAt 9 = .ok (.iload_n 2, 1) := by decide +kernel
theorem dX7_figuresAt_10 : decode cX7_figuresAt 10 = .ok (.iadd, 1) := by decide +kernel
theorem dX7_figuresAt_11 : decode cX7_figuresAt 11 = .ok (.aload_n 0, 1) := by decide +kernel
theorem dX7_figuresAt_12 : decode cX7_figuresAt 12 = .ok (.getfield 15, 3) := by decide +kernel
theorem dX7_figuresAt_15 : decode cX7_figuresAt 15 = .ok (.if_icmp .ge 23, 3) := by decide +kernel
theorem dX7_figuresAt_18 : decode cX7_figuresAt 18 = .ok (.aload_n 0, 1) := by decide +kernel
theorem dX7_figuresAt_19 : decode cX7_figuresAt 19 = .ok (.getfield 9, 3) := by decide +kernel
theorem dX7_figuresAt_22 : decode cX7_figuresAt 22 = .ok (.iload_n 1, 1) := by decide +kernel
theorem dX7_figuresAt_23 : decode cX7_figuresAt 23 = .ok (.iload_n 2, 1) := by decide +kernel
theorem dX7_figuresAt_24 : decode cX7_figuresAt 24 = .ok (.iadd, 1) := by decide +kernel
theorem dX7_figuresAt_25 : decode cX7_figuresAt 25 = .ok (.iaload, 1) := by decide +kernel
theorem dX7_figuresAt_26 : decode cX7_figuresAt 26 = .ok (.invokestatic 40, 3) := by decide +kernel
theorem dX7_figuresAt_29 : decode cX7_figuresAt 29 = .ok (.ifCond .eq 9, 3) := by decide +kernel
theorem dX7_figuresAt_32 : decode cX7_figuresAt 32 = .ok (.iinc 2 1, 3) := by decide +kernel
theorem dX7_figuresAt_35 : decode cX7_figuresAt 35 = .ok (.goto (-33), 3) := by decide +kernel
theorem dX7_figuresAt_38 : decode cX7_figuresAt 38 = .ok (.iload_n 2, 1) := by decide +kernel
theorem dX7_figuresAt_39 : decode cX7_figuresAt 39 = .ok (.ireturn, 1) := by decide +kernel
theorem dX7_valueOf_0 : decode cX7_valueOf 0 = .ok (.iconst 0, 1) := by decide +kernel
theorem dX7_valueOf_1 : decode cX7_valueOf 1 = .ok (.istore_n 3, 1) := by decide +kernel
theorem dX7_valueOf_2 : decode cX7_valueOf 2 = .ok (.iload_n 1, 1) := by decide +kernel
theorem dX7_valueOf_3 : decode cX7_valueOf 3 = .ok (.istore 4, 2) := by decide +kernel
theorem dX7_valueOf_5 : decode cX7_valueOf 5 = .ok (.iload 4, 2) := by decide +kernel
theorem dX7_valueOf_7 : decode cX7_valueOf 7 = .ok (.iload_n 1, 1) := by decide +kernel
theorem dX7_valueOf_8 : decode cX7_valueOf 8 = .ok (.iload_n 2, 1) := by decide +kernel
theorem dX7_valueOf_9 : decode cX7_valueOf 9 = .ok (.iadd, 1) := by decide +kernel
theorem dX7_valueOf_10 : decode cX7_valueOf 10 = .ok (.if_icmp .ge 25, 3) := by decide +kernel
theorem dX7_valueOf_13 : decode cX7_valueOf 13 = .ok (.iload_n 3, 1) := by decide +kernel
theorem dX7_valueOf_14 : decode cX7_valueOf 14 = .ok (.bipush 10, 2) := by decide +kernel
theorem dX7_valueOf_16 : decode cX7_valueOf 16 = .ok (.imul, 1) := by decide +kernel
theorem dX7_valueOf_17 : decode cX7_valueOf 17 = .ok (.aload_n 0, 1) := by decide +kernel
theorem dX7_valueOf_18 : decode cX7_valueOf 18 = .ok (.getfield 9, 3) := by decide +kernel
theorem dX7_valueOf_21 : decode cX7_valueOf 21 = .ok (.iload 4, 2) := by decide +kernel
theorem dX7_valueOf_23 : decode cX7_valueOf 23 = .ok (.iaload, 1) := by decide +kernel
theorem dX7_valueOf_24 : decode cX7_valueOf 24 = .ok (.iadd, 1) := by decide +kernel
theorem dX7_valueOf_25 : decode cX7_valueOf 25 = .ok (.bipush 48, 2) := by decide +kernel
theorem dX7_valueOf_27 : decode cX7_valueOf 27 = .ok (.isub, 1) := by decide +kernel
theorem dX7_valueOf_28 : decode cX7_valueOf 28 = .ok (.istore_n 3, 1) := by decide +kernel
theorem dX7_valueOf_29 : decode cX7_valueOf 29 = .ok (.iinc 4 1, 3) := by decide +kernel
theorem dX7_valueOf_32 : decode cX7_valueOf 32 = .ok (.goto (-27), 3) := by decide +kernel
theorem dX7_valueOf_35 : decode cX7_valueOf 35 = .ok (.iload_n 3, 1) := by decide +kernel
theorem dX7_valueOf_36 : decode cX7_valueOf 36 = .ok (.ireturn, 1) := by decide +kernel
theorem dX7_isFigure_0 : decode cX7_isFigure 0 = .ok (.iload_n 0, 1) := by decide +kernel
theorem dX7_isFigure_1 : decode cX7_isFigure 1 = .ok (.bipush 48, 2) := by decide +kernel
theorem dX7_isFigure_3 : decode cX7_isFigure 3 = .ok (.if_icmp .lt 13, 3) := by decide +kernel
theorem dX7_isFigure_6 : decode cX7_isFigure 6 = .ok (.iload_n 0, 1) := by decide +kernel
theorem dX7_isFigure_7 : decode cX7_isFigure 7 = .ok (.bipush 57, 2) := by decide +kernel
theorem dX7_isFigure_9 : decode cX7_isFigure 9 = .ok (.if_icmp .gt 7, 3) := by decide +kernel
theorem dX7_isFigure_12 : decode cX7_isFigure 12 = .ok (.iconst 1, 1) := by decide +kernel
theorem dX7_isFigure_13 : decode cX7_isFigure 13 = .ok (.goto 4, 3) := by decide +kernel
theorem dX7_isFigure_16 : decode cX7_isFigure 16 = .ok (.iconst 0, 1) := by decide +kernel
theorem dX7_isFigure_17 : decode cX7_isFigure 17 = .ok (.ireturn, 1) := by decide +kernel
theorem dX8_init_0 : decode cX8_init 0 = .ok (.aload_n 0, 1) := by decide +kernel
theorem dX8_init_1 : decode cX8_init 1 = .ok (.invokespecial 3, 3) := by decide +kernel
theorem dX8_init_4 : decode cX8_init 4 = .ok (.aload_n 0, 1) := by decide +kernel
theorem dX8_init_5 : decode cX8_init 5 = .ok (.new 9, 3) := by decide +kernel
theorem dX8_init_8 : decode cX8_init 8 = .ok (.dup, 1) := by decide +kernel
theorem dX8_init_9 : decode cX8_init 9 = .ok (.invokespecial 11, 3) := by decide +kernel
theorem dX8_init_12 : decode cX8_init 12 = .ok (.putfield 12, 3) := by decide +kernel
theorem dX8_init_15 : decode cX8_init 15 = .ok (.aload_n 0, 1) := by decide +kernel
theorem dX8_init_16 : decode cX8_init 16 = .ok (.new 9, 3) := by decide +kernel
theorem dX8_init_19 : decode cX8_init 19 = .ok (.dup, 1) := by decide +kernel
theorem dX8_init_20 : decode cX8_init 20 = .ok (.invokespecial 11, 3) := by decide +kernel
theorem dX8_init_23 : decode cX8_init 23 = .ok (.putfield 18, 3) := by decide +kernel
theorem dX8_init_26 : decode cX8_init 26 = .ok (.aload_n 0, 1) := by decide +kernel
theorem dX8_init_27 : decode cX8_init 27 = .ok (.new 9, 3) := by decide +kernel
theorem dX8_init_30 : decode cX8_init 30 = .ok (.dup, 1) := by decide +kernel
theorem dX8_init_31 : decode cX8_init 31 = .ok (.invokespecial 11, 3) := by decide +kernel
theorem dX8_init_34 : decode cX8_init 34 = .ok (.putfield 21, 3) := by decide +kernel
theorem dX8_init_37 : decode cX8_init 37 = .ok (.aload_n 0, 1) := by decide +kernel
theorem dX8_init_38 : decode cX8_init 38 = .ok (.new 24, 3) := by decide +kernel
theorem dX8_init_41 : decode cX8_init 41 = .ok (.dup, 1) := by decide +kernel
theorem dX8_init_42 : decode cX8_init 42 = .ok (.invokespecial 26, 3) := by decide +kernel
theorem dX8_init_45 : decode cX8_init 45 = .ok (.putfield 27, 3) := by decide +kernel
theorem dX8_init_48 : decode cX8_init 48 = .ok (.aload_n 0, 1) := by decide +kernel
theorem dX8_init_49 : decode cX8_init 49 = .ok (.new 24, 3) := by decide +kernel
theorem dX8_init_52 : decode cX8_init 52 = .ok (.dup, 1) := by decide +kernel
theorem dX8_init_53 : decode cX8_init 53 = .ok (.invokespecial 26, 3) := by decide +kernel
theorem dX8_init_56 : decode cX8_init 56 = .ok (.putfield 31, 3) := by decide +kernel
theorem dX8_init_59 : decode cX8_init 59 = .ok (.aload_n 0, 1) := by decide +kernel
theorem dX8_init_60 : decode cX8_init 60 = .ok (.new 34, 3) := by decide +kernel
theorem dX8_init_63 : decode cX8_init 63 = .ok (.dup, 1) := by decide +kernel
theorem dX8_init_64 : decode cX8_init 64 = .ok (.invokespecial 36, 3) := by decide +kernel
theorem dX8_init_67 : decode cX8_init 67 = .ok (.putfield 37, 3) := by decide +kernel
theorem dX8_init_70 : decode cX8_init 70 = .ok (.aload_n 0, 1) := by decide +kernel
theorem dX8_init_71 : decode cX8_init 71 = .ok (.new 41, 3) := by decide +kernel
theorem dX8_init_74 : decode cX8_init 74 = .ok (.dup, 1) := by decide +kernel
theorem dX8_init_75 : decode cX8_init 75 = .ok (.invokespecial 43, 3) := by decide +kernel
theorem dX8_init_78 : decode cX8_init 78 = .ok (.putfield 44, 3) := by decide +kernel
theorem dX8_init_81 : decode cX8_init 81 = .ok (.aload_n 0, 1) := by decide +kernel
theorem dX8_init_82 : decode cX8_init 82 = .ok (.new 48, 3) := by decide +kernel
theorem dX8_init_85 : decode cX8_init 85 = .ok (.dup, 1) := by decide +kernel
theorem dX8_init_86 : decode cX8_init 86 = .ok (.invokespecial 50, 3) := by decide +kernel
theorem dX8_init_89 : decode cX8_init 89 = .ok (.putfield 51, 3) := by decide +kernel
theorem dX8_init_92 : decode cX8_init 92 = .ok (.aload_n 0, 1) := by decide +kernel
theorem dX8_init_93 : decode cX8_init 93 = .ok (.new 55, 3) := by decide +kernel
theorem dX8_init_96 : decode cX8_init 96 = .ok (.dup, 1) := by decide +kernel
theorem dX8_init_97 : decode cX8_init 97 = .ok (.invokespecial 57, 3) := by decide +kernel
theorem dX8_init_100 : decode cX8_init 100 = .ok (.putfield 58, 3) := by decide +kernel
theorem dX8_init_103 : decode cX8_init 103 = .ok (.aload_n 0, 1) := by decide +kernel
theorem dX8_init_104 : decode cX8_init 104 = .ok (.bipush 24, 2) := by decide +kernel
theorem dX8_init_106 : decode cX8_init 106 = .ok (.newarray .int, 2) := by decide +kernel
theorem dX8_init_108 : decode cX8_init 108 = .ok (.putfield 62, 3) := by decide +kernel
theorem dX8_init_111 : decode cX8_init 111 = .ok (.aload_n 0, 1) := by decide +kernel
theorem dX8_init_112 : decode cX8_init 112 = .ok (.iconst 0, 1) := by decide +kernel
theorem dX8_init_113 : decode cX8_init 113 = .ok (.putfield 66, 3) := by decide +kernel
theorem dX8_init_116 : decode cX8_init 116 = .ok (.return_, 1) := by decide +kernel
theorem dX8_vote_0 : decode cX8_vote 0 = .ok (.iload_n 1, 1) := by decide +kernel
theorem dX8_vote_1 : decode cX8_vote 1 = .ok (.iconst 3, 1) := by decide +kernel
theorem dX8_vote_2 : decode cX8_vote 2 = .ok (.invokestatic 70, 3) := by decide +kernel
theorem dX8_vote_5 : decode cX8_vote 5 = .ok (.ifCond .eq 11, 3) := by decide +kernel
theorem dX8_vote_8 : decode cX8_vote 8 = .ok (.iload_n 2, 1) := by decide +kernel
theorem dX8_vote_9 : decode cX8_vote 9 = .ok (.iconst 5, 1) := by decide +kernel
theorem dX8_vote_10 : decode cX8_vote 10 = .ok (.invokestatic 70, 3) := by decide +kernel
theorem dX8_vote_13 : decode cX8_vote 13 = .ok (.ifCond .ne 5, 3) := by decide +kernel
theorem dX8_vote_16 : decode cX8_vote 16 = .ok (.iconst (-1), 1) := by decide +kernel
theorem dX8_vote_17 : decode cX8_vote 17 = .ok (.ireturn, 1) := by decide +kernel
theorem dX8_vote_18 : decode cX8_vote 18 = .ok (.iload_n 3, 1) := by decide +kernel
theorem dX8_vote_19 : decode cX8_vote 19 = .ok (.ldc 74, 2) := by decide +kernel
theorem dX8_vote_21 : decode cX8_vote 21 = .ok (.invokestatic 70, 3) := by decide +kernel
theorem dX8_vote_24 : decode cX8_vote 24 = .ok (.ifCond .ne 6, 3) := by decide +kernel
theorem dX8_vote_27 : decode cX8_vote 27 = .ok (.bipush (-2), 2) := by decide +kernel
theorem dX8_vote_29 : decode cX8_vote 29 = .ok (.ireturn, 1) := by decide +kernel
theorem dX8_vote_30 : decode cX8_vote 30 = .ok (.aload_n 0, 1) := by decide +kernel
theorem dX8_vote_31 : decode cX8_vote 31 = .ok (.getfield 12, 3) := by decide +kernel
theorem dX8_vote_34 : decode cX8_vote 34 = .ok (.getfield 75, 3) := by decide +kernel
theorem dX8_vote_37 : decode cX8_vote 37 = .ok (.iload_n 1, 1) := by decide +kernel
theorem dX8_vote_38 : decode cX8_vote 38 = .ok (.iload_n 2, 1) := by decide +kernel
theorem dX8_vote_39 : decode cX8_vote 39 = .ok (.invokestatic 78, 3) := by decide +kernel
theorem dX8_vote_42 : decode cX8_vote 42 = .ok (.iaload, 1) := by decide +kernel
theorem dX8_vote_43 : decode cX8_vote 43 = .ok (.istore 4, 2) := by decide +kernel
theorem dX8_vote_45 : decode cX8_vote 45 = .ok (.aload_n 0, 1) := by decide +kernel
theorem dX8_vote_46 : decode cX8_vote 46 = .ok (.getfield 12, 3) := by decide +kernel
theorem dX8_vote_49 : decode cX8_vote 49 = .ok (.getfield 75, 3) := by decide +kernel
theorem dX8_vote_52 : decode cX8_vote 52 = .ok (.iload_n 1, 1) := by decide +kernel
theorem dX8_vote_53 : decode cX8_vote 53 = .ok (.iload_n 2, 1) := by decide +kernel
theorem dX8_vote_54 : decode cX8_vote 54 = .ok (.invokestatic 78, 3) := by decide +kernel
theorem dX8_vote_57 : decode cX8_vote 57 = .ok (.iload_n 3, 1) := by decide +kernel
theorem dX8_vote_58 : decode cX8_vote 58 = .ok (.iastore, 1) := by decide +kernel
theorem dX8_vote_59 : decode cX8_vote 59 = .ok (.aload_n 0, 1) := by decide +kernel
theorem dX8_vote_60 : decode cX8_vote 60 = .ok (.getfield 37, 3) := by decide +kernel
theorem dX8_vote_63 : decode cX8_vote 63 = .ok (.invokevirtual 82, 3) := by decide +kernel
theorem dX8_vote_66 : decode cX8_vote 66 = .ok (.iload 4, 2) := by decide +kernel
theorem dX8_vote_68 : decode cX8_vote 68 = .ok (.ireturn, 1) := by decide +kernel
theorem dX8_votes_0 : decode cX8_votes 0 = .ok (.iload_n 1, 1) := by decide +kernel
theorem dX8_votes_1 : decode cX8_votes 1 = .ok (.iconst (-1), 1) := by decide +kernel
theorem dX8_votes_2 : decode cX8_votes 2 = .ok (.if_icmp .lt 19, 3) := by decide +kernel
theorem dX8_votes_5 : decode cX8_votes 5 = .ok (.iload_n 1, 1) := by decide +kernel
theorem dX8_votes_6 : decode cX8_votes 6 = .ok (.iconst 4, 1) := by decide +kernel
theorem dX8_votes_7 : decode cX8_votes 7 = .ok (.if_icmp .ge 14, 3) := by decide +kernel
theorem dX8_votes_10 : decode cX8_votes 10 = .ok (.iload_n 2, 1) := by decide +kernel
theorem dX8_votes_11 : decode cX8_votes 11 = .ok (.iconst (-1), 1) := by decide +kernel
theorem dX8_votes_12 : decode cX8_votes 12 = .ok (.if_icmp .lt 9, 3) := by decide +kernel
theorem dX8_votes_15 : decode cX8_votes 15 = .ok (.iload_n 2, 1) := by decide +kernel
theorem dX8_votes_16 : decode cX8_votes 16 = .ok (.bipush 6, 2) := by decide +kernel
theorem dX8_votes_18 : decode cX8_votes 18 = .ok (.if_icmp .lt 5, 3) := by decide +kernel
theorem dX8_votes_21 : decode cX8_votes 21 = .ok (.iconst (-1), 1) := by decide +kernel
theorem dX8_votes_22 : decode cX8_votes 22 = .ok (.ireturn, 1) := by decide +kernel
theorem dX8_votes_23 : decode cX8_votes 23 = .ok (.iload_n 1, 1) := by decide +kernel
theorem dX8_votes_24 : decode cX8_votes 24 = .ok (.iconst (-1), 1) := by decide +kernel
theorem dX8_votes_25 : decode cX8_votes 25 = .ok (.if_icmp .ne 27, 3) := by decide +kernel
theorem dX8_votes_28 : decode cX8_votes 28 = .ok (.iload_n 2, 1) := by decide +kernel
theorem dX8_votes_29 : decode cX8_votes 29 = .ok (.iconst (-1), 1) := by decide +kernel
theorem dX8_votes_30 : decode cX8_votes 30 = .ok (.if_icmp .ne 13, 3) := by decide +kernel
theorem dX8_votes_33 : decode cX8_votes 33 = .ok (.aload_n 0, 1) := by decide +kernel
theorem dX8_votes_34 : decode cX8_votes 34 = .ok (.getfield 12, 3) := by decide +kernel
theorem dX8_votes_37 : decode cX8_votes 37 = .ok (.invokevirtual 85, 3) := by decide +kernel
theorem dX8_votes_40 : decode cX8_votes 40 = .ok (.goto 11, 3) := by decide +kernel
theorem dX8_votes_43 : decode cX8_votes 43 = .ok (.aload_n 0, 1) := by decide +kernel
theorem dX8_votes_44 : decode cX8_votes 44 = .ok (.getfield 12, 3) := by decide +kernel
theorem dX8_votes_47 : decode cX8_votes 47 = .ok (.iload_n 2, 1) := by decide +kernel
theorem dX8_votes_48 : decode cX8_votes 48 = .ok (.invokevirtual 89, 3) := by decide +kernel
theorem dX8_votes_51 : decode cX8_votes 51 = .ok (.ireturn, 1) := by decide +kernel
theorem dX8_votes_52 : decode cX8_votes 52 = .ok (.iload_n 2, 1) := by decide +kernel
theorem dX8_votes_53 : decode cX8_votes 53 = .ok (.iconst (-1), 1) := by decide +kernel
theorem dX8_votes_54 : decode cX8_votes 54 = .ok (.if_icmp .ne 14, 3) := by decide +kernel
theorem dX8_votes_57 : decode cX8_votes 57 = .ok (.aload_n 0, 1) := by decide +kernel
theorem dX8_votes_58 : decode cX8_votes 58 = .ok (.getfield 12, 3) := by decide +kernel
theorem dX8_votes_61 : decode cX8_votes 61 = .ok (.iload_n 1, 1) := by decide +kernel
theorem dX8_votes_62 : decode cX8_votes 62 = .ok (.invokevirtual 93, 3) := by decide +kernel
theorem dX8_votes_65 : decode cX8_votes 65 = .ok (.goto 16, 3) := by decide +kernel
theorem dX8_votes_68 : decode cX8_votes 68 = .ok (.aload_n 0, 1) := by decide +kernel
theorem dX8_votes_69 : decode cX8_votes 69 = .ok (.getfield 12, 3) := by decide +kernel
theorem dX8_votes_72 : decode cX8_votes 72 = .ok (.getfield 75, 3) := by decide +kernel
theorem dX8_votes_75 : decode cX8_votes 75 = .ok (.iload_n 1, 1) := by decide +kernel
theorem dX8_votes_76 : decode cX8_votes 76 = .ok (.iload_n 2, 1) := by decide +kernel
theorem dX8_votes_77 : decode cX8_votes 77 = .ok (.invokestatic 78, 3) := by decide +kernel
theorem dX8_votes_80 : decode cX8_votes 80 = .ok (.iaload, 1) := by decide +kernel
theorem dX8_votes_81 : decode cX8_votes 81 = .ok (.ireturn, 1) := by decide +kernel
theorem dX8_seats_0 : decode cX8_seats 0 = .ok (.iload_n 1, 1) := by decide +kernel
theorem dX8_seats_1 : decode cX8_seats 1 = .ok (.iconst 3, 1) := by decide +kernel
theorem dX8_seats_2 : decode cX8_seats 2 = .ok (.invokestatic 70, 3) := by decide +kernel
theorem dX8_seats_5 : decode cX8_seats 5 = .ok (.ifCond .ne 5, 3) := by decide +kernel
theorem dX8_seats_8 : decode cX8_seats 8 = .ok (.iconst (-1), 1) := by decide +kernel
theorem dX8_seats_9 : decode cX8_seats 9 = .ok (.ireturn, 1) := by decide +kernel
theorem dX8_seats_10 : decode cX8_seats 10 = .ok (.iload_n 2, 1) := by decide +kernel
theorem dX8_seats_11 : decode cX8_seats 11 = .ok (.bipush 30, 2) := by decide +kernel
theorem dX8_seats_13 : decode cX8_seats 13 = .ok (.invokestatic 70, 3) := by decide +kernel
theorem dX8_seats_16 : decode cX8_seats 16 = .ok (.ifCond .ne 6, 3) := by decide +kernel
theorem dX8_seats_19 : decode cX8_seats 19 = .ok (.bipush (-2), 2) := by decide +kernel
theorem dX8_seats_21 : decode cX8_seats 21 = .ok (.ireturn, 1) := by decide +kernel
theorem dX8_seats_22 : decode cX8_seats 22 = .ok (.aload_n 0, 1) := by decide +kernel
theorem dX8_seats_23 : decode cX8_seats 23 = .ok (.getfield 12, 3) := by decide +kernel
theorem dX8_seats_26 : decode cX8_seats 26 = .ok (.getfield 96, 3) := by decide +kernel
theorem dX8_seats_29 : decode cX8_seats 29 = .ok (.iload_n 1, 1) := by decide +kernel
theorem dX8_seats_30 : decode cX8_seats 30 = .ok (.iaload, 1) := by decide +kernel
theorem dX8_seats_31 : decode cX8_seats 31 = .ok (.istore_n 3, 1) := by decide +kernel
theorem dX8_seats_32 : decode cX8_seats 32 = .ok (.aload_n 0, 1) := by decide +kernel
theorem dX8_seats_33 : decode cX8_seats 33 = .ok (.getfield 12, 3) := by decide +kernel
theorem dX8_seats_36 : decode cX8_seats 36 = .ok (.getfield 96, 3) := by decide +kernel
theorem dX8_seats_39 : decode cX8_seats 39 = .ok (.iload_n 1, 1) := by decide +kernel
theorem dX8_seats_40 : decode cX8_seats 40 = .ok (.iload_n 2, 1) := by decide +kernel
theorem dX8_seats_41 : decode cX8_seats 41 = .ok (.iastore, 1) := by decide +kernel
theorem dX8_seats_42 : decode cX8_seats 42 = .ok (.aload_n 0, 1) := by decide +kernel
theorem dX8_seats_43 : decode cX8_seats 43 = .ok (.getfield 37, 3) := by decide +kernel
theorem dX8_seats_46 : decode cX8_seats 46 = .ok (.invokevirtual 82, 3) := by decide +kernel
theorem dX8_seats_49 : decode cX8_seats 49 = .ok (.iload_n 3, 1) := by decide +kernel
theorem dX8_seats_50 : decode cX8_seats 50 = .ok (.ireturn, 1) := by decide +kernel
theorem dX8_least_0 : decode cX8_least 0 = .ok (.iload_n 1, 1) := by decide +kernel
theorem dX8_least_1 : decode cX8_least 1 = .ok (.iconst 5, 1) := by decide +kernel
theorem dX8_least_2 : decode cX8_least 2 = .ok (.invokestatic 70, 3) := by decide +kernel
theorem dX8_least_5 : decode cX8_least 5 = .ok (.ifCond .ne 5, 3) := by decide +kernel
theorem dX8_least_8 : decode cX8_least 8 = .ok (.iconst (-1), 1) := by decide +kernel
theorem dX8_least_9 : decode cX8_least 9 = .ok (.ireturn, 1) := by decide +kernel
theorem dX8_least_10 : decode cX8_least 10 = .ok (.iload_n 2, 1) := by decide +kernel
theorem dX8_least_11 : decode cX8_least 11 = .ok (.bipush 9, 2) := by decide +kernel
theorem dX8_least_13 : decode cX8_least 13 = .ok (.invokestatic 70, 3) := by decide +kernel
theorem dX8_least_16 : decode cX8_least 16 = .ok (.ifCond .ne 6, 3) := by decide +kernel
theorem dX8_least_19 : decode cX8_least 19 = .ok (.bipush (-2), 2) := by decide +kernel
theorem dX8_least_21 : decode cX8_least 21 = .ok (.ireturn, 1) := by decide +kernel
theorem dX8_least_22 : decode cX8_least 22 = .ok (.aload_n 0, 1) := by decide +kernel
theorem dX8_least_23 : decode cX8_least 23 = .ok (.getfield 12, 3) := by decide +kernel
theorem dX8_least_26 : decode cX8_least 26 = .ok (.getfield 99, 3) := by decide +kernel
theorem dX8_least_29 : decode cX8_least 29 = .ok (.iload_n 1, 1) := by decide +kernel
theorem dX8_least_30 : decode cX8_least 30 = .ok (.iaload, 1) := by decide +kernel
theorem dX8_least_31 : decode cX8_least 31 = .ok (.istore_n 3, 1) := by decide +kernel
theorem dX8_least_32 : decode cX8_least 32 = .ok (.aload_n 0, 1) := by decide +kernel
theorem dX8_least_33 : decode cX8_least 33 = .ok (.getfield 12, 3) := by decide +kernel
theorem dX8_least_36 : decode cX8_least 36 = .ok (.getfield 99, 3) := by decide +kernel
theorem dX8_least_39 : decode cX8_least 39 = .ok (.iload_n 1, 1) := by decide +kernel
theorem dX8_least_40 : decode cX8_least 40 = .ok (.iload_n 2, 1) := by decide +kernel
theorem dX8_least_41 : decode cX8_least 41 = .ok (.iastore, 1) := by decide +kernel
theorem dX8_least_42 : decode cX8_least 42 = .ok (.aload_n 0, 1) := by decide +kernel
theorem dX8_least_43 : decode cX8_least 43 = .ok (.getfield 37, 3) := by decide +kernel
theorem dX8_least_46 : decode cX8_least 46 = .ok (.invokevirtual 82, 3) := by decide +kernel
theorem dX8_least_49 : decode cX8_least 49 = .ok (.iload_n 3, 1) := by decide +kernel
theorem dX8_least_50 : decode cX8_least 50 = .ok (.ireturn, 1) := by decide +kernel
theorem dX8_join_0 : decode cX8_join 0 = .ok (.iload_n 1, 1) := by decide +kernel
theorem dX8_join_1 : decode cX8_join 1 = .ok (.iconst 5, 1) := by decide +kernel
theorem dX8_join_2 : decode cX8_join 2 = .ok (.invokestatic 70, 3) := by decide +kernel
theorem dX8_join_5 : decode cX8_join 5 = .ok (.ifCond .eq 11, 3) := by decide +kernel
theorem dX8_join_8 : decode cX8_join 8 = .ok (.iload_n 2, 1) := by decide +kernel
theorem dX8_join_9 : decode cX8_join 9 = .ok (.iconst 5, 1) := by decide +kernel
theorem dX8_join_10 : decode cX8_join 10 = .ok (.invokestatic 70, 3) := by decide +kernel
theorem dX8_join_13 : decode cX8_join 13 = .ok (.ifCond .ne 5, 3) := by decide +kernel
theorem dX8_join_16 : decode cX8_join 16 = .ok (.iconst (-1), 1) := by decide +kernel
theorem dX8_join_17 : decode cX8_join 17 = .ok (.ireturn, 1) := by decide +kernel
theorem dX8_join_18 : decode cX8_join 18 = .ok (.aload_n 0, 1) := by decide +kernel
theorem dX8_join_19 : decode cX8_join 19 = .ok (.getfield 12, 3) := by decide +kernel
theorem dX8_join_22 : decode cX8_join 22 = .ok (.getfield 102, 3) := by decide +kernel
theorem dX8_join_25 : decode cX8_join 25 = .ok (.iload_n 1, 1) := by decide +kernel
theorem dX8_join_26 : decode cX8_join 26 = .ok (.iaload, 1) := by decide +kernel
theorem dX8_join_27 : decode cX8_join 27 = .ok (.istore_n 3, 1) := by decide +kernel
theorem dX8_join_28 : decode cX8_join 28 = .ok (.aload_n 0, 1) := by decide +kernel
theorem dX8_join_29 : decode cX8_join 29 = .ok (.getfield 12, 3) := by decide +kernel
theorem dX8_join_32 : decode cX8_join 32 = .ok (.getfield 102, 3) := by decide +kernel
theorem dX8_join_35 : decode cX8_join 35 = .ok (.iload_n 1, 1) := by decide +kernel
theorem dX8_join_36 : decode cX8_join 36 = .ok (.iload_n 2, 1) := by decide +kernel
theorem dX8_join_37 : decode cX8_join 37 = .ok (.iastore, 1) := by decide +kernel
theorem dX8_join_38 : decode cX8_join 38 = .ok (.aload_n 0, 1) := by decide +kernel
theorem dX8_join_39 : decode cX8_join 39 = .ok (.getfield 37, 3) := by decide +kernel
theorem dX8_join_42 : decode cX8_join 42 = .ok (.invokevirtual 82, 3) := by decide +kernel
theorem dX8_join_45 : decode cX8_join 45 = .ok (.iload_n 3, 1) := by decide +kernel
theorem dX8_join_46 : decode cX8_join 46 = .ok (.ireturn, 1) := by decide +kernel
theorem dX8_bar_0 : decode cX8_bar 0 = .ok (.iload_n 1, 1) := by decide +kernel
theorem dX8_bar_1 : decode cX8_bar 1 = .ok (.sipush 500, 3) := by decide +kernel
theorem dX8_bar_4 : decode cX8_bar 4 = .ok (.invokestatic 70, 3) := by decide +kernel
theorem dX8_bar_7 : decode cX8_bar 7 = .ok (.ifCond .ne 6, 3) := by decide +kernel
theorem dX8_bar_10 : decode cX8_bar 10 = .ok (.bipush (-2), 2) := by decide +kernel
theorem dX8_bar_12 : decode cX8_bar 12 = .ok (.ireturn, 1) := by decide +kernel
theorem dX8_bar_13 : decode cX8_bar 13 = .ok (.aload_n 0, 1) := by decide +kernel
theorem dX8_bar_14 : decode cX8_bar 14 = .ok (.getfield 12, 3) := by decide +kernel
theorem dX8_bar_17 : decode cX8_bar 17 = .ok (.getfield 105, 3) := by decide +kernel
theorem dX8_bar_20 : decode cX8_bar 20 = .ok (.istore_n 2, 1) := by decide +kernel
theorem dX8_bar_21 : decode cX8_bar 21 = .ok (.aload_n 0, 1) := by decide +kernel
theorem dX8_bar_22 : decode cX8_bar 22 = .ok (.getfield 12, 3) := by decide +kernel
theorem dX8_bar_25 : decode cX8_bar 25 = .ok (.iload_n 1, 1) := by decide +kernel
theorem dX8_bar_26 : decode cX8_bar 26 = .ok (.putfield 105, 3) := by decide +kernel
theorem dX8_bar_29 : decode cX8_bar 29 = .ok (.aload_n 0, 1) := by decide +kernel
theorem dX8_bar_30 : decode cX8_bar 30 = .ok (.getfield 37, 3) := by decide +kernel
theorem dX8_bar_33 : decode cX8_bar 33 = .ok (.invokevirtual 82, 3) := by decide +kernel
theorem dX8_bar_36 : decode cX8_bar 36 = .ok (.iload_n 2, 1) := by decide +kernel
theorem dX8_bar_37 : decode cX8_bar 37 = .ok (.ireturn, 1) := by decide +kernel
theorem dX8_way_0 : decode cX8_way 0 = .ok (.iload_n 1, 1) := by decide +kernel
theorem dX8_way_1 : decode cX8_way 1 = .ok (.bipush 6, 2) := by decide +kernel
theorem dX8_way_3 : decode cX8_way 3 = .ok (.invokestatic 70, 3) := by decide +kernel
theorem dX8_way_6 : decode cX8_way 6 = .ok (.ifCond .ne 5, 3) := by decide +kernel
theorem dX8_way_9 : decode cX8_way 9 = .ok (.iconst (-1), 1) := by decide +kernel
theorem dX8_way_10 : decode cX8_way 10 = .ok (.ireturn, 1) := by decide +kernel
theorem dX8_way_11 : decode cX8_way 11 = .ok (.aload_n 0, 1) := by decide +kernel
theorem dX8_way_12 : decode cX8_way 12 = .ok (.getfield 12, 3) := by decide +kernel
theorem dX8_way_15 : decode cX8_way 15 = .ok (.getfield 109, 3) := by decide +kernel
theorem dX8_way_18 : decode cX8_way 18 = .ok (.istore_n 2, 1) := by decide +kernel
theorem dX8_way_19 : decode cX8_way 19 = .ok (.aload_n 0, 1) := by decide +kernel
theorem dX8_way_20 : decode cX8_way 20 = .ok (.getfield 12, 3) := by decide +kernel
theorem dX8_way_23 : decode cX8_way 23 = .ok (.iload_n 1, 1) := by decide +kernel
theorem dX8_way_24 : decode cX8_way 24 = .ok (.putfield 109, 3) := by decide +kernel
theorem dX8_way_27 : decode cX8_way 27 = .ok (.aload_n 0, 1) := by decide +kernel
theorem dX8_way_28 : decode cX8_way 28 = .ok (.getfield 37, 3) := by decide +kernel
theorem dX8_way_31 : decode cX8_way 31 = .ok (.invokevirtual 82, 3) := by decide +kernel
theorem dX8_way_34 : decode cX8_way 34 = .ok (.iload_n 2, 1) := by decide +kernel
theorem dX8_way_35 : decode cX8_way 35 = .ok (.ireturn, 1) := by decide +kernel
theorem dX8_tell_0 : decode cX8_tell 0 = .ok (.iload_n 1, 1) := by decide +kernel
theorem dX8_tell_1 : decode cX8_tell 1 = .ok (.bipush 99, 2) := by decide +kernel
theorem dX8_tell_3 : decode cX8_tell 3 = .ok (.invokestatic 70, 3) := by decide +kernel
theorem dX8_tell_6 : decode cX8_tell 6 = .ok (.ifCond .eq 19, 3) := by decide +kernel
theorem dX8_tell_9 : decode cX8_tell 9 = .ok (.iload_n 2, 1) := by decide +kernel
theorem dX8_tell_10 : decode cX8_tell 10 = .ok (.iconst 1, 1) := by decide +kernel
theorem dX8_tell_11 : decode cX8_tell 11 = .ok (.if_icmp .lt 14, 3) := by decide +kernel
theorem dX8_tell_14 : decode cX8_tell 14 = .ok (.iload_n 2, 1) := by decide +kernel
theorem dX8_tell_15 : decode cX8_tell 15 = .ok (.bipush 99, 2) := by decide +kernel
theorem dX8_tell_17 : decode cX8_tell 17 = .ok (.if_icmp .gt 8, 3) := by decide +kernel
theorem dX8_tell_20 : decode cX8_tell 20 = .ok (.iload_n 1, 1) := by decide +kernel
theorem dX8_tell_21 : decode cX8_tell 21 = .ok (.iload_n 2, 1) := by decide +kernel
theorem dX8_tell_22 : decode cX8_tell 22 = .ok (.if_icmp .le 6, 3) := by decide +kernel
theorem dX8_tell_25 : decode cX8_tell 25 = .ok (.bipush (-2), 2) := by decide +kernel
theorem dX8_tell_27 : decode cX8_tell 27 = .ok (.ireturn, 1) := by decide +kernel
theorem dX8_tell_28 : decode cX8_tell 28 = .ok (.aload_n 0, 1) := by decide +kernel
theorem dX8_tell_29 : decode cX8_tell 29 = .ok (.getfield 12, 3) := by decide +kernel
theorem dX8_tell_32 : decode cX8_tell 32 = .ok (.iload_n 1, 1) := by decide +kernel
theorem dX8_tell_33 : decode cX8_tell 33 = .ok (.putfield 112, 3) := by decide +kernel
theorem dX8_tell_36 : decode cX8_tell 36 = .ok (.aload_n 0, 1) := by decide +kernel
theorem dX8_tell_37 : decode cX8_tell 37 = .ok (.getfield 12, 3) := by decide +kernel
theorem dX8_tell_40 : decode cX8_tell 40 = .ok (.iload_n 2, 1) := by decide +kernel
theorem dX8_tell_41 : decode cX8_tell 41 = .ok (.putfield 115, 3) := by decide +kernel
theorem dX8_tell_44 : decode cX8_tell 44 = .ok (.aload_n 0, 1) := by decide +kernel
theorem dX8_tell_45 : decode cX8_tell 45 = .ok (.getfield 37, 3) := by decide +kernel
theorem dX8_tell_48 : decode cX8_tell 48 = .ok (.invokevirtual 82, 3) := by decide +kernel
theorem dX8_tell_51 : decode cX8_tell 51 = .ok (.iconst 1, 1) := by decide +kernel
theorem dX8_tell_52 : decode cX8_tell 52 = .ok (.ireturn, 1) := by decide +kernel
theorem dX8_feed_0 : decode cX8_feed 0 = .ok (.iload_n 1, 1) := by decide +kernel
theorem dX8_feed_1 : decode cX8_feed 1 = .ok (.iconst 1, 1) := by decide +kernel
theorem dX8_feed_2 : decode cX8_feed 2 = .ok (.if_icmp .lt 9, 3) := by decide +kernel
theorem dX8_feed_5 : decode cX8_feed 5 = .ok (.iload_n 1, 1) := by decide +kernel
theorem dX8_feed_6 : decode cX8_feed 6 = .ok (.bipush 127, 2) := by decide +kernel
theorem dX8_feed_8 : decode cX8_feed 8 = .ok (.if_icmp .le 6, 3) := by decide +kernel
theorem dX8_feed_11 : decode cX8_feed 11 = .ok (.bipush (-2), 2) := by decide +kernel
theorem dX8_feed_13 : decode cX8_feed 13 = .ok (.ireturn, 1) := by decide +kernel
theorem dX8_feed_14 : decode cX8_feed 14 = .ok (.aload_n 0, 1) := by decide +kernel
theorem dX8_feed_15 : decode cX8_feed 15 = .ok (.getfield 44, 3) := by decide +kernel
theorem dX8_feed_18 : decode cX8_feed 18 = .ok (.iload_n 1, 1) := by decide +kernel
theorem dX8_feed_19 : decode cX8_feed 19 = .ok (.invokevirtual 118, 3) := by decide +kernel
theorem dX8_feed_22 : decode cX8_feed 22 = .ok (.ifCond .eq 13, 3) := by decide +kernel
theorem dX8_feed_25 : decode cX8_feed 25 = .ok (.aload_n 0, 1) := by decide +kernel
theorem dX8_feed_26 : decode cX8_feed 26 = .ok (.getfield 44, 3) := by decide +kernel
theorem dX8_feed_29 : decode cX8_feed 29 = .ok (.getfield 122, 3) := by decide +kernel
theorem dX8_feed_32 : decode cX8_feed 32 = .ok (.goto 5, 3) := by decide +kernel
theorem dX8_feed_35 : decode cX8_feed 35 = .ok (.bipush (-4), 2) := by decide +kernel
theorem dX8_feed_37 : decode cX8_feed 37 = .ok (.ireturn, 1) := by decide +kernel
theorem dX8_clear_0 : decode cX8_clear 0 = .ok (.aload_n 0, 1) := by decide +kernel
theorem dX8_clear_1 : decode cX8_clear 1 = .ok (.getfield 44, 3) := by decide +kernel
theorem dX8_clear_4 : decode cX8_clear 4 = .ok (.getfield 122, 3) := by decide +kernel
theorem dX8_clear_7 : decode cX8_clear 7 = .ok (.istore_n 1, 1) := by decide +kernel
theorem dX8_clear_8 : decode cX8_clear 8 = .ok (.aload_n 0, 1) := by decide +kernel
theorem dX8_clear_9 : decode cX8_clear 9 = .ok (.getfield 44, 3) := by decide +kernel
theorem dX8_clear_12 : decode cX8_clear 12 = .ok (.iconst 0, 1) := by decide +kernel
theorem dX8_clear_13 : decode cX8_clear 13 = .ok (.putfield 122, 3) := by decide +kernel
theorem dX8_clear_16 : decode cX8_clear 16 = .ok (.iload_n 1, 1) := by decide +kernel
theorem dX8_clear_17 : decode cX8_clear 17 = .ok (.ireturn, 1) := by decide +kernel
theorem dX8_read_0 : decode cX8_read 0 = .ok (.iload_n 1, 1) := by decide +kernel
theorem dX8_read_1 : decode cX8_read 1 = .ok (.iconst 3, 1) := by decide +kernel
theorem dX8_read_2 : decode cX8_read 2 = .ok (.invokestatic 70, 3) := by decide +kernel
theorem dX8_read_5 : decode cX8_read 5 = .ok (.ifCond .ne 5, 3) := by decide +kernel
theorem dX8_read_8 : decode cX8_read 8 = .ok (.iconst (-1), 1) := by decide +kernel
theorem dX8_read_9 : decode cX8_read 9 = .ok (.ireturn, 1) := by decide +kernel
theorem dX8_read_10 : decode cX8_read 10 = .ok (.aload_n 0, 1) := by decide +kernel
theorem dX8_read_11 : decode cX8_read 11 = .ok (.getfield 44, 3) := by decide +kernel
theorem dX8_read_14 : decode cX8_read 14 = .ok (.iload_n 1, 1) := by decide +kernel
theorem dX8_read_15 : decode cX8_read 15 = .ok (.aload_n 0, 1) := by decide +kernel
theorem dX8_read_16 : decode cX8_read 16 = .ok (.getfield 21, 3) := by decide +kernel
theorem dX8_read_19 : decode cX8_read 19 = .ok (.aload_n 0, 1) := by decide +kernel
theorem dX8_read_20 : decode cX8_read 20 = .ok (.getfield 12, 3) := by decide +kernel
theorem dX8_read_23 : decode cX8_read 23 = .ok (.invokevirtual 125, 3) := by decide +kernel
theorem dX8_read_26 : decode cX8_read 26 = .ok (.istore_n 2, 1) := by decide +kernel
theorem dX8_read_27 : decode cX8_read 27 = .ok (.aload_n 0, 1) := by decide +kernel
theorem dX8_read_28 : decode cX8_read 28 = .ok (.getfield 44, 3) := by decide +kernel
theorem dX8_read_31 : decode cX8_read 31 = .ok (.iconst 0, 1) := by decide +kernel
theorem dX8_read_32 : decode cX8_read 32 = .ok (.putfield 122, 3) := by decide +kernel
theorem dX8_read_35 : decode cX8_read 35 = .ok (.iload_n 2, 1) := by decide +kernel
theorem dX8_read_36 : decode cX8_read 36 = .ok (.ifCond .le 21, 3) := by decide +kernel
theorem dX8_read_39 : decode cX8_read 39 = .ok (.aload_n 0, 1) := by decide +kernel
theorem dX8_read_40 : decode cX8_read 40 = .ok (.getfield 12, 3) := by decide +kernel
theorem dX8_read_43 : decode cX8_read 43 = .ok (.aload_n 0, 1) := by decide +kernel
theorem dX8_read_44 : decode cX8_read 44 = .ok (.getfield 21, 3) := by decide +kernel
theorem dX8_read_47 : decode cX8_read 47 = .ok (.invokevirtual 129, 3) := by decide +kernel
theorem dX8_read_50 : decode cX8_read 50 = .ok (.aload_n 0, 1) := by decide +kernel
theorem dX8_read_51 : decode cX8_read 51 = .ok (.getfield 37, 3) := by decide +kernel
theorem dX8_read_54 : decode cX8_read 54 = .ok (.invokevirtual 82, 3) := by decide +kernel
theorem dX8_read_57 : decode cX8_read 57 = .ok (.iload_n 2, 1) := by decide +kernel
theorem dX8_read_58 : decode cX8_read 58 = .ok (.ireturn, 1) := by decide +kernel
theorem dX8_in_0 : decode cX8_in 0 = .ok (.aload_n 0, 1) := by decide +kernel
theorem dX8_in_1 : decode cX8_in 1 = .ok (.getfield 12, 3) := by decide +kernel
theorem dX8_in_4 : decode cX8_in 4 = .ok (.invokevirtual 133, 3) := by decide +kernel
theorem dX8_in_7 : decode cX8_in 7 = .ok (.ireturn, 1) := by decide +kernel
theorem dX8_house_0 : decode cX8_house 0 = .ok (.iload_n 2, 1) := by decide +kernel
theorem dX8_house_1 : decode cX8_house 1 = .ok (.iconst 5, 1) := by decide +kernel
theorem dX8_house_2 : decode cX8_house 2 = .ok (.invokestatic 70, 3) := by decide +kernel
theorem dX8_house_5 : decode cX8_house 5 = .ok (.ifCond .ne 5, 3) := by decide +kernel
theorem dX8_house_8 : decode cX8_house 8 = .ok (.iconst (-1), 1) := by decide +kernel
theorem dX8_house_9 : decode cX8_house 9 = .ok (.ireturn, 1) := by decide +kernel
theorem dX8_house_10 : decode cX8_house 10 = .ok (.aload_n 0, 1) := by decide +kernel
theorem dX8_house_11 : decode cX8_house 11 = .ok (.iload_n 1, 1) := by decide +kernel
theorem dX8_house_12 : decode cX8_house 12 = .ok (.invokevirtual 136, 3) := by decide +kernel
theorem dX8_house_15 : decode cX8_house 15 = .ok (.istore_n 3, 1) := by decide +kernel
theorem dX8_house_16 : decode cX8_house 16 = .ok (.iload_n 3, 1) := by decide +kernel
theorem dX8_house_17 : decode cX8_house 17 = .ok (.ifCond .eq 7, 3) := by decide +kernel
theorem dX8_house_20 : decode cX8_house 20 = .ok (.iload_n 3, 1) := by decide +kernel
theorem dX8_house_21 : decode cX8_house 21 = .ok (.goto 12, 3) := by decide +kernel
theorem dX8_house_24 : decode cX8_house 24 = .ok (.aload_n 0, 1) := by decide +kernel
theorem dX8_house_25 : decode cX8_house 25 = .ok (.getfield 27, 3) := by decide +kernel
theorem dX8_house_28 : decode cX8_house 28 = .ok (.getfield 139, 3) := by decide +kernel
theorem dX8_house_31 : decode cX8_house 31 = .ok (.iload_n 2, 1) := by decide +kernel
theorem dX8_house_32 : decode cX8_house 32 = .ok (.iaload, 1) := by decide +kernel
theorem dX8_house_33 : decode cX8_house 33 = .ok (.ireturn, 1) := by decide +kernel
theorem dX8_list_0 : decode cX8_list 0 = .ok (.iload_n 2, 1) := by decide +kernel
theorem dX8_list_1 : decode cX8_list 1 = .ok (.iconst 5, 1) := by decide +kernel
theorem dX8_list_2 : decode cX8_list 2 = .ok (.invokestatic 70, 3) := by decide +kernel
theorem dX8_list_5 : decode cX8_list 5 = .ok (.ifCond .ne 5, 3) := by decide +kernel
theorem dX8_list_8 : decode cX8_list 8 = .ok (.iconst (-1), 1) := by decide +kernel
theorem dX8_list_9 : decode cX8_list 9 = .ok (.ireturn, 1) := by decide +kernel
theorem dX8_list_10 : decode cX8_list 10 = .ok (.aload_n 0, 1) := by decide +kernel
theorem dX8_list_11 : decode cX8_list 11 = .ok (.iload_n 1, 1) := by decide +kernel
theorem dX8_list_12 : decode cX8_list 12 = .ok (.invokevirtual 136, 3) := by decide +kernel
theorem dX8_list_15 : decode cX8_list 15 = .ok (.istore_n 3, 1) := by decide +kernel
theorem dX8_list_16 : decode cX8_list 16 = .ok (.iload_n 3, 1) := by decide +kernel
theorem dX8_list_17 : decode cX8_list 17 = .ok (.ifCond .eq 7, 3) := by decide +kernel
theorem dX8_list_20 : decode cX8_list 20 = .ok (.iload_n 3, 1) := by decide +kernel
theorem dX8_list_21 : decode cX8_list 21 = .ok (.goto 15, 3) := by decide +kernel
theorem dX8_list_24 : decode cX8_list 24 = .ok (.aload_n 0, 1) := by decide +kernel
theorem dX8_list_25 : decode cX8_list 25 = .ok (.getfield 27, 3) := by decide +kernel
theorem dX8_list_28 : decode cX8_list 28 = .ok (.getfield 142, 3) := by decide +kernel
theorem dX8_list_31 : decode cX8_list 31 = .ok (.getfield 146, 3) := by decide +kernel
theorem dX8_list_34 : decode cX8_list 34 = .ok (.iload_n 2, 1) := by decide +kernel
theorem dX8_list_35 : decode cX8_list 35 = .ok (.iaload, 1) := by decide +kernel
theorem dX8_list_36 : decode cX8_list 36 = .ok (.ireturn, 1) := by decide +kernel
theorem dX8_given_0 : decode cX8_given 0 = .ok (.aload_n 0, 1) := by decide +kernel
theorem dX8_given_1 : decode cX8_given 1 = .ok (.iload_n 1, 1) := by decide +kernel
theorem dX8_given_2 : decode cX8_given 2 = .ok (.invokevirtual 151, 3) := by decide +kernel
theorem dX8_given_5 : decode cX8_given 5 = .ok (.istore_n 3, 1) := by decide +kernel
theorem dX8_given_6 : decode cX8_given 6 = .ok (.iload_n 3, 1) := by decide +kernel
theorem dX8_given_7 : decode cX8_given 7 = .ok (.ifCond .eq 5, 3) := by decide +kernel
theorem dX8_given_10 : decode cX8_given 10 = .ok (.iload_n 3, 1) := by decide +kernel
theorem dX8_given_11 : decode cX8_given 11 = .ok (.ireturn, 1) := by decide +kernel
theorem dX8_given_12 : decode cX8_given 12 = .ok (.iload_n 2, 1) := by decide +kernel
theorem dX8_given_13 : decode cX8_given 13 = .ok (.ifCond .lt 17, 3) := by decide +kernel
theorem dX8_given_16 : decode cX8_given 16 = .ok (.iload_n 2, 1) := by decide +kernel
theorem dX8_given_17 : decode cX8_given 17 = .ok (.aload_n 0, 1) := by decide +kernel
theorem dX8_given_18 : decode cX8_given 18 = .ok (.getfield 27, 3) := by decide +kernel
theorem dX8_given_21 : decode cX8_given 21 = .ok (.getfield 142, 3) := by decide +kernel
theorem dX8_given_24 : decode cX8_given 24 = .ok (.getfield 154, 3) := by decide +kernel
theorem dX8_given_27 : decode cX8_given 27 = .ok (.if_icmp .lt 5, 3) := by decide +kernel
theorem dX8_given_30 : decode cX8_given 30 = .ok (.iconst (-1), 1) := by decide +kernel
theorem dX8_given_31 : decode cX8_given 31 = .ok (.ireturn, 1) := by decide +kernel
theorem dX8_given_32 : decode cX8_given 32 = .ok (.aload_n 0, 1) := by decide +kernel
theorem dX8_given_33 : decode cX8_given 33 = .ok (.getfield 27, 3) := by decide +kernel
theorem dX8_given_36 : decode cX8_given 36 = .ok (.getfield 142, 3) := by decide +kernel
theorem dX8_given_39 : decode cX8_given 39 = .ok (.getfield 157, 3) := by decide +kernel
theorem dX8_given_42 : decode cX8_given 42 = .ok (.iload_n 2, 1) := by decide +kernel
theorem dX8_given_43 : decode cX8_given 43 = .ok (.iaload, 1) := by decide +kernel
theorem dX8_given_44 : decode cX8_given 44 = .ok (.ireturn, 1) := by decide +kernel
theorem dX8_tie_0 : decode cX8_tie 0 = .ok (.aload_n 0, 1) := by decide +kernel
theorem dX8_tie_1 : decode cX8_tie 1 = .ok (.iload_n 1, 1) := by decide +kernel
theorem dX8_tie_2 : decode cX8_tie 2 = .ok (.invokevirtual 151, 3) := by decide +kernel
theorem dX8_tie_5 : decode cX8_tie 5 = .ok (.istore_n 2, 1) := by decide +kernel
theorem dX8_tie_6 : decode cX8_tie 6 = .ok (.iload_n 2, 1) := by decide +kernel
theorem dX8_tie_7 : decode cX8_tie 7 = .ok (.ifCond .eq 7, 3) := by decide +kernel
theorem dX8_tie_10 : decode cX8_tie 10 = .ok (.iload_n 2, 1) := by decide +kernel
theorem dX8_tie_11 : decode cX8_tie 11 = .ok (.goto 13, 3) := by decide +kernel
theorem dX8_tie_14 : decode cX8_tie 14 = .ok (.aload_n 0, 1) := by decide +kernel
theorem dX8_tie_15 : decode cX8_tie 15 = .ok (.getfield 27, 3) := by decide +kernel
theorem dX8_tie_18 : decode cX8_tie 18 = .ok (.getfield 142, 3) := by decide +kernel
theorem dX8_tie_21 : decode cX8_tie 21 = .ok (.getfield 160, 3) := by decide +kernel
theorem dX8_tie_24 : decode cX8_tie 24 = .ok (.ireturn, 1) := by decide +kernel
theorem dX8_differ_0 : decode cX8_differ 0 = .ok (.iload_n 2, 1) := by decide +kernel
theorem dX8_differ_1 : decode cX8_differ 1 = .ok (.bipush 6, 2) := by decide +kernel
theorem dX8_differ_3 : decode cX8_differ 3 = .ok (.invokestatic 70, 3) := by decide +kernel
theorem dX8_differ_6 : decode cX8_differ 6 = .ok (.ifCond .eq 12, 3) := by decide +kernel
theorem dX8_differ_9 : decode cX8_differ 9 = .ok (.iload_n 3, 1) := by decide +kernel
theorem dX8_differ_10 : decode cX8_differ 10 = .ok (.bipush 6, 2) := by decide +kernel
theorem dX8_differ_12 : decode cX8_differ 12 = .ok (.invokestatic 70, 3) := by decide +kernel
theorem dX8_differ_15 : decode cX8_differ 15 = .ok (.ifCond .ne 5, 3) := by decide +kernel
theorem dX8_differ_18 : decode cX8_differ 18 = .ok (.iconst (-1), 1) := by decide +kernel
theorem dX8_differ_19 : decode cX8_differ 19 = .ok (.ireturn, 1) := by decide +kernel
theorem dX8_differ_20 : decode cX8_differ 20 = .ok (.iload_n 1, 1) := by decide +kernel
theorem dX8_differ_21 : decode cX8_differ 21 = .ok (.bipush 60, 2) := by decide +kernel
theorem dX8_differ_23 : decode cX8_differ 23 = .ok (.invokestatic 70, 3) := by decide +kernel
theorem dX8_differ_26 : decode cX8_differ 26 = .ok (.ifCond .ne 6, 3) := by decide +kernel
theorem dX8_differ_29 : decode cX8_differ 29 = .ok (.bipush (-2), 2) := by decide +kernel
theorem dX8_differ_31 : decode cX8_differ 31 = .ok (.ireturn, 1) := by decide +kernel
theorem dX8_differ_32 : decode cX8_differ 32 = .ok (.aload_n 0, 1) := by decide +kernel
theorem dX8_differ_33 : decode cX8_differ 33 = .ok (.getfield 27, 3) := by decide +kernel
theorem dX8_differ_36 : decode cX8_differ 36 = .ok (.aload_n 0, 1) := by decide +kernel
theorem dX8_differ_37 : decode cX8_differ 37 = .ok (.getfield 12, 3) := by decide +kernel
theorem dX8_differ_40 : decode cX8_differ 40 = .ok (.iload_n 2, 1) := by decide +kernel
theorem dX8_differ_41 : decode cX8_differ 41 = .ok (.iload_n 1, 1) := by decide +kernel
theorem dX8_differ_42 : decode cX8_differ 42 = .ok (.invokevirtual 163, 3) := by decide +kernel
theorem dX8_differ_45 : decode cX8_differ 45 = .ok (.ifCond .eq 19, 3) := by decide +kernel
theorem dX8_differ_48 : decode cX8_differ 48 = .ok (.aload_n 0, 1) := by decide +kernel
theorem dX8_differ_49 : decode cX8_differ 49 = .ok (.getfield 31, 3) := by decide +kernel
theorem dX8_differ_52 : decode cX8_differ 52 = .ok (.aload_n 0, 1) := by decide +kernel
theorem dX8_differ_53 : decode cX8_differ 53 = .ok (.getfield 12, 3) := by decide +kernel
theorem dX8_differ_56 : decode cX8_differ 56 = .ok (.iload_n 3, 1) := by decide +kernel
theorem dX8_differ_57 : decode cX8_differ 57 = .ok (.iload_n 1, 1) := by decide +kernel
theorem dX8_differ_58 : decode cX8_differ 58 = .ok (.invokevirtual 163, 3) := by decide +kernel
theorem dX8_differ_61 : decode cX8_differ 61 = .ok (.ifCond .ne 6, 3) := by decide +kernel
theorem dX8_differ_64 : decode cX8_differ 64 = .ok (.bipush (-3), 2) := by decide +kernel
theorem dX8_differ_66 : decode cX8_differ 66 = .ok (.ireturn, 1) := by decide +kernel
theorem dX8_differ_67 : decode cX8_differ 67 = .ok (.aload_n 0, 1) := by decide +kernel
theorem dX8_differ_68 : decode cX8_differ 68 = .ok (.getfield 27, 3) := by decide +kernel
theorem dX8_differ_71 : decode cX8_differ 71 = .ok (.aload_n 0, 1) := by decide +kernel
theorem dX8_differ_72 : decode cX8_differ 72 = .ok (.getfield 31, 3) := by decide +kernel
theorem dX8_differ_75 : decode cX8_differ 75 = .ok (.invokevirtual 167, 3) := by decide +kernel
theorem dX8_differ_78 : decode cX8_differ 78 = .ok (.iconst 2, 1) := by decide +kernel
theorem dX8_differ_79 : decode cX8_differ 79 = .ok (.idiv, 1) := by decide +kernel
theorem dX8_differ_80 : decode cX8_differ 80 = .ok (.ireturn, 1) := by decide +kernel
theorem dX8_loses_0 : decode cX8_loses 0 = .ok (.iload_n 1, 1) := by decide +kernel
theorem dX8_loses_1 : decode cX8_loses 1 = .ok (.bipush 60, 2) := by decide +kernel
theorem dX8_loses_3 : decode cX8_loses 3 = .ok (.invokestatic 70, 3) := by decide +kernel
theorem dX8_loses_6 : decode cX8_loses 6 = .ok (.ifCond .eq 17, 3) := by decide +kernel
theorem dX8_loses_9 : decode cX8_loses 9 = .ok (.iload_n 2, 1) := by decide +kernel
theorem dX8_loses_10 : decode cX8_loses 10 = .ok (.bipush 60, 2) := by decide +kernel
theorem dX8_loses_12 : decode cX8_loses 12 = .ok (.invokestatic 70, 3) := by decide +kernel
theorem dX8_loses_15 : decode cX8_loses 15 = .ok (.ifCond .eq 8, 3) := by decide +kernel
theorem dX8_loses_18 : decode cX8_loses 18 = .ok (.iload_n 2, 1) := by decide +kernel
theorem dX8_loses_19 : decode cX8_loses 19 = .ok (.iload_n 1, 1) := by decide +kernel
theorem dX8_loses_20 : decode cX8_loses 20 = .ok (.if_icmp .ge 6, 3) := by decide +kernel
theorem dX8_loses_23 : decode cX8_loses 23 = .ok (.bipush (-2), 2) := by decide +kernel
theorem dX8_loses_25 : decode cX8_loses 25 = .ok (.ireturn, 1) := by decide +kernel
theorem dX8_loses_26 : decode cX8_loses 26 = .ok (.aload_n 0, 1) := by decide +kernel
theorem dX8_loses_27 : decode cX8_loses 27 = .ok (.getfield 27, 3) := by decide +kernel
theorem dX8_loses_30 : decode cX8_loses 30 = .ok (.astore_n 3, 1) := by decide +kernel
theorem dX8_loses_31 : decode cX8_loses 31 = .ok (.aload_n 0, 1) := by decide +kernel
theorem dX8_loses_32 : decode cX8_loses 32 = .ok (.getfield 31, 3) := by decide +kernel
theorem dX8_loses_35 : decode cX8_loses 35 = .ok (.astore 4, 2) := by decide +kernel
theorem dX8_loses_37 : decode cX8_loses 37 = .ok (.aload_n 3, 1) := by decide +kernel
theorem dX8_loses_38 : decode cX8_loses 38 = .ok (.aload_n 0, 1) := by decide +kernel
theorem dX8_loses_39 : decode cX8_loses 39 = .ok (.getfield 12, 3) := by decide +kernel
theorem dX8_loses_42 : decode cX8_loses 42 = .ok (.aload_n 0, 1) := by decide +kernel
theorem dX8_loses_43 : decode cX8_loses 43 = .ok (.getfield 12, 3) := by decide +kernel
theorem dX8_loses_46 : decode cX8_loses 46 = .ok (.getfield 109, 3) := by decide +kernel
theorem dX8_loses_49 : decode cX8_loses 49 = .ok (.iload_n 1, 1) := by decide +kernel
theorem dX8_loses_50 : decode cX8_loses 50 = .ok (.invokevirtual 163, 3) := by decide +kernel
theorem dX8_loses_53 : decode cX8_loses 53 = .ok (.istore 5, 2) := by decide +kernel
theorem dX8_loses_55 : decode cX8_loses 55 = .ok (.iload_n 1, 1) := by decide +kernel
theorem dX8_loses_56 : decode cX8_loses 56 = .ok (.iconst 1, 1) := by decide +kernel
theorem dX8_loses_57 : decode cX8_loses 57 = .ok (.iadd, 1) := by decide +kernel
theorem dX8_loses_58 : decode cX8_loses 58 = .ok (.istore 6, 2) := by decide +kernel
theorem dX8_loses_60 : decode cX8_loses 60 = .ok (.iload 6, 2) := by decide +kernel
theorem dX8_loses_62 : decode cX8_loses 62 = .ok (.iload_n 2, 1) := by decide +kernel
theorem dX8_loses_63 : decode cX8_loses 63 = .ok (.if_icmp .gt 65, 3) := by decide +kernel
theorem dX8_loses_66 : decode cX8_loses 66 = .ok (.aload 4, 2) := by decide +kernel
theorem dX8_loses_68 : decode cX8_loses 68 = .ok (.aload_n 0, 1) := by decide +kernel
theorem dX8_loses_69 : decode cX8_loses 69 = .ok (.getfield 12, 3) := by decide +kernel
theorem dX8_loses_72 : decode cX8_loses 72 = .ok (.aload_n 0, 1) := by decide +kernel
theorem dX8_loses_73 : decode cX8_loses 73 = .ok (.getfield 12, 3) := by decide +kernel
theorem dX8_loses_76 : decode cX8_loses 76 = .ok (.getfield 109, 3) := by decide +kernel
theorem dX8_loses_79 : decode cX8_loses 79 = .ok (.iload 6, 2) := by decide +kernel
theorem dX8_loses_81 : decode cX8_loses 81 = .ok (.invokevirtual 163, 3) := by decide +kernel
theorem dX8_loses_84 : decode cX8_loses 84 = .ok (.istore 7, 2) := by decide +kernel
theorem dX8_loses_86 : decode cX8_loses 86 = .ok (.iload 5, 2) := by decide +kernel
theorem dX8_loses_88 : decode cX8_loses 88 = .ok (.ifCond .eq 20, 3) := by decide +kernel
theorem dX8_loses_91 : decode cX8_loses 91 = .ok (.iload 7, 2) := by decide +kernel
theorem dX8_loses_93 : decode cX8_loses 93 = .ok (.ifCond .eq 15, 3) := by decide +kernel
theorem dX8_loses_96 : decode cX8_loses 96 = .ok (.aload 4, 2) := by decide +kernel
theorem dX8_loses_98 : decode cX8_loses 98 = .ok (.aload_n 3, 1) := by decide +kernel
theorem dX8_loses_99 : decode cX8_loses 99 = .ok (.invokevirtual 171, 3) := by decide +kernel
theorem dX8_loses_102 : decode cX8_loses 102 = .ok (.ifCond .lt 6, 3) := by decide +kernel
theorem dX8_loses_105 : decode cX8_loses 105 = .ok (.iload 6, 2) := by decide +kernel
theorem dX8_loses_107 : decode cX8_loses 107 = .ok (.ireturn, 1) := by decide +kernel
theorem dX8_loses_108 : decode cX8_loses 108 = .ok (.aload_n 3, 1) := by decide +kernel
theorem dX8_loses_109 : decode cX8_loses 109 = .ok (.astore 8, 2) := by decide +kernel
theorem dX8_loses_111 : decode cX8_loses 111 = .ok (.aload 4, 2) := by decide +kernel
theorem dX8_loses_113 : decode cX8_loses 113 = .ok (.astore_n 3, 1) := by decide +kernel
theorem dX8_loses_114 : decode cX8_loses 114 = .ok (.aload 8, 2) := by decide +kernel
theorem dX8_loses_116 : decode cX8_loses 116 = .ok (.astore 4, 2) := by decide +kernel
theorem dX8_loses_118 : decode cX8_loses 118 = .ok (.iload 7, 2) := by decide +kernel
theorem dX8_loses_120 : decode cX8_loses 120 = .ok (.istore 5, 2) := by decide +kernel
theorem dX8_loses_122 : decode cX8_loses 122 = .ok (.iinc 6 1, 3) := by decide +kernel
theorem dX8_loses_125 : decode cX8_loses 125 = .ok (.goto (-65), 3) := by decide +kernel
theorem dX8_loses_128 : decode cX8_loses 128 = .ok (.bipush (-5), 2) := by decide +kernel
theorem dX8_loses_130 : decode cX8_loses 130 = .ok (.ireturn, 1) := by decide +kernel
theorem dX8_loser_0 : decode cX8_loser 0 = .ok (.iload_n 1, 1) := by decide +kernel
theorem dX8_loser_1 : decode cX8_loser 1 = .ok (.iconst 1, 1) := by decide +kernel
theorem dX8_loser_2 : decode cX8_loser 2 = .ok (.if_icmp .lt 9, 3) := by decide +kernel
theorem dX8_loser_5 : decode cX8_loser 5 = .ok (.iload_n 1, 1) := by decide +kernel
theorem dX8_loser_6 : decode cX8_loser 6 = .ok (.bipush 60, 2) := by decide +kernel
theorem dX8_loser_8 : decode cX8_loser 8 = .ok (.if_icmp .le 6, 3) := by decide +kernel
theorem dX8_loser_11 : decode cX8_loser 11 = .ok (.bipush (-2), 2) := by decide +kernel
theorem dX8_loser_13 : decode cX8_loser 13 = .ok (.ireturn, 1) := by decide +kernel
theorem dX8_loser_14 : decode cX8_loser 14 = .ok (.aload_n 0, 1) := by decide +kernel
theorem dX8_loser_15 : decode cX8_loser 15 = .ok (.getfield 31, 3) := by decide +kernel
theorem dX8_loser_18 : decode cX8_loser 18 = .ok (.aload_n 0, 1) := by decide +kernel
theorem dX8_loser_19 : decode cX8_loser 19 = .ok (.getfield 12, 3) := by decide +kernel
theorem dX8_loser_22 : decode cX8_loser 22 = .ok (.aload_n 0, 1) := by decide +kernel
theorem dX8_loser_23 : decode cX8_loser 23 = .ok (.getfield 12, 3) := by decide +kernel
theorem dX8_loser_26 : decode cX8_loser 26 = .ok (.getfield 109, 3) := by decide +kernel
theorem dX8_loser_29 : decode cX8_loser 29 = .ok (.iload_n 1, 1) := by decide +kernel
theorem dX8_loser_30 : decode cX8_loser 30 = .ok (.iconst 1, 1) := by decide +kernel
theorem dX8_loser_31 : decode cX8_loser 31 = .ok (.isub, 1) := by decide +kernel
theorem dX8_loser_32 : decode cX8_loser 32 = .ok (.invokevirtual 163, 3) := by decide +kernel
theorem dX8_loser_35 : decode cX8_loser 35 = .ok (.ifCond .eq 25, 3) := by decide +kernel
theorem dX8_loser_38 : decode cX8_loser 38 = .ok (.aload_n 0, 1) := by decide +kernel
theorem dX8_loser_39 : decode cX8_loser 39 = .ok (.getfield 27, 3) := by decide +kernel
theorem dX8_loser_42 : decode cX8_loser 42 = .ok (.aload_n 0, 1) := by decide +kernel
theorem dX8_loser_43 : decode cX8_loser 43 = .ok (.getfield 12, 3) := by decide +kernel
theorem dX8_loser_46 : decode cX8_loser 46 = .ok (.aload_n 0, 1) := by decide +kernel
theorem dX8_loser_47 : decode cX8_loser 47 = .ok (.getfield 12, 3) := by decide +kernel
theorem dX8_loser_50 : decode cX8_loser 50 = .ok (.getfield 109, 3) := by decide +kernel
theorem dX8_loser_53 : decode cX8_loser 53 = .ok (.iload_n 1, 1) := by decide +kernel
theorem dX8_loser_54 : decode cX8_loser 54 = .ok (.invokevirtual 163, 3) := by decide +kernel
theorem dX8_loser_57 : decode cX8_loser 57 = .ok (.ifCond .ne 6, 3) := by decide +kernel
theorem dX8_loser_60 : decode cX8_loser 60 = .ok (.bipush (-5), 2) := by decide +kernel
theorem dX8_loser_62 : decode cX8_loser 62 = .ok (.ireturn, 1) := by decide +kernel
theorem dX8_loser_63 : decode cX8_loser 63 = .ok (.aload_n 0, 1) := by decide +kernel
theorem dX8_loser_64 : decode cX8_loser 64 = .ok (.getfield 27, 3) := by decide +kernel
theorem dX8_loser_67 : decode cX8_loser 67 = .ok (.aload_n 0, 1) := by decide +kernel
theorem dX8_loser_68 : decode cX8_loser 68 = .ok (.getfield 31, 3) := by decide +kernel
theorem dX8_loser_71 : decode cX8_loser 71 = .ok (.invokevirtual 171, 3) := by decide +kernel
theorem dX8_loser_74 : decode cX8_loser 74 = .ok (.istore_n 2, 1) := by decide +kernel
theorem dX8_loser_75 : decode cX8_loser 75 = .ok (.iload_n 2, 1) := by decide +kernel
theorem dX8_loser_76 : decode cX8_loser 76 = .ok (.ifCond .lt 7, 3) := by decide +kernel
theorem dX8_loser_79 : decode cX8_loser 79 = .ok (.iload_n 2, 1) := by decide +kernel
theorem dX8_loser_80 : decode cX8_loser 80 = .ok (.goto 5, 3) := by decide +kernel
theorem dX8_loser_83 : decode cX8_loser 83 = .ok (.bipush (-5), 2) := by decide +kernel
theorem dX8_loser_85 : decode cX8_loser 85 = .ok (.ireturn, 1) := by decide +kernel
theorem dX8_price_0 : decode cX8_price 0 = .ok (.iload_n 1, 1) := by decide +kernel
theorem dX8_price_1 : decode cX8_price 1 = .ok (.iconst 5, 1) := by decide +kernel
theorem dX8_price_2 : decode cX8_price 2 = .ok (.invokestatic 70, 3) := by decide +kernel
theorem dX8_price_5 : decode cX8_price 5 = .ok (.ifCond .eq 22, 3) := by decide +kernel
theorem dX8_price_8 : decode cX8_price 8 = .ok (.iload_n 2, 1) := by decide +kernel
theorem dX8_price_9 : decode cX8_price 9 = .ok (.iconst 1, 1) := by decide +kernel
theorem dX8_price_10 : decode cX8_price 10 = .ok (.if_icmp .lt 17, 3) := by decide +kernel
theorem dX8_price_13 : decode cX8_price 13 = .ok (.iload_n 2, 1) := by decide +kernel
theorem dX8_price_14 : decode cX8_price 14 = .ok (.bipush 60, 2) := by decide +kernel
theorem dX8_price_16 : decode cX8_price 16 = .ok (.if_icmp .gt 11, 3) := by decide +kernel
theorem dX8_price_19 : decode cX8_price 19 = .ok (.iload_n 3, 1) := by decide +kernel
theorem dX8_price_20 : decode cX8_price 20 = .ok (.iconst 1, 1) := by decide +kernel
theorem dX8_price_21 : decode cX8_price 21 = .ok (.invokestatic 70, 3) := by decide +kernel
theorem dX8_price_24 : decode cX8_price 24 = .ok (.ifCond .ne 7, 3) := by decide +kernel
theorem dX8_price_27 : decode cX8_price 27 = .ok (.ldc2_w 174, 3) := by decide +kernel
theorem dX8_price_30 : decode cX8_price 30 = .ok (.lreturn, 1) := by decide +kernel
theorem dX8_price_31 : decode cX8_price 31 = .ok (.aload_n 0, 1) := by decide +kernel
theorem dX8_price_32 : decode cX8_price 32 = .ok (.getfield 12, 3) := by decide +kernel
theorem dX8_price_35 : decode cX8_price 35 = .ok (.getfield 109, 3) := by decide +kernel
theorem dX8_price_38 : decode cX8_price 38 = .ok (.bipush 6, 2) := by decide +kernel
theorem dX8_price_40 : decode cX8_price 40 = .ok (.if_icmp .ne 7, 3) := by decide +kernel
theorem dX8_price_43 : decode cX8_price 43 = .ok (.ldc2_w 174, 3) := by decide +kernel
theorem dX8_price_46 : decode cX8_price 46 = .ok (.lreturn, 1) := by decide +kernel
theorem dX8_price_47 : decode cX8_price 47 = .ok (.aload_n 0, 1) := by decide +kernel
theorem dX8_price_48 : decode cX8_price 48 = .ok (.getfield 12, 3) := by decide +kernel
theorem dX8_price_51 : decode cX8_price 51 = .ok (.aload_n 0, 1) := by decide +kernel
theorem dX8_price_52 : decode cX8_price 52 = .ok (.getfield 12, 3) := by decide +kernel
theorem dX8_price_55 : decode cX8_price 55 = .ok (.getfield 109, 3) := by decide +kernel
theorem dX8_price_58 : decode cX8_price 58 = .ok (.aload_n 0, 1) := by decide +kernel
theorem dX8_price_59 : decode cX8_price 59 = .ok (.getfield 12, 3) := by decide +kernel
theorem dX8_price_62 : decode cX8_price 62 = .ok (.iload_n 1, 1) := by decide +kernel
theorem dX8_price_63 : decode cX8_price 63 = .ok (.invokevirtual 89, 3) := by decide +kernel
theorem dX8_price_66 : decode cX8_price 66 = .ok (.i2l, 1) := by decide +kernel
theorem dX8_price_67 : decode cX8_price 67 = .ok (.iload_n 2, 1) := by decide +kernel
theorem dX8_price_68 : decode cX8_price 68 = .ok (.invokevirtual 176, 3) := by decide +kernel
theorem dX8_price_71 : decode cX8_price 71 = .ok (.lstore 4, 2) := by decide +kernel
theorem dX8_price_73 : decode cX8_price 73 = .ok (.lload 4, 2) := by decide +kernel
theorem dX8_price_75 : decode cX8_price 75 = .ok (.aload_n 0, 1) := by decide +kernel
theorem dX8_price_76 : decode cX8_price 76 = .ok (.getfield 12, 3) := by decide +kernel
theorem dX8_price_79 : decode cX8_price 79 = .ok (.aload_n 0, 1) := by decide +kernel
theorem dX8_price_80 : decode cX8_price 80 = .ok (.getfield 12, 3) := by decide +kernel
theorem dX8_price_83 : decode cX8_price 83 = .ok (.getfield 109, 3) := by decide +kernel
theorem dX8_price_86 : decode cX8_price 86 = .ok (.iload_n 2, 1) := by decide +kernel
theorem dX8_price_87 : decode cX8_price 87 = .ok (.invokevirtual 180, 3) := by decide +kernel
theorem dX8_price_90 : decode cX8_price 90 = .ok (.iload_n 3, 1) := by decide +kernel
theorem dX8_price_91 : decode cX8_price 91 = .ok (.invokestatic 184, 3) := by decide +kernel
theorem dX8_price_94 : decode cX8_price 94 = .ok (.lreturn, 1) := by decide +kernel
theorem dX8_span_0 : decode cX8_span 0 = .ok (.iload_n 2, 1) := by decide +kernel
theorem dX8_span_1 : decode cX8_span 1 = .ok (.iconst 1, 1) := by decide +kernel
theorem dX8_span_2 : decode cX8_span 2 = .ok (.invokestatic 70, 3) := by decide +kernel
theorem dX8_span_5 : decode cX8_span 5 = .ok (.ifCond .eq 22, 3) := by decide +kernel
theorem dX8_span_8 : decode cX8_span 8 = .ok (.iload_n 3, 1) := by decide +kernel
theorem dX8_span_9 : decode cX8_span 9 = .ok (.iconst 1, 1) := by decide +kernel
theorem dX8_span_10 : decode cX8_span 10 = .ok (.invokestatic 70, 3) := by decide +kernel
theorem dX8_span_13 : decode cX8_span 13 = .ok (.ifCond .eq 14, 3) := by decide +kernel
theorem dX8_span_16 : decode cX8_span 16 = .ok (.aload_n 0, 1) := by decide +kernel
theorem dX8_span_17 : decode cX8_span 17 = .ok (.getfield 12, 3) := by decide +kernel
theorem dX8_span_20 : decode cX8_span 20 = .ok (.getfield 109, 3) := by decide +kernel
theorem dX8_span_23 : decode cX8_span 23 = .ok (.iconst 3, 1) := by decide +kernel
theorem dX8_span_24 : decode cX8_span 24 = .ok (.if_icmp .ne 7, 3) := by decide +kernel
theorem dX8_span_27 : decode cX8_span 27 = .ok (.ldc2_w 174, 3) := by decide +kernel
theorem dX8_span_30 : decode cX8_span 30 = .ok (.lreturn, 1) := by decide +kernel
theorem dX8_span_31 : decode cX8_span 31 = .ok (.aload_n 0, 1) := by decide +kernel
theorem dX8_span_32 : decode cX8_span 32 = .ok (.iload_n 1, 1) := by decide +kernel
theorem dX8_span_33 : decode cX8_span 33 = .ok (.invokevirtual 151, 3) := by decide +kernel
theorem dX8_span_36 : decode cX8_span 36 = .ok (.ifCond .eq 7, 3) := by decide +kernel
theorem dX8_span_39 : decode cX8_span 39 = .ok (.ldc2_w 174, 3) := by decide +kernel
theorem dX8_span_42 : decode cX8_span 42 = .ok (.lreturn, 1) := by decide +kernel
theorem dX8_span_43 : decode cX8_span 43 = .ok (.aload_n 0, 1) := by decide +kernel
theorem dX8_span_44 : decode cX8_span 44 = .ok (.getfield 27, 3) := by decide +kernel
theorem dX8_span_47 : decode cX8_span 47 = .ok (.getfield 142, 3) := by decide +kernel
theorem dX8_span_50 : decode cX8_span 50 = .ok (.aload_n 0, 1) := by decide +kernel
theorem dX8_span_51 : decode cX8_span 51 = .ok (.getfield 12, 3) := by decide +kernel
theorem dX8_span_54 : decode cX8_span 54 = .ok (.aload_n 0, 1) := by decide +kernel
theorem dX8_span_55 : decode cX8_span 55 = .ok (.getfield 12, 3) := by decide +kernel
theorem dX8_span_58 : decode cX8_span 58 = .ok (.getfield 109, 3) := by decide +kernel
theorem dX8_span_61 : decode cX8_span 61 = .ok (.iload_n 2, 1) := by decide +kernel
theorem dX8_span_62 : decode cX8_span 62 = .ok (.ifCond .ne 7, 3) := by decide +kernel
theorem dX8_span_65 : decode cX8_span 65 = .ok (.iconst 1, 1) := by decide +kernel
theorem dX8_span_66 : decode cX8_span 66 = .ok (.goto 4, 3) := by decide +kernel
theorem dX8_span_69 : decode cX8_span 69 = .ok (.iconst 0, 1) := by decide +kernel
theorem dX8_span_70 : decode cX8_span 70 = .ok (.iload_n 3, 1) := by decide +kernel
theorem dX8_span_71 : decode cX8_span 71 = .ok (.invokevirtual 188, 3) := by decide +kernel
theorem dX8_span_74 : decode cX8_span 74 = .ok (.lreturn, 1) := by decide +kernel
theorem dX8_quota_0 : decode cX8_quota 0 = .ok (.aload_n 0, 1) := by decide +kernel
theorem dX8_quota_1 : decode cX8_quota 1 = .ok (.iload_n 1, 1) := by decide +kernel
theorem dX8_quota_2 : decode cX8_quota 2 = .ok (.invokevirtual 136, 3) := by decide +kernel
theorem dX8_quota_5 : decode cX8_quota 5 = .ok (.istore_n 2, 1) := by decide +kernel
theorem dX8_quota_6 : decode cX8_quota 6 = .ok (.iload_n 2, 1) := by decide +kernel
theorem dX8_quota_7 : decode cX8_quota 7 = .ok (.ifCond .eq 7, 3) := by decide +kernel
theorem dX8_quota_10 : decode cX8_quota 10 = .ok (.iload_n 2, 1) := by decide +kernel
theorem dX8_quota_11 : decode cX8_quota 11 = .ok (.goto 15, 3) := by decide +kernel
theorem dX8_quota_14 : decode cX8_quota 14 = .ok (.aload_n 0, 1) := by decide +kernel
theorem dX8_quota_15 : decode cX8_quota 15 = .ok (.getfield 27, 3) := by decide +kernel
theorem dX8_quota_18 : decode cX8_quota 18 = .ok (.aload_n 0, 1) := by decide +kernel
theorem dX8_quota_19 : decode cX8_quota 19 = .ok (.getfield 12, 3) := by decide +kernel
theorem dX8_quota_22 : decode cX8_quota 22 = .ok (.iload_n 1, 1) := by decide +kernel
theorem dX8_quota_23 : decode cX8_quota 23 = .ok (.invokevirtual 192, 3) := by decide +kernel
theorem dX8_quota_26 : decode cX8_quota 26 = .ok (.ireturn, 1) := by decide +kernel
theorem dX8_alike_0 : decode cX8_alike 0 = .ok (.aload_n 0, 1) := by decide +kernel
theorem dX8_alike_1 : decode cX8_alike 1 = .ok (.iload_n 1, 1) := by decide +kernel
theorem dX8_alike_2 : decode cX8_alike 2 = .ok (.invokevirtual 136, 3) := by decide +kernel
theorem dX8_alike_5 : decode cX8_alike 5 = .ok (.istore_n 2, 1) := by decide +kernel
theorem dX8_alike_6 : decode cX8_alike 6 = .ok (.iload_n 2, 1) := by decide +kernel
theorem dX8_alike_7 : decode cX8_alike 7 = .ok (.ifCond .eq 5, 3) := by decide +kernel
theorem dX8_alike_10 : decode cX8_alike 10 = .ok (.iload_n 2, 1) := by decide +kernel
theorem dX8_alike_11 : decode cX8_alike 11 = .ok (.ireturn, 1) := by decide +kernel
theorem dX8_alike_12 : decode cX8_alike 12 = .ok (.iconst 0, 1) := by decide +kernel
theorem dX8_alike_13 : decode cX8_alike 13 = .ok (.istore_n 3, 1) := by decide +kernel
theorem dX8_alike_14 : decode cX8_alike 14 = .ok (.iconst 0, 1) := by decide +kernel
theorem dX8_alike_15 : decode cX8_alike 15 = .ok (.istore 4, 2) := by decide +kernel
theorem dX8_alike_17 : decode cX8_alike 17 = .ok (.iload 4, 2) := by decide +kernel
theorem dX8_alike_19 : decode cX8_alike 19 = .ok (.bipush 7, 2) := by decide +kernel
theorem dX8_alike_21 : decode cX8_alike 21 = .ok (.if_icmp .ge 47, 3) := by decide +kernel
theorem dX8_alike_24 : decode cX8_alike 24 = .ok (.aload_n 0, 1) := by decide +kernel
theorem dX8_alike_25 : decode cX8_alike 25 = .ok (.getfield 31, 3) := by decide +kernel
theorem dX8_alike_28 : decode cX8_alike 28 = .ok (.aload_n 0, 1) := by decide +kernel
theorem dX8_alike_29 : decode cX8_alike 29 = .ok (.getfield 12, 3) := by decide +kernel
theorem dX8_alike_32 : decode cX8_alike 32 = .ok (.iload 4, 2) := by decide +kernel
theorem dX8_alike_34 : decode cX8_alike 34 = .ok (.iload_n 1, 1) := by decide +kernel
theorem dX8_alike_35 : decode cX8_alike 35 = .ok (.invokevirtual 163, 3) := by decide +kernel
theorem dX8_alike_38 : decode cX8_alike 38 = .ok (.ifCond .eq 24, 3) := by decide +kernel
theorem dX8_alike_41 : decode cX8_alike 41 = .ok (.aload_n 0, 1) := by decide +kernel
theorem dX8_alike_42 : decode cX8_alike 42 = .ok (.getfield 31, 3) := by decide +kernel
theorem dX8_alike_45 : decode cX8_alike 45 = .ok (.aload_n 0, 1) := by decide +kernel
theorem dX8_alike_46 : decode cX8_alike 46 = .ok (.getfield 27, 3) := by decide +kernel
theorem dX8_alike_49 : decode cX8_alike 49 = .ok (.invokevirtual 167, 3) := by decide +kernel
theorem dX8_alike_52 : decode cX8_alike 52 = .ok (.ifCond .ne 10, 3) := by decide +kernel
theorem dX8_alike_55 : decode cX8_alike 55 = .ok (.iload_n 3, 1) := by decide +kernel
theorem dX8_alike_56 : decode cX8_alike 56 = .ok (.iconst 1, 1) := by decide +kernel
theorem dX8_alike_57 : decode cX8_alike 57 = .ok (.iload 4, 2) := by decide +kernel
theorem dX8_alike_59 : decode cX8_alike 59 = .ok (.ishl, 1) := by decide +kernel
theorem dX8_alike_60 : decode cX8_alike 60 = .ok (.ior, 1) := by decide +kernel
theorem dX8_alike_61 : decode cX8_alike 61 = .ok (.istore_n 3, 1) := by decide +kernel
theorem dX8_alike_62 : decode cX8_alike 62 = .ok (.iinc 4 1, 3) := by decide +kernel
theorem dX8_alike_65 : decode cX8_alike 65 = .ok (.goto (-48), 3) := by decide +kernel
theorem dX8_alike_68 : decode cX8_alike 68 = .ok (.iload_n 3, 1) := by decide +kernel
theorem dX8_alike_69 : decode cX8_alike 69 = .ok (.ireturn, 1) := by decide +kernel
theorem dX8_would_0 : decode cX8_would 0 = .ok (.iload_n 1, 1) := by decide +kernel
theorem dX8_would_1 : decode cX8_would 1 = .ok (.iconst 3, 1) := by decide +kernel
theorem dX8_would_2 : decode cX8_would 2 = .ok (.invokestatic 70, 3) := by decide +kernel
theorem dX8_would_5 : decode cX8_would 5 = .ok (.ifCond .eq 11, 3) := by decide +kernel
theorem dX8_would_8 : decode cX8_would 8 = .ok (.iload_n 2, 1) := by decide +kernel
theorem dX8_would_9 : decode cX8_would 9 = .ok (.iconst 5, 1) := by decide +kernel
theorem dX8_would_10 : decode cX8_would 10 = .ok (.invokestatic 70, 3) := by decide +kernel
theorem dX8_would_13 : decode cX8_would 13 = .ok (.ifCond .ne 5, 3) := by decide +kernel
theorem dX8_would_16 : decode cX8_would 16 = .ok (.iconst (-1), 1) := by decide +kernel
theorem dX8_would_17 : decode cX8_would 17 = .ok (.ireturn, 1) := by decide +kernel
theorem dX8_would_18 : decode cX8_would 18 = .ok (.iload_n 3, 1) := by decide +kernel
theorem dX8_would_19 : decode cX8_would 19 = .ok (.ldc 74, 2) := by decide +kernel
theorem dX8_would_21 : decode cX8_would 21 = .ok (.invokestatic 70, 3) := by decide +kernel
theorem dX8_would_24 : decode cX8_would 24 = .ok (.ifCond .eq 13, 3) := by decide +kernel
theorem dX8_would_27 : decode cX8_would 27 = .ok (.iload 4, 2) := by decide +kernel
theorem dX8_would_29 : decode cX8_would 29 = .ok (.bipush 60, 2) := by decide +kernel
theorem dX8_would_31 : decode cX8_would 31 = .ok (.invokestatic 70, 3) := by decide +kernel
theorem dX8_would_34 : decode cX8_would 34 = .ok (.ifCond .ne 6, 3) := by decide +kernel
theorem dX8_would_37 : decode cX8_would 37 = .ok (.bipush (-2), 2) := by decide +kernel
theorem dX8_would_39 : decode cX8_would 39 = .ok (.ireturn, 1) := by decide +kernel
theorem dX8_would_40 : decode cX8_would 40 = .ok (.aload_n 0, 1) := by decide +kernel
theorem dX8_would_41 : decode cX8_would 41 = .ok (.getfield 21, 3) := by decide +kernel
theorem dX8_would_44 : decode cX8_would 44 = .ok (.aload_n 0, 1) := by decide +kernel
theorem dX8_would_45 : decode cX8_would 45 = .ok (.getfield 12, 3) := by decide +kernel
theorem dX8_would_48 : decode cX8_would 48 = .ok (.invokevirtual 129, 3) := by decide +kernel
theorem dX8_would_51 : decode cX8_would 51 = .ok (.aload_n 0, 1) := by decide +kernel
theorem dX8_would_52 : decode cX8_would 52 = .ok (.getfield 21, 3) := by decide +kernel
theorem dX8_would_55 : decode cX8_would 55 = .ok (.getfield 75, 3) := by decide +kernel
theorem dX8_would_58 : decode cX8_would 58 = .ok (.iload_n 1, 1) := by decide +kernel
theorem dX8_would_59 : decode cX8_would 59 = .ok (.iload_n 2, 1) := by decide +kernel
theorem dX8_would_60 : decode cX8_would 60 = .ok (.invokestatic 78, 3) := by decide +kernel
theorem dX8_would_63 : decode cX8_would 63 = .ok (.iload_n 3, 1) := by decide +kernel
theorem dX8_would_64 : decode cX8_would 64 = .ok (.iastore, 1) := by decide +kernel
theorem dX8_would_65 : decode cX8_would 65 = .ok (.aload_n 0, 1) := by decide +kernel
theorem dX8_would_66 : decode cX8_would 66 = .ok (.getfield 31, 3) := by decide +kernel
theorem dX8_would_69 : decode cX8_would 69 = .ok (.aload_n 0, 1) := by decide +kernel
theorem dX8_would_70 : decode cX8_would 70 = .ok (.getfield 21, 3) := by decide +kernel
theorem dX8_would_73 : decode cX8_would 73 = .ok (.aload_n 0, 1) := by decide +kernel
theorem dX8_would_74 : decode cX8_would 74 = .ok (.getfield 12, 3) := by decide +kernel
theorem dX8_would_77 : decode cX8_would 77 = .ok (.getfield 109, 3) := by decide +kernel
theorem dX8_would_80 : decode cX8_would 80 = .ok (.iload 4, 2) := by decide +kernel
theorem dX8_would_82 : decode cX8_would 82 = .ok (.invokevirtual 163, 3) := by decide +kernel
theorem dX8_would_85 : decode cX8_would 85 = .ok (.ifCond .eq 15, 3) := by decide +kernel
theorem dX8_would_88 : decode cX8_would 88 = .ok (.aload_n 0, 1) := by decide +kernel
theorem dX8_would_89 : decode cX8_would 89 = .ok (.getfield 31, 3) := by decide +kernel
theorem dX8_would_92 : decode cX8_would 92 = .ok (.getfield 139, 3) := by decide +kernel
theorem dX8_would_95 : decode cX8_would 95 = .ok (.iload_n 2, 1) := by decide +kernel
theorem dX8_would_96 : decode cX8_would 96 = .ok (.iaload, 1) := by decide +kernel
theorem dX8_would_97 : decode cX8_would 97 = .ok (.goto 5, 3) := by decide +kernel
theorem dX8_would_100 : decode cX8_would 100 = .ok (.bipush (-3), 2) := by decide +kernel
theorem dX8_would_102 : decode cX8_would 102 = .ok (.ireturn, 1) := by decide +kernel
theorem dX8_needs_0 : decode cX8_needs 0 = .ok (.iload_n 1, 1) := by decide +kernel
theorem dX8_needs_1 : decode cX8_needs 1 = .ok (.iconst 3, 1) := by decide +kernel
theorem dX8_needs_2 : decode cX8_needs 2 = .ok (.invokestatic 70, 3) := by decide +kernel
theorem dX8_needs_5 : decode cX8_needs 5 = .ok (.ifCond .eq 11, 3) := by decide +kernel
theorem dX8_needs_8 : decode cX8_needs 8 = .ok (.iload_n 2, 1) := by decide +kernel
theorem dX8_needs_9 : decode cX8_needs 9 = .ok (.iconst 5, 1) := by decide +kernel
theorem dX8_needs_10 : decode cX8_needs 10 = .ok (.invokestatic 70, 3) := by decide +kernel
theorem dX8_needs_13 : decode cX8_needs 13 = .ok (.ifCond .ne 5, 3) := by decide +kernel
theorem dX8_needs_16 : decode cX8_needs 16 = .ok (.iconst (-1), 1) := by decide +kernel
theorem dX8_needs_17 : decode cX8_needs 17 = .ok (.ireturn, 1) := by decide +kernel
theorem dX8_needs_18 : decode cX8_needs 18 = .ok (.aload_n 0, 1) := by decide +kernel
theorem dX8_needs_19 : decode cX8_needs 19 = .ok (.iload_n 3, 1) := by decide +kernel
theorem dX8_needs_20 : decode cX8_needs 20 = .ok (.invokevirtual 136, 3) := by decide +kernel
theorem dX8_needs_23 : decode cX8_needs 23 = .ok (.istore 4, 2) := by decide +kernel
theorem dX8_needs_25 : decode cX8_needs 25 = .ok (.iload 4, 2) := by decide +kernel
theorem dX8_needs_27 : decode cX8_needs 27 = .ok (.ifCond .eq 6, 3) := by decide +kernel
theorem dX8_needs_30 : decode cX8_needs 30 = .ok (.iload 4, 2) := by decide +kernel
theorem dX8_needs_32 : decode cX8_needs 32 = .ok (.ireturn, 1) := by decide +kernel
theorem dX8_needs_33 : decode cX8_needs 33 = .ok (.aload_n 0, 1) := by decide +kernel
theorem dX8_needs_34 : decode cX8_needs 34 = .ok (.getfield 27, 3) := by decide +kernel
theorem dX8_needs_37 : decode cX8_needs 37 = .ok (.getfield 139, 3) := by decide +kernel
theorem dX8_needs_40 : decode cX8_needs 40 = .ok (.iload_n 2, 1) := by decide +kernel
theorem dX8_needs_41 : decode cX8_needs 41 = .ok (.iaload, 1) := by decide +kernel
theorem dX8_needs_42 : decode cX8_needs 42 = .ok (.istore 5, 2) := by decide +kernel
theorem dX8_needs_44 : decode cX8_needs 44 = .ok (.iload_n 1, 1) := by decide +kernel
theorem dX8_needs_45 : decode cX8_needs 45 = .ok (.iload_n 2, 1) := by decide +kernel
theorem dX8_needs_46 : decode cX8_needs 46 = .ok (.invokestatic 78, 3) := by decide +kernel
theorem dX8_needs_49 : decode cX8_needs 49 = .ok (.istore 6, 2) := by decide +kernel
theorem dX8_needs_51 : decode cX8_needs 51 = .ok (.aload_n 0, 1) := by decide +kernel
theorem dX8_needs_52 : decode cX8_needs 52 = .ok (.getfield 21, 3) := by decide +kernel
theorem dX8_needs_55 : decode cX8_needs 55 = .ok (.aload_n 0, 1) := by decide +kernel
theorem dX8_needs_56 : decode cX8_needs 56 = .ok (.getfield 12, 3) := by decide +kernel
theorem dX8_needs_59 : decode cX8_needs 59 = .ok (.invokevirtual 129, 3) := by decide +kernel
theorem dX8_needs_62 : decode cX8_needs 62 = .ok (.iconst 1, 1) := by decide +kernel
theorem dX8_needs_63 : decode cX8_needs 63 = .ok (.istore 7, 2) := by decide +kernel
theorem dX8_needs_65 : decode cX8_needs 65 = .ok (.iload 7, 2) := by decide +kernel
theorem dX8_needs_67 : decode cX8_needs 67 = .ok (.sipush 300, 3) := by decide +kernel
theorem dX8_needs_70 : decode cX8_needs 70 = .ok (.if_icmp .gt 89, 3) := by decide +kernel
theorem dX8_needs_73 : decode cX8_needs 73 = .ok (.aload_n 0, 1) := by decide +kernel
theorem dX8_needs_74 : decode cX8_needs 74 = .ok (.getfield 12, 3) := by decide +kernel
theorem dX8_needs_77 : decode cX8_needs 77 = .ok (.getfield 75, 3) := by decide +kernel
theorem dX8_needs_80 : decode cX8_needs 80 = .ok (.iload 6, 2) := by decide +kernel
theorem dX8_needs_82 : decode cX8_needs 82 = .ok (.iaload, 1) := by decide +kernel
theorem dX8_needs_83 : decode cX8_needs 83 = .ok (.iload 7, 2) := by decide +kernel
theorem dX8_needs_85 : decode cX8_needs 85 = .ok (.iadd, 1) := by decide +kernel
theorem dX8_needs_86 : decode cX8_needs 86 = .ok (.ldc 74, 2) := by decide +kernel
theorem dX8_needs_88 : decode cX8_needs 88 = .ok (.if_icmp .gt 71, 3) := by decide +kernel
theorem dX8_needs_91 : decode cX8_needs 91 = .ok (.aload_n 0, 1) := by decide +kernel
theorem dX8_needs_92 : decode cX8_needs 92 = .ok (.getfield 21, 3) := by decide +kernel
theorem dX8_needs_95 : decode cX8_needs 95 = .ok (.getfield 75, 3) := by decide +kernel
theorem dX8_needs_98 : decode cX8_needs 98 = .ok (.iload 6, 2) := by decide +kernel
theorem dX8_needs_100 : decode cX8_needs 100 = .ok (.aload_n 0, 1) := by decide +kernel
theorem dX8_needs_101 : decode cX8_needs 101 = .ok (.getfield 12, 3) := by decide +kernel
theorem dX8_needs_104 : decode cX8_needs 104 = .ok (.getfield 75, 3) := by decide +kernel
theorem dX8_needs_107 : decode cX8_needs 107 = .ok (.iload 6, 2) := by decide +kernel
theorem dX8_needs_109 : decode cX8_needs 109 = .ok (.iaload, 1) := by decide +kernel
theorem dX8_needs_110 : decode cX8_needs 110 = .ok (.iload 7, 2) := by decide +kernel
theorem dX8_needs_112 : decode cX8_needs 112 = .ok (.iadd, 1) := by decide +kernel
theorem dX8_needs_113 : decode cX8_needs 113 = .ok (.iastore, 1) := by decide +kernel
theorem dX8_needs_114 : decode cX8_needs 114 = .ok (.aload_n 0, 1) := by decide +kernel
theorem dX8_needs_115 : decode cX8_needs 115 = .ok (.getfield 31, 3) := by decide +kernel
theorem dX8_needs_118 : decode cX8_needs 118 = .ok (.aload_n 0, 1) := by decide +kernel
theorem dX8_needs_119 : decode cX8_needs 119 = .ok (.getfield 21, 3) := by decide +kernel
theorem dX8_needs_122 : decode cX8_needs 122 = .ok (.aload_n 0, 1) := by decide +kernel
theorem dX8_needs_123 : decode cX8_needs 123 = .ok (.getfield 12, 3) := by decide +kernel
theorem dX8_needs_126 : decode cX8_needs 126 = .ok (.getfield 109, 3) := by decide +kernel
theorem dX8_needs_129 : decode cX8_needs 129 = .ok (.iload_n 3, 1) := by decide +kernel
theorem dX8_needs_130 : decode cX8_needs 130 = .ok (.invokevirtual 163, 3) := by decide +kernel
theorem dX8_needs_133 : decode cX8_needs 133 = .ok (.ifCond .eq 20, 3) := by decide +kernel
theorem dX8_needs_136 : decode cX8_needs 136 = .ok (.aload_n 0, 1) := by decide +kernel
theorem dX8_needs_137 : decode cX8_needs 137 = .ok (.getfield 31, 3) := by decide +kernel
theorem dX8_needs_140 : decode cX8_needs 140 = .ok (.getfield 139, 3) := by decide +kernel
theorem dX8_needs_143 : decode cX8_needs 143 = .ok (.iload_n 2, 1) := by decide +kernel
theorem dX8_needs_144 : decode cX8_needs 144 = .ok (.iaload, 1) := by decide +kernel
theorem dX8_needs_145 : decode cX8_needs 145 = .ok (.iload 5, 2) := by decide +kernel
theorem dX8_needs_147 : decode cX8_needs 147 = .ok (.if_icmp .le 6, 3) := by decide +kernel
theorem dX8_needs_150 : decode cX8_needs 150 = .ok (.iload 7, 2) := by decide +kernel
theorem dX8_needs_152 : decode cX8_needs 152 = .ok (.ireturn, 1) := by decide +kernel
theorem dX8_needs_153 : decode cX8_needs 153 = .ok (.iinc 7 1, 3) := by decide +kernel
theorem dX8_needs_156 : decode cX8_needs 156 = .ok (.goto (-91), 3) := by decide +kernel
theorem dX8_needs_159 : decode cX8_needs 159 = .ok (.bipush (-5), 2) := by decide +kernel
theorem dX8_needs_161 : decode cX8_needs 161 = .ok (.ireturn, 1) := by decide +kernel
theorem dX8_spell_0 : decode cX8_spell 0 = .ok (.aload_n 0, 1) := by decide +kernel
theorem dX8_spell_1 : decode cX8_spell 1 = .ok (.iload_n 1, 1) := by decide +kernel
theorem dX8_spell_2 : decode cX8_spell 2 = .ok (.invokevirtual 136, 3) := by decide +kernel
theorem dX8_spell_5 : decode cX8_spell 5 = .ok (.istore_n 2, 1) := by decide +kernel
theorem dX8_spell_6 : decode cX8_spell 6 = .ok (.iload_n 2, 1) := by decide +kernel
theorem dX8_spell_7 : decode cX8_spell 7 = .ok (.ifCond .eq 5, 3) := by decide +kernel
theorem dX8_spell_10 : decode cX8_spell 10 = .ok (.iload_n 2, 1) := by decide +kernel
theorem dX8_spell_11 : decode cX8_spell 11 = .ok (.ireturn, 1) := by decide +kernel
theorem dX8_spell_12 : decode cX8_spell 12 = .ok (.aload_n 0, 1) := by decide +kernel
theorem dX8_spell_13 : decode cX8_spell 13 = .ok (.getfield 51, 3) := by decide +kernel
theorem dX8_spell_16 : decode cX8_spell 16 = .ok (.iconst 0, 1) := by decide +kernel
theorem dX8_spell_17 : decode cX8_spell 17 = .ok (.putfield 196, 3) := by decide +kernel
theorem dX8_spell_20 : decode cX8_spell 20 = .ok (.aload_n 0, 1) := by decide +kernel
theorem dX8_spell_21 : decode cX8_spell 21 = .ok (.getfield 51, 3) := by decide +kernel
theorem dX8_spell_24 : decode cX8_spell 24 = .ok (.aload_n 0, 1) := by decide +kernel
theorem dX8_spell_25 : decode cX8_spell 25 = .ok (.getfield 27, 3) := by decide +kernel
theorem dX8_spell_28 : decode cX8_spell 28 = .ok (.getfield 139, 3) := by decide +kernel
theorem dX8_spell_31 : decode cX8_spell 31 = .ok (.iconst 0, 1) := by decide +kernel
theorem dX8_spell_32 : decode cX8_spell 32 = .ok (.invokevirtual 197, 3) := by decide +kernel
theorem dX8_spell_35 : decode cX8_spell 35 = .ok (.aload_n 0, 1) := by decide +kernel
theorem dX8_spell_36 : decode cX8_spell 36 = .ok (.getfield 51, 3) := by decide +kernel
theorem dX8_spell_39 : decode cX8_spell 39 = .ok (.getfield 196, 3) := by decide +kernel
theorem dX8_spell_42 : decode cX8_spell 42 = .ok (.ireturn, 1) := by decide +kernel
theorem dX8_paper_0 : decode cX8_paper 0 = .ok (.iload_n 1, 1) := by decide +kernel
theorem dX8_paper_1 : decode cX8_paper 1 = .ok (.ifCond .lt 14, 3) := by decide +kernel
theorem dX8_paper_4 : decode cX8_paper 4 = .ok (.iload_n 1, 1) := by decide +kernel
theorem dX8_paper_5 : decode cX8_paper 5 = .ok (.aload_n 0, 1) := by decide +kernel
theorem dX8_paper_6 : decode cX8_paper 6 = .ok (.getfield 51, 3) := by decide +kernel
theorem dX8_paper_9 : decode cX8_paper 9 = .ok (.getfield 196, 3) := by decide +kernel
theorem dX8_paper_12 : decode cX8_paper 12 = .ok (.if_icmp .lt 7, 3) := by decide +kernel
theorem dX8_paper_15 : decode cX8_paper 15 = .ok (.iconst (-1), 1) := by decide +kernel
theorem dX8_paper_16 : decode cX8_paper 16 = .ok (.goto 12, 3) := by decide +kernel
theorem dX8_paper_19 : decode cX8_paper 19 = .ok (.aload_n 0, 1) := by decide +kernel
theorem dX8_paper_20 : decode cX8_paper 20 = .ok (.getfield 51, 3) := by decide +kernel
theorem dX8_paper_23 : decode cX8_paper 23 = .ok (.getfield 201, 3) := by decide +kernel
theorem dX8_paper_26 : decode cX8_paper 26 = .ok (.iload_n 1, 1) := by decide +kernel
theorem dX8_paper_27 : decode cX8_paper 27 = .ok (.iaload, 1) := by decide +kernel
theorem dX8_paper_28 : decode cX8_paper 28 = .ok (.ireturn, 1) := by decide +kernel
theorem dX8_solve_0 : decode cX8_solve 0 = .ok (.aload_n 0, 1) := by decide +kernel
theorem dX8_solve_1 : decode cX8_solve 1 = .ok (.getfield 37, 3) := by decide +kernel
theorem dX8_solve_4 : decode cX8_solve 4 = .ok (.aload_n 0, 1) := by decide +kernel
theorem dX8_solve_5 : decode cX8_solve 5 = .ok (.getfield 12, 3) := by decide +kernel
theorem dX8_solve_8 : decode cX8_solve 8 = .ok (.invokevirtual 204, 3) := by decide +kernel
theorem dX8_solve_11 : decode cX8_solve 11 = .ok (.ireturn, 1) := by decide +kernel
theorem dX8_cell_0 : decode cX8_cell 0 = .ok (.iload_n 1, 1) := by decide +kernel
theorem dX8_cell_1 : decode cX8_cell 1 = .ok (.iconst 3, 1) := by decide +kernel
theorem dX8_cell_2 : decode cX8_cell 2 = .ok (.invokestatic 70, 3) := by decide +kernel
theorem dX8_cell_5 : decode cX8_cell 5 = .ok (.ifCond .eq 11, 3) := by decide +kernel
theorem dX8_cell_8 : decode cX8_cell 8 = .ok (.iload_n 2, 1) := by decide +kernel
theorem dX8_cell_9 : decode cX8_cell 9 = .ok (.iconst 5, 1) := by decide +kernel
theorem dX8_cell_10 : decode cX8_cell 10 = .ok (.invokestatic 70, 3) := by decide +kernel
theorem dX8_cell_13 : decode cX8_cell 13 = .ok (.ifCond .ne 5, 3) := by decide +kernel
theorem dX8_cell_16 : decode cX8_cell 16 = .ok (.iconst (-1), 1) := by decide +kernel
theorem dX8_cell_17 : decode cX8_cell 17 = .ok (.ireturn, 1) := by decide +kernel
theorem dX8_cell_18 : decode cX8_cell 18 = .ok (.aload_n 0, 1) := by decide +kernel
theorem dX8_cell_19 : decode cX8_cell 19 = .ok (.getfield 37, 3) := by decide +kernel
theorem dX8_cell_22 : decode cX8_cell 22 = .ok (.aload_n 0, 1) := by decide +kernel
theorem dX8_cell_23 : decode cX8_cell 23 = .ok (.getfield 12, 3) := by decide +kernel
theorem dX8_cell_26 : decode cX8_cell 26 = .ok (.invokevirtual 204, 3) := by decide +kernel
theorem dX8_cell_29 : decode cX8_cell 29 = .ok (.istore_n 3, 1) := by decide +kernel
theorem dX8_cell_30 : decode cX8_cell 30 = .ok (.iload_n 3, 1) := by decide +kernel
theorem dX8_cell_31 : decode cX8_cell 31 = .ok (.ifCond .ge 7, 3) := by decide +kernel
theorem dX8_cell_34 : decode cX8_cell 34 = .ok (.iload_n 3, 1) := by decide +kernel
theorem dX8_cell_35 : decode cX8_cell 35 = .ok (.goto 16, 3) := by decide +kernel
theorem dX8_cell_38 : decode cX8_cell 38 = .ok (.aload_n 0, 1) := by decide +kernel
theorem dX8_cell_39 : decode cX8_cell 39 = .ok (.getfield 37, 3) := by decide +kernel
theorem dX8_cell_42 : decode cX8_cell 42 = .ok (.getfield 208, 3) := by decide +kernel
theorem dX8_cell_45 : decode cX8_cell 45 = .ok (.iload_n 1, 1) := by decide +kernel
theorem dX8_cell_46 : decode cX8_cell 46 = .ok (.iload_n 2, 1) := by decide +kernel
theorem dX8_cell_47 : decode cX8_cell 47 = .ok (.invokestatic 78, 3) := by decide +kernel
theorem dX8_cell_50 : decode cX8_cell 50 = .ok (.iaload, 1) := by decide +kernel
theorem dX8_cell_51 : decode cX8_cell 51 = .ok (.ireturn, 1) := by decide +kernel
theorem dX8_bound_0 : decode cX8_bound 0 = .ok (.iload_n 1, 1) := by decide +kernel
theorem dX8_bound_1 : decode cX8_bound 1 = .ok (.iconst 3, 1) := by decide +kernel
theorem dX8_bound_2 : decode cX8_bound 2 = .ok (.invokestatic 70, 3) := by decide +kernel
theorem dX8_bound_5 : decode cX8_bound 5 = .ok (.ifCond .eq 24, 3) := by decide +kernel
theorem dX8_bound_8 : decode cX8_bound 8 = .ok (.iload_n 2, 1) := by decide +kernel
theorem dX8_bound_9 : decode cX8_bound 9 = .ok (.iconst 3, 1) := by decide +kernel
theorem dX8_bound_10 : decode cX8_bound 10 = .ok (.invokestatic 70, 3) := by decide +kernel
theorem dX8_bound_13 : decode cX8_bound 13 = .ok (.ifCond .eq 16, 3) := by decide +kernel
theorem dX8_bound_16 : decode cX8_bound 16 = .ok (.iload_n 1, 1) := by decide +kernel
theorem dX8_bound_17 : decode cX8_bound 17 = .ok (.iload_n 2, 1) := by decide +kernel
theorem dX8_bound_18 : decode cX8_bound 18 = .ok (.if_icmp .eq 11, 3) := by decide +kernel
theorem dX8_bound_21 : decode cX8_bound 21 = .ok (.iload_n 3, 1) := by decide +kernel
theorem dX8_bound_22 : decode cX8_bound 22 = .ok (.iconst 1, 1) := by decide +kernel
theorem dX8_bound_23 : decode cX8_bound 23 = .ok (.invokestatic 70, 3) := by decide +kernel
theorem dX8_bound_26 : decode cX8_bound 26 = .ok (.ifCond .ne 7, 3) := by decide +kernel
theorem dX8_bound_29 : decode cX8_bound 29 = .ok (.ldc2_w 174, 3) := by decide +kernel
theorem dX8_bound_32 : decode cX8_bound 32 = .ok (.lreturn, 1) := by decide +kernel
theorem dX8_bound_33 : decode cX8_bound 33 = .ok (.aload_n 0, 1) := by decide +kernel
theorem dX8_bound_34 : decode cX8_bound 34 = .ok (.getfield 37, 3) := by decide +kernel
theorem dX8_bound_37 : decode cX8_bound 37 = .ok (.aload_n 0, 1) := by decide +kernel
theorem dX8_bound_38 : decode cX8_bound 38 = .ok (.getfield 12, 3) := by decide +kernel
theorem dX8_bound_41 : decode cX8_bound 41 = .ok (.invokevirtual 204, 3) := by decide +kernel
theorem dX8_bound_44 : decode cX8_bound 44 = .ok (.ifCond .lt 27, 3) := by decide +kernel
theorem dX8_bound_47 : decode cX8_bound 47 = .ok (.aload_n 0, 1) := by decide +kernel
theorem dX8_bound_48 : decode cX8_bound 48 = .ok (.getfield 12, 3) := by decide +kernel
theorem dX8_bound_51 : decode cX8_bound 51 = .ok (.getfield 96, 3) := by decide +kernel
theorem dX8_bound_54 : decode cX8_bound 54 = .ok (.iload_n 1, 1) := by decide +kernel
theorem dX8_bound_55 : decode cX8_bound 55 = .ok (.iaload, 1) := by decide +kernel
theorem dX8_bound_56 : decode cX8_bound 56 = .ok (.ifCond .eq 15, 3) := by decide +kernel
theorem dX8_bound_59 : decode cX8_bound 59 = .ok (.aload_n 0, 1) := by decide +kernel
theorem dX8_bound_60 : decode cX8_bound 60 = .ok (.getfield 12, 3) := by decide +kernel
theorem dX8_bound_63 : decode cX8_bound 63 = .ok (.getfield 96, 3) := by decide +kernel
theorem dX8_bound_66 : decode cX8_bound 66 = .ok (.iload_n 2, 1) := by decide +kernel
theorem dX8_bound_67 : decode cX8_bound 67 = .ok (.iaload, 1) := by decide +kernel
theorem dX8_bound_68 : decode cX8_bound 68 = .ok (.ifCond .ne 7, 3) := by decide +kernel
theorem dX8_bound_71 : decode cX8_bound 71 = .ok (.ldc2_w 174, 3) := by decide +kernel
theorem dX8_bound_74 : decode cX8_bound 74 = .ok (.lreturn, 1) := by decide +kernel
theorem dX8_bound_75 : decode cX8_bound 75 = .ok (.aload_n 0, 1) := by decide +kernel
theorem dX8_bound_76 : decode cX8_bound 76 = .ok (.getfield 37, 3) := by decide +kernel
theorem dX8_bound_79 : decode cX8_bound 79 = .ok (.aload_n 0, 1) := by decide +kernel
theorem dX8_bound_80 : decode cX8_bound 80 = .ok (.getfield 12, 3) := by decide +kernel
theorem dX8_bound_83 : decode cX8_bound 83 = .ok (.iload_n 1, 1) := by decide +kernel
theorem dX8_bound_84 : decode cX8_bound 84 = .ok (.iload_n 2, 1) := by decide +kernel
theorem dX8_bound_85 : decode cX8_bound 85 = .ok (.iload_n 3, 1) := by decide +kernel
theorem dX8_bound_86 : decode cX8_bound 86 = .ok (.invokevirtual 211, 3) := by decide +kernel
theorem dX8_bound_89 : decode cX8_bound 89 = .ok (.lreturn, 1) := by decide +kernel
theorem dX8_judge_0 : decode cX8_judge 0 = .ok (.iload_n 1, 1) := by decide +kernel
theorem dX8_judge_1 : decode cX8_judge 1 = .ok (.iconst 3, 1) := by decide +kernel
theorem dX8_judge_2 : decode cX8_judge 2 = .ok (.invokestatic 70, 3) := by decide +kernel
theorem dX8_judge_5 : decode cX8_judge 5 = .ok (.ifCond .eq 12, 3) := by decide +kernel
theorem dX8_judge_8 : decode cX8_judge 8 = .ok (.iload_n 3, 1) := by decide +kernel
theorem dX8_judge_9 : decode cX8_judge 9 = .ok (.bipush 8, 2) := by decide +kernel
theorem dX8_judge_11 : decode cX8_judge 11 = .ok (.invokestatic 70, 3) := by decide +kernel
theorem dX8_judge_14 : decode cX8_judge 14 = .ok (.ifCond .ne 5, 3) := by decide +kernel
theorem dX8_judge_17 : decode cX8_judge 17 = .ok (.iconst (-1), 1) := by decide +kernel
theorem dX8_judge_18 : decode cX8_judge 18 = .ok (.ireturn, 1) := by decide +kernel
theorem dX8_judge_19 : decode cX8_judge 19 = .ok (.aload_n 0, 1) := by decide +kernel
theorem dX8_judge_20 : decode cX8_judge 20 = .ok (.getfield 58, 3) := by decide +kernel
theorem dX8_judge_23 : decode cX8_judge 23 = .ok (.iload_n 1, 1) := by decide +kernel
theorem dX8_judge_24 : decode cX8_judge 24 = .ok (.iload_n 2, 1) := by decide +kernel
theorem dX8_judge_25 : decode cX8_judge 25 = .ok (.aload_n 0, 1) := by decide +kernel
theorem dX8_judge_26 : decode cX8_judge 26 = .ok (.getfield 62, 3) := by decide +kernel
theorem dX8_judge_29 : decode cX8_judge 29 = .ok (.invokevirtual 215, 3) := by decide +kernel
theorem dX8_judge_32 : decode cX8_judge 32 = .ok (.ifCond .ne 6, 3) := by decide +kernel
theorem dX8_judge_35 : decode cX8_judge 35 = .ok (.bipush (-3), 2) := by decide +kernel
theorem dX8_judge_37 : decode cX8_judge 37 = .ok (.ireturn, 1) := by decide +kernel
theorem dX8_judge_38 : decode cX8_judge 38 = .ok (.aload_n 0, 1) := by decide +kernel
theorem dX8_judge_39 : decode cX8_judge 39 = .ok (.getfield 37, 3) := by decide +kernel
theorem dX8_judge_42 : decode cX8_judge 42 = .ok (.aload_n 0, 1) := by decide +kernel
theorem dX8_judge_43 : decode cX8_judge 43 = .ok (.getfield 12, 3) := by decide +kernel
theorem dX8_judge_46 : decode cX8_judge 46 = .ok (.invokevirtual 204, 3) := by decide +kernel
theorem dX8_judge_49 : decode cX8_judge 49 = .ok (.bipush (-3), 2) := by decide +kernel
theorem dX8_judge_51 : decode cX8_judge 51 = .ok (.if_icmp .eq 21, 3) := by decide +kernel
theorem dX8_judge_54 : decode cX8_judge 54 = .ok (.aload_n 0, 1) := by decide +kernel
theorem dX8_judge_55 : decode cX8_judge 55 = .ok (.getfield 37, 3) := by decide +kernel
theorem dX8_judge_58 : decode cX8_judge 58 = .ok (.aload_n 0, 1) := by decide +kernel
theorem dX8_judge_59 : decode cX8_judge 59 = .ok (.getfield 12, 3) := by decide +kernel
theorem dX8_judge_62 : decode cX8_judge 62 = .ok (.aload_n 0, 1) := by decide +kernel
theorem dX8_judge_63 : decode cX8_judge 63 = .ok (.getfield 62, 3) := by decide +kernel
theorem dX8_judge_66 : decode cX8_judge 66 = .ok (.invokevirtual 219, 3) := by decide +kernel
theorem dX8_judge_69 : decode cX8_judge 69 = .ok (.ifCond .ne 6, 3) := by decide +kernel
theorem dX8_judge_72 : decode cX8_judge 72 = .ok (.bipush (-3), 2) := by decide +kernel
theorem dX8_judge_74 : decode cX8_judge 74 = .ok (.ireturn, 1) := by decide +kernel
theorem dX8_judge_75 : decode cX8_judge 75 = .ok (.aload_n 0, 1) := by decide +kernel
theorem dX8_judge_76 : decode cX8_judge 76 = .ok (.getfield 37, 3) := by decide +kernel
theorem dX8_judge_79 : decode cX8_judge 79 = .ok (.getfield 223, 3) := by decide +kernel
theorem dX8_judge_82 : decode cX8_judge 82 = .ok (.aload_n 0, 1) := by decide +kernel
theorem dX8_judge_83 : decode cX8_judge 83 = .ok (.getfield 12, 3) := by decide +kernel
theorem dX8_judge_86 : decode cX8_judge 86 = .ok (.aload_n 0, 1) := by decide +kernel
theorem dX8_judge_87 : decode cX8_judge 87 = .ok (.getfield 62, 3) := by decide +kernel
theorem dX8_judge_90 : decode cX8_judge 90 = .ok (.invokevirtual 227, 3) := by decide +kernel
theorem dX8_judge_93 : decode cX8_judge 93 = .ok (.istore 4, 2) := by decide +kernel
theorem dX8_judge_95 : decode cX8_judge 95 = .ok (.iload 4, 2) := by decide +kernel
theorem dX8_judge_97 : decode cX8_judge 97 = .ok (.ifCond .ge 6, 3) := by decide +kernel
theorem dX8_judge_100 : decode cX8_judge 100 = .ok (.iload 4, 2) := by decide +kernel
theorem dX8_judge_102 : decode cX8_judge 102 = .ok (.ireturn, 1) := by decide +kernel
theorem dX8_judge_103 : decode cX8_judge 103 = .ok (.iload 4, 2) := by decide +kernel
theorem dX8_judge_105 : decode cX8_judge 105 = .ok (.ifCond .ne 8, 3) := by decide +kernel
theorem dX8_judge_108 : decode cX8_judge 108 = .ok (.bipush (-5), 2) := by decide +kernel
theorem dX8_judge_110 : decode cX8_judge 110 = .ok (.goto 14, 3) := by decide +kernel
theorem dX8_judge_113 : decode cX8_judge 113 = .ok (.aload_n 0, 1) := by decide +kernel
theorem dX8_judge_114 : decode cX8_judge 114 = .ok (.getfield 37, 3) := by decide +kernel
theorem dX8_judge_117 : decode cX8_judge 117 = .ok (.getfield 223, 3) := by decide +kernel
theorem dX8_judge_120 : decode cX8_judge 120 = .ok (.iload_n 3, 1) := by decide +kernel
theorem dX8_judge_121 : decode cX8_judge 121 = .ok (.invokevirtual 233, 3) := by decide +kernel
theorem dX8_judge_124 : decode cX8_judge 124 = .ok (.ireturn, 1) := by decide +kernel
theorem dX8_moved_0 : decode cX8_moved 0 = .ok (.aload_n 0, 1) := by decide +kernel
theorem dX8_moved_1 : decode cX8_moved 1 = .ok (.getfield 37, 3) := by decide +kernel
theorem dX8_moved_4 : decode cX8_moved 4 = .ok (.aload_n 0, 1) := by decide +kernel
theorem dX8_moved_5 : decode cX8_moved 5 = .ok (.getfield 12, 3) := by decide +kernel
theorem dX8_moved_8 : decode cX8_moved 8 = .ok (.invokevirtual 204, 3) := by decide +kernel
theorem dX8_moved_11 : decode cX8_moved 11 = .ok (.istore_n 1, 1) := by decide +kernel
theorem dX8_moved_12 : decode cX8_moved 12 = .ok (.iload_n 1, 1) := by decide +kernel
theorem dX8_moved_13 : decode cX8_moved 13 = .ok (.ifCond .ge 7, 3) := by decide +kernel
theorem dX8_moved_16 : decode cX8_moved 16 = .ok (.iload_n 1, 1) := by decide +kernel
theorem dX8_moved_17 : decode cX8_moved 17 = .ok (.goto 14, 3) := by decide +kernel
theorem dX8_moved_20 : decode cX8_moved 20 = .ok (.aload_n 0, 1) := by decide +kernel
theorem dX8_moved_21 : decode cX8_moved 21 = .ok (.getfield 37, 3) := by decide +kernel
theorem dX8_moved_24 : decode cX8_moved 24 = .ok (.aload_n 0, 1) := by decide +kernel
theorem dX8_moved_25 : decode cX8_moved 25 = .ok (.getfield 12, 3) := by decide +kernel
theorem dX8_moved_28 : decode cX8_moved 28 = .ok (.invokevirtual 236, 3) := by decide +kernel
theorem dX8_moved_31 : decode cX8_moved 31 = .ok (.ireturn, 1) := by decide +kernel
theorem dX8_spellPlan_0 : decode cX8_spellPlan 0 = .ok (.aload_n 0, 1) := by decide +kernel
theorem dX8_spellPlan_1 : decode cX8_spellPlan 1 = .ok (.getfield 37, 3) := by decide +kernel
theorem dX8_spellPlan_4 : decode cX8_spellPlan 4 = .ok (.aload_n 0, 1) := by decide +kernel
theorem dX8_spellPlan_5 : decode cX8_spellPlan 5 = .ok (.getfield 12, 3) := by decide +kernel
theorem dX8_spellPlan_8 : decode cX8_spellPlan 8 = .ok (.invokevirtual 204, 3) := by decide +kernel
theorem dX8_spellPlan_11 : decode cX8_spellPlan 11 = .ok (.istore_n 1, 1) := by decide +kernel
theorem dX8_spellPlan_12 : decode cX8_spellPlan 12 = .ok (.iload_n 1, 1) := by decide +kernel
theorem dX8_spellPlan_13 : decode cX8_spellPlan 13 = .ok (.ifCond .ge 5, 3) := by decide +kernel
theorem dX8_spellPlan_16 : decode cX8_spellPlan 16 = .ok (.iload_n 1, 1) := by decide +kernel
theorem dX8_spellPlan_17 : decode cX8_spellPlan 17 = .ok (.ireturn, 1) := by decide +kernel
theorem dX8_spellPlan_18 : decode cX8_spellPlan 18 = .ok (.aload_n 0, 1) := by decide +kernel
theorem dX8_spellPlan_19 : decode cX8_spellPlan 19 = .ok (.getfield 51, 3) := by decide +kernel
theorem dX8_spellPlan_22 : decode cX8_spellPlan 22 = .ok (.iconst 0, 1) := by decide +kernel
theorem dX8_spellPlan_23 : decode cX8_spellPlan 23 = .ok (.putfield 196, 3) := by decide +kernel
theorem dX8_spellPlan_26 : decode cX8_spellPlan 26 = .ok (.iconst 0, 1) := by decide +kernel
theorem dX8_spellPlan_27 : decode cX8_spellPlan 27 = .ok (.istore_n 2, 1) := by decide +kernel
theorem dX8_spellPlan_28 : decode cX8_spellPlan 28 = .ok (.iload_n 2, 1) := by decide +kernel
theorem dX8_spellPlan_29 : decode cX8_spellPlan 29 = .ok (.iconst 4, 1) := by decide +kernel
theorem dX8_spellPlan_30 : decode cX8_spellPlan 30 = .ok (.if_icmp .ge 41, 3) := by decide +kernel
theorem dX8_spellPlan_33 : decode cX8_spellPlan 33 = .ok (.iload_n 2, 1) := by decide +kernel
theorem dX8_spellPlan_34 : decode cX8_spellPlan 34 = .ok (.ifCond .le 12, 3) := by decide +kernel
theorem dX8_spellPlan_37 : decode cX8_spellPlan 37 = .ok (.aload_n 0, 1) := by decide +kernel
theorem dX8_spellPlan_38 : decode cX8_spellPlan 38 = .ok (.getfield 51, 3) := by decide +kernel
theorem dX8_spellPlan_41 : decode cX8_spellPlan 41 = .ok (.bipush 47, 2) := by decide +kernel
theorem dX8_spellPlan_43 : decode cX8_spellPlan 43 = .ok (.invokevirtual 239, 3) := by decide +kernel
theorem dX8_spellPlan_46 : decode cX8_spellPlan 46 = .ok (.aload_n 0, 1) := by decide +kernel
theorem dX8_spellPlan_47 : decode cX8_spellPlan 47 = .ok (.getfield 51, 3) := by decide +kernel
theorem dX8_spellPlan_50 : decode cX8_spellPlan 50 = .ok (.aload_n 0, 1) := by decide +kernel
theorem dX8_spellPlan_51 : decode cX8_spellPlan 51 = .ok (.getfield 37, 3) := by decide +kernel
theorem dX8_spellPlan_54 : decode cX8_spellPlan 54 = .ok (.getfield 208, 3) := by decide +kernel
theorem dX8_spellPlan_57 : decode cX8_spellPlan 57 = .ok (.iload_n 2, 1) := by decide +kernel
theorem dX8_spellPlan_58 : decode cX8_spellPlan 58 = .ok (.iconst 0, 1) := by decide +kernel
theorem dX8_spellPlan_59 : decode cX8_spellPlan 59 = .ok (.invokestatic 78, 3) := by decide +kernel
theorem dX8_spellPlan_62 : decode cX8_spellPlan 62 = .ok (.invokevirtual 197, 3) := by decide +kernel
theorem dX8_spellPlan_65 : decode cX8_spellPlan 65 = .ok (.iinc 2 1, 3) := by decide +kernel
theorem dX8_spellPlan_68 : decode cX8_spellPlan 68 = .ok (.goto (-40), 3) := by decide +kernel
theorem dX8_spellPlan_71 : decode cX8_spellPlan 71 = .ok (.aload_n 0, 1) := by decide +kernel
theorem dX8_spellPlan_72 : decode cX8_spellPlan 72 = .ok (.getfield 51, 3) := by decide +kernel
theorem dX8_spellPlan_75 : decode cX8_spellPlan 75 = .ok (.getfield 196, 3) := by decide +kernel
theorem dX8_spellPlan_78 : decode cX8_spellPlan 78 = .ok (.ireturn, 1) := by decide +kernel
theorem dX8_told_0 : decode cX8_told 0 = .ok (.iload_n 1, 1) := by decide +kernel
theorem dX8_told_1 : decode cX8_told 1 = .ok (.bipush 10, 2) := by decide +kernel
theorem dX8_told_3 : decode cX8_told 3 = .ok (.if_icmp .lt 22, 3) := by decide +kernel
theorem dX8_told_6 : decode cX8_told 6 = .ok (.iload_n 1, 1) := by decide +kernel
theorem dX8_told_7 : decode cX8_told 7 = .ok (.bipush 14, 2) := by decide +kernel
theorem dX8_told_9 : decode cX8_told 9 = .ok (.if_icmp .ge 16, 3) := by decide +kernel
theorem dX8_told_12 : decode cX8_told 12 = .ok (.aload_n 0, 1) := by decide +kernel
theorem dX8_told_13 : decode cX8_told 13 = .ok (.getfield 12, 3) := by decide +kernel
theorem dX8_told_16 : decode cX8_told 16 = .ok (.getfield 96, 3) := by decide +kernel
theorem dX8_told_19 : decode cX8_told 19 = .ok (.iload_n 1, 1) := by decide +kernel
theorem dX8_told_20 : decode cX8_told 20 = .ok (.bipush 10, 2) := by decide +kernel
theorem dX8_told_22 : decode cX8_told 22 = .ok (.isub, 1) := by decide +kernel
theorem dX8_told_23 : decode cX8_told 23 = .ok (.iaload, 1) := by decide +kernel
theorem dX8_told_24 : decode cX8_told 24 = .ok (.ireturn, 1) := by decide +kernel
theorem dX8_told_25 : decode cX8_told 25 = .ok (.iload_n 1, 1) := by decide +kernel
theorem dX8_told_26 : decode cX8_told 26 = .ok (.bipush 20, 2) := by decide +kernel
theorem dX8_told_28 : decode cX8_told 28 = .ok (.if_icmp .lt 22, 3) := by decide +kernel
theorem dX8_told_31 : decode cX8_told 31 = .ok (.iload_n 1, 1) := by decide +kernel
theorem dX8_told_32 : decode cX8_told 32 = .ok (.bipush 26, 2) := by decide +kernel
theorem dX8_told_34 : decode cX8_told 34 = .ok (.if_icmp .ge 16, 3) := by decide +kernel
theorem dX8_told_37 : decode cX8_told 37 = .ok (.aload_n 0, 1) := by decide +kernel
theorem dX8_told_38 : decode cX8_told 38 = .ok (.getfield 12, 3) := by decide +kernel
theorem dX8_told_41 : decode cX8_told 41 = .ok (.getfield 99, 3) := by decide +kernel
theorem dX8_told_44 : decode cX8_told 44 = .ok (.iload_n 1, 1) := by decide +kernel
theorem dX8_told_45 : decode cX8_told 45 = .ok (.bipush 20, 2) := by decide +kernel
theorem dX8_told_47 : decode cX8_told 47 = .ok (.isub, 1) := by decide +kernel
theorem dX8_told_48 : decode cX8_told 48 = .ok (.iaload, 1) := by decide +kernel
theorem dX8_told_49 : decode cX8_told 49 = .ok (.ireturn, 1) := by decide +kernel
theorem dX8_told_50 : decode cX8_told 50 = .ok (.iload_n 1, 1) := by decide +kernel
theorem dX8_told_51 : decode cX8_told 51 = .ok (.bipush 30, 2) := by decide +kernel
theorem dX8_told_53 : decode cX8_told 53 = .ok (.if_icmp .lt 22, 3) := by decide +kernel
theorem dX8_told_56 : decode cX8_told 56 = .ok (.iload_n 1, 1) := by decide +kernel
theorem dX8_told_57 : decode cX8_told 57 = .ok (.bipush 36, 2) := by decide +kernel
theorem dX8_told_59 : decode cX8_told 59 = .ok (.if_icmp .ge 16, 3) := by decide +kernel
theorem dX8_told_62 : decode cX8_told 62 = .ok (.aload_n 0, 1) := by decide +kernel
theorem dX8_told_63 : decode cX8_told 63 = .ok (.getfield 12, 3) := by decide +kernel
theorem dX8_told_66 : decode cX8_told 66 = .ok (.getfield 102, 3) := by decide +kernel
theorem dX8_told_69 : decode cX8_told 69 = .ok (.iload_n 1, 1) := by decide +kernel
theorem dX8_told_70 : decode cX8_told 70 = .ok (.bipush 30, 2) := by decide +kernel
theorem dX8_told_72 : decode cX8_told 72 = .ok (.isub, 1) := by decide +kernel
theorem dX8_told_73 : decode cX8_told 73 = .ok (.iaload, 1) := by decide +kernel
theorem dX8_told_74 : decode cX8_told 74 = .ok (.ireturn, 1) := by decide +kernel
theorem dX8_told_75 : decode cX8_told 75 = .ok (.iload_n 1, 1) := by decide +kernel
theorem dX8_told_76 : decode cX8_told 76 = .ok (.tableswitch 136 0 9 #[56, 64, 72, 80, 88, 96, 104, 112, 120, 128], 56) := by decide +kernel
theorem dX8_told_132 : decode cX8_told 132 = .ok (.aload_n 0, 1) := by decide +kernel
theorem dX8_told_133 : decode cX8_told 133 = .ok (.getfield 12, 3) := by decide +kernel
theorem dX8_told_136 : decode cX8_told 136 = .ok (.invokevirtual 85, 3) := by decide +kernel
theorem dX8_told_139 : decode cX8_told 139 = .ok (.ireturn, 1) := by decide +kernel
theorem dX8_told_140 : decode cX8_told 140 = .ok (.aload_n 0, 1) := by decide +kernel
theorem dX8_told_141 : decode cX8_told 141 = .ok (.getfield 12, 3) := by decide +kernel
theorem dX8_told_144 : decode cX8_told 144 = .ok (.invokevirtual 243, 3) := by decide +kernel
theorem dX8_told_147 : decode cX8_told 147 = .ok (.ireturn, 1) := by decide +kernel
theorem dX8_told_148 : decode cX8_told 148 = .ok (.aload_n 0, 1) := by decide +kernel
theorem dX8_told_149 : decode cX8_told 149 = .ok (.getfield 12, 3) := by decide +kernel
theorem dX8_told_152 : decode cX8_told 152 = .ok (.getfield 109, 3) := by decide +kernel
theorem dX8_told_155 : decode cX8_told 155 = .ok (.ireturn, 1) := by decide +kernel
theorem dX8_told_156 : decode cX8_told 156 = .ok (.aload_n 0, 1) := by decide +kernel
theorem dX8_told_157 : decode cX8_told 157 = .ok (.getfield 12, 3) := by decide +kernel
theorem dX8_told_160 : decode cX8_told 160 = .ok (.getfield 105, 3) := by decide +kernel
theorem dX8_told_163 : decode cX8_told 163 = .ok (.ireturn, 1) := by decide +kernel
theorem dX8_told_164 : decode cX8_told 164 = .ok (.aload_n 0, 1) := by decide +kernel
theorem dX8_told_165 : decode cX8_told 165 = .ok (.getfield 12, 3) := by decide +kernel
theorem dX8_told_168 : decode cX8_told 168 = .ok (.getfield 112, 3) := by decide +kernel
theorem dX8_told_171 : decode cX8_told 171 = .ok (.ireturn, 1) := by decide +kernel
theorem dX8_told_172 : decode cX8_told 172 = .ok (.aload_n 0, 1) := by decide +kernel
theorem dX8_told_173 : decode cX8_told 173 = .ok (.getfield 12, 3) := by decide +kernel
theorem dX8_told_176 : decode cX8_told 176 = .ok (.getfield 115, 3) := by decide +kernel
theorem dX8_told_179 : decode cX8_told 179 = .ok (.ireturn, 1) := by decide +kernel
theorem dX8_told_180 : decode cX8_told 180 = .ok (.aload_n 0, 1) := by decide +kernel
theorem dX8_told_181 : decode cX8_told 181 = .ok (.getfield 44, 3) := by decide +kernel
theorem dX8_told_184 : decode cX8_told 184 = .ok (.getfield 122, 3) := by decide +kernel
theorem dX8_told_187 : decode cX8_told 187 = .ok (.ireturn, 1) := by decide +kernel
theorem dX8_told_188 : decode cX8_told 188 = .ok (.aload_n 0, 1) := by decide +kernel
theorem dX8_told_189 : decode cX8_told 189 = .ok (.getfield 51, 3) := by decide +kernel
theorem dX8_told_192 : decode cX8_told 192 = .ok (.getfield 196, 3) := by decide +kernel
theorem dX8_told_195 : decode cX8_told 195 = .ok (.ireturn, 1) := by decide +kernel
theorem dX8_told_196 : decode cX8_told 196 = .ok (.aload_n 0, 1) := by decide +kernel
theorem dX8_told_197 : decode cX8_told 197 = .ok (.getfield 12, 3) := by decide +kernel
theorem dX8_told_200 : decode cX8_told 200 = .ok (.invokevirtual 246, 3) := by decide +kernel
theorem dX8_told_203 : decode cX8_told 203 = .ok (.ireturn, 1) := by decide +kernel
theorem dX8_told_204 : decode cX8_told 204 = .ok (.aload_n 0, 1) := by decide +kernel
theorem dX8_told_205 : decode cX8_told 205 = .ok (.getfield 12, 3) := by decide +kernel
theorem dX8_told_208 : decode cX8_told 208 = .ok (.invokevirtual 249, 3) := by decide +kernel
theorem dX8_told_211 : decode cX8_told 211 = .ok (.ireturn, 1) := by decide +kernel
theorem dX8_told_212 : decode cX8_told 212 = .ok (.iconst (-1), 1) := by decide +kernel
theorem dX8_told_213 : decode cX8_told 213 = .ok (.ireturn, 1) := by decide +kernel
theorem dX8_row_0 : decode cX8_row 0 = .ok (.iload_n 1, 1) := by decide +kernel
theorem dX8_row_1 : decode cX8_row 1 = .ok (.iconst 3, 1) := by decide +kernel
theorem dX8_row_2 : decode cX8_row 2 = .ok (.invokestatic 70, 3) := by decide +kernel
theorem dX8_row_5 : decode cX8_row 5 = .ok (.ifCond .ne 5, 3) := by decide +kernel
theorem dX8_row_8 : decode cX8_row 8 = .ok (.iconst (-1), 1) := by decide +kernel
theorem dX8_row_9 : decode cX8_row 9 = .ok (.ireturn, 1) := by decide +kernel
theorem dX8_row_10 : decode cX8_row 10 = .ok (.iload_n 2, 1) := by decide +kernel
theorem dX8_row_11 : decode cX8_row 11 = .ok (.bipush 40, 2) := by decide +kernel
theorem dX8_row_13 : decode cX8_row 13 = .ok (.if_icmp .le 6, 3) := by decide +kernel
theorem dX8_row_16 : decode cX8_row 16 = .ok (.bipush (-2), 2) := by decide +kernel
theorem dX8_row_18 : decode cX8_row 18 = .ok (.ireturn, 1) := by decide +kernel
theorem dX8_row_19 : decode cX8_row 19 = .ok (.iload_n 2, 1) := by decide +kernel
theorem dX8_row_20 : decode cX8_row 20 = .ok (.ifCond .ge 6, 3) := by decide +kernel
theorem dX8_row_23 : decode cX8_row 23 = .ok (.bipush (-14), 2) := by decide +kernel
theorem dX8_row_25 : decode cX8_row 25 = .ok (.ireturn, 1) := by decide +kernel
theorem dX8_row_26 : decode cX8_row 26 = .ok (.aload_n 0, 1) := by decide +kernel
theorem dX8_row_27 : decode cX8_row 27 = .ok (.getfield 58, 3) := by decide +kernel
theorem dX8_row_30 : decode cX8_row 30 = .ok (.iload_n 1, 1) := by decide +kernel
theorem dX8_row_31 : decode cX8_row 31 = .ok (.iload_n 2, 1) := by decide +kernel
theorem dX8_row_32 : decode cX8_row 32 = .ok (.invokevirtual 252, 3) := by decide +kernel
theorem dX8_row_35 : decode cX8_row 35 = .ok (.iconst 1, 1) := by decide +kernel
theorem dX8_row_36 : decode cX8_row 36 = .ok (.ireturn, 1) := by decide +kernel
theorem dX8_set_0 : decode cX8_set 0 = .ok (.iload_n 1, 1) := by decide +kernel
theorem dX8_set_1 : decode cX8_set 1 = .ok (.iconst 3, 1) := by decide +kernel
theorem dX8_set_2 : decode cX8_set 2 = .ok (.invokestatic 70, 3) := by decide +kernel
theorem dX8_set_5 : decode cX8_set 5 = .ok (.ifCond .ne 5, 3) := by decide +kernel
theorem dX8_set_8 : decode cX8_set 8 = .ok (.iconst (-1), 1) := by decide +kernel
theorem dX8_set_9 : decode cX8_set 9 = .ok (.ireturn, 1) := by decide +kernel
theorem dX8_set_10 : decode cX8_set 10 = .ok (.aload_n 0, 1) := by decide +kernel
theorem dX8_set_11 : decode cX8_set 11 = .ok (.getfield 58, 3) := by decide +kernel
theorem dX8_set_14 : decode cX8_set 14 = .ok (.iload_n 1, 1) := by decide +kernel
theorem dX8_set_15 : decode cX8_set 15 = .ok (.invokevirtual 256, 3) := by decide +kernel
theorem dX8_set_18 : decode cX8_set 18 = .ok (.ifCond .ne 6, 3) := by decide +kernel
theorem dX8_set_21 : decode cX8_set 21 = .ok (.bipush (-11), 2) := by decide +kernel
theorem dX8_set_23 : decode cX8_set 23 = .ok (.ireturn, 1) := by decide +kernel
theorem dX8_set_24 : decode cX8_set 24 = .ok (.aload_n 0, 1) := by decide +kernel
theorem dX8_set_25 : decode cX8_set 25 = .ok (.getfield 58, 3) := by decide +kernel
theorem dX8_set_28 : decode cX8_set 28 = .ok (.iload_n 1, 1) := by decide +kernel
theorem dX8_set_29 : decode cX8_set 29 = .ok (.iload_n 2, 1) := by decide +kernel
theorem dX8_set_30 : decode cX8_set 30 = .ok (.iload_n 3, 1) := by decide +kernel
theorem dX8_set_31 : decode cX8_set 31 = .ok (.invokevirtual 259, 3) := by decide +kernel
theorem dX8_set_34 : decode cX8_set 34 = .ok (.ifCond .eq 7, 3) := by decide +kernel
theorem dX8_set_37 : decode cX8_set 37 = .ok (.iconst 1, 1) := by decide +kernel
theorem dX8_set_38 : decode cX8_set 38 = .ok (.goto 5, 3) := by decide +kernel
theorem dX8_set_41 : decode cX8_set 41 = .ok (.bipush (-13), 2) := by decide +kernel
theorem dX8_set_43 : decode cX8_set 43 = .ok (.ireturn, 1) := by decide +kernel
theorem dX8_get_0 : decode cX8_get 0 = .ok (.iload_n 1, 1) := by decide +kernel
theorem dX8_get_1 : decode cX8_get 1 = .ok (.iconst 3, 1) := by decide +kernel
theorem dX8_get_2 : decode cX8_get 2 = .ok (.invokestatic 70, 3) := by decide +kernel
theorem dX8_get_5 : decode cX8_get 5 = .ok (.ifCond .eq 15, 3) := by decide +kernel
theorem dX8_get_8 : decode cX8_get 8 = .ok (.aload_n 0, 1) := by decide +kernel
theorem dX8_get_9 : decode cX8_get 9 = .ok (.getfield 58, 3) := by decide +kernel
theorem dX8_get_12 : decode cX8_get 12 = .ok (.iload_n 1, 1) := by decide +kernel
theorem dX8_get_13 : decode cX8_get 13 = .ok (.iload_n 2, 1) := by decide +kernel
theorem dX8_get_14 : decode cX8_get 14 = .ok (.invokevirtual 263, 3) := by decide +kernel
theorem dX8_get_17 : decode cX8_get 17 = .ok (.ifCond .ne 7, 3) := by decide +kernel
theorem dX8_get_20 : decode cX8_get 20 = .ok (.ldc2_w 174, 3) := by decide +kernel
theorem dX8_get_23 : decode cX8_get 23 = .ok (.lreturn, 1) := by decide +kernel
theorem dX8_get_24 : decode cX8_get 24 = .ok (.aload_n 0, 1) := by decide +kernel
theorem dX8_get_25 : decode cX8_get 25 = .ok (.getfield 58, 3) := by decide +kernel
theorem dX8_get_28 : decode cX8_get 28 = .ok (.getfield 266, 3) := by decide +kernel
theorem dX8_get_31 : decode cX8_get 31 = .ok (.iload_n 1, 1) := by decide +kernel
theorem dX8_get_32 : decode cX8_get 32 = .ok (.aaload, 1) := by decide +kernel
theorem dX8_get_33 : decode cX8_get 33 = .ok (.iload_n 2, 1) := by decide +kernel
theorem dX8_get_34 : decode cX8_get 34 = .ok (.iaload, 1) := by decide +kernel
theorem dX8_get_35 : decode cX8_get 35 = .ok (.i2l, 1) := by decide +kernel
theorem dX8_get_36 : decode cX8_get 36 = .ok (.lreturn, 1) := by decide +kernel
theorem dX8_lay_0 : decode cX8_lay 0 = .ok (.iload_n 1, 1) := by decide +kernel
theorem dX8_lay_1 : decode cX8_lay 1 = .ok (.iconst 3, 1) := by decide +kernel
theorem dX8_lay_2 : decode cX8_lay 2 = .ok (.invokestatic 70, 3) := by decide +kernel
theorem dX8_lay_5 : decode cX8_lay 5 = .ok (.ifCond .ne 5, 3) := by decide +kernel
theorem dX8_lay_8 : decode cX8_lay 8 = .ok (.iconst (-1), 1) := by decide +kernel
theorem dX8_lay_9 : decode cX8_lay 9 = .ok (.ireturn, 1) := by decide +kernel
theorem dX8_lay_10 : decode cX8_lay 10 = .ok (.aload_n 0, 1) := by decide +kernel
theorem dX8_lay_11 : decode cX8_lay 11 = .ok (.getfield 58, 3) := by decide +kernel
theorem dX8_lay_14 : decode cX8_lay 14 = .ok (.iload_n 1, 1) := by decide +kernel
theorem dX8_lay_15 : decode cX8_lay 15 = .ok (.invokevirtual 256, 3) := by decide +kernel
theorem dX8_lay_18 : decode cX8_lay 18 = .ok (.ifCond .ne 6, 3) := by decide +kernel
theorem dX8_lay_21 : decode cX8_lay 21 = .ok (.bipush (-11), 2) := by decide +kernel
theorem dX8_lay_23 : decode cX8_lay 23 = .ok (.ireturn, 1) := by decide +kernel
theorem dX8_lay_24 : decode cX8_lay 24 = .ok (.aload_n 0, 1) := by decide +kernel
theorem dX8_lay_25 : decode cX8_lay 25 = .ok (.getfield 37, 3) := by decide +kernel
theorem dX8_lay_28 : decode cX8_lay 28 = .ok (.aload_n 0, 1) := by decide +kernel
theorem dX8_lay_29 : decode cX8_lay 29 = .ok (.getfield 12, 3) := by decide +kernel
theorem dX8_lay_32 : decode cX8_lay 32 = .ok (.invokevirtual 204, 3) := by decide +kernel
theorem dX8_lay_35 : decode cX8_lay 35 = .ok (.istore_n 3, 1) := by decide +kernel
theorem dX8_lay_36 : decode cX8_lay 36 = .ok (.iload_n 3, 1) := by decide +kernel
theorem dX8_lay_37 : decode cX8_lay 37 = .ok (.ifCond .ge 5, 3) := by decide +kernel
theorem dX8_lay_40 : decode cX8_lay 40 = .ok (.iload_n 3, 1) := by decide +kernel
theorem dX8_lay_41 : decode cX8_lay 41 = .ok (.ireturn, 1) := by decide +kernel
theorem dX8_lay_42 : decode cX8_lay 42 = .ok (.aload_n 0, 1) := by decide +kernel
theorem dX8_lay_43 : decode cX8_lay 43 = .ok (.getfield 58, 3) := by decide +kernel
theorem dX8_lay_46 : decode cX8_lay 46 = .ok (.iload_n 1, 1) := by decide +kernel
theorem dX8_lay_47 : decode cX8_lay 47 = .ok (.iload_n 2, 1) := by decide +kernel
theorem dX8_lay_48 : decode cX8_lay 48 = .ok (.aload_n 0, 1) := by decide +kernel
theorem dX8_lay_49 : decode cX8_lay 49 = .ok (.getfield 37, 3) := by decide +kernel
theorem dX8_lay_52 : decode cX8_lay 52 = .ok (.getfield 208, 3) := by decide +kernel
theorem dX8_lay_55 : decode cX8_lay 55 = .ok (.invokevirtual 270, 3) := by decide +kernel
theorem dX8_lay_58 : decode cX8_lay 58 = .ok (.ifCond .eq 8, 3) := by decide +kernel
theorem dX8_lay_61 : decode cX8_lay 61 = .ok (.bipush 24, 2) := by decide +kernel
theorem dX8_lay_63 : decode cX8_lay 63 = .ok (.goto 5, 3) := by decide +kernel
theorem dX8_lay_66 : decode cX8_lay 66 = .ok (.bipush (-13), 2) := by decide +kernel
theorem dX8_lay_68 : decode cX8_lay 68 = .ok (.ireturn, 1) := by decide +kernel
theorem dX8_image_0 : decode cX8_image 0 = .ok (.aload_n 0, 1) := by decide +kernel
theorem dX8_image_1 : decode cX8_image 1 = .ok (.getfield 18, 3) := by decide +kernel
theorem dX8_image_4 : decode cX8_image 4 = .ok (.aload_n 0, 1) := by decide +kernel
theorem dX8_image_5 : decode cX8_image 5 = .ok (.getfield 12, 3) := by decide +kernel
theorem dX8_image_8 : decode cX8_image 8 = .ok (.invokevirtual 129, 3) := by decide +kernel
theorem dX8_image_11 : decode cX8_image 11 = .ok (.aload_n 0, 1) := by decide +kernel
theorem dX8_image_12 : decode cX8_image 12 = .ok (.iconst 1, 1) := by decide +kernel
theorem dX8_image_13 : decode cX8_image 13 = .ok (.putfield 66, 3) := by decide +kernel
theorem dX8_image_16 : decode cX8_image 16 = .ok (.aload_n 0, 1) := by decide +kernel
theorem dX8_image_17 : decode cX8_image 17 = .ok (.getfield 12, 3) := by decide +kernel
theorem dX8_image_20 : decode cX8_image 20 = .ok (.invokevirtual 85, 3) := by decide +kernel
theorem dX8_image_23 : decode cX8_image 23 = .ok (.ireturn, 1) := by decide +kernel
theorem dX8_undo_0 : decode cX8_undo 0 = .ok (.aload_n 0, 1) := by decide +kernel
theorem dX8_undo_1 : decode cX8_undo 1 = .ok (.getfield 66, 3) := by decide +kernel
theorem dX8_undo_4 : decode cX8_undo 4 = .ok (.ifCond .ne 6, 3) := by decide +kernel
theorem dX8_undo_7 : decode cX8_undo 7 = .ok (.bipush (-3), 2) := by decide +kernel
theorem dX8_undo_9 : decode cX8_undo 9 = .ok (.ireturn, 1) := by decide +kernel
theorem dX8_undo_10 : decode cX8_undo 10 = .ok (.aload_n 0, 1) := by decide +kernel
theorem dX8_undo_11 : decode cX8_undo 11 = .ok (.getfield 12, 3) := by decide +kernel
theorem dX8_undo_14 : decode cX8_undo 14 = .ok (.aload_n 0, 1) := by decide +kernel
theorem dX8_undo_15 : decode cX8_undo 15 = .ok (.getfield 18, 3) := by decide +kernel
theorem dX8_undo_18 : decode cX8_undo 18 = .ok (.invokevirtual 129, 3) := by decide +kernel
theorem dX8_undo_21 : decode cX8_undo 21 = .ok (.aload_n 0, 1) := by decide +kernel
theorem dX8_undo_22 : decode cX8_undo 22 = .ok (.getfield 37, 3) := by decide +kernel
theorem dX8_undo_25 : decode cX8_undo 25 = .ok (.invokevirtual 82, 3) := by decide +kernel
theorem dX8_undo_28 : decode cX8_undo 28 = .ok (.aload_n 0, 1) := by decide +kernel
theorem dX8_undo_29 : decode cX8_undo 29 = .ok (.getfield 12, 3) := by decide +kernel
theorem dX8_undo_32 : decode cX8_undo 32 = .ok (.invokevirtual 85, 3) := by decide +kernel
theorem dX8_undo_35 : decode cX8_undo 35 = .ok (.ireturn, 1) := by decide +kernel
theorem dX8_fillNow_0 : decode cX8_fillNow 0 = .ok (.iload_n 1, 1) := by decide +kernel
theorem dX8_fillNow_1 : decode cX8_fillNow 1 = .ok (.bipush 60, 2) := by decide +kernel
theorem dX8_fillNow_3 : decode cX8_fillNow 3 = .ok (.invokestatic 70, 3) := by decide +kernel
theorem dX8_fillNow_6 : decode cX8_fillNow 6 = .ok (.ifCond .ne 6, 3) := by decide +kernel
theorem dX8_fillNow_9 : decode cX8_fillNow 9 = .ok (.bipush (-2), 2) := by decide +kernel
theorem dX8_fillNow_11 : decode cX8_fillNow 11 = .ok (.ireturn, 1) := by decide +kernel
theorem dX8_fillNow_12 : decode cX8_fillNow 12 = .ok (.aload_n 0, 1) := by decide +kernel
theorem dX8_fillNow_13 : decode cX8_fillNow 13 = .ok (.getfield 27, 3) := by decide +kernel
theorem dX8_fillNow_16 : decode cX8_fillNow 16 = .ok (.aload_n 0, 1) := by decide +kernel
theorem dX8_fillNow_17 : decode cX8_fillNow 17 = .ok (.getfield 12, 3) := by decide +kernel
theorem dX8_fillNow_20 : decode cX8_fillNow 20 = .ok (.aload_n 0, 1) := by decide +kernel
theorem dX8_fillNow_21 : decode cX8_fillNow 21 = .ok (.getfield 12, 3) := by decide +kernel
theorem dX8_fillNow_24 : decode cX8_fillNow 24 = .ok (.getfield 109, 3) := by decide +kernel
theorem dX8_fillNow_27 : decode cX8_fillNow 27 = .ok (.iload_n 1, 1) := by decide +kernel
theorem dX8_fillNow_28 : decode cX8_fillNow 28 = .ok (.invokevirtual 163, 3) := by decide +kernel
theorem dX8_fillNow_31 : decode cX8_fillNow 31 = .ok (.ifCond .eq 7, 3) := by decide +kernel
theorem dX8_fillNow_34 : decode cX8_fillNow 34 = .ok (.iconst 0, 1) := by decide +kernel
theorem dX8_fillNow_35 : decode cX8_fillNow 35 = .ok (.goto 5, 3) := by decide +kernel
theorem dX8_fillNow_38 : decode cX8_fillNow 38 = .ok (.bipush (-3), 2) := by decide +kernel
theorem dX8_fillNow_40 : decode cX8_fillNow 40 = .ok (.ireturn, 1) := by decide +kernel
theorem dX8_fillByPrices_0 : decode cX8_fillByPrices 0 = .ok (.iload_n 1, 1) := by decide +kernel
theorem dX8_fillByPrices_1 : decode cX8_fillByPrices 1 = .ok (.bipush 60, 2) := by decide +kernel
theorem dX8_fillByPrices_3 : decode cX8_fillByPrices 3 = .ok (.invokestatic 70, 3) := by decide +kernel
theorem dX8_fillByPrices_6 : decode cX8_fillByPrices 6 = .ok (.ifCond .ne 6, 3) := by decide +kernel
theorem dX8_fillByPrices_9 : decode cX8_fillByPrices 9 = .ok (.bipush (-2), 2) := by decide +kernel
theorem dX8_fillByPrices_11 : decode cX8_fillByPrices 11 = .ok (.ireturn, 1) := by decide +kernel
theorem dX8_fillByPrices_12 : decode cX8_fillByPrices 12 = .ok (.aload_n 0, 1) := by decide +kernel
theorem dX8_fillByPrices_13 : decode cX8_fillByPrices 13 = .ok (.getfield 12, 3) := by decide +kernel
theorem dX8_fillByPrices_16 : decode cX8_fillByPrices 16 = .ok (.getfield 109, 3) := by decide +kernel
theorem dX8_fillByPrices_19 : decode cX8_fillByPrices 19 = .ok (.bipush 6, 2) := by decide +kernel
theorem dX8_fillByPrices_21 : decode cX8_fillByPrices 21 = .ok (.if_icmp .eq 29, 3) := by decide +kernel
theorem dX8_fillByPrices_24 : decode cX8_fillByPrices 24 = .ok (.aload_n 0, 1) := by decide +kernel
theorem dX8_fillByPrices_25 : decode cX8_fillByPrices 25 = .ok (.getfield 27, 3) := by decide +kernel
theorem dX8_fillByPrices_28 : decode cX8_fillByPrices 28 = .ok (.aload_n 0, 1) := by decide +kernel
theorem dX8_fillByPrices_29 : decode cX8_fillByPrices 29 = .ok (.getfield 12, 3) := by decide +kernel
theorem dX8_fillByPrices_32 : decode cX8_fillByPrices 32 = .ok (.aload_n 0, 1) := by decide +kernel
theorem dX8_fillByPrices_33 : decode cX8_fillByPrices 33 = .ok (.getfield 12, 3) := by decide +kernel
theorem dX8_fillByPrices_36 : decode cX8_fillByPrices 36 = .ok (.getfield 109, 3) := by decide +kernel
theorem dX8_fillByPrices_39 : decode cX8_fillByPrices 39 = .ok (.iload_n 1, 1) := by decide +kernel
theorem dX8_fillByPrices_40 : decode cX8_fillByPrices 40 = .ok (.invokevirtual 163, 3) := by decide +kernel
theorem dX8_fillByPrices_43 : decode cX8_fillByPrices 43 = .ok (.ifCond .eq 7, 3) := by decide +kernel
theorem dX8_fillByPrices_46 : decode cX8_fillByPrices 46 = .ok (.iconst 0, 1) := by decide +kernel
theorem dX8_fillByPrices_47 : decode cX8_fillByPrices 47 = .ok (.goto 5, 3) := by decide +kernel
theorem dX8_fillByPrices_50 : decode cX8_fillByPrices 50 = .ok (.bipush (-3), 2) := by decide +kernel
theorem dX8_fillByPrices_52 : decode cX8_fillByPrices 52 = .ok (.ireturn, 1) := by decide +kernel
theorem dX8_within_0 : decode cX8_within 0 = .ok (.iload_n 0, 1) := by decide +kernel
theorem dX8_within_1 : decode cX8_within 1 = .ok (.ifCond .lt 12, 3) := by decide +kernel
theorem dX8_within_4 : decode cX8_within 4 = .ok (.iload_n 0, 1) := by decide +kernel
theorem dX8_within_5 : decode cX8_within 5 = .ok (.iload_n 1, 1) := by decide +kernel
theorem dX8_within_6 : decode cX8_within 6 = .ok (.if_icmp .gt 7, 3) := by decide +kernel
theorem dX8_within_9 : decode cX8_within 9 = .ok (.iconst 1, 1) := by decide +kernel
theorem dX8_within_10 : decode cX8_within 10 = .ok (.goto 4, 3) := by decide +kernel
theorem dX8_within_13 : decode cX8_within 13 = .ok (.iconst 0, 1) := by decide +kernel
theorem dX8_within_14 : decode cX8_within 14 = .ok (.ireturn, 1) := by decide +kernel
theorem dX8_holds_0 : decode cX8_holds 0 = .ok (.iload_n 0, 1) := by decide +kernel
theorem dX8_holds_1 : decode cX8_holds 1 = .ok (.iload_n 1, 1) := by decide +kernel
theorem dX8_holds_2 : decode cX8_holds 2 = .ok (.ishr, 1) := by decide +kernel
theorem dX8_holds_3 : decode cX8_holds 3 = .ok (.iconst 1, 1) := by decide +kernel
theorem dX8_holds_4 : decode cX8_holds 4 = .ok (.iand, 1) := by decide +kernel
theorem dX8_holds_5 : decode cX8_holds 5 = .ok (.ifCond .eq 7, 3) := by decide +kernel
theorem dX8_holds_8 : decode cX8_holds 8 = .ok (.iconst 1, 1) := by decide +kernel
theorem dX8_holds_9 : decode cX8_holds 9 = .ok (.goto 4, 3) := by decide +kernel
theorem dX8_holds_12 : decode cX8_holds 12 = .ok (.iconst 0, 1) := by decide +kernel
theorem dX8_holds_13 : decode cX8_holds 13 = .ok (.ireturn, 1) := by decide +kernel
theorem dX8_cellOf_0 : decode cX8_cellOf 0 = .ok (.iload_n 0, 1) := by decide +kernel
theorem dX8_cellOf_1 : decode cX8_cellOf 1 = .ok (.bipush 6, 2) := by decide +kernel
theorem dX8_cellOf_3 : decode cX8_cellOf 3 = .ok (.imul, 1) := by decide +kernel
theorem dX8_cellOf_4 : decode cX8_cellOf 4 = .ok (.iload_n 1, 1) := by decide +kernel
theorem dX8_cellOf_5 : decode cX8_cellOf 5 = .ok (.iadd, 1) := by decide +kernel
theorem dX8_cellOf_6 : decode cX8_cellOf 6 = .ok (.ireturn, 1) := by decide +kernel
theorem dX8_lowest_0 : decode cX8_lowest 0 = .ok (.lload_n 0, 1) := by decide +kernel
theorem dX8_lowest_1 : decode cX8_lowest 1 = .ok (.lload_n 2, 1) := by decide +kernel
theorem dX8_lowest_2 : decode cX8_lowest 2 = .ok (.invokestatic 273, 3) := by decide +kernel
theorem dX8_lowest_5 : decode cX8_lowest 5 = .ok (.lstore 5, 2) := by decide +kernel
theorem dX8_lowest_7 : decode cX8_lowest 7 = .ok (.lload_n 2, 1) := by decide +kernel
theorem dX8_lowest_8 : decode cX8_lowest 8 = .ok (.lconst 0, 1) := by decide +kernel
theorem dX8_lowest_9 : decode cX8_lowest 9 = .ok (.lcmp, 1) := by decide +kernel
theorem dX8_lowest_10 : decode cX8_lowest 10 = .ok (.ifCond .eq 10, 3) := by decide +kernel
theorem dX8_lowest_13 : decode cX8_lowest 13 = .ok (.lload 5, 2) := by decide +kernel
theorem dX8_lowest_15 : decode cX8_lowest 15 = .ok (.lconst 0, 1) := by decide +kernel
theorem dX8_lowest_16 : decode cX8_lowest 16 = .ok (.lcmp, 1) := by decide +kernel
theorem dX8_lowest_17 : decode cX8_lowest 17 = .ok (.ifCond .ne 7, 3) := by decide +kernel
theorem dX8_lowest_20 : decode cX8_lowest 20 = .ok (.ldc2_w 174, 3) := by decide +kernel
theorem dX8_lowest_23 : decode cX8_lowest 23 = .ok (.lreturn, 1) := by decide +kernel
theorem dX8_lowest_24 : decode cX8_lowest 24 = .ok (.iload 4, 2) := by decide +kernel
theorem dX8_lowest_26 : decode cX8_lowest 26 = .ok (.ifCond .ne 10, 3) := by decide +kernel
theorem dX8_lowest_29 : decode cX8_lowest 29 = .ok (.lload_n 0, 1) := by decide +kernel
theorem dX8_lowest_30 : decode cX8_lowest 30 = .ok (.lload 5, 2) := by decide +kernel
theorem dX8_lowest_32 : decode cX8_lowest 32 = .ok (.ldiv, 1) := by decide +kernel
theorem dX8_lowest_33 : decode cX8_lowest 33 = .ok (.goto 7, 3) := by decide +kernel
theorem dX8_lowest_36 : decode cX8_lowest 36 = .ok (.lload_n 2, 1) := by decide +kernel
theorem dX8_lowest_37 : decode cX8_lowest 37 = .ok (.lload 5, 2) := by decide +kernel
theorem dX8_lowest_39 : decode cX8_lowest 39 = .ok (.ldiv, 1) := by decide +kernel
theorem dX8_lowest_40 : decode cX8_lowest 40 = .ok (.lreturn, 1) := by decide +kernel
theorem dX8_commonDivisor_0 : decode cX8_commonDivisor 0 = .ok (.lload_n 0, 1) := by decide +kernel
theorem dX8_commonDivisor_1 : decode cX8_commonDivisor 1 = .ok (.lstore 4, 2) := by decide +kernel
theorem dX8_commonDivisor_3 : decode cX8_commonDivisor 3 = .ok (.lload_n 2, 1) := by decide +kernel
theorem dX8_commonDivisor_4 : decode cX8_commonDivisor 4 = .ok (.lstore 6, 2) := by decide +kernel
theorem dX8_commonDivisor_6 : decode cX8_commonDivisor 6 = .ok (.iconst 0, 1) := by decide +kernel
theorem dX8_commonDivisor_7 : decode cX8_commonDivisor 7 = .ok (.istore 8, 2) := by decide +kernel
theorem dX8_commonDivisor_9 : decode cX8_commonDivisor 9 = .ok (.iload 8, 2) := by decide +kernel
theorem dX8_commonDivisor_11 : decode cX8_commonDivisor 11 = .ok (.bipush 100, 2) := by decide +kernel
theorem dX8_commonDivisor_13 : decode cX8_commonDivisor 13 = .ok (.if_icmp .ge 31, 3) := by decide +kernel
theorem dX8_commonDivisor_16 : decode cX8_commonDivisor 16 = .ok (.lload 6, 2) := by decide +kernel
theorem dX8_commonDivisor_18 : decode cX8_commonDivisor 18 = .ok (.lconst 0, 1) := by decide +kernel
theorem dX8_commonDivisor_19 : decode cX8_commonDivisor 19 = .ok (.lcmp, 1) := by decide +kernel
theorem dX8_commonDivisor_20 : decode cX8_commonDivisor 20 = .ok (.ifCond .eq 24, 3) := by decide +kernel
theorem dX8_commonDivisor_23 : decode cX8_commonDivisor 23 = .ok (.lload 4, 2) := by decide +kernel
theorem dX8_commonDivisor_25 : decode cX8_commonDivisor 25 = .ok (.lload 6, 2) := by decide +kernel
theorem dX8_commonDivisor_27 : decode cX8_commonDivisor 27 = .ok (.lrem, 1) := by decide +kernel
theorem dX8_commonDivisor_28 : decode cX8_commonDivisor 28 = .ok (.lstore 9, 2) := by decide +kernel
theorem dX8_commonDivisor_30 : decode cX8_commonDivisor 30 = .ok (.lload 6, 2) := by decide +kernel
theorem dX8_commonDivisor_32 : decode cX8_commonDivisor 32 = .ok (.lstore 4, 2) := by decide +kernel
theorem dX8_commonDivisor_34 : decode cX8_commonDivisor 34 = .ok (.lload 9, 2) := by decide +kernel
theorem dX8_commonDivisor_36 : decode cX8_commonDivisor 36 = .ok (.lstore 6, 2) := by decide +kernel
theorem dX8_commonDivisor_38 : decode cX8_commonDivisor 38 = .ok (.iinc 8 1, 3) := by decide +kernel
theorem dX8_commonDivisor_41 : decode cX8_commonDivisor 41 = .ok (.goto (-32), 3) := by decide +kernel
theorem dX8_commonDivisor_44 : decode cX8_commonDivisor 44 = .ok (.lload 4, 2) := by decide +kernel
theorem dX8_commonDivisor_46 : decode cX8_commonDivisor 46 = .ok (.lreturn, 1) := by decide +kernel
theorem dX8_product_0 : decode cX8_product 0 = .ok (.lload_n 0, 1) := by decide +kernel
theorem dX8_product_1 : decode cX8_product 1 = .ok (.lconst 0, 1) := by decide +kernel
theorem dX8_product_2 : decode cX8_product 2 = .ok (.lcmp, 1) := by decide +kernel
theorem dX8_product_3 : decode cX8_product 3 = .ok (.ifCond .lt 9, 3) := by decide +kernel
theorem dX8_product_6 : decode cX8_product 6 = .ok (.lload_n 2, 1) := by decide +kernel
theorem dX8_product_7 : decode cX8_product 7 = .ok (.lconst 0, 1) := by decide +kernel
theorem dX8_product_8 : decode cX8_product 8 = .ok (.lcmp, 1) := by decide +kernel
theorem dX8_product_9 : decode cX8_product 9 = .ok (.ifCond .ge 7, 3) := by decide +kernel
theorem dX8_product_12 : decode cX8_product 12 = .ok (.ldc2_w 277, 3) := by decide +kernel
theorem dX8_product_15 : decode cX8_product 15 = .ok (.lreturn, 1) := by decide +kernel
theorem dX8_product_16 : decode cX8_product 16 = .ok (.lload_n 0, 1) := by decide +kernel
theorem dX8_product_17 : decode cX8_product 17 = .ok (.lload_n 2, 1) := by decide +kernel
theorem dX8_product_18 : decode cX8_product 18 = .ok (.lor, 1) := by decide +kernel
theorem dX8_product_19 : decode cX8_product 19 = .ok (.bipush 31, 2) := by decide +kernel
theorem dX8_product_21 : decode cX8_product 21 = .ok (.lushr, 1) := by decide +kernel
theorem dX8_product_22 : decode cX8_product 22 = .ok (.lconst 0, 1) := by decide +kernel
theorem dX8_product_23 : decode cX8_product 23 = .ok (.lcmp, 1) := by decide +kernel
theorem dX8_product_24 : decode cX8_product 24 = .ok (.ifCond .eq 7, 3) := by decide +kernel
theorem dX8_product_27 : decode cX8_product 27 = .ok (.iconst 1, 1) := by decide +kernel
theorem dX8_product_28 : decode cX8_product 28 = .ok (.goto 4, 3) := by decide +kernel
theorem dX8_product_31 : decode cX8_product 31 = .ok (.iconst 0, 1) := by decide +kernel
theorem dX8_product_32 : decode cX8_product 32 = .ok (.istore 4, 2) := by decide +kernel
theorem dX8_product_34 : decode cX8_product 34 = .ok (.iload 4, 2) := by decide +kernel
theorem dX8_product_36 : decode cX8_product 36 = .ok (.ifCond .eq 23, 3) := by decide +kernel
theorem dX8_product_39 : decode cX8_product 39 = .ok (.lload_n 2, 1) := by decide +kernel
theorem dX8_product_40 : decode cX8_product 40 = .ok (.lconst 0, 1) := by decide +kernel
theorem dX8_product_41 : decode cX8_product 41 = .ok (.lcmp, 1) := by decide +kernel
theorem dX8_product_42 : decode cX8_product 42 = .ok (.ifCond .eq 17, 3) := by decide +kernel
theorem dX8_product_45 : decode cX8_product 45 = .ok (.lload_n 0, 1) := by decide +kernel
theorem dX8_product_46 : decode cX8_product 46 = .ok (.ldc2_w 279, 3) := by decide +kernel
theorem dX8_product_49 : decode cX8_product 49 = .ok (.lload_n 2, 1) := by decide +kernel
theorem dX8_product_50 : decode cX8_product 50 = .ok (.ldiv, 1) := by decide +kernel
theorem dX8_product_51 : decode cX8_product 51 = .ok (.lcmp, 1) := by decide +kernel
theorem dX8_product_52 : decode cX8_product 52 = .ok (.ifCond .le 7, 3) := by decide +kernel
theorem dX8_product_55 : decode cX8_product 55 = .ok (.ldc2_w 277, 3) := by decide +kernel
theorem dX8_product_58 : decode cX8_product 58 = .ok (.lreturn, 1) := by decide +kernel
theorem dX8_product_59 : decode cX8_product 59 = .ok (.lload_n 0, 1) := by decide +kernel
theorem dX8_product_60 : decode cX8_product 60 = .ok (.lload_n 2, 1) := by decide +kernel
theorem dX8_product_61 : decode cX8_product 61 = .ok (.lmul, 1) := by decide +kernel
theorem dX8_product_62 : decode cX8_product 62 = .ok (.lreturn, 1) := by decide +kernel
theorem dX8_comparePrices_0 : decode cX8_comparePrices 0 = .ok (.lload_n 2, 1) := by decide +kernel
theorem dX8_comparePrices_1 : decode cX8_comparePrices 1 = .ok (.lconst 0, 1) := by decide +kernel
theorem dX8_comparePrices_2 : decode cX8_comparePrices 2 = .ok (.lcmp, 1) := by decide +kernel
theorem dX8_comparePrices_3 : decode cX8_comparePrices 3 = .ok (.ifCond .ne 17, 3) := by decide +kernel
theorem dX8_comparePrices_6 : decode cX8_comparePrices 6 = .ok (.lload 6, 2) := by decide +kernel
theorem dX8_comparePrices_8 : decode cX8_comparePrices 8 = .ok (.lconst 0, 1) := by decide +kernel
theorem dX8_comparePrices_9 : decode cX8_comparePrices 9 = .ok (.lcmp, 1) := by decide +kernel
theorem dX8_comparePrices_10 : decode cX8_comparePrices 10 = .ok (.ifCond .ne 10, 3) := by decide +kernel
theorem dX8_comparePrices_13 : decode cX8_comparePrices 13 = .ok (.lload_n 0, 1) := by decide +kernel
theorem dX8_comparePrices_14 : decode cX8_comparePrices 14 = .ok (.lload 4, 2) := by decide +kernel
theorem dX8_comparePrices_16 : decode cX8_comparePrices 16 = .ok (.invokestatic 281, 3) := by decide +kernel
theorem dX8_comparePrices_19 : decode cX8_comparePrices 19 = .ok (.ireturn, 1) := by decide +kernel
theorem dX8_comparePrices_20 : decode cX8_comparePrices 20 = .ok (.lload_n 2, 1) := by decide +kernel
theorem dX8_comparePrices_21 : decode cX8_comparePrices 21 = .ok (.lconst 0, 1) := by decide +kernel
theorem dX8_comparePrices_22 : decode cX8_comparePrices 22 = .ok (.lcmp, 1) := by decide +kernel
theorem dX8_comparePrices_23 : decode cX8_comparePrices 23 = .ok (.ifCond .ne 5, 3) := by decide +kernel
theorem dX8_comparePrices_26 : decode cX8_comparePrices 26 = .ok (.iconst 1, 1) := by decide +kernel
theorem dX8_comparePrices_27 : decode cX8_comparePrices 27 = .ok (.ireturn, 1) := by decide +kernel
theorem dX8_comparePrices_28 : decode cX8_comparePrices 28 = .ok (.lload 6, 2) := by decide +kernel
theorem dX8_comparePrices_30 : decode cX8_comparePrices 30 = .ok (.lconst 0, 1) := by decide +kernel
theorem dX8_comparePrices_31 : decode cX8_comparePrices 31 = .ok (.lcmp, 1) := by decide +kernel
theorem dX8_comparePrices_32 : decode cX8_comparePrices 32 = .ok (.ifCond .ne 5, 3) := by decide +kernel
theorem dX8_comparePrices_35 : decode cX8_comparePrices 35 = .ok (.iconst (-1), 1) := by decide +kernel
theorem dX8_comparePrices_36 : decode cX8_comparePrices 36 = .ok (.ireturn, 1) := by decide +kernel
theorem dX8_comparePrices_37 : decode cX8_comparePrices 37 = .ok (.lload_n 0, 1) := by decide +kernel
theorem dX8_comparePrices_38 : decode cX8_comparePrices 38 = .ok (.lload 6, 2) := by decide +kernel
theorem dX8_comparePrices_40 : decode cX8_comparePrices 40 = .ok (.lmul, 1) := by decide +kernel
theorem dX8_comparePrices_41 : decode cX8_comparePrices 41 = .ok (.lload 4, 2) := by decide +kernel
theorem dX8_comparePrices_43 : decode cX8_comparePrices 43 = .ok (.lload_n 2, 1) := by decide +kernel
theorem dX8_comparePrices_44 : decode cX8_comparePrices 44 = .ok (.lmul, 1) := by decide +kernel
theorem dX8_comparePrices_45 : decode cX8_comparePrices 45 = .ok (.invokestatic 281, 3) := by decide +kernel
theorem dX8_comparePrices_48 : decode cX8_comparePrices 48 = .ok (.ireturn, 1) := by decide +kernel
theorem dX9_within_0 : decode cX9_within 0 = .ok (.lload_n 0, 1) := by decide +kernel
theorem dX9_within_1 : decode cX9_within 1 = .ok (.lload_n 2, 1) := by decide +kernel
theorem dX9_within_2 : decode cX9_within 2 = .ok (.lcmp, 1) := by decide +kernel
theorem dX9_within_3 : decode cX9_within 3 = .ok (.ifCond .lt 14, 3) := by decide +kernel
theorem dX9_within_6 : decode cX9_within 6 = .ok (.lload_n 0, 1) := by decide +kernel
theorem dX9_within_7 : decode cX9_within 7 = .ok (.lload 4, 2) := by decide +kernel
theorem dX9_within_9 : decode cX9_within 9 = .ok (.lcmp, 1) := by decide +kernel
theorem dX9_within_10 : decode cX9_within 10 = .ok (.ifCond .gt 7, 3) := by decide +kernel
theorem dX9_within_13 : decode cX9_within 13 = .ok (.iconst 1, 1) := by decide +kernel
theorem dX9_within_14 : decode cX9_within 14 = .ok (.goto 4, 3) := by decide +kernel
theorem dX9_within_17 : decode cX9_within 17 = .ok (.iconst 0, 1) := by decide +kernel
theorem dX9_within_18 : decode cX9_within 18 = .ok (.ireturn, 1) := by decide +kernel
theorem dX9_isWard_0 : decode cX9_isWard 0 = .ok (.iload_n 0, 1) := by decide +kernel
theorem dX9_isWard_1 : decode cX9_isWard 1 = .ok (.i2l, 1) := by decide +kernel
theorem dX9_isWard_2 : decode cX9_isWard 2 = .ok (.lconst 0, 1) := by decide +kernel
theorem dX9_isWard_3 : decode cX9_isWard 3 = .ok (.ldc2_w 5, 3) := by decide +kernel
theorem dX9_isWard_6 : decode cX9_isWard 6 = .ok (.invokestatic 7, 3) := by decide +kernel
theorem dX9_isWard_9 : decode cX9_isWard 9 = .ok (.ireturn, 1) := by decide +kernel
theorem dX9_isParty_0 : decode cX9_isParty 0 = .ok (.iload_n 0, 1) := by decide +kernel
theorem dX9_isParty_1 : decode cX9_isParty 1 = .ok (.i2l, 1) := by decide +kernel
theorem dX9_isParty_2 : decode cX9_isParty 2 = .ok (.lconst 0, 1) := by decide +kernel
theorem dX9_isParty_3 : decode cX9_isParty 3 = .ok (.ldc2_w 11, 3) := by decide +kernel
theorem dX9_isParty_6 : decode cX9_isParty 6 = .ok (.invokestatic 7, 3) := by decide +kernel
theorem dX9_isParty_9 : decode cX9_isParty 9 = .ok (.ireturn, 1) := by decide +kernel
theorem dX9_isHouse_0 : decode cX9_isHouse 0 = .ok (.iload_n 0, 1) := by decide +kernel
theorem dX9_isHouse_1 : decode cX9_isHouse 1 = .ok (.i2l, 1) := by decide +kernel
theorem dX9_isHouse_2 : decode cX9_isHouse 2 = .ok (.lconst 0, 1) := by decide +kernel
theorem dX9_isHouse_3 : decode cX9_isHouse 3 = .ok (.ldc2_w 13, 3) := by decide +kernel
theorem dX9_isHouse_6 : decode cX9_isHouse 6 = .ok (.invokestatic 7, 3) := by decide +kernel
theorem dX9_isHouse_9 : decode cX9_isHouse 9 = .ok (.ireturn, 1) := by decide +kernel
theorem dX9_init_0 : decode cX9_init 0 = .ok (.aload_n 0, 1) := by decide +kernel
theorem dX9_init_1 : decode cX9_init 1 = .ok (.invokespecial 15, 3) := by decide +kernel
theorem dX9_init_4 : decode cX9_init 4 = .ok (.aload_n 0, 1) := by decide +kernel
theorem dX9_init_5 : decode cX9_init 5 = .ok (.bipush 44, 2) := by decide +kernel
theorem dX9_init_7 : decode cX9_init 7 = .ok (.newarray .int, 2) := by decide +kernel
theorem dX9_init_9 : decode cX9_init 9 = .ok (.putfield 21, 3) := by decide +kernel
theorem dX9_init_12 : decode cX9_init 12 = .ok (.aload_n 0, 1) := by decide +kernel
theorem dX9_init_13 : decode cX9_init 13 = .ok (.bipush 44, 2) := by decide +kernel
theorem dX9_init_15 : decode cX9_init 15 = .ok (.newarray .int, 2) := by decide +kernel
theorem dX9_init_17 : decode cX9_init 17 = .ok (.putfield 25, 3) := by decide +kernel
theorem dX9_init_20 : decode cX9_init 20 = .ok (.aload_n 0, 1) := by decide +kernel
theorem dX9_init_21 : decode cX9_init 21 = .ok (.bipush 120, 2) := by decide +kernel
theorem dX9_init_23 : decode cX9_init 23 = .ok (.newarray .int, 2) := by decide +kernel
theorem dX9_init_25 : decode cX9_init 25 = .ok (.putfield 28, 3) := by decide +kernel
theorem dX9_init_28 : decode cX9_init 28 = .ok (.aload_n 0, 1) := by decide +kernel
theorem dX9_init_29 : decode cX9_init 29 = .ok (.bipush 24, 2) := by decide +kernel
theorem dX9_init_31 : decode cX9_init 31 = .ok (.newarray .int, 2) := by decide +kernel
theorem dX9_init_33 : decode cX9_init 33 = .ok (.putfield 31, 3) := by decide +kernel
theorem dX9_init_36 : decode cX9_init 36 = .ok (.aload_n 0, 1) := by decide +kernel
theorem dX9_init_37 : decode cX9_init 37 = .ok (.bipush 6, 2) := by decide +kernel
theorem dX9_init_39 : decode cX9_init 39 = .ok (.newarray .boolean, 2) := by decide +kernel
theorem dX9_init_41 : decode cX9_init 41 = .ok (.putfield 34, 3) := by decide +kernel
theorem dX9_init_44 : decode cX9_init 44 = .ok (.aload_n 0, 1) := by decide +kernel
theorem dX9_init_45 : decode cX9_init 45 = .ok (.bipush 6, 2) := by decide +kernel
theorem dX9_init_47 : decode cX9_init 47 = .ok (.newarray .int, 2) := by decide +kernel
theorem dX9_init_49 : decode cX9_init 49 = .ok (.putfield 38, 3) := by decide +kernel
theorem dX9_init_52 : decode cX9_init 52 = .ok (.aload_n 0, 1) := by decide +kernel
theorem dX9_init_53 : decode cX9_init 53 = .ok (.bipush 6, 2) := by decide +kernel
theorem dX9_init_55 : decode cX9_init 55 = .ok (.newarray .int, 2) := by decide +kernel
theorem dX9_init_57 : decode cX9_init 57 = .ok (.putfield 41, 3) := by decide +kernel
theorem dX9_init_60 : decode cX9_init 60 = .ok (.aload_n 0, 1) := by decide +kernel
theorem dX9_init_61 : decode cX9_init 61 = .ok (.bipush 6, 2) := by decide +kernel
theorem dX9_init_63 : decode cX9_init 63 = .ok (.newarray .int, 2) := by decide +kernel
theorem dX9_init_65 : decode cX9_init 65 = .ok (.putfield 44, 3) := by decide +kernel
theorem dX9_init_68 : decode cX9_init 68 = .ok (.aload_n 0, 1) := by decide +kernel
theorem dX9_init_69 : decode cX9_init 69 = .ok (.bipush 60, 2) := by decide +kernel
theorem dX9_init_71 : decode cX9_init 71 = .ok (.newarray .int, 2) := by decide +kernel
theorem dX9_init_73 : decode cX9_init 73 = .ok (.putfield 47, 3) := by decide +kernel
theorem dX9_init_76 : decode cX9_init 76 = .ok (.aload_n 0, 1) := by decide +kernel
theorem dX9_init_77 : decode cX9_init 77 = .ok (.bipush 6, 2) := by decide +kernel
theorem dX9_init_79 : decode cX9_init 79 = .ok (.newarray .long, 2) := by decide +kernel
theorem dX9_init_81 : decode cX9_init 81 = .ok (.putfield 50, 3) := by decide +kernel
theorem dX9_init_84 : decode cX9_init 84 = .ok (.aload_n 0, 1) := by decide +kernel
theorem dX9_init_85 : decode cX9_init 85 = .ok (.bipush 6, 2) := by decide +kernel
theorem dX9_init_87 : decode cX9_init 87 = .ok (.newarray .boolean, 2) := by decide +kernel
theorem dX9_init_89 : decode cX9_init 89 = .ok (.putfield 54, 3) := by decide +kernel
theorem dX9_init_92 : decode cX9_init 92 = .ok (.aload_n 0, 1) := by decide +kernel
theorem dX9_init_93 : decode cX9_init 93 = .ok (.bipush 6, 2) := by decide +kernel
theorem dX9_init_95 : decode cX9_init 95 = .ok (.newarray .boolean, 2) := by decide +kernel
theorem dX9_init_97 : decode cX9_init 97 = .ok (.putfield 57, 3) := by decide +kernel
theorem dX9_init_100 : decode cX9_init 100 = .ok (.aload_n 0, 1) := by decide +kernel
theorem dX9_init_101 : decode cX9_init 101 = .ok (.bipush 6, 2) := by decide +kernel
theorem dX9_init_103 : decode cX9_init 103 = .ok (.newarray .int, 2) := by decide +kernel
theorem dX9_init_105 : decode cX9_init 105 = .ok (.putfield 60, 3) := by decide +kernel
theorem dX9_init_108 : decode cX9_init 108 = .ok (.aload_n 0, 1) := by decide +kernel
theorem dX9_init_109 : decode cX9_init 109 = .ok (.bipush 6, 2) := by decide +kernel
theorem dX9_init_111 : decode cX9_init 111 = .ok (.newarray .int, 2) := by decide +kernel
theorem dX9_init_113 : decode cX9_init 113 = .ok (.putfield 63, 3) := by decide +kernel
theorem dX9_init_116 : decode cX9_init 116 = .ok (.aload_n 0, 1) := by decide +kernel
theorem dX9_init_117 : decode cX9_init 117 = .ok (.bipush 6, 2) := by decide +kernel
theorem dX9_init_119 : decode cX9_init 119 = .ok (.newarray .int, 2) := by decide +kernel
theorem dX9_init_121 : decode cX9_init 121 = .ok (.putfield 66, 3) := by decide +kernel
theorem dX9_init_124 : decode cX9_init 124 = .ok (.aload_n 0, 1) := by decide +kernel
theorem dX9_init_125 : decode cX9_init 125 = .ok (.bipush 6, 2) := by decide +kernel
theorem dX9_init_127 : decode cX9_init 127 = .ok (.newarray .int, 2) := by decide +kernel
theorem dX9_init_129 : decode cX9_init 129 = .ok (.putfield 69, 3) := by decide +kernel
theorem dX9_init_132 : decode cX9_init 132 = .ok (.aload_n 0, 1) := by decide +kernel
theorem dX9_init_133 : decode cX9_init 133 = .ok (.bipush 60, 2) := by decide +kernel
theorem dX9_init_135 : decode cX9_init 135 = .ok (.newarray .int, 2) := by decide +kernel
theorem dX9_init_137 : decode cX9_init 137 = .ok (.putfield 72, 3) := by decide +kernel
theorem dX9_init_140 : decode cX9_init 140 = .ok (.aload_n 0, 1) := by decide +kernel
theorem dX9_init_141 : decode cX9_init 141 = .ok (.bipush 6, 2) := by decide +kernel
theorem dX9_init_143 : decode cX9_init 143 = .ok (.newarray .int, 2) := by decide +kernel
theorem dX9_init_145 : decode cX9_init 145 = .ok (.putfield 75, 3) := by decide +kernel
theorem dX9_init_148 : decode cX9_init 148 = .ok (.aload_n 0, 1) := by decide +kernel
theorem dX9_init_149 : decode cX9_init 149 = .ok (.bipush 96, 2) := by decide +kernel
theorem dX9_init_151 : decode cX9_init 151 = .ok (.newarray .int, 2) := by decide +kernel
theorem dX9_init_153 : decode cX9_init 153 = .ok (.putfield 78, 3) := by decide +kernel
theorem dX9_init_156 : decode cX9_init 156 = .ok (.aload_n 0, 1) := by decide +kernel
theorem dX9_init_157 : decode cX9_init 157 = .ok (.iconst 4, 1) := by decide +kernel
theorem dX9_init_158 : decode cX9_init 158 = .ok (.newarray .int, 2) := by decide +kernel
theorem dX9_init_160 : decode cX9_init 160 = .ok (.putfield 81, 3) := by decide +kernel
theorem dX9_init_163 : decode cX9_init 163 = .ok (.aload_n 0, 1) := by decide +kernel
theorem dX9_init_164 : decode cX9_init 164 = .ok (.bipush 6, 2) := by decide +kernel
theorem dX9_init_166 : decode cX9_init 166 = .ok (.newarray .int, 2) := by decide +kernel
theorem dX9_init_168 : decode cX9_init 168 = .ok (.putfield 84, 3) := by decide +kernel
theorem dX9_init_171 : decode cX9_init 171 = .ok (.aload_n 0, 1) := by decide +kernel
theorem dX9_init_172 : decode cX9_init 172 = .ok (.bipush 6, 2) := by decide +kernel
theorem dX9_init_174 : decode cX9_init 174 = .ok (.newarray .int, 2) := by decide +kernel
theorem dX9_init_176 : decode cX9_init 176 = .ok (.putfield 87, 3) := by decide +kernel
theorem dX9_init_179 : decode cX9_init 179 = .ok (.aload_n 0, 1) := by decide +kernel
theorem dX9_init_180 : decode cX9_init 180 = .ok (.bipush 24, 2) := by decide +kernel
theorem dX9_init_182 : decode cX9_init 182 = .ok (.newarray .int, 2) := by decide +kernel
theorem dX9_init_184 : decode cX9_init 184 = .ok (.putfield 90, 3) := by decide +kernel
theorem dX9_init_187 : decode cX9_init 187 = .ok (.aload_n 0, 1) := by decide +kernel
theorem dX9_init_188 : decode cX9_init 188 = .ok (.iconst 4, 1) := by decide +kernel
theorem dX9_init_189 : decode cX9_init 189 = .ok (.newarray .int, 2) := by decide +kernel
theorem dX9_init_191 : decode cX9_init 191 = .ok (.putfield 93, 3) := by decide +kernel
theorem dX9_init_194 : decode cX9_init 194 = .ok (.aload_n 0, 1) := by decide +kernel
theorem dX9_init_195 : decode cX9_init 195 = .ok (.iconst 4, 1) := by decide +kernel
theorem dX9_init_196 : decode cX9_init 196 = .ok (.newarray .int, 2) := by decide +kernel
theorem dX9_init_198 : decode cX9_init 198 = .ok (.putfield 96, 3) := by decide +kernel
theorem dX9_init_201 : decode cX9_init 201 = .ok (.aload_n 0, 1) := by decide +kernel
theorem dX9_init_202 : decode cX9_init 202 = .ok (.sipush 160, 3) := by decide +kernel
theorem dX9_init_205 : decode cX9_init 205 = .ok (.newarray .int, 2) := by decide +kernel
theorem dX9_init_207 : decode cX9_init 207 = .ok (.putfield 99, 3) := by decide +kernel
theorem dX9_init_210 : decode cX9_init 210 = .ok (.aload_n 0, 1) := by decide +kernel
theorem dX9_init_211 : decode cX9_init 211 = .ok (.iconst 4, 1) := by decide +kernel
theorem dX9_init_212 : decode cX9_init 212 = .ok (.newarray .int, 2) := by decide +kernel
theorem dX9_init_214 : decode cX9_init 214 = .ok (.dup, 1) := by decide +kernel
theorem dX9_init_215 : decode cX9_init 215 = .ok (.iconst 0, 1) := by decide +kernel
theorem dX9_init_216 : decode cX9_init 216 = .ok (.iconst (-1), 1) := by decide +kernel
theorem dX9_init_217 : decode cX9_init 217 = .ok (.iastore, 1) := by decide +kernel
theorem dX9_init_218 : decode cX9_init 218 = .ok (.dup, 1) := by decide +kernel
theorem dX9_init_219 : decode cX9_init 219 = .ok (.iconst 1, 1) := by decide +kernel
theorem dX9_init_220 : decode cX9_init 220 = .ok (.iconst (-1), 1) := by decide +kernel
theorem dX9_init_221 : decode cX9_init 221 = .ok (.iastore, 1) := by decide +kernel
theorem dX9_init_222 : decode cX9_init 222 = .ok (.dup, 1) := by decide +kernel
theorem dX9_init_223 : decode cX9_init 223 = .ok (.iconst 2, 1) := by decide +kernel
theorem dX9_init_224 : decode cX9_init 224 = .ok (.iconst (-1), 1) := by decide +kernel
theorem dX9_init_225 : decode cX9_init 225 = .ok (.iastore, 1) := by decide +kernel
theorem dX9_init_226 : decode cX9_init 226 = .ok (.dup, 1) := by decide +kernel
theorem dX9_init_227 : decode cX9_init 227 = .ok (.iconst 3, 1) := by decide +kernel
theorem dX9_init_228 : decode cX9_init 228 = .ok (.iconst (-1), 1) := by decide +kernel
theorem dX9_init_229 : decode cX9_init 229 = .ok (.iastore, 1) := by decide +kernel
theorem dX9_init_230 : decode cX9_init 230 = .ok (.putfield 102, 3) := by decide +kernel
theorem dX9_init_233 : decode cX9_init 233 = .ok (.aload_n 0, 1) := by decide +kernel
theorem dX9_init_234 : decode cX9_init 234 = .ok (.bipush 24, 2) := by decide +kernel
theorem dX9_init_236 : decode cX9_init 236 = .ok (.newarray .int, 2) := by decide +kernel
theorem dX9_init_238 : decode cX9_init 238 = .ok (.putfield 105, 3) := by decide +kernel
theorem dX9_init_241 : decode cX9_init 241 = .ok (.iconst 0, 1) := by decide +kernel
theorem dX9_init_242 : decode cX9_init 242 = .ok (.istore_n 1, 1) := by decide +kernel
theorem dX9_init_243 : decode cX9_init 243 = .ok (.iload_n 1, 1) := by decide +kernel
theorem dX9_init_244 : decode cX9_init 244 = .ok (.bipush 6, 2) := by decide +kernel
theorem dX9_init_246 : decode cX9_init 246 = .ok (.if_icmp .ge 19, 3) := by decide +kernel
theorem dX9_init_249 : decode cX9_init 249 = .ok (.aload_n 0, 1) := by decide +kernel
theorem dX9_init_250 : decode cX9_init 250 = .ok (.getfield 21, 3) := by decide +kernel
theorem dX9_init_253 : decode cX9_init 253 = .ok (.bipush 34, 2) := by decide +kernel
theorem dX9_init_255 : decode cX9_init 255 = .ok (.iload_n 1, 1) := by decide +kernel
theorem dX9_init_256 : decode cX9_init 256 = .ok (.iadd, 1) := by decide +kernel
theorem dX9_init_257 : decode cX9_init 257 = .ok (.iload_n 1, 1) := by decide +kernel
theorem dX9_init_258 : decode cX9_init 258 = .ok (.iastore, 1) := by decide +kernel
theorem dX9_init_259 : decode cX9_init 259 = .ok (.iinc 1 1, 3) := by decide +kernel
theorem dX9_init_262 : decode cX9_init 262 = .ok (.goto (-19), 3) := by decide +kernel
theorem dX9_init_265 : decode cX9_init 265 = .ok (.aload_n 0, 1) := by decide +kernel
theorem dX9_init_266 : decode cX9_init 266 = .ok (.getfield 21, 3) := by decide +kernel
theorem dX9_init_269 : decode cX9_init 269 = .ok (.bipush 42, 2) := by decide +kernel
theorem dX9_init_271 : decode cX9_init 271 = .ok (.iconst 1, 1) := by decide +kernel
theorem dX9_init_272 : decode cX9_init 272 = .ok (.iastore, 1) := by decide +kernel
theorem dX9_init_273 : decode cX9_init 273 = .ok (.aload_n 0, 1) := by decide +kernel
theorem dX9_init_274 : decode cX9_init 274 = .ok (.getfield 21, 3) := by decide +kernel
theorem dX9_init_277 : decode cX9_init 277 = .ok (.bipush 43, 2) := by decide +kernel
theorem dX9_init_279 : decode cX9_init 279 = .ok (.iconst 2, 1) := by decide +kernel
theorem dX9_init_280 : decode cX9_init 280 = .ok (.iastore, 1) := by decide +kernel
theorem dX9_init_281 : decode cX9_init 281 = .ok (.return_, 1) := by decide +kernel
theorem dX9_tells_0 : decode cX9_tells 0 = .ok (.aload_n 0, 1) := by decide +kernel
theorem dX9_tells_1 : decode cX9_tells 1 = .ok (.getfield 21, 3) := by decide +kernel
theorem dX9_tells_4 : decode cX9_tells 4 = .ok (.iload_n 1, 1) := by decide +kernel
theorem dX9_tells_5 : decode cX9_tells 5 = .ok (.iaload, 1) := by decide +kernel
theorem dX9_tells_6 : decode cX9_tells 6 = .ok (.istore_n 3, 1) := by decide +kernel
theorem dX9_tells_7 : decode cX9_tells 7 = .ok (.aload_n 0, 1) := by decide +kernel
theorem dX9_tells_8 : decode cX9_tells 8 = .ok (.getfield 21, 3) := by decide +kernel
theorem dX9_tells_11 : decode cX9_tells 11 = .ok (.iload_n 1, 1) := by decide +kernel
theorem dX9_tells_12 : decode cX9_tells 12 = .ok (.iload_n 2, 1) := by decide +kernel
theorem dX9_tells_13 : decode cX9_tells 13 = .ok (.iastore, 1) := by decide +kernel
theorem dX9_tells_14 : decode cX9_tells 14 = .ok (.aload_n 0, 1) := by decide +kernel
theorem dX9_tells_15 : decode cX9_tells 15 = .ok (.iconst 0, 1) := by decide +kernel
theorem dX9_tells_16 : decode cX9_tells 16 = .ok (.putfield 108, 3) := by decide +kernel
theorem dX9_tells_19 : decode cX9_tells 19 = .ok (.iload_n 3, 1) := by decide +kernel
theorem dX9_tells_20 : decode cX9_tells 20 = .ok (.ireturn, 1) := by decide +kernel
theorem dX9_votesOf_0 : decode cX9_votesOf 0 = .ok (.aload_n 0, 1) := by decide +kernel
theorem dX9_votesOf_1 : decode cX9_votesOf 1 = .ok (.getfield 21, 3) := by decide +kernel
theorem dX9_votesOf_4 : decode cX9_votesOf 4 = .ok (.bipush 6, 2) := by decide +kernel
theorem dX9_votesOf_6 : decode cX9_votesOf 6 = .ok (.iload_n 1, 1) := by decide +kernel
theorem dX9_votesOf_7 : decode cX9_votesOf 7 = .ok (.imul, 1) := by decide +kernel
theorem dX9_votesOf_8 : decode cX9_votesOf 8 = .ok (.iload_n 2, 1) := by decide +kernel
theorem dX9_votesOf_9 : decode cX9_votesOf 9 = .ok (.iadd, 1) := by decide +kernel
theorem dX9_votesOf_10 : decode cX9_votesOf 10 = .ok (.iaload, 1) := by decide +kernel
theorem dX9_votesOf_11 : decode cX9_votesOf 11 = .ok (.ireturn, 1) := by decide +kernel
theorem dX9_total_0 : decode cX9_total 0 = .ok (.iconst 0, 1) := by decide +kernel
theorem dX9_total_1 : decode cX9_total 1 = .ok (.istore_n 2, 1) := by decide +kernel
theorem dX9_total_2 : decode cX9_total 2 = .ok (.iconst 0, 1) := by decide +kernel
theorem dX9_total_3 : decode cX9_total 3 = .ok (.istore_n 3, 1) := by decide +kernel
theorem dX9_total_4 : decode cX9_total 4 = .ok (.iload_n 3, 1) := by decide +kernel
theorem dX9_total_5 : decode cX9_total 5 = .ok (.iconst 4, 1) := by decide +kernel
theorem dX9_total_6 : decode cX9_total 6 = .ok (.if_icmp .ge 18, 3) := by decide +kernel
theorem dX9_total_9 : decode cX9_total 9 = .ok (.iload_n 2, 1) := by decide +kernel
theorem dX9_total_10 : decode cX9_total 10 = .ok (.aload_n 0, 1) := by decide +kernel
theorem dX9_total_11 : decode cX9_total 11 = .ok (.iload_n 3, 1) := by decide +kernel
theorem dX9_total_12 : decode cX9_total 12 = .ok (.iload_n 1, 1) := by decide +kernel
theorem dX9_total_13 : decode cX9_total 13 = .ok (.invokevirtual 112, 3) := by decide +kernel
theorem dX9_total_16 : decode cX9_total 16 = .ok (.iadd, 1) := by decide +kernel
theorem dX9_total_17 : decode cX9_total 17 = .ok (.istore_n 2, 1) := by decide +kernel
theorem dX9_total_18 : decode cX9_total 18 = .ok (.iinc 3 1, 3) := by decide +kernel
theorem dX9_total_21 : decode cX9_total 21 = .ok (.goto (-17), 3) := by decide +kernel
theorem dX9_total_24 : decode cX9_total 24 = .ok (.iload_n 2, 1) := by decide +kernel
theorem dX9_total_25 : decode cX9_total 25 = .ok (.ireturn, 1) := by decide +kernel
theorem dX9_ofWard_0 : decode cX9_ofWard 0 = .ok (.iconst 0, 1) := by decide +kernel
theorem dX9_ofWard_1 : decode cX9_ofWard 1 = .ok (.istore_n 2, 1) := by decide +kernel
theorem dX9_ofWard_2 : decode cX9_ofWard 2 = .ok (.iconst 0, 1) := by decide +kernel
theorem dX9_ofWard_3 : decode cX9_ofWard 3 = .ok (.istore_n 3, 1) := by decide +kernel
theorem dX9_ofWard_4 : decode cX9_ofWard 4 = .ok (.iload_n 3, 1) := by decide +kernel
theorem dX9_ofWard_5 : decode cX9_ofWard 5 = .ok (.bipush 6, 2) := by decide +kernel
theorem dX9_ofWard_7 : decode cX9_ofWard 7 = .ok (.if_icmp .ge 18, 3) := by decide +kernel
theorem dX9_ofWard_10 : decode cX9_ofWard 10 = .ok (.iload_n 2, 1) := by decide +kernel
theorem dX9_ofWard_11 : decode cX9_ofWard 11 = .ok (.aload_n 0, 1) := by decide +kernel
theorem dX9_ofWard_12 : decode cX9_ofWard 12 = .ok (.iload_n 1, 1) := by decide +kernel
theorem dX9_ofWard_13 : decode cX9_ofWard 13 = .ok (.iload_n 3, 1) := by decide +kernel
theorem dX9_ofWard_14 : decode cX9_ofWard 14 = .ok (.invokevirtual 112, 3) := by decide +kernel
theorem dX9_ofWard_17 : decode cX9_ofWard 17 = .ok (.iadd, 1) := by decide +kernel
theorem dX9_ofWard_18 : decode cX9_ofWard 18 = .ok (.istore_n 2, 1) := by decide +kernel
theorem dX9_ofWard_19 : decode cX9_ofWard 19 = .ok (.iinc 3 1, 3) := by decide +kernel
theorem dX9_ofWard_22 : decode cX9_ofWard 22 = .ok (.goto (-18), 3) := by decide +kernel
theorem dX9_ofWard_25 : decode cX9_ofWard 25 = .ok (.iload_n 2, 1) := by decide +kernel
theorem dX9_ofWard_26 : decode cX9_ofWard 26 = .ok (.ireturn, 1) := by decide +kernel
theorem dX9_all_0 : decode cX9_all 0 = .ok (.iconst 0, 1) := by decide +kernel
theorem dX9_all_1 : decode cX9_all 1 = .ok (.istore_n 1, 1) := by decide +kernel
theorem dX9_all_2 : decode cX9_all 2 = .ok (.iconst 0, 1) := by decide +kernel
theorem dX9_all_3 : decode cX9_all 3 = .ok (.istore_n 2, 1) := by decide +kernel
theorem dX9_all_4 : decode cX9_all 4 = .ok (.iload_n 2, 1) := by decide +kernel
theorem dX9_all_5 : decode cX9_all 5 = .ok (.iconst 4, 1) := by decide +kernel
theorem dX9_all_6 : decode cX9_all 6 = .ok (.if_icmp .ge 17, 3) := by decide +kernel
theorem dX9_all_9 : decode cX9_all 9 = .ok (.iload_n 1, 1) := by decide +kernel
theorem dX9_all_10 : decode cX9_all 10 = .ok (.aload_n 0, 1) := by decide +kernel
theorem dX9_all_11 : decode cX9_all 11 = .ok (.iload_n 2, 1) := by decide +kernel
theorem dX9_all_12 : decode cX9_all 12 = .ok (.invokevirtual 116, 3) := by decide +kernel
theorem dX9_all_15 : decode cX9_all 15 = .ok (.iadd, 1) := by decide +kernel
theorem dX9_all_16 : decode cX9_all 16 = .ok (.istore_n 1, 1) := by decide +kernel
theorem dX9_all_17 : decode cX9_all 17 = .ok (.iinc 2 1, 3) := by decide +kernel
theorem dX9_all_20 : decode cX9_all 20 = .ok (.goto (-16), 3) := by decide +kernel
theorem dX9_all_23 : decode cX9_all 23 = .ok (.iload_n 1, 1) := by decide +kernel
theorem dX9_all_24 : decode cX9_all 24 = .ok (.ireturn, 1) := by decide +kernel
theorem dX9_wayNow_0 : decode cX9_wayNow 0 = .ok (.aload_n 0, 1) := by decide +kernel
theorem dX9_wayNow_1 : decode cX9_wayNow 1 = .ok (.getfield 21, 3) := by decide +kernel
theorem dX9_wayNow_4 : decode cX9_wayNow 4 = .ok (.bipush 41, 2) := by decide +kernel
theorem dX9_wayNow_6 : decode cX9_wayNow 6 = .ok (.iaload, 1) := by decide +kernel
theorem dX9_wayNow_7 : decode cX9_wayNow 7 = .ok (.ireturn, 1) := by decide +kernel
theorem dX9_seatsOf_0 : decode cX9_seatsOf 0 = .ok (.aload_n 0, 1) := by decide +kernel
theorem dX9_seatsOf_1 : decode cX9_seatsOf 1 = .ok (.getfield 21, 3) := by decide +kernel
theorem dX9_seatsOf_4 : decode cX9_seatsOf 4 = .ok (.bipush 24, 2) := by decide +kernel
theorem dX9_seatsOf_6 : decode cX9_seatsOf 6 = .ok (.iload_n 1, 1) := by decide +kernel
theorem dX9_seatsOf_7 : decode cX9_seatsOf 7 = .ok (.iadd, 1) := by decide +kernel
theorem dX9_seatsOf_8 : decode cX9_seatsOf 8 = .ok (.iaload, 1) := by decide +kernel
theorem dX9_seatsOf_9 : decode cX9_seatsOf 9 = .ok (.ireturn, 1) := by decide +kernel
theorem dX9_leastOf_0 : decode cX9_leastOf 0 = .ok (.aload_n 0, 1) := by decide +kernel
theorem dX9_leastOf_1 : decode cX9_leastOf 1 = .ok (.getfield 21, 3) := by decide +kernel
theorem dX9_leastOf_4 : decode cX9_leastOf 4 = .ok (.bipush 28, 2) := by decide +kernel
theorem dX9_leastOf_6 : decode cX9_leastOf 6 = .ok (.iload_n 1, 1) := by decide +kernel
theorem dX9_leastOf_7 : decode cX9_leastOf 7 = .ok (.iadd, 1) := by decide +kernel
theorem dX9_leastOf_8 : decode cX9_leastOf 8 = .ok (.iaload, 1) := by decide +kernel
theorem dX9_leastOf_9 : decode cX9_leastOf 9 = .ok (.ireturn, 1) := by decide +kernel
theorem dX9_listOf_0 : decode cX9_listOf 0 = .ok (.aload_n 0, 1) := by decide +kernel
theorem dX9_listOf_1 : decode cX9_listOf 1 = .ok (.getfield 21, 3) := by decide +kernel
theorem dX9_listOf_4 : decode cX9_listOf 4 = .ok (.bipush 34, 2) := by decide +kernel
theorem dX9_listOf_6 : decode cX9_listOf 6 = .ok (.iload_n 1, 1) := by decide +kernel
theorem dX9_listOf_7 : decode cX9_listOf 7 = .ok (.iadd, 1) := by decide +kernel
theorem dX9_listOf_8 : decode cX9_listOf 8 = .ok (.iaload, 1) := by decide +kernel
theorem dX9_listOf_9 : decode cX9_listOf 9 = .ok (.ireturn, 1) := by decide +kernel
theorem dX9_isIn_0 : decode cX9_isIn 0 = .ok (.aload_n 0, 1) := by decide +kernel
theorem dX9_isIn_1 : decode cX9_isIn 1 = .ok (.iload_n 1, 1) := by decide +kernel
theorem dX9_isIn_2 : decode cX9_isIn 2 = .ok (.invokevirtual 120, 3) := by decide +kernel
theorem dX9_isIn_5 : decode cX9_isIn 5 = .ok (.i2l, 1) := by decide +kernel
theorem dX9_isIn_6 : decode cX9_isIn 6 = .ok (.lstore_n 2, 1) := by decide +kernel
theorem dX9_isIn_7 : decode cX9_isIn 7 = .ok (.lload_n 2, 1) := by decide +kernel
theorem dX9_isIn_8 : decode cX9_isIn 8 = .ok (.lconst 0, 1) := by decide +kernel
theorem dX9_isIn_9 : decode cX9_isIn 9 = .ok (.lcmp, 1) := by decide +kernel
theorem dX9_isIn_10 : decode cX9_isIn 10 = .ok (.ifCond .le 30, 3) := by decide +kernel
theorem dX9_isIn_13 : decode cX9_isIn 13 = .ok (.ldc2_w 123, 3) := by decide +kernel
theorem dX9_isIn_16 : decode cX9_isIn 16 = .ok (.lload_n 2, 1) := by decide +kernel
theorem dX9_isIn_17 : decode cX9_isIn 17 = .ok (.lmul, 1) := by decide +kernel
theorem dX9_isIn_18 : decode cX9_isIn 18 = .ok (.aload_n 0, 1) := by decide +kernel
theorem dX9_isIn_19 : decode cX9_isIn 19 = .ok (.getfield 21, 3) := by decide +kernel
theorem dX9_isIn_22 : decode cX9_isIn 22 = .ok (.bipush 40, 2) := by decide +kernel
theorem dX9_isIn_24 : decode cX9_isIn 24 = .ok (.iaload, 1) := by decide +kernel
theorem dX9_isIn_25 : decode cX9_isIn 25 = .ok (.i2l, 1) := by decide +kernel
theorem dX9_isIn_26 : decode cX9_isIn 26 = .ok (.aload_n 0, 1) := by decide +kernel
theorem dX9_isIn_27 : decode cX9_isIn 27 = .ok (.invokevirtual 125, 3) := by decide +kernel
theorem dX9_isIn_30 : decode cX9_isIn 30 = .ok (.i2l, 1) := by decide +kernel
theorem dX9_isIn_31 : decode cX9_isIn 31 = .ok (.lmul, 1) := by decide +kernel
theorem dX9_isIn_32 : decode cX9_isIn 32 = .ok (.lcmp, 1) := by decide +kernel
theorem dX9_isIn_33 : decode cX9_isIn 33 = .ok (.ifCond .lt 7, 3) := by decide +kernel
theorem dX9_isIn_36 : decode cX9_isIn 36 = .ok (.iconst 1, 1) := by decide +kernel
theorem dX9_isIn_37 : decode cX9_isIn 37 = .ok (.goto 4, 3) := by decide +kernel
theorem dX9_isIn_40 : decode cX9_isIn 40 = .ok (.iconst 0, 1) := by decide +kernel
theorem dX9_isIn_41 : decode cX9_isIn 41 = .ok (.ireturn, 1) := by decide +kernel
theorem dX9_vote_0 : decode cX9_vote 0 = .ok (.iload_n 1, 1) := by decide +kernel
theorem dX9_vote_1 : decode cX9_vote 1 = .ok (.invokestatic 129, 3) := by decide +kernel
theorem dX9_vote_4 : decode cX9_vote 4 = .ok (.ifCond .eq 10, 3) := by decide +kernel
theorem dX9_vote_7 : decode cX9_vote 7 = .ok (.iload_n 2, 1) := by decide +kernel
theorem dX9_vote_8 : decode cX9_vote 8 = .ok (.invokestatic 133, 3) := by decide +kernel
theorem dX9_vote_11 : decode cX9_vote 11 = .ok (.ifCond .ne 5, 3) := by decide +kernel
theorem dX9_vote_14 : decode cX9_vote 14 = .ok (.iconst (-1), 1) := by decide +kernel
theorem dX9_vote_15 : decode cX9_vote 15 = .ok (.ireturn, 1) := by decide +kernel
theorem dX9_vote_16 : decode cX9_vote 16 = .ok (.iload_n 3, 1) := by decide +kernel
theorem dX9_vote_17 : decode cX9_vote 17 = .ok (.i2l, 1) := by decide +kernel
theorem dX9_vote_18 : decode cX9_vote 18 = .ok (.lconst 0, 1) := by decide +kernel
theorem dX9_vote_19 : decode cX9_vote 19 = .ok (.ldc2_w 136, 3) := by decide +kernel
theorem dX9_vote_22 : decode cX9_vote 22 = .ok (.invokestatic 7, 3) := by decide +kernel
theorem dX9_vote_25 : decode cX9_vote 25 = .ok (.ifCond .eq 17, 3) := by decide +kernel
theorem dX9_vote_28 : decode cX9_vote 28 = .ok (.aload_n 0, 1) := by decide +kernel
theorem dX9_vote_29 : decode cX9_vote 29 = .ok (.bipush 6, 2) := by decide +kernel
theorem dX9_vote_31 : decode cX9_vote 31 = .ok (.iload_n 1, 1) := by decide +kernel
theorem dX9_vote_32 : decode cX9_vote 32 = .ok (.imul, 1) := by decide +kernel
theorem dX9_vote_33 : decode cX9_vote 33 = .ok (.iload_n 2, 1) := by decide +kernel
theorem dX9_vote_34 : decode cX9_vote 34 = .ok (.iadd, 1) := by decide +kernel
theorem dX9_vote_35 : decode cX9_vote 35 = .ok (.iload_n 3, 1) := by decide +kernel
theorem dX9_vote_36 : decode cX9_vote 36 = .ok (.invokevirtual 138, 3) := by decide +kernel
theorem dX9_vote_39 : decode cX9_vote 39 = .ok (.goto 5, 3) := by decide +kernel
theorem dX9_vote_42 : decode cX9_vote 42 = .ok (.bipush (-2), 2) := by decide +kernel
theorem dX9_vote_44 : decode cX9_vote 44 = .ok (.ireturn, 1) := by decide +kernel
theorem dX9_votes_0 : decode cX9_votes 0 = .ok (.iload_n 1, 1) := by decide +kernel
theorem dX9_votes_1 : decode cX9_votes 1 = .ok (.iconst (-1), 1) := by decide +kernel
theorem dX9_votes_2 : decode cX9_votes 2 = .ok (.if_icmp .eq 10, 3) := by decide +kernel
theorem dX9_votes_5 : decode cX9_votes 5 = .ok (.iload_n 1, 1) := by decide +kernel
theorem dX9_votes_6 : decode cX9_votes 6 = .ok (.invokestatic 129, 3) := by decide +kernel
theorem dX9_votes_9 : decode cX9_votes 9 = .ok (.ifCond .eq 15, 3) := by decide +kernel
theorem dX9_votes_12 : decode cX9_votes 12 = .ok (.iload_n 2, 1) := by decide +kernel
theorem dX9_votes_13 : decode cX9_votes 13 = .ok (.iconst (-1), 1) := by decide +kernel
theorem dX9_votes_14 : decode cX9_votes 14 = .ok (.if_icmp .eq 12, 3) := by decide +kernel
theorem dX9_votes_17 : decode cX9_votes 17 = .ok (.iload_n 2, 1) := by decide +kernel
theorem dX9_votes_18 : decode cX9_votes 18 = .ok (.invokestatic 133, 3) := by decide +kernel
theorem dX9_votes_21 : decode cX9_votes 21 = .ok (.ifCond .ne 5, 3) := by decide +kernel
theorem dX9_votes_24 : decode cX9_votes 24 = .ok (.iconst (-1), 1) := by decide +kernel
theorem dX9_votes_25 : decode cX9_votes 25 = .ok (.ireturn, 1) := by decide +kernel
theorem dX9_votes_26 : decode cX9_votes 26 = .ok (.iload_n 1, 1) := by decide +kernel
theorem dX9_votes_27 : decode cX9_votes 27 = .ok (.iconst (-1), 1) := by decide +kernel
theorem dX9_votes_28 : decode cX9_votes 28 = .ok (.if_icmp .ne 21, 3) := by decide +kernel
theorem dX9_votes_31 : decode cX9_votes 31 = .ok (.iload_n 2, 1) := by decide +kernel
theorem dX9_votes_32 : decode cX9_votes 32 = .ok (.iconst (-1), 1) := by decide +kernel
theorem dX9_votes_33 : decode cX9_votes 33 = .ok (.if_icmp .ne 10, 3) := by decide +kernel
theorem dX9_votes_36 : decode cX9_votes 36 = .ok (.aload_n 0, 1) := by decide +kernel
theorem dX9_votes_37 : decode cX9_votes 37 = .ok (.invokevirtual 125, 3) := by decide +kernel
theorem dX9_votes_40 : decode cX9_votes 40 = .ok (.goto 8, 3) := by decide +kernel
theorem dX9_votes_43 : decode cX9_votes 43 = .ok (.aload_n 0, 1) := by decide +kernel
theorem dX9_votes_44 : decode cX9_votes 44 = .ok (.iload_n 2, 1) := by decide +kernel
theorem dX9_votes_45 : decode cX9_votes 45 = .ok (.invokevirtual 120, 3) := by decide +kernel
theorem dX9_votes_48 : decode cX9_votes 48 = .ok (.ireturn, 1) := by decide +kernel
theorem dX9_votes_49 : decode cX9_votes 49 = .ok (.iload_n 2, 1) := by decide +kernel
theorem dX9_votes_50 : decode cX9_votes 50 = .ok (.iconst (-1), 1) := by decide +kernel
theorem dX9_votes_51 : decode cX9_votes 51 = .ok (.if_icmp .ne 11, 3) := by decide +kernel
theorem dX9_votes_54 : decode cX9_votes 54 = .ok (.aload_n 0, 1) := by decide +kernel
theorem dX9_votes_55 : decode cX9_votes 55 = .ok (.iload_n 1, 1) := by decide +kernel
theorem dX9_votes_56 : decode cX9_votes 56 = .ok (.invokevirtual 116, 3) := by decide +kernel
theorem dX9_votes_59 : decode cX9_votes 59 = .ok (.goto 9, 3) := by decide +kernel
theorem dX9_votes_62 : decode cX9_votes 62 = .ok (.aload_n 0, 1) := by decide +kernel
theorem dX9_votes_63 : decode cX9_votes 63 = .ok (.iload_n 1, 1) := by decide +kernel
theorem dX9_votes_64 : decode cX9_votes 64 = .ok (.iload_n 2, 1) := by decide +kernel
theorem dX9_votes_65 : decode cX9_votes 65 = .ok (.invokevirtual 112, 3) := by decide +kernel
theorem dX9_votes_68 : decode cX9_votes 68 = .ok (.ireturn, 1) := by decide +kernel
theorem dX9_seats_0 : decode cX9_seats 0 = .ok (.iload_n 1, 1) := by decide +kernel
theorem dX9_seats_1 : decode cX9_seats 1 = .ok (.invokestatic 129, 3) := by decide +kernel
theorem dX9_seats_4 : decode cX9_seats 4 = .ok (.ifCond .ne 5, 3) := by decide +kernel
theorem dX9_seats_7 : decode cX9_seats 7 = .ok (.iconst (-1), 1) := by decide +kernel
theorem dX9_seats_8 : decode cX9_seats 8 = .ok (.ireturn, 1) := by decide +kernel
theorem dX9_seats_9 : decode cX9_seats 9 = .ok (.iload_n 2, 1) := by decide +kernel
theorem dX9_seats_10 : decode cX9_seats 10 = .ok (.i2l, 1) := by decide +kernel
theorem dX9_seats_11 : decode cX9_seats 11 = .ok (.lconst 0, 1) := by decide +kernel
theorem dX9_seats_12 : decode cX9_seats 12 = .ok (.ldc2_w 141, 3) := by decide +kernel
theorem dX9_seats_15 : decode cX9_seats 15 = .ok (.invokestatic 7, 3) := by decide +kernel
theorem dX9_seats_18 : decode cX9_seats 18 = .ok (.ifCond .eq 15, 3) := by decide +kernel
theorem dX9_seats_21 : decode cX9_seats 21 = .ok (.aload_n 0, 1) := by decide +kernel
theorem dX9_seats_22 : decode cX9_seats 22 = .ok (.bipush 24, 2) := by decide +kernel
theorem dX9_seats_24 : decode cX9_seats 24 = .ok (.iload_n 1, 1) := by decide +kernel
theorem dX9_seats_25 : decode cX9_seats 25 = .ok (.iadd, 1) := by decide +kernel
theorem dX9_seats_26 : decode cX9_seats 26 = .ok (.iload_n 2, 1) := by decide +kernel
theorem dX9_seats_27 : decode cX9_seats 27 = .ok (.invokevirtual 138, 3) := by decide +kernel
theorem dX9_seats_30 : decode cX9_seats 30 = .ok (.goto 5, 3) := by decide +kernel
theorem dX9_seats_33 : decode cX9_seats 33 = .ok (.bipush (-2), 2) := by decide +kernel
theorem dX9_seats_35 : decode cX9_seats 35 = .ok (.ireturn, 1) := by decide +kernel
theorem dX9_least_0 : decode cX9_least 0 = .ok (.iload_n 1, 1) := by decide +kernel
theorem dX9_least_1 : decode cX9_least 1 = .ok (.invokestatic 133, 3) := by decide +kernel
theorem dX9_least_4 : decode cX9_least 4 = .ok (.ifCond .ne 5, 3) := by decide +kernel
theorem dX9_least_7 : decode cX9_least 7 = .ok (.iconst (-1), 1) := by decide +kernel
theorem dX9_least_8 : decode cX9_least 8 = .ok (.ireturn, 1) := by decide +kernel
theorem dX9_least_9 : decode cX9_least 9 = .ok (.iload_n 2, 1) := by decide +kernel
theorem dX9_least_10 : decode cX9_least 10 = .ok (.i2l, 1) := by decide +kernel
theorem dX9_least_11 : decode cX9_least 11 = .ok (.lconst 0, 1) := by decide +kernel
theorem dX9_least_12 : decode cX9_least 12 = .ok (.ldc2_w 143, 3) := by decide +kernel
theorem dX9_least_15 : decode cX9_least 15 = .ok (.invokestatic 7, 3) := by decide +kernel
theorem dX9_least_18 : decode cX9_least 18 = .ok (.ifCond .eq 15, 3) := by decide +kernel
theorem dX9_least_21 : decode cX9_least 21 = .ok (.aload_n 0, 1) := by decide +kernel
theorem dX9_least_22 : decode cX9_least 22 = .ok (.bipush 28, 2) := by decide +kernel
theorem dX9_least_24 : decode cX9_least 24 = .ok (.iload_n 1, 1) := by decide +kernel
theorem dX9_least_25 : decode cX9_least 25 = .ok (.iadd, 1) := by decide +kernel
theorem dX9_least_26 : decode cX9_least 26 = .ok (.iload_n 2, 1) := by decide +kernel
theorem dX9_least_27 : decode cX9_least 27 = .ok (.invokevirtual 138, 3) := by decide +kernel
theorem dX9_least_30 : decode cX9_least 30 = .ok (.goto 5, 3) := by decide +kernel
theorem dX9_least_33 : decode cX9_least 33 = .ok (.bipush (-2), 2) := by decide +kernel
theorem dX9_least_35 : decode cX9_least 35 = .ok (.ireturn, 1) := by decide +kernel
theorem dX9_join_0 : decode cX9_join 0 = .ok (.iload_n 1, 1) := by decide +kernel
theorem dX9_join_1 : decode cX9_join 1 = .ok (.invokestatic 133, 3) := by decide +kernel
theorem dX9_join_4 : decode cX9_join 4 = .ok (.ifCond .eq 22, 3) := by decide +kernel
theorem dX9_join_7 : decode cX9_join 7 = .ok (.iload_n 2, 1) := by decide +kernel
theorem dX9_join_8 : decode cX9_join 8 = .ok (.invokestatic 133, 3) := by decide +kernel
theorem dX9_join_11 : decode cX9_join 11 = .ok (.ifCond .eq 15, 3) := by decide +kernel
theorem dX9_join_14 : decode cX9_join 14 = .ok (.aload_n 0, 1) := by decide +kernel
theorem dX9_join_15 : decode cX9_join 15 = .ok (.bipush 34, 2) := by decide +kernel
theorem dX9_join_17 : decode cX9_join 17 = .ok (.iload_n 1, 1) := by decide +kernel
theorem dX9_join_18 : decode cX9_join 18 = .ok (.iadd, 1) := by decide +kernel
theorem dX9_join_19 : decode cX9_join 19 = .ok (.iload_n 2, 1) := by decide +kernel
theorem dX9_join_20 : decode cX9_join 20 = .ok (.invokevirtual 138, 3) := by decide +kernel
theorem dX9_join_23 : decode cX9_join 23 = .ok (.goto 4, 3) := by decide +kernel
theorem dX9_join_26 : decode cX9_join 26 = .ok (.iconst (-1), 1) := by decide +kernel
theorem dX9_join_27 : decode cX9_join 27 = .ok (.ireturn, 1) := by decide +kernel
theorem dX9_bar_0 : decode cX9_bar 0 = .ok (.iload_n 1, 1) := by decide +kernel
theorem dX9_bar_1 : decode cX9_bar 1 = .ok (.i2l, 1) := by decide +kernel
theorem dX9_bar_2 : decode cX9_bar 2 = .ok (.lconst 0, 1) := by decide +kernel
theorem dX9_bar_3 : decode cX9_bar 3 = .ok (.ldc2_w 145, 3) := by decide +kernel
theorem dX9_bar_6 : decode cX9_bar 6 = .ok (.invokestatic 7, 3) := by decide +kernel
theorem dX9_bar_9 : decode cX9_bar 9 = .ok (.ifCond .eq 13, 3) := by decide +kernel
theorem dX9_bar_12 : decode cX9_bar 12 = .ok (.aload_n 0, 1) := by decide +kernel
theorem dX9_bar_13 : decode cX9_bar 13 = .ok (.bipush 40, 2) := by decide +kernel
theorem dX9_bar_15 : decode cX9_bar 15 = .ok (.iload_n 1, 1) := by decide +kernel
theorem dX9_bar_16 : decode cX9_bar 16 = .ok (.invokevirtual 138, 3) := by decide +kernel
theorem dX9_bar_19 : decode cX9_bar 19 = .ok (.goto 5, 3) := by decide +kernel
theorem dX9_bar_22 : decode cX9_bar 22 = .ok (.bipush (-2), 2) := by decide +kernel
theorem dX9_bar_24 : decode cX9_bar 24 = .ok (.ireturn, 1) := by decide +kernel
theorem dX9_way_0 : decode cX9_way 0 = .ok (.iload_n 1, 1) := by decide +kernel
theorem dX9_way_1 : decode cX9_way 1 = .ok (.i2l, 1) := by decide +kernel
theorem dX9_way_2 : decode cX9_way 2 = .ok (.lconst 0, 1) := by decide +kernel
theorem dX9_way_3 : decode cX9_way 3 = .ok (.ldc2_w 147, 3) := by decide +kernel
theorem dX9_way_6 : decode cX9_way 6 = .ok (.invokestatic 7, 3) := by decide +kernel
theorem dX9_way_9 : decode cX9_way 9 = .ok (.ifCond .eq 13, 3) := by decide +kernel
theorem dX9_way_12 : decode cX9_way 12 = .ok (.aload_n 0, 1) := by decide +kernel
theorem dX9_way_13 : decode cX9_way 13 = .ok (.bipush 41, 2) := by decide +kernel
theorem dX9_way_15 : decode cX9_way 15 = .ok (.iload_n 1, 1) := by decide +kernel
theorem dX9_way_16 : decode cX9_way 16 = .ok (.invokevirtual 138, 3) := by decide +kernel
theorem dX9_way_19 : decode cX9_way 19 = .ok (.goto 4, 3) := by decide +kernel
theorem dX9_way_22 : decode cX9_way 22 = .ok (.iconst (-1), 1) := by decide +kernel
theorem dX9_way_23 : decode cX9_way 23 = .ok (.ireturn, 1) := by decide +kernel
theorem dX9_tell_0 : decode cX9_tell 0 = .ok (.iload_n 1, 1) := by decide +kernel
theorem dX9_tell_1 : decode cX9_tell 1 = .ok (.i2l, 1) := by decide +kernel
theorem dX9_tell_2 : decode cX9_tell 2 = .ok (.lconst 0, 1) := by decide +kernel
theorem dX9_tell_3 : decode cX9_tell 3 = .ok (.ldc2_w 149, 3) := by decide +kernel
theorem dX9_tell_6 : decode cX9_tell 6 = .ok (.invokestatic 7, 3) := by decide +kernel
theorem dX9_tell_9 : decode cX9_tell 9 = .ok (.ifCond .eq 20, 3) := by decide +kernel
theorem dX9_tell_12 : decode cX9_tell 12 = .ok (.iload_n 2, 1) := by decide +kernel
theorem dX9_tell_13 : decode cX9_tell 13 = .ok (.i2l, 1) := by decide +kernel
theorem dX9_tell_14 : decode cX9_tell 14 = .ok (.lconst 1, 1) := by decide +kernel
theorem dX9_tell_15 : decode cX9_tell 15 = .ok (.ldc2_w 149, 3) := by decide +kernel
theorem dX9_tell_18 : decode cX9_tell 18 = .ok (.invokestatic 7, 3) := by decide +kernel
theorem dX9_tell_21 : decode cX9_tell 21 = .ok (.ifCond .eq 8, 3) := by decide +kernel
theorem dX9_tell_24 : decode cX9_tell 24 = .ok (.iload_n 1, 1) := by decide +kernel
theorem dX9_tell_25 : decode cX9_tell 25 = .ok (.iload_n 2, 1) := by decide +kernel
theorem dX9_tell_26 : decode cX9_tell 26 = .ok (.if_icmp .le 6, 3) := by decide +kernel
theorem dX9_tell_29 : decode cX9_tell 29 = .ok (.bipush (-2), 2) := by decide +kernel
theorem dX9_tell_31 : decode cX9_tell 31 = .ok (.ireturn, 1) := by decide +kernel
theorem dX9_tell_32 : decode cX9_tell 32 = .ok (.aload_n 0, 1) := by decide +kernel
theorem dX9_tell_33 : decode cX9_tell 33 = .ok (.bipush 42, 2) := by decide +kernel
