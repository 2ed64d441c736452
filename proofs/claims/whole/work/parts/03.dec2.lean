theorem dX9_tell_35 : decode cX9_tell 35 = .ok (.iload_n 1, 1) := by decide +kernel
theorem dX9_tell_36 : decode cX9_tell 36 = .ok (.invokevirtual 138, 3) := by decide +kernel
theorem dX9_tell_39 : decode cX9_tell 39 = .ok (.pop, 1) := by decide +kernel
theorem dX9_tell_40 : decode cX9_tell 40 = .ok (.aload_n 0, 1) := by decide +kernel
theorem dX9_tell_41 : decode cX9_tell 41 = .ok (.bipush 43, 2) := by decide +kernel
theorem dX9_tell_43 : decode cX9_tell 43 = .ok (.iload_n 2, 1) := by decide +kernel
theorem dX9_tell_44 : decode cX9_tell 44 = .ok (.invokevirtual 138, 3) := by decide +kernel
theorem dX9_tell_47 : decode cX9_tell 47 = .ok (.pop, 1) := by decide +kernel
theorem dX9_tell_48 : decode cX9_tell 48 = .ok (.iconst 1, 1) := by decide +kernel
theorem dX9_tell_49 : decode cX9_tell 49 = .ok (.ireturn, 1) := by decide +kernel
theorem dX9_feed_0 : decode cX9_feed 0 = .ok (.iload_n 1, 1) := by decide +kernel
theorem dX9_feed_1 : decode cX9_feed 1 = .ok (.i2l, 1) := by decide +kernel
theorem dX9_feed_2 : decode cX9_feed 2 = .ok (.lconst 1, 1) := by decide +kernel
theorem dX9_feed_3 : decode cX9_feed 3 = .ok (.ldc2_w 151, 3) := by decide +kernel
theorem dX9_feed_6 : decode cX9_feed 6 = .ok (.invokestatic 7, 3) := by decide +kernel
theorem dX9_feed_9 : decode cX9_feed 9 = .ok (.ifCond .ne 6, 3) := by decide +kernel
theorem dX9_feed_12 : decode cX9_feed 12 = .ok (.bipush (-2), 2) := by decide +kernel
theorem dX9_feed_14 : decode cX9_feed 14 = .ok (.ireturn, 1) := by decide +kernel
theorem dX9_feed_15 : decode cX9_feed 15 = .ok (.aload_n 0, 1) := by decide +kernel
theorem dX9_feed_16 : decode cX9_feed 16 = .ok (.getfield 153, 3) := by decide +kernel
theorem dX9_feed_19 : decode cX9_feed 19 = .ok (.bipush 120, 2) := by decide +kernel
theorem dX9_feed_21 : decode cX9_feed 21 = .ok (.if_icmp .ne 6, 3) := by decide +kernel
theorem dX9_feed_24 : decode cX9_feed 24 = .ok (.bipush (-4), 2) := by decide +kernel
theorem dX9_feed_26 : decode cX9_feed 26 = .ok (.ireturn, 1) := by decide +kernel
theorem dX9_feed_27 : decode cX9_feed 27 = .ok (.aload_n 0, 1) := by decide +kernel
theorem dX9_feed_28 : decode cX9_feed 28 = .ok (.getfield 28, 3) := by decide +kernel
theorem dX9_feed_31 : decode cX9_feed 31 = .ok (.aload_n 0, 1) := by decide +kernel
theorem dX9_feed_32 : decode cX9_feed 32 = .ok (.getfield 153, 3) := by decide +kernel
theorem dX9_feed_35 : decode cX9_feed 35 = .ok (.iload_n 1, 1) := by decide +kernel
theorem dX9_feed_36 : decode cX9_feed 36 = .ok (.iastore, 1) := by decide +kernel
theorem dX9_feed_37 : decode cX9_feed 37 = .ok (.aload_n 0, 1) := by decide +kernel
theorem dX9_feed_38 : decode cX9_feed 38 = .ok (.dup, 1) := by decide +kernel
theorem dX9_feed_39 : decode cX9_feed 39 = .ok (.getfield 153, 3) := by decide +kernel
theorem dX9_feed_42 : decode cX9_feed 42 = .ok (.iconst 1, 1) := by decide +kernel
theorem dX9_feed_43 : decode cX9_feed 43 = .ok (.iadd, 1) := by decide +kernel
theorem dX9_feed_44 : decode cX9_feed 44 = .ok (.putfield 153, 3) := by decide +kernel
theorem dX9_feed_47 : decode cX9_feed 47 = .ok (.aload_n 0, 1) := by decide +kernel
theorem dX9_feed_48 : decode cX9_feed 48 = .ok (.getfield 153, 3) := by decide +kernel
theorem dX9_feed_51 : decode cX9_feed 51 = .ok (.ireturn, 1) := by decide +kernel
theorem dX9_clear_0 : decode cX9_clear 0 = .ok (.aload_n 0, 1) := by decide +kernel
theorem dX9_clear_1 : decode cX9_clear 1 = .ok (.getfield 153, 3) := by decide +kernel
theorem dX9_clear_4 : decode cX9_clear 4 = .ok (.istore_n 1, 1) := by decide +kernel
theorem dX9_clear_5 : decode cX9_clear 5 = .ok (.aload_n 0, 1) := by decide +kernel
theorem dX9_clear_6 : decode cX9_clear 6 = .ok (.iconst 0, 1) := by decide +kernel
theorem dX9_clear_7 : decode cX9_clear 7 = .ok (.putfield 153, 3) := by decide +kernel
theorem dX9_clear_10 : decode cX9_clear 10 = .ok (.iload_n 1, 1) := by decide +kernel
theorem dX9_clear_11 : decode cX9_clear 11 = .ok (.ireturn, 1) := by decide +kernel
theorem dX9_isFigure_0 : decode cX9_isFigure 0 = .ok (.aload_n 0, 1) := by decide +kernel
theorem dX9_isFigure_1 : decode cX9_isFigure 1 = .ok (.getfield 157, 3) := by decide +kernel
theorem dX9_isFigure_4 : decode cX9_isFigure 4 = .ok (.aload_n 0, 1) := by decide +kernel
theorem dX9_isFigure_5 : decode cX9_isFigure 5 = .ok (.getfield 153, 3) := by decide +kernel
theorem dX9_isFigure_8 : decode cX9_isFigure 8 = .ok (.if_icmp .ge 29, 3) := by decide +kernel
theorem dX9_isFigure_11 : decode cX9_isFigure 11 = .ok (.aload_n 0, 1) := by decide +kernel
theorem dX9_isFigure_12 : decode cX9_isFigure 12 = .ok (.getfield 28, 3) := by decide +kernel
theorem dX9_isFigure_15 : decode cX9_isFigure 15 = .ok (.aload_n 0, 1) := by decide +kernel
theorem dX9_isFigure_16 : decode cX9_isFigure 16 = .ok (.getfield 157, 3) := by decide +kernel
theorem dX9_isFigure_19 : decode cX9_isFigure 19 = .ok (.iaload, 1) := by decide +kernel
theorem dX9_isFigure_20 : decode cX9_isFigure 20 = .ok (.i2l, 1) := by decide +kernel
theorem dX9_isFigure_21 : decode cX9_isFigure 21 = .ok (.ldc2_w 160, 3) := by decide +kernel
theorem dX9_isFigure_24 : decode cX9_isFigure 24 = .ok (.ldc2_w 162, 3) := by decide +kernel
theorem dX9_isFigure_27 : decode cX9_isFigure 27 = .ok (.invokestatic 7, 3) := by decide +kernel
theorem dX9_isFigure_30 : decode cX9_isFigure 30 = .ok (.ifCond .eq 7, 3) := by decide +kernel
theorem dX9_isFigure_33 : decode cX9_isFigure 33 = .ok (.iconst 1, 1) := by decide +kernel
theorem dX9_isFigure_34 : decode cX9_isFigure 34 = .ok (.goto 4, 3) := by decide +kernel
theorem dX9_isFigure_37 : decode cX9_isFigure 37 = .ok (.iconst 0, 1) := by decide +kernel
theorem dX9_isFigure_38 : decode cX9_isFigure 38 = .ok (.ireturn, 1) := by decide +kernel
theorem dX9_readsVotes_0 : decode cX9_readsVotes 0 = .ok (.aload_n 0, 1) := by decide +kernel
theorem dX9_readsVotes_1 : decode cX9_readsVotes 1 = .ok (.getfield 157, 3) := by decide +kernel
theorem dX9_readsVotes_4 : decode cX9_readsVotes 4 = .ok (.istore_n 1, 1) := by decide +kernel
theorem dX9_readsVotes_5 : decode cX9_readsVotes 5 = .ok (.iconst 0, 1) := by decide +kernel
theorem dX9_readsVotes_6 : decode cX9_readsVotes 6 = .ok (.istore_n 2, 1) := by decide +kernel
theorem dX9_readsVotes_7 : decode cX9_readsVotes 7 = .ok (.aload_n 0, 1) := by decide +kernel
theorem dX9_readsVotes_8 : decode cX9_readsVotes 8 = .ok (.invokevirtual 164, 3) := by decide +kernel
theorem dX9_readsVotes_11 : decode cX9_readsVotes 11 = .ok (.ifCond .eq 45, 3) := by decide +kernel
theorem dX9_readsVotes_14 : decode cX9_readsVotes 14 = .ok (.aload_n 0, 1) := by decide +kernel
theorem dX9_readsVotes_15 : decode cX9_readsVotes 15 = .ok (.getfield 157, 3) := by decide +kernel
theorem dX9_readsVotes_18 : decode cX9_readsVotes 18 = .ok (.iload_n 1, 1) := by decide +kernel
theorem dX9_readsVotes_19 : decode cX9_readsVotes 19 = .ok (.bipush 6, 2) := by decide +kernel
theorem dX9_readsVotes_21 : decode cX9_readsVotes 21 = .ok (.iadd, 1) := by decide +kernel
theorem dX9_readsVotes_22 : decode cX9_readsVotes 22 = .ok (.if_icmp .ge 34, 3) := by decide +kernel
theorem dX9_readsVotes_25 : decode cX9_readsVotes 25 = .ok (.bipush 10, 2) := by decide +kernel
theorem dX9_readsVotes_27 : decode cX9_readsVotes 27 = .ok (.iload_n 2, 1) := by decide +kernel
theorem dX9_readsVotes_28 : decode cX9_readsVotes 28 = .ok (.imul, 1) := by decide +kernel
theorem dX9_readsVotes_29 : decode cX9_readsVotes 29 = .ok (.aload_n 0, 1) := by decide +kernel
theorem dX9_readsVotes_30 : decode cX9_readsVotes 30 = .ok (.getfield 28, 3) := by decide +kernel
theorem dX9_readsVotes_33 : decode cX9_readsVotes 33 = .ok (.aload_n 0, 1) := by decide +kernel
theorem dX9_readsVotes_34 : decode cX9_readsVotes 34 = .ok (.getfield 157, 3) := by decide +kernel
theorem dX9_readsVotes_37 : decode cX9_readsVotes 37 = .ok (.iaload, 1) := by decide +kernel
theorem dX9_readsVotes_38 : decode cX9_readsVotes 38 = .ok (.iadd, 1) := by decide +kernel
theorem dX9_readsVotes_39 : decode cX9_readsVotes 39 = .ok (.bipush 48, 2) := by decide +kernel
theorem dX9_readsVotes_41 : decode cX9_readsVotes 41 = .ok (.isub, 1) := by decide +kernel
theorem dX9_readsVotes_42 : decode cX9_readsVotes 42 = .ok (.istore_n 2, 1) := by decide +kernel
theorem dX9_readsVotes_43 : decode cX9_readsVotes 43 = .ok (.aload_n 0, 1) := by decide +kernel
theorem dX9_readsVotes_44 : decode cX9_readsVotes 44 = .ok (.dup, 1) := by decide +kernel
theorem dX9_readsVotes_45 : decode cX9_readsVotes 45 = .ok (.getfield 157, 3) := by decide +kernel
theorem dX9_readsVotes_48 : decode cX9_readsVotes 48 = .ok (.iconst 1, 1) := by decide +kernel
theorem dX9_readsVotes_49 : decode cX9_readsVotes 49 = .ok (.iadd, 1) := by decide +kernel
theorem dX9_readsVotes_50 : decode cX9_readsVotes 50 = .ok (.putfield 157, 3) := by decide +kernel
theorem dX9_readsVotes_53 : decode cX9_readsVotes 53 = .ok (.goto (-46), 3) := by decide +kernel
theorem dX9_readsVotes_56 : decode cX9_readsVotes 56 = .ok (.aload_n 0, 1) := by decide +kernel
theorem dX9_readsVotes_57 : decode cX9_readsVotes 57 = .ok (.getfield 157, 3) := by decide +kernel
theorem dX9_readsVotes_60 : decode cX9_readsVotes 60 = .ok (.iload_n 1, 1) := by decide +kernel
theorem dX9_readsVotes_61 : decode cX9_readsVotes 61 = .ok (.if_icmp .ne 11, 3) := by decide +kernel
theorem dX9_readsVotes_64 : decode cX9_readsVotes 64 = .ok (.bipush (-100), 2) := by decide +kernel
theorem dX9_readsVotes_66 : decode cX9_readsVotes 66 = .ok (.aload_n 0, 1) := by decide +kernel
theorem dX9_readsVotes_67 : decode cX9_readsVotes 67 = .ok (.getfield 157, 3) := by decide +kernel
theorem dX9_readsVotes_70 : decode cX9_readsVotes 70 = .ok (.isub, 1) := by decide +kernel
theorem dX9_readsVotes_71 : decode cX9_readsVotes 71 = .ok (.ireturn, 1) := by decide +kernel
theorem dX9_readsVotes_72 : decode cX9_readsVotes 72 = .ok (.iload_n 2, 1) := by decide +kernel
theorem dX9_readsVotes_73 : decode cX9_readsVotes 73 = .ok (.ldc 168, 2) := by decide +kernel
theorem dX9_readsVotes_75 : decode cX9_readsVotes 75 = .ok (.if_icmp .le 10, 3) := by decide +kernel
theorem dX9_readsVotes_78 : decode cX9_readsVotes 78 = .ok (.bipush (-100), 2) := by decide +kernel
theorem dX9_readsVotes_80 : decode cX9_readsVotes 80 = .ok (.iload_n 1, 1) := by decide +kernel
theorem dX9_readsVotes_81 : decode cX9_readsVotes 81 = .ok (.isub, 1) := by decide +kernel
theorem dX9_readsVotes_82 : decode cX9_readsVotes 82 = .ok (.goto 4, 3) := by decide +kernel
theorem dX9_readsVotes_85 : decode cX9_readsVotes 85 = .ok (.iload_n 2, 1) := by decide +kernel
theorem dX9_readsVotes_86 : decode cX9_readsVotes 86 = .ok (.ireturn, 1) := by decide +kernel
theorem dX9_readsAll_0 : decode cX9_readsAll 0 = .ok (.iconst 0, 1) := by decide +kernel
theorem dX9_readsAll_1 : decode cX9_readsAll 1 = .ok (.istore_n 2, 1) := by decide +kernel
theorem dX9_readsAll_2 : decode cX9_readsAll 2 = .ok (.iload_n 1, 1) := by decide +kernel
theorem dX9_readsAll_3 : decode cX9_readsAll 3 = .ok (.istore_n 3, 1) := by decide +kernel
theorem dX9_readsAll_4 : decode cX9_readsAll 4 = .ok (.iconst 0, 1) := by decide +kernel
theorem dX9_readsAll_5 : decode cX9_readsAll 5 = .ok (.istore 4, 2) := by decide +kernel
theorem dX9_readsAll_7 : decode cX9_readsAll 7 = .ok (.aload_n 0, 1) := by decide +kernel
theorem dX9_readsAll_8 : decode cX9_readsAll 8 = .ok (.iconst 0, 1) := by decide +kernel
theorem dX9_readsAll_9 : decode cX9_readsAll 9 = .ok (.putfield 157, 3) := by decide +kernel
theorem dX9_readsAll_12 : decode cX9_readsAll 12 = .ok (.iconst 0, 1) := by decide +kernel
theorem dX9_readsAll_13 : decode cX9_readsAll 13 = .ok (.istore 5, 2) := by decide +kernel
theorem dX9_readsAll_15 : decode cX9_readsAll 15 = .ok (.iload 5, 2) := by decide +kernel
theorem dX9_readsAll_17 : decode cX9_readsAll 17 = .ok (.bipush 24, 2) := by decide +kernel
theorem dX9_readsAll_19 : decode cX9_readsAll 19 = .ok (.if_icmp .ge 17, 3) := by decide +kernel
theorem dX9_readsAll_22 : decode cX9_readsAll 22 = .ok (.aload_n 0, 1) := by decide +kernel
theorem dX9_readsAll_23 : decode cX9_readsAll 23 = .ok (.getfield 31, 3) := by decide +kernel
theorem dX9_readsAll_26 : decode cX9_readsAll 26 = .ok (.iload 5, 2) := by decide +kernel
theorem dX9_readsAll_28 : decode cX9_readsAll 28 = .ok (.iconst (-1), 1) := by decide +kernel
theorem dX9_readsAll_29 : decode cX9_readsAll 29 = .ok (.iastore, 1) := by decide +kernel
theorem dX9_readsAll_30 : decode cX9_readsAll 30 = .ok (.iinc 5 1, 3) := by decide +kernel
theorem dX9_readsAll_33 : decode cX9_readsAll 33 = .ok (.goto (-18), 3) := by decide +kernel
theorem dX9_readsAll_36 : decode cX9_readsAll 36 = .ok (.iload_n 3, 1) := by decide +kernel
theorem dX9_readsAll_37 : decode cX9_readsAll 37 = .ok (.iconst 4, 1) := by decide +kernel
theorem dX9_readsAll_38 : decode cX9_readsAll 38 = .ok (.if_icmp .ge 142, 3) := by decide +kernel
theorem dX9_readsAll_41 : decode cX9_readsAll 41 = .ok (.aload_n 0, 1) := by decide +kernel
theorem dX9_readsAll_42 : decode cX9_readsAll 42 = .ok (.invokevirtual 169, 3) := by decide +kernel
theorem dX9_readsAll_45 : decode cX9_readsAll 45 = .ok (.istore 5, 2) := by decide +kernel
theorem dX9_readsAll_47 : decode cX9_readsAll 47 = .ok (.iload 5, 2) := by decide +kernel
theorem dX9_readsAll_49 : decode cX9_readsAll 49 = .ok (.ifCond .ge 6, 3) := by decide +kernel
theorem dX9_readsAll_52 : decode cX9_readsAll 52 = .ok (.iload 5, 2) := by decide +kernel
theorem dX9_readsAll_54 : decode cX9_readsAll 54 = .ok (.ireturn, 1) := by decide +kernel
theorem dX9_readsAll_55 : decode cX9_readsAll 55 = .ok (.aload_n 0, 1) := by decide +kernel
theorem dX9_readsAll_56 : decode cX9_readsAll 56 = .ok (.getfield 31, 3) := by decide +kernel
theorem dX9_readsAll_59 : decode cX9_readsAll 59 = .ok (.bipush 6, 2) := by decide +kernel
theorem dX9_readsAll_61 : decode cX9_readsAll 61 = .ok (.iload_n 3, 1) := by decide +kernel
theorem dX9_readsAll_62 : decode cX9_readsAll 62 = .ok (.imul, 1) := by decide +kernel
theorem dX9_readsAll_63 : decode cX9_readsAll 63 = .ok (.iload 4, 2) := by decide +kernel
theorem dX9_readsAll_65 : decode cX9_readsAll 65 = .ok (.iadd, 1) := by decide +kernel
theorem dX9_readsAll_66 : decode cX9_readsAll 66 = .ok (.iload 5, 2) := by decide +kernel
theorem dX9_readsAll_68 : decode cX9_readsAll 68 = .ok (.iastore, 1) := by decide +kernel
theorem dX9_readsAll_69 : decode cX9_readsAll 69 = .ok (.iinc 2 1, 3) := by decide +kernel
theorem dX9_readsAll_72 : decode cX9_readsAll 72 = .ok (.aload_n 0, 1) := by decide +kernel
theorem dX9_readsAll_73 : decode cX9_readsAll 73 = .ok (.getfield 157, 3) := by decide +kernel
theorem dX9_readsAll_76 : decode cX9_readsAll 76 = .ok (.aload_n 0, 1) := by decide +kernel
theorem dX9_readsAll_77 : decode cX9_readsAll 77 = .ok (.getfield 153, 3) := by decide +kernel
theorem dX9_readsAll_80 : decode cX9_readsAll 80 = .ok (.if_icmp .ne 5, 3) := by decide +kernel
theorem dX9_readsAll_83 : decode cX9_readsAll 83 = .ok (.iload_n 2, 1) := by decide +kernel
theorem dX9_readsAll_84 : decode cX9_readsAll 84 = .ok (.ireturn, 1) := by decide +kernel
theorem dX9_readsAll_85 : decode cX9_readsAll 85 = .ok (.aload_n 0, 1) := by decide +kernel
theorem dX9_readsAll_86 : decode cX9_readsAll 86 = .ok (.getfield 28, 3) := by decide +kernel
theorem dX9_readsAll_89 : decode cX9_readsAll 89 = .ok (.aload_n 0, 1) := by decide +kernel
theorem dX9_readsAll_90 : decode cX9_readsAll 90 = .ok (.getfield 157, 3) := by decide +kernel
theorem dX9_readsAll_93 : decode cX9_readsAll 93 = .ok (.iaload, 1) := by decide +kernel
theorem dX9_readsAll_94 : decode cX9_readsAll 94 = .ok (.bipush 47, 2) := by decide +kernel
theorem dX9_readsAll_96 : decode cX9_readsAll 96 = .ok (.if_icmp .ne 7, 3) := by decide +kernel
theorem dX9_readsAll_99 : decode cX9_readsAll 99 = .ok (.iconst 1, 1) := by decide +kernel
theorem dX9_readsAll_100 : decode cX9_readsAll 100 = .ok (.goto 4, 3) := by decide +kernel
theorem dX9_readsAll_103 : decode cX9_readsAll 103 = .ok (.iconst 0, 1) := by decide +kernel
theorem dX9_readsAll_104 : decode cX9_readsAll 104 = .ok (.istore 6, 2) := by decide +kernel
theorem dX9_readsAll_106 : decode cX9_readsAll 106 = .ok (.iload 6, 2) := by decide +kernel
theorem dX9_readsAll_108 : decode cX9_readsAll 108 = .ok (.ifCond .ne 31, 3) := by decide +kernel
theorem dX9_readsAll_111 : decode cX9_readsAll 111 = .ok (.aload_n 0, 1) := by decide +kernel
theorem dX9_readsAll_112 : decode cX9_readsAll 112 = .ok (.getfield 28, 3) := by decide +kernel
theorem dX9_readsAll_115 : decode cX9_readsAll 115 = .ok (.aload_n 0, 1) := by decide +kernel
theorem dX9_readsAll_116 : decode cX9_readsAll 116 = .ok (.getfield 157, 3) := by decide +kernel
theorem dX9_readsAll_119 : decode cX9_readsAll 119 = .ok (.iaload, 1) := by decide +kernel
theorem dX9_readsAll_120 : decode cX9_readsAll 120 = .ok (.bipush 44, 2) := by decide +kernel
theorem dX9_readsAll_122 : decode cX9_readsAll 122 = .ok (.if_icmp .ne 9, 3) := by decide +kernel
theorem dX9_readsAll_125 : decode cX9_readsAll 125 = .ok (.iload 4, 2) := by decide +kernel
theorem dX9_readsAll_127 : decode cX9_readsAll 127 = .ok (.iconst 5, 1) := by decide +kernel
theorem dX9_readsAll_128 : decode cX9_readsAll 128 = .ok (.if_icmp .ne 11, 3) := by decide +kernel
theorem dX9_readsAll_131 : decode cX9_readsAll 131 = .ok (.bipush (-100), 2) := by decide +kernel
theorem dX9_readsAll_133 : decode cX9_readsAll 133 = .ok (.aload_n 0, 1) := by decide +kernel
theorem dX9_readsAll_134 : decode cX9_readsAll 134 = .ok (.getfield 157, 3) := by decide +kernel
theorem dX9_readsAll_137 : decode cX9_readsAll 137 = .ok (.isub, 1) := by decide +kernel
theorem dX9_readsAll_138 : decode cX9_readsAll 138 = .ok (.ireturn, 1) := by decide +kernel
theorem dX9_readsAll_139 : decode cX9_readsAll 139 = .ok (.iload_n 3, 1) := by decide +kernel
theorem dX9_readsAll_140 : decode cX9_readsAll 140 = .ok (.iload 6, 2) := by decide +kernel
theorem dX9_readsAll_142 : decode cX9_readsAll 142 = .ok (.ifCond .eq 7, 3) := by decide +kernel
theorem dX9_readsAll_145 : decode cX9_readsAll 145 = .ok (.iconst 1, 1) := by decide +kernel
theorem dX9_readsAll_146 : decode cX9_readsAll 146 = .ok (.goto 4, 3) := by decide +kernel
theorem dX9_readsAll_149 : decode cX9_readsAll 149 = .ok (.iconst 0, 1) := by decide +kernel
theorem dX9_readsAll_150 : decode cX9_readsAll 150 = .ok (.iadd, 1) := by decide +kernel
theorem dX9_readsAll_151 : decode cX9_readsAll 151 = .ok (.istore_n 3, 1) := by decide +kernel
theorem dX9_readsAll_152 : decode cX9_readsAll 152 = .ok (.iload 6, 2) := by decide +kernel
theorem dX9_readsAll_154 : decode cX9_readsAll 154 = .ok (.ifCond .eq 7, 3) := by decide +kernel
theorem dX9_readsAll_157 : decode cX9_readsAll 157 = .ok (.iconst 0, 1) := by decide +kernel
theorem dX9_readsAll_158 : decode cX9_readsAll 158 = .ok (.goto 7, 3) := by decide +kernel
theorem dX9_readsAll_161 : decode cX9_readsAll 161 = .ok (.iload 4, 2) := by decide +kernel
theorem dX9_readsAll_163 : decode cX9_readsAll 163 = .ok (.iconst 1, 1) := by decide +kernel
theorem dX9_readsAll_164 : decode cX9_readsAll 164 = .ok (.iadd, 1) := by decide +kernel
theorem dX9_readsAll_165 : decode cX9_readsAll 165 = .ok (.istore 4, 2) := by decide +kernel
theorem dX9_readsAll_167 : decode cX9_readsAll 167 = .ok (.aload_n 0, 1) := by decide +kernel
theorem dX9_readsAll_168 : decode cX9_readsAll 168 = .ok (.dup, 1) := by decide +kernel
theorem dX9_readsAll_169 : decode cX9_readsAll 169 = .ok (.getfield 157, 3) := by decide +kernel
theorem dX9_readsAll_172 : decode cX9_readsAll 172 = .ok (.iconst 1, 1) := by decide +kernel
theorem dX9_readsAll_173 : decode cX9_readsAll 173 = .ok (.iadd, 1) := by decide +kernel
theorem dX9_readsAll_174 : decode cX9_readsAll 174 = .ok (.putfield 157, 3) := by decide +kernel
theorem dX9_readsAll_177 : decode cX9_readsAll 177 = .ok (.goto (-141), 3) := by decide +kernel
theorem dX9_readsAll_180 : decode cX9_readsAll 180 = .ok (.bipush (-100), 2) := by decide +kernel
theorem dX9_readsAll_182 : decode cX9_readsAll 182 = .ok (.aload_n 0, 1) := by decide +kernel
theorem dX9_readsAll_183 : decode cX9_readsAll 183 = .ok (.getfield 157, 3) := by decide +kernel
theorem dX9_readsAll_186 : decode cX9_readsAll 186 = .ok (.isub, 1) := by decide +kernel
theorem dX9_readsAll_187 : decode cX9_readsAll 187 = .ok (.ireturn, 1) := by decide +kernel
theorem dX9_read_0 : decode cX9_read 0 = .ok (.iload_n 1, 1) := by decide +kernel
theorem dX9_read_1 : decode cX9_read 1 = .ok (.invokestatic 129, 3) := by decide +kernel
theorem dX9_read_4 : decode cX9_read 4 = .ok (.ifCond .ne 5, 3) := by decide +kernel
theorem dX9_read_7 : decode cX9_read 7 = .ok (.iconst (-1), 1) := by decide +kernel
theorem dX9_read_8 : decode cX9_read 8 = .ok (.ireturn, 1) := by decide +kernel
theorem dX9_read_9 : decode cX9_read 9 = .ok (.aload_n 0, 1) := by decide +kernel
theorem dX9_read_10 : decode cX9_read 10 = .ok (.iload_n 1, 1) := by decide +kernel
theorem dX9_read_11 : decode cX9_read 11 = .ok (.invokevirtual 172, 3) := by decide +kernel
theorem dX9_read_14 : decode cX9_read 14 = .ok (.istore_n 2, 1) := by decide +kernel
theorem dX9_read_15 : decode cX9_read 15 = .ok (.aload_n 0, 1) := by decide +kernel
theorem dX9_read_16 : decode cX9_read 16 = .ok (.iconst 0, 1) := by decide +kernel
theorem dX9_read_17 : decode cX9_read 17 = .ok (.putfield 153, 3) := by decide +kernel
theorem dX9_read_20 : decode cX9_read 20 = .ok (.iconst 0, 1) := by decide +kernel
theorem dX9_read_21 : decode cX9_read 21 = .ok (.istore_n 3, 1) := by decide +kernel
theorem dX9_read_22 : decode cX9_read 22 = .ok (.iload_n 2, 1) := by decide +kernel
theorem dX9_read_23 : decode cX9_read 23 = .ok (.ifCond .le 37, 3) := by decide +kernel
theorem dX9_read_26 : decode cX9_read 26 = .ok (.iload_n 3, 1) := by decide +kernel
theorem dX9_read_27 : decode cX9_read 27 = .ok (.bipush 24, 2) := by decide +kernel
theorem dX9_read_29 : decode cX9_read 29 = .ok (.if_icmp .ge 31, 3) := by decide +kernel
theorem dX9_read_32 : decode cX9_read 32 = .ok (.aload_n 0, 1) := by decide +kernel
theorem dX9_read_33 : decode cX9_read 33 = .ok (.getfield 31, 3) := by decide +kernel
theorem dX9_read_36 : decode cX9_read 36 = .ok (.iload_n 3, 1) := by decide +kernel
theorem dX9_read_37 : decode cX9_read 37 = .ok (.iaload, 1) := by decide +kernel
theorem dX9_read_38 : decode cX9_read 38 = .ok (.iconst (-1), 1) := by decide +kernel
theorem dX9_read_39 : decode cX9_read 39 = .ok (.if_icmp .eq 15, 3) := by decide +kernel
theorem dX9_read_42 : decode cX9_read 42 = .ok (.aload_n 0, 1) := by decide +kernel
theorem dX9_read_43 : decode cX9_read 43 = .ok (.iload_n 3, 1) := by decide +kernel
theorem dX9_read_44 : decode cX9_read 44 = .ok (.aload_n 0, 1) := by decide +kernel
theorem dX9_read_45 : decode cX9_read 45 = .ok (.getfield 31, 3) := by decide +kernel
theorem dX9_read_48 : decode cX9_read 48 = .ok (.iload_n 3, 1) := by decide +kernel
theorem dX9_read_49 : decode cX9_read 49 = .ok (.iaload, 1) := by decide +kernel
theorem dX9_read_50 : decode cX9_read 50 = .ok (.invokevirtual 138, 3) := by decide +kernel
theorem dX9_read_53 : decode cX9_read 53 = .ok (.pop, 1) := by decide +kernel
theorem dX9_read_54 : decode cX9_read 54 = .ok (.iinc 3 1, 3) := by decide +kernel
theorem dX9_read_57 : decode cX9_read 57 = .ok (.goto (-35), 3) := by decide +kernel
theorem dX9_read_60 : decode cX9_read 60 = .ok (.iload_n 2, 1) := by decide +kernel
theorem dX9_read_61 : decode cX9_read 61 = .ok (.ireturn, 1) := by decide +kernel
theorem dX9_above_0 : decode cX9_above 0 = .ok (.iload_n 1, 1) := by decide +kernel
theorem dX9_above_1 : decode cX9_above 1 = .ok (.tableswitch 61 0 4 #[35, 37, 43, 47, 53], 35) := by decide +kernel
theorem dX9_above_36 : decode cX9_above 36 = .ok (.iload_n 2, 1) := by decide +kernel
theorem dX9_above_37 : decode cX9_above 37 = .ok (.ireturn, 1) := by decide +kernel
theorem dX9_above_38 : decode cX9_above 38 = .ok (.iconst 2, 1) := by decide +kernel
theorem dX9_above_39 : decode cX9_above 39 = .ok (.iload_n 2, 1) := by decide +kernel
theorem dX9_above_40 : decode cX9_above 40 = .ok (.imul, 1) := by decide +kernel
theorem dX9_above_41 : decode cX9_above 41 = .ok (.iconst 1, 1) := by decide +kernel
theorem dX9_above_42 : decode cX9_above 42 = .ok (.isub, 1) := by decide +kernel
theorem dX9_above_43 : decode cX9_above 43 = .ok (.ireturn, 1) := by decide +kernel
theorem dX9_above_44 : decode cX9_above 44 = .ok (.iload_n 2, 1) := by decide +kernel
theorem dX9_above_45 : decode cX9_above 45 = .ok (.iconst 1, 1) := by decide +kernel
theorem dX9_above_46 : decode cX9_above 46 = .ok (.isub, 1) := by decide +kernel
theorem dX9_above_47 : decode cX9_above 47 = .ok (.ireturn, 1) := by decide +kernel
theorem dX9_above_48 : decode cX9_above 48 = .ok (.iload_n 2, 1) := by decide +kernel
theorem dX9_above_49 : decode cX9_above 49 = .ok (.iload_n 2, 1) := by decide +kernel
theorem dX9_above_50 : decode cX9_above 50 = .ok (.iconst 1, 1) := by decide +kernel
theorem dX9_above_51 : decode cX9_above 51 = .ok (.isub, 1) := by decide +kernel
theorem dX9_above_52 : decode cX9_above 52 = .ok (.imul, 1) := by decide +kernel
theorem dX9_above_53 : decode cX9_above 53 = .ok (.ireturn, 1) := by decide +kernel
theorem dX9_above_54 : decode cX9_above 54 = .ok (.iconst 2, 1) := by decide +kernel
theorem dX9_above_55 : decode cX9_above 55 = .ok (.iload_n 2, 1) := by decide +kernel
theorem dX9_above_56 : decode cX9_above 56 = .ok (.imul, 1) := by decide +kernel
theorem dX9_above_57 : decode cX9_above 57 = .ok (.iload_n 2, 1) := by decide +kernel
theorem dX9_above_58 : decode cX9_above 58 = .ok (.iconst 1, 1) := by decide +kernel
theorem dX9_above_59 : decode cX9_above 59 = .ok (.isub, 1) := by decide +kernel
theorem dX9_above_60 : decode cX9_above 60 = .ok (.imul, 1) := by decide +kernel
theorem dX9_above_61 : decode cX9_above 61 = .ok (.ireturn, 1) := by decide +kernel
theorem dX9_above_62 : decode cX9_above 62 = .ok (.aload_n 0, 1) := by decide +kernel
theorem dX9_above_63 : decode cX9_above 63 = .ok (.getfield 21, 3) := by decide +kernel
theorem dX9_above_66 : decode cX9_above 66 = .ok (.bipush 43, 2) := by decide +kernel
theorem dX9_above_68 : decode cX9_above 68 = .ok (.iaload, 1) := by decide +kernel
theorem dX9_above_69 : decode cX9_above 69 = .ok (.iload_n 2, 1) := by decide +kernel
theorem dX9_above_70 : decode cX9_above 70 = .ok (.iconst 1, 1) := by decide +kernel
theorem dX9_above_71 : decode cX9_above 71 = .ok (.isub, 1) := by decide +kernel
theorem dX9_above_72 : decode cX9_above 72 = .ok (.imul, 1) := by decide +kernel
theorem dX9_above_73 : decode cX9_above 73 = .ok (.aload_n 0, 1) := by decide +kernel
theorem dX9_above_74 : decode cX9_above 74 = .ok (.getfield 21, 3) := by decide +kernel
theorem dX9_above_77 : decode cX9_above 77 = .ok (.bipush 42, 2) := by decide +kernel
theorem dX9_above_79 : decode cX9_above 79 = .ok (.iaload, 1) := by decide +kernel
theorem dX9_above_80 : decode cX9_above 80 = .ok (.iadd, 1) := by decide +kernel
theorem dX9_above_81 : decode cX9_above 81 = .ok (.ireturn, 1) := by decide +kernel
theorem dX9_below_0 : decode cX9_below 0 = .ok (.iload_n 1, 1) := by decide +kernel
theorem dX9_below_1 : decode cX9_below 1 = .ok (.tableswitch 51 1 5 #[35, 51, 51, 37, 43], 35) := by decide +kernel
theorem dX9_below_36 : decode cX9_below 36 = .ok (.iconst 2, 1) := by decide +kernel
theorem dX9_below_37 : decode cX9_below 37 = .ok (.ireturn, 1) := by decide +kernel
theorem dX9_below_38 : decode cX9_below 38 = .ok (.iconst 2, 1) := by decide +kernel
theorem dX9_below_39 : decode cX9_below 39 = .ok (.iload_n 2, 1) := by decide +kernel
theorem dX9_below_40 : decode cX9_below 40 = .ok (.imul, 1) := by decide +kernel
theorem dX9_below_41 : decode cX9_below 41 = .ok (.iconst 1, 1) := by decide +kernel
theorem dX9_below_42 : decode cX9_below 42 = .ok (.isub, 1) := by decide +kernel
theorem dX9_below_43 : decode cX9_below 43 = .ok (.ireturn, 1) := by decide +kernel
theorem dX9_below_44 : decode cX9_below 44 = .ok (.aload_n 0, 1) := by decide +kernel
theorem dX9_below_45 : decode cX9_below 45 = .ok (.getfield 21, 3) := by decide +kernel
theorem dX9_below_48 : decode cX9_below 48 = .ok (.bipush 43, 2) := by decide +kernel
theorem dX9_below_50 : decode cX9_below 50 = .ok (.iaload, 1) := by decide +kernel
theorem dX9_below_51 : decode cX9_below 51 = .ok (.ireturn, 1) := by decide +kernel
theorem dX9_below_52 : decode cX9_below 52 = .ok (.iconst 1, 1) := by decide +kernel
theorem dX9_below_53 : decode cX9_below 53 = .ok (.ireturn, 1) := by decide +kernel
theorem dX9_top_0 : decode cX9_top 0 = .ok (.iload_n 1, 1) := by decide +kernel
theorem dX9_top_1 : decode cX9_top 1 = .ok (.iconst 3, 1) := by decide +kernel
theorem dX9_top_2 : decode cX9_top 2 = .ok (.if_icmp .ne 9, 3) := by decide +kernel
theorem dX9_top_5 : decode cX9_top 5 = .ok (.lload_n 2, 1) := by decide +kernel
theorem dX9_top_6 : decode cX9_top 6 = .ok (.lload_n 2, 1) := by decide +kernel
theorem dX9_top_7 : decode cX9_top 7 = .ok (.lmul, 1) := by decide +kernel
theorem dX9_top_8 : decode cX9_top 8 = .ok (.goto 13, 3) := by decide +kernel
theorem dX9_top_11 : decode cX9_top 11 = .ok (.lload_n 2, 1) := by decide +kernel
theorem dX9_top_12 : decode cX9_top 12 = .ok (.aload_n 0, 1) := by decide +kernel
theorem dX9_top_13 : decode cX9_top 13 = .ok (.iload_n 1, 1) := by decide +kernel
theorem dX9_top_14 : decode cX9_top 14 = .ok (.iload 4, 2) := by decide +kernel
theorem dX9_top_16 : decode cX9_top 16 = .ok (.invokevirtual 175, 3) := by decide +kernel
theorem dX9_top_19 : decode cX9_top 19 = .ok (.i2l, 1) := by decide +kernel
theorem dX9_top_20 : decode cX9_top 20 = .ok (.lmul, 1) := by decide +kernel
theorem dX9_top_21 : decode cX9_top 21 = .ok (.lreturn, 1) := by decide +kernel
theorem dX9_dearer_0 : decode cX9_dearer 0 = .ok (.aload_n 0, 1) := by decide +kernel
theorem dX9_dearer_1 : decode cX9_dearer 1 = .ok (.iload_n 1, 1) := by decide +kernel
theorem dX9_dearer_2 : decode cX9_dearer 2 = .ok (.iload 4, 2) := by decide +kernel
theorem dX9_dearer_4 : decode cX9_dearer 4 = .ok (.invokevirtual 178, 3) := by decide +kernel
theorem dX9_dearer_7 : decode cX9_dearer 7 = .ok (.istore 8, 2) := by decide +kernel
theorem dX9_dearer_9 : decode cX9_dearer 9 = .ok (.aload_n 0, 1) := by decide +kernel
theorem dX9_dearer_10 : decode cX9_dearer 10 = .ok (.iload_n 1, 1) := by decide +kernel
theorem dX9_dearer_11 : decode cX9_dearer 11 = .ok (.iload 7, 2) := by decide +kernel
theorem dX9_dearer_13 : decode cX9_dearer 13 = .ok (.invokevirtual 178, 3) := by decide +kernel
theorem dX9_dearer_16 : decode cX9_dearer 16 = .ok (.istore 9, 2) := by decide +kernel
theorem dX9_dearer_18 : decode cX9_dearer 18 = .ok (.iload 8, 2) := by decide +kernel
theorem dX9_dearer_20 : decode cX9_dearer 20 = .ok (.ifCond .ne 8, 3) := by decide +kernel
theorem dX9_dearer_23 : decode cX9_dearer 23 = .ok (.iload 9, 2) := by decide +kernel
theorem dX9_dearer_25 : decode cX9_dearer 25 = .ok (.ifCond .ne 13, 3) := by decide +kernel
theorem dX9_dearer_28 : decode cX9_dearer 28 = .ok (.iload 8, 2) := by decide +kernel
theorem dX9_dearer_30 : decode cX9_dearer 30 = .ok (.ifCond .eq 19, 3) := by decide +kernel
theorem dX9_dearer_33 : decode cX9_dearer 33 = .ok (.iload 9, 2) := by decide +kernel
theorem dX9_dearer_35 : decode cX9_dearer 35 = .ok (.ifCond .ne 14, 3) := by decide +kernel
theorem dX9_dearer_38 : decode cX9_dearer 38 = .ok (.iload 8, 2) := by decide +kernel
theorem dX9_dearer_40 : decode cX9_dearer 40 = .ok (.ifCond .ne 7, 3) := by decide +kernel
theorem dX9_dearer_43 : decode cX9_dearer 43 = .ok (.iconst 1, 1) := by decide +kernel
theorem dX9_dearer_44 : decode cX9_dearer 44 = .ok (.goto 4, 3) := by decide +kernel
theorem dX9_dearer_47 : decode cX9_dearer 47 = .ok (.iconst (-1), 1) := by decide +kernel
theorem dX9_dearer_48 : decode cX9_dearer 48 = .ok (.ireturn, 1) := by decide +kernel
theorem dX9_dearer_49 : decode cX9_dearer 49 = .ok (.iload 8, 2) := by decide +kernel
theorem dX9_dearer_51 : decode cX9_dearer 51 = .ok (.ifCond .ne 7, 3) := by decide +kernel
theorem dX9_dearer_54 : decode cX9_dearer 54 = .ok (.lload_n 2, 1) := by decide +kernel
theorem dX9_dearer_55 : decode cX9_dearer 55 = .ok (.goto 15, 3) := by decide +kernel
theorem dX9_dearer_58 : decode cX9_dearer 58 = .ok (.aload_n 0, 1) := by decide +kernel
theorem dX9_dearer_59 : decode cX9_dearer 59 = .ok (.iload_n 1, 1) := by decide +kernel
theorem dX9_dearer_60 : decode cX9_dearer 60 = .ok (.lload_n 2, 1) := by decide +kernel
theorem dX9_dearer_61 : decode cX9_dearer 61 = .ok (.iload 4, 2) := by decide +kernel
theorem dX9_dearer_63 : decode cX9_dearer 63 = .ok (.invokevirtual 181, 3) := by decide +kernel
theorem dX9_dearer_66 : decode cX9_dearer 66 = .ok (.iload 9, 2) := by decide +kernel
theorem dX9_dearer_68 : decode cX9_dearer 68 = .ok (.i2l, 1) := by decide +kernel
theorem dX9_dearer_69 : decode cX9_dearer 69 = .ok (.lmul, 1) := by decide +kernel
theorem dX9_dearer_70 : decode cX9_dearer 70 = .ok (.lstore 10, 2) := by decide +kernel
theorem dX9_dearer_72 : decode cX9_dearer 72 = .ok (.iload 8, 2) := by decide +kernel
theorem dX9_dearer_74 : decode cX9_dearer 74 = .ok (.ifCond .ne 8, 3) := by decide +kernel
theorem dX9_dearer_77 : decode cX9_dearer 77 = .ok (.lload 5, 2) := by decide +kernel
theorem dX9_dearer_79 : decode cX9_dearer 79 = .ok (.goto 16, 3) := by decide +kernel
theorem dX9_dearer_82 : decode cX9_dearer 82 = .ok (.aload_n 0, 1) := by decide +kernel
theorem dX9_dearer_83 : decode cX9_dearer 83 = .ok (.iload_n 1, 1) := by decide +kernel
theorem dX9_dearer_84 : decode cX9_dearer 84 = .ok (.lload 5, 2) := by decide +kernel
theorem dX9_dearer_86 : decode cX9_dearer 86 = .ok (.iload 7, 2) := by decide +kernel
theorem dX9_dearer_88 : decode cX9_dearer 88 = .ok (.invokevirtual 181, 3) := by decide +kernel
theorem dX9_dearer_91 : decode cX9_dearer 91 = .ok (.iload 8, 2) := by decide +kernel
theorem dX9_dearer_93 : decode cX9_dearer 93 = .ok (.i2l, 1) := by decide +kernel
theorem dX9_dearer_94 : decode cX9_dearer 94 = .ok (.lmul, 1) := by decide +kernel
theorem dX9_dearer_95 : decode cX9_dearer 95 = .ok (.lstore 12, 2) := by decide +kernel
theorem dX9_dearer_97 : decode cX9_dearer 97 = .ok (.lload 10, 2) := by decide +kernel
theorem dX9_dearer_99 : decode cX9_dearer 99 = .ok (.lload 12, 2) := by decide +kernel
theorem dX9_dearer_101 : decode cX9_dearer 101 = .ok (.lcmp, 1) := by decide +kernel
theorem dX9_dearer_102 : decode cX9_dearer 102 = .ok (.ifCond .le 7, 3) := by decide +kernel
theorem dX9_dearer_105 : decode cX9_dearer 105 = .ok (.iconst 1, 1) := by decide +kernel
theorem dX9_dearer_106 : decode cX9_dearer 106 = .ok (.goto 16, 3) := by decide +kernel
theorem dX9_dearer_109 : decode cX9_dearer 109 = .ok (.lload 10, 2) := by decide +kernel
theorem dX9_dearer_111 : decode cX9_dearer 111 = .ok (.lload 12, 2) := by decide +kernel
theorem dX9_dearer_113 : decode cX9_dearer 113 = .ok (.lcmp, 1) := by decide +kernel
theorem dX9_dearer_114 : decode cX9_dearer 114 = .ok (.ifCond .ge 7, 3) := by decide +kernel
theorem dX9_dearer_117 : decode cX9_dearer 117 = .ok (.iconst (-1), 1) := by decide +kernel
theorem dX9_dearer_118 : decode cX9_dearer 118 = .ok (.goto 4, 3) := by decide +kernel
theorem dX9_dearer_121 : decode cX9_dearer 121 = .ok (.iconst 0, 1) := by decide +kernel
theorem dX9_dearer_122 : decode cX9_dearer 122 = .ok (.ireturn, 1) := by decide +kernel
theorem dX9_divisor_0 : decode cX9_divisor 0 = .ok (.lload_n 0, 1) := by decide +kernel
theorem dX9_divisor_1 : decode cX9_divisor 1 = .ok (.lstore 4, 2) := by decide +kernel
theorem dX9_divisor_3 : decode cX9_divisor 3 = .ok (.lload_n 2, 1) := by decide +kernel
theorem dX9_divisor_4 : decode cX9_divisor 4 = .ok (.lstore 6, 2) := by decide +kernel
theorem dX9_divisor_6 : decode cX9_divisor 6 = .ok (.lload 6, 2) := by decide +kernel
theorem dX9_divisor_8 : decode cX9_divisor 8 = .ok (.lconst 0, 1) := by decide +kernel
theorem dX9_divisor_9 : decode cX9_divisor 9 = .ok (.lcmp, 1) := by decide +kernel
theorem dX9_divisor_10 : decode cX9_divisor 10 = .ok (.ifCond .eq 21, 3) := by decide +kernel
theorem dX9_divisor_13 : decode cX9_divisor 13 = .ok (.lload 4, 2) := by decide +kernel
theorem dX9_divisor_15 : decode cX9_divisor 15 = .ok (.lload 6, 2) := by decide +kernel
theorem dX9_divisor_17 : decode cX9_divisor 17 = .ok (.lrem, 1) := by decide +kernel
theorem dX9_divisor_18 : decode cX9_divisor 18 = .ok (.lstore 8, 2) := by decide +kernel
theorem dX9_divisor_20 : decode cX9_divisor 20 = .ok (.lload 6, 2) := by decide +kernel
theorem dX9_divisor_22 : decode cX9_divisor 22 = .ok (.lstore 4, 2) := by decide +kernel
theorem dX9_divisor_24 : decode cX9_divisor 24 = .ok (.lload 8, 2) := by decide +kernel
theorem dX9_divisor_26 : decode cX9_divisor 26 = .ok (.lstore 6, 2) := by decide +kernel
theorem dX9_divisor_28 : decode cX9_divisor 28 = .ok (.goto (-22), 3) := by decide +kernel
theorem dX9_divisor_31 : decode cX9_divisor 31 = .ok (.lload 4, 2) := by decide +kernel
theorem dX9_divisor_33 : decode cX9_divisor 33 = .ok (.lreturn, 1) := by decide +kernel
theorem dX9_lowest_0 : decode cX9_lowest 0 = .ok (.lload_n 0, 1) := by decide +kernel
theorem dX9_lowest_1 : decode cX9_lowest 1 = .ok (.lload_n 2, 1) := by decide +kernel
theorem dX9_lowest_2 : decode cX9_lowest 2 = .ok (.invokestatic 185, 3) := by decide +kernel
theorem dX9_lowest_5 : decode cX9_lowest 5 = .ok (.lstore 5, 2) := by decide +kernel
theorem dX9_lowest_7 : decode cX9_lowest 7 = .ok (.iload 4, 2) := by decide +kernel
theorem dX9_lowest_9 : decode cX9_lowest 9 = .ok (.ifCond .ne 10, 3) := by decide +kernel
theorem dX9_lowest_12 : decode cX9_lowest 12 = .ok (.lload_n 0, 1) := by decide +kernel
theorem dX9_lowest_13 : decode cX9_lowest 13 = .ok (.lload 5, 2) := by decide +kernel
theorem dX9_lowest_15 : decode cX9_lowest 15 = .ok (.ldiv, 1) := by decide +kernel
theorem dX9_lowest_16 : decode cX9_lowest 16 = .ok (.goto 7, 3) := by decide +kernel
theorem dX9_lowest_19 : decode cX9_lowest 19 = .ok (.lload_n 2, 1) := by decide +kernel
theorem dX9_lowest_20 : decode cX9_lowest 20 = .ok (.lload 5, 2) := by decide +kernel
theorem dX9_lowest_22 : decode cX9_lowest 22 = .ok (.ldiv, 1) := by decide +kernel
theorem dX9_lowest_23 : decode cX9_lowest 23 = .ok (.lreturn, 1) := by decide +kernel
theorem dX9_isPart_0 : decode cX9_isPart 0 = .ok (.iload_n 0, 1) := by decide +kernel
theorem dX9_isPart_1 : decode cX9_isPart 1 = .ok (.ifCond .eq 8, 3) := by decide +kernel
theorem dX9_isPart_4 : decode cX9_isPart 4 = .ok (.iload_n 0, 1) := by decide +kernel
theorem dX9_isPart_5 : decode cX9_isPart 5 = .ok (.iconst 1, 1) := by decide +kernel
theorem dX9_isPart_6 : decode cX9_isPart 6 = .ok (.if_icmp .ne 7, 3) := by decide +kernel
theorem dX9_isPart_9 : decode cX9_isPart 9 = .ok (.iconst 1, 1) := by decide +kernel
theorem dX9_isPart_10 : decode cX9_isPart 10 = .ok (.goto 4, 3) := by decide +kernel
theorem dX9_isPart_13 : decode cX9_isPart 13 = .ok (.iconst 0, 1) := by decide +kernel
theorem dX9_isPart_14 : decode cX9_isPart 14 = .ok (.ireturn, 1) := by decide +kernel
theorem dX9_price_0 : decode cX9_price 0 = .ok (.iload_n 1, 1) := by decide +kernel
theorem dX9_price_1 : decode cX9_price 1 = .ok (.invokestatic 133, 3) := by decide +kernel
theorem dX9_price_4 : decode cX9_price 4 = .ok (.ifCond .eq 43, 3) := by decide +kernel
theorem dX9_price_7 : decode cX9_price 7 = .ok (.iload_n 2, 1) := by decide +kernel
theorem dX9_price_8 : decode cX9_price 8 = .ok (.i2l, 1) := by decide +kernel
theorem dX9_price_9 : decode cX9_price 9 = .ok (.lconst 1, 1) := by decide +kernel
theorem dX9_price_10 : decode cX9_price 10 = .ok (.ldc2_w 13, 3) := by decide +kernel
theorem dX9_price_13 : decode cX9_price 13 = .ok (.invokestatic 7, 3) := by decide +kernel
theorem dX9_price_16 : decode cX9_price 16 = .ok (.ifCond .eq 31, 3) := by decide +kernel
theorem dX9_price_19 : decode cX9_price 19 = .ok (.iload_n 3, 1) := by decide +kernel
theorem dX9_price_20 : decode cX9_price 20 = .ok (.invokestatic 189, 3) := by decide +kernel
theorem dX9_price_23 : decode cX9_price 23 = .ok (.ifCond .eq 24, 3) := by decide +kernel
theorem dX9_price_26 : decode cX9_price 26 = .ok (.aload_n 0, 1) := by decide +kernel
theorem dX9_price_27 : decode cX9_price 27 = .ok (.invokevirtual 192, 3) := by decide +kernel
theorem dX9_price_30 : decode cX9_price 30 = .ok (.bipush 6, 2) := by decide +kernel
theorem dX9_price_32 : decode cX9_price 32 = .ok (.if_icmp .eq 15, 3) := by decide +kernel
theorem dX9_price_35 : decode cX9_price 35 = .ok (.aload_n 0, 1) := by decide +kernel
theorem dX9_price_36 : decode cX9_price 36 = .ok (.aload_n 0, 1) := by decide +kernel
theorem dX9_price_37 : decode cX9_price 37 = .ok (.invokevirtual 192, 3) := by decide +kernel
theorem dX9_price_40 : decode cX9_price 40 = .ok (.iload_n 2, 1) := by decide +kernel
theorem dX9_price_41 : decode cX9_price 41 = .ok (.invokevirtual 178, 3) := by decide +kernel
theorem dX9_price_44 : decode cX9_price 44 = .ok (.ifCond .ne 7, 3) := by decide +kernel
theorem dX9_price_47 : decode cX9_price 47 = .ok (.ldc2_w 195, 3) := by decide +kernel
theorem dX9_price_50 : decode cX9_price 50 = .ok (.lreturn, 1) := by decide +kernel
theorem dX9_price_51 : decode cX9_price 51 = .ok (.aload_n 0, 1) := by decide +kernel
theorem dX9_price_52 : decode cX9_price 52 = .ok (.aload_n 0, 1) := by decide +kernel
theorem dX9_price_53 : decode cX9_price 53 = .ok (.invokevirtual 192, 3) := by decide +kernel
theorem dX9_price_56 : decode cX9_price 56 = .ok (.aload_n 0, 1) := by decide +kernel
theorem dX9_price_57 : decode cX9_price 57 = .ok (.iload_n 1, 1) := by decide +kernel
theorem dX9_price_58 : decode cX9_price 58 = .ok (.invokevirtual 120, 3) := by decide +kernel
theorem dX9_price_61 : decode cX9_price 61 = .ok (.i2l, 1) := by decide +kernel
theorem dX9_price_62 : decode cX9_price 62 = .ok (.iload_n 2, 1) := by decide +kernel
theorem dX9_price_63 : decode cX9_price 63 = .ok (.invokevirtual 181, 3) := by decide +kernel
theorem dX9_price_66 : decode cX9_price 66 = .ok (.aload_n 0, 1) := by decide +kernel
theorem dX9_price_67 : decode cX9_price 67 = .ok (.aload_n 0, 1) := by decide +kernel
theorem dX9_price_68 : decode cX9_price 68 = .ok (.invokevirtual 192, 3) := by decide +kernel
theorem dX9_price_71 : decode cX9_price 71 = .ok (.iload_n 2, 1) := by decide +kernel
theorem dX9_price_72 : decode cX9_price 72 = .ok (.invokevirtual 178, 3) := by decide +kernel
theorem dX9_price_75 : decode cX9_price 75 = .ok (.i2l, 1) := by decide +kernel
theorem dX9_price_76 : decode cX9_price 76 = .ok (.iload_n 3, 1) := by decide +kernel
theorem dX9_price_77 : decode cX9_price 77 = .ok (.invokestatic 197, 3) := by decide +kernel
theorem dX9_price_80 : decode cX9_price 80 = .ok (.lreturn, 1) := by decide +kernel
theorem dX9_nobodyClaims_0 : decode cX9_nobodyClaims 0 = .ok (.iconst 0, 1) := by decide +kernel
theorem dX9_nobodyClaims_1 : decode cX9_nobodyClaims 1 = .ok (.istore_n 1, 1) := by decide +kernel
theorem dX9_nobodyClaims_2 : decode cX9_nobodyClaims 2 = .ok (.iload_n 1, 1) := by decide +kernel
theorem dX9_nobodyClaims_3 : decode cX9_nobodyClaims 3 = .ok (.bipush 6, 2) := by decide +kernel
theorem dX9_nobodyClaims_5 : decode cX9_nobodyClaims 5 = .ok (.if_icmp .ge 30, 3) := by decide +kernel
theorem dX9_nobodyClaims_8 : decode cX9_nobodyClaims 8 = .ok (.aload_n 0, 1) := by decide +kernel
theorem dX9_nobodyClaims_9 : decode cX9_nobodyClaims 9 = .ok (.getfield 34, 3) := by decide +kernel
theorem dX9_nobodyClaims_12 : decode cX9_nobodyClaims 12 = .ok (.iload_n 1, 1) := by decide +kernel
theorem dX9_nobodyClaims_13 : decode cX9_nobodyClaims 13 = .ok (.iconst 0, 1) := by decide +kernel
theorem dX9_nobodyClaims_14 : decode cX9_nobodyClaims 14 = .ok (.bastore, 1) := by decide +kernel
theorem dX9_nobodyClaims_15 : decode cX9_nobodyClaims 15 = .ok (.aload_n 0, 1) := by decide +kernel
theorem dX9_nobodyClaims_16 : decode cX9_nobodyClaims 16 = .ok (.getfield 38, 3) := by decide +kernel
theorem dX9_nobodyClaims_19 : decode cX9_nobodyClaims 19 = .ok (.iload_n 1, 1) := by decide +kernel
theorem dX9_nobodyClaims_20 : decode cX9_nobodyClaims 20 = .ok (.iconst 0, 1) := by decide +kernel
theorem dX9_nobodyClaims_21 : decode cX9_nobodyClaims 21 = .ok (.iastore, 1) := by decide +kernel
theorem dX9_nobodyClaims_22 : decode cX9_nobodyClaims 22 = .ok (.aload_n 0, 1) := by decide +kernel
theorem dX9_nobodyClaims_23 : decode cX9_nobodyClaims 23 = .ok (.getfield 41, 3) := by decide +kernel
theorem dX9_nobodyClaims_26 : decode cX9_nobodyClaims 26 = .ok (.iload_n 1, 1) := by decide +kernel
theorem dX9_nobodyClaims_27 : decode cX9_nobodyClaims 27 = .ok (.iconst 0, 1) := by decide +kernel
theorem dX9_nobodyClaims_28 : decode cX9_nobodyClaims 28 = .ok (.iastore, 1) := by decide +kernel
theorem dX9_nobodyClaims_29 : decode cX9_nobodyClaims 29 = .ok (.iinc 1 1, 3) := by decide +kernel
theorem dX9_nobodyClaims_32 : decode cX9_nobodyClaims 32 = .ok (.goto (-30), 3) := by decide +kernel
theorem dX9_nobodyClaims_35 : decode cX9_nobodyClaims 35 = .ok (.return_, 1) := by decide +kernel
theorem dX9_claims_0 : decode cX9_claims 0 = .ok (.aload_n 0, 1) := by decide +kernel
theorem dX9_claims_1 : decode cX9_claims 1 = .ok (.getfield 34, 3) := by decide +kernel
theorem dX9_claims_4 : decode cX9_claims 4 = .ok (.iload_n 1, 1) := by decide +kernel
theorem dX9_claims_5 : decode cX9_claims 5 = .ok (.iconst 1, 1) := by decide +kernel
theorem dX9_claims_6 : decode cX9_claims 6 = .ok (.bastore, 1) := by decide +kernel
theorem dX9_claims_7 : decode cX9_claims 7 = .ok (.aload_n 0, 1) := by decide +kernel
theorem dX9_claims_8 : decode cX9_claims 8 = .ok (.getfield 38, 3) := by decide +kernel
theorem dX9_claims_11 : decode cX9_claims 11 = .ok (.iload_n 1, 1) := by decide +kernel
theorem dX9_claims_12 : decode cX9_claims 12 = .ok (.dup2, 1) := by decide +kernel
theorem dX9_claims_13 : decode cX9_claims 13 = .ok (.iaload, 1) := by decide +kernel
theorem dX9_claims_14 : decode cX9_claims 14 = .ok (.iload_n 2, 1) := by decide +kernel
theorem dX9_claims_15 : decode cX9_claims 15 = .ok (.iadd, 1) := by decide +kernel
theorem dX9_claims_16 : decode cX9_claims 16 = .ok (.iastore, 1) := by decide +kernel
theorem dX9_claims_17 : decode cX9_claims 17 = .ok (.aload_n 0, 1) := by decide +kernel
theorem dX9_claims_18 : decode cX9_claims 18 = .ok (.getfield 41, 3) := by decide +kernel
theorem dX9_claims_21 : decode cX9_claims 21 = .ok (.iload_n 1, 1) := by decide +kernel
theorem dX9_claims_22 : decode cX9_claims 22 = .ok (.dup2, 1) := by decide +kernel
theorem dX9_claims_23 : decode cX9_claims 23 = .ok (.iaload, 1) := by decide +kernel
theorem dX9_claims_24 : decode cX9_claims 24 = .ok (.iload_n 3, 1) := by decide +kernel
theorem dX9_claims_25 : decode cX9_claims 25 = .ok (.iadd, 1) := by decide +kernel
theorem dX9_claims_26 : decode cX9_claims 26 = .ok (.iastore, 1) := by decide +kernel
theorem dX9_claims_27 : decode cX9_claims 27 = .ok (.return_, 1) := by decide +kernel
theorem dX9_gives_0 : decode cX9_gives 0 = .ok (.aload_n 0, 1) := by decide +kernel
theorem dX9_gives_1 : decode cX9_gives 1 = .ok (.iconst 0, 1) := by decide +kernel
theorem dX9_gives_2 : decode cX9_gives 2 = .ok (.putfield 201, 3) := by decide +kernel
theorem dX9_gives_5 : decode cX9_gives 5 = .ok (.aload_n 0, 1) := by decide +kernel
theorem dX9_gives_6 : decode cX9_gives 6 = .ok (.iconst 0, 1) := by decide +kernel
theorem dX9_gives_7 : decode cX9_gives 7 = .ok (.putfield 204, 3) := by decide +kernel
theorem dX9_gives_10 : decode cX9_gives 10 = .ok (.iload_n 1, 1) := by decide +kernel
theorem dX9_gives_11 : decode cX9_gives 11 = .ok (.bipush 6, 2) := by decide +kernel
theorem dX9_gives_13 : decode cX9_gives 13 = .ok (.if_icmp .ne 11, 3) := by decide +kernel
theorem dX9_gives_16 : decode cX9_gives 16 = .ok (.aload_n 0, 1) := by decide +kernel
theorem dX9_gives_17 : decode cX9_gives 17 = .ok (.iload_n 2, 1) := by decide +kernel
theorem dX9_gives_18 : decode cX9_gives 18 = .ok (.invokevirtual 207, 3) := by decide +kernel
theorem dX9_gives_21 : decode cX9_gives 21 = .ok (.goto 9, 3) := by decide +kernel
theorem dX9_gives_24 : decode cX9_gives 24 = .ok (.aload_n 0, 1) := by decide +kernel
theorem dX9_gives_25 : decode cX9_gives 25 = .ok (.iload_n 1, 1) := by decide +kernel
theorem dX9_gives_26 : decode cX9_gives 26 = .ok (.iload_n 2, 1) := by decide +kernel
theorem dX9_gives_27 : decode cX9_gives 27 = .ok (.invokevirtual 210, 3) := by decide +kernel
theorem dX9_gives_30 : decode cX9_gives 30 = .ok (.ireturn, 1) := by decide +kernel
theorem dX9_givesByPrice_0 : decode cX9_givesByPrice 0 = .ok (.iload_n 2, 1) := by decide +kernel
theorem dX9_givesByPrice_1 : decode cX9_givesByPrice 1 = .ok (.istore_n 3, 1) := by decide +kernel
theorem dX9_givesByPrice_2 : decode cX9_givesByPrice 2 = .ok (.iconst 0, 1) := by decide +kernel
theorem dX9_givesByPrice_3 : decode cX9_givesByPrice 3 = .ok (.istore 4, 2) := by decide +kernel
theorem dX9_givesByPrice_5 : decode cX9_givesByPrice 5 = .ok (.iload 4, 2) := by decide +kernel
theorem dX9_givesByPrice_7 : decode cX9_givesByPrice 7 = .ok (.bipush 6, 2) := by decide +kernel
theorem dX9_givesByPrice_9 : decode cX9_givesByPrice 9 = .ok (.if_icmp .ge 33, 3) := by decide +kernel
theorem dX9_givesByPrice_12 : decode cX9_givesByPrice 12 = .ok (.aload_n 0, 1) := by decide +kernel
theorem dX9_givesByPrice_13 : decode cX9_givesByPrice 13 = .ok (.getfield 44, 3) := by decide +kernel
theorem dX9_givesByPrice_16 : decode cX9_givesByPrice 16 = .ok (.iload 4, 2) := by decide +kernel
theorem dX9_givesByPrice_18 : decode cX9_givesByPrice 18 = .ok (.aload_n 0, 1) := by decide +kernel
theorem dX9_givesByPrice_19 : decode cX9_givesByPrice 19 = .ok (.getfield 41, 3) := by decide +kernel
theorem dX9_givesByPrice_22 : decode cX9_givesByPrice 22 = .ok (.iload 4, 2) := by decide +kernel
theorem dX9_givesByPrice_24 : decode cX9_givesByPrice 24 = .ok (.iaload, 1) := by decide +kernel
theorem dX9_givesByPrice_25 : decode cX9_givesByPrice 25 = .ok (.iastore, 1) := by decide +kernel
theorem dX9_givesByPrice_26 : decode cX9_givesByPrice 26 = .ok (.iload_n 3, 1) := by decide +kernel
theorem dX9_givesByPrice_27 : decode cX9_givesByPrice 27 = .ok (.aload_n 0, 1) := by decide +kernel
theorem dX9_givesByPrice_28 : decode cX9_givesByPrice 28 = .ok (.getfield 41, 3) := by decide +kernel
theorem dX9_givesByPrice_31 : decode cX9_givesByPrice 31 = .ok (.iload 4, 2) := by decide +kernel
theorem dX9_givesByPrice_33 : decode cX9_givesByPrice 33 = .ok (.iaload, 1) := by decide +kernel
theorem dX9_givesByPrice_34 : decode cX9_givesByPrice 34 = .ok (.isub, 1) := by decide +kernel
theorem dX9_givesByPrice_35 : decode cX9_givesByPrice 35 = .ok (.istore_n 3, 1) := by decide +kernel
theorem dX9_givesByPrice_36 : decode cX9_givesByPrice 36 = .ok (.iinc 4 1, 3) := by decide +kernel
theorem dX9_givesByPrice_39 : decode cX9_givesByPrice 39 = .ok (.goto (-34), 3) := by decide +kernel
theorem dX9_givesByPrice_42 : decode cX9_givesByPrice 42 = .ok (.iload_n 3, 1) := by decide +kernel
theorem dX9_givesByPrice_43 : decode cX9_givesByPrice 43 = .ok (.istore 4, 2) := by decide +kernel
theorem dX9_givesByPrice_45 : decode cX9_givesByPrice 45 = .ok (.iload 4, 2) := by decide +kernel
theorem dX9_givesByPrice_47 : decode cX9_givesByPrice 47 = .ok (.ifCond .le 153, 3) := by decide +kernel
theorem dX9_givesByPrice_50 : decode cX9_givesByPrice 50 = .ok (.aload_n 0, 1) := by decide +kernel
theorem dX9_givesByPrice_51 : decode cX9_givesByPrice 51 = .ok (.iload_n 1, 1) := by decide +kernel
theorem dX9_givesByPrice_52 : decode cX9_givesByPrice 52 = .ok (.invokevirtual 214, 3) := by decide +kernel
theorem dX9_givesByPrice_55 : decode cX9_givesByPrice 55 = .ok (.istore 5, 2) := by decide +kernel
theorem dX9_givesByPrice_57 : decode cX9_givesByPrice 57 = .ok (.iload 5, 2) := by decide +kernel
theorem dX9_givesByPrice_59 : decode cX9_givesByPrice 59 = .ok (.iconst (-1), 1) := by decide +kernel
theorem dX9_givesByPrice_60 : decode cX9_givesByPrice 60 = .ok (.if_icmp .ne 5, 3) := by decide +kernel
theorem dX9_givesByPrice_63 : decode cX9_givesByPrice 63 = .ok (.iconst 0, 1) := by decide +kernel
theorem dX9_givesByPrice_64 : decode cX9_givesByPrice 64 = .ok (.ireturn, 1) := by decide +kernel
theorem dX9_givesByPrice_65 : decode cX9_givesByPrice 65 = .ok (.aload_n 0, 1) := by decide +kernel
theorem dX9_givesByPrice_66 : decode cX9_givesByPrice 66 = .ok (.iconst 0, 1) := by decide +kernel
theorem dX9_givesByPrice_67 : decode cX9_givesByPrice 67 = .ok (.putfield 204, 3) := by decide +kernel
theorem dX9_givesByPrice_70 : decode cX9_givesByPrice 70 = .ok (.iconst 0, 1) := by decide +kernel
theorem dX9_givesByPrice_71 : decode cX9_givesByPrice 71 = .ok (.istore 6, 2) := by decide +kernel
theorem dX9_givesByPrice_73 : decode cX9_givesByPrice 73 = .ok (.iload 6, 2) := by decide +kernel
theorem dX9_givesByPrice_75 : decode cX9_givesByPrice 75 = .ok (.bipush 6, 2) := by decide +kernel
theorem dX9_givesByPrice_77 : decode cX9_givesByPrice 77 = .ok (.if_icmp .ge 85, 3) := by decide +kernel
theorem dX9_givesByPrice_80 : decode cX9_givesByPrice 80 = .ok (.aload_n 0, 1) := by decide +kernel
theorem dX9_givesByPrice_81 : decode cX9_givesByPrice 81 = .ok (.dup, 1) := by decide +kernel
theorem dX9_givesByPrice_82 : decode cX9_givesByPrice 82 = .ok (.getfield 204, 3) := by decide +kernel
theorem dX9_givesByPrice_85 : decode cX9_givesByPrice 85 = .ok (.iload 6, 2) := by decide +kernel
theorem dX9_givesByPrice_87 : decode cX9_givesByPrice 87 = .ok (.iload 5, 2) := by decide +kernel
theorem dX9_givesByPrice_89 : decode cX9_givesByPrice 89 = .ok (.if_icmp .eq 62, 3) := by decide +kernel
theorem dX9_givesByPrice_92 : decode cX9_givesByPrice 92 = .ok (.aload_n 0, 1) := by decide +kernel
theorem dX9_givesByPrice_93 : decode cX9_givesByPrice 93 = .ok (.getfield 34, 3) := by decide +kernel
theorem dX9_givesByPrice_96 : decode cX9_givesByPrice 96 = .ok (.iload 6, 2) := by decide +kernel
theorem dX9_givesByPrice_98 : decode cX9_givesByPrice 98 = .ok (.baload, 1) := by decide +kernel
theorem dX9_givesByPrice_99 : decode cX9_givesByPrice 99 = .ok (.ifCond .eq 52, 3) := by decide +kernel
theorem dX9_givesByPrice_102 : decode cX9_givesByPrice 102 = .ok (.aload_n 0, 1) := by decide +kernel
theorem dX9_givesByPrice_103 : decode cX9_givesByPrice 103 = .ok (.iload_n 1, 1) := by decide +kernel
theorem dX9_givesByPrice_104 : decode cX9_givesByPrice 104 = .ok (.aload_n 0, 1) := by decide +kernel
theorem dX9_givesByPrice_105 : decode cX9_givesByPrice 105 = .ok (.getfield 38, 3) := by decide +kernel
theorem dX9_givesByPrice_108 : decode cX9_givesByPrice 108 = .ok (.iload 6, 2) := by decide +kernel
theorem dX9_givesByPrice_110 : decode cX9_givesByPrice 110 = .ok (.iaload, 1) := by decide +kernel
theorem dX9_givesByPrice_111 : decode cX9_givesByPrice 111 = .ok (.i2l, 1) := by decide +kernel
theorem dX9_givesByPrice_112 : decode cX9_givesByPrice 112 = .ok (.aload_n 0, 1) := by decide +kernel
theorem dX9_givesByPrice_113 : decode cX9_givesByPrice 113 = .ok (.getfield 44, 3) := by decide +kernel
theorem dX9_givesByPrice_116 : decode cX9_givesByPrice 116 = .ok (.iload 6, 2) := by decide +kernel
theorem dX9_givesByPrice_118 : decode cX9_givesByPrice 118 = .ok (.iaload, 1) := by decide +kernel
theorem dX9_givesByPrice_119 : decode cX9_givesByPrice 119 = .ok (.iconst 1, 1) := by decide +kernel
theorem dX9_givesByPrice_120 : decode cX9_givesByPrice 120 = .ok (.iadd, 1) := by decide +kernel
theorem dX9_givesByPrice_121 : decode cX9_givesByPrice 121 = .ok (.aload_n 0, 1) := by decide +kernel
theorem dX9_givesByPrice_122 : decode cX9_givesByPrice 122 = .ok (.getfield 38, 3) := by decide +kernel
theorem dX9_givesByPrice_125 : decode cX9_givesByPrice 125 = .ok (.iload 5, 2) := by decide +kernel
theorem dX9_givesByPrice_127 : decode cX9_givesByPrice 127 = .ok (.iaload, 1) := by decide +kernel
theorem dX9_givesByPrice_128 : decode cX9_givesByPrice 128 = .ok (.i2l, 1) := by decide +kernel
theorem dX9_givesByPrice_129 : decode cX9_givesByPrice 129 = .ok (.aload_n 0, 1) := by decide +kernel
theorem dX9_givesByPrice_130 : decode cX9_givesByPrice 130 = .ok (.getfield 44, 3) := by decide +kernel
theorem dX9_givesByPrice_133 : decode cX9_givesByPrice 133 = .ok (.iload 5, 2) := by decide +kernel
theorem dX9_givesByPrice_135 : decode cX9_givesByPrice 135 = .ok (.iaload, 1) := by decide +kernel
theorem dX9_givesByPrice_136 : decode cX9_givesByPrice 136 = .ok (.iconst 1, 1) := by decide +kernel
theorem dX9_givesByPrice_137 : decode cX9_givesByPrice 137 = .ok (.iadd, 1) := by decide +kernel
theorem dX9_givesByPrice_138 : decode cX9_givesByPrice 138 = .ok (.invokevirtual 217, 3) := by decide +kernel
theorem dX9_givesByPrice_141 : decode cX9_givesByPrice 141 = .ok (.ifCond .ne 10, 3) := by decide +kernel
theorem dX9_givesByPrice_144 : decode cX9_givesByPrice 144 = .ok (.iconst 1, 1) := by decide +kernel
theorem dX9_givesByPrice_145 : decode cX9_givesByPrice 145 = .ok (.iload 6, 2) := by decide +kernel
theorem dX9_givesByPrice_147 : decode cX9_givesByPrice 147 = .ok (.ishl, 1) := by decide +kernel
theorem dX9_givesByPrice_148 : decode cX9_givesByPrice 148 = .ok (.goto 4, 3) := by decide +kernel
theorem dX9_givesByPrice_151 : decode cX9_givesByPrice 151 = .ok (.iconst 0, 1) := by decide +kernel
theorem dX9_givesByPrice_152 : decode cX9_givesByPrice 152 = .ok (.ior, 1) := by decide +kernel
theorem dX9_givesByPrice_153 : decode cX9_givesByPrice 153 = .ok (.putfield 204, 3) := by decide +kernel
theorem dX9_givesByPrice_156 : decode cX9_givesByPrice 156 = .ok (.iinc 6 1, 3) := by decide +kernel
theorem dX9_givesByPrice_159 : decode cX9_givesByPrice 159 = .ok (.goto (-86), 3) := by decide +kernel
theorem dX9_givesByPrice_162 : decode cX9_givesByPrice 162 = .ok (.aload_n 0, 1) := by decide +kernel
theorem dX9_givesByPrice_163 : decode cX9_givesByPrice 163 = .ok (.getfield 47, 3) := by decide +kernel
theorem dX9_givesByPrice_166 : decode cX9_givesByPrice 166 = .ok (.aload_n 0, 1) := by decide +kernel
theorem dX9_givesByPrice_167 : decode cX9_givesByPrice 167 = .ok (.getfield 201, 3) := by decide +kernel
theorem dX9_givesByPrice_170 : decode cX9_givesByPrice 170 = .ok (.iload 5, 2) := by decide +kernel
theorem dX9_givesByPrice_172 : decode cX9_givesByPrice 172 = .ok (.iastore, 1) := by decide +kernel
theorem dX9_givesByPrice_173 : decode cX9_givesByPrice 173 = .ok (.aload_n 0, 1) := by decide +kernel
theorem dX9_givesByPrice_174 : decode cX9_givesByPrice 174 = .ok (.dup, 1) := by decide +kernel
theorem dX9_givesByPrice_175 : decode cX9_givesByPrice 175 = .ok (.getfield 201, 3) := by decide +kernel
theorem dX9_givesByPrice_178 : decode cX9_givesByPrice 178 = .ok (.iconst 1, 1) := by decide +kernel
theorem dX9_givesByPrice_179 : decode cX9_givesByPrice 179 = .ok (.iadd, 1) := by decide +kernel
theorem dX9_givesByPrice_180 : decode cX9_givesByPrice 180 = .ok (.putfield 201, 3) := by decide +kernel
theorem dX9_givesByPrice_183 : decode cX9_givesByPrice 183 = .ok (.aload_n 0, 1) := by decide +kernel
theorem dX9_givesByPrice_184 : decode cX9_givesByPrice 184 = .ok (.getfield 44, 3) := by decide +kernel
theorem dX9_givesByPrice_187 : decode cX9_givesByPrice 187 = .ok (.iload 5, 2) := by decide +kernel
theorem dX9_givesByPrice_189 : decode cX9_givesByPrice 189 = .ok (.dup2, 1) := by decide +kernel
theorem dX9_givesByPrice_190 : decode cX9_givesByPrice 190 = .ok (.iaload, 1) := by decide +kernel
theorem dX9_givesByPrice_191 : decode cX9_givesByPrice 191 = .ok (.iconst 1, 1) := by decide +kernel
theorem dX9_givesByPrice_192 : decode cX9_givesByPrice 192 = .ok (.iadd, 1) := by decide +kernel
theorem dX9_givesByPrice_193 : decode cX9_givesByPrice 193 = .ok (.iastore, 1) := by decide +kernel
theorem dX9_givesByPrice_194 : decode cX9_givesByPrice 194 = .ok (.iinc 4 (-1), 3) := by decide +kernel
theorem dX9_givesByPrice_197 : decode cX9_givesByPrice 197 = .ok (.goto (-152), 3) := by decide +kernel
theorem dX9_givesByPrice_200 : decode cX9_givesByPrice 200 = .ok (.iload_n 3, 1) := by decide +kernel
theorem dX9_givesByPrice_201 : decode cX9_givesByPrice 201 = .ok (.ifCond .lt 7, 3) := by decide +kernel
theorem dX9_givesByPrice_204 : decode cX9_givesByPrice 204 = .ok (.iconst 1, 1) := by decide +kernel
theorem dX9_givesByPrice_205 : decode cX9_givesByPrice 205 = .ok (.goto 4, 3) := by decide +kernel
theorem dX9_givesByPrice_208 : decode cX9_givesByPrice 208 = .ok (.iconst 0, 1) := by decide +kernel
theorem dX9_givesByPrice_209 : decode cX9_givesByPrice 209 = .ok (.ireturn, 1) := by decide +kernel
theorem dX9_dearest_0 : decode cX9_dearest 0 = .ok (.iconst (-1), 1) := by decide +kernel
theorem dX9_dearest_1 : decode cX9_dearest 1 = .ok (.istore_n 2, 1) := by decide +kernel
theorem dX9_dearest_2 : decode cX9_dearest 2 = .ok (.iconst 0, 1) := by decide +kernel
theorem dX9_dearest_3 : decode cX9_dearest 3 = .ok (.istore_n 3, 1) := by decide +kernel
theorem dX9_dearest_4 : decode cX9_dearest 4 = .ok (.iload_n 3, 1) := by decide +kernel
theorem dX9_dearest_5 : decode cX9_dearest 5 = .ok (.bipush 6, 2) := by decide +kernel
theorem dX9_dearest_7 : decode cX9_dearest 7 = .ok (.if_icmp .ge 63, 3) := by decide +kernel
theorem dX9_dearest_10 : decode cX9_dearest 10 = .ok (.aload_n 0, 1) := by decide +kernel
theorem dX9_dearest_11 : decode cX9_dearest 11 = .ok (.getfield 34, 3) := by decide +kernel
theorem dX9_dearest_14 : decode cX9_dearest 14 = .ok (.iload_n 3, 1) := by decide +kernel
theorem dX9_dearest_15 : decode cX9_dearest 15 = .ok (.baload, 1) := by decide +kernel
theorem dX9_dearest_16 : decode cX9_dearest 16 = .ok (.ifCond .eq 48, 3) := by decide +kernel
theorem dX9_dearest_19 : decode cX9_dearest 19 = .ok (.iload_n 2, 1) := by decide +kernel
theorem dX9_dearest_20 : decode cX9_dearest 20 = .ok (.iconst (-1), 1) := by decide +kernel
theorem dX9_dearest_21 : decode cX9_dearest 21 = .ok (.if_icmp .eq 41, 3) := by decide +kernel
theorem dX9_dearest_24 : decode cX9_dearest 24 = .ok (.aload_n 0, 1) := by decide +kernel
theorem dX9_dearest_25 : decode cX9_dearest 25 = .ok (.iload_n 1, 1) := by decide +kernel
theorem dX9_dearest_26 : decode cX9_dearest 26 = .ok (.aload_n 0, 1) := by decide +kernel
theorem dX9_dearest_27 : decode cX9_dearest 27 = .ok (.getfield 38, 3) := by decide +kernel
theorem dX9_dearest_30 : decode cX9_dearest 30 = .ok (.iload_n 3, 1) := by decide +kernel
theorem dX9_dearest_31 : decode cX9_dearest 31 = .ok (.iaload, 1) := by decide +kernel
theorem dX9_dearest_32 : decode cX9_dearest 32 = .ok (.i2l, 1) := by decide +kernel
theorem dX9_dearest_33 : decode cX9_dearest 33 = .ok (.aload_n 0, 1) := by decide +kernel
theorem dX9_dearest_34 : decode cX9_dearest 34 = .ok (.getfield 44, 3) := by decide +kernel
theorem dX9_dearest_37 : decode cX9_dearest 37 = .ok (.iload_n 3, 1) := by decide +kernel
theorem dX9_dearest_38 : decode cX9_dearest 38 = .ok (.iaload, 1) := by decide +kernel
theorem dX9_dearest_39 : decode cX9_dearest 39 = .ok (.iconst 1, 1) := by decide +kernel
theorem dX9_dearest_40 : decode cX9_dearest 40 = .ok (.iadd, 1) := by decide +kernel
theorem dX9_dearest_41 : decode cX9_dearest 41 = .ok (.aload_n 0, 1) := by decide +kernel
theorem dX9_dearest_42 : decode cX9_dearest 42 = .ok (.getfield 38, 3) := by decide +kernel
theorem dX9_dearest_45 : decode cX9_dearest 45 = .ok (.iload_n 2, 1) := by decide +kernel
theorem dX9_dearest_46 : decode cX9_dearest 46 = .ok (.iaload, 1) := by decide +kernel
theorem dX9_dearest_47 : decode cX9_dearest 47 = .ok (.i2l, 1) := by decide +kernel
theorem dX9_dearest_48 : decode cX9_dearest 48 = .ok (.aload_n 0, 1) := by decide +kernel
theorem dX9_dearest_49 : decode cX9_dearest 49 = .ok (.getfield 44, 3) := by decide +kernel
theorem dX9_dearest_52 : decode cX9_dearest 52 = .ok (.iload_n 2, 1) := by decide +kernel
theorem dX9_dearest_53 : decode cX9_dearest 53 = .ok (.iaload, 1) := by decide +kernel
theorem dX9_dearest_54 : decode cX9_dearest 54 = .ok (.iconst 1, 1) := by decide +kernel
theorem dX9_dearest_55 : decode cX9_dearest 55 = .ok (.iadd, 1) := by decide +kernel
theorem dX9_dearest_56 : decode cX9_dearest 56 = .ok (.invokevirtual 217, 3) := by decide +kernel
theorem dX9_dearest_59 : decode cX9_dearest 59 = .ok (.ifCond .le 5, 3) := by decide +kernel
theorem dX9_dearest_62 : decode cX9_dearest 62 = .ok (.iload_n 3, 1) := by decide +kernel
theorem dX9_dearest_63 : decode cX9_dearest 63 = .ok (.istore_n 2, 1) := by decide +kernel
theorem dX9_dearest_64 : decode cX9_dearest 64 = .ok (.iinc 3 1, 3) := by decide +kernel
theorem dX9_dearest_67 : decode cX9_dearest 67 = .ok (.goto (-63), 3) := by decide +kernel
theorem dX9_dearest_70 : decode cX9_dearest 70 = .ok (.iload_n 2, 1) := by decide +kernel
theorem dX9_dearest_71 : decode cX9_dearest 71 = .ok (.ireturn, 1) := by decide +kernel
theorem dX9_givesByRests_0 : decode cX9_givesByRests 0 = .ok (.lconst 0, 1) := by decide +kernel
theorem dX9_givesByRests_1 : decode cX9_givesByRests 1 = .ok (.lstore_n 2, 1) := by decide +kernel
theorem dX9_givesByRests_2 : decode cX9_givesByRests 2 = .ok (.iconst 0, 1) := by decide +kernel
theorem dX9_givesByRests_3 : decode cX9_givesByRests 3 = .ok (.istore 4, 2) := by decide +kernel
theorem dX9_givesByRests_5 : decode cX9_givesByRests 5 = .ok (.iload 4, 2) := by decide +kernel
theorem dX9_givesByRests_7 : decode cX9_givesByRests 7 = .ok (.bipush 6, 2) := by decide +kernel
theorem dX9_givesByRests_9 : decode cX9_givesByRests 9 = .ok (.if_icmp .ge 20, 3) := by decide +kernel
theorem dX9_givesByRests_12 : decode cX9_givesByRests 12 = .ok (.lload_n 2, 1) := by decide +kernel
theorem dX9_givesByRests_13 : decode cX9_givesByRests 13 = .ok (.aload_n 0, 1) := by decide +kernel
theorem dX9_givesByRests_14 : decode cX9_givesByRests 14 = .ok (.getfield 38, 3) := by decide +kernel
theorem dX9_givesByRests_17 : decode cX9_givesByRests 17 = .ok (.iload 4, 2) := by decide +kernel
theorem dX9_givesByRests_19 : decode cX9_givesByRests 19 = .ok (.iaload, 1) := by decide +kernel
theorem dX9_givesByRests_20 : decode cX9_givesByRests 20 = .ok (.i2l, 1) := by decide +kernel
theorem dX9_givesByRests_21 : decode cX9_givesByRests 21 = .ok (.ladd, 1) := by decide +kernel
theorem dX9_givesByRests_22 : decode cX9_givesByRests 22 = .ok (.lstore_n 2, 1) := by decide +kernel
theorem dX9_givesByRests_23 : decode cX9_givesByRests 23 = .ok (.iinc 4 1, 3) := by decide +kernel
theorem dX9_givesByRests_26 : decode cX9_givesByRests 26 = .ok (.goto (-21), 3) := by decide +kernel
theorem dX9_givesByRests_29 : decode cX9_givesByRests 29 = .ok (.iload_n 1, 1) := by decide +kernel
theorem dX9_givesByRests_30 : decode cX9_givesByRests 30 = .ok (.istore 4, 2) := by decide +kernel
theorem dX9_givesByRests_32 : decode cX9_givesByRests 32 = .ok (.iconst 0, 1) := by decide +kernel
theorem dX9_givesByRests_33 : decode cX9_givesByRests 33 = .ok (.istore 5, 2) := by decide +kernel
theorem dX9_givesByRests_35 : decode cX9_givesByRests 35 = .ok (.iconst 0, 1) := by decide +kernel
theorem dX9_givesByRests_36 : decode cX9_givesByRests 36 = .ok (.istore 6, 2) := by decide +kernel
theorem dX9_givesByRests_38 : decode cX9_givesByRests 38 = .ok (.iload 6, 2) := by decide +kernel
theorem dX9_givesByRests_40 : decode cX9_givesByRests 40 = .ok (.bipush 6, 2) := by decide +kernel
theorem dX9_givesByRests_42 : decode cX9_givesByRests 42 = .ok (.if_icmp .ge 125, 3) := by decide +kernel
theorem dX9_givesByRests_45 : decode cX9_givesByRests 45 = .ok (.aload_n 0, 1) := by decide +kernel
theorem dX9_givesByRests_46 : decode cX9_givesByRests 46 = .ok (.getfield 44, 3) := by decide +kernel
theorem dX9_givesByRests_49 : decode cX9_givesByRests 49 = .ok (.iload 6, 2) := by decide +kernel
theorem dX9_givesByRests_51 : decode cX9_givesByRests 51 = .ok (.iconst 0, 1) := by decide +kernel
theorem dX9_givesByRests_52 : decode cX9_givesByRests 52 = .ok (.iastore, 1) := by decide +kernel
theorem dX9_givesByRests_53 : decode cX9_givesByRests 53 = .ok (.aload_n 0, 1) := by decide +kernel
theorem dX9_givesByRests_54 : decode cX9_givesByRests 54 = .ok (.getfield 50, 3) := by decide +kernel
theorem dX9_givesByRests_57 : decode cX9_givesByRests 57 = .ok (.iload 6, 2) := by decide +kernel
theorem dX9_givesByRests_59 : decode cX9_givesByRests 59 = .ok (.ldc2_w 221, 3) := by decide +kernel
theorem dX9_givesByRests_62 : decode cX9_givesByRests 62 = .ok (.lastore, 1) := by decide +kernel
theorem dX9_givesByRests_63 : decode cX9_givesByRests 63 = .ok (.aload_n 0, 1) := by decide +kernel
theorem dX9_givesByRests_64 : decode cX9_givesByRests 64 = .ok (.getfield 34, 3) := by decide +kernel
theorem dX9_givesByRests_67 : decode cX9_givesByRests 67 = .ok (.iload 6, 2) := by decide +kernel
theorem dX9_givesByRests_69 : decode cX9_givesByRests 69 = .ok (.baload, 1) := by decide +kernel
theorem dX9_givesByRests_70 : decode cX9_givesByRests 70 = .ok (.ifCond .ne 6, 3) := by decide +kernel
theorem dX9_givesByRests_73 : decode cX9_givesByRests 73 = .ok (.goto 88, 3) := by decide +kernel
theorem dX9_givesByRests_76 : decode cX9_givesByRests 76 = .ok (.aload_n 0, 1) := by decide +kernel
theorem dX9_givesByRests_77 : decode cX9_givesByRests 77 = .ok (.getfield 38, 3) := by decide +kernel
theorem dX9_givesByRests_80 : decode cX9_givesByRests 80 = .ok (.iload 6, 2) := by decide +kernel
theorem dX9_givesByRests_82 : decode cX9_givesByRests 82 = .ok (.iaload, 1) := by decide +kernel
theorem dX9_givesByRests_83 : decode cX9_givesByRests 83 = .ok (.i2l, 1) := by decide +kernel
theorem dX9_givesByRests_84 : decode cX9_givesByRests 84 = .ok (.iload_n 1, 1) := by decide +kernel
theorem dX9_givesByRests_85 : decode cX9_givesByRests 85 = .ok (.i2l, 1) := by decide +kernel
theorem dX9_givesByRests_86 : decode cX9_givesByRests 86 = .ok (.lmul, 1) := by decide +kernel
theorem dX9_givesByRests_87 : decode cX9_givesByRests 87 = .ok (.lload_n 2, 1) := by decide +kernel
theorem dX9_givesByRests_88 : decode cX9_givesByRests 88 = .ok (.ldiv, 1) := by decide +kernel
theorem dX9_givesByRests_89 : decode cX9_givesByRests 89 = .ok (.lstore 7, 2) := by decide +kernel
theorem dX9_givesByRests_91 : decode cX9_givesByRests 91 = .ok (.aload_n 0, 1) := by decide +kernel
theorem dX9_givesByRests_92 : decode cX9_givesByRests 92 = .ok (.getfield 44, 3) := by decide +kernel
theorem dX9_givesByRests_95 : decode cX9_givesByRests 95 = .ok (.iload 6, 2) := by decide +kernel
theorem dX9_givesByRests_97 : decode cX9_givesByRests 97 = .ok (.lload 7, 2) := by decide +kernel
theorem dX9_givesByRests_99 : decode cX9_givesByRests 99 = .ok (.aload_n 0, 1) := by decide +kernel
theorem dX9_givesByRests_100 : decode cX9_givesByRests 100 = .ok (.getfield 41, 3) := by decide +kernel
theorem dX9_givesByRests_103 : decode cX9_givesByRests 103 = .ok (.iload 6, 2) := by decide +kernel
theorem dX9_givesByRests_105 : decode cX9_givesByRests 105 = .ok (.iaload, 1) := by decide +kernel
theorem dX9_givesByRests_106 : decode cX9_givesByRests 106 = .ok (.i2l, 1) := by decide +kernel
theorem dX9_givesByRests_107 : decode cX9_givesByRests 107 = .ok (.invokestatic 223, 3) := by decide +kernel
theorem dX9_givesByRests_110 : decode cX9_givesByRests 110 = .ok (.l2i, 1) := by decide +kernel
theorem dX9_givesByRests_111 : decode cX9_givesByRests 111 = .ok (.iastore, 1) := by decide +kernel
theorem dX9_givesByRests_112 : decode cX9_givesByRests 112 = .ok (.iload 4, 2) := by decide +kernel
theorem dX9_givesByRests_114 : decode cX9_givesByRests 114 = .ok (.aload_n 0, 1) := by decide +kernel
theorem dX9_givesByRests_115 : decode cX9_givesByRests 115 = .ok (.getfield 44, 3) := by decide +kernel
theorem dX9_givesByRests_118 : decode cX9_givesByRests 118 = .ok (.iload 6, 2) := by decide +kernel
theorem dX9_givesByRests_120 : decode cX9_givesByRests 120 = .ok (.iaload, 1) := by decide +kernel
theorem dX9_givesByRests_121 : decode cX9_givesByRests 121 = .ok (.isub, 1) := by decide +kernel
theorem dX9_givesByRests_122 : decode cX9_givesByRests 122 = .ok (.istore 4, 2) := by decide +kernel
theorem dX9_givesByRests_124 : decode cX9_givesByRests 124 = .ok (.aload_n 0, 1) := by decide +kernel
theorem dX9_givesByRests_125 : decode cX9_givesByRests 125 = .ok (.getfield 41, 3) := by decide +kernel
theorem dX9_givesByRests_128 : decode cX9_givesByRests 128 = .ok (.iload 6, 2) := by decide +kernel
theorem dX9_givesByRests_130 : decode cX9_givesByRests 130 = .ok (.iaload, 1) := by decide +kernel
theorem dX9_givesByRests_131 : decode cX9_givesByRests 131 = .ok (.i2l, 1) := by decide +kernel
theorem dX9_givesByRests_132 : decode cX9_givesByRests 132 = .ok (.lload 7, 2) := by decide +kernel
theorem dX9_givesByRests_134 : decode cX9_givesByRests 134 = .ok (.lcmp, 1) := by decide +kernel
theorem dX9_givesByRests_135 : decode cX9_givesByRests 135 = .ok (.ifCond .gt 26, 3) := by decide +kernel
theorem dX9_givesByRests_138 : decode cX9_givesByRests 138 = .ok (.aload_n 0, 1) := by decide +kernel
theorem dX9_givesByRests_139 : decode cX9_givesByRests 139 = .ok (.getfield 50, 3) := by decide +kernel
theorem dX9_givesByRests_142 : decode cX9_givesByRests 142 = .ok (.iload 6, 2) := by decide +kernel
theorem dX9_givesByRests_144 : decode cX9_givesByRests 144 = .ok (.aload_n 0, 1) := by decide +kernel
theorem dX9_givesByRests_145 : decode cX9_givesByRests 145 = .ok (.getfield 38, 3) := by decide +kernel
theorem dX9_givesByRests_148 : decode cX9_givesByRests 148 = .ok (.iload 6, 2) := by decide +kernel
theorem dX9_givesByRests_150 : decode cX9_givesByRests 150 = .ok (.iaload, 1) := by decide +kernel
theorem dX9_givesByRests_151 : decode cX9_givesByRests 151 = .ok (.i2l, 1) := by decide +kernel
theorem dX9_givesByRests_152 : decode cX9_givesByRests 152 = .ok (.iload_n 1, 1) := by decide +kernel
theorem dX9_givesByRests_153 : decode cX9_givesByRests 153 = .ok (.i2l, 1) := by decide +kernel
theorem dX9_givesByRests_154 : decode cX9_givesByRests 154 = .ok (.lmul, 1) := by decide +kernel
theorem dX9_givesByRests_155 : decode cX9_givesByRests 155 = .ok (.lload_n 2, 1) := by decide +kernel
theorem dX9_givesByRests_156 : decode cX9_givesByRests 156 = .ok (.lrem, 1) := by decide +kernel
theorem dX9_givesByRests_157 : decode cX9_givesByRests 157 = .ok (.lastore, 1) := by decide +kernel
theorem dX9_givesByRests_158 : decode cX9_givesByRests 158 = .ok (.iinc 5 1, 3) := by decide +kernel
theorem dX9_givesByRests_161 : decode cX9_givesByRests 161 = .ok (.iinc 6 1, 3) := by decide +kernel
theorem dX9_givesByRests_164 : decode cX9_givesByRests 164 = .ok (.goto (-126), 3) := by decide +kernel
theorem dX9_givesByRests_167 : decode cX9_givesByRests 167 = .ok (.iload 4, 2) := by decide +kernel
theorem dX9_givesByRests_169 : decode cX9_givesByRests 169 = .ok (.ifCond .lt 13, 3) := by decide +kernel
theorem dX9_givesByRests_172 : decode cX9_givesByRests 172 = .ok (.iload 4, 2) := by decide +kernel
theorem dX9_givesByRests_174 : decode cX9_givesByRests 174 = .ok (.ifCond .le 10, 3) := by decide +kernel
theorem dX9_givesByRests_177 : decode cX9_givesByRests 177 = .ok (.iload 5, 2) := by decide +kernel
theorem dX9_givesByRests_179 : decode cX9_givesByRests 179 = .ok (.ifCond .ne 5, 3) := by decide +kernel
theorem dX9_givesByRests_182 : decode cX9_givesByRests 182 = .ok (.iconst 0, 1) := by decide +kernel
theorem dX9_givesByRests_183 : decode cX9_givesByRests 183 = .ok (.ireturn, 1) := by decide +kernel
theorem dX9_givesByRests_184 : decode cX9_givesByRests 184 = .ok (.iconst 0, 1) := by decide +kernel
theorem dX9_givesByRests_185 : decode cX9_givesByRests 185 = .ok (.istore 6, 2) := by decide +kernel
theorem dX9_givesByRests_187 : decode cX9_givesByRests 187 = .ok (.iload 6, 2) := by decide +kernel
theorem dX9_givesByRests_189 : decode cX9_givesByRests 189 = .ok (.iload 4, 2) := by decide +kernel
theorem dX9_givesByRests_191 : decode cX9_givesByRests 191 = .ok (.if_icmp .ge 66, 3) := by decide +kernel
theorem dX9_givesByRests_194 : decode cX9_givesByRests 194 = .ok (.iconst 0, 1) := by decide +kernel
theorem dX9_givesByRests_195 : decode cX9_givesByRests 195 = .ok (.istore 7, 2) := by decide +kernel
theorem dX9_givesByRests_197 : decode cX9_givesByRests 197 = .ok (.iload 6, 2) := by decide +kernel
theorem dX9_givesByRests_199 : decode cX9_givesByRests 199 = .ok (.iload 5, 2) := by decide +kernel
theorem dX9_givesByRests_201 : decode cX9_givesByRests 201 = .ok (.irem, 1) := by decide +kernel
theorem dX9_givesByRests_202 : decode cX9_givesByRests 202 = .ok (.ifCond .ne 24, 3) := by decide +kernel
theorem dX9_givesByRests_205 : decode cX9_givesByRests 205 = .ok (.iload 7, 2) := by decide +kernel
theorem dX9_givesByRests_207 : decode cX9_givesByRests 207 = .ok (.bipush 6, 2) := by decide +kernel
theorem dX9_givesByRests_209 : decode cX9_givesByRests 209 = .ok (.if_icmp .ge 17, 3) := by decide +kernel
theorem dX9_givesByRests_212 : decode cX9_givesByRests 212 = .ok (.aload_n 0, 1) := by decide +kernel
theorem dX9_givesByRests_213 : decode cX9_givesByRests 213 = .ok (.getfield 54, 3) := by decide +kernel
theorem dX9_givesByRests_216 : decode cX9_givesByRests 216 = .ok (.iload 7, 2) := by decide +kernel
theorem dX9_givesByRests_218 : decode cX9_givesByRests 218 = .ok (.iconst 0, 1) := by decide +kernel
theorem dX9_givesByRests_219 : decode cX9_givesByRests 219 = .ok (.bastore, 1) := by decide +kernel
theorem dX9_givesByRests_220 : decode cX9_givesByRests 220 = .ok (.iinc 7 1, 3) := by decide +kernel
theorem dX9_givesByRests_223 : decode cX9_givesByRests 223 = .ok (.goto (-26), 3) := by decide +kernel
theorem dX9_givesByRests_226 : decode cX9_givesByRests 226 = .ok (.aload_n 0, 1) := by decide +kernel
theorem dX9_givesByRests_227 : decode cX9_givesByRests 227 = .ok (.invokevirtual 228, 3) := by decide +kernel
theorem dX9_givesByRests_230 : decode cX9_givesByRests 230 = .ok (.istore 7, 2) := by decide +kernel
theorem dX9_givesByRests_232 : decode cX9_givesByRests 232 = .ok (.aload_n 0, 1) := by decide +kernel
theorem dX9_givesByRests_233 : decode cX9_givesByRests 233 = .ok (.getfield 54, 3) := by decide +kernel
theorem dX9_givesByRests_236 : decode cX9_givesByRests 236 = .ok (.iload 7, 2) := by decide +kernel
theorem dX9_givesByRests_238 : decode cX9_givesByRests 238 = .ok (.iconst 1, 1) := by decide +kernel
theorem dX9_givesByRests_239 : decode cX9_givesByRests 239 = .ok (.bastore, 1) := by decide +kernel
theorem dX9_givesByRests_240 : decode cX9_givesByRests 240 = .ok (.aload_n 0, 1) := by decide +kernel
theorem dX9_givesByRests_241 : decode cX9_givesByRests 241 = .ok (.getfield 44, 3) := by decide +kernel
theorem dX9_givesByRests_244 : decode cX9_givesByRests 244 = .ok (.iload 7, 2) := by decide +kernel
theorem dX9_givesByRests_246 : decode cX9_givesByRests 246 = .ok (.dup2, 1) := by decide +kernel
theorem dX9_givesByRests_247 : decode cX9_givesByRests 247 = .ok (.iaload, 1) := by decide +kernel
theorem dX9_givesByRests_248 : decode cX9_givesByRests 248 = .ok (.iconst 1, 1) := by decide +kernel
theorem dX9_givesByRests_249 : decode cX9_givesByRests 249 = .ok (.iadd, 1) := by decide +kernel
theorem dX9_givesByRests_250 : decode cX9_givesByRests 250 = .ok (.iastore, 1) := by decide +kernel
theorem dX9_givesByRests_251 : decode cX9_givesByRests 251 = .ok (.iinc 6 1, 3) := by decide +kernel
theorem dX9_givesByRests_254 : decode cX9_givesByRests 254 = .ok (.goto (-67), 3) := by decide +kernel
theorem dX9_givesByRests_257 : decode cX9_givesByRests 257 = .ok (.iconst 1, 1) := by decide +kernel
theorem dX9_givesByRests_258 : decode cX9_givesByRests 258 = .ok (.ireturn, 1) := by decide +kernel
theorem dX9_greatestRest_0 : decode cX9_greatestRest 0 = .ok (.iconst (-1), 1) := by decide +kernel
theorem dX9_greatestRest_1 : decode cX9_greatestRest 1 = .ok (.istore_n 1, 1) := by decide +kernel
theorem dX9_greatestRest_2 : decode cX9_greatestRest 2 = .ok (.iconst 0, 1) := by decide +kernel
theorem dX9_greatestRest_3 : decode cX9_greatestRest 3 = .ok (.istore_n 2, 1) := by decide +kernel
theorem dX9_greatestRest_4 : decode cX9_greatestRest 4 = .ok (.iload_n 2, 1) := by decide +kernel
theorem dX9_greatestRest_5 : decode cX9_greatestRest 5 = .ok (.bipush 6, 2) := by decide +kernel
theorem dX9_greatestRest_7 : decode cX9_greatestRest 7 = .ok (.if_icmp .ge 54, 3) := by decide +kernel
theorem dX9_greatestRest_10 : decode cX9_greatestRest 10 = .ok (.aload_n 0, 1) := by decide +kernel
theorem dX9_greatestRest_11 : decode cX9_greatestRest 11 = .ok (.getfield 50, 3) := by decide +kernel
theorem dX9_greatestRest_14 : decode cX9_greatestRest 14 = .ok (.iload_n 2, 1) := by decide +kernel
theorem dX9_greatestRest_15 : decode cX9_greatestRest 15 = .ok (.laload, 1) := by decide +kernel
theorem dX9_greatestRest_16 : decode cX9_greatestRest 16 = .ok (.ldc2_w 221, 3) := by decide +kernel
theorem dX9_greatestRest_19 : decode cX9_greatestRest 19 = .ok (.lcmp, 1) := by decide +kernel
theorem dX9_greatestRest_20 : decode cX9_greatestRest 20 = .ok (.ifCond .eq 35, 3) := by decide +kernel
theorem dX9_greatestRest_23 : decode cX9_greatestRest 23 = .ok (.aload_n 0, 1) := by decide +kernel
theorem dX9_greatestRest_24 : decode cX9_greatestRest 24 = .ok (.getfield 54, 3) := by decide +kernel
theorem dX9_greatestRest_27 : decode cX9_greatestRest 27 = .ok (.iload_n 2, 1) := by decide +kernel
theorem dX9_greatestRest_28 : decode cX9_greatestRest 28 = .ok (.baload, 1) := by decide +kernel
theorem dX9_greatestRest_29 : decode cX9_greatestRest 29 = .ok (.ifCond .ne 26, 3) := by decide +kernel
theorem dX9_greatestRest_32 : decode cX9_greatestRest 32 = .ok (.iload_n 1, 1) := by decide +kernel
theorem dX9_greatestRest_33 : decode cX9_greatestRest 33 = .ok (.iconst (-1), 1) := by decide +kernel
theorem dX9_greatestRest_34 : decode cX9_greatestRest 34 = .ok (.if_icmp .eq 19, 3) := by decide +kernel
theorem dX9_greatestRest_37 : decode cX9_greatestRest 37 = .ok (.aload_n 0, 1) := by decide +kernel
theorem dX9_greatestRest_38 : decode cX9_greatestRest 38 = .ok (.getfield 50, 3) := by decide +kernel
theorem dX9_greatestRest_41 : decode cX9_greatestRest 41 = .ok (.iload_n 2, 1) := by decide +kernel
theorem dX9_greatestRest_42 : decode cX9_greatestRest 42 = .ok (.laload, 1) := by decide +kernel
theorem dX9_greatestRest_43 : decode cX9_greatestRest 43 = .ok (.aload_n 0, 1) := by decide +kernel
theorem dX9_greatestRest_44 : decode cX9_greatestRest 44 = .ok (.getfield 50, 3) := by decide +kernel
theorem dX9_greatestRest_47 : decode cX9_greatestRest 47 = .ok (.iload_n 1, 1) := by decide +kernel
theorem dX9_greatestRest_48 : decode cX9_greatestRest 48 = .ok (.laload, 1) := by decide +kernel
theorem dX9_greatestRest_49 : decode cX9_greatestRest 49 = .ok (.lcmp, 1) := by decide +kernel
theorem dX9_greatestRest_50 : decode cX9_greatestRest 50 = .ok (.ifCond .le 5, 3) := by decide +kernel
theorem dX9_greatestRest_53 : decode cX9_greatestRest 53 = .ok (.iload_n 2, 1) := by decide +kernel
theorem dX9_greatestRest_54 : decode cX9_greatestRest 54 = .ok (.istore_n 1, 1) := by decide +kernel
theorem dX9_greatestRest_55 : decode cX9_greatestRest 55 = .ok (.iinc 2 1, 3) := by decide +kernel
theorem dX9_greatestRest_58 : decode cX9_greatestRest 58 = .ok (.goto (-54), 3) := by decide +kernel
theorem dX9_greatestRest_61 : decode cX9_greatestRest 61 = .ok (.iload_n 1, 1) := by decide +kernel
theorem dX9_greatestRest_62 : decode cX9_greatestRest 62 = .ok (.ireturn, 1) := by decide +kernel
theorem dX9_houses_0 : decode cX9_houses 0 = .ok (.aload_n 0, 1) := by decide +kernel
theorem dX9_houses_1 : decode cX9_houses 1 = .ok (.invokevirtual 231, 3) := by decide +kernel
theorem dX9_houses_4 : decode cX9_houses 4 = .ok (.iconst 0, 1) := by decide +kernel
theorem dX9_houses_5 : decode cX9_houses 5 = .ok (.istore_n 3, 1) := by decide +kernel
theorem dX9_houses_6 : decode cX9_houses 6 = .ok (.iload_n 3, 1) := by decide +kernel
theorem dX9_houses_7 : decode cX9_houses 7 = .ok (.bipush 6, 2) := by decide +kernel
theorem dX9_houses_9 : decode cX9_houses 9 = .ok (.if_icmp .ge 43, 3) := by decide +kernel
theorem dX9_houses_12 : decode cX9_houses 12 = .ok (.aload_n 0, 1) := by decide +kernel
theorem dX9_houses_13 : decode cX9_houses 13 = .ok (.getfield 69, 3) := by decide +kernel
theorem dX9_houses_16 : decode cX9_houses 16 = .ok (.iload_n 3, 1) := by decide +kernel
theorem dX9_houses_17 : decode cX9_houses 17 = .ok (.iconst 0, 1) := by decide +kernel
theorem dX9_houses_18 : decode cX9_houses 18 = .ok (.iastore, 1) := by decide +kernel
theorem dX9_houses_19 : decode cX9_houses 19 = .ok (.aload_n 0, 1) := by decide +kernel
theorem dX9_houses_20 : decode cX9_houses 20 = .ok (.iload_n 3, 1) := by decide +kernel
theorem dX9_houses_21 : decode cX9_houses 21 = .ok (.invokevirtual 234, 3) := by decide +kernel
theorem dX9_houses_24 : decode cX9_houses 24 = .ok (.ifCond .eq 22, 3) := by decide +kernel
theorem dX9_houses_27 : decode cX9_houses 27 = .ok (.aload_n 0, 1) := by decide +kernel
theorem dX9_houses_28 : decode cX9_houses 28 = .ok (.aload_n 0, 1) := by decide +kernel
theorem dX9_houses_29 : decode cX9_houses 29 = .ok (.iload_n 3, 1) := by decide +kernel
theorem dX9_houses_30 : decode cX9_houses 30 = .ok (.invokevirtual 237, 3) := by decide +kernel
theorem dX9_houses_33 : decode cX9_houses 33 = .ok (.aload_n 0, 1) := by decide +kernel
theorem dX9_houses_34 : decode cX9_houses 34 = .ok (.iload_n 3, 1) := by decide +kernel
theorem dX9_houses_35 : decode cX9_houses 35 = .ok (.invokevirtual 120, 3) := by decide +kernel
theorem dX9_houses_38 : decode cX9_houses 38 = .ok (.aload_n 0, 1) := by decide +kernel
theorem dX9_houses_39 : decode cX9_houses 39 = .ok (.iload_n 3, 1) := by decide +kernel
theorem dX9_houses_40 : decode cX9_houses 40 = .ok (.invokevirtual 240, 3) := by decide +kernel
theorem dX9_houses_43 : decode cX9_houses 43 = .ok (.invokevirtual 243, 3) := by decide +kernel
theorem dX9_houses_46 : decode cX9_houses 46 = .ok (.iinc 3 1, 3) := by decide +kernel
theorem dX9_houses_49 : decode cX9_houses 49 = .ok (.goto (-43), 3) := by decide +kernel
theorem dX9_houses_52 : decode cX9_houses 52 = .ok (.aload_n 0, 1) := by decide +kernel
theorem dX9_houses_53 : decode cX9_houses 53 = .ok (.iload_n 1, 1) := by decide +kernel
theorem dX9_houses_54 : decode cX9_houses 54 = .ok (.iload_n 2, 1) := by decide +kernel
theorem dX9_houses_55 : decode cX9_houses 55 = .ok (.invokevirtual 246, 3) := by decide +kernel
theorem dX9_houses_58 : decode cX9_houses 58 = .ok (.istore_n 3, 1) := by decide +kernel
theorem dX9_houses_59 : decode cX9_houses 59 = .ok (.iconst 0, 1) := by decide +kernel
theorem dX9_houses_60 : decode cX9_houses 60 = .ok (.istore 4, 2) := by decide +kernel
theorem dX9_houses_62 : decode cX9_houses 62 = .ok (.iload 4, 2) := by decide +kernel
theorem dX9_houses_64 : decode cX9_houses 64 = .ok (.bipush 6, 2) := by decide +kernel
theorem dX9_houses_66 : decode cX9_houses 66 = .ok (.if_icmp .ge 65, 3) := by decide +kernel
theorem dX9_houses_69 : decode cX9_houses 69 = .ok (.aload_n 0, 1) := by decide +kernel
theorem dX9_houses_70 : decode cX9_houses 70 = .ok (.getfield 57, 3) := by decide +kernel
theorem dX9_houses_73 : decode cX9_houses 73 = .ok (.iload 4, 2) := by decide +kernel
theorem dX9_houses_75 : decode cX9_houses 75 = .ok (.aload_n 0, 1) := by decide +kernel
theorem dX9_houses_76 : decode cX9_houses 76 = .ok (.getfield 34, 3) := by decide +kernel
theorem dX9_houses_79 : decode cX9_houses 79 = .ok (.iload 4, 2) := by decide +kernel
theorem dX9_houses_81 : decode cX9_houses 81 = .ok (.baload, 1) := by decide +kernel
theorem dX9_houses_82 : decode cX9_houses 82 = .ok (.bastore, 1) := by decide +kernel
theorem dX9_houses_83 : decode cX9_houses 83 = .ok (.aload_n 0, 1) := by decide +kernel
theorem dX9_houses_84 : decode cX9_houses 84 = .ok (.getfield 60, 3) := by decide +kernel
theorem dX9_houses_87 : decode cX9_houses 87 = .ok (.iload 4, 2) := by decide +kernel
theorem dX9_houses_89 : decode cX9_houses 89 = .ok (.aload_n 0, 1) := by decide +kernel
theorem dX9_houses_90 : decode cX9_houses 90 = .ok (.getfield 38, 3) := by decide +kernel
theorem dX9_houses_93 : decode cX9_houses 93 = .ok (.iload 4, 2) := by decide +kernel
theorem dX9_houses_95 : decode cX9_houses 95 = .ok (.iaload, 1) := by decide +kernel
theorem dX9_houses_96 : decode cX9_houses 96 = .ok (.iastore, 1) := by decide +kernel
theorem dX9_houses_97 : decode cX9_houses 97 = .ok (.aload_n 0, 1) := by decide +kernel
theorem dX9_houses_98 : decode cX9_houses 98 = .ok (.getfield 63, 3) := by decide +kernel
theorem dX9_houses_101 : decode cX9_houses 101 = .ok (.iload 4, 2) := by decide +kernel
theorem dX9_houses_103 : decode cX9_houses 103 = .ok (.aload_n 0, 1) := by decide +kernel
theorem dX9_houses_104 : decode cX9_houses 104 = .ok (.getfield 41, 3) := by decide +kernel
theorem dX9_houses_107 : decode cX9_houses 107 = .ok (.iload 4, 2) := by decide +kernel
theorem dX9_houses_109 : decode cX9_houses 109 = .ok (.iaload, 1) := by decide +kernel
theorem dX9_houses_110 : decode cX9_houses 110 = .ok (.iastore, 1) := by decide +kernel
theorem dX9_houses_111 : decode cX9_houses 111 = .ok (.aload_n 0, 1) := by decide +kernel
theorem dX9_houses_112 : decode cX9_houses 112 = .ok (.getfield 66, 3) := by decide +kernel
theorem dX9_houses_115 : decode cX9_houses 115 = .ok (.iload 4, 2) := by decide +kernel
theorem dX9_houses_117 : decode cX9_houses 117 = .ok (.aload_n 0, 1) := by decide +kernel
theorem dX9_houses_118 : decode cX9_houses 118 = .ok (.getfield 44, 3) := by decide +kernel
theorem dX9_houses_121 : decode cX9_houses 121 = .ok (.iload 4, 2) := by decide +kernel
theorem dX9_houses_123 : decode cX9_houses 123 = .ok (.iaload, 1) := by decide +kernel
theorem dX9_houses_124 : decode cX9_houses 124 = .ok (.iastore, 1) := by decide +kernel
theorem dX9_houses_125 : decode cX9_houses 125 = .ok (.iinc 4 1, 3) := by decide +kernel
theorem dX9_houses_128 : decode cX9_houses 128 = .ok (.goto (-66), 3) := by decide +kernel
theorem dX9_houses_131 : decode cX9_houses 131 = .ok (.aload_n 0, 1) := by decide +kernel
theorem dX9_houses_132 : decode cX9_houses 132 = .ok (.aload_n 0, 1) := by decide +kernel
theorem dX9_houses_133 : decode cX9_houses 133 = .ok (.getfield 201, 3) := by decide +kernel
theorem dX9_houses_136 : decode cX9_houses 136 = .ok (.putfield 249, 3) := by decide +kernel
theorem dX9_houses_139 : decode cX9_houses 139 = .ok (.aload_n 0, 1) := by decide +kernel
theorem dX9_houses_140 : decode cX9_houses 140 = .ok (.aload_n 0, 1) := by decide +kernel
theorem dX9_houses_141 : decode cX9_houses 141 = .ok (.getfield 204, 3) := by decide +kernel
theorem dX9_houses_144 : decode cX9_houses 144 = .ok (.putfield 252, 3) := by decide +kernel
theorem dX9_houses_147 : decode cX9_houses 147 = .ok (.iconst 0, 1) := by decide +kernel
theorem dX9_houses_148 : decode cX9_houses 148 = .ok (.istore 4, 2) := by decide +kernel
theorem dX9_houses_150 : decode cX9_houses 150 = .ok (.iload 4, 2) := by decide +kernel
theorem dX9_houses_152 : decode cX9_houses 152 = .ok (.aload_n 0, 1) := by decide +kernel
theorem dX9_houses_153 : decode cX9_houses 153 = .ok (.getfield 201, 3) := by decide +kernel
theorem dX9_houses_156 : decode cX9_houses 156 = .ok (.if_icmp .ge 23, 3) := by decide +kernel
theorem dX9_houses_159 : decode cX9_houses 159 = .ok (.aload_n 0, 1) := by decide +kernel
theorem dX9_houses_160 : decode cX9_houses 160 = .ok (.getfield 72, 3) := by decide +kernel
theorem dX9_houses_163 : decode cX9_houses 163 = .ok (.iload 4, 2) := by decide +kernel
theorem dX9_houses_165 : decode cX9_houses 165 = .ok (.aload_n 0, 1) := by decide +kernel
theorem dX9_houses_166 : decode cX9_houses 166 = .ok (.getfield 47, 3) := by decide +kernel
theorem dX9_houses_169 : decode cX9_houses 169 = .ok (.iload 4, 2) := by decide +kernel
theorem dX9_houses_171 : decode cX9_houses 171 = .ok (.iaload, 1) := by decide +kernel
theorem dX9_houses_172 : decode cX9_houses 172 = .ok (.iastore, 1) := by decide +kernel
theorem dX9_houses_173 : decode cX9_houses 173 = .ok (.iinc 4 1, 3) := by decide +kernel
theorem dX9_houses_176 : decode cX9_houses 176 = .ok (.goto (-26), 3) := by decide +kernel
theorem dX9_houses_179 : decode cX9_houses 179 = .ok (.iconst 0, 1) := by decide +kernel
theorem dX9_houses_180 : decode cX9_houses 180 = .ok (.istore 4, 2) := by decide +kernel
theorem dX9_houses_182 : decode cX9_houses 182 = .ok (.iload_n 3, 1) := by decide +kernel
theorem dX9_houses_183 : decode cX9_houses 183 = .ok (.ifCond .eq 42, 3) := by decide +kernel
theorem dX9_houses_186 : decode cX9_houses 186 = .ok (.iload 4, 2) := by decide +kernel
theorem dX9_houses_188 : decode cX9_houses 188 = .ok (.bipush 6, 2) := by decide +kernel
theorem dX9_houses_190 : decode cX9_houses 190 = .ok (.if_icmp .ge 35, 3) := by decide +kernel
theorem dX9_houses_193 : decode cX9_houses 193 = .ok (.aload_n 0, 1) := by decide +kernel
theorem dX9_houses_194 : decode cX9_houses 194 = .ok (.getfield 57, 3) := by decide +kernel
theorem dX9_houses_197 : decode cX9_houses 197 = .ok (.iload 4, 2) := by decide +kernel
theorem dX9_houses_199 : decode cX9_houses 199 = .ok (.baload, 1) := by decide +kernel
theorem dX9_houses_200 : decode cX9_houses 200 = .ok (.ifCond .eq 13, 3) := by decide +kernel
theorem dX9_houses_203 : decode cX9_houses 203 = .ok (.aload_n 0, 1) := by decide +kernel
theorem dX9_houses_204 : decode cX9_houses 204 = .ok (.iload_n 1, 1) := by decide +kernel
theorem dX9_houses_205 : decode cX9_houses 205 = .ok (.iload 4, 2) := by decide +kernel
theorem dX9_houses_207 : decode cX9_houses 207 = .ok (.invokevirtual 255, 3) := by decide +kernel
theorem dX9_houses_210 : decode cX9_houses 210 = .ok (.ifCond .eq 7, 3) := by decide +kernel
theorem dX9_houses_213 : decode cX9_houses 213 = .ok (.iconst 1, 1) := by decide +kernel
theorem dX9_houses_214 : decode cX9_houses 214 = .ok (.goto 4, 3) := by decide +kernel
theorem dX9_houses_217 : decode cX9_houses 217 = .ok (.iconst 0, 1) := by decide +kernel
theorem dX9_houses_218 : decode cX9_houses 218 = .ok (.istore_n 3, 1) := by decide +kernel
theorem dX9_houses_219 : decode cX9_houses 219 = .ok (.iinc 4 1, 3) := by decide +kernel
theorem dX9_houses_222 : decode cX9_houses 222 = .ok (.goto (-40), 3) := by decide +kernel
theorem dX9_houses_225 : decode cX9_houses 225 = .ok (.iload_n 3, 1) := by decide +kernel
theorem dX9_houses_226 : decode cX9_houses 226 = .ok (.ireturn, 1) := by decide +kernel
theorem dX9_sharesOut_0 : decode cX9_sharesOut 0 = .ok (.aload_n 0, 1) := by decide +kernel
theorem dX9_sharesOut_1 : decode cX9_sharesOut 1 = .ok (.invokevirtual 231, 3) := by decide +kernel
theorem dX9_sharesOut_4 : decode cX9_sharesOut 4 = .ok (.iconst 0, 1) := by decide +kernel
theorem dX9_sharesOut_5 : decode cX9_sharesOut 5 = .ok (.istore_n 3, 1) := by decide +kernel
theorem dX9_sharesOut_6 : decode cX9_sharesOut 6 = .ok (.iload_n 3, 1) := by decide +kernel
theorem dX9_sharesOut_7 : decode cX9_sharesOut 7 = .ok (.bipush 6, 2) := by decide +kernel
theorem dX9_sharesOut_9 : decode cX9_sharesOut 9 = .ok (.if_icmp .ge 41, 3) := by decide +kernel
theorem dX9_sharesOut_12 : decode cX9_sharesOut 12 = .ok (.aload_n 0, 1) := by decide +kernel
theorem dX9_sharesOut_13 : decode cX9_sharesOut 13 = .ok (.iload_n 3, 1) := by decide +kernel
theorem dX9_sharesOut_14 : decode cX9_sharesOut 14 = .ok (.invokevirtual 237, 3) := by decide +kernel
theorem dX9_sharesOut_17 : decode cX9_sharesOut 17 = .ok (.iload_n 2, 1) := by decide +kernel
theorem dX9_sharesOut_18 : decode cX9_sharesOut 18 = .ok (.if_icmp .ne 26, 3) := by decide +kernel
theorem dX9_sharesOut_21 : decode cX9_sharesOut 21 = .ok (.aload_n 0, 1) := by decide +kernel
theorem dX9_sharesOut_22 : decode cX9_sharesOut 22 = .ok (.iload_n 3, 1) := by decide +kernel
theorem dX9_sharesOut_23 : decode cX9_sharesOut 23 = .ok (.invokevirtual 234, 3) := by decide +kernel
theorem dX9_sharesOut_26 : decode cX9_sharesOut 26 = .ok (.ifCond .eq 18, 3) := by decide +kernel
theorem dX9_sharesOut_29 : decode cX9_sharesOut 29 = .ok (.aload_n 0, 1) := by decide +kernel
theorem dX9_sharesOut_30 : decode cX9_sharesOut 30 = .ok (.iload_n 3, 1) := by decide +kernel
theorem dX9_sharesOut_31 : decode cX9_sharesOut 31 = .ok (.aload_n 0, 1) := by decide +kernel
theorem dX9_sharesOut_32 : decode cX9_sharesOut 32 = .ok (.iload_n 3, 1) := by decide +kernel
theorem dX9_sharesOut_33 : decode cX9_sharesOut 33 = .ok (.invokevirtual 120, 3) := by decide +kernel
theorem dX9_sharesOut_36 : decode cX9_sharesOut 36 = .ok (.aload_n 0, 1) := by decide +kernel
theorem dX9_sharesOut_37 : decode cX9_sharesOut 37 = .ok (.iload_n 3, 1) := by decide +kernel
theorem dX9_sharesOut_38 : decode cX9_sharesOut 38 = .ok (.invokevirtual 240, 3) := by decide +kernel
theorem dX9_sharesOut_41 : decode cX9_sharesOut 41 = .ok (.invokevirtual 243, 3) := by decide +kernel
theorem dX9_sharesOut_44 : decode cX9_sharesOut 44 = .ok (.iinc 3 1, 3) := by decide +kernel
theorem dX9_sharesOut_47 : decode cX9_sharesOut 47 = .ok (.goto (-41), 3) := by decide +kernel
theorem dX9_sharesOut_50 : decode cX9_sharesOut 50 = .ok (.aload_n 0, 1) := by decide +kernel
theorem dX9_sharesOut_51 : decode cX9_sharesOut 51 = .ok (.iload_n 1, 1) := by decide +kernel
theorem dX9_sharesOut_52 : decode cX9_sharesOut 52 = .ok (.aload_n 0, 1) := by decide +kernel
theorem dX9_sharesOut_53 : decode cX9_sharesOut 53 = .ok (.getfield 66, 3) := by decide +kernel
theorem dX9_sharesOut_56 : decode cX9_sharesOut 56 = .ok (.iload_n 2, 1) := by decide +kernel
theorem dX9_sharesOut_57 : decode cX9_sharesOut 57 = .ok (.iaload, 1) := by decide +kernel
theorem dX9_sharesOut_58 : decode cX9_sharesOut 58 = .ok (.invokevirtual 246, 3) := by decide +kernel
theorem dX9_sharesOut_61 : decode cX9_sharesOut 61 = .ok (.ifCond .ne 5, 3) := by decide +kernel
theorem dX9_sharesOut_64 : decode cX9_sharesOut 64 = .ok (.iconst 0, 1) := by decide +kernel
theorem dX9_sharesOut_65 : decode cX9_sharesOut 65 = .ok (.ireturn, 1) := by decide +kernel
theorem dX9_sharesOut_66 : decode cX9_sharesOut 66 = .ok (.iconst 0, 1) := by decide +kernel
theorem dX9_sharesOut_67 : decode cX9_sharesOut 67 = .ok (.istore_n 3, 1) := by decide +kernel
theorem dX9_sharesOut_68 : decode cX9_sharesOut 68 = .ok (.iload_n 3, 1) := by decide +kernel
theorem dX9_sharesOut_69 : decode cX9_sharesOut 69 = .ok (.bipush 6, 2) := by decide +kernel
theorem dX9_sharesOut_71 : decode cX9_sharesOut 71 = .ok (.if_icmp .ge 39, 3) := by decide +kernel
theorem dX9_sharesOut_74 : decode cX9_sharesOut 74 = .ok (.aload_n 0, 1) := by decide +kernel
theorem dX9_sharesOut_75 : decode cX9_sharesOut 75 = .ok (.getfield 69, 3) := by decide +kernel
theorem dX9_sharesOut_78 : decode cX9_sharesOut 78 = .ok (.iload_n 3, 1) := by decide +kernel
theorem dX9_sharesOut_79 : decode cX9_sharesOut 79 = .ok (.aload_n 0, 1) := by decide +kernel
theorem dX9_sharesOut_80 : decode cX9_sharesOut 80 = .ok (.getfield 34, 3) := by decide +kernel
theorem dX9_sharesOut_83 : decode cX9_sharesOut 83 = .ok (.iload_n 3, 1) := by decide +kernel
theorem dX9_sharesOut_84 : decode cX9_sharesOut 84 = .ok (.baload, 1) := by decide +kernel
theorem dX9_sharesOut_85 : decode cX9_sharesOut 85 = .ok (.ifCond .eq 12, 3) := by decide +kernel
theorem dX9_sharesOut_88 : decode cX9_sharesOut 88 = .ok (.aload_n 0, 1) := by decide +kernel
theorem dX9_sharesOut_89 : decode cX9_sharesOut 89 = .ok (.getfield 44, 3) := by decide +kernel
theorem dX9_sharesOut_92 : decode cX9_sharesOut 92 = .ok (.iload_n 3, 1) := by decide +kernel
theorem dX9_sharesOut_93 : decode cX9_sharesOut 93 = .ok (.iaload, 1) := by decide +kernel
theorem dX9_sharesOut_94 : decode cX9_sharesOut 94 = .ok (.goto 9, 3) := by decide +kernel
theorem dX9_sharesOut_97 : decode cX9_sharesOut 97 = .ok (.aload_n 0, 1) := by decide +kernel
theorem dX9_sharesOut_98 : decode cX9_sharesOut 98 = .ok (.getfield 69, 3) := by decide +kernel
theorem dX9_sharesOut_101 : decode cX9_sharesOut 101 = .ok (.iload_n 3, 1) := by decide +kernel
theorem dX9_sharesOut_102 : decode cX9_sharesOut 102 = .ok (.iaload, 1) := by decide +kernel
theorem dX9_sharesOut_103 : decode cX9_sharesOut 103 = .ok (.iastore, 1) := by decide +kernel
theorem dX9_sharesOut_104 : decode cX9_sharesOut 104 = .ok (.iinc 3 1, 3) := by decide +kernel
theorem dX9_sharesOut_107 : decode cX9_sharesOut 107 = .ok (.goto (-39), 3) := by decide +kernel
theorem dX9_sharesOut_110 : decode cX9_sharesOut 110 = .ok (.iconst 1, 1) := by decide +kernel
theorem dX9_sharesOut_111 : decode cX9_sharesOut 111 = .ok (.ireturn, 1) := by decide +kernel
theorem dX9_in_0 : decode cX9_in 0 = .ok (.iconst 0, 1) := by decide +kernel
theorem dX9_in_1 : decode cX9_in 1 = .ok (.istore_n 1, 1) := by decide +kernel
theorem dX9_in_2 : decode cX9_in 2 = .ok (.iconst 0, 1) := by decide +kernel
theorem dX9_in_3 : decode cX9_in 3 = .ok (.istore_n 2, 1) := by decide +kernel
theorem dX9_in_4 : decode cX9_in 4 = .ok (.iload_n 2, 1) := by decide +kernel
theorem dX9_in_5 : decode cX9_in 5 = .ok (.bipush 6, 2) := by decide +kernel
theorem dX9_in_7 : decode cX9_in 7 = .ok (.if_icmp .ge 27, 3) := by decide +kernel
theorem dX9_in_10 : decode cX9_in 10 = .ok (.iload_n 1, 1) := by decide +kernel
theorem dX9_in_11 : decode cX9_in 11 = .ok (.aload_n 0, 1) := by decide +kernel
theorem dX9_in_12 : decode cX9_in 12 = .ok (.iload_n 2, 1) := by decide +kernel
theorem dX9_in_13 : decode cX9_in 13 = .ok (.invokevirtual 234, 3) := by decide +kernel
theorem dX9_in_16 : decode cX9_in 16 = .ok (.ifCond .eq 9, 3) := by decide +kernel
theorem dX9_in_19 : decode cX9_in 19 = .ok (.iconst 1, 1) := by decide +kernel
theorem dX9_in_20 : decode cX9_in 20 = .ok (.iload_n 2, 1) := by decide +kernel
theorem dX9_in_21 : decode cX9_in 21 = .ok (.ishl, 1) := by decide +kernel
theorem dX9_in_22 : decode cX9_in 22 = .ok (.goto 4, 3) := by decide +kernel
theorem dX9_in_25 : decode cX9_in 25 = .ok (.iconst 0, 1) := by decide +kernel
theorem dX9_in_26 : decode cX9_in 26 = .ok (.ior, 1) := by decide +kernel
theorem dX9_in_27 : decode cX9_in 27 = .ok (.istore_n 1, 1) := by decide +kernel
theorem dX9_in_28 : decode cX9_in 28 = .ok (.iinc 2 1, 3) := by decide +kernel
theorem dX9_in_31 : decode cX9_in 31 = .ok (.goto (-27), 3) := by decide +kernel
theorem dX9_in_34 : decode cX9_in 34 = .ok (.iload_n 1, 1) := by decide +kernel
theorem dX9_in_35 : decode cX9_in 35 = .ok (.ireturn, 1) := by decide +kernel
theorem dX9_house_0 : decode cX9_house 0 = .ok (.iload_n 2, 1) := by decide +kernel
theorem dX9_house_1 : decode cX9_house 1 = .ok (.invokestatic 133, 3) := by decide +kernel
theorem dX9_house_4 : decode cX9_house 4 = .ok (.ifCond .ne 5, 3) := by decide +kernel
theorem dX9_house_7 : decode cX9_house 7 = .ok (.iconst (-1), 1) := by decide +kernel
theorem dX9_house_8 : decode cX9_house 8 = .ok (.ireturn, 1) := by decide +kernel
theorem dX9_house_9 : decode cX9_house 9 = .ok (.iload_n 1, 1) := by decide +kernel
theorem dX9_house_10 : decode cX9_house 10 = .ok (.invokestatic 258, 3) := by decide +kernel
theorem dX9_house_13 : decode cX9_house 13 = .ok (.ifCond .ne 6, 3) := by decide +kernel
theorem dX9_house_16 : decode cX9_house 16 = .ok (.bipush (-2), 2) := by decide +kernel
theorem dX9_house_18 : decode cX9_house 18 = .ok (.ireturn, 1) := by decide +kernel
theorem dX9_house_19 : decode cX9_house 19 = .ok (.aload_n 0, 1) := by decide +kernel
theorem dX9_house_20 : decode cX9_house 20 = .ok (.aload_n 0, 1) := by decide +kernel
theorem dX9_house_21 : decode cX9_house 21 = .ok (.invokevirtual 192, 3) := by decide +kernel
theorem dX9_house_24 : decode cX9_house 24 = .ok (.iload_n 1, 1) := by decide +kernel
theorem dX9_house_25 : decode cX9_house 25 = .ok (.invokevirtual 261, 3) := by decide +kernel
theorem dX9_house_28 : decode cX9_house 28 = .ok (.ifCond .eq 12, 3) := by decide +kernel
theorem dX9_house_31 : decode cX9_house 31 = .ok (.aload_n 0, 1) := by decide +kernel
theorem dX9_house_32 : decode cX9_house 32 = .ok (.getfield 69, 3) := by decide +kernel
theorem dX9_house_35 : decode cX9_house 35 = .ok (.iload_n 2, 1) := by decide +kernel
theorem dX9_house_36 : decode cX9_house 36 = .ok (.iaload, 1) := by decide +kernel
theorem dX9_house_37 : decode cX9_house 37 = .ok (.goto 5, 3) := by decide +kernel
theorem dX9_house_40 : decode cX9_house 40 = .ok (.bipush (-3), 2) := by decide +kernel
theorem dX9_house_42 : decode cX9_house 42 = .ok (.ireturn, 1) := by decide +kernel
theorem dX9_list_0 : decode cX9_list 0 = .ok (.iload_n 2, 1) := by decide +kernel
theorem dX9_list_1 : decode cX9_list 1 = .ok (.invokestatic 133, 3) := by decide +kernel
theorem dX9_list_4 : decode cX9_list 4 = .ok (.ifCond .ne 5, 3) := by decide +kernel
theorem dX9_list_7 : decode cX9_list 7 = .ok (.iconst (-1), 1) := by decide +kernel
theorem dX9_list_8 : decode cX9_list 8 = .ok (.ireturn, 1) := by decide +kernel
theorem dX9_list_9 : decode cX9_list 9 = .ok (.iload_n 1, 1) := by decide +kernel
theorem dX9_list_10 : decode cX9_list 10 = .ok (.invokestatic 258, 3) := by decide +kernel
theorem dX9_list_13 : decode cX9_list 13 = .ok (.ifCond .ne 6, 3) := by decide +kernel
theorem dX9_list_16 : decode cX9_list 16 = .ok (.bipush (-2), 2) := by decide +kernel
theorem dX9_list_18 : decode cX9_list 18 = .ok (.ireturn, 1) := by decide +kernel
theorem dX9_list_19 : decode cX9_list 19 = .ok (.aload_n 0, 1) := by decide +kernel
theorem dX9_list_20 : decode cX9_list 20 = .ok (.aload_n 0, 1) := by decide +kernel
theorem dX9_list_21 : decode cX9_list 21 = .ok (.invokevirtual 192, 3) := by decide +kernel
theorem dX9_list_24 : decode cX9_list 24 = .ok (.iload_n 1, 1) := by decide +kernel
theorem dX9_list_25 : decode cX9_list 25 = .ok (.invokevirtual 261, 3) := by decide +kernel
theorem dX9_list_28 : decode cX9_list 28 = .ok (.ifCond .eq 12, 3) := by decide +kernel
theorem dX9_list_31 : decode cX9_list 31 = .ok (.aload_n 0, 1) := by decide +kernel
theorem dX9_list_32 : decode cX9_list 32 = .ok (.getfield 66, 3) := by decide +kernel
theorem dX9_list_35 : decode cX9_list 35 = .ok (.iload_n 2, 1) := by decide +kernel
theorem dX9_list_36 : decode cX9_list 36 = .ok (.iaload, 1) := by decide +kernel
theorem dX9_list_37 : decode cX9_list 37 = .ok (.goto 5, 3) := by decide +kernel
theorem dX9_list_40 : decode cX9_list 40 = .ok (.bipush (-3), 2) := by decide +kernel
theorem dX9_list_42 : decode cX9_list 42 = .ok (.ireturn, 1) := by decide +kernel
theorem dX9_orderRefusal_0 : decode cX9_orderRefusal 0 = .ok (.iload_n 1, 1) := by decide +kernel
theorem dX9_orderRefusal_1 : decode cX9_orderRefusal 1 = .ok (.invokestatic 258, 3) := by decide +kernel
theorem dX9_orderRefusal_4 : decode cX9_orderRefusal 4 = .ok (.ifCond .ne 6, 3) := by decide +kernel
theorem dX9_orderRefusal_7 : decode cX9_orderRefusal 7 = .ok (.bipush (-2), 2) := by decide +kernel
theorem dX9_orderRefusal_9 : decode cX9_orderRefusal 9 = .ok (.ireturn, 1) := by decide +kernel
theorem dX9_orderRefusal_10 : decode cX9_orderRefusal 10 = .ok (.aload_n 0, 1) := by decide +kernel
theorem dX9_orderRefusal_11 : decode cX9_orderRefusal 11 = .ok (.invokevirtual 192, 3) := by decide +kernel
theorem dX9_orderRefusal_14 : decode cX9_orderRefusal 14 = .ok (.bipush 6, 2) := by decide +kernel
theorem dX9_orderRefusal_16 : decode cX9_orderRefusal 16 = .ok (.if_icmp .eq 15, 3) := by decide +kernel
theorem dX9_orderRefusal_19 : decode cX9_orderRefusal 19 = .ok (.aload_n 0, 1) := by decide +kernel
theorem dX9_orderRefusal_20 : decode cX9_orderRefusal 20 = .ok (.aload_n 0, 1) := by decide +kernel
theorem dX9_orderRefusal_21 : decode cX9_orderRefusal 21 = .ok (.invokevirtual 192, 3) := by decide +kernel
theorem dX9_orderRefusal_24 : decode cX9_orderRefusal 24 = .ok (.iload_n 1, 1) := by decide +kernel
theorem dX9_orderRefusal_25 : decode cX9_orderRefusal 25 = .ok (.invokevirtual 261, 3) := by decide +kernel
theorem dX9_orderRefusal_28 : decode cX9_orderRefusal 28 = .ok (.ifCond .ne 8, 3) := by decide +kernel
theorem dX9_orderRefusal_31 : decode cX9_orderRefusal 31 = .ok (.bipush (-3), 2) := by decide +kernel
theorem dX9_orderRefusal_33 : decode cX9_orderRefusal 33 = .ok (.goto 4, 3) := by decide +kernel
theorem dX9_orderRefusal_36 : decode cX9_orderRefusal 36 = .ok (.iconst 0, 1) := by decide +kernel
theorem dX9_orderRefusal_37 : decode cX9_orderRefusal 37 = .ok (.ireturn, 1) := by decide +kernel
theorem dX9_given_0 : decode cX9_given 0 = .ok (.aload_n 0, 1) := by decide +kernel
theorem dX9_given_1 : decode cX9_given 1 = .ok (.iload_n 1, 1) := by decide +kernel
theorem dX9_given_2 : decode cX9_given 2 = .ok (.invokevirtual 264, 3) := by decide +kernel
theorem dX9_given_5 : decode cX9_given 5 = .ok (.istore_n 3, 1) := by decide +kernel
theorem dX9_given_6 : decode cX9_given 6 = .ok (.iload_n 3, 1) := by decide +kernel
theorem dX9_given_7 : decode cX9_given 7 = .ok (.ifCond .ge 5, 3) := by decide +kernel
theorem dX9_given_10 : decode cX9_given 10 = .ok (.iload_n 3, 1) := by decide +kernel
theorem dX9_given_11 : decode cX9_given 11 = .ok (.ireturn, 1) := by decide +kernel
theorem dX9_given_12 : decode cX9_given 12 = .ok (.iload_n 2, 1) := by decide +kernel
theorem dX9_given_13 : decode cX9_given 13 = .ok (.i2l, 1) := by decide +kernel
theorem dX9_given_14 : decode cX9_given 14 = .ok (.lconst 0, 1) := by decide +kernel
theorem dX9_given_15 : decode cX9_given 15 = .ok (.aload_n 0, 1) := by decide +kernel
theorem dX9_given_16 : decode cX9_given 16 = .ok (.getfield 249, 3) := by decide +kernel
theorem dX9_given_19 : decode cX9_given 19 = .ok (.iconst 1, 1) := by decide +kernel
theorem dX9_given_20 : decode cX9_given 20 = .ok (.isub, 1) := by decide +kernel
theorem dX9_given_21 : decode cX9_given 21 = .ok (.i2l, 1) := by decide +kernel
theorem dX9_given_22 : decode cX9_given 22 = .ok (.invokestatic 7, 3) := by decide +kernel
theorem dX9_given_25 : decode cX9_given 25 = .ok (.ifCond .eq 12, 3) := by decide +kernel
theorem dX9_given_28 : decode cX9_given 28 = .ok (.aload_n 0, 1) := by decide +kernel
theorem dX9_given_29 : decode cX9_given 29 = .ok (.getfield 72, 3) := by decide +kernel
theorem dX9_given_32 : decode cX9_given 32 = .ok (.iload_n 2, 1) := by decide +kernel
theorem dX9_given_33 : decode cX9_given 33 = .ok (.iaload, 1) := by decide +kernel
theorem dX9_given_34 : decode cX9_given 34 = .ok (.goto 4, 3) := by decide +kernel
theorem dX9_given_37 : decode cX9_given 37 = .ok (.iconst (-1), 1) := by decide +kernel
theorem dX9_given_38 : decode cX9_given 38 = .ok (.ireturn, 1) := by decide +kernel
theorem dX9_tie_0 : decode cX9_tie 0 = .ok (.aload_n 0, 1) := by decide +kernel
theorem dX9_tie_1 : decode cX9_tie 1 = .ok (.iload_n 1, 1) := by decide +kernel
theorem dX9_tie_2 : decode cX9_tie 2 = .ok (.invokevirtual 264, 3) := by decide +kernel
theorem dX9_tie_5 : decode cX9_tie 5 = .ok (.istore_n 2, 1) := by decide +kernel
theorem dX9_tie_6 : decode cX9_tie 6 = .ok (.iload_n 2, 1) := by decide +kernel
theorem dX9_tie_7 : decode cX9_tie 7 = .ok (.ifCond .ge 7, 3) := by decide +kernel
theorem dX9_tie_10 : decode cX9_tie 10 = .ok (.iload_n 2, 1) := by decide +kernel
theorem dX9_tie_11 : decode cX9_tie 11 = .ok (.goto 7, 3) := by decide +kernel
theorem dX9_tie_14 : decode cX9_tie 14 = .ok (.aload_n 0, 1) := by decide +kernel
theorem dX9_tie_15 : decode cX9_tie 15 = .ok (.getfield 252, 3) := by decide +kernel
theorem dX9_tie_18 : decode cX9_tie 18 = .ok (.ireturn, 1) := by decide +kernel
theorem dX9_holdsHouse_0 : decode cX9_holdsHouse 0 = .ok (.iconst 0, 1) := by decide +kernel
theorem dX9_holdsHouse_1 : decode cX9_holdsHouse 1 = .ok (.istore_n 1, 1) := by decide +kernel
theorem dX9_holdsHouse_2 : decode cX9_holdsHouse 2 = .ok (.iload_n 1, 1) := by decide +kernel
theorem dX9_holdsHouse_3 : decode cX9_holdsHouse 3 = .ok (.bipush 6, 2) := by decide +kernel
theorem dX9_holdsHouse_5 : decode cX9_holdsHouse 5 = .ok (.if_icmp .ge 21, 3) := by decide +kernel
theorem dX9_holdsHouse_8 : decode cX9_holdsHouse 8 = .ok (.aload_n 0, 1) := by decide +kernel
theorem dX9_holdsHouse_9 : decode cX9_holdsHouse 9 = .ok (.getfield 75, 3) := by decide +kernel
theorem dX9_holdsHouse_12 : decode cX9_holdsHouse 12 = .ok (.iload_n 1, 1) := by decide +kernel
theorem dX9_holdsHouse_13 : decode cX9_holdsHouse 13 = .ok (.aload_n 0, 1) := by decide +kernel
theorem dX9_holdsHouse_14 : decode cX9_holdsHouse 14 = .ok (.getfield 69, 3) := by decide +kernel
theorem dX9_holdsHouse_17 : decode cX9_holdsHouse 17 = .ok (.iload_n 1, 1) := by decide +kernel
theorem dX9_holdsHouse_18 : decode cX9_holdsHouse 18 = .ok (.iaload, 1) := by decide +kernel
theorem dX9_holdsHouse_19 : decode cX9_holdsHouse 19 = .ok (.iastore, 1) := by decide +kernel
theorem dX9_holdsHouse_20 : decode cX9_holdsHouse 20 = .ok (.iinc 1 1, 3) := by decide +kernel
theorem dX9_holdsHouse_23 : decode cX9_holdsHouse 23 = .ok (.goto (-21), 3) := by decide +kernel
theorem dX9_holdsHouse_26 : decode cX9_holdsHouse 26 = .ok (.return_, 1) := by decide +kernel
theorem dX9_differs_0 : decode cX9_differs 0 = .ok (.iconst 0, 1) := by decide +kernel
theorem dX9_differs_1 : decode cX9_differs 1 = .ok (.istore_n 1, 1) := by decide +kernel
theorem dX9_differs_2 : decode cX9_differs 2 = .ok (.iconst 0, 1) := by decide +kernel
theorem dX9_differs_3 : decode cX9_differs 3 = .ok (.istore_n 2, 1) := by decide +kernel
theorem dX9_differs_4 : decode cX9_differs 4 = .ok (.iload_n 2, 1) := by decide +kernel
theorem dX9_differs_5 : decode cX9_differs 5 = .ok (.bipush 6, 2) := by decide +kernel
theorem dX9_differs_7 : decode cX9_differs 7 = .ok (.if_icmp .ge 28, 3) := by decide +kernel
theorem dX9_differs_10 : decode cX9_differs 10 = .ok (.iload_n 1, 1) := by decide +kernel
theorem dX9_differs_11 : decode cX9_differs 11 = .ok (.aload_n 0, 1) := by decide +kernel
theorem dX9_differs_12 : decode cX9_differs 12 = .ok (.getfield 69, 3) := by decide +kernel
theorem dX9_differs_15 : decode cX9_differs 15 = .ok (.iload_n 2, 1) := by decide +kernel
theorem dX9_differs_16 : decode cX9_differs 16 = .ok (.iaload, 1) := by decide +kernel
theorem dX9_differs_17 : decode cX9_differs 17 = .ok (.aload_n 0, 1) := by decide +kernel
theorem dX9_differs_18 : decode cX9_differs 18 = .ok (.getfield 75, 3) := by decide +kernel
theorem dX9_differs_21 : decode cX9_differs 21 = .ok (.iload_n 2, 1) := by decide +kernel
theorem dX9_differs_22 : decode cX9_differs 22 = .ok (.iaload, 1) := by decide +kernel
theorem dX9_differs_23 : decode cX9_differs 23 = .ok (.isub, 1) := by decide +kernel
theorem dX9_differs_24 : decode cX9_differs 24 = .ok (.invokestatic 267, 3) := by decide +kernel
theorem dX9_differs_27 : decode cX9_differs 27 = .ok (.iadd, 1) := by decide +kernel
theorem dX9_differs_28 : decode cX9_differs 28 = .ok (.istore_n 1, 1) := by decide +kernel
theorem dX9_differs_29 : decode cX9_differs 29 = .ok (.iinc 2 1, 3) := by decide +kernel
theorem dX9_differs_32 : decode cX9_differs 32 = .ok (.goto (-28), 3) := by decide +kernel
theorem dX9_differs_35 : decode cX9_differs 35 = .ok (.iload_n 1, 1) := by decide +kernel
theorem dX9_differs_36 : decode cX9_differs 36 = .ok (.iconst 2, 1) := by decide +kernel
theorem dX9_differs_37 : decode cX9_differs 37 = .ok (.idiv, 1) := by decide +kernel
theorem dX9_differs_38 : decode cX9_differs 38 = .ok (.ireturn, 1) := by decide +kernel
theorem dX9_differ_0 : decode cX9_differ 0 = .ok (.iload_n 2, 1) := by decide +kernel
theorem dX9_differ_1 : decode cX9_differ 1 = .ok (.i2l, 1) := by decide +kernel
theorem dX9_differ_2 : decode cX9_differ 2 = .ok (.lconst 0, 1) := by decide +kernel
theorem dX9_differ_3 : decode cX9_differ 3 = .ok (.ldc2_w 147, 3) := by decide +kernel
theorem dX9_differ_6 : decode cX9_differ 6 = .ok (.invokestatic 7, 3) := by decide +kernel
theorem dX9_differ_9 : decode cX9_differ 9 = .ok (.ifCond .eq 15, 3) := by decide +kernel
theorem dX9_differ_12 : decode cX9_differ 12 = .ok (.iload_n 3, 1) := by decide +kernel
theorem dX9_differ_13 : decode cX9_differ 13 = .ok (.i2l, 1) := by decide +kernel
theorem dX9_differ_14 : decode cX9_differ 14 = .ok (.lconst 0, 1) := by decide +kernel
theorem dX9_differ_15 : decode cX9_differ 15 = .ok (.ldc2_w 147, 3) := by decide +kernel
theorem dX9_differ_18 : decode cX9_differ 18 = .ok (.invokestatic 7, 3) := by decide +kernel
theorem dX9_differ_21 : decode cX9_differ 21 = .ok (.ifCond .ne 5, 3) := by decide +kernel
theorem dX9_differ_24 : decode cX9_differ 24 = .ok (.iconst (-1), 1) := by decide +kernel
theorem dX9_differ_25 : decode cX9_differ 25 = .ok (.ireturn, 1) := by decide +kernel
theorem dX9_differ_26 : decode cX9_differ 26 = .ok (.iload_n 1, 1) := by decide +kernel
theorem dX9_differ_27 : decode cX9_differ 27 = .ok (.invokestatic 258, 3) := by decide +kernel
theorem dX9_differ_30 : decode cX9_differ 30 = .ok (.ifCond .ne 6, 3) := by decide +kernel
theorem dX9_differ_33 : decode cX9_differ 33 = .ok (.bipush (-2), 2) := by decide +kernel
theorem dX9_differ_35 : decode cX9_differ 35 = .ok (.ireturn, 1) := by decide +kernel
theorem dX9_differ_36 : decode cX9_differ 36 = .ok (.aload_n 0, 1) := by decide +kernel
theorem dX9_differ_37 : decode cX9_differ 37 = .ok (.iload_n 2, 1) := by decide +kernel
theorem dX9_differ_38 : decode cX9_differ 38 = .ok (.iload_n 1, 1) := by decide +kernel
theorem dX9_differ_39 : decode cX9_differ 39 = .ok (.invokevirtual 261, 3) := by decide +kernel
theorem dX9_differ_42 : decode cX9_differ 42 = .ok (.ifCond .ne 6, 3) := by decide +kernel
theorem dX9_differ_45 : decode cX9_differ 45 = .ok (.bipush (-3), 2) := by decide +kernel
theorem dX9_differ_47 : decode cX9_differ 47 = .ok (.ireturn, 1) := by decide +kernel
theorem dX9_differ_48 : decode cX9_differ 48 = .ok (.aload_n 0, 1) := by decide +kernel
theorem dX9_differ_49 : decode cX9_differ 49 = .ok (.invokevirtual 270, 3) := by decide +kernel
theorem dX9_differ_52 : decode cX9_differ 52 = .ok (.aload_n 0, 1) := by decide +kernel
theorem dX9_differ_53 : decode cX9_differ 53 = .ok (.iload_n 3, 1) := by decide +kernel
theorem dX9_differ_54 : decode cX9_differ 54 = .ok (.iload_n 1, 1) := by decide +kernel
theorem dX9_differ_55 : decode cX9_differ 55 = .ok (.invokevirtual 261, 3) := by decide +kernel
theorem dX9_differ_58 : decode cX9_differ 58 = .ok (.ifCond .eq 10, 3) := by decide +kernel
theorem dX9_differ_61 : decode cX9_differ 61 = .ok (.aload_n 0, 1) := by decide +kernel
theorem dX9_differ_62 : decode cX9_differ 62 = .ok (.invokevirtual 273, 3) := by decide +kernel
theorem dX9_differ_65 : decode cX9_differ 65 = .ok (.goto 5, 3) := by decide +kernel
theorem dX9_differ_68 : decode cX9_differ 68 = .ok (.bipush (-3), 2) := by decide +kernel
theorem dX9_differ_70 : decode cX9_differ 70 = .ok (.ireturn, 1) := by decide +kernel
theorem dX9_losesAt_0 : decode cX9_losesAt 0 = .ok (.aload_n 0, 1) := by decide +kernel
theorem dX9_losesAt_1 : decode cX9_losesAt 1 = .ok (.aload_n 0, 1) := by decide +kernel
theorem dX9_losesAt_2 : decode cX9_losesAt 2 = .ok (.invokevirtual 192, 3) := by decide +kernel
theorem dX9_losesAt_5 : decode cX9_losesAt 5 = .ok (.iload_n 1, 1) := by decide +kernel
theorem dX9_losesAt_6 : decode cX9_losesAt 6 = .ok (.iconst 1, 1) := by decide +kernel
theorem dX9_losesAt_7 : decode cX9_losesAt 7 = .ok (.isub, 1) := by decide +kernel
theorem dX9_losesAt_8 : decode cX9_losesAt 8 = .ok (.invokevirtual 261, 3) := by decide +kernel
theorem dX9_losesAt_11 : decode cX9_losesAt 11 = .ok (.ifCond .ne 6, 3) := by decide +kernel
theorem dX9_losesAt_14 : decode cX9_losesAt 14 = .ok (.bipush (-5), 2) := by decide +kernel
theorem dX9_losesAt_16 : decode cX9_losesAt 16 = .ok (.ireturn, 1) := by decide +kernel
theorem dX9_losesAt_17 : decode cX9_losesAt 17 = .ok (.aload_n 0, 1) := by decide +kernel
theorem dX9_losesAt_18 : decode cX9_losesAt 18 = .ok (.invokevirtual 270, 3) := by decide +kernel
theorem dX9_losesAt_21 : decode cX9_losesAt 21 = .ok (.aload_n 0, 1) := by decide +kernel
theorem dX9_losesAt_22 : decode cX9_losesAt 22 = .ok (.aload_n 0, 1) := by decide +kernel
theorem dX9_losesAt_23 : decode cX9_losesAt 23 = .ok (.invokevirtual 192, 3) := by decide +kernel
theorem dX9_losesAt_26 : decode cX9_losesAt 26 = .ok (.iload_n 1, 1) := by decide +kernel
theorem dX9_losesAt_27 : decode cX9_losesAt 27 = .ok (.invokevirtual 261, 3) := by decide +kernel
theorem dX9_losesAt_30 : decode cX9_losesAt 30 = .ok (.ifCond .ne 6, 3) := by decide +kernel
theorem dX9_losesAt_33 : decode cX9_losesAt 33 = .ok (.bipush (-5), 2) := by decide +kernel
theorem dX9_losesAt_35 : decode cX9_losesAt 35 = .ok (.ireturn, 1) := by decide +kernel
theorem dX9_losesAt_36 : decode cX9_losesAt 36 = .ok (.iconst 0, 1) := by decide +kernel
theorem dX9_losesAt_37 : decode cX9_losesAt 37 = .ok (.istore_n 2, 1) := by decide +kernel
theorem dX9_losesAt_38 : decode cX9_losesAt 38 = .ok (.iload_n 2, 1) := by decide +kernel
theorem dX9_losesAt_39 : decode cX9_losesAt 39 = .ok (.bipush 6, 2) := by decide +kernel
theorem dX9_losesAt_41 : decode cX9_losesAt 41 = .ok (.if_icmp .ge 26, 3) := by decide +kernel
theorem dX9_losesAt_44 : decode cX9_losesAt 44 = .ok (.aload_n 0, 1) := by decide +kernel
theorem dX9_losesAt_45 : decode cX9_losesAt 45 = .ok (.getfield 69, 3) := by decide +kernel
theorem dX9_losesAt_48 : decode cX9_losesAt 48 = .ok (.iload_n 2, 1) := by decide +kernel
theorem dX9_losesAt_49 : decode cX9_losesAt 49 = .ok (.iaload, 1) := by decide +kernel
theorem dX9_losesAt_50 : decode cX9_losesAt 50 = .ok (.aload_n 0, 1) := by decide +kernel
theorem dX9_losesAt_51 : decode cX9_losesAt 51 = .ok (.getfield 75, 3) := by decide +kernel
theorem dX9_losesAt_54 : decode cX9_losesAt 54 = .ok (.iload_n 2, 1) := by decide +kernel
theorem dX9_losesAt_55 : decode cX9_losesAt 55 = .ok (.iaload, 1) := by decide +kernel
theorem dX9_losesAt_56 : decode cX9_losesAt 56 = .ok (.if_icmp .ge 5, 3) := by decide +kernel
theorem dX9_losesAt_59 : decode cX9_losesAt 59 = .ok (.iload_n 2, 1) := by decide +kernel
theorem dX9_losesAt_60 : decode cX9_losesAt 60 = .ok (.ireturn, 1) := by decide +kernel
theorem dX9_losesAt_61 : decode cX9_losesAt 61 = .ok (.iinc 2 1, 3) := by decide +kernel
theorem dX9_losesAt_64 : decode cX9_losesAt 64 = .ok (.goto (-26), 3) := by decide +kernel
theorem dX9_losesAt_67 : decode cX9_losesAt 67 = .ok (.bipush (-5), 2) := by decide +kernel
theorem dX9_losesAt_69 : decode cX9_losesAt 69 = .ok (.ireturn, 1) := by decide +kernel
theorem dX9_loses_0 : decode cX9_loses 0 = .ok (.iload_n 1, 1) := by decide +kernel
theorem dX9_loses_1 : decode cX9_loses 1 = .ok (.invokestatic 258, 3) := by decide +kernel
theorem dX9_loses_4 : decode cX9_loses 4 = .ok (.ifCond .eq 15, 3) := by decide +kernel
theorem dX9_loses_7 : decode cX9_loses 7 = .ok (.iload_n 2, 1) := by decide +kernel
theorem dX9_loses_8 : decode cX9_loses 8 = .ok (.invokestatic 258, 3) := by decide +kernel
theorem dX9_loses_11 : decode cX9_loses 11 = .ok (.ifCond .eq 8, 3) := by decide +kernel
theorem dX9_loses_14 : decode cX9_loses 14 = .ok (.iload_n 2, 1) := by decide +kernel
theorem dX9_loses_15 : decode cX9_loses 15 = .ok (.iload_n 1, 1) := by decide +kernel
theorem dX9_loses_16 : decode cX9_loses 16 = .ok (.if_icmp .ge 6, 3) := by decide +kernel
theorem dX9_loses_19 : decode cX9_loses 19 = .ok (.bipush (-2), 2) := by decide +kernel
theorem dX9_loses_21 : decode cX9_loses 21 = .ok (.ireturn, 1) := by decide +kernel
theorem dX9_loses_22 : decode cX9_loses 22 = .ok (.iload_n 1, 1) := by decide +kernel
theorem dX9_loses_23 : decode cX9_loses 23 = .ok (.iconst 1, 1) := by decide +kernel
theorem dX9_loses_24 : decode cX9_loses 24 = .ok (.iadd, 1) := by decide +kernel
theorem dX9_loses_25 : decode cX9_loses 25 = .ok (.istore_n 3, 1) := by decide +kernel
theorem dX9_loses_26 : decode cX9_loses 26 = .ok (.iload_n 3, 1) := by decide +kernel
theorem dX9_loses_27 : decode cX9_loses 27 = .ok (.iload_n 2, 1) := by decide +kernel
theorem dX9_loses_28 : decode cX9_loses 28 = .ok (.if_icmp .gt 21, 3) := by decide +kernel
theorem dX9_loses_31 : decode cX9_loses 31 = .ok (.aload_n 0, 1) := by decide +kernel
theorem dX9_loses_32 : decode cX9_loses 32 = .ok (.iload_n 3, 1) := by decide +kernel
theorem dX9_loses_33 : decode cX9_loses 33 = .ok (.invokevirtual 276, 3) := by decide +kernel
theorem dX9_loses_36 : decode cX9_loses 36 = .ok (.bipush (-5), 2) := by decide +kernel
theorem dX9_loses_38 : decode cX9_loses 38 = .ok (.if_icmp .eq 5, 3) := by decide +kernel
theorem dX9_loses_41 : decode cX9_loses 41 = .ok (.iload_n 3, 1) := by decide +kernel
theorem dX9_loses_42 : decode cX9_loses 42 = .ok (.ireturn, 1) := by decide +kernel
theorem dX9_loses_43 : decode cX9_loses 43 = .ok (.iinc 3 1, 3) := by decide +kernel
theorem dX9_loses_46 : decode cX9_loses 46 = .ok (.goto (-20), 3) := by decide +kernel
theorem dX9_loses_49 : decode cX9_loses 49 = .ok (.bipush (-5), 2) := by decide +kernel
theorem dX9_loses_51 : decode cX9_loses 51 = .ok (.ireturn, 1) := by decide +kernel
theorem dX9_loser_0 : decode cX9_loser 0 = .ok (.iload_n 1, 1) := by decide +kernel
theorem dX9_loser_1 : decode cX9_loser 1 = .ok (.i2l, 1) := by decide +kernel
theorem dX9_loser_2 : decode cX9_loser 2 = .ok (.lconst 1, 1) := by decide +kernel
theorem dX9_loser_3 : decode cX9_loser 3 = .ok (.ldc2_w 13, 3) := by decide +kernel
theorem dX9_loser_6 : decode cX9_loser 6 = .ok (.invokestatic 7, 3) := by decide +kernel
theorem dX9_loser_9 : decode cX9_loser 9 = .ok (.ifCond .eq 11, 3) := by decide +kernel
theorem dX9_loser_12 : decode cX9_loser 12 = .ok (.aload_n 0, 1) := by decide +kernel
theorem dX9_loser_13 : decode cX9_loser 13 = .ok (.iload_n 1, 1) := by decide +kernel
theorem dX9_loser_14 : decode cX9_loser 14 = .ok (.invokevirtual 276, 3) := by decide +kernel
theorem dX9_loser_17 : decode cX9_loser 17 = .ok (.goto 5, 3) := by decide +kernel
theorem dX9_loser_20 : decode cX9_loser 20 = .ok (.bipush (-2), 2) := by decide +kernel
theorem dX9_loser_22 : decode cX9_loser 22 = .ok (.ireturn, 1) := by decide +kernel
theorem dX9_edge_0 : decode cX9_edge 0 = .ok (.iconst (-1), 1) := by decide +kernel
theorem dX9_edge_1 : decode cX9_edge 1 = .ok (.istore_n 2, 1) := by decide +kernel
theorem dX9_edge_2 : decode cX9_edge 2 = .ok (.iconst 0, 1) := by decide +kernel
theorem dX9_edge_3 : decode cX9_edge 3 = .ok (.istore_n 3, 1) := by decide +kernel
theorem dX9_edge_4 : decode cX9_edge 4 = .ok (.iload_n 3, 1) := by decide +kernel
theorem dX9_edge_5 : decode cX9_edge 5 = .ok (.bipush 6, 2) := by decide +kernel
theorem dX9_edge_7 : decode cX9_edge 7 = .ok (.if_icmp .ge 118, 3) := by decide +kernel
theorem dX9_edge_10 : decode cX9_edge 10 = .ok (.aload_n 0, 1) := by decide +kernel
theorem dX9_edge_11 : decode cX9_edge 11 = .ok (.getfield 57, 3) := by decide +kernel
theorem dX9_edge_14 : decode cX9_edge 14 = .ok (.iload_n 3, 1) := by decide +kernel
theorem dX9_edge_15 : decode cX9_edge 15 = .ok (.baload, 1) := by decide +kernel
theorem dX9_edge_16 : decode cX9_edge 16 = .ok (.ifCond .eq 103, 3) := by decide +kernel
theorem dX9_edge_19 : decode cX9_edge 19 = .ok (.iload_n 1, 1) := by decide +kernel
theorem dX9_edge_20 : decode cX9_edge 20 = .ok (.iconst 1, 1) := by decide +kernel
theorem dX9_edge_21 : decode cX9_edge 21 = .ok (.if_icmp .ne 21, 3) := by decide +kernel
theorem dX9_edge_24 : decode cX9_edge 24 = .ok (.aload_n 0, 1) := by decide +kernel
theorem dX9_edge_25 : decode cX9_edge 25 = .ok (.getfield 66, 3) := by decide +kernel
theorem dX9_edge_28 : decode cX9_edge 28 = .ok (.iload_n 3, 1) := by decide +kernel
theorem dX9_edge_29 : decode cX9_edge 29 = .ok (.iaload, 1) := by decide +kernel
theorem dX9_edge_30 : decode cX9_edge 30 = .ok (.aload_n 0, 1) := by decide +kernel
theorem dX9_edge_31 : decode cX9_edge 31 = .ok (.getfield 63, 3) := by decide +kernel
theorem dX9_edge_34 : decode cX9_edge 34 = .ok (.iload_n 3, 1) := by decide +kernel
theorem dX9_edge_35 : decode cX9_edge 35 = .ok (.iaload, 1) := by decide +kernel
theorem dX9_edge_36 : decode cX9_edge 36 = .ok (.if_icmp .gt 6, 3) := by decide +kernel
theorem dX9_edge_39 : decode cX9_edge 39 = .ok (.goto 80, 3) := by decide +kernel
theorem dX9_edge_42 : decode cX9_edge 42 = .ok (.iload_n 2, 1) := by decide +kernel
theorem dX9_edge_43 : decode cX9_edge 43 = .ok (.iconst (-1), 1) := by decide +kernel
theorem dX9_edge_44 : decode cX9_edge 44 = .ok (.if_icmp .ne 7, 3) := by decide +kernel
theorem dX9_edge_47 : decode cX9_edge 47 = .ok (.iconst 0, 1) := by decide +kernel
theorem dX9_edge_48 : decode cX9_edge 48 = .ok (.goto 45, 3) := by decide +kernel
theorem dX9_edge_51 : decode cX9_edge 51 = .ok (.aload_n 0, 1) := by decide +kernel
theorem dX9_edge_52 : decode cX9_edge 52 = .ok (.aload_n 0, 1) := by decide +kernel
theorem dX9_edge_53 : decode cX9_edge 53 = .ok (.invokevirtual 192, 3) := by decide +kernel
theorem dX9_edge_56 : decode cX9_edge 56 = .ok (.aload_n 0, 1) := by decide +kernel
theorem dX9_edge_57 : decode cX9_edge 57 = .ok (.getfield 60, 3) := by decide +kernel
theorem dX9_edge_60 : decode cX9_edge 60 = .ok (.iload_n 3, 1) := by decide +kernel
theorem dX9_edge_61 : decode cX9_edge 61 = .ok (.iaload, 1) := by decide +kernel
theorem dX9_edge_62 : decode cX9_edge 62 = .ok (.i2l, 1) := by decide +kernel
theorem dX9_edge_63 : decode cX9_edge 63 = .ok (.aload_n 0, 1) := by decide +kernel
theorem dX9_edge_64 : decode cX9_edge 64 = .ok (.getfield 66, 3) := by decide +kernel
theorem dX9_edge_67 : decode cX9_edge 67 = .ok (.iload_n 3, 1) := by decide +kernel
theorem dX9_edge_68 : decode cX9_edge 68 = .ok (.iaload, 1) := by decide +kernel
theorem dX9_edge_69 : decode cX9_edge 69 = .ok (.iconst 1, 1) := by decide +kernel
theorem dX9_edge_70 : decode cX9_edge 70 = .ok (.iadd, 1) := by decide +kernel
theorem dX9_edge_71 : decode cX9_edge 71 = .ok (.iload_n 1, 1) := by decide +kernel
theorem dX9_edge_72 : decode cX9_edge 72 = .ok (.isub, 1) := by decide +kernel
theorem dX9_edge_73 : decode cX9_edge 73 = .ok (.aload_n 0, 1) := by decide +kernel
theorem dX9_edge_74 : decode cX9_edge 74 = .ok (.getfield 60, 3) := by decide +kernel
theorem dX9_edge_77 : decode cX9_edge 77 = .ok (.iload_n 2, 1) := by decide +kernel
theorem dX9_edge_78 : decode cX9_edge 78 = .ok (.iaload, 1) := by decide +kernel
theorem dX9_edge_79 : decode cX9_edge 79 = .ok (.i2l, 1) := by decide +kernel
theorem dX9_edge_80 : decode cX9_edge 80 = .ok (.aload_n 0, 1) := by decide +kernel
theorem dX9_edge_81 : decode cX9_edge 81 = .ok (.getfield 66, 3) := by decide +kernel
theorem dX9_edge_84 : decode cX9_edge 84 = .ok (.iload_n 2, 1) := by decide +kernel
theorem dX9_edge_85 : decode cX9_edge 85 = .ok (.iaload, 1) := by decide +kernel
theorem dX9_edge_86 : decode cX9_edge 86 = .ok (.iconst 1, 1) := by decide +kernel
theorem dX9_edge_87 : decode cX9_edge 87 = .ok (.iadd, 1) := by decide +kernel
theorem dX9_edge_88 : decode cX9_edge 88 = .ok (.iload_n 1, 1) := by decide +kernel
theorem dX9_edge_89 : decode cX9_edge 89 = .ok (.isub, 1) := by decide +kernel
theorem dX9_edge_90 : decode cX9_edge 90 = .ok (.invokevirtual 217, 3) := by decide +kernel
theorem dX9_edge_93 : decode cX9_edge 93 = .ok (.istore 4, 2) := by decide +kernel
theorem dX9_edge_95 : decode cX9_edge 95 = .ok (.iload_n 2, 1) := by decide +kernel
theorem dX9_edge_96 : decode cX9_edge 96 = .ok (.iconst (-1), 1) := by decide +kernel
theorem dX9_edge_97 : decode cX9_edge 97 = .ok (.if_icmp .eq 20, 3) := by decide +kernel
theorem dX9_edge_100 : decode cX9_edge 100 = .ok (.iload_n 1, 1) := by decide +kernel
theorem dX9_edge_101 : decode cX9_edge 101 = .ok (.ifCond .ne 11, 3) := by decide +kernel
theorem dX9_edge_104 : decode cX9_edge 104 = .ok (.iload 4, 2) := by decide +kernel
theorem dX9_edge_106 : decode cX9_edge 106 = .ok (.ifCond .le 13, 3) := by decide +kernel
theorem dX9_edge_109 : decode cX9_edge 109 = .ok (.goto 8, 3) := by decide +kernel
theorem dX9_edge_112 : decode cX9_edge 112 = .ok (.iload 4, 2) := by decide +kernel
theorem dX9_edge_114 : decode cX9_edge 114 = .ok (.ifCond .ge 5, 3) := by decide +kernel
theorem dX9_edge_117 : decode cX9_edge 117 = .ok (.iload_n 3, 1) := by decide +kernel
theorem dX9_edge_118 : decode cX9_edge 118 = .ok (.istore_n 2, 1) := by decide +kernel
theorem dX9_edge_119 : decode cX9_edge 119 = .ok (.iinc 3 1, 3) := by decide +kernel
theorem dX9_edge_122 : decode cX9_edge 122 = .ok (.goto (-118), 3) := by decide +kernel
theorem dX9_edge_125 : decode cX9_edge 125 = .ok (.iload_n 2, 1) := by decide +kernel
theorem dX9_edge_126 : decode cX9_edge 126 = .ok (.ireturn, 1) := by decide +kernel
theorem dX9_span_0 : decode cX9_span 0 = .ok (.iload_n 1, 1) := by decide +kernel
theorem dX9_span_1 : decode cX9_span 1 = .ok (.invokestatic 258, 3) := by decide +kernel
theorem dX9_span_4 : decode cX9_span 4 = .ok (.ifCond .eq 46, 3) := by decide +kernel
theorem dX9_span_7 : decode cX9_span 7 = .ok (.iload_n 2, 1) := by decide +kernel
theorem dX9_span_8 : decode cX9_span 8 = .ok (.invokestatic 189, 3) := by decide +kernel
theorem dX9_span_11 : decode cX9_span 11 = .ok (.ifCond .eq 39, 3) := by decide +kernel
theorem dX9_span_14 : decode cX9_span 14 = .ok (.iload_n 3, 1) := by decide +kernel
theorem dX9_span_15 : decode cX9_span 15 = .ok (.invokestatic 189, 3) := by decide +kernel
theorem dX9_span_18 : decode cX9_span 18 = .ok (.ifCond .eq 32, 3) := by decide +kernel
theorem dX9_span_21 : decode cX9_span 21 = .ok (.aload_n 0, 1) := by decide +kernel
theorem dX9_span_22 : decode cX9_span 22 = .ok (.invokevirtual 192, 3) := by decide +kernel
theorem dX9_span_25 : decode cX9_span 25 = .ok (.iconst 3, 1) := by decide +kernel
theorem dX9_span_26 : decode cX9_span 26 = .ok (.if_icmp .eq 24, 3) := by decide +kernel
theorem dX9_span_29 : decode cX9_span 29 = .ok (.aload_n 0, 1) := by decide +kernel
theorem dX9_span_30 : decode cX9_span 30 = .ok (.invokevirtual 192, 3) := by decide +kernel
theorem dX9_span_33 : decode cX9_span 33 = .ok (.bipush 6, 2) := by decide +kernel
theorem dX9_span_35 : decode cX9_span 35 = .ok (.if_icmp .eq 15, 3) := by decide +kernel
theorem dX9_span_38 : decode cX9_span 38 = .ok (.aload_n 0, 1) := by decide +kernel
theorem dX9_span_39 : decode cX9_span 39 = .ok (.aload_n 0, 1) := by decide +kernel
theorem dX9_span_40 : decode cX9_span 40 = .ok (.invokevirtual 192, 3) := by decide +kernel
theorem dX9_span_43 : decode cX9_span 43 = .ok (.iload_n 1, 1) := by decide +kernel
theorem dX9_span_44 : decode cX9_span 44 = .ok (.invokevirtual 261, 3) := by decide +kernel
theorem dX9_span_47 : decode cX9_span 47 = .ok (.ifCond .ne 7, 3) := by decide +kernel
theorem dX9_span_50 : decode cX9_span 50 = .ok (.ldc2_w 195, 3) := by decide +kernel
theorem dX9_span_53 : decode cX9_span 53 = .ok (.lreturn, 1) := by decide +kernel
theorem dX9_span_54 : decode cX9_span 54 = .ok (.aload_n 0, 1) := by decide +kernel
theorem dX9_span_55 : decode cX9_span 55 = .ok (.iload_n 2, 1) := by decide +kernel
theorem dX9_span_56 : decode cX9_span 56 = .ok (.invokevirtual 279, 3) := by decide +kernel
theorem dX9_span_59 : decode cX9_span 59 = .ok (.istore 4, 2) := by decide +kernel
theorem dX9_span_61 : decode cX9_span 61 = .ok (.iload 4, 2) := by decide +kernel
theorem dX9_span_63 : decode cX9_span 63 = .ok (.iconst (-1), 1) := by decide +kernel
theorem dX9_span_64 : decode cX9_span 64 = .ok (.if_icmp .ne 7, 3) := by decide +kernel
theorem dX9_span_67 : decode cX9_span 67 = .ok (.ldc2_w 195, 3) := by decide +kernel
theorem dX9_span_70 : decode cX9_span 70 = .ok (.lreturn, 1) := by decide +kernel
theorem dX9_span_71 : decode cX9_span 71 = .ok (.aload_n 0, 1) := by decide +kernel
theorem dX9_span_72 : decode cX9_span 72 = .ok (.getfield 66, 3) := by decide +kernel
theorem dX9_span_75 : decode cX9_span 75 = .ok (.iload 4, 2) := by decide +kernel
theorem dX9_span_77 : decode cX9_span 77 = .ok (.iaload, 1) := by decide +kernel
theorem dX9_span_78 : decode cX9_span 78 = .ok (.iconst 1, 1) := by decide +kernel
theorem dX9_span_79 : decode cX9_span 79 = .ok (.iadd, 1) := by decide +kernel
theorem dX9_span_80 : decode cX9_span 80 = .ok (.iload_n 2, 1) := by decide +kernel
theorem dX9_span_81 : decode cX9_span 81 = .ok (.isub, 1) := by decide +kernel
theorem dX9_span_82 : decode cX9_span 82 = .ok (.istore 5, 2) := by decide +kernel
theorem dX9_span_84 : decode cX9_span 84 = .ok (.aload_n 0, 1) := by decide +kernel
theorem dX9_span_85 : decode cX9_span 85 = .ok (.aload_n 0, 1) := by decide +kernel
theorem dX9_span_86 : decode cX9_span 86 = .ok (.invokevirtual 192, 3) := by decide +kernel
theorem dX9_span_89 : decode cX9_span 89 = .ok (.iload 5, 2) := by decide +kernel
theorem dX9_span_91 : decode cX9_span 91 = .ok (.invokevirtual 178, 3) := by decide +kernel
theorem dX9_span_94 : decode cX9_span 94 = .ok (.istore 6, 2) := by decide +kernel
theorem dX9_span_96 : decode cX9_span 96 = .ok (.iload 6, 2) := by decide +kernel
theorem dX9_span_98 : decode cX9_span 98 = .ok (.ifCond .ne 9, 3) := by decide +kernel
theorem dX9_span_101 : decode cX9_span 101 = .ok (.ldc2_w 195, 3) := by decide +kernel
theorem dX9_span_104 : decode cX9_span 104 = .ok (.goto 28, 3) := by decide +kernel
theorem dX9_span_107 : decode cX9_span 107 = .ok (.aload_n 0, 1) := by decide +kernel
theorem dX9_span_108 : decode cX9_span 108 = .ok (.aload_n 0, 1) := by decide +kernel
theorem dX9_span_109 : decode cX9_span 109 = .ok (.invokevirtual 192, 3) := by decide +kernel
theorem dX9_span_112 : decode cX9_span 112 = .ok (.aload_n 0, 1) := by decide +kernel
theorem dX9_span_113 : decode cX9_span 113 = .ok (.getfield 60, 3) := by decide +kernel
theorem dX9_span_116 : decode cX9_span 116 = .ok (.iload 4, 2) := by decide +kernel
theorem dX9_span_118 : decode cX9_span 118 = .ok (.iaload, 1) := by decide +kernel
theorem dX9_span_119 : decode cX9_span 119 = .ok (.i2l, 1) := by decide +kernel
theorem dX9_span_120 : decode cX9_span 120 = .ok (.iload 5, 2) := by decide +kernel
theorem dX9_span_122 : decode cX9_span 122 = .ok (.invokevirtual 181, 3) := by decide +kernel
theorem dX9_span_125 : decode cX9_span 125 = .ok (.iload 6, 2) := by decide +kernel
theorem dX9_span_127 : decode cX9_span 127 = .ok (.i2l, 1) := by decide +kernel
theorem dX9_span_128 : decode cX9_span 128 = .ok (.iload_n 3, 1) := by decide +kernel
theorem dX9_span_129 : decode cX9_span 129 = .ok (.invokestatic 197, 3) := by decide +kernel
theorem dX9_span_132 : decode cX9_span 132 = .ok (.lreturn, 1) := by decide +kernel
theorem dX9_quota_0 : decode cX9_quota 0 = .ok (.iload_n 1, 1) := by decide +kernel
theorem dX9_quota_1 : decode cX9_quota 1 = .ok (.invokestatic 258, 3) := by decide +kernel
theorem dX9_quota_4 : decode cX9_quota 4 = .ok (.ifCond .ne 6, 3) := by decide +kernel
theorem dX9_quota_7 : decode cX9_quota 7 = .ok (.bipush (-2), 2) := by decide +kernel
theorem dX9_quota_9 : decode cX9_quota 9 = .ok (.ireturn, 1) := by decide +kernel
theorem dX9_quota_10 : decode cX9_quota 10 = .ok (.aload_n 0, 1) := by decide +kernel
theorem dX9_quota_11 : decode cX9_quota 11 = .ok (.aload_n 0, 1) := by decide +kernel
theorem dX9_quota_12 : decode cX9_quota 12 = .ok (.invokevirtual 192, 3) := by decide +kernel
theorem dX9_quota_15 : decode cX9_quota 15 = .ok (.iload_n 1, 1) := by decide +kernel
theorem dX9_quota_16 : decode cX9_quota 16 = .ok (.invokevirtual 261, 3) := by decide +kernel
theorem dX9_quota_19 : decode cX9_quota 19 = .ok (.ifCond .ne 6, 3) := by decide +kernel
theorem dX9_quota_22 : decode cX9_quota 22 = .ok (.bipush (-3), 2) := by decide +kernel
theorem dX9_quota_24 : decode cX9_quota 24 = .ok (.ireturn, 1) := by decide +kernel
theorem dX9_quota_25 : decode cX9_quota 25 = .ok (.lconst 0, 1) := by decide +kernel
theorem dX9_quota_26 : decode cX9_quota 26 = .ok (.lstore_n 2, 1) := by decide +kernel
theorem dX9_quota_27 : decode cX9_quota 27 = .ok (.iconst 0, 1) := by decide +kernel
theorem dX9_quota_28 : decode cX9_quota 28 = .ok (.istore 4, 2) := by decide +kernel
theorem dX9_quota_30 : decode cX9_quota 30 = .ok (.iload 4, 2) := by decide +kernel
theorem dX9_quota_32 : decode cX9_quota 32 = .ok (.bipush 6, 2) := by decide +kernel
theorem dX9_quota_34 : decode cX9_quota 34 = .ok (.if_icmp .ge 32, 3) := by decide +kernel
theorem dX9_quota_37 : decode cX9_quota 37 = .ok (.lload_n 2, 1) := by decide +kernel
theorem dX9_quota_38 : decode cX9_quota 38 = .ok (.aload_n 0, 1) := by decide +kernel
theorem dX9_quota_39 : decode cX9_quota 39 = .ok (.iload 4, 2) := by decide +kernel
theorem dX9_quota_41 : decode cX9_quota 41 = .ok (.invokevirtual 234, 3) := by decide +kernel
theorem dX9_quota_44 : decode cX9_quota 44 = .ok (.ifCond .eq 13, 3) := by decide +kernel
theorem dX9_quota_47 : decode cX9_quota 47 = .ok (.aload_n 0, 1) := by decide +kernel
theorem dX9_quota_48 : decode cX9_quota 48 = .ok (.iload 4, 2) := by decide +kernel
theorem dX9_quota_50 : decode cX9_quota 50 = .ok (.invokevirtual 120, 3) := by decide +kernel
theorem dX9_quota_53 : decode cX9_quota 53 = .ok (.i2l, 1) := by decide +kernel
theorem dX9_quota_54 : decode cX9_quota 54 = .ok (.goto 4, 3) := by decide +kernel
theorem dX9_quota_57 : decode cX9_quota 57 = .ok (.lconst 0, 1) := by decide +kernel
theorem dX9_quota_58 : decode cX9_quota 58 = .ok (.ladd, 1) := by decide +kernel
theorem dX9_quota_59 : decode cX9_quota 59 = .ok (.lstore_n 2, 1) := by decide +kernel
theorem dX9_quota_60 : decode cX9_quota 60 = .ok (.iinc 4 1, 3) := by decide +kernel
theorem dX9_quota_63 : decode cX9_quota 63 = .ok (.goto (-33), 3) := by decide +kernel
theorem dX9_quota_66 : decode cX9_quota 66 = .ok (.iconst 0, 1) := by decide +kernel
theorem dX9_quota_67 : decode cX9_quota 67 = .ok (.istore 4, 2) := by decide +kernel
theorem dX9_quota_69 : decode cX9_quota 69 = .ok (.iconst 0, 1) := by decide +kernel
theorem dX9_quota_70 : decode cX9_quota 70 = .ok (.istore 5, 2) := by decide +kernel
theorem dX9_quota_72 : decode cX9_quota 72 = .ok (.iload 5, 2) := by decide +kernel
theorem dX9_quota_74 : decode cX9_quota 74 = .ok (.bipush 6, 2) := by decide +kernel
theorem dX9_quota_76 : decode cX9_quota 76 = .ok (.if_icmp .ge 96, 3) := by decide +kernel
theorem dX9_quota_79 : decode cX9_quota 79 = .ok (.lload_n 2, 1) := by decide +kernel
theorem dX9_quota_80 : decode cX9_quota 80 = .ok (.lconst 0, 1) := by decide +kernel
theorem dX9_quota_81 : decode cX9_quota 81 = .ok (.lcmp, 1) := by decide +kernel
theorem dX9_quota_82 : decode cX9_quota 82 = .ok (.ifCond .le 90, 3) := by decide +kernel
theorem dX9_quota_85 : decode cX9_quota 85 = .ok (.aload_n 0, 1) := by decide +kernel
theorem dX9_quota_86 : decode cX9_quota 86 = .ok (.iload 5, 2) := by decide +kernel
theorem dX9_quota_88 : decode cX9_quota 88 = .ok (.invokevirtual 234, 3) := by decide +kernel
theorem dX9_quota_91 : decode cX9_quota 91 = .ok (.ifCond .ne 6, 3) := by decide +kernel
theorem dX9_quota_94 : decode cX9_quota 94 = .ok (.goto 72, 3) := by decide +kernel
theorem dX9_quota_97 : decode cX9_quota 97 = .ok (.aload_n 0, 1) := by decide +kernel
theorem dX9_quota_98 : decode cX9_quota 98 = .ok (.iload 5, 2) := by decide +kernel
theorem dX9_quota_100 : decode cX9_quota 100 = .ok (.invokevirtual 120, 3) := by decide +kernel
theorem dX9_quota_103 : decode cX9_quota 103 = .ok (.i2l, 1) := by decide +kernel
theorem dX9_quota_104 : decode cX9_quota 104 = .ok (.iload_n 1, 1) := by decide +kernel
theorem dX9_quota_105 : decode cX9_quota 105 = .ok (.i2l, 1) := by decide +kernel
theorem dX9_quota_106 : decode cX9_quota 106 = .ok (.lmul, 1) := by decide +kernel
theorem dX9_quota_107 : decode cX9_quota 107 = .ok (.lstore 6, 2) := by decide +kernel
theorem dX9_quota_109 : decode cX9_quota 109 = .ok (.lload 6, 2) := by decide +kernel
theorem dX9_quota_111 : decode cX9_quota 111 = .ok (.lload_n 2, 1) := by decide +kernel
theorem dX9_quota_112 : decode cX9_quota 112 = .ok (.ldiv, 1) := by decide +kernel
theorem dX9_quota_113 : decode cX9_quota 113 = .ok (.lstore 8, 2) := by decide +kernel
theorem dX9_quota_115 : decode cX9_quota 115 = .ok (.lload 8, 2) := by decide +kernel
theorem dX9_quota_117 : decode cX9_quota 117 = .ok (.lload 6, 2) := by decide +kernel
theorem dX9_quota_119 : decode cX9_quota 119 = .ok (.lload_n 2, 1) := by decide +kernel
theorem dX9_quota_120 : decode cX9_quota 120 = .ok (.lrem, 1) := by decide +kernel
theorem dX9_quota_121 : decode cX9_quota 121 = .ok (.lconst 0, 1) := by decide +kernel
theorem dX9_quota_122 : decode cX9_quota 122 = .ok (.lcmp, 1) := by decide +kernel
theorem dX9_quota_123 : decode cX9_quota 123 = .ok (.ifCond .le 7, 3) := by decide +kernel
theorem dX9_quota_126 : decode cX9_quota 126 = .ok (.iconst 1, 1) := by decide +kernel
theorem dX9_quota_127 : decode cX9_quota 127 = .ok (.goto 4, 3) := by decide +kernel
theorem dX9_quota_130 : decode cX9_quota 130 = .ok (.iconst 0, 1) := by decide +kernel
theorem dX9_quota_131 : decode cX9_quota 131 = .ok (.i2l, 1) := by decide +kernel
theorem dX9_quota_132 : decode cX9_quota 132 = .ok (.ladd, 1) := by decide +kernel
theorem dX9_quota_133 : decode cX9_quota 133 = .ok (.lstore 10, 2) := by decide +kernel
theorem dX9_quota_135 : decode cX9_quota 135 = .ok (.iload 4, 2) := by decide +kernel
theorem dX9_quota_137 : decode cX9_quota 137 = .ok (.aload_n 0, 1) := by decide +kernel
theorem dX9_quota_138 : decode cX9_quota 138 = .ok (.getfield 69, 3) := by decide +kernel
theorem dX9_quota_141 : decode cX9_quota 141 = .ok (.iload 5, 2) := by decide +kernel
theorem dX9_quota_143 : decode cX9_quota 143 = .ok (.iaload, 1) := by decide +kernel
theorem dX9_quota_144 : decode cX9_quota 144 = .ok (.i2l, 1) := by decide +kernel
theorem dX9_quota_145 : decode cX9_quota 145 = .ok (.lload 8, 2) := by decide +kernel
theorem dX9_quota_147 : decode cX9_quota 147 = .ok (.lload 10, 2) := by decide +kernel
theorem dX9_quota_149 : decode cX9_quota 149 = .ok (.invokestatic 7, 3) := by decide +kernel
theorem dX9_quota_152 : decode cX9_quota 152 = .ok (.ifCond .eq 7, 3) := by decide +kernel
theorem dX9_quota_155 : decode cX9_quota 155 = .ok (.iconst 0, 1) := by decide +kernel
theorem dX9_quota_156 : decode cX9_quota 156 = .ok (.goto 7, 3) := by decide +kernel
theorem dX9_quota_159 : decode cX9_quota 159 = .ok (.iconst 1, 1) := by decide +kernel
theorem dX9_quota_160 : decode cX9_quota 160 = .ok (.iload 5, 2) := by decide +kernel
theorem dX9_quota_162 : decode cX9_quota 162 = .ok (.ishl, 1) := by decide +kernel
theorem dX9_quota_163 : decode cX9_quota 163 = .ok (.ior, 1) := by decide +kernel
theorem dX9_quota_164 : decode cX9_quota 164 = .ok (.istore 4, 2) := by decide +kernel
theorem dX9_quota_166 : decode cX9_quota 166 = .ok (.iinc 5 1, 3) := by decide +kernel
theorem dX9_quota_169 : decode cX9_quota 169 = .ok (.goto (-97), 3) := by decide +kernel
theorem dX9_quota_172 : decode cX9_quota 172 = .ok (.iload 4, 2) := by decide +kernel
theorem dX9_quota_174 : decode cX9_quota 174 = .ok (.ireturn, 1) := by decide +kernel
theorem dX9_alike_0 : decode cX9_alike 0 = .ok (.iload_n 1, 1) := by decide +kernel
theorem dX9_alike_1 : decode cX9_alike 1 = .ok (.invokestatic 258, 3) := by decide +kernel
theorem dX9_alike_4 : decode cX9_alike 4 = .ok (.ifCond .ne 6, 3) := by decide +kernel
theorem dX9_alike_7 : decode cX9_alike 7 = .ok (.bipush (-2), 2) := by decide +kernel
theorem dX9_alike_9 : decode cX9_alike 9 = .ok (.ireturn, 1) := by decide +kernel
theorem dX9_alike_10 : decode cX9_alike 10 = .ok (.aload_n 0, 1) := by decide +kernel
theorem dX9_alike_11 : decode cX9_alike 11 = .ok (.aload_n 0, 1) := by decide +kernel
theorem dX9_alike_12 : decode cX9_alike 12 = .ok (.invokevirtual 192, 3) := by decide +kernel
theorem dX9_alike_15 : decode cX9_alike 15 = .ok (.iload_n 1, 1) := by decide +kernel
theorem dX9_alike_16 : decode cX9_alike 16 = .ok (.invokevirtual 261, 3) := by decide +kernel
theorem dX9_alike_19 : decode cX9_alike 19 = .ok (.ifCond .ne 6, 3) := by decide +kernel
theorem dX9_alike_22 : decode cX9_alike 22 = .ok (.bipush (-3), 2) := by decide +kernel
theorem dX9_alike_24 : decode cX9_alike 24 = .ok (.ireturn, 1) := by decide +kernel
theorem dX9_alike_25 : decode cX9_alike 25 = .ok (.aload_n 0, 1) := by decide +kernel
theorem dX9_alike_26 : decode cX9_alike 26 = .ok (.invokevirtual 270, 3) := by decide +kernel
theorem dX9_alike_29 : decode cX9_alike 29 = .ok (.iconst 0, 1) := by decide +kernel
theorem dX9_alike_30 : decode cX9_alike 30 = .ok (.istore_n 2, 1) := by decide +kernel
theorem dX9_alike_31 : decode cX9_alike 31 = .ok (.iconst 0, 1) := by decide +kernel
theorem dX9_alike_32 : decode cX9_alike 32 = .ok (.istore_n 3, 1) := by decide +kernel
theorem dX9_alike_33 : decode cX9_alike 33 = .ok (.iload_n 3, 1) := by decide +kernel
theorem dX9_alike_34 : decode cX9_alike 34 = .ok (.bipush 6, 2) := by decide +kernel
theorem dX9_alike_36 : decode cX9_alike 36 = .ok (.if_icmp .gt 35, 3) := by decide +kernel
theorem dX9_alike_39 : decode cX9_alike 39 = .ok (.iload_n 2, 1) := by decide +kernel
theorem dX9_alike_40 : decode cX9_alike 40 = .ok (.aload_n 0, 1) := by decide +kernel
theorem dX9_alike_41 : decode cX9_alike 41 = .ok (.iload_n 3, 1) := by decide +kernel
theorem dX9_alike_42 : decode cX9_alike 42 = .ok (.iload_n 1, 1) := by decide +kernel
theorem dX9_alike_43 : decode cX9_alike 43 = .ok (.invokevirtual 261, 3) := by decide +kernel
theorem dX9_alike_46 : decode cX9_alike 46 = .ok (.ifCond .eq 16, 3) := by decide +kernel
theorem dX9_alike_49 : decode cX9_alike 49 = .ok (.aload_n 0, 1) := by decide +kernel
theorem dX9_alike_50 : decode cX9_alike 50 = .ok (.invokevirtual 273, 3) := by decide +kernel
theorem dX9_alike_53 : decode cX9_alike 53 = .ok (.ifCond .ne 9, 3) := by decide +kernel
theorem dX9_alike_56 : decode cX9_alike 56 = .ok (.iconst 1, 1) := by decide +kernel
theorem dX9_alike_57 : decode cX9_alike 57 = .ok (.iload_n 3, 1) := by decide +kernel
theorem dX9_alike_58 : decode cX9_alike 58 = .ok (.ishl, 1) := by decide +kernel
theorem dX9_alike_59 : decode cX9_alike 59 = .ok (.goto 4, 3) := by decide +kernel
theorem dX9_alike_62 : decode cX9_alike 62 = .ok (.iconst 0, 1) := by decide +kernel
theorem dX9_alike_63 : decode cX9_alike 63 = .ok (.ior, 1) := by decide +kernel
theorem dX9_alike_64 : decode cX9_alike 64 = .ok (.istore_n 2, 1) := by decide +kernel
theorem dX9_alike_65 : decode cX9_alike 65 = .ok (.iinc 3 1, 3) := by decide +kernel
theorem dX9_alike_68 : decode cX9_alike 68 = .ok (.goto (-35), 3) := by decide +kernel
theorem dX9_alike_71 : decode cX9_alike 71 = .ok (.iload_n 2, 1) := by decide +kernel
theorem dX9_alike_72 : decode cX9_alike 72 = .ok (.ireturn, 1) := by decide +kernel
theorem dX9_supposed_0 : decode cX9_supposed 0 = .ok (.bipush 6, 2) := by decide +kernel
theorem dX9_supposed_2 : decode cX9_supposed 2 = .ok (.iload_n 1, 1) := by decide +kernel
theorem dX9_supposed_3 : decode cX9_supposed 3 = .ok (.imul, 1) := by decide +kernel
theorem dX9_supposed_4 : decode cX9_supposed 4 = .ok (.iload_n 2, 1) := by decide +kernel
theorem dX9_supposed_5 : decode cX9_supposed 5 = .ok (.iadd, 1) := by decide +kernel
theorem dX9_supposed_6 : decode cX9_supposed 6 = .ok (.istore 5, 2) := by decide +kernel
theorem dX9_supposed_8 : decode cX9_supposed 8 = .ok (.aload_n 0, 1) := by decide +kernel
theorem dX9_supposed_9 : decode cX9_supposed 9 = .ok (.getfield 21, 3) := by decide +kernel
theorem dX9_supposed_12 : decode cX9_supposed 12 = .ok (.iload 5, 2) := by decide +kernel
theorem dX9_supposed_14 : decode cX9_supposed 14 = .ok (.iaload, 1) := by decide +kernel
theorem dX9_supposed_15 : decode cX9_supposed 15 = .ok (.istore 6, 2) := by decide +kernel
theorem dX9_supposed_17 : decode cX9_supposed 17 = .ok (.aload_n 0, 1) := by decide +kernel
theorem dX9_supposed_18 : decode cX9_supposed 18 = .ok (.getfield 21, 3) := by decide +kernel
theorem dX9_supposed_21 : decode cX9_supposed 21 = .ok (.iload 5, 2) := by decide +kernel
theorem dX9_supposed_23 : decode cX9_supposed 23 = .ok (.iload_n 3, 1) := by decide +kernel
theorem dX9_supposed_24 : decode cX9_supposed 24 = .ok (.iastore, 1) := by decide +kernel
theorem dX9_supposed_25 : decode cX9_supposed 25 = .ok (.aload_n 0, 1) := by decide +kernel
theorem dX9_supposed_26 : decode cX9_supposed 26 = .ok (.aload_n 0, 1) := by decide +kernel
theorem dX9_supposed_27 : decode cX9_supposed 27 = .ok (.invokevirtual 192, 3) := by decide +kernel
theorem dX9_supposed_30 : decode cX9_supposed 30 = .ok (.iload 4, 2) := by decide +kernel
theorem dX9_supposed_32 : decode cX9_supposed 32 = .ok (.invokevirtual 261, 3) := by decide +kernel
theorem dX9_supposed_35 : decode cX9_supposed 35 = .ok (.ifCond .eq 12, 3) := by decide +kernel
theorem dX9_supposed_38 : decode cX9_supposed 38 = .ok (.aload_n 0, 1) := by decide +kernel
theorem dX9_supposed_39 : decode cX9_supposed 39 = .ok (.getfield 69, 3) := by decide +kernel
theorem dX9_supposed_42 : decode cX9_supposed 42 = .ok (.iload_n 2, 1) := by decide +kernel
theorem dX9_supposed_43 : decode cX9_supposed 43 = .ok (.iaload, 1) := by decide +kernel
theorem dX9_supposed_44 : decode cX9_supposed 44 = .ok (.goto 5, 3) := by decide +kernel
theorem dX9_supposed_47 : decode cX9_supposed 47 = .ok (.bipush (-3), 2) := by decide +kernel
theorem dX9_supposed_49 : decode cX9_supposed 49 = .ok (.istore 7, 2) := by decide +kernel
theorem dX9_supposed_51 : decode cX9_supposed 51 = .ok (.aload_n 0, 1) := by decide +kernel
theorem dX9_supposed_52 : decode cX9_supposed 52 = .ok (.getfield 21, 3) := by decide +kernel
theorem dX9_supposed_55 : decode cX9_supposed 55 = .ok (.iload 5, 2) := by decide +kernel
theorem dX9_supposed_57 : decode cX9_supposed 57 = .ok (.iload 6, 2) := by decide +kernel
theorem dX9_supposed_59 : decode cX9_supposed 59 = .ok (.iastore, 1) := by decide +kernel
theorem dX9_supposed_60 : decode cX9_supposed 60 = .ok (.iload 7, 2) := by decide +kernel
theorem dX9_supposed_62 : decode cX9_supposed 62 = .ok (.ireturn, 1) := by decide +kernel
theorem dX9_would_0 : decode cX9_would 0 = .ok (.iload_n 1, 1) := by decide +kernel
theorem dX9_would_1 : decode cX9_would 1 = .ok (.invokestatic 129, 3) := by decide +kernel
theorem dX9_would_4 : decode cX9_would 4 = .ok (.ifCond .eq 10, 3) := by decide +kernel
theorem dX9_would_7 : decode cX9_would 7 = .ok (.iload_n 2, 1) := by decide +kernel
theorem dX9_would_8 : decode cX9_would 8 = .ok (.invokestatic 133, 3) := by decide +kernel
theorem dX9_would_11 : decode cX9_would 11 = .ok (.ifCond .ne 5, 3) := by decide +kernel
theorem dX9_would_14 : decode cX9_would 14 = .ok (.iconst (-1), 1) := by decide +kernel
theorem dX9_would_15 : decode cX9_would 15 = .ok (.ireturn, 1) := by decide +kernel
theorem dX9_would_16 : decode cX9_would 16 = .ok (.iload_n 3, 1) := by decide +kernel
theorem dX9_would_17 : decode cX9_would 17 = .ok (.i2l, 1) := by decide +kernel
theorem dX9_would_18 : decode cX9_would 18 = .ok (.lconst 0, 1) := by decide +kernel
theorem dX9_would_19 : decode cX9_would 19 = .ok (.ldc2_w 136, 3) := by decide +kernel
theorem dX9_would_22 : decode cX9_would 22 = .ok (.invokestatic 7, 3) := by decide +kernel
theorem dX9_would_25 : decode cX9_would 25 = .ok (.ifCond .eq 23, 3) := by decide +kernel
theorem dX9_would_28 : decode cX9_would 28 = .ok (.iload 4, 2) := by decide +kernel
theorem dX9_would_30 : decode cX9_would 30 = .ok (.invokestatic 258, 3) := by decide +kernel
theorem dX9_would_33 : decode cX9_would 33 = .ok (.ifCond .eq 15, 3) := by decide +kernel
theorem dX9_would_36 : decode cX9_would 36 = .ok (.aload_n 0, 1) := by decide +kernel
theorem dX9_would_37 : decode cX9_would 37 = .ok (.iload_n 1, 1) := by decide +kernel
theorem dX9_would_38 : decode cX9_would 38 = .ok (.iload_n 2, 1) := by decide +kernel
theorem dX9_would_39 : decode cX9_would 39 = .ok (.iload_n 3, 1) := by decide +kernel
theorem dX9_would_40 : decode cX9_would 40 = .ok (.iload 4, 2) := by decide +kernel
theorem dX9_would_42 : decode cX9_would 42 = .ok (.invokevirtual 282, 3) := by decide +kernel
theorem dX9_would_45 : decode cX9_would 45 = .ok (.goto 5, 3) := by decide +kernel
theorem dX9_would_48 : decode cX9_would 48 = .ok (.bipush (-2), 2) := by decide +kernel
theorem dX9_would_50 : decode cX9_would 50 = .ok (.ireturn, 1) := by decide +kernel
theorem dX9_needs_0 : decode cX9_needs 0 = .ok (.iload_n 1, 1) := by decide +kernel
theorem dX9_needs_1 : decode cX9_needs 1 = .ok (.invokestatic 129, 3) := by decide +kernel
theorem dX9_needs_4 : decode cX9_needs 4 = .ok (.ifCond .eq 10, 3) := by decide +kernel
theorem dX9_needs_7 : decode cX9_needs 7 = .ok (.iload_n 2, 1) := by decide +kernel
theorem dX9_needs_8 : decode cX9_needs 8 = .ok (.invokestatic 133, 3) := by decide +kernel
theorem dX9_needs_11 : decode cX9_needs 11 = .ok (.ifCond .ne 5, 3) := by decide +kernel
theorem dX9_needs_14 : decode cX9_needs 14 = .ok (.iconst (-1), 1) := by decide +kernel
theorem dX9_needs_15 : decode cX9_needs 15 = .ok (.ireturn, 1) := by decide +kernel
theorem dX9_needs_16 : decode cX9_needs 16 = .ok (.iload_n 3, 1) := by decide +kernel
theorem dX9_needs_17 : decode cX9_needs 17 = .ok (.invokestatic 258, 3) := by decide +kernel
theorem dX9_needs_20 : decode cX9_needs 20 = .ok (.ifCond .ne 6, 3) := by decide +kernel
theorem dX9_needs_23 : decode cX9_needs 23 = .ok (.bipush (-2), 2) := by decide +kernel
theorem dX9_needs_25 : decode cX9_needs 25 = .ok (.ireturn, 1) := by decide +kernel
theorem dX9_needs_26 : decode cX9_needs 26 = .ok (.aload_n 0, 1) := by decide +kernel
theorem dX9_needs_27 : decode cX9_needs 27 = .ok (.iload_n 1, 1) := by decide +kernel
theorem dX9_needs_28 : decode cX9_needs 28 = .ok (.iload_n 2, 1) := by decide +kernel
theorem dX9_needs_29 : decode cX9_needs 29 = .ok (.invokevirtual 112, 3) := by decide +kernel
theorem dX9_needs_32 : decode cX9_needs 32 = .ok (.istore 4, 2) := by decide +kernel
theorem dX9_needs_34 : decode cX9_needs 34 = .ok (.aload_n 0, 1) := by decide +kernel
theorem dX9_needs_35 : decode cX9_needs 35 = .ok (.iload_n 1, 1) := by decide +kernel
theorem dX9_needs_36 : decode cX9_needs 36 = .ok (.iload_n 2, 1) := by decide +kernel
theorem dX9_needs_37 : decode cX9_needs 37 = .ok (.iload 4, 2) := by decide +kernel
theorem dX9_needs_39 : decode cX9_needs 39 = .ok (.iload_n 3, 1) := by decide +kernel
theorem dX9_needs_40 : decode cX9_needs 40 = .ok (.invokevirtual 282, 3) := by decide +kernel
theorem dX9_needs_43 : decode cX9_needs 43 = .ok (.istore 5, 2) := by decide +kernel
theorem dX9_needs_45 : decode cX9_needs 45 = .ok (.iload 5, 2) := by decide +kernel
theorem dX9_needs_47 : decode cX9_needs 47 = .ok (.bipush (-3), 2) := by decide +kernel
theorem dX9_needs_49 : decode cX9_needs 49 = .ok (.if_icmp .ne 6, 3) := by decide +kernel
theorem dX9_needs_52 : decode cX9_needs 52 = .ok (.bipush (-3), 2) := by decide +kernel
theorem dX9_needs_54 : decode cX9_needs 54 = .ok (.ireturn, 1) := by decide +kernel
theorem dX9_needs_55 : decode cX9_needs 55 = .ok (.iconst 1, 1) := by decide +kernel
theorem dX9_needs_56 : decode cX9_needs 56 = .ok (.istore 6, 2) := by decide +kernel
theorem dX9_needs_58 : decode cX9_needs 58 = .ok (.iload 6, 2) := by decide +kernel
theorem dX9_needs_60 : decode cX9_needs 60 = .ok (.sipush 300, 3) := by decide +kernel
theorem dX9_needs_63 : decode cX9_needs 63 = .ok (.if_icmp .gt 39, 3) := by decide +kernel
theorem dX9_needs_66 : decode cX9_needs 66 = .ok (.iload 4, 2) := by decide +kernel
theorem dX9_needs_68 : decode cX9_needs 68 = .ok (.iload 6, 2) := by decide +kernel
theorem dX9_needs_70 : decode cX9_needs 70 = .ok (.iadd, 1) := by decide +kernel
theorem dX9_needs_71 : decode cX9_needs 71 = .ok (.ldc 168, 2) := by decide +kernel
theorem dX9_needs_73 : decode cX9_needs 73 = .ok (.if_icmp .gt 29, 3) := by decide +kernel
theorem dX9_needs_76 : decode cX9_needs 76 = .ok (.aload_n 0, 1) := by decide +kernel
theorem dX9_needs_77 : decode cX9_needs 77 = .ok (.iload_n 1, 1) := by decide +kernel
theorem dX9_needs_78 : decode cX9_needs 78 = .ok (.iload_n 2, 1) := by decide +kernel
theorem dX9_needs_79 : decode cX9_needs 79 = .ok (.iload 4, 2) := by decide +kernel
theorem dX9_needs_81 : decode cX9_needs 81 = .ok (.iload 6, 2) := by decide +kernel
theorem dX9_needs_83 : decode cX9_needs 83 = .ok (.iadd, 1) := by decide +kernel
theorem dX9_needs_84 : decode cX9_needs 84 = .ok (.iload_n 3, 1) := by decide +kernel
theorem dX9_needs_85 : decode cX9_needs 85 = .ok (.invokevirtual 282, 3) := by decide +kernel
theorem dX9_needs_88 : decode cX9_needs 88 = .ok (.iload 5, 2) := by decide +kernel
theorem dX9_needs_90 : decode cX9_needs 90 = .ok (.if_icmp .le 6, 3) := by decide +kernel
theorem dX9_needs_93 : decode cX9_needs 93 = .ok (.iload 6, 2) := by decide +kernel
theorem dX9_needs_95 : decode cX9_needs 95 = .ok (.ireturn, 1) := by decide +kernel
theorem dX9_needs_96 : decode cX9_needs 96 = .ok (.iinc 6 1, 3) := by decide +kernel
theorem dX9_needs_99 : decode cX9_needs 99 = .ok (.goto (-41), 3) := by decide +kernel
theorem dX9_needs_102 : decode cX9_needs 102 = .ok (.bipush (-5), 2) := by decide +kernel
theorem dX9_needs_104 : decode cX9_needs 104 = .ok (.ireturn, 1) := by decide +kernel
theorem dX9_writes_0 : decode cX9_writes 0 = .ok (.aload_n 0, 1) := by decide +kernel
theorem dX9_writes_1 : decode cX9_writes 1 = .ok (.getfield 78, 3) := by decide +kernel
theorem dX9_writes_4 : decode cX9_writes 4 = .ok (.aload_n 0, 1) := by decide +kernel
theorem dX9_writes_5 : decode cX9_writes 5 = .ok (.getfield 286, 3) := by decide +kernel
theorem dX9_writes_8 : decode cX9_writes 8 = .ok (.iload_n 1, 1) := by decide +kernel
theorem dX9_writes_9 : decode cX9_writes 9 = .ok (.iastore, 1) := by decide +kernel
theorem dX9_writes_10 : decode cX9_writes 10 = .ok (.aload_n 0, 1) := by decide +kernel
theorem dX9_writes_11 : decode cX9_writes 11 = .ok (.dup, 1) := by decide +kernel
theorem dX9_writes_12 : decode cX9_writes 12 = .ok (.getfield 286, 3) := by decide +kernel
theorem dX9_writes_15 : decode cX9_writes 15 = .ok (.iconst 1, 1) := by decide +kernel
theorem dX9_writes_16 : decode cX9_writes 16 = .ok (.iadd, 1) := by decide +kernel
theorem dX9_writes_17 : decode cX9_writes 17 = .ok (.putfield 286, 3) := by decide +kernel
theorem dX9_writes_20 : decode cX9_writes 20 = .ok (.return_, 1) := by decide +kernel
theorem dX9_writesNumber_0 : decode cX9_writesNumber 0 = .ok (.iload_n 1, 1) := by decide +kernel
theorem dX9_writesNumber_1 : decode cX9_writesNumber 1 = .ok (.bipush 9, 2) := by decide +kernel
theorem dX9_writesNumber_3 : decode cX9_writesNumber 3 = .ok (.if_icmp .le 14, 3) := by decide +kernel
theorem dX9_writesNumber_6 : decode cX9_writesNumber 6 = .ok (.aload_n 0, 1) := by decide +kernel
theorem dX9_writesNumber_7 : decode cX9_writesNumber 7 = .ok (.bipush 48, 2) := by decide +kernel
theorem dX9_writesNumber_9 : decode cX9_writesNumber 9 = .ok (.iload_n 1, 1) := by decide +kernel
theorem dX9_writesNumber_10 : decode cX9_writesNumber 10 = .ok (.bipush 10, 2) := by decide +kernel
theorem dX9_writesNumber_12 : decode cX9_writesNumber 12 = .ok (.idiv, 1) := by decide +kernel
theorem dX9_writesNumber_13 : decode cX9_writesNumber 13 = .ok (.iadd, 1) := by decide +kernel
theorem dX9_writesNumber_14 : decode cX9_writesNumber 14 = .ok (.invokevirtual 289, 3) := by decide +kernel
theorem dX9_writesNumber_17 : decode cX9_writesNumber 17 = .ok (.aload_n 0, 1) := by decide +kernel
theorem dX9_writesNumber_18 : decode cX9_writesNumber 18 = .ok (.bipush 48, 2) := by decide +kernel
theorem dX9_writesNumber_20 : decode cX9_writesNumber 20 = .ok (.iload_n 1, 1) := by decide +kernel
theorem dX9_writesNumber_21 : decode cX9_writesNumber 21 = .ok (.bipush 10, 2) := by decide +kernel
theorem dX9_writesNumber_23 : decode cX9_writesNumber 23 = .ok (.irem, 1) := by decide +kernel
theorem dX9_writesNumber_24 : decode cX9_writesNumber 24 = .ok (.iadd, 1) := by decide +kernel
theorem dX9_writesNumber_25 : decode cX9_writesNumber 25 = .ok (.invokevirtual 289, 3) := by decide +kernel
theorem dX9_writesNumber_28 : decode cX9_writesNumber 28 = .ok (.return_, 1) := by decide +kernel
theorem dX9_spell_0 : decode cX9_spell 0 = .ok (.iload_n 1, 1) := by decide +kernel
theorem dX9_spell_1 : decode cX9_spell 1 = .ok (.invokestatic 258, 3) := by decide +kernel
theorem dX9_spell_4 : decode cX9_spell 4 = .ok (.ifCond .ne 6, 3) := by decide +kernel
theorem dX9_spell_7 : decode cX9_spell 7 = .ok (.bipush (-2), 2) := by decide +kernel
theorem dX9_spell_9 : decode cX9_spell 9 = .ok (.ireturn, 1) := by decide +kernel
theorem dX9_spell_10 : decode cX9_spell 10 = .ok (.aload_n 0, 1) := by decide +kernel
theorem dX9_spell_11 : decode cX9_spell 11 = .ok (.aload_n 0, 1) := by decide +kernel
theorem dX9_spell_12 : decode cX9_spell 12 = .ok (.invokevirtual 192, 3) := by decide +kernel
theorem dX9_spell_15 : decode cX9_spell 15 = .ok (.iload_n 1, 1) := by decide +kernel
theorem dX9_spell_16 : decode cX9_spell 16 = .ok (.invokevirtual 261, 3) := by decide +kernel
theorem dX9_spell_19 : decode cX9_spell 19 = .ok (.ifCond .ne 6, 3) := by decide +kernel
theorem dX9_spell_22 : decode cX9_spell 22 = .ok (.bipush (-3), 2) := by decide +kernel
theorem dX9_spell_24 : decode cX9_spell 24 = .ok (.ireturn, 1) := by decide +kernel
theorem dX9_spell_25 : decode cX9_spell 25 = .ok (.aload_n 0, 1) := by decide +kernel
theorem dX9_spell_26 : decode cX9_spell 26 = .ok (.iconst 0, 1) := by decide +kernel
theorem dX9_spell_27 : decode cX9_spell 27 = .ok (.putfield 286, 3) := by decide +kernel
theorem dX9_spell_30 : decode cX9_spell 30 = .ok (.iconst 0, 1) := by decide +kernel
theorem dX9_spell_31 : decode cX9_spell 31 = .ok (.istore_n 2, 1) := by decide +kernel
theorem dX9_spell_32 : decode cX9_spell 32 = .ok (.iload_n 2, 1) := by decide +kernel
theorem dX9_spell_33 : decode cX9_spell 33 = .ok (.bipush 6, 2) := by decide +kernel
theorem dX9_spell_35 : decode cX9_spell 35 = .ok (.if_icmp .ge 29, 3) := by decide +kernel
theorem dX9_spell_38 : decode cX9_spell 38 = .ok (.iload_n 2, 1) := by decide +kernel
theorem dX9_spell_39 : decode cX9_spell 39 = .ok (.ifCond .le 9, 3) := by decide +kernel
theorem dX9_spell_42 : decode cX9_spell 42 = .ok (.aload_n 0, 1) := by decide +kernel
theorem dX9_spell_43 : decode cX9_spell 43 = .ok (.bipush 44, 2) := by decide +kernel
theorem dX9_spell_45 : decode cX9_spell 45 = .ok (.invokevirtual 289, 3) := by decide +kernel
theorem dX9_spell_48 : decode cX9_spell 48 = .ok (.aload_n 0, 1) := by decide +kernel
theorem dX9_spell_49 : decode cX9_spell 49 = .ok (.aload_n 0, 1) := by decide +kernel
theorem dX9_spell_50 : decode cX9_spell 50 = .ok (.getfield 69, 3) := by decide +kernel
theorem dX9_spell_53 : decode cX9_spell 53 = .ok (.iload_n 2, 1) := by decide +kernel
theorem dX9_spell_54 : decode cX9_spell 54 = .ok (.iaload, 1) := by decide +kernel
theorem dX9_spell_55 : decode cX9_spell 55 = .ok (.invokevirtual 293, 3) := by decide +kernel
theorem dX9_spell_58 : decode cX9_spell 58 = .ok (.iinc 2 1, 3) := by decide +kernel
theorem dX9_spell_61 : decode cX9_spell 61 = .ok (.goto (-29), 3) := by decide +kernel
theorem dX9_spell_64 : decode cX9_spell 64 = .ok (.aload_n 0, 1) := by decide +kernel
theorem dX9_spell_65 : decode cX9_spell 65 = .ok (.getfield 286, 3) := by decide +kernel
theorem dX9_spell_68 : decode cX9_spell 68 = .ok (.ireturn, 1) := by decide +kernel
theorem dX9_paper_0 : decode cX9_paper 0 = .ok (.iload_n 1, 1) := by decide +kernel
theorem dX9_paper_1 : decode cX9_paper 1 = .ok (.i2l, 1) := by decide +kernel
theorem dX9_paper_2 : decode cX9_paper 2 = .ok (.lconst 0, 1) := by decide +kernel
theorem dX9_paper_3 : decode cX9_paper 3 = .ok (.aload_n 0, 1) := by decide +kernel
theorem dX9_paper_4 : decode cX9_paper 4 = .ok (.getfield 286, 3) := by decide +kernel
theorem dX9_paper_7 : decode cX9_paper 7 = .ok (.iconst 1, 1) := by decide +kernel
theorem dX9_paper_8 : decode cX9_paper 8 = .ok (.isub, 1) := by decide +kernel
theorem dX9_paper_9 : decode cX9_paper 9 = .ok (.i2l, 1) := by decide +kernel
theorem dX9_paper_10 : decode cX9_paper 10 = .ok (.invokestatic 7, 3) := by decide +kernel
theorem dX9_paper_13 : decode cX9_paper 13 = .ok (.ifCond .eq 12, 3) := by decide +kernel
theorem dX9_paper_16 : decode cX9_paper 16 = .ok (.aload_n 0, 1) := by decide +kernel
theorem dX9_paper_17 : decode cX9_paper 17 = .ok (.getfield 78, 3) := by decide +kernel
theorem dX9_paper_20 : decode cX9_paper 20 = .ok (.iload_n 1, 1) := by decide +kernel
theorem dX9_paper_21 : decode cX9_paper 21 = .ok (.iaload, 1) := by decide +kernel
theorem dX9_paper_22 : decode cX9_paper 22 = .ok (.goto 4, 3) := by decide +kernel
theorem dX9_paper_25 : decode cX9_paper 25 = .ok (.iconst (-1), 1) := by decide +kernel
theorem dX9_paper_26 : decode cX9_paper 26 = .ok (.ireturn, 1) := by decide +kernel
theorem dX9_allSeats_0 : decode cX9_allSeats 0 = .ok (.iconst 0, 1) := by decide +kernel
theorem dX9_allSeats_1 : decode cX9_allSeats 1 = .ok (.istore_n 1, 1) := by decide +kernel
theorem dX9_allSeats_2 : decode cX9_allSeats 2 = .ok (.iconst 0, 1) := by decide +kernel
theorem dX9_allSeats_3 : decode cX9_allSeats 3 = .ok (.istore_n 2, 1) := by decide +kernel
theorem dX9_allSeats_4 : decode cX9_allSeats 4 = .ok (.iload_n 2, 1) := by decide +kernel
theorem dX9_allSeats_5 : decode cX9_allSeats 5 = .ok (.iconst 4, 1) := by decide +kernel
theorem dX9_allSeats_6 : decode cX9_allSeats 6 = .ok (.if_icmp .ge 17, 3) := by decide +kernel
theorem dX9_allSeats_9 : decode cX9_allSeats 9 = .ok (.iload_n 1, 1) := by decide +kernel
theorem dX9_allSeats_10 : decode cX9_allSeats 10 = .ok (.aload_n 0, 1) := by decide +kernel
theorem dX9_allSeats_11 : decode cX9_allSeats 11 = .ok (.iload_n 2, 1) := by decide +kernel
theorem dX9_allSeats_12 : decode cX9_allSeats 12 = .ok (.invokevirtual 296, 3) := by decide +kernel
theorem dX9_allSeats_15 : decode cX9_allSeats 15 = .ok (.iadd, 1) := by decide +kernel
theorem dX9_allSeats_16 : decode cX9_allSeats 16 = .ok (.istore_n 1, 1) := by decide +kernel
theorem dX9_allSeats_17 : decode cX9_allSeats 17 = .ok (.iinc 2 1, 3) := by decide +kernel
theorem dX9_allSeats_20 : decode cX9_allSeats 20 = .ok (.goto (-16), 3) := by decide +kernel
theorem dX9_allSeats_23 : decode cX9_allSeats 23 = .ok (.iload_n 1, 1) := by decide +kernel
theorem dX9_allSeats_24 : decode cX9_allSeats 24 = .ok (.ireturn, 1) := by decide +kernel
theorem dX9_plans_0 : decode cX9_plans 0 = .ok (.aload_n 0, 1) := by decide +kernel
theorem dX9_plans_1 : decode cX9_plans 1 = .ok (.invokevirtual 299, 3) := by decide +kernel
theorem dX9_plans_4 : decode cX9_plans 4 = .ok (.istore_n 1, 1) := by decide +kernel
theorem dX9_plans_5 : decode cX9_plans 5 = .ok (.iload_n 1, 1) := by decide +kernel
theorem dX9_plans_6 : decode cX9_plans 6 = .ok (.i2l, 1) := by decide +kernel
theorem dX9_plans_7 : decode cX9_plans 7 = .ok (.lconst 1, 1) := by decide +kernel
theorem dX9_plans_8 : decode cX9_plans 8 = .ok (.ldc2_w 13, 3) := by decide +kernel
theorem dX9_plans_11 : decode cX9_plans 11 = .ok (.invokestatic 7, 3) := by decide +kernel
theorem dX9_plans_14 : decode cX9_plans 14 = .ok (.ifCond .eq 46, 3) := by decide +kernel
theorem dX9_plans_17 : decode cX9_plans 17 = .ok (.aload_n 0, 1) := by decide +kernel
theorem dX9_plans_18 : decode cX9_plans 18 = .ok (.invokevirtual 192, 3) := by decide +kernel
theorem dX9_plans_21 : decode cX9_plans 21 = .ok (.ifCond .eq 27, 3) := by decide +kernel
theorem dX9_plans_24 : decode cX9_plans 24 = .ok (.aload_n 0, 1) := by decide +kernel
theorem dX9_plans_25 : decode cX9_plans 25 = .ok (.invokevirtual 192, 3) := by decide +kernel
theorem dX9_plans_28 : decode cX9_plans 28 = .ok (.iconst 1, 1) := by decide +kernel
theorem dX9_plans_29 : decode cX9_plans 29 = .ok (.if_icmp .eq 19, 3) := by decide +kernel
theorem dX9_plans_32 : decode cX9_plans 32 = .ok (.aload_n 0, 1) := by decide +kernel
theorem dX9_plans_33 : decode cX9_plans 33 = .ok (.invokevirtual 192, 3) := by decide +kernel
theorem dX9_plans_36 : decode cX9_plans 36 = .ok (.iconst 2, 1) := by decide +kernel
theorem dX9_plans_37 : decode cX9_plans 37 = .ok (.if_icmp .eq 11, 3) := by decide +kernel
theorem dX9_plans_40 : decode cX9_plans 40 = .ok (.aload_n 0, 1) := by decide +kernel
theorem dX9_plans_41 : decode cX9_plans 41 = .ok (.invokevirtual 192, 3) := by decide +kernel
theorem dX9_plans_44 : decode cX9_plans 44 = .ok (.iconst 5, 1) := by decide +kernel
theorem dX9_plans_45 : decode cX9_plans 45 = .ok (.if_icmp .ne 15, 3) := by decide +kernel
theorem dX9_plans_48 : decode cX9_plans 48 = .ok (.aload_n 0, 1) := by decide +kernel
theorem dX9_plans_49 : decode cX9_plans 49 = .ok (.aload_n 0, 1) := by decide +kernel
theorem dX9_plans_50 : decode cX9_plans 50 = .ok (.invokevirtual 192, 3) := by decide +kernel
theorem dX9_plans_53 : decode cX9_plans 53 = .ok (.iload_n 1, 1) := by decide +kernel
theorem dX9_plans_54 : decode cX9_plans 54 = .ok (.invokevirtual 261, 3) := by decide +kernel
theorem dX9_plans_57 : decode cX9_plans 57 = .ok (.ifCond .ne 5, 3) := by decide +kernel
theorem dX9_plans_60 : decode cX9_plans 60 = .ok (.iconst 0, 1) := by decide +kernel
theorem dX9_plans_61 : decode cX9_plans 61 = .ok (.ireturn, 1) := by decide +kernel
theorem dX9_plans_62 : decode cX9_plans 62 = .ok (.aload_n 0, 1) := by decide +kernel
theorem dX9_plans_63 : decode cX9_plans 63 = .ok (.iconst 0, 1) := by decide +kernel
theorem dX9_plans_64 : decode cX9_plans 64 = .ok (.putfield 302, 3) := by decide +kernel
theorem dX9_plans_67 : decode cX9_plans 67 = .ok (.aload_n 0, 1) := by decide +kernel
theorem dX9_plans_68 : decode cX9_plans 68 = .ok (.iconst 0, 1) := by decide +kernel
theorem dX9_plans_69 : decode cX9_plans 69 = .ok (.putfield 305, 3) := by decide +kernel
theorem dX9_plans_72 : decode cX9_plans 72 = .ok (.iconst 0, 1) := by decide +kernel
theorem dX9_plans_73 : decode cX9_plans 73 = .ok (.istore_n 2, 1) := by decide +kernel
theorem dX9_plans_74 : decode cX9_plans 74 = .ok (.iload_n 2, 1) := by decide +kernel
theorem dX9_plans_75 : decode cX9_plans 75 = .ok (.iconst 4, 1) := by decide +kernel
theorem dX9_plans_76 : decode cX9_plans 76 = .ok (.if_icmp .ge 37, 3) := by decide +kernel
theorem dX9_plans_79 : decode cX9_plans 79 = .ok (.aload_n 0, 1) := by decide +kernel
theorem dX9_plans_80 : decode cX9_plans 80 = .ok (.iload_n 2, 1) := by decide +kernel
theorem dX9_plans_81 : decode cX9_plans 81 = .ok (.invokevirtual 296, 3) := by decide +kernel
theorem dX9_plans_84 : decode cX9_plans 84 = .ok (.ifCond .le 23, 3) := by decide +kernel
theorem dX9_plans_87 : decode cX9_plans 87 = .ok (.aload_n 0, 1) := by decide +kernel
theorem dX9_plans_88 : decode cX9_plans 88 = .ok (.getfield 81, 3) := by decide +kernel
theorem dX9_plans_91 : decode cX9_plans 91 = .ok (.aload_n 0, 1) := by decide +kernel
theorem dX9_plans_92 : decode cX9_plans 92 = .ok (.getfield 302, 3) := by decide +kernel
theorem dX9_plans_95 : decode cX9_plans 95 = .ok (.iload_n 2, 1) := by decide +kernel
theorem dX9_plans_96 : decode cX9_plans 96 = .ok (.iastore, 1) := by decide +kernel
theorem dX9_plans_97 : decode cX9_plans 97 = .ok (.aload_n 0, 1) := by decide +kernel
theorem dX9_plans_98 : decode cX9_plans 98 = .ok (.dup, 1) := by decide +kernel
theorem dX9_plans_99 : decode cX9_plans 99 = .ok (.getfield 302, 3) := by decide +kernel
theorem dX9_plans_102 : decode cX9_plans 102 = .ok (.iconst 1, 1) := by decide +kernel
theorem dX9_plans_103 : decode cX9_plans 103 = .ok (.iadd, 1) := by decide +kernel
theorem dX9_plans_104 : decode cX9_plans 104 = .ok (.putfield 302, 3) := by decide +kernel
theorem dX9_plans_107 : decode cX9_plans 107 = .ok (.iinc 2 1, 3) := by decide +kernel
theorem dX9_plans_110 : decode cX9_plans 110 = .ok (.goto (-36), 3) := by decide +kernel
theorem dX9_plans_113 : decode cX9_plans 113 = .ok (.iconst 0, 1) := by decide +kernel
theorem dX9_plans_114 : decode cX9_plans 114 = .ok (.istore_n 2, 1) := by decide +kernel
theorem dX9_plans_115 : decode cX9_plans 115 = .ok (.iload_n 2, 1) := by decide +kernel
theorem dX9_plans_116 : decode cX9_plans 116 = .ok (.bipush 6, 2) := by decide +kernel
theorem dX9_plans_118 : decode cX9_plans 118 = .ok (.if_icmp .ge 49, 3) := by decide +kernel
theorem dX9_plans_121 : decode cX9_plans 121 = .ok (.aload_n 0, 1) := by decide +kernel
theorem dX9_plans_122 : decode cX9_plans 122 = .ok (.getfield 87, 3) := by decide +kernel
theorem dX9_plans_125 : decode cX9_plans 125 = .ok (.iload_n 2, 1) := by decide +kernel
theorem dX9_plans_126 : decode cX9_plans 126 = .ok (.aload_n 0, 1) := by decide +kernel
theorem dX9_plans_127 : decode cX9_plans 127 = .ok (.getfield 69, 3) := by decide +kernel
theorem dX9_plans_130 : decode cX9_plans 130 = .ok (.iload_n 2, 1) := by decide +kernel
theorem dX9_plans_131 : decode cX9_plans 131 = .ok (.iaload, 1) := by decide +kernel
theorem dX9_plans_132 : decode cX9_plans 132 = .ok (.iastore, 1) := by decide +kernel
theorem dX9_plans_133 : decode cX9_plans 133 = .ok (.aload_n 0, 1) := by decide +kernel
theorem dX9_plans_134 : decode cX9_plans 134 = .ok (.iload_n 2, 1) := by decide +kernel
theorem dX9_plans_135 : decode cX9_plans 135 = .ok (.invokevirtual 234, 3) := by decide +kernel
theorem dX9_plans_138 : decode cX9_plans 138 = .ok (.ifCond .eq 23, 3) := by decide +kernel
theorem dX9_plans_141 : decode cX9_plans 141 = .ok (.aload_n 0, 1) := by decide +kernel
theorem dX9_plans_142 : decode cX9_plans 142 = .ok (.getfield 84, 3) := by decide +kernel
theorem dX9_plans_145 : decode cX9_plans 145 = .ok (.aload_n 0, 1) := by decide +kernel
theorem dX9_plans_146 : decode cX9_plans 146 = .ok (.getfield 305, 3) := by decide +kernel
theorem dX9_plans_149 : decode cX9_plans 149 = .ok (.iload_n 2, 1) := by decide +kernel
theorem dX9_plans_150 : decode cX9_plans 150 = .ok (.iastore, 1) := by decide +kernel
theorem dX9_plans_151 : decode cX9_plans 151 = .ok (.aload_n 0, 1) := by decide +kernel
theorem dX9_plans_152 : decode cX9_plans 152 = .ok (.dup, 1) := by decide +kernel
theorem dX9_plans_153 : decode cX9_plans 153 = .ok (.getfield 305, 3) := by decide +kernel
theorem dX9_plans_156 : decode cX9_plans 156 = .ok (.iconst 1, 1) := by decide +kernel
theorem dX9_plans_157 : decode cX9_plans 157 = .ok (.iadd, 1) := by decide +kernel
theorem dX9_plans_158 : decode cX9_plans 158 = .ok (.putfield 305, 3) := by decide +kernel
theorem dX9_plans_161 : decode cX9_plans 161 = .ok (.iinc 2 1, 3) := by decide +kernel
theorem dX9_plans_164 : decode cX9_plans 164 = .ok (.goto (-49), 3) := by decide +kernel
theorem dX9_plans_167 : decode cX9_plans 167 = .ok (.iconst 1, 1) := by decide +kernel
theorem dX9_plans_168 : decode cX9_plans 168 = .ok (.ireturn, 1) := by decide +kernel
theorem dX9_begins_0 : decode cX9_begins 0 = .ok (.iconst 0, 1) := by decide +kernel
theorem dX9_begins_1 : decode cX9_begins 1 = .ok (.istore_n 1, 1) := by decide +kernel
theorem dX9_begins_2 : decode cX9_begins 2 = .ok (.iload_n 1, 1) := by decide +kernel
theorem dX9_begins_3 : decode cX9_begins 3 = .ok (.bipush 24, 2) := by decide +kernel
theorem dX9_begins_5 : decode cX9_begins 5 = .ok (.if_icmp .ge 16, 3) := by decide +kernel
theorem dX9_begins_8 : decode cX9_begins 8 = .ok (.aload_n 0, 1) := by decide +kernel
theorem dX9_begins_9 : decode cX9_begins 9 = .ok (.getfield 90, 3) := by decide +kernel
theorem dX9_begins_12 : decode cX9_begins 12 = .ok (.iload_n 1, 1) := by decide +kernel
theorem dX9_begins_13 : decode cX9_begins 13 = .ok (.iconst 0, 1) := by decide +kernel
theorem dX9_begins_14 : decode cX9_begins 14 = .ok (.iastore, 1) := by decide +kernel
theorem dX9_begins_15 : decode cX9_begins 15 = .ok (.iinc 1 1, 3) := by decide +kernel
theorem dX9_begins_18 : decode cX9_begins 18 = .ok (.goto (-16), 3) := by decide +kernel
theorem dX9_begins_21 : decode cX9_begins 21 = .ok (.iconst 0, 1) := by decide +kernel
theorem dX9_begins_22 : decode cX9_begins 22 = .ok (.istore_n 1, 1) := by decide +kernel
theorem dX9_begins_23 : decode cX9_begins 23 = .ok (.iload_n 1, 1) := by decide +kernel
theorem dX9_begins_24 : decode cX9_begins 24 = .ok (.bipush 6, 2) := by decide +kernel
theorem dX9_begins_26 : decode cX9_begins 26 = .ok (.if_icmp .ge 21, 3) := by decide +kernel
theorem dX9_begins_29 : decode cX9_begins 29 = .ok (.aload_n 0, 1) := by decide +kernel
theorem dX9_begins_30 : decode cX9_begins 30 = .ok (.getfield 75, 3) := by decide +kernel
theorem dX9_begins_33 : decode cX9_begins 33 = .ok (.iload_n 1, 1) := by decide +kernel
theorem dX9_begins_34 : decode cX9_begins 34 = .ok (.aload_n 0, 1) := by decide +kernel
theorem dX9_begins_35 : decode cX9_begins 35 = .ok (.getfield 87, 3) := by decide +kernel
theorem dX9_begins_38 : decode cX9_begins 38 = .ok (.iload_n 1, 1) := by decide +kernel
theorem dX9_begins_39 : decode cX9_begins 39 = .ok (.iaload, 1) := by decide +kernel
theorem dX9_begins_40 : decode cX9_begins 40 = .ok (.iastore, 1) := by decide +kernel
theorem dX9_begins_41 : decode cX9_begins 41 = .ok (.iinc 1 1, 3) := by decide +kernel
theorem dX9_begins_44 : decode cX9_begins 44 = .ok (.goto (-21), 3) := by decide +kernel
theorem dX9_begins_47 : decode cX9_begins 47 = .ok (.iconst 0, 1) := by decide +kernel
theorem dX9_begins_48 : decode cX9_begins 48 = .ok (.istore_n 1, 1) := by decide +kernel
theorem dX9_begins_49 : decode cX9_begins 49 = .ok (.iload_n 1, 1) := by decide +kernel
theorem dX9_begins_50 : decode cX9_begins 50 = .ok (.aload_n 0, 1) := by decide +kernel
theorem dX9_begins_51 : decode cX9_begins 51 = .ok (.getfield 302, 3) := by decide +kernel
theorem dX9_begins_54 : decode cX9_begins 54 = .ok (.if_icmp .ge 97, 3) := by decide +kernel
theorem dX9_begins_57 : decode cX9_begins 57 = .ok (.aload_n 0, 1) := by decide +kernel
theorem dX9_begins_58 : decode cX9_begins 58 = .ok (.aload_n 0, 1) := by decide +kernel
theorem dX9_begins_59 : decode cX9_begins 59 = .ok (.getfield 81, 3) := by decide +kernel
theorem dX9_begins_62 : decode cX9_begins 62 = .ok (.iload_n 1, 1) := by decide +kernel
theorem dX9_begins_63 : decode cX9_begins 63 = .ok (.iaload, 1) := by decide +kernel
theorem dX9_begins_64 : decode cX9_begins 64 = .ok (.invokevirtual 296, 3) := by decide +kernel
theorem dX9_begins_67 : decode cX9_begins 67 = .ok (.istore_n 2, 1) := by decide +kernel
theorem dX9_begins_68 : decode cX9_begins 68 = .ok (.iconst 0, 1) := by decide +kernel
theorem dX9_begins_69 : decode cX9_begins 69 = .ok (.istore_n 3, 1) := by decide +kernel
theorem dX9_begins_70 : decode cX9_begins 70 = .ok (.iload_n 3, 1) := by decide +kernel
theorem dX9_begins_71 : decode cX9_begins 71 = .ok (.aload_n 0, 1) := by decide +kernel
theorem dX9_begins_72 : decode cX9_begins 72 = .ok (.getfield 305, 3) := by decide +kernel
theorem dX9_begins_75 : decode cX9_begins 75 = .ok (.if_icmp .ge 70, 3) := by decide +kernel
theorem dX9_begins_78 : decode cX9_begins 78 = .ok (.iload_n 2, 1) := by decide +kernel
theorem dX9_begins_79 : decode cX9_begins 79 = .ok (.aload_n 0, 1) := by decide +kernel
theorem dX9_begins_80 : decode cX9_begins 80 = .ok (.getfield 75, 3) := by decide +kernel
theorem dX9_begins_83 : decode cX9_begins 83 = .ok (.aload_n 0, 1) := by decide +kernel
theorem dX9_begins_84 : decode cX9_begins 84 = .ok (.getfield 84, 3) := by decide +kernel
theorem dX9_begins_87 : decode cX9_begins 87 = .ok (.iload_n 3, 1) := by decide +kernel
theorem dX9_begins_88 : decode cX9_begins 88 = .ok (.iaload, 1) := by decide +kernel
theorem dX9_begins_89 : decode cX9_begins 89 = .ok (.iaload, 1) := by decide +kernel
theorem dX9_begins_90 : decode cX9_begins 90 = .ok (.invokestatic 308, 3) := by decide +kernel
theorem dX9_begins_93 : decode cX9_begins 93 = .ok (.istore 4, 2) := by decide +kernel
theorem dX9_begins_95 : decode cX9_begins 95 = .ok (.aload_n 0, 1) := by decide +kernel
theorem dX9_begins_96 : decode cX9_begins 96 = .ok (.getfield 90, 3) := by decide +kernel
theorem dX9_begins_99 : decode cX9_begins 99 = .ok (.bipush 6, 2) := by decide +kernel
theorem dX9_begins_101 : decode cX9_begins 101 = .ok (.aload_n 0, 1) := by decide +kernel
theorem dX9_begins_102 : decode cX9_begins 102 = .ok (.getfield 81, 3) := by decide +kernel
theorem dX9_begins_105 : decode cX9_begins 105 = .ok (.iload_n 1, 1) := by decide +kernel
theorem dX9_begins_106 : decode cX9_begins 106 = .ok (.iaload, 1) := by decide +kernel
theorem dX9_begins_107 : decode cX9_begins 107 = .ok (.imul, 1) := by decide +kernel
theorem dX9_begins_108 : decode cX9_begins 108 = .ok (.aload_n 0, 1) := by decide +kernel
theorem dX9_begins_109 : decode cX9_begins 109 = .ok (.getfield 84, 3) := by decide +kernel
theorem dX9_begins_112 : decode cX9_begins 112 = .ok (.iload_n 3, 1) := by decide +kernel
theorem dX9_begins_113 : decode cX9_begins 113 = .ok (.iaload, 1) := by decide +kernel
theorem dX9_begins_114 : decode cX9_begins 114 = .ok (.iadd, 1) := by decide +kernel
theorem dX9_begins_115 : decode cX9_begins 115 = .ok (.iload 4, 2) := by decide +kernel
theorem dX9_begins_117 : decode cX9_begins 117 = .ok (.iastore, 1) := by decide +kernel
theorem dX9_begins_118 : decode cX9_begins 118 = .ok (.aload_n 0, 1) := by decide +kernel
theorem dX9_begins_119 : decode cX9_begins 119 = .ok (.getfield 75, 3) := by decide +kernel
theorem dX9_begins_122 : decode cX9_begins 122 = .ok (.aload_n 0, 1) := by decide +kernel
theorem dX9_begins_123 : decode cX9_begins 123 = .ok (.getfield 84, 3) := by decide +kernel
theorem dX9_begins_126 : decode cX9_begins 126 = .ok (.iload_n 3, 1) := by decide +kernel
theorem dX9_begins_127 : decode cX9_begins 127 = .ok (.iaload, 1) := by decide +kernel
theorem dX9_begins_128 : decode cX9_begins 128 = .ok (.dup2, 1) := by decide +kernel
theorem dX9_begins_129 : decode cX9_begins 129 = .ok (.iaload, 1) := by decide +kernel
theorem dX9_begins_130 : decode cX9_begins 130 = .ok (.iload 4, 2) := by decide +kernel
theorem dX9_begins_132 : decode cX9_begins 132 = .ok (.isub, 1) := by decide +kernel
theorem dX9_begins_133 : decode cX9_begins 133 = .ok (.iastore, 1) := by decide +kernel
theorem dX9_begins_134 : decode cX9_begins 134 = .ok (.iload_n 2, 1) := by decide +kernel
theorem dX9_begins_135 : decode cX9_begins 135 = .ok (.iload 4, 2) := by decide +kernel
theorem dX9_begins_137 : decode cX9_begins 137 = .ok (.isub, 1) := by decide +kernel
theorem dX9_begins_138 : decode cX9_begins 138 = .ok (.istore_n 2, 1) := by decide +kernel
theorem dX9_begins_139 : decode cX9_begins 139 = .ok (.iinc 3 1, 3) := by decide +kernel
theorem dX9_begins_142 : decode cX9_begins 142 = .ok (.goto (-72), 3) := by decide +kernel
theorem dX9_begins_145 : decode cX9_begins 145 = .ok (.iinc 1 1, 3) := by decide +kernel
theorem dX9_begins_148 : decode cX9_begins 148 = .ok (.goto (-99), 3) := by decide +kernel
theorem dX9_begins_151 : decode cX9_begins 151 = .ok (.return_, 1) := by decide +kernel
theorem dX9_gains_0 : decode cX9_gains 0 = .ok (.bipush 6, 2) := by decide +kernel
theorem dX9_gains_2 : decode cX9_gains 2 = .ok (.aload_n 0, 1) := by decide +kernel
theorem dX9_gains_3 : decode cX9_gains 3 = .ok (.getfield 93, 3) := by decide +kernel
theorem dX9_gains_6 : decode cX9_gains 6 = .ok (.iload_n 1, 1) := by decide +kernel
theorem dX9_gains_7 : decode cX9_gains 7 = .ok (.iaload, 1) := by decide +kernel
theorem dX9_gains_8 : decode cX9_gains 8 = .ok (.imul, 1) := by decide +kernel
theorem dX9_gains_9 : decode cX9_gains 9 = .ok (.aload_n 0, 1) := by decide +kernel
theorem dX9_gains_10 : decode cX9_gains 10 = .ok (.getfield 96, 3) := by decide +kernel
theorem dX9_gains_13 : decode cX9_gains 13 = .ok (.iload_n 1, 1) := by decide +kernel
theorem dX9_gains_14 : decode cX9_gains 14 = .ok (.iaload, 1) := by decide +kernel
theorem dX9_gains_15 : decode cX9_gains 15 = .ok (.iadd, 1) := by decide +kernel
theorem dX9_gains_16 : decode cX9_gains 16 = .ok (.ireturn, 1) := by decide +kernel
theorem dX9_givesUp_0 : decode cX9_givesUp 0 = .ok (.bipush 6, 2) := by decide +kernel
theorem dX9_givesUp_2 : decode cX9_givesUp 2 = .ok (.aload_n 0, 1) := by decide +kernel
theorem dX9_givesUp_3 : decode cX9_givesUp 3 = .ok (.getfield 93, 3) := by decide +kernel
theorem dX9_givesUp_6 : decode cX9_givesUp 6 = .ok (.iload_n 1, 1) := by decide +kernel
theorem dX9_givesUp_7 : decode cX9_givesUp 7 = .ok (.iconst 1, 1) := by decide +kernel
theorem dX9_givesUp_8 : decode cX9_givesUp 8 = .ok (.iadd, 1) := by decide +kernel
theorem dX9_givesUp_9 : decode cX9_givesUp 9 = .ok (.aload_n 0, 1) := by decide +kernel
theorem dX9_givesUp_10 : decode cX9_givesUp 10 = .ok (.getfield 311, 3) := by decide +kernel
theorem dX9_givesUp_13 : decode cX9_givesUp 13 = .ok (.irem, 1) := by decide +kernel
theorem dX9_givesUp_14 : decode cX9_givesUp 14 = .ok (.iaload, 1) := by decide +kernel
theorem dX9_givesUp_15 : decode cX9_givesUp 15 = .ok (.imul, 1) := by decide +kernel
theorem dX9_givesUp_16 : decode cX9_givesUp 16 = .ok (.aload_n 0, 1) := by decide +kernel
theorem dX9_givesUp_17 : decode cX9_givesUp 17 = .ok (.getfield 96, 3) := by decide +kernel
theorem dX9_givesUp_20 : decode cX9_givesUp 20 = .ok (.iload_n 1, 1) := by decide +kernel
theorem dX9_givesUp_21 : decode cX9_givesUp 21 = .ok (.iaload, 1) := by decide +kernel
theorem dX9_givesUp_22 : decode cX9_givesUp 22 = .ok (.iadd, 1) := by decide +kernel
theorem dX9_givesUp_23 : decode cX9_givesUp 23 = .ok (.ireturn, 1) := by decide +kernel
theorem dX9_isRingWard_0 : decode cX9_isRingWard 0 = .ok (.iconst 0, 1) := by decide +kernel
theorem dX9_isRingWard_1 : decode cX9_isRingWard 1 = .ok (.istore_n 3, 1) := by decide +kernel
theorem dX9_isRingWard_2 : decode cX9_isRingWard 2 = .ok (.iload_n 3, 1) := by decide +kernel
theorem dX9_isRingWard_3 : decode cX9_isRingWard 3 = .ok (.iload_n 1, 1) := by decide +kernel
theorem dX9_isRingWard_4 : decode cX9_isRingWard 4 = .ok (.if_icmp .ge 21, 3) := by decide +kernel
theorem dX9_isRingWard_7 : decode cX9_isRingWard 7 = .ok (.aload_n 0, 1) := by decide +kernel
theorem dX9_isRingWard_8 : decode cX9_isRingWard 8 = .ok (.getfield 93, 3) := by decide +kernel
theorem dX9_isRingWard_11 : decode cX9_isRingWard 11 = .ok (.iload_n 3, 1) := by decide +kernel
theorem dX9_isRingWard_12 : decode cX9_isRingWard 12 = .ok (.iaload, 1) := by decide +kernel
theorem dX9_isRingWard_13 : decode cX9_isRingWard 13 = .ok (.iload_n 2, 1) := by decide +kernel
theorem dX9_isRingWard_14 : decode cX9_isRingWard 14 = .ok (.if_icmp .ne 5, 3) := by decide +kernel
theorem dX9_isRingWard_17 : decode cX9_isRingWard 17 = .ok (.iconst 1, 1) := by decide +kernel
theorem dX9_isRingWard_18 : decode cX9_isRingWard 18 = .ok (.ireturn, 1) := by decide +kernel
theorem dX9_isRingWard_19 : decode cX9_isRingWard 19 = .ok (.iinc 3 1, 3) := by decide +kernel
theorem dX9_isRingWard_22 : decode cX9_isRingWard 22 = .ok (.goto (-20), 3) := by decide +kernel
theorem dX9_isRingWard_25 : decode cX9_isRingWard 25 = .ok (.iconst 0, 1) := by decide +kernel
theorem dX9_isRingWard_26 : decode cX9_isRingWard 26 = .ok (.ireturn, 1) := by decide +kernel
theorem dX9_isRingParty_0 : decode cX9_isRingParty 0 = .ok (.iconst 0, 1) := by decide +kernel
theorem dX9_isRingParty_1 : decode cX9_isRingParty 1 = .ok (.istore_n 3, 1) := by decide +kernel
theorem dX9_isRingParty_2 : decode cX9_isRingParty 2 = .ok (.iload_n 3, 1) := by decide +kernel
theorem dX9_isRingParty_3 : decode cX9_isRingParty 3 = .ok (.iload_n 1, 1) := by decide +kernel
theorem dX9_isRingParty_4 : decode cX9_isRingParty 4 = .ok (.if_icmp .ge 21, 3) := by decide +kernel
theorem dX9_isRingParty_7 : decode cX9_isRingParty 7 = .ok (.aload_n 0, 1) := by decide +kernel
theorem dX9_isRingParty_8 : decode cX9_isRingParty 8 = .ok (.getfield 96, 3) := by decide +kernel
theorem dX9_isRingParty_11 : decode cX9_isRingParty 11 = .ok (.iload_n 3, 1) := by decide +kernel
theorem dX9_isRingParty_12 : decode cX9_isRingParty 12 = .ok (.iaload, 1) := by decide +kernel
theorem dX9_isRingParty_13 : decode cX9_isRingParty 13 = .ok (.iload_n 2, 1) := by decide +kernel
theorem dX9_isRingParty_14 : decode cX9_isRingParty 14 = .ok (.if_icmp .ne 5, 3) := by decide +kernel
theorem dX9_isRingParty_17 : decode cX9_isRingParty 17 = .ok (.iconst 1, 1) := by decide +kernel
theorem dX9_isRingParty_18 : decode cX9_isRingParty 18 = .ok (.ireturn, 1) := by decide +kernel
theorem dX9_isRingParty_19 : decode cX9_isRingParty 19 = .ok (.iinc 3 1, 3) := by decide +kernel
theorem dX9_isRingParty_22 : decode cX9_isRingParty 22 = .ok (.goto (-20), 3) := by decide +kernel
theorem dX9_isRingParty_25 : decode cX9_isRingParty 25 = .ok (.iconst 0, 1) := by decide +kernel
theorem dX9_isRingParty_26 : decode cX9_isRingParty 26 = .ok (.ireturn, 1) := by decide +kernel
theorem dX9_finds_0 : decode cX9_finds 0 = .ok (.aload_n 0, 1) := by decide +kernel
theorem dX9_finds_1 : decode cX9_finds 1 = .ok (.iconst 0, 1) := by decide +kernel
theorem dX9_finds_2 : decode cX9_finds 2 = .ok (.putfield 314, 3) := by decide +kernel
theorem dX9_finds_5 : decode cX9_finds 5 = .ok (.iconst 4, 1) := by decide +kernel
theorem dX9_finds_6 : decode cX9_finds 6 = .ok (.aload_n 0, 1) := by decide +kernel
theorem dX9_finds_7 : decode cX9_finds 7 = .ok (.getfield 302, 3) := by decide +kernel
theorem dX9_finds_10 : decode cX9_finds 10 = .ok (.aload_n 0, 1) := by decide +kernel
theorem dX9_finds_11 : decode cX9_finds 11 = .ok (.getfield 305, 3) := by decide +kernel
theorem dX9_finds_14 : decode cX9_finds 14 = .ok (.invokestatic 308, 3) := by decide +kernel
theorem dX9_finds_17 : decode cX9_finds 17 = .ok (.invokestatic 308, 3) := by decide +kernel
theorem dX9_finds_20 : decode cX9_finds 20 = .ok (.istore_n 2, 1) := by decide +kernel
theorem dX9_finds_21 : decode cX9_finds 21 = .ok (.aload_n 0, 1) := by decide +kernel
theorem dX9_finds_22 : decode cX9_finds 22 = .ok (.iconst 2, 1) := by decide +kernel
theorem dX9_finds_23 : decode cX9_finds 23 = .ok (.putfield 311, 3) := by decide +kernel
theorem dX9_finds_26 : decode cX9_finds 26 = .ok (.aload_n 0, 1) := by decide +kernel
theorem dX9_finds_27 : decode cX9_finds 27 = .ok (.getfield 311, 3) := by decide +kernel
theorem dX9_finds_30 : decode cX9_finds 30 = .ok (.iload_n 2, 1) := by decide +kernel
theorem dX9_finds_31 : decode cX9_finds 31 = .ok (.if_icmp .gt 27, 3) := by decide +kernel
theorem dX9_finds_34 : decode cX9_finds 34 = .ok (.aload_n 0, 1) := by decide +kernel
theorem dX9_finds_35 : decode cX9_finds 35 = .ok (.aload_n 1, 1) := by decide +kernel
theorem dX9_finds_36 : decode cX9_finds 36 = .ok (.iconst 0, 1) := by decide +kernel
theorem dX9_finds_37 : decode cX9_finds 37 = .ok (.invokevirtual 317, 3) := by decide +kernel
theorem dX9_finds_40 : decode cX9_finds 40 = .ok (.ifCond .eq 5, 3) := by decide +kernel
theorem dX9_finds_43 : decode cX9_finds 43 = .ok (.iconst 1, 1) := by decide +kernel
theorem dX9_finds_44 : decode cX9_finds 44 = .ok (.ireturn, 1) := by decide +kernel
theorem dX9_finds_45 : decode cX9_finds 45 = .ok (.aload_n 0, 1) := by decide +kernel
theorem dX9_finds_46 : decode cX9_finds 46 = .ok (.dup, 1) := by decide +kernel
theorem dX9_finds_47 : decode cX9_finds 47 = .ok (.getfield 311, 3) := by decide +kernel
theorem dX9_finds_50 : decode cX9_finds 50 = .ok (.iconst 1, 1) := by decide +kernel
theorem dX9_finds_51 : decode cX9_finds 51 = .ok (.iadd, 1) := by decide +kernel
theorem dX9_finds_52 : decode cX9_finds 52 = .ok (.putfield 311, 3) := by decide +kernel
theorem dX9_finds_55 : decode cX9_finds 55 = .ok (.goto (-29), 3) := by decide +kernel
theorem dX9_finds_58 : decode cX9_finds 58 = .ok (.iconst 0, 1) := by decide +kernel
theorem dX9_finds_59 : decode cX9_finds 59 = .ok (.ireturn, 1) := by decide +kernel
theorem dX9_findsWards_0 : decode cX9_findsWards 0 = .ok (.iload_n 2, 1) := by decide +kernel
theorem dX9_findsWards_1 : decode cX9_findsWards 1 = .ok (.aload_n 0, 1) := by decide +kernel
theorem dX9_findsWards_2 : decode cX9_findsWards 2 = .ok (.getfield 311, 3) := by decide +kernel
theorem dX9_findsWards_5 : decode cX9_findsWards 5 = .ok (.if_icmp .ne 10, 3) := by decide +kernel
theorem dX9_findsWards_8 : decode cX9_findsWards 8 = .ok (.aload_n 0, 1) := by decide +kernel
theorem dX9_findsWards_9 : decode cX9_findsWards 9 = .ok (.aload_n 1, 1) := by decide +kernel
theorem dX9_findsWards_10 : decode cX9_findsWards 10 = .ok (.iconst 0, 1) := by decide +kernel
theorem dX9_findsWards_11 : decode cX9_findsWards 11 = .ok (.invokevirtual 321, 3) := by decide +kernel
theorem dX9_findsWards_14 : decode cX9_findsWards 14 = .ok (.ireturn, 1) := by decide +kernel
theorem dX9_findsWards_15 : decode cX9_findsWards 15 = .ok (.iconst 0, 1) := by decide +kernel
theorem dX9_findsWards_16 : decode cX9_findsWards 16 = .ok (.istore_n 3, 1) := by decide +kernel
theorem dX9_findsWards_17 : decode cX9_findsWards 17 = .ok (.iload_n 3, 1) := by decide +kernel
theorem dX9_findsWards_18 : decode cX9_findsWards 18 = .ok (.aload_n 0, 1) := by decide +kernel
theorem dX9_findsWards_19 : decode cX9_findsWards 19 = .ok (.getfield 302, 3) := by decide +kernel
theorem dX9_findsWards_22 : decode cX9_findsWards 22 = .ok (.if_icmp .ge 48, 3) := by decide +kernel
theorem dX9_findsWards_25 : decode cX9_findsWards 25 = .ok (.aload_n 0, 1) := by decide +kernel
theorem dX9_findsWards_26 : decode cX9_findsWards 26 = .ok (.iload_n 2, 1) := by decide +kernel
theorem dX9_findsWards_27 : decode cX9_findsWards 27 = .ok (.aload_n 0, 1) := by decide +kernel
theorem dX9_findsWards_28 : decode cX9_findsWards 28 = .ok (.getfield 81, 3) := by decide +kernel
theorem dX9_findsWards_31 : decode cX9_findsWards 31 = .ok (.iload_n 3, 1) := by decide +kernel
theorem dX9_findsWards_32 : decode cX9_findsWards 32 = .ok (.iaload, 1) := by decide +kernel
theorem dX9_findsWards_33 : decode cX9_findsWards 33 = .ok (.invokevirtual 324, 3) := by decide +kernel
theorem dX9_findsWards_36 : decode cX9_findsWards 36 = .ok (.ifCond .ne 28, 3) := by decide +kernel
theorem dX9_findsWards_39 : decode cX9_findsWards 39 = .ok (.aload_n 0, 1) := by decide +kernel
theorem dX9_findsWards_40 : decode cX9_findsWards 40 = .ok (.getfield 93, 3) := by decide +kernel
theorem dX9_findsWards_43 : decode cX9_findsWards 43 = .ok (.iload_n 2, 1) := by decide +kernel
theorem dX9_findsWards_44 : decode cX9_findsWards 44 = .ok (.aload_n 0, 1) := by decide +kernel
theorem dX9_findsWards_45 : decode cX9_findsWards 45 = .ok (.getfield 81, 3) := by decide +kernel
theorem dX9_findsWards_48 : decode cX9_findsWards 48 = .ok (.iload_n 3, 1) := by decide +kernel
theorem dX9_findsWards_49 : decode cX9_findsWards 49 = .ok (.iaload, 1) := by decide +kernel
theorem dX9_findsWards_50 : decode cX9_findsWards 50 = .ok (.iastore, 1) := by decide +kernel
theorem dX9_findsWards_51 : decode cX9_findsWards 51 = .ok (.aload_n 0, 1) := by decide +kernel
theorem dX9_findsWards_52 : decode cX9_findsWards 52 = .ok (.aload_n 1, 1) := by decide +kernel
theorem dX9_findsWards_53 : decode cX9_findsWards 53 = .ok (.iload_n 2, 1) := by decide +kernel
theorem dX9_findsWards_54 : decode cX9_findsWards 54 = .ok (.iconst 1, 1) := by decide +kernel
theorem dX9_findsWards_55 : decode cX9_findsWards 55 = .ok (.iadd, 1) := by decide +kernel
theorem dX9_findsWards_56 : decode cX9_findsWards 56 = .ok (.invokevirtual 317, 3) := by decide +kernel
theorem dX9_findsWards_59 : decode cX9_findsWards 59 = .ok (.ifCond .eq 5, 3) := by decide +kernel
theorem dX9_findsWards_62 : decode cX9_findsWards 62 = .ok (.iconst 1, 1) := by decide +kernel
theorem dX9_findsWards_63 : decode cX9_findsWards 63 = .ok (.ireturn, 1) := by decide +kernel
theorem dX9_findsWards_64 : decode cX9_findsWards 64 = .ok (.iinc 3 1, 3) := by decide +kernel
theorem dX9_findsWards_67 : decode cX9_findsWards 67 = .ok (.goto (-50), 3) := by decide +kernel
theorem dX9_findsWards_70 : decode cX9_findsWards 70 = .ok (.iconst 0, 1) := by decide +kernel
theorem dX9_findsWards_71 : decode cX9_findsWards 71 = .ok (.ireturn, 1) := by decide +kernel
theorem dX9_findsParties_0 : decode cX9_findsParties 0 = .ok (.iload_n 2, 1) := by decide +kernel
theorem dX9_findsParties_1 : decode cX9_findsParties 1 = .ok (.aload_n 0, 1) := by decide +kernel
theorem dX9_findsParties_2 : decode cX9_findsParties 2 = .ok (.getfield 311, 3) := by decide +kernel
theorem dX9_findsParties_5 : decode cX9_findsParties 5 = .ok (.if_icmp .ne 24, 3) := by decide +kernel
theorem dX9_findsParties_8 : decode cX9_findsParties 8 = .ok (.aload_n 0, 1) := by decide +kernel
theorem dX9_findsParties_9 : decode cX9_findsParties 9 = .ok (.aload_n 1, 1) := by decide +kernel
