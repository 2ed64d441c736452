theorem dX0_init_0 : decode cX0_init 0 = .ok (.aload_n 0, 1) := by decide +kernel
theorem dX0_init_1 : decode cX0_init 1 = .ok (.invokespecial 3, 3) := by decide +kernel
theorem dX0_init_4 : decode cX0_init 4 = .ok (.aload_n 0, 1) := by decide +kernel
theorem dX0_init_5 : decode cX0_init 5 = .ok (.bipush 6, 2) := by decide +kernel
theorem dX0_init_7 : decode cX0_init 7 = .ok (.newarray .int, 2) := by decide +kernel
theorem dX0_init_9 : decode cX0_init 9 = .ok (.putfield 9, 3) := by decide +kernel
theorem dX0_init_12 : decode cX0_init 12 = .ok (.aload_n 0, 1) := by decide +kernel
theorem dX0_init_13 : decode cX0_init 13 = .ok (.bipush 60, 2) := by decide +kernel
theorem dX0_init_15 : decode cX0_init 15 = .ok (.newarray .int, 2) := by decide +kernel
theorem dX0_init_17 : decode cX0_init 17 = .ok (.putfield 15, 3) := by decide +kernel
theorem dX0_init_20 : decode cX0_init 20 = .ok (.aload_n 0, 1) := by decide +kernel
theorem dX0_init_21 : decode cX0_init 21 = .ok (.bipush 6, 2) := by decide +kernel
theorem dX0_init_23 : decode cX0_init 23 = .ok (.newarray .long, 2) := by decide +kernel
theorem dX0_init_25 : decode cX0_init 25 = .ok (.putfield 18, 3) := by decide +kernel
theorem dX0_init_28 : decode cX0_init 28 = .ok (.aload_n 0, 1) := by decide +kernel
theorem dX0_init_29 : decode cX0_init 29 = .ok (.bipush 6, 2) := by decide +kernel
theorem dX0_init_31 : decode cX0_init 31 = .ok (.newarray .int, 2) := by decide +kernel
theorem dX0_init_33 : decode cX0_init 33 = .ok (.putfield 22, 3) := by decide +kernel
theorem dX0_init_36 : decode cX0_init 36 = .ok (.aload_n 0, 1) := by decide +kernel
theorem dX0_init_37 : decode cX0_init 37 = .ok (.bipush 6, 2) := by decide +kernel
theorem dX0_init_39 : decode cX0_init 39 = .ok (.newarray .long, 2) := by decide +kernel
theorem dX0_init_41 : decode cX0_init 41 = .ok (.putfield 25, 3) := by decide +kernel
theorem dX0_init_44 : decode cX0_init 44 = .ok (.aload_n 0, 1) := by decide +kernel
theorem dX0_init_45 : decode cX0_init 45 = .ok (.bipush 6, 2) := by decide +kernel
theorem dX0_init_47 : decode cX0_init 47 = .ok (.newarray .long, 2) := by decide +kernel
theorem dX0_init_49 : decode cX0_init 49 = .ok (.putfield 28, 3) := by decide +kernel
theorem dX0_init_52 : decode cX0_init 52 = .ok (.aload_n 0, 1) := by decide +kernel
theorem dX0_init_53 : decode cX0_init 53 = .ok (.bipush 6, 2) := by decide +kernel
theorem dX0_init_55 : decode cX0_init 55 = .ok (.newarray .long, 2) := by decide +kernel
theorem dX0_init_57 : decode cX0_init 57 = .ok (.putfield 31, 3) := by decide +kernel
theorem dX0_init_60 : decode cX0_init 60 = .ok (.aload_n 0, 1) := by decide +kernel
theorem dX0_init_61 : decode cX0_init 61 = .ok (.bipush 6, 2) := by decide +kernel
theorem dX0_init_63 : decode cX0_init 63 = .ok (.newarray .int, 2) := by decide +kernel
theorem dX0_init_65 : decode cX0_init 65 = .ok (.putfield 34, 3) := by decide +kernel
theorem dX0_init_68 : decode cX0_init 68 = .ok (.return_, 1) := by decide +kernel
theorem dX0_empty_0 : decode cX0_empty 0 = .ok (.aload_n 0, 1) := by decide +kernel
theorem dX0_empty_1 : decode cX0_empty 1 = .ok (.getfield 9, 3) := by decide +kernel
theorem dX0_empty_4 : decode cX0_empty 4 = .ok (.iconst 0, 1) := by decide +kernel
theorem dX0_empty_5 : decode cX0_empty 5 = .ok (.invokestatic 37, 3) := by decide +kernel
theorem dX0_empty_8 : decode cX0_empty 8 = .ok (.aload_n 0, 1) := by decide +kernel
theorem dX0_empty_9 : decode cX0_empty 9 = .ok (.getfield 18, 3) := by decide +kernel
theorem dX0_empty_12 : decode cX0_empty 12 = .ok (.lconst 0, 1) := by decide +kernel
theorem dX0_empty_13 : decode cX0_empty 13 = .ok (.invokestatic 43, 3) := by decide +kernel
theorem dX0_empty_16 : decode cX0_empty 16 = .ok (.aload_n 0, 1) := by decide +kernel
theorem dX0_empty_17 : decode cX0_empty 17 = .ok (.getfield 22, 3) := by decide +kernel
theorem dX0_empty_20 : decode cX0_empty 20 = .ok (.iconst 0, 1) := by decide +kernel
theorem dX0_empty_21 : decode cX0_empty 21 = .ok (.invokestatic 37, 3) := by decide +kernel
theorem dX0_empty_24 : decode cX0_empty 24 = .ok (.aload_n 0, 1) := by decide +kernel
theorem dX0_empty_25 : decode cX0_empty 25 = .ok (.iconst 0, 1) := by decide +kernel
theorem dX0_empty_26 : decode cX0_empty 26 = .ok (.putfield 46, 3) := by decide +kernel
theorem dX0_empty_29 : decode cX0_empty 29 = .ok (.aload_n 0, 1) := by decide +kernel
theorem dX0_empty_30 : decode cX0_empty 30 = .ok (.iconst 0, 1) := by decide +kernel
theorem dX0_empty_31 : decode cX0_empty 31 = .ok (.putfield 50, 3) := by decide +kernel
theorem dX0_empty_34 : decode cX0_empty 34 = .ok (.aload_n 0, 1) := by decide +kernel
theorem dX0_empty_35 : decode cX0_empty 35 = .ok (.iconst 0, 1) := by decide +kernel
theorem dX0_empty_36 : decode cX0_empty 36 = .ok (.putfield 53, 3) := by decide +kernel
theorem dX0_empty_39 : decode cX0_empty 39 = .ok (.return_, 1) := by decide +kernel
theorem dX0_enter_0 : decode cX0_enter 0 = .ok (.aload_n 0, 1) := by decide +kernel
theorem dX0_enter_1 : decode cX0_enter 1 = .ok (.dup, 1) := by decide +kernel
theorem dX0_enter_2 : decode cX0_enter 2 = .ok (.getfield 53, 3) := by decide +kernel
theorem dX0_enter_5 : decode cX0_enter 5 = .ok (.iconst 1, 1) := by decide +kernel
theorem dX0_enter_6 : decode cX0_enter 6 = .ok (.iload_n 1, 1) := by decide +kernel
theorem dX0_enter_7 : decode cX0_enter 7 = .ok (.ishl, 1) := by decide +kernel
theorem dX0_enter_8 : decode cX0_enter 8 = .ok (.ior, 1) := by decide +kernel
theorem dX0_enter_9 : decode cX0_enter 9 = .ok (.putfield 53, 3) := by decide +kernel
theorem dX0_enter_12 : decode cX0_enter 12 = .ok (.aload_n 0, 1) := by decide +kernel
theorem dX0_enter_13 : decode cX0_enter 13 = .ok (.getfield 18, 3) := by decide +kernel
theorem dX0_enter_16 : decode cX0_enter 16 = .ok (.iload_n 1, 1) := by decide +kernel
theorem dX0_enter_17 : decode cX0_enter 17 = .ok (.dup2, 1) := by decide +kernel
theorem dX0_enter_18 : decode cX0_enter 18 = .ok (.laload, 1) := by decide +kernel
theorem dX0_enter_19 : decode cX0_enter 19 = .ok (.iload_n 2, 1) := by decide +kernel
theorem dX0_enter_20 : decode cX0_enter 20 = .ok (.i2l, 1) := by decide +kernel
theorem dX0_enter_21 : decode cX0_enter 21 = .ok (.ladd, 1) := by decide +kernel
theorem dX0_enter_22 : decode cX0_enter 22 = .ok (.lastore, 1) := by decide +kernel
theorem dX0_enter_23 : decode cX0_enter 23 = .ok (.aload_n 0, 1) := by decide +kernel
theorem dX0_enter_24 : decode cX0_enter 24 = .ok (.getfield 22, 3) := by decide +kernel
theorem dX0_enter_27 : decode cX0_enter 27 = .ok (.iload_n 1, 1) := by decide +kernel
theorem dX0_enter_28 : decode cX0_enter 28 = .ok (.dup2, 1) := by decide +kernel
theorem dX0_enter_29 : decode cX0_enter 29 = .ok (.iaload, 1) := by decide +kernel
theorem dX0_enter_30 : decode cX0_enter 30 = .ok (.iload_n 3, 1) := by decide +kernel
theorem dX0_enter_31 : decode cX0_enter 31 = .ok (.iadd, 1) := by decide +kernel
theorem dX0_enter_32 : decode cX0_enter 32 = .ok (.iastore, 1) := by decide +kernel
theorem dX0_enter_33 : decode cX0_enter 33 = .ok (.return_, 1) := by decide +kernel
theorem dX0_give_0 : decode cX0_give 0 = .ok (.aload_n 0, 1) := by decide +kernel
theorem dX0_give_1 : decode cX0_give 1 = .ok (.getfield 53, 3) := by decide +kernel
theorem dX0_give_4 : decode cX0_give 4 = .ok (.ifCond .ne 13, 3) := by decide +kernel
theorem dX0_give_7 : decode cX0_give 7 = .ok (.iload_n 3, 1) := by decide +kernel
theorem dX0_give_8 : decode cX0_give 8 = .ok (.ifCond .ne 7, 3) := by decide +kernel
theorem dX0_give_11 : decode cX0_give 11 = .ok (.iconst 1, 1) := by decide +kernel
theorem dX0_give_12 : decode cX0_give 12 = .ok (.goto 4, 3) := by decide +kernel
theorem dX0_give_15 : decode cX0_give 15 = .ok (.iconst 0, 1) := by decide +kernel
theorem dX0_give_16 : decode cX0_give 16 = .ok (.ireturn, 1) := by decide +kernel
theorem dX0_give_17 : decode cX0_give 17 = .ok (.iload_n 2, 1) := by decide +kernel
theorem dX0_give_18 : decode cX0_give 18 = .ok (.bipush 6, 2) := by decide +kernel
theorem dX0_give_20 : decode cX0_give 20 = .ok (.if_icmp .ne 11, 3) := by decide +kernel
theorem dX0_give_23 : decode cX0_give 23 = .ok (.aload_n 0, 1) := by decide +kernel
theorem dX0_give_24 : decode cX0_give 24 = .ok (.iload_n 3, 1) := by decide +kernel
theorem dX0_give_25 : decode cX0_give 25 = .ok (.invokevirtual 56, 3) := by decide +kernel
theorem dX0_give_28 : decode cX0_give 28 = .ok (.goto 10, 3) := by decide +kernel
theorem dX0_give_31 : decode cX0_give 31 = .ok (.aload_n 0, 1) := by decide +kernel
theorem dX0_give_32 : decode cX0_give 32 = .ok (.aload_n 1, 1) := by decide +kernel
theorem dX0_give_33 : decode cX0_give 33 = .ok (.iload_n 2, 1) := by decide +kernel
theorem dX0_give_34 : decode cX0_give 34 = .ok (.iload_n 3, 1) := by decide +kernel
theorem dX0_give_35 : decode cX0_give 35 = .ok (.invokevirtual 60, 3) := by decide +kernel
theorem dX0_give_38 : decode cX0_give 38 = .ok (.ireturn, 1) := by decide +kernel
theorem dX0_giveByPrices_0 : decode cX0_giveByPrices 0 = .ok (.iconst 0, 1) := by decide +kernel
theorem dX0_giveByPrices_1 : decode cX0_giveByPrices 1 = .ok (.istore 4, 2) := by decide +kernel
theorem dX0_giveByPrices_3 : decode cX0_giveByPrices 3 = .ok (.iconst 0, 1) := by decide +kernel
theorem dX0_giveByPrices_4 : decode cX0_giveByPrices 4 = .ok (.istore 5, 2) := by decide +kernel
theorem dX0_giveByPrices_6 : decode cX0_giveByPrices 6 = .ok (.iload 5, 2) := by decide +kernel
theorem dX0_giveByPrices_8 : decode cX0_giveByPrices 8 = .ok (.bipush 6, 2) := by decide +kernel
theorem dX0_giveByPrices_10 : decode cX0_giveByPrices 10 = .ok (.if_icmp .ge 43, 3) := by decide +kernel
theorem dX0_giveByPrices_13 : decode cX0_giveByPrices 13 = .ok (.aload_n 0, 1) := by decide +kernel
theorem dX0_giveByPrices_14 : decode cX0_giveByPrices 14 = .ok (.getfield 9, 3) := by decide +kernel
theorem dX0_giveByPrices_17 : decode cX0_giveByPrices 17 = .ok (.iload 5, 2) := by decide +kernel
theorem dX0_giveByPrices_19 : decode cX0_giveByPrices 19 = .ok (.aload_n 0, 1) := by decide +kernel
theorem dX0_giveByPrices_20 : decode cX0_giveByPrices 20 = .ok (.getfield 22, 3) := by decide +kernel
theorem dX0_giveByPrices_23 : decode cX0_giveByPrices 23 = .ok (.iload 5, 2) := by decide +kernel
theorem dX0_giveByPrices_25 : decode cX0_giveByPrices 25 = .ok (.iaload, 1) := by decide +kernel
theorem dX0_giveByPrices_26 : decode cX0_giveByPrices 26 = .ok (.iastore, 1) := by decide +kernel
theorem dX0_giveByPrices_27 : decode cX0_giveByPrices 27 = .ok (.iload 4, 2) := by decide +kernel
theorem dX0_giveByPrices_29 : decode cX0_giveByPrices 29 = .ok (.aload_n 0, 1) := by decide +kernel
theorem dX0_giveByPrices_30 : decode cX0_giveByPrices 30 = .ok (.getfield 22, 3) := by decide +kernel
theorem dX0_giveByPrices_33 : decode cX0_giveByPrices 33 = .ok (.iload 5, 2) := by decide +kernel
theorem dX0_giveByPrices_35 : decode cX0_giveByPrices 35 = .ok (.iaload, 1) := by decide +kernel
theorem dX0_giveByPrices_36 : decode cX0_giveByPrices 36 = .ok (.iadd, 1) := by decide +kernel
theorem dX0_giveByPrices_37 : decode cX0_giveByPrices 37 = .ok (.istore 4, 2) := by decide +kernel
theorem dX0_giveByPrices_39 : decode cX0_giveByPrices 39 = .ok (.aload_n 0, 1) := by decide +kernel
theorem dX0_giveByPrices_40 : decode cX0_giveByPrices 40 = .ok (.aload_n 1, 1) := by decide +kernel
theorem dX0_giveByPrices_41 : decode cX0_giveByPrices 41 = .ok (.iload_n 2, 1) := by decide +kernel
theorem dX0_giveByPrices_42 : decode cX0_giveByPrices 42 = .ok (.iload 5, 2) := by decide +kernel
theorem dX0_giveByPrices_44 : decode cX0_giveByPrices 44 = .ok (.invokevirtual 64, 3) := by decide +kernel
theorem dX0_giveByPrices_47 : decode cX0_giveByPrices 47 = .ok (.iinc 5 1, 3) := by decide +kernel
theorem dX0_giveByPrices_50 : decode cX0_giveByPrices 50 = .ok (.goto (-44), 3) := by decide +kernel
theorem dX0_giveByPrices_53 : decode cX0_giveByPrices 53 = .ok (.iload 4, 2) := by decide +kernel
theorem dX0_giveByPrices_55 : decode cX0_giveByPrices 55 = .ok (.iload_n 3, 1) := by decide +kernel
theorem dX0_giveByPrices_56 : decode cX0_giveByPrices 56 = .ok (.if_icmp .le 5, 3) := by decide +kernel
theorem dX0_giveByPrices_59 : decode cX0_giveByPrices 59 = .ok (.iconst 0, 1) := by decide +kernel
theorem dX0_giveByPrices_60 : decode cX0_giveByPrices 60 = .ok (.ireturn, 1) := by decide +kernel
theorem dX0_giveByPrices_61 : decode cX0_giveByPrices 61 = .ok (.iload 4, 2) := by decide +kernel
theorem dX0_giveByPrices_63 : decode cX0_giveByPrices 63 = .ok (.istore 5, 2) := by decide +kernel
theorem dX0_giveByPrices_65 : decode cX0_giveByPrices 65 = .ok (.iload 5, 2) := by decide +kernel
theorem dX0_giveByPrices_67 : decode cX0_giveByPrices 67 = .ok (.iload_n 3, 1) := by decide +kernel
theorem dX0_giveByPrices_68 : decode cX0_giveByPrices 68 = .ok (.if_icmp .ge 61, 3) := by decide +kernel
theorem dX0_giveByPrices_71 : decode cX0_giveByPrices 71 = .ok (.aload_n 0, 1) := by decide +kernel
theorem dX0_giveByPrices_72 : decode cX0_giveByPrices 72 = .ok (.getfield 46, 3) := by decide +kernel
theorem dX0_giveByPrices_75 : decode cX0_giveByPrices 75 = .ok (.bipush 60, 2) := by decide +kernel
theorem dX0_giveByPrices_77 : decode cX0_giveByPrices 77 = .ok (.if_icmp .ge 52, 3) := by decide +kernel
theorem dX0_giveByPrices_80 : decode cX0_giveByPrices 80 = .ok (.aload_n 0, 1) := by decide +kernel
theorem dX0_giveByPrices_81 : decode cX0_giveByPrices 81 = .ok (.invokevirtual 68, 3) := by decide +kernel
theorem dX0_giveByPrices_84 : decode cX0_giveByPrices 84 = .ok (.istore 6, 2) := by decide +kernel
theorem dX0_giveByPrices_86 : decode cX0_giveByPrices 86 = .ok (.aload_n 0, 1) := by decide +kernel
theorem dX0_giveByPrices_87 : decode cX0_giveByPrices 87 = .ok (.getfield 9, 3) := by decide +kernel
theorem dX0_giveByPrices_90 : decode cX0_giveByPrices 90 = .ok (.iload 6, 2) := by decide +kernel
theorem dX0_giveByPrices_92 : decode cX0_giveByPrices 92 = .ok (.dup2, 1) := by decide +kernel
theorem dX0_giveByPrices_93 : decode cX0_giveByPrices 93 = .ok (.iaload, 1) := by decide +kernel
theorem dX0_giveByPrices_94 : decode cX0_giveByPrices 94 = .ok (.iconst 1, 1) := by decide +kernel
theorem dX0_giveByPrices_95 : decode cX0_giveByPrices 95 = .ok (.iadd, 1) := by decide +kernel
theorem dX0_giveByPrices_96 : decode cX0_giveByPrices 96 = .ok (.iastore, 1) := by decide +kernel
theorem dX0_giveByPrices_97 : decode cX0_giveByPrices 97 = .ok (.aload_n 0, 1) := by decide +kernel
theorem dX0_giveByPrices_98 : decode cX0_giveByPrices 98 = .ok (.aload_n 1, 1) := by decide +kernel
theorem dX0_giveByPrices_99 : decode cX0_giveByPrices 99 = .ok (.iload_n 2, 1) := by decide +kernel
theorem dX0_giveByPrices_100 : decode cX0_giveByPrices 100 = .ok (.iload 6, 2) := by decide +kernel
theorem dX0_giveByPrices_102 : decode cX0_giveByPrices 102 = .ok (.invokevirtual 64, 3) := by decide +kernel
theorem dX0_giveByPrices_105 : decode cX0_giveByPrices 105 = .ok (.aload_n 0, 1) := by decide +kernel
theorem dX0_giveByPrices_106 : decode cX0_giveByPrices 106 = .ok (.getfield 15, 3) := by decide +kernel
theorem dX0_giveByPrices_109 : decode cX0_giveByPrices 109 = .ok (.aload_n 0, 1) := by decide +kernel
theorem dX0_giveByPrices_110 : decode cX0_giveByPrices 110 = .ok (.dup, 1) := by decide +kernel
theorem dX0_giveByPrices_111 : decode cX0_giveByPrices 111 = .ok (.getfield 46, 3) := by decide +kernel
theorem dX0_giveByPrices_114 : decode cX0_giveByPrices 114 = .ok (.dup_x1, 1) := by decide +kernel
theorem dX0_giveByPrices_115 : decode cX0_giveByPrices 115 = .ok (.iconst 1, 1) := by decide +kernel
theorem dX0_giveByPrices_116 : decode cX0_giveByPrices 116 = .ok (.iadd, 1) := by decide +kernel
theorem dX0_giveByPrices_117 : decode cX0_giveByPrices 117 = .ok (.putfield 46, 3) := by decide +kernel
theorem dX0_giveByPrices_120 : decode cX0_giveByPrices 120 = .ok (.iload 6, 2) := by decide +kernel
theorem dX0_giveByPrices_122 : decode cX0_giveByPrices 122 = .ok (.iastore, 1) := by decide +kernel
theorem dX0_giveByPrices_123 : decode cX0_giveByPrices 123 = .ok (.iinc 5 1, 3) := by decide +kernel
theorem dX0_giveByPrices_126 : decode cX0_giveByPrices 126 = .ok (.goto (-61), 3) := by decide +kernel
theorem dX0_giveByPrices_129 : decode cX0_giveByPrices 129 = .ok (.iconst 1, 1) := by decide +kernel
theorem dX0_giveByPrices_130 : decode cX0_giveByPrices 130 = .ok (.ireturn, 1) := by decide +kernel
theorem dX0_priceNext_0 : decode cX0_priceNext 0 = .ok (.aload_n 0, 1) := by decide +kernel
theorem dX0_priceNext_1 : decode cX0_priceNext 1 = .ok (.getfield 9, 3) := by decide +kernel
theorem dX0_priceNext_4 : decode cX0_priceNext 4 = .ok (.iload_n 3, 1) := by decide +kernel
theorem dX0_priceNext_5 : decode cX0_priceNext 5 = .ok (.iaload, 1) := by decide +kernel
theorem dX0_priceNext_6 : decode cX0_priceNext 6 = .ok (.iconst 1, 1) := by decide +kernel
theorem dX0_priceNext_7 : decode cX0_priceNext 7 = .ok (.iadd, 1) := by decide +kernel
theorem dX0_priceNext_8 : decode cX0_priceNext 8 = .ok (.istore 4, 2) := by decide +kernel
theorem dX0_priceNext_10 : decode cX0_priceNext 10 = .ok (.aload_n 0, 1) := by decide +kernel
theorem dX0_priceNext_11 : decode cX0_priceNext 11 = .ok (.getfield 25, 3) := by decide +kernel
theorem dX0_priceNext_14 : decode cX0_priceNext 14 = .ok (.iload_n 3, 1) := by decide +kernel
theorem dX0_priceNext_15 : decode cX0_priceNext 15 = .ok (.aload_n 1, 1) := by decide +kernel
theorem dX0_priceNext_16 : decode cX0_priceNext 16 = .ok (.iload_n 2, 1) := by decide +kernel
theorem dX0_priceNext_17 : decode cX0_priceNext 17 = .ok (.aload_n 0, 1) := by decide +kernel
theorem dX0_priceNext_18 : decode cX0_priceNext 18 = .ok (.getfield 18, 3) := by decide +kernel
theorem dX0_priceNext_21 : decode cX0_priceNext 21 = .ok (.iload_n 3, 1) := by decide +kernel
theorem dX0_priceNext_22 : decode cX0_priceNext 22 = .ok (.laload, 1) := by decide +kernel
theorem dX0_priceNext_23 : decode cX0_priceNext 23 = .ok (.iload 4, 2) := by decide +kernel
theorem dX0_priceNext_25 : decode cX0_priceNext 25 = .ok (.invokevirtual 72, 3) := by decide +kernel
theorem dX0_priceNext_28 : decode cX0_priceNext 28 = .ok (.lastore, 1) := by decide +kernel
theorem dX0_priceNext_29 : decode cX0_priceNext 29 = .ok (.aload_n 0, 1) := by decide +kernel
theorem dX0_priceNext_30 : decode cX0_priceNext 30 = .ok (.getfield 28, 3) := by decide +kernel
theorem dX0_priceNext_33 : decode cX0_priceNext 33 = .ok (.iload_n 3, 1) := by decide +kernel
theorem dX0_priceNext_34 : decode cX0_priceNext 34 = .ok (.aload_n 1, 1) := by decide +kernel
theorem dX0_priceNext_35 : decode cX0_priceNext 35 = .ok (.iload_n 2, 1) := by decide +kernel
theorem dX0_priceNext_36 : decode cX0_priceNext 36 = .ok (.iload 4, 2) := by decide +kernel
theorem dX0_priceNext_38 : decode cX0_priceNext 38 = .ok (.invokevirtual 78, 3) := by decide +kernel
theorem dX0_priceNext_41 : decode cX0_priceNext 41 = .ok (.lastore, 1) := by decide +kernel
theorem dX0_priceNext_42 : decode cX0_priceNext 42 = .ok (.return_, 1) := by decide +kernel
theorem dX0_dearest_0 : decode cX0_dearest 0 = .ok (.iconst (-1), 1) := by decide +kernel
theorem dX0_dearest_1 : decode cX0_dearest 1 = .ok (.istore_n 1, 1) := by decide +kernel
theorem dX0_dearest_2 : decode cX0_dearest 2 = .ok (.iconst 0, 1) := by decide +kernel
theorem dX0_dearest_3 : decode cX0_dearest 3 = .ok (.istore_n 2, 1) := by decide +kernel
theorem dX0_dearest_4 : decode cX0_dearest 4 = .ok (.iload_n 2, 1) := by decide +kernel
theorem dX0_dearest_5 : decode cX0_dearest 5 = .ok (.bipush 6, 2) := by decide +kernel
theorem dX0_dearest_7 : decode cX0_dearest 7 = .ok (.if_icmp .ge 89, 3) := by decide +kernel
theorem dX0_dearest_10 : decode cX0_dearest 10 = .ok (.aload_n 0, 1) := by decide +kernel
theorem dX0_dearest_11 : decode cX0_dearest 11 = .ok (.getfield 53, 3) := by decide +kernel
theorem dX0_dearest_14 : decode cX0_dearest 14 = .ok (.iload_n 2, 1) := by decide +kernel
theorem dX0_dearest_15 : decode cX0_dearest 15 = .ok (.invokestatic 82, 3) := by decide +kernel
theorem dX0_dearest_18 : decode cX0_dearest 18 = .ok (.ifCond .ne 6, 3) := by decide +kernel
theorem dX0_dearest_21 : decode cX0_dearest 21 = .ok (.goto 69, 3) := by decide +kernel
theorem dX0_dearest_24 : decode cX0_dearest 24 = .ok (.iload_n 1, 1) := by decide +kernel
theorem dX0_dearest_25 : decode cX0_dearest 25 = .ok (.ifCond .ge 7, 3) := by decide +kernel
theorem dX0_dearest_28 : decode cX0_dearest 28 = .ok (.iconst 1, 1) := by decide +kernel
theorem dX0_dearest_29 : decode cX0_dearest 29 = .ok (.goto 30, 3) := by decide +kernel
theorem dX0_dearest_32 : decode cX0_dearest 32 = .ok (.aload_n 0, 1) := by decide +kernel
theorem dX0_dearest_33 : decode cX0_dearest 33 = .ok (.getfield 25, 3) := by decide +kernel
theorem dX0_dearest_36 : decode cX0_dearest 36 = .ok (.iload_n 2, 1) := by decide +kernel
theorem dX0_dearest_37 : decode cX0_dearest 37 = .ok (.laload, 1) := by decide +kernel
theorem dX0_dearest_38 : decode cX0_dearest 38 = .ok (.aload_n 0, 1) := by decide +kernel
theorem dX0_dearest_39 : decode cX0_dearest 39 = .ok (.getfield 28, 3) := by decide +kernel
theorem dX0_dearest_42 : decode cX0_dearest 42 = .ok (.iload_n 2, 1) := by decide +kernel
theorem dX0_dearest_43 : decode cX0_dearest 43 = .ok (.laload, 1) := by decide +kernel
theorem dX0_dearest_44 : decode cX0_dearest 44 = .ok (.aload_n 0, 1) := by decide +kernel
theorem dX0_dearest_45 : decode cX0_dearest 45 = .ok (.getfield 25, 3) := by decide +kernel
theorem dX0_dearest_48 : decode cX0_dearest 48 = .ok (.iload_n 1, 1) := by decide +kernel
theorem dX0_dearest_49 : decode cX0_dearest 49 = .ok (.laload, 1) := by decide +kernel
theorem dX0_dearest_50 : decode cX0_dearest 50 = .ok (.aload_n 0, 1) := by decide +kernel
theorem dX0_dearest_51 : decode cX0_dearest 51 = .ok (.getfield 28, 3) := by decide +kernel
theorem dX0_dearest_54 : decode cX0_dearest 54 = .ok (.iload_n 1, 1) := by decide +kernel
theorem dX0_dearest_55 : decode cX0_dearest 55 = .ok (.laload, 1) := by decide +kernel
theorem dX0_dearest_56 : decode cX0_dearest 56 = .ok (.invokestatic 86, 3) := by decide +kernel
theorem dX0_dearest_59 : decode cX0_dearest 59 = .ok (.istore_n 3, 1) := by decide +kernel
theorem dX0_dearest_60 : decode cX0_dearest 60 = .ok (.iload_n 3, 1) := by decide +kernel
theorem dX0_dearest_61 : decode cX0_dearest 61 = .ok (.ifCond .le 13, 3) := by decide +kernel
theorem dX0_dearest_64 : decode cX0_dearest 64 = .ok (.iload_n 2, 1) := by decide +kernel
theorem dX0_dearest_65 : decode cX0_dearest 65 = .ok (.istore_n 1, 1) := by decide +kernel
theorem dX0_dearest_66 : decode cX0_dearest 66 = .ok (.aload_n 0, 1) := by decide +kernel
theorem dX0_dearest_67 : decode cX0_dearest 67 = .ok (.iconst 0, 1) := by decide +kernel
theorem dX0_dearest_68 : decode cX0_dearest 68 = .ok (.putfield 50, 3) := by decide +kernel
theorem dX0_dearest_71 : decode cX0_dearest 71 = .ok (.goto 19, 3) := by decide +kernel
theorem dX0_dearest_74 : decode cX0_dearest 74 = .ok (.iload_n 3, 1) := by decide +kernel
theorem dX0_dearest_75 : decode cX0_dearest 75 = .ok (.ifCond .ne 15, 3) := by decide +kernel
theorem dX0_dearest_78 : decode cX0_dearest 78 = .ok (.aload_n 0, 1) := by decide +kernel
theorem dX0_dearest_79 : decode cX0_dearest 79 = .ok (.dup, 1) := by decide +kernel
theorem dX0_dearest_80 : decode cX0_dearest 80 = .ok (.getfield 50, 3) := by decide +kernel
theorem dX0_dearest_83 : decode cX0_dearest 83 = .ok (.iconst 1, 1) := by decide +kernel
theorem dX0_dearest_84 : decode cX0_dearest 84 = .ok (.iload_n 2, 1) := by decide +kernel
theorem dX0_dearest_85 : decode cX0_dearest 85 = .ok (.ishl, 1) := by decide +kernel
theorem dX0_dearest_86 : decode cX0_dearest 86 = .ok (.ior, 1) := by decide +kernel
theorem dX0_dearest_87 : decode cX0_dearest 87 = .ok (.putfield 50, 3) := by decide +kernel
theorem dX0_dearest_90 : decode cX0_dearest 90 = .ok (.iinc 2 1, 3) := by decide +kernel
theorem dX0_dearest_93 : decode cX0_dearest 93 = .ok (.goto (-89), 3) := by decide +kernel
theorem dX0_dearest_96 : decode cX0_dearest 96 = .ok (.iload_n 1, 1) := by decide +kernel
theorem dX0_dearest_97 : decode cX0_dearest 97 = .ok (.iconst 0, 1) := by decide +kernel
theorem dX0_dearest_98 : decode cX0_dearest 98 = .ok (.invokestatic 90, 3) := by decide +kernel
theorem dX0_dearest_101 : decode cX0_dearest 101 = .ok (.ireturn, 1) := by decide +kernel
theorem dX0_giveByRests_0 : decode cX0_giveByRests 0 = .ok (.lconst 0, 1) := by decide +kernel
theorem dX0_giveByRests_1 : decode cX0_giveByRests 1 = .ok (.lstore_n 2, 1) := by decide +kernel
theorem dX0_giveByRests_2 : decode cX0_giveByRests 2 = .ok (.iconst 0, 1) := by decide +kernel
theorem dX0_giveByRests_3 : decode cX0_giveByRests 3 = .ok (.istore 4, 2) := by decide +kernel
theorem dX0_giveByRests_5 : decode cX0_giveByRests 5 = .ok (.iload 4, 2) := by decide +kernel
theorem dX0_giveByRests_7 : decode cX0_giveByRests 7 = .ok (.bipush 6, 2) := by decide +kernel
theorem dX0_giveByRests_9 : decode cX0_giveByRests 9 = .ok (.if_icmp .ge 19, 3) := by decide +kernel
theorem dX0_giveByRests_12 : decode cX0_giveByRests 12 = .ok (.lload_n 2, 1) := by decide +kernel
theorem dX0_giveByRests_13 : decode cX0_giveByRests 13 = .ok (.aload_n 0, 1) := by decide +kernel
theorem dX0_giveByRests_14 : decode cX0_giveByRests 14 = .ok (.getfield 18, 3) := by decide +kernel
theorem dX0_giveByRests_17 : decode cX0_giveByRests 17 = .ok (.iload 4, 2) := by decide +kernel
theorem dX0_giveByRests_19 : decode cX0_giveByRests 19 = .ok (.laload, 1) := by decide +kernel
theorem dX0_giveByRests_20 : decode cX0_giveByRests 20 = .ok (.ladd, 1) := by decide +kernel
theorem dX0_giveByRests_21 : decode cX0_giveByRests 21 = .ok (.lstore_n 2, 1) := by decide +kernel
theorem dX0_giveByRests_22 : decode cX0_giveByRests 22 = .ok (.iinc 4 1, 3) := by decide +kernel
theorem dX0_giveByRests_25 : decode cX0_giveByRests 25 = .ok (.goto (-20), 3) := by decide +kernel
theorem dX0_giveByRests_28 : decode cX0_giveByRests 28 = .ok (.lload_n 2, 1) := by decide +kernel
theorem dX0_giveByRests_29 : decode cX0_giveByRests 29 = .ok (.lconst 0, 1) := by decide +kernel
theorem dX0_giveByRests_30 : decode cX0_giveByRests 30 = .ok (.lcmp, 1) := by decide +kernel
theorem dX0_giveByRests_31 : decode cX0_giveByRests 31 = .ok (.ifCond .gt 5, 3) := by decide +kernel
theorem dX0_giveByRests_34 : decode cX0_giveByRests 34 = .ok (.iconst 0, 1) := by decide +kernel
theorem dX0_giveByRests_35 : decode cX0_giveByRests 35 = .ok (.ireturn, 1) := by decide +kernel
theorem dX0_giveByRests_36 : decode cX0_giveByRests 36 = .ok (.iload_n 1, 1) := by decide +kernel
theorem dX0_giveByRests_37 : decode cX0_giveByRests 37 = .ok (.istore 4, 2) := by decide +kernel
theorem dX0_giveByRests_39 : decode cX0_giveByRests 39 = .ok (.iconst 0, 1) := by decide +kernel
theorem dX0_giveByRests_40 : decode cX0_giveByRests 40 = .ok (.istore 5, 2) := by decide +kernel
theorem dX0_giveByRests_42 : decode cX0_giveByRests 42 = .ok (.iconst 0, 1) := by decide +kernel
theorem dX0_giveByRests_43 : decode cX0_giveByRests 43 = .ok (.istore 6, 2) := by decide +kernel
theorem dX0_giveByRests_45 : decode cX0_giveByRests 45 = .ok (.iload 6, 2) := by decide +kernel
theorem dX0_giveByRests_47 : decode cX0_giveByRests 47 = .ok (.bipush 6, 2) := by decide +kernel
theorem dX0_giveByRests_49 : decode cX0_giveByRests 49 = .ok (.if_icmp .ge 108, 3) := by decide +kernel
theorem dX0_giveByRests_52 : decode cX0_giveByRests 52 = .ok (.aload_n 0, 1) := by decide +kernel
theorem dX0_giveByRests_53 : decode cX0_giveByRests 53 = .ok (.getfield 18, 3) := by decide +kernel
theorem dX0_giveByRests_56 : decode cX0_giveByRests 56 = .ok (.iload 6, 2) := by decide +kernel
theorem dX0_giveByRests_58 : decode cX0_giveByRests 58 = .ok (.laload, 1) := by decide +kernel
theorem dX0_giveByRests_59 : decode cX0_giveByRests 59 = .ok (.iload_n 1, 1) := by decide +kernel
theorem dX0_giveByRests_60 : decode cX0_giveByRests 60 = .ok (.i2l, 1) := by decide +kernel
theorem dX0_giveByRests_61 : decode cX0_giveByRests 61 = .ok (.lmul, 1) := by decide +kernel
theorem dX0_giveByRests_62 : decode cX0_giveByRests 62 = .ok (.lload_n 2, 1) := by decide +kernel
theorem dX0_giveByRests_63 : decode cX0_giveByRests 63 = .ok (.ldiv, 1) := by decide +kernel
theorem dX0_giveByRests_64 : decode cX0_giveByRests 64 = .ok (.l2i, 1) := by decide +kernel
theorem dX0_giveByRests_65 : decode cX0_giveByRests 65 = .ok (.istore 7, 2) := by decide +kernel
theorem dX0_giveByRests_67 : decode cX0_giveByRests 67 = .ok (.aload_n 0, 1) := by decide +kernel
theorem dX0_giveByRests_68 : decode cX0_giveByRests 68 = .ok (.getfield 31, 3) := by decide +kernel
theorem dX0_giveByRests_71 : decode cX0_giveByRests 71 = .ok (.iload 6, 2) := by decide +kernel
theorem dX0_giveByRests_73 : decode cX0_giveByRests 73 = .ok (.aload_n 0, 1) := by decide +kernel
theorem dX0_giveByRests_74 : decode cX0_giveByRests 74 = .ok (.getfield 18, 3) := by decide +kernel
theorem dX0_giveByRests_77 : decode cX0_giveByRests 77 = .ok (.iload 6, 2) := by decide +kernel
theorem dX0_giveByRests_79 : decode cX0_giveByRests 79 = .ok (.laload, 1) := by decide +kernel
theorem dX0_giveByRests_80 : decode cX0_giveByRests 80 = .ok (.iload_n 1, 1) := by decide +kernel
theorem dX0_giveByRests_81 : decode cX0_giveByRests 81 = .ok (.i2l, 1) := by decide +kernel
theorem dX0_giveByRests_82 : decode cX0_giveByRests 82 = .ok (.lmul, 1) := by decide +kernel
theorem dX0_giveByRests_83 : decode cX0_giveByRests 83 = .ok (.lload_n 2, 1) := by decide +kernel
theorem dX0_giveByRests_84 : decode cX0_giveByRests 84 = .ok (.lrem, 1) := by decide +kernel
theorem dX0_giveByRests_85 : decode cX0_giveByRests 85 = .ok (.lastore, 1) := by decide +kernel
theorem dX0_giveByRests_86 : decode cX0_giveByRests 86 = .ok (.aload_n 0, 1) := by decide +kernel
theorem dX0_giveByRests_87 : decode cX0_giveByRests 87 = .ok (.getfield 9, 3) := by decide +kernel
theorem dX0_giveByRests_90 : decode cX0_giveByRests 90 = .ok (.iload 6, 2) := by decide +kernel
theorem dX0_giveByRests_92 : decode cX0_giveByRests 92 = .ok (.aload_n 0, 1) := by decide +kernel
theorem dX0_giveByRests_93 : decode cX0_giveByRests 93 = .ok (.getfield 22, 3) := by decide +kernel
theorem dX0_giveByRests_96 : decode cX0_giveByRests 96 = .ok (.iload 6, 2) := by decide +kernel
theorem dX0_giveByRests_98 : decode cX0_giveByRests 98 = .ok (.iaload, 1) := by decide +kernel
theorem dX0_giveByRests_99 : decode cX0_giveByRests 99 = .ok (.iload 7, 2) := by decide +kernel
theorem dX0_giveByRests_101 : decode cX0_giveByRests 101 = .ok (.invokestatic 90, 3) := by decide +kernel
theorem dX0_giveByRests_104 : decode cX0_giveByRests 104 = .ok (.iastore, 1) := by decide +kernel
theorem dX0_giveByRests_105 : decode cX0_giveByRests 105 = .ok (.iload 4, 2) := by decide +kernel
theorem dX0_giveByRests_107 : decode cX0_giveByRests 107 = .ok (.aload_n 0, 1) := by decide +kernel
theorem dX0_giveByRests_108 : decode cX0_giveByRests 108 = .ok (.getfield 9, 3) := by decide +kernel
theorem dX0_giveByRests_111 : decode cX0_giveByRests 111 = .ok (.iload 6, 2) := by decide +kernel
theorem dX0_giveByRests_113 : decode cX0_giveByRests 113 = .ok (.iaload, 1) := by decide +kernel
theorem dX0_giveByRests_114 : decode cX0_giveByRests 114 = .ok (.isub, 1) := by decide +kernel
theorem dX0_giveByRests_115 : decode cX0_giveByRests 115 = .ok (.istore 4, 2) := by decide +kernel
theorem dX0_giveByRests_117 : decode cX0_giveByRests 117 = .ok (.aload_n 0, 1) := by decide +kernel
theorem dX0_giveByRests_118 : decode cX0_giveByRests 118 = .ok (.getfield 53, 3) := by decide +kernel
theorem dX0_giveByRests_121 : decode cX0_giveByRests 121 = .ok (.iload 6, 2) := by decide +kernel
theorem dX0_giveByRests_123 : decode cX0_giveByRests 123 = .ok (.invokestatic 82, 3) := by decide +kernel
theorem dX0_giveByRests_126 : decode cX0_giveByRests 126 = .ok (.ifCond .eq 25, 3) := by decide +kernel
theorem dX0_giveByRests_129 : decode cX0_giveByRests 129 = .ok (.aload_n 0, 1) := by decide +kernel
theorem dX0_giveByRests_130 : decode cX0_giveByRests 130 = .ok (.getfield 22, 3) := by decide +kernel
theorem dX0_giveByRests_133 : decode cX0_giveByRests 133 = .ok (.iload 6, 2) := by decide +kernel
theorem dX0_giveByRests_135 : decode cX0_giveByRests 135 = .ok (.iaload, 1) := by decide +kernel
theorem dX0_giveByRests_136 : decode cX0_giveByRests 136 = .ok (.iload 7, 2) := by decide +kernel
theorem dX0_giveByRests_138 : decode cX0_giveByRests 138 = .ok (.if_icmp .gt 13, 3) := by decide +kernel
theorem dX0_giveByRests_141 : decode cX0_giveByRests 141 = .ok (.aload_n 0, 1) := by decide +kernel
theorem dX0_giveByRests_142 : decode cX0_giveByRests 142 = .ok (.iload 6, 2) := by decide +kernel
theorem dX0_giveByRests_144 : decode cX0_giveByRests 144 = .ok (.iload 5, 2) := by decide +kernel
theorem dX0_giveByRests_146 : decode cX0_giveByRests 146 = .ok (.invokevirtual 96, 3) := by decide +kernel
theorem dX0_giveByRests_149 : decode cX0_giveByRests 149 = .ok (.istore 5, 2) := by decide +kernel
theorem dX0_giveByRests_151 : decode cX0_giveByRests 151 = .ok (.iinc 6 1, 3) := by decide +kernel
theorem dX0_giveByRests_154 : decode cX0_giveByRests 154 = .ok (.goto (-109), 3) := by decide +kernel
theorem dX0_giveByRests_157 : decode cX0_giveByRests 157 = .ok (.iload 4, 2) := by decide +kernel
theorem dX0_giveByRests_159 : decode cX0_giveByRests 159 = .ok (.ifCond .lt 13, 3) := by decide +kernel
theorem dX0_giveByRests_162 : decode cX0_giveByRests 162 = .ok (.iload 4, 2) := by decide +kernel
theorem dX0_giveByRests_164 : decode cX0_giveByRests 164 = .ok (.ifCond .le 10, 3) := by decide +kernel
theorem dX0_giveByRests_167 : decode cX0_giveByRests 167 = .ok (.iload 5, 2) := by decide +kernel
theorem dX0_giveByRests_169 : decode cX0_giveByRests 169 = .ok (.ifCond .ne 5, 3) := by decide +kernel
theorem dX0_giveByRests_172 : decode cX0_giveByRests 172 = .ok (.iconst 0, 1) := by decide +kernel
theorem dX0_giveByRests_173 : decode cX0_giveByRests 173 = .ok (.ireturn, 1) := by decide +kernel
theorem dX0_giveByRests_174 : decode cX0_giveByRests 174 = .ok (.iconst 0, 1) := by decide +kernel
theorem dX0_giveByRests_175 : decode cX0_giveByRests 175 = .ok (.istore 6, 2) := by decide +kernel
theorem dX0_giveByRests_177 : decode cX0_giveByRests 177 = .ok (.iload 6, 2) := by decide +kernel
theorem dX0_giveByRests_179 : decode cX0_giveByRests 179 = .ok (.iload 4, 2) := by decide +kernel
theorem dX0_giveByRests_181 : decode cX0_giveByRests 181 = .ok (.if_icmp .ge 28, 3) := by decide +kernel
theorem dX0_giveByRests_184 : decode cX0_giveByRests 184 = .ok (.aload_n 0, 1) := by decide +kernel
theorem dX0_giveByRests_185 : decode cX0_giveByRests 185 = .ok (.getfield 9, 3) := by decide +kernel
theorem dX0_giveByRests_188 : decode cX0_giveByRests 188 = .ok (.aload_n 0, 1) := by decide +kernel
theorem dX0_giveByRests_189 : decode cX0_giveByRests 189 = .ok (.getfield 34, 3) := by decide +kernel
theorem dX0_giveByRests_192 : decode cX0_giveByRests 192 = .ok (.iload 6, 2) := by decide +kernel
theorem dX0_giveByRests_194 : decode cX0_giveByRests 194 = .ok (.iload 5, 2) := by decide +kernel
theorem dX0_giveByRests_196 : decode cX0_giveByRests 196 = .ok (.irem, 1) := by decide +kernel
theorem dX0_giveByRests_197 : decode cX0_giveByRests 197 = .ok (.iaload, 1) := by decide +kernel
theorem dX0_giveByRests_198 : decode cX0_giveByRests 198 = .ok (.dup2, 1) := by decide +kernel
theorem dX0_giveByRests_199 : decode cX0_giveByRests 199 = .ok (.iaload, 1) := by decide +kernel
theorem dX0_giveByRests_200 : decode cX0_giveByRests 200 = .ok (.iconst 1, 1) := by decide +kernel
theorem dX0_giveByRests_201 : decode cX0_giveByRests 201 = .ok (.iadd, 1) := by decide +kernel
theorem dX0_giveByRests_202 : decode cX0_giveByRests 202 = .ok (.iastore, 1) := by decide +kernel
theorem dX0_giveByRests_203 : decode cX0_giveByRests 203 = .ok (.iinc 6 1, 3) := by decide +kernel
theorem dX0_giveByRests_206 : decode cX0_giveByRests 206 = .ok (.goto (-29), 3) := by decide +kernel
theorem dX0_giveByRests_209 : decode cX0_giveByRests 209 = .ok (.iconst 1, 1) := by decide +kernel
theorem dX0_giveByRests_210 : decode cX0_giveByRests 210 = .ok (.ireturn, 1) := by decide +kernel
theorem dX0_rank_0 : decode cX0_rank 0 = .ok (.iload_n 2, 1) := by decide +kernel
theorem dX0_rank_1 : decode cX0_rank 1 = .ok (.istore_n 3, 1) := by decide +kernel
theorem dX0_rank_2 : decode cX0_rank 2 = .ok (.iload_n 3, 1) := by decide +kernel
theorem dX0_rank_3 : decode cX0_rank 3 = .ok (.ifCond .le 46, 3) := by decide +kernel
theorem dX0_rank_6 : decode cX0_rank 6 = .ok (.aload_n 0, 1) := by decide +kernel
theorem dX0_rank_7 : decode cX0_rank 7 = .ok (.getfield 31, 3) := by decide +kernel
theorem dX0_rank_10 : decode cX0_rank 10 = .ok (.aload_n 0, 1) := by decide +kernel
theorem dX0_rank_11 : decode cX0_rank 11 = .ok (.getfield 34, 3) := by decide +kernel
theorem dX0_rank_14 : decode cX0_rank 14 = .ok (.iload_n 3, 1) := by decide +kernel
theorem dX0_rank_15 : decode cX0_rank 15 = .ok (.iconst 1, 1) := by decide +kernel
theorem dX0_rank_16 : decode cX0_rank 16 = .ok (.isub, 1) := by decide +kernel
theorem dX0_rank_17 : decode cX0_rank 17 = .ok (.iaload, 1) := by decide +kernel
theorem dX0_rank_18 : decode cX0_rank 18 = .ok (.laload, 1) := by decide +kernel
theorem dX0_rank_19 : decode cX0_rank 19 = .ok (.aload_n 0, 1) := by decide +kernel
theorem dX0_rank_20 : decode cX0_rank 20 = .ok (.getfield 31, 3) := by decide +kernel
theorem dX0_rank_23 : decode cX0_rank 23 = .ok (.iload_n 1, 1) := by decide +kernel
theorem dX0_rank_24 : decode cX0_rank 24 = .ok (.laload, 1) := by decide +kernel
theorem dX0_rank_25 : decode cX0_rank 25 = .ok (.lcmp, 1) := by decide +kernel
theorem dX0_rank_26 : decode cX0_rank 26 = .ok (.ifCond .ge 23, 3) := by decide +kernel
theorem dX0_rank_29 : decode cX0_rank 29 = .ok (.aload_n 0, 1) := by decide +kernel
theorem dX0_rank_30 : decode cX0_rank 30 = .ok (.getfield 34, 3) := by decide +kernel
theorem dX0_rank_33 : decode cX0_rank 33 = .ok (.iload_n 3, 1) := by decide +kernel
theorem dX0_rank_34 : decode cX0_rank 34 = .ok (.aload_n 0, 1) := by decide +kernel
theorem dX0_rank_35 : decode cX0_rank 35 = .ok (.getfield 34, 3) := by decide +kernel
theorem dX0_rank_38 : decode cX0_rank 38 = .ok (.iload_n 3, 1) := by decide +kernel
theorem dX0_rank_39 : decode cX0_rank 39 = .ok (.iconst 1, 1) := by decide +kernel
theorem dX0_rank_40 : decode cX0_rank 40 = .ok (.isub, 1) := by decide +kernel
theorem dX0_rank_41 : decode cX0_rank 41 = .ok (.iaload, 1) := by decide +kernel
theorem dX0_rank_42 : decode cX0_rank 42 = .ok (.iastore, 1) := by decide +kernel
theorem dX0_rank_43 : decode cX0_rank 43 = .ok (.iinc 3 (-1), 3) := by decide +kernel
theorem dX0_rank_46 : decode cX0_rank 46 = .ok (.goto (-44), 3) := by decide +kernel
theorem dX0_rank_49 : decode cX0_rank 49 = .ok (.aload_n 0, 1) := by decide +kernel
theorem dX0_rank_50 : decode cX0_rank 50 = .ok (.getfield 34, 3) := by decide +kernel
theorem dX0_rank_53 : decode cX0_rank 53 = .ok (.iload_n 3, 1) := by decide +kernel
theorem dX0_rank_54 : decode cX0_rank 54 = .ok (.iload_n 1, 1) := by decide +kernel
theorem dX0_rank_55 : decode cX0_rank 55 = .ok (.iastore, 1) := by decide +kernel
theorem dX0_rank_56 : decode cX0_rank 56 = .ok (.iload_n 2, 1) := by decide +kernel
theorem dX0_rank_57 : decode cX0_rank 57 = .ok (.iconst 1, 1) := by decide +kernel
theorem dX0_rank_58 : decode cX0_rank 58 = .ok (.iadd, 1) := by decide +kernel
theorem dX0_rank_59 : decode cX0_rank 59 = .ok (.ireturn, 1) := by decide +kernel
theorem dX0_edge_0 : decode cX0_edge 0 = .ok (.lconst 0, 1) := by decide +kernel
theorem dX0_edge_1 : decode cX0_edge 1 = .ok (.lstore 5, 2) := by decide +kernel
theorem dX0_edge_3 : decode cX0_edge 3 = .ok (.lconst 0, 1) := by decide +kernel
theorem dX0_edge_4 : decode cX0_edge 4 = .ok (.lstore 7, 2) := by decide +kernel
theorem dX0_edge_6 : decode cX0_edge 6 = .ok (.iconst 0, 1) := by decide +kernel
theorem dX0_edge_7 : decode cX0_edge 7 = .ok (.istore 9, 2) := by decide +kernel
theorem dX0_edge_9 : decode cX0_edge 9 = .ok (.iconst 0, 1) := by decide +kernel
theorem dX0_edge_10 : decode cX0_edge 10 = .ok (.istore 10, 2) := by decide +kernel
theorem dX0_edge_12 : decode cX0_edge 12 = .ok (.iload 10, 2) := by decide +kernel
theorem dX0_edge_14 : decode cX0_edge 14 = .ok (.bipush 6, 2) := by decide +kernel
theorem dX0_edge_16 : decode cX0_edge 16 = .ok (.if_icmp .ge 141, 3) := by decide +kernel
theorem dX0_edge_19 : decode cX0_edge 19 = .ok (.aload_n 0, 1) := by decide +kernel
theorem dX0_edge_20 : decode cX0_edge 20 = .ok (.getfield 53, 3) := by decide +kernel
theorem dX0_edge_23 : decode cX0_edge 23 = .ok (.iload 10, 2) := by decide +kernel
theorem dX0_edge_25 : decode cX0_edge 25 = .ok (.invokestatic 82, 3) := by decide +kernel
theorem dX0_edge_28 : decode cX0_edge 28 = .ok (.ifCond .eq 123, 3) := by decide +kernel
theorem dX0_edge_31 : decode cX0_edge 31 = .ok (.iload_n 3, 1) := by decide +kernel
theorem dX0_edge_32 : decode cX0_edge 32 = .ok (.ifCond .ne 23, 3) := by decide +kernel
theorem dX0_edge_35 : decode cX0_edge 35 = .ok (.aload_n 0, 1) := by decide +kernel
theorem dX0_edge_36 : decode cX0_edge 36 = .ok (.getfield 9, 3) := by decide +kernel
theorem dX0_edge_39 : decode cX0_edge 39 = .ok (.iload 10, 2) := by decide +kernel
theorem dX0_edge_41 : decode cX0_edge 41 = .ok (.iaload, 1) := by decide +kernel
theorem dX0_edge_42 : decode cX0_edge 42 = .ok (.aload_n 0, 1) := by decide +kernel
theorem dX0_edge_43 : decode cX0_edge 43 = .ok (.getfield 22, 3) := by decide +kernel
theorem dX0_edge_46 : decode cX0_edge 46 = .ok (.iload 10, 2) := by decide +kernel
theorem dX0_edge_48 : decode cX0_edge 48 = .ok (.iaload, 1) := by decide +kernel
theorem dX0_edge_49 : decode cX0_edge 49 = .ok (.if_icmp .gt 6, 3) := by decide +kernel
theorem dX0_edge_52 : decode cX0_edge 52 = .ok (.goto 99, 3) := by decide +kernel
theorem dX0_edge_55 : decode cX0_edge 55 = .ok (.iload_n 3, 1) := by decide +kernel
theorem dX0_edge_56 : decode cX0_edge 56 = .ok (.ifCond .eq 15, 3) := by decide +kernel
theorem dX0_edge_59 : decode cX0_edge 59 = .ok (.aload_n 0, 1) := by decide +kernel
theorem dX0_edge_60 : decode cX0_edge 60 = .ok (.getfield 9, 3) := by decide +kernel
theorem dX0_edge_63 : decode cX0_edge 63 = .ok (.iload 10, 2) := by decide +kernel
theorem dX0_edge_65 : decode cX0_edge 65 = .ok (.iaload, 1) := by decide +kernel
theorem dX0_edge_66 : decode cX0_edge 66 = .ok (.iconst 1, 1) := by decide +kernel
theorem dX0_edge_67 : decode cX0_edge 67 = .ok (.iadd, 1) := by decide +kernel
theorem dX0_edge_68 : decode cX0_edge 68 = .ok (.goto 10, 3) := by decide +kernel
theorem dX0_edge_71 : decode cX0_edge 71 = .ok (.aload_n 0, 1) := by decide +kernel
theorem dX0_edge_72 : decode cX0_edge 72 = .ok (.getfield 9, 3) := by decide +kernel
theorem dX0_edge_75 : decode cX0_edge 75 = .ok (.iload 10, 2) := by decide +kernel
theorem dX0_edge_77 : decode cX0_edge 77 = .ok (.iaload, 1) := by decide +kernel
theorem dX0_edge_78 : decode cX0_edge 78 = .ok (.istore 11, 2) := by decide +kernel
theorem dX0_edge_80 : decode cX0_edge 80 = .ok (.aload_n 1, 1) := by decide +kernel
theorem dX0_edge_81 : decode cX0_edge 81 = .ok (.iload_n 2, 1) := by decide +kernel
theorem dX0_edge_82 : decode cX0_edge 82 = .ok (.aload_n 0, 1) := by decide +kernel
theorem dX0_edge_83 : decode cX0_edge 83 = .ok (.getfield 18, 3) := by decide +kernel
theorem dX0_edge_86 : decode cX0_edge 86 = .ok (.iload 10, 2) := by decide +kernel
theorem dX0_edge_88 : decode cX0_edge 88 = .ok (.laload, 1) := by decide +kernel
theorem dX0_edge_89 : decode cX0_edge 89 = .ok (.iload 11, 2) := by decide +kernel
theorem dX0_edge_91 : decode cX0_edge 91 = .ok (.invokevirtual 72, 3) := by decide +kernel
theorem dX0_edge_94 : decode cX0_edge 94 = .ok (.lstore 12, 2) := by decide +kernel
theorem dX0_edge_96 : decode cX0_edge 96 = .ok (.aload_n 1, 1) := by decide +kernel
theorem dX0_edge_97 : decode cX0_edge 97 = .ok (.iload_n 2, 1) := by decide +kernel
theorem dX0_edge_98 : decode cX0_edge 98 = .ok (.iload 11, 2) := by decide +kernel
theorem dX0_edge_100 : decode cX0_edge 100 = .ok (.invokevirtual 78, 3) := by decide +kernel
theorem dX0_edge_103 : decode cX0_edge 103 = .ok (.lstore 14, 2) := by decide +kernel
theorem dX0_edge_105 : decode cX0_edge 105 = .ok (.lload 12, 2) := by decide +kernel
theorem dX0_edge_107 : decode cX0_edge 107 = .ok (.lload 14, 2) := by decide +kernel
theorem dX0_edge_109 : decode cX0_edge 109 = .ok (.lload 5, 2) := by decide +kernel
theorem dX0_edge_111 : decode cX0_edge 111 = .ok (.lload 7, 2) := by decide +kernel
theorem dX0_edge_113 : decode cX0_edge 113 = .ok (.invokestatic 86, 3) := by decide +kernel
theorem dX0_edge_116 : decode cX0_edge 116 = .ok (.istore 16, 2) := by decide +kernel
theorem dX0_edge_118 : decode cX0_edge 118 = .ok (.iload 9, 2) := by decide +kernel
theorem dX0_edge_120 : decode cX0_edge 120 = .ok (.ifCond .eq 20, 3) := by decide +kernel
theorem dX0_edge_123 : decode cX0_edge 123 = .ok (.iload_n 3, 1) := by decide +kernel
theorem dX0_edge_124 : decode cX0_edge 124 = .ok (.ifCond .eq 11, 3) := by decide +kernel
theorem dX0_edge_127 : decode cX0_edge 127 = .ok (.iload 16, 2) := by decide +kernel
theorem dX0_edge_129 : decode cX0_edge 129 = .ok (.ifCond .le 22, 3) := by decide +kernel
theorem dX0_edge_132 : decode cX0_edge 132 = .ok (.goto 8, 3) := by decide +kernel
theorem dX0_edge_135 : decode cX0_edge 135 = .ok (.iload 16, 2) := by decide +kernel
theorem dX0_edge_137 : decode cX0_edge 137 = .ok (.ifCond .ge 14, 3) := by decide +kernel
theorem dX0_edge_140 : decode cX0_edge 140 = .ok (.lload 12, 2) := by decide +kernel
theorem dX0_edge_142 : decode cX0_edge 142 = .ok (.lstore 5, 2) := by decide +kernel
theorem dX0_edge_144 : decode cX0_edge 144 = .ok (.lload 14, 2) := by decide +kernel
theorem dX0_edge_146 : decode cX0_edge 146 = .ok (.lstore 7, 2) := by decide +kernel
theorem dX0_edge_148 : decode cX0_edge 148 = .ok (.iconst 1, 1) := by decide +kernel
theorem dX0_edge_149 : decode cX0_edge 149 = .ok (.istore 9, 2) := by decide +kernel
theorem dX0_edge_151 : decode cX0_edge 151 = .ok (.iinc 10 1, 3) := by decide +kernel
theorem dX0_edge_154 : decode cX0_edge 154 = .ok (.goto (-142), 3) := by decide +kernel
theorem dX0_edge_157 : decode cX0_edge 157 = .ok (.iload 9, 2) := by decide +kernel
theorem dX0_edge_159 : decode cX0_edge 159 = .ok (.ifCond .eq 15, 3) := by decide +kernel
theorem dX0_edge_162 : decode cX0_edge 162 = .ok (.lload 5, 2) := by decide +kernel
theorem dX0_edge_164 : decode cX0_edge 164 = .ok (.lload 7, 2) := by decide +kernel
theorem dX0_edge_166 : decode cX0_edge 166 = .ok (.iload 4, 2) := by decide +kernel
theorem dX0_edge_168 : decode cX0_edge 168 = .ok (.invokestatic 99, 3) := by decide +kernel
theorem dX0_edge_171 : decode cX0_edge 171 = .ok (.goto 6, 3) := by decide +kernel
theorem dX0_edge_174 : decode cX0_edge 174 = .ok (.ldc2_w 103, 3) := by decide +kernel
theorem dX0_edge_177 : decode cX0_edge 177 = .ok (.lreturn, 1) := by decide +kernel
theorem dX1_init_0 : decode cX1_init 0 = .ok (.aload_n 0, 1) := by decide +kernel
theorem dX1_init_1 : decode cX1_init 1 = .ok (.invokespecial 3, 3) := by decide +kernel
theorem dX1_init_4 : decode cX1_init 4 = .ok (.aload_n 0, 1) := by decide +kernel
theorem dX1_init_5 : decode cX1_init 5 = .ok (.new 9, 3) := by decide +kernel
theorem dX1_init_8 : decode cX1_init 8 = .ok (.dup, 1) := by decide +kernel
theorem dX1_init_9 : decode cX1_init 9 = .ok (.invokespecial 11, 3) := by decide +kernel
theorem dX1_init_12 : decode cX1_init 12 = .ok (.putfield 12, 3) := by decide +kernel
theorem dX1_init_15 : decode cX1_init 15 = .ok (.aload_n 0, 1) := by decide +kernel
theorem dX1_init_16 : decode cX1_init 16 = .ok (.bipush 6, 2) := by decide +kernel
theorem dX1_init_18 : decode cX1_init 18 = .ok (.newarray .int, 2) := by decide +kernel
theorem dX1_init_20 : decode cX1_init 20 = .ok (.putfield 18, 3) := by decide +kernel
theorem dX1_init_23 : decode cX1_init 23 = .ok (.aload_n 0, 1) := by decide +kernel
theorem dX1_init_24 : decode cX1_init 24 = .ok (.new 9, 3) := by decide +kernel
theorem dX1_init_27 : decode cX1_init 27 = .ok (.dup, 1) := by decide +kernel
theorem dX1_init_28 : decode cX1_init 28 = .ok (.invokespecial 11, 3) := by decide +kernel
theorem dX1_init_31 : decode cX1_init 31 = .ok (.putfield 22, 3) := by decide +kernel
theorem dX1_init_34 : decode cX1_init 34 = .ok (.return_, 1) := by decide +kernel
theorem dX1_fill_0 : decode cX1_fill 0 = .ok (.aload_n 0, 1) := by decide +kernel
theorem dX1_fill_1 : decode cX1_fill 1 = .ok (.getfield 18, 3) := by decide +kernel
theorem dX1_fill_4 : decode cX1_fill 4 = .ok (.iconst 0, 1) := by decide +kernel
theorem dX1_fill_5 : decode cX1_fill 5 = .ok (.invokestatic 25, 3) := by decide +kernel
theorem dX1_fill_8 : decode cX1_fill 8 = .ok (.aload_n 0, 1) := by decide +kernel
theorem dX1_fill_9 : decode cX1_fill 9 = .ok (.aload_n 1, 1) := by decide +kernel
theorem dX1_fill_10 : decode cX1_fill 10 = .ok (.invokevirtual 31, 3) := by decide +kernel
theorem dX1_fill_13 : decode cX1_fill 13 = .ok (.putfield 37, 3) := by decide +kernel
theorem dX1_fill_16 : decode cX1_fill 16 = .ok (.aload_n 0, 1) := by decide +kernel
theorem dX1_fill_17 : decode cX1_fill 17 = .ok (.aload_n 1, 1) := by decide +kernel
theorem dX1_fill_18 : decode cX1_fill 18 = .ok (.invokevirtual 41, 3) := by decide +kernel
theorem dX1_fill_21 : decode cX1_fill 21 = .ok (.aload_n 0, 1) := by decide +kernel
theorem dX1_fill_22 : decode cX1_fill 22 = .ok (.getfield 12, 3) := by decide +kernel
theorem dX1_fill_25 : decode cX1_fill 25 = .ok (.aload_n 1, 1) := by decide +kernel
theorem dX1_fill_26 : decode cX1_fill 26 = .ok (.iload_n 2, 1) := by decide +kernel
theorem dX1_fill_27 : decode cX1_fill 27 = .ok (.iload_n 3, 1) := by decide +kernel
theorem dX1_fill_28 : decode cX1_fill 28 = .ok (.invokevirtual 45, 3) := by decide +kernel
theorem dX1_fill_31 : decode cX1_fill 31 = .ok (.ifCond .ne 5, 3) := by decide +kernel
theorem dX1_fill_34 : decode cX1_fill 34 = .ok (.iconst 0, 1) := by decide +kernel
theorem dX1_fill_35 : decode cX1_fill 35 = .ok (.ireturn, 1) := by decide +kernel
theorem dX1_fill_36 : decode cX1_fill 36 = .ok (.iconst 0, 1) := by decide +kernel
theorem dX1_fill_37 : decode cX1_fill 37 = .ok (.istore 4, 2) := by decide +kernel
theorem dX1_fill_39 : decode cX1_fill 39 = .ok (.iload 4, 2) := by decide +kernel
theorem dX1_fill_41 : decode cX1_fill 41 = .ok (.bipush 6, 2) := by decide +kernel
theorem dX1_fill_43 : decode cX1_fill 43 = .ok (.if_icmp .ge 76, 3) := by decide +kernel
theorem dX1_fill_46 : decode cX1_fill 46 = .ok (.aload_n 0, 1) := by decide +kernel
theorem dX1_fill_47 : decode cX1_fill 47 = .ok (.aload_n 1, 1) := by decide +kernel
theorem dX1_fill_48 : decode cX1_fill 48 = .ok (.iload 4, 2) := by decide +kernel
theorem dX1_fill_50 : decode cX1_fill 50 = .ok (.invokevirtual 49, 3) := by decide +kernel
theorem dX1_fill_53 : decode cX1_fill 53 = .ok (.aload_n 0, 1) := by decide +kernel
theorem dX1_fill_54 : decode cX1_fill 54 = .ok (.getfield 22, 3) := by decide +kernel
theorem dX1_fill_57 : decode cX1_fill 57 = .ok (.aload_n 1, 1) := by decide +kernel
theorem dX1_fill_58 : decode cX1_fill 58 = .ok (.iload_n 2, 1) := by decide +kernel
theorem dX1_fill_59 : decode cX1_fill 59 = .ok (.aload_n 0, 1) := by decide +kernel
theorem dX1_fill_60 : decode cX1_fill 60 = .ok (.getfield 12, 3) := by decide +kernel
theorem dX1_fill_63 : decode cX1_fill 63 = .ok (.getfield 53, 3) := by decide +kernel
theorem dX1_fill_66 : decode cX1_fill 66 = .ok (.iload 4, 2) := by decide +kernel
theorem dX1_fill_68 : decode cX1_fill 68 = .ok (.iaload, 1) := by decide +kernel
theorem dX1_fill_69 : decode cX1_fill 69 = .ok (.invokevirtual 45, 3) := by decide +kernel
theorem dX1_fill_72 : decode cX1_fill 72 = .ok (.ifCond .ne 5, 3) := by decide +kernel
theorem dX1_fill_75 : decode cX1_fill 75 = .ok (.iconst 0, 1) := by decide +kernel
theorem dX1_fill_76 : decode cX1_fill 76 = .ok (.ireturn, 1) := by decide +kernel
theorem dX1_fill_77 : decode cX1_fill 77 = .ok (.iconst 0, 1) := by decide +kernel
theorem dX1_fill_78 : decode cX1_fill 78 = .ok (.istore 5, 2) := by decide +kernel
theorem dX1_fill_80 : decode cX1_fill 80 = .ok (.iload 5, 2) := by decide +kernel
theorem dX1_fill_82 : decode cX1_fill 82 = .ok (.bipush 6, 2) := by decide +kernel
theorem dX1_fill_84 : decode cX1_fill 84 = .ok (.if_icmp .ge 29, 3) := by decide +kernel
theorem dX1_fill_87 : decode cX1_fill 87 = .ok (.aload_n 0, 1) := by decide +kernel
theorem dX1_fill_88 : decode cX1_fill 88 = .ok (.getfield 18, 3) := by decide +kernel
theorem dX1_fill_91 : decode cX1_fill 91 = .ok (.iload 5, 2) := by decide +kernel
theorem dX1_fill_93 : decode cX1_fill 93 = .ok (.dup2, 1) := by decide +kernel
theorem dX1_fill_94 : decode cX1_fill 94 = .ok (.iaload, 1) := by decide +kernel
theorem dX1_fill_95 : decode cX1_fill 95 = .ok (.aload_n 0, 1) := by decide +kernel
theorem dX1_fill_96 : decode cX1_fill 96 = .ok (.getfield 22, 3) := by decide +kernel
theorem dX1_fill_99 : decode cX1_fill 99 = .ok (.getfield 53, 3) := by decide +kernel
theorem dX1_fill_102 : decode cX1_fill 102 = .ok (.iload 5, 2) := by decide +kernel
theorem dX1_fill_104 : decode cX1_fill 104 = .ok (.iaload, 1) := by decide +kernel
theorem dX1_fill_105 : decode cX1_fill 105 = .ok (.iadd, 1) := by decide +kernel
theorem dX1_fill_106 : decode cX1_fill 106 = .ok (.iastore, 1) := by decide +kernel
theorem dX1_fill_107 : decode cX1_fill 107 = .ok (.iinc 5 1, 3) := by decide +kernel
theorem dX1_fill_110 : decode cX1_fill 110 = .ok (.goto (-30), 3) := by decide +kernel
theorem dX1_fill_113 : decode cX1_fill 113 = .ok (.iinc 4 1, 3) := by decide +kernel
theorem dX1_fill_116 : decode cX1_fill 116 = .ok (.goto (-77), 3) := by decide +kernel
theorem dX1_fill_119 : decode cX1_fill 119 = .ok (.iconst 1, 1) := by decide +kernel
theorem dX1_fill_120 : decode cX1_fill 120 = .ok (.ireturn, 1) := by decide +kernel
theorem dX1_enterLists_0 : decode cX1_enterLists 0 = .ok (.aload_n 0, 1) := by decide +kernel
theorem dX1_enterLists_1 : decode cX1_enterLists 1 = .ok (.getfield 12, 3) := by decide +kernel
theorem dX1_enterLists_4 : decode cX1_enterLists 4 = .ok (.invokevirtual 56, 3) := by decide +kernel
theorem dX1_enterLists_7 : decode cX1_enterLists 7 = .ok (.iconst 0, 1) := by decide +kernel
theorem dX1_enterLists_8 : decode cX1_enterLists 8 = .ok (.istore_n 2, 1) := by decide +kernel
theorem dX1_enterLists_9 : decode cX1_enterLists 9 = .ok (.iload_n 2, 1) := by decide +kernel
theorem dX1_enterLists_10 : decode cX1_enterLists 10 = .ok (.bipush 6, 2) := by decide +kernel
theorem dX1_enterLists_12 : decode cX1_enterLists 12 = .ok (.if_icmp .ge 44, 3) := by decide +kernel
theorem dX1_enterLists_15 : decode cX1_enterLists 15 = .ok (.aload_n 0, 1) := by decide +kernel
theorem dX1_enterLists_16 : decode cX1_enterLists 16 = .ok (.getfield 37, 3) := by decide +kernel
theorem dX1_enterLists_19 : decode cX1_enterLists 19 = .ok (.iload_n 2, 1) := by decide +kernel
theorem dX1_enterLists_20 : decode cX1_enterLists 20 = .ok (.invokestatic 59, 3) := by decide +kernel
theorem dX1_enterLists_23 : decode cX1_enterLists 23 = .ok (.ifCond .eq 27, 3) := by decide +kernel
theorem dX1_enterLists_26 : decode cX1_enterLists 26 = .ok (.aload_n 0, 1) := by decide +kernel
theorem dX1_enterLists_27 : decode cX1_enterLists 27 = .ok (.getfield 12, 3) := by decide +kernel
theorem dX1_enterLists_30 : decode cX1_enterLists 30 = .ok (.aload_n 1, 1) := by decide +kernel
theorem dX1_enterLists_31 : decode cX1_enterLists 31 = .ok (.getfield 63, 3) := by decide +kernel
theorem dX1_enterLists_34 : decode cX1_enterLists 34 = .ok (.iload_n 2, 1) := by decide +kernel
theorem dX1_enterLists_35 : decode cX1_enterLists 35 = .ok (.iaload, 1) := by decide +kernel
theorem dX1_enterLists_36 : decode cX1_enterLists 36 = .ok (.aload_n 1, 1) := by decide +kernel
theorem dX1_enterLists_37 : decode cX1_enterLists 37 = .ok (.iload_n 2, 1) := by decide +kernel
theorem dX1_enterLists_38 : decode cX1_enterLists 38 = .ok (.invokevirtual 66, 3) := by decide +kernel
theorem dX1_enterLists_41 : decode cX1_enterLists 41 = .ok (.aload_n 1, 1) := by decide +kernel
theorem dX1_enterLists_42 : decode cX1_enterLists 42 = .ok (.getfield 70, 3) := by decide +kernel
theorem dX1_enterLists_45 : decode cX1_enterLists 45 = .ok (.iload_n 2, 1) := by decide +kernel
theorem dX1_enterLists_46 : decode cX1_enterLists 46 = .ok (.iaload, 1) := by decide +kernel
theorem dX1_enterLists_47 : decode cX1_enterLists 47 = .ok (.invokevirtual 73, 3) := by decide +kernel
theorem dX1_enterLists_50 : decode cX1_enterLists 50 = .ok (.iinc 2 1, 3) := by decide +kernel
theorem dX1_enterLists_53 : decode cX1_enterLists 53 = .ok (.goto (-44), 3) := by decide +kernel
theorem dX1_enterLists_56 : decode cX1_enterLists 56 = .ok (.return_, 1) := by decide +kernel
theorem dX1_enterMembers_0 : decode cX1_enterMembers 0 = .ok (.aload_n 0, 1) := by decide +kernel
theorem dX1_enterMembers_1 : decode cX1_enterMembers 1 = .ok (.getfield 22, 3) := by decide +kernel
theorem dX1_enterMembers_4 : decode cX1_enterMembers 4 = .ok (.invokevirtual 56, 3) := by decide +kernel
theorem dX1_enterMembers_7 : decode cX1_enterMembers 7 = .ok (.iconst 0, 1) := by decide +kernel
theorem dX1_enterMembers_8 : decode cX1_enterMembers 8 = .ok (.istore_n 3, 1) := by decide +kernel
theorem dX1_enterMembers_9 : decode cX1_enterMembers 9 = .ok (.iload_n 3, 1) := by decide +kernel
theorem dX1_enterMembers_10 : decode cX1_enterMembers 10 = .ok (.bipush 6, 2) := by decide +kernel
theorem dX1_enterMembers_12 : decode cX1_enterMembers 12 = .ok (.if_icmp .ge 49, 3) := by decide +kernel
theorem dX1_enterMembers_15 : decode cX1_enterMembers 15 = .ok (.aload_n 0, 1) := by decide +kernel
theorem dX1_enterMembers_16 : decode cX1_enterMembers 16 = .ok (.getfield 37, 3) := by decide +kernel
theorem dX1_enterMembers_19 : decode cX1_enterMembers 19 = .ok (.iload_n 3, 1) := by decide +kernel
theorem dX1_enterMembers_20 : decode cX1_enterMembers 20 = .ok (.invokestatic 59, 3) := by decide +kernel
theorem dX1_enterMembers_23 : decode cX1_enterMembers 23 = .ok (.ifCond .eq 32, 3) := by decide +kernel
theorem dX1_enterMembers_26 : decode cX1_enterMembers 26 = .ok (.aload_n 1, 1) := by decide +kernel
theorem dX1_enterMembers_27 : decode cX1_enterMembers 27 = .ok (.getfield 63, 3) := by decide +kernel
theorem dX1_enterMembers_30 : decode cX1_enterMembers 30 = .ok (.iload_n 3, 1) := by decide +kernel
theorem dX1_enterMembers_31 : decode cX1_enterMembers 31 = .ok (.iaload, 1) := by decide +kernel
theorem dX1_enterMembers_32 : decode cX1_enterMembers 32 = .ok (.iload_n 2, 1) := by decide +kernel
theorem dX1_enterMembers_33 : decode cX1_enterMembers 33 = .ok (.if_icmp .ne 22, 3) := by decide +kernel
theorem dX1_enterMembers_36 : decode cX1_enterMembers 36 = .ok (.aload_n 0, 1) := by decide +kernel
theorem dX1_enterMembers_37 : decode cX1_enterMembers 37 = .ok (.getfield 22, 3) := by decide +kernel
theorem dX1_enterMembers_40 : decode cX1_enterMembers 40 = .ok (.iload_n 3, 1) := by decide +kernel
theorem dX1_enterMembers_41 : decode cX1_enterMembers 41 = .ok (.aload_n 1, 1) := by decide +kernel
theorem dX1_enterMembers_42 : decode cX1_enterMembers 42 = .ok (.iload_n 3, 1) := by decide +kernel
theorem dX1_enterMembers_43 : decode cX1_enterMembers 43 = .ok (.invokevirtual 66, 3) := by decide +kernel
theorem dX1_enterMembers_46 : decode cX1_enterMembers 46 = .ok (.aload_n 1, 1) := by decide +kernel
theorem dX1_enterMembers_47 : decode cX1_enterMembers 47 = .ok (.getfield 70, 3) := by decide +kernel
theorem dX1_enterMembers_50 : decode cX1_enterMembers 50 = .ok (.iload_n 3, 1) := by decide +kernel
theorem dX1_enterMembers_51 : decode cX1_enterMembers 51 = .ok (.iaload, 1) := by decide +kernel
theorem dX1_enterMembers_52 : decode cX1_enterMembers 52 = .ok (.invokevirtual 73, 3) := by decide +kernel
theorem dX1_enterMembers_55 : decode cX1_enterMembers 55 = .ok (.iinc 3 1, 3) := by decide +kernel
theorem dX1_enterMembers_58 : decode cX1_enterMembers 58 = .ok (.goto (-49), 3) := by decide +kernel
theorem dX1_enterMembers_61 : decode cX1_enterMembers 61 = .ok (.return_, 1) := by decide +kernel
theorem dX1_awayFrom_0 : decode cX1_awayFrom 0 = .ok (.iconst 0, 1) := by decide +kernel
theorem dX1_awayFrom_1 : decode cX1_awayFrom 1 = .ok (.istore_n 2, 1) := by decide +kernel
theorem dX1_awayFrom_2 : decode cX1_awayFrom 2 = .ok (.iconst 0, 1) := by decide +kernel
theorem dX1_awayFrom_3 : decode cX1_awayFrom 3 = .ok (.istore_n 3, 1) := by decide +kernel
theorem dX1_awayFrom_4 : decode cX1_awayFrom 4 = .ok (.iload_n 3, 1) := by decide +kernel
theorem dX1_awayFrom_5 : decode cX1_awayFrom 5 = .ok (.bipush 6, 2) := by decide +kernel
theorem dX1_awayFrom_7 : decode cX1_awayFrom 7 = .ok (.if_icmp .ge 28, 3) := by decide +kernel
theorem dX1_awayFrom_10 : decode cX1_awayFrom 10 = .ok (.iload_n 2, 1) := by decide +kernel
theorem dX1_awayFrom_11 : decode cX1_awayFrom 11 = .ok (.aload_n 0, 1) := by decide +kernel
theorem dX1_awayFrom_12 : decode cX1_awayFrom 12 = .ok (.getfield 18, 3) := by decide +kernel
theorem dX1_awayFrom_15 : decode cX1_awayFrom 15 = .ok (.iload_n 3, 1) := by decide +kernel
theorem dX1_awayFrom_16 : decode cX1_awayFrom 16 = .ok (.iaload, 1) := by decide +kernel
theorem dX1_awayFrom_17 : decode cX1_awayFrom 17 = .ok (.aload_n 1, 1) := by decide +kernel
theorem dX1_awayFrom_18 : decode cX1_awayFrom 18 = .ok (.getfield 18, 3) := by decide +kernel
theorem dX1_awayFrom_21 : decode cX1_awayFrom 21 = .ok (.iload_n 3, 1) := by decide +kernel
theorem dX1_awayFrom_22 : decode cX1_awayFrom 22 = .ok (.iaload, 1) := by decide +kernel
theorem dX1_awayFrom_23 : decode cX1_awayFrom 23 = .ok (.isub, 1) := by decide +kernel
theorem dX1_awayFrom_24 : decode cX1_awayFrom 24 = .ok (.invokestatic 77, 3) := by decide +kernel
theorem dX1_awayFrom_27 : decode cX1_awayFrom 27 = .ok (.iadd, 1) := by decide +kernel
theorem dX1_awayFrom_28 : decode cX1_awayFrom 28 = .ok (.istore_n 2, 1) := by decide +kernel
theorem dX1_awayFrom_29 : decode cX1_awayFrom 29 = .ok (.iinc 3 1, 3) := by decide +kernel
theorem dX1_awayFrom_32 : decode cX1_awayFrom 32 = .ok (.goto (-28), 3) := by decide +kernel
theorem dX1_awayFrom_35 : decode cX1_awayFrom 35 = .ok (.iload_n 2, 1) := by decide +kernel
theorem dX1_awayFrom_36 : decode cX1_awayFrom 36 = .ok (.ireturn, 1) := by decide +kernel
theorem dX1_leastBelow_0 : decode cX1_leastBelow 0 = .ok (.iconst 0, 1) := by decide +kernel
theorem dX1_leastBelow_1 : decode cX1_leastBelow 1 = .ok (.istore_n 2, 1) := by decide +kernel
theorem dX1_leastBelow_2 : decode cX1_leastBelow 2 = .ok (.iload_n 2, 1) := by decide +kernel
theorem dX1_leastBelow_3 : decode cX1_leastBelow 3 = .ok (.bipush 6, 2) := by decide +kernel
theorem dX1_leastBelow_5 : decode cX1_leastBelow 5 = .ok (.if_icmp .ge 26, 3) := by decide +kernel
theorem dX1_leastBelow_8 : decode cX1_leastBelow 8 = .ok (.aload_n 0, 1) := by decide +kernel
theorem dX1_leastBelow_9 : decode cX1_leastBelow 9 = .ok (.getfield 18, 3) := by decide +kernel
theorem dX1_leastBelow_12 : decode cX1_leastBelow 12 = .ok (.iload_n 2, 1) := by decide +kernel
theorem dX1_leastBelow_13 : decode cX1_leastBelow 13 = .ok (.iaload, 1) := by decide +kernel
theorem dX1_leastBelow_14 : decode cX1_leastBelow 14 = .ok (.aload_n 1, 1) := by decide +kernel
theorem dX1_leastBelow_15 : decode cX1_leastBelow 15 = .ok (.getfield 18, 3) := by decide +kernel
theorem dX1_leastBelow_18 : decode cX1_leastBelow 18 = .ok (.iload_n 2, 1) := by decide +kernel
theorem dX1_leastBelow_19 : decode cX1_leastBelow 19 = .ok (.iaload, 1) := by decide +kernel
theorem dX1_leastBelow_20 : decode cX1_leastBelow 20 = .ok (.if_icmp .ge 5, 3) := by decide +kernel
theorem dX1_leastBelow_23 : decode cX1_leastBelow 23 = .ok (.iload_n 2, 1) := by decide +kernel
theorem dX1_leastBelow_24 : decode cX1_leastBelow 24 = .ok (.ireturn, 1) := by decide +kernel
theorem dX1_leastBelow_25 : decode cX1_leastBelow 25 = .ok (.iinc 2 1, 3) := by decide +kernel
theorem dX1_leastBelow_28 : decode cX1_leastBelow 28 = .ok (.goto (-26), 3) := by decide +kernel
theorem dX1_leastBelow_31 : decode cX1_leastBelow 31 = .ok (.iconst (-1), 1) := by decide +kernel
theorem dX1_leastBelow_32 : decode cX1_leastBelow 32 = .ok (.ireturn, 1) := by decide +kernel
theorem dX1_outsideQuota_0 : decode cX1_outsideQuota 0 = .ok (.lconst 0, 1) := by decide +kernel
theorem dX1_outsideQuota_1 : decode cX1_outsideQuota 1 = .ok (.lstore_n 3, 1) := by decide +kernel
theorem dX1_outsideQuota_2 : decode cX1_outsideQuota 2 = .ok (.iconst 0, 1) := by decide +kernel
theorem dX1_outsideQuota_3 : decode cX1_outsideQuota 3 = .ok (.istore 5, 2) := by decide +kernel
theorem dX1_outsideQuota_5 : decode cX1_outsideQuota 5 = .ok (.iload 5, 2) := by decide +kernel
theorem dX1_outsideQuota_7 : decode cX1_outsideQuota 7 = .ok (.bipush 6, 2) := by decide +kernel
theorem dX1_outsideQuota_9 : decode cX1_outsideQuota 9 = .ok (.if_icmp .ge 31, 3) := by decide +kernel
theorem dX1_outsideQuota_12 : decode cX1_outsideQuota 12 = .ok (.aload_n 0, 1) := by decide +kernel
theorem dX1_outsideQuota_13 : decode cX1_outsideQuota 13 = .ok (.getfield 37, 3) := by decide +kernel
theorem dX1_outsideQuota_16 : decode cX1_outsideQuota 16 = .ok (.iload 5, 2) := by decide +kernel
theorem dX1_outsideQuota_18 : decode cX1_outsideQuota 18 = .ok (.invokestatic 59, 3) := by decide +kernel
theorem dX1_outsideQuota_21 : decode cX1_outsideQuota 21 = .ok (.ifCond .eq 13, 3) := by decide +kernel
theorem dX1_outsideQuota_24 : decode cX1_outsideQuota 24 = .ok (.lload_n 3, 1) := by decide +kernel
theorem dX1_outsideQuota_25 : decode cX1_outsideQuota 25 = .ok (.aload_n 1, 1) := by decide +kernel
theorem dX1_outsideQuota_26 : decode cX1_outsideQuota 26 = .ok (.iload 5, 2) := by decide +kernel
theorem dX1_outsideQuota_28 : decode cX1_outsideQuota 28 = .ok (.invokevirtual 66, 3) := by decide +kernel
theorem dX1_outsideQuota_31 : decode cX1_outsideQuota 31 = .ok (.i2l, 1) := by decide +kernel
theorem dX1_outsideQuota_32 : decode cX1_outsideQuota 32 = .ok (.ladd, 1) := by decide +kernel
theorem dX1_outsideQuota_33 : decode cX1_outsideQuota 33 = .ok (.lstore_n 3, 1) := by decide +kernel
theorem dX1_outsideQuota_34 : decode cX1_outsideQuota 34 = .ok (.iinc 5 1, 3) := by decide +kernel
theorem dX1_outsideQuota_37 : decode cX1_outsideQuota 37 = .ok (.goto (-32), 3) := by decide +kernel
theorem dX1_outsideQuota_40 : decode cX1_outsideQuota 40 = .ok (.iconst 0, 1) := by decide +kernel
theorem dX1_outsideQuota_41 : decode cX1_outsideQuota 41 = .ok (.istore 5, 2) := by decide +kernel
theorem dX1_outsideQuota_43 : decode cX1_outsideQuota 43 = .ok (.iconst 0, 1) := by decide +kernel
theorem dX1_outsideQuota_44 : decode cX1_outsideQuota 44 = .ok (.istore 6, 2) := by decide +kernel
theorem dX1_outsideQuota_46 : decode cX1_outsideQuota 46 = .ok (.iload 6, 2) := by decide +kernel
theorem dX1_outsideQuota_48 : decode cX1_outsideQuota 48 = .ok (.bipush 6, 2) := by decide +kernel
theorem dX1_outsideQuota_50 : decode cX1_outsideQuota 50 = .ok (.if_icmp .ge 105, 3) := by decide +kernel
theorem dX1_outsideQuota_53 : decode cX1_outsideQuota 53 = .ok (.aload_n 0, 1) := by decide +kernel
theorem dX1_outsideQuota_54 : decode cX1_outsideQuota 54 = .ok (.getfield 37, 3) := by decide +kernel
theorem dX1_outsideQuota_57 : decode cX1_outsideQuota 57 = .ok (.iload 6, 2) := by decide +kernel
theorem dX1_outsideQuota_59 : decode cX1_outsideQuota 59 = .ok (.invokestatic 59, 3) := by decide +kernel
theorem dX1_outsideQuota_62 : decode cX1_outsideQuota 62 = .ok (.ifCond .eq 87, 3) := by decide +kernel
theorem dX1_outsideQuota_65 : decode cX1_outsideQuota 65 = .ok (.lload_n 3, 1) := by decide +kernel
theorem dX1_outsideQuota_66 : decode cX1_outsideQuota 66 = .ok (.lconst 0, 1) := by decide +kernel
theorem dX1_outsideQuota_67 : decode cX1_outsideQuota 67 = .ok (.lcmp, 1) := by decide +kernel
theorem dX1_outsideQuota_68 : decode cX1_outsideQuota 68 = .ok (.ifCond .ne 6, 3) := by decide +kernel
theorem dX1_outsideQuota_71 : decode cX1_outsideQuota 71 = .ok (.goto 78, 3) := by decide +kernel
theorem dX1_outsideQuota_74 : decode cX1_outsideQuota 74 = .ok (.aload_n 1, 1) := by decide +kernel
theorem dX1_outsideQuota_75 : decode cX1_outsideQuota 75 = .ok (.iload 6, 2) := by decide +kernel
theorem dX1_outsideQuota_77 : decode cX1_outsideQuota 77 = .ok (.invokevirtual 66, 3) := by decide +kernel
theorem dX1_outsideQuota_80 : decode cX1_outsideQuota 80 = .ok (.i2l, 1) := by decide +kernel
theorem dX1_outsideQuota_81 : decode cX1_outsideQuota 81 = .ok (.iload_n 2, 1) := by decide +kernel
theorem dX1_outsideQuota_82 : decode cX1_outsideQuota 82 = .ok (.i2l, 1) := by decide +kernel
theorem dX1_outsideQuota_83 : decode cX1_outsideQuota 83 = .ok (.lmul, 1) := by decide +kernel
theorem dX1_outsideQuota_84 : decode cX1_outsideQuota 84 = .ok (.lstore 7, 2) := by decide +kernel
theorem dX1_outsideQuota_86 : decode cX1_outsideQuota 86 = .ok (.lload 7, 2) := by decide +kernel
theorem dX1_outsideQuota_88 : decode cX1_outsideQuota 88 = .ok (.lload_n 3, 1) := by decide +kernel
theorem dX1_outsideQuota_89 : decode cX1_outsideQuota 89 = .ok (.ldiv, 1) := by decide +kernel
theorem dX1_outsideQuota_90 : decode cX1_outsideQuota 90 = .ok (.lstore 9, 2) := by decide +kernel
theorem dX1_outsideQuota_92 : decode cX1_outsideQuota 92 = .ok (.lload 7, 2) := by decide +kernel
theorem dX1_outsideQuota_94 : decode cX1_outsideQuota 94 = .ok (.lload_n 3, 1) := by decide +kernel
theorem dX1_outsideQuota_95 : decode cX1_outsideQuota 95 = .ok (.lrem, 1) := by decide +kernel
theorem dX1_outsideQuota_96 : decode cX1_outsideQuota 96 = .ok (.lconst 0, 1) := by decide +kernel
theorem dX1_outsideQuota_97 : decode cX1_outsideQuota 97 = .ok (.lcmp, 1) := by decide +kernel
theorem dX1_outsideQuota_98 : decode cX1_outsideQuota 98 = .ok (.ifCond .ne 8, 3) := by decide +kernel
theorem dX1_outsideQuota_101 : decode cX1_outsideQuota 101 = .ok (.lload 9, 2) := by decide +kernel
theorem dX1_outsideQuota_103 : decode cX1_outsideQuota 103 = .ok (.goto 7, 3) := by decide +kernel
theorem dX1_outsideQuota_106 : decode cX1_outsideQuota 106 = .ok (.lload 9, 2) := by decide +kernel
theorem dX1_outsideQuota_108 : decode cX1_outsideQuota 108 = .ok (.lconst 1, 1) := by decide +kernel
theorem dX1_outsideQuota_109 : decode cX1_outsideQuota 109 = .ok (.ladd, 1) := by decide +kernel
theorem dX1_outsideQuota_110 : decode cX1_outsideQuota 110 = .ok (.lstore 11, 2) := by decide +kernel
theorem dX1_outsideQuota_112 : decode cX1_outsideQuota 112 = .ok (.aload_n 0, 1) := by decide +kernel
theorem dX1_outsideQuota_113 : decode cX1_outsideQuota 113 = .ok (.getfield 18, 3) := by decide +kernel
theorem dX1_outsideQuota_116 : decode cX1_outsideQuota 116 = .ok (.iload 6, 2) := by decide +kernel
theorem dX1_outsideQuota_118 : decode cX1_outsideQuota 118 = .ok (.iaload, 1) := by decide +kernel
theorem dX1_outsideQuota_119 : decode cX1_outsideQuota 119 = .ok (.i2l, 1) := by decide +kernel
theorem dX1_outsideQuota_120 : decode cX1_outsideQuota 120 = .ok (.lload 9, 2) := by decide +kernel
theorem dX1_outsideQuota_122 : decode cX1_outsideQuota 122 = .ok (.lcmp, 1) := by decide +kernel
theorem dX1_outsideQuota_123 : decode cX1_outsideQuota 123 = .ok (.ifCond .lt 17, 3) := by decide +kernel
theorem dX1_outsideQuota_126 : decode cX1_outsideQuota 126 = .ok (.aload_n 0, 1) := by decide +kernel
theorem dX1_outsideQuota_127 : decode cX1_outsideQuota 127 = .ok (.getfield 18, 3) := by decide +kernel
theorem dX1_outsideQuota_130 : decode cX1_outsideQuota 130 = .ok (.iload 6, 2) := by decide +kernel
theorem dX1_outsideQuota_132 : decode cX1_outsideQuota 132 = .ok (.iaload, 1) := by decide +kernel
theorem dX1_outsideQuota_133 : decode cX1_outsideQuota 133 = .ok (.i2l, 1) := by decide +kernel
theorem dX1_outsideQuota_134 : decode cX1_outsideQuota 134 = .ok (.lload 11, 2) := by decide +kernel
theorem dX1_outsideQuota_136 : decode cX1_outsideQuota 136 = .ok (.lcmp, 1) := by decide +kernel
theorem dX1_outsideQuota_137 : decode cX1_outsideQuota 137 = .ok (.ifCond .le 12, 3) := by decide +kernel
theorem dX1_outsideQuota_140 : decode cX1_outsideQuota 140 = .ok (.iload 5, 2) := by decide +kernel
theorem dX1_outsideQuota_142 : decode cX1_outsideQuota 142 = .ok (.iconst 1, 1) := by decide +kernel
theorem dX1_outsideQuota_143 : decode cX1_outsideQuota 143 = .ok (.iload 6, 2) := by decide +kernel
theorem dX1_outsideQuota_145 : decode cX1_outsideQuota 145 = .ok (.ishl, 1) := by decide +kernel
theorem dX1_outsideQuota_146 : decode cX1_outsideQuota 146 = .ok (.ior, 1) := by decide +kernel
theorem dX1_outsideQuota_147 : decode cX1_outsideQuota 147 = .ok (.istore 5, 2) := by decide +kernel
theorem dX1_outsideQuota_149 : decode cX1_outsideQuota 149 = .ok (.iinc 6 1, 3) := by decide +kernel
theorem dX1_outsideQuota_152 : decode cX1_outsideQuota 152 = .ok (.goto (-106), 3) := by decide +kernel
theorem dX1_outsideQuota_155 : decode cX1_outsideQuota 155 = .ok (.iload 5, 2) := by decide +kernel
theorem dX1_outsideQuota_157 : decode cX1_outsideQuota 157 = .ok (.ireturn, 1) := by decide +kernel
theorem dX2_init_0 : decode cX2_init 0 = .ok (.aload_n 0, 1) := by decide +kernel
theorem dX2_init_1 : decode cX2_init 1 = .ok (.invokespecial 3, 3) := by decide +kernel
theorem dX2_init_4 : decode cX2_init 4 = .ok (.aload_n 0, 1) := by decide +kernel
theorem dX2_init_5 : decode cX2_init 5 = .ok (.bipush 24, 2) := by decide +kernel
theorem dX2_init_7 : decode cX2_init 7 = .ok (.newarray .int, 2) := by decide +kernel
theorem dX2_init_9 : decode cX2_init 9 = .ok (.putfield 9, 3) := by decide +kernel
theorem dX2_init_12 : decode cX2_init 12 = .ok (.aload_n 0, 1) := by decide +kernel
theorem dX2_init_13 : decode cX2_init 13 = .ok (.new 15, 3) := by decide +kernel
theorem dX2_init_16 : decode cX2_init 16 = .ok (.dup, 1) := by decide +kernel
theorem dX2_init_17 : decode cX2_init 17 = .ok (.invokespecial 17, 3) := by decide +kernel
theorem dX2_init_20 : decode cX2_init 20 = .ok (.putfield 18, 3) := by decide +kernel
theorem dX2_init_23 : decode cX2_init 23 = .ok (.aload_n 0, 1) := by decide +kernel
theorem dX2_init_24 : decode cX2_init 24 = .ok (.new 22, 3) := by decide +kernel
theorem dX2_init_27 : decode cX2_init 27 = .ok (.dup, 1) := by decide +kernel
theorem dX2_init_28 : decode cX2_init 28 = .ok (.invokespecial 24, 3) := by decide +kernel
theorem dX2_init_31 : decode cX2_init 31 = .ok (.putfield 25, 3) := by decide +kernel
theorem dX2_init_34 : decode cX2_init 34 = .ok (.aload_n 0, 1) := by decide +kernel
theorem dX2_init_35 : decode cX2_init 35 = .ok (.new 29, 3) := by decide +kernel
theorem dX2_init_38 : decode cX2_init 38 = .ok (.dup, 1) := by decide +kernel
theorem dX2_init_39 : decode cX2_init 39 = .ok (.invokespecial 31, 3) := by decide +kernel
theorem dX2_init_42 : decode cX2_init 42 = .ok (.putfield 32, 3) := by decide +kernel
theorem dX2_init_45 : decode cX2_init 45 = .ok (.aload_n 0, 1) := by decide +kernel
theorem dX2_init_46 : decode cX2_init 46 = .ok (.iconst 1, 1) := by decide +kernel
theorem dX2_init_47 : decode cX2_init 47 = .ok (.putfield 36, 3) := by decide +kernel
theorem dX2_init_50 : decode cX2_init 50 = .ok (.return_, 1) := by decide +kernel
theorem dX2_forget_0 : decode cX2_forget 0 = .ok (.aload_n 0, 1) := by decide +kernel
theorem dX2_forget_1 : decode cX2_forget 1 = .ok (.iconst 1, 1) := by decide +kernel
theorem dX2_forget_2 : decode cX2_forget 2 = .ok (.putfield 36, 3) := by decide +kernel
theorem dX2_forget_5 : decode cX2_forget 5 = .ok (.return_, 1) := by decide +kernel
theorem dX2_settle_0 : decode cX2_settle 0 = .ok (.aload_n 0, 1) := by decide +kernel
theorem dX2_settle_1 : decode cX2_settle 1 = .ok (.getfield 36, 3) := by decide +kernel
theorem dX2_settle_4 : decode cX2_settle 4 = .ok (.ifCond .eq 74, 3) := by decide +kernel
theorem dX2_settle_7 : decode cX2_settle 7 = .ok (.aload_n 1, 1) := by decide +kernel
theorem dX2_settle_8 : decode cX2_settle 8 = .ok (.invokevirtual 40, 3) := by decide +kernel
theorem dX2_settle_11 : decode cX2_settle 11 = .ok (.istore_n 2, 1) := by decide +kernel
theorem dX2_settle_12 : decode cX2_settle 12 = .ok (.aload_n 1, 1) := by decide +kernel
theorem dX2_settle_13 : decode cX2_settle 13 = .ok (.getfield 46, 3) := by decide +kernel
theorem dX2_settle_16 : decode cX2_settle 16 = .ok (.invokestatic 50, 3) := by decide +kernel
theorem dX2_settle_19 : decode cX2_settle 19 = .ok (.ifCond .eq 34, 3) := by decide +kernel
theorem dX2_settle_22 : decode cX2_settle 22 = .ok (.iload_n 2, 1) := by decide +kernel
theorem dX2_settle_23 : decode cX2_settle 23 = .ok (.iconst 1, 1) := by decide +kernel
theorem dX2_settle_24 : decode cX2_settle 24 = .ok (.if_icmp .lt 29, 3) := by decide +kernel
theorem dX2_settle_27 : decode cX2_settle 27 = .ok (.iload_n 2, 1) := by decide +kernel
theorem dX2_settle_28 : decode cX2_settle 28 = .ok (.bipush 60, 2) := by decide +kernel
theorem dX2_settle_30 : decode cX2_settle 30 = .ok (.if_icmp .gt 23, 3) := by decide +kernel
theorem dX2_settle_33 : decode cX2_settle 33 = .ok (.aload_n 0, 1) := by decide +kernel
theorem dX2_settle_34 : decode cX2_settle 34 = .ok (.getfield 25, 3) := by decide +kernel
theorem dX2_settle_37 : decode cX2_settle 37 = .ok (.aload_n 1, 1) := by decide +kernel
theorem dX2_settle_38 : decode cX2_settle 38 = .ok (.aload_n 1, 1) := by decide +kernel
theorem dX2_settle_39 : decode cX2_settle 39 = .ok (.getfield 46, 3) := by decide +kernel
theorem dX2_settle_42 : decode cX2_settle 42 = .ok (.iload_n 2, 1) := by decide +kernel
theorem dX2_settle_43 : decode cX2_settle 43 = .ok (.invokevirtual 54, 3) := by decide +kernel
theorem dX2_settle_46 : decode cX2_settle 46 = .ok (.ifCond .eq 7, 3) := by decide +kernel
theorem dX2_settle_49 : decode cX2_settle 49 = .ok (.iconst 1, 1) := by decide +kernel
theorem dX2_settle_50 : decode cX2_settle 50 = .ok (.goto 4, 3) := by decide +kernel
theorem dX2_settle_53 : decode cX2_settle 53 = .ok (.iconst 0, 1) := by decide +kernel
theorem dX2_settle_54 : decode cX2_settle 54 = .ok (.istore_n 3, 1) := by decide +kernel
theorem dX2_settle_55 : decode cX2_settle 55 = .ok (.aload_n 0, 1) := by decide +kernel
theorem dX2_settle_56 : decode cX2_settle 56 = .ok (.iload_n 3, 1) := by decide +kernel
theorem dX2_settle_57 : decode cX2_settle 57 = .ok (.ifCond .eq 11, 3) := by decide +kernel
theorem dX2_settle_60 : decode cX2_settle 60 = .ok (.aload_n 0, 1) := by decide +kernel
theorem dX2_settle_61 : decode cX2_settle 61 = .ok (.aload_n 1, 1) := by decide +kernel
theorem dX2_settle_62 : decode cX2_settle 62 = .ok (.invokevirtual 58, 3) := by decide +kernel
theorem dX2_settle_65 : decode cX2_settle 65 = .ok (.goto 5, 3) := by decide +kernel
theorem dX2_settle_68 : decode cX2_settle 68 = .ok (.bipush (-3), 2) := by decide +kernel
theorem dX2_settle_70 : decode cX2_settle 70 = .ok (.putfield 62, 3) := by decide +kernel
theorem dX2_settle_73 : decode cX2_settle 73 = .ok (.aload_n 0, 1) := by decide +kernel
theorem dX2_settle_74 : decode cX2_settle 74 = .ok (.iconst 0, 1) := by decide +kernel
theorem dX2_settle_75 : decode cX2_settle 75 = .ok (.putfield 36, 3) := by decide +kernel
theorem dX2_settle_78 : decode cX2_settle 78 = .ok (.aload_n 0, 1) := by decide +kernel
theorem dX2_settle_79 : decode cX2_settle 79 = .ok (.getfield 62, 3) := by decide +kernel
theorem dX2_settle_82 : decode cX2_settle 82 = .ok (.ireturn, 1) := by decide +kernel
theorem dX2_hasPlans_0 : decode cX2_hasPlans 0 = .ok (.iload_n 0, 1) := by decide +kernel
theorem dX2_hasPlans_1 : decode cX2_hasPlans 1 = .ok (.ifCond .eq 18, 3) := by decide +kernel
theorem dX2_hasPlans_4 : decode cX2_hasPlans 4 = .ok (.iload_n 0, 1) := by decide +kernel
theorem dX2_hasPlans_5 : decode cX2_hasPlans 5 = .ok (.iconst 1, 1) := by decide +kernel
theorem dX2_hasPlans_6 : decode cX2_hasPlans 6 = .ok (.if_icmp .eq 13, 3) := by decide +kernel
theorem dX2_hasPlans_9 : decode cX2_hasPlans 9 = .ok (.iload_n 0, 1) := by decide +kernel
theorem dX2_hasPlans_10 : decode cX2_hasPlans 10 = .ok (.iconst 2, 1) := by decide +kernel
theorem dX2_hasPlans_11 : decode cX2_hasPlans 11 = .ok (.if_icmp .eq 8, 3) := by decide +kernel
theorem dX2_hasPlans_14 : decode cX2_hasPlans 14 = .ok (.iload_n 0, 1) := by decide +kernel
theorem dX2_hasPlans_15 : decode cX2_hasPlans 15 = .ok (.iconst 5, 1) := by decide +kernel
theorem dX2_hasPlans_16 : decode cX2_hasPlans 16 = .ok (.if_icmp .ne 7, 3) := by decide +kernel
theorem dX2_hasPlans_19 : decode cX2_hasPlans 19 = .ok (.iconst 1, 1) := by decide +kernel
theorem dX2_hasPlans_20 : decode cX2_hasPlans 20 = .ok (.goto 4, 3) := by decide +kernel
theorem dX2_hasPlans_23 : decode cX2_hasPlans 23 = .ok (.iconst 0, 1) := by decide +kernel
theorem dX2_hasPlans_24 : decode cX2_hasPlans 24 = .ok (.ireturn, 1) := by decide +kernel
theorem dX2_solveFrom_0 : decode cX2_solveFrom 0 = .ok (.aload_n 0, 1) := by decide +kernel
theorem dX2_solveFrom_1 : decode cX2_solveFrom 1 = .ok (.getfield 18, 3) := by decide +kernel
theorem dX2_solveFrom_4 : decode cX2_solveFrom 4 = .ok (.aload_n 1, 1) := by decide +kernel
theorem dX2_solveFrom_5 : decode cX2_solveFrom 5 = .ok (.invokevirtual 65, 3) := by decide +kernel
theorem dX2_solveFrom_8 : decode cX2_solveFrom 8 = .ok (.aload_n 0, 1) := by decide +kernel
theorem dX2_solveFrom_9 : decode cX2_solveFrom 9 = .ok (.getfield 25, 3) := by decide +kernel
theorem dX2_solveFrom_12 : decode cX2_solveFrom 12 = .ok (.getfield 68, 3) := by decide +kernel
theorem dX2_solveFrom_15 : decode cX2_solveFrom 15 = .ok (.invokevirtual 71, 3) := by decide +kernel
theorem dX2_solveFrom_18 : decode cX2_solveFrom 18 = .ok (.aload_n 0, 1) := by decide +kernel
theorem dX2_solveFrom_19 : decode cX2_solveFrom 19 = .ok (.aload_n 1, 1) := by decide +kernel
theorem dX2_solveFrom_20 : decode cX2_solveFrom 20 = .ok (.invokevirtual 75, 3) := by decide +kernel
theorem dX2_solveFrom_23 : decode cX2_solveFrom 23 = .ok (.iconst 0, 1) := by decide +kernel
theorem dX2_solveFrom_24 : decode cX2_solveFrom 24 = .ok (.istore_n 2, 1) := by decide +kernel
theorem dX2_solveFrom_25 : decode cX2_solveFrom 25 = .ok (.iload_n 2, 1) := by decide +kernel
theorem dX2_solveFrom_26 : decode cX2_solveFrom 26 = .ok (.sipush 200, 3) := by decide +kernel
theorem dX2_solveFrom_29 : decode cX2_solveFrom 29 = .ok (.if_icmp .ge 45, 3) := by decide +kernel
theorem dX2_solveFrom_32 : decode cX2_solveFrom 32 = .ok (.aload_n 0, 1) := by decide +kernel
theorem dX2_solveFrom_33 : decode cX2_solveFrom 33 = .ok (.getfield 18, 3) := by decide +kernel
theorem dX2_solveFrom_36 : decode cX2_solveFrom 36 = .ok (.aload_n 1, 1) := by decide +kernel
theorem dX2_solveFrom_37 : decode cX2_solveFrom 37 = .ok (.aload_n 0, 1) := by decide +kernel
theorem dX2_solveFrom_38 : decode cX2_solveFrom 38 = .ok (.getfield 9, 3) := by decide +kernel
theorem dX2_solveFrom_41 : decode cX2_solveFrom 41 = .ok (.invokevirtual 79, 3) := by decide +kernel
theorem dX2_solveFrom_44 : decode cX2_solveFrom 44 = .ok (.istore_n 3, 1) := by decide +kernel
theorem dX2_solveFrom_45 : decode cX2_solveFrom 45 = .ok (.iload_n 3, 1) := by decide +kernel
theorem dX2_solveFrom_46 : decode cX2_solveFrom 46 = .ok (.ifCond .ge 5, 3) := by decide +kernel
theorem dX2_solveFrom_49 : decode cX2_solveFrom 49 = .ok (.iload_n 3, 1) := by decide +kernel
theorem dX2_solveFrom_50 : decode cX2_solveFrom 50 = .ok (.ireturn, 1) := by decide +kernel
theorem dX2_solveFrom_51 : decode cX2_solveFrom 51 = .ok (.iload_n 3, 1) := by decide +kernel
theorem dX2_solveFrom_52 : decode cX2_solveFrom 52 = .ok (.ifCond .ne 5, 3) := by decide +kernel
theorem dX2_solveFrom_55 : decode cX2_solveFrom 55 = .ok (.iload_n 2, 1) := by decide +kernel
theorem dX2_solveFrom_56 : decode cX2_solveFrom 56 = .ok (.ireturn, 1) := by decide +kernel
theorem dX2_solveFrom_57 : decode cX2_solveFrom 57 = .ok (.aload_n 0, 1) := by decide +kernel
theorem dX2_solveFrom_58 : decode cX2_solveFrom 58 = .ok (.getfield 18, 3) := by decide +kernel
theorem dX2_solveFrom_61 : decode cX2_solveFrom 61 = .ok (.aload_n 0, 1) := by decide +kernel
theorem dX2_solveFrom_62 : decode cX2_solveFrom 62 = .ok (.getfield 9, 3) := by decide +kernel
theorem dX2_solveFrom_65 : decode cX2_solveFrom 65 = .ok (.invokevirtual 83, 3) := by decide +kernel
theorem dX2_solveFrom_68 : decode cX2_solveFrom 68 = .ok (.iinc 2 1, 3) := by decide +kernel
theorem dX2_solveFrom_71 : decode cX2_solveFrom 71 = .ok (.goto (-46), 3) := by decide +kernel
theorem dX2_solveFrom_74 : decode cX2_solveFrom 74 = .ok (.sipush 200, 3) := by decide +kernel
theorem dX2_solveFrom_77 : decode cX2_solveFrom 77 = .ok (.ireturn, 1) := by decide +kernel
theorem dX2_begin_0 : decode cX2_begin 0 = .ok (.iconst 0, 1) := by decide +kernel
theorem dX2_begin_1 : decode cX2_begin 1 = .ok (.istore_n 2, 1) := by decide +kernel
theorem dX2_begin_2 : decode cX2_begin 2 = .ok (.iload_n 2, 1) := by decide +kernel
theorem dX2_begin_3 : decode cX2_begin 3 = .ok (.iconst 4, 1) := by decide +kernel
theorem dX2_begin_4 : decode cX2_begin 4 = .ok (.if_icmp .ge 107, 3) := by decide +kernel
theorem dX2_begin_7 : decode cX2_begin 7 = .ok (.aload_n 1, 1) := by decide +kernel
theorem dX2_begin_8 : decode cX2_begin 8 = .ok (.getfield 87, 3) := by decide +kernel
theorem dX2_begin_11 : decode cX2_begin 11 = .ok (.iload_n 2, 1) := by decide +kernel
theorem dX2_begin_12 : decode cX2_begin 12 = .ok (.iaload, 1) := by decide +kernel
theorem dX2_begin_13 : decode cX2_begin 13 = .ok (.istore_n 3, 1) := by decide +kernel
theorem dX2_begin_14 : decode cX2_begin 14 = .ok (.iconst 0, 1) := by decide +kernel
theorem dX2_begin_15 : decode cX2_begin 15 = .ok (.istore 4, 2) := by decide +kernel
theorem dX2_begin_17 : decode cX2_begin 17 = .ok (.iload 4, 2) := by decide +kernel
theorem dX2_begin_19 : decode cX2_begin 19 = .ok (.bipush 6, 2) := by decide +kernel
theorem dX2_begin_21 : decode cX2_begin 21 = .ok (.if_icmp .ge 84, 3) := by decide +kernel
theorem dX2_begin_24 : decode cX2_begin 24 = .ok (.aload_n 0, 1) := by decide +kernel
theorem dX2_begin_25 : decode cX2_begin 25 = .ok (.getfield 25, 3) := by decide +kernel
theorem dX2_begin_28 : decode cX2_begin 28 = .ok (.getfield 90, 3) := by decide +kernel
theorem dX2_begin_31 : decode cX2_begin 31 = .ok (.iload 4, 2) := by decide +kernel
theorem dX2_begin_33 : decode cX2_begin 33 = .ok (.iaload, 1) := by decide +kernel
theorem dX2_begin_34 : decode cX2_begin 34 = .ok (.istore 5, 2) := by decide +kernel
theorem dX2_begin_36 : decode cX2_begin 36 = .ok (.iconst 0, 1) := by decide +kernel
theorem dX2_begin_37 : decode cX2_begin 37 = .ok (.istore 6, 2) := by decide +kernel
theorem dX2_begin_39 : decode cX2_begin 39 = .ok (.iload 6, 2) := by decide +kernel
theorem dX2_begin_41 : decode cX2_begin 41 = .ok (.iload_n 2, 1) := by decide +kernel
theorem dX2_begin_42 : decode cX2_begin 42 = .ok (.if_icmp .ge 26, 3) := by decide +kernel
theorem dX2_begin_45 : decode cX2_begin 45 = .ok (.iload 5, 2) := by decide +kernel
theorem dX2_begin_47 : decode cX2_begin 47 = .ok (.aload_n 0, 1) := by decide +kernel
theorem dX2_begin_48 : decode cX2_begin 48 = .ok (.getfield 9, 3) := by decide +kernel
theorem dX2_begin_51 : decode cX2_begin 51 = .ok (.iload 6, 2) := by decide +kernel
theorem dX2_begin_53 : decode cX2_begin 53 = .ok (.iload 4, 2) := by decide +kernel
theorem dX2_begin_55 : decode cX2_begin 55 = .ok (.invokestatic 93, 3) := by decide +kernel
theorem dX2_begin_58 : decode cX2_begin 58 = .ok (.iaload, 1) := by decide +kernel
theorem dX2_begin_59 : decode cX2_begin 59 = .ok (.isub, 1) := by decide +kernel
theorem dX2_begin_60 : decode cX2_begin 60 = .ok (.istore 5, 2) := by decide +kernel
theorem dX2_begin_62 : decode cX2_begin 62 = .ok (.iinc 6 1, 3) := by decide +kernel
theorem dX2_begin_65 : decode cX2_begin 65 = .ok (.goto (-26), 3) := by decide +kernel
theorem dX2_begin_68 : decode cX2_begin 68 = .ok (.aload_n 0, 1) := by decide +kernel
theorem dX2_begin_69 : decode cX2_begin 69 = .ok (.getfield 9, 3) := by decide +kernel
theorem dX2_begin_72 : decode cX2_begin 72 = .ok (.iload_n 2, 1) := by decide +kernel
theorem dX2_begin_73 : decode cX2_begin 73 = .ok (.iload 4, 2) := by decide +kernel
theorem dX2_begin_75 : decode cX2_begin 75 = .ok (.invokestatic 93, 3) := by decide +kernel
theorem dX2_begin_78 : decode cX2_begin 78 = .ok (.iload_n 3, 1) := by decide +kernel
theorem dX2_begin_79 : decode cX2_begin 79 = .ok (.iload 5, 2) := by decide +kernel
theorem dX2_begin_81 : decode cX2_begin 81 = .ok (.invokestatic 97, 3) := by decide +kernel
theorem dX2_begin_84 : decode cX2_begin 84 = .ok (.iastore, 1) := by decide +kernel
theorem dX2_begin_85 : decode cX2_begin 85 = .ok (.iload_n 3, 1) := by decide +kernel
theorem dX2_begin_86 : decode cX2_begin 86 = .ok (.aload_n 0, 1) := by decide +kernel
theorem dX2_begin_87 : decode cX2_begin 87 = .ok (.getfield 9, 3) := by decide +kernel
theorem dX2_begin_90 : decode cX2_begin 90 = .ok (.iload_n 2, 1) := by decide +kernel
theorem dX2_begin_91 : decode cX2_begin 91 = .ok (.iload 4, 2) := by decide +kernel
theorem dX2_begin_93 : decode cX2_begin 93 = .ok (.invokestatic 93, 3) := by decide +kernel
theorem dX2_begin_96 : decode cX2_begin 96 = .ok (.iaload, 1) := by decide +kernel
theorem dX2_begin_97 : decode cX2_begin 97 = .ok (.isub, 1) := by decide +kernel
theorem dX2_begin_98 : decode cX2_begin 98 = .ok (.istore_n 3, 1) := by decide +kernel
theorem dX2_begin_99 : decode cX2_begin 99 = .ok (.iinc 4 1, 3) := by decide +kernel
theorem dX2_begin_102 : decode cX2_begin 102 = .ok (.goto (-85), 3) := by decide +kernel
theorem dX2_begin_105 : decode cX2_begin 105 = .ok (.iinc 2 1, 3) := by decide +kernel
theorem dX2_begin_108 : decode cX2_begin 108 = .ok (.goto (-106), 3) := by decide +kernel
theorem dX2_begin_111 : decode cX2_begin 111 = .ok (.return_, 1) := by decide +kernel
theorem dX2_takes_0 : decode cX2_takes 0 = .ok (.iconst 0, 1) := by decide +kernel
theorem dX2_takes_1 : decode cX2_takes 1 = .ok (.istore_n 3, 1) := by decide +kernel
theorem dX2_takes_2 : decode cX2_takes 2 = .ok (.iload_n 3, 1) := by decide +kernel
theorem dX2_takes_3 : decode cX2_takes 3 = .ok (.bipush 24, 2) := by decide +kernel
theorem dX2_takes_5 : decode cX2_takes 5 = .ok (.if_icmp .ge 17, 3) := by decide +kernel
theorem dX2_takes_8 : decode cX2_takes 8 = .ok (.aload_n 2, 1) := by decide +kernel
theorem dX2_takes_9 : decode cX2_takes 9 = .ok (.iload_n 3, 1) := by decide +kernel
theorem dX2_takes_10 : decode cX2_takes 10 = .ok (.iaload, 1) := by decide +kernel
theorem dX2_takes_11 : decode cX2_takes 11 = .ok (.ifCond .ge 5, 3) := by decide +kernel
theorem dX2_takes_14 : decode cX2_takes 14 = .ok (.iconst 0, 1) := by decide +kernel
theorem dX2_takes_15 : decode cX2_takes 15 = .ok (.ireturn, 1) := by decide +kernel
theorem dX2_takes_16 : decode cX2_takes 16 = .ok (.iinc 3 1, 3) := by decide +kernel
theorem dX2_takes_19 : decode cX2_takes 19 = .ok (.goto (-17), 3) := by decide +kernel
theorem dX2_takes_22 : decode cX2_takes 22 = .ok (.iconst 0, 1) := by decide +kernel
theorem dX2_takes_23 : decode cX2_takes 23 = .ok (.istore_n 3, 1) := by decide +kernel
theorem dX2_takes_24 : decode cX2_takes 24 = .ok (.iload_n 3, 1) := by decide +kernel
theorem dX2_takes_25 : decode cX2_takes 25 = .ok (.iconst 4, 1) := by decide +kernel
theorem dX2_takes_26 : decode cX2_takes 26 = .ok (.if_icmp .ge 57, 3) := by decide +kernel
theorem dX2_takes_29 : decode cX2_takes 29 = .ok (.lconst 0, 1) := by decide +kernel
theorem dX2_takes_30 : decode cX2_takes 30 = .ok (.lstore 4, 2) := by decide +kernel
theorem dX2_takes_32 : decode cX2_takes 32 = .ok (.iconst 0, 1) := by decide +kernel
theorem dX2_takes_33 : decode cX2_takes 33 = .ok (.istore 6, 2) := by decide +kernel
theorem dX2_takes_35 : decode cX2_takes 35 = .ok (.iload 6, 2) := by decide +kernel
theorem dX2_takes_37 : decode cX2_takes 37 = .ok (.bipush 6, 2) := by decide +kernel
theorem dX2_takes_39 : decode cX2_takes 39 = .ok (.if_icmp .ge 23, 3) := by decide +kernel
theorem dX2_takes_42 : decode cX2_takes 42 = .ok (.lload 4, 2) := by decide +kernel
theorem dX2_takes_44 : decode cX2_takes 44 = .ok (.aload_n 2, 1) := by decide +kernel
theorem dX2_takes_45 : decode cX2_takes 45 = .ok (.iload_n 3, 1) := by decide +kernel
theorem dX2_takes_46 : decode cX2_takes 46 = .ok (.iload 6, 2) := by decide +kernel
theorem dX2_takes_48 : decode cX2_takes 48 = .ok (.invokestatic 93, 3) := by decide +kernel
theorem dX2_takes_51 : decode cX2_takes 51 = .ok (.iaload, 1) := by decide +kernel
theorem dX2_takes_52 : decode cX2_takes 52 = .ok (.i2l, 1) := by decide +kernel
theorem dX2_takes_53 : decode cX2_takes 53 = .ok (.ladd, 1) := by decide +kernel
theorem dX2_takes_54 : decode cX2_takes 54 = .ok (.lstore 4, 2) := by decide +kernel
theorem dX2_takes_56 : decode cX2_takes 56 = .ok (.iinc 6 1, 3) := by decide +kernel
theorem dX2_takes_59 : decode cX2_takes 59 = .ok (.goto (-24), 3) := by decide +kernel
theorem dX2_takes_62 : decode cX2_takes 62 = .ok (.lload 4, 2) := by decide +kernel
theorem dX2_takes_64 : decode cX2_takes 64 = .ok (.aload_n 1, 1) := by decide +kernel
theorem dX2_takes_65 : decode cX2_takes 65 = .ok (.getfield 87, 3) := by decide +kernel
theorem dX2_takes_68 : decode cX2_takes 68 = .ok (.iload_n 3, 1) := by decide +kernel
theorem dX2_takes_69 : decode cX2_takes 69 = .ok (.iaload, 1) := by decide +kernel
theorem dX2_takes_70 : decode cX2_takes 70 = .ok (.i2l, 1) := by decide +kernel
theorem dX2_takes_71 : decode cX2_takes 71 = .ok (.lcmp, 1) := by decide +kernel
theorem dX2_takes_72 : decode cX2_takes 72 = .ok (.ifCond .eq 5, 3) := by decide +kernel
theorem dX2_takes_75 : decode cX2_takes 75 = .ok (.iconst 0, 1) := by decide +kernel
theorem dX2_takes_76 : decode cX2_takes 76 = .ok (.ireturn, 1) := by decide +kernel
theorem dX2_takes_77 : decode cX2_takes 77 = .ok (.iinc 3 1, 3) := by decide +kernel
theorem dX2_takes_80 : decode cX2_takes 80 = .ok (.goto (-56), 3) := by decide +kernel
theorem dX2_takes_83 : decode cX2_takes 83 = .ok (.iconst 0, 1) := by decide +kernel
theorem dX2_takes_84 : decode cX2_takes 84 = .ok (.istore_n 3, 1) := by decide +kernel
theorem dX2_takes_85 : decode cX2_takes 85 = .ok (.iload_n 3, 1) := by decide +kernel
theorem dX2_takes_86 : decode cX2_takes 86 = .ok (.bipush 6, 2) := by decide +kernel
theorem dX2_takes_88 : decode cX2_takes 88 = .ok (.if_icmp .ge 59, 3) := by decide +kernel
theorem dX2_takes_91 : decode cX2_takes 91 = .ok (.lconst 0, 1) := by decide +kernel
theorem dX2_takes_92 : decode cX2_takes 92 = .ok (.lstore 4, 2) := by decide +kernel
theorem dX2_takes_94 : decode cX2_takes 94 = .ok (.iconst 0, 1) := by decide +kernel
theorem dX2_takes_95 : decode cX2_takes 95 = .ok (.istore 6, 2) := by decide +kernel
theorem dX2_takes_97 : decode cX2_takes 97 = .ok (.iload 6, 2) := by decide +kernel
theorem dX2_takes_99 : decode cX2_takes 99 = .ok (.iconst 4, 1) := by decide +kernel
theorem dX2_takes_100 : decode cX2_takes 100 = .ok (.if_icmp .ge 23, 3) := by decide +kernel
theorem dX2_takes_103 : decode cX2_takes 103 = .ok (.lload 4, 2) := by decide +kernel
theorem dX2_takes_105 : decode cX2_takes 105 = .ok (.aload_n 2, 1) := by decide +kernel
theorem dX2_takes_106 : decode cX2_takes 106 = .ok (.iload 6, 2) := by decide +kernel
theorem dX2_takes_108 : decode cX2_takes 108 = .ok (.iload_n 3, 1) := by decide +kernel
theorem dX2_takes_109 : decode cX2_takes 109 = .ok (.invokestatic 93, 3) := by decide +kernel
theorem dX2_takes_112 : decode cX2_takes 112 = .ok (.iaload, 1) := by decide +kernel
theorem dX2_takes_113 : decode cX2_takes 113 = .ok (.i2l, 1) := by decide +kernel
theorem dX2_takes_114 : decode cX2_takes 114 = .ok (.ladd, 1) := by decide +kernel
theorem dX2_takes_115 : decode cX2_takes 115 = .ok (.lstore 4, 2) := by decide +kernel
theorem dX2_takes_117 : decode cX2_takes 117 = .ok (.iinc 6 1, 3) := by decide +kernel
theorem dX2_takes_120 : decode cX2_takes 120 = .ok (.goto (-23), 3) := by decide +kernel
theorem dX2_takes_123 : decode cX2_takes 123 = .ok (.lload 4, 2) := by decide +kernel
theorem dX2_takes_125 : decode cX2_takes 125 = .ok (.aload_n 0, 1) := by decide +kernel
theorem dX2_takes_126 : decode cX2_takes 126 = .ok (.getfield 25, 3) := by decide +kernel
theorem dX2_takes_129 : decode cX2_takes 129 = .ok (.getfield 90, 3) := by decide +kernel
theorem dX2_takes_132 : decode cX2_takes 132 = .ok (.iload_n 3, 1) := by decide +kernel
theorem dX2_takes_133 : decode cX2_takes 133 = .ok (.iaload, 1) := by decide +kernel
theorem dX2_takes_134 : decode cX2_takes 134 = .ok (.i2l, 1) := by decide +kernel
theorem dX2_takes_135 : decode cX2_takes 135 = .ok (.lcmp, 1) := by decide +kernel
theorem dX2_takes_136 : decode cX2_takes 136 = .ok (.ifCond .eq 5, 3) := by decide +kernel
theorem dX2_takes_139 : decode cX2_takes 139 = .ok (.iconst 0, 1) := by decide +kernel
theorem dX2_takes_140 : decode cX2_takes 140 = .ok (.ireturn, 1) := by decide +kernel
theorem dX2_takes_141 : decode cX2_takes 141 = .ok (.iinc 3 1, 3) := by decide +kernel
theorem dX2_takes_144 : decode cX2_takes 144 = .ok (.goto (-59), 3) := by decide +kernel
theorem dX2_takes_147 : decode cX2_takes 147 = .ok (.iconst 1, 1) := by decide +kernel
theorem dX2_takes_148 : decode cX2_takes 148 = .ok (.ireturn, 1) := by decide +kernel
theorem dX2_boundBetween_0 : decode cX2_boundBetween 0 = .ok (.lconst 0, 1) := by decide +kernel
theorem dX2_boundBetween_1 : decode cX2_boundBetween 1 = .ok (.lstore 5, 2) := by decide +kernel
theorem dX2_boundBetween_3 : decode cX2_boundBetween 3 = .ok (.lconst 0, 1) := by decide +kernel
theorem dX2_boundBetween_4 : decode cX2_boundBetween 4 = .ok (.lstore 7, 2) := by decide +kernel
theorem dX2_boundBetween_6 : decode cX2_boundBetween 6 = .ok (.iconst 0, 1) := by decide +kernel
theorem dX2_boundBetween_7 : decode cX2_boundBetween 7 = .ok (.istore 9, 2) := by decide +kernel
theorem dX2_boundBetween_9 : decode cX2_boundBetween 9 = .ok (.iload 9, 2) := by decide +kernel
theorem dX2_boundBetween_11 : decode cX2_boundBetween 11 = .ok (.bipush 6, 2) := by decide +kernel
theorem dX2_boundBetween_13 : decode cX2_boundBetween 13 = .ok (.if_icmp .ge 258, 3) := by decide +kernel
theorem dX2_boundBetween_16 : decode cX2_boundBetween 16 = .ok (.iload_n 2, 1) := by decide +kernel
theorem dX2_boundBetween_17 : decode cX2_boundBetween 17 = .ok (.iload 9, 2) := by decide +kernel
theorem dX2_boundBetween_19 : decode cX2_boundBetween 19 = .ok (.invokestatic 93, 3) := by decide +kernel
theorem dX2_boundBetween_22 : decode cX2_boundBetween 22 = .ok (.istore 10, 2) := by decide +kernel
theorem dX2_boundBetween_24 : decode cX2_boundBetween 24 = .ok (.iload_n 3, 1) := by decide +kernel
theorem dX2_boundBetween_25 : decode cX2_boundBetween 25 = .ok (.iload 9, 2) := by decide +kernel
theorem dX2_boundBetween_27 : decode cX2_boundBetween 27 = .ok (.invokestatic 93, 3) := by decide +kernel
theorem dX2_boundBetween_30 : decode cX2_boundBetween 30 = .ok (.istore 11, 2) := by decide +kernel
theorem dX2_boundBetween_32 : decode cX2_boundBetween 32 = .ok (.aload_n 0, 1) := by decide +kernel
theorem dX2_boundBetween_33 : decode cX2_boundBetween 33 = .ok (.getfield 25, 3) := by decide +kernel
theorem dX2_boundBetween_36 : decode cX2_boundBetween 36 = .ok (.getfield 68, 3) := by decide +kernel
theorem dX2_boundBetween_39 : decode cX2_boundBetween 39 = .ok (.iload 9, 2) := by decide +kernel
theorem dX2_boundBetween_41 : decode cX2_boundBetween 41 = .ok (.invokestatic 102, 3) := by decide +kernel
theorem dX2_boundBetween_44 : decode cX2_boundBetween 44 = .ok (.ifCond .eq 221, 3) := by decide +kernel
theorem dX2_boundBetween_47 : decode cX2_boundBetween 47 = .ok (.aload_n 0, 1) := by decide +kernel
theorem dX2_boundBetween_48 : decode cX2_boundBetween 48 = .ok (.getfield 9, 3) := by decide +kernel
theorem dX2_boundBetween_51 : decode cX2_boundBetween 51 = .ok (.iload 11, 2) := by decide +kernel
theorem dX2_boundBetween_53 : decode cX2_boundBetween 53 = .ok (.iaload, 1) := by decide +kernel
theorem dX2_boundBetween_54 : decode cX2_boundBetween 54 = .ok (.ifCond .ne 6, 3) := by decide +kernel
theorem dX2_boundBetween_57 : decode cX2_boundBetween 57 = .ok (.goto 208, 3) := by decide +kernel
theorem dX2_boundBetween_60 : decode cX2_boundBetween 60 = .ok (.aload_n 1, 1) := by decide +kernel
theorem dX2_boundBetween_61 : decode cX2_boundBetween 61 = .ok (.aload_n 1, 1) := by decide +kernel
theorem dX2_boundBetween_62 : decode cX2_boundBetween 62 = .ok (.getfield 46, 3) := by decide +kernel
theorem dX2_boundBetween_65 : decode cX2_boundBetween 65 = .ok (.aload_n 0, 1) := by decide +kernel
theorem dX2_boundBetween_66 : decode cX2_boundBetween 66 = .ok (.getfield 9, 3) := by decide +kernel
theorem dX2_boundBetween_69 : decode cX2_boundBetween 69 = .ok (.iload 10, 2) := by decide +kernel
theorem dX2_boundBetween_71 : decode cX2_boundBetween 71 = .ok (.iaload, 1) := by decide +kernel
theorem dX2_boundBetween_72 : decode cX2_boundBetween 72 = .ok (.iconst 1, 1) := by decide +kernel
theorem dX2_boundBetween_73 : decode cX2_boundBetween 73 = .ok (.iadd, 1) := by decide +kernel
theorem dX2_boundBetween_74 : decode cX2_boundBetween 74 = .ok (.invokevirtual 106, 3) := by decide +kernel
theorem dX2_boundBetween_77 : decode cX2_boundBetween 77 = .ok (.lstore 12, 2) := by decide +kernel
theorem dX2_boundBetween_79 : decode cX2_boundBetween 79 = .ok (.aload_n 1, 1) := by decide +kernel
theorem dX2_boundBetween_80 : decode cX2_boundBetween 80 = .ok (.aload_n 1, 1) := by decide +kernel
theorem dX2_boundBetween_81 : decode cX2_boundBetween 81 = .ok (.getfield 46, 3) := by decide +kernel
theorem dX2_boundBetween_84 : decode cX2_boundBetween 84 = .ok (.aload_n 0, 1) := by decide +kernel
theorem dX2_boundBetween_85 : decode cX2_boundBetween 85 = .ok (.getfield 9, 3) := by decide +kernel
theorem dX2_boundBetween_88 : decode cX2_boundBetween 88 = .ok (.iload 11, 2) := by decide +kernel
theorem dX2_boundBetween_90 : decode cX2_boundBetween 90 = .ok (.iaload, 1) := by decide +kernel
theorem dX2_boundBetween_91 : decode cX2_boundBetween 91 = .ok (.invokevirtual 106, 3) := by decide +kernel
theorem dX2_boundBetween_94 : decode cX2_boundBetween 94 = .ok (.lstore 14, 2) := by decide +kernel
theorem dX2_boundBetween_96 : decode cX2_boundBetween 96 = .ok (.lload 12, 2) := by decide +kernel
theorem dX2_boundBetween_98 : decode cX2_boundBetween 98 = .ok (.lconst 0, 1) := by decide +kernel
theorem dX2_boundBetween_99 : decode cX2_boundBetween 99 = .ok (.lcmp, 1) := by decide +kernel
theorem dX2_boundBetween_100 : decode cX2_boundBetween 100 = .ok (.ifCond .eq 20, 3) := by decide +kernel
theorem dX2_boundBetween_103 : decode cX2_boundBetween 103 = .ok (.lload 14, 2) := by decide +kernel
theorem dX2_boundBetween_105 : decode cX2_boundBetween 105 = .ok (.lconst 0, 1) := by decide +kernel
theorem dX2_boundBetween_106 : decode cX2_boundBetween 106 = .ok (.lcmp, 1) := by decide +kernel
theorem dX2_boundBetween_107 : decode cX2_boundBetween 107 = .ok (.ifCond .eq 13, 3) := by decide +kernel
theorem dX2_boundBetween_110 : decode cX2_boundBetween 110 = .ok (.aload_n 1, 1) := by decide +kernel
theorem dX2_boundBetween_111 : decode cX2_boundBetween 111 = .ok (.getfield 110, 3) := by decide +kernel
theorem dX2_boundBetween_114 : decode cX2_boundBetween 114 = .ok (.iload 11, 2) := by decide +kernel
theorem dX2_boundBetween_116 : decode cX2_boundBetween 116 = .ok (.iaload, 1) := by decide +kernel
theorem dX2_boundBetween_117 : decode cX2_boundBetween 117 = .ok (.ifCond .ne 7, 3) := by decide +kernel
theorem dX2_boundBetween_120 : decode cX2_boundBetween 120 = .ok (.ldc2_w 113, 3) := by decide +kernel
theorem dX2_boundBetween_123 : decode cX2_boundBetween 123 = .ok (.lreturn, 1) := by decide +kernel
theorem dX2_boundBetween_124 : decode cX2_boundBetween 124 = .ok (.aload_n 1, 1) := by decide +kernel
theorem dX2_boundBetween_125 : decode cX2_boundBetween 125 = .ok (.getfield 110, 3) := by decide +kernel
theorem dX2_boundBetween_128 : decode cX2_boundBetween 128 = .ok (.iload 10, 2) := by decide +kernel
theorem dX2_boundBetween_130 : decode cX2_boundBetween 130 = .ok (.iaload, 1) := by decide +kernel
theorem dX2_boundBetween_131 : decode cX2_boundBetween 131 = .ok (.i2l, 1) := by decide +kernel
theorem dX2_boundBetween_132 : decode cX2_boundBetween 132 = .ok (.aload_n 1, 1) := by decide +kernel
theorem dX2_boundBetween_133 : decode cX2_boundBetween 133 = .ok (.invokevirtual 115, 3) := by decide +kernel
theorem dX2_boundBetween_136 : decode cX2_boundBetween 136 = .ok (.invokestatic 119, 3) := by decide +kernel
theorem dX2_boundBetween_139 : decode cX2_boundBetween 139 = .ok (.lload 14, 2) := by decide +kernel
theorem dX2_boundBetween_141 : decode cX2_boundBetween 141 = .ok (.invokestatic 119, 3) := by decide +kernel
theorem dX2_boundBetween_144 : decode cX2_boundBetween 144 = .ok (.lstore 16, 2) := by decide +kernel
theorem dX2_boundBetween_146 : decode cX2_boundBetween 146 = .ok (.aload_n 1, 1) := by decide +kernel
theorem dX2_boundBetween_147 : decode cX2_boundBetween 147 = .ok (.getfield 110, 3) := by decide +kernel
theorem dX2_boundBetween_150 : decode cX2_boundBetween 150 = .ok (.iload 11, 2) := by decide +kernel
theorem dX2_boundBetween_152 : decode cX2_boundBetween 152 = .ok (.iaload, 1) := by decide +kernel
theorem dX2_boundBetween_153 : decode cX2_boundBetween 153 = .ok (.i2l, 1) := by decide +kernel
theorem dX2_boundBetween_154 : decode cX2_boundBetween 154 = .ok (.aload_n 1, 1) := by decide +kernel
theorem dX2_boundBetween_155 : decode cX2_boundBetween 155 = .ok (.invokevirtual 115, 3) := by decide +kernel
theorem dX2_boundBetween_158 : decode cX2_boundBetween 158 = .ok (.invokestatic 119, 3) := by decide +kernel
theorem dX2_boundBetween_161 : decode cX2_boundBetween 161 = .ok (.lload 12, 2) := by decide +kernel
theorem dX2_boundBetween_163 : decode cX2_boundBetween 163 = .ok (.invokestatic 119, 3) := by decide +kernel
theorem dX2_boundBetween_166 : decode cX2_boundBetween 166 = .ok (.lstore 18, 2) := by decide +kernel
theorem dX2_boundBetween_168 : decode cX2_boundBetween 168 = .ok (.lload 16, 2) := by decide +kernel
theorem dX2_boundBetween_170 : decode cX2_boundBetween 170 = .ok (.lconst 0, 1) := by decide +kernel
theorem dX2_boundBetween_171 : decode cX2_boundBetween 171 = .ok (.lcmp, 1) := by decide +kernel
theorem dX2_boundBetween_172 : decode cX2_boundBetween 172 = .ok (.ifCond .lt 10, 3) := by decide +kernel
theorem dX2_boundBetween_175 : decode cX2_boundBetween 175 = .ok (.lload 18, 2) := by decide +kernel
theorem dX2_boundBetween_177 : decode cX2_boundBetween 177 = .ok (.lconst 0, 1) := by decide +kernel
theorem dX2_boundBetween_178 : decode cX2_boundBetween 178 = .ok (.lcmp, 1) := by decide +kernel
theorem dX2_boundBetween_179 : decode cX2_boundBetween 179 = .ok (.ifCond .ge 7, 3) := by decide +kernel
theorem dX2_boundBetween_182 : decode cX2_boundBetween 182 = .ok (.ldc2_w 113, 3) := by decide +kernel
theorem dX2_boundBetween_185 : decode cX2_boundBetween 185 = .ok (.lreturn, 1) := by decide +kernel
theorem dX2_boundBetween_186 : decode cX2_boundBetween 186 = .ok (.lload 16, 2) := by decide +kernel
theorem dX2_boundBetween_188 : decode cX2_boundBetween 188 = .ok (.lload 18, 2) := by decide +kernel
theorem dX2_boundBetween_190 : decode cX2_boundBetween 190 = .ok (.iconst 0, 1) := by decide +kernel
theorem dX2_boundBetween_191 : decode cX2_boundBetween 191 = .ok (.invokestatic 123, 3) := by decide +kernel
theorem dX2_boundBetween_194 : decode cX2_boundBetween 194 = .ok (.lstore 20, 2) := by decide +kernel
theorem dX2_boundBetween_196 : decode cX2_boundBetween 196 = .ok (.lload 16, 2) := by decide +kernel
theorem dX2_boundBetween_198 : decode cX2_boundBetween 198 = .ok (.lload 18, 2) := by decide +kernel
theorem dX2_boundBetween_200 : decode cX2_boundBetween 200 = .ok (.iconst 1, 1) := by decide +kernel
theorem dX2_boundBetween_201 : decode cX2_boundBetween 201 = .ok (.invokestatic 123, 3) := by decide +kernel
theorem dX2_boundBetween_204 : decode cX2_boundBetween 204 = .ok (.lstore 22, 2) := by decide +kernel
theorem dX2_boundBetween_206 : decode cX2_boundBetween 206 = .ok (.lload 20, 2) := by decide +kernel
theorem dX2_boundBetween_208 : decode cX2_boundBetween 208 = .ok (.lload 7, 2) := by decide +kernel
theorem dX2_boundBetween_210 : decode cX2_boundBetween 210 = .ok (.invokestatic 119, 3) := by decide +kernel
theorem dX2_boundBetween_213 : decode cX2_boundBetween 213 = .ok (.lstore 24, 2) := by decide +kernel
theorem dX2_boundBetween_215 : decode cX2_boundBetween 215 = .ok (.lload 5, 2) := by decide +kernel
theorem dX2_boundBetween_217 : decode cX2_boundBetween 217 = .ok (.lload 22, 2) := by decide +kernel
theorem dX2_boundBetween_219 : decode cX2_boundBetween 219 = .ok (.invokestatic 119, 3) := by decide +kernel
theorem dX2_boundBetween_222 : decode cX2_boundBetween 222 = .ok (.lstore 26, 2) := by decide +kernel
theorem dX2_boundBetween_224 : decode cX2_boundBetween 224 = .ok (.lload 24, 2) := by decide +kernel
theorem dX2_boundBetween_226 : decode cX2_boundBetween 226 = .ok (.lconst 0, 1) := by decide +kernel
theorem dX2_boundBetween_227 : decode cX2_boundBetween 227 = .ok (.lcmp, 1) := by decide +kernel
theorem dX2_boundBetween_228 : decode cX2_boundBetween 228 = .ok (.ifCond .lt 10, 3) := by decide +kernel
theorem dX2_boundBetween_231 : decode cX2_boundBetween 231 = .ok (.lload 26, 2) := by decide +kernel
theorem dX2_boundBetween_233 : decode cX2_boundBetween 233 = .ok (.lconst 0, 1) := by decide +kernel
theorem dX2_boundBetween_234 : decode cX2_boundBetween 234 = .ok (.lcmp, 1) := by decide +kernel
theorem dX2_boundBetween_235 : decode cX2_boundBetween 235 = .ok (.ifCond .ge 7, 3) := by decide +kernel
theorem dX2_boundBetween_238 : decode cX2_boundBetween 238 = .ok (.ldc2_w 113, 3) := by decide +kernel
theorem dX2_boundBetween_241 : decode cX2_boundBetween 241 = .ok (.lreturn, 1) := by decide +kernel
theorem dX2_boundBetween_242 : decode cX2_boundBetween 242 = .ok (.lload 7, 2) := by decide +kernel
theorem dX2_boundBetween_244 : decode cX2_boundBetween 244 = .ok (.lconst 0, 1) := by decide +kernel
theorem dX2_boundBetween_245 : decode cX2_boundBetween 245 = .ok (.lcmp, 1) := by decide +kernel
theorem dX2_boundBetween_246 : decode cX2_boundBetween 246 = .ok (.ifCond .eq 11, 3) := by decide +kernel
theorem dX2_boundBetween_249 : decode cX2_boundBetween 249 = .ok (.lload 24, 2) := by decide +kernel
theorem dX2_boundBetween_251 : decode cX2_boundBetween 251 = .ok (.lload 26, 2) := by decide +kernel
theorem dX2_boundBetween_253 : decode cX2_boundBetween 253 = .ok (.lcmp, 1) := by decide +kernel
theorem dX2_boundBetween_254 : decode cX2_boundBetween 254 = .ok (.ifCond .le 11, 3) := by decide +kernel
theorem dX2_boundBetween_257 : decode cX2_boundBetween 257 = .ok (.lload 20, 2) := by decide +kernel
theorem dX2_boundBetween_259 : decode cX2_boundBetween 259 = .ok (.lstore 5, 2) := by decide +kernel
theorem dX2_boundBetween_261 : decode cX2_boundBetween 261 = .ok (.lload 22, 2) := by decide +kernel
theorem dX2_boundBetween_263 : decode cX2_boundBetween 263 = .ok (.lstore 7, 2) := by decide +kernel
theorem dX2_boundBetween_265 : decode cX2_boundBetween 265 = .ok (.iinc 9 1, 3) := by decide +kernel
theorem dX2_boundBetween_268 : decode cX2_boundBetween 268 = .ok (.goto (-259), 3) := by decide +kernel
theorem dX2_boundBetween_271 : decode cX2_boundBetween 271 = .ok (.lload 5, 2) := by decide +kernel
theorem dX2_boundBetween_273 : decode cX2_boundBetween 273 = .ok (.lload 7, 2) := by decide +kernel
theorem dX2_boundBetween_275 : decode cX2_boundBetween 275 = .ok (.iload 4, 2) := by decide +kernel
theorem dX2_boundBetween_277 : decode cX2_boundBetween 277 = .ok (.invokestatic 123, 3) := by decide +kernel
theorem dX2_boundBetween_280 : decode cX2_boundBetween 280 = .ok (.lreturn, 1) := by decide +kernel
theorem dX2_elsewhere_0 : decode cX2_elsewhere 0 = .ok (.iconst 0, 1) := by decide +kernel
theorem dX2_elsewhere_1 : decode cX2_elsewhere 1 = .ok (.istore_n 2, 1) := by decide +kernel
theorem dX2_elsewhere_2 : decode cX2_elsewhere 2 = .ok (.iconst 0, 1) := by decide +kernel
theorem dX2_elsewhere_3 : decode cX2_elsewhere 3 = .ok (.istore_n 3, 1) := by decide +kernel
theorem dX2_elsewhere_4 : decode cX2_elsewhere 4 = .ok (.iload_n 3, 1) := by decide +kernel
theorem dX2_elsewhere_5 : decode cX2_elsewhere 5 = .ok (.iconst 4, 1) := by decide +kernel
theorem dX2_elsewhere_6 : decode cX2_elsewhere 6 = .ok (.if_icmp .ge 148, 3) := by decide +kernel
theorem dX2_elsewhere_9 : decode cX2_elsewhere 9 = .ok (.aload_n 1, 1) := by decide +kernel
theorem dX2_elsewhere_10 : decode cX2_elsewhere 10 = .ok (.getfield 87, 3) := by decide +kernel
theorem dX2_elsewhere_13 : decode cX2_elsewhere 13 = .ok (.iload_n 3, 1) := by decide +kernel
theorem dX2_elsewhere_14 : decode cX2_elsewhere 14 = .ok (.iaload, 1) := by decide +kernel
theorem dX2_elsewhere_15 : decode cX2_elsewhere 15 = .ok (.ifCond .ne 6, 3) := by decide +kernel
theorem dX2_elsewhere_18 : decode cX2_elsewhere 18 = .ok (.goto 130, 3) := by decide +kernel
theorem dX2_elsewhere_21 : decode cX2_elsewhere 21 = .ok (.aload_n 0, 1) := by decide +kernel
theorem dX2_elsewhere_22 : decode cX2_elsewhere 22 = .ok (.getfield 32, 3) := by decide +kernel
theorem dX2_elsewhere_25 : decode cX2_elsewhere 25 = .ok (.invokevirtual 127, 3) := by decide +kernel
theorem dX2_elsewhere_28 : decode cX2_elsewhere 28 = .ok (.iconst 0, 1) := by decide +kernel
theorem dX2_elsewhere_29 : decode cX2_elsewhere 29 = .ok (.istore 4, 2) := by decide +kernel
theorem dX2_elsewhere_31 : decode cX2_elsewhere 31 = .ok (.iload 4, 2) := by decide +kernel
theorem dX2_elsewhere_33 : decode cX2_elsewhere 33 = .ok (.bipush 6, 2) := by decide +kernel
theorem dX2_elsewhere_35 : decode cX2_elsewhere 35 = .ok (.if_icmp .ge 45, 3) := by decide +kernel
theorem dX2_elsewhere_38 : decode cX2_elsewhere 38 = .ok (.aload_n 0, 1) := by decide +kernel
theorem dX2_elsewhere_39 : decode cX2_elsewhere 39 = .ok (.getfield 25, 3) := by decide +kernel
theorem dX2_elsewhere_42 : decode cX2_elsewhere 42 = .ok (.getfield 68, 3) := by decide +kernel
theorem dX2_elsewhere_45 : decode cX2_elsewhere 45 = .ok (.iload 4, 2) := by decide +kernel
theorem dX2_elsewhere_47 : decode cX2_elsewhere 47 = .ok (.invokestatic 102, 3) := by decide +kernel
theorem dX2_elsewhere_50 : decode cX2_elsewhere 50 = .ok (.ifCond .eq 24, 3) := by decide +kernel
theorem dX2_elsewhere_53 : decode cX2_elsewhere 53 = .ok (.aload_n 0, 1) := by decide +kernel
theorem dX2_elsewhere_54 : decode cX2_elsewhere 54 = .ok (.getfield 32, 3) := by decide +kernel
theorem dX2_elsewhere_57 : decode cX2_elsewhere 57 = .ok (.iload 4, 2) := by decide +kernel
theorem dX2_elsewhere_59 : decode cX2_elsewhere 59 = .ok (.aload_n 1, 1) := by decide +kernel
theorem dX2_elsewhere_60 : decode cX2_elsewhere 60 = .ok (.getfield 110, 3) := by decide +kernel
theorem dX2_elsewhere_63 : decode cX2_elsewhere 63 = .ok (.iload_n 3, 1) := by decide +kernel
theorem dX2_elsewhere_64 : decode cX2_elsewhere 64 = .ok (.iload 4, 2) := by decide +kernel
theorem dX2_elsewhere_66 : decode cX2_elsewhere 66 = .ok (.invokestatic 93, 3) := by decide +kernel
theorem dX2_elsewhere_69 : decode cX2_elsewhere 69 = .ok (.iaload, 1) := by decide +kernel
theorem dX2_elsewhere_70 : decode cX2_elsewhere 70 = .ok (.iconst 0, 1) := by decide +kernel
theorem dX2_elsewhere_71 : decode cX2_elsewhere 71 = .ok (.invokevirtual 130, 3) := by decide +kernel
theorem dX2_elsewhere_74 : decode cX2_elsewhere 74 = .ok (.iinc 4 1, 3) := by decide +kernel
theorem dX2_elsewhere_77 : decode cX2_elsewhere 77 = .ok (.goto (-46), 3) := by decide +kernel
theorem dX2_elsewhere_80 : decode cX2_elsewhere 80 = .ok (.aload_n 0, 1) := by decide +kernel
theorem dX2_elsewhere_81 : decode cX2_elsewhere 81 = .ok (.getfield 32, 3) := by decide +kernel
theorem dX2_elsewhere_84 : decode cX2_elsewhere 84 = .ok (.aload_n 1, 1) := by decide +kernel
theorem dX2_elsewhere_85 : decode cX2_elsewhere 85 = .ok (.aload_n 1, 1) := by decide +kernel
theorem dX2_elsewhere_86 : decode cX2_elsewhere 86 = .ok (.getfield 46, 3) := by decide +kernel
theorem dX2_elsewhere_89 : decode cX2_elsewhere 89 = .ok (.aload_n 1, 1) := by decide +kernel
theorem dX2_elsewhere_90 : decode cX2_elsewhere 90 = .ok (.getfield 87, 3) := by decide +kernel
theorem dX2_elsewhere_93 : decode cX2_elsewhere 93 = .ok (.iload_n 3, 1) := by decide +kernel
theorem dX2_elsewhere_94 : decode cX2_elsewhere 94 = .ok (.iaload, 1) := by decide +kernel
theorem dX2_elsewhere_95 : decode cX2_elsewhere 95 = .ok (.invokevirtual 134, 3) := by decide +kernel
theorem dX2_elsewhere_98 : decode cX2_elsewhere 98 = .ok (.ifCond .ne 6, 3) := by decide +kernel
theorem dX2_elsewhere_101 : decode cX2_elsewhere 101 = .ok (.bipush (-3), 2) := by decide +kernel
theorem dX2_elsewhere_103 : decode cX2_elsewhere 103 = .ok (.ireturn, 1) := by decide +kernel
theorem dX2_elsewhere_104 : decode cX2_elsewhere 104 = .ok (.iconst 0, 1) := by decide +kernel
theorem dX2_elsewhere_105 : decode cX2_elsewhere 105 = .ok (.istore 4, 2) := by decide +kernel
theorem dX2_elsewhere_107 : decode cX2_elsewhere 107 = .ok (.iload 4, 2) := by decide +kernel
theorem dX2_elsewhere_109 : decode cX2_elsewhere 109 = .ok (.bipush 6, 2) := by decide +kernel
theorem dX2_elsewhere_111 : decode cX2_elsewhere 111 = .ok (.if_icmp .ge 37, 3) := by decide +kernel
theorem dX2_elsewhere_114 : decode cX2_elsewhere 114 = .ok (.iload_n 2, 1) := by decide +kernel
theorem dX2_elsewhere_115 : decode cX2_elsewhere 115 = .ok (.aload_n 0, 1) := by decide +kernel
theorem dX2_elsewhere_116 : decode cX2_elsewhere 116 = .ok (.getfield 9, 3) := by decide +kernel
theorem dX2_elsewhere_119 : decode cX2_elsewhere 119 = .ok (.iload_n 3, 1) := by decide +kernel
theorem dX2_elsewhere_120 : decode cX2_elsewhere 120 = .ok (.iload 4, 2) := by decide +kernel
theorem dX2_elsewhere_122 : decode cX2_elsewhere 122 = .ok (.invokestatic 93, 3) := by decide +kernel
theorem dX2_elsewhere_125 : decode cX2_elsewhere 125 = .ok (.iaload, 1) := by decide +kernel
theorem dX2_elsewhere_126 : decode cX2_elsewhere 126 = .ok (.aload_n 0, 1) := by decide +kernel
theorem dX2_elsewhere_127 : decode cX2_elsewhere 127 = .ok (.getfield 32, 3) := by decide +kernel
theorem dX2_elsewhere_130 : decode cX2_elsewhere 130 = .ok (.getfield 137, 3) := by decide +kernel
theorem dX2_elsewhere_133 : decode cX2_elsewhere 133 = .ok (.iload 4, 2) := by decide +kernel
theorem dX2_elsewhere_135 : decode cX2_elsewhere 135 = .ok (.iaload, 1) := by decide +kernel
theorem dX2_elsewhere_136 : decode cX2_elsewhere 136 = .ok (.isub, 1) := by decide +kernel
theorem dX2_elsewhere_137 : decode cX2_elsewhere 137 = .ok (.invokestatic 140, 3) := by decide +kernel
theorem dX2_elsewhere_140 : decode cX2_elsewhere 140 = .ok (.iadd, 1) := by decide +kernel
theorem dX2_elsewhere_141 : decode cX2_elsewhere 141 = .ok (.istore_n 2, 1) := by decide +kernel
theorem dX2_elsewhere_142 : decode cX2_elsewhere 142 = .ok (.iinc 4 1, 3) := by decide +kernel
theorem dX2_elsewhere_145 : decode cX2_elsewhere 145 = .ok (.goto (-38), 3) := by decide +kernel
theorem dX2_elsewhere_148 : decode cX2_elsewhere 148 = .ok (.iinc 3 1, 3) := by decide +kernel
theorem dX2_elsewhere_151 : decode cX2_elsewhere 151 = .ok (.goto (-147), 3) := by decide +kernel
theorem dX2_elsewhere_154 : decode cX2_elsewhere 154 = .ok (.iload_n 2, 1) := by decide +kernel
theorem dX2_elsewhere_155 : decode cX2_elsewhere 155 = .ok (.iconst 2, 1) := by decide +kernel
theorem dX2_elsewhere_156 : decode cX2_elsewhere 156 = .ok (.idiv, 1) := by decide +kernel
theorem dX2_elsewhere_157 : decode cX2_elsewhere 157 = .ok (.ireturn, 1) := by decide +kernel
theorem dX3_init_0 : decode cX3_init 0 = .ok (.aload_n 0, 1) := by decide +kernel
theorem dX3_init_1 : decode cX3_init 1 = .ok (.invokespecial 3, 3) := by decide +kernel
theorem dX3_init_4 : decode cX3_init 4 = .ok (.aload_n 0, 1) := by decide +kernel
theorem dX3_init_5 : decode cX3_init 5 = .ok (.bipush 24, 2) := by decide +kernel
theorem dX3_init_7 : decode cX3_init 7 = .ok (.newarray .int, 2) := by decide +kernel
theorem dX3_init_9 : decode cX3_init 9 = .ok (.putfield 9, 3) := by decide +kernel
theorem dX3_init_12 : decode cX3_init 12 = .ok (.aload_n 0, 1) := by decide +kernel
theorem dX3_init_13 : decode cX3_init 13 = .ok (.iconst 4, 1) := by decide +kernel
theorem dX3_init_14 : decode cX3_init 14 = .ok (.newarray .int, 2) := by decide +kernel
theorem dX3_init_16 : decode cX3_init 16 = .ok (.putfield 15, 3) := by decide +kernel
theorem dX3_init_19 : decode cX3_init 19 = .ok (.aload_n 0, 1) := by decide +kernel
theorem dX3_init_20 : decode cX3_init 20 = .ok (.bipush 6, 2) := by decide +kernel
theorem dX3_init_22 : decode cX3_init 22 = .ok (.newarray .int, 2) := by decide +kernel
theorem dX3_init_24 : decode cX3_init 24 = .ok (.putfield 18, 3) := by decide +kernel
theorem dX3_init_27 : decode cX3_init 27 = .ok (.aload_n 0, 1) := by decide +kernel
theorem dX3_init_28 : decode cX3_init 28 = .ok (.bipush 6, 2) := by decide +kernel
theorem dX3_init_30 : decode cX3_init 30 = .ok (.newarray .int, 2) := by decide +kernel
theorem dX3_init_32 : decode cX3_init 32 = .ok (.putfield 21, 3) := by decide +kernel
theorem dX3_init_35 : decode cX3_init 35 = .ok (.aload_n 0, 1) := by decide +kernel
theorem dX3_init_36 : decode cX3_init 36 = .ok (.iconst 1, 1) := by decide +kernel
theorem dX3_init_37 : decode cX3_init 37 = .ok (.putfield 24, 3) := by decide +kernel
theorem dX3_init_40 : decode cX3_init 40 = .ok (.aload_n 0, 1) := by decide +kernel
theorem dX3_init_41 : decode cX3_init 41 = .ok (.iconst 2, 1) := by decide +kernel
theorem dX3_init_42 : decode cX3_init 42 = .ok (.putfield 28, 3) := by decide +kernel
theorem dX3_init_45 : decode cX3_init 45 = .ok (.iconst 0, 1) := by decide +kernel
theorem dX3_init_46 : decode cX3_init 46 = .ok (.istore_n 1, 1) := by decide +kernel
theorem dX3_init_47 : decode cX3_init 47 = .ok (.iload_n 1, 1) := by decide +kernel
theorem dX3_init_48 : decode cX3_init 48 = .ok (.bipush 6, 2) := by decide +kernel
theorem dX3_init_50 : decode cX3_init 50 = .ok (.if_icmp .ge 16, 3) := by decide +kernel
theorem dX3_init_53 : decode cX3_init 53 = .ok (.aload_n 0, 1) := by decide +kernel
theorem dX3_init_54 : decode cX3_init 54 = .ok (.getfield 21, 3) := by decide +kernel
theorem dX3_init_57 : decode cX3_init 57 = .ok (.iload_n 1, 1) := by decide +kernel
theorem dX3_init_58 : decode cX3_init 58 = .ok (.iload_n 1, 1) := by decide +kernel
theorem dX3_init_59 : decode cX3_init 59 = .ok (.iastore, 1) := by decide +kernel
theorem dX3_init_60 : decode cX3_init 60 = .ok (.iinc 1 1, 3) := by decide +kernel
theorem dX3_init_63 : decode cX3_init 63 = .ok (.goto (-16), 3) := by decide +kernel
theorem dX3_init_66 : decode cX3_init 66 = .ok (.return_, 1) := by decide +kernel
theorem dX3_copyFrom_0 : decode cX3_copyFrom 0 = .ok (.aload_n 1, 1) := by decide +kernel
theorem dX3_copyFrom_1 : decode cX3_copyFrom 1 = .ok (.getfield 9, 3) := by decide +kernel
theorem dX3_copyFrom_4 : decode cX3_copyFrom 4 = .ok (.iconst 0, 1) := by decide +kernel
theorem dX3_copyFrom_5 : decode cX3_copyFrom 5 = .ok (.aload_n 0, 1) := by decide +kernel
theorem dX3_copyFrom_6 : decode cX3_copyFrom 6 = .ok (.getfield 9, 3) := by decide +kernel
theorem dX3_copyFrom_9 : decode cX3_copyFrom 9 = .ok (.iconst 0, 1) := by decide +kernel
theorem dX3_copyFrom_10 : decode cX3_copyFrom 10 = .ok (.bipush 24, 2) := by decide +kernel
theorem dX3_copyFrom_12 : decode cX3_copyFrom 12 = .ok (.invokestatic 31, 3) := by decide +kernel
theorem dX3_copyFrom_15 : decode cX3_copyFrom 15 = .ok (.aload_n 1, 1) := by decide +kernel
theorem dX3_copyFrom_16 : decode cX3_copyFrom 16 = .ok (.getfield 15, 3) := by decide +kernel
theorem dX3_copyFrom_19 : decode cX3_copyFrom 19 = .ok (.iconst 0, 1) := by decide +kernel
theorem dX3_copyFrom_20 : decode cX3_copyFrom 20 = .ok (.aload_n 0, 1) := by decide +kernel
theorem dX3_copyFrom_21 : decode cX3_copyFrom 21 = .ok (.getfield 15, 3) := by decide +kernel
theorem dX3_copyFrom_24 : decode cX3_copyFrom 24 = .ok (.iconst 0, 1) := by decide +kernel
theorem dX3_copyFrom_25 : decode cX3_copyFrom 25 = .ok (.iconst 4, 1) := by decide +kernel
theorem dX3_copyFrom_26 : decode cX3_copyFrom 26 = .ok (.invokestatic 31, 3) := by decide +kernel
theorem dX3_copyFrom_29 : decode cX3_copyFrom 29 = .ok (.aload_n 1, 1) := by decide +kernel
theorem dX3_copyFrom_30 : decode cX3_copyFrom 30 = .ok (.getfield 18, 3) := by decide +kernel
theorem dX3_copyFrom_33 : decode cX3_copyFrom 33 = .ok (.iconst 0, 1) := by decide +kernel
theorem dX3_copyFrom_34 : decode cX3_copyFrom 34 = .ok (.aload_n 0, 1) := by decide +kernel
theorem dX3_copyFrom_35 : decode cX3_copyFrom 35 = .ok (.getfield 18, 3) := by decide +kernel
theorem dX3_copyFrom_38 : decode cX3_copyFrom 38 = .ok (.iconst 0, 1) := by decide +kernel
theorem dX3_copyFrom_39 : decode cX3_copyFrom 39 = .ok (.bipush 6, 2) := by decide +kernel
theorem dX3_copyFrom_41 : decode cX3_copyFrom 41 = .ok (.invokestatic 31, 3) := by decide +kernel
theorem dX3_copyFrom_44 : decode cX3_copyFrom 44 = .ok (.aload_n 1, 1) := by decide +kernel
theorem dX3_copyFrom_45 : decode cX3_copyFrom 45 = .ok (.getfield 21, 3) := by decide +kernel
theorem dX3_copyFrom_48 : decode cX3_copyFrom 48 = .ok (.iconst 0, 1) := by decide +kernel
theorem dX3_copyFrom_49 : decode cX3_copyFrom 49 = .ok (.aload_n 0, 1) := by decide +kernel
theorem dX3_copyFrom_50 : decode cX3_copyFrom 50 = .ok (.getfield 21, 3) := by decide +kernel
theorem dX3_copyFrom_53 : decode cX3_copyFrom 53 = .ok (.iconst 0, 1) := by decide +kernel
theorem dX3_copyFrom_54 : decode cX3_copyFrom 54 = .ok (.bipush 6, 2) := by decide +kernel
theorem dX3_copyFrom_56 : decode cX3_copyFrom 56 = .ok (.invokestatic 31, 3) := by decide +kernel
theorem dX3_copyFrom_59 : decode cX3_copyFrom 59 = .ok (.aload_n 0, 1) := by decide +kernel
theorem dX3_copyFrom_60 : decode cX3_copyFrom 60 = .ok (.aload_n 1, 1) := by decide +kernel
theorem dX3_copyFrom_61 : decode cX3_copyFrom 61 = .ok (.getfield 37, 3) := by decide +kernel
theorem dX3_copyFrom_64 : decode cX3_copyFrom 64 = .ok (.putfield 37, 3) := by decide +kernel
theorem dX3_copyFrom_67 : decode cX3_copyFrom 67 = .ok (.aload_n 0, 1) := by decide +kernel
theorem dX3_copyFrom_68 : decode cX3_copyFrom 68 = .ok (.aload_n 1, 1) := by decide +kernel
theorem dX3_copyFrom_69 : decode cX3_copyFrom 69 = .ok (.getfield 40, 3) := by decide +kernel
theorem dX3_copyFrom_72 : decode cX3_copyFrom 72 = .ok (.putfield 40, 3) := by decide +kernel
theorem dX3_copyFrom_75 : decode cX3_copyFrom 75 = .ok (.aload_n 0, 1) := by decide +kernel
theorem dX3_copyFrom_76 : decode cX3_copyFrom 76 = .ok (.aload_n 1, 1) := by decide +kernel
theorem dX3_copyFrom_77 : decode cX3_copyFrom 77 = .ok (.getfield 24, 3) := by decide +kernel
theorem dX3_copyFrom_80 : decode cX3_copyFrom 80 = .ok (.putfield 24, 3) := by decide +kernel
theorem dX3_copyFrom_83 : decode cX3_copyFrom 83 = .ok (.aload_n 0, 1) := by decide +kernel
theorem dX3_copyFrom_84 : decode cX3_copyFrom 84 = .ok (.aload_n 1, 1) := by decide +kernel
theorem dX3_copyFrom_85 : decode cX3_copyFrom 85 = .ok (.getfield 28, 3) := by decide +kernel
theorem dX3_copyFrom_88 : decode cX3_copyFrom 88 = .ok (.putfield 28, 3) := by decide +kernel
theorem dX3_copyFrom_91 : decode cX3_copyFrom 91 = .ok (.return_, 1) := by decide +kernel
theorem dX3_totalOf_0 : decode cX3_totalOf 0 = .ok (.iconst 0, 1) := by decide +kernel
theorem dX3_totalOf_1 : decode cX3_totalOf 1 = .ok (.istore_n 2, 1) := by decide +kernel
theorem dX3_totalOf_2 : decode cX3_totalOf 2 = .ok (.iconst 0, 1) := by decide +kernel
theorem dX3_totalOf_3 : decode cX3_totalOf 3 = .ok (.istore_n 3, 1) := by decide +kernel
theorem dX3_totalOf_4 : decode cX3_totalOf 4 = .ok (.iload_n 3, 1) := by decide +kernel
theorem dX3_totalOf_5 : decode cX3_totalOf 5 = .ok (.iconst 4, 1) := by decide +kernel
theorem dX3_totalOf_6 : decode cX3_totalOf 6 = .ok (.if_icmp .ge 22, 3) := by decide +kernel
theorem dX3_totalOf_9 : decode cX3_totalOf 9 = .ok (.iload_n 2, 1) := by decide +kernel
theorem dX3_totalOf_10 : decode cX3_totalOf 10 = .ok (.aload_n 0, 1) := by decide +kernel
theorem dX3_totalOf_11 : decode cX3_totalOf 11 = .ok (.getfield 9, 3) := by decide +kernel
theorem dX3_totalOf_14 : decode cX3_totalOf 14 = .ok (.iload_n 3, 1) := by decide +kernel
theorem dX3_totalOf_15 : decode cX3_totalOf 15 = .ok (.iload_n 1, 1) := by decide +kernel
theorem dX3_totalOf_16 : decode cX3_totalOf 16 = .ok (.invokestatic 43, 3) := by decide +kernel
theorem dX3_totalOf_19 : decode cX3_totalOf 19 = .ok (.iaload, 1) := by decide +kernel
theorem dX3_totalOf_20 : decode cX3_totalOf 20 = .ok (.iadd, 1) := by decide +kernel
theorem dX3_totalOf_21 : decode cX3_totalOf 21 = .ok (.istore_n 2, 1) := by decide +kernel
theorem dX3_totalOf_22 : decode cX3_totalOf 22 = .ok (.iinc 3 1, 3) := by decide +kernel
theorem dX3_totalOf_25 : decode cX3_totalOf 25 = .ok (.goto (-21), 3) := by decide +kernel
theorem dX3_totalOf_28 : decode cX3_totalOf 28 = .ok (.iload_n 2, 1) := by decide +kernel
theorem dX3_totalOf_29 : decode cX3_totalOf 29 = .ok (.ireturn, 1) := by decide +kernel
theorem dX3_sumOfWard_0 : decode cX3_sumOfWard 0 = .ok (.iconst 0, 1) := by decide +kernel
theorem dX3_sumOfWard_1 : decode cX3_sumOfWard 1 = .ok (.istore_n 2, 1) := by decide +kernel
theorem dX3_sumOfWard_2 : decode cX3_sumOfWard 2 = .ok (.iconst 0, 1) := by decide +kernel
theorem dX3_sumOfWard_3 : decode cX3_sumOfWard 3 = .ok (.istore_n 3, 1) := by decide +kernel
theorem dX3_sumOfWard_4 : decode cX3_sumOfWard 4 = .ok (.iload_n 3, 1) := by decide +kernel
theorem dX3_sumOfWard_5 : decode cX3_sumOfWard 5 = .ok (.bipush 6, 2) := by decide +kernel
theorem dX3_sumOfWard_7 : decode cX3_sumOfWard 7 = .ok (.if_icmp .ge 22, 3) := by decide +kernel
theorem dX3_sumOfWard_10 : decode cX3_sumOfWard 10 = .ok (.iload_n 2, 1) := by decide +kernel
theorem dX3_sumOfWard_11 : decode cX3_sumOfWard 11 = .ok (.aload_n 0, 1) := by decide +kernel
theorem dX3_sumOfWard_12 : decode cX3_sumOfWard 12 = .ok (.getfield 9, 3) := by decide +kernel
theorem dX3_sumOfWard_15 : decode cX3_sumOfWard 15 = .ok (.iload_n 1, 1) := by decide +kernel
theorem dX3_sumOfWard_16 : decode cX3_sumOfWard 16 = .ok (.iload_n 3, 1) := by decide +kernel
theorem dX3_sumOfWard_17 : decode cX3_sumOfWard 17 = .ok (.invokestatic 43, 3) := by decide +kernel
theorem dX3_sumOfWard_20 : decode cX3_sumOfWard 20 = .ok (.iaload, 1) := by decide +kernel
theorem dX3_sumOfWard_21 : decode cX3_sumOfWard 21 = .ok (.iadd, 1) := by decide +kernel
theorem dX3_sumOfWard_22 : decode cX3_sumOfWard 22 = .ok (.istore_n 2, 1) := by decide +kernel
theorem dX3_sumOfWard_23 : decode cX3_sumOfWard 23 = .ok (.iinc 3 1, 3) := by decide +kernel
theorem dX3_sumOfWard_26 : decode cX3_sumOfWard 26 = .ok (.goto (-22), 3) := by decide +kernel
theorem dX3_sumOfWard_29 : decode cX3_sumOfWard 29 = .ok (.iload_n 2, 1) := by decide +kernel
theorem dX3_sumOfWard_30 : decode cX3_sumOfWard 30 = .ok (.ireturn, 1) := by decide +kernel
theorem dX3_sumOfAll_0 : decode cX3_sumOfAll 0 = .ok (.iconst 0, 1) := by decide +kernel
theorem dX3_sumOfAll_1 : decode cX3_sumOfAll 1 = .ok (.istore_n 1, 1) := by decide +kernel
theorem dX3_sumOfAll_2 : decode cX3_sumOfAll 2 = .ok (.iconst 0, 1) := by decide +kernel
theorem dX3_sumOfAll_3 : decode cX3_sumOfAll 3 = .ok (.istore_n 2, 1) := by decide +kernel
theorem dX3_sumOfAll_4 : decode cX3_sumOfAll 4 = .ok (.iload_n 2, 1) := by decide +kernel
theorem dX3_sumOfAll_5 : decode cX3_sumOfAll 5 = .ok (.bipush 24, 2) := by decide +kernel
theorem dX3_sumOfAll_7 : decode cX3_sumOfAll 7 = .ok (.if_icmp .ge 18, 3) := by decide +kernel
theorem dX3_sumOfAll_10 : decode cX3_sumOfAll 10 = .ok (.iload_n 1, 1) := by decide +kernel
theorem dX3_sumOfAll_11 : decode cX3_sumOfAll 11 = .ok (.aload_n 0, 1) := by decide +kernel
theorem dX3_sumOfAll_12 : decode cX3_sumOfAll 12 = .ok (.getfield 9, 3) := by decide +kernel
theorem dX3_sumOfAll_15 : decode cX3_sumOfAll 15 = .ok (.iload_n 2, 1) := by decide +kernel
theorem dX3_sumOfAll_16 : decode cX3_sumOfAll 16 = .ok (.iaload, 1) := by decide +kernel
theorem dX3_sumOfAll_17 : decode cX3_sumOfAll 17 = .ok (.iadd, 1) := by decide +kernel
theorem dX3_sumOfAll_18 : decode cX3_sumOfAll 18 = .ok (.istore_n 1, 1) := by decide +kernel
theorem dX3_sumOfAll_19 : decode cX3_sumOfAll 19 = .ok (.iinc 2 1, 3) := by decide +kernel
theorem dX3_sumOfAll_22 : decode cX3_sumOfAll 22 = .ok (.goto (-18), 3) := by decide +kernel
theorem dX3_sumOfAll_25 : decode cX3_sumOfAll 25 = .ok (.iload_n 1, 1) := by decide +kernel
theorem dX3_sumOfAll_26 : decode cX3_sumOfAll 26 = .ok (.ireturn, 1) := by decide +kernel
theorem dX3_sumOfSeats_0 : decode cX3_sumOfSeats 0 = .ok (.iconst 0, 1) := by decide +kernel
theorem dX3_sumOfSeats_1 : decode cX3_sumOfSeats 1 = .ok (.istore_n 1, 1) := by decide +kernel
theorem dX3_sumOfSeats_2 : decode cX3_sumOfSeats 2 = .ok (.iconst 0, 1) := by decide +kernel
theorem dX3_sumOfSeats_3 : decode cX3_sumOfSeats 3 = .ok (.istore_n 2, 1) := by decide +kernel
theorem dX3_sumOfSeats_4 : decode cX3_sumOfSeats 4 = .ok (.iload_n 2, 1) := by decide +kernel
theorem dX3_sumOfSeats_5 : decode cX3_sumOfSeats 5 = .ok (.iconst 4, 1) := by decide +kernel
theorem dX3_sumOfSeats_6 : decode cX3_sumOfSeats 6 = .ok (.if_icmp .ge 18, 3) := by decide +kernel
theorem dX3_sumOfSeats_9 : decode cX3_sumOfSeats 9 = .ok (.iload_n 1, 1) := by decide +kernel
theorem dX3_sumOfSeats_10 : decode cX3_sumOfSeats 10 = .ok (.aload_n 0, 1) := by decide +kernel
theorem dX3_sumOfSeats_11 : decode cX3_sumOfSeats 11 = .ok (.getfield 15, 3) := by decide +kernel
theorem dX3_sumOfSeats_14 : decode cX3_sumOfSeats 14 = .ok (.iload_n 2, 1) := by decide +kernel
theorem dX3_sumOfSeats_15 : decode cX3_sumOfSeats 15 = .ok (.iaload, 1) := by decide +kernel
theorem dX3_sumOfSeats_16 : decode cX3_sumOfSeats 16 = .ok (.iadd, 1) := by decide +kernel
theorem dX3_sumOfSeats_17 : decode cX3_sumOfSeats 17 = .ok (.istore_n 1, 1) := by decide +kernel
theorem dX3_sumOfSeats_18 : decode cX3_sumOfSeats 18 = .ok (.iinc 2 1, 3) := by decide +kernel
theorem dX3_sumOfSeats_21 : decode cX3_sumOfSeats 21 = .ok (.goto (-17), 3) := by decide +kernel
theorem dX3_sumOfSeats_24 : decode cX3_sumOfSeats 24 = .ok (.iload_n 1, 1) := by decide +kernel
theorem dX3_sumOfSeats_25 : decode cX3_sumOfSeats 25 = .ok (.ireturn, 1) := by decide +kernel
theorem dX3_wardBits_0 : decode cX3_wardBits 0 = .ok (.iconst 0, 1) := by decide +kernel
theorem dX3_wardBits_1 : decode cX3_wardBits 1 = .ok (.istore_n 1, 1) := by decide +kernel
theorem dX3_wardBits_2 : decode cX3_wardBits 2 = .ok (.iconst 0, 1) := by decide +kernel
theorem dX3_wardBits_3 : decode cX3_wardBits 3 = .ok (.istore_n 2, 1) := by decide +kernel
theorem dX3_wardBits_4 : decode cX3_wardBits 4 = .ok (.iload_n 2, 1) := by decide +kernel
theorem dX3_wardBits_5 : decode cX3_wardBits 5 = .ok (.iconst 4, 1) := by decide +kernel
theorem dX3_wardBits_6 : decode cX3_wardBits 6 = .ok (.if_icmp .ge 24, 3) := by decide +kernel
theorem dX3_wardBits_9 : decode cX3_wardBits 9 = .ok (.aload_n 0, 1) := by decide +kernel
theorem dX3_wardBits_10 : decode cX3_wardBits 10 = .ok (.getfield 15, 3) := by decide +kernel
theorem dX3_wardBits_13 : decode cX3_wardBits 13 = .ok (.iload_n 2, 1) := by decide +kernel
theorem dX3_wardBits_14 : decode cX3_wardBits 14 = .ok (.iaload, 1) := by decide +kernel
theorem dX3_wardBits_15 : decode cX3_wardBits 15 = .ok (.ifCond .le 9, 3) := by decide +kernel
theorem dX3_wardBits_18 : decode cX3_wardBits 18 = .ok (.iload_n 1, 1) := by decide +kernel
theorem dX3_wardBits_19 : decode cX3_wardBits 19 = .ok (.iconst 1, 1) := by decide +kernel
theorem dX3_wardBits_20 : decode cX3_wardBits 20 = .ok (.iload_n 2, 1) := by decide +kernel
theorem dX3_wardBits_21 : decode cX3_wardBits 21 = .ok (.ishl, 1) := by decide +kernel
theorem dX3_wardBits_22 : decode cX3_wardBits 22 = .ok (.ior, 1) := by decide +kernel
theorem dX3_wardBits_23 : decode cX3_wardBits 23 = .ok (.istore_n 1, 1) := by decide +kernel
theorem dX3_wardBits_24 : decode cX3_wardBits 24 = .ok (.iinc 2 1, 3) := by decide +kernel
theorem dX3_wardBits_27 : decode cX3_wardBits 27 = .ok (.goto (-23), 3) := by decide +kernel
theorem dX3_wardBits_30 : decode cX3_wardBits 30 = .ok (.iload_n 1, 1) := by decide +kernel
theorem dX3_wardBits_31 : decode cX3_wardBits 31 = .ok (.ireturn, 1) := by decide +kernel
theorem dX3_inBits_0 : decode cX3_inBits 0 = .ok (.aload_n 0, 1) := by decide +kernel
theorem dX3_inBits_1 : decode cX3_inBits 1 = .ok (.getfield 37, 3) := by decide +kernel
theorem dX3_inBits_4 : decode cX3_inBits 4 = .ok (.i2l, 1) := by decide +kernel
theorem dX3_inBits_5 : decode cX3_inBits 5 = .ok (.aload_n 0, 1) := by decide +kernel
theorem dX3_inBits_6 : decode cX3_inBits 6 = .ok (.invokevirtual 47, 3) := by decide +kernel
theorem dX3_inBits_9 : decode cX3_inBits 9 = .ok (.i2l, 1) := by decide +kernel
theorem dX3_inBits_10 : decode cX3_inBits 10 = .ok (.lmul, 1) := by decide +kernel
theorem dX3_inBits_11 : decode cX3_inBits 11 = .ok (.lstore_n 1, 1) := by decide +kernel
theorem dX3_inBits_12 : decode cX3_inBits 12 = .ok (.iconst 0, 1) := by decide +kernel
theorem dX3_inBits_13 : decode cX3_inBits 13 = .ok (.istore_n 3, 1) := by decide +kernel
theorem dX3_inBits_14 : decode cX3_inBits 14 = .ok (.iconst 0, 1) := by decide +kernel
theorem dX3_inBits_15 : decode cX3_inBits 15 = .ok (.istore 4, 2) := by decide +kernel
theorem dX3_inBits_17 : decode cX3_inBits 17 = .ok (.iload 4, 2) := by decide +kernel
theorem dX3_inBits_19 : decode cX3_inBits 19 = .ok (.bipush 6, 2) := by decide +kernel
theorem dX3_inBits_21 : decode cX3_inBits 21 = .ok (.if_icmp .ge 43, 3) := by decide +kernel
theorem dX3_inBits_24 : decode cX3_inBits 24 = .ok (.aload_n 0, 1) := by decide +kernel
theorem dX3_inBits_25 : decode cX3_inBits 25 = .ok (.iload 4, 2) := by decide +kernel
theorem dX3_inBits_27 : decode cX3_inBits 27 = .ok (.invokevirtual 51, 3) := by decide +kernel
theorem dX3_inBits_30 : decode cX3_inBits 30 = .ok (.i2l, 1) := by decide +kernel
theorem dX3_inBits_31 : decode cX3_inBits 31 = .ok (.lstore 5, 2) := by decide +kernel
theorem dX3_inBits_33 : decode cX3_inBits 33 = .ok (.lload 5, 2) := by decide +kernel
theorem dX3_inBits_35 : decode cX3_inBits 35 = .ok (.lconst 0, 1) := by decide +kernel
theorem dX3_inBits_36 : decode cX3_inBits 36 = .ok (.lcmp, 1) := by decide +kernel
theorem dX3_inBits_37 : decode cX3_inBits 37 = .ok (.ifCond .le 21, 3) := by decide +kernel
theorem dX3_inBits_40 : decode cX3_inBits 40 = .ok (.ldc2_w 55, 3) := by decide +kernel
theorem dX3_inBits_43 : decode cX3_inBits 43 = .ok (.lload 5, 2) := by decide +kernel
theorem dX3_inBits_45 : decode cX3_inBits 45 = .ok (.lmul, 1) := by decide +kernel
theorem dX3_inBits_46 : decode cX3_inBits 46 = .ok (.lload_n 1, 1) := by decide +kernel
theorem dX3_inBits_47 : decode cX3_inBits 47 = .ok (.lcmp, 1) := by decide +kernel
theorem dX3_inBits_48 : decode cX3_inBits 48 = .ok (.ifCond .lt 10, 3) := by decide +kernel
theorem dX3_inBits_51 : decode cX3_inBits 51 = .ok (.iload_n 3, 1) := by decide +kernel
theorem dX3_inBits_52 : decode cX3_inBits 52 = .ok (.iconst 1, 1) := by decide +kernel
theorem dX3_inBits_53 : decode cX3_inBits 53 = .ok (.iload 4, 2) := by decide +kernel
theorem dX3_inBits_55 : decode cX3_inBits 55 = .ok (.ishl, 1) := by decide +kernel
theorem dX3_inBits_56 : decode cX3_inBits 56 = .ok (.ior, 1) := by decide +kernel
theorem dX3_inBits_57 : decode cX3_inBits 57 = .ok (.istore_n 3, 1) := by decide +kernel
theorem dX3_inBits_58 : decode cX3_inBits 58 = .ok (.iinc 4 1, 3) := by decide +kernel
theorem dX3_inBits_61 : decode cX3_inBits 61 = .ok (.goto (-44), 3) := by decide +kernel
theorem dX3_inBits_64 : decode cX3_inBits 64 = .ok (.iload_n 3, 1) := by decide +kernel
theorem dX3_inBits_65 : decode cX3_inBits 65 = .ok (.ireturn, 1) := by decide +kernel
theorem dX3_listBits_0 : decode cX3_listBits 0 = .ok (.aload_n 0, 1) := by decide +kernel
theorem dX3_listBits_1 : decode cX3_listBits 1 = .ok (.invokevirtual 57, 3) := by decide +kernel
theorem dX3_listBits_4 : decode cX3_listBits 4 = .ok (.istore_n 1, 1) := by decide +kernel
theorem dX3_listBits_5 : decode cX3_listBits 5 = .ok (.iconst 0, 1) := by decide +kernel
theorem dX3_listBits_6 : decode cX3_listBits 6 = .ok (.istore_n 2, 1) := by decide +kernel
theorem dX3_listBits_7 : decode cX3_listBits 7 = .ok (.iconst 0, 1) := by decide +kernel
theorem dX3_listBits_8 : decode cX3_listBits 8 = .ok (.istore_n 3, 1) := by decide +kernel
theorem dX3_listBits_9 : decode cX3_listBits 9 = .ok (.iload_n 3, 1) := by decide +kernel
theorem dX3_listBits_10 : decode cX3_listBits 10 = .ok (.bipush 6, 2) := by decide +kernel
theorem dX3_listBits_12 : decode cX3_listBits 12 = .ok (.if_icmp .ge 28, 3) := by decide +kernel
theorem dX3_listBits_15 : decode cX3_listBits 15 = .ok (.iload_n 1, 1) := by decide +kernel
theorem dX3_listBits_16 : decode cX3_listBits 16 = .ok (.iload_n 3, 1) := by decide +kernel
theorem dX3_listBits_17 : decode cX3_listBits 17 = .ok (.invokestatic 60, 3) := by decide +kernel
theorem dX3_listBits_20 : decode cX3_listBits 20 = .ok (.ifCond .eq 14, 3) := by decide +kernel
theorem dX3_listBits_23 : decode cX3_listBits 23 = .ok (.iload_n 2, 1) := by decide +kernel
theorem dX3_listBits_24 : decode cX3_listBits 24 = .ok (.iconst 1, 1) := by decide +kernel
theorem dX3_listBits_25 : decode cX3_listBits 25 = .ok (.aload_n 0, 1) := by decide +kernel
theorem dX3_listBits_26 : decode cX3_listBits 26 = .ok (.getfield 21, 3) := by decide +kernel
theorem dX3_listBits_29 : decode cX3_listBits 29 = .ok (.iload_n 3, 1) := by decide +kernel
theorem dX3_listBits_30 : decode cX3_listBits 30 = .ok (.iaload, 1) := by decide +kernel
theorem dX3_listBits_31 : decode cX3_listBits 31 = .ok (.ishl, 1) := by decide +kernel
theorem dX3_listBits_32 : decode cX3_listBits 32 = .ok (.ior, 1) := by decide +kernel
theorem dX3_listBits_33 : decode cX3_listBits 33 = .ok (.istore_n 2, 1) := by decide +kernel
theorem dX3_listBits_34 : decode cX3_listBits 34 = .ok (.iinc 3 1, 3) := by decide +kernel
theorem dX3_listBits_37 : decode cX3_listBits 37 = .ok (.goto (-28), 3) := by decide +kernel
theorem dX3_listBits_40 : decode cX3_listBits 40 = .ok (.iload_n 2, 1) := by decide +kernel
theorem dX3_listBits_41 : decode cX3_listBits 41 = .ok (.ireturn, 1) := by decide +kernel
theorem dX3_markAbove_0 : decode cX3_markAbove 0 = .ok (.iload_n 1, 1) := by decide +kernel
theorem dX3_markAbove_1 : decode cX3_markAbove 1 = .ok (.tableswitch 72 0 4 #[35, 38, 47, 52, 60], 35) := by decide +kernel
theorem dX3_markAbove_36 : decode cX3_markAbove 36 = .ok (.iload_n 2, 1) := by decide +kernel
theorem dX3_markAbove_37 : decode cX3_markAbove 37 = .ok (.i2l, 1) := by decide +kernel
theorem dX3_markAbove_38 : decode cX3_markAbove 38 = .ok (.lreturn, 1) := by decide +kernel
theorem dX3_markAbove_39 : decode cX3_markAbove 39 = .ok (.ldc2_w 64, 3) := by decide +kernel
theorem dX3_markAbove_42 : decode cX3_markAbove 42 = .ok (.iload_n 2, 1) := by decide +kernel
theorem dX3_markAbove_43 : decode cX3_markAbove 43 = .ok (.i2l, 1) := by decide +kernel
theorem dX3_markAbove_44 : decode cX3_markAbove 44 = .ok (.lmul, 1) := by decide +kernel
theorem dX3_markAbove_45 : decode cX3_markAbove 45 = .ok (.lconst 1, 1) := by decide +kernel
theorem dX3_markAbove_46 : decode cX3_markAbove 46 = .ok (.lsub, 1) := by decide +kernel
theorem dX3_markAbove_47 : decode cX3_markAbove 47 = .ok (.lreturn, 1) := by decide +kernel
theorem dX3_markAbove_48 : decode cX3_markAbove 48 = .ok (.iload_n 2, 1) := by decide +kernel
theorem dX3_markAbove_49 : decode cX3_markAbove 49 = .ok (.iconst 1, 1) := by decide +kernel
theorem dX3_markAbove_50 : decode cX3_markAbove 50 = .ok (.isub, 1) := by decide +kernel
theorem dX3_markAbove_51 : decode cX3_markAbove 51 = .ok (.i2l, 1) := by decide +kernel
theorem dX3_markAbove_52 : decode cX3_markAbove 52 = .ok (.lreturn, 1) := by decide +kernel
theorem dX3_markAbove_53 : decode cX3_markAbove 53 = .ok (.iload_n 2, 1) := by decide +kernel
theorem dX3_markAbove_54 : decode cX3_markAbove 54 = .ok (.i2l, 1) := by decide +kernel
theorem dX3_markAbove_55 : decode cX3_markAbove 55 = .ok (.iload_n 2, 1) := by decide +kernel
theorem dX3_markAbove_56 : decode cX3_markAbove 56 = .ok (.iconst 1, 1) := by decide +kernel
theorem dX3_markAbove_57 : decode cX3_markAbove 57 = .ok (.isub, 1) := by decide +kernel
theorem dX3_markAbove_58 : decode cX3_markAbove 58 = .ok (.i2l, 1) := by decide +kernel
theorem dX3_markAbove_59 : decode cX3_markAbove 59 = .ok (.lmul, 1) := by decide +kernel
theorem dX3_markAbove_60 : decode cX3_markAbove 60 = .ok (.lreturn, 1) := by decide +kernel
theorem dX3_markAbove_61 : decode cX3_markAbove 61 = .ok (.ldc2_w 64, 3) := by decide +kernel
theorem dX3_markAbove_64 : decode cX3_markAbove 64 = .ok (.iload_n 2, 1) := by decide +kernel
theorem dX3_markAbove_65 : decode cX3_markAbove 65 = .ok (.i2l, 1) := by decide +kernel
theorem dX3_markAbove_66 : decode cX3_markAbove 66 = .ok (.lmul, 1) := by decide +kernel
theorem dX3_markAbove_67 : decode cX3_markAbove 67 = .ok (.iload_n 2, 1) := by decide +kernel
theorem dX3_markAbove_68 : decode cX3_markAbove 68 = .ok (.iconst 1, 1) := by decide +kernel
theorem dX3_markAbove_69 : decode cX3_markAbove 69 = .ok (.isub, 1) := by decide +kernel
theorem dX3_markAbove_70 : decode cX3_markAbove 70 = .ok (.i2l, 1) := by decide +kernel
theorem dX3_markAbove_71 : decode cX3_markAbove 71 = .ok (.lmul, 1) := by decide +kernel
theorem dX3_markAbove_72 : decode cX3_markAbove 72 = .ok (.lreturn, 1) := by decide +kernel
theorem dX3_markAbove_73 : decode cX3_markAbove 73 = .ok (.aload_n 0, 1) := by decide +kernel
theorem dX3_markAbove_74 : decode cX3_markAbove 74 = .ok (.getfield 28, 3) := by decide +kernel
theorem dX3_markAbove_77 : decode cX3_markAbove 77 = .ok (.i2l, 1) := by decide +kernel
theorem dX3_markAbove_78 : decode cX3_markAbove 78 = .ok (.iload_n 2, 1) := by decide +kernel
theorem dX3_markAbove_79 : decode cX3_markAbove 79 = .ok (.iconst 1, 1) := by decide +kernel
theorem dX3_markAbove_80 : decode cX3_markAbove 80 = .ok (.isub, 1) := by decide +kernel
theorem dX3_markAbove_81 : decode cX3_markAbove 81 = .ok (.i2l, 1) := by decide +kernel
theorem dX3_markAbove_82 : decode cX3_markAbove 82 = .ok (.lmul, 1) := by decide +kernel
theorem dX3_markAbove_83 : decode cX3_markAbove 83 = .ok (.aload_n 0, 1) := by decide +kernel
theorem dX3_markAbove_84 : decode cX3_markAbove 84 = .ok (.getfield 24, 3) := by decide +kernel
theorem dX3_markAbove_87 : decode cX3_markAbove 87 = .ok (.i2l, 1) := by decide +kernel
theorem dX3_markAbove_88 : decode cX3_markAbove 88 = .ok (.ladd, 1) := by decide +kernel
theorem dX3_markAbove_89 : decode cX3_markAbove 89 = .ok (.lreturn, 1) := by decide +kernel
theorem dX3_priceAbove_0 : decode cX3_priceAbove 0 = .ok (.iload_n 1, 1) := by decide +kernel
theorem dX3_priceAbove_1 : decode cX3_priceAbove 1 = .ok (.tableswitch 65 1 5 #[35, 65, 41, 45, 57], 35) := by decide +kernel
theorem dX3_priceAbove_36 : decode cX3_priceAbove 36 = .ok (.lload_n 2, 1) := by decide +kernel
theorem dX3_priceAbove_37 : decode cX3_priceAbove 37 = .ok (.ldc2_w 64, 3) := by decide +kernel
theorem dX3_priceAbove_40 : decode cX3_priceAbove 40 = .ok (.lmul, 1) := by decide +kernel
theorem dX3_priceAbove_41 : decode cX3_priceAbove 41 = .ok (.lreturn, 1) := by decide +kernel
theorem dX3_priceAbove_42 : decode cX3_priceAbove 42 = .ok (.lload_n 2, 1) := by decide +kernel
theorem dX3_priceAbove_43 : decode cX3_priceAbove 43 = .ok (.lload_n 2, 1) := by decide +kernel
theorem dX3_priceAbove_44 : decode cX3_priceAbove 44 = .ok (.lmul, 1) := by decide +kernel
theorem dX3_priceAbove_45 : decode cX3_priceAbove 45 = .ok (.lreturn, 1) := by decide +kernel
theorem dX3_priceAbove_46 : decode cX3_priceAbove 46 = .ok (.lload_n 2, 1) := by decide +kernel
theorem dX3_priceAbove_47 : decode cX3_priceAbove 47 = .ok (.ldc2_w 64, 3) := by decide +kernel
theorem dX3_priceAbove_50 : decode cX3_priceAbove 50 = .ok (.iload 4, 2) := by decide +kernel
theorem dX3_priceAbove_52 : decode cX3_priceAbove 52 = .ok (.i2l, 1) := by decide +kernel
theorem dX3_priceAbove_53 : decode cX3_priceAbove 53 = .ok (.lmul, 1) := by decide +kernel
theorem dX3_priceAbove_54 : decode cX3_priceAbove 54 = .ok (.lconst 1, 1) := by decide +kernel
theorem dX3_priceAbove_55 : decode cX3_priceAbove 55 = .ok (.lsub, 1) := by decide +kernel
theorem dX3_priceAbove_56 : decode cX3_priceAbove 56 = .ok (.lmul, 1) := by decide +kernel
theorem dX3_priceAbove_57 : decode cX3_priceAbove 57 = .ok (.lreturn, 1) := by decide +kernel
theorem dX3_priceAbove_58 : decode cX3_priceAbove 58 = .ok (.lload_n 2, 1) := by decide +kernel
theorem dX3_priceAbove_59 : decode cX3_priceAbove 59 = .ok (.aload_n 0, 1) := by decide +kernel
theorem dX3_priceAbove_60 : decode cX3_priceAbove 60 = .ok (.getfield 28, 3) := by decide +kernel
theorem dX3_priceAbove_63 : decode cX3_priceAbove 63 = .ok (.i2l, 1) := by decide +kernel
theorem dX3_priceAbove_64 : decode cX3_priceAbove 64 = .ok (.lmul, 1) := by decide +kernel
theorem dX3_priceAbove_65 : decode cX3_priceAbove 65 = .ok (.lreturn, 1) := by decide +kernel
theorem dX3_priceAbove_66 : decode cX3_priceAbove 66 = .ok (.lload_n 2, 1) := by decide +kernel
theorem dX3_priceAbove_67 : decode cX3_priceAbove 67 = .ok (.lreturn, 1) := by decide +kernel
theorem dX3_planMarkBelow_0 : decode cX3_planMarkBelow 0 = .ok (.aload_n 0, 1) := by decide +kernel
theorem dX3_planMarkBelow_1 : decode cX3_planMarkBelow 1 = .ok (.aload_n 0, 1) := by decide +kernel
theorem dX3_planMarkBelow_2 : decode cX3_planMarkBelow 2 = .ok (.getfield 40, 3) := by decide +kernel
theorem dX3_planMarkBelow_5 : decode cX3_planMarkBelow 5 = .ok (.lconst 1, 1) := by decide +kernel
theorem dX3_planMarkBelow_6 : decode cX3_planMarkBelow 6 = .ok (.iconst 1, 1) := by decide +kernel
theorem dX3_planMarkBelow_7 : decode cX3_planMarkBelow 7 = .ok (.invokevirtual 66, 3) := by decide +kernel
theorem dX3_planMarkBelow_10 : decode cX3_planMarkBelow 10 = .ok (.lreturn, 1) := by decide +kernel
theorem dX4_init_0 : decode cX4_init 0 = .ok (.aload_n 0, 1) := by decide +kernel
theorem dX4_init_1 : decode cX4_init 1 = .ok (.invokespecial 3, 3) := by decide +kernel
theorem dX4_init_4 : decode cX4_init 4 = .ok (.aload_n 0, 1) := by decide +kernel
theorem dX4_init_5 : decode cX4_init 5 = .ok (.iconst 4, 1) := by decide +kernel
theorem dX4_init_6 : decode cX4_init 6 = .ok (.newarray .int, 2) := by decide +kernel
theorem dX4_init_8 : decode cX4_init 8 = .ok (.putfield 9, 3) := by decide +kernel
theorem dX4_init_11 : decode cX4_init 11 = .ok (.aload_n 0, 1) := by decide +kernel
theorem dX4_init_12 : decode cX4_init 12 = .ok (.iconst 4, 1) := by decide +kernel
theorem dX4_init_13 : decode cX4_init 13 = .ok (.newarray .int, 2) := by decide +kernel
theorem dX4_init_15 : decode cX4_init 15 = .ok (.putfield 15, 3) := by decide +kernel
theorem dX4_init_18 : decode cX4_init 18 = .ok (.aload_n 0, 1) := by decide +kernel
theorem dX4_init_19 : decode cX4_init 19 = .ok (.iconst 4, 1) := by decide +kernel
theorem dX4_init_20 : decode cX4_init 20 = .ok (.newarray .int, 2) := by decide +kernel
theorem dX4_init_22 : decode cX4_init 22 = .ok (.putfield 18, 3) := by decide +kernel
theorem dX4_init_25 : decode cX4_init 25 = .ok (.aload_n 0, 1) := by decide +kernel
theorem dX4_init_26 : decode cX4_init 26 = .ok (.iconst 4, 1) := by decide +kernel
theorem dX4_init_27 : decode cX4_init 27 = .ok (.newarray .int, 2) := by decide +kernel
theorem dX4_init_29 : decode cX4_init 29 = .ok (.putfield 21, 3) := by decide +kernel
theorem dX4_init_32 : decode cX4_init 32 = .ok (.aload_n 0, 1) := by decide +kernel
theorem dX4_init_33 : decode cX4_init 33 = .ok (.bipush 24, 2) := by decide +kernel
theorem dX4_init_35 : decode cX4_init 35 = .ok (.newarray .int, 2) := by decide +kernel
theorem dX4_init_37 : decode cX4_init 37 = .ok (.putfield 24, 3) := by decide +kernel
theorem dX4_init_40 : decode cX4_init 40 = .ok (.aload_n 0, 1) := by decide +kernel
theorem dX4_init_41 : decode cX4_init 41 = .ok (.bipush 24, 2) := by decide +kernel
theorem dX4_init_43 : decode cX4_init 43 = .ok (.newarray .int, 2) := by decide +kernel
theorem dX4_init_45 : decode cX4_init 45 = .ok (.putfield 27, 3) := by decide +kernel
theorem dX4_init_48 : decode cX4_init 48 = .ok (.aload_n 0, 1) := by decide +kernel
theorem dX4_init_49 : decode cX4_init 49 = .ok (.bipush 24, 2) := by decide +kernel
theorem dX4_init_51 : decode cX4_init 51 = .ok (.newarray .long, 2) := by decide +kernel
theorem dX4_init_53 : decode cX4_init 53 = .ok (.putfield 30, 3) := by decide +kernel
theorem dX4_init_56 : decode cX4_init 56 = .ok (.aload_n 0, 1) := by decide +kernel
theorem dX4_init_57 : decode cX4_init 57 = .ok (.bipush 24, 2) := by decide +kernel
theorem dX4_init_59 : decode cX4_init 59 = .ok (.newarray .long, 2) := by decide +kernel
theorem dX4_init_61 : decode cX4_init 61 = .ok (.putfield 34, 3) := by decide +kernel
theorem dX4_init_64 : decode cX4_init 64 = .ok (.return_, 1) := by decide +kernel
theorem dX4_layOut_0 : decode cX4_layOut 0 = .ok (.aload_n 0, 1) := by decide +kernel
theorem dX4_layOut_1 : decode cX4_layOut 1 = .ok (.iload_n 1, 1) := by decide +kernel
theorem dX4_layOut_2 : decode cX4_layOut 2 = .ok (.putfield 37, 3) := by decide +kernel
theorem dX4_layOut_5 : decode cX4_layOut 5 = .ok (.aload_n 0, 1) := by decide +kernel
theorem dX4_layOut_6 : decode cX4_layOut 6 = .ok (.iload_n 2, 1) := by decide +kernel
theorem dX4_layOut_7 : decode cX4_layOut 7 = .ok (.putfield 41, 3) := by decide +kernel
theorem dX4_layOut_10 : decode cX4_layOut 10 = .ok (.return_, 1) := by decide +kernel
theorem dX4_firstBetter_0 : decode cX4_firstBetter 0 = .ok (.aload_n 1, 1) := by decide +kernel
theorem dX4_firstBetter_1 : decode cX4_firstBetter 1 = .ok (.getfield 44, 3) := by decide +kernel
theorem dX4_firstBetter_4 : decode cX4_firstBetter 4 = .ok (.iconst 0, 1) := by decide +kernel
theorem dX4_firstBetter_5 : decode cX4_firstBetter 5 = .ok (.aload_n 0, 1) := by decide +kernel
theorem dX4_firstBetter_6 : decode cX4_firstBetter 6 = .ok (.getfield 27, 3) := by decide +kernel
theorem dX4_firstBetter_9 : decode cX4_firstBetter 9 = .ok (.iconst 0, 1) := by decide +kernel
theorem dX4_firstBetter_10 : decode cX4_firstBetter 10 = .ok (.bipush 24, 2) := by decide +kernel
theorem dX4_firstBetter_12 : decode cX4_firstBetter 12 = .ok (.invokestatic 47, 3) := by decide +kernel
theorem dX4_firstBetter_15 : decode cX4_firstBetter 15 = .ok (.aload_n 2, 1) := by decide +kernel
theorem dX4_firstBetter_16 : decode cX4_firstBetter 16 = .ok (.iconst 0, 1) := by decide +kernel
theorem dX4_firstBetter_17 : decode cX4_firstBetter 17 = .ok (.aload_n 0, 1) := by decide +kernel
theorem dX4_firstBetter_18 : decode cX4_firstBetter 18 = .ok (.getfield 24, 3) := by decide +kernel
theorem dX4_firstBetter_21 : decode cX4_firstBetter 21 = .ok (.iconst 0, 1) := by decide +kernel
theorem dX4_firstBetter_22 : decode cX4_firstBetter 22 = .ok (.bipush 24, 2) := by decide +kernel
theorem dX4_firstBetter_24 : decode cX4_firstBetter 24 = .ok (.invokestatic 47, 3) := by decide +kernel
theorem dX4_firstBetter_27 : decode cX4_firstBetter 27 = .ok (.aload_n 0, 1) := by decide +kernel
theorem dX4_firstBetter_28 : decode cX4_firstBetter 28 = .ok (.aload_n 1, 1) := by decide +kernel
theorem dX4_firstBetter_29 : decode cX4_firstBetter 29 = .ok (.invokevirtual 53, 3) := by decide +kernel
theorem dX4_firstBetter_32 : decode cX4_firstBetter 32 = .ok (.putfield 57, 3) := by decide +kernel
theorem dX4_firstBetter_35 : decode cX4_firstBetter 35 = .ok (.iconst 0, 1) := by decide +kernel
theorem dX4_firstBetter_36 : decode cX4_firstBetter 36 = .ok (.istore_n 3, 1) := by decide +kernel
theorem dX4_firstBetter_37 : decode cX4_firstBetter 37 = .ok (.iload_n 3, 1) := by decide +kernel
theorem dX4_firstBetter_38 : decode cX4_firstBetter 38 = .ok (.bipush 24, 2) := by decide +kernel
theorem dX4_firstBetter_40 : decode cX4_firstBetter 40 = .ok (.if_icmp .ge 51, 3) := by decide +kernel
theorem dX4_firstBetter_43 : decode cX4_firstBetter 43 = .ok (.aload_n 0, 1) := by decide +kernel
theorem dX4_firstBetter_44 : decode cX4_firstBetter 44 = .ok (.getfield 30, 3) := by decide +kernel
theorem dX4_firstBetter_47 : decode cX4_firstBetter 47 = .ok (.iload_n 3, 1) := by decide +kernel
theorem dX4_firstBetter_48 : decode cX4_firstBetter 48 = .ok (.aload_n 1, 1) := by decide +kernel
theorem dX4_firstBetter_49 : decode cX4_firstBetter 49 = .ok (.aload_n 1, 1) := by decide +kernel
theorem dX4_firstBetter_50 : decode cX4_firstBetter 50 = .ok (.getfield 61, 3) := by decide +kernel
theorem dX4_firstBetter_53 : decode cX4_firstBetter 53 = .ok (.aload_n 0, 1) := by decide +kernel
theorem dX4_firstBetter_54 : decode cX4_firstBetter 54 = .ok (.getfield 24, 3) := by decide +kernel
theorem dX4_firstBetter_57 : decode cX4_firstBetter 57 = .ok (.iload_n 3, 1) := by decide +kernel
theorem dX4_firstBetter_58 : decode cX4_firstBetter 58 = .ok (.iaload, 1) := by decide +kernel
theorem dX4_firstBetter_59 : decode cX4_firstBetter 59 = .ok (.iconst 1, 1) := by decide +kernel
theorem dX4_firstBetter_60 : decode cX4_firstBetter 60 = .ok (.iadd, 1) := by decide +kernel
theorem dX4_firstBetter_61 : decode cX4_firstBetter 61 = .ok (.invokevirtual 64, 3) := by decide +kernel
theorem dX4_firstBetter_64 : decode cX4_firstBetter 64 = .ok (.lastore, 1) := by decide +kernel
theorem dX4_firstBetter_65 : decode cX4_firstBetter 65 = .ok (.aload_n 0, 1) := by decide +kernel
theorem dX4_firstBetter_66 : decode cX4_firstBetter 66 = .ok (.getfield 34, 3) := by decide +kernel
theorem dX4_firstBetter_69 : decode cX4_firstBetter 69 = .ok (.iload_n 3, 1) := by decide +kernel
theorem dX4_firstBetter_70 : decode cX4_firstBetter 70 = .ok (.aload_n 1, 1) := by decide +kernel
theorem dX4_firstBetter_71 : decode cX4_firstBetter 71 = .ok (.aload_n 1, 1) := by decide +kernel
theorem dX4_firstBetter_72 : decode cX4_firstBetter 72 = .ok (.getfield 61, 3) := by decide +kernel
theorem dX4_firstBetter_75 : decode cX4_firstBetter 75 = .ok (.aload_n 0, 1) := by decide +kernel
theorem dX4_firstBetter_76 : decode cX4_firstBetter 76 = .ok (.getfield 24, 3) := by decide +kernel
theorem dX4_firstBetter_79 : decode cX4_firstBetter 79 = .ok (.iload_n 3, 1) := by decide +kernel
theorem dX4_firstBetter_80 : decode cX4_firstBetter 80 = .ok (.iaload, 1) := by decide +kernel
theorem dX4_firstBetter_81 : decode cX4_firstBetter 81 = .ok (.invokevirtual 64, 3) := by decide +kernel
theorem dX4_firstBetter_84 : decode cX4_firstBetter 84 = .ok (.lastore, 1) := by decide +kernel
theorem dX4_firstBetter_85 : decode cX4_firstBetter 85 = .ok (.iinc 3 1, 3) := by decide +kernel
theorem dX4_firstBetter_88 : decode cX4_firstBetter 88 = .ok (.goto (-51), 3) := by decide +kernel
theorem dX4_firstBetter_91 : decode cX4_firstBetter 91 = .ok (.aload_n 0, 1) := by decide +kernel
theorem dX4_firstBetter_92 : decode cX4_firstBetter 92 = .ok (.getfield 37, 3) := by decide +kernel
theorem dX4_firstBetter_95 : decode cX4_firstBetter 95 = .ok (.invokestatic 68, 3) := by decide +kernel
theorem dX4_firstBetter_98 : decode cX4_firstBetter 98 = .ok (.aload_n 0, 1) := by decide +kernel
theorem dX4_firstBetter_99 : decode cX4_firstBetter 99 = .ok (.getfield 41, 3) := by decide +kernel
theorem dX4_firstBetter_102 : decode cX4_firstBetter 102 = .ok (.invokestatic 68, 3) := by decide +kernel
theorem dX4_firstBetter_105 : decode cX4_firstBetter 105 = .ok (.invokestatic 74, 3) := by decide +kernel
theorem dX4_firstBetter_108 : decode cX4_firstBetter 108 = .ok (.istore_n 3, 1) := by decide +kernel
theorem dX4_firstBetter_109 : decode cX4_firstBetter 109 = .ok (.iconst 2, 1) := by decide +kernel
theorem dX4_firstBetter_110 : decode cX4_firstBetter 110 = .ok (.istore 4, 2) := by decide +kernel
theorem dX4_firstBetter_112 : decode cX4_firstBetter 112 = .ok (.iload 4, 2) := by decide +kernel
theorem dX4_firstBetter_114 : decode cX4_firstBetter 114 = .ok (.iconst 4, 1) := by decide +kernel
theorem dX4_firstBetter_115 : decode cX4_firstBetter 115 = .ok (.if_icmp .gt 40, 3) := by decide +kernel
theorem dX4_firstBetter_118 : decode cX4_firstBetter 118 = .ok (.iload 4, 2) := by decide +kernel
theorem dX4_firstBetter_120 : decode cX4_firstBetter 120 = .ok (.iload_n 3, 1) := by decide +kernel
theorem dX4_firstBetter_121 : decode cX4_firstBetter 121 = .ok (.if_icmp .gt 34, 3) := by decide +kernel
theorem dX4_firstBetter_124 : decode cX4_firstBetter 124 = .ok (.aload_n 0, 1) := by decide +kernel
theorem dX4_firstBetter_125 : decode cX4_firstBetter 125 = .ok (.iload 4, 2) := by decide +kernel
theorem dX4_firstBetter_127 : decode cX4_firstBetter 127 = .ok (.putfield 80, 3) := by decide +kernel
theorem dX4_firstBetter_130 : decode cX4_firstBetter 130 = .ok (.aload_n 0, 1) := by decide +kernel
theorem dX4_firstBetter_131 : decode cX4_firstBetter 131 = .ok (.iconst 0, 1) := by decide +kernel
theorem dX4_firstBetter_132 : decode cX4_firstBetter 132 = .ok (.aload_n 0, 1) := by decide +kernel
theorem dX4_firstBetter_133 : decode cX4_firstBetter 133 = .ok (.getfield 37, 3) := by decide +kernel
theorem dX4_firstBetter_136 : decode cX4_firstBetter 136 = .ok (.invokevirtual 83, 3) := by decide +kernel
theorem dX4_firstBetter_139 : decode cX4_firstBetter 139 = .ok (.istore 5, 2) := by decide +kernel
theorem dX4_firstBetter_141 : decode cX4_firstBetter 141 = .ok (.iload 5, 2) := by decide +kernel
theorem dX4_firstBetter_143 : decode cX4_firstBetter 143 = .ok (.ifCond .eq 6, 3) := by decide +kernel
theorem dX4_firstBetter_146 : decode cX4_firstBetter 146 = .ok (.iload 5, 2) := by decide +kernel
theorem dX4_firstBetter_148 : decode cX4_firstBetter 148 = .ok (.ireturn, 1) := by decide +kernel
theorem dX4_firstBetter_149 : decode cX4_firstBetter 149 = .ok (.iinc 4 1, 3) := by decide +kernel
theorem dX4_firstBetter_152 : decode cX4_firstBetter 152 = .ok (.goto (-40), 3) := by decide +kernel
theorem dX4_firstBetter_155 : decode cX4_firstBetter 155 = .ok (.iconst 0, 1) := by decide +kernel
theorem dX4_firstBetter_156 : decode cX4_firstBetter 156 = .ok (.ireturn, 1) := by decide +kernel
theorem dX4_pickWard_0 : decode cX4_pickWard 0 = .ok (.iload_n 1, 1) := by decide +kernel
theorem dX4_pickWard_1 : decode cX4_pickWard 1 = .ok (.aload_n 0, 1) := by decide +kernel
theorem dX4_pickWard_2 : decode cX4_pickWard 2 = .ok (.getfield 80, 3) := by decide +kernel
theorem dX4_pickWard_5 : decode cX4_pickWard 5 = .ok (.if_icmp .ge 8, 3) := by decide +kernel
theorem dX4_pickWard_8 : decode cX4_pickWard 8 = .ok (.iload_n 1, 1) := by decide +kernel
theorem dX4_pickWard_9 : decode cX4_pickWard 9 = .ok (.iconst 4, 1) := by decide +kernel
theorem dX4_pickWard_10 : decode cX4_pickWard 10 = .ok (.if_icmp .lt 13, 3) := by decide +kernel
theorem dX4_pickWard_13 : decode cX4_pickWard 13 = .ok (.aload_n 0, 1) := by decide +kernel
theorem dX4_pickWard_14 : decode cX4_pickWard 14 = .ok (.iconst 0, 1) := by decide +kernel
theorem dX4_pickWard_15 : decode cX4_pickWard 15 = .ok (.aload_n 0, 1) := by decide +kernel
theorem dX4_pickWard_16 : decode cX4_pickWard 16 = .ok (.getfield 41, 3) := by decide +kernel
theorem dX4_pickWard_19 : decode cX4_pickWard 19 = .ok (.invokevirtual 86, 3) := by decide +kernel
theorem dX4_pickWard_22 : decode cX4_pickWard 22 = .ok (.ireturn, 1) := by decide +kernel
theorem dX4_pickWard_23 : decode cX4_pickWard 23 = .ok (.iconst 0, 1) := by decide +kernel
theorem dX4_pickWard_24 : decode cX4_pickWard 24 = .ok (.istore_n 3, 1) := by decide +kernel
theorem dX4_pickWard_25 : decode cX4_pickWard 25 = .ok (.iload_n 3, 1) := by decide +kernel
theorem dX4_pickWard_26 : decode cX4_pickWard 26 = .ok (.iconst 4, 1) := by decide +kernel
theorem dX4_pickWard_27 : decode cX4_pickWard 27 = .ok (.if_icmp .ge 51, 3) := by decide +kernel
theorem dX4_pickWard_30 : decode cX4_pickWard 30 = .ok (.iload_n 2, 1) := by decide +kernel
theorem dX4_pickWard_31 : decode cX4_pickWard 31 = .ok (.iload_n 3, 1) := by decide +kernel
theorem dX4_pickWard_32 : decode cX4_pickWard 32 = .ok (.invokestatic 89, 3) := by decide +kernel
theorem dX4_pickWard_35 : decode cX4_pickWard 35 = .ok (.ifCond .ne 6, 3) := by decide +kernel
theorem dX4_pickWard_38 : decode cX4_pickWard 38 = .ok (.goto 34, 3) := by decide +kernel
theorem dX4_pickWard_41 : decode cX4_pickWard 41 = .ok (.aload_n 0, 1) := by decide +kernel
theorem dX4_pickWard_42 : decode cX4_pickWard 42 = .ok (.getfield 9, 3) := by decide +kernel
theorem dX4_pickWard_45 : decode cX4_pickWard 45 = .ok (.iload_n 1, 1) := by decide +kernel
theorem dX4_pickWard_46 : decode cX4_pickWard 46 = .ok (.iload_n 3, 1) := by decide +kernel
theorem dX4_pickWard_47 : decode cX4_pickWard 47 = .ok (.iastore, 1) := by decide +kernel
theorem dX4_pickWard_48 : decode cX4_pickWard 48 = .ok (.aload_n 0, 1) := by decide +kernel
theorem dX4_pickWard_49 : decode cX4_pickWard 49 = .ok (.iload_n 1, 1) := by decide +kernel
theorem dX4_pickWard_50 : decode cX4_pickWard 50 = .ok (.iconst 1, 1) := by decide +kernel
theorem dX4_pickWard_51 : decode cX4_pickWard 51 = .ok (.iadd, 1) := by decide +kernel
theorem dX4_pickWard_52 : decode cX4_pickWard 52 = .ok (.iload_n 2, 1) := by decide +kernel
theorem dX4_pickWard_53 : decode cX4_pickWard 53 = .ok (.iconst 1, 1) := by decide +kernel
theorem dX4_pickWard_54 : decode cX4_pickWard 54 = .ok (.iload_n 3, 1) := by decide +kernel
theorem dX4_pickWard_55 : decode cX4_pickWard 55 = .ok (.ishl, 1) := by decide +kernel
theorem dX4_pickWard_56 : decode cX4_pickWard 56 = .ok (.iconst (-1), 1) := by decide +kernel
theorem dX4_pickWard_57 : decode cX4_pickWard 57 = .ok (.ixor, 1) := by decide +kernel
theorem dX4_pickWard_58 : decode cX4_pickWard 58 = .ok (.iand, 1) := by decide +kernel
theorem dX4_pickWard_59 : decode cX4_pickWard 59 = .ok (.invokevirtual 83, 3) := by decide +kernel
theorem dX4_pickWard_62 : decode cX4_pickWard 62 = .ok (.istore 4, 2) := by decide +kernel
theorem dX4_pickWard_64 : decode cX4_pickWard 64 = .ok (.iload 4, 2) := by decide +kernel
theorem dX4_pickWard_66 : decode cX4_pickWard 66 = .ok (.ifCond .eq 6, 3) := by decide +kernel
theorem dX4_pickWard_69 : decode cX4_pickWard 69 = .ok (.iload 4, 2) := by decide +kernel
theorem dX4_pickWard_71 : decode cX4_pickWard 71 = .ok (.ireturn, 1) := by decide +kernel
theorem dX4_pickWard_72 : decode cX4_pickWard 72 = .ok (.iinc 3 1, 3) := by decide +kernel
theorem dX4_pickWard_75 : decode cX4_pickWard 75 = .ok (.goto (-50), 3) := by decide +kernel
theorem dX4_pickWard_78 : decode cX4_pickWard 78 = .ok (.iconst 0, 1) := by decide +kernel
theorem dX4_pickWard_79 : decode cX4_pickWard 79 = .ok (.ireturn, 1) := by decide +kernel
theorem dX4_pickParty_0 : decode cX4_pickParty 0 = .ok (.iload_n 1, 1) := by decide +kernel
theorem dX4_pickParty_1 : decode cX4_pickParty 1 = .ok (.aload_n 0, 1) := by decide +kernel
theorem dX4_pickParty_2 : decode cX4_pickParty 2 = .ok (.getfield 80, 3) := by decide +kernel
theorem dX4_pickParty_5 : decode cX4_pickParty 5 = .ok (.if_icmp .ge 8, 3) := by decide +kernel
theorem dX4_pickParty_8 : decode cX4_pickParty 8 = .ok (.iload_n 1, 1) := by decide +kernel
theorem dX4_pickParty_9 : decode cX4_pickParty 9 = .ok (.iconst 4, 1) := by decide +kernel
theorem dX4_pickParty_10 : decode cX4_pickParty 10 = .ok (.if_icmp .lt 8, 3) := by decide +kernel
theorem dX4_pickParty_13 : decode cX4_pickParty 13 = .ok (.aload_n 0, 1) := by decide +kernel
theorem dX4_pickParty_14 : decode cX4_pickParty 14 = .ok (.invokevirtual 93, 3) := by decide +kernel
theorem dX4_pickParty_17 : decode cX4_pickParty 17 = .ok (.ireturn, 1) := by decide +kernel
theorem dX4_pickParty_18 : decode cX4_pickParty 18 = .ok (.iload_n 1, 1) := by decide +kernel
theorem dX4_pickParty_19 : decode cX4_pickParty 19 = .ok (.iconst 1, 1) := by decide +kernel
theorem dX4_pickParty_20 : decode cX4_pickParty 20 = .ok (.iadd, 1) := by decide +kernel
theorem dX4_pickParty_21 : decode cX4_pickParty 21 = .ok (.aload_n 0, 1) := by decide +kernel
theorem dX4_pickParty_22 : decode cX4_pickParty 22 = .ok (.getfield 80, 3) := by decide +kernel
theorem dX4_pickParty_25 : decode cX4_pickParty 25 = .ok (.if_icmp .ge 10, 3) := by decide +kernel
theorem dX4_pickParty_28 : decode cX4_pickParty 28 = .ok (.iload_n 1, 1) := by decide +kernel
theorem dX4_pickParty_29 : decode cX4_pickParty 29 = .ok (.iconst 1, 1) := by decide +kernel
theorem dX4_pickParty_30 : decode cX4_pickParty 30 = .ok (.iadd, 1) := by decide +kernel
theorem dX4_pickParty_31 : decode cX4_pickParty 31 = .ok (.iconst 4, 1) := by decide +kernel
theorem dX4_pickParty_32 : decode cX4_pickParty 32 = .ok (.if_icmp .lt 7, 3) := by decide +kernel
theorem dX4_pickParty_35 : decode cX4_pickParty 35 = .ok (.iconst 1, 1) := by decide +kernel
theorem dX4_pickParty_36 : decode cX4_pickParty 36 = .ok (.goto 4, 3) := by decide +kernel
theorem dX4_pickParty_39 : decode cX4_pickParty 39 = .ok (.iconst 0, 1) := by decide +kernel
theorem dX4_pickParty_40 : decode cX4_pickParty 40 = .ok (.istore_n 3, 1) := by decide +kernel
theorem dX4_pickParty_41 : decode cX4_pickParty 41 = .ok (.aload_n 0, 1) := by decide +kernel
theorem dX4_pickParty_42 : decode cX4_pickParty 42 = .ok (.getfield 9, 3) := by decide +kernel
theorem dX4_pickParty_45 : decode cX4_pickParty 45 = .ok (.iload_n 3, 1) := by decide +kernel
theorem dX4_pickParty_46 : decode cX4_pickParty 46 = .ok (.ifCond .eq 7, 3) := by decide +kernel
theorem dX4_pickParty_49 : decode cX4_pickParty 49 = .ok (.iconst 0, 1) := by decide +kernel
theorem dX4_pickParty_50 : decode cX4_pickParty 50 = .ok (.goto 6, 3) := by decide +kernel
theorem dX4_pickParty_53 : decode cX4_pickParty 53 = .ok (.iload_n 1, 1) := by decide +kernel
theorem dX4_pickParty_54 : decode cX4_pickParty 54 = .ok (.iconst 1, 1) := by decide +kernel
theorem dX4_pickParty_55 : decode cX4_pickParty 55 = .ok (.iadd, 1) := by decide +kernel
theorem dX4_pickParty_56 : decode cX4_pickParty 56 = .ok (.iaload, 1) := by decide +kernel
theorem dX4_pickParty_57 : decode cX4_pickParty 57 = .ok (.istore 4, 2) := by decide +kernel
theorem dX4_pickParty_59 : decode cX4_pickParty 59 = .ok (.iconst 0, 1) := by decide +kernel
theorem dX4_pickParty_60 : decode cX4_pickParty 60 = .ok (.istore 5, 2) := by decide +kernel
theorem dX4_pickParty_62 : decode cX4_pickParty 62 = .ok (.iload 5, 2) := by decide +kernel
theorem dX4_pickParty_64 : decode cX4_pickParty 64 = .ok (.bipush 6, 2) := by decide +kernel
theorem dX4_pickParty_66 : decode cX4_pickParty 66 = .ok (.if_icmp .ge 99, 3) := by decide +kernel
theorem dX4_pickParty_69 : decode cX4_pickParty 69 = .ok (.iload_n 2, 1) := by decide +kernel
theorem dX4_pickParty_70 : decode cX4_pickParty 70 = .ok (.iload 5, 2) := by decide +kernel
theorem dX4_pickParty_72 : decode cX4_pickParty 72 = .ok (.invokestatic 89, 3) := by decide +kernel
theorem dX4_pickParty_75 : decode cX4_pickParty 75 = .ok (.ifCond .eq 84, 3) := by decide +kernel
theorem dX4_pickParty_78 : decode cX4_pickParty 78 = .ok (.aload_n 0, 1) := by decide +kernel
theorem dX4_pickParty_79 : decode cX4_pickParty 79 = .ok (.getfield 24, 3) := by decide +kernel
theorem dX4_pickParty_82 : decode cX4_pickParty 82 = .ok (.iload 4, 2) := by decide +kernel
theorem dX4_pickParty_84 : decode cX4_pickParty 84 = .ok (.iload 5, 2) := by decide +kernel
theorem dX4_pickParty_86 : decode cX4_pickParty 86 = .ok (.invokestatic 97, 3) := by decide +kernel
theorem dX4_pickParty_89 : decode cX4_pickParty 89 = .ok (.iaload, 1) := by decide +kernel
theorem dX4_pickParty_90 : decode cX4_pickParty 90 = .ok (.ifCond .ne 6, 3) := by decide +kernel
theorem dX4_pickParty_93 : decode cX4_pickParty 93 = .ok (.goto 66, 3) := by decide +kernel
theorem dX4_pickParty_96 : decode cX4_pickParty 96 = .ok (.aload_n 0, 1) := by decide +kernel
theorem dX4_pickParty_97 : decode cX4_pickParty 97 = .ok (.getfield 15, 3) := by decide +kernel
theorem dX4_pickParty_100 : decode cX4_pickParty 100 = .ok (.iload_n 1, 1) := by decide +kernel
theorem dX4_pickParty_101 : decode cX4_pickParty 101 = .ok (.iload 5, 2) := by decide +kernel
theorem dX4_pickParty_103 : decode cX4_pickParty 103 = .ok (.iastore, 1) := by decide +kernel
theorem dX4_pickParty_104 : decode cX4_pickParty 104 = .ok (.aload_n 0, 1) := by decide +kernel
theorem dX4_pickParty_105 : decode cX4_pickParty 105 = .ok (.getfield 18, 3) := by decide +kernel
theorem dX4_pickParty_108 : decode cX4_pickParty 108 = .ok (.iload_n 1, 1) := by decide +kernel
theorem dX4_pickParty_109 : decode cX4_pickParty 109 = .ok (.aload_n 0, 1) := by decide +kernel
theorem dX4_pickParty_110 : decode cX4_pickParty 110 = .ok (.getfield 9, 3) := by decide +kernel
theorem dX4_pickParty_113 : decode cX4_pickParty 113 = .ok (.iload_n 1, 1) := by decide +kernel
theorem dX4_pickParty_114 : decode cX4_pickParty 114 = .ok (.iaload, 1) := by decide +kernel
theorem dX4_pickParty_115 : decode cX4_pickParty 115 = .ok (.iload 5, 2) := by decide +kernel
theorem dX4_pickParty_117 : decode cX4_pickParty 117 = .ok (.invokestatic 97, 3) := by decide +kernel
theorem dX4_pickParty_120 : decode cX4_pickParty 120 = .ok (.iastore, 1) := by decide +kernel
theorem dX4_pickParty_121 : decode cX4_pickParty 121 = .ok (.aload_n 0, 1) := by decide +kernel
theorem dX4_pickParty_122 : decode cX4_pickParty 122 = .ok (.getfield 21, 3) := by decide +kernel
theorem dX4_pickParty_125 : decode cX4_pickParty 125 = .ok (.iload_n 1, 1) := by decide +kernel
theorem dX4_pickParty_126 : decode cX4_pickParty 126 = .ok (.iload 4, 2) := by decide +kernel
theorem dX4_pickParty_128 : decode cX4_pickParty 128 = .ok (.iload 5, 2) := by decide +kernel
theorem dX4_pickParty_130 : decode cX4_pickParty 130 = .ok (.invokestatic 97, 3) := by decide +kernel
theorem dX4_pickParty_133 : decode cX4_pickParty 133 = .ok (.iastore, 1) := by decide +kernel
theorem dX4_pickParty_134 : decode cX4_pickParty 134 = .ok (.aload_n 0, 1) := by decide +kernel
theorem dX4_pickParty_135 : decode cX4_pickParty 135 = .ok (.iload_n 1, 1) := by decide +kernel
theorem dX4_pickParty_136 : decode cX4_pickParty 136 = .ok (.iconst 1, 1) := by decide +kernel
theorem dX4_pickParty_137 : decode cX4_pickParty 137 = .ok (.iadd, 1) := by decide +kernel
theorem dX4_pickParty_138 : decode cX4_pickParty 138 = .ok (.iload_n 2, 1) := by decide +kernel
theorem dX4_pickParty_139 : decode cX4_pickParty 139 = .ok (.iconst 1, 1) := by decide +kernel
theorem dX4_pickParty_140 : decode cX4_pickParty 140 = .ok (.iload 5, 2) := by decide +kernel
theorem dX4_pickParty_142 : decode cX4_pickParty 142 = .ok (.ishl, 1) := by decide +kernel
theorem dX4_pickParty_143 : decode cX4_pickParty 143 = .ok (.iconst (-1), 1) := by decide +kernel
theorem dX4_pickParty_144 : decode cX4_pickParty 144 = .ok (.ixor, 1) := by decide +kernel
theorem dX4_pickParty_145 : decode cX4_pickParty 145 = .ok (.iand, 1) := by decide +kernel
theorem dX4_pickParty_146 : decode cX4_pickParty 146 = .ok (.invokevirtual 86, 3) := by decide +kernel
theorem dX4_pickParty_149 : decode cX4_pickParty 149 = .ok (.istore 6, 2) := by decide +kernel
theorem dX4_pickParty_151 : decode cX4_pickParty 151 = .ok (.iload 6, 2) := by decide +kernel
theorem dX4_pickParty_153 : decode cX4_pickParty 153 = .ok (.ifCond .eq 6, 3) := by decide +kernel
theorem dX4_pickParty_156 : decode cX4_pickParty 156 = .ok (.iload 6, 2) := by decide +kernel
theorem dX4_pickParty_158 : decode cX4_pickParty 158 = .ok (.ireturn, 1) := by decide +kernel
theorem dX4_pickParty_159 : decode cX4_pickParty 159 = .ok (.iinc 5 1, 3) := by decide +kernel
theorem dX4_pickParty_162 : decode cX4_pickParty 162 = .ok (.goto (-100), 3) := by decide +kernel
theorem dX4_pickParty_165 : decode cX4_pickParty 165 = .ok (.iconst 0, 1) := by decide +kernel
theorem dX4_pickParty_166 : decode cX4_pickParty 166 = .ok (.ireturn, 1) := by decide +kernel
theorem dX4_weigh_0 : decode cX4_weigh 0 = .ok (.lconst 1, 1) := by decide +kernel
theorem dX4_weigh_1 : decode cX4_weigh 1 = .ok (.lstore_n 1, 1) := by decide +kernel
theorem dX4_weigh_2 : decode cX4_weigh 2 = .ok (.lconst 1, 1) := by decide +kernel
theorem dX4_weigh_3 : decode cX4_weigh 3 = .ok (.lstore_n 3, 1) := by decide +kernel
theorem dX4_weigh_4 : decode cX4_weigh 4 = .ok (.iconst 0, 1) := by decide +kernel
theorem dX4_weigh_5 : decode cX4_weigh 5 = .ok (.istore 5, 2) := by decide +kernel
theorem dX4_weigh_7 : decode cX4_weigh 7 = .ok (.iload 5, 2) := by decide +kernel
theorem dX4_weigh_9 : decode cX4_weigh 9 = .ok (.aload_n 0, 1) := by decide +kernel
theorem dX4_weigh_10 : decode cX4_weigh 10 = .ok (.getfield 80, 3) := by decide +kernel
theorem dX4_weigh_13 : decode cX4_weigh 13 = .ok (.if_icmp .ge 51, 3) := by decide +kernel
theorem dX4_weigh_16 : decode cX4_weigh 16 = .ok (.iload 5, 2) := by decide +kernel
theorem dX4_weigh_18 : decode cX4_weigh 18 = .ok (.iconst 4, 1) := by decide +kernel
theorem dX4_weigh_19 : decode cX4_weigh 19 = .ok (.if_icmp .ge 45, 3) := by decide +kernel
theorem dX4_weigh_22 : decode cX4_weigh 22 = .ok (.lload_n 1, 1) := by decide +kernel
theorem dX4_weigh_23 : decode cX4_weigh 23 = .ok (.aload_n 0, 1) := by decide +kernel
theorem dX4_weigh_24 : decode cX4_weigh 24 = .ok (.getfield 27, 3) := by decide +kernel
theorem dX4_weigh_27 : decode cX4_weigh 27 = .ok (.aload_n 0, 1) := by decide +kernel
theorem dX4_weigh_28 : decode cX4_weigh 28 = .ok (.getfield 18, 3) := by decide +kernel
theorem dX4_weigh_31 : decode cX4_weigh 31 = .ok (.iload 5, 2) := by decide +kernel
theorem dX4_weigh_33 : decode cX4_weigh 33 = .ok (.iaload, 1) := by decide +kernel
theorem dX4_weigh_34 : decode cX4_weigh 34 = .ok (.iaload, 1) := by decide +kernel
theorem dX4_weigh_35 : decode cX4_weigh 35 = .ok (.i2l, 1) := by decide +kernel
theorem dX4_weigh_36 : decode cX4_weigh 36 = .ok (.invokestatic 100, 3) := by decide +kernel
theorem dX4_weigh_39 : decode cX4_weigh 39 = .ok (.lstore_n 1, 1) := by decide +kernel
theorem dX4_weigh_40 : decode cX4_weigh 40 = .ok (.lload_n 3, 1) := by decide +kernel
theorem dX4_weigh_41 : decode cX4_weigh 41 = .ok (.aload_n 0, 1) := by decide +kernel
theorem dX4_weigh_42 : decode cX4_weigh 42 = .ok (.getfield 27, 3) := by decide +kernel
theorem dX4_weigh_45 : decode cX4_weigh 45 = .ok (.aload_n 0, 1) := by decide +kernel
theorem dX4_weigh_46 : decode cX4_weigh 46 = .ok (.getfield 21, 3) := by decide +kernel
theorem dX4_weigh_49 : decode cX4_weigh 49 = .ok (.iload 5, 2) := by decide +kernel
theorem dX4_weigh_51 : decode cX4_weigh 51 = .ok (.iaload, 1) := by decide +kernel
theorem dX4_weigh_52 : decode cX4_weigh 52 = .ok (.iaload, 1) := by decide +kernel
theorem dX4_weigh_53 : decode cX4_weigh 53 = .ok (.i2l, 1) := by decide +kernel
theorem dX4_weigh_54 : decode cX4_weigh 54 = .ok (.invokestatic 100, 3) := by decide +kernel
theorem dX4_weigh_57 : decode cX4_weigh 57 = .ok (.lstore_n 3, 1) := by decide +kernel
theorem dX4_weigh_58 : decode cX4_weigh 58 = .ok (.iinc 5 1, 3) := by decide +kernel
theorem dX4_weigh_61 : decode cX4_weigh 61 = .ok (.goto (-54), 3) := by decide +kernel
theorem dX4_weigh_64 : decode cX4_weigh 64 = .ok (.iconst 0, 1) := by decide +kernel
theorem dX4_weigh_65 : decode cX4_weigh 65 = .ok (.istore 5, 2) := by decide +kernel
theorem dX4_weigh_67 : decode cX4_weigh 67 = .ok (.iload 5, 2) := by decide +kernel
theorem dX4_weigh_69 : decode cX4_weigh 69 = .ok (.aload_n 0, 1) := by decide +kernel
theorem dX4_weigh_70 : decode cX4_weigh 70 = .ok (.getfield 80, 3) := by decide +kernel
theorem dX4_weigh_73 : decode cX4_weigh 73 = .ok (.if_icmp .ge 33, 3) := by decide +kernel
theorem dX4_weigh_76 : decode cX4_weigh 76 = .ok (.iload 5, 2) := by decide +kernel
theorem dX4_weigh_78 : decode cX4_weigh 78 = .ok (.iconst 4, 1) := by decide +kernel
theorem dX4_weigh_79 : decode cX4_weigh 79 = .ok (.if_icmp .ge 27, 3) := by decide +kernel
theorem dX4_weigh_82 : decode cX4_weigh 82 = .ok (.lload_n 1, 1) := by decide +kernel
theorem dX4_weigh_83 : decode cX4_weigh 83 = .ok (.aload_n 0, 1) := by decide +kernel
theorem dX4_weigh_84 : decode cX4_weigh 84 = .ok (.getfield 57, 3) := by decide +kernel
theorem dX4_weigh_87 : decode cX4_weigh 87 = .ok (.invokestatic 100, 3) := by decide +kernel
theorem dX4_weigh_90 : decode cX4_weigh 90 = .ok (.lstore_n 1, 1) := by decide +kernel
theorem dX4_weigh_91 : decode cX4_weigh 91 = .ok (.lload_n 3, 1) := by decide +kernel
theorem dX4_weigh_92 : decode cX4_weigh 92 = .ok (.aload_n 0, 1) := by decide +kernel
theorem dX4_weigh_93 : decode cX4_weigh 93 = .ok (.getfield 57, 3) := by decide +kernel
theorem dX4_weigh_96 : decode cX4_weigh 96 = .ok (.invokestatic 100, 3) := by decide +kernel
theorem dX4_weigh_99 : decode cX4_weigh 99 = .ok (.lstore_n 3, 1) := by decide +kernel
theorem dX4_weigh_100 : decode cX4_weigh 100 = .ok (.iinc 5 1, 3) := by decide +kernel
theorem dX4_weigh_103 : decode cX4_weigh 103 = .ok (.goto (-36), 3) := by decide +kernel
theorem dX4_weigh_106 : decode cX4_weigh 106 = .ok (.iconst 0, 1) := by decide +kernel
theorem dX4_weigh_107 : decode cX4_weigh 107 = .ok (.istore 5, 2) := by decide +kernel
theorem dX4_weigh_109 : decode cX4_weigh 109 = .ok (.iload 5, 2) := by decide +kernel
theorem dX4_weigh_111 : decode cX4_weigh 111 = .ok (.aload_n 0, 1) := by decide +kernel
theorem dX4_weigh_112 : decode cX4_weigh 112 = .ok (.getfield 80, 3) := by decide +kernel
theorem dX4_weigh_115 : decode cX4_weigh 115 = .ok (.if_icmp .ge 49, 3) := by decide +kernel
theorem dX4_weigh_118 : decode cX4_weigh 118 = .ok (.iload 5, 2) := by decide +kernel
theorem dX4_weigh_120 : decode cX4_weigh 120 = .ok (.iconst 4, 1) := by decide +kernel
theorem dX4_weigh_121 : decode cX4_weigh 121 = .ok (.if_icmp .ge 43, 3) := by decide +kernel
theorem dX4_weigh_124 : decode cX4_weigh 124 = .ok (.lload_n 1, 1) := by decide +kernel
theorem dX4_weigh_125 : decode cX4_weigh 125 = .ok (.aload_n 0, 1) := by decide +kernel
theorem dX4_weigh_126 : decode cX4_weigh 126 = .ok (.getfield 34, 3) := by decide +kernel
theorem dX4_weigh_129 : decode cX4_weigh 129 = .ok (.aload_n 0, 1) := by decide +kernel
theorem dX4_weigh_130 : decode cX4_weigh 130 = .ok (.getfield 21, 3) := by decide +kernel
theorem dX4_weigh_133 : decode cX4_weigh 133 = .ok (.iload 5, 2) := by decide +kernel
theorem dX4_weigh_135 : decode cX4_weigh 135 = .ok (.iaload, 1) := by decide +kernel
theorem dX4_weigh_136 : decode cX4_weigh 136 = .ok (.laload, 1) := by decide +kernel
theorem dX4_weigh_137 : decode cX4_weigh 137 = .ok (.invokestatic 100, 3) := by decide +kernel
theorem dX4_weigh_140 : decode cX4_weigh 140 = .ok (.lstore_n 1, 1) := by decide +kernel
theorem dX4_weigh_141 : decode cX4_weigh 141 = .ok (.lload_n 3, 1) := by decide +kernel
theorem dX4_weigh_142 : decode cX4_weigh 142 = .ok (.aload_n 0, 1) := by decide +kernel
theorem dX4_weigh_143 : decode cX4_weigh 143 = .ok (.getfield 30, 3) := by decide +kernel
theorem dX4_weigh_146 : decode cX4_weigh 146 = .ok (.aload_n 0, 1) := by decide +kernel
theorem dX4_weigh_147 : decode cX4_weigh 147 = .ok (.getfield 18, 3) := by decide +kernel
theorem dX4_weigh_150 : decode cX4_weigh 150 = .ok (.iload 5, 2) := by decide +kernel
theorem dX4_weigh_152 : decode cX4_weigh 152 = .ok (.iaload, 1) := by decide +kernel
theorem dX4_weigh_153 : decode cX4_weigh 153 = .ok (.laload, 1) := by decide +kernel
theorem dX4_weigh_154 : decode cX4_weigh 154 = .ok (.invokestatic 100, 3) := by decide +kernel
theorem dX4_weigh_157 : decode cX4_weigh 157 = .ok (.lstore_n 3, 1) := by decide +kernel
theorem dX4_weigh_158 : decode cX4_weigh 158 = .ok (.iinc 5 1, 3) := by decide +kernel
theorem dX4_weigh_161 : decode cX4_weigh 161 = .ok (.goto (-52), 3) := by decide +kernel
theorem dX4_weigh_164 : decode cX4_weigh 164 = .ok (.lload_n 1, 1) := by decide +kernel
theorem dX4_weigh_165 : decode cX4_weigh 165 = .ok (.lconst 0, 1) := by decide +kernel
theorem dX4_weigh_166 : decode cX4_weigh 166 = .ok (.lcmp, 1) := by decide +kernel
theorem dX4_weigh_167 : decode cX4_weigh 167 = .ok (.ifCond .lt 9, 3) := by decide +kernel
theorem dX4_weigh_170 : decode cX4_weigh 170 = .ok (.lload_n 3, 1) := by decide +kernel
theorem dX4_weigh_171 : decode cX4_weigh 171 = .ok (.lconst 0, 1) := by decide +kernel
theorem dX4_weigh_172 : decode cX4_weigh 172 = .ok (.lcmp, 1) := by decide +kernel
theorem dX4_weigh_173 : decode cX4_weigh 173 = .ok (.ifCond .ge 6, 3) := by decide +kernel
theorem dX4_weigh_176 : decode cX4_weigh 176 = .ok (.bipush (-6), 2) := by decide +kernel
theorem dX4_weigh_178 : decode cX4_weigh 178 = .ok (.ireturn, 1) := by decide +kernel
theorem dX4_weigh_179 : decode cX4_weigh 179 = .ok (.lload_n 1, 1) := by decide +kernel
theorem dX4_weigh_180 : decode cX4_weigh 180 = .ok (.lload_n 3, 1) := by decide +kernel
theorem dX4_weigh_181 : decode cX4_weigh 181 = .ok (.lcmp, 1) := by decide +kernel
theorem dX4_weigh_182 : decode cX4_weigh 182 = .ok (.ifCond .le 7, 3) := by decide +kernel
theorem dX4_weigh_185 : decode cX4_weigh 185 = .ok (.iconst 1, 1) := by decide +kernel
theorem dX4_weigh_186 : decode cX4_weigh 186 = .ok (.goto 4, 3) := by decide +kernel
theorem dX4_weigh_189 : decode cX4_weigh 189 = .ok (.iconst 0, 1) := by decide +kernel
theorem dX4_weigh_190 : decode cX4_weigh 190 = .ok (.ireturn, 1) := by decide +kernel
theorem dX4_turn_0 : decode cX4_turn 0 = .ok (.iconst 0, 1) := by decide +kernel
theorem dX4_turn_1 : decode cX4_turn 1 = .ok (.istore_n 2, 1) := by decide +kernel
theorem dX4_turn_2 : decode cX4_turn 2 = .ok (.iload_n 2, 1) := by decide +kernel
theorem dX4_turn_3 : decode cX4_turn 3 = .ok (.aload_n 0, 1) := by decide +kernel
theorem dX4_turn_4 : decode cX4_turn 4 = .ok (.getfield 80, 3) := by decide +kernel
theorem dX4_turn_7 : decode cX4_turn 7 = .ok (.if_icmp .ge 38, 3) := by decide +kernel
theorem dX4_turn_10 : decode cX4_turn 10 = .ok (.iload_n 2, 1) := by decide +kernel
theorem dX4_turn_11 : decode cX4_turn 11 = .ok (.iconst 4, 1) := by decide +kernel
theorem dX4_turn_12 : decode cX4_turn 12 = .ok (.if_icmp .ge 33, 3) := by decide +kernel
theorem dX4_turn_15 : decode cX4_turn 15 = .ok (.aload_n 1, 1) := by decide +kernel
theorem dX4_turn_16 : decode cX4_turn 16 = .ok (.aload_n 0, 1) := by decide +kernel
theorem dX4_turn_17 : decode cX4_turn 17 = .ok (.getfield 18, 3) := by decide +kernel
theorem dX4_turn_20 : decode cX4_turn 20 = .ok (.iload_n 2, 1) := by decide +kernel
theorem dX4_turn_21 : decode cX4_turn 21 = .ok (.iaload, 1) := by decide +kernel
theorem dX4_turn_22 : decode cX4_turn 22 = .ok (.dup2, 1) := by decide +kernel
theorem dX4_turn_23 : decode cX4_turn 23 = .ok (.iaload, 1) := by decide +kernel
theorem dX4_turn_24 : decode cX4_turn 24 = .ok (.iconst 1, 1) := by decide +kernel
theorem dX4_turn_25 : decode cX4_turn 25 = .ok (.iadd, 1) := by decide +kernel
theorem dX4_turn_26 : decode cX4_turn 26 = .ok (.iastore, 1) := by decide +kernel
theorem dX4_turn_27 : decode cX4_turn 27 = .ok (.aload_n 1, 1) := by decide +kernel
theorem dX4_turn_28 : decode cX4_turn 28 = .ok (.aload_n 0, 1) := by decide +kernel
theorem dX4_turn_29 : decode cX4_turn 29 = .ok (.getfield 21, 3) := by decide +kernel
theorem dX4_turn_32 : decode cX4_turn 32 = .ok (.iload_n 2, 1) := by decide +kernel
theorem dX4_turn_33 : decode cX4_turn 33 = .ok (.iaload, 1) := by decide +kernel
theorem dX4_turn_34 : decode cX4_turn 34 = .ok (.dup2, 1) := by decide +kernel
theorem dX4_turn_35 : decode cX4_turn 35 = .ok (.iaload, 1) := by decide +kernel
theorem dX4_turn_36 : decode cX4_turn 36 = .ok (.iconst 1, 1) := by decide +kernel
theorem dX4_turn_37 : decode cX4_turn 37 = .ok (.isub, 1) := by decide +kernel
theorem dX4_turn_38 : decode cX4_turn 38 = .ok (.iastore, 1) := by decide +kernel
theorem dX4_turn_39 : decode cX4_turn 39 = .ok (.iinc 2 1, 3) := by decide +kernel
theorem dX4_turn_42 : decode cX4_turn 42 = .ok (.goto (-40), 3) := by decide +kernel
theorem dX4_turn_45 : decode cX4_turn 45 = .ok (.return_, 1) := by decide +kernel
theorem dX4_partOfRing_0 : decode cX4_partOfRing 0 = .ok (.iload_n 1, 1) := by decide +kernel
theorem dX4_partOfRing_1 : decode cX4_partOfRing 1 = .ok (.iconst 1, 1) := by decide +kernel
theorem dX4_partOfRing_2 : decode cX4_partOfRing 2 = .ok (.if_icmp .ge 8, 3) := by decide +kernel
theorem dX4_partOfRing_5 : decode cX4_partOfRing 5 = .ok (.aload_n 0, 1) := by decide +kernel
theorem dX4_partOfRing_6 : decode cX4_partOfRing 6 = .ok (.getfield 80, 3) := by decide +kernel
theorem dX4_partOfRing_9 : decode cX4_partOfRing 9 = .ok (.ireturn, 1) := by decide +kernel
theorem dX4_partOfRing_10 : decode cX4_partOfRing 10 = .ok (.iload_n 1, 1) := by decide +kernel
theorem dX4_partOfRing_11 : decode cX4_partOfRing 11 = .ok (.iconst 1, 1) := by decide +kernel
theorem dX4_partOfRing_12 : decode cX4_partOfRing 12 = .ok (.isub, 1) := by decide +kernel
theorem dX4_partOfRing_13 : decode cX4_partOfRing 13 = .ok (.iconst 4, 1) := by decide +kernel
theorem dX4_partOfRing_14 : decode cX4_partOfRing 14 = .ok (.irem, 1) := by decide +kernel
theorem dX4_partOfRing_15 : decode cX4_partOfRing 15 = .ok (.istore_n 2, 1) := by decide +kernel
theorem dX4_partOfRing_16 : decode cX4_partOfRing 16 = .ok (.iload_n 2, 1) := by decide +kernel
theorem dX4_partOfRing_17 : decode cX4_partOfRing 17 = .ok (.aload_n 0, 1) := by decide +kernel
theorem dX4_partOfRing_18 : decode cX4_partOfRing 18 = .ok (.getfield 80, 3) := by decide +kernel
theorem dX4_partOfRing_21 : decode cX4_partOfRing 21 = .ok (.if_icmp .lt 6, 3) := by decide +kernel
theorem dX4_partOfRing_24 : decode cX4_partOfRing 24 = .ok (.bipush (-5), 2) := by decide +kernel
theorem dX4_partOfRing_26 : decode cX4_partOfRing 26 = .ok (.ireturn, 1) := by decide +kernel
theorem dX4_partOfRing_27 : decode cX4_partOfRing 27 = .ok (.iload_n 1, 1) := by decide +kernel
theorem dX4_partOfRing_28 : decode cX4_partOfRing 28 = .ok (.iconst 4, 1) := by decide +kernel
theorem dX4_partOfRing_29 : decode cX4_partOfRing 29 = .ok (.if_icmp .gt 12, 3) := by decide +kernel
theorem dX4_partOfRing_32 : decode cX4_partOfRing 32 = .ok (.aload_n 0, 1) := by decide +kernel
theorem dX4_partOfRing_33 : decode cX4_partOfRing 33 = .ok (.getfield 9, 3) := by decide +kernel
theorem dX4_partOfRing_36 : decode cX4_partOfRing 36 = .ok (.iload_n 2, 1) := by decide +kernel
theorem dX4_partOfRing_37 : decode cX4_partOfRing 37 = .ok (.iaload, 1) := by decide +kernel
theorem dX4_partOfRing_38 : decode cX4_partOfRing 38 = .ok (.goto 9, 3) := by decide +kernel
theorem dX4_partOfRing_41 : decode cX4_partOfRing 41 = .ok (.aload_n 0, 1) := by decide +kernel
theorem dX4_partOfRing_42 : decode cX4_partOfRing 42 = .ok (.getfield 15, 3) := by decide +kernel
theorem dX4_partOfRing_45 : decode cX4_partOfRing 45 = .ok (.iload_n 2, 1) := by decide +kernel
theorem dX4_partOfRing_46 : decode cX4_partOfRing 46 = .ok (.iaload, 1) := by decide +kernel
theorem dX4_partOfRing_47 : decode cX4_partOfRing 47 = .ok (.ireturn, 1) := by decide +kernel
theorem dX5_init_0 : decode cX5_init 0 = .ok (.aload_n 0, 1) := by decide +kernel
theorem dX5_init_1 : decode cX5_init 1 = .ok (.invokespecial 3, 3) := by decide +kernel
theorem dX5_init_4 : decode cX5_init 4 = .ok (.aload_n 0, 1) := by decide +kernel
theorem dX5_init_5 : decode cX5_init 5 = .ok (.bipush 120, 2) := by decide +kernel
theorem dX5_init_7 : decode cX5_init 7 = .ok (.newarray .int, 2) := by decide +kernel
theorem dX5_init_9 : decode cX5_init 9 = .ok (.putfield 9, 3) := by decide +kernel
theorem dX5_init_12 : decode cX5_init 12 = .ok (.return_, 1) := by decide +kernel
theorem dX5_putByte_0 : decode cX5_putByte 0 = .ok (.aload_n 0, 1) := by decide +kernel
theorem dX5_putByte_1 : decode cX5_putByte 1 = .ok (.getfield 15, 3) := by decide +kernel
theorem dX5_putByte_4 : decode cX5_putByte 4 = .ok (.ifCond .lt 29, 3) := by decide +kernel
theorem dX5_putByte_7 : decode cX5_putByte 7 = .ok (.aload_n 0, 1) := by decide +kernel
theorem dX5_putByte_8 : decode cX5_putByte 8 = .ok (.getfield 15, 3) := by decide +kernel
theorem dX5_putByte_11 : decode cX5_putByte 11 = .ok (.bipush 120, 2) := by decide +kernel
theorem dX5_putByte_13 : decode cX5_putByte 13 = .ok (.if_icmp .ge 20, 3) := by decide +kernel
theorem dX5_putByte_16 : decode cX5_putByte 16 = .ok (.aload_n 0, 1) := by decide +kernel
theorem dX5_putByte_17 : decode cX5_putByte 17 = .ok (.getfield 9, 3) := by decide +kernel
theorem dX5_putByte_20 : decode cX5_putByte 20 = .ok (.aload_n 0, 1) := by decide +kernel
theorem dX5_putByte_21 : decode cX5_putByte 21 = .ok (.dup, 1) := by decide +kernel
theorem dX5_putByte_22 : decode cX5_putByte 22 = .ok (.getfield 15, 3) := by decide +kernel
theorem dX5_putByte_25 : decode cX5_putByte 25 = .ok (.dup_x1, 1) := by decide +kernel
theorem dX5_putByte_26 : decode cX5_putByte 26 = .ok (.iconst 1, 1) := by decide +kernel
theorem dX5_putByte_27 : decode cX5_putByte 27 = .ok (.iadd, 1) := by decide +kernel
theorem dX5_putByte_28 : decode cX5_putByte 28 = .ok (.putfield 15, 3) := by decide +kernel
theorem dX5_putByte_31 : decode cX5_putByte 31 = .ok (.iload_n 1, 1) := by decide +kernel
theorem dX5_putByte_32 : decode cX5_putByte 32 = .ok (.iastore, 1) := by decide +kernel
theorem dX5_putByte_33 : decode cX5_putByte 33 = .ok (.return_, 1) := by decide +kernel
theorem dX5_putSeats_0 : decode cX5_putSeats 0 = .ok (.iconst 0, 1) := by decide +kernel
theorem dX5_putSeats_1 : decode cX5_putSeats 1 = .ok (.istore_n 3, 1) := by decide +kernel
theorem dX5_putSeats_2 : decode cX5_putSeats 2 = .ok (.iload_n 3, 1) := by decide +kernel
theorem dX5_putSeats_3 : decode cX5_putSeats 3 = .ok (.bipush 6, 2) := by decide +kernel
theorem dX5_putSeats_5 : decode cX5_putSeats 5 = .ok (.if_icmp .ge 57, 3) := by decide +kernel
theorem dX5_putSeats_8 : decode cX5_putSeats 8 = .ok (.iload_n 3, 1) := by decide +kernel
theorem dX5_putSeats_9 : decode cX5_putSeats 9 = .ok (.ifCond .le 9, 3) := by decide +kernel
theorem dX5_putSeats_12 : decode cX5_putSeats 12 = .ok (.aload_n 0, 1) := by decide +kernel
theorem dX5_putSeats_13 : decode cX5_putSeats 13 = .ok (.bipush 44, 2) := by decide +kernel
theorem dX5_putSeats_15 : decode cX5_putSeats 15 = .ok (.invokevirtual 19, 3) := by decide +kernel
theorem dX5_putSeats_18 : decode cX5_putSeats 18 = .ok (.aload_n 1, 1) := by decide +kernel
theorem dX5_putSeats_19 : decode cX5_putSeats 19 = .ok (.iload_n 2, 1) := by decide +kernel
theorem dX5_putSeats_20 : decode cX5_putSeats 20 = .ok (.iload_n 3, 1) := by decide +kernel
theorem dX5_putSeats_21 : decode cX5_putSeats 21 = .ok (.iadd, 1) := by decide +kernel
theorem dX5_putSeats_22 : decode cX5_putSeats 22 = .ok (.iaload, 1) := by decide +kernel
theorem dX5_putSeats_23 : decode cX5_putSeats 23 = .ok (.istore 4, 2) := by decide +kernel
theorem dX5_putSeats_25 : decode cX5_putSeats 25 = .ok (.iload 4, 2) := by decide +kernel
theorem dX5_putSeats_27 : decode cX5_putSeats 27 = .ok (.bipush 10, 2) := by decide +kernel
theorem dX5_putSeats_29 : decode cX5_putSeats 29 = .ok (.if_icmp .lt 15, 3) := by decide +kernel
theorem dX5_putSeats_32 : decode cX5_putSeats 32 = .ok (.aload_n 0, 1) := by decide +kernel
theorem dX5_putSeats_33 : decode cX5_putSeats 33 = .ok (.bipush 48, 2) := by decide +kernel
theorem dX5_putSeats_35 : decode cX5_putSeats 35 = .ok (.iload 4, 2) := by decide +kernel
theorem dX5_putSeats_37 : decode cX5_putSeats 37 = .ok (.bipush 10, 2) := by decide +kernel
theorem dX5_putSeats_39 : decode cX5_putSeats 39 = .ok (.idiv, 1) := by decide +kernel
theorem dX5_putSeats_40 : decode cX5_putSeats 40 = .ok (.iadd, 1) := by decide +kernel
theorem dX5_putSeats_41 : decode cX5_putSeats 41 = .ok (.invokevirtual 19, 3) := by decide +kernel
theorem dX5_putSeats_44 : decode cX5_putSeats 44 = .ok (.aload_n 0, 1) := by decide +kernel
theorem dX5_putSeats_45 : decode cX5_putSeats 45 = .ok (.bipush 48, 2) := by decide +kernel
theorem dX5_putSeats_47 : decode cX5_putSeats 47 = .ok (.iload 4, 2) := by decide +kernel
theorem dX5_putSeats_49 : decode cX5_putSeats 49 = .ok (.bipush 10, 2) := by decide +kernel
theorem dX5_putSeats_51 : decode cX5_putSeats 51 = .ok (.irem, 1) := by decide +kernel
theorem dX5_putSeats_52 : decode cX5_putSeats 52 = .ok (.iadd, 1) := by decide +kernel
theorem dX5_putSeats_53 : decode cX5_putSeats 53 = .ok (.invokevirtual 19, 3) := by decide +kernel
theorem dX5_putSeats_56 : decode cX5_putSeats 56 = .ok (.iinc 3 1, 3) := by decide +kernel
theorem dX5_putSeats_59 : decode cX5_putSeats 59 = .ok (.goto (-57), 3) := by decide +kernel
theorem dX5_putSeats_62 : decode cX5_putSeats 62 = .ok (.return_, 1) := by decide +kernel
theorem dX6_init_0 : decode cX6_init 0 = .ok (.aload_n 0, 1) := by decide +kernel
theorem dX6_init_1 : decode cX6_init 1 = .ok (.invokespecial 3, 3) := by decide +kernel
theorem dX6_init_4 : decode cX6_init 4 = .ok (.aload_n 0, 1) := by decide +kernel
theorem dX6_init_5 : decode cX6_init 5 = .ok (.iconst 4, 1) := by decide +kernel
theorem dX6_init_6 : decode cX6_init 6 = .ok (.bipush 40, 2) := by decide +kernel
theorem dX6_init_8 : decode cX6_init 8 = .ok (.multianewarray 9 2, 4) := by decide +kernel
theorem dX6_init_12 : decode cX6_init 12 = .ok (.putfield 11, 3) := by decide +kernel
theorem dX6_init_15 : decode cX6_init 15 = .ok (.aload_n 0, 1) := by decide +kernel
theorem dX6_init_16 : decode cX6_init 16 = .ok (.iconst 4, 1) := by decide +kernel
theorem dX6_init_17 : decode cX6_init 17 = .ok (.newarray .int, 2) := by decide +kernel
theorem dX6_init_19 : decode cX6_init 19 = .ok (.putfield 16, 3) := by decide +kernel
theorem dX6_init_22 : decode cX6_init 22 = .ok (.aload_n 0, 1) := by decide +kernel
theorem dX6_init_23 : decode cX6_init 23 = .ok (.getfield 16, 3) := by decide +kernel
theorem dX6_init_26 : decode cX6_init 26 = .ok (.iconst (-1), 1) := by decide +kernel
theorem dX6_init_27 : decode cX6_init 27 = .ok (.invokestatic 20, 3) := by decide +kernel
theorem dX6_init_30 : decode cX6_init 30 = .ok (.return_, 1) := by decide +kernel
theorem dX6_isThere_0 : decode cX6_isThere 0 = .ok (.aload_n 0, 1) := by decide +kernel
theorem dX6_isThere_1 : decode cX6_isThere 1 = .ok (.getfield 16, 3) := by decide +kernel
theorem dX6_isThere_4 : decode cX6_isThere 4 = .ok (.iload_n 1, 1) := by decide +kernel
theorem dX6_isThere_5 : decode cX6_isThere 5 = .ok (.iaload, 1) := by decide +kernel
theorem dX6_isThere_6 : decode cX6_isThere 6 = .ok (.ifCond .lt 7, 3) := by decide +kernel
theorem dX6_isThere_9 : decode cX6_isThere 9 = .ok (.iconst 1, 1) := by decide +kernel
theorem dX6_isThere_10 : decode cX6_isThere 10 = .ok (.goto 4, 3) := by decide +kernel
theorem dX6_isThere_13 : decode cX6_isThere 13 = .ok (.iconst 0, 1) := by decide +kernel
theorem dX6_isThere_14 : decode cX6_isThere 14 = .ok (.ireturn, 1) := by decide +kernel
theorem dX6_hasPlace_0 : decode cX6_hasPlace 0 = .ok (.iload_n 2, 1) := by decide +kernel
theorem dX6_hasPlace_1 : decode cX6_hasPlace 1 = .ok (.ifCond .lt 17, 3) := by decide +kernel
theorem dX6_hasPlace_4 : decode cX6_hasPlace 4 = .ok (.iload_n 2, 1) := by decide +kernel
theorem dX6_hasPlace_5 : decode cX6_hasPlace 5 = .ok (.aload_n 0, 1) := by decide +kernel
theorem dX6_hasPlace_6 : decode cX6_hasPlace 6 = .ok (.getfield 16, 3) := by decide +kernel
theorem dX6_hasPlace_9 : decode cX6_hasPlace 9 = .ok (.iload_n 1, 1) := by decide +kernel
theorem dX6_hasPlace_10 : decode cX6_hasPlace 10 = .ok (.iaload, 1) := by decide +kernel
theorem dX6_hasPlace_11 : decode cX6_hasPlace 11 = .ok (.if_icmp .ge 7, 3) := by decide +kernel
theorem dX6_hasPlace_14 : decode cX6_hasPlace 14 = .ok (.iconst 1, 1) := by decide +kernel
theorem dX6_hasPlace_15 : decode cX6_hasPlace 15 = .ok (.goto 4, 3) := by decide +kernel
theorem dX6_hasPlace_18 : decode cX6_hasPlace 18 = .ok (.iconst 0, 1) := by decide +kernel
theorem dX6_hasPlace_19 : decode cX6_hasPlace 19 = .ok (.ireturn, 1) := by decide +kernel
theorem dX6_makeRow_0 : decode cX6_makeRow 0 = .ok (.aload_n 0, 1) := by decide +kernel
theorem dX6_makeRow_1 : decode cX6_makeRow 1 = .ok (.getfield 11, 3) := by decide +kernel
theorem dX6_makeRow_4 : decode cX6_makeRow 4 = .ok (.iload_n 1, 1) := by decide +kernel
theorem dX6_makeRow_5 : decode cX6_makeRow 5 = .ok (.aaload, 1) := by decide +kernel
theorem dX6_makeRow_6 : decode cX6_makeRow 6 = .ok (.iconst 0, 1) := by decide +kernel
theorem dX6_makeRow_7 : decode cX6_makeRow 7 = .ok (.invokestatic 20, 3) := by decide +kernel
theorem dX6_makeRow_10 : decode cX6_makeRow 10 = .ok (.aload_n 0, 1) := by decide +kernel
theorem dX6_makeRow_11 : decode cX6_makeRow 11 = .ok (.getfield 16, 3) := by decide +kernel
theorem dX6_makeRow_14 : decode cX6_makeRow 14 = .ok (.iload_n 1, 1) := by decide +kernel
theorem dX6_makeRow_15 : decode cX6_makeRow 15 = .ok (.iload_n 2, 1) := by decide +kernel
theorem dX6_makeRow_16 : decode cX6_makeRow 16 = .ok (.iastore, 1) := by decide +kernel
theorem dX6_makeRow_17 : decode cX6_makeRow 17 = .ok (.return_, 1) := by decide +kernel
theorem dX6_put_0 : decode cX6_put 0 = .ok (.aload_n 0, 1) := by decide +kernel
theorem dX6_put_1 : decode cX6_put 1 = .ok (.iload_n 1, 1) := by decide +kernel
theorem dX6_put_2 : decode cX6_put 2 = .ok (.iload_n 2, 1) := by decide +kernel
theorem dX6_put_3 : decode cX6_put 3 = .ok (.invokevirtual 26, 3) := by decide +kernel
theorem dX6_put_6 : decode cX6_put 6 = .ok (.ifCond .ne 5, 3) := by decide +kernel
theorem dX6_put_9 : decode cX6_put 9 = .ok (.iconst 0, 1) := by decide +kernel
theorem dX6_put_10 : decode cX6_put 10 = .ok (.ireturn, 1) := by decide +kernel
theorem dX6_put_11 : decode cX6_put 11 = .ok (.aload_n 0, 1) := by decide +kernel
theorem dX6_put_12 : decode cX6_put 12 = .ok (.getfield 11, 3) := by decide +kernel
theorem dX6_put_15 : decode cX6_put 15 = .ok (.iload_n 1, 1) := by decide +kernel
theorem dX6_put_16 : decode cX6_put 16 = .ok (.aaload, 1) := by decide +kernel
theorem dX6_put_17 : decode cX6_put 17 = .ok (.iload_n 2, 1) := by decide +kernel
theorem dX6_put_18 : decode cX6_put 18 = .ok (.iload_n 3, 1) := by decide +kernel
theorem dX6_put_19 : decode cX6_put 19 = .ok (.iastore, 1) := by decide +kernel
theorem dX6_put_20 : decode cX6_put 20 = .ok (.iconst 1, 1) := by decide +kernel
theorem dX6_put_21 : decode cX6_put 21 = .ok (.ireturn, 1) := by decide +kernel
theorem dX6_copyIn_0 : decode cX6_copyIn 0 = .ok (.iconst 0, 1) := by decide +kernel
theorem dX6_copyIn_1 : decode cX6_copyIn 1 = .ok (.istore 4, 2) := by decide +kernel
theorem dX6_copyIn_3 : decode cX6_copyIn 3 = .ok (.iload 4, 2) := by decide +kernel
theorem dX6_copyIn_5 : decode cX6_copyIn 5 = .ok (.bipush 24, 2) := by decide +kernel
theorem dX6_copyIn_7 : decode cX6_copyIn 7 = .ok (.if_icmp .ge 27, 3) := by decide +kernel
theorem dX6_copyIn_10 : decode cX6_copyIn 10 = .ok (.aload_n 0, 1) := by decide +kernel
theorem dX6_copyIn_11 : decode cX6_copyIn 11 = .ok (.iload_n 1, 1) := by decide +kernel
theorem dX6_copyIn_12 : decode cX6_copyIn 12 = .ok (.iload_n 2, 1) := by decide +kernel
theorem dX6_copyIn_13 : decode cX6_copyIn 13 = .ok (.iload 4, 2) := by decide +kernel
