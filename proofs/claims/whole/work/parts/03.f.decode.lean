theorem dX5_init_0 : decode cX5_init 0 = .ok (.aload_n 0, 1) := by decide +kernel
theorem dX5_init_1 : decode cX5_init 1 = .ok (.invokespecial 5, 3) := by decide +kernel
theorem dX5_init_4 : decode cX5_init 4 = .ok (.aload_n 0, 1) := by decide +kernel
theorem dX5_init_5 : decode cX5_init 5 = .ok (.sipush 5680, 3) := by decide +kernel
theorem dX5_init_8 : decode cX5_init 8 = .ok (.newarray .int, 2) := by decide +kernel
theorem dX5_init_10 : decode cX5_init 10 = .ok (.putfield 11, 3) := by decide +kernel
theorem dX5_init_13 : decode cX5_init 13 = .ok (.aload_n 0, 1) := by decide +kernel
theorem dX5_init_14 : decode cX5_init 14 = .ok (.sipush 3200, 3) := by decide +kernel
theorem dX5_init_17 : decode cX5_init 17 = .ok (.newarray .int, 2) := by decide +kernel
theorem dX5_init_19 : decode cX5_init 19 = .ok (.putfield 15, 3) := by decide +kernel
theorem dX5_init_22 : decode cX5_init 22 = .ok (.aload_n 0, 1) := by decide +kernel
theorem dX5_init_23 : decode cX5_init 23 = .ok (.bipush 80, 2) := by decide +kernel
theorem dX5_init_25 : decode cX5_init 25 = .ok (.newarray .int, 2) := by decide +kernel
theorem dX5_init_27 : decode cX5_init 27 = .ok (.putfield 18, 3) := by decide +kernel
theorem dX5_init_30 : decode cX5_init 30 = .ok (.aload_n 0, 1) := by decide +kernel
theorem dX5_init_31 : decode cX5_init 31 = .ok (.sipush 480, 3) := by decide +kernel
theorem dX5_init_34 : decode cX5_init 34 = .ok (.newarray .int, 2) := by decide +kernel
theorem dX5_init_36 : decode cX5_init 36 = .ok (.putfield 21, 3) := by decide +kernel
theorem dX5_init_39 : decode cX5_init 39 = .ok (.return_, 1) := by decide +kernel
theorem dX5_forget_0 : decode cX5_forget 0 = .ok (.aload_n 0, 1) := by decide +kernel
theorem dX5_forget_1 : decode cX5_forget 1 = .ok (.iconst 0, 1) := by decide +kernel
theorem dX5_forget_2 : decode cX5_forget 2 = .ok (.putfield 24, 3) := by decide +kernel
theorem dX5_forget_5 : decode cX5_forget 5 = .ok (.return_, 1) := by decide +kernel
theorem dX5_byteAt_0 : decode cX5_byteAt 0 = .ok (.iload_n 1, 1) := by decide +kernel
theorem dX5_byteAt_1 : decode cX5_byteAt 1 = .ok (.ifCond .lt 20, 3) := by decide +kernel
theorem dX5_byteAt_4 : decode cX5_byteAt 4 = .ok (.iload_n 1, 1) := by decide +kernel
theorem dX5_byteAt_5 : decode cX5_byteAt 5 = .ok (.aload_n 0, 1) := by decide +kernel
theorem dX5_byteAt_6 : decode cX5_byteAt 6 = .ok (.getfield 24, 3) := by decide +kernel
theorem dX5_byteAt_9 : decode cX5_byteAt 9 = .ok (.if_icmp .ge 12, 3) := by decide +kernel
theorem dX5_byteAt_12 : decode cX5_byteAt 12 = .ok (.aload_n 0, 1) := by decide +kernel
theorem dX5_byteAt_13 : decode cX5_byteAt 13 = .ok (.getfield 21, 3) := by decide +kernel
theorem dX5_byteAt_16 : decode cX5_byteAt 16 = .ok (.iload_n 1, 1) := by decide +kernel
theorem dX5_byteAt_17 : decode cX5_byteAt 17 = .ok (.iaload, 1) := by decide +kernel
theorem dX5_byteAt_18 : decode cX5_byteAt 18 = .ok (.goto 4, 3) := by decide +kernel
theorem dX5_byteAt_21 : decode cX5_byteAt 21 = .ok (.iconst (-1), 1) := by decide +kernel
theorem dX5_byteAt_22 : decode cX5_byteAt 22 = .ok (.ireturn, 1) := by decide +kernel
theorem dX5_tellRow_0 : decode cX5_tellRow 0 = .ok (.aload_n 0, 1) := by decide +kernel
theorem dX5_tellRow_1 : decode cX5_tellRow 1 = .ok (.aload_n 1, 1) := by decide +kernel
theorem dX5_tellRow_2 : decode cX5_tellRow 2 = .ok (.iload_n 2, 1) := by decide +kernel
theorem dX5_tellRow_3 : decode cX5_tellRow 3 = .ok (.invokevirtual 28, 3) := by decide +kernel
theorem dX5_tellRow_6 : decode cX5_tellRow 6 = .ok (.bipush 80, 2) := by decide +kernel
theorem dX5_tellRow_8 : decode cX5_tellRow 8 = .ok (.invokestatic 32, 3) := by decide +kernel
theorem dX5_tellRow_11 : decode cX5_tellRow 11 = .ok (.putfield 38, 3) := by decide +kernel
theorem dX5_tellRow_14 : decode cX5_tellRow 14 = .ok (.iconst 0, 1) := by decide +kernel
theorem dX5_tellRow_15 : decode cX5_tellRow 15 = .ok (.istore_n 3, 1) := by decide +kernel
theorem dX5_tellRow_16 : decode cX5_tellRow 16 = .ok (.iload_n 3, 1) := by decide +kernel
theorem dX5_tellRow_17 : decode cX5_tellRow 17 = .ok (.aload_n 0, 1) := by decide +kernel
theorem dX5_tellRow_18 : decode cX5_tellRow 18 = .ok (.getfield 38, 3) := by decide +kernel
theorem dX5_tellRow_21 : decode cX5_tellRow 21 = .ok (.if_icmp .ge 21, 3) := by decide +kernel
theorem dX5_tellRow_24 : decode cX5_tellRow 24 = .ok (.aload_n 0, 1) := by decide +kernel
theorem dX5_tellRow_25 : decode cX5_tellRow 25 = .ok (.getfield 18, 3) := by decide +kernel
theorem dX5_tellRow_28 : decode cX5_tellRow 28 = .ok (.iload_n 3, 1) := by decide +kernel
theorem dX5_tellRow_29 : decode cX5_tellRow 29 = .ok (.aload_n 1, 1) := by decide +kernel
theorem dX5_tellRow_30 : decode cX5_tellRow 30 = .ok (.iload_n 2, 1) := by decide +kernel
theorem dX5_tellRow_31 : decode cX5_tellRow 31 = .ok (.iload_n 3, 1) := by decide +kernel
theorem dX5_tellRow_32 : decode cX5_tellRow 32 = .ok (.invokevirtual 41, 3) := by decide +kernel
theorem dX5_tellRow_35 : decode cX5_tellRow 35 = .ok (.iastore, 1) := by decide +kernel
theorem dX5_tellRow_36 : decode cX5_tellRow 36 = .ok (.iinc 3 1, 3) := by decide +kernel
theorem dX5_tellRow_39 : decode cX5_tellRow 39 = .ok (.goto (-23), 3) := by decide +kernel
theorem dX5_tellRow_42 : decode cX5_tellRow 42 = .ok (.iconst 1, 1) := by decide +kernel
theorem dX5_tellRow_43 : decode cX5_tellRow 43 = .ok (.istore_n 3, 1) := by decide +kernel
theorem dX5_tellRow_44 : decode cX5_tellRow 44 = .ok (.iload_n 3, 1) := by decide +kernel
theorem dX5_tellRow_45 : decode cX5_tellRow 45 = .ok (.aload_n 0, 1) := by decide +kernel
theorem dX5_tellRow_46 : decode cX5_tellRow 46 = .ok (.getfield 38, 3) := by decide +kernel
theorem dX5_tellRow_49 : decode cX5_tellRow 49 = .ok (.iconst 2, 1) := by decide +kernel
theorem dX5_tellRow_50 : decode cX5_tellRow 50 = .ok (.idiv, 1) := by decide +kernel
theorem dX5_tellRow_51 : decode cX5_tellRow 51 = .ok (.if_icmp .gt 14, 3) := by decide +kernel
theorem dX5_tellRow_54 : decode cX5_tellRow 54 = .ok (.aload_n 0, 1) := by decide +kernel
theorem dX5_tellRow_55 : decode cX5_tellRow 55 = .ok (.iload_n 3, 1) := by decide +kernel
theorem dX5_tellRow_56 : decode cX5_tellRow 56 = .ok (.invokevirtual 44, 3) := by decide +kernel
theorem dX5_tellRow_59 : decode cX5_tellRow 59 = .ok (.iinc 3 1, 3) := by decide +kernel
theorem dX5_tellRow_62 : decode cX5_tellRow 62 = .ok (.goto (-18), 3) := by decide +kernel
theorem dX5_tellRow_65 : decode cX5_tellRow 65 = .ok (.iconst 3, 1) := by decide +kernel
theorem dX5_tellRow_66 : decode cX5_tellRow 66 = .ok (.istore_n 3, 1) := by decide +kernel
theorem dX5_tellRow_67 : decode cX5_tellRow 67 = .ok (.iload_n 3, 1) := by decide +kernel
theorem dX5_tellRow_68 : decode cX5_tellRow 68 = .ok (.iconst 1, 1) := by decide +kernel
theorem dX5_tellRow_69 : decode cX5_tellRow 69 = .ok (.if_icmp .lt 14, 3) := by decide +kernel
theorem dX5_tellRow_72 : decode cX5_tellRow 72 = .ok (.aload_n 0, 1) := by decide +kernel
theorem dX5_tellRow_73 : decode cX5_tellRow 73 = .ok (.iload_n 3, 1) := by decide +kernel
theorem dX5_tellRow_74 : decode cX5_tellRow 74 = .ok (.invokevirtual 48, 3) := by decide +kernel
theorem dX5_tellRow_77 : decode cX5_tellRow 77 = .ok (.iinc 3 (-1), 3) := by decide +kernel
theorem dX5_tellRow_80 : decode cX5_tellRow 80 = .ok (.goto (-13), 3) := by decide +kernel
theorem dX5_tellRow_83 : decode cX5_tellRow 83 = .ok (.aload_n 0, 1) := by decide +kernel
theorem dX5_tellRow_84 : decode cX5_tellRow 84 = .ok (.aload_n 0, 1) := by decide +kernel
theorem dX5_tellRow_85 : decode cX5_tellRow 85 = .ok (.getfield 38, 3) := by decide +kernel
theorem dX5_tellRow_88 : decode cX5_tellRow 88 = .ok (.aload_n 0, 1) := by decide +kernel
theorem dX5_tellRow_89 : decode cX5_tellRow 89 = .ok (.getfield 38, 3) := by decide +kernel
theorem dX5_tellRow_92 : decode cX5_tellRow 92 = .ok (.iconst 0, 1) := by decide +kernel
theorem dX5_tellRow_93 : decode cX5_tellRow 93 = .ok (.invokevirtual 51, 3) := by decide +kernel
theorem dX5_tellRow_96 : decode cX5_tellRow 96 = .ok (.aload_n 0, 1) := by decide +kernel
theorem dX5_tellRow_97 : decode cX5_tellRow 97 = .ok (.iconst 0, 1) := by decide +kernel
theorem dX5_tellRow_98 : decode cX5_tellRow 98 = .ok (.putfield 24, 3) := by decide +kernel
theorem dX5_tellRow_101 : decode cX5_tellRow 101 = .ok (.aload_n 0, 1) := by decide +kernel
theorem dX5_tellRow_102 : decode cX5_tellRow 102 = .ok (.iconst 0, 1) := by decide +kernel
theorem dX5_tellRow_103 : decode cX5_tellRow 103 = .ok (.aload_n 0, 1) := by decide +kernel
theorem dX5_tellRow_104 : decode cX5_tellRow 104 = .ok (.getfield 38, 3) := by decide +kernel
theorem dX5_tellRow_107 : decode cX5_tellRow 107 = .ok (.iconst 0, 1) := by decide +kernel
theorem dX5_tellRow_108 : decode cX5_tellRow 108 = .ok (.invokevirtual 55, 3) := by decide +kernel
theorem dX5_tellRow_111 : decode cX5_tellRow 111 = .ok (.aload_n 0, 1) := by decide +kernel
theorem dX5_tellRow_112 : decode cX5_tellRow 112 = .ok (.iconst 0, 1) := by decide +kernel
theorem dX5_tellRow_113 : decode cX5_tellRow 113 = .ok (.aload_n 0, 1) := by decide +kernel
theorem dX5_tellRow_114 : decode cX5_tellRow 114 = .ok (.getfield 38, 3) := by decide +kernel
theorem dX5_tellRow_117 : decode cX5_tellRow 117 = .ok (.iconst 0, 1) := by decide +kernel
theorem dX5_tellRow_118 : decode cX5_tellRow 118 = .ok (.invokevirtual 58, 3) := by decide +kernel
theorem dX5_tellRow_121 : decode cX5_tellRow 121 = .ok (.ireturn, 1) := by decide +kernel
theorem dX5_countSames_0 : decode cX5_countSames 0 = .ok (.iconst 0, 1) := by decide +kernel
theorem dX5_countSames_1 : decode cX5_countSames 1 = .ok (.istore_n 2, 1) := by decide +kernel
theorem dX5_countSames_2 : decode cX5_countSames 2 = .ok (.aload_n 0, 1) := by decide +kernel
theorem dX5_countSames_3 : decode cX5_countSames 3 = .ok (.getfield 38, 3) := by decide +kernel
theorem dX5_countSames_6 : decode cX5_countSames 6 = .ok (.iconst 1, 1) := by decide +kernel
theorem dX5_countSames_7 : decode cX5_countSames 7 = .ok (.isub, 1) := by decide +kernel
theorem dX5_countSames_8 : decode cX5_countSames 8 = .ok (.istore_n 3, 1) := by decide +kernel
theorem dX5_countSames_9 : decode cX5_countSames 9 = .ok (.iload_n 3, 1) := by decide +kernel
theorem dX5_countSames_10 : decode cX5_countSames 10 = .ok (.ifCond .lt 70, 3) := by decide +kernel
theorem dX5_countSames_13 : decode cX5_countSames 13 = .ok (.iload_n 3, 1) := by decide +kernel
theorem dX5_countSames_14 : decode cX5_countSames 14 = .ok (.iload_n 1, 1) := by decide +kernel
theorem dX5_countSames_15 : decode cX5_countSames 15 = .ok (.iadd, 1) := by decide +kernel
theorem dX5_countSames_16 : decode cX5_countSames 16 = .ok (.aload_n 0, 1) := by decide +kernel
theorem dX5_countSames_17 : decode cX5_countSames 17 = .ok (.getfield 38, 3) := by decide +kernel
theorem dX5_countSames_20 : decode cX5_countSames 20 = .ok (.if_icmp .ge 24, 3) := by decide +kernel
theorem dX5_countSames_23 : decode cX5_countSames 23 = .ok (.aload_n 0, 1) := by decide +kernel
theorem dX5_countSames_24 : decode cX5_countSames 24 = .ok (.getfield 18, 3) := by decide +kernel
theorem dX5_countSames_27 : decode cX5_countSames 27 = .ok (.iload_n 3, 1) := by decide +kernel
theorem dX5_countSames_28 : decode cX5_countSames 28 = .ok (.iaload, 1) := by decide +kernel
theorem dX5_countSames_29 : decode cX5_countSames 29 = .ok (.aload_n 0, 1) := by decide +kernel
theorem dX5_countSames_30 : decode cX5_countSames 30 = .ok (.getfield 18, 3) := by decide +kernel
theorem dX5_countSames_33 : decode cX5_countSames 33 = .ok (.iload_n 3, 1) := by decide +kernel
theorem dX5_countSames_34 : decode cX5_countSames 34 = .ok (.iload_n 1, 1) := by decide +kernel
theorem dX5_countSames_35 : decode cX5_countSames 35 = .ok (.iadd, 1) := by decide +kernel
theorem dX5_countSames_36 : decode cX5_countSames 36 = .ok (.iaload, 1) := by decide +kernel
theorem dX5_countSames_37 : decode cX5_countSames 37 = .ok (.if_icmp .ne 7, 3) := by decide +kernel
theorem dX5_countSames_40 : decode cX5_countSames 40 = .ok (.iconst 1, 1) := by decide +kernel
theorem dX5_countSames_41 : decode cX5_countSames 41 = .ok (.goto 4, 3) := by decide +kernel
theorem dX5_countSames_44 : decode cX5_countSames 44 = .ok (.iconst 0, 1) := by decide +kernel
theorem dX5_countSames_45 : decode cX5_countSames 45 = .ok (.istore 4, 2) := by decide +kernel
theorem dX5_countSames_47 : decode cX5_countSames 47 = .ok (.iload 4, 2) := by decide +kernel
theorem dX5_countSames_49 : decode cX5_countSames 49 = .ok (.ifCond .eq 9, 3) := by decide +kernel
theorem dX5_countSames_52 : decode cX5_countSames 52 = .ok (.iload_n 2, 1) := by decide +kernel
theorem dX5_countSames_53 : decode cX5_countSames 53 = .ok (.iconst 1, 1) := by decide +kernel
theorem dX5_countSames_54 : decode cX5_countSames 54 = .ok (.iadd, 1) := by decide +kernel
theorem dX5_countSames_55 : decode cX5_countSames 55 = .ok (.goto 4, 3) := by decide +kernel
theorem dX5_countSames_58 : decode cX5_countSames 58 = .ok (.iconst 0, 1) := by decide +kernel
theorem dX5_countSames_59 : decode cX5_countSames 59 = .ok (.istore_n 2, 1) := by decide +kernel
theorem dX5_countSames_60 : decode cX5_countSames 60 = .ok (.aload_n 0, 1) := by decide +kernel
theorem dX5_countSames_61 : decode cX5_countSames 61 = .ok (.getfield 15, 3) := by decide +kernel
theorem dX5_countSames_64 : decode cX5_countSames 64 = .ok (.iload_n 3, 1) := by decide +kernel
theorem dX5_countSames_65 : decode cX5_countSames 65 = .ok (.bipush 40, 2) := by decide +kernel
theorem dX5_countSames_67 : decode cX5_countSames 67 = .ok (.imul, 1) := by decide +kernel
theorem dX5_countSames_68 : decode cX5_countSames 68 = .ok (.iload_n 1, 1) := by decide +kernel
theorem dX5_countSames_69 : decode cX5_countSames 69 = .ok (.iadd, 1) := by decide +kernel
theorem dX5_countSames_70 : decode cX5_countSames 70 = .ok (.iconst 1, 1) := by decide +kernel
theorem dX5_countSames_71 : decode cX5_countSames 71 = .ok (.isub, 1) := by decide +kernel
theorem dX5_countSames_72 : decode cX5_countSames 72 = .ok (.iload_n 2, 1) := by decide +kernel
theorem dX5_countSames_73 : decode cX5_countSames 73 = .ok (.iastore, 1) := by decide +kernel
theorem dX5_countSames_74 : decode cX5_countSames 74 = .ok (.iinc 3 (-1), 3) := by decide +kernel
theorem dX5_countSames_77 : decode cX5_countSames 77 = .ok (.goto (-68), 3) := by decide +kernel
theorem dX5_countSames_80 : decode cX5_countSames 80 = .ok (.return_, 1) := by decide +kernel
theorem dX5_timesInRow_0 : decode cX5_timesInRow 0 = .ok (.iload_n 1, 1) := by decide +kernel
theorem dX5_timesInRow_1 : decode cX5_timesInRow 1 = .ok (.ifCond .lt 26, 3) := by decide +kernel
theorem dX5_timesInRow_4 : decode cX5_timesInRow 4 = .ok (.iload_n 1, 1) := by decide +kernel
theorem dX5_timesInRow_5 : decode cX5_timesInRow 5 = .ok (.aload_n 0, 1) := by decide +kernel
theorem dX5_timesInRow_6 : decode cX5_timesInRow 6 = .ok (.getfield 38, 3) := by decide +kernel
theorem dX5_timesInRow_9 : decode cX5_timesInRow 9 = .ok (.if_icmp .ge 18, 3) := by decide +kernel
theorem dX5_timesInRow_12 : decode cX5_timesInRow 12 = .ok (.iload_n 2, 1) := by decide +kernel
theorem dX5_timesInRow_13 : decode cX5_timesInRow 13 = .ok (.iconst 1, 1) := by decide +kernel
theorem dX5_timesInRow_14 : decode cX5_timesInRow 14 = .ok (.if_icmp .lt 13, 3) := by decide +kernel
theorem dX5_timesInRow_17 : decode cX5_timesInRow 17 = .ok (.iload_n 2, 1) := by decide +kernel
theorem dX5_timesInRow_18 : decode cX5_timesInRow 18 = .ok (.aload_n 0, 1) := by decide +kernel
theorem dX5_timesInRow_19 : decode cX5_timesInRow 19 = .ok (.getfield 38, 3) := by decide +kernel
theorem dX5_timesInRow_22 : decode cX5_timesInRow 22 = .ok (.iconst 2, 1) := by decide +kernel
theorem dX5_timesInRow_23 : decode cX5_timesInRow 23 = .ok (.idiv, 1) := by decide +kernel
theorem dX5_timesInRow_24 : decode cX5_timesInRow 24 = .ok (.if_icmp .le 5, 3) := by decide +kernel
theorem dX5_timesInRow_27 : decode cX5_timesInRow 27 = .ok (.iconst 1, 1) := by decide +kernel
theorem dX5_timesInRow_28 : decode cX5_timesInRow 28 = .ok (.ireturn, 1) := by decide +kernel
theorem dX5_timesInRow_29 : decode cX5_timesInRow 29 = .ok (.iconst 1, 1) := by decide +kernel
theorem dX5_timesInRow_30 : decode cX5_timesInRow 30 = .ok (.aload_n 0, 1) := by decide +kernel
theorem dX5_timesInRow_31 : decode cX5_timesInRow 31 = .ok (.getfield 15, 3) := by decide +kernel
theorem dX5_timesInRow_34 : decode cX5_timesInRow 34 = .ok (.iload_n 1, 1) := by decide +kernel
theorem dX5_timesInRow_35 : decode cX5_timesInRow 35 = .ok (.bipush 40, 2) := by decide +kernel
theorem dX5_timesInRow_37 : decode cX5_timesInRow 37 = .ok (.imul, 1) := by decide +kernel
theorem dX5_timesInRow_38 : decode cX5_timesInRow 38 = .ok (.iload_n 2, 1) := by decide +kernel
theorem dX5_timesInRow_39 : decode cX5_timesInRow 39 = .ok (.iadd, 1) := by decide +kernel
theorem dX5_timesInRow_40 : decode cX5_timesInRow 40 = .ok (.iconst 1, 1) := by decide +kernel
theorem dX5_timesInRow_41 : decode cX5_timesInRow 41 = .ok (.isub, 1) := by decide +kernel
theorem dX5_timesInRow_42 : decode cX5_timesInRow 42 = .ok (.iaload, 1) := by decide +kernel
theorem dX5_timesInRow_43 : decode cX5_timesInRow 43 = .ok (.iload_n 2, 1) := by decide +kernel
theorem dX5_timesInRow_44 : decode cX5_timesInRow 44 = .ok (.idiv, 1) := by decide +kernel
theorem dX5_timesInRow_45 : decode cX5_timesInRow 45 = .ok (.iadd, 1) := by decide +kernel
theorem dX5_timesInRow_46 : decode cX5_timesInRow 46 = .ok (.ireturn, 1) := by decide +kernel
theorem dX5_countWordsWithin_0 : decode cX5_countWordsWithin 0 = .ok (.iconst 1, 1) := by decide +kernel
theorem dX5_countWordsWithin_1 : decode cX5_countWordsWithin 1 = .ok (.istore_n 2, 1) := by decide +kernel
theorem dX5_countWordsWithin_2 : decode cX5_countWordsWithin 2 = .ok (.iload_n 2, 1) := by decide +kernel
theorem dX5_countWordsWithin_3 : decode cX5_countWordsWithin 3 = .ok (.aload_n 0, 1) := by decide +kernel
theorem dX5_countWordsWithin_4 : decode cX5_countWordsWithin 4 = .ok (.getfield 38, 3) := by decide +kernel
theorem dX5_countWordsWithin_7 : decode cX5_countWordsWithin 7 = .ok (.if_icmp .ge 49, 3) := by decide +kernel
theorem dX5_countWordsWithin_10 : decode cX5_countWordsWithin 10 = .ok (.iload_n 2, 1) := by decide +kernel
theorem dX5_countWordsWithin_11 : decode cX5_countWordsWithin 11 = .ok (.aload_n 0, 1) := by decide +kernel
theorem dX5_countWordsWithin_12 : decode cX5_countWordsWithin 12 = .ok (.getfield 38, 3) := by decide +kernel
theorem dX5_countWordsWithin_15 : decode cX5_countWordsWithin 15 = .ok (.iload_n 1, 1) := by decide +kernel
theorem dX5_countWordsWithin_16 : decode cX5_countWordsWithin 16 = .ok (.ishr, 1) := by decide +kernel
theorem dX5_countWordsWithin_17 : decode cX5_countWordsWithin 17 = .ok (.invokestatic 32, 3) := by decide +kernel
theorem dX5_countWordsWithin_20 : decode cX5_countWordsWithin 20 = .ok (.istore_n 3, 1) := by decide +kernel
theorem dX5_countWordsWithin_21 : decode cX5_countWordsWithin 21 = .ok (.iload_n 3, 1) := by decide +kernel
theorem dX5_countWordsWithin_22 : decode cX5_countWordsWithin 22 = .ok (.ifCond .le 21, 3) := by decide +kernel
theorem dX5_countWordsWithin_25 : decode cX5_countWordsWithin 25 = .ok (.aload_n 0, 1) := by decide +kernel
theorem dX5_countWordsWithin_26 : decode cX5_countWordsWithin 26 = .ok (.iload_n 2, 1) := by decide +kernel
theorem dX5_countWordsWithin_27 : decode cX5_countWordsWithin 27 = .ok (.iload_n 3, 1) := by decide +kernel
theorem dX5_countWordsWithin_28 : decode cX5_countWordsWithin 28 = .ok (.isub, 1) := by decide +kernel
theorem dX5_countWordsWithin_29 : decode cX5_countWordsWithin 29 = .ok (.iload_n 3, 1) := by decide +kernel
theorem dX5_countWordsWithin_30 : decode cX5_countWordsWithin 30 = .ok (.invokevirtual 62, 3) := by decide +kernel
theorem dX5_countWordsWithin_33 : decode cX5_countWordsWithin 33 = .ok (.iconst 2, 1) := by decide +kernel
theorem dX5_countWordsWithin_34 : decode cX5_countWordsWithin 34 = .ok (.if_icmp .ge 9, 3) := by decide +kernel
theorem dX5_countWordsWithin_37 : decode cX5_countWordsWithin 37 = .ok (.iinc 3 (-1), 3) := by decide +kernel
theorem dX5_countWordsWithin_40 : decode cX5_countWordsWithin 40 = .ok (.goto (-19), 3) := by decide +kernel
theorem dX5_countWordsWithin_43 : decode cX5_countWordsWithin 43 = .ok (.aload_n 0, 1) := by decide +kernel
theorem dX5_countWordsWithin_44 : decode cX5_countWordsWithin 44 = .ok (.iload_n 2, 1) := by decide +kernel
theorem dX5_countWordsWithin_45 : decode cX5_countWordsWithin 45 = .ok (.iload_n 3, 1) := by decide +kernel
theorem dX5_countWordsWithin_46 : decode cX5_countWordsWithin 46 = .ok (.iload_n 1, 1) := by decide +kernel
theorem dX5_countWordsWithin_47 : decode cX5_countWordsWithin 47 = .ok (.invokevirtual 51, 3) := by decide +kernel
theorem dX5_countWordsWithin_50 : decode cX5_countWordsWithin 50 = .ok (.iinc 2 1, 3) := by decide +kernel
theorem dX5_countWordsWithin_53 : decode cX5_countWordsWithin 53 = .ok (.goto (-51), 3) := by decide +kernel
theorem dX5_countWordsWithin_56 : decode cX5_countWordsWithin 56 = .ok (.return_, 1) := by decide +kernel
theorem dX5_countWords_0 : decode cX5_countWords 0 = .ok (.iconst 1, 1) := by decide +kernel
theorem dX5_countWords_1 : decode cX5_countWords 1 = .ok (.istore 4, 2) := by decide +kernel
theorem dX5_countWords_3 : decode cX5_countWords 3 = .ok (.iload 4, 2) := by decide +kernel
theorem dX5_countWords_5 : decode cX5_countWords 5 = .ok (.iload_n 2, 1) := by decide +kernel
theorem dX5_countWords_6 : decode cX5_countWords 6 = .ok (.if_icmp .gt 44, 3) := by decide +kernel
theorem dX5_countWords_9 : decode cX5_countWords 9 = .ok (.iload_n 1, 1) := by decide +kernel
theorem dX5_countWords_10 : decode cX5_countWords 10 = .ok (.iload 4, 2) := by decide +kernel
theorem dX5_countWords_12 : decode cX5_countWords 12 = .ok (.isub, 1) := by decide +kernel
theorem dX5_countWords_13 : decode cX5_countWords 13 = .ok (.iload 4, 2) := by decide +kernel
theorem dX5_countWords_15 : decode cX5_countWords 15 = .ok (.iload_n 3, 1) := by decide +kernel
theorem dX5_countWords_16 : decode cX5_countWords 16 = .ok (.invokestatic 65, 3) := by decide +kernel
theorem dX5_countWords_19 : decode cX5_countWords 19 = .ok (.istore 5, 2) := by decide +kernel
theorem dX5_countWords_21 : decode cX5_countWords 21 = .ok (.iload 5, 2) := by decide +kernel
theorem dX5_countWords_23 : decode cX5_countWords 23 = .ok (.ifCond .lt 21, 3) := by decide +kernel
theorem dX5_countWords_26 : decode cX5_countWords 26 = .ok (.aload_n 0, 1) := by decide +kernel
theorem dX5_countWords_27 : decode cX5_countWords 27 = .ok (.getfield 11, 3) := by decide +kernel
theorem dX5_countWords_30 : decode cX5_countWords 30 = .ok (.iload 5, 2) := by decide +kernel
theorem dX5_countWords_32 : decode cX5_countWords 32 = .ok (.aload_n 0, 1) := by decide +kernel
theorem dX5_countWords_33 : decode cX5_countWords 33 = .ok (.iload_n 1, 1) := by decide +kernel
theorem dX5_countWords_34 : decode cX5_countWords 34 = .ok (.iload 4, 2) := by decide +kernel
theorem dX5_countWords_36 : decode cX5_countWords 36 = .ok (.isub, 1) := by decide +kernel
theorem dX5_countWords_37 : decode cX5_countWords 37 = .ok (.iload 4, 2) := by decide +kernel
theorem dX5_countWords_39 : decode cX5_countWords 39 = .ok (.iload_n 3, 1) := by decide +kernel
theorem dX5_countWords_40 : decode cX5_countWords 40 = .ok (.invokevirtual 68, 3) := by decide +kernel
theorem dX5_countWords_43 : decode cX5_countWords 43 = .ok (.iastore, 1) := by decide +kernel
theorem dX5_countWords_44 : decode cX5_countWords 44 = .ok (.iinc 4 1, 3) := by decide +kernel
theorem dX5_countWords_47 : decode cX5_countWords 47 = .ok (.goto (-44), 3) := by decide +kernel
theorem dX5_countWords_50 : decode cX5_countWords 50 = .ok (.return_, 1) := by decide +kernel
theorem dX5_cellOf_0 : decode cX5_cellOf 0 = .ok (.iload_n 2, 1) := by decide +kernel
theorem dX5_cellOf_1 : decode cX5_cellOf 1 = .ok (.ifCond .lt 21, 3) := by decide +kernel
theorem dX5_cellOf_4 : decode cX5_cellOf 4 = .ok (.iload_n 2, 1) := by decide +kernel
theorem dX5_cellOf_5 : decode cX5_cellOf 5 = .ok (.iconst 4, 1) := by decide +kernel
theorem dX5_cellOf_6 : decode cX5_cellOf 6 = .ok (.if_icmp .ge 16, 3) := by decide +kernel
theorem dX5_cellOf_9 : decode cX5_cellOf 9 = .ok (.iload_n 1, 1) := by decide +kernel
theorem dX5_cellOf_10 : decode cX5_cellOf 10 = .ok (.iconst 1, 1) := by decide +kernel
theorem dX5_cellOf_11 : decode cX5_cellOf 11 = .ok (.if_icmp .lt 11, 3) := by decide +kernel
theorem dX5_cellOf_14 : decode cX5_cellOf 14 = .ok (.iload_n 1, 1) := by decide +kernel
theorem dX5_cellOf_15 : decode cX5_cellOf 15 = .ok (.bipush 80, 2) := by decide +kernel
theorem dX5_cellOf_17 : decode cX5_cellOf 17 = .ok (.iload_n 2, 1) := by decide +kernel
theorem dX5_cellOf_18 : decode cX5_cellOf 18 = .ok (.ishr, 1) := by decide +kernel
theorem dX5_cellOf_19 : decode cX5_cellOf 19 = .ok (.if_icmp .le 5, 3) := by decide +kernel
theorem dX5_cellOf_22 : decode cX5_cellOf 22 = .ok (.iconst (-1), 1) := by decide +kernel
theorem dX5_cellOf_23 : decode cX5_cellOf 23 = .ok (.ireturn, 1) := by decide +kernel
theorem dX5_cellOf_24 : decode cX5_cellOf 24 = .ok (.iload_n 0, 1) := by decide +kernel
theorem dX5_cellOf_25 : decode cX5_cellOf 25 = .ok (.ifCond .lt 11, 3) := by decide +kernel
theorem dX5_cellOf_28 : decode cX5_cellOf 28 = .ok (.iload_n 0, 1) := by decide +kernel
theorem dX5_cellOf_29 : decode cX5_cellOf 29 = .ok (.iload_n 1, 1) := by decide +kernel
theorem dX5_cellOf_30 : decode cX5_cellOf 30 = .ok (.iadd, 1) := by decide +kernel
theorem dX5_cellOf_31 : decode cX5_cellOf 31 = .ok (.bipush 80, 2) := by decide +kernel
theorem dX5_cellOf_33 : decode cX5_cellOf 33 = .ok (.if_icmp .le 5, 3) := by decide +kernel
theorem dX5_cellOf_36 : decode cX5_cellOf 36 = .ok (.iconst (-1), 1) := by decide +kernel
theorem dX5_cellOf_37 : decode cX5_cellOf 37 = .ok (.ireturn, 1) := by decide +kernel
theorem dX5_cellOf_38 : decode cX5_cellOf 38 = .ok (.iload_n 2, 1) := by decide +kernel
theorem dX5_cellOf_39 : decode cX5_cellOf 39 = .ok (.ifCond .ne 7, 3) := by decide +kernel
theorem dX5_cellOf_42 : decode cX5_cellOf 42 = .ok (.iload_n 0, 1) := by decide +kernel
theorem dX5_cellOf_43 : decode cX5_cellOf 43 = .ok (.goto 19, 3) := by decide +kernel
theorem dX5_cellOf_46 : decode cX5_cellOf 46 = .ok (.getstatic 71, 3) := by decide +kernel
theorem dX5_cellOf_49 : decode cX5_cellOf 49 = .ok (.iload_n 2, 1) := by decide +kernel
theorem dX5_cellOf_50 : decode cX5_cellOf 50 = .ok (.iaload, 1) := by decide +kernel
theorem dX5_cellOf_51 : decode cX5_cellOf 51 = .ok (.iload_n 0, 1) := by decide +kernel
theorem dX5_cellOf_52 : decode cX5_cellOf 52 = .ok (.bipush 80, 2) := by decide +kernel
theorem dX5_cellOf_54 : decode cX5_cellOf 54 = .ok (.iload_n 2, 1) := by decide +kernel
theorem dX5_cellOf_55 : decode cX5_cellOf 55 = .ok (.ishr, 1) := by decide +kernel
theorem dX5_cellOf_56 : decode cX5_cellOf 56 = .ok (.imul, 1) := by decide +kernel
theorem dX5_cellOf_57 : decode cX5_cellOf 57 = .ok (.iadd, 1) := by decide +kernel
theorem dX5_cellOf_58 : decode cX5_cellOf 58 = .ok (.iload_n 1, 1) := by decide +kernel
theorem dX5_cellOf_59 : decode cX5_cellOf 59 = .ok (.iadd, 1) := by decide +kernel
theorem dX5_cellOf_60 : decode cX5_cellOf 60 = .ok (.iconst 1, 1) := by decide +kernel
theorem dX5_cellOf_61 : decode cX5_cellOf 61 = .ok (.isub, 1) := by decide +kernel
theorem dX5_cellOf_62 : decode cX5_cellOf 62 = .ok (.ireturn, 1) := by decide +kernel
theorem dX5_words_0 : decode cX5_words 0 = .ok (.iload_n 1, 1) := by decide +kernel
theorem dX5_words_1 : decode cX5_words 1 = .ok (.iload_n 2, 1) := by decide +kernel
theorem dX5_words_2 : decode cX5_words 2 = .ok (.iload_n 3, 1) := by decide +kernel
theorem dX5_words_3 : decode cX5_words 3 = .ok (.invokestatic 65, 3) := by decide +kernel
theorem dX5_words_6 : decode cX5_words 6 = .ok (.istore 4, 2) := by decide +kernel
theorem dX5_words_8 : decode cX5_words 8 = .ok (.iload 4, 2) := by decide +kernel
theorem dX5_words_10 : decode cX5_words 10 = .ok (.ifCond .ge 7, 3) := by decide +kernel
theorem dX5_words_13 : decode cX5_words 13 = .ok (.iload_n 2, 1) := by decide +kernel
theorem dX5_words_14 : decode cX5_words 14 = .ok (.goto 10, 3) := by decide +kernel
theorem dX5_words_17 : decode cX5_words 17 = .ok (.aload_n 0, 1) := by decide +kernel
theorem dX5_words_18 : decode cX5_words 18 = .ok (.getfield 11, 3) := by decide +kernel
theorem dX5_words_21 : decode cX5_words 21 = .ok (.iload 4, 2) := by decide +kernel
theorem dX5_words_23 : decode cX5_words 23 = .ok (.iaload, 1) := by decide +kernel
theorem dX5_words_24 : decode cX5_words 24 = .ok (.ireturn, 1) := by decide +kernel
theorem dX5_fewestWords_0 : decode cX5_fewestWords 0 = .ok (.iconst 1, 1) := by decide +kernel
theorem dX5_fewestWords_1 : decode cX5_fewestWords 1 = .ok (.aload_n 0, 1) := by decide +kernel
theorem dX5_fewestWords_2 : decode cX5_fewestWords 2 = .ok (.iload_n 1, 1) := by decide +kernel
theorem dX5_fewestWords_3 : decode cX5_fewestWords 3 = .ok (.iconst 1, 1) := by decide +kernel
theorem dX5_fewestWords_4 : decode cX5_fewestWords 4 = .ok (.iadd, 1) := by decide +kernel
theorem dX5_fewestWords_5 : decode cX5_fewestWords 5 = .ok (.iload_n 2, 1) := by decide +kernel
theorem dX5_fewestWords_6 : decode cX5_fewestWords 6 = .ok (.iconst 1, 1) := by decide +kernel
theorem dX5_fewestWords_7 : decode cX5_fewestWords 7 = .ok (.isub, 1) := by decide +kernel
theorem dX5_fewestWords_8 : decode cX5_fewestWords 8 = .ok (.iload_n 3, 1) := by decide +kernel
theorem dX5_fewestWords_9 : decode cX5_fewestWords 9 = .ok (.invokevirtual 58, 3) := by decide +kernel
theorem dX5_fewestWords_12 : decode cX5_fewestWords 12 = .ok (.iadd, 1) := by decide +kernel
theorem dX5_fewestWords_13 : decode cX5_fewestWords 13 = .ok (.istore 4, 2) := by decide +kernel
theorem dX5_fewestWords_15 : decode cX5_fewestWords 15 = .ok (.iconst 1, 1) := by decide +kernel
theorem dX5_fewestWords_16 : decode cX5_fewestWords 16 = .ok (.istore 5, 2) := by decide +kernel
theorem dX5_fewestWords_18 : decode cX5_fewestWords 18 = .ok (.iload 5, 2) := by decide +kernel
theorem dX5_fewestWords_20 : decode cX5_fewestWords 20 = .ok (.iload_n 2, 1) := by decide +kernel
theorem dX5_fewestWords_21 : decode cX5_fewestWords 21 = .ok (.iconst 2, 1) := by decide +kernel
theorem dX5_fewestWords_22 : decode cX5_fewestWords 22 = .ok (.idiv, 1) := by decide +kernel
theorem dX5_fewestWords_23 : decode cX5_fewestWords 23 = .ok (.if_icmp .gt 96, 3) := by decide +kernel
theorem dX5_fewestWords_26 : decode cX5_fewestWords 26 = .ok (.aload_n 0, 1) := by decide +kernel
theorem dX5_fewestWords_27 : decode cX5_fewestWords 27 = .ok (.iload_n 1, 1) := by decide +kernel
theorem dX5_fewestWords_28 : decode cX5_fewestWords 28 = .ok (.iload 5, 2) := by decide +kernel
theorem dX5_fewestWords_30 : decode cX5_fewestWords 30 = .ok (.invokevirtual 62, 3) := by decide +kernel
theorem dX5_fewestWords_33 : decode cX5_fewestWords 33 = .ok (.iload_n 2, 1) := by decide +kernel
theorem dX5_fewestWords_34 : decode cX5_fewestWords 34 = .ok (.iload 5, 2) := by decide +kernel
theorem dX5_fewestWords_36 : decode cX5_fewestWords 36 = .ok (.idiv, 1) := by decide +kernel
theorem dX5_fewestWords_37 : decode cX5_fewestWords 37 = .ok (.invokestatic 32, 3) := by decide +kernel
theorem dX5_fewestWords_40 : decode cX5_fewestWords 40 = .ok (.istore 6, 2) := by decide +kernel
theorem dX5_fewestWords_42 : decode cX5_fewestWords 42 = .ok (.iload 6, 2) := by decide +kernel
theorem dX5_fewestWords_44 : decode cX5_fewestWords 44 = .ok (.iconst 2, 1) := by decide +kernel
theorem dX5_fewestWords_45 : decode cX5_fewestWords 45 = .ok (.if_icmp .ge 9, 3) := by decide +kernel
theorem dX5_fewestWords_48 : decode cX5_fewestWords 48 = .ok (.sipush 1000, 3) := by decide +kernel
theorem dX5_fewestWords_51 : decode cX5_fewestWords 51 = .ok (.goto 15, 3) := by decide +kernel
theorem dX5_fewestWords_54 : decode cX5_fewestWords 54 = .ok (.iconst 1, 1) := by decide +kernel
theorem dX5_fewestWords_55 : decode cX5_fewestWords 55 = .ok (.aload_n 0, 1) := by decide +kernel
theorem dX5_fewestWords_56 : decode cX5_fewestWords 56 = .ok (.iload_n 1, 1) := by decide +kernel
theorem dX5_fewestWords_57 : decode cX5_fewestWords 57 = .ok (.iload 5, 2) := by decide +kernel
theorem dX5_fewestWords_59 : decode cX5_fewestWords 59 = .ok (.iload_n 3, 1) := by decide +kernel
theorem dX5_fewestWords_60 : decode cX5_fewestWords 60 = .ok (.iconst 1, 1) := by decide +kernel
theorem dX5_fewestWords_61 : decode cX5_fewestWords 61 = .ok (.iadd, 1) := by decide +kernel
theorem dX5_fewestWords_62 : decode cX5_fewestWords 62 = .ok (.invokevirtual 58, 3) := by decide +kernel
theorem dX5_fewestWords_65 : decode cX5_fewestWords 65 = .ok (.iadd, 1) := by decide +kernel
theorem dX5_fewestWords_66 : decode cX5_fewestWords 66 = .ok (.istore 7, 2) := by decide +kernel
theorem dX5_fewestWords_68 : decode cX5_fewestWords 68 = .ok (.iconst 2, 1) := by decide +kernel
theorem dX5_fewestWords_69 : decode cX5_fewestWords 69 = .ok (.istore 8, 2) := by decide +kernel
theorem dX5_fewestWords_71 : decode cX5_fewestWords 71 = .ok (.iload 8, 2) := by decide +kernel
theorem dX5_fewestWords_73 : decode cX5_fewestWords 73 = .ok (.iload 6, 2) := by decide +kernel
theorem dX5_fewestWords_75 : decode cX5_fewestWords 75 = .ok (.if_icmp .gt 38, 3) := by decide +kernel
theorem dX5_fewestWords_78 : decode cX5_fewestWords 78 = .ok (.iload 4, 2) := by decide +kernel
theorem dX5_fewestWords_80 : decode cX5_fewestWords 80 = .ok (.iload 7, 2) := by decide +kernel
theorem dX5_fewestWords_82 : decode cX5_fewestWords 82 = .ok (.aload_n 0, 1) := by decide +kernel
theorem dX5_fewestWords_83 : decode cX5_fewestWords 83 = .ok (.iload_n 1, 1) := by decide +kernel
theorem dX5_fewestWords_84 : decode cX5_fewestWords 84 = .ok (.iload 5, 2) := by decide +kernel
theorem dX5_fewestWords_86 : decode cX5_fewestWords 86 = .ok (.iload 8, 2) := by decide +kernel
theorem dX5_fewestWords_88 : decode cX5_fewestWords 88 = .ok (.imul, 1) := by decide +kernel
theorem dX5_fewestWords_89 : decode cX5_fewestWords 89 = .ok (.iadd, 1) := by decide +kernel
theorem dX5_fewestWords_90 : decode cX5_fewestWords 90 = .ok (.iload_n 2, 1) := by decide +kernel
theorem dX5_fewestWords_91 : decode cX5_fewestWords 91 = .ok (.iload 5, 2) := by decide +kernel
theorem dX5_fewestWords_93 : decode cX5_fewestWords 93 = .ok (.iload 8, 2) := by decide +kernel
theorem dX5_fewestWords_95 : decode cX5_fewestWords 95 = .ok (.imul, 1) := by decide +kernel
theorem dX5_fewestWords_96 : decode cX5_fewestWords 96 = .ok (.isub, 1) := by decide +kernel
theorem dX5_fewestWords_97 : decode cX5_fewestWords 97 = .ok (.iload_n 3, 1) := by decide +kernel
theorem dX5_fewestWords_98 : decode cX5_fewestWords 98 = .ok (.invokevirtual 58, 3) := by decide +kernel
theorem dX5_fewestWords_101 : decode cX5_fewestWords 101 = .ok (.iadd, 1) := by decide +kernel
theorem dX5_fewestWords_102 : decode cX5_fewestWords 102 = .ok (.invokestatic 32, 3) := by decide +kernel
theorem dX5_fewestWords_105 : decode cX5_fewestWords 105 = .ok (.istore 4, 2) := by decide +kernel
theorem dX5_fewestWords_107 : decode cX5_fewestWords 107 = .ok (.iinc 8 1, 3) := by decide +kernel
theorem dX5_fewestWords_110 : decode cX5_fewestWords 110 = .ok (.goto (-39), 3) := by decide +kernel
theorem dX5_fewestWords_113 : decode cX5_fewestWords 113 = .ok (.iinc 5 1, 3) := by decide +kernel
theorem dX5_fewestWords_116 : decode cX5_fewestWords 116 = .ok (.goto (-98), 3) := by decide +kernel
theorem dX5_fewestWords_119 : decode cX5_fewestWords 119 = .ok (.iload 4, 2) := by decide +kernel
theorem dX5_fewestWords_121 : decode cX5_fewestWords 121 = .ok (.ireturn, 1) := by decide +kernel
theorem dX5_bestGroup_0 : decode cX5_bestGroup 0 = .ok (.iconst 0, 1) := by decide +kernel
theorem dX5_bestGroup_1 : decode cX5_bestGroup 1 = .ok (.istore 4, 2) := by decide +kernel
theorem dX5_bestGroup_3 : decode cX5_bestGroup 3 = .ok (.sipush 1000, 3) := by decide +kernel
theorem dX5_bestGroup_6 : decode cX5_bestGroup 6 = .ok (.istore 5, 2) := by decide +kernel
theorem dX5_bestGroup_8 : decode cX5_bestGroup 8 = .ok (.iconst 1, 1) := by decide +kernel
theorem dX5_bestGroup_9 : decode cX5_bestGroup 9 = .ok (.istore 6, 2) := by decide +kernel
theorem dX5_bestGroup_11 : decode cX5_bestGroup 11 = .ok (.iload 6, 2) := by decide +kernel
theorem dX5_bestGroup_13 : decode cX5_bestGroup 13 = .ok (.iload_n 2, 1) := by decide +kernel
theorem dX5_bestGroup_14 : decode cX5_bestGroup 14 = .ok (.iconst 2, 1) := by decide +kernel
theorem dX5_bestGroup_15 : decode cX5_bestGroup 15 = .ok (.idiv, 1) := by decide +kernel
theorem dX5_bestGroup_16 : decode cX5_bestGroup 16 = .ok (.if_icmp .gt 80, 3) := by decide +kernel
theorem dX5_bestGroup_19 : decode cX5_bestGroup 19 = .ok (.iload_n 3, 1) := by decide +kernel
theorem dX5_bestGroup_20 : decode cX5_bestGroup 20 = .ok (.iconst 4, 1) := by decide +kernel
theorem dX5_bestGroup_21 : decode cX5_bestGroup 21 = .ok (.if_icmp .ge 75, 3) := by decide +kernel
theorem dX5_bestGroup_24 : decode cX5_bestGroup 24 = .ok (.iload_n 2, 1) := by decide +kernel
theorem dX5_bestGroup_25 : decode cX5_bestGroup 25 = .ok (.iload 6, 2) := by decide +kernel
theorem dX5_bestGroup_27 : decode cX5_bestGroup 27 = .ok (.irem, 1) := by decide +kernel
theorem dX5_bestGroup_28 : decode cX5_bestGroup 28 = .ok (.ifCond .ne 21, 3) := by decide +kernel
theorem dX5_bestGroup_31 : decode cX5_bestGroup 31 = .ok (.aload_n 0, 1) := by decide +kernel
theorem dX5_bestGroup_32 : decode cX5_bestGroup 32 = .ok (.iload_n 1, 1) := by decide +kernel
theorem dX5_bestGroup_33 : decode cX5_bestGroup 33 = .ok (.iload 6, 2) := by decide +kernel
theorem dX5_bestGroup_35 : decode cX5_bestGroup 35 = .ok (.invokevirtual 62, 3) := by decide +kernel
theorem dX5_bestGroup_38 : decode cX5_bestGroup 38 = .ok (.iload_n 2, 1) := by decide +kernel
theorem dX5_bestGroup_39 : decode cX5_bestGroup 39 = .ok (.iload 6, 2) := by decide +kernel
theorem dX5_bestGroup_41 : decode cX5_bestGroup 41 = .ok (.idiv, 1) := by decide +kernel
theorem dX5_bestGroup_42 : decode cX5_bestGroup 42 = .ok (.if_icmp .lt 7, 3) := by decide +kernel
theorem dX5_bestGroup_45 : decode cX5_bestGroup 45 = .ok (.iconst 1, 1) := by decide +kernel
theorem dX5_bestGroup_46 : decode cX5_bestGroup 46 = .ok (.goto 4, 3) := by decide +kernel
theorem dX5_bestGroup_49 : decode cX5_bestGroup 49 = .ok (.iconst 0, 1) := by decide +kernel
theorem dX5_bestGroup_50 : decode cX5_bestGroup 50 = .ok (.istore 7, 2) := by decide +kernel
theorem dX5_bestGroup_52 : decode cX5_bestGroup 52 = .ok (.iload 7, 2) := by decide +kernel
theorem dX5_bestGroup_54 : decode cX5_bestGroup 54 = .ok (.ifCond .eq 16, 3) := by decide +kernel
theorem dX5_bestGroup_57 : decode cX5_bestGroup 57 = .ok (.aload_n 0, 1) := by decide +kernel
theorem dX5_bestGroup_58 : decode cX5_bestGroup 58 = .ok (.iload_n 1, 1) := by decide +kernel
theorem dX5_bestGroup_59 : decode cX5_bestGroup 59 = .ok (.iload 6, 2) := by decide +kernel
theorem dX5_bestGroup_61 : decode cX5_bestGroup 61 = .ok (.iload_n 3, 1) := by decide +kernel
theorem dX5_bestGroup_62 : decode cX5_bestGroup 62 = .ok (.iconst 1, 1) := by decide +kernel
theorem dX5_bestGroup_63 : decode cX5_bestGroup 63 = .ok (.iadd, 1) := by decide +kernel
theorem dX5_bestGroup_64 : decode cX5_bestGroup 64 = .ok (.invokevirtual 58, 3) := by decide +kernel
theorem dX5_bestGroup_67 : decode cX5_bestGroup 67 = .ok (.goto 6, 3) := by decide +kernel
theorem dX5_bestGroup_70 : decode cX5_bestGroup 70 = .ok (.sipush 1000, 3) := by decide +kernel
theorem dX5_bestGroup_73 : decode cX5_bestGroup 73 = .ok (.istore 8, 2) := by decide +kernel
theorem dX5_bestGroup_75 : decode cX5_bestGroup 75 = .ok (.iload 8, 2) := by decide +kernel
theorem dX5_bestGroup_77 : decode cX5_bestGroup 77 = .ok (.iload 5, 2) := by decide +kernel
theorem dX5_bestGroup_79 : decode cX5_bestGroup 79 = .ok (.if_icmp .ge 11, 3) := by decide +kernel
theorem dX5_bestGroup_82 : decode cX5_bestGroup 82 = .ok (.iload 6, 2) := by decide +kernel
theorem dX5_bestGroup_84 : decode cX5_bestGroup 84 = .ok (.istore 4, 2) := by decide +kernel
theorem dX5_bestGroup_86 : decode cX5_bestGroup 86 = .ok (.iload 8, 2) := by decide +kernel
theorem dX5_bestGroup_88 : decode cX5_bestGroup 88 = .ok (.istore 5, 2) := by decide +kernel
theorem dX5_bestGroup_90 : decode cX5_bestGroup 90 = .ok (.iinc 6 1, 3) := by decide +kernel
theorem dX5_bestGroup_93 : decode cX5_bestGroup 93 = .ok (.goto (-82), 3) := by decide +kernel
theorem dX5_bestGroup_96 : decode cX5_bestGroup 96 = .ok (.iload 4, 2) := by decide +kernel
theorem dX5_bestGroup_98 : decode cX5_bestGroup 98 = .ok (.ireturn, 1) := by decide +kernel
theorem dX5_pieceWords_0 : decode cX5_pieceWords 0 = .ok (.iload_n 2, 1) := by decide +kernel
theorem dX5_pieceWords_1 : decode cX5_pieceWords 1 = .ok (.iconst 1, 1) := by decide +kernel
theorem dX5_pieceWords_2 : decode cX5_pieceWords 2 = .ok (.if_icmp .ne 5, 3) := by decide +kernel
theorem dX5_pieceWords_5 : decode cX5_pieceWords 5 = .ok (.iconst 1, 1) := by decide +kernel
theorem dX5_pieceWords_6 : decode cX5_pieceWords 6 = .ok (.ireturn, 1) := by decide +kernel
theorem dX5_pieceWords_7 : decode cX5_pieceWords 7 = .ok (.aload_n 0, 1) := by decide +kernel
theorem dX5_pieceWords_8 : decode cX5_pieceWords 8 = .ok (.iload_n 1, 1) := by decide +kernel
theorem dX5_pieceWords_9 : decode cX5_pieceWords 9 = .ok (.iload_n 2, 1) := by decide +kernel
theorem dX5_pieceWords_10 : decode cX5_pieceWords 10 = .ok (.iload_n 3, 1) := by decide +kernel
theorem dX5_pieceWords_11 : decode cX5_pieceWords 11 = .ok (.invokevirtual 74, 3) := by decide +kernel
theorem dX5_pieceWords_14 : decode cX5_pieceWords 14 = .ok (.istore 4, 2) := by decide +kernel
theorem dX5_pieceWords_16 : decode cX5_pieceWords 16 = .ok (.iload 4, 2) := by decide +kernel
theorem dX5_pieceWords_18 : decode cX5_pieceWords 18 = .ok (.ifCond .ne 9, 3) := by decide +kernel
theorem dX5_pieceWords_21 : decode cX5_pieceWords 21 = .ok (.sipush 1000, 3) := by decide +kernel
theorem dX5_pieceWords_24 : decode cX5_pieceWords 24 = .ok (.goto 15, 3) := by decide +kernel
theorem dX5_pieceWords_27 : decode cX5_pieceWords 27 = .ok (.iconst 1, 1) := by decide +kernel
theorem dX5_pieceWords_28 : decode cX5_pieceWords 28 = .ok (.aload_n 0, 1) := by decide +kernel
theorem dX5_pieceWords_29 : decode cX5_pieceWords 29 = .ok (.iload_n 1, 1) := by decide +kernel
theorem dX5_pieceWords_30 : decode cX5_pieceWords 30 = .ok (.iload 4, 2) := by decide +kernel
theorem dX5_pieceWords_32 : decode cX5_pieceWords 32 = .ok (.iload_n 3, 1) := by decide +kernel
theorem dX5_pieceWords_33 : decode cX5_pieceWords 33 = .ok (.iconst 1, 1) := by decide +kernel
theorem dX5_pieceWords_34 : decode cX5_pieceWords 34 = .ok (.iadd, 1) := by decide +kernel
theorem dX5_pieceWords_35 : decode cX5_pieceWords 35 = .ok (.invokevirtual 58, 3) := by decide +kernel
theorem dX5_pieceWords_38 : decode cX5_pieceWords 38 = .ok (.iadd, 1) := by decide +kernel
theorem dX5_pieceWords_39 : decode cX5_pieceWords 39 = .ok (.ireturn, 1) := by decide +kernel
theorem dX5_firstPiece_0 : decode cX5_firstPiece 0 = .ok (.aload_n 0, 1) := by decide +kernel
theorem dX5_firstPiece_1 : decode cX5_firstPiece 1 = .ok (.iload_n 1, 1) := by decide +kernel
theorem dX5_firstPiece_2 : decode cX5_firstPiece 2 = .ok (.iload_n 2, 1) := by decide +kernel
theorem dX5_firstPiece_3 : decode cX5_firstPiece 3 = .ok (.iload_n 3, 1) := by decide +kernel
theorem dX5_firstPiece_4 : decode cX5_firstPiece 4 = .ok (.invokevirtual 58, 3) := by decide +kernel
theorem dX5_firstPiece_7 : decode cX5_firstPiece 7 = .ok (.istore 4, 2) := by decide +kernel
theorem dX5_firstPiece_9 : decode cX5_firstPiece 9 = .ok (.aload_n 0, 1) := by decide +kernel
theorem dX5_firstPiece_10 : decode cX5_firstPiece 10 = .ok (.iload_n 1, 1) := by decide +kernel
theorem dX5_firstPiece_11 : decode cX5_firstPiece 11 = .ok (.iload_n 2, 1) := by decide +kernel
theorem dX5_firstPiece_12 : decode cX5_firstPiece 12 = .ok (.iload_n 3, 1) := by decide +kernel
theorem dX5_firstPiece_13 : decode cX5_firstPiece 13 = .ok (.invokevirtual 77, 3) := by decide +kernel
theorem dX5_firstPiece_16 : decode cX5_firstPiece 16 = .ok (.iload 4, 2) := by decide +kernel
theorem dX5_firstPiece_18 : decode cX5_firstPiece 18 = .ok (.if_icmp .ne 5, 3) := by decide +kernel
theorem dX5_firstPiece_21 : decode cX5_firstPiece 21 = .ok (.iload_n 2, 1) := by decide +kernel
theorem dX5_firstPiece_22 : decode cX5_firstPiece 22 = .ok (.ireturn, 1) := by decide +kernel
theorem dX5_firstPiece_23 : decode cX5_firstPiece 23 = .ok (.iconst 1, 1) := by decide +kernel
theorem dX5_firstPiece_24 : decode cX5_firstPiece 24 = .ok (.istore 5, 2) := by decide +kernel
theorem dX5_firstPiece_26 : decode cX5_firstPiece 26 = .ok (.iload 5, 2) := by decide +kernel
theorem dX5_firstPiece_28 : decode cX5_firstPiece 28 = .ok (.iload_n 2, 1) := by decide +kernel
theorem dX5_firstPiece_29 : decode cX5_firstPiece 29 = .ok (.if_icmp .ge 39, 3) := by decide +kernel
theorem dX5_firstPiece_32 : decode cX5_firstPiece 32 = .ok (.aload_n 0, 1) := by decide +kernel
theorem dX5_firstPiece_33 : decode cX5_firstPiece 33 = .ok (.iload_n 1, 1) := by decide +kernel
theorem dX5_firstPiece_34 : decode cX5_firstPiece 34 = .ok (.iload 5, 2) := by decide +kernel
theorem dX5_firstPiece_36 : decode cX5_firstPiece 36 = .ok (.iload_n 3, 1) := by decide +kernel
theorem dX5_firstPiece_37 : decode cX5_firstPiece 37 = .ok (.invokevirtual 77, 3) := by decide +kernel
theorem dX5_firstPiece_40 : decode cX5_firstPiece 40 = .ok (.aload_n 0, 1) := by decide +kernel
theorem dX5_firstPiece_41 : decode cX5_firstPiece 41 = .ok (.iload_n 1, 1) := by decide +kernel
theorem dX5_firstPiece_42 : decode cX5_firstPiece 42 = .ok (.iload 5, 2) := by decide +kernel
theorem dX5_firstPiece_44 : decode cX5_firstPiece 44 = .ok (.iadd, 1) := by decide +kernel
theorem dX5_firstPiece_45 : decode cX5_firstPiece 45 = .ok (.iload_n 2, 1) := by decide +kernel
theorem dX5_firstPiece_46 : decode cX5_firstPiece 46 = .ok (.iload 5, 2) := by decide +kernel
theorem dX5_firstPiece_48 : decode cX5_firstPiece 48 = .ok (.isub, 1) := by decide +kernel
theorem dX5_firstPiece_49 : decode cX5_firstPiece 49 = .ok (.iload_n 3, 1) := by decide +kernel
theorem dX5_firstPiece_50 : decode cX5_firstPiece 50 = .ok (.invokevirtual 58, 3) := by decide +kernel
theorem dX5_firstPiece_53 : decode cX5_firstPiece 53 = .ok (.iadd, 1) := by decide +kernel
theorem dX5_firstPiece_54 : decode cX5_firstPiece 54 = .ok (.iload 4, 2) := by decide +kernel
theorem dX5_firstPiece_56 : decode cX5_firstPiece 56 = .ok (.if_icmp .ne 6, 3) := by decide +kernel
theorem dX5_firstPiece_59 : decode cX5_firstPiece 59 = .ok (.iload 5, 2) := by decide +kernel
theorem dX5_firstPiece_61 : decode cX5_firstPiece 61 = .ok (.ireturn, 1) := by decide +kernel
theorem dX5_firstPiece_62 : decode cX5_firstPiece 62 = .ok (.iinc 5 1, 3) := by decide +kernel
theorem dX5_firstPiece_65 : decode cX5_firstPiece 65 = .ok (.goto (-39), 3) := by decide +kernel
theorem dX5_firstPiece_68 : decode cX5_firstPiece 68 = .ok (.iload_n 2, 1) := by decide +kernel
theorem dX5_firstPiece_69 : decode cX5_firstPiece 69 = .ok (.ireturn, 1) := by decide +kernel
theorem dX5_tellPart_0 : decode cX5_tellPart 0 = .ok (.iload_n 1, 1) := by decide +kernel
theorem dX5_tellPart_1 : decode cX5_tellPart 1 = .ok (.istore 4, 2) := by decide +kernel
theorem dX5_tellPart_3 : decode cX5_tellPart 3 = .ok (.iload_n 1, 1) := by decide +kernel
theorem dX5_tellPart_4 : decode cX5_tellPart 4 = .ok (.iload_n 2, 1) := by decide +kernel
theorem dX5_tellPart_5 : decode cX5_tellPart 5 = .ok (.iadd, 1) := by decide +kernel
theorem dX5_tellPart_6 : decode cX5_tellPart 6 = .ok (.istore 5, 2) := by decide +kernel
theorem dX5_tellPart_8 : decode cX5_tellPart 8 = .ok (.iconst 0, 1) := by decide +kernel
theorem dX5_tellPart_9 : decode cX5_tellPart 9 = .ok (.istore 6, 2) := by decide +kernel
theorem dX5_tellPart_11 : decode cX5_tellPart 11 = .ok (.iload 6, 2) := by decide +kernel
theorem dX5_tellPart_13 : decode cX5_tellPart 13 = .ok (.iload_n 2, 1) := by decide +kernel
theorem dX5_tellPart_14 : decode cX5_tellPart 14 = .ok (.if_icmp .ge 58, 3) := by decide +kernel
theorem dX5_tellPart_17 : decode cX5_tellPart 17 = .ok (.iload 4, 2) := by decide +kernel
theorem dX5_tellPart_19 : decode cX5_tellPart 19 = .ok (.iload 5, 2) := by decide +kernel
theorem dX5_tellPart_21 : decode cX5_tellPart 21 = .ok (.if_icmp .ge 51, 3) := by decide +kernel
theorem dX5_tellPart_24 : decode cX5_tellPart 24 = .ok (.iload 4, 2) := by decide +kernel
theorem dX5_tellPart_26 : decode cX5_tellPart 26 = .ok (.iload_n 1, 1) := by decide +kernel
theorem dX5_tellPart_27 : decode cX5_tellPart 27 = .ok (.if_icmp .le 9, 3) := by decide +kernel
theorem dX5_tellPart_30 : decode cX5_tellPart 30 = .ok (.aload_n 0, 1) := by decide +kernel
theorem dX5_tellPart_31 : decode cX5_tellPart 31 = .ok (.bipush 44, 2) := by decide +kernel
theorem dX5_tellPart_33 : decode cX5_tellPart 33 = .ok (.invokevirtual 80, 3) := by decide +kernel
theorem dX5_tellPart_36 : decode cX5_tellPart 36 = .ok (.aload_n 0, 1) := by decide +kernel
theorem dX5_tellPart_37 : decode cX5_tellPart 37 = .ok (.iload 4, 2) := by decide +kernel
theorem dX5_tellPart_39 : decode cX5_tellPart 39 = .ok (.iload 5, 2) := by decide +kernel
theorem dX5_tellPart_41 : decode cX5_tellPart 41 = .ok (.iload 4, 2) := by decide +kernel
theorem dX5_tellPart_43 : decode cX5_tellPart 43 = .ok (.isub, 1) := by decide +kernel
theorem dX5_tellPart_44 : decode cX5_tellPart 44 = .ok (.iload_n 3, 1) := by decide +kernel
theorem dX5_tellPart_45 : decode cX5_tellPart 45 = .ok (.invokevirtual 83, 3) := by decide +kernel
theorem dX5_tellPart_48 : decode cX5_tellPart 48 = .ok (.istore 7, 2) := by decide +kernel
theorem dX5_tellPart_50 : decode cX5_tellPart 50 = .ok (.aload_n 0, 1) := by decide +kernel
theorem dX5_tellPart_51 : decode cX5_tellPart 51 = .ok (.iload 4, 2) := by decide +kernel
theorem dX5_tellPart_53 : decode cX5_tellPart 53 = .ok (.iload 7, 2) := by decide +kernel
theorem dX5_tellPart_55 : decode cX5_tellPart 55 = .ok (.iload_n 3, 1) := by decide +kernel
theorem dX5_tellPart_56 : decode cX5_tellPart 56 = .ok (.invokevirtual 86, 3) := by decide +kernel
theorem dX5_tellPart_59 : decode cX5_tellPart 59 = .ok (.iload 4, 2) := by decide +kernel
theorem dX5_tellPart_61 : decode cX5_tellPart 61 = .ok (.iload 7, 2) := by decide +kernel
theorem dX5_tellPart_63 : decode cX5_tellPart 63 = .ok (.iadd, 1) := by decide +kernel
theorem dX5_tellPart_64 : decode cX5_tellPart 64 = .ok (.istore 4, 2) := by decide +kernel
theorem dX5_tellPart_66 : decode cX5_tellPart 66 = .ok (.iinc 6 1, 3) := by decide +kernel
theorem dX5_tellPart_69 : decode cX5_tellPart 69 = .ok (.goto (-58), 3) := by decide +kernel
theorem dX5_tellPart_72 : decode cX5_tellPart 72 = .ok (.return_, 1) := by decide +kernel
theorem dX5_tellPiece_0 : decode cX5_tellPiece 0 = .ok (.aload_n 0, 1) := by decide +kernel
theorem dX5_tellPiece_1 : decode cX5_tellPiece 1 = .ok (.iload_n 1, 1) := by decide +kernel
theorem dX5_tellPiece_2 : decode cX5_tellPiece 2 = .ok (.iload_n 2, 1) := by decide +kernel
theorem dX5_tellPiece_3 : decode cX5_tellPiece 3 = .ok (.iload_n 3, 1) := by decide +kernel
theorem dX5_tellPiece_4 : decode cX5_tellPiece 4 = .ok (.invokevirtual 74, 3) := by decide +kernel
theorem dX5_tellPiece_7 : decode cX5_tellPiece 7 = .ok (.istore 4, 2) := by decide +kernel
theorem dX5_tellPiece_9 : decode cX5_tellPiece 9 = .ok (.iload 4, 2) := by decide +kernel
theorem dX5_tellPiece_11 : decode cX5_tellPiece 11 = .ok (.iconst 1, 1) := by decide +kernel
theorem dX5_tellPiece_12 : decode cX5_tellPiece 12 = .ok (.if_icmp .lt 8, 3) := by decide +kernel
theorem dX5_tellPiece_15 : decode cX5_tellPiece 15 = .ok (.iload_n 3, 1) := by decide +kernel
theorem dX5_tellPiece_16 : decode cX5_tellPiece 16 = .ok (.iconst 4, 1) := by decide +kernel
theorem dX5_tellPiece_17 : decode cX5_tellPiece 17 = .ok (.if_icmp .lt 14, 3) := by decide +kernel
theorem dX5_tellPiece_20 : decode cX5_tellPiece 20 = .ok (.aload_n 0, 1) := by decide +kernel
theorem dX5_tellPiece_21 : decode cX5_tellPiece 21 = .ok (.aload_n 0, 1) := by decide +kernel
theorem dX5_tellPiece_22 : decode cX5_tellPiece 22 = .ok (.getfield 18, 3) := by decide +kernel
theorem dX5_tellPiece_25 : decode cX5_tellPiece 25 = .ok (.iload_n 1, 1) := by decide +kernel
theorem dX5_tellPiece_26 : decode cX5_tellPiece 26 = .ok (.iaload, 1) := by decide +kernel
theorem dX5_tellPiece_27 : decode cX5_tellPiece 27 = .ok (.invokevirtual 89, 3) := by decide +kernel
theorem dX5_tellPiece_30 : decode cX5_tellPiece 30 = .ok (.return_, 1) := by decide +kernel
theorem dX5_tellPiece_31 : decode cX5_tellPiece 31 = .ok (.aload_n 0, 1) := by decide +kernel
theorem dX5_tellPiece_32 : decode cX5_tellPiece 32 = .ok (.bipush 40, 2) := by decide +kernel
theorem dX5_tellPiece_34 : decode cX5_tellPiece 34 = .ok (.invokevirtual 80, 3) := by decide +kernel
theorem dX5_tellPiece_37 : decode cX5_tellPiece 37 = .ok (.aload_n 0, 1) := by decide +kernel
theorem dX5_tellPiece_38 : decode cX5_tellPiece 38 = .ok (.iload_n 1, 1) := by decide +kernel
theorem dX5_tellPiece_39 : decode cX5_tellPiece 39 = .ok (.iload 4, 2) := by decide +kernel
theorem dX5_tellPiece_41 : decode cX5_tellPiece 41 = .ok (.iload_n 3, 1) := by decide +kernel
theorem dX5_tellPiece_42 : decode cX5_tellPiece 42 = .ok (.iconst 1, 1) := by decide +kernel
theorem dX5_tellPiece_43 : decode cX5_tellPiece 43 = .ok (.iadd, 1) := by decide +kernel
theorem dX5_tellPiece_44 : decode cX5_tellPiece 44 = .ok (.invokevirtual 55, 3) := by decide +kernel
theorem dX5_tellPiece_47 : decode cX5_tellPiece 47 = .ok (.aload_n 0, 1) := by decide +kernel
theorem dX5_tellPiece_48 : decode cX5_tellPiece 48 = .ok (.bipush 41, 2) := by decide +kernel
theorem dX5_tellPiece_50 : decode cX5_tellPiece 50 = .ok (.invokevirtual 80, 3) := by decide +kernel
theorem dX5_tellPiece_53 : decode cX5_tellPiece 53 = .ok (.aload_n 0, 1) := by decide +kernel
theorem dX5_tellPiece_54 : decode cX5_tellPiece 54 = .ok (.bipush 120, 2) := by decide +kernel
theorem dX5_tellPiece_56 : decode cX5_tellPiece 56 = .ok (.invokevirtual 80, 3) := by decide +kernel
theorem dX5_tellPiece_59 : decode cX5_tellPiece 59 = .ok (.aload_n 0, 1) := by decide +kernel
theorem dX5_tellPiece_60 : decode cX5_tellPiece 60 = .ok (.iload_n 2, 1) := by decide +kernel
theorem dX5_tellPiece_61 : decode cX5_tellPiece 61 = .ok (.iload 4, 2) := by decide +kernel
theorem dX5_tellPiece_63 : decode cX5_tellPiece 63 = .ok (.idiv, 1) := by decide +kernel
theorem dX5_tellPiece_64 : decode cX5_tellPiece 64 = .ok (.invokevirtual 92, 3) := by decide +kernel
theorem dX5_tellPiece_67 : decode cX5_tellPiece 67 = .ok (.return_, 1) := by decide +kernel
theorem dX5_tellStitch_0 : decode cX5_tellStitch 0 = .ok (.iload_n 1, 1) := by decide +kernel
theorem dX5_tellStitch_1 : decode cX5_tellStitch 1 = .ok (.invokestatic 95, 3) := by decide +kernel
theorem dX5_tellStitch_4 : decode cX5_tellStitch 4 = .ok (.ifCond .eq 50, 3) := by decide +kernel
theorem dX5_tellStitch_7 : decode cX5_tellStitch 7 = .ok (.aload_n 0, 1) := by decide +kernel
theorem dX5_tellStitch_8 : decode cX5_tellStitch 8 = .ok (.bipush 99, 2) := by decide +kernel
theorem dX5_tellStitch_10 : decode cX5_tellStitch 10 = .ok (.invokevirtual 80, 3) := by decide +kernel
theorem dX5_tellStitch_13 : decode cX5_tellStitch 13 = .ok (.aload_n 0, 1) := by decide +kernel
theorem dX5_tellStitch_14 : decode cX5_tellStitch 14 = .ok (.iload_n 1, 1) := by decide +kernel
theorem dX5_tellStitch_15 : decode cX5_tellStitch 15 = .ok (.invokestatic 101, 3) := by decide +kernel
theorem dX5_tellStitch_18 : decode cX5_tellStitch 18 = .ok (.invokevirtual 92, 3) := by decide +kernel
theorem dX5_tellStitch_21 : decode cX5_tellStitch 21 = .ok (.aload_n 0, 1) := by decide +kernel
theorem dX5_tellStitch_22 : decode cX5_tellStitch 22 = .ok (.bipush 47, 2) := by decide +kernel
theorem dX5_tellStitch_24 : decode cX5_tellStitch 24 = .ok (.invokevirtual 80, 3) := by decide +kernel
theorem dX5_tellStitch_27 : decode cX5_tellStitch 27 = .ok (.aload_n 0, 1) := by decide +kernel
theorem dX5_tellStitch_28 : decode cX5_tellStitch 28 = .ok (.iload_n 1, 1) := by decide +kernel
theorem dX5_tellStitch_29 : decode cX5_tellStitch 29 = .ok (.invokestatic 104, 3) := by decide +kernel
theorem dX5_tellStitch_32 : decode cX5_tellStitch 32 = .ok (.invokevirtual 92, 3) := by decide +kernel
theorem dX5_tellStitch_35 : decode cX5_tellStitch 35 = .ok (.aload_n 0, 1) := by decide +kernel
theorem dX5_tellStitch_36 : decode cX5_tellStitch 36 = .ok (.iload_n 1, 1) := by decide +kernel
theorem dX5_tellStitch_37 : decode cX5_tellStitch 37 = .ok (.invokestatic 107, 3) := by decide +kernel
theorem dX5_tellStitch_40 : decode cX5_tellStitch 40 = .ok (.ifCond .eq 8, 3) := by decide +kernel
theorem dX5_tellStitch_43 : decode cX5_tellStitch 43 = .ok (.bipush 98, 2) := by decide +kernel
theorem dX5_tellStitch_45 : decode cX5_tellStitch 45 = .ok (.goto 5, 3) := by decide +kernel
theorem dX5_tellStitch_48 : decode cX5_tellStitch 48 = .ok (.bipush 102, 2) := by decide +kernel
theorem dX5_tellStitch_50 : decode cX5_tellStitch 50 = .ok (.invokevirtual 80, 3) := by decide +kernel
theorem dX5_tellStitch_53 : decode cX5_tellStitch 53 = .ok (.return_, 1) := by decide +kernel
theorem dX5_tellStitch_54 : decode cX5_tellStitch 54 = .ok (.iload_n 1, 1) := by decide +kernel
theorem dX5_tellStitch_55 : decode cX5_tellStitch 55 = .ok (.invokestatic 110, 3) := by decide +kernel
theorem dX5_tellStitch_58 : decode cX5_tellStitch 58 = .ok (.astore_n 2, 1) := by decide +kernel
theorem dX5_tellStitch_59 : decode cX5_tellStitch 59 = .ok (.iconst 0, 1) := by decide +kernel
theorem dX5_tellStitch_60 : decode cX5_tellStitch 60 = .ok (.istore_n 3, 1) := by decide +kernel
theorem dX5_tellStitch_61 : decode cX5_tellStitch 61 = .ok (.iload_n 3, 1) := by decide +kernel
theorem dX5_tellStitch_62 : decode cX5_tellStitch 62 = .ok (.aload_n 2, 1) := by decide +kernel
theorem dX5_tellStitch_63 : decode cX5_tellStitch 63 = .ok (.invokevirtual 114, 3) := by decide +kernel
theorem dX5_tellStitch_66 : decode cX5_tellStitch 66 = .ok (.if_icmp .ge 18, 3) := by decide +kernel
theorem dX5_tellStitch_69 : decode cX5_tellStitch 69 = .ok (.aload_n 0, 1) := by decide +kernel
theorem dX5_tellStitch_70 : decode cX5_tellStitch 70 = .ok (.aload_n 2, 1) := by decide +kernel
theorem dX5_tellStitch_71 : decode cX5_tellStitch 71 = .ok (.iload_n 3, 1) := by decide +kernel
theorem dX5_tellStitch_72 : decode cX5_tellStitch 72 = .ok (.invokevirtual 119, 3) := by decide +kernel
theorem dX5_tellStitch_75 : decode cX5_tellStitch 75 = .ok (.invokevirtual 80, 3) := by decide +kernel
theorem dX5_tellStitch_78 : decode cX5_tellStitch 78 = .ok (.iinc 3 1, 3) := by decide +kernel
theorem dX5_tellStitch_81 : decode cX5_tellStitch 81 = .ok (.goto (-20), 3) := by decide +kernel
theorem dX5_tellStitch_84 : decode cX5_tellStitch 84 = .ok (.return_, 1) := by decide +kernel
theorem dX5_putNumber_0 : decode cX5_putNumber 0 = .ok (.iload_n 1, 1) := by decide +kernel
theorem dX5_putNumber_1 : decode cX5_putNumber 1 = .ok (.bipush 10, 2) := by decide +kernel
theorem dX5_putNumber_3 : decode cX5_putNumber 3 = .ok (.if_icmp .lt 14, 3) := by decide +kernel
theorem dX5_putNumber_6 : decode cX5_putNumber 6 = .ok (.aload_n 0, 1) := by decide +kernel
theorem dX5_putNumber_7 : decode cX5_putNumber 7 = .ok (.bipush 48, 2) := by decide +kernel
theorem dX5_putNumber_9 : decode cX5_putNumber 9 = .ok (.iload_n 1, 1) := by decide +kernel
theorem dX5_putNumber_10 : decode cX5_putNumber 10 = .ok (.bipush 10, 2) := by decide +kernel
theorem dX5_putNumber_12 : decode cX5_putNumber 12 = .ok (.idiv, 1) := by decide +kernel
theorem dX5_putNumber_13 : decode cX5_putNumber 13 = .ok (.iadd, 1) := by decide +kernel
theorem dX5_putNumber_14 : decode cX5_putNumber 14 = .ok (.invokevirtual 80, 3) := by decide +kernel
theorem dX5_putNumber_17 : decode cX5_putNumber 17 = .ok (.aload_n 0, 1) := by decide +kernel
theorem dX5_putNumber_18 : decode cX5_putNumber 18 = .ok (.bipush 48, 2) := by decide +kernel
theorem dX5_putNumber_20 : decode cX5_putNumber 20 = .ok (.iload_n 1, 1) := by decide +kernel
theorem dX5_putNumber_21 : decode cX5_putNumber 21 = .ok (.bipush 10, 2) := by decide +kernel
theorem dX5_putNumber_23 : decode cX5_putNumber 23 = .ok (.irem, 1) := by decide +kernel
theorem dX5_putNumber_24 : decode cX5_putNumber 24 = .ok (.iadd, 1) := by decide +kernel
theorem dX5_putNumber_25 : decode cX5_putNumber 25 = .ok (.invokevirtual 80, 3) := by decide +kernel
theorem dX5_putNumber_28 : decode cX5_putNumber 28 = .ok (.return_, 1) := by decide +kernel
theorem dX5_put_0 : decode cX5_put 0 = .ok (.aload_n 0, 1) := by decide +kernel
theorem dX5_put_1 : decode cX5_put 1 = .ok (.getfield 24, 3) := by decide +kernel
theorem dX5_put_4 : decode cX5_put 4 = .ok (.sipush 480, 3) := by decide +kernel
theorem dX5_put_7 : decode cX5_put 7 = .ok (.if_icmp .ge 23, 3) := by decide +kernel
theorem dX5_put_10 : decode cX5_put 10 = .ok (.aload_n 0, 1) := by decide +kernel
theorem dX5_put_11 : decode cX5_put 11 = .ok (.getfield 21, 3) := by decide +kernel
theorem dX5_put_14 : decode cX5_put 14 = .ok (.aload_n 0, 1) := by decide +kernel
theorem dX5_put_15 : decode cX5_put 15 = .ok (.getfield 24, 3) := by decide +kernel
theorem dX5_put_18 : decode cX5_put 18 = .ok (.iload_n 1, 1) := by decide +kernel
theorem dX5_put_19 : decode cX5_put 19 = .ok (.iastore, 1) := by decide +kernel
theorem dX5_put_20 : decode cX5_put 20 = .ok (.aload_n 0, 1) := by decide +kernel
theorem dX5_put_21 : decode cX5_put 21 = .ok (.dup, 1) := by decide +kernel
theorem dX5_put_22 : decode cX5_put 22 = .ok (.getfield 24, 3) := by decide +kernel
theorem dX5_put_25 : decode cX5_put 25 = .ok (.iconst 1, 1) := by decide +kernel
theorem dX5_put_26 : decode cX5_put 26 = .ok (.iadd, 1) := by decide +kernel
theorem dX5_put_27 : decode cX5_put 27 = .ok (.putfield 24, 3) := by decide +kernel
theorem dX5_put_30 : decode cX5_put 30 = .ok (.return_, 1) := by decide +kernel
theorem dX8_init_0 : decode cX8_init 0 = .ok (.aload_n 0, 1) := by decide +kernel
theorem dX8_init_1 : decode cX8_init 1 = .ok (.invokespecial 1, 3) := by decide +kernel
theorem dX8_init_4 : decode cX8_init 4 = .ok (.new 7, 3) := by decide +kernel
theorem dX8_init_7 : decode cX8_init 7 = .ok (.dup, 1) := by decide +kernel
theorem dX8_init_8 : decode cX8_init 8 = .ok (.invokespecial 9, 3) := by decide +kernel
theorem dX8_init_11 : decode cX8_init 11 = .ok (.astore_n 1, 1) := by decide +kernel
theorem dX8_init_12 : decode cX8_init 12 = .ok (.aload_n 0, 1) := by decide +kernel
theorem dX8_init_13 : decode cX8_init 13 = .ok (.new 10, 3) := by decide +kernel
theorem dX8_init_16 : decode cX8_init 16 = .ok (.dup, 1) := by decide +kernel
theorem dX8_init_17 : decode cX8_init 17 = .ok (.invokespecial 12, 3) := by decide +kernel
theorem dX8_init_20 : decode cX8_init 20 = .ok (.putfield 13, 3) := by decide +kernel
theorem dX8_init_23 : decode cX8_init 23 = .ok (.aload_n 0, 1) := by decide +kernel
theorem dX8_init_24 : decode cX8_init 24 = .ok (.new 19, 3) := by decide +kernel
theorem dX8_init_27 : decode cX8_init 27 = .ok (.dup, 1) := by decide +kernel
theorem dX8_init_28 : decode cX8_init 28 = .ok (.invokespecial 21, 3) := by decide +kernel
theorem dX8_init_31 : decode cX8_init 31 = .ok (.putfield 22, 3) := by decide +kernel
theorem dX8_init_34 : decode cX8_init 34 = .ok (.aload_n 0, 1) := by decide +kernel
theorem dX8_init_35 : decode cX8_init 35 = .ok (.new 26, 3) := by decide +kernel
theorem dX8_init_38 : decode cX8_init 38 = .ok (.dup, 1) := by decide +kernel
theorem dX8_init_39 : decode cX8_init 39 = .ok (.aload_n 0, 1) := by decide +kernel
theorem dX8_init_40 : decode cX8_init 40 = .ok (.getfield 13, 3) := by decide +kernel
theorem dX8_init_43 : decode cX8_init 43 = .ok (.aload_n 1, 1) := by decide +kernel
theorem dX8_init_44 : decode cX8_init 44 = .ok (.invokespecial 28, 3) := by decide +kernel
theorem dX8_init_47 : decode cX8_init 47 = .ok (.putfield 31, 3) := by decide +kernel
theorem dX8_init_50 : decode cX8_init 50 = .ok (.aload_n 0, 1) := by decide +kernel
theorem dX8_init_51 : decode cX8_init 51 = .ok (.new 35, 3) := by decide +kernel
theorem dX8_init_54 : decode cX8_init 54 = .ok (.dup, 1) := by decide +kernel
theorem dX8_init_55 : decode cX8_init 55 = .ok (.aload_n 1, 1) := by decide +kernel
theorem dX8_init_56 : decode cX8_init 56 = .ok (.aload_n 0, 1) := by decide +kernel
theorem dX8_init_57 : decode cX8_init 57 = .ok (.getfield 22, 3) := by decide +kernel
theorem dX8_init_60 : decode cX8_init 60 = .ok (.invokespecial 37, 3) := by decide +kernel
theorem dX8_init_63 : decode cX8_init 63 = .ok (.putfield 40, 3) := by decide +kernel
theorem dX8_init_66 : decode cX8_init 66 = .ok (.aload_n 0, 1) := by decide +kernel
theorem dX8_init_67 : decode cX8_init 67 = .ok (.getfield 22, 3) := by decide +kernel
theorem dX8_init_70 : decode cX8_init 70 = .ok (.iconst 1, 1) := by decide +kernel
theorem dX8_init_71 : decode cX8_init 71 = .ok (.iconst 0, 1) := by decide +kernel
theorem dX8_init_72 : decode cX8_init 72 = .ok (.invokevirtual 44, 3) := by decide +kernel
theorem dX8_init_75 : decode cX8_init 75 = .ok (.return_, 1) := by decide +kernel
theorem dX8_begin_0 : decode cX8_begin 0 = .ok (.iload_n 1, 1) := by decide +kernel
theorem dX8_begin_1 : decode cX8_begin 1 = .ok (.iconst 1, 1) := by decide +kernel
theorem dX8_begin_2 : decode cX8_begin 2 = .ok (.if_icmp .lt 9, 3) := by decide +kernel
theorem dX8_begin_5 : decode cX8_begin 5 = .ok (.iload_n 1, 1) := by decide +kernel
theorem dX8_begin_6 : decode cX8_begin 6 = .ok (.bipush 40, 2) := by decide +kernel
theorem dX8_begin_8 : decode cX8_begin 8 = .ok (.if_icmp .le 13, 3) := by decide +kernel
theorem dX8_begin_11 : decode cX8_begin 11 = .ok (.new 48, 3) := by decide +kernel
theorem dX8_begin_14 : decode cX8_begin 14 = .ok (.dup, 1) := by decide +kernel
theorem dX8_begin_15 : decode cX8_begin 15 = .ok (.ldc 50, 2) := by decide +kernel
theorem dX8_begin_17 : decode cX8_begin 17 = .ok (.invokespecial 52, 3) := by decide +kernel
theorem dX8_begin_20 : decode cX8_begin 20 = .ok (.athrow, 1) := by decide +kernel
theorem dX8_begin_21 : decode cX8_begin 21 = .ok (.aload_n 0, 1) := by decide +kernel
theorem dX8_begin_22 : decode cX8_begin 22 = .ok (.getfield 22, 3) := by decide +kernel
theorem dX8_begin_25 : decode cX8_begin 25 = .ok (.iload_n 1, 1) := by decide +kernel
theorem dX8_begin_26 : decode cX8_begin 26 = .ok (.iload_n 2, 1) := by decide +kernel
theorem dX8_begin_27 : decode cX8_begin 27 = .ok (.invokevirtual 44, 3) := by decide +kernel
theorem dX8_begin_30 : decode cX8_begin 30 = .ok (.aload_n 0, 1) := by decide +kernel
theorem dX8_begin_31 : decode cX8_begin 31 = .ok (.getfield 55, 3) := by decide +kernel
theorem dX8_begin_34 : decode cX8_begin 34 = .ok (.ifnull 10, 3) := by decide +kernel
theorem dX8_begin_37 : decode cX8_begin 37 = .ok (.aload_n 0, 1) := by decide +kernel
theorem dX8_begin_38 : decode cX8_begin 38 = .ok (.getfield 55, 3) := by decide +kernel
theorem dX8_begin_41 : decode cX8_begin 41 = .ok (.invokevirtual 59, 3) := by decide +kernel
theorem dX8_begin_44 : decode cX8_begin 44 = .ok (.return_, 1) := by decide +kernel
theorem dX8_feed_0 : decode cX8_feed 0 = .ok (.iload_n 3, 1) := by decide +kernel
theorem dX8_feed_1 : decode cX8_feed 1 = .ok (.iconst 1, 1) := by decide +kernel
theorem dX8_feed_2 : decode cX8_feed 2 = .ok (.if_icmp .lt 9, 3) := by decide +kernel
theorem dX8_feed_5 : decode cX8_feed 5 = .ok (.iload_n 3, 1) := by decide +kernel
theorem dX8_feed_6 : decode cX8_feed 6 = .ok (.bipush 8, 2) := by decide +kernel
theorem dX8_feed_8 : decode cX8_feed 8 = .ok (.if_icmp .le 13, 3) := by decide +kernel
theorem dX8_feed_11 : decode cX8_feed 11 = .ok (.new 48, 3) := by decide +kernel
theorem dX8_feed_14 : decode cX8_feed 14 = .ok (.dup, 1) := by decide +kernel
theorem dX8_feed_15 : decode cX8_feed 15 = .ok (.ldc 64, 2) := by decide +kernel
theorem dX8_feed_17 : decode cX8_feed 17 = .ok (.invokespecial 52, 3) := by decide +kernel
theorem dX8_feed_20 : decode cX8_feed 20 = .ok (.athrow, 1) := by decide +kernel
theorem dX8_feed_21 : decode cX8_feed 21 = .ok (.aload_n 0, 1) := by decide +kernel
theorem dX8_feed_22 : decode cX8_feed 22 = .ok (.getfield 13, 3) := by decide +kernel
theorem dX8_feed_25 : decode cX8_feed 25 = .ok (.iload_n 3, 1) := by decide +kernel
theorem dX8_feed_26 : decode cX8_feed 26 = .ok (.invokevirtual 66, 3) := by decide +kernel
theorem dX8_feed_29 : decode cX8_feed 29 = .ok (.ifCond .ne 13, 3) := by decide +kernel
theorem dX8_feed_32 : decode cX8_feed 32 = .ok (.new 70, 3) := by decide +kernel
theorem dX8_feed_35 : decode cX8_feed 35 = .ok (.dup, 1) := by decide +kernel
theorem dX8_feed_36 : decode cX8_feed 36 = .ok (.ldc 72, 2) := by decide +kernel
theorem dX8_feed_38 : decode cX8_feed 38 = .ok (.invokespecial 74, 3) := by decide +kernel
theorem dX8_feed_41 : decode cX8_feed 41 = .ok (.athrow, 1) := by decide +kernel
theorem dX8_feed_42 : decode cX8_feed 42 = .ok (.aload_n 0, 1) := by decide +kernel
theorem dX8_feed_43 : decode cX8_feed 43 = .ok (.getfield 13, 3) := by decide +kernel
theorem dX8_feed_46 : decode cX8_feed 46 = .ok (.lload_n 1, 1) := by decide +kernel
theorem dX8_feed_47 : decode cX8_feed 47 = .ok (.iload_n 3, 1) := by decide +kernel
theorem dX8_feed_48 : decode cX8_feed 48 = .ok (.invokevirtual 75, 3) := by decide +kernel
theorem dX8_feed_51 : decode cX8_feed 51 = .ok (.aload_n 0, 1) := by decide +kernel
theorem dX8_feed_52 : decode cX8_feed 52 = .ok (.getfield 13, 3) := by decide +kernel
theorem dX8_feed_55 : decode cX8_feed 55 = .ok (.invokevirtual 79, 3) := by decide +kernel
theorem dX8_feed_58 : decode cX8_feed 58 = .ok (.ireturn, 1) := by decide +kernel
theorem dX8_work_0 : decode cX8_work 0 = .ok (.aload_n 0, 1) := by decide +kernel
theorem dX8_work_1 : decode cX8_work 1 = .ok (.getfield 31, 3) := by decide +kernel
theorem dX8_work_4 : decode cX8_work 4 = .ok (.invokevirtual 83, 3) := by decide +kernel
theorem dX8_work_7 : decode cX8_work 7 = .ok (.istore_n 1, 1) := by decide +kernel
theorem dX8_work_8 : decode cX8_work 8 = .ok (.iload_n 1, 1) := by decide +kernel
theorem dX8_work_9 : decode cX8_work 9 = .ok (.ifCond .ne 18, 3) := by decide +kernel
theorem dX8_work_12 : decode cX8_work 12 = .ok (.aload_n 0, 1) := by decide +kernel
theorem dX8_work_13 : decode cX8_work 13 = .ok (.getfield 40, 3) := by decide +kernel
theorem dX8_work_16 : decode cX8_work 16 = .ok (.aload_n 0, 1) := by decide +kernel
theorem dX8_work_17 : decode cX8_work 17 = .ok (.getfield 13, 3) := by decide +kernel
theorem dX8_work_20 : decode cX8_work 20 = .ok (.invokevirtual 79, 3) := by decide +kernel
theorem dX8_work_23 : decode cX8_work 23 = .ok (.invokevirtual 86, 3) := by decide +kernel
theorem dX8_work_26 : decode cX8_work 26 = .ok (.istore_n 1, 1) := by decide +kernel
theorem dX8_work_27 : decode cX8_work 27 = .ok (.aload_n 0, 1) := by decide +kernel
theorem dX8_work_28 : decode cX8_work 28 = .ok (.getfield 13, 3) := by decide +kernel
theorem dX8_work_31 : decode cX8_work 31 = .ok (.invokevirtual 90, 3) := by decide +kernel
theorem dX8_work_34 : decode cX8_work 34 = .ok (.iload_n 1, 1) := by decide +kernel
theorem dX8_work_35 : decode cX8_work 35 = .ok (.ireturn, 1) := by decide +kernel
theorem dX8_rows_0 : decode cX8_rows 0 = .ok (.aload_n 0, 1) := by decide +kernel
theorem dX8_rows_1 : decode cX8_rows 1 = .ok (.getfield 22, 3) := by decide +kernel
theorem dX8_rows_4 : decode cX8_rows 4 = .ok (.invokevirtual 93, 3) := by decide +kernel
theorem dX8_rows_7 : decode cX8_rows 7 = .ok (.ireturn, 1) := by decide +kernel
theorem dX8_unravel_0 : decode cX8_unravel 0 = .ok (.iload_n 1, 1) := by decide +kernel
theorem dX8_unravel_1 : decode cX8_unravel 1 = .ok (.ifCond .lt 14, 3) := by decide +kernel
theorem dX8_unravel_4 : decode cX8_unravel 4 = .ok (.iload_n 1, 1) := by decide +kernel
theorem dX8_unravel_5 : decode cX8_unravel 5 = .ok (.aload_n 0, 1) := by decide +kernel
theorem dX8_unravel_6 : decode cX8_unravel 6 = .ok (.getfield 22, 3) := by decide +kernel
theorem dX8_unravel_9 : decode cX8_unravel 9 = .ok (.invokevirtual 93, 3) := by decide +kernel
theorem dX8_unravel_12 : decode cX8_unravel 12 = .ok (.if_icmp .le 13, 3) := by decide +kernel
theorem dX8_unravel_15 : decode cX8_unravel 15 = .ok (.new 48, 3) := by decide +kernel
theorem dX8_unravel_18 : decode cX8_unravel 18 = .ok (.dup, 1) := by decide +kernel
theorem dX8_unravel_19 : decode cX8_unravel 19 = .ok (.ldc 96, 2) := by decide +kernel
theorem dX8_unravel_21 : decode cX8_unravel 21 = .ok (.invokespecial 52, 3) := by decide +kernel
theorem dX8_unravel_24 : decode cX8_unravel 24 = .ok (.athrow, 1) := by decide +kernel
theorem dX8_unravel_25 : decode cX8_unravel 25 = .ok (.aload_n 0, 1) := by decide +kernel
theorem dX8_unravel_26 : decode cX8_unravel 26 = .ok (.getfield 22, 3) := by decide +kernel
theorem dX8_unravel_29 : decode cX8_unravel 29 = .ok (.iload_n 1, 1) := by decide +kernel
theorem dX8_unravel_30 : decode cX8_unravel 30 = .ok (.invokevirtual 98, 3) := by decide +kernel
theorem dX8_unravel_33 : decode cX8_unravel 33 = .ok (.aload_n 0, 1) := by decide +kernel
theorem dX8_unravel_34 : decode cX8_unravel 34 = .ok (.getfield 22, 3) := by decide +kernel
theorem dX8_unravel_37 : decode cX8_unravel 37 = .ok (.invokevirtual 93, 3) := by decide +kernel
theorem dX8_unravel_40 : decode cX8_unravel 40 = .ok (.ireturn, 1) := by decide +kernel
theorem dX8_live_0 : decode cX8_live 0 = .ok (.aload_n 0, 1) := by decide +kernel
theorem dX8_live_1 : decode cX8_live 1 = .ok (.getfield 22, 3) := by decide +kernel
theorem dX8_live_4 : decode cX8_live 4 = .ok (.iload_n 1, 1) := by decide +kernel
theorem dX8_live_5 : decode cX8_live 5 = .ok (.invokevirtual 102, 3) := by decide +kernel
theorem dX8_live_8 : decode cX8_live 8 = .ok (.ireturn, 1) := by decide +kernel
theorem dX8_loop_0 : decode cX8_loop 0 = .ok (.aload_n 0, 1) := by decide +kernel
theorem dX8_loop_1 : decode cX8_loop 1 = .ok (.getfield 22, 3) := by decide +kernel
theorem dX8_loop_4 : decode cX8_loop 4 = .ok (.iload_n 1, 1) := by decide +kernel
theorem dX8_loop_5 : decode cX8_loop 5 = .ok (.invokevirtual 105, 3) := by decide +kernel
theorem dX8_loop_8 : decode cX8_loop 8 = .ok (.ifCond .ne 13, 3) := by decide +kernel
theorem dX8_loop_11 : decode cX8_loop 11 = .ok (.new 48, 3) := by decide +kernel
theorem dX8_loop_14 : decode cX8_loop 14 = .ok (.dup, 1) := by decide +kernel
theorem dX8_loop_15 : decode cX8_loop 15 = .ok (.ldc 108, 2) := by decide +kernel
theorem dX8_loop_17 : decode cX8_loop 17 = .ok (.invokespecial 52, 3) := by decide +kernel
theorem dX8_loop_20 : decode cX8_loop 20 = .ok (.athrow, 1) := by decide +kernel
theorem dX8_loop_21 : decode cX8_loop 21 = .ok (.iload_n 2, 1) := by decide +kernel
theorem dX8_loop_22 : decode cX8_loop 22 = .ok (.ifCond .lt 17, 3) := by decide +kernel
theorem dX8_loop_25 : decode cX8_loop 25 = .ok (.iload_n 2, 1) := by decide +kernel
theorem dX8_loop_26 : decode cX8_loop 26 = .ok (.iconst 3, 1) := by decide +kernel
theorem dX8_loop_27 : decode cX8_loop 27 = .ok (.aload_n 0, 1) := by decide +kernel
theorem dX8_loop_28 : decode cX8_loop 28 = .ok (.getfield 22, 3) := by decide +kernel
theorem dX8_loop_31 : decode cX8_loop 31 = .ok (.iload_n 1, 1) := by decide +kernel
theorem dX8_loop_32 : decode cX8_loop 32 = .ok (.invokevirtual 110, 3) := by decide +kernel
theorem dX8_loop_35 : decode cX8_loop 35 = .ok (.iadd, 1) := by decide +kernel
theorem dX8_loop_36 : decode cX8_loop 36 = .ok (.if_icmp .lt 13, 3) := by decide +kernel
theorem dX8_loop_39 : decode cX8_loop 39 = .ok (.new 48, 3) := by decide +kernel
theorem dX8_loop_42 : decode cX8_loop 42 = .ok (.dup, 1) := by decide +kernel
theorem dX8_loop_43 : decode cX8_loop 43 = .ok (.ldc 113, 2) := by decide +kernel
theorem dX8_loop_45 : decode cX8_loop 45 = .ok (.invokespecial 52, 3) := by decide +kernel
theorem dX8_loop_48 : decode cX8_loop 48 = .ok (.athrow, 1) := by decide +kernel
theorem dX8_loop_49 : decode cX8_loop 49 = .ok (.iload_n 2, 1) := by decide +kernel
theorem dX8_loop_50 : decode cX8_loop 50 = .ok (.tableswitch 53 0 2 #[26, 35, 44], 26) := by decide +kernel
theorem dX8_loop_76 : decode cX8_loop 76 = .ok (.aload_n 0, 1) := by decide +kernel
theorem dX8_loop_77 : decode cX8_loop 77 = .ok (.getfield 22, 3) := by decide +kernel
theorem dX8_loop_80 : decode cX8_loop 80 = .ok (.iload_n 1, 1) := by decide +kernel
theorem dX8_loop_81 : decode cX8_loop 81 = .ok (.invokevirtual 115, 3) := by decide +kernel
theorem dX8_loop_84 : decode cX8_loop 84 = .ok (.ireturn, 1) := by decide +kernel
theorem dX8_loop_85 : decode cX8_loop 85 = .ok (.aload_n 0, 1) := by decide +kernel
theorem dX8_loop_86 : decode cX8_loop 86 = .ok (.getfield 22, 3) := by decide +kernel
theorem dX8_loop_89 : decode cX8_loop 89 = .ok (.iload_n 1, 1) := by decide +kernel
theorem dX8_loop_90 : decode cX8_loop 90 = .ok (.invokevirtual 118, 3) := by decide +kernel
theorem dX8_loop_93 : decode cX8_loop 93 = .ok (.ireturn, 1) := by decide +kernel
theorem dX8_loop_94 : decode cX8_loop 94 = .ok (.aload_n 0, 1) := by decide +kernel
theorem dX8_loop_95 : decode cX8_loop 95 = .ok (.getfield 22, 3) := by decide +kernel
theorem dX8_loop_98 : decode cX8_loop 98 = .ok (.iload_n 1, 1) := by decide +kernel
theorem dX8_loop_99 : decode cX8_loop 99 = .ok (.invokevirtual 110, 3) := by decide +kernel
theorem dX8_loop_102 : decode cX8_loop 102 = .ok (.ireturn, 1) := by decide +kernel
theorem dX8_loop_103 : decode cX8_loop 103 = .ok (.aload_n 0, 1) := by decide +kernel
theorem dX8_loop_104 : decode cX8_loop 104 = .ok (.getfield 22, 3) := by decide +kernel
theorem dX8_loop_107 : decode cX8_loop 107 = .ok (.iload_n 1, 1) := by decide +kernel
theorem dX8_loop_108 : decode cX8_loop 108 = .ok (.iload_n 2, 1) := by decide +kernel
theorem dX8_loop_109 : decode cX8_loop 109 = .ok (.iconst 3, 1) := by decide +kernel
theorem dX8_loop_110 : decode cX8_loop 110 = .ok (.isub, 1) := by decide +kernel
theorem dX8_loop_111 : decode cX8_loop 111 = .ok (.invokevirtual 121, 3) := by decide +kernel
theorem dX8_loop_114 : decode cX8_loop 114 = .ok (.ireturn, 1) := by decide +kernel
theorem dX8_chart_0 : decode cX8_chart 0 = .ok (.aload_n 0, 1) := by decide +kernel
theorem dX8_chart_1 : decode cX8_chart 1 = .ok (.iload_n 1, 1) := by decide +kernel
theorem dX8_chart_2 : decode cX8_chart 2 = .ok (.invokevirtual 125, 3) := by decide +kernel
theorem dX8_chart_5 : decode cX8_chart 5 = .ok (.iload_n 2, 1) := by decide +kernel
theorem dX8_chart_6 : decode cX8_chart 6 = .ok (.ifCond .lt 15, 3) := by decide +kernel
theorem dX8_chart_9 : decode cX8_chart 9 = .ok (.iload_n 2, 1) := by decide +kernel
theorem dX8_chart_10 : decode cX8_chart 10 = .ok (.aload_n 0, 1) := by decide +kernel
theorem dX8_chart_11 : decode cX8_chart 11 = .ok (.getfield 22, 3) := by decide +kernel
theorem dX8_chart_14 : decode cX8_chart 14 = .ok (.iload_n 1, 1) := by decide +kernel
theorem dX8_chart_15 : decode cX8_chart 15 = .ok (.invokevirtual 128, 3) := by decide +kernel
theorem dX8_chart_18 : decode cX8_chart 18 = .ok (.if_icmp .lt 13, 3) := by decide +kernel
theorem dX8_chart_21 : decode cX8_chart 21 = .ok (.new 131, 3) := by decide +kernel
theorem dX8_chart_24 : decode cX8_chart 24 = .ok (.dup, 1) := by decide +kernel
theorem dX8_chart_25 : decode cX8_chart 25 = .ok (.ldc 133, 2) := by decide +kernel
theorem dX8_chart_27 : decode cX8_chart 27 = .ok (.invokespecial 135, 3) := by decide +kernel
theorem dX8_chart_30 : decode cX8_chart 30 = .ok (.athrow, 1) := by decide +kernel
theorem dX8_chart_31 : decode cX8_chart 31 = .ok (.aload_n 0, 1) := by decide +kernel
theorem dX8_chart_32 : decode cX8_chart 32 = .ok (.getfield 22, 3) := by decide +kernel
theorem dX8_chart_35 : decode cX8_chart 35 = .ok (.iload_n 1, 1) := by decide +kernel
theorem dX8_chart_36 : decode cX8_chart 36 = .ok (.iload_n 2, 1) := by decide +kernel
theorem dX8_chart_37 : decode cX8_chart 37 = .ok (.invokevirtual 136, 3) := by decide +kernel
theorem dX8_chart_40 : decode cX8_chart 40 = .ok (.ireturn, 1) := by decide +kernel
theorem dX8_row_0 : decode cX8_row 0 = .ok (.aload_n 0, 1) := by decide +kernel
theorem dX8_row_1 : decode cX8_row 1 = .ok (.iload_n 1, 1) := by decide +kernel
theorem dX8_row_2 : decode cX8_row 2 = .ok (.invokevirtual 125, 3) := by decide +kernel
theorem dX8_row_5 : decode cX8_row 5 = .ok (.iload_n 2, 1) := by decide +kernel
theorem dX8_row_6 : decode cX8_row 6 = .ok (.tableswitch 82 0 4 #[34, 43, 52, 63, 72], 34) := by decide +kernel
theorem dX8_row_40 : decode cX8_row 40 = .ok (.aload_n 0, 1) := by decide +kernel
theorem dX8_row_41 : decode cX8_row 41 = .ok (.getfield 22, 3) := by decide +kernel
theorem dX8_row_44 : decode cX8_row 44 = .ok (.iload_n 1, 1) := by decide +kernel
theorem dX8_row_45 : decode cX8_row 45 = .ok (.invokevirtual 128, 3) := by decide +kernel
theorem dX8_row_48 : decode cX8_row 48 = .ok (.ireturn, 1) := by decide +kernel
theorem dX8_row_49 : decode cX8_row 49 = .ok (.aload_n 0, 1) := by decide +kernel
theorem dX8_row_50 : decode cX8_row 50 = .ok (.getfield 22, 3) := by decide +kernel
theorem dX8_row_53 : decode cX8_row 53 = .ok (.iload_n 1, 1) := by decide +kernel
theorem dX8_row_54 : decode cX8_row 54 = .ok (.invokevirtual 139, 3) := by decide +kernel
theorem dX8_row_57 : decode cX8_row 57 = .ok (.ireturn, 1) := by decide +kernel
theorem dX8_row_58 : decode cX8_row 58 = .ok (.aload_n 0, 1) := by decide +kernel
theorem dX8_row_59 : decode cX8_row 59 = .ok (.getfield 22, 3) := by decide +kernel
theorem dX8_row_62 : decode cX8_row 62 = .ok (.iload_n 1, 1) := by decide +kernel
theorem dX8_row_63 : decode cX8_row 63 = .ok (.iconst 1, 1) := by decide +kernel
theorem dX8_row_64 : decode cX8_row 64 = .ok (.isub, 1) := by decide +kernel
theorem dX8_row_65 : decode cX8_row 65 = .ok (.invokevirtual 142, 3) := by decide +kernel
theorem dX8_row_68 : decode cX8_row 68 = .ok (.ireturn, 1) := by decide +kernel
theorem dX8_row_69 : decode cX8_row 69 = .ok (.aload_n 0, 1) := by decide +kernel
theorem dX8_row_70 : decode cX8_row 70 = .ok (.getfield 22, 3) := by decide +kernel
theorem dX8_row_73 : decode cX8_row 73 = .ok (.iload_n 1, 1) := by decide +kernel
theorem dX8_row_74 : decode cX8_row 74 = .ok (.invokevirtual 142, 3) := by decide +kernel
theorem dX8_row_77 : decode cX8_row 77 = .ok (.ireturn, 1) := by decide +kernel
theorem dX8_row_78 : decode cX8_row 78 = .ok (.aload_n 0, 1) := by decide +kernel
theorem dX8_row_79 : decode cX8_row 79 = .ok (.getfield 22, 3) := by decide +kernel
theorem dX8_row_82 : decode cX8_row 82 = .ok (.iload_n 1, 1) := by decide +kernel
theorem dX8_row_83 : decode cX8_row 83 = .ok (.iload_n 1, 1) := by decide +kernel
theorem dX8_row_84 : decode cX8_row 84 = .ok (.invokevirtual 145, 3) := by decide +kernel
theorem dX8_row_87 : decode cX8_row 87 = .ok (.ireturn, 1) := by decide +kernel
theorem dX8_row_88 : decode cX8_row 88 = .ok (.new 48, 3) := by decide +kernel
theorem dX8_row_91 : decode cX8_row 91 = .ok (.dup, 1) := by decide +kernel
theorem dX8_row_92 : decode cX8_row 92 = .ok (.ldc 113, 2) := by decide +kernel
theorem dX8_row_94 : decode cX8_row 94 = .ok (.invokespecial 52, 3) := by decide +kernel
theorem dX8_row_97 : decode cX8_row 97 = .ok (.athrow, 1) := by decide +kernel
theorem dX8_shorten_0 : decode cX8_shorten 0 = .ok (.aload_n 0, 1) := by decide +kernel
theorem dX8_shorten_1 : decode cX8_shorten 1 = .ok (.iload_n 1, 1) := by decide +kernel
theorem dX8_shorten_2 : decode cX8_shorten 2 = .ok (.invokevirtual 125, 3) := by decide +kernel
theorem dX8_shorten_5 : decode cX8_shorten 5 = .ok (.aload_n 0, 1) := by decide +kernel
theorem dX8_shorten_6 : decode cX8_shorten 6 = .ok (.getfield 55, 3) := by decide +kernel
theorem dX8_shorten_9 : decode cX8_shorten 9 = .ok (.ifnonnull 14, 3) := by decide +kernel
theorem dX8_shorten_12 : decode cX8_shorten 12 = .ok (.aload_n 0, 1) := by decide +kernel
theorem dX8_shorten_13 : decode cX8_shorten 13 = .ok (.new 60, 3) := by decide +kernel
theorem dX8_shorten_16 : decode cX8_shorten 16 = .ok (.dup, 1) := by decide +kernel
theorem dX8_shorten_17 : decode cX8_shorten 17 = .ok (.invokespecial 148, 3) := by decide +kernel
theorem dX8_shorten_20 : decode cX8_shorten 20 = .ok (.putfield 55, 3) := by decide +kernel
theorem dX8_shorten_23 : decode cX8_shorten 23 = .ok (.aload_n 0, 1) := by decide +kernel
theorem dX8_shorten_24 : decode cX8_shorten 24 = .ok (.getfield 55, 3) := by decide +kernel
theorem dX8_shorten_27 : decode cX8_shorten 27 = .ok (.aload_n 0, 1) := by decide +kernel
theorem dX8_shorten_28 : decode cX8_shorten 28 = .ok (.getfield 22, 3) := by decide +kernel
theorem dX8_shorten_31 : decode cX8_shorten 31 = .ok (.iload_n 1, 1) := by decide +kernel
theorem dX8_shorten_32 : decode cX8_shorten 32 = .ok (.invokevirtual 149, 3) := by decide +kernel
theorem dX8_shorten_35 : decode cX8_shorten 35 = .ok (.ireturn, 1) := by decide +kernel
theorem dX8_out_0 : decode cX8_out 0 = .ok (.iload_n 1, 1) := by decide +kernel
theorem dX8_out_1 : decode cX8_out 1 = .ok (.ifCond .ge 13, 3) := by decide +kernel
theorem dX8_out_4 : decode cX8_out 4 = .ok (.new 48, 3) := by decide +kernel
theorem dX8_out_7 : decode cX8_out 7 = .ok (.dup, 1) := by decide +kernel
theorem dX8_out_8 : decode cX8_out 8 = .ok (.ldc 153, 2) := by decide +kernel
theorem dX8_out_10 : decode cX8_out 10 = .ok (.invokespecial 52, 3) := by decide +kernel
theorem dX8_out_13 : decode cX8_out 13 = .ok (.athrow, 1) := by decide +kernel
theorem dX8_out_14 : decode cX8_out 14 = .ok (.aload_n 0, 1) := by decide +kernel
theorem dX8_out_15 : decode cX8_out 15 = .ok (.getfield 55, 3) := by decide +kernel
theorem dX8_out_18 : decode cX8_out 18 = .ok (.ifnonnull 7, 3) := by decide +kernel
theorem dX8_out_21 : decode cX8_out 21 = .ok (.iconst (-1), 1) := by decide +kernel
theorem dX8_out_22 : decode cX8_out 22 = .ok (.goto 11, 3) := by decide +kernel
theorem dX8_out_25 : decode cX8_out 25 = .ok (.aload_n 0, 1) := by decide +kernel
theorem dX8_out_26 : decode cX8_out 26 = .ok (.getfield 55, 3) := by decide +kernel
theorem dX8_out_29 : decode cX8_out 29 = .ok (.iload_n 1, 1) := by decide +kernel
theorem dX8_out_30 : decode cX8_out 30 = .ok (.invokevirtual 155, 3) := by decide +kernel
theorem dX8_out_33 : decode cX8_out 33 = .ok (.ireturn, 1) := by decide +kernel
theorem dX8_ladder_0 : decode cX8_ladder 0 = .ok (.aload_n 0, 1) := by decide +kernel
theorem dX8_ladder_1 : decode cX8_ladder 1 = .ok (.getfield 22, 3) := by decide +kernel
theorem dX8_ladder_4 : decode cX8_ladder 4 = .ok (.iload_n 1, 1) := by decide +kernel
theorem dX8_ladder_5 : decode cX8_ladder 5 = .ok (.invokevirtual 102, 3) := by decide +kernel
theorem dX8_ladder_8 : decode cX8_ladder 8 = .ok (.istore_n 2, 1) := by decide +kernel
theorem dX8_ladder_9 : decode cX8_ladder 9 = .ok (.iload_n 2, 1) := by decide +kernel
theorem dX8_ladder_10 : decode cX8_ladder 10 = .ok (.ifCond .ge 13, 3) := by decide +kernel
theorem dX8_ladder_13 : decode cX8_ladder 13 = .ok (.new 48, 3) := by decide +kernel
theorem dX8_ladder_16 : decode cX8_ladder 16 = .ok (.dup, 1) := by decide +kernel
theorem dX8_ladder_17 : decode cX8_ladder 17 = .ok (.ldc 158, 2) := by decide +kernel
theorem dX8_ladder_19 : decode cX8_ladder 19 = .ok (.invokespecial 52, 3) := by decide +kernel
theorem dX8_ladder_22 : decode cX8_ladder 22 = .ok (.athrow, 1) := by decide +kernel
theorem dX8_ladder_23 : decode cX8_ladder 23 = .ok (.aload_n 0, 1) := by decide +kernel
theorem dX8_ladder_24 : decode cX8_ladder 24 = .ok (.getfield 22, 3) := by decide +kernel
theorem dX8_ladder_27 : decode cX8_ladder 27 = .ok (.iload_n 2, 1) := by decide +kernel
theorem dX8_ladder_28 : decode cX8_ladder 28 = .ok (.invokevirtual 160, 3) := by decide +kernel
theorem dX8_ladder_31 : decode cX8_ladder 31 = .ok (.ireturn, 1) := by decide +kernel
theorem dX8_total_0 : decode cX8_total 0 = .ok (.aload_n 0, 1) := by decide +kernel
theorem dX8_total_1 : decode cX8_total 1 = .ok (.getfield 22, 3) := by decide +kernel
theorem dX8_total_4 : decode cX8_total 4 = .ok (.invokevirtual 163, 3) := by decide +kernel
theorem dX8_total_7 : decode cX8_total 7 = .ok (.istore_n 2, 1) := by decide +kernel
theorem dX8_total_8 : decode cX8_total 8 = .ok (.aload_n 0, 1) := by decide +kernel
theorem dX8_total_9 : decode cX8_total 9 = .ok (.getfield 22, 3) := by decide +kernel
theorem dX8_total_12 : decode cX8_total 12 = .ok (.invokevirtual 166, 3) := by decide +kernel
theorem dX8_total_15 : decode cX8_total 15 = .ok (.istore_n 3, 1) := by decide +kernel
theorem dX8_total_16 : decode cX8_total 16 = .ok (.aload_n 0, 1) := by decide +kernel
theorem dX8_total_17 : decode cX8_total 17 = .ok (.getfield 22, 3) := by decide +kernel
theorem dX8_total_20 : decode cX8_total 20 = .ok (.iconst 1, 1) := by decide +kernel
theorem dX8_total_21 : decode cX8_total 21 = .ok (.aload_n 0, 1) := by decide +kernel
theorem dX8_total_22 : decode cX8_total 22 = .ok (.getfield 22, 3) := by decide +kernel
theorem dX8_total_25 : decode cX8_total 25 = .ok (.invokevirtual 93, 3) := by decide +kernel
theorem dX8_total_28 : decode cX8_total 28 = .ok (.invokevirtual 145, 3) := by decide +kernel
theorem dX8_total_31 : decode cX8_total 31 = .ok (.istore 4, 2) := by decide +kernel
theorem dX8_total_33 : decode cX8_total 33 = .ok (.iload_n 1, 1) := by decide +kernel
theorem dX8_total_34 : decode cX8_total 34 = .ok (.tableswitch 44 0 3 #[30, 32, 34, 41], 30) := by decide +kernel
theorem dX8_total_64 : decode cX8_total 64 = .ok (.iload_n 2, 1) := by decide +kernel
theorem dX8_total_65 : decode cX8_total 65 = .ok (.ireturn, 1) := by decide +kernel
theorem dX8_total_66 : decode cX8_total 66 = .ok (.iload_n 3, 1) := by decide +kernel
theorem dX8_total_67 : decode cX8_total 67 = .ok (.ireturn, 1) := by decide +kernel
theorem dX8_total_68 : decode cX8_total 68 = .ok (.iload_n 2, 1) := by decide +kernel
theorem dX8_total_69 : decode cX8_total 69 = .ok (.iload_n 3, 1) := by decide +kernel
theorem dX8_total_70 : decode cX8_total 70 = .ok (.isub, 1) := by decide +kernel
theorem dX8_total_71 : decode cX8_total 71 = .ok (.iload 4, 2) := by decide +kernel
theorem dX8_total_73 : decode cX8_total 73 = .ok (.isub, 1) := by decide +kernel
theorem dX8_total_74 : decode cX8_total 74 = .ok (.ireturn, 1) := by decide +kernel
theorem dX8_total_75 : decode cX8_total 75 = .ok (.iload 4, 2) := by decide +kernel
theorem dX8_total_77 : decode cX8_total 77 = .ok (.ireturn, 1) := by decide +kernel
theorem dX8_total_78 : decode cX8_total 78 = .ok (.new 48, 3) := by decide +kernel
theorem dX8_total_81 : decode cX8_total 81 = .ok (.dup, 1) := by decide +kernel
theorem dX8_total_82 : decode cX8_total 82 = .ok (.ldc 113, 2) := by decide +kernel
theorem dX8_total_84 : decode cX8_total 84 = .ok (.invokespecial 52, 3) := by decide +kernel
theorem dX8_total_87 : decode cX8_total 87 = .ok (.athrow, 1) := by decide +kernel
theorem dX8_requireRow_0 : decode cX8_requireRow 0 = .ok (.iload_n 1, 1) := by decide +kernel
theorem dX8_requireRow_1 : decode cX8_requireRow 1 = .ok (.iconst 1, 1) := by decide +kernel
theorem dX8_requireRow_2 : decode cX8_requireRow 2 = .ok (.if_icmp .lt 14, 3) := by decide +kernel
theorem dX8_requireRow_5 : decode cX8_requireRow 5 = .ok (.iload_n 1, 1) := by decide +kernel
theorem dX8_requireRow_6 : decode cX8_requireRow 6 = .ok (.aload_n 0, 1) := by decide +kernel
theorem dX8_requireRow_7 : decode cX8_requireRow 7 = .ok (.getfield 22, 3) := by decide +kernel
theorem dX8_requireRow_10 : decode cX8_requireRow 10 = .ok (.invokevirtual 93, 3) := by decide +kernel
theorem dX8_requireRow_13 : decode cX8_requireRow 13 = .ok (.if_icmp .le 13, 3) := by decide +kernel
theorem dX8_requireRow_16 : decode cX8_requireRow 16 = .ok (.new 48, 3) := by decide +kernel
theorem dX8_requireRow_19 : decode cX8_requireRow 19 = .ok (.dup, 1) := by decide +kernel
theorem dX8_requireRow_20 : decode cX8_requireRow 20 = .ok (.ldc 169, 2) := by decide +kernel
theorem dX8_requireRow_22 : decode cX8_requireRow 22 = .ok (.invokespecial 52, 3) := by decide +kernel
theorem dX8_requireRow_25 : decode cX8_requireRow 25 = .ok (.athrow, 1) := by decide +kernel
theorem dX8_requireRow_26 : decode cX8_requireRow 26 = .ok (.return_, 1) := by decide +kernel
