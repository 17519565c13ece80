theorem dX9_init_0 : decode cX9_init 0 = .ok (.aload_n 0, 1) := by decide +kernel
theorem dX9_init_1 : decode cX9_init 1 = .ok (.invokespecial 1, 3) := by decide +kernel
theorem dX9_init_4 : decode cX9_init 4 = .ok (.aload_n 0, 1) := by decide +kernel
theorem dX9_init_5 : decode cX9_init 5 = .ok (.sipush 200, 3) := by decide +kernel
theorem dX9_init_8 : decode cX9_init 8 = .ok (.newarray .int, 2) := by decide +kernel
theorem dX9_init_10 : decode cX9_init 10 = .ok (.putfield 7, 3) := by decide +kernel
theorem dX9_init_13 : decode cX9_init 13 = .ok (.aload_n 0, 1) := by decide +kernel
theorem dX9_init_14 : decode cX9_init 14 = .ok (.sipush 600, 3) := by decide +kernel
theorem dX9_init_17 : decode cX9_init 17 = .ok (.newarray .int, 2) := by decide +kernel
theorem dX9_init_19 : decode cX9_init 19 = .ok (.putfield 13, 3) := by decide +kernel
theorem dX9_init_22 : decode cX9_init 22 = .ok (.aload_n 0, 1) := by decide +kernel
theorem dX9_init_23 : decode cX9_init 23 = .ok (.sipush 600, 3) := by decide +kernel
theorem dX9_init_26 : decode cX9_init 26 = .ok (.newarray .int, 2) := by decide +kernel
theorem dX9_init_28 : decode cX9_init 28 = .ok (.putfield 16, 3) := by decide +kernel
theorem dX9_init_31 : decode cX9_init 31 = .ok (.aload_n 0, 1) := by decide +kernel
theorem dX9_init_32 : decode cX9_init 32 = .ok (.sipush 600, 3) := by decide +kernel
theorem dX9_init_35 : decode cX9_init 35 = .ok (.newarray .boolean, 2) := by decide +kernel
theorem dX9_init_37 : decode cX9_init 37 = .ok (.putfield 19, 3) := by decide +kernel
theorem dX9_init_40 : decode cX9_init 40 = .ok (.aload_n 0, 1) := by decide +kernel
theorem dX9_init_41 : decode cX9_init 41 = .ok (.sipush 600, 3) := by decide +kernel
theorem dX9_init_44 : decode cX9_init 44 = .ok (.newarray .int, 2) := by decide +kernel
theorem dX9_init_46 : decode cX9_init 46 = .ok (.putfield 23, 3) := by decide +kernel
theorem dX9_init_49 : decode cX9_init 49 = .ok (.aload_n 0, 1) := by decide +kernel
theorem dX9_init_50 : decode cX9_init 50 = .ok (.sipush 1800, 3) := by decide +kernel
theorem dX9_init_53 : decode cX9_init 53 = .ok (.newarray .int, 2) := by decide +kernel
theorem dX9_init_55 : decode cX9_init 55 = .ok (.putfield 26, 3) := by decide +kernel
theorem dX9_init_58 : decode cX9_init 58 = .ok (.aload_n 0, 1) := by decide +kernel
theorem dX9_init_59 : decode cX9_init 59 = .ok (.bipush 32, 2) := by decide +kernel
theorem dX9_init_61 : decode cX9_init 61 = .ok (.newarray .int, 2) := by decide +kernel
theorem dX9_init_63 : decode cX9_init 63 = .ok (.putfield 29, 3) := by decide +kernel
theorem dX9_init_66 : decode cX9_init 66 = .ok (.aload_n 0, 1) := by decide +kernel
theorem dX9_init_67 : decode cX9_init 67 = .ok (.bipush 31, 2) := by decide +kernel
theorem dX9_init_69 : decode cX9_init 69 = .ok (.newarray .int, 2) := by decide +kernel
theorem dX9_init_71 : decode cX9_init 71 = .ok (.putfield 32, 3) := by decide +kernel
theorem dX9_init_74 : decode cX9_init 74 = .ok (.aload_n 0, 1) := by decide +kernel
theorem dX9_init_75 : decode cX9_init 75 = .ok (.sipush 2480, 3) := by decide +kernel
theorem dX9_init_78 : decode cX9_init 78 = .ok (.newarray .int, 2) := by decide +kernel
theorem dX9_init_80 : decode cX9_init 80 = .ok (.putfield 35, 3) := by decide +kernel
theorem dX9_init_83 : decode cX9_init 83 = .ok (.aload_n 0, 1) := by decide +kernel
theorem dX9_init_84 : decode cX9_init 84 = .ok (.sipush 220, 3) := by decide +kernel
theorem dX9_init_87 : decode cX9_init 87 = .ok (.newarray .int, 2) := by decide +kernel
theorem dX9_init_89 : decode cX9_init 89 = .ok (.putfield 38, 3) := by decide +kernel
theorem dX9_init_92 : decode cX9_init 92 = .ok (.aload_n 0, 1) := by decide +kernel
theorem dX9_init_93 : decode cX9_init 93 = .ok (.sipush 220, 3) := by decide +kernel
theorem dX9_init_96 : decode cX9_init 96 = .ok (.newarray .int, 2) := by decide +kernel
theorem dX9_init_98 : decode cX9_init 98 = .ok (.putfield 41, 3) := by decide +kernel
theorem dX9_init_101 : decode cX9_init 101 = .ok (.aload_n 0, 1) := by decide +kernel
theorem dX9_init_102 : decode cX9_init 102 = .ok (.sipush 220, 3) := by decide +kernel
theorem dX9_init_105 : decode cX9_init 105 = .ok (.newarray .int, 2) := by decide +kernel
theorem dX9_init_107 : decode cX9_init 107 = .ok (.putfield 44, 3) := by decide +kernel
theorem dX9_init_110 : decode cX9_init 110 = .ok (.aload_n 0, 1) := by decide +kernel
theorem dX9_init_111 : decode cX9_init 111 = .ok (.sipush 220, 3) := by decide +kernel
theorem dX9_init_114 : decode cX9_init 114 = .ok (.newarray .int, 2) := by decide +kernel
theorem dX9_init_116 : decode cX9_init 116 = .ok (.putfield 47, 3) := by decide +kernel
theorem dX9_init_119 : decode cX9_init 119 = .ok (.aload_n 0, 1) := by decide +kernel
theorem dX9_init_120 : decode cX9_init 120 = .ok (.sipush 700, 3) := by decide +kernel
theorem dX9_init_123 : decode cX9_init 123 = .ok (.newarray .int, 2) := by decide +kernel
theorem dX9_init_125 : decode cX9_init 125 = .ok (.putfield 50, 3) := by decide +kernel
theorem dX9_init_128 : decode cX9_init 128 = .ok (.aload_n 0, 1) := by decide +kernel
theorem dX9_init_129 : decode cX9_init 129 = .ok (.sipush 1200, 3) := by decide +kernel
theorem dX9_init_132 : decode cX9_init 132 = .ok (.newarray .int, 2) := by decide +kernel
theorem dX9_init_134 : decode cX9_init 134 = .ok (.putfield 53, 3) := by decide +kernel
theorem dX9_init_137 : decode cX9_init 137 = .ok (.aload_n 0, 1) := by decide +kernel
theorem dX9_init_138 : decode cX9_init 138 = .ok (.sipush 32400, 3) := by decide +kernel
theorem dX9_init_141 : decode cX9_init 141 = .ok (.newarray .int, 2) := by decide +kernel
theorem dX9_init_143 : decode cX9_init 143 = .ok (.putfield 56, 3) := by decide +kernel
theorem dX9_init_146 : decode cX9_init 146 = .ok (.aload_n 0, 1) := by decide +kernel
theorem dX9_init_147 : decode cX9_init 147 = .ok (.sipush 32400, 3) := by decide +kernel
theorem dX9_init_150 : decode cX9_init 150 = .ok (.newarray .int, 2) := by decide +kernel
theorem dX9_init_152 : decode cX9_init 152 = .ok (.putfield 59, 3) := by decide +kernel
theorem dX9_init_155 : decode cX9_init 155 = .ok (.aload_n 0, 1) := by decide +kernel
theorem dX9_init_156 : decode cX9_init 156 = .ok (.iconst 5, 1) := by decide +kernel
theorem dX9_init_157 : decode cX9_init 157 = .ok (.newarray .int, 2) := by decide +kernel
theorem dX9_init_159 : decode cX9_init 159 = .ok (.putfield 62, 3) := by decide +kernel
theorem dX9_init_162 : decode cX9_init 162 = .ok (.aload_n 0, 1) := by decide +kernel
theorem dX9_init_163 : decode cX9_init 163 = .ok (.sipush 220, 3) := by decide +kernel
theorem dX9_init_166 : decode cX9_init 166 = .ok (.newarray .int, 2) := by decide +kernel
theorem dX9_init_168 : decode cX9_init 168 = .ok (.putfield 65, 3) := by decide +kernel
theorem dX9_init_171 : decode cX9_init 171 = .ok (.aload_n 0, 1) := by decide +kernel
theorem dX9_init_172 : decode cX9_init 172 = .ok (.sipush 800, 3) := by decide +kernel
theorem dX9_init_175 : decode cX9_init 175 = .ok (.newarray .int, 2) := by decide +kernel
theorem dX9_init_177 : decode cX9_init 177 = .ok (.putfield 68, 3) := by decide +kernel
theorem dX9_init_180 : decode cX9_init 180 = .ok (.aload_n 0, 1) := by decide +kernel
theorem dX9_init_181 : decode cX9_init 181 = .ok (.iconst 1, 1) := by decide +kernel
theorem dX9_init_182 : decode cX9_init 182 = .ok (.iconst 0, 1) := by decide +kernel
theorem dX9_init_183 : decode cX9_init 183 = .ok (.invokevirtual 71, 3) := by decide +kernel
theorem dX9_init_186 : decode cX9_init 186 = .ok (.return_, 1) := by decide +kernel
theorem dX9_thrown_0 : decode cX9_thrown 0 = .ok (.aload_n 0, 1) := by decide +kernel
theorem dX9_thrown_1 : decode cX9_thrown 1 = .ok (.getfield 75, 3) := by decide +kernel
theorem dX9_thrown_4 : decode cX9_thrown 4 = .ok (.ireturn, 1) := by decide +kernel
theorem dX9_in_0 : decode cX9_in 0 = .ok (.iload_n 0, 1) := by decide +kernel
theorem dX9_in_1 : decode cX9_in 1 = .ok (.iload_n 1, 1) := by decide +kernel
theorem dX9_in_2 : decode cX9_in 2 = .ok (.if_icmp .lt 12, 3) := by decide +kernel
theorem dX9_in_5 : decode cX9_in 5 = .ok (.iload_n 0, 1) := by decide +kernel
theorem dX9_in_6 : decode cX9_in 6 = .ok (.iload_n 2, 1) := by decide +kernel
theorem dX9_in_7 : decode cX9_in 7 = .ok (.if_icmp .gt 7, 3) := by decide +kernel
theorem dX9_in_10 : decode cX9_in 10 = .ok (.iconst 1, 1) := by decide +kernel
theorem dX9_in_11 : decode cX9_in 11 = .ok (.goto 4, 3) := by decide +kernel
theorem dX9_in_14 : decode cX9_in 14 = .ok (.iconst 0, 1) := by decide +kernel
theorem dX9_in_15 : decode cX9_in 15 = .ok (.ireturn, 1) := by decide +kernel
theorem dX9_says_0 : decode cX9_says 0 = .ok (.aload_n 0, 1) := by decide +kernel
theorem dX9_says_1 : decode cX9_says 1 = .ok (.iload_n 1, 1) := by decide +kernel
theorem dX9_says_2 : decode cX9_says 2 = .ok (.ifCond .eq 7, 3) := by decide +kernel
theorem dX9_says_5 : decode cX9_says 5 = .ok (.iconst 0, 1) := by decide +kernel
theorem dX9_says_6 : decode cX9_says 6 = .ok (.goto 4, 3) := by decide +kernel
theorem dX9_says_9 : decode cX9_says 9 = .ok (.iconst 1, 1) := by decide +kernel
theorem dX9_says_10 : decode cX9_says 10 = .ok (.putfield 75, 3) := by decide +kernel
theorem dX9_says_13 : decode cX9_says 13 = .ok (.iload_n 1, 1) := by decide +kernel
theorem dX9_says_14 : decode cX9_says 14 = .ok (.ireturn, 1) := by decide +kernel
theorem dX9_castOn_0 : decode cX9_castOn 0 = .ok (.aload_n 0, 1) := by decide +kernel
theorem dX9_castOn_1 : decode cX9_castOn 1 = .ok (.iload_n 2, 1) := by decide +kernel
theorem dX9_castOn_2 : decode cX9_castOn 2 = .ok (.putfield 79, 3) := by decide +kernel
theorem dX9_castOn_5 : decode cX9_castOn 5 = .ok (.aload_n 0, 1) := by decide +kernel
theorem dX9_castOn_6 : decode cX9_castOn 6 = .ok (.iconst 0, 1) := by decide +kernel
theorem dX9_castOn_7 : decode cX9_castOn 7 = .ok (.putfield 83, 3) := by decide +kernel
theorem dX9_castOn_10 : decode cX9_castOn 10 = .ok (.aload_n 0, 1) := by decide +kernel
theorem dX9_castOn_11 : decode cX9_castOn 11 = .ok (.iconst 0, 1) := by decide +kernel
theorem dX9_castOn_12 : decode cX9_castOn 12 = .ok (.putfield 86, 3) := by decide +kernel
theorem dX9_castOn_15 : decode cX9_castOn 15 = .ok (.aload_n 0, 1) := by decide +kernel
theorem dX9_castOn_16 : decode cX9_castOn 16 = .ok (.iconst 0, 1) := by decide +kernel
theorem dX9_castOn_17 : decode cX9_castOn 17 = .ok (.putfield 89, 3) := by decide +kernel
theorem dX9_castOn_20 : decode cX9_castOn 20 = .ok (.aload_n 0, 1) := by decide +kernel
theorem dX9_castOn_21 : decode cX9_castOn 21 = .ok (.getfield 29, 3) := by decide +kernel
theorem dX9_castOn_24 : decode cX9_castOn 24 = .ok (.iconst 0, 1) := by decide +kernel
theorem dX9_castOn_25 : decode cX9_castOn 25 = .ok (.iconst 0, 1) := by decide +kernel
theorem dX9_castOn_26 : decode cX9_castOn 26 = .ok (.iastore, 1) := by decide +kernel
theorem dX9_castOn_27 : decode cX9_castOn 27 = .ok (.iconst 0, 1) := by decide +kernel
theorem dX9_castOn_28 : decode cX9_castOn 28 = .ok (.istore_n 3, 1) := by decide +kernel
theorem dX9_castOn_29 : decode cX9_castOn 29 = .ok (.iload_n 3, 1) := by decide +kernel
theorem dX9_castOn_30 : decode cX9_castOn 30 = .ok (.iload_n 1, 1) := by decide +kernel
theorem dX9_castOn_31 : decode cX9_castOn 31 = .ok (.if_icmp .ge 14, 3) := by decide +kernel
theorem dX9_castOn_34 : decode cX9_castOn 34 = .ok (.aload_n 0, 1) := by decide +kernel
theorem dX9_castOn_35 : decode cX9_castOn 35 = .ok (.iconst 0, 1) := by decide +kernel
theorem dX9_castOn_36 : decode cX9_castOn 36 = .ok (.invokevirtual 92, 3) := by decide +kernel
theorem dX9_castOn_39 : decode cX9_castOn 39 = .ok (.iinc 3 1, 3) := by decide +kernel
theorem dX9_castOn_42 : decode cX9_castOn 42 = .ok (.goto (-13), 3) := by decide +kernel
theorem dX9_castOn_45 : decode cX9_castOn 45 = .ok (.aload_n 0, 1) := by decide +kernel
theorem dX9_castOn_46 : decode cX9_castOn 46 = .ok (.getfield 29, 3) := by decide +kernel
theorem dX9_castOn_49 : decode cX9_castOn 49 = .ok (.iconst 1, 1) := by decide +kernel
theorem dX9_castOn_50 : decode cX9_castOn 50 = .ok (.aload_n 0, 1) := by decide +kernel
theorem dX9_castOn_51 : decode cX9_castOn 51 = .ok (.getfield 83, 3) := by decide +kernel
theorem dX9_castOn_54 : decode cX9_castOn 54 = .ok (.iastore, 1) := by decide +kernel
theorem dX9_castOn_55 : decode cX9_castOn 55 = .ok (.return_, 1) := by decide +kernel
theorem dX9_newLoop_0 : decode cX9_newLoop 0 = .ok (.aload_n 0, 1) := by decide +kernel
theorem dX9_newLoop_1 : decode cX9_newLoop 1 = .ok (.getfield 13, 3) := by decide +kernel
theorem dX9_newLoop_4 : decode cX9_newLoop 4 = .ok (.aload_n 0, 1) := by decide +kernel
theorem dX9_newLoop_5 : decode cX9_newLoop 5 = .ok (.getfield 83, 3) := by decide +kernel
theorem dX9_newLoop_8 : decode cX9_newLoop 8 = .ok (.iload_n 1, 1) := by decide +kernel
theorem dX9_newLoop_9 : decode cX9_newLoop 9 = .ok (.iastore, 1) := by decide +kernel
theorem dX9_newLoop_10 : decode cX9_newLoop 10 = .ok (.aload_n 0, 1) := by decide +kernel
theorem dX9_newLoop_11 : decode cX9_newLoop 11 = .ok (.getfield 16, 3) := by decide +kernel
theorem dX9_newLoop_14 : decode cX9_newLoop 14 = .ok (.aload_n 0, 1) := by decide +kernel
theorem dX9_newLoop_15 : decode cX9_newLoop 15 = .ok (.getfield 83, 3) := by decide +kernel
theorem dX9_newLoop_18 : decode cX9_newLoop 18 = .ok (.iconst 0, 1) := by decide +kernel
theorem dX9_newLoop_19 : decode cX9_newLoop 19 = .ok (.iastore, 1) := by decide +kernel
theorem dX9_newLoop_20 : decode cX9_newLoop 20 = .ok (.aload_n 0, 1) := by decide +kernel
theorem dX9_newLoop_21 : decode cX9_newLoop 21 = .ok (.getfield 19, 3) := by decide +kernel
theorem dX9_newLoop_24 : decode cX9_newLoop 24 = .ok (.aload_n 0, 1) := by decide +kernel
theorem dX9_newLoop_25 : decode cX9_newLoop 25 = .ok (.getfield 83, 3) := by decide +kernel
theorem dX9_newLoop_28 : decode cX9_newLoop 28 = .ok (.iconst 0, 1) := by decide +kernel
theorem dX9_newLoop_29 : decode cX9_newLoop 29 = .ok (.bastore, 1) := by decide +kernel
theorem dX9_newLoop_30 : decode cX9_newLoop 30 = .ok (.aload_n 0, 1) := by decide +kernel
theorem dX9_newLoop_31 : decode cX9_newLoop 31 = .ok (.getfield 23, 3) := by decide +kernel
theorem dX9_newLoop_34 : decode cX9_newLoop 34 = .ok (.aload_n 0, 1) := by decide +kernel
theorem dX9_newLoop_35 : decode cX9_newLoop 35 = .ok (.getfield 83, 3) := by decide +kernel
theorem dX9_newLoop_38 : decode cX9_newLoop 38 = .ok (.iconst 0, 1) := by decide +kernel
theorem dX9_newLoop_39 : decode cX9_newLoop 39 = .ok (.iastore, 1) := by decide +kernel
theorem dX9_newLoop_40 : decode cX9_newLoop 40 = .ok (.aload_n 0, 1) := by decide +kernel
theorem dX9_newLoop_41 : decode cX9_newLoop 41 = .ok (.dup, 1) := by decide +kernel
theorem dX9_newLoop_42 : decode cX9_newLoop 42 = .ok (.getfield 83, 3) := by decide +kernel
theorem dX9_newLoop_45 : decode cX9_newLoop 45 = .ok (.iconst 1, 1) := by decide +kernel
theorem dX9_newLoop_46 : decode cX9_newLoop 46 = .ok (.iadd, 1) := by decide +kernel
theorem dX9_newLoop_47 : decode cX9_newLoop 47 = .ok (.putfield 83, 3) := by decide +kernel
theorem dX9_newLoop_50 : decode cX9_newLoop 50 = .ok (.return_, 1) := by decide +kernel
theorem dX9_hasParent_0 : decode cX9_hasParent 0 = .ok (.aload_n 0, 1) := by decide +kernel
theorem dX9_hasParent_1 : decode cX9_hasParent 1 = .ok (.getfield 26, 3) := by decide +kernel
theorem dX9_hasParent_4 : decode cX9_hasParent 4 = .ok (.iconst 3, 1) := by decide +kernel
theorem dX9_hasParent_5 : decode cX9_hasParent 5 = .ok (.iload_n 1, 1) := by decide +kernel
theorem dX9_hasParent_6 : decode cX9_hasParent 6 = .ok (.imul, 1) := by decide +kernel
theorem dX9_hasParent_7 : decode cX9_hasParent 7 = .ok (.aload_n 0, 1) := by decide +kernel
theorem dX9_hasParent_8 : decode cX9_hasParent 8 = .ok (.getfield 23, 3) := by decide +kernel
theorem dX9_hasParent_11 : decode cX9_hasParent 11 = .ok (.iload_n 1, 1) := by decide +kernel
theorem dX9_hasParent_12 : decode cX9_hasParent 12 = .ok (.iaload, 1) := by decide +kernel
theorem dX9_hasParent_13 : decode cX9_hasParent 13 = .ok (.iadd, 1) := by decide +kernel
theorem dX9_hasParent_14 : decode cX9_hasParent 14 = .ok (.iload_n 2, 1) := by decide +kernel
theorem dX9_hasParent_15 : decode cX9_hasParent 15 = .ok (.iastore, 1) := by decide +kernel
theorem dX9_hasParent_16 : decode cX9_hasParent 16 = .ok (.aload_n 0, 1) := by decide +kernel
theorem dX9_hasParent_17 : decode cX9_hasParent 17 = .ok (.getfield 23, 3) := by decide +kernel
theorem dX9_hasParent_20 : decode cX9_hasParent 20 = .ok (.iload_n 1, 1) := by decide +kernel
theorem dX9_hasParent_21 : decode cX9_hasParent 21 = .ok (.dup2, 1) := by decide +kernel
theorem dX9_hasParent_22 : decode cX9_hasParent 22 = .ok (.iaload, 1) := by decide +kernel
theorem dX9_hasParent_23 : decode cX9_hasParent 23 = .ok (.iconst 1, 1) := by decide +kernel
theorem dX9_hasParent_24 : decode cX9_hasParent 24 = .ok (.iadd, 1) := by decide +kernel
theorem dX9_hasParent_25 : decode cX9_hasParent 25 = .ok (.iastore, 1) := by decide +kernel
theorem dX9_hasParent_26 : decode cX9_hasParent 26 = .ok (.return_, 1) := by decide +kernel
theorem dX9_begin_0 : decode cX9_begin 0 = .ok (.aload_n 0, 1) := by decide +kernel
theorem dX9_begin_1 : decode cX9_begin 1 = .ok (.iload_n 1, 1) := by decide +kernel
theorem dX9_begin_2 : decode cX9_begin 2 = .ok (.iconst 1, 1) := by decide +kernel
theorem dX9_begin_3 : decode cX9_begin 3 = .ok (.bipush 40, 2) := by decide +kernel
theorem dX9_begin_5 : decode cX9_begin 5 = .ok (.invokestatic 96, 3) := by decide +kernel
theorem dX9_begin_8 : decode cX9_begin 8 = .ok (.invokevirtual 100, 3) := by decide +kernel
theorem dX9_begin_11 : decode cX9_begin 11 = .ok (.ifCond .eq 9, 3) := by decide +kernel
theorem dX9_begin_14 : decode cX9_begin 14 = .ok (.aload_n 0, 1) := by decide +kernel
theorem dX9_begin_15 : decode cX9_begin 15 = .ok (.iload_n 1, 1) := by decide +kernel
theorem dX9_begin_16 : decode cX9_begin 16 = .ok (.iload_n 2, 1) := by decide +kernel
theorem dX9_begin_17 : decode cX9_begin 17 = .ok (.invokevirtual 71, 3) := by decide +kernel
theorem dX9_begin_20 : decode cX9_begin 20 = .ok (.return_, 1) := by decide +kernel
theorem dX9_feed_0 : decode cX9_feed 0 = .ok (.aload_n 0, 1) := by decide +kernel
theorem dX9_feed_1 : decode cX9_feed 1 = .ok (.iload_n 3, 1) := by decide +kernel
theorem dX9_feed_2 : decode cX9_feed 2 = .ok (.iconst 1, 1) := by decide +kernel
theorem dX9_feed_3 : decode cX9_feed 3 = .ok (.bipush 8, 2) := by decide +kernel
theorem dX9_feed_5 : decode cX9_feed 5 = .ok (.invokestatic 96, 3) := by decide +kernel
theorem dX9_feed_8 : decode cX9_feed 8 = .ok (.ifCond .ne 7, 3) := by decide +kernel
theorem dX9_feed_11 : decode cX9_feed 11 = .ok (.iconst 1, 1) := by decide +kernel
theorem dX9_feed_12 : decode cX9_feed 12 = .ok (.goto 20, 3) := by decide +kernel
theorem dX9_feed_15 : decode cX9_feed 15 = .ok (.aload_n 0, 1) := by decide +kernel
theorem dX9_feed_16 : decode cX9_feed 16 = .ok (.getfield 104, 3) := by decide +kernel
theorem dX9_feed_19 : decode cX9_feed 19 = .ok (.iload_n 3, 1) := by decide +kernel
theorem dX9_feed_20 : decode cX9_feed 20 = .ok (.iadd, 1) := by decide +kernel
theorem dX9_feed_21 : decode cX9_feed 21 = .ok (.sipush 200, 3) := by decide +kernel
theorem dX9_feed_24 : decode cX9_feed 24 = .ok (.if_icmp .le 7, 3) := by decide +kernel
theorem dX9_feed_27 : decode cX9_feed 27 = .ok (.iconst 2, 1) := by decide +kernel
theorem dX9_feed_28 : decode cX9_feed 28 = .ok (.goto 4, 3) := by decide +kernel
theorem dX9_feed_31 : decode cX9_feed 31 = .ok (.iconst 0, 1) := by decide +kernel
theorem dX9_feed_32 : decode cX9_feed 32 = .ok (.putfield 75, 3) := by decide +kernel
theorem dX9_feed_35 : decode cX9_feed 35 = .ok (.aload_n 0, 1) := by decide +kernel
theorem dX9_feed_36 : decode cX9_feed 36 = .ok (.getfield 75, 3) := by decide +kernel
theorem dX9_feed_39 : decode cX9_feed 39 = .ok (.ifCond .le 5, 3) := by decide +kernel
theorem dX9_feed_42 : decode cX9_feed 42 = .ok (.iconst 0, 1) := by decide +kernel
theorem dX9_feed_43 : decode cX9_feed 43 = .ok (.ireturn, 1) := by decide +kernel
theorem dX9_feed_44 : decode cX9_feed 44 = .ok (.iload_n 3, 1) := by decide +kernel
theorem dX9_feed_45 : decode cX9_feed 45 = .ok (.iconst 1, 1) := by decide +kernel
theorem dX9_feed_46 : decode cX9_feed 46 = .ok (.isub, 1) := by decide +kernel
theorem dX9_feed_47 : decode cX9_feed 47 = .ok (.istore 4, 2) := by decide +kernel
theorem dX9_feed_49 : decode cX9_feed 49 = .ok (.iload 4, 2) := by decide +kernel
theorem dX9_feed_51 : decode cX9_feed 51 = .ok (.ifCond .lt 40, 3) := by decide +kernel
theorem dX9_feed_54 : decode cX9_feed 54 = .ok (.aload_n 0, 1) := by decide +kernel
theorem dX9_feed_55 : decode cX9_feed 55 = .ok (.getfield 7, 3) := by decide +kernel
theorem dX9_feed_58 : decode cX9_feed 58 = .ok (.aload_n 0, 1) := by decide +kernel
theorem dX9_feed_59 : decode cX9_feed 59 = .ok (.getfield 104, 3) := by decide +kernel
theorem dX9_feed_62 : decode cX9_feed 62 = .ok (.lload_n 1, 1) := by decide +kernel
theorem dX9_feed_63 : decode cX9_feed 63 = .ok (.bipush 8, 2) := by decide +kernel
theorem dX9_feed_65 : decode cX9_feed 65 = .ok (.iload 4, 2) := by decide +kernel
theorem dX9_feed_67 : decode cX9_feed 67 = .ok (.imul, 1) := by decide +kernel
theorem dX9_feed_68 : decode cX9_feed 68 = .ok (.lshr, 1) := by decide +kernel
theorem dX9_feed_69 : decode cX9_feed 69 = .ok (.l2i, 1) := by decide +kernel
theorem dX9_feed_70 : decode cX9_feed 70 = .ok (.sipush 255, 3) := by decide +kernel
theorem dX9_feed_73 : decode cX9_feed 73 = .ok (.iand, 1) := by decide +kernel
theorem dX9_feed_74 : decode cX9_feed 74 = .ok (.iastore, 1) := by decide +kernel
theorem dX9_feed_75 : decode cX9_feed 75 = .ok (.aload_n 0, 1) := by decide +kernel
theorem dX9_feed_76 : decode cX9_feed 76 = .ok (.dup, 1) := by decide +kernel
theorem dX9_feed_77 : decode cX9_feed 77 = .ok (.getfield 104, 3) := by decide +kernel
theorem dX9_feed_80 : decode cX9_feed 80 = .ok (.iconst 1, 1) := by decide +kernel
theorem dX9_feed_81 : decode cX9_feed 81 = .ok (.iadd, 1) := by decide +kernel
theorem dX9_feed_82 : decode cX9_feed 82 = .ok (.putfield 104, 3) := by decide +kernel
theorem dX9_feed_85 : decode cX9_feed 85 = .ok (.iinc 4 (-1), 3) := by decide +kernel
theorem dX9_feed_88 : decode cX9_feed 88 = .ok (.goto (-39), 3) := by decide +kernel
theorem dX9_feed_91 : decode cX9_feed 91 = .ok (.aload_n 0, 1) := by decide +kernel
theorem dX9_feed_92 : decode cX9_feed 92 = .ok (.getfield 104, 3) := by decide +kernel
theorem dX9_feed_95 : decode cX9_feed 95 = .ok (.ireturn, 1) := by decide +kernel
theorem dX9_see_0 : decode cX9_see 0 = .ok (.aload_n 0, 1) := by decide +kernel
theorem dX9_see_1 : decode cX9_see 1 = .ok (.getfield 107, 3) := by decide +kernel
theorem dX9_see_4 : decode cX9_see 4 = .ok (.aload_n 0, 1) := by decide +kernel
theorem dX9_see_5 : decode cX9_see 5 = .ok (.getfield 104, 3) := by decide +kernel
theorem dX9_see_8 : decode cX9_see 8 = .ok (.if_icmp .ge 15, 3) := by decide +kernel
theorem dX9_see_11 : decode cX9_see 11 = .ok (.aload_n 0, 1) := by decide +kernel
theorem dX9_see_12 : decode cX9_see 12 = .ok (.getfield 7, 3) := by decide +kernel
theorem dX9_see_15 : decode cX9_see 15 = .ok (.aload_n 0, 1) := by decide +kernel
theorem dX9_see_16 : decode cX9_see 16 = .ok (.getfield 107, 3) := by decide +kernel
theorem dX9_see_19 : decode cX9_see 19 = .ok (.iaload, 1) := by decide +kernel
theorem dX9_see_20 : decode cX9_see 20 = .ok (.goto 4, 3) := by decide +kernel
theorem dX9_see_23 : decode cX9_see 23 = .ok (.iconst (-1), 1) := by decide +kernel
theorem dX9_see_24 : decode cX9_see 24 = .ok (.ireturn, 1) := by decide +kernel
theorem dX9_seeWord_0 : decode cX9_seeWord 0 = .ok (.aload_n 0, 1) := by decide +kernel
theorem dX9_seeWord_1 : decode cX9_seeWord 1 = .ok (.invokevirtual 110, 3) := by decide +kernel
theorem dX9_seeWord_4 : decode cX9_seeWord 4 = .ok (.bipush 32, 2) := by decide +kernel
theorem dX9_seeWord_6 : decode cX9_seeWord 6 = .ok (.if_icmp .ne 16, 3) := by decide +kernel
theorem dX9_seeWord_9 : decode cX9_seeWord 9 = .ok (.aload_n 0, 1) := by decide +kernel
theorem dX9_seeWord_10 : decode cX9_seeWord 10 = .ok (.dup, 1) := by decide +kernel
theorem dX9_seeWord_11 : decode cX9_seeWord 11 = .ok (.getfield 107, 3) := by decide +kernel
theorem dX9_seeWord_14 : decode cX9_seeWord 14 = .ok (.iconst 1, 1) := by decide +kernel
theorem dX9_seeWord_15 : decode cX9_seeWord 15 = .ok (.iadd, 1) := by decide +kernel
theorem dX9_seeWord_16 : decode cX9_seeWord 16 = .ok (.putfield 107, 3) := by decide +kernel
theorem dX9_seeWord_19 : decode cX9_seeWord 19 = .ok (.goto (-19), 3) := by decide +kernel
theorem dX9_seeWord_22 : decode cX9_seeWord 22 = .ok (.aload_n 0, 1) := by decide +kernel
theorem dX9_seeWord_23 : decode cX9_seeWord 23 = .ok (.invokevirtual 110, 3) := by decide +kernel
theorem dX9_seeWord_26 : decode cX9_seeWord 26 = .ok (.ireturn, 1) := by decide +kernel
theorem dX9_wrong_0 : decode cX9_wrong 0 = .ok (.aload_n 0, 1) := by decide +kernel
theorem dX9_wrong_1 : decode cX9_wrong 1 = .ok (.getfield 114, 3) := by decide +kernel
theorem dX9_wrong_4 : decode cX9_wrong 4 = .ok (.ifCond .le 4, 3) := by decide +kernel
theorem dX9_wrong_7 : decode cX9_wrong 7 = .ok (.return_, 1) := by decide +kernel
theorem dX9_wrong_8 : decode cX9_wrong 8 = .ok (.aload_n 0, 1) := by decide +kernel
theorem dX9_wrong_9 : decode cX9_wrong 9 = .ok (.iload_n 1, 1) := by decide +kernel
theorem dX9_wrong_10 : decode cX9_wrong 10 = .ok (.putfield 114, 3) := by decide +kernel
theorem dX9_wrong_13 : decode cX9_wrong 13 = .ok (.aload_n 0, 1) := by decide +kernel
theorem dX9_wrong_14 : decode cX9_wrong 14 = .ok (.aload_n 0, 1) := by decide +kernel
theorem dX9_wrong_15 : decode cX9_wrong 15 = .ok (.getfield 107, 3) := by decide +kernel
theorem dX9_wrong_18 : decode cX9_wrong 18 = .ok (.putfield 117, 3) := by decide +kernel
theorem dX9_wrong_21 : decode cX9_wrong 21 = .ok (.return_, 1) := by decide +kernel
theorem dX9_need_0 : decode cX9_need 0 = .ok (.aload_n 0, 1) := by decide +kernel
theorem dX9_need_1 : decode cX9_need 1 = .ok (.invokevirtual 110, 3) := by decide +kernel
theorem dX9_need_4 : decode cX9_need 4 = .ok (.iload_n 1, 1) := by decide +kernel
theorem dX9_need_5 : decode cX9_need 5 = .ok (.if_icmp .eq 8, 3) := by decide +kernel
theorem dX9_need_8 : decode cX9_need 8 = .ok (.aload_n 0, 1) := by decide +kernel
theorem dX9_need_9 : decode cX9_need 9 = .ok (.iconst 1, 1) := by decide +kernel
theorem dX9_need_10 : decode cX9_need 10 = .ok (.invokevirtual 120, 3) := by decide +kernel
theorem dX9_need_13 : decode cX9_need 13 = .ok (.aload_n 0, 1) := by decide +kernel
theorem dX9_need_14 : decode cX9_need 14 = .ok (.aload_n 0, 1) := by decide +kernel
theorem dX9_need_15 : decode cX9_need 15 = .ok (.getfield 114, 3) := by decide +kernel
theorem dX9_need_18 : decode cX9_need 18 = .ok (.ifCond .ne 12, 3) := by decide +kernel
theorem dX9_need_21 : decode cX9_need 21 = .ok (.aload_n 0, 1) := by decide +kernel
theorem dX9_need_22 : decode cX9_need 22 = .ok (.getfield 107, 3) := by decide +kernel
theorem dX9_need_25 : decode cX9_need 25 = .ok (.iconst 1, 1) := by decide +kernel
theorem dX9_need_26 : decode cX9_need 26 = .ok (.iadd, 1) := by decide +kernel
theorem dX9_need_27 : decode cX9_need 27 = .ok (.goto 7, 3) := by decide +kernel
theorem dX9_need_30 : decode cX9_need 30 = .ok (.aload_n 0, 1) := by decide +kernel
theorem dX9_need_31 : decode cX9_need 31 = .ok (.getfield 107, 3) := by decide +kernel
theorem dX9_need_34 : decode cX9_need 34 = .ok (.putfield 107, 3) := by decide +kernel
theorem dX9_need_37 : decode cX9_need 37 = .ok (.return_, 1) := by decide +kernel
theorem dX9_add_0 : decode cX9_add 0 = .ok (.aload_n 0, 1) := by decide +kernel
theorem dX9_add_1 : decode cX9_add 1 = .ok (.getfield 114, 3) := by decide +kernel
theorem dX9_add_4 : decode cX9_add 4 = .ok (.ifCond .le 4, 3) := by decide +kernel
theorem dX9_add_7 : decode cX9_add 7 = .ok (.return_, 1) := by decide +kernel
theorem dX9_add_8 : decode cX9_add 8 = .ok (.aload_n 0, 1) := by decide +kernel
theorem dX9_add_9 : decode cX9_add 9 = .ok (.getfield 38, 3) := by decide +kernel
theorem dX9_add_12 : decode cX9_add 12 = .ok (.aload_n 0, 1) := by decide +kernel
theorem dX9_add_13 : decode cX9_add 13 = .ok (.getfield 123, 3) := by decide +kernel
theorem dX9_add_16 : decode cX9_add 16 = .ok (.iload_n 1, 1) := by decide +kernel
theorem dX9_add_17 : decode cX9_add 17 = .ok (.iastore, 1) := by decide +kernel
theorem dX9_add_18 : decode cX9_add 18 = .ok (.aload_n 0, 1) := by decide +kernel
theorem dX9_add_19 : decode cX9_add 19 = .ok (.getfield 41, 3) := by decide +kernel
theorem dX9_add_22 : decode cX9_add 22 = .ok (.aload_n 0, 1) := by decide +kernel
theorem dX9_add_23 : decode cX9_add 23 = .ok (.getfield 123, 3) := by decide +kernel
theorem dX9_add_26 : decode cX9_add 26 = .ok (.iload_n 2, 1) := by decide +kernel
theorem dX9_add_27 : decode cX9_add 27 = .ok (.iastore, 1) := by decide +kernel
theorem dX9_add_28 : decode cX9_add 28 = .ok (.aload_n 0, 1) := by decide +kernel
theorem dX9_add_29 : decode cX9_add 29 = .ok (.getfield 44, 3) := by decide +kernel
theorem dX9_add_32 : decode cX9_add 32 = .ok (.aload_n 0, 1) := by decide +kernel
theorem dX9_add_33 : decode cX9_add 33 = .ok (.getfield 123, 3) := by decide +kernel
theorem dX9_add_36 : decode cX9_add 36 = .ok (.iload_n 3, 1) := by decide +kernel
theorem dX9_add_37 : decode cX9_add 37 = .ok (.iastore, 1) := by decide +kernel
theorem dX9_add_38 : decode cX9_add 38 = .ok (.aload_n 0, 1) := by decide +kernel
theorem dX9_add_39 : decode cX9_add 39 = .ok (.dup, 1) := by decide +kernel
theorem dX9_add_40 : decode cX9_add 40 = .ok (.getfield 123, 3) := by decide +kernel
theorem dX9_add_43 : decode cX9_add 43 = .ok (.iconst 1, 1) := by decide +kernel
theorem dX9_add_44 : decode cX9_add 44 = .ok (.iadd, 1) := by decide +kernel
theorem dX9_add_45 : decode cX9_add 45 = .ok (.putfield 123, 3) := by decide +kernel
theorem dX9_add_48 : decode cX9_add 48 = .ok (.return_, 1) := by decide +kernel
theorem dX9_isDigit_0 : decode cX9_isDigit 0 = .ok (.aload_n 0, 1) := by decide +kernel
theorem dX9_isDigit_1 : decode cX9_isDigit 1 = .ok (.invokevirtual 110, 3) := by decide +kernel
theorem dX9_isDigit_4 : decode cX9_isDigit 4 = .ok (.bipush 48, 2) := by decide +kernel
theorem dX9_isDigit_6 : decode cX9_isDigit 6 = .ok (.iload_n 1, 1) := by decide +kernel
theorem dX9_isDigit_7 : decode cX9_isDigit 7 = .ok (.iadd, 1) := by decide +kernel
theorem dX9_isDigit_8 : decode cX9_isDigit 8 = .ok (.if_icmp .lt 16, 3) := by decide +kernel
theorem dX9_isDigit_11 : decode cX9_isDigit 11 = .ok (.aload_n 0, 1) := by decide +kernel
theorem dX9_isDigit_12 : decode cX9_isDigit 12 = .ok (.invokevirtual 110, 3) := by decide +kernel
theorem dX9_isDigit_15 : decode cX9_isDigit 15 = .ok (.bipush 57, 2) := by decide +kernel
theorem dX9_isDigit_17 : decode cX9_isDigit 17 = .ok (.if_icmp .gt 7, 3) := by decide +kernel
theorem dX9_isDigit_20 : decode cX9_isDigit 20 = .ok (.iconst 1, 1) := by decide +kernel
theorem dX9_isDigit_21 : decode cX9_isDigit 21 = .ok (.goto 4, 3) := by decide +kernel
theorem dX9_isDigit_24 : decode cX9_isDigit 24 = .ok (.iconst 0, 1) := by decide +kernel
theorem dX9_isDigit_25 : decode cX9_isDigit 25 = .ok (.ireturn, 1) := by decide +kernel
theorem dX9_count_0 : decode cX9_count 0 = .ok (.iload_n 1, 1) := by decide +kernel
theorem dX9_count_1 : decode cX9_count 1 = .ok (.ifCond .ne 24, 3) := by decide +kernel
theorem dX9_count_4 : decode cX9_count 4 = .ok (.aload_n 0, 1) := by decide +kernel
theorem dX9_count_5 : decode cX9_count 5 = .ok (.invokevirtual 110, 3) := by decide +kernel
theorem dX9_count_8 : decode cX9_count 8 = .ok (.bipush 48, 2) := by decide +kernel
theorem dX9_count_10 : decode cX9_count 10 = .ok (.if_icmp .ne 15, 3) := by decide +kernel
theorem dX9_count_13 : decode cX9_count 13 = .ok (.aload_n 0, 1) := by decide +kernel
theorem dX9_count_14 : decode cX9_count 14 = .ok (.dup, 1) := by decide +kernel
theorem dX9_count_15 : decode cX9_count 15 = .ok (.getfield 107, 3) := by decide +kernel
theorem dX9_count_18 : decode cX9_count 18 = .ok (.iconst 1, 1) := by decide +kernel
theorem dX9_count_19 : decode cX9_count 19 = .ok (.iadd, 1) := by decide +kernel
theorem dX9_count_20 : decode cX9_count 20 = .ok (.putfield 107, 3) := by decide +kernel
theorem dX9_count_23 : decode cX9_count 23 = .ok (.iconst 0, 1) := by decide +kernel
theorem dX9_count_24 : decode cX9_count 24 = .ok (.ireturn, 1) := by decide +kernel
theorem dX9_count_25 : decode cX9_count 25 = .ok (.aload_n 0, 1) := by decide +kernel
theorem dX9_count_26 : decode cX9_count 26 = .ok (.iconst 1, 1) := by decide +kernel
theorem dX9_count_27 : decode cX9_count 27 = .ok (.invokevirtual 126, 3) := by decide +kernel
theorem dX9_count_30 : decode cX9_count 30 = .ok (.ifCond .ne 10, 3) := by decide +kernel
theorem dX9_count_33 : decode cX9_count 33 = .ok (.aload_n 0, 1) := by decide +kernel
theorem dX9_count_34 : decode cX9_count 34 = .ok (.iconst 1, 1) := by decide +kernel
theorem dX9_count_35 : decode cX9_count 35 = .ok (.invokevirtual 120, 3) := by decide +kernel
theorem dX9_count_38 : decode cX9_count 38 = .ok (.iconst 0, 1) := by decide +kernel
theorem dX9_count_39 : decode cX9_count 39 = .ok (.ireturn, 1) := by decide +kernel
theorem dX9_count_40 : decode cX9_count 40 = .ok (.aload_n 0, 1) := by decide +kernel
theorem dX9_count_41 : decode cX9_count 41 = .ok (.invokevirtual 110, 3) := by decide +kernel
theorem dX9_count_44 : decode cX9_count 44 = .ok (.bipush 48, 2) := by decide +kernel
theorem dX9_count_46 : decode cX9_count 46 = .ok (.isub, 1) := by decide +kernel
theorem dX9_count_47 : decode cX9_count 47 = .ok (.istore_n 2, 1) := by decide +kernel
theorem dX9_count_48 : decode cX9_count 48 = .ok (.aload_n 0, 1) := by decide +kernel
theorem dX9_count_49 : decode cX9_count 49 = .ok (.dup, 1) := by decide +kernel
theorem dX9_count_50 : decode cX9_count 50 = .ok (.getfield 107, 3) := by decide +kernel
theorem dX9_count_53 : decode cX9_count 53 = .ok (.iconst 1, 1) := by decide +kernel
theorem dX9_count_54 : decode cX9_count 54 = .ok (.iadd, 1) := by decide +kernel
theorem dX9_count_55 : decode cX9_count 55 = .ok (.putfield 107, 3) := by decide +kernel
theorem dX9_count_58 : decode cX9_count 58 = .ok (.iload_n 2, 1) := by decide +kernel
theorem dX9_count_59 : decode cX9_count 59 = .ok (.iload_n 1, 1) := by decide +kernel
theorem dX9_count_60 : decode cX9_count 60 = .ok (.if_icmp .ge 16, 3) := by decide +kernel
theorem dX9_count_63 : decode cX9_count 63 = .ok (.aload_n 0, 1) := by decide +kernel
theorem dX9_count_64 : decode cX9_count 64 = .ok (.iconst 0, 1) := by decide +kernel
theorem dX9_count_65 : decode cX9_count 65 = .ok (.invokevirtual 126, 3) := by decide +kernel
theorem dX9_count_68 : decode cX9_count 68 = .ok (.ifCond .ne 8, 3) := by decide +kernel
theorem dX9_count_71 : decode cX9_count 71 = .ok (.aload_n 0, 1) := by decide +kernel
theorem dX9_count_72 : decode cX9_count 72 = .ok (.iconst 1, 1) := by decide +kernel
theorem dX9_count_73 : decode cX9_count 73 = .ok (.invokevirtual 120, 3) := by decide +kernel
theorem dX9_count_76 : decode cX9_count 76 = .ok (.aload_n 0, 1) := by decide +kernel
theorem dX9_count_77 : decode cX9_count 77 = .ok (.getfield 114, 3) := by decide +kernel
theorem dX9_count_80 : decode cX9_count 80 = .ok (.ifCond .ne 34, 3) := by decide +kernel
theorem dX9_count_83 : decode cX9_count 83 = .ok (.aload_n 0, 1) := by decide +kernel
theorem dX9_count_84 : decode cX9_count 84 = .ok (.iconst 0, 1) := by decide +kernel
theorem dX9_count_85 : decode cX9_count 85 = .ok (.invokevirtual 126, 3) := by decide +kernel
theorem dX9_count_88 : decode cX9_count 88 = .ok (.ifCond .eq 26, 3) := by decide +kernel
theorem dX9_count_91 : decode cX9_count 91 = .ok (.bipush 10, 2) := by decide +kernel
theorem dX9_count_93 : decode cX9_count 93 = .ok (.iload_n 2, 1) := by decide +kernel
theorem dX9_count_94 : decode cX9_count 94 = .ok (.imul, 1) := by decide +kernel
theorem dX9_count_95 : decode cX9_count 95 = .ok (.aload_n 0, 1) := by decide +kernel
theorem dX9_count_96 : decode cX9_count 96 = .ok (.invokevirtual 110, 3) := by decide +kernel
theorem dX9_count_99 : decode cX9_count 99 = .ok (.iadd, 1) := by decide +kernel
theorem dX9_count_100 : decode cX9_count 100 = .ok (.bipush 48, 2) := by decide +kernel
theorem dX9_count_102 : decode cX9_count 102 = .ok (.isub, 1) := by decide +kernel
theorem dX9_count_103 : decode cX9_count 103 = .ok (.istore_n 2, 1) := by decide +kernel
theorem dX9_count_104 : decode cX9_count 104 = .ok (.aload_n 0, 1) := by decide +kernel
theorem dX9_count_105 : decode cX9_count 105 = .ok (.dup, 1) := by decide +kernel
theorem dX9_count_106 : decode cX9_count 106 = .ok (.getfield 107, 3) := by decide +kernel
theorem dX9_count_109 : decode cX9_count 109 = .ok (.iconst 1, 1) := by decide +kernel
theorem dX9_count_110 : decode cX9_count 110 = .ok (.iadd, 1) := by decide +kernel
theorem dX9_count_111 : decode cX9_count 111 = .ok (.putfield 107, 3) := by decide +kernel
theorem dX9_count_114 : decode cX9_count 114 = .ok (.iload_n 2, 1) := by decide +kernel
theorem dX9_count_115 : decode cX9_count 115 = .ok (.ireturn, 1) := by decide +kernel
theorem dX9_plain_0 : decode cX9_plain 0 = .ok (.aload_n 0, 1) := by decide +kernel
theorem dX9_plain_1 : decode cX9_plain 1 = .ok (.getfield 114, 3) := by decide +kernel
theorem dX9_plain_4 : decode cX9_plain 4 = .ok (.ifCond .ne 19, 3) := by decide +kernel
theorem dX9_plain_7 : decode cX9_plain 7 = .ok (.aload_n 0, 1) := by decide +kernel
theorem dX9_plain_8 : decode cX9_plain 8 = .ok (.iconst 0, 1) := by decide +kernel
theorem dX9_plain_9 : decode cX9_plain 9 = .ok (.invokevirtual 126, 3) := by decide +kernel
theorem dX9_plain_12 : decode cX9_plain 12 = .ok (.ifCond .eq 11, 3) := by decide +kernel
theorem dX9_plain_15 : decode cX9_plain 15 = .ok (.aload_n 0, 1) := by decide +kernel
theorem dX9_plain_16 : decode cX9_plain 16 = .ok (.iconst 1, 1) := by decide +kernel
theorem dX9_plain_17 : decode cX9_plain 17 = .ok (.invokevirtual 130, 3) := by decide +kernel
theorem dX9_plain_20 : decode cX9_plain 20 = .ok (.goto 4, 3) := by decide +kernel
theorem dX9_plain_23 : decode cX9_plain 23 = .ok (.iconst 1, 1) := by decide +kernel
theorem dX9_plain_24 : decode cX9_plain 24 = .ok (.istore_n 3, 1) := by decide +kernel
theorem dX9_plain_25 : decode cX9_plain 25 = .ok (.aload_n 0, 1) := by decide +kernel
theorem dX9_plain_26 : decode cX9_plain 26 = .ok (.iload_n 1, 1) := by decide +kernel
theorem dX9_plain_27 : decode cX9_plain 27 = .ok (.iload_n 3, 1) := by decide +kernel
theorem dX9_plain_28 : decode cX9_plain 28 = .ok (.iload_n 2, 1) := by decide +kernel
theorem dX9_plain_29 : decode cX9_plain 29 = .ok (.invokevirtual 134, 3) := by decide +kernel
theorem dX9_plain_32 : decode cX9_plain 32 = .ok (.return_, 1) := by decide +kernel
theorem dX9_line_0 : decode cX9_line 0 = .ok (.iconst 1, 1) := by decide +kernel
theorem dX9_line_1 : decode cX9_line 1 = .ok (.istore_n 1, 1) := by decide +kernel
theorem dX9_line_2 : decode cX9_line 2 = .ok (.iconst 1, 1) := by decide +kernel
theorem dX9_line_3 : decode cX9_line 3 = .ok (.istore_n 2, 1) := by decide +kernel
theorem dX9_line_4 : decode cX9_line 4 = .ok (.iload_n 2, 1) := by decide +kernel
theorem dX9_line_5 : decode cX9_line 5 = .ok (.ifCond .eq 131, 3) := by decide +kernel
theorem dX9_line_8 : decode cX9_line 8 = .ok (.aload_n 0, 1) := by decide +kernel
theorem dX9_line_9 : decode cX9_line 9 = .ok (.getfield 114, 3) := by decide +kernel
theorem dX9_line_12 : decode cX9_line 12 = .ok (.ifCond .ne 124, 3) := by decide +kernel
theorem dX9_line_15 : decode cX9_line 15 = .ok (.aload_n 0, 1) := by decide +kernel
theorem dX9_line_16 : decode cX9_line 16 = .ok (.invokevirtual 138, 3) := by decide +kernel
theorem dX9_line_19 : decode cX9_line 19 = .ok (.istore_n 3, 1) := by decide +kernel
theorem dX9_line_20 : decode cX9_line 20 = .ok (.aload_n 0, 1) := by decide +kernel
theorem dX9_line_21 : decode cX9_line 21 = .ok (.getfield 107, 3) := by decide +kernel
theorem dX9_line_24 : decode cX9_line 24 = .ok (.istore 4, 2) := by decide +kernel
theorem dX9_line_26 : decode cX9_line 26 = .ok (.iload_n 3, 1) := by decide +kernel
theorem dX9_line_27 : decode cX9_line 27 = .ok (.bipush 40, 2) := by decide +kernel
theorem dX9_line_29 : decode cX9_line 29 = .ok (.if_icmp .eq 16, 3) := by decide +kernel
theorem dX9_line_32 : decode cX9_line 32 = .ok (.iload_n 3, 1) := by decide +kernel
theorem dX9_line_33 : decode cX9_line 33 = .ok (.bipush 114, 2) := by decide +kernel
theorem dX9_line_35 : decode cX9_line 35 = .ok (.if_icmp .ne 22, 3) := by decide +kernel
theorem dX9_line_38 : decode cX9_line 38 = .ok (.aload_n 0, 1) := by decide +kernel
theorem dX9_line_39 : decode cX9_line 39 = .ok (.getfield 141, 3) := by decide +kernel
theorem dX9_line_42 : decode cX9_line 42 = .ok (.ifCond .ne 15, 3) := by decide +kernel
theorem dX9_line_45 : decode cX9_line 45 = .ok (.aload_n 0, 1) := by decide +kernel
theorem dX9_line_46 : decode cX9_line 46 = .ok (.iload_n 3, 1) := by decide +kernel
theorem dX9_line_47 : decode cX9_line 47 = .ok (.iload 4, 2) := by decide +kernel
theorem dX9_line_49 : decode cX9_line 49 = .ok (.invokevirtual 144, 3) := by decide +kernel
theorem dX9_line_52 : decode cX9_line 52 = .ok (.iconst 0, 1) := by decide +kernel
theorem dX9_line_53 : decode cX9_line 53 = .ok (.istore_n 1, 1) := by decide +kernel
theorem dX9_line_54 : decode cX9_line 54 = .ok (.goto (-50), 3) := by decide +kernel
theorem dX9_line_57 : decode cX9_line 57 = .ok (.aload_n 0, 1) := by decide +kernel
theorem dX9_line_58 : decode cX9_line 58 = .ok (.iload_n 3, 1) := by decide +kernel
theorem dX9_line_59 : decode cX9_line 59 = .ok (.iload 4, 2) := by decide +kernel
theorem dX9_line_61 : decode cX9_line 61 = .ok (.iload_n 1, 1) := by decide +kernel
theorem dX9_line_62 : decode cX9_line 62 = .ok (.invokevirtual 148, 3) := by decide +kernel
theorem dX9_line_65 : decode cX9_line 65 = .ok (.iconst 0, 1) := by decide +kernel
theorem dX9_line_66 : decode cX9_line 66 = .ok (.istore_n 1, 1) := by decide +kernel
theorem dX9_line_67 : decode cX9_line 67 = .ok (.aload_n 0, 1) := by decide +kernel
theorem dX9_line_68 : decode cX9_line 68 = .ok (.getfield 114, 3) := by decide +kernel
theorem dX9_line_71 : decode cX9_line 71 = .ok (.ifCond .ne 26, 3) := by decide +kernel
theorem dX9_line_74 : decode cX9_line 74 = .ok (.aload_n 0, 1) := by decide +kernel
theorem dX9_line_75 : decode cX9_line 75 = .ok (.getfield 141, 3) := by decide +kernel
theorem dX9_line_78 : decode cX9_line 78 = .ok (.ifCond .le 19, 3) := by decide +kernel
theorem dX9_line_81 : decode cX9_line 81 = .ok (.aload_n 0, 1) := by decide +kernel
theorem dX9_line_82 : decode cX9_line 82 = .ok (.invokevirtual 138, 3) := by decide +kernel
theorem dX9_line_85 : decode cX9_line 85 = .ok (.bipush 41, 2) := by decide +kernel
theorem dX9_line_87 : decode cX9_line 87 = .ok (.if_icmp .ne 10, 3) := by decide +kernel
theorem dX9_line_90 : decode cX9_line 90 = .ok (.aload_n 0, 1) := by decide +kernel
theorem dX9_line_91 : decode cX9_line 91 = .ok (.invokevirtual 152, 3) := by decide +kernel
theorem dX9_line_94 : decode cX9_line 94 = .ok (.goto (-27), 3) := by decide +kernel
theorem dX9_line_97 : decode cX9_line 97 = .ok (.aload_n 0, 1) := by decide +kernel
theorem dX9_line_98 : decode cX9_line 98 = .ok (.getfield 114, 3) := by decide +kernel
theorem dX9_line_101 : decode cX9_line 101 = .ok (.ifCond .ne 16, 3) := by decide +kernel
theorem dX9_line_104 : decode cX9_line 104 = .ok (.aload_n 0, 1) := by decide +kernel
theorem dX9_line_105 : decode cX9_line 105 = .ok (.invokevirtual 138, 3) := by decide +kernel
theorem dX9_line_108 : decode cX9_line 108 = .ok (.bipush 44, 2) := by decide +kernel
theorem dX9_line_110 : decode cX9_line 110 = .ok (.if_icmp .ne 7, 3) := by decide +kernel
theorem dX9_line_113 : decode cX9_line 113 = .ok (.iconst 1, 1) := by decide +kernel
theorem dX9_line_114 : decode cX9_line 114 = .ok (.goto 4, 3) := by decide +kernel
theorem dX9_line_117 : decode cX9_line 117 = .ok (.iconst 0, 1) := by decide +kernel
theorem dX9_line_118 : decode cX9_line 118 = .ok (.istore_n 2, 1) := by decide +kernel
theorem dX9_line_119 : decode cX9_line 119 = .ok (.iload_n 2, 1) := by decide +kernel
theorem dX9_line_120 : decode cX9_line 120 = .ok (.ifCond .eq 13, 3) := by decide +kernel
theorem dX9_line_123 : decode cX9_line 123 = .ok (.aload_n 0, 1) := by decide +kernel
theorem dX9_line_124 : decode cX9_line 124 = .ok (.dup, 1) := by decide +kernel
theorem dX9_line_125 : decode cX9_line 125 = .ok (.getfield 107, 3) := by decide +kernel
theorem dX9_line_128 : decode cX9_line 128 = .ok (.iconst 1, 1) := by decide +kernel
theorem dX9_line_129 : decode cX9_line 129 = .ok (.iadd, 1) := by decide +kernel
theorem dX9_line_130 : decode cX9_line 130 = .ok (.putfield 107, 3) := by decide +kernel
theorem dX9_line_133 : decode cX9_line 133 = .ok (.goto (-129), 3) := by decide +kernel
theorem dX9_line_136 : decode cX9_line 136 = .ok (.aload_n 0, 1) := by decide +kernel
theorem dX9_line_137 : decode cX9_line 137 = .ok (.getfield 114, 3) := by decide +kernel
theorem dX9_line_140 : decode cX9_line 140 = .ok (.ifCond .ne 15, 3) := by decide +kernel
theorem dX9_line_143 : decode cX9_line 143 = .ok (.aload_n 0, 1) := by decide +kernel
theorem dX9_line_144 : decode cX9_line 144 = .ok (.getfield 141, 3) := by decide +kernel
theorem dX9_line_147 : decode cX9_line 147 = .ok (.ifCond .le 8, 3) := by decide +kernel
theorem dX9_line_150 : decode cX9_line 150 = .ok (.aload_n 0, 1) := by decide +kernel
theorem dX9_line_151 : decode cX9_line 151 = .ok (.iconst 1, 1) := by decide +kernel
theorem dX9_line_152 : decode cX9_line 152 = .ok (.invokevirtual 120, 3) := by decide +kernel
theorem dX9_line_155 : decode cX9_line 155 = .ok (.return_, 1) := by decide +kernel
theorem dX9_opens_0 : decode cX9_opens 0 = .ok (.iload_n 1, 1) := by decide +kernel
theorem dX9_opens_1 : decode cX9_opens 1 = .ok (.bipush 114, 2) := by decide +kernel
theorem dX9_opens_3 : decode cX9_opens 3 = .ok (.if_icmp .ne 46, 3) := by decide +kernel
theorem dX9_opens_6 : decode cX9_opens 6 = .ok (.aload_n 0, 1) := by decide +kernel
theorem dX9_opens_7 : decode cX9_opens 7 = .ok (.dup, 1) := by decide +kernel
theorem dX9_opens_8 : decode cX9_opens 8 = .ok (.getfield 107, 3) := by decide +kernel
theorem dX9_opens_11 : decode cX9_opens 11 = .ok (.iconst 1, 1) := by decide +kernel
theorem dX9_opens_12 : decode cX9_opens 12 = .ok (.iadd, 1) := by decide +kernel
theorem dX9_opens_13 : decode cX9_opens 13 = .ok (.putfield 107, 3) := by decide +kernel
theorem dX9_opens_16 : decode cX9_opens 16 = .ok (.aload_n 0, 1) := by decide +kernel
theorem dX9_opens_17 : decode cX9_opens 17 = .ok (.bipush 101, 2) := by decide +kernel
theorem dX9_opens_19 : decode cX9_opens 19 = .ok (.invokevirtual 155, 3) := by decide +kernel
theorem dX9_opens_22 : decode cX9_opens 22 = .ok (.aload_n 0, 1) := by decide +kernel
theorem dX9_opens_23 : decode cX9_opens 23 = .ok (.bipush 112, 2) := by decide +kernel
theorem dX9_opens_25 : decode cX9_opens 25 = .ok (.invokevirtual 155, 3) := by decide +kernel
theorem dX9_opens_28 : decode cX9_opens 28 = .ok (.aload_n 0, 1) := by decide +kernel
theorem dX9_opens_29 : decode cX9_opens 29 = .ok (.getfield 114, 3) := by decide +kernel
theorem dX9_opens_32 : decode cX9_opens 32 = .ok (.ifCond .ne 17, 3) := by decide +kernel
theorem dX9_opens_35 : decode cX9_opens 35 = .ok (.aload_n 0, 1) := by decide +kernel
theorem dX9_opens_36 : decode cX9_opens 36 = .ok (.invokevirtual 138, 3) := by decide +kernel
theorem dX9_opens_39 : decode cX9_opens 39 = .ok (.bipush 40, 2) := by decide +kernel
theorem dX9_opens_41 : decode cX9_opens 41 = .ok (.if_icmp .eq 8, 3) := by decide +kernel
theorem dX9_opens_44 : decode cX9_opens 44 = .ok (.aload_n 0, 1) := by decide +kernel
theorem dX9_opens_45 : decode cX9_opens 45 = .ok (.iconst 1, 1) := by decide +kernel
theorem dX9_opens_46 : decode cX9_opens 46 = .ok (.invokevirtual 120, 3) := by decide +kernel
theorem dX9_opens_49 : decode cX9_opens 49 = .ok (.aload_n 0, 1) := by decide +kernel
theorem dX9_opens_50 : decode cX9_opens 50 = .ok (.getfield 141, 3) := by decide +kernel
theorem dX9_opens_53 : decode cX9_opens 53 = .ok (.iconst 4, 1) := by decide +kernel
theorem dX9_opens_54 : decode cX9_opens 54 = .ok (.if_icmp .ne 8, 3) := by decide +kernel
theorem dX9_opens_57 : decode cX9_opens 57 = .ok (.aload_n 0, 1) := by decide +kernel
theorem dX9_opens_58 : decode cX9_opens 58 = .ok (.iconst 2, 1) := by decide +kernel
theorem dX9_opens_59 : decode cX9_opens 59 = .ok (.invokevirtual 120, 3) := by decide +kernel
theorem dX9_opens_62 : decode cX9_opens 62 = .ok (.aload_n 0, 1) := by decide +kernel
theorem dX9_opens_63 : decode cX9_opens 63 = .ok (.getfield 114, 3) := by decide +kernel
theorem dX9_opens_66 : decode cX9_opens 66 = .ok (.ifCond .le 4, 3) := by decide +kernel
theorem dX9_opens_69 : decode cX9_opens 69 = .ok (.return_, 1) := by decide +kernel
theorem dX9_opens_70 : decode cX9_opens 70 = .ok (.aload_n 0, 1) := by decide +kernel
theorem dX9_opens_71 : decode cX9_opens 71 = .ok (.dup, 1) := by decide +kernel
theorem dX9_opens_72 : decode cX9_opens 72 = .ok (.getfield 141, 3) := by decide +kernel
theorem dX9_opens_75 : decode cX9_opens 75 = .ok (.iconst 1, 1) := by decide +kernel
theorem dX9_opens_76 : decode cX9_opens 76 = .ok (.iadd, 1) := by decide +kernel
theorem dX9_opens_77 : decode cX9_opens 77 = .ok (.putfield 141, 3) := by decide +kernel
theorem dX9_opens_80 : decode cX9_opens 80 = .ok (.aload_n 0, 1) := by decide +kernel
theorem dX9_opens_81 : decode cX9_opens 81 = .ok (.dup, 1) := by decide +kernel
theorem dX9_opens_82 : decode cX9_opens 82 = .ok (.getfield 107, 3) := by decide +kernel
theorem dX9_opens_85 : decode cX9_opens 85 = .ok (.iconst 1, 1) := by decide +kernel
theorem dX9_opens_86 : decode cX9_opens 86 = .ok (.iadd, 1) := by decide +kernel
theorem dX9_opens_87 : decode cX9_opens 87 = .ok (.putfield 107, 3) := by decide +kernel
theorem dX9_opens_90 : decode cX9_opens 90 = .ok (.aload_n 0, 1) := by decide +kernel
theorem dX9_opens_91 : decode cX9_opens 91 = .ok (.getfield 62, 3) := by decide +kernel
theorem dX9_opens_94 : decode cX9_opens 94 = .ok (.aload_n 0, 1) := by decide +kernel
theorem dX9_opens_95 : decode cX9_opens 95 = .ok (.getfield 141, 3) := by decide +kernel
theorem dX9_opens_98 : decode cX9_opens 98 = .ok (.aload_n 0, 1) := by decide +kernel
theorem dX9_opens_99 : decode cX9_opens 99 = .ok (.getfield 123, 3) := by decide +kernel
theorem dX9_opens_102 : decode cX9_opens 102 = .ok (.iastore, 1) := by decide +kernel
theorem dX9_opens_103 : decode cX9_opens 103 = .ok (.aload_n 0, 1) := by decide +kernel
theorem dX9_opens_104 : decode cX9_opens 104 = .ok (.iload_n 1, 1) := by decide +kernel
theorem dX9_opens_105 : decode cX9_opens 105 = .ok (.bipush 114, 2) := by decide +kernel
theorem dX9_opens_107 : decode cX9_opens 107 = .ok (.if_icmp .ne 8, 3) := by decide +kernel
theorem dX9_opens_110 : decode cX9_opens 110 = .ok (.bipush 22, 2) := by decide +kernel
theorem dX9_opens_112 : decode cX9_opens 112 = .ok (.goto 5, 3) := by decide +kernel
theorem dX9_opens_115 : decode cX9_opens 115 = .ok (.bipush 20, 2) := by decide +kernel
theorem dX9_opens_117 : decode cX9_opens 117 = .ok (.iconst 0, 1) := by decide +kernel
theorem dX9_opens_118 : decode cX9_opens 118 = .ok (.iload_n 2, 1) := by decide +kernel
theorem dX9_opens_119 : decode cX9_opens 119 = .ok (.invokevirtual 134, 3) := by decide +kernel
theorem dX9_opens_122 : decode cX9_opens 122 = .ok (.return_, 1) := by decide +kernel
theorem dX9_shuts_0 : decode cX9_shuts 0 = .ok (.aload_n 0, 1) := by decide +kernel
theorem dX9_shuts_1 : decode cX9_shuts 1 = .ok (.dup, 1) := by decide +kernel
theorem dX9_shuts_2 : decode cX9_shuts 2 = .ok (.getfield 107, 3) := by decide +kernel
theorem dX9_shuts_5 : decode cX9_shuts 5 = .ok (.iconst 1, 1) := by decide +kernel
theorem dX9_shuts_6 : decode cX9_shuts 6 = .ok (.iadd, 1) := by decide +kernel
theorem dX9_shuts_7 : decode cX9_shuts 7 = .ok (.putfield 107, 3) := by decide +kernel
theorem dX9_shuts_10 : decode cX9_shuts 10 = .ok (.aload_n 0, 1) := by decide +kernel
theorem dX9_shuts_11 : decode cX9_shuts 11 = .ok (.getfield 62, 3) := by decide +kernel
theorem dX9_shuts_14 : decode cX9_shuts 14 = .ok (.aload_n 0, 1) := by decide +kernel
theorem dX9_shuts_15 : decode cX9_shuts 15 = .ok (.getfield 141, 3) := by decide +kernel
theorem dX9_shuts_18 : decode cX9_shuts 18 = .ok (.iaload, 1) := by decide +kernel
theorem dX9_shuts_19 : decode cX9_shuts 19 = .ok (.istore_n 1, 1) := by decide +kernel
theorem dX9_shuts_20 : decode cX9_shuts 20 = .ok (.aload_n 0, 1) := by decide +kernel
theorem dX9_shuts_21 : decode cX9_shuts 21 = .ok (.dup, 1) := by decide +kernel
theorem dX9_shuts_22 : decode cX9_shuts 22 = .ok (.getfield 141, 3) := by decide +kernel
theorem dX9_shuts_25 : decode cX9_shuts 25 = .ok (.iconst 1, 1) := by decide +kernel
theorem dX9_shuts_26 : decode cX9_shuts 26 = .ok (.isub, 1) := by decide +kernel
theorem dX9_shuts_27 : decode cX9_shuts 27 = .ok (.putfield 141, 3) := by decide +kernel
theorem dX9_shuts_30 : decode cX9_shuts 30 = .ok (.aload_n 0, 1) := by decide +kernel
theorem dX9_shuts_31 : decode cX9_shuts 31 = .ok (.getfield 38, 3) := by decide +kernel
theorem dX9_shuts_34 : decode cX9_shuts 34 = .ok (.iload_n 1, 1) := by decide +kernel
theorem dX9_shuts_35 : decode cX9_shuts 35 = .ok (.iaload, 1) := by decide +kernel
theorem dX9_shuts_36 : decode cX9_shuts 36 = .ok (.bipush 20, 2) := by decide +kernel
theorem dX9_shuts_38 : decode cX9_shuts 38 = .ok (.if_icmp .ne 10, 3) := by decide +kernel
theorem dX9_shuts_41 : decode cX9_shuts 41 = .ok (.aload_n 0, 1) := by decide +kernel
theorem dX9_shuts_42 : decode cX9_shuts 42 = .ok (.invokevirtual 158, 3) := by decide +kernel
theorem dX9_shuts_45 : decode cX9_shuts 45 = .ok (.goto 7, 3) := by decide +kernel
theorem dX9_shuts_48 : decode cX9_shuts 48 = .ok (.aload_n 0, 1) := by decide +kernel
theorem dX9_shuts_49 : decode cX9_shuts 49 = .ok (.invokevirtual 161, 3) := by decide +kernel
theorem dX9_shuts_52 : decode cX9_shuts 52 = .ok (.istore_n 2, 1) := by decide +kernel
theorem dX9_shuts_53 : decode cX9_shuts 53 = .ok (.aload_n 0, 1) := by decide +kernel
theorem dX9_shuts_54 : decode cX9_shuts 54 = .ok (.getfield 47, 3) := by decide +kernel
theorem dX9_shuts_57 : decode cX9_shuts 57 = .ok (.iload_n 1, 1) := by decide +kernel
theorem dX9_shuts_58 : decode cX9_shuts 58 = .ok (.aload_n 0, 1) := by decide +kernel
theorem dX9_shuts_59 : decode cX9_shuts 59 = .ok (.getfield 123, 3) := by decide +kernel
theorem dX9_shuts_62 : decode cX9_shuts 62 = .ok (.iastore, 1) := by decide +kernel
theorem dX9_shuts_63 : decode cX9_shuts 63 = .ok (.aload_n 0, 1) := by decide +kernel
theorem dX9_shuts_64 : decode cX9_shuts 64 = .ok (.getfield 41, 3) := by decide +kernel
theorem dX9_shuts_67 : decode cX9_shuts 67 = .ok (.iload_n 1, 1) := by decide +kernel
theorem dX9_shuts_68 : decode cX9_shuts 68 = .ok (.iload_n 2, 1) := by decide +kernel
theorem dX9_shuts_69 : decode cX9_shuts 69 = .ok (.iastore, 1) := by decide +kernel
theorem dX9_shuts_70 : decode cX9_shuts 70 = .ok (.aload_n 0, 1) := by decide +kernel
theorem dX9_shuts_71 : decode cX9_shuts 71 = .ok (.getfield 47, 3) := by decide +kernel
theorem dX9_shuts_74 : decode cX9_shuts 74 = .ok (.aload_n 0, 1) := by decide +kernel
theorem dX9_shuts_75 : decode cX9_shuts 75 = .ok (.getfield 123, 3) := by decide +kernel
theorem dX9_shuts_78 : decode cX9_shuts 78 = .ok (.iload_n 1, 1) := by decide +kernel
theorem dX9_shuts_79 : decode cX9_shuts 79 = .ok (.iastore, 1) := by decide +kernel
theorem dX9_shuts_80 : decode cX9_shuts 80 = .ok (.aload_n 0, 1) := by decide +kernel
theorem dX9_shuts_81 : decode cX9_shuts 81 = .ok (.bipush 21, 2) := by decide +kernel
theorem dX9_shuts_83 : decode cX9_shuts 83 = .ok (.iconst 0, 1) := by decide +kernel
theorem dX9_shuts_84 : decode cX9_shuts 84 = .ok (.aload_n 0, 1) := by decide +kernel
theorem dX9_shuts_85 : decode cX9_shuts 85 = .ok (.getfield 44, 3) := by decide +kernel
theorem dX9_shuts_88 : decode cX9_shuts 88 = .ok (.iload_n 1, 1) := by decide +kernel
theorem dX9_shuts_89 : decode cX9_shuts 89 = .ok (.iaload, 1) := by decide +kernel
theorem dX9_shuts_90 : decode cX9_shuts 90 = .ok (.invokevirtual 134, 3) := by decide +kernel
theorem dX9_shuts_93 : decode cX9_shuts 93 = .ok (.return_, 1) := by decide +kernel
theorem dX9_times_0 : decode cX9_times 0 = .ok (.aload_n 0, 1) := by decide +kernel
theorem dX9_times_1 : decode cX9_times 1 = .ok (.invokevirtual 138, 3) := by decide +kernel
theorem dX9_times_4 : decode cX9_times 4 = .ok (.bipush 120, 2) := by decide +kernel
theorem dX9_times_6 : decode cX9_times 6 = .ok (.if_icmp .eq 8, 3) := by decide +kernel
theorem dX9_times_9 : decode cX9_times 9 = .ok (.aload_n 0, 1) := by decide +kernel
theorem dX9_times_10 : decode cX9_times 10 = .ok (.iconst 1, 1) := by decide +kernel
theorem dX9_times_11 : decode cX9_times 11 = .ok (.invokevirtual 120, 3) := by decide +kernel
theorem dX9_times_14 : decode cX9_times 14 = .ok (.aload_n 0, 1) := by decide +kernel
theorem dX9_times_15 : decode cX9_times 15 = .ok (.getfield 114, 3) := by decide +kernel
theorem dX9_times_18 : decode cX9_times 18 = .ok (.ifCond .le 5, 3) := by decide +kernel
theorem dX9_times_21 : decode cX9_times 21 = .ok (.iconst 0, 1) := by decide +kernel
theorem dX9_times_22 : decode cX9_times 22 = .ok (.ireturn, 1) := by decide +kernel
theorem dX9_times_23 : decode cX9_times 23 = .ok (.aload_n 0, 1) := by decide +kernel
theorem dX9_times_24 : decode cX9_times 24 = .ok (.dup, 1) := by decide +kernel
theorem dX9_times_25 : decode cX9_times 25 = .ok (.getfield 107, 3) := by decide +kernel
theorem dX9_times_28 : decode cX9_times 28 = .ok (.iconst 1, 1) := by decide +kernel
theorem dX9_times_29 : decode cX9_times 29 = .ok (.iadd, 1) := by decide +kernel
theorem dX9_times_30 : decode cX9_times 30 = .ok (.putfield 107, 3) := by decide +kernel
theorem dX9_times_33 : decode cX9_times 33 = .ok (.aload_n 0, 1) := by decide +kernel
theorem dX9_times_34 : decode cX9_times 34 = .ok (.iconst 2, 1) := by decide +kernel
theorem dX9_times_35 : decode cX9_times 35 = .ok (.invokevirtual 130, 3) := by decide +kernel
theorem dX9_times_38 : decode cX9_times 38 = .ok (.ireturn, 1) := by decide +kernel
theorem dX9_last_0 : decode cX9_last 0 = .ok (.aload_n 0, 1) := by decide +kernel
theorem dX9_last_1 : decode cX9_last 1 = .ok (.invokevirtual 138, 3) := by decide +kernel
theorem dX9_last_4 : decode cX9_last 4 = .ok (.istore_n 1, 1) := by decide +kernel
theorem dX9_last_5 : decode cX9_last 5 = .ok (.aload_n 0, 1) := by decide +kernel
theorem dX9_last_6 : decode cX9_last 6 = .ok (.bipush 116, 2) := by decide +kernel
theorem dX9_last_8 : decode cX9_last 8 = .ok (.invokevirtual 155, 3) := by decide +kernel
theorem dX9_last_11 : decode cX9_last 11 = .ok (.aload_n 0, 1) := by decide +kernel
theorem dX9_last_12 : decode cX9_last 12 = .ok (.bipush 111, 2) := by decide +kernel
theorem dX9_last_14 : decode cX9_last 14 = .ok (.invokevirtual 155, 3) := by decide +kernel
theorem dX9_last_17 : decode cX9_last 17 = .ok (.aload_n 0, 1) := by decide +kernel
theorem dX9_last_18 : decode cX9_last 18 = .ok (.getfield 114, 3) := by decide +kernel
theorem dX9_last_21 : decode cX9_last 21 = .ok (.ifCond .ne 8, 3) := by decide +kernel
theorem dX9_last_24 : decode cX9_last 24 = .ok (.aload_n 0, 1) := by decide +kernel
theorem dX9_last_25 : decode cX9_last 25 = .ok (.invokevirtual 138, 3) := by decide +kernel
theorem dX9_last_28 : decode cX9_last 28 = .ok (.istore_n 1, 1) := by decide +kernel
theorem dX9_last_29 : decode cX9_last 29 = .ok (.aload_n 0, 1) := by decide +kernel
theorem dX9_last_30 : decode cX9_last 30 = .ok (.bipush 108, 2) := by decide +kernel
theorem dX9_last_32 : decode cX9_last 32 = .ok (.invokevirtual 155, 3) := by decide +kernel
theorem dX9_last_35 : decode cX9_last 35 = .ok (.aload_n 0, 1) := by decide +kernel
theorem dX9_last_36 : decode cX9_last 36 = .ok (.bipush 97, 2) := by decide +kernel
theorem dX9_last_38 : decode cX9_last 38 = .ok (.invokevirtual 155, 3) := by decide +kernel
theorem dX9_last_41 : decode cX9_last 41 = .ok (.aload_n 0, 1) := by decide +kernel
theorem dX9_last_42 : decode cX9_last 42 = .ok (.bipush 115, 2) := by decide +kernel
theorem dX9_last_44 : decode cX9_last 44 = .ok (.invokevirtual 155, 3) := by decide +kernel
theorem dX9_last_47 : decode cX9_last 47 = .ok (.aload_n 0, 1) := by decide +kernel
theorem dX9_last_48 : decode cX9_last 48 = .ok (.bipush 116, 2) := by decide +kernel
theorem dX9_last_50 : decode cX9_last 50 = .ok (.invokevirtual 155, 3) := by decide +kernel
theorem dX9_last_53 : decode cX9_last 53 = .ok (.aload_n 0, 1) := by decide +kernel
theorem dX9_last_54 : decode cX9_last 54 = .ok (.getfield 114, 3) := by decide +kernel
theorem dX9_last_57 : decode cX9_last 57 = .ok (.ifCond .le 5, 3) := by decide +kernel
theorem dX9_last_60 : decode cX9_last 60 = .ok (.iconst 0, 1) := by decide +kernel
theorem dX9_last_61 : decode cX9_last 61 = .ok (.ireturn, 1) := by decide +kernel
theorem dX9_last_62 : decode cX9_last 62 = .ok (.aload_n 0, 1) := by decide +kernel
theorem dX9_last_63 : decode cX9_last 63 = .ok (.invokevirtual 138, 3) := by decide +kernel
theorem dX9_last_66 : decode cX9_last 66 = .ok (.istore_n 1, 1) := by decide +kernel
theorem dX9_last_67 : decode cX9_last 67 = .ok (.aload_n 0, 1) := by decide +kernel
theorem dX9_last_68 : decode cX9_last 68 = .ok (.iconst 0, 1) := by decide +kernel
theorem dX9_last_69 : decode cX9_last 69 = .ok (.invokevirtual 130, 3) := by decide +kernel
theorem dX9_last_72 : decode cX9_last 72 = .ok (.ireturn, 1) := by decide +kernel
theorem dX9_named_0 : decode cX9_named 0 = .ok (.iload_n 1, 1) := by decide +kernel
theorem dX9_named_1 : decode cX9_named 1 = .ok (.bipush 107, 2) := by decide +kernel
theorem dX9_named_3 : decode cX9_named 3 = .ok (.if_icmp .eq 39, 3) := by decide +kernel
theorem dX9_named_6 : decode cX9_named 6 = .ok (.iload_n 1, 1) := by decide +kernel
theorem dX9_named_7 : decode cX9_named 7 = .ok (.bipush 112, 2) := by decide +kernel
theorem dX9_named_9 : decode cX9_named 9 = .ok (.if_icmp .eq 33, 3) := by decide +kernel
theorem dX9_named_12 : decode cX9_named 12 = .ok (.iload_n 1, 1) := by decide +kernel
theorem dX9_named_13 : decode cX9_named 13 = .ok (.bipush 115, 2) := by decide +kernel
theorem dX9_named_15 : decode cX9_named 15 = .ok (.if_icmp .eq 27, 3) := by decide +kernel
theorem dX9_named_18 : decode cX9_named 18 = .ok (.iload_n 1, 1) := by decide +kernel
theorem dX9_named_19 : decode cX9_named 19 = .ok (.bipush 121, 2) := by decide +kernel
theorem dX9_named_21 : decode cX9_named 21 = .ok (.if_icmp .eq 21, 3) := by decide +kernel
theorem dX9_named_24 : decode cX9_named 24 = .ok (.iload_n 1, 1) := by decide +kernel
theorem dX9_named_25 : decode cX9_named 25 = .ok (.bipush 98, 2) := by decide +kernel
theorem dX9_named_27 : decode cX9_named 27 = .ok (.if_icmp .eq 15, 3) := by decide +kernel
theorem dX9_named_30 : decode cX9_named 30 = .ok (.iload_n 1, 1) := by decide +kernel
theorem dX9_named_31 : decode cX9_named 31 = .ok (.bipush 99, 2) := by decide +kernel
theorem dX9_named_33 : decode cX9_named 33 = .ok (.if_icmp .eq 9, 3) := by decide +kernel
theorem dX9_named_36 : decode cX9_named 36 = .ok (.aload_n 0, 1) := by decide +kernel
theorem dX9_named_37 : decode cX9_named 37 = .ok (.iconst 1, 1) := by decide +kernel
theorem dX9_named_38 : decode cX9_named 38 = .ok (.invokevirtual 120, 3) := by decide +kernel
theorem dX9_named_41 : decode cX9_named 41 = .ok (.return_, 1) := by decide +kernel
theorem dX9_named_42 : decode cX9_named 42 = .ok (.aload_n 0, 1) := by decide +kernel
theorem dX9_named_43 : decode cX9_named 43 = .ok (.dup, 1) := by decide +kernel
theorem dX9_named_44 : decode cX9_named 44 = .ok (.getfield 107, 3) := by decide +kernel
theorem dX9_named_47 : decode cX9_named 47 = .ok (.iconst 1, 1) := by decide +kernel
theorem dX9_named_48 : decode cX9_named 48 = .ok (.iadd, 1) := by decide +kernel
theorem dX9_named_49 : decode cX9_named 49 = .ok (.putfield 107, 3) := by decide +kernel
theorem dX9_named_52 : decode cX9_named 52 = .ok (.aload_n 0, 1) := by decide +kernel
theorem dX9_named_53 : decode cX9_named 53 = .ok (.invokevirtual 110, 3) := by decide +kernel
theorem dX9_named_56 : decode cX9_named 56 = .ok (.istore 4, 2) := by decide +kernel
theorem dX9_named_58 : decode cX9_named 58 = .ok (.iload_n 1, 1) := by decide +kernel
theorem dX9_named_59 : decode cX9_named 59 = .ok (.bipush 112, 2) := by decide +kernel
theorem dX9_named_61 : decode cX9_named 61 = .ok (.if_icmp .ne 12, 3) := by decide +kernel
theorem dX9_named_64 : decode cX9_named 64 = .ok (.aload_n 0, 1) := by decide +kernel
theorem dX9_named_65 : decode cX9_named 65 = .ok (.iconst 1, 1) := by decide +kernel
theorem dX9_named_66 : decode cX9_named 66 = .ok (.iload_n 2, 1) := by decide +kernel
theorem dX9_named_67 : decode cX9_named 67 = .ok (.invokevirtual 164, 3) := by decide +kernel
theorem dX9_named_70 : decode cX9_named 70 = .ok (.goto 212, 3) := by decide +kernel
theorem dX9_named_73 : decode cX9_named 73 = .ok (.iload_n 1, 1) := by decide +kernel
theorem dX9_named_74 : decode cX9_named 74 = .ok (.bipush 121, 2) := by decide +kernel
theorem dX9_named_76 : decode cX9_named 76 = .ok (.if_icmp .ne 19, 3) := by decide +kernel
theorem dX9_named_79 : decode cX9_named 79 = .ok (.aload_n 0, 1) := by decide +kernel
theorem dX9_named_80 : decode cX9_named 80 = .ok (.bipush 111, 2) := by decide +kernel
theorem dX9_named_82 : decode cX9_named 82 = .ok (.invokevirtual 155, 3) := by decide +kernel
theorem dX9_named_85 : decode cX9_named 85 = .ok (.aload_n 0, 1) := by decide +kernel
theorem dX9_named_86 : decode cX9_named 86 = .ok (.bipush 7, 2) := by decide +kernel
theorem dX9_named_88 : decode cX9_named 88 = .ok (.iload_n 2, 1) := by decide +kernel
theorem dX9_named_89 : decode cX9_named 89 = .ok (.invokevirtual 164, 3) := by decide +kernel
theorem dX9_named_92 : decode cX9_named 92 = .ok (.goto 190, 3) := by decide +kernel
theorem dX9_named_95 : decode cX9_named 95 = .ok (.iload_n 1, 1) := by decide +kernel
theorem dX9_named_96 : decode cX9_named 96 = .ok (.bipush 98, 2) := by decide +kernel
theorem dX9_named_98 : decode cX9_named 98 = .ok (.if_icmp .ne 31, 3) := by decide +kernel
theorem dX9_named_101 : decode cX9_named 101 = .ok (.aload_n 0, 1) := by decide +kernel
theorem dX9_named_102 : decode cX9_named 102 = .ok (.bipush 105, 2) := by decide +kernel
theorem dX9_named_104 : decode cX9_named 104 = .ok (.invokevirtual 155, 3) := by decide +kernel
theorem dX9_named_107 : decode cX9_named 107 = .ok (.aload_n 0, 1) := by decide +kernel
theorem dX9_named_108 : decode cX9_named 108 = .ok (.bipush 110, 2) := by decide +kernel
theorem dX9_named_110 : decode cX9_named 110 = .ok (.invokevirtual 155, 3) := by decide +kernel
theorem dX9_named_113 : decode cX9_named 113 = .ok (.aload_n 0, 1) := by decide +kernel
theorem dX9_named_114 : decode cX9_named 114 = .ok (.bipush 100, 2) := by decide +kernel
theorem dX9_named_116 : decode cX9_named 116 = .ok (.invokevirtual 155, 3) := by decide +kernel
theorem dX9_named_119 : decode cX9_named 119 = .ok (.aload_n 0, 1) := by decide +kernel
theorem dX9_named_120 : decode cX9_named 120 = .ok (.bipush 8, 2) := by decide +kernel
theorem dX9_named_122 : decode cX9_named 122 = .ok (.iload_n 2, 1) := by decide +kernel
theorem dX9_named_123 : decode cX9_named 123 = .ok (.invokevirtual 164, 3) := by decide +kernel
theorem dX9_named_126 : decode cX9_named 126 = .ok (.goto 156, 3) := by decide +kernel
theorem dX9_named_129 : decode cX9_named 129 = .ok (.iload_n 1, 1) := by decide +kernel
theorem dX9_named_130 : decode cX9_named 130 = .ok (.bipush 115, 2) := by decide +kernel
theorem dX9_named_132 : decode cX9_named 132 = .ok (.if_icmp .ne 70, 3) := by decide +kernel
theorem dX9_named_135 : decode cX9_named 135 = .ok (.aload_n 0, 1) := by decide +kernel
theorem dX9_named_136 : decode cX9_named 136 = .ok (.dup, 1) := by decide +kernel
theorem dX9_named_137 : decode cX9_named 137 = .ok (.getfield 107, 3) := by decide +kernel
theorem dX9_named_140 : decode cX9_named 140 = .ok (.iconst 1, 1) := by decide +kernel
theorem dX9_named_141 : decode cX9_named 141 = .ok (.iadd, 1) := by decide +kernel
theorem dX9_named_142 : decode cX9_named 142 = .ok (.putfield 107, 3) := by decide +kernel
theorem dX9_named_145 : decode cX9_named 145 = .ok (.iload 4, 2) := by decide +kernel
theorem dX9_named_147 : decode cX9_named 147 = .ok (.bipush 115, 2) := by decide +kernel
theorem dX9_named_149 : decode cX9_named 149 = .ok (.if_icmp .ne 19, 3) := by decide +kernel
theorem dX9_named_152 : decode cX9_named 152 = .ok (.aload_n 0, 1) := by decide +kernel
theorem dX9_named_153 : decode cX9_named 153 = .ok (.bipush 107, 2) := by decide +kernel
theorem dX9_named_155 : decode cX9_named 155 = .ok (.invokevirtual 155, 3) := by decide +kernel
theorem dX9_named_158 : decode cX9_named 158 = .ok (.aload_n 0, 1) := by decide +kernel
theorem dX9_named_159 : decode cX9_named 159 = .ok (.iconst 4, 1) := by decide +kernel
theorem dX9_named_160 : decode cX9_named 160 = .ok (.iconst 1, 1) := by decide +kernel
theorem dX9_named_161 : decode cX9_named 161 = .ok (.iload_n 2, 1) := by decide +kernel
theorem dX9_named_162 : decode cX9_named 162 = .ok (.invokevirtual 134, 3) := by decide +kernel
theorem dX9_named_165 : decode cX9_named 165 = .ok (.goto 117, 3) := by decide +kernel
theorem dX9_named_168 : decode cX9_named 168 = .ok (.iload 4, 2) := by decide +kernel
theorem dX9_named_170 : decode cX9_named 170 = .ok (.bipush 108, 2) := by decide +kernel
theorem dX9_named_172 : decode cX9_named 172 = .ok (.if_icmp .ne 12, 3) := by decide +kernel
theorem dX9_named_175 : decode cX9_named 175 = .ok (.aload_n 0, 1) := by decide +kernel
theorem dX9_named_176 : decode cX9_named 176 = .ok (.iconst 2, 1) := by decide +kernel
theorem dX9_named_177 : decode cX9_named 177 = .ok (.iload_n 2, 1) := by decide +kernel
theorem dX9_named_178 : decode cX9_named 178 = .ok (.invokevirtual 164, 3) := by decide +kernel
theorem dX9_named_181 : decode cX9_named 181 = .ok (.goto 101, 3) := by decide +kernel
theorem dX9_named_184 : decode cX9_named 184 = .ok (.aload_n 0, 1) := by decide +kernel
theorem dX9_named_185 : decode cX9_named 185 = .ok (.dup, 1) := by decide +kernel
theorem dX9_named_186 : decode cX9_named 186 = .ok (.getfield 107, 3) := by decide +kernel
theorem dX9_named_189 : decode cX9_named 189 = .ok (.iconst 1, 1) := by decide +kernel
theorem dX9_named_190 : decode cX9_named 190 = .ok (.isub, 1) := by decide +kernel
theorem dX9_named_191 : decode cX9_named 191 = .ok (.putfield 107, 3) := by decide +kernel
theorem dX9_named_194 : decode cX9_named 194 = .ok (.aload_n 0, 1) := by decide +kernel
theorem dX9_named_195 : decode cX9_named 195 = .ok (.iconst 1, 1) := by decide +kernel
theorem dX9_named_196 : decode cX9_named 196 = .ok (.invokevirtual 120, 3) := by decide +kernel
theorem dX9_named_199 : decode cX9_named 199 = .ok (.goto 83, 3) := by decide +kernel
theorem dX9_named_202 : decode cX9_named 202 = .ok (.iload_n 1, 1) := by decide +kernel
theorem dX9_named_203 : decode cX9_named 203 = .ok (.bipush 107, 2) := by decide +kernel
theorem dX9_named_205 : decode cX9_named 205 = .ok (.if_icmp .ne 13, 3) := by decide +kernel
theorem dX9_named_208 : decode cX9_named 208 = .ok (.aload_n 0, 1) := by decide +kernel
theorem dX9_named_209 : decode cX9_named 209 = .ok (.iload 4, 2) := by decide +kernel
theorem dX9_named_211 : decode cX9_named 211 = .ok (.iload_n 2, 1) := by decide +kernel
theorem dX9_named_212 : decode cX9_named 212 = .ok (.invokevirtual 167, 3) := by decide +kernel
theorem dX9_named_215 : decode cX9_named 215 = .ok (.goto 67, 3) := by decide +kernel
theorem dX9_named_218 : decode cX9_named 218 = .ok (.iload 4, 2) := by decide +kernel
theorem dX9_named_220 : decode cX9_named 220 = .ok (.bipush 97, 2) := by decide +kernel
theorem dX9_named_222 : decode cX9_named 222 = .ok (.if_icmp .ne 55, 3) := by decide +kernel
theorem dX9_named_225 : decode cX9_named 225 = .ok (.iload_n 3, 1) := by decide +kernel
theorem dX9_named_226 : decode cX9_named 226 = .ok (.ifCond .eq 51, 3) := by decide +kernel
theorem dX9_named_229 : decode cX9_named 229 = .ok (.aload_n 0, 1) := by decide +kernel
theorem dX9_named_230 : decode cX9_named 230 = .ok (.bipush 97, 2) := by decide +kernel
theorem dX9_named_232 : decode cX9_named 232 = .ok (.invokevirtual 155, 3) := by decide +kernel
theorem dX9_named_235 : decode cX9_named 235 = .ok (.aload_n 0, 1) := by decide +kernel
theorem dX9_named_236 : decode cX9_named 236 = .ok (.bipush 115, 2) := by decide +kernel
theorem dX9_named_238 : decode cX9_named 238 = .ok (.invokevirtual 155, 3) := by decide +kernel
theorem dX9_named_241 : decode cX9_named 241 = .ok (.aload_n 0, 1) := by decide +kernel
theorem dX9_named_242 : decode cX9_named 242 = .ok (.bipush 116, 2) := by decide +kernel
theorem dX9_named_244 : decode cX9_named 244 = .ok (.invokevirtual 155, 3) := by decide +kernel
theorem dX9_named_247 : decode cX9_named 247 = .ok (.aload_n 0, 1) := by decide +kernel
theorem dX9_named_248 : decode cX9_named 248 = .ok (.getfield 114, 3) := by decide +kernel
theorem dX9_named_251 : decode cX9_named 251 = .ok (.ifCond .ne 16, 3) := by decide +kernel
theorem dX9_named_254 : decode cX9_named 254 = .ok (.aload_n 0, 1) := by decide +kernel
theorem dX9_named_255 : decode cX9_named 255 = .ok (.iconst 1, 1) := by decide +kernel
theorem dX9_named_256 : decode cX9_named 256 = .ok (.invokevirtual 126, 3) := by decide +kernel
theorem dX9_named_259 : decode cX9_named 259 = .ok (.ifCond .ne 8, 3) := by decide +kernel
theorem dX9_named_262 : decode cX9_named 262 = .ok (.aload_n 0, 1) := by decide +kernel
theorem dX9_named_263 : decode cX9_named 263 = .ok (.iconst 1, 1) := by decide +kernel
theorem dX9_named_264 : decode cX9_named 264 = .ok (.invokevirtual 120, 3) := by decide +kernel
theorem dX9_named_267 : decode cX9_named 267 = .ok (.aload_n 0, 1) := by decide +kernel
theorem dX9_named_268 : decode cX9_named 268 = .ok (.bipush 9, 2) := by decide +kernel
theorem dX9_named_270 : decode cX9_named 270 = .ok (.iload_n 2, 1) := by decide +kernel
theorem dX9_named_271 : decode cX9_named 271 = .ok (.invokevirtual 164, 3) := by decide +kernel
theorem dX9_named_274 : decode cX9_named 274 = .ok (.goto 8, 3) := by decide +kernel
theorem dX9_named_277 : decode cX9_named 277 = .ok (.aload_n 0, 1) := by decide +kernel
theorem dX9_named_278 : decode cX9_named 278 = .ok (.iload_n 2, 1) := by decide +kernel
theorem dX9_named_279 : decode cX9_named 279 = .ok (.invokevirtual 170, 3) := by decide +kernel
theorem dX9_named_282 : decode cX9_named 282 = .ok (.return_, 1) := by decide +kernel
theorem dX9_knit_0 : decode cX9_knit 0 = .ok (.iload_n 1, 1) := by decide +kernel
theorem dX9_knit_1 : decode cX9_knit 1 = .ok (.bipush 102, 2) := by decide +kernel
theorem dX9_knit_3 : decode cX9_knit 3 = .ok (.if_icmp .ne 24, 3) := by decide +kernel
theorem dX9_knit_6 : decode cX9_knit 6 = .ok (.aload_n 0, 1) := by decide +kernel
theorem dX9_knit_7 : decode cX9_knit 7 = .ok (.bipush 102, 2) := by decide +kernel
theorem dX9_knit_9 : decode cX9_knit 9 = .ok (.invokevirtual 155, 3) := by decide +kernel
theorem dX9_knit_12 : decode cX9_knit 12 = .ok (.aload_n 0, 1) := by decide +kernel
theorem dX9_knit_13 : decode cX9_knit 13 = .ok (.bipush 98, 2) := by decide +kernel
theorem dX9_knit_15 : decode cX9_knit 15 = .ok (.invokevirtual 155, 3) := by decide +kernel
theorem dX9_knit_18 : decode cX9_knit 18 = .ok (.aload_n 0, 1) := by decide +kernel
theorem dX9_knit_19 : decode cX9_knit 19 = .ok (.bipush 6, 2) := by decide +kernel
theorem dX9_knit_21 : decode cX9_knit 21 = .ok (.iconst 1, 1) := by decide +kernel
theorem dX9_knit_22 : decode cX9_knit 22 = .ok (.iload_n 2, 1) := by decide +kernel
theorem dX9_knit_23 : decode cX9_knit 23 = .ok (.invokevirtual 134, 3) := by decide +kernel
theorem dX9_knit_26 : decode cX9_knit 26 = .ok (.return_, 1) := by decide +kernel
theorem dX9_knit_27 : decode cX9_knit 27 = .ok (.iload_n 1, 1) := by decide +kernel
theorem dX9_knit_28 : decode cX9_knit 28 = .ok (.bipush 50, 2) := by decide +kernel
theorem dX9_knit_30 : decode cX9_knit 30 = .ok (.if_icmp .eq 9, 3) := by decide +kernel
theorem dX9_knit_33 : decode cX9_knit 33 = .ok (.iload_n 1, 1) := by decide +kernel
theorem dX9_knit_34 : decode cX9_knit 34 = .ok (.bipush 51, 2) := by decide +kernel
theorem dX9_knit_36 : decode cX9_knit 36 = .ok (.if_icmp .ne 36, 3) := by decide +kernel
theorem dX9_knit_39 : decode cX9_knit 39 = .ok (.aload_n 0, 1) := by decide +kernel
theorem dX9_knit_40 : decode cX9_knit 40 = .ok (.getfield 107, 3) := by decide +kernel
theorem dX9_knit_43 : decode cX9_knit 43 = .ok (.iconst 1, 1) := by decide +kernel
theorem dX9_knit_44 : decode cX9_knit 44 = .ok (.iadd, 1) := by decide +kernel
theorem dX9_knit_45 : decode cX9_knit 45 = .ok (.aload_n 0, 1) := by decide +kernel
theorem dX9_knit_46 : decode cX9_knit 46 = .ok (.getfield 104, 3) := by decide +kernel
theorem dX9_knit_49 : decode cX9_knit 49 = .ok (.if_icmp .ge 23, 3) := by decide +kernel
theorem dX9_knit_52 : decode cX9_knit 52 = .ok (.aload_n 0, 1) := by decide +kernel
theorem dX9_knit_53 : decode cX9_knit 53 = .ok (.getfield 7, 3) := by decide +kernel
theorem dX9_knit_56 : decode cX9_knit 56 = .ok (.aload_n 0, 1) := by decide +kernel
theorem dX9_knit_57 : decode cX9_knit 57 = .ok (.getfield 107, 3) := by decide +kernel
theorem dX9_knit_60 : decode cX9_knit 60 = .ok (.iconst 1, 1) := by decide +kernel
theorem dX9_knit_61 : decode cX9_knit 61 = .ok (.iadd, 1) := by decide +kernel
theorem dX9_knit_62 : decode cX9_knit 62 = .ok (.iaload, 1) := by decide +kernel
theorem dX9_knit_63 : decode cX9_knit 63 = .ok (.bipush 116, 2) := by decide +kernel
theorem dX9_knit_65 : decode cX9_knit 65 = .ok (.if_icmp .ne 7, 3) := by decide +kernel
theorem dX9_knit_68 : decode cX9_knit 68 = .ok (.iconst 1, 1) := by decide +kernel
theorem dX9_knit_69 : decode cX9_knit 69 = .ok (.goto 4, 3) := by decide +kernel
theorem dX9_knit_72 : decode cX9_knit 72 = .ok (.iconst 0, 1) := by decide +kernel
theorem dX9_knit_73 : decode cX9_knit 73 = .ok (.istore_n 3, 1) := by decide +kernel
theorem dX9_knit_74 : decode cX9_knit 74 = .ok (.iload_n 3, 1) := by decide +kernel
theorem dX9_knit_75 : decode cX9_knit 75 = .ok (.ifCond .ne 10, 3) := by decide +kernel
theorem dX9_knit_78 : decode cX9_knit 78 = .ok (.aload_n 0, 1) := by decide +kernel
theorem dX9_knit_79 : decode cX9_knit 79 = .ok (.iconst 0, 1) := by decide +kernel
theorem dX9_knit_80 : decode cX9_knit 80 = .ok (.iload_n 2, 1) := by decide +kernel
theorem dX9_knit_81 : decode cX9_knit 81 = .ok (.invokevirtual 164, 3) := by decide +kernel
theorem dX9_knit_84 : decode cX9_knit 84 = .ok (.return_, 1) := by decide +kernel
theorem dX9_knit_85 : decode cX9_knit 85 = .ok (.aload_n 0, 1) := by decide +kernel
theorem dX9_knit_86 : decode cX9_knit 86 = .ok (.dup, 1) := by decide +kernel
theorem dX9_knit_87 : decode cX9_knit 87 = .ok (.getfield 107, 3) := by decide +kernel
theorem dX9_knit_90 : decode cX9_knit 90 = .ok (.iconst 2, 1) := by decide +kernel
theorem dX9_knit_91 : decode cX9_knit 91 = .ok (.iadd, 1) := by decide +kernel
theorem dX9_knit_92 : decode cX9_knit 92 = .ok (.putfield 107, 3) := by decide +kernel
theorem dX9_knit_95 : decode cX9_knit 95 = .ok (.aload_n 0, 1) := by decide +kernel
theorem dX9_knit_96 : decode cX9_knit 96 = .ok (.bipush 111, 2) := by decide +kernel
theorem dX9_knit_98 : decode cX9_knit 98 = .ok (.invokevirtual 155, 3) := by decide +kernel
theorem dX9_knit_101 : decode cX9_knit 101 = .ok (.aload_n 0, 1) := by decide +kernel
theorem dX9_knit_102 : decode cX9_knit 102 = .ok (.bipush 103, 2) := by decide +kernel
theorem dX9_knit_104 : decode cX9_knit 104 = .ok (.invokevirtual 155, 3) := by decide +kernel
theorem dX9_knit_107 : decode cX9_knit 107 = .ok (.aload_n 0, 1) := by decide +kernel
theorem dX9_knit_108 : decode cX9_knit 108 = .ok (.iload_n 1, 1) := by decide +kernel
theorem dX9_knit_109 : decode cX9_knit 109 = .ok (.bipush 50, 2) := by decide +kernel
theorem dX9_knit_111 : decode cX9_knit 111 = .ok (.if_icmp .ne 7, 3) := by decide +kernel
theorem dX9_knit_114 : decode cX9_knit 114 = .ok (.iconst 3, 1) := by decide +kernel
theorem dX9_knit_115 : decode cX9_knit 115 = .ok (.goto 4, 3) := by decide +kernel
theorem dX9_knit_118 : decode cX9_knit 118 = .ok (.iconst 5, 1) := by decide +kernel
theorem dX9_knit_119 : decode cX9_knit 119 = .ok (.iconst 1, 1) := by decide +kernel
theorem dX9_knit_120 : decode cX9_knit 120 = .ok (.iload_n 2, 1) := by decide +kernel
theorem dX9_knit_121 : decode cX9_knit 121 = .ok (.invokevirtual 134, 3) := by decide +kernel
theorem dX9_knit_124 : decode cX9_knit 124 = .ok (.return_, 1) := by decide +kernel
theorem dX9_cable_0 : decode cX9_cable 0 = .ok (.aload_n 0, 1) := by decide +kernel
theorem dX9_cable_1 : decode cX9_cable 1 = .ok (.invokevirtual 173, 3) := by decide +kernel
theorem dX9_cable_4 : decode cX9_cable 4 = .ok (.istore_n 2, 1) := by decide +kernel
theorem dX9_cable_5 : decode cX9_cable 5 = .ok (.aload_n 0, 1) := by decide +kernel
theorem dX9_cable_6 : decode cX9_cable 6 = .ok (.bipush 47, 2) := by decide +kernel
theorem dX9_cable_8 : decode cX9_cable 8 = .ok (.invokevirtual 155, 3) := by decide +kernel
theorem dX9_cable_11 : decode cX9_cable 11 = .ok (.aload_n 0, 1) := by decide +kernel
theorem dX9_cable_12 : decode cX9_cable 12 = .ok (.invokevirtual 173, 3) := by decide +kernel
theorem dX9_cable_15 : decode cX9_cable 15 = .ok (.istore_n 3, 1) := by decide +kernel
theorem dX9_cable_16 : decode cX9_cable 16 = .ok (.aload_n 0, 1) := by decide +kernel
theorem dX9_cable_17 : decode cX9_cable 17 = .ok (.getfield 114, 3) := by decide +kernel
theorem dX9_cable_20 : decode cX9_cable 20 = .ok (.ifCond .ne 26, 3) := by decide +kernel
theorem dX9_cable_23 : decode cX9_cable 23 = .ok (.aload_n 0, 1) := by decide +kernel
theorem dX9_cable_24 : decode cX9_cable 24 = .ok (.invokevirtual 110, 3) := by decide +kernel
theorem dX9_cable_27 : decode cX9_cable 27 = .ok (.bipush 102, 2) := by decide +kernel
theorem dX9_cable_29 : decode cX9_cable 29 = .ok (.if_icmp .eq 17, 3) := by decide +kernel
theorem dX9_cable_32 : decode cX9_cable 32 = .ok (.aload_n 0, 1) := by decide +kernel
theorem dX9_cable_33 : decode cX9_cable 33 = .ok (.invokevirtual 110, 3) := by decide +kernel
theorem dX9_cable_36 : decode cX9_cable 36 = .ok (.bipush 98, 2) := by decide +kernel
theorem dX9_cable_38 : decode cX9_cable 38 = .ok (.if_icmp .eq 8, 3) := by decide +kernel
theorem dX9_cable_41 : decode cX9_cable 41 = .ok (.aload_n 0, 1) := by decide +kernel
theorem dX9_cable_42 : decode cX9_cable 42 = .ok (.iconst 1, 1) := by decide +kernel
theorem dX9_cable_43 : decode cX9_cable 43 = .ok (.invokevirtual 120, 3) := by decide +kernel
theorem dX9_cable_46 : decode cX9_cable 46 = .ok (.aload_n 0, 1) := by decide +kernel
theorem dX9_cable_47 : decode cX9_cable 47 = .ok (.getfield 114, 3) := by decide +kernel
theorem dX9_cable_50 : decode cX9_cable 50 = .ok (.ifCond .le 4, 3) := by decide +kernel
theorem dX9_cable_53 : decode cX9_cable 53 = .ok (.return_, 1) := by decide +kernel
theorem dX9_cable_54 : decode cX9_cable 54 = .ok (.aload_n 0, 1) := by decide +kernel
theorem dX9_cable_55 : decode cX9_cable 55 = .ok (.aload_n 0, 1) := by decide +kernel
theorem dX9_cable_56 : decode cX9_cable 56 = .ok (.invokevirtual 110, 3) := by decide +kernel
theorem dX9_cable_59 : decode cX9_cable 59 = .ok (.bipush 102, 2) := by decide +kernel
theorem dX9_cable_61 : decode cX9_cable 61 = .ok (.if_icmp .ne 8, 3) := by decide +kernel
theorem dX9_cable_64 : decode cX9_cable 64 = .ok (.bipush 10, 2) := by decide +kernel
theorem dX9_cable_66 : decode cX9_cable 66 = .ok (.goto 5, 3) := by decide +kernel
theorem dX9_cable_69 : decode cX9_cable 69 = .ok (.bipush 11, 2) := by decide +kernel
theorem dX9_cable_71 : decode cX9_cable 71 = .ok (.bipush 100, 2) := by decide +kernel
theorem dX9_cable_73 : decode cX9_cable 73 = .ok (.iload_n 2, 1) := by decide +kernel
theorem dX9_cable_74 : decode cX9_cable 74 = .ok (.imul, 1) := by decide +kernel
theorem dX9_cable_75 : decode cX9_cable 75 = .ok (.iadd, 1) := by decide +kernel
theorem dX9_cable_76 : decode cX9_cable 76 = .ok (.bipush 10, 2) := by decide +kernel
theorem dX9_cable_78 : decode cX9_cable 78 = .ok (.iload_n 3, 1) := by decide +kernel
theorem dX9_cable_79 : decode cX9_cable 79 = .ok (.imul, 1) := by decide +kernel
theorem dX9_cable_80 : decode cX9_cable 80 = .ok (.iadd, 1) := by decide +kernel
theorem dX9_cable_81 : decode cX9_cable 81 = .ok (.iconst 1, 1) := by decide +kernel
theorem dX9_cable_82 : decode cX9_cable 82 = .ok (.iload_n 1, 1) := by decide +kernel
theorem dX9_cable_83 : decode cX9_cable 83 = .ok (.invokevirtual 134, 3) := by decide +kernel
theorem dX9_cable_86 : decode cX9_cable 86 = .ok (.aload_n 0, 1) := by decide +kernel
theorem dX9_cable_87 : decode cX9_cable 87 = .ok (.dup, 1) := by decide +kernel
theorem dX9_cable_88 : decode cX9_cable 88 = .ok (.getfield 107, 3) := by decide +kernel
theorem dX9_cable_91 : decode cX9_cable 91 = .ok (.iconst 1, 1) := by decide +kernel
theorem dX9_cable_92 : decode cX9_cable 92 = .ok (.iadd, 1) := by decide +kernel
theorem dX9_cable_93 : decode cX9_cable 93 = .ok (.putfield 107, 3) := by decide +kernel
theorem dX9_cable_96 : decode cX9_cable 96 = .ok (.return_, 1) := by decide +kernel
theorem dX9_side_0 : decode cX9_side 0 = .ok (.aload_n 0, 1) := by decide +kernel
theorem dX9_side_1 : decode cX9_side 1 = .ok (.getfield 114, 3) := by decide +kernel
theorem dX9_side_4 : decode cX9_side 4 = .ok (.ifCond .le 5, 3) := by decide +kernel
theorem dX9_side_7 : decode cX9_side 7 = .ok (.iconst 0, 1) := by decide +kernel
theorem dX9_side_8 : decode cX9_side 8 = .ok (.ireturn, 1) := by decide +kernel
theorem dX9_side_9 : decode cX9_side 9 = .ok (.aload_n 0, 1) := by decide +kernel
theorem dX9_side_10 : decode cX9_side 10 = .ok (.invokevirtual 110, 3) := by decide +kernel
theorem dX9_side_13 : decode cX9_side 13 = .ok (.bipush 49, 2) := by decide +kernel
theorem dX9_side_15 : decode cX9_side 15 = .ok (.if_icmp .lt 12, 3) := by decide +kernel
theorem dX9_side_18 : decode cX9_side 18 = .ok (.aload_n 0, 1) := by decide +kernel
theorem dX9_side_19 : decode cX9_side 19 = .ok (.invokevirtual 110, 3) := by decide +kernel
theorem dX9_side_22 : decode cX9_side 22 = .ok (.bipush 53, 2) := by decide +kernel
theorem dX9_side_24 : decode cX9_side 24 = .ok (.if_icmp .le 8, 3) := by decide +kernel
theorem dX9_side_27 : decode cX9_side 27 = .ok (.aload_n 0, 1) := by decide +kernel
theorem dX9_side_28 : decode cX9_side 28 = .ok (.iconst 1, 1) := by decide +kernel
theorem dX9_side_29 : decode cX9_side 29 = .ok (.invokevirtual 120, 3) := by decide +kernel
theorem dX9_side_32 : decode cX9_side 32 = .ok (.aload_n 0, 1) := by decide +kernel
theorem dX9_side_33 : decode cX9_side 33 = .ok (.getfield 114, 3) := by decide +kernel
theorem dX9_side_36 : decode cX9_side 36 = .ok (.ifCond .le 5, 3) := by decide +kernel
theorem dX9_side_39 : decode cX9_side 39 = .ok (.iconst 0, 1) := by decide +kernel
theorem dX9_side_40 : decode cX9_side 40 = .ok (.ireturn, 1) := by decide +kernel
theorem dX9_side_41 : decode cX9_side 41 = .ok (.aload_n 0, 1) := by decide +kernel
theorem dX9_side_42 : decode cX9_side 42 = .ok (.dup, 1) := by decide +kernel
theorem dX9_side_43 : decode cX9_side 43 = .ok (.getfield 107, 3) := by decide +kernel
theorem dX9_side_46 : decode cX9_side 46 = .ok (.iconst 1, 1) := by decide +kernel
theorem dX9_side_47 : decode cX9_side 47 = .ok (.iadd, 1) := by decide +kernel
theorem dX9_side_48 : decode cX9_side 48 = .ok (.putfield 107, 3) := by decide +kernel
theorem dX9_side_51 : decode cX9_side 51 = .ok (.aload_n 0, 1) := by decide +kernel
theorem dX9_side_52 : decode cX9_side 52 = .ok (.getfield 7, 3) := by decide +kernel
theorem dX9_side_55 : decode cX9_side 55 = .ok (.aload_n 0, 1) := by decide +kernel
theorem dX9_side_56 : decode cX9_side 56 = .ok (.getfield 107, 3) := by decide +kernel
theorem dX9_side_59 : decode cX9_side 59 = .ok (.iconst 1, 1) := by decide +kernel
theorem dX9_side_60 : decode cX9_side 60 = .ok (.isub, 1) := by decide +kernel
theorem dX9_side_61 : decode cX9_side 61 = .ok (.iaload, 1) := by decide +kernel
theorem dX9_side_62 : decode cX9_side 62 = .ok (.bipush 48, 2) := by decide +kernel
theorem dX9_side_64 : decode cX9_side 64 = .ok (.isub, 1) := by decide +kernel
theorem dX9_side_65 : decode cX9_side 65 = .ok (.ireturn, 1) := by decide +kernel
theorem dX9_a_0 : decode cX9_a 0 = .ok (.iload_n 0, 1) := by decide +kernel
theorem dX9_a_1 : decode cX9_a 1 = .ok (.bipush 10, 2) := by decide +kernel
theorem dX9_a_3 : decode cX9_a 3 = .ok (.isub, 1) := by decide +kernel
theorem dX9_a_4 : decode cX9_a 4 = .ok (.bipush 100, 2) := by decide +kernel
theorem dX9_a_6 : decode cX9_a 6 = .ok (.idiv, 1) := by decide +kernel
theorem dX9_a_7 : decode cX9_a 7 = .ok (.ireturn, 1) := by decide +kernel
theorem dX9_b_0 : decode cX9_b 0 = .ok (.iload_n 0, 1) := by decide +kernel
theorem dX9_b_1 : decode cX9_b 1 = .ok (.bipush 10, 2) := by decide +kernel
theorem dX9_b_3 : decode cX9_b 3 = .ok (.isub, 1) := by decide +kernel
theorem dX9_b_4 : decode cX9_b 4 = .ok (.bipush 10, 2) := by decide +kernel
theorem dX9_b_6 : decode cX9_b 6 = .ok (.idiv, 1) := by decide +kernel
theorem dX9_b_7 : decode cX9_b 7 = .ok (.bipush 10, 2) := by decide +kernel
theorem dX9_b_9 : decode cX9_b 9 = .ok (.irem, 1) := by decide +kernel
theorem dX9_b_10 : decode cX9_b 10 = .ok (.ireturn, 1) := by decide +kernel
theorem dX9_takes_0 : decode cX9_takes 0 = .ok (.iload_n 0, 1) := by decide +kernel
theorem dX9_takes_1 : decode cX9_takes 1 = .ok (.bipush 100, 2) := by decide +kernel
theorem dX9_takes_3 : decode cX9_takes 3 = .ok (.if_icmp .lt 13, 3) := by decide +kernel
theorem dX9_takes_6 : decode cX9_takes 6 = .ok (.iload_n 0, 1) := by decide +kernel
theorem dX9_takes_7 : decode cX9_takes 7 = .ok (.invokestatic 176, 3) := by decide +kernel
theorem dX9_takes_10 : decode cX9_takes 10 = .ok (.iload_n 0, 1) := by decide +kernel
theorem dX9_takes_11 : decode cX9_takes 11 = .ok (.invokestatic 179, 3) := by decide +kernel
theorem dX9_takes_14 : decode cX9_takes 14 = .ok (.iadd, 1) := by decide +kernel
theorem dX9_takes_15 : decode cX9_takes 15 = .ok (.ireturn, 1) := by decide +kernel
theorem dX9_takes_16 : decode cX9_takes 16 = .ok (.iload_n 0, 1) := by decide +kernel
theorem dX9_takes_17 : decode cX9_takes 17 = .ok (.bipush 7, 2) := by decide +kernel
theorem dX9_takes_19 : decode cX9_takes 19 = .ok (.if_icmp .eq 9, 3) := by decide +kernel
theorem dX9_takes_22 : decode cX9_takes 22 = .ok (.iload_n 0, 1) := by decide +kernel
theorem dX9_takes_23 : decode cX9_takes 23 = .ok (.bipush 9, 2) := by decide +kernel
theorem dX9_takes_25 : decode cX9_takes 25 = .ok (.if_icmp .ne 7, 3) := by decide +kernel
theorem dX9_takes_28 : decode cX9_takes 28 = .ok (.iconst 0, 1) := by decide +kernel
theorem dX9_takes_29 : decode cX9_takes 29 = .ok (.goto 27, 3) := by decide +kernel
theorem dX9_takes_32 : decode cX9_takes 32 = .ok (.iload_n 0, 1) := by decide +kernel
theorem dX9_takes_33 : decode cX9_takes 33 = .ok (.iconst 3, 1) := by decide +kernel
theorem dX9_takes_34 : decode cX9_takes 34 = .ok (.if_icmp .eq 8, 3) := by decide +kernel
theorem dX9_takes_37 : decode cX9_takes 37 = .ok (.iload_n 0, 1) := by decide +kernel
theorem dX9_takes_38 : decode cX9_takes 38 = .ok (.iconst 4, 1) := by decide +kernel
theorem dX9_takes_39 : decode cX9_takes 39 = .ok (.if_icmp .ne 7, 3) := by decide +kernel
theorem dX9_takes_42 : decode cX9_takes 42 = .ok (.iconst 2, 1) := by decide +kernel
theorem dX9_takes_43 : decode cX9_takes 43 = .ok (.goto 13, 3) := by decide +kernel
theorem dX9_takes_46 : decode cX9_takes 46 = .ok (.iload_n 0, 1) := by decide +kernel
theorem dX9_takes_47 : decode cX9_takes 47 = .ok (.iconst 5, 1) := by decide +kernel
theorem dX9_takes_48 : decode cX9_takes 48 = .ok (.if_icmp .ne 7, 3) := by decide +kernel
theorem dX9_takes_51 : decode cX9_takes 51 = .ok (.iconst 3, 1) := by decide +kernel
theorem dX9_takes_52 : decode cX9_takes 52 = .ok (.goto 4, 3) := by decide +kernel
theorem dX9_takes_55 : decode cX9_takes 55 = .ok (.iconst 1, 1) := by decide +kernel
theorem dX9_takes_56 : decode cX9_takes 56 = .ok (.ireturn, 1) := by decide +kernel
theorem dX9_makes_0 : decode cX9_makes 0 = .ok (.iload_n 0, 1) := by decide +kernel
theorem dX9_makes_1 : decode cX9_makes 1 = .ok (.bipush 100, 2) := by decide +kernel
theorem dX9_makes_3 : decode cX9_makes 3 = .ok (.if_icmp .lt 13, 3) := by decide +kernel
theorem dX9_makes_6 : decode cX9_makes 6 = .ok (.iload_n 0, 1) := by decide +kernel
theorem dX9_makes_7 : decode cX9_makes 7 = .ok (.invokestatic 176, 3) := by decide +kernel
theorem dX9_makes_10 : decode cX9_makes 10 = .ok (.iload_n 0, 1) := by decide +kernel
theorem dX9_makes_11 : decode cX9_makes 11 = .ok (.invokestatic 179, 3) := by decide +kernel
theorem dX9_makes_14 : decode cX9_makes 14 = .ok (.iadd, 1) := by decide +kernel
theorem dX9_makes_15 : decode cX9_makes 15 = .ok (.ireturn, 1) := by decide +kernel
theorem dX9_makes_16 : decode cX9_makes 16 = .ok (.iload_n 0, 1) := by decide +kernel
theorem dX9_makes_17 : decode cX9_makes 17 = .ok (.bipush 6, 2) := by decide +kernel
theorem dX9_makes_19 : decode cX9_makes 19 = .ok (.if_icmp .ne 7, 3) := by decide +kernel
theorem dX9_makes_22 : decode cX9_makes 22 = .ok (.iconst 2, 1) := by decide +kernel
theorem dX9_makes_23 : decode cX9_makes 23 = .ok (.goto 14, 3) := by decide +kernel
theorem dX9_makes_26 : decode cX9_makes 26 = .ok (.iload_n 0, 1) := by decide +kernel
theorem dX9_makes_27 : decode cX9_makes 27 = .ok (.bipush 8, 2) := by decide +kernel
theorem dX9_makes_29 : decode cX9_makes 29 = .ok (.if_icmp .ne 7, 3) := by decide +kernel
theorem dX9_makes_32 : decode cX9_makes 32 = .ok (.iconst 0, 1) := by decide +kernel
theorem dX9_makes_33 : decode cX9_makes 33 = .ok (.goto 4, 3) := by decide +kernel
theorem dX9_makes_36 : decode cX9_makes 36 = .ok (.iconst 1, 1) := by decide +kernel
theorem dX9_makes_37 : decode cX9_makes 37 = .ok (.ireturn, 1) := by decide +kernel
theorem dX9_taken_0 : decode cX9_taken 0 = .ok (.iconst 0, 1) := by decide +kernel
theorem dX9_taken_1 : decode cX9_taken 1 = .ok (.istore_n 3, 1) := by decide +kernel
theorem dX9_taken_2 : decode cX9_taken 2 = .ok (.iconst 1, 1) := by decide +kernel
theorem dX9_taken_3 : decode cX9_taken 3 = .ok (.istore 4, 2) := by decide +kernel
theorem dX9_taken_5 : decode cX9_taken 5 = .ok (.iload_n 1, 1) := by decide +kernel
theorem dX9_taken_6 : decode cX9_taken 6 = .ok (.istore 5, 2) := by decide +kernel
theorem dX9_taken_8 : decode cX9_taken 8 = .ok (.iload 5, 2) := by decide +kernel
theorem dX9_taken_10 : decode cX9_taken 10 = .ok (.iload_n 2, 1) := by decide +kernel
theorem dX9_taken_11 : decode cX9_taken 11 = .ok (.if_icmp .ge 92, 3) := by decide +kernel
theorem dX9_taken_14 : decode cX9_taken 14 = .ok (.aload_n 0, 1) := by decide +kernel
theorem dX9_taken_15 : decode cX9_taken 15 = .ok (.getfield 38, 3) := by decide +kernel
theorem dX9_taken_18 : decode cX9_taken 18 = .ok (.iload 5, 2) := by decide +kernel
theorem dX9_taken_20 : decode cX9_taken 20 = .ok (.iaload, 1) := by decide +kernel
theorem dX9_taken_21 : decode cX9_taken 21 = .ok (.bipush 20, 2) := by decide +kernel
theorem dX9_taken_23 : decode cX9_taken 23 = .ok (.if_icmp .ne 18, 3) := by decide +kernel
theorem dX9_taken_26 : decode cX9_taken 26 = .ok (.iload 4, 2) := by decide +kernel
theorem dX9_taken_28 : decode cX9_taken 28 = .ok (.aload_n 0, 1) := by decide +kernel
theorem dX9_taken_29 : decode cX9_taken 29 = .ok (.getfield 41, 3) := by decide +kernel
theorem dX9_taken_32 : decode cX9_taken 32 = .ok (.iload 5, 2) := by decide +kernel
theorem dX9_taken_34 : decode cX9_taken 34 = .ok (.iaload, 1) := by decide +kernel
theorem dX9_taken_35 : decode cX9_taken 35 = .ok (.imul, 1) := by decide +kernel
theorem dX9_taken_36 : decode cX9_taken 36 = .ok (.istore 4, 2) := by decide +kernel
theorem dX9_taken_38 : decode cX9_taken 38 = .ok (.goto 59, 3) := by decide +kernel
theorem dX9_taken_41 : decode cX9_taken 41 = .ok (.aload_n 0, 1) := by decide +kernel
theorem dX9_taken_42 : decode cX9_taken 42 = .ok (.getfield 38, 3) := by decide +kernel
theorem dX9_taken_45 : decode cX9_taken 45 = .ok (.iload 5, 2) := by decide +kernel
theorem dX9_taken_47 : decode cX9_taken 47 = .ok (.iaload, 1) := by decide +kernel
theorem dX9_taken_48 : decode cX9_taken 48 = .ok (.bipush 21, 2) := by decide +kernel
theorem dX9_taken_50 : decode cX9_taken 50 = .ok (.if_icmp .ne 23, 3) := by decide +kernel
theorem dX9_taken_53 : decode cX9_taken 53 = .ok (.iload 4, 2) := by decide +kernel
theorem dX9_taken_55 : decode cX9_taken 55 = .ok (.aload_n 0, 1) := by decide +kernel
theorem dX9_taken_56 : decode cX9_taken 56 = .ok (.getfield 41, 3) := by decide +kernel
theorem dX9_taken_59 : decode cX9_taken 59 = .ok (.aload_n 0, 1) := by decide +kernel
theorem dX9_taken_60 : decode cX9_taken 60 = .ok (.getfield 47, 3) := by decide +kernel
theorem dX9_taken_63 : decode cX9_taken 63 = .ok (.iload 5, 2) := by decide +kernel
theorem dX9_taken_65 : decode cX9_taken 65 = .ok (.iaload, 1) := by decide +kernel
theorem dX9_taken_66 : decode cX9_taken 66 = .ok (.iaload, 1) := by decide +kernel
theorem dX9_taken_67 : decode cX9_taken 67 = .ok (.idiv, 1) := by decide +kernel
theorem dX9_taken_68 : decode cX9_taken 68 = .ok (.istore 4, 2) := by decide +kernel
theorem dX9_taken_70 : decode cX9_taken 70 = .ok (.goto 27, 3) := by decide +kernel
theorem dX9_taken_73 : decode cX9_taken 73 = .ok (.iload_n 3, 1) := by decide +kernel
theorem dX9_taken_74 : decode cX9_taken 74 = .ok (.iload 4, 2) := by decide +kernel
theorem dX9_taken_76 : decode cX9_taken 76 = .ok (.aload_n 0, 1) := by decide +kernel
theorem dX9_taken_77 : decode cX9_taken 77 = .ok (.getfield 41, 3) := by decide +kernel
theorem dX9_taken_80 : decode cX9_taken 80 = .ok (.iload 5, 2) := by decide +kernel
theorem dX9_taken_82 : decode cX9_taken 82 = .ok (.iaload, 1) := by decide +kernel
theorem dX9_taken_83 : decode cX9_taken 83 = .ok (.imul, 1) := by decide +kernel
theorem dX9_taken_84 : decode cX9_taken 84 = .ok (.aload_n 0, 1) := by decide +kernel
theorem dX9_taken_85 : decode cX9_taken 85 = .ok (.getfield 38, 3) := by decide +kernel
theorem dX9_taken_88 : decode cX9_taken 88 = .ok (.iload 5, 2) := by decide +kernel
theorem dX9_taken_90 : decode cX9_taken 90 = .ok (.iaload, 1) := by decide +kernel
theorem dX9_taken_91 : decode cX9_taken 91 = .ok (.invokestatic 182, 3) := by decide +kernel
theorem dX9_taken_94 : decode cX9_taken 94 = .ok (.imul, 1) := by decide +kernel
theorem dX9_taken_95 : decode cX9_taken 95 = .ok (.iadd, 1) := by decide +kernel
theorem dX9_taken_96 : decode cX9_taken 96 = .ok (.istore_n 3, 1) := by decide +kernel
theorem dX9_taken_97 : decode cX9_taken 97 = .ok (.iinc 5 1, 3) := by decide +kernel
theorem dX9_taken_100 : decode cX9_taken 100 = .ok (.goto (-92), 3) := by decide +kernel
theorem dX9_taken_103 : decode cX9_taken 103 = .ok (.iload_n 3, 1) := by decide +kernel
theorem dX9_taken_104 : decode cX9_taken 104 = .ok (.ireturn, 1) := by decide +kernel
theorem dX9_stops_0 : decode cX9_stops 0 = .ok (.aload_n 0, 1) := by decide +kernel
theorem dX9_stops_1 : decode cX9_stops 1 = .ok (.getfield 114, 3) := by decide +kernel
theorem dX9_stops_4 : decode cX9_stops 4 = .ok (.ifCond .le 4, 3) := by decide +kernel
theorem dX9_stops_7 : decode cX9_stops 7 = .ok (.return_, 1) := by decide +kernel
theorem dX9_stops_8 : decode cX9_stops 8 = .ok (.aload_n 0, 1) := by decide +kernel
theorem dX9_stops_9 : decode cX9_stops 9 = .ok (.iload_n 1, 1) := by decide +kernel
theorem dX9_stops_10 : decode cX9_stops 10 = .ok (.putfield 114, 3) := by decide +kernel
theorem dX9_stops_13 : decode cX9_stops 13 = .ok (.aload_n 0, 1) := by decide +kernel
theorem dX9_stops_14 : decode cX9_stops 14 = .ok (.iload_n 2, 1) := by decide +kernel
theorem dX9_stops_15 : decode cX9_stops 15 = .ok (.putfield 117, 3) := by decide +kernel
theorem dX9_stops_18 : decode cX9_stops 18 = .ok (.return_, 1) := by decide +kernel
theorem dX9_flatten_0 : decode cX9_flatten 0 = .ok (.aload_n 0, 1) := by decide +kernel
theorem dX9_flatten_1 : decode cX9_flatten 1 = .ok (.iconst 0, 1) := by decide +kernel
theorem dX9_flatten_2 : decode cX9_flatten 2 = .ok (.putfield 185, 3) := by decide +kernel
theorem dX9_flatten_5 : decode cX9_flatten 5 = .ok (.iload_n 1, 1) := by decide +kernel
theorem dX9_flatten_6 : decode cX9_flatten 6 = .ok (.istore_n 2, 1) := by decide +kernel
theorem dX9_flatten_7 : decode cX9_flatten 7 = .ok (.iconst 0, 1) := by decide +kernel
theorem dX9_flatten_8 : decode cX9_flatten 8 = .ok (.istore_n 3, 1) := by decide +kernel
theorem dX9_flatten_9 : decode cX9_flatten 9 = .ok (.iconst 0, 1) := by decide +kernel
theorem dX9_flatten_10 : decode cX9_flatten 10 = .ok (.istore 4, 2) := by decide +kernel
theorem dX9_flatten_12 : decode cX9_flatten 12 = .ok (.iload 4, 2) := by decide +kernel
theorem dX9_flatten_14 : decode cX9_flatten 14 = .ok (.aload_n 0, 1) := by decide +kernel
theorem dX9_flatten_15 : decode cX9_flatten 15 = .ok (.getfield 123, 3) := by decide +kernel
theorem dX9_flatten_18 : decode cX9_flatten 18 = .ok (.if_icmp .ge 388, 3) := by decide +kernel
theorem dX9_flatten_21 : decode cX9_flatten 21 = .ok (.aload_n 0, 1) := by decide +kernel
theorem dX9_flatten_22 : decode cX9_flatten 22 = .ok (.getfield 114, 3) := by decide +kernel
theorem dX9_flatten_25 : decode cX9_flatten 25 = .ok (.ifCond .ne 381, 3) := by decide +kernel
theorem dX9_flatten_28 : decode cX9_flatten 28 = .ok (.aload_n 0, 1) := by decide +kernel
theorem dX9_flatten_29 : decode cX9_flatten 29 = .ok (.getfield 38, 3) := by decide +kernel
theorem dX9_flatten_32 : decode cX9_flatten 32 = .ok (.iload 4, 2) := by decide +kernel
theorem dX9_flatten_34 : decode cX9_flatten 34 = .ok (.iaload, 1) := by decide +kernel
theorem dX9_flatten_35 : decode cX9_flatten 35 = .ok (.istore 5, 2) := by decide +kernel
theorem dX9_flatten_37 : decode cX9_flatten 37 = .ok (.iload 5, 2) := by decide +kernel
theorem dX9_flatten_39 : decode cX9_flatten 39 = .ok (.bipush 22, 2) := by decide +kernel
theorem dX9_flatten_41 : decode cX9_flatten 41 = .ok (.if_icmp .ne 124, 3) := by decide +kernel
theorem dX9_flatten_44 : decode cX9_flatten 44 = .ok (.aload_n 0, 1) := by decide +kernel
theorem dX9_flatten_45 : decode cX9_flatten 45 = .ok (.iload 4, 2) := by decide +kernel
theorem dX9_flatten_47 : decode cX9_flatten 47 = .ok (.iconst 1, 1) := by decide +kernel
theorem dX9_flatten_48 : decode cX9_flatten 48 = .ok (.iadd, 1) := by decide +kernel
theorem dX9_flatten_49 : decode cX9_flatten 49 = .ok (.aload_n 0, 1) := by decide +kernel
theorem dX9_flatten_50 : decode cX9_flatten 50 = .ok (.getfield 47, 3) := by decide +kernel
theorem dX9_flatten_53 : decode cX9_flatten 53 = .ok (.iload 4, 2) := by decide +kernel
theorem dX9_flatten_55 : decode cX9_flatten 55 = .ok (.iaload, 1) := by decide +kernel
theorem dX9_flatten_56 : decode cX9_flatten 56 = .ok (.invokevirtual 188, 3) := by decide +kernel
theorem dX9_flatten_59 : decode cX9_flatten 59 = .ok (.istore 6, 2) := by decide +kernel
theorem dX9_flatten_61 : decode cX9_flatten 61 = .ok (.iload 6, 2) := by decide +kernel
theorem dX9_flatten_63 : decode cX9_flatten 63 = .ok (.ifCond .eq 29, 3) := by decide +kernel
theorem dX9_flatten_66 : decode cX9_flatten 66 = .ok (.iload_n 2, 1) := by decide +kernel
theorem dX9_flatten_67 : decode cX9_flatten 67 = .ok (.aload_n 0, 1) := by decide +kernel
theorem dX9_flatten_68 : decode cX9_flatten 68 = .ok (.getfield 41, 3) := by decide +kernel
theorem dX9_flatten_71 : decode cX9_flatten 71 = .ok (.iload 4, 2) := by decide +kernel
theorem dX9_flatten_73 : decode cX9_flatten 73 = .ok (.iaload, 1) := by decide +kernel
theorem dX9_flatten_74 : decode cX9_flatten 74 = .ok (.if_icmp .lt 18, 3) := by decide +kernel
theorem dX9_flatten_77 : decode cX9_flatten 77 = .ok (.iload_n 2, 1) := by decide +kernel
theorem dX9_flatten_78 : decode cX9_flatten 78 = .ok (.aload_n 0, 1) := by decide +kernel
theorem dX9_flatten_79 : decode cX9_flatten 79 = .ok (.getfield 41, 3) := by decide +kernel
theorem dX9_flatten_82 : decode cX9_flatten 82 = .ok (.iload 4, 2) := by decide +kernel
theorem dX9_flatten_84 : decode cX9_flatten 84 = .ok (.iaload, 1) := by decide +kernel
theorem dX9_flatten_85 : decode cX9_flatten 85 = .ok (.isub, 1) := by decide +kernel
theorem dX9_flatten_86 : decode cX9_flatten 86 = .ok (.iload 6, 2) := by decide +kernel
theorem dX9_flatten_88 : decode cX9_flatten 88 = .ok (.irem, 1) := by decide +kernel
theorem dX9_flatten_89 : decode cX9_flatten 89 = .ok (.ifCond .eq 15, 3) := by decide +kernel
theorem dX9_flatten_92 : decode cX9_flatten 92 = .ok (.aload_n 0, 1) := by decide +kernel
theorem dX9_flatten_93 : decode cX9_flatten 93 = .ok (.iconst 3, 1) := by decide +kernel
theorem dX9_flatten_94 : decode cX9_flatten 94 = .ok (.aload_n 0, 1) := by decide +kernel
theorem dX9_flatten_95 : decode cX9_flatten 95 = .ok (.getfield 44, 3) := by decide +kernel
theorem dX9_flatten_98 : decode cX9_flatten 98 = .ok (.iload 4, 2) := by decide +kernel
theorem dX9_flatten_100 : decode cX9_flatten 100 = .ok (.iaload, 1) := by decide +kernel
theorem dX9_flatten_101 : decode cX9_flatten 101 = .ok (.invokevirtual 192, 3) := by decide +kernel
theorem dX9_flatten_104 : decode cX9_flatten 104 = .ok (.aload_n 0, 1) := by decide +kernel
theorem dX9_flatten_105 : decode cX9_flatten 105 = .ok (.getfield 65, 3) := by decide +kernel
theorem dX9_flatten_108 : decode cX9_flatten 108 = .ok (.iload 4, 2) := by decide +kernel
theorem dX9_flatten_110 : decode cX9_flatten 110 = .ok (.aload_n 0, 1) := by decide +kernel
theorem dX9_flatten_111 : decode cX9_flatten 111 = .ok (.getfield 114, 3) := by decide +kernel
theorem dX9_flatten_114 : decode cX9_flatten 114 = .ok (.ifCond .le 7, 3) := by decide +kernel
theorem dX9_flatten_117 : decode cX9_flatten 117 = .ok (.iconst 0, 1) := by decide +kernel
theorem dX9_flatten_118 : decode cX9_flatten 118 = .ok (.goto 15, 3) := by decide +kernel
theorem dX9_flatten_121 : decode cX9_flatten 121 = .ok (.iload_n 2, 1) := by decide +kernel
theorem dX9_flatten_122 : decode cX9_flatten 122 = .ok (.aload_n 0, 1) := by decide +kernel
theorem dX9_flatten_123 : decode cX9_flatten 123 = .ok (.getfield 41, 3) := by decide +kernel
theorem dX9_flatten_126 : decode cX9_flatten 126 = .ok (.iload 4, 2) := by decide +kernel
theorem dX9_flatten_128 : decode cX9_flatten 128 = .ok (.iaload, 1) := by decide +kernel
theorem dX9_flatten_129 : decode cX9_flatten 129 = .ok (.isub, 1) := by decide +kernel
theorem dX9_flatten_130 : decode cX9_flatten 130 = .ok (.iload 6, 2) := by decide +kernel
theorem dX9_flatten_132 : decode cX9_flatten 132 = .ok (.idiv, 1) := by decide +kernel
theorem dX9_flatten_133 : decode cX9_flatten 133 = .ok (.iastore, 1) := by decide +kernel
theorem dX9_flatten_134 : decode cX9_flatten 134 = .ok (.aload_n 0, 1) := by decide +kernel
theorem dX9_flatten_135 : decode cX9_flatten 135 = .ok (.getfield 65, 3) := by decide +kernel
theorem dX9_flatten_138 : decode cX9_flatten 138 = .ok (.iload 4, 2) := by decide +kernel
theorem dX9_flatten_140 : decode cX9_flatten 140 = .ok (.iaload, 1) := by decide +kernel
theorem dX9_flatten_141 : decode cX9_flatten 141 = .ok (.ifCond .ne 15, 3) := by decide +kernel
theorem dX9_flatten_144 : decode cX9_flatten 144 = .ok (.aload_n 0, 1) := by decide +kernel
theorem dX9_flatten_145 : decode cX9_flatten 145 = .ok (.getfield 47, 3) := by decide +kernel
theorem dX9_flatten_148 : decode cX9_flatten 148 = .ok (.iload 4, 2) := by decide +kernel
theorem dX9_flatten_150 : decode cX9_flatten 150 = .ok (.iaload, 1) := by decide +kernel
theorem dX9_flatten_151 : decode cX9_flatten 151 = .ok (.iconst 1, 1) := by decide +kernel
theorem dX9_flatten_152 : decode cX9_flatten 152 = .ok (.iadd, 1) := by decide +kernel
theorem dX9_flatten_153 : decode cX9_flatten 153 = .ok (.goto 7, 3) := by decide +kernel
theorem dX9_flatten_156 : decode cX9_flatten 156 = .ok (.iload 4, 2) := by decide +kernel
theorem dX9_flatten_158 : decode cX9_flatten 158 = .ok (.iconst 1, 1) := by decide +kernel
theorem dX9_flatten_159 : decode cX9_flatten 159 = .ok (.iadd, 1) := by decide +kernel
theorem dX9_flatten_160 : decode cX9_flatten 160 = .ok (.istore 4, 2) := by decide +kernel
theorem dX9_flatten_162 : decode cX9_flatten 162 = .ok (.goto 241, 3) := by decide +kernel
theorem dX9_flatten_165 : decode cX9_flatten 165 = .ok (.iload 5, 2) := by decide +kernel
theorem dX9_flatten_167 : decode cX9_flatten 167 = .ok (.bipush 20, 2) := by decide +kernel
theorem dX9_flatten_169 : decode cX9_flatten 169 = .ok (.if_icmp .ne 23, 3) := by decide +kernel
theorem dX9_flatten_172 : decode cX9_flatten 172 = .ok (.aload_n 0, 1) := by decide +kernel
theorem dX9_flatten_173 : decode cX9_flatten 173 = .ok (.getfield 65, 3) := by decide +kernel
theorem dX9_flatten_176 : decode cX9_flatten 176 = .ok (.iload 4, 2) := by decide +kernel
theorem dX9_flatten_178 : decode cX9_flatten 178 = .ok (.aload_n 0, 1) := by decide +kernel
theorem dX9_flatten_179 : decode cX9_flatten 179 = .ok (.getfield 41, 3) := by decide +kernel
theorem dX9_flatten_182 : decode cX9_flatten 182 = .ok (.iload 4, 2) := by decide +kernel
theorem dX9_flatten_184 : decode cX9_flatten 184 = .ok (.iaload, 1) := by decide +kernel
theorem dX9_flatten_185 : decode cX9_flatten 185 = .ok (.iastore, 1) := by decide +kernel
theorem dX9_flatten_186 : decode cX9_flatten 186 = .ok (.iinc 4 1, 3) := by decide +kernel
theorem dX9_flatten_189 : decode cX9_flatten 189 = .ok (.goto 214, 3) := by decide +kernel
theorem dX9_flatten_192 : decode cX9_flatten 192 = .ok (.iload 5, 2) := by decide +kernel
theorem dX9_flatten_194 : decode cX9_flatten 194 = .ok (.bipush 21, 2) := by decide +kernel
theorem dX9_flatten_196 : decode cX9_flatten 196 = .ok (.if_icmp .ne 55, 3) := by decide +kernel
theorem dX9_flatten_199 : decode cX9_flatten 199 = .ok (.aload_n 0, 1) := by decide +kernel
theorem dX9_flatten_200 : decode cX9_flatten 200 = .ok (.getfield 65, 3) := by decide +kernel
theorem dX9_flatten_203 : decode cX9_flatten 203 = .ok (.aload_n 0, 1) := by decide +kernel
theorem dX9_flatten_204 : decode cX9_flatten 204 = .ok (.getfield 47, 3) := by decide +kernel
theorem dX9_flatten_207 : decode cX9_flatten 207 = .ok (.iload 4, 2) := by decide +kernel
theorem dX9_flatten_209 : decode cX9_flatten 209 = .ok (.iaload, 1) := by decide +kernel
theorem dX9_flatten_210 : decode cX9_flatten 210 = .ok (.dup2, 1) := by decide +kernel
theorem dX9_flatten_211 : decode cX9_flatten 211 = .ok (.iaload, 1) := by decide +kernel
theorem dX9_flatten_212 : decode cX9_flatten 212 = .ok (.iconst 1, 1) := by decide +kernel
theorem dX9_flatten_213 : decode cX9_flatten 213 = .ok (.isub, 1) := by decide +kernel
theorem dX9_flatten_214 : decode cX9_flatten 214 = .ok (.iastore, 1) := by decide +kernel
theorem dX9_flatten_215 : decode cX9_flatten 215 = .ok (.aload_n 0, 1) := by decide +kernel
theorem dX9_flatten_216 : decode cX9_flatten 216 = .ok (.getfield 65, 3) := by decide +kernel
theorem dX9_flatten_219 : decode cX9_flatten 219 = .ok (.aload_n 0, 1) := by decide +kernel
theorem dX9_flatten_220 : decode cX9_flatten 220 = .ok (.getfield 47, 3) := by decide +kernel
theorem dX9_flatten_223 : decode cX9_flatten 223 = .ok (.iload 4, 2) := by decide +kernel
theorem dX9_flatten_225 : decode cX9_flatten 225 = .ok (.iaload, 1) := by decide +kernel
theorem dX9_flatten_226 : decode cX9_flatten 226 = .ok (.iaload, 1) := by decide +kernel
theorem dX9_flatten_227 : decode cX9_flatten 227 = .ok (.ifCond .le 15, 3) := by decide +kernel
theorem dX9_flatten_230 : decode cX9_flatten 230 = .ok (.aload_n 0, 1) := by decide +kernel
theorem dX9_flatten_231 : decode cX9_flatten 231 = .ok (.getfield 47, 3) := by decide +kernel
theorem dX9_flatten_234 : decode cX9_flatten 234 = .ok (.iload 4, 2) := by decide +kernel
theorem dX9_flatten_236 : decode cX9_flatten 236 = .ok (.iaload, 1) := by decide +kernel
theorem dX9_flatten_237 : decode cX9_flatten 237 = .ok (.iconst 1, 1) := by decide +kernel
theorem dX9_flatten_238 : decode cX9_flatten 238 = .ok (.iadd, 1) := by decide +kernel
theorem dX9_flatten_239 : decode cX9_flatten 239 = .ok (.goto 7, 3) := by decide +kernel
theorem dX9_flatten_242 : decode cX9_flatten 242 = .ok (.iload 4, 2) := by decide +kernel
theorem dX9_flatten_244 : decode cX9_flatten 244 = .ok (.iconst 1, 1) := by decide +kernel
theorem dX9_flatten_245 : decode cX9_flatten 245 = .ok (.iadd, 1) := by decide +kernel
theorem dX9_flatten_246 : decode cX9_flatten 246 = .ok (.istore 4, 2) := by decide +kernel
theorem dX9_flatten_248 : decode cX9_flatten 248 = .ok (.goto 155, 3) := by decide +kernel
theorem dX9_flatten_251 : decode cX9_flatten 251 = .ok (.iconst 0, 1) := by decide +kernel
theorem dX9_flatten_252 : decode cX9_flatten 252 = .ok (.istore 6, 2) := by decide +kernel
theorem dX9_flatten_254 : decode cX9_flatten 254 = .ok (.iload 6, 2) := by decide +kernel
theorem dX9_flatten_256 : decode cX9_flatten 256 = .ok (.aload_n 0, 1) := by decide +kernel
theorem dX9_flatten_257 : decode cX9_flatten 257 = .ok (.getfield 41, 3) := by decide +kernel
theorem dX9_flatten_260 : decode cX9_flatten 260 = .ok (.iload 4, 2) := by decide +kernel
theorem dX9_flatten_262 : decode cX9_flatten 262 = .ok (.iaload, 1) := by decide +kernel
theorem dX9_flatten_263 : decode cX9_flatten 263 = .ok (.if_icmp .ge 137, 3) := by decide +kernel
theorem dX9_flatten_266 : decode cX9_flatten 266 = .ok (.aload_n 0, 1) := by decide +kernel
theorem dX9_flatten_267 : decode cX9_flatten 267 = .ok (.getfield 114, 3) := by decide +kernel
theorem dX9_flatten_270 : decode cX9_flatten 270 = .ok (.ifCond .ne 130, 3) := by decide +kernel
theorem dX9_flatten_273 : decode cX9_flatten 273 = .ok (.iload 5, 2) := by decide +kernel
theorem dX9_flatten_275 : decode cX9_flatten 275 = .ok (.invokestatic 182, 3) := by decide +kernel
theorem dX9_flatten_278 : decode cX9_flatten 278 = .ok (.iload_n 2, 1) := by decide +kernel
theorem dX9_flatten_279 : decode cX9_flatten 279 = .ok (.if_icmp .le 18, 3) := by decide +kernel
theorem dX9_flatten_282 : decode cX9_flatten 282 = .ok (.aload_n 0, 1) := by decide +kernel
theorem dX9_flatten_283 : decode cX9_flatten 283 = .ok (.iconst 4, 1) := by decide +kernel
theorem dX9_flatten_284 : decode cX9_flatten 284 = .ok (.aload_n 0, 1) := by decide +kernel
theorem dX9_flatten_285 : decode cX9_flatten 285 = .ok (.getfield 44, 3) := by decide +kernel
theorem dX9_flatten_288 : decode cX9_flatten 288 = .ok (.iload 4, 2) := by decide +kernel
theorem dX9_flatten_290 : decode cX9_flatten 290 = .ok (.iaload, 1) := by decide +kernel
theorem dX9_flatten_291 : decode cX9_flatten 291 = .ok (.invokevirtual 192, 3) := by decide +kernel
theorem dX9_flatten_294 : decode cX9_flatten 294 = .ok (.goto 63, 3) := by decide +kernel
theorem dX9_flatten_297 : decode cX9_flatten 297 = .ok (.iload 5, 2) := by decide +kernel
theorem dX9_flatten_299 : decode cX9_flatten 299 = .ok (.bipush 8, 2) := by decide +kernel
theorem dX9_flatten_301 : decode cX9_flatten 301 = .ok (.if_icmp .ne 25, 3) := by decide +kernel
theorem dX9_flatten_304 : decode cX9_flatten 304 = .ok (.iload_n 2, 1) := by decide +kernel
theorem dX9_flatten_305 : decode cX9_flatten 305 = .ok (.iload_n 3, 1) := by decide +kernel
theorem dX9_flatten_306 : decode cX9_flatten 306 = .ok (.iadd, 1) := by decide +kernel
theorem dX9_flatten_307 : decode cX9_flatten 307 = .ok (.iconst 1, 1) := by decide +kernel
theorem dX9_flatten_308 : decode cX9_flatten 308 = .ok (.if_icmp .ne 18, 3) := by decide +kernel
theorem dX9_flatten_311 : decode cX9_flatten 311 = .ok (.aload_n 0, 1) := by decide +kernel
theorem dX9_flatten_312 : decode cX9_flatten 312 = .ok (.iconst 5, 1) := by decide +kernel
theorem dX9_flatten_313 : decode cX9_flatten 313 = .ok (.aload_n 0, 1) := by decide +kernel
theorem dX9_flatten_314 : decode cX9_flatten 314 = .ok (.getfield 44, 3) := by decide +kernel
theorem dX9_flatten_317 : decode cX9_flatten 317 = .ok (.iload 4, 2) := by decide +kernel
theorem dX9_flatten_319 : decode cX9_flatten 319 = .ok (.iaload, 1) := by decide +kernel
theorem dX9_flatten_320 : decode cX9_flatten 320 = .ok (.invokevirtual 192, 3) := by decide +kernel
theorem dX9_flatten_323 : decode cX9_flatten 323 = .ok (.goto 34, 3) := by decide +kernel
theorem dX9_flatten_326 : decode cX9_flatten 326 = .ok (.aload_n 0, 1) := by decide +kernel
theorem dX9_flatten_327 : decode cX9_flatten 327 = .ok (.getfield 83, 3) := by decide +kernel
theorem dX9_flatten_330 : decode cX9_flatten 330 = .ok (.iload_n 3, 1) := by decide +kernel
theorem dX9_flatten_331 : decode cX9_flatten 331 = .ok (.iadd, 1) := by decide +kernel
theorem dX9_flatten_332 : decode cX9_flatten 332 = .ok (.iload 5, 2) := by decide +kernel
theorem dX9_flatten_334 : decode cX9_flatten 334 = .ok (.invokestatic 195, 3) := by decide +kernel
theorem dX9_flatten_337 : decode cX9_flatten 337 = .ok (.iadd, 1) := by decide +kernel
theorem dX9_flatten_338 : decode cX9_flatten 338 = .ok (.sipush 600, 3) := by decide +kernel
theorem dX9_flatten_341 : decode cX9_flatten 341 = .ok (.if_icmp .le 16, 3) := by decide +kernel
theorem dX9_flatten_344 : decode cX9_flatten 344 = .ok (.aload_n 0, 1) := by decide +kernel
theorem dX9_flatten_345 : decode cX9_flatten 345 = .ok (.bipush 6, 2) := by decide +kernel
theorem dX9_flatten_347 : decode cX9_flatten 347 = .ok (.aload_n 0, 1) := by decide +kernel
theorem dX9_flatten_348 : decode cX9_flatten 348 = .ok (.getfield 44, 3) := by decide +kernel
theorem dX9_flatten_351 : decode cX9_flatten 351 = .ok (.iload 4, 2) := by decide +kernel
theorem dX9_flatten_353 : decode cX9_flatten 353 = .ok (.iaload, 1) := by decide +kernel
theorem dX9_flatten_354 : decode cX9_flatten 354 = .ok (.invokevirtual 192, 3) := by decide +kernel
theorem dX9_flatten_357 : decode cX9_flatten 357 = .ok (.iload_n 2, 1) := by decide +kernel
theorem dX9_flatten_358 : decode cX9_flatten 358 = .ok (.iload 5, 2) := by decide +kernel
theorem dX9_flatten_360 : decode cX9_flatten 360 = .ok (.invokestatic 182, 3) := by decide +kernel
theorem dX9_flatten_363 : decode cX9_flatten 363 = .ok (.isub, 1) := by decide +kernel
theorem dX9_flatten_364 : decode cX9_flatten 364 = .ok (.istore_n 2, 1) := by decide +kernel
theorem dX9_flatten_365 : decode cX9_flatten 365 = .ok (.iload_n 3, 1) := by decide +kernel
theorem dX9_flatten_366 : decode cX9_flatten 366 = .ok (.iload 5, 2) := by decide +kernel
theorem dX9_flatten_368 : decode cX9_flatten 368 = .ok (.invokestatic 195, 3) := by decide +kernel
theorem dX9_flatten_371 : decode cX9_flatten 371 = .ok (.iadd, 1) := by decide +kernel
theorem dX9_flatten_372 : decode cX9_flatten 372 = .ok (.istore_n 3, 1) := by decide +kernel
theorem dX9_flatten_373 : decode cX9_flatten 373 = .ok (.aload_n 0, 1) := by decide +kernel
theorem dX9_flatten_374 : decode cX9_flatten 374 = .ok (.getfield 50, 3) := by decide +kernel
theorem dX9_flatten_377 : decode cX9_flatten 377 = .ok (.aload_n 0, 1) := by decide +kernel
theorem dX9_flatten_378 : decode cX9_flatten 378 = .ok (.getfield 185, 3) := by decide +kernel
theorem dX9_flatten_381 : decode cX9_flatten 381 = .ok (.iload 5, 2) := by decide +kernel
theorem dX9_flatten_383 : decode cX9_flatten 383 = .ok (.iastore, 1) := by decide +kernel
theorem dX9_flatten_384 : decode cX9_flatten 384 = .ok (.aload_n 0, 1) := by decide +kernel
theorem dX9_flatten_385 : decode cX9_flatten 385 = .ok (.dup, 1) := by decide +kernel
theorem dX9_flatten_386 : decode cX9_flatten 386 = .ok (.getfield 185, 3) := by decide +kernel
theorem dX9_flatten_389 : decode cX9_flatten 389 = .ok (.iconst 1, 1) := by decide +kernel
theorem dX9_flatten_390 : decode cX9_flatten 390 = .ok (.iadd, 1) := by decide +kernel
theorem dX9_flatten_391 : decode cX9_flatten 391 = .ok (.putfield 185, 3) := by decide +kernel
theorem dX9_flatten_394 : decode cX9_flatten 394 = .ok (.iinc 6 1, 3) := by decide +kernel
theorem dX9_flatten_397 : decode cX9_flatten 397 = .ok (.goto (-143), 3) := by decide +kernel
theorem dX9_flatten_400 : decode cX9_flatten 400 = .ok (.iinc 4 1, 3) := by decide +kernel
theorem dX9_flatten_403 : decode cX9_flatten 403 = .ok (.goto (-391), 3) := by decide +kernel
theorem dX9_flatten_406 : decode cX9_flatten 406 = .ok (.iload_n 2, 1) := by decide +kernel
theorem dX9_flatten_407 : decode cX9_flatten 407 = .ok (.ifCond .le 13, 3) := by decide +kernel
theorem dX9_flatten_410 : decode cX9_flatten 410 = .ok (.aload_n 0, 1) := by decide +kernel
theorem dX9_flatten_411 : decode cX9_flatten 411 = .ok (.bipush 7, 2) := by decide +kernel
theorem dX9_flatten_413 : decode cX9_flatten 413 = .ok (.aload_n 0, 1) := by decide +kernel
theorem dX9_flatten_414 : decode cX9_flatten 414 = .ok (.getfield 104, 3) := by decide +kernel
theorem dX9_flatten_417 : decode cX9_flatten 417 = .ok (.invokevirtual 192, 3) := by decide +kernel
theorem dX9_flatten_420 : decode cX9_flatten 420 = .ok (.iload_n 3, 1) := by decide +kernel
theorem dX9_flatten_421 : decode cX9_flatten 421 = .ok (.bipush 40, 2) := by decide +kernel
theorem dX9_flatten_423 : decode cX9_flatten 423 = .ok (.if_icmp .le 13, 3) := by decide +kernel
theorem dX9_flatten_426 : decode cX9_flatten 426 = .ok (.aload_n 0, 1) := by decide +kernel
theorem dX9_flatten_427 : decode cX9_flatten 427 = .ok (.bipush 8, 2) := by decide +kernel
theorem dX9_flatten_429 : decode cX9_flatten 429 = .ok (.aload_n 0, 1) := by decide +kernel
theorem dX9_flatten_430 : decode cX9_flatten 430 = .ok (.getfield 104, 3) := by decide +kernel
theorem dX9_flatten_433 : decode cX9_flatten 433 = .ok (.invokevirtual 192, 3) := by decide +kernel
theorem dX9_flatten_436 : decode cX9_flatten 436 = .ok (.aload_n 0, 1) := by decide +kernel
theorem dX9_flatten_437 : decode cX9_flatten 437 = .ok (.getfield 86, 3) := by decide +kernel
theorem dX9_flatten_440 : decode cX9_flatten 440 = .ok (.bipush 30, 2) := by decide +kernel
theorem dX9_flatten_442 : decode cX9_flatten 442 = .ok (.if_icmp .ne 13, 3) := by decide +kernel
theorem dX9_flatten_445 : decode cX9_flatten 445 = .ok (.aload_n 0, 1) := by decide +kernel
theorem dX9_flatten_446 : decode cX9_flatten 446 = .ok (.bipush 9, 2) := by decide +kernel
theorem dX9_flatten_448 : decode cX9_flatten 448 = .ok (.aload_n 0, 1) := by decide +kernel
theorem dX9_flatten_449 : decode cX9_flatten 449 = .ok (.getfield 104, 3) := by decide +kernel
theorem dX9_flatten_452 : decode cX9_flatten 452 = .ok (.invokevirtual 192, 3) := by decide +kernel
theorem dX9_flatten_455 : decode cX9_flatten 455 = .ok (.return_, 1) := by decide +kernel
theorem dX9_liveLoops_0 : decode cX9_liveLoops 0 = .ok (.aload_n 0, 1) := by decide +kernel
theorem dX9_liveLoops_1 : decode cX9_liveLoops 1 = .ok (.getfield 83, 3) := by decide +kernel
theorem dX9_liveLoops_4 : decode cX9_liveLoops 4 = .ok (.aload_n 0, 1) := by decide +kernel
theorem dX9_liveLoops_5 : decode cX9_liveLoops 5 = .ok (.getfield 29, 3) := by decide +kernel
theorem dX9_liveLoops_8 : decode cX9_liveLoops 8 = .ok (.aload_n 0, 1) := by decide +kernel
theorem dX9_liveLoops_9 : decode cX9_liveLoops 9 = .ok (.getfield 86, 3) := by decide +kernel
theorem dX9_liveLoops_12 : decode cX9_liveLoops 12 = .ok (.iaload, 1) := by decide +kernel
theorem dX9_liveLoops_13 : decode cX9_liveLoops 13 = .ok (.isub, 1) := by decide +kernel
theorem dX9_liveLoops_14 : decode cX9_liveLoops 14 = .ok (.ireturn, 1) := by decide +kernel
theorem dX9_needle_0 : decode cX9_needle 0 = .ok (.aload_n 0, 1) := by decide +kernel
theorem dX9_needle_1 : decode cX9_needle 1 = .ok (.getfield 79, 3) := by decide +kernel
theorem dX9_needle_4 : decode cX9_needle 4 = .ok (.ifCond .eq 17, 3) := by decide +kernel
theorem dX9_needle_7 : decode cX9_needle 7 = .ok (.aload_n 0, 1) := by decide +kernel
theorem dX9_needle_8 : decode cX9_needle 8 = .ok (.getfield 29, 3) := by decide +kernel
theorem dX9_needle_11 : decode cX9_needle 11 = .ok (.aload_n 0, 1) := by decide +kernel
theorem dX9_needle_12 : decode cX9_needle 12 = .ok (.getfield 86, 3) := by decide +kernel
theorem dX9_needle_15 : decode cX9_needle 15 = .ok (.iaload, 1) := by decide +kernel
theorem dX9_needle_16 : decode cX9_needle 16 = .ok (.iload_n 1, 1) := by decide +kernel
theorem dX9_needle_17 : decode cX9_needle 17 = .ok (.iadd, 1) := by decide +kernel
theorem dX9_needle_18 : decode cX9_needle 18 = .ok (.goto 11, 3) := by decide +kernel
theorem dX9_needle_21 : decode cX9_needle 21 = .ok (.aload_n 0, 1) := by decide +kernel
theorem dX9_needle_22 : decode cX9_needle 22 = .ok (.getfield 83, 3) := by decide +kernel
theorem dX9_needle_25 : decode cX9_needle 25 = .ok (.iconst 1, 1) := by decide +kernel
theorem dX9_needle_26 : decode cX9_needle 26 = .ok (.isub, 1) := by decide +kernel
theorem dX9_needle_27 : decode cX9_needle 27 = .ok (.iload_n 1, 1) := by decide +kernel
theorem dX9_needle_28 : decode cX9_needle 28 = .ok (.isub, 1) := by decide +kernel
theorem dX9_needle_29 : decode cX9_needle 29 = .ok (.ireturn, 1) := by decide +kernel
theorem dX9_lay_0 : decode cX9_lay 0 = .ok (.aload_n 0, 1) := by decide +kernel
theorem dX9_lay_1 : decode cX9_lay 1 = .ok (.getfield 29, 3) := by decide +kernel
theorem dX9_lay_4 : decode cX9_lay 4 = .ok (.aload_n 0, 1) := by decide +kernel
theorem dX9_lay_5 : decode cX9_lay 5 = .ok (.getfield 86, 3) := by decide +kernel
theorem dX9_lay_8 : decode cX9_lay 8 = .ok (.iaload, 1) := by decide +kernel
theorem dX9_lay_9 : decode cX9_lay 9 = .ok (.istore_n 1, 1) := by decide +kernel
theorem dX9_lay_10 : decode cX9_lay 10 = .ok (.aload_n 0, 1) := by decide +kernel
theorem dX9_lay_11 : decode cX9_lay 11 = .ok (.getfield 83, 3) := by decide +kernel
theorem dX9_lay_14 : decode cX9_lay 14 = .ok (.istore_n 2, 1) := by decide +kernel
theorem dX9_lay_15 : decode cX9_lay 15 = .ok (.iconst 0, 1) := by decide +kernel
theorem dX9_lay_16 : decode cX9_lay 16 = .ok (.istore_n 3, 1) := by decide +kernel
theorem dX9_lay_17 : decode cX9_lay 17 = .ok (.aload_n 0, 1) := by decide +kernel
theorem dX9_lay_18 : decode cX9_lay 18 = .ok (.getfield 86, 3) := by decide +kernel
theorem dX9_lay_21 : decode cX9_lay 21 = .ok (.iconst 1, 1) := by decide +kernel
theorem dX9_lay_22 : decode cX9_lay 22 = .ok (.iadd, 1) := by decide +kernel
theorem dX9_lay_23 : decode cX9_lay 23 = .ok (.istore 4, 2) := by decide +kernel
theorem dX9_lay_25 : decode cX9_lay 25 = .ok (.iconst 0, 1) := by decide +kernel
theorem dX9_lay_26 : decode cX9_lay 26 = .ok (.istore 5, 2) := by decide +kernel
theorem dX9_lay_28 : decode cX9_lay 28 = .ok (.iload 5, 2) := by decide +kernel
theorem dX9_lay_30 : decode cX9_lay 30 = .ok (.aload_n 0, 1) := by decide +kernel
theorem dX9_lay_31 : decode cX9_lay 31 = .ok (.getfield 185, 3) := by decide +kernel
theorem dX9_lay_34 : decode cX9_lay 34 = .ok (.if_icmp .ge 221, 3) := by decide +kernel
theorem dX9_lay_37 : decode cX9_lay 37 = .ok (.aload_n 0, 1) := by decide +kernel
theorem dX9_lay_38 : decode cX9_lay 38 = .ok (.getfield 50, 3) := by decide +kernel
theorem dX9_lay_41 : decode cX9_lay 41 = .ok (.iload 5, 2) := by decide +kernel
theorem dX9_lay_43 : decode cX9_lay 43 = .ok (.iaload, 1) := by decide +kernel
theorem dX9_lay_44 : decode cX9_lay 44 = .ok (.istore 6, 2) := by decide +kernel
theorem dX9_lay_46 : decode cX9_lay 46 = .ok (.iload 6, 2) := by decide +kernel
theorem dX9_lay_48 : decode cX9_lay 48 = .ok (.invokestatic 182, 3) := by decide +kernel
theorem dX9_lay_51 : decode cX9_lay 51 = .ok (.istore 7, 2) := by decide +kernel
theorem dX9_lay_53 : decode cX9_lay 53 = .ok (.iconst 0, 1) := by decide +kernel
theorem dX9_lay_54 : decode cX9_lay 54 = .ok (.istore 8, 2) := by decide +kernel
theorem dX9_lay_56 : decode cX9_lay 56 = .ok (.iload 8, 2) := by decide +kernel
theorem dX9_lay_58 : decode cX9_lay 58 = .ok (.iload 6, 2) := by decide +kernel
theorem dX9_lay_60 : decode cX9_lay 60 = .ok (.invokestatic 195, 3) := by decide +kernel
theorem dX9_lay_63 : decode cX9_lay 63 = .ok (.if_icmp .ge 106, 3) := by decide +kernel
theorem dX9_lay_66 : decode cX9_lay 66 = .ok (.aload_n 0, 1) := by decide +kernel
theorem dX9_lay_67 : decode cX9_lay 67 = .ok (.getfield 83, 3) := by decide +kernel
theorem dX9_lay_70 : decode cX9_lay 70 = .ok (.istore 9, 2) := by decide +kernel
theorem dX9_lay_72 : decode cX9_lay 72 = .ok (.aload_n 0, 1) := by decide +kernel
theorem dX9_lay_73 : decode cX9_lay 73 = .ok (.iload 4, 2) := by decide +kernel
theorem dX9_lay_75 : decode cX9_lay 75 = .ok (.invokevirtual 92, 3) := by decide +kernel
theorem dX9_lay_78 : decode cX9_lay 78 = .ok (.iload 6, 2) := by decide +kernel
theorem dX9_lay_80 : decode cX9_lay 80 = .ok (.bipush 100, 2) := by decide +kernel
theorem dX9_lay_82 : decode cX9_lay 82 = .ok (.if_icmp .lt 49, 3) := by decide +kernel
theorem dX9_lay_85 : decode cX9_lay 85 = .ok (.aload_n 0, 1) := by decide +kernel
theorem dX9_lay_86 : decode cX9_lay 86 = .ok (.iload 9, 2) := by decide +kernel
theorem dX9_lay_88 : decode cX9_lay 88 = .ok (.aload_n 0, 1) := by decide +kernel
theorem dX9_lay_89 : decode cX9_lay 89 = .ok (.iload_n 1, 1) := by decide +kernel
theorem dX9_lay_90 : decode cX9_lay 90 = .ok (.iload_n 2, 1) := by decide +kernel
theorem dX9_lay_91 : decode cX9_lay 91 = .ok (.iload_n 3, 1) := by decide +kernel
theorem dX9_lay_92 : decode cX9_lay 92 = .ok (.iload 8, 2) := by decide +kernel
theorem dX9_lay_94 : decode cX9_lay 94 = .ok (.iload 6, 2) := by decide +kernel
theorem dX9_lay_96 : decode cX9_lay 96 = .ok (.invokestatic 179, 3) := by decide +kernel
theorem dX9_lay_99 : decode cX9_lay 99 = .ok (.if_icmp .ge 14, 3) := by decide +kernel
theorem dX9_lay_102 : decode cX9_lay 102 = .ok (.iload 6, 2) := by decide +kernel
theorem dX9_lay_104 : decode cX9_lay 104 = .ok (.invokestatic 176, 3) := by decide +kernel
theorem dX9_lay_107 : decode cX9_lay 107 = .ok (.iload 8, 2) := by decide +kernel
theorem dX9_lay_109 : decode cX9_lay 109 = .ok (.iadd, 1) := by decide +kernel
theorem dX9_lay_110 : decode cX9_lay 110 = .ok (.goto 11, 3) := by decide +kernel
theorem dX9_lay_113 : decode cX9_lay 113 = .ok (.iload 8, 2) := by decide +kernel
theorem dX9_lay_115 : decode cX9_lay 115 = .ok (.iload 6, 2) := by decide +kernel
theorem dX9_lay_117 : decode cX9_lay 117 = .ok (.invokestatic 179, 3) := by decide +kernel
theorem dX9_lay_120 : decode cX9_lay 120 = .ok (.isub, 1) := by decide +kernel
theorem dX9_lay_121 : decode cX9_lay 121 = .ok (.iadd, 1) := by decide +kernel
theorem dX9_lay_122 : decode cX9_lay 122 = .ok (.invokevirtual 198, 3) := by decide +kernel
theorem dX9_lay_125 : decode cX9_lay 125 = .ok (.invokevirtual 202, 3) := by decide +kernel
theorem dX9_lay_128 : decode cX9_lay 128 = .ok (.goto 35, 3) := by decide +kernel
theorem dX9_lay_131 : decode cX9_lay 131 = .ok (.iconst 0, 1) := by decide +kernel
theorem dX9_lay_132 : decode cX9_lay 132 = .ok (.istore 10, 2) := by decide +kernel
theorem dX9_lay_134 : decode cX9_lay 134 = .ok (.iload 10, 2) := by decide +kernel
theorem dX9_lay_136 : decode cX9_lay 136 = .ok (.iload 7, 2) := by decide +kernel
theorem dX9_lay_138 : decode cX9_lay 138 = .ok (.if_icmp .ge 25, 3) := by decide +kernel
theorem dX9_lay_141 : decode cX9_lay 141 = .ok (.aload_n 0, 1) := by decide +kernel
theorem dX9_lay_142 : decode cX9_lay 142 = .ok (.iload 9, 2) := by decide +kernel
theorem dX9_lay_144 : decode cX9_lay 144 = .ok (.aload_n 0, 1) := by decide +kernel
theorem dX9_lay_145 : decode cX9_lay 145 = .ok (.iload_n 1, 1) := by decide +kernel
theorem dX9_lay_146 : decode cX9_lay 146 = .ok (.iload_n 2, 1) := by decide +kernel
theorem dX9_lay_147 : decode cX9_lay 147 = .ok (.iload_n 3, 1) := by decide +kernel
theorem dX9_lay_148 : decode cX9_lay 148 = .ok (.iload 10, 2) := by decide +kernel
theorem dX9_lay_150 : decode cX9_lay 150 = .ok (.iadd, 1) := by decide +kernel
theorem dX9_lay_151 : decode cX9_lay 151 = .ok (.invokevirtual 198, 3) := by decide +kernel
theorem dX9_lay_154 : decode cX9_lay 154 = .ok (.invokevirtual 202, 3) := by decide +kernel
theorem dX9_lay_157 : decode cX9_lay 157 = .ok (.iinc 10 1, 3) := by decide +kernel
theorem dX9_lay_160 : decode cX9_lay 160 = .ok (.goto (-26), 3) := by decide +kernel
theorem dX9_lay_163 : decode cX9_lay 163 = .ok (.iinc 8 1, 3) := by decide +kernel
theorem dX9_lay_166 : decode cX9_lay 166 = .ok (.goto (-110), 3) := by decide +kernel
theorem dX9_lay_169 : decode cX9_lay 169 = .ok (.iconst 0, 1) := by decide +kernel
theorem dX9_lay_170 : decode cX9_lay 170 = .ok (.istore 8, 2) := by decide +kernel
theorem dX9_lay_172 : decode cX9_lay 172 = .ok (.iload 8, 2) := by decide +kernel
theorem dX9_lay_174 : decode cX9_lay 174 = .ok (.iload 7, 2) := by decide +kernel
theorem dX9_lay_176 : decode cX9_lay 176 = .ok (.if_icmp .ge 53, 3) := by decide +kernel
theorem dX9_lay_179 : decode cX9_lay 179 = .ok (.aload_n 0, 1) := by decide +kernel
theorem dX9_lay_180 : decode cX9_lay 180 = .ok (.getfield 16, 3) := by decide +kernel
theorem dX9_lay_183 : decode cX9_lay 183 = .ok (.aload_n 0, 1) := by decide +kernel
theorem dX9_lay_184 : decode cX9_lay 184 = .ok (.iload_n 1, 1) := by decide +kernel
theorem dX9_lay_185 : decode cX9_lay 185 = .ok (.iload_n 2, 1) := by decide +kernel
theorem dX9_lay_186 : decode cX9_lay 186 = .ok (.iload_n 3, 1) := by decide +kernel
theorem dX9_lay_187 : decode cX9_lay 187 = .ok (.iload 8, 2) := by decide +kernel
theorem dX9_lay_189 : decode cX9_lay 189 = .ok (.iadd, 1) := by decide +kernel
theorem dX9_lay_190 : decode cX9_lay 190 = .ok (.invokevirtual 198, 3) := by decide +kernel
theorem dX9_lay_193 : decode cX9_lay 193 = .ok (.iload 4, 2) := by decide +kernel
theorem dX9_lay_195 : decode cX9_lay 195 = .ok (.iastore, 1) := by decide +kernel
theorem dX9_lay_196 : decode cX9_lay 196 = .ok (.aload_n 0, 1) := by decide +kernel
theorem dX9_lay_197 : decode cX9_lay 197 = .ok (.getfield 19, 3) := by decide +kernel
theorem dX9_lay_200 : decode cX9_lay 200 = .ok (.aload_n 0, 1) := by decide +kernel
theorem dX9_lay_201 : decode cX9_lay 201 = .ok (.iload_n 1, 1) := by decide +kernel
theorem dX9_lay_202 : decode cX9_lay 202 = .ok (.iload_n 2, 1) := by decide +kernel
theorem dX9_lay_203 : decode cX9_lay 203 = .ok (.iload_n 3, 1) := by decide +kernel
theorem dX9_lay_204 : decode cX9_lay 204 = .ok (.iload 8, 2) := by decide +kernel
theorem dX9_lay_206 : decode cX9_lay 206 = .ok (.iadd, 1) := by decide +kernel
theorem dX9_lay_207 : decode cX9_lay 207 = .ok (.invokevirtual 198, 3) := by decide +kernel
theorem dX9_lay_210 : decode cX9_lay 210 = .ok (.iload 6, 2) := by decide +kernel
theorem dX9_lay_212 : decode cX9_lay 212 = .ok (.bipush 8, 2) := by decide +kernel
theorem dX9_lay_214 : decode cX9_lay 214 = .ok (.if_icmp .ne 7, 3) := by decide +kernel
theorem dX9_lay_217 : decode cX9_lay 217 = .ok (.iconst 1, 1) := by decide +kernel
theorem dX9_lay_218 : decode cX9_lay 218 = .ok (.goto 4, 3) := by decide +kernel
theorem dX9_lay_221 : decode cX9_lay 221 = .ok (.iconst 0, 1) := by decide +kernel
theorem dX9_lay_222 : decode cX9_lay 222 = .ok (.bastore, 1) := by decide +kernel
theorem dX9_lay_223 : decode cX9_lay 223 = .ok (.iinc 8 1, 3) := by decide +kernel
theorem dX9_lay_226 : decode cX9_lay 226 = .ok (.goto (-54), 3) := by decide +kernel
theorem dX9_lay_229 : decode cX9_lay 229 = .ok (.iload_n 3, 1) := by decide +kernel
theorem dX9_lay_230 : decode cX9_lay 230 = .ok (.iload 7, 2) := by decide +kernel
theorem dX9_lay_232 : decode cX9_lay 232 = .ok (.iadd, 1) := by decide +kernel
theorem dX9_lay_233 : decode cX9_lay 233 = .ok (.istore_n 3, 1) := by decide +kernel
theorem dX9_lay_234 : decode cX9_lay 234 = .ok (.aload_n 0, 1) := by decide +kernel
theorem dX9_lay_235 : decode cX9_lay 235 = .ok (.getfield 35, 3) := by decide +kernel
theorem dX9_lay_238 : decode cX9_lay 238 = .ok (.iload 4, 2) := by decide +kernel
theorem dX9_lay_240 : decode cX9_lay 240 = .ok (.bipush 80, 2) := by decide +kernel
theorem dX9_lay_242 : decode cX9_lay 242 = .ok (.imul, 1) := by decide +kernel
theorem dX9_lay_243 : decode cX9_lay 243 = .ok (.iload 5, 2) := by decide +kernel
theorem dX9_lay_245 : decode cX9_lay 245 = .ok (.iadd, 1) := by decide +kernel
theorem dX9_lay_246 : decode cX9_lay 246 = .ok (.iload 6, 2) := by decide +kernel
theorem dX9_lay_248 : decode cX9_lay 248 = .ok (.iastore, 1) := by decide +kernel
theorem dX9_lay_249 : decode cX9_lay 249 = .ok (.iinc 5 1, 3) := by decide +kernel
theorem dX9_lay_252 : decode cX9_lay 252 = .ok (.goto (-224), 3) := by decide +kernel
theorem dX9_lay_255 : decode cX9_lay 255 = .ok (.aload_n 0, 1) := by decide +kernel
theorem dX9_lay_256 : decode cX9_lay 256 = .ok (.getfield 32, 3) := by decide +kernel
theorem dX9_lay_259 : decode cX9_lay 259 = .ok (.iload 4, 2) := by decide +kernel
theorem dX9_lay_261 : decode cX9_lay 261 = .ok (.aload_n 0, 1) := by decide +kernel
theorem dX9_lay_262 : decode cX9_lay 262 = .ok (.getfield 185, 3) := by decide +kernel
theorem dX9_lay_265 : decode cX9_lay 265 = .ok (.iastore, 1) := by decide +kernel
theorem dX9_lay_266 : decode cX9_lay 266 = .ok (.aload_n 0, 1) := by decide +kernel
theorem dX9_lay_267 : decode cX9_lay 267 = .ok (.iload 4, 2) := by decide +kernel
theorem dX9_lay_269 : decode cX9_lay 269 = .ok (.putfield 86, 3) := by decide +kernel
theorem dX9_lay_272 : decode cX9_lay 272 = .ok (.aload_n 0, 1) := by decide +kernel
theorem dX9_lay_273 : decode cX9_lay 273 = .ok (.getfield 29, 3) := by decide +kernel
theorem dX9_lay_276 : decode cX9_lay 276 = .ok (.iload 4, 2) := by decide +kernel
theorem dX9_lay_278 : decode cX9_lay 278 = .ok (.iload_n 2, 1) := by decide +kernel
theorem dX9_lay_279 : decode cX9_lay 279 = .ok (.iastore, 1) := by decide +kernel
theorem dX9_lay_280 : decode cX9_lay 280 = .ok (.aload_n 0, 1) := by decide +kernel
theorem dX9_lay_281 : decode cX9_lay 281 = .ok (.getfield 29, 3) := by decide +kernel
theorem dX9_lay_284 : decode cX9_lay 284 = .ok (.iload 4, 2) := by decide +kernel
theorem dX9_lay_286 : decode cX9_lay 286 = .ok (.iconst 1, 1) := by decide +kernel
theorem dX9_lay_287 : decode cX9_lay 287 = .ok (.iadd, 1) := by decide +kernel
theorem dX9_lay_288 : decode cX9_lay 288 = .ok (.aload_n 0, 1) := by decide +kernel
theorem dX9_lay_289 : decode cX9_lay 289 = .ok (.getfield 83, 3) := by decide +kernel
theorem dX9_lay_292 : decode cX9_lay 292 = .ok (.iastore, 1) := by decide +kernel
theorem dX9_lay_293 : decode cX9_lay 293 = .ok (.return_, 1) := by decide +kernel
theorem dX9_take_0 : decode cX9_take 0 = .ok (.aload_n 0, 1) := by decide +kernel
theorem dX9_take_1 : decode cX9_take 1 = .ok (.getfield 79, 3) := by decide +kernel
theorem dX9_take_4 : decode cX9_take 4 = .ok (.ifCond .eq 9, 3) := by decide +kernel
theorem dX9_take_7 : decode cX9_take 7 = .ok (.iload_n 1, 1) := by decide +kernel
theorem dX9_take_8 : decode cX9_take 8 = .ok (.iload_n 3, 1) := by decide +kernel
theorem dX9_take_9 : decode cX9_take 9 = .ok (.iadd, 1) := by decide +kernel
theorem dX9_take_10 : decode cX9_take 10 = .ok (.goto 8, 3) := by decide +kernel
theorem dX9_take_13 : decode cX9_take 13 = .ok (.iload_n 2, 1) := by decide +kernel
theorem dX9_take_14 : decode cX9_take 14 = .ok (.iconst 1, 1) := by decide +kernel
theorem dX9_take_15 : decode cX9_take 15 = .ok (.isub, 1) := by decide +kernel
theorem dX9_take_16 : decode cX9_take 16 = .ok (.iload_n 3, 1) := by decide +kernel
theorem dX9_take_17 : decode cX9_take 17 = .ok (.isub, 1) := by decide +kernel
theorem dX9_take_18 : decode cX9_take 18 = .ok (.ireturn, 1) := by decide +kernel
theorem dX9_work_0 : decode cX9_work 0 = .ok (.aload_n 0, 1) := by decide +kernel
theorem dX9_work_1 : decode cX9_work 1 = .ok (.iconst 0, 1) := by decide +kernel
theorem dX9_work_2 : decode cX9_work 2 = .ok (.putfield 75, 3) := by decide +kernel
theorem dX9_work_5 : decode cX9_work 5 = .ok (.aload_n 0, 1) := by decide +kernel
theorem dX9_work_6 : decode cX9_work 6 = .ok (.iconst 0, 1) := by decide +kernel
theorem dX9_work_7 : decode cX9_work 7 = .ok (.putfield 107, 3) := by decide +kernel
theorem dX9_work_10 : decode cX9_work 10 = .ok (.aload_n 0, 1) := by decide +kernel
theorem dX9_work_11 : decode cX9_work 11 = .ok (.iconst 0, 1) := by decide +kernel
theorem dX9_work_12 : decode cX9_work 12 = .ok (.putfield 114, 3) := by decide +kernel
theorem dX9_work_15 : decode cX9_work 15 = .ok (.aload_n 0, 1) := by decide +kernel
theorem dX9_work_16 : decode cX9_work 16 = .ok (.iconst 0, 1) := by decide +kernel
theorem dX9_work_17 : decode cX9_work 17 = .ok (.putfield 141, 3) := by decide +kernel
theorem dX9_work_20 : decode cX9_work 20 = .ok (.aload_n 0, 1) := by decide +kernel
theorem dX9_work_21 : decode cX9_work 21 = .ok (.iconst 0, 1) := by decide +kernel
theorem dX9_work_22 : decode cX9_work 22 = .ok (.putfield 123, 3) := by decide +kernel
theorem dX9_work_25 : decode cX9_work 25 = .ok (.aload_n 0, 1) := by decide +kernel
theorem dX9_work_26 : decode cX9_work 26 = .ok (.invokevirtual 205, 3) := by decide +kernel
theorem dX9_work_29 : decode cX9_work 29 = .ok (.aload_n 0, 1) := by decide +kernel
theorem dX9_work_30 : decode cX9_work 30 = .ok (.getfield 114, 3) := by decide +kernel
theorem dX9_work_33 : decode cX9_work 33 = .ok (.ifCond .ne 15, 3) := by decide +kernel
theorem dX9_work_36 : decode cX9_work 36 = .ok (.aload_n 0, 1) := by decide +kernel
theorem dX9_work_37 : decode cX9_work 37 = .ok (.invokevirtual 138, 3) := by decide +kernel
theorem dX9_work_40 : decode cX9_work 40 = .ok (.ifCond .lt 8, 3) := by decide +kernel
theorem dX9_work_43 : decode cX9_work 43 = .ok (.aload_n 0, 1) := by decide +kernel
theorem dX9_work_44 : decode cX9_work 44 = .ok (.iconst 1, 1) := by decide +kernel
theorem dX9_work_45 : decode cX9_work 45 = .ok (.invokevirtual 120, 3) := by decide +kernel
theorem dX9_work_48 : decode cX9_work 48 = .ok (.aload_n 0, 1) := by decide +kernel
theorem dX9_work_49 : decode cX9_work 49 = .ok (.getfield 114, 3) := by decide +kernel
theorem dX9_work_52 : decode cX9_work 52 = .ok (.ifCond .ne 11, 3) := by decide +kernel
theorem dX9_work_55 : decode cX9_work 55 = .ok (.aload_n 0, 1) := by decide +kernel
theorem dX9_work_56 : decode cX9_work 56 = .ok (.aload_n 0, 1) := by decide +kernel
theorem dX9_work_57 : decode cX9_work 57 = .ok (.invokevirtual 208, 3) := by decide +kernel
theorem dX9_work_60 : decode cX9_work 60 = .ok (.invokevirtual 211, 3) := by decide +kernel
theorem dX9_work_63 : decode cX9_work 63 = .ok (.aload_n 0, 1) := by decide +kernel
theorem dX9_work_64 : decode cX9_work 64 = .ok (.iconst 0, 1) := by decide +kernel
theorem dX9_work_65 : decode cX9_work 65 = .ok (.putfield 104, 3) := by decide +kernel
theorem dX9_work_68 : decode cX9_work 68 = .ok (.aload_n 0, 1) := by decide +kernel
theorem dX9_work_69 : decode cX9_work 69 = .ok (.getfield 114, 3) := by decide +kernel
theorem dX9_work_72 : decode cX9_work 72 = .ok (.ifCond .le 18, 3) := by decide +kernel
theorem dX9_work_75 : decode cX9_work 75 = .ok (.sipush 1000, 3) := by decide +kernel
theorem dX9_work_78 : decode cX9_work 78 = .ok (.aload_n 0, 1) := by decide +kernel
theorem dX9_work_79 : decode cX9_work 79 = .ok (.getfield 114, 3) := by decide +kernel
theorem dX9_work_82 : decode cX9_work 82 = .ok (.imul, 1) := by decide +kernel
theorem dX9_work_83 : decode cX9_work 83 = .ok (.aload_n 0, 1) := by decide +kernel
theorem dX9_work_84 : decode cX9_work 84 = .ok (.getfield 117, 3) := by decide +kernel
theorem dX9_work_87 : decode cX9_work 87 = .ok (.iadd, 1) := by decide +kernel
theorem dX9_work_88 : decode cX9_work 88 = .ok (.ineg, 1) := by decide +kernel
theorem dX9_work_89 : decode cX9_work 89 = .ok (.ireturn, 1) := by decide +kernel
theorem dX9_work_90 : decode cX9_work 90 = .ok (.aload_n 0, 1) := by decide +kernel
theorem dX9_work_91 : decode cX9_work 91 = .ok (.invokevirtual 214, 3) := by decide +kernel
theorem dX9_work_94 : decode cX9_work 94 = .ok (.aload_n 0, 1) := by decide +kernel
theorem dX9_work_95 : decode cX9_work 95 = .ok (.invokevirtual 208, 3) := by decide +kernel
theorem dX9_work_98 : decode cX9_work 98 = .ok (.ireturn, 1) := by decide +kernel
theorem dX9_rows_0 : decode cX9_rows 0 = .ok (.aload_n 0, 1) := by decide +kernel
theorem dX9_rows_1 : decode cX9_rows 1 = .ok (.iconst 0, 1) := by decide +kernel
theorem dX9_rows_2 : decode cX9_rows 2 = .ok (.putfield 75, 3) := by decide +kernel
theorem dX9_rows_5 : decode cX9_rows 5 = .ok (.aload_n 0, 1) := by decide +kernel
theorem dX9_rows_6 : decode cX9_rows 6 = .ok (.getfield 86, 3) := by decide +kernel
theorem dX9_rows_9 : decode cX9_rows 9 = .ok (.ireturn, 1) := by decide +kernel
theorem dX9_unravel_0 : decode cX9_unravel 0 = .ok (.aload_n 0, 1) := by decide +kernel
theorem dX9_unravel_1 : decode cX9_unravel 1 = .ok (.iload_n 1, 1) := by decide +kernel
theorem dX9_unravel_2 : decode cX9_unravel 2 = .ok (.iconst 0, 1) := by decide +kernel
theorem dX9_unravel_3 : decode cX9_unravel 3 = .ok (.aload_n 0, 1) := by decide +kernel
theorem dX9_unravel_4 : decode cX9_unravel 4 = .ok (.getfield 86, 3) := by decide +kernel
theorem dX9_unravel_7 : decode cX9_unravel 7 = .ok (.invokestatic 96, 3) := by decide +kernel
theorem dX9_unravel_10 : decode cX9_unravel 10 = .ok (.invokevirtual 100, 3) := by decide +kernel
theorem dX9_unravel_13 : decode cX9_unravel 13 = .ok (.ifCond .ne 5, 3) := by decide +kernel
theorem dX9_unravel_16 : decode cX9_unravel 16 = .ok (.iconst 0, 1) := by decide +kernel
theorem dX9_unravel_17 : decode cX9_unravel 17 = .ok (.ireturn, 1) := by decide +kernel
theorem dX9_unravel_18 : decode cX9_unravel 18 = .ok (.iconst 0, 1) := by decide +kernel
theorem dX9_unravel_19 : decode cX9_unravel 19 = .ok (.istore_n 2, 1) := by decide +kernel
theorem dX9_unravel_20 : decode cX9_unravel 20 = .ok (.iload_n 2, 1) := by decide +kernel
theorem dX9_unravel_21 : decode cX9_unravel 21 = .ok (.iload_n 1, 1) := by decide +kernel
theorem dX9_unravel_22 : decode cX9_unravel 22 = .ok (.if_icmp .ge 78, 3) := by decide +kernel
theorem dX9_unravel_25 : decode cX9_unravel 25 = .ok (.aload_n 0, 1) := by decide +kernel
theorem dX9_unravel_26 : decode cX9_unravel 26 = .ok (.aload_n 0, 1) := by decide +kernel
theorem dX9_unravel_27 : decode cX9_unravel 27 = .ok (.getfield 29, 3) := by decide +kernel
theorem dX9_unravel_30 : decode cX9_unravel 30 = .ok (.aload_n 0, 1) := by decide +kernel
theorem dX9_unravel_31 : decode cX9_unravel 31 = .ok (.getfield 86, 3) := by decide +kernel
theorem dX9_unravel_34 : decode cX9_unravel 34 = .ok (.iaload, 1) := by decide +kernel
theorem dX9_unravel_35 : decode cX9_unravel 35 = .ok (.putfield 83, 3) := by decide +kernel
theorem dX9_unravel_38 : decode cX9_unravel 38 = .ok (.iconst 0, 1) := by decide +kernel
theorem dX9_unravel_39 : decode cX9_unravel 39 = .ok (.istore_n 3, 1) := by decide +kernel
theorem dX9_unravel_40 : decode cX9_unravel 40 = .ok (.iload_n 3, 1) := by decide +kernel
theorem dX9_unravel_41 : decode cX9_unravel 41 = .ok (.aload_n 0, 1) := by decide +kernel
theorem dX9_unravel_42 : decode cX9_unravel 42 = .ok (.getfield 83, 3) := by decide +kernel
theorem dX9_unravel_45 : decode cX9_unravel 45 = .ok (.if_icmp .ge 39, 3) := by decide +kernel
theorem dX9_unravel_48 : decode cX9_unravel 48 = .ok (.aload_n 0, 1) := by decide +kernel
theorem dX9_unravel_49 : decode cX9_unravel 49 = .ok (.getfield 16, 3) := by decide +kernel
theorem dX9_unravel_52 : decode cX9_unravel 52 = .ok (.iload_n 3, 1) := by decide +kernel
theorem dX9_unravel_53 : decode cX9_unravel 53 = .ok (.iaload, 1) := by decide +kernel
theorem dX9_unravel_54 : decode cX9_unravel 54 = .ok (.aload_n 0, 1) := by decide +kernel
theorem dX9_unravel_55 : decode cX9_unravel 55 = .ok (.getfield 86, 3) := by decide +kernel
theorem dX9_unravel_58 : decode cX9_unravel 58 = .ok (.if_icmp .eq 6, 3) := by decide +kernel
theorem dX9_unravel_61 : decode cX9_unravel 61 = .ok (.goto 17, 3) := by decide +kernel
theorem dX9_unravel_64 : decode cX9_unravel 64 = .ok (.aload_n 0, 1) := by decide +kernel
theorem dX9_unravel_65 : decode cX9_unravel 65 = .ok (.getfield 16, 3) := by decide +kernel
theorem dX9_unravel_68 : decode cX9_unravel 68 = .ok (.iload_n 3, 1) := by decide +kernel
theorem dX9_unravel_69 : decode cX9_unravel 69 = .ok (.iconst 0, 1) := by decide +kernel
theorem dX9_unravel_70 : decode cX9_unravel 70 = .ok (.iastore, 1) := by decide +kernel
theorem dX9_unravel_71 : decode cX9_unravel 71 = .ok (.aload_n 0, 1) := by decide +kernel
theorem dX9_unravel_72 : decode cX9_unravel 72 = .ok (.getfield 19, 3) := by decide +kernel
theorem dX9_unravel_75 : decode cX9_unravel 75 = .ok (.iload_n 3, 1) := by decide +kernel
theorem dX9_unravel_76 : decode cX9_unravel 76 = .ok (.iconst 0, 1) := by decide +kernel
theorem dX9_unravel_77 : decode cX9_unravel 77 = .ok (.bastore, 1) := by decide +kernel
theorem dX9_unravel_78 : decode cX9_unravel 78 = .ok (.iinc 3 1, 3) := by decide +kernel
theorem dX9_unravel_81 : decode cX9_unravel 81 = .ok (.goto (-41), 3) := by decide +kernel
theorem dX9_unravel_84 : decode cX9_unravel 84 = .ok (.aload_n 0, 1) := by decide +kernel
theorem dX9_unravel_85 : decode cX9_unravel 85 = .ok (.dup, 1) := by decide +kernel
theorem dX9_unravel_86 : decode cX9_unravel 86 = .ok (.getfield 86, 3) := by decide +kernel
theorem dX9_unravel_89 : decode cX9_unravel 89 = .ok (.iconst 1, 1) := by decide +kernel
theorem dX9_unravel_90 : decode cX9_unravel 90 = .ok (.isub, 1) := by decide +kernel
theorem dX9_unravel_91 : decode cX9_unravel 91 = .ok (.putfield 86, 3) := by decide +kernel
theorem dX9_unravel_94 : decode cX9_unravel 94 = .ok (.iinc 2 1, 3) := by decide +kernel
theorem dX9_unravel_97 : decode cX9_unravel 97 = .ok (.goto (-77), 3) := by decide +kernel
theorem dX9_unravel_100 : decode cX9_unravel 100 = .ok (.aload_n 0, 1) := by decide +kernel
theorem dX9_unravel_101 : decode cX9_unravel 101 = .ok (.getfield 86, 3) := by decide +kernel
theorem dX9_unravel_104 : decode cX9_unravel 104 = .ok (.ireturn, 1) := by decide +kernel
theorem dX9_live_0 : decode cX9_live 0 = .ok (.aload_n 0, 1) := by decide +kernel
theorem dX9_live_1 : decode cX9_live 1 = .ok (.iconst 0, 1) := by decide +kernel
theorem dX9_live_2 : decode cX9_live 2 = .ok (.putfield 75, 3) := by decide +kernel
theorem dX9_live_5 : decode cX9_live 5 = .ok (.iload_n 1, 1) := by decide +kernel
theorem dX9_live_6 : decode cX9_live 6 = .ok (.iconst 0, 1) := by decide +kernel
theorem dX9_live_7 : decode cX9_live 7 = .ok (.aload_n 0, 1) := by decide +kernel
theorem dX9_live_8 : decode cX9_live 8 = .ok (.invokevirtual 208, 3) := by decide +kernel
theorem dX9_live_11 : decode cX9_live 11 = .ok (.iconst 1, 1) := by decide +kernel
theorem dX9_live_12 : decode cX9_live 12 = .ok (.isub, 1) := by decide +kernel
theorem dX9_live_13 : decode cX9_live 13 = .ok (.invokestatic 96, 3) := by decide +kernel
theorem dX9_live_16 : decode cX9_live 16 = .ok (.ifCond .eq 11, 3) := by decide +kernel
theorem dX9_live_19 : decode cX9_live 19 = .ok (.aload_n 0, 1) := by decide +kernel
theorem dX9_live_20 : decode cX9_live 20 = .ok (.iload_n 1, 1) := by decide +kernel
theorem dX9_live_21 : decode cX9_live 21 = .ok (.invokevirtual 217, 3) := by decide +kernel
theorem dX9_live_24 : decode cX9_live 24 = .ok (.goto 4, 3) := by decide +kernel
theorem dX9_live_27 : decode cX9_live 27 = .ok (.iconst (-1), 1) := by decide +kernel
theorem dX9_live_28 : decode cX9_live 28 = .ok (.ireturn, 1) := by decide +kernel
theorem dX9_loop_0 : decode cX9_loop 0 = .ok (.aload_n 0, 1) := by decide +kernel
theorem dX9_loop_1 : decode cX9_loop 1 = .ok (.iload_n 1, 1) := by decide +kernel
theorem dX9_loop_2 : decode cX9_loop 2 = .ok (.iconst 0, 1) := by decide +kernel
theorem dX9_loop_3 : decode cX9_loop 3 = .ok (.aload_n 0, 1) := by decide +kernel
theorem dX9_loop_4 : decode cX9_loop 4 = .ok (.getfield 83, 3) := by decide +kernel
theorem dX9_loop_7 : decode cX9_loop 7 = .ok (.iconst 1, 1) := by decide +kernel
theorem dX9_loop_8 : decode cX9_loop 8 = .ok (.isub, 1) := by decide +kernel
theorem dX9_loop_9 : decode cX9_loop 9 = .ok (.invokestatic 96, 3) := by decide +kernel
theorem dX9_loop_12 : decode cX9_loop 12 = .ok (.ifCond .eq 41, 3) := by decide +kernel
theorem dX9_loop_15 : decode cX9_loop 15 = .ok (.iload_n 2, 1) := by decide +kernel
theorem dX9_loop_16 : decode cX9_loop 16 = .ok (.iconst 0, 1) := by decide +kernel
theorem dX9_loop_17 : decode cX9_loop 17 = .ok (.iconst 2, 1) := by decide +kernel
theorem dX9_loop_18 : decode cX9_loop 18 = .ok (.iload_n 1, 1) := by decide +kernel
theorem dX9_loop_19 : decode cX9_loop 19 = .ok (.iconst 0, 1) := by decide +kernel
theorem dX9_loop_20 : decode cX9_loop 20 = .ok (.aload_n 0, 1) := by decide +kernel
theorem dX9_loop_21 : decode cX9_loop 21 = .ok (.getfield 83, 3) := by decide +kernel
theorem dX9_loop_24 : decode cX9_loop 24 = .ok (.iconst 1, 1) := by decide +kernel
theorem dX9_loop_25 : decode cX9_loop 25 = .ok (.isub, 1) := by decide +kernel
theorem dX9_loop_26 : decode cX9_loop 26 = .ok (.invokestatic 96, 3) := by decide +kernel
theorem dX9_loop_29 : decode cX9_loop 29 = .ok (.ifCond .eq 12, 3) := by decide +kernel
theorem dX9_loop_32 : decode cX9_loop 32 = .ok (.aload_n 0, 1) := by decide +kernel
theorem dX9_loop_33 : decode cX9_loop 33 = .ok (.getfield 23, 3) := by decide +kernel
theorem dX9_loop_36 : decode cX9_loop 36 = .ok (.iload_n 1, 1) := by decide +kernel
theorem dX9_loop_37 : decode cX9_loop 37 = .ok (.iaload, 1) := by decide +kernel
theorem dX9_loop_38 : decode cX9_loop 38 = .ok (.goto 4, 3) := by decide +kernel
theorem dX9_loop_41 : decode cX9_loop 41 = .ok (.iconst 0, 1) := by decide +kernel
theorem dX9_loop_42 : decode cX9_loop 42 = .ok (.iadd, 1) := by decide +kernel
theorem dX9_loop_43 : decode cX9_loop 43 = .ok (.invokestatic 96, 3) := by decide +kernel
theorem dX9_loop_46 : decode cX9_loop 46 = .ok (.ifCond .eq 7, 3) := by decide +kernel
theorem dX9_loop_49 : decode cX9_loop 49 = .ok (.iconst 1, 1) := by decide +kernel
theorem dX9_loop_50 : decode cX9_loop 50 = .ok (.goto 4, 3) := by decide +kernel
theorem dX9_loop_53 : decode cX9_loop 53 = .ok (.iconst 0, 1) := by decide +kernel
theorem dX9_loop_54 : decode cX9_loop 54 = .ok (.invokevirtual 100, 3) := by decide +kernel
theorem dX9_loop_57 : decode cX9_loop 57 = .ok (.ifCond .ne 5, 3) := by decide +kernel
theorem dX9_loop_60 : decode cX9_loop 60 = .ok (.iconst 0, 1) := by decide +kernel
theorem dX9_loop_61 : decode cX9_loop 61 = .ok (.ireturn, 1) := by decide +kernel
theorem dX9_loop_62 : decode cX9_loop 62 = .ok (.iload_n 2, 1) := by decide +kernel
theorem dX9_loop_63 : decode cX9_loop 63 = .ok (.ifCond .ne 12, 3) := by decide +kernel
theorem dX9_loop_66 : decode cX9_loop 66 = .ok (.aload_n 0, 1) := by decide +kernel
theorem dX9_loop_67 : decode cX9_loop 67 = .ok (.getfield 13, 3) := by decide +kernel
theorem dX9_loop_70 : decode cX9_loop 70 = .ok (.iload_n 1, 1) := by decide +kernel
theorem dX9_loop_71 : decode cX9_loop 71 = .ok (.iaload, 1) := by decide +kernel
theorem dX9_loop_72 : decode cX9_loop 72 = .ok (.goto 43, 3) := by decide +kernel
theorem dX9_loop_75 : decode cX9_loop 75 = .ok (.iload_n 2, 1) := by decide +kernel
theorem dX9_loop_76 : decode cX9_loop 76 = .ok (.iconst 1, 1) := by decide +kernel
theorem dX9_loop_77 : decode cX9_loop 77 = .ok (.if_icmp .ne 12, 3) := by decide +kernel
theorem dX9_loop_80 : decode cX9_loop 80 = .ok (.aload_n 0, 1) := by decide +kernel
theorem dX9_loop_81 : decode cX9_loop 81 = .ok (.getfield 16, 3) := by decide +kernel
theorem dX9_loop_84 : decode cX9_loop 84 = .ok (.iload_n 1, 1) := by decide +kernel
theorem dX9_loop_85 : decode cX9_loop 85 = .ok (.iaload, 1) := by decide +kernel
theorem dX9_loop_86 : decode cX9_loop 86 = .ok (.goto 29, 3) := by decide +kernel
theorem dX9_loop_89 : decode cX9_loop 89 = .ok (.iload_n 2, 1) := by decide +kernel
theorem dX9_loop_90 : decode cX9_loop 90 = .ok (.iconst 2, 1) := by decide +kernel
theorem dX9_loop_91 : decode cX9_loop 91 = .ok (.if_icmp .ne 12, 3) := by decide +kernel
theorem dX9_loop_94 : decode cX9_loop 94 = .ok (.aload_n 0, 1) := by decide +kernel
theorem dX9_loop_95 : decode cX9_loop 95 = .ok (.getfield 23, 3) := by decide +kernel
theorem dX9_loop_98 : decode cX9_loop 98 = .ok (.iload_n 1, 1) := by decide +kernel
theorem dX9_loop_99 : decode cX9_loop 99 = .ok (.iaload, 1) := by decide +kernel
theorem dX9_loop_100 : decode cX9_loop 100 = .ok (.goto 15, 3) := by decide +kernel
theorem dX9_loop_103 : decode cX9_loop 103 = .ok (.aload_n 0, 1) := by decide +kernel
theorem dX9_loop_104 : decode cX9_loop 104 = .ok (.getfield 26, 3) := by decide +kernel
theorem dX9_loop_107 : decode cX9_loop 107 = .ok (.iconst 3, 1) := by decide +kernel
theorem dX9_loop_108 : decode cX9_loop 108 = .ok (.iload_n 1, 1) := by decide +kernel
theorem dX9_loop_109 : decode cX9_loop 109 = .ok (.imul, 1) := by decide +kernel
theorem dX9_loop_110 : decode cX9_loop 110 = .ok (.iload_n 2, 1) := by decide +kernel
theorem dX9_loop_111 : decode cX9_loop 111 = .ok (.iadd, 1) := by decide +kernel
theorem dX9_loop_112 : decode cX9_loop 112 = .ok (.iconst 3, 1) := by decide +kernel
theorem dX9_loop_113 : decode cX9_loop 113 = .ok (.isub, 1) := by decide +kernel
theorem dX9_loop_114 : decode cX9_loop 114 = .ok (.iaload, 1) := by decide +kernel
theorem dX9_loop_115 : decode cX9_loop 115 = .ok (.ireturn, 1) := by decide +kernel
theorem dX9_chart_0 : decode cX9_chart 0 = .ok (.aload_n 0, 1) := by decide +kernel
theorem dX9_chart_1 : decode cX9_chart 1 = .ok (.iload_n 1, 1) := by decide +kernel
theorem dX9_chart_2 : decode cX9_chart 2 = .ok (.iconst 1, 1) := by decide +kernel
theorem dX9_chart_3 : decode cX9_chart 3 = .ok (.aload_n 0, 1) := by decide +kernel
theorem dX9_chart_4 : decode cX9_chart 4 = .ok (.getfield 86, 3) := by decide +kernel
theorem dX9_chart_7 : decode cX9_chart 7 = .ok (.invokestatic 96, 3) := by decide +kernel
theorem dX9_chart_10 : decode cX9_chart 10 = .ok (.invokevirtual 100, 3) := by decide +kernel
theorem dX9_chart_13 : decode cX9_chart 13 = .ok (.ifCond .ne 5, 3) := by decide +kernel
theorem dX9_chart_16 : decode cX9_chart 16 = .ok (.iconst 0, 1) := by decide +kernel
theorem dX9_chart_17 : decode cX9_chart 17 = .ok (.ireturn, 1) := by decide +kernel
theorem dX9_chart_18 : decode cX9_chart 18 = .ok (.aload_n 0, 1) := by decide +kernel
theorem dX9_chart_19 : decode cX9_chart 19 = .ok (.iload_n 2, 1) := by decide +kernel
theorem dX9_chart_20 : decode cX9_chart 20 = .ok (.iconst 0, 1) := by decide +kernel
theorem dX9_chart_21 : decode cX9_chart 21 = .ok (.aload_n 0, 1) := by decide +kernel
theorem dX9_chart_22 : decode cX9_chart 22 = .ok (.getfield 32, 3) := by decide +kernel
theorem dX9_chart_25 : decode cX9_chart 25 = .ok (.iload_n 1, 1) := by decide +kernel
theorem dX9_chart_26 : decode cX9_chart 26 = .ok (.iaload, 1) := by decide +kernel
theorem dX9_chart_27 : decode cX9_chart 27 = .ok (.iconst 1, 1) := by decide +kernel
theorem dX9_chart_28 : decode cX9_chart 28 = .ok (.isub, 1) := by decide +kernel
theorem dX9_chart_29 : decode cX9_chart 29 = .ok (.invokestatic 96, 3) := by decide +kernel
theorem dX9_chart_32 : decode cX9_chart 32 = .ok (.ifCond .eq 7, 3) := by decide +kernel
theorem dX9_chart_35 : decode cX9_chart 35 = .ok (.iconst 0, 1) := by decide +kernel
theorem dX9_chart_36 : decode cX9_chart 36 = .ok (.goto 4, 3) := by decide +kernel
theorem dX9_chart_39 : decode cX9_chart 39 = .ok (.iconst 2, 1) := by decide +kernel
theorem dX9_chart_40 : decode cX9_chart 40 = .ok (.putfield 75, 3) := by decide +kernel
theorem dX9_chart_43 : decode cX9_chart 43 = .ok (.aload_n 0, 1) := by decide +kernel
theorem dX9_chart_44 : decode cX9_chart 44 = .ok (.getfield 75, 3) := by decide +kernel
theorem dX9_chart_47 : decode cX9_chart 47 = .ok (.ifCond .le 5, 3) := by decide +kernel
theorem dX9_chart_50 : decode cX9_chart 50 = .ok (.iconst 0, 1) := by decide +kernel
theorem dX9_chart_51 : decode cX9_chart 51 = .ok (.ireturn, 1) := by decide +kernel
theorem dX9_chart_52 : decode cX9_chart 52 = .ok (.aload_n 0, 1) := by decide +kernel
theorem dX9_chart_53 : decode cX9_chart 53 = .ok (.getfield 79, 3) := by decide +kernel
theorem dX9_chart_56 : decode cX9_chart 56 = .ok (.ifCond .ne 13, 3) := by decide +kernel
theorem dX9_chart_59 : decode cX9_chart 59 = .ok (.iload_n 1, 1) := by decide +kernel
theorem dX9_chart_60 : decode cX9_chart 60 = .ok (.iconst 2, 1) := by decide +kernel
theorem dX9_chart_61 : decode cX9_chart 61 = .ok (.irem, 1) := by decide +kernel
theorem dX9_chart_62 : decode cX9_chart 62 = .ok (.ifCond .ne 7, 3) := by decide +kernel
theorem dX9_chart_65 : decode cX9_chart 65 = .ok (.iconst 1, 1) := by decide +kernel
theorem dX9_chart_66 : decode cX9_chart 66 = .ok (.goto 4, 3) := by decide +kernel
theorem dX9_chart_69 : decode cX9_chart 69 = .ok (.iconst 0, 1) := by decide +kernel
theorem dX9_chart_70 : decode cX9_chart 70 = .ok (.istore_n 3, 1) := by decide +kernel
theorem dX9_chart_71 : decode cX9_chart 71 = .ok (.aload_n 0, 1) := by decide +kernel
theorem dX9_chart_72 : decode cX9_chart 72 = .ok (.getfield 35, 3) := by decide +kernel
theorem dX9_chart_75 : decode cX9_chart 75 = .ok (.iload_n 1, 1) := by decide +kernel
theorem dX9_chart_76 : decode cX9_chart 76 = .ok (.bipush 80, 2) := by decide +kernel
theorem dX9_chart_78 : decode cX9_chart 78 = .ok (.imul, 1) := by decide +kernel
theorem dX9_chart_79 : decode cX9_chart 79 = .ok (.iload_n 3, 1) := by decide +kernel
theorem dX9_chart_80 : decode cX9_chart 80 = .ok (.ifCond .eq 16, 3) := by decide +kernel
theorem dX9_chart_83 : decode cX9_chart 83 = .ok (.aload_n 0, 1) := by decide +kernel
theorem dX9_chart_84 : decode cX9_chart 84 = .ok (.getfield 32, 3) := by decide +kernel
theorem dX9_chart_87 : decode cX9_chart 87 = .ok (.iload_n 1, 1) := by decide +kernel
theorem dX9_chart_88 : decode cX9_chart 88 = .ok (.iaload, 1) := by decide +kernel
theorem dX9_chart_89 : decode cX9_chart 89 = .ok (.iconst 1, 1) := by decide +kernel
theorem dX9_chart_90 : decode cX9_chart 90 = .ok (.isub, 1) := by decide +kernel
theorem dX9_chart_91 : decode cX9_chart 91 = .ok (.iload_n 2, 1) := by decide +kernel
theorem dX9_chart_92 : decode cX9_chart 92 = .ok (.isub, 1) := by decide +kernel
theorem dX9_chart_93 : decode cX9_chart 93 = .ok (.goto 4, 3) := by decide +kernel
theorem dX9_chart_96 : decode cX9_chart 96 = .ok (.iload_n 2, 1) := by decide +kernel
theorem dX9_chart_97 : decode cX9_chart 97 = .ok (.iadd, 1) := by decide +kernel
theorem dX9_chart_98 : decode cX9_chart 98 = .ok (.iaload, 1) := by decide +kernel
theorem dX9_chart_99 : decode cX9_chart 99 = .ok (.istore 4, 2) := by decide +kernel
theorem dX9_chart_101 : decode cX9_chart 101 = .ok (.iload_n 3, 1) := by decide +kernel
theorem dX9_chart_102 : decode cX9_chart 102 = .ok (.ifCond .eq 12, 3) := by decide +kernel
theorem dX9_chart_105 : decode cX9_chart 105 = .ok (.iload 4, 2) := by decide +kernel
theorem dX9_chart_107 : decode cX9_chart 107 = .ok (.ifCond .ne 7, 3) := by decide +kernel
theorem dX9_chart_110 : decode cX9_chart 110 = .ok (.iconst 1, 1) := by decide +kernel
theorem dX9_chart_111 : decode cX9_chart 111 = .ok (.goto 19, 3) := by decide +kernel
theorem dX9_chart_114 : decode cX9_chart 114 = .ok (.iload_n 3, 1) := by decide +kernel
theorem dX9_chart_115 : decode cX9_chart 115 = .ok (.ifCond .eq 13, 3) := by decide +kernel
theorem dX9_chart_118 : decode cX9_chart 118 = .ok (.iload 4, 2) := by decide +kernel
theorem dX9_chart_120 : decode cX9_chart 120 = .ok (.iconst 1, 1) := by decide +kernel
theorem dX9_chart_121 : decode cX9_chart 121 = .ok (.if_icmp .ne 7, 3) := by decide +kernel
theorem dX9_chart_124 : decode cX9_chart 124 = .ok (.iconst 0, 1) := by decide +kernel
theorem dX9_chart_125 : decode cX9_chart 125 = .ok (.goto 5, 3) := by decide +kernel
theorem dX9_chart_128 : decode cX9_chart 128 = .ok (.iload 4, 2) := by decide +kernel
theorem dX9_chart_130 : decode cX9_chart 130 = .ok (.ireturn, 1) := by decide +kernel
theorem dX9_row_0 : decode cX9_row 0 = .ok (.aload_n 0, 1) := by decide +kernel
theorem dX9_row_1 : decode cX9_row 1 = .ok (.iload_n 1, 1) := by decide +kernel
theorem dX9_row_2 : decode cX9_row 2 = .ok (.iconst 1, 1) := by decide +kernel
theorem dX9_row_3 : decode cX9_row 3 = .ok (.aload_n 0, 1) := by decide +kernel
theorem dX9_row_4 : decode cX9_row 4 = .ok (.getfield 86, 3) := by decide +kernel
theorem dX9_row_7 : decode cX9_row 7 = .ok (.invokestatic 96, 3) := by decide +kernel
theorem dX9_row_10 : decode cX9_row 10 = .ok (.ifCond .eq 16, 3) := by decide +kernel
theorem dX9_row_13 : decode cX9_row 13 = .ok (.iload_n 2, 1) := by decide +kernel
theorem dX9_row_14 : decode cX9_row 14 = .ok (.iconst 0, 1) := by decide +kernel
theorem dX9_row_15 : decode cX9_row 15 = .ok (.iconst 4, 1) := by decide +kernel
theorem dX9_row_16 : decode cX9_row 16 = .ok (.invokestatic 96, 3) := by decide +kernel
theorem dX9_row_19 : decode cX9_row 19 = .ok (.ifCond .eq 7, 3) := by decide +kernel
theorem dX9_row_22 : decode cX9_row 22 = .ok (.iconst 1, 1) := by decide +kernel
theorem dX9_row_23 : decode cX9_row 23 = .ok (.goto 4, 3) := by decide +kernel
theorem dX9_row_26 : decode cX9_row 26 = .ok (.iconst 0, 1) := by decide +kernel
theorem dX9_row_27 : decode cX9_row 27 = .ok (.invokevirtual 100, 3) := by decide +kernel
theorem dX9_row_30 : decode cX9_row 30 = .ok (.ifCond .ne 5, 3) := by decide +kernel
theorem dX9_row_33 : decode cX9_row 33 = .ok (.iconst 0, 1) := by decide +kernel
theorem dX9_row_34 : decode cX9_row 34 = .ok (.ireturn, 1) := by decide +kernel
theorem dX9_row_35 : decode cX9_row 35 = .ok (.iconst 0, 1) := by decide +kernel
theorem dX9_row_36 : decode cX9_row 36 = .ok (.istore_n 3, 1) := by decide +kernel
theorem dX9_row_37 : decode cX9_row 37 = .ok (.iconst 0, 1) := by decide +kernel
theorem dX9_row_38 : decode cX9_row 38 = .ok (.istore 4, 2) := by decide +kernel
theorem dX9_row_40 : decode cX9_row 40 = .ok (.iload 4, 2) := by decide +kernel
theorem dX9_row_42 : decode cX9_row 42 = .ok (.aload_n 0, 1) := by decide +kernel
theorem dX9_row_43 : decode cX9_row 43 = .ok (.getfield 32, 3) := by decide +kernel
theorem dX9_row_46 : decode cX9_row 46 = .ok (.iload_n 1, 1) := by decide +kernel
theorem dX9_row_47 : decode cX9_row 47 = .ok (.iaload, 1) := by decide +kernel
theorem dX9_row_48 : decode cX9_row 48 = .ok (.if_icmp .ge 102, 3) := by decide +kernel
theorem dX9_row_51 : decode cX9_row 51 = .ok (.aload_n 0, 1) := by decide +kernel
theorem dX9_row_52 : decode cX9_row 52 = .ok (.getfield 35, 3) := by decide +kernel
theorem dX9_row_55 : decode cX9_row 55 = .ok (.iload_n 1, 1) := by decide +kernel
theorem dX9_row_56 : decode cX9_row 56 = .ok (.bipush 80, 2) := by decide +kernel
theorem dX9_row_58 : decode cX9_row 58 = .ok (.imul, 1) := by decide +kernel
theorem dX9_row_59 : decode cX9_row 59 = .ok (.iload 4, 2) := by decide +kernel
theorem dX9_row_61 : decode cX9_row 61 = .ok (.iadd, 1) := by decide +kernel
theorem dX9_row_62 : decode cX9_row 62 = .ok (.iaload, 1) := by decide +kernel
theorem dX9_row_63 : decode cX9_row 63 = .ok (.istore 5, 2) := by decide +kernel
theorem dX9_row_65 : decode cX9_row 65 = .ok (.iload_n 3, 1) := by decide +kernel
theorem dX9_row_66 : decode cX9_row 66 = .ok (.iload_n 2, 1) := by decide +kernel
theorem dX9_row_67 : decode cX9_row 67 = .ok (.ifCond .ne 7, 3) := by decide +kernel
theorem dX9_row_70 : decode cX9_row 70 = .ok (.iconst 1, 1) := by decide +kernel
theorem dX9_row_71 : decode cX9_row 71 = .ok (.goto 71, 3) := by decide +kernel
theorem dX9_row_74 : decode cX9_row 74 = .ok (.iload_n 2, 1) := by decide +kernel
theorem dX9_row_75 : decode cX9_row 75 = .ok (.iconst 1, 1) := by decide +kernel
theorem dX9_row_76 : decode cX9_row 76 = .ok (.if_icmp .ne 28, 3) := by decide +kernel
theorem dX9_row_79 : decode cX9_row 79 = .ok (.iload 5, 2) := by decide +kernel
theorem dX9_row_81 : decode cX9_row 81 = .ok (.bipush 100, 2) := by decide +kernel
theorem dX9_row_83 : decode cX9_row 83 = .ok (.if_icmp .lt 17, 3) := by decide +kernel
theorem dX9_row_86 : decode cX9_row 86 = .ok (.iload 5, 2) := by decide +kernel
theorem dX9_row_88 : decode cX9_row 88 = .ok (.invokestatic 176, 3) := by decide +kernel
theorem dX9_row_91 : decode cX9_row 91 = .ok (.iload 5, 2) := by decide +kernel
theorem dX9_row_93 : decode cX9_row 93 = .ok (.invokestatic 179, 3) := by decide +kernel
theorem dX9_row_96 : decode cX9_row 96 = .ok (.imul, 1) := by decide +kernel
theorem dX9_row_97 : decode cX9_row 97 = .ok (.goto 45, 3) := by decide +kernel
theorem dX9_row_100 : decode cX9_row 100 = .ok (.iconst 0, 1) := by decide +kernel
theorem dX9_row_101 : decode cX9_row 101 = .ok (.goto 41, 3) := by decide +kernel
theorem dX9_row_104 : decode cX9_row 104 = .ok (.iload_n 2, 1) := by decide +kernel
theorem dX9_row_105 : decode cX9_row 105 = .ok (.iconst 2, 1) := by decide +kernel
theorem dX9_row_106 : decode cX9_row 106 = .ok (.if_icmp .ne 11, 3) := by decide +kernel
theorem dX9_row_109 : decode cX9_row 109 = .ok (.iload 5, 2) := by decide +kernel
theorem dX9_row_111 : decode cX9_row 111 = .ok (.invokestatic 182, 3) := by decide +kernel
theorem dX9_row_114 : decode cX9_row 114 = .ok (.goto 28, 3) := by decide +kernel
theorem dX9_row_117 : decode cX9_row 117 = .ok (.iload_n 2, 1) := by decide +kernel
theorem dX9_row_118 : decode cX9_row 118 = .ok (.iconst 3, 1) := by decide +kernel
theorem dX9_row_119 : decode cX9_row 119 = .ok (.if_icmp .ne 11, 3) := by decide +kernel
theorem dX9_row_122 : decode cX9_row 122 = .ok (.iload 5, 2) := by decide +kernel
theorem dX9_row_124 : decode cX9_row 124 = .ok (.invokestatic 195, 3) := by decide +kernel
theorem dX9_row_127 : decode cX9_row 127 = .ok (.goto 15, 3) := by decide +kernel
theorem dX9_row_130 : decode cX9_row 130 = .ok (.iload 5, 2) := by decide +kernel
theorem dX9_row_132 : decode cX9_row 132 = .ok (.bipush 8, 2) := by decide +kernel
theorem dX9_row_134 : decode cX9_row 134 = .ok (.if_icmp .ne 7, 3) := by decide +kernel
theorem dX9_row_137 : decode cX9_row 137 = .ok (.iconst 1, 1) := by decide +kernel
theorem dX9_row_138 : decode cX9_row 138 = .ok (.goto 4, 3) := by decide +kernel
theorem dX9_row_141 : decode cX9_row 141 = .ok (.iconst 0, 1) := by decide +kernel
theorem dX9_row_142 : decode cX9_row 142 = .ok (.iadd, 1) := by decide +kernel
theorem dX9_row_143 : decode cX9_row 143 = .ok (.istore_n 3, 1) := by decide +kernel
theorem dX9_row_144 : decode cX9_row 144 = .ok (.iinc 4 1, 3) := by decide +kernel
theorem dX9_row_147 : decode cX9_row 147 = .ok (.goto (-107), 3) := by decide +kernel
theorem dX9_row_150 : decode cX9_row 150 = .ok (.iload_n 3, 1) := by decide +kernel
theorem dX9_row_151 : decode cX9_row 151 = .ok (.ireturn, 1) := by decide +kernel
theorem dX9_at_0 : decode cX9_at 0 = .ok (.iload_n 0, 1) := by decide +kernel
theorem dX9_at_1 : decode cX9_at 1 = .ok (.bipush 80, 2) := by decide +kernel
theorem dX9_at_3 : decode cX9_at 3 = .ok (.imul, 1) := by decide +kernel
theorem dX9_at_4 : decode cX9_at 4 = .ok (.iload_n 1, 1) := by decide +kernel
theorem dX9_at_5 : decode cX9_at 5 = .ok (.iadd, 1) := by decide +kernel
theorem dX9_at_6 : decode cX9_at 6 = .ok (.bipush 81, 2) := by decide +kernel
theorem dX9_at_8 : decode cX9_at 8 = .ok (.imul, 1) := by decide +kernel
theorem dX9_at_9 : decode cX9_at 9 = .ok (.iload_n 2, 1) := by decide +kernel
theorem dX9_at_10 : decode cX9_at 10 = .ok (.iadd, 1) := by decide +kernel
theorem dX9_at_11 : decode cX9_at 11 = .ok (.ireturn, 1) := by decide +kernel
theorem dX9_isOver_0 : decode cX9_isOver 0 = .ok (.iload 4, 2) := by decide +kernel
theorem dX9_isOver_2 : decode cX9_isOver 2 = .ok (.istore 5, 2) := by decide +kernel
theorem dX9_isOver_4 : decode cX9_isOver 4 = .ok (.iload 5, 2) := by decide +kernel
theorem dX9_isOver_6 : decode cX9_isOver 6 = .ok (.iload_n 3, 1) := by decide +kernel
theorem dX9_isOver_7 : decode cX9_isOver 7 = .ok (.if_icmp .ge 45, 3) := by decide +kernel
theorem dX9_isOver_10 : decode cX9_isOver 10 = .ok (.aload_n 0, 1) := by decide +kernel
theorem dX9_isOver_11 : decode cX9_isOver 11 = .ok (.getfield 35, 3) := by decide +kernel
theorem dX9_isOver_14 : decode cX9_isOver 14 = .ok (.iload_n 1, 1) := by decide +kernel
theorem dX9_isOver_15 : decode cX9_isOver 15 = .ok (.bipush 80, 2) := by decide +kernel
theorem dX9_isOver_17 : decode cX9_isOver 17 = .ok (.imul, 1) := by decide +kernel
theorem dX9_isOver_18 : decode cX9_isOver 18 = .ok (.iload_n 2, 1) := by decide +kernel
theorem dX9_isOver_19 : decode cX9_isOver 19 = .ok (.iadd, 1) := by decide +kernel
theorem dX9_isOver_20 : decode cX9_isOver 20 = .ok (.iload 5, 2) := by decide +kernel
theorem dX9_isOver_22 : decode cX9_isOver 22 = .ok (.iadd, 1) := by decide +kernel
theorem dX9_isOver_23 : decode cX9_isOver 23 = .ok (.iaload, 1) := by decide +kernel
theorem dX9_isOver_24 : decode cX9_isOver 24 = .ok (.aload_n 0, 1) := by decide +kernel
theorem dX9_isOver_25 : decode cX9_isOver 25 = .ok (.getfield 35, 3) := by decide +kernel
theorem dX9_isOver_28 : decode cX9_isOver 28 = .ok (.iload_n 1, 1) := by decide +kernel
theorem dX9_isOver_29 : decode cX9_isOver 29 = .ok (.bipush 80, 2) := by decide +kernel
theorem dX9_isOver_31 : decode cX9_isOver 31 = .ok (.imul, 1) := by decide +kernel
theorem dX9_isOver_32 : decode cX9_isOver 32 = .ok (.iload_n 2, 1) := by decide +kernel
theorem dX9_isOver_33 : decode cX9_isOver 33 = .ok (.iadd, 1) := by decide +kernel
theorem dX9_isOver_34 : decode cX9_isOver 34 = .ok (.iload 5, 2) := by decide +kernel
theorem dX9_isOver_36 : decode cX9_isOver 36 = .ok (.iadd, 1) := by decide +kernel
theorem dX9_isOver_37 : decode cX9_isOver 37 = .ok (.iload 4, 2) := by decide +kernel
theorem dX9_isOver_39 : decode cX9_isOver 39 = .ok (.isub, 1) := by decide +kernel
theorem dX9_isOver_40 : decode cX9_isOver 40 = .ok (.iaload, 1) := by decide +kernel
theorem dX9_isOver_41 : decode cX9_isOver 41 = .ok (.if_icmp .eq 5, 3) := by decide +kernel
theorem dX9_isOver_44 : decode cX9_isOver 44 = .ok (.iconst 0, 1) := by decide +kernel
theorem dX9_isOver_45 : decode cX9_isOver 45 = .ok (.ireturn, 1) := by decide +kernel
theorem dX9_isOver_46 : decode cX9_isOver 46 = .ok (.iinc 5 1, 3) := by decide +kernel
theorem dX9_isOver_49 : decode cX9_isOver 49 = .ok (.goto (-45), 3) := by decide +kernel
theorem dX9_isOver_52 : decode cX9_isOver 52 = .ok (.iconst 1, 1) := by decide +kernel
theorem dX9_isOver_53 : decode cX9_isOver 53 = .ok (.ireturn, 1) := by decide +kernel
theorem dX9_reckon_0 : decode cX9_reckon 0 = .ok (.aload_n 0, 1) := by decide +kernel
theorem dX9_reckon_1 : decode cX9_reckon 1 = .ok (.getfield 32, 3) := by decide +kernel
theorem dX9_reckon_4 : decode cX9_reckon 4 = .ok (.iload_n 1, 1) := by decide +kernel
theorem dX9_reckon_5 : decode cX9_reckon 5 = .ok (.iaload, 1) := by decide +kernel
theorem dX9_reckon_6 : decode cX9_reckon 6 = .ok (.istore_n 2, 1) := by decide +kernel
theorem dX9_reckon_7 : decode cX9_reckon 7 = .ok (.iconst 1, 1) := by decide +kernel
theorem dX9_reckon_8 : decode cX9_reckon 8 = .ok (.istore_n 3, 1) := by decide +kernel
theorem dX9_reckon_9 : decode cX9_reckon 9 = .ok (.iload_n 3, 1) := by decide +kernel
theorem dX9_reckon_10 : decode cX9_reckon 10 = .ok (.iload_n 2, 1) := by decide +kernel
theorem dX9_reckon_11 : decode cX9_reckon 11 = .ok (.if_icmp .gt 249, 3) := by decide +kernel
theorem dX9_reckon_14 : decode cX9_reckon 14 = .ok (.iconst 4, 1) := by decide +kernel
theorem dX9_reckon_15 : decode cX9_reckon 15 = .ok (.istore 4, 2) := by decide +kernel
theorem dX9_reckon_17 : decode cX9_reckon 17 = .ok (.iload 4, 2) := by decide +kernel
theorem dX9_reckon_19 : decode cX9_reckon 19 = .ok (.ifCond .lt 235, 3) := by decide +kernel
theorem dX9_reckon_22 : decode cX9_reckon 22 = .ok (.iconst 0, 1) := by decide +kernel
theorem dX9_reckon_23 : decode cX9_reckon 23 = .ok (.istore 5, 2) := by decide +kernel
theorem dX9_reckon_25 : decode cX9_reckon 25 = .ok (.iload 5, 2) := by decide +kernel
theorem dX9_reckon_27 : decode cX9_reckon 27 = .ok (.iload_n 3, 1) := by decide +kernel
theorem dX9_reckon_28 : decode cX9_reckon 28 = .ok (.iadd, 1) := by decide +kernel
theorem dX9_reckon_29 : decode cX9_reckon 29 = .ok (.iload_n 2, 1) := by decide +kernel
theorem dX9_reckon_30 : decode cX9_reckon 30 = .ok (.if_icmp .gt 218, 3) := by decide +kernel
theorem dX9_reckon_33 : decode cX9_reckon 33 = .ok (.iload_n 3, 1) := by decide +kernel
theorem dX9_reckon_34 : decode cX9_reckon 34 = .ok (.iconst 1, 1) := by decide +kernel
theorem dX9_reckon_35 : decode cX9_reckon 35 = .ok (.if_icmp .ne 7, 3) := by decide +kernel
theorem dX9_reckon_38 : decode cX9_reckon 38 = .ok (.iconst 1, 1) := by decide +kernel
theorem dX9_reckon_39 : decode cX9_reckon 39 = .ok (.goto 5, 3) := by decide +kernel
theorem dX9_reckon_42 : decode cX9_reckon 42 = .ok (.ldc 220, 2) := by decide +kernel
theorem dX9_reckon_44 : decode cX9_reckon 44 = .ok (.istore 6, 2) := by decide +kernel
theorem dX9_reckon_46 : decode cX9_reckon 46 = .ok (.iconst 0, 1) := by decide +kernel
theorem dX9_reckon_47 : decode cX9_reckon 47 = .ok (.istore 7, 2) := by decide +kernel
theorem dX9_reckon_49 : decode cX9_reckon 49 = .ok (.iconst 1, 1) := by decide +kernel
theorem dX9_reckon_50 : decode cX9_reckon 50 = .ok (.istore 8, 2) := by decide +kernel
theorem dX9_reckon_52 : decode cX9_reckon 52 = .ok (.iload 8, 2) := by decide +kernel
theorem dX9_reckon_54 : decode cX9_reckon 54 = .ok (.iload_n 3, 1) := by decide +kernel
theorem dX9_reckon_55 : decode cX9_reckon 55 = .ok (.iconst 2, 1) := by decide +kernel
theorem dX9_reckon_56 : decode cX9_reckon 56 = .ok (.idiv, 1) := by decide +kernel
theorem dX9_reckon_57 : decode cX9_reckon 57 = .ok (.if_icmp .gt 85, 3) := by decide +kernel
theorem dX9_reckon_60 : decode cX9_reckon 60 = .ok (.iload 4, 2) := by decide +kernel
theorem dX9_reckon_62 : decode cX9_reckon 62 = .ok (.iconst 4, 1) := by decide +kernel
theorem dX9_reckon_63 : decode cX9_reckon 63 = .ok (.if_icmp .ge 79, 3) := by decide +kernel
theorem dX9_reckon_66 : decode cX9_reckon 66 = .ok (.iload_n 3, 1) := by decide +kernel
theorem dX9_reckon_67 : decode cX9_reckon 67 = .ok (.iload 8, 2) := by decide +kernel
theorem dX9_reckon_69 : decode cX9_reckon 69 = .ok (.irem, 1) := by decide +kernel
theorem dX9_reckon_70 : decode cX9_reckon 70 = .ok (.ifCond .ne 66, 3) := by decide +kernel
theorem dX9_reckon_73 : decode cX9_reckon 73 = .ok (.iconst 1, 1) := by decide +kernel
theorem dX9_reckon_74 : decode cX9_reckon 74 = .ok (.aload_n 0, 1) := by decide +kernel
theorem dX9_reckon_75 : decode cX9_reckon 75 = .ok (.getfield 56, 3) := by decide +kernel
theorem dX9_reckon_78 : decode cX9_reckon 78 = .ok (.iload 4, 2) := by decide +kernel
theorem dX9_reckon_80 : decode cX9_reckon 80 = .ok (.iconst 1, 1) := by decide +kernel
theorem dX9_reckon_81 : decode cX9_reckon 81 = .ok (.iadd, 1) := by decide +kernel
theorem dX9_reckon_82 : decode cX9_reckon 82 = .ok (.iload 5, 2) := by decide +kernel
theorem dX9_reckon_84 : decode cX9_reckon 84 = .ok (.iload 8, 2) := by decide +kernel
theorem dX9_reckon_86 : decode cX9_reckon 86 = .ok (.invokestatic 221, 3) := by decide +kernel
theorem dX9_reckon_89 : decode cX9_reckon 89 = .ok (.iaload, 1) := by decide +kernel
theorem dX9_reckon_90 : decode cX9_reckon 90 = .ok (.iadd, 1) := by decide +kernel
theorem dX9_reckon_91 : decode cX9_reckon 91 = .ok (.iload 6, 2) := by decide +kernel
theorem dX9_reckon_93 : decode cX9_reckon 93 = .ok (.if_icmp .ge 43, 3) := by decide +kernel
theorem dX9_reckon_96 : decode cX9_reckon 96 = .ok (.aload_n 0, 1) := by decide +kernel
theorem dX9_reckon_97 : decode cX9_reckon 97 = .ok (.iload_n 1, 1) := by decide +kernel
theorem dX9_reckon_98 : decode cX9_reckon 98 = .ok (.iload 5, 2) := by decide +kernel
theorem dX9_reckon_100 : decode cX9_reckon 100 = .ok (.iload_n 3, 1) := by decide +kernel
theorem dX9_reckon_101 : decode cX9_reckon 101 = .ok (.iload 8, 2) := by decide +kernel
theorem dX9_reckon_103 : decode cX9_reckon 103 = .ok (.invokevirtual 223, 3) := by decide +kernel
theorem dX9_reckon_106 : decode cX9_reckon 106 = .ok (.ifCond .ne 6, 3) := by decide +kernel
theorem dX9_reckon_109 : decode cX9_reckon 109 = .ok (.goto 27, 3) := by decide +kernel
theorem dX9_reckon_112 : decode cX9_reckon 112 = .ok (.iconst 1, 1) := by decide +kernel
theorem dX9_reckon_113 : decode cX9_reckon 113 = .ok (.aload_n 0, 1) := by decide +kernel
theorem dX9_reckon_114 : decode cX9_reckon 114 = .ok (.getfield 56, 3) := by decide +kernel
theorem dX9_reckon_117 : decode cX9_reckon 117 = .ok (.iload 4, 2) := by decide +kernel
theorem dX9_reckon_119 : decode cX9_reckon 119 = .ok (.iconst 1, 1) := by decide +kernel
theorem dX9_reckon_120 : decode cX9_reckon 120 = .ok (.iadd, 1) := by decide +kernel
theorem dX9_reckon_121 : decode cX9_reckon 121 = .ok (.iload 5, 2) := by decide +kernel
theorem dX9_reckon_123 : decode cX9_reckon 123 = .ok (.iload 8, 2) := by decide +kernel
theorem dX9_reckon_125 : decode cX9_reckon 125 = .ok (.invokestatic 221, 3) := by decide +kernel
theorem dX9_reckon_128 : decode cX9_reckon 128 = .ok (.iaload, 1) := by decide +kernel
theorem dX9_reckon_129 : decode cX9_reckon 129 = .ok (.iadd, 1) := by decide +kernel
theorem dX9_reckon_130 : decode cX9_reckon 130 = .ok (.istore 6, 2) := by decide +kernel
theorem dX9_reckon_132 : decode cX9_reckon 132 = .ok (.iload 8, 2) := by decide +kernel
theorem dX9_reckon_134 : decode cX9_reckon 134 = .ok (.istore 7, 2) := by decide +kernel
theorem dX9_reckon_136 : decode cX9_reckon 136 = .ok (.iinc 8 1, 3) := by decide +kernel
theorem dX9_reckon_139 : decode cX9_reckon 139 = .ok (.goto (-87), 3) := by decide +kernel
theorem dX9_reckon_142 : decode cX9_reckon 142 = .ok (.iconst 1, 1) := by decide +kernel
theorem dX9_reckon_143 : decode cX9_reckon 143 = .ok (.istore 8, 2) := by decide +kernel
theorem dX9_reckon_145 : decode cX9_reckon 145 = .ok (.iload 8, 2) := by decide +kernel
theorem dX9_reckon_147 : decode cX9_reckon 147 = .ok (.iload_n 3, 1) := by decide +kernel
theorem dX9_reckon_148 : decode cX9_reckon 148 = .ok (.if_icmp .ge 64, 3) := by decide +kernel
theorem dX9_reckon_151 : decode cX9_reckon 151 = .ok (.aload_n 0, 1) := by decide +kernel
theorem dX9_reckon_152 : decode cX9_reckon 152 = .ok (.getfield 56, 3) := by decide +kernel
theorem dX9_reckon_155 : decode cX9_reckon 155 = .ok (.iload 4, 2) := by decide +kernel
theorem dX9_reckon_157 : decode cX9_reckon 157 = .ok (.iload 5, 2) := by decide +kernel
theorem dX9_reckon_159 : decode cX9_reckon 159 = .ok (.iload 8, 2) := by decide +kernel
theorem dX9_reckon_161 : decode cX9_reckon 161 = .ok (.invokestatic 221, 3) := by decide +kernel
theorem dX9_reckon_164 : decode cX9_reckon 164 = .ok (.iaload, 1) := by decide +kernel
theorem dX9_reckon_165 : decode cX9_reckon 165 = .ok (.aload_n 0, 1) := by decide +kernel
theorem dX9_reckon_166 : decode cX9_reckon 166 = .ok (.getfield 56, 3) := by decide +kernel
theorem dX9_reckon_169 : decode cX9_reckon 169 = .ok (.iload 4, 2) := by decide +kernel
theorem dX9_reckon_171 : decode cX9_reckon 171 = .ok (.iload 5, 2) := by decide +kernel
theorem dX9_reckon_173 : decode cX9_reckon 173 = .ok (.iload 8, 2) := by decide +kernel
theorem dX9_reckon_175 : decode cX9_reckon 175 = .ok (.iadd, 1) := by decide +kernel
theorem dX9_reckon_176 : decode cX9_reckon 176 = .ok (.iload_n 3, 1) := by decide +kernel
theorem dX9_reckon_177 : decode cX9_reckon 177 = .ok (.iload 8, 2) := by decide +kernel
theorem dX9_reckon_179 : decode cX9_reckon 179 = .ok (.isub, 1) := by decide +kernel
theorem dX9_reckon_180 : decode cX9_reckon 180 = .ok (.invokestatic 221, 3) := by decide +kernel
theorem dX9_reckon_183 : decode cX9_reckon 183 = .ok (.iaload, 1) := by decide +kernel
theorem dX9_reckon_184 : decode cX9_reckon 184 = .ok (.iadd, 1) := by decide +kernel
theorem dX9_reckon_185 : decode cX9_reckon 185 = .ok (.istore 9, 2) := by decide +kernel
theorem dX9_reckon_187 : decode cX9_reckon 187 = .ok (.iload 9, 2) := by decide +kernel
theorem dX9_reckon_189 : decode cX9_reckon 189 = .ok (.iload 6, 2) := by decide +kernel
theorem dX9_reckon_191 : decode cX9_reckon 191 = .ok (.if_icmp .lt 6, 3) := by decide +kernel
theorem dX9_reckon_194 : decode cX9_reckon 194 = .ok (.goto 12, 3) := by decide +kernel
theorem dX9_reckon_197 : decode cX9_reckon 197 = .ok (.iload 9, 2) := by decide +kernel
theorem dX9_reckon_199 : decode cX9_reckon 199 = .ok (.istore 6, 2) := by decide +kernel
theorem dX9_reckon_201 : decode cX9_reckon 201 = .ok (.iload 8, 2) := by decide +kernel
theorem dX9_reckon_203 : decode cX9_reckon 203 = .ok (.ineg, 1) := by decide +kernel
theorem dX9_reckon_204 : decode cX9_reckon 204 = .ok (.istore 7, 2) := by decide +kernel
theorem dX9_reckon_206 : decode cX9_reckon 206 = .ok (.iinc 8 1, 3) := by decide +kernel
theorem dX9_reckon_209 : decode cX9_reckon 209 = .ok (.goto (-64), 3) := by decide +kernel
theorem dX9_reckon_212 : decode cX9_reckon 212 = .ok (.aload_n 0, 1) := by decide +kernel
theorem dX9_reckon_213 : decode cX9_reckon 213 = .ok (.getfield 56, 3) := by decide +kernel
theorem dX9_reckon_216 : decode cX9_reckon 216 = .ok (.iload 4, 2) := by decide +kernel
theorem dX9_reckon_218 : decode cX9_reckon 218 = .ok (.iload 5, 2) := by decide +kernel
theorem dX9_reckon_220 : decode cX9_reckon 220 = .ok (.iload_n 3, 1) := by decide +kernel
theorem dX9_reckon_221 : decode cX9_reckon 221 = .ok (.invokestatic 221, 3) := by decide +kernel
theorem dX9_reckon_224 : decode cX9_reckon 224 = .ok (.iload 6, 2) := by decide +kernel
theorem dX9_reckon_226 : decode cX9_reckon 226 = .ok (.iastore, 1) := by decide +kernel
theorem dX9_reckon_227 : decode cX9_reckon 227 = .ok (.aload_n 0, 1) := by decide +kernel
theorem dX9_reckon_228 : decode cX9_reckon 228 = .ok (.getfield 59, 3) := by decide +kernel
theorem dX9_reckon_231 : decode cX9_reckon 231 = .ok (.iload 4, 2) := by decide +kernel
theorem dX9_reckon_233 : decode cX9_reckon 233 = .ok (.iload 5, 2) := by decide +kernel
theorem dX9_reckon_235 : decode cX9_reckon 235 = .ok (.iload_n 3, 1) := by decide +kernel
theorem dX9_reckon_236 : decode cX9_reckon 236 = .ok (.invokestatic 221, 3) := by decide +kernel
theorem dX9_reckon_239 : decode cX9_reckon 239 = .ok (.iload 7, 2) := by decide +kernel
theorem dX9_reckon_241 : decode cX9_reckon 241 = .ok (.iastore, 1) := by decide +kernel
theorem dX9_reckon_242 : decode cX9_reckon 242 = .ok (.iinc 5 1, 3) := by decide +kernel
theorem dX9_reckon_245 : decode cX9_reckon 245 = .ok (.goto (-220), 3) := by decide +kernel
theorem dX9_reckon_248 : decode cX9_reckon 248 = .ok (.iinc 4 (-1), 3) := by decide +kernel
theorem dX9_reckon_251 : decode cX9_reckon 251 = .ok (.goto (-234), 3) := by decide +kernel
theorem dX9_reckon_254 : decode cX9_reckon 254 = .ok (.iinc 3 1, 3) := by decide +kernel
theorem dX9_reckon_257 : decode cX9_reckon 257 = .ok (.goto (-248), 3) := by decide +kernel
theorem dX9_reckon_260 : decode cX9_reckon 260 = .ok (.return_, 1) := by decide +kernel
theorem dX9_put_0 : decode cX9_put 0 = .ok (.aload_n 0, 1) := by decide +kernel
theorem dX9_put_1 : decode cX9_put 1 = .ok (.getfield 53, 3) := by decide +kernel
theorem dX9_put_4 : decode cX9_put 4 = .ok (.aload_n 0, 1) := by decide +kernel
theorem dX9_put_5 : decode cX9_put 5 = .ok (.getfield 89, 3) := by decide +kernel
theorem dX9_put_8 : decode cX9_put 8 = .ok (.iload_n 1, 1) := by decide +kernel
theorem dX9_put_9 : decode cX9_put 9 = .ok (.iastore, 1) := by decide +kernel
theorem dX9_put_10 : decode cX9_put 10 = .ok (.aload_n 0, 1) := by decide +kernel
theorem dX9_put_11 : decode cX9_put 11 = .ok (.dup, 1) := by decide +kernel
theorem dX9_put_12 : decode cX9_put 12 = .ok (.getfield 89, 3) := by decide +kernel
theorem dX9_put_15 : decode cX9_put 15 = .ok (.iconst 1, 1) := by decide +kernel
theorem dX9_put_16 : decode cX9_put 16 = .ok (.iadd, 1) := by decide +kernel
theorem dX9_put_17 : decode cX9_put 17 = .ok (.putfield 89, 3) := by decide +kernel
theorem dX9_put_20 : decode cX9_put 20 = .ok (.return_, 1) := by decide +kernel
theorem dX9_spell_0 : decode cX9_spell 0 = .ok (.bipush 56, 2) := by decide +kernel
theorem dX9_spell_2 : decode cX9_spell 2 = .ok (.istore_n 3, 1) := by decide +kernel
theorem dX9_spell_3 : decode cX9_spell 3 = .ok (.iload_n 3, 1) := by decide +kernel
theorem dX9_spell_4 : decode cX9_spell 4 = .ok (.ifCond .lt 33, 3) := by decide +kernel
theorem dX9_spell_7 : decode cX9_spell 7 = .ok (.lload_n 1, 1) := by decide +kernel
theorem dX9_spell_8 : decode cX9_spell 8 = .ok (.iload_n 3, 1) := by decide +kernel
theorem dX9_spell_9 : decode cX9_spell 9 = .ok (.lushr, 1) := by decide +kernel
theorem dX9_spell_10 : decode cX9_spell 10 = .ok (.ldc2_w 227, 3) := by decide +kernel
theorem dX9_spell_13 : decode cX9_spell 13 = .ok (.land, 1) := by decide +kernel
theorem dX9_spell_14 : decode cX9_spell 14 = .ok (.lconst 0, 1) := by decide +kernel
theorem dX9_spell_15 : decode cX9_spell 15 = .ok (.lcmp, 1) := by decide +kernel
theorem dX9_spell_16 : decode cX9_spell 16 = .ok (.ifCond .eq 15, 3) := by decide +kernel
theorem dX9_spell_19 : decode cX9_spell 19 = .ok (.aload_n 0, 1) := by decide +kernel
theorem dX9_spell_20 : decode cX9_spell 20 = .ok (.lload_n 1, 1) := by decide +kernel
theorem dX9_spell_21 : decode cX9_spell 21 = .ok (.iload_n 3, 1) := by decide +kernel
theorem dX9_spell_22 : decode cX9_spell 22 = .ok (.lushr, 1) := by decide +kernel
theorem dX9_spell_23 : decode cX9_spell 23 = .ok (.ldc2_w 227, 3) := by decide +kernel
theorem dX9_spell_26 : decode cX9_spell 26 = .ok (.land, 1) := by decide +kernel
theorem dX9_spell_27 : decode cX9_spell 27 = .ok (.l2i, 1) := by decide +kernel
theorem dX9_spell_28 : decode cX9_spell 28 = .ok (.invokevirtual 229, 3) := by decide +kernel
theorem dX9_spell_31 : decode cX9_spell 31 = .ok (.iinc 3 (-8), 3) := by decide +kernel
theorem dX9_spell_34 : decode cX9_spell 34 = .ok (.goto (-31), 3) := by decide +kernel
theorem dX9_spell_37 : decode cX9_spell 37 = .ok (.return_, 1) := by decide +kernel
theorem dX9_name_0 : decode cX9_name 0 = .ok (.iload_n 1, 1) := by decide +kernel
theorem dX9_name_1 : decode cX9_name 1 = .ok (.bipush 100, 2) := by decide +kernel
theorem dX9_name_3 : decode cX9_name 3 = .ok (.if_icmp .ge 7, 3) := by decide +kernel
theorem dX9_name_6 : decode cX9_name 6 = .ok (.iload_n 1, 1) := by decide +kernel
theorem dX9_name_7 : decode cX9_name 7 = .ok (.goto 5, 3) := by decide +kernel
theorem dX9_name_10 : decode cX9_name 10 = .ok (.bipush 10, 2) := by decide +kernel
theorem dX9_name_12 : decode cX9_name 12 = .ok (.tableswitch 156 0 9 #[56, 66, 76, 86, 96, 106, 116, 126, 136, 146], 56) := by decide +kernel
theorem dX9_name_68 : decode cX9_name 68 = .ok (.aload_n 0, 1) := by decide +kernel
theorem dX9_name_69 : decode cX9_name 69 = .ok (.ldc2_w 232, 3) := by decide +kernel
theorem dX9_name_72 : decode cX9_name 72 = .ok (.invokevirtual 234, 3) := by decide +kernel
theorem dX9_name_75 : decode cX9_name 75 = .ok (.goto 145, 3) := by decide +kernel
theorem dX9_name_78 : decode cX9_name 78 = .ok (.aload_n 0, 1) := by decide +kernel
theorem dX9_name_79 : decode cX9_name 79 = .ok (.ldc2_w 238, 3) := by decide +kernel
theorem dX9_name_82 : decode cX9_name 82 = .ok (.invokevirtual 234, 3) := by decide +kernel
theorem dX9_name_85 : decode cX9_name 85 = .ok (.goto 135, 3) := by decide +kernel
theorem dX9_name_88 : decode cX9_name 88 = .ok (.aload_n 0, 1) := by decide +kernel
theorem dX9_name_89 : decode cX9_name 89 = .ok (.ldc2_w 240, 3) := by decide +kernel
theorem dX9_name_92 : decode cX9_name 92 = .ok (.invokevirtual 234, 3) := by decide +kernel
theorem dX9_name_95 : decode cX9_name 95 = .ok (.goto 125, 3) := by decide +kernel
theorem dX9_name_98 : decode cX9_name 98 = .ok (.aload_n 0, 1) := by decide +kernel
theorem dX9_name_99 : decode cX9_name 99 = .ok (.ldc2_w 242, 3) := by decide +kernel
theorem dX9_name_102 : decode cX9_name 102 = .ok (.invokevirtual 234, 3) := by decide +kernel
theorem dX9_name_105 : decode cX9_name 105 = .ok (.goto 115, 3) := by decide +kernel
theorem dX9_name_108 : decode cX9_name 108 = .ok (.aload_n 0, 1) := by decide +kernel
theorem dX9_name_109 : decode cX9_name 109 = .ok (.ldc2_w 244, 3) := by decide +kernel
theorem dX9_name_112 : decode cX9_name 112 = .ok (.invokevirtual 234, 3) := by decide +kernel
theorem dX9_name_115 : decode cX9_name 115 = .ok (.goto 105, 3) := by decide +kernel
theorem dX9_name_118 : decode cX9_name 118 = .ok (.aload_n 0, 1) := by decide +kernel
theorem dX9_name_119 : decode cX9_name 119 = .ok (.ldc2_w 246, 3) := by decide +kernel
theorem dX9_name_122 : decode cX9_name 122 = .ok (.invokevirtual 234, 3) := by decide +kernel
theorem dX9_name_125 : decode cX9_name 125 = .ok (.goto 95, 3) := by decide +kernel
theorem dX9_name_128 : decode cX9_name 128 = .ok (.aload_n 0, 1) := by decide +kernel
theorem dX9_name_129 : decode cX9_name 129 = .ok (.ldc2_w 248, 3) := by decide +kernel
theorem dX9_name_132 : decode cX9_name 132 = .ok (.invokevirtual 234, 3) := by decide +kernel
theorem dX9_name_135 : decode cX9_name 135 = .ok (.goto 85, 3) := by decide +kernel
theorem dX9_name_138 : decode cX9_name 138 = .ok (.aload_n 0, 1) := by decide +kernel
theorem dX9_name_139 : decode cX9_name 139 = .ok (.ldc2_w 250, 3) := by decide +kernel
theorem dX9_name_142 : decode cX9_name 142 = .ok (.invokevirtual 234, 3) := by decide +kernel
theorem dX9_name_145 : decode cX9_name 145 = .ok (.goto 75, 3) := by decide +kernel
theorem dX9_name_148 : decode cX9_name 148 = .ok (.aload_n 0, 1) := by decide +kernel
theorem dX9_name_149 : decode cX9_name 149 = .ok (.ldc2_w 252, 3) := by decide +kernel
theorem dX9_name_152 : decode cX9_name 152 = .ok (.invokevirtual 234, 3) := by decide +kernel
theorem dX9_name_155 : decode cX9_name 155 = .ok (.goto 65, 3) := by decide +kernel
theorem dX9_name_158 : decode cX9_name 158 = .ok (.aload_n 0, 1) := by decide +kernel
theorem dX9_name_159 : decode cX9_name 159 = .ok (.ldc2_w 254, 3) := by decide +kernel
theorem dX9_name_162 : decode cX9_name 162 = .ok (.invokevirtual 234, 3) := by decide +kernel
theorem dX9_name_165 : decode cX9_name 165 = .ok (.goto 55, 3) := by decide +kernel
theorem dX9_name_168 : decode cX9_name 168 = .ok (.aload_n 0, 1) := by decide +kernel
theorem dX9_name_169 : decode cX9_name 169 = .ok (.bipush 99, 2) := by decide +kernel
theorem dX9_name_171 : decode cX9_name 171 = .ok (.invokevirtual 229, 3) := by decide +kernel
theorem dX9_name_174 : decode cX9_name 174 = .ok (.aload_n 0, 1) := by decide +kernel
theorem dX9_name_175 : decode cX9_name 175 = .ok (.bipush 48, 2) := by decide +kernel
theorem dX9_name_177 : decode cX9_name 177 = .ok (.iload_n 1, 1) := by decide +kernel
theorem dX9_name_178 : decode cX9_name 178 = .ok (.invokestatic 176, 3) := by decide +kernel
theorem dX9_name_181 : decode cX9_name 181 = .ok (.iadd, 1) := by decide +kernel
theorem dX9_name_182 : decode cX9_name 182 = .ok (.invokevirtual 229, 3) := by decide +kernel
theorem dX9_name_185 : decode cX9_name 185 = .ok (.aload_n 0, 1) := by decide +kernel
theorem dX9_name_186 : decode cX9_name 186 = .ok (.bipush 47, 2) := by decide +kernel
theorem dX9_name_188 : decode cX9_name 188 = .ok (.invokevirtual 229, 3) := by decide +kernel
theorem dX9_name_191 : decode cX9_name 191 = .ok (.aload_n 0, 1) := by decide +kernel
theorem dX9_name_192 : decode cX9_name 192 = .ok (.bipush 48, 2) := by decide +kernel
theorem dX9_name_194 : decode cX9_name 194 = .ok (.iload_n 1, 1) := by decide +kernel
theorem dX9_name_195 : decode cX9_name 195 = .ok (.invokestatic 179, 3) := by decide +kernel
theorem dX9_name_198 : decode cX9_name 198 = .ok (.iadd, 1) := by decide +kernel
theorem dX9_name_199 : decode cX9_name 199 = .ok (.invokevirtual 229, 3) := by decide +kernel
theorem dX9_name_202 : decode cX9_name 202 = .ok (.aload_n 0, 1) := by decide +kernel
theorem dX9_name_203 : decode cX9_name 203 = .ok (.iload_n 1, 1) := by decide +kernel
theorem dX9_name_204 : decode cX9_name 204 = .ok (.bipush 10, 2) := by decide +kernel
theorem dX9_name_206 : decode cX9_name 206 = .ok (.irem, 1) := by decide +kernel
theorem dX9_name_207 : decode cX9_name 207 = .ok (.ifCond .ne 8, 3) := by decide +kernel
theorem dX9_name_210 : decode cX9_name 210 = .ok (.bipush 102, 2) := by decide +kernel
theorem dX9_name_212 : decode cX9_name 212 = .ok (.goto 5, 3) := by decide +kernel
theorem dX9_name_215 : decode cX9_name 215 = .ok (.bipush 98, 2) := by decide +kernel
theorem dX9_name_217 : decode cX9_name 217 = .ok (.invokevirtual 229, 3) := by decide +kernel
theorem dX9_name_220 : decode cX9_name 220 = .ok (.return_, 1) := by decide +kernel
theorem dX9_push_0 : decode cX9_push 0 = .ok (.aload_n 0, 1) := by decide +kernel
theorem dX9_push_1 : decode cX9_push 1 = .ok (.getfield 68, 3) := by decide +kernel
theorem dX9_push_4 : decode cX9_push 4 = .ok (.iconst 3, 1) := by decide +kernel
theorem dX9_push_5 : decode cX9_push 5 = .ok (.iload_n 1, 1) := by decide +kernel
theorem dX9_push_6 : decode cX9_push 6 = .ok (.imul, 1) := by decide +kernel
theorem dX9_push_7 : decode cX9_push 7 = .ok (.iload_n 2, 1) := by decide +kernel
theorem dX9_push_8 : decode cX9_push 8 = .ok (.iastore, 1) := by decide +kernel
theorem dX9_push_9 : decode cX9_push 9 = .ok (.aload_n 0, 1) := by decide +kernel
theorem dX9_push_10 : decode cX9_push 10 = .ok (.getfield 68, 3) := by decide +kernel
theorem dX9_push_13 : decode cX9_push 13 = .ok (.iconst 3, 1) := by decide +kernel
theorem dX9_push_14 : decode cX9_push 14 = .ok (.iload_n 1, 1) := by decide +kernel
theorem dX9_push_15 : decode cX9_push 15 = .ok (.imul, 1) := by decide +kernel
theorem dX9_push_16 : decode cX9_push 16 = .ok (.iconst 1, 1) := by decide +kernel
theorem dX9_push_17 : decode cX9_push 17 = .ok (.iadd, 1) := by decide +kernel
theorem dX9_push_18 : decode cX9_push 18 = .ok (.iload_n 3, 1) := by decide +kernel
theorem dX9_push_19 : decode cX9_push 19 = .ok (.iastore, 1) := by decide +kernel
theorem dX9_push_20 : decode cX9_push 20 = .ok (.aload_n 0, 1) := by decide +kernel
theorem dX9_push_21 : decode cX9_push 21 = .ok (.getfield 68, 3) := by decide +kernel
theorem dX9_push_24 : decode cX9_push 24 = .ok (.iconst 3, 1) := by decide +kernel
theorem dX9_push_25 : decode cX9_push 25 = .ok (.iload_n 1, 1) := by decide +kernel
theorem dX9_push_26 : decode cX9_push 26 = .ok (.imul, 1) := by decide +kernel
theorem dX9_push_27 : decode cX9_push 27 = .ok (.iconst 2, 1) := by decide +kernel
theorem dX9_push_28 : decode cX9_push 28 = .ok (.iadd, 1) := by decide +kernel
theorem dX9_push_29 : decode cX9_push 29 = .ok (.iload 4, 2) := by decide +kernel
theorem dX9_push_31 : decode cX9_push 31 = .ok (.iastore, 1) := by decide +kernel
theorem dX9_push_32 : decode cX9_push 32 = .ok (.iload_n 1, 1) := by decide +kernel
theorem dX9_push_33 : decode cX9_push 33 = .ok (.iconst 1, 1) := by decide +kernel
theorem dX9_push_34 : decode cX9_push 34 = .ok (.iadd, 1) := by decide +kernel
theorem dX9_push_35 : decode cX9_push 35 = .ok (.ireturn, 1) := by decide +kernel
theorem dX9_ends_0 : decode cX9_ends 0 = .ok (.iload_n 1, 1) := by decide +kernel
theorem dX9_ends_1 : decode cX9_ends 1 = .ok (.ifCond .ne 10, 3) := by decide +kernel
theorem dX9_ends_4 : decode cX9_ends 4 = .ok (.aload_n 0, 1) := by decide +kernel
theorem dX9_ends_5 : decode cX9_ends 5 = .ok (.bipush 44, 2) := by decide +kernel
theorem dX9_ends_7 : decode cX9_ends 7 = .ok (.invokevirtual 229, 3) := by decide +kernel
theorem dX9_ends_10 : decode cX9_ends 10 = .ok (.return_, 1) := by decide +kernel
theorem dX9_ends_11 : decode cX9_ends 11 = .ok (.aload_n 0, 1) := by decide +kernel
theorem dX9_ends_12 : decode cX9_ends 12 = .ok (.bipush 41, 2) := by decide +kernel
theorem dX9_ends_14 : decode cX9_ends 14 = .ok (.invokevirtual 229, 3) := by decide +kernel
theorem dX9_ends_17 : decode cX9_ends 17 = .ok (.aload_n 0, 1) := by decide +kernel
theorem dX9_ends_18 : decode cX9_ends 18 = .ok (.bipush 120, 2) := by decide +kernel
theorem dX9_ends_20 : decode cX9_ends 20 = .ok (.invokevirtual 229, 3) := by decide +kernel
theorem dX9_ends_23 : decode cX9_ends 23 = .ok (.iload_n 1, 1) := by decide +kernel
theorem dX9_ends_24 : decode cX9_ends 24 = .ok (.bipush 9, 2) := by decide +kernel
theorem dX9_ends_26 : decode cX9_ends 26 = .ok (.if_icmp .le 14, 3) := by decide +kernel
theorem dX9_ends_29 : decode cX9_ends 29 = .ok (.aload_n 0, 1) := by decide +kernel
theorem dX9_ends_30 : decode cX9_ends 30 = .ok (.bipush 48, 2) := by decide +kernel
theorem dX9_ends_32 : decode cX9_ends 32 = .ok (.iload_n 1, 1) := by decide +kernel
theorem dX9_ends_33 : decode cX9_ends 33 = .ok (.bipush 10, 2) := by decide +kernel
theorem dX9_ends_35 : decode cX9_ends 35 = .ok (.idiv, 1) := by decide +kernel
theorem dX9_ends_36 : decode cX9_ends 36 = .ok (.iadd, 1) := by decide +kernel
theorem dX9_ends_37 : decode cX9_ends 37 = .ok (.invokevirtual 229, 3) := by decide +kernel
theorem dX9_ends_40 : decode cX9_ends 40 = .ok (.aload_n 0, 1) := by decide +kernel
theorem dX9_ends_41 : decode cX9_ends 41 = .ok (.bipush 48, 2) := by decide +kernel
theorem dX9_ends_43 : decode cX9_ends 43 = .ok (.iload_n 1, 1) := by decide +kernel
theorem dX9_ends_44 : decode cX9_ends 44 = .ok (.bipush 10, 2) := by decide +kernel
theorem dX9_ends_46 : decode cX9_ends 46 = .ok (.irem, 1) := by decide +kernel
theorem dX9_ends_47 : decode cX9_ends 47 = .ok (.iadd, 1) := by decide +kernel
theorem dX9_ends_48 : decode cX9_ends 48 = .ok (.invokevirtual 229, 3) := by decide +kernel
theorem dX9_ends_51 : decode cX9_ends 51 = .ok (.return_, 1) := by decide +kernel
theorem dX9_tell_0 : decode cX9_tell 0 = .ok (.aload_n 0, 1) := by decide +kernel
theorem dX9_tell_1 : decode cX9_tell 1 = .ok (.iconst 0, 1) := by decide +kernel
theorem dX9_tell_2 : decode cX9_tell 2 = .ok (.iconst 0, 1) := by decide +kernel
theorem dX9_tell_3 : decode cX9_tell 3 = .ok (.iconst 0, 1) := by decide +kernel
theorem dX9_tell_4 : decode cX9_tell 4 = .ok (.aload_n 0, 1) := by decide +kernel
theorem dX9_tell_5 : decode cX9_tell 5 = .ok (.getfield 32, 3) := by decide +kernel
theorem dX9_tell_8 : decode cX9_tell 8 = .ok (.iload_n 1, 1) := by decide +kernel
theorem dX9_tell_9 : decode cX9_tell 9 = .ok (.iaload, 1) := by decide +kernel
theorem dX9_tell_10 : decode cX9_tell 10 = .ok (.invokevirtual 256, 3) := by decide +kernel
theorem dX9_tell_13 : decode cX9_tell 13 = .ok (.istore_n 2, 1) := by decide +kernel
theorem dX9_tell_14 : decode cX9_tell 14 = .ok (.iload_n 2, 1) := by decide +kernel
theorem dX9_tell_15 : decode cX9_tell 15 = .ok (.ifCond .le 173, 3) := by decide +kernel
theorem dX9_tell_18 : decode cX9_tell 18 = .ok (.iinc 2 (-1), 3) := by decide +kernel
theorem dX9_tell_21 : decode cX9_tell 21 = .ok (.aload_n 0, 1) := by decide +kernel
theorem dX9_tell_22 : decode cX9_tell 22 = .ok (.getfield 68, 3) := by decide +kernel
theorem dX9_tell_25 : decode cX9_tell 25 = .ok (.iconst 3, 1) := by decide +kernel
theorem dX9_tell_26 : decode cX9_tell 26 = .ok (.iload_n 2, 1) := by decide +kernel
theorem dX9_tell_27 : decode cX9_tell 27 = .ok (.imul, 1) := by decide +kernel
theorem dX9_tell_28 : decode cX9_tell 28 = .ok (.iaload, 1) := by decide +kernel
theorem dX9_tell_29 : decode cX9_tell 29 = .ok (.istore_n 3, 1) := by decide +kernel
theorem dX9_tell_30 : decode cX9_tell 30 = .ok (.aload_n 0, 1) := by decide +kernel
theorem dX9_tell_31 : decode cX9_tell 31 = .ok (.getfield 68, 3) := by decide +kernel
theorem dX9_tell_34 : decode cX9_tell 34 = .ok (.iconst 3, 1) := by decide +kernel
theorem dX9_tell_35 : decode cX9_tell 35 = .ok (.iload_n 2, 1) := by decide +kernel
theorem dX9_tell_36 : decode cX9_tell 36 = .ok (.imul, 1) := by decide +kernel
theorem dX9_tell_37 : decode cX9_tell 37 = .ok (.iconst 1, 1) := by decide +kernel
theorem dX9_tell_38 : decode cX9_tell 38 = .ok (.iadd, 1) := by decide +kernel
theorem dX9_tell_39 : decode cX9_tell 39 = .ok (.iaload, 1) := by decide +kernel
theorem dX9_tell_40 : decode cX9_tell 40 = .ok (.istore 4, 2) := by decide +kernel
theorem dX9_tell_42 : decode cX9_tell 42 = .ok (.aload_n 0, 1) := by decide +kernel
theorem dX9_tell_43 : decode cX9_tell 43 = .ok (.getfield 68, 3) := by decide +kernel
theorem dX9_tell_46 : decode cX9_tell 46 = .ok (.iconst 3, 1) := by decide +kernel
theorem dX9_tell_47 : decode cX9_tell 47 = .ok (.iload_n 2, 1) := by decide +kernel
theorem dX9_tell_48 : decode cX9_tell 48 = .ok (.imul, 1) := by decide +kernel
theorem dX9_tell_49 : decode cX9_tell 49 = .ok (.iconst 2, 1) := by decide +kernel
theorem dX9_tell_50 : decode cX9_tell 50 = .ok (.iadd, 1) := by decide +kernel
theorem dX9_tell_51 : decode cX9_tell 51 = .ok (.iaload, 1) := by decide +kernel
theorem dX9_tell_52 : decode cX9_tell 52 = .ok (.istore 5, 2) := by decide +kernel
theorem dX9_tell_54 : decode cX9_tell 54 = .ok (.iload_n 3, 1) := by decide +kernel
theorem dX9_tell_55 : decode cX9_tell 55 = .ok (.ifCond .ge 12, 3) := by decide +kernel
theorem dX9_tell_58 : decode cX9_tell 58 = .ok (.aload_n 0, 1) := by decide +kernel
theorem dX9_tell_59 : decode cX9_tell 59 = .ok (.iload 5, 2) := by decide +kernel
theorem dX9_tell_61 : decode cX9_tell 61 = .ok (.invokevirtual 260, 3) := by decide +kernel
theorem dX9_tell_64 : decode cX9_tell 64 = .ok (.goto (-50), 3) := by decide +kernel
theorem dX9_tell_67 : decode cX9_tell 67 = .ok (.aload_n 0, 1) := by decide +kernel
theorem dX9_tell_68 : decode cX9_tell 68 = .ok (.getfield 59, 3) := by decide +kernel
theorem dX9_tell_71 : decode cX9_tell 71 = .ok (.iload_n 3, 1) := by decide +kernel
theorem dX9_tell_72 : decode cX9_tell 72 = .ok (.iload 4, 2) := by decide +kernel
theorem dX9_tell_74 : decode cX9_tell 74 = .ok (.iload 5, 2) := by decide +kernel
theorem dX9_tell_76 : decode cX9_tell 76 = .ok (.invokestatic 221, 3) := by decide +kernel
theorem dX9_tell_79 : decode cX9_tell 79 = .ok (.iaload, 1) := by decide +kernel
theorem dX9_tell_80 : decode cX9_tell 80 = .ok (.istore 6, 2) := by decide +kernel
theorem dX9_tell_82 : decode cX9_tell 82 = .ok (.iload 5, 2) := by decide +kernel
theorem dX9_tell_84 : decode cX9_tell 84 = .ok (.iconst 1, 1) := by decide +kernel
theorem dX9_tell_85 : decode cX9_tell 85 = .ok (.if_icmp .ne 22, 3) := by decide +kernel
theorem dX9_tell_88 : decode cX9_tell 88 = .ok (.aload_n 0, 1) := by decide +kernel
theorem dX9_tell_89 : decode cX9_tell 89 = .ok (.aload_n 0, 1) := by decide +kernel
theorem dX9_tell_90 : decode cX9_tell 90 = .ok (.getfield 35, 3) := by decide +kernel
theorem dX9_tell_93 : decode cX9_tell 93 = .ok (.iload_n 1, 1) := by decide +kernel
theorem dX9_tell_94 : decode cX9_tell 94 = .ok (.bipush 80, 2) := by decide +kernel
theorem dX9_tell_96 : decode cX9_tell 96 = .ok (.imul, 1) := by decide +kernel
theorem dX9_tell_97 : decode cX9_tell 97 = .ok (.iload 4, 2) := by decide +kernel
theorem dX9_tell_99 : decode cX9_tell 99 = .ok (.iadd, 1) := by decide +kernel
theorem dX9_tell_100 : decode cX9_tell 100 = .ok (.iaload, 1) := by decide +kernel
theorem dX9_tell_101 : decode cX9_tell 101 = .ok (.invokevirtual 263, 3) := by decide +kernel
theorem dX9_tell_104 : decode cX9_tell 104 = .ok (.goto 81, 3) := by decide +kernel
theorem dX9_tell_107 : decode cX9_tell 107 = .ok (.iload 6, 2) := by decide +kernel
theorem dX9_tell_109 : decode cX9_tell 109 = .ok (.ifCond .le 38, 3) := by decide +kernel
theorem dX9_tell_112 : decode cX9_tell 112 = .ok (.aload_n 0, 1) := by decide +kernel
theorem dX9_tell_113 : decode cX9_tell 113 = .ok (.bipush 40, 2) := by decide +kernel
theorem dX9_tell_115 : decode cX9_tell 115 = .ok (.invokevirtual 229, 3) := by decide +kernel
theorem dX9_tell_118 : decode cX9_tell 118 = .ok (.aload_n 0, 1) := by decide +kernel
theorem dX9_tell_119 : decode cX9_tell 119 = .ok (.iload_n 2, 1) := by decide +kernel
theorem dX9_tell_120 : decode cX9_tell 120 = .ok (.iconst (-1), 1) := by decide +kernel
theorem dX9_tell_121 : decode cX9_tell 121 = .ok (.iconst 0, 1) := by decide +kernel
theorem dX9_tell_122 : decode cX9_tell 122 = .ok (.iload 5, 2) := by decide +kernel
theorem dX9_tell_124 : decode cX9_tell 124 = .ok (.iload 6, 2) := by decide +kernel
theorem dX9_tell_126 : decode cX9_tell 126 = .ok (.idiv, 1) := by decide +kernel
theorem dX9_tell_127 : decode cX9_tell 127 = .ok (.invokevirtual 256, 3) := by decide +kernel
theorem dX9_tell_130 : decode cX9_tell 130 = .ok (.istore_n 2, 1) := by decide +kernel
theorem dX9_tell_131 : decode cX9_tell 131 = .ok (.aload_n 0, 1) := by decide +kernel
theorem dX9_tell_132 : decode cX9_tell 132 = .ok (.iload_n 2, 1) := by decide +kernel
theorem dX9_tell_133 : decode cX9_tell 133 = .ok (.iload_n 3, 1) := by decide +kernel
theorem dX9_tell_134 : decode cX9_tell 134 = .ok (.iconst 1, 1) := by decide +kernel
theorem dX9_tell_135 : decode cX9_tell 135 = .ok (.iadd, 1) := by decide +kernel
theorem dX9_tell_136 : decode cX9_tell 136 = .ok (.iload 4, 2) := by decide +kernel
theorem dX9_tell_138 : decode cX9_tell 138 = .ok (.iload 6, 2) := by decide +kernel
theorem dX9_tell_140 : decode cX9_tell 140 = .ok (.invokevirtual 256, 3) := by decide +kernel
theorem dX9_tell_143 : decode cX9_tell 143 = .ok (.istore_n 2, 1) := by decide +kernel
theorem dX9_tell_144 : decode cX9_tell 144 = .ok (.goto 41, 3) := by decide +kernel
theorem dX9_tell_147 : decode cX9_tell 147 = .ok (.aload_n 0, 1) := by decide +kernel
theorem dX9_tell_148 : decode cX9_tell 148 = .ok (.iload_n 2, 1) := by decide +kernel
theorem dX9_tell_149 : decode cX9_tell 149 = .ok (.iload_n 3, 1) := by decide +kernel
theorem dX9_tell_150 : decode cX9_tell 150 = .ok (.iload 4, 2) := by decide +kernel
theorem dX9_tell_152 : decode cX9_tell 152 = .ok (.iload 6, 2) := by decide +kernel
theorem dX9_tell_154 : decode cX9_tell 154 = .ok (.isub, 1) := by decide +kernel
theorem dX9_tell_155 : decode cX9_tell 155 = .ok (.iload 5, 2) := by decide +kernel
theorem dX9_tell_157 : decode cX9_tell 157 = .ok (.iload 6, 2) := by decide +kernel
theorem dX9_tell_159 : decode cX9_tell 159 = .ok (.iadd, 1) := by decide +kernel
theorem dX9_tell_160 : decode cX9_tell 160 = .ok (.invokevirtual 256, 3) := by decide +kernel
theorem dX9_tell_163 : decode cX9_tell 163 = .ok (.istore_n 2, 1) := by decide +kernel
theorem dX9_tell_164 : decode cX9_tell 164 = .ok (.aload_n 0, 1) := by decide +kernel
theorem dX9_tell_165 : decode cX9_tell 165 = .ok (.iload_n 2, 1) := by decide +kernel
theorem dX9_tell_166 : decode cX9_tell 166 = .ok (.iconst (-1), 1) := by decide +kernel
theorem dX9_tell_167 : decode cX9_tell 167 = .ok (.iconst 0, 1) := by decide +kernel
theorem dX9_tell_168 : decode cX9_tell 168 = .ok (.iconst 0, 1) := by decide +kernel
theorem dX9_tell_169 : decode cX9_tell 169 = .ok (.invokevirtual 256, 3) := by decide +kernel
theorem dX9_tell_172 : decode cX9_tell 172 = .ok (.istore_n 2, 1) := by decide +kernel
theorem dX9_tell_173 : decode cX9_tell 173 = .ok (.aload_n 0, 1) := by decide +kernel
theorem dX9_tell_174 : decode cX9_tell 174 = .ok (.iload_n 2, 1) := by decide +kernel
theorem dX9_tell_175 : decode cX9_tell 175 = .ok (.iload_n 3, 1) := by decide +kernel
theorem dX9_tell_176 : decode cX9_tell 176 = .ok (.iload 4, 2) := by decide +kernel
theorem dX9_tell_178 : decode cX9_tell 178 = .ok (.iload 6, 2) := by decide +kernel
theorem dX9_tell_180 : decode cX9_tell 180 = .ok (.ineg, 1) := by decide +kernel
theorem dX9_tell_181 : decode cX9_tell 181 = .ok (.invokevirtual 256, 3) := by decide +kernel
theorem dX9_tell_184 : decode cX9_tell 184 = .ok (.istore_n 2, 1) := by decide +kernel
theorem dX9_tell_185 : decode cX9_tell 185 = .ok (.goto (-171), 3) := by decide +kernel
theorem dX9_tell_188 : decode cX9_tell 188 = .ok (.return_, 1) := by decide +kernel
theorem dX9_shorten_0 : decode cX9_shorten 0 = .ok (.aload_n 0, 1) := by decide +kernel
theorem dX9_shorten_1 : decode cX9_shorten 1 = .ok (.iload_n 1, 1) := by decide +kernel
theorem dX9_shorten_2 : decode cX9_shorten 2 = .ok (.iconst 1, 1) := by decide +kernel
theorem dX9_shorten_3 : decode cX9_shorten 3 = .ok (.aload_n 0, 1) := by decide +kernel
theorem dX9_shorten_4 : decode cX9_shorten 4 = .ok (.getfield 86, 3) := by decide +kernel
theorem dX9_shorten_7 : decode cX9_shorten 7 = .ok (.invokestatic 96, 3) := by decide +kernel
theorem dX9_shorten_10 : decode cX9_shorten 10 = .ok (.invokevirtual 100, 3) := by decide +kernel
theorem dX9_shorten_13 : decode cX9_shorten 13 = .ok (.ifCond .ne 5, 3) := by decide +kernel
theorem dX9_shorten_16 : decode cX9_shorten 16 = .ok (.iconst 0, 1) := by decide +kernel
theorem dX9_shorten_17 : decode cX9_shorten 17 = .ok (.ireturn, 1) := by decide +kernel
theorem dX9_shorten_18 : decode cX9_shorten 18 = .ok (.aload_n 0, 1) := by decide +kernel
theorem dX9_shorten_19 : decode cX9_shorten 19 = .ok (.iconst 0, 1) := by decide +kernel
theorem dX9_shorten_20 : decode cX9_shorten 20 = .ok (.putfield 89, 3) := by decide +kernel
theorem dX9_shorten_23 : decode cX9_shorten 23 = .ok (.aload_n 0, 1) := by decide +kernel
theorem dX9_shorten_24 : decode cX9_shorten 24 = .ok (.iload_n 1, 1) := by decide +kernel
theorem dX9_shorten_25 : decode cX9_shorten 25 = .ok (.invokevirtual 266, 3) := by decide +kernel
theorem dX9_shorten_28 : decode cX9_shorten 28 = .ok (.aload_n 0, 1) := by decide +kernel
theorem dX9_shorten_29 : decode cX9_shorten 29 = .ok (.iload_n 1, 1) := by decide +kernel
theorem dX9_shorten_30 : decode cX9_shorten 30 = .ok (.invokevirtual 269, 3) := by decide +kernel
theorem dX9_shorten_33 : decode cX9_shorten 33 = .ok (.aload_n 0, 1) := by decide +kernel
theorem dX9_shorten_34 : decode cX9_shorten 34 = .ok (.getfield 56, 3) := by decide +kernel
theorem dX9_shorten_37 : decode cX9_shorten 37 = .ok (.iconst 0, 1) := by decide +kernel
theorem dX9_shorten_38 : decode cX9_shorten 38 = .ok (.iconst 0, 1) := by decide +kernel
theorem dX9_shorten_39 : decode cX9_shorten 39 = .ok (.aload_n 0, 1) := by decide +kernel
theorem dX9_shorten_40 : decode cX9_shorten 40 = .ok (.getfield 32, 3) := by decide +kernel
theorem dX9_shorten_43 : decode cX9_shorten 43 = .ok (.iload_n 1, 1) := by decide +kernel
theorem dX9_shorten_44 : decode cX9_shorten 44 = .ok (.iaload, 1) := by decide +kernel
theorem dX9_shorten_45 : decode cX9_shorten 45 = .ok (.invokestatic 221, 3) := by decide +kernel
theorem dX9_shorten_48 : decode cX9_shorten 48 = .ok (.iaload, 1) := by decide +kernel
theorem dX9_shorten_49 : decode cX9_shorten 49 = .ok (.ireturn, 1) := by decide +kernel
theorem dX9_out_0 : decode cX9_out 0 = .ok (.aload_n 0, 1) := by decide +kernel
theorem dX9_out_1 : decode cX9_out 1 = .ok (.iload_n 1, 1) := by decide +kernel
theorem dX9_out_2 : decode cX9_out 2 = .ok (.ifCond .lt 7, 3) := by decide +kernel
theorem dX9_out_5 : decode cX9_out 5 = .ok (.iconst 1, 1) := by decide +kernel
theorem dX9_out_6 : decode cX9_out 6 = .ok (.goto 4, 3) := by decide +kernel
theorem dX9_out_9 : decode cX9_out 9 = .ok (.iconst 0, 1) := by decide +kernel
theorem dX9_out_10 : decode cX9_out 10 = .ok (.invokevirtual 100, 3) := by decide +kernel
theorem dX9_out_13 : decode cX9_out 13 = .ok (.ifCond .ne 5, 3) := by decide +kernel
theorem dX9_out_16 : decode cX9_out 16 = .ok (.iconst 0, 1) := by decide +kernel
theorem dX9_out_17 : decode cX9_out 17 = .ok (.ireturn, 1) := by decide +kernel
theorem dX9_out_18 : decode cX9_out 18 = .ok (.iload_n 1, 1) := by decide +kernel
theorem dX9_out_19 : decode cX9_out 19 = .ok (.aload_n 0, 1) := by decide +kernel
theorem dX9_out_20 : decode cX9_out 20 = .ok (.getfield 89, 3) := by decide +kernel
theorem dX9_out_23 : decode cX9_out 23 = .ok (.if_icmp .ge 12, 3) := by decide +kernel
theorem dX9_out_26 : decode cX9_out 26 = .ok (.aload_n 0, 1) := by decide +kernel
theorem dX9_out_27 : decode cX9_out 27 = .ok (.getfield 53, 3) := by decide +kernel
theorem dX9_out_30 : decode cX9_out 30 = .ok (.iload_n 1, 1) := by decide +kernel
theorem dX9_out_31 : decode cX9_out 31 = .ok (.iaload, 1) := by decide +kernel
theorem dX9_out_32 : decode cX9_out 32 = .ok (.goto 4, 3) := by decide +kernel
theorem dX9_out_35 : decode cX9_out 35 = .ok (.iconst (-1), 1) := by decide +kernel
theorem dX9_out_36 : decode cX9_out 36 = .ok (.ireturn, 1) := by decide +kernel
theorem dX9_ladder_0 : decode cX9_ladder 0 = .ok (.aload_n 0, 1) := by decide +kernel
theorem dX9_ladder_1 : decode cX9_ladder 1 = .ok (.iload_n 1, 1) := by decide +kernel
theorem dX9_ladder_2 : decode cX9_ladder 2 = .ok (.iconst 0, 1) := by decide +kernel
theorem dX9_ladder_3 : decode cX9_ladder 3 = .ok (.aload_n 0, 1) := by decide +kernel
theorem dX9_ladder_4 : decode cX9_ladder 4 = .ok (.invokevirtual 208, 3) := by decide +kernel
theorem dX9_ladder_7 : decode cX9_ladder 7 = .ok (.iconst 1, 1) := by decide +kernel
theorem dX9_ladder_8 : decode cX9_ladder 8 = .ok (.isub, 1) := by decide +kernel
theorem dX9_ladder_9 : decode cX9_ladder 9 = .ok (.invokestatic 96, 3) := by decide +kernel
theorem dX9_ladder_12 : decode cX9_ladder 12 = .ok (.invokevirtual 100, 3) := by decide +kernel
theorem dX9_ladder_15 : decode cX9_ladder 15 = .ok (.ifCond .ne 5, 3) := by decide +kernel
theorem dX9_ladder_18 : decode cX9_ladder 18 = .ok (.iconst 0, 1) := by decide +kernel
theorem dX9_ladder_19 : decode cX9_ladder 19 = .ok (.ireturn, 1) := by decide +kernel
theorem dX9_ladder_20 : decode cX9_ladder 20 = .ok (.iconst 1, 1) := by decide +kernel
theorem dX9_ladder_21 : decode cX9_ladder 21 = .ok (.istore_n 2, 1) := by decide +kernel
theorem dX9_ladder_22 : decode cX9_ladder 22 = .ok (.aload_n 0, 1) := by decide +kernel
theorem dX9_ladder_23 : decode cX9_ladder 23 = .ok (.iload_n 1, 1) := by decide +kernel
theorem dX9_ladder_24 : decode cX9_ladder 24 = .ok (.invokevirtual 217, 3) := by decide +kernel
theorem dX9_ladder_27 : decode cX9_ladder 27 = .ok (.istore_n 3, 1) := by decide +kernel
theorem dX9_ladder_28 : decode cX9_ladder 28 = .ok (.aload_n 0, 1) := by decide +kernel
theorem dX9_ladder_29 : decode cX9_ladder 29 = .ok (.getfield 23, 3) := by decide +kernel
theorem dX9_ladder_32 : decode cX9_ladder 32 = .ok (.iload_n 3, 1) := by decide +kernel
theorem dX9_ladder_33 : decode cX9_ladder 33 = .ok (.iaload, 1) := by decide +kernel
theorem dX9_ladder_34 : decode cX9_ladder 34 = .ok (.ifCond .le 18, 3) := by decide +kernel
theorem dX9_ladder_37 : decode cX9_ladder 37 = .ok (.aload_n 0, 1) := by decide +kernel
theorem dX9_ladder_38 : decode cX9_ladder 38 = .ok (.getfield 26, 3) := by decide +kernel
theorem dX9_ladder_41 : decode cX9_ladder 41 = .ok (.iconst 3, 1) := by decide +kernel
theorem dX9_ladder_42 : decode cX9_ladder 42 = .ok (.iload_n 3, 1) := by decide +kernel
theorem dX9_ladder_43 : decode cX9_ladder 43 = .ok (.imul, 1) := by decide +kernel
theorem dX9_ladder_44 : decode cX9_ladder 44 = .ok (.iaload, 1) := by decide +kernel
theorem dX9_ladder_45 : decode cX9_ladder 45 = .ok (.istore_n 3, 1) := by decide +kernel
theorem dX9_ladder_46 : decode cX9_ladder 46 = .ok (.iinc 2 1, 3) := by decide +kernel
theorem dX9_ladder_49 : decode cX9_ladder 49 = .ok (.goto (-21), 3) := by decide +kernel
theorem dX9_ladder_52 : decode cX9_ladder 52 = .ok (.iload_n 2, 1) := by decide +kernel
theorem dX9_ladder_53 : decode cX9_ladder 53 = .ok (.ireturn, 1) := by decide +kernel
theorem dX9_total_0 : decode cX9_total 0 = .ok (.aload_n 0, 1) := by decide +kernel
theorem dX9_total_1 : decode cX9_total 1 = .ok (.iload_n 1, 1) := by decide +kernel
theorem dX9_total_2 : decode cX9_total 2 = .ok (.iconst 0, 1) := by decide +kernel
theorem dX9_total_3 : decode cX9_total 3 = .ok (.iconst 3, 1) := by decide +kernel
theorem dX9_total_4 : decode cX9_total 4 = .ok (.invokestatic 96, 3) := by decide +kernel
theorem dX9_total_7 : decode cX9_total 7 = .ok (.invokevirtual 100, 3) := by decide +kernel
theorem dX9_total_10 : decode cX9_total 10 = .ok (.ifCond .ne 5, 3) := by decide +kernel
theorem dX9_total_13 : decode cX9_total 13 = .ok (.iconst 0, 1) := by decide +kernel
theorem dX9_total_14 : decode cX9_total 14 = .ok (.ireturn, 1) := by decide +kernel
theorem dX9_total_15 : decode cX9_total 15 = .ok (.iconst 0, 1) := by decide +kernel
theorem dX9_total_16 : decode cX9_total 16 = .ok (.istore_n 2, 1) := by decide +kernel
theorem dX9_total_17 : decode cX9_total 17 = .ok (.iconst 0, 1) := by decide +kernel
theorem dX9_total_18 : decode cX9_total 18 = .ok (.istore_n 3, 1) := by decide +kernel
theorem dX9_total_19 : decode cX9_total 19 = .ok (.iload_n 3, 1) := by decide +kernel
theorem dX9_total_20 : decode cX9_total 20 = .ok (.aload_n 0, 1) := by decide +kernel
theorem dX9_total_21 : decode cX9_total 21 = .ok (.getfield 83, 3) := by decide +kernel
theorem dX9_total_24 : decode cX9_total 24 = .ok (.if_icmp .ge 72, 3) := by decide +kernel
theorem dX9_total_27 : decode cX9_total 27 = .ok (.iload_n 1, 1) := by decide +kernel
theorem dX9_total_28 : decode cX9_total 28 = .ok (.ifCond .eq 54, 3) := by decide +kernel
theorem dX9_total_31 : decode cX9_total 31 = .ok (.iload_n 1, 1) := by decide +kernel
theorem dX9_total_32 : decode cX9_total 32 = .ok (.iconst 1, 1) := by decide +kernel
theorem dX9_total_33 : decode cX9_total 33 = .ok (.if_icmp .ne 12, 3) := by decide +kernel
theorem dX9_total_36 : decode cX9_total 36 = .ok (.aload_n 0, 1) := by decide +kernel
theorem dX9_total_37 : decode cX9_total 37 = .ok (.getfield 16, 3) := by decide +kernel
theorem dX9_total_40 : decode cX9_total 40 = .ok (.iload_n 3, 1) := by decide +kernel
theorem dX9_total_41 : decode cX9_total 41 = .ok (.iaload, 1) := by decide +kernel
theorem dX9_total_42 : decode cX9_total 42 = .ok (.ifCond .eq 40, 3) := by decide +kernel
theorem dX9_total_45 : decode cX9_total 45 = .ok (.iload_n 1, 1) := by decide +kernel
theorem dX9_total_46 : decode cX9_total 46 = .ok (.iconst 2, 1) := by decide +kernel
theorem dX9_total_47 : decode cX9_total 47 = .ok (.if_icmp .ne 21, 3) := by decide +kernel
theorem dX9_total_50 : decode cX9_total 50 = .ok (.aload_n 0, 1) := by decide +kernel
theorem dX9_total_51 : decode cX9_total 51 = .ok (.getfield 16, 3) := by decide +kernel
theorem dX9_total_54 : decode cX9_total 54 = .ok (.iload_n 3, 1) := by decide +kernel
theorem dX9_total_55 : decode cX9_total 55 = .ok (.iaload, 1) := by decide +kernel
theorem dX9_total_56 : decode cX9_total 56 = .ok (.ifCond .le 12, 3) := by decide +kernel
theorem dX9_total_59 : decode cX9_total 59 = .ok (.aload_n 0, 1) := by decide +kernel
theorem dX9_total_60 : decode cX9_total 60 = .ok (.getfield 19, 3) := by decide +kernel
theorem dX9_total_63 : decode cX9_total 63 = .ok (.iload_n 3, 1) := by decide +kernel
theorem dX9_total_64 : decode cX9_total 64 = .ok (.baload, 1) := by decide +kernel
theorem dX9_total_65 : decode cX9_total 65 = .ok (.ifCond .eq 17, 3) := by decide +kernel
theorem dX9_total_68 : decode cX9_total 68 = .ok (.iload_n 1, 1) := by decide +kernel
theorem dX9_total_69 : decode cX9_total 69 = .ok (.iconst 3, 1) := by decide +kernel
theorem dX9_total_70 : decode cX9_total 70 = .ok (.if_icmp .ne 18, 3) := by decide +kernel
theorem dX9_total_73 : decode cX9_total 73 = .ok (.aload_n 0, 1) := by decide +kernel
theorem dX9_total_74 : decode cX9_total 74 = .ok (.getfield 19, 3) := by decide +kernel
theorem dX9_total_77 : decode cX9_total 77 = .ok (.iload_n 3, 1) := by decide +kernel
theorem dX9_total_78 : decode cX9_total 78 = .ok (.baload, 1) := by decide +kernel
theorem dX9_total_79 : decode cX9_total 79 = .ok (.ifCond .eq 9, 3) := by decide +kernel
theorem dX9_total_82 : decode cX9_total 82 = .ok (.iload_n 2, 1) := by decide +kernel
theorem dX9_total_83 : decode cX9_total 83 = .ok (.iconst 1, 1) := by decide +kernel
theorem dX9_total_84 : decode cX9_total 84 = .ok (.iadd, 1) := by decide +kernel
theorem dX9_total_85 : decode cX9_total 85 = .ok (.goto 4, 3) := by decide +kernel
theorem dX9_total_88 : decode cX9_total 88 = .ok (.iload_n 2, 1) := by decide +kernel
theorem dX9_total_89 : decode cX9_total 89 = .ok (.istore_n 2, 1) := by decide +kernel
theorem dX9_total_90 : decode cX9_total 90 = .ok (.iinc 3 1, 3) := by decide +kernel
theorem dX9_total_93 : decode cX9_total 93 = .ok (.goto (-74), 3) := by decide +kernel
theorem dX9_total_96 : decode cX9_total 96 = .ok (.iload_n 2, 1) := by decide +kernel
theorem dX9_total_97 : decode cX9_total 97 = .ok (.ireturn, 1) := by decide +kernel
