theorem dX0_init_0 : decode cX0_init 0 = .ok (.aload_n 0, 1) := by decide +kernel
theorem dX0_init_1 : decode cX0_init 1 = .ok (.invokespecial 3, 3) := by decide +kernel
theorem dX0_init_4 : decode cX0_init 4 = .ok (.aload_n 0, 1) := by decide +kernel
theorem dX0_init_5 : decode cX0_init 5 = .ok (.bipush 32, 2) := by decide +kernel
theorem dX0_init_7 : decode cX0_init 7 = .ok (.newarray .int, 2) := by decide +kernel
theorem dX0_init_9 : decode cX0_init 9 = .ok (.putfield 9, 3) := by decide +kernel
theorem dX0_init_12 : decode cX0_init 12 = .ok (.aload_n 0, 1) := by decide +kernel
theorem dX0_init_13 : decode cX0_init 13 = .ok (.bipush 32, 2) := by decide +kernel
theorem dX0_init_15 : decode cX0_init 15 = .ok (.newarray .int, 2) := by decide +kernel
theorem dX0_init_17 : decode cX0_init 17 = .ok (.putfield 13, 3) := by decide +kernel
theorem dX0_init_20 : decode cX0_init 20 = .ok (.aload_n 0, 1) := by decide +kernel
theorem dX0_init_21 : decode cX0_init 21 = .ok (.sipush 1200, 3) := by decide +kernel
theorem dX0_init_24 : decode cX0_init 24 = .ok (.newarray .int, 2) := by decide +kernel
theorem dX0_init_26 : decode cX0_init 26 = .ok (.putfield 16, 3) := by decide +kernel
theorem dX0_init_29 : decode cX0_init 29 = .ok (.aload_n 0, 1) := by decide +kernel
theorem dX0_init_30 : decode cX0_init 30 = .ok (.sipush 600, 3) := by decide +kernel
theorem dX0_init_33 : decode cX0_init 33 = .ok (.newarray .int, 2) := by decide +kernel
theorem dX0_init_35 : decode cX0_init 35 = .ok (.putfield 19, 3) := by decide +kernel
theorem dX0_init_38 : decode cX0_init 38 = .ok (.aload_n 0, 1) := by decide +kernel
theorem dX0_init_39 : decode cX0_init 39 = .ok (.sipush 600, 3) := by decide +kernel
theorem dX0_init_42 : decode cX0_init 42 = .ok (.newarray .int, 2) := by decide +kernel
theorem dX0_init_44 : decode cX0_init 44 = .ok (.putfield 22, 3) := by decide +kernel
theorem dX0_init_47 : decode cX0_init 47 = .ok (.return_, 1) := by decide +kernel
theorem dX0_castOn_0 : decode cX0_castOn 0 = .ok (.aload_n 0, 1) := by decide +kernel
theorem dX0_castOn_1 : decode cX0_castOn 1 = .ok (.iload_n 2, 1) := by decide +kernel
theorem dX0_castOn_2 : decode cX0_castOn 2 = .ok (.putfield 25, 3) := by decide +kernel
theorem dX0_castOn_5 : decode cX0_castOn 5 = .ok (.aload_n 0, 1) := by decide +kernel
theorem dX0_castOn_6 : decode cX0_castOn 6 = .ok (.iconst 0, 1) := by decide +kernel
theorem dX0_castOn_7 : decode cX0_castOn 7 = .ok (.putfield 29, 3) := by decide +kernel
theorem dX0_castOn_10 : decode cX0_castOn 10 = .ok (.aload_n 0, 1) := by decide +kernel
theorem dX0_castOn_11 : decode cX0_castOn 11 = .ok (.getfield 9, 3) := by decide +kernel
theorem dX0_castOn_14 : decode cX0_castOn 14 = .ok (.iconst 0, 1) := by decide +kernel
theorem dX0_castOn_15 : decode cX0_castOn 15 = .ok (.iconst 0, 1) := by decide +kernel
theorem dX0_castOn_16 : decode cX0_castOn 16 = .ok (.iastore, 1) := by decide +kernel
theorem dX0_castOn_17 : decode cX0_castOn 17 = .ok (.aload_n 0, 1) := by decide +kernel
theorem dX0_castOn_18 : decode cX0_castOn 18 = .ok (.getfield 13, 3) := by decide +kernel
theorem dX0_castOn_21 : decode cX0_castOn 21 = .ok (.iconst 0, 1) := by decide +kernel
theorem dX0_castOn_22 : decode cX0_castOn 22 = .ok (.iconst 0, 1) := by decide +kernel
theorem dX0_castOn_23 : decode cX0_castOn 23 = .ok (.iastore, 1) := by decide +kernel
theorem dX0_castOn_24 : decode cX0_castOn 24 = .ok (.aload_n 0, 1) := by decide +kernel
theorem dX0_castOn_25 : decode cX0_castOn 25 = .ok (.getfield 13, 3) := by decide +kernel
theorem dX0_castOn_28 : decode cX0_castOn 28 = .ok (.iconst 1, 1) := by decide +kernel
theorem dX0_castOn_29 : decode cX0_castOn 29 = .ok (.iconst 0, 1) := by decide +kernel
theorem dX0_castOn_30 : decode cX0_castOn 30 = .ok (.iastore, 1) := by decide +kernel
theorem dX0_castOn_31 : decode cX0_castOn 31 = .ok (.aload_n 0, 1) := by decide +kernel
theorem dX0_castOn_32 : decode cX0_castOn 32 = .ok (.iconst 0, 1) := by decide +kernel
theorem dX0_castOn_33 : decode cX0_castOn 33 = .ok (.putfield 33, 3) := by decide +kernel
theorem dX0_castOn_36 : decode cX0_castOn 36 = .ok (.iconst 0, 1) := by decide +kernel
theorem dX0_castOn_37 : decode cX0_castOn 37 = .ok (.istore_n 3, 1) := by decide +kernel
theorem dX0_castOn_38 : decode cX0_castOn 38 = .ok (.iload_n 3, 1) := by decide +kernel
theorem dX0_castOn_39 : decode cX0_castOn 39 = .ok (.iload_n 1, 1) := by decide +kernel
theorem dX0_castOn_40 : decode cX0_castOn 40 = .ok (.if_icmp .ge 15, 3) := by decide +kernel
theorem dX0_castOn_43 : decode cX0_castOn 43 = .ok (.aload_n 0, 1) := by decide +kernel
theorem dX0_castOn_44 : decode cX0_castOn 44 = .ok (.iconst 0, 1) := by decide +kernel
theorem dX0_castOn_45 : decode cX0_castOn 45 = .ok (.iconst 0, 1) := by decide +kernel
theorem dX0_castOn_46 : decode cX0_castOn 46 = .ok (.invokevirtual 36, 3) := by decide +kernel
theorem dX0_castOn_49 : decode cX0_castOn 49 = .ok (.iinc 3 1, 3) := by decide +kernel
theorem dX0_castOn_52 : decode cX0_castOn 52 = .ok (.goto (-14), 3) := by decide +kernel
theorem dX0_castOn_55 : decode cX0_castOn 55 = .ok (.aload_n 0, 1) := by decide +kernel
theorem dX0_castOn_56 : decode cX0_castOn 56 = .ok (.getfield 9, 3) := by decide +kernel
theorem dX0_castOn_59 : decode cX0_castOn 59 = .ok (.iconst 1, 1) := by decide +kernel
theorem dX0_castOn_60 : decode cX0_castOn 60 = .ok (.aload_n 0, 1) := by decide +kernel
theorem dX0_castOn_61 : decode cX0_castOn 61 = .ok (.getfield 33, 3) := by decide +kernel
theorem dX0_castOn_64 : decode cX0_castOn 64 = .ok (.iastore, 1) := by decide +kernel
theorem dX0_castOn_65 : decode cX0_castOn 65 = .ok (.aload_n 0, 1) := by decide +kernel
theorem dX0_castOn_66 : decode cX0_castOn 66 = .ok (.invokevirtual 40, 3) := by decide +kernel
theorem dX0_castOn_69 : decode cX0_castOn 69 = .ok (.return_, 1) := by decide +kernel
theorem dX0_rowCount_0 : decode cX0_rowCount 0 = .ok (.aload_n 0, 1) := by decide +kernel
theorem dX0_rowCount_1 : decode cX0_rowCount 1 = .ok (.getfield 29, 3) := by decide +kernel
theorem dX0_rowCount_4 : decode cX0_rowCount 4 = .ok (.ireturn, 1) := by decide +kernel
theorem dX0_takeBack_0 : decode cX0_takeBack 0 = .ok (.aload_n 0, 1) := by decide +kernel
theorem dX0_takeBack_1 : decode cX0_takeBack 1 = .ok (.aload_n 0, 1) := by decide +kernel
theorem dX0_takeBack_2 : decode cX0_takeBack 2 = .ok (.getfield 29, 3) := by decide +kernel
theorem dX0_takeBack_5 : decode cX0_takeBack 5 = .ok (.iload_n 1, 1) := by decide +kernel
theorem dX0_takeBack_6 : decode cX0_takeBack 6 = .ok (.isub, 1) := by decide +kernel
theorem dX0_takeBack_7 : decode cX0_takeBack 7 = .ok (.iconst 0, 1) := by decide +kernel
theorem dX0_takeBack_8 : decode cX0_takeBack 8 = .ok (.invokestatic 43, 3) := by decide +kernel
theorem dX0_takeBack_11 : decode cX0_takeBack 11 = .ok (.putfield 29, 3) := by decide +kernel
theorem dX0_takeBack_14 : decode cX0_takeBack 14 = .ok (.aload_n 0, 1) := by decide +kernel
theorem dX0_takeBack_15 : decode cX0_takeBack 15 = .ok (.invokevirtual 40, 3) := by decide +kernel
theorem dX0_takeBack_18 : decode cX0_takeBack 18 = .ok (.return_, 1) := by decide +kernel
theorem dX0_fillNeedle_0 : decode cX0_fillNeedle 0 = .ok (.aload_n 0, 1) := by decide +kernel
theorem dX0_fillNeedle_1 : decode cX0_fillNeedle 1 = .ok (.getfield 9, 3) := by decide +kernel
theorem dX0_fillNeedle_4 : decode cX0_fillNeedle 4 = .ok (.aload_n 0, 1) := by decide +kernel
theorem dX0_fillNeedle_5 : decode cX0_fillNeedle 5 = .ok (.getfield 29, 3) := by decide +kernel
theorem dX0_fillNeedle_8 : decode cX0_fillNeedle 8 = .ok (.iaload, 1) := by decide +kernel
theorem dX0_fillNeedle_9 : decode cX0_fillNeedle 9 = .ok (.istore_n 1, 1) := by decide +kernel
theorem dX0_fillNeedle_10 : decode cX0_fillNeedle 10 = .ok (.aload_n 0, 1) := by decide +kernel
theorem dX0_fillNeedle_11 : decode cX0_fillNeedle 11 = .ok (.getfield 9, 3) := by decide +kernel
theorem dX0_fillNeedle_14 : decode cX0_fillNeedle 14 = .ok (.aload_n 0, 1) := by decide +kernel
theorem dX0_fillNeedle_15 : decode cX0_fillNeedle 15 = .ok (.getfield 29, 3) := by decide +kernel
theorem dX0_fillNeedle_18 : decode cX0_fillNeedle 18 = .ok (.iconst 1, 1) := by decide +kernel
theorem dX0_fillNeedle_19 : decode cX0_fillNeedle 19 = .ok (.iadd, 1) := by decide +kernel
theorem dX0_fillNeedle_20 : decode cX0_fillNeedle 20 = .ok (.iaload, 1) := by decide +kernel
theorem dX0_fillNeedle_21 : decode cX0_fillNeedle 21 = .ok (.istore_n 2, 1) := by decide +kernel
theorem dX0_fillNeedle_22 : decode cX0_fillNeedle 22 = .ok (.aload_n 0, 1) := by decide +kernel
theorem dX0_fillNeedle_23 : decode cX0_fillNeedle 23 = .ok (.iload_n 2, 1) := by decide +kernel
theorem dX0_fillNeedle_24 : decode cX0_fillNeedle 24 = .ok (.iload_n 1, 1) := by decide +kernel
theorem dX0_fillNeedle_25 : decode cX0_fillNeedle 25 = .ok (.isub, 1) := by decide +kernel
theorem dX0_fillNeedle_26 : decode cX0_fillNeedle 26 = .ok (.putfield 49, 3) := by decide +kernel
theorem dX0_fillNeedle_29 : decode cX0_fillNeedle 29 = .ok (.aload_n 0, 1) := by decide +kernel
theorem dX0_fillNeedle_30 : decode cX0_fillNeedle 30 = .ok (.aload_n 0, 1) := by decide +kernel
theorem dX0_fillNeedle_31 : decode cX0_fillNeedle 31 = .ok (.getfield 25, 3) := by decide +kernel
theorem dX0_fillNeedle_34 : decode cX0_fillNeedle 34 = .ok (.ifCond .eq 7, 3) := by decide +kernel
theorem dX0_fillNeedle_37 : decode cX0_fillNeedle 37 = .ok (.iload_n 1, 1) := by decide +kernel
theorem dX0_fillNeedle_38 : decode cX0_fillNeedle 38 = .ok (.goto 6, 3) := by decide +kernel
theorem dX0_fillNeedle_41 : decode cX0_fillNeedle 41 = .ok (.iload_n 2, 1) := by decide +kernel
theorem dX0_fillNeedle_42 : decode cX0_fillNeedle 42 = .ok (.iconst 1, 1) := by decide +kernel
theorem dX0_fillNeedle_43 : decode cX0_fillNeedle 43 = .ok (.isub, 1) := by decide +kernel
theorem dX0_fillNeedle_44 : decode cX0_fillNeedle 44 = .ok (.putfield 52, 3) := by decide +kernel
theorem dX0_fillNeedle_47 : decode cX0_fillNeedle 47 = .ok (.aload_n 0, 1) := by decide +kernel
theorem dX0_fillNeedle_48 : decode cX0_fillNeedle 48 = .ok (.aload_n 0, 1) := by decide +kernel
theorem dX0_fillNeedle_49 : decode cX0_fillNeedle 49 = .ok (.getfield 25, 3) := by decide +kernel
theorem dX0_fillNeedle_52 : decode cX0_fillNeedle 52 = .ok (.ifCond .eq 7, 3) := by decide +kernel
theorem dX0_fillNeedle_55 : decode cX0_fillNeedle 55 = .ok (.iconst 1, 1) := by decide +kernel
theorem dX0_fillNeedle_56 : decode cX0_fillNeedle 56 = .ok (.goto 4, 3) := by decide +kernel
theorem dX0_fillNeedle_59 : decode cX0_fillNeedle 59 = .ok (.iconst (-1), 1) := by decide +kernel
theorem dX0_fillNeedle_60 : decode cX0_fillNeedle 60 = .ok (.putfield 55, 3) := by decide +kernel
theorem dX0_fillNeedle_63 : decode cX0_fillNeedle 63 = .ok (.return_, 1) := by decide +kernel
theorem dX0_startRow_0 : decode cX0_startRow 0 = .ok (.aload_n 0, 1) := by decide +kernel
theorem dX0_startRow_1 : decode cX0_startRow 1 = .ok (.iconst 0, 1) := by decide +kernel
theorem dX0_startRow_2 : decode cX0_startRow 2 = .ok (.putfield 58, 3) := by decide +kernel
theorem dX0_startRow_5 : decode cX0_startRow 5 = .ok (.aload_n 0, 1) := by decide +kernel
theorem dX0_startRow_6 : decode cX0_startRow 6 = .ok (.aload_n 0, 1) := by decide +kernel
theorem dX0_startRow_7 : decode cX0_startRow 7 = .ok (.invokevirtual 61, 3) := by decide +kernel
theorem dX0_startRow_10 : decode cX0_startRow 10 = .ok (.putfield 33, 3) := by decide +kernel
theorem dX0_startRow_13 : decode cX0_startRow 13 = .ok (.aload_n 0, 1) := by decide +kernel
theorem dX0_startRow_14 : decode cX0_startRow 14 = .ok (.aload_n 0, 1) := by decide +kernel
theorem dX0_startRow_15 : decode cX0_startRow 15 = .ok (.getfield 13, 3) := by decide +kernel
theorem dX0_startRow_18 : decode cX0_startRow 18 = .ok (.aload_n 0, 1) := by decide +kernel
theorem dX0_startRow_19 : decode cX0_startRow 19 = .ok (.getfield 29, 3) := by decide +kernel
theorem dX0_startRow_22 : decode cX0_startRow 22 = .ok (.iconst 1, 1) := by decide +kernel
theorem dX0_startRow_23 : decode cX0_startRow 23 = .ok (.iadd, 1) := by decide +kernel
theorem dX0_startRow_24 : decode cX0_startRow 24 = .ok (.iaload, 1) := by decide +kernel
theorem dX0_startRow_25 : decode cX0_startRow 25 = .ok (.putfield 65, 3) := by decide +kernel
theorem dX0_startRow_28 : decode cX0_startRow 28 = .ok (.return_, 1) := by decide +kernel
theorem dX0_leftCount_0 : decode cX0_leftCount 0 = .ok (.aload_n 0, 1) := by decide +kernel
theorem dX0_leftCount_1 : decode cX0_leftCount 1 = .ok (.getfield 49, 3) := by decide +kernel
theorem dX0_leftCount_4 : decode cX0_leftCount 4 = .ok (.aload_n 0, 1) := by decide +kernel
theorem dX0_leftCount_5 : decode cX0_leftCount 5 = .ok (.getfield 58, 3) := by decide +kernel
theorem dX0_leftCount_8 : decode cX0_leftCount 8 = .ok (.isub, 1) := by decide +kernel
theorem dX0_leftCount_9 : decode cX0_leftCount 9 = .ok (.ireturn, 1) := by decide +kernel
theorem dX0_madeSoFar_0 : decode cX0_madeSoFar 0 = .ok (.aload_n 0, 1) := by decide +kernel
theorem dX0_madeSoFar_1 : decode cX0_madeSoFar 1 = .ok (.getfield 33, 3) := by decide +kernel
theorem dX0_madeSoFar_4 : decode cX0_madeSoFar 4 = .ok (.aload_n 0, 1) := by decide +kernel
theorem dX0_madeSoFar_5 : decode cX0_madeSoFar 5 = .ok (.invokevirtual 61, 3) := by decide +kernel
theorem dX0_madeSoFar_8 : decode cX0_madeSoFar 8 = .ok (.isub, 1) := by decide +kernel
theorem dX0_madeSoFar_9 : decode cX0_madeSoFar 9 = .ok (.ireturn, 1) := by decide +kernel
theorem dX0_faultOfStitch_0 : decode cX0_faultOfStitch 0 = .ok (.iload_n 1, 1) := by decide +kernel
theorem dX0_faultOfStitch_1 : decode cX0_faultOfStitch 1 = .ok (.invokestatic 68, 3) := by decide +kernel
theorem dX0_faultOfStitch_4 : decode cX0_faultOfStitch 4 = .ok (.aload_n 0, 1) := by decide +kernel
theorem dX0_faultOfStitch_5 : decode cX0_faultOfStitch 5 = .ok (.invokevirtual 74, 3) := by decide +kernel
theorem dX0_faultOfStitch_8 : decode cX0_faultOfStitch 8 = .ok (.if_icmp .le 5, 3) := by decide +kernel
theorem dX0_faultOfStitch_11 : decode cX0_faultOfStitch 11 = .ok (.iconst 4, 1) := by decide +kernel
theorem dX0_faultOfStitch_12 : decode cX0_faultOfStitch 12 = .ok (.ireturn, 1) := by decide +kernel
theorem dX0_faultOfStitch_13 : decode cX0_faultOfStitch 13 = .ok (.iload_n 1, 1) := by decide +kernel
theorem dX0_faultOfStitch_14 : decode cX0_faultOfStitch 14 = .ok (.bipush 8, 2) := by decide +kernel
theorem dX0_faultOfStitch_16 : decode cX0_faultOfStitch 16 = .ok (.if_icmp .ne 18, 3) := by decide +kernel
theorem dX0_faultOfStitch_19 : decode cX0_faultOfStitch 19 = .ok (.aload_n 0, 1) := by decide +kernel
theorem dX0_faultOfStitch_20 : decode cX0_faultOfStitch 20 = .ok (.invokevirtual 74, 3) := by decide +kernel
theorem dX0_faultOfStitch_23 : decode cX0_faultOfStitch 23 = .ok (.aload_n 0, 1) := by decide +kernel
theorem dX0_faultOfStitch_24 : decode cX0_faultOfStitch 24 = .ok (.invokevirtual 79, 3) := by decide +kernel
theorem dX0_faultOfStitch_27 : decode cX0_faultOfStitch 27 = .ok (.iadd, 1) := by decide +kernel
theorem dX0_faultOfStitch_28 : decode cX0_faultOfStitch 28 = .ok (.iconst 1, 1) := by decide +kernel
theorem dX0_faultOfStitch_29 : decode cX0_faultOfStitch 29 = .ok (.if_icmp .ne 5, 3) := by decide +kernel
theorem dX0_faultOfStitch_32 : decode cX0_faultOfStitch 32 = .ok (.iconst 5, 1) := by decide +kernel
theorem dX0_faultOfStitch_33 : decode cX0_faultOfStitch 33 = .ok (.ireturn, 1) := by decide +kernel
theorem dX0_faultOfStitch_34 : decode cX0_faultOfStitch 34 = .ok (.aload_n 0, 1) := by decide +kernel
theorem dX0_faultOfStitch_35 : decode cX0_faultOfStitch 35 = .ok (.getfield 33, 3) := by decide +kernel
theorem dX0_faultOfStitch_38 : decode cX0_faultOfStitch 38 = .ok (.iload_n 1, 1) := by decide +kernel
theorem dX0_faultOfStitch_39 : decode cX0_faultOfStitch 39 = .ok (.invokestatic 82, 3) := by decide +kernel
theorem dX0_faultOfStitch_42 : decode cX0_faultOfStitch 42 = .ok (.iadd, 1) := by decide +kernel
theorem dX0_faultOfStitch_43 : decode cX0_faultOfStitch 43 = .ok (.sipush 600, 3) := by decide +kernel
theorem dX0_faultOfStitch_46 : decode cX0_faultOfStitch 46 = .ok (.if_icmp .le 6, 3) := by decide +kernel
theorem dX0_faultOfStitch_49 : decode cX0_faultOfStitch 49 = .ok (.bipush 6, 2) := by decide +kernel
theorem dX0_faultOfStitch_51 : decode cX0_faultOfStitch 51 = .ok (.ireturn, 1) := by decide +kernel
theorem dX0_faultOfStitch_52 : decode cX0_faultOfStitch 52 = .ok (.iconst 0, 1) := by decide +kernel
theorem dX0_faultOfStitch_53 : decode cX0_faultOfStitch 53 = .ok (.ireturn, 1) := by decide +kernel
theorem dX0_addStitch_0 : decode cX0_addStitch 0 = .ok (.iload_n 1, 1) := by decide +kernel
theorem dX0_addStitch_1 : decode cX0_addStitch 1 = .ok (.invokestatic 85, 3) := by decide +kernel
theorem dX0_addStitch_4 : decode cX0_addStitch 4 = .ok (.ifCond .eq 18, 3) := by decide +kernel
theorem dX0_addStitch_7 : decode cX0_addStitch 7 = .ok (.aload_n 0, 1) := by decide +kernel
theorem dX0_addStitch_8 : decode cX0_addStitch 8 = .ok (.iload_n 1, 1) := by decide +kernel
theorem dX0_addStitch_9 : decode cX0_addStitch 9 = .ok (.invokestatic 89, 3) := by decide +kernel
theorem dX0_addStitch_12 : decode cX0_addStitch 12 = .ok (.iload_n 1, 1) := by decide +kernel
theorem dX0_addStitch_13 : decode cX0_addStitch 13 = .ok (.invokestatic 92, 3) := by decide +kernel
theorem dX0_addStitch_16 : decode cX0_addStitch 16 = .ok (.invokevirtual 95, 3) := by decide +kernel
theorem dX0_addStitch_19 : decode cX0_addStitch 19 = .ok (.goto 33, 3) := by decide +kernel
theorem dX0_addStitch_22 : decode cX0_addStitch 22 = .ok (.iload_n 1, 1) := by decide +kernel
theorem dX0_addStitch_23 : decode cX0_addStitch 23 = .ok (.invokestatic 82, 3) := by decide +kernel
theorem dX0_addStitch_26 : decode cX0_addStitch 26 = .ok (.istore_n 2, 1) := by decide +kernel
theorem dX0_addStitch_27 : decode cX0_addStitch 27 = .ok (.iconst 0, 1) := by decide +kernel
theorem dX0_addStitch_28 : decode cX0_addStitch 28 = .ok (.istore_n 3, 1) := by decide +kernel
theorem dX0_addStitch_29 : decode cX0_addStitch 29 = .ok (.iload_n 3, 1) := by decide +kernel
theorem dX0_addStitch_30 : decode cX0_addStitch 30 = .ok (.iload_n 2, 1) := by decide +kernel
theorem dX0_addStitch_31 : decode cX0_addStitch 31 = .ok (.if_icmp .ge 21, 3) := by decide +kernel
theorem dX0_addStitch_34 : decode cX0_addStitch 34 = .ok (.aload_n 0, 1) := by decide +kernel
theorem dX0_addStitch_35 : decode cX0_addStitch 35 = .ok (.aload_n 0, 1) := by decide +kernel
theorem dX0_addStitch_36 : decode cX0_addStitch 36 = .ok (.getfield 58, 3) := by decide +kernel
theorem dX0_addStitch_39 : decode cX0_addStitch 39 = .ok (.iload_n 1, 1) := by decide +kernel
theorem dX0_addStitch_40 : decode cX0_addStitch 40 = .ok (.invokestatic 68, 3) := by decide +kernel
theorem dX0_addStitch_43 : decode cX0_addStitch 43 = .ok (.invokevirtual 36, 3) := by decide +kernel
theorem dX0_addStitch_46 : decode cX0_addStitch 46 = .ok (.iinc 3 1, 3) := by decide +kernel
theorem dX0_addStitch_49 : decode cX0_addStitch 49 = .ok (.goto (-20), 3) := by decide +kernel
theorem dX0_addStitch_52 : decode cX0_addStitch 52 = .ok (.aload_n 0, 1) := by decide +kernel
theorem dX0_addStitch_53 : decode cX0_addStitch 53 = .ok (.dup, 1) := by decide +kernel
theorem dX0_addStitch_54 : decode cX0_addStitch 54 = .ok (.getfield 58, 3) := by decide +kernel
theorem dX0_addStitch_57 : decode cX0_addStitch 57 = .ok (.iload_n 1, 1) := by decide +kernel
theorem dX0_addStitch_58 : decode cX0_addStitch 58 = .ok (.invokestatic 68, 3) := by decide +kernel
theorem dX0_addStitch_61 : decode cX0_addStitch 61 = .ok (.iadd, 1) := by decide +kernel
theorem dX0_addStitch_62 : decode cX0_addStitch 62 = .ok (.putfield 58, 3) := by decide +kernel
theorem dX0_addStitch_65 : decode cX0_addStitch 65 = .ok (.aload_n 0, 1) := by decide +kernel
theorem dX0_addStitch_66 : decode cX0_addStitch 66 = .ok (.getfield 65, 3) := by decide +kernel
theorem dX0_addStitch_69 : decode cX0_addStitch 69 = .ok (.sipush 1200, 3) := by decide +kernel
theorem dX0_addStitch_72 : decode cX0_addStitch 72 = .ok (.if_icmp .ge 23, 3) := by decide +kernel
theorem dX0_addStitch_75 : decode cX0_addStitch 75 = .ok (.aload_n 0, 1) := by decide +kernel
theorem dX0_addStitch_76 : decode cX0_addStitch 76 = .ok (.getfield 16, 3) := by decide +kernel
theorem dX0_addStitch_79 : decode cX0_addStitch 79 = .ok (.aload_n 0, 1) := by decide +kernel
theorem dX0_addStitch_80 : decode cX0_addStitch 80 = .ok (.getfield 65, 3) := by decide +kernel
theorem dX0_addStitch_83 : decode cX0_addStitch 83 = .ok (.iload_n 1, 1) := by decide +kernel
theorem dX0_addStitch_84 : decode cX0_addStitch 84 = .ok (.iastore, 1) := by decide +kernel
theorem dX0_addStitch_85 : decode cX0_addStitch 85 = .ok (.aload_n 0, 1) := by decide +kernel
theorem dX0_addStitch_86 : decode cX0_addStitch 86 = .ok (.dup, 1) := by decide +kernel
theorem dX0_addStitch_87 : decode cX0_addStitch 87 = .ok (.getfield 65, 3) := by decide +kernel
theorem dX0_addStitch_90 : decode cX0_addStitch 90 = .ok (.iconst 1, 1) := by decide +kernel
theorem dX0_addStitch_91 : decode cX0_addStitch 91 = .ok (.iadd, 1) := by decide +kernel
theorem dX0_addStitch_92 : decode cX0_addStitch 92 = .ok (.putfield 65, 3) := by decide +kernel
theorem dX0_addStitch_95 : decode cX0_addStitch 95 = .ok (.return_, 1) := by decide +kernel
theorem dX0_makeCableLoops_0 : decode cX0_makeCableLoops 0 = .ok (.iconst 0, 1) := by decide +kernel
theorem dX0_makeCableLoops_1 : decode cX0_makeCableLoops 1 = .ok (.istore_n 3, 1) := by decide +kernel
theorem dX0_makeCableLoops_2 : decode cX0_makeCableLoops 2 = .ok (.iload_n 3, 1) := by decide +kernel
theorem dX0_makeCableLoops_3 : decode cX0_makeCableLoops 3 = .ok (.iload_n 2, 1) := by decide +kernel
theorem dX0_makeCableLoops_4 : decode cX0_makeCableLoops 4 = .ok (.if_icmp .ge 22, 3) := by decide +kernel
theorem dX0_makeCableLoops_7 : decode cX0_makeCableLoops 7 = .ok (.aload_n 0, 1) := by decide +kernel
theorem dX0_makeCableLoops_8 : decode cX0_makeCableLoops 8 = .ok (.aload_n 0, 1) := by decide +kernel
theorem dX0_makeCableLoops_9 : decode cX0_makeCableLoops 9 = .ok (.getfield 58, 3) := by decide +kernel
theorem dX0_makeCableLoops_12 : decode cX0_makeCableLoops 12 = .ok (.iload_n 1, 1) := by decide +kernel
theorem dX0_makeCableLoops_13 : decode cX0_makeCableLoops 13 = .ok (.iadd, 1) := by decide +kernel
theorem dX0_makeCableLoops_14 : decode cX0_makeCableLoops 14 = .ok (.iload_n 3, 1) := by decide +kernel
theorem dX0_makeCableLoops_15 : decode cX0_makeCableLoops 15 = .ok (.iadd, 1) := by decide +kernel
theorem dX0_makeCableLoops_16 : decode cX0_makeCableLoops 16 = .ok (.iconst 1, 1) := by decide +kernel
theorem dX0_makeCableLoops_17 : decode cX0_makeCableLoops 17 = .ok (.invokevirtual 36, 3) := by decide +kernel
theorem dX0_makeCableLoops_20 : decode cX0_makeCableLoops 20 = .ok (.iinc 3 1, 3) := by decide +kernel
theorem dX0_makeCableLoops_23 : decode cX0_makeCableLoops 23 = .ok (.goto (-21), 3) := by decide +kernel
theorem dX0_makeCableLoops_26 : decode cX0_makeCableLoops 26 = .ok (.iconst 0, 1) := by decide +kernel
theorem dX0_makeCableLoops_27 : decode cX0_makeCableLoops 27 = .ok (.istore_n 3, 1) := by decide +kernel
theorem dX0_makeCableLoops_28 : decode cX0_makeCableLoops 28 = .ok (.iload_n 3, 1) := by decide +kernel
theorem dX0_makeCableLoops_29 : decode cX0_makeCableLoops 29 = .ok (.iload_n 1, 1) := by decide +kernel
theorem dX0_makeCableLoops_30 : decode cX0_makeCableLoops 30 = .ok (.if_icmp .ge 20, 3) := by decide +kernel
theorem dX0_makeCableLoops_33 : decode cX0_makeCableLoops 33 = .ok (.aload_n 0, 1) := by decide +kernel
theorem dX0_makeCableLoops_34 : decode cX0_makeCableLoops 34 = .ok (.aload_n 0, 1) := by decide +kernel
theorem dX0_makeCableLoops_35 : decode cX0_makeCableLoops 35 = .ok (.getfield 58, 3) := by decide +kernel
theorem dX0_makeCableLoops_38 : decode cX0_makeCableLoops 38 = .ok (.iload_n 3, 1) := by decide +kernel
theorem dX0_makeCableLoops_39 : decode cX0_makeCableLoops 39 = .ok (.iadd, 1) := by decide +kernel
theorem dX0_makeCableLoops_40 : decode cX0_makeCableLoops 40 = .ok (.iconst 1, 1) := by decide +kernel
theorem dX0_makeCableLoops_41 : decode cX0_makeCableLoops 41 = .ok (.invokevirtual 36, 3) := by decide +kernel
theorem dX0_makeCableLoops_44 : decode cX0_makeCableLoops 44 = .ok (.iinc 3 1, 3) := by decide +kernel
theorem dX0_makeCableLoops_47 : decode cX0_makeCableLoops 47 = .ok (.goto (-19), 3) := by decide +kernel
theorem dX0_makeCableLoops_50 : decode cX0_makeCableLoops 50 = .ok (.return_, 1) := by decide +kernel
theorem dX0_makeLoop_0 : decode cX0_makeLoop 0 = .ok (.aload_n 0, 1) := by decide +kernel
theorem dX0_makeLoop_1 : decode cX0_makeLoop 1 = .ok (.getfield 33, 3) := by decide +kernel
theorem dX0_makeLoop_4 : decode cX0_makeLoop 4 = .ok (.sipush 600, 3) := by decide +kernel
theorem dX0_makeLoop_7 : decode cX0_makeLoop 7 = .ok (.if_icmp .ge 45, 3) := by decide +kernel
theorem dX0_makeLoop_10 : decode cX0_makeLoop 10 = .ok (.aload_n 0, 1) := by decide +kernel
theorem dX0_makeLoop_11 : decode cX0_makeLoop 11 = .ok (.getfield 22, 3) := by decide +kernel
theorem dX0_makeLoop_14 : decode cX0_makeLoop 14 = .ok (.aload_n 0, 1) := by decide +kernel
theorem dX0_makeLoop_15 : decode cX0_makeLoop 15 = .ok (.getfield 33, 3) := by decide +kernel
theorem dX0_makeLoop_18 : decode cX0_makeLoop 18 = .ok (.iload_n 2, 1) := by decide +kernel
theorem dX0_makeLoop_19 : decode cX0_makeLoop 19 = .ok (.ifCond .le 11, 3) := by decide +kernel
theorem dX0_makeLoop_22 : decode cX0_makeLoop 22 = .ok (.aload_n 0, 1) := by decide +kernel
theorem dX0_makeLoop_23 : decode cX0_makeLoop 23 = .ok (.iload_n 1, 1) := by decide +kernel
theorem dX0_makeLoop_24 : decode cX0_makeLoop 24 = .ok (.invokevirtual 98, 3) := by decide +kernel
theorem dX0_makeLoop_27 : decode cX0_makeLoop 27 = .ok (.goto 4, 3) := by decide +kernel
theorem dX0_makeLoop_30 : decode cX0_makeLoop 30 = .ok (.iconst (-1), 1) := by decide +kernel
theorem dX0_makeLoop_31 : decode cX0_makeLoop 31 = .ok (.iastore, 1) := by decide +kernel
theorem dX0_makeLoop_32 : decode cX0_makeLoop 32 = .ok (.aload_n 0, 1) := by decide +kernel
theorem dX0_makeLoop_33 : decode cX0_makeLoop 33 = .ok (.getfield 19, 3) := by decide +kernel
theorem dX0_makeLoop_36 : decode cX0_makeLoop 36 = .ok (.aload_n 0, 1) := by decide +kernel
theorem dX0_makeLoop_37 : decode cX0_makeLoop 37 = .ok (.getfield 33, 3) := by decide +kernel
theorem dX0_makeLoop_40 : decode cX0_makeLoop 40 = .ok (.iload_n 2, 1) := by decide +kernel
theorem dX0_makeLoop_41 : decode cX0_makeLoop 41 = .ok (.iastore, 1) := by decide +kernel
theorem dX0_makeLoop_42 : decode cX0_makeLoop 42 = .ok (.aload_n 0, 1) := by decide +kernel
theorem dX0_makeLoop_43 : decode cX0_makeLoop 43 = .ok (.dup, 1) := by decide +kernel
theorem dX0_makeLoop_44 : decode cX0_makeLoop 44 = .ok (.getfield 33, 3) := by decide +kernel
theorem dX0_makeLoop_47 : decode cX0_makeLoop 47 = .ok (.iconst 1, 1) := by decide +kernel
theorem dX0_makeLoop_48 : decode cX0_makeLoop 48 = .ok (.iadd, 1) := by decide +kernel
theorem dX0_makeLoop_49 : decode cX0_makeLoop 49 = .ok (.putfield 33, 3) := by decide +kernel
theorem dX0_makeLoop_52 : decode cX0_makeLoop 52 = .ok (.return_, 1) := by decide +kernel
theorem dX0_faultOfRow_0 : decode cX0_faultOfRow 0 = .ok (.aload_n 0, 1) := by decide +kernel
theorem dX0_faultOfRow_1 : decode cX0_faultOfRow 1 = .ok (.invokevirtual 74, 3) := by decide +kernel
theorem dX0_faultOfRow_4 : decode cX0_faultOfRow 4 = .ok (.ifCond .le 6, 3) := by decide +kernel
theorem dX0_faultOfRow_7 : decode cX0_faultOfRow 7 = .ok (.bipush 7, 2) := by decide +kernel
theorem dX0_faultOfRow_9 : decode cX0_faultOfRow 9 = .ok (.ireturn, 1) := by decide +kernel
theorem dX0_faultOfRow_10 : decode cX0_faultOfRow 10 = .ok (.aload_n 0, 1) := by decide +kernel
theorem dX0_faultOfRow_11 : decode cX0_faultOfRow 11 = .ok (.invokevirtual 79, 3) := by decide +kernel
theorem dX0_faultOfRow_14 : decode cX0_faultOfRow 14 = .ok (.bipush 40, 2) := by decide +kernel
theorem dX0_faultOfRow_16 : decode cX0_faultOfRow 16 = .ok (.if_icmp .le 6, 3) := by decide +kernel
theorem dX0_faultOfRow_19 : decode cX0_faultOfRow 19 = .ok (.bipush 8, 2) := by decide +kernel
theorem dX0_faultOfRow_21 : decode cX0_faultOfRow 21 = .ok (.ireturn, 1) := by decide +kernel
theorem dX0_faultOfRow_22 : decode cX0_faultOfRow 22 = .ok (.aload_n 0, 1) := by decide +kernel
theorem dX0_faultOfRow_23 : decode cX0_faultOfRow 23 = .ok (.getfield 29, 3) := by decide +kernel
theorem dX0_faultOfRow_26 : decode cX0_faultOfRow 26 = .ok (.bipush 30, 2) := by decide +kernel
theorem dX0_faultOfRow_28 : decode cX0_faultOfRow 28 = .ok (.if_icmp .lt 8, 3) := by decide +kernel
theorem dX0_faultOfRow_31 : decode cX0_faultOfRow 31 = .ok (.bipush 9, 2) := by decide +kernel
theorem dX0_faultOfRow_33 : decode cX0_faultOfRow 33 = .ok (.goto 4, 3) := by decide +kernel
theorem dX0_faultOfRow_36 : decode cX0_faultOfRow 36 = .ok (.iconst 0, 1) := by decide +kernel
theorem dX0_faultOfRow_37 : decode cX0_faultOfRow 37 = .ok (.ireturn, 1) := by decide +kernel
theorem dX0_keepRow_0 : decode cX0_keepRow 0 = .ok (.aload_n 0, 1) := by decide +kernel
theorem dX0_keepRow_1 : decode cX0_keepRow 1 = .ok (.getfield 29, 3) := by decide +kernel
theorem dX0_keepRow_4 : decode cX0_keepRow 4 = .ok (.bipush 30, 2) := by decide +kernel
theorem dX0_keepRow_6 : decode cX0_keepRow 6 = .ok (.if_icmp .ge 47, 3) := by decide +kernel
theorem dX0_keepRow_9 : decode cX0_keepRow 9 = .ok (.aload_n 0, 1) := by decide +kernel
theorem dX0_keepRow_10 : decode cX0_keepRow 10 = .ok (.dup, 1) := by decide +kernel
theorem dX0_keepRow_11 : decode cX0_keepRow 11 = .ok (.getfield 29, 3) := by decide +kernel
theorem dX0_keepRow_14 : decode cX0_keepRow 14 = .ok (.iconst 1, 1) := by decide +kernel
theorem dX0_keepRow_15 : decode cX0_keepRow 15 = .ok (.iadd, 1) := by decide +kernel
theorem dX0_keepRow_16 : decode cX0_keepRow 16 = .ok (.putfield 29, 3) := by decide +kernel
theorem dX0_keepRow_19 : decode cX0_keepRow 19 = .ok (.aload_n 0, 1) := by decide +kernel
theorem dX0_keepRow_20 : decode cX0_keepRow 20 = .ok (.getfield 9, 3) := by decide +kernel
theorem dX0_keepRow_23 : decode cX0_keepRow 23 = .ok (.aload_n 0, 1) := by decide +kernel
theorem dX0_keepRow_24 : decode cX0_keepRow 24 = .ok (.getfield 29, 3) := by decide +kernel
theorem dX0_keepRow_27 : decode cX0_keepRow 27 = .ok (.iconst 1, 1) := by decide +kernel
theorem dX0_keepRow_28 : decode cX0_keepRow 28 = .ok (.iadd, 1) := by decide +kernel
theorem dX0_keepRow_29 : decode cX0_keepRow 29 = .ok (.aload_n 0, 1) := by decide +kernel
theorem dX0_keepRow_30 : decode cX0_keepRow 30 = .ok (.getfield 33, 3) := by decide +kernel
theorem dX0_keepRow_33 : decode cX0_keepRow 33 = .ok (.iastore, 1) := by decide +kernel
theorem dX0_keepRow_34 : decode cX0_keepRow 34 = .ok (.aload_n 0, 1) := by decide +kernel
theorem dX0_keepRow_35 : decode cX0_keepRow 35 = .ok (.getfield 13, 3) := by decide +kernel
theorem dX0_keepRow_38 : decode cX0_keepRow 38 = .ok (.aload_n 0, 1) := by decide +kernel
theorem dX0_keepRow_39 : decode cX0_keepRow 39 = .ok (.getfield 29, 3) := by decide +kernel
theorem dX0_keepRow_42 : decode cX0_keepRow 42 = .ok (.iconst 1, 1) := by decide +kernel
theorem dX0_keepRow_43 : decode cX0_keepRow 43 = .ok (.iadd, 1) := by decide +kernel
theorem dX0_keepRow_44 : decode cX0_keepRow 44 = .ok (.aload_n 0, 1) := by decide +kernel
theorem dX0_keepRow_45 : decode cX0_keepRow 45 = .ok (.getfield 65, 3) := by decide +kernel
theorem dX0_keepRow_48 : decode cX0_keepRow 48 = .ok (.iastore, 1) := by decide +kernel
theorem dX0_keepRow_49 : decode cX0_keepRow 49 = .ok (.aload_n 0, 1) := by decide +kernel
theorem dX0_keepRow_50 : decode cX0_keepRow 50 = .ok (.invokevirtual 40, 3) := by decide +kernel
theorem dX0_keepRow_53 : decode cX0_keepRow 53 = .ok (.return_, 1) := by decide +kernel
theorem dX0_loopCount_0 : decode cX0_loopCount 0 = .ok (.aload_n 0, 1) := by decide +kernel
theorem dX0_loopCount_1 : decode cX0_loopCount 1 = .ok (.getfield 9, 3) := by decide +kernel
theorem dX0_loopCount_4 : decode cX0_loopCount 4 = .ok (.aload_n 0, 1) := by decide +kernel
theorem dX0_loopCount_5 : decode cX0_loopCount 5 = .ok (.getfield 29, 3) := by decide +kernel
theorem dX0_loopCount_8 : decode cX0_loopCount 8 = .ok (.iconst 1, 1) := by decide +kernel
theorem dX0_loopCount_9 : decode cX0_loopCount 9 = .ok (.iadd, 1) := by decide +kernel
theorem dX0_loopCount_10 : decode cX0_loopCount 10 = .ok (.iaload, 1) := by decide +kernel
theorem dX0_loopCount_11 : decode cX0_loopCount 11 = .ok (.ireturn, 1) := by decide +kernel
theorem dX0_liveCount_0 : decode cX0_liveCount 0 = .ok (.aload_n 0, 1) := by decide +kernel
theorem dX0_liveCount_1 : decode cX0_liveCount 1 = .ok (.getfield 49, 3) := by decide +kernel
theorem dX0_liveCount_4 : decode cX0_liveCount 4 = .ok (.ireturn, 1) := by decide +kernel
theorem dX0_hasRow_0 : decode cX0_hasRow 0 = .ok (.iload_n 1, 1) := by decide +kernel
theorem dX0_hasRow_1 : decode cX0_hasRow 1 = .ok (.ifCond .lt 15, 3) := by decide +kernel
theorem dX0_hasRow_4 : decode cX0_hasRow 4 = .ok (.iload_n 1, 1) := by decide +kernel
theorem dX0_hasRow_5 : decode cX0_hasRow 5 = .ok (.aload_n 0, 1) := by decide +kernel
theorem dX0_hasRow_6 : decode cX0_hasRow 6 = .ok (.getfield 29, 3) := by decide +kernel
theorem dX0_hasRow_9 : decode cX0_hasRow 9 = .ok (.if_icmp .gt 7, 3) := by decide +kernel
theorem dX0_hasRow_12 : decode cX0_hasRow 12 = .ok (.iconst 1, 1) := by decide +kernel
theorem dX0_hasRow_13 : decode cX0_hasRow 13 = .ok (.goto 4, 3) := by decide +kernel
theorem dX0_hasRow_16 : decode cX0_hasRow 16 = .ok (.iconst 0, 1) := by decide +kernel
theorem dX0_hasRow_17 : decode cX0_hasRow 17 = .ok (.ireturn, 1) := by decide +kernel
theorem dX0_hasLoop_0 : decode cX0_hasLoop 0 = .ok (.iload_n 1, 1) := by decide +kernel
theorem dX0_hasLoop_1 : decode cX0_hasLoop 1 = .ok (.ifCond .lt 15, 3) := by decide +kernel
theorem dX0_hasLoop_4 : decode cX0_hasLoop 4 = .ok (.iload_n 1, 1) := by decide +kernel
theorem dX0_hasLoop_5 : decode cX0_hasLoop 5 = .ok (.aload_n 0, 1) := by decide +kernel
theorem dX0_hasLoop_6 : decode cX0_hasLoop 6 = .ok (.invokevirtual 61, 3) := by decide +kernel
theorem dX0_hasLoop_9 : decode cX0_hasLoop 9 = .ok (.if_icmp .ge 7, 3) := by decide +kernel
theorem dX0_hasLoop_12 : decode cX0_hasLoop 12 = .ok (.iconst 1, 1) := by decide +kernel
theorem dX0_hasLoop_13 : decode cX0_hasLoop 13 = .ok (.goto 4, 3) := by decide +kernel
theorem dX0_hasLoop_16 : decode cX0_hasLoop 16 = .ok (.iconst 0, 1) := by decide +kernel
theorem dX0_hasLoop_17 : decode cX0_hasLoop 17 = .ok (.ireturn, 1) := by decide +kernel
theorem dX0_madeIn_0 : decode cX0_madeIn 0 = .ok (.aload_n 0, 1) := by decide +kernel
theorem dX0_madeIn_1 : decode cX0_madeIn 1 = .ok (.iload_n 1, 1) := by decide +kernel
theorem dX0_madeIn_2 : decode cX0_madeIn 2 = .ok (.invokevirtual 101, 3) := by decide +kernel
theorem dX0_madeIn_5 : decode cX0_madeIn 5 = .ok (.ifCond .eq 21, 3) := by decide +kernel
theorem dX0_madeIn_8 : decode cX0_madeIn 8 = .ok (.aload_n 0, 1) := by decide +kernel
theorem dX0_madeIn_9 : decode cX0_madeIn 9 = .ok (.getfield 9, 3) := by decide +kernel
theorem dX0_madeIn_12 : decode cX0_madeIn 12 = .ok (.iload_n 1, 1) := by decide +kernel
theorem dX0_madeIn_13 : decode cX0_madeIn 13 = .ok (.iconst 1, 1) := by decide +kernel
theorem dX0_madeIn_14 : decode cX0_madeIn 14 = .ok (.iadd, 1) := by decide +kernel
theorem dX0_madeIn_15 : decode cX0_madeIn 15 = .ok (.iaload, 1) := by decide +kernel
theorem dX0_madeIn_16 : decode cX0_madeIn 16 = .ok (.aload_n 0, 1) := by decide +kernel
theorem dX0_madeIn_17 : decode cX0_madeIn 17 = .ok (.getfield 9, 3) := by decide +kernel
theorem dX0_madeIn_20 : decode cX0_madeIn 20 = .ok (.iload_n 1, 1) := by decide +kernel
theorem dX0_madeIn_21 : decode cX0_madeIn 21 = .ok (.iaload, 1) := by decide +kernel
theorem dX0_madeIn_22 : decode cX0_madeIn 22 = .ok (.isub, 1) := by decide +kernel
theorem dX0_madeIn_23 : decode cX0_madeIn 23 = .ok (.goto 4, 3) := by decide +kernel
theorem dX0_madeIn_26 : decode cX0_madeIn 26 = .ok (.iconst 0, 1) := by decide +kernel
theorem dX0_madeIn_27 : decode cX0_madeIn 27 = .ok (.ireturn, 1) := by decide +kernel
theorem dX0_needleLoop_0 : decode cX0_needleLoop 0 = .ok (.iload_n 1, 1) := by decide +kernel
theorem dX0_needleLoop_1 : decode cX0_needleLoop 1 = .ok (.ifCond .lt 25, 3) := by decide +kernel
theorem dX0_needleLoop_4 : decode cX0_needleLoop 4 = .ok (.iload_n 1, 1) := by decide +kernel
theorem dX0_needleLoop_5 : decode cX0_needleLoop 5 = .ok (.aload_n 0, 1) := by decide +kernel
theorem dX0_needleLoop_6 : decode cX0_needleLoop 6 = .ok (.getfield 49, 3) := by decide +kernel
theorem dX0_needleLoop_9 : decode cX0_needleLoop 9 = .ok (.if_icmp .ge 17, 3) := by decide +kernel
theorem dX0_needleLoop_12 : decode cX0_needleLoop 12 = .ok (.aload_n 0, 1) := by decide +kernel
theorem dX0_needleLoop_13 : decode cX0_needleLoop 13 = .ok (.getfield 52, 3) := by decide +kernel
theorem dX0_needleLoop_16 : decode cX0_needleLoop 16 = .ok (.iload_n 1, 1) := by decide +kernel
theorem dX0_needleLoop_17 : decode cX0_needleLoop 17 = .ok (.aload_n 0, 1) := by decide +kernel
theorem dX0_needleLoop_18 : decode cX0_needleLoop 18 = .ok (.getfield 55, 3) := by decide +kernel
theorem dX0_needleLoop_21 : decode cX0_needleLoop 21 = .ok (.imul, 1) := by decide +kernel
theorem dX0_needleLoop_22 : decode cX0_needleLoop 22 = .ok (.iadd, 1) := by decide +kernel
theorem dX0_needleLoop_23 : decode cX0_needleLoop 23 = .ok (.goto 4, 3) := by decide +kernel
theorem dX0_needleLoop_26 : decode cX0_needleLoop 26 = .ok (.iconst (-1), 1) := by decide +kernel
theorem dX0_needleLoop_27 : decode cX0_needleLoop 27 = .ok (.ireturn, 1) := by decide +kernel
theorem dX0_bornIn_0 : decode cX0_bornIn 0 = .ok (.iconst 0, 1) := by decide +kernel
theorem dX0_bornIn_1 : decode cX0_bornIn 1 = .ok (.istore_n 2, 1) := by decide +kernel
theorem dX0_bornIn_2 : decode cX0_bornIn 2 = .ok (.iload_n 2, 1) := by decide +kernel
theorem dX0_bornIn_3 : decode cX0_bornIn 3 = .ok (.aload_n 0, 1) := by decide +kernel
theorem dX0_bornIn_4 : decode cX0_bornIn 4 = .ok (.getfield 29, 3) := by decide +kernel
theorem dX0_bornIn_7 : decode cX0_bornIn 7 = .ok (.if_icmp .ge 23, 3) := by decide +kernel
theorem dX0_bornIn_10 : decode cX0_bornIn 10 = .ok (.iload_n 1, 1) := by decide +kernel
theorem dX0_bornIn_11 : decode cX0_bornIn 11 = .ok (.aload_n 0, 1) := by decide +kernel
theorem dX0_bornIn_12 : decode cX0_bornIn 12 = .ok (.getfield 9, 3) := by decide +kernel
theorem dX0_bornIn_15 : decode cX0_bornIn 15 = .ok (.iload_n 2, 1) := by decide +kernel
theorem dX0_bornIn_16 : decode cX0_bornIn 16 = .ok (.iconst 1, 1) := by decide +kernel
theorem dX0_bornIn_17 : decode cX0_bornIn 17 = .ok (.iadd, 1) := by decide +kernel
theorem dX0_bornIn_18 : decode cX0_bornIn 18 = .ok (.iaload, 1) := by decide +kernel
theorem dX0_bornIn_19 : decode cX0_bornIn 19 = .ok (.if_icmp .ge 5, 3) := by decide +kernel
theorem dX0_bornIn_22 : decode cX0_bornIn 22 = .ok (.iload_n 2, 1) := by decide +kernel
theorem dX0_bornIn_23 : decode cX0_bornIn 23 = .ok (.ireturn, 1) := by decide +kernel
theorem dX0_bornIn_24 : decode cX0_bornIn 24 = .ok (.iinc 2 1, 3) := by decide +kernel
theorem dX0_bornIn_27 : decode cX0_bornIn 27 = .ok (.goto (-25), 3) := by decide +kernel
theorem dX0_bornIn_30 : decode cX0_bornIn 30 = .ok (.aload_n 0, 1) := by decide +kernel
theorem dX0_bornIn_31 : decode cX0_bornIn 31 = .ok (.getfield 29, 3) := by decide +kernel
theorem dX0_bornIn_34 : decode cX0_bornIn 34 = .ok (.ireturn, 1) := by decide +kernel
theorem dX0_diedIn_0 : decode cX0_diedIn 0 = .ok (.aload_n 0, 1) := by decide +kernel
theorem dX0_diedIn_1 : decode cX0_diedIn 1 = .ok (.iload_n 1, 1) := by decide +kernel
theorem dX0_diedIn_2 : decode cX0_diedIn 2 = .ok (.invokevirtual 104, 3) := by decide +kernel
theorem dX0_diedIn_5 : decode cX0_diedIn 5 = .ok (.istore_n 2, 1) := by decide +kernel
theorem dX0_diedIn_6 : decode cX0_diedIn 6 = .ok (.iload_n 2, 1) := by decide +kernel
theorem dX0_diedIn_7 : decode cX0_diedIn 7 = .ok (.aload_n 0, 1) := by decide +kernel
theorem dX0_diedIn_8 : decode cX0_diedIn 8 = .ok (.getfield 29, 3) := by decide +kernel
theorem dX0_diedIn_11 : decode cX0_diedIn 11 = .ok (.if_icmp .ge 9, 3) := by decide +kernel
theorem dX0_diedIn_14 : decode cX0_diedIn 14 = .ok (.iload_n 2, 1) := by decide +kernel
theorem dX0_diedIn_15 : decode cX0_diedIn 15 = .ok (.iconst 1, 1) := by decide +kernel
theorem dX0_diedIn_16 : decode cX0_diedIn 16 = .ok (.iadd, 1) := by decide +kernel
theorem dX0_diedIn_17 : decode cX0_diedIn 17 = .ok (.goto 4, 3) := by decide +kernel
theorem dX0_diedIn_20 : decode cX0_diedIn 20 = .ok (.iconst 0, 1) := by decide +kernel
theorem dX0_diedIn_21 : decode cX0_diedIn 21 = .ok (.ireturn, 1) := by decide +kernel
theorem dX0_parentCount_0 : decode cX0_parentCount 0 = .ok (.aload_n 0, 1) := by decide +kernel
theorem dX0_parentCount_1 : decode cX0_parentCount 1 = .ok (.iload_n 1, 1) := by decide +kernel
theorem dX0_parentCount_2 : decode cX0_parentCount 2 = .ok (.invokevirtual 107, 3) := by decide +kernel
theorem dX0_parentCount_5 : decode cX0_parentCount 5 = .ok (.ifCond .eq 12, 3) := by decide +kernel
theorem dX0_parentCount_8 : decode cX0_parentCount 8 = .ok (.aload_n 0, 1) := by decide +kernel
theorem dX0_parentCount_9 : decode cX0_parentCount 9 = .ok (.getfield 19, 3) := by decide +kernel
theorem dX0_parentCount_12 : decode cX0_parentCount 12 = .ok (.iload_n 1, 1) := by decide +kernel
theorem dX0_parentCount_13 : decode cX0_parentCount 13 = .ok (.iaload, 1) := by decide +kernel
theorem dX0_parentCount_14 : decode cX0_parentCount 14 = .ok (.goto 4, 3) := by decide +kernel
theorem dX0_parentCount_17 : decode cX0_parentCount 17 = .ok (.iconst 0, 1) := by decide +kernel
theorem dX0_parentCount_18 : decode cX0_parentCount 18 = .ok (.ireturn, 1) := by decide +kernel
theorem dX0_parent_0 : decode cX0_parent 0 = .ok (.aload_n 0, 1) := by decide +kernel
theorem dX0_parent_1 : decode cX0_parent 1 = .ok (.iload_n 1, 1) := by decide +kernel
theorem dX0_parent_2 : decode cX0_parent 2 = .ok (.invokevirtual 107, 3) := by decide +kernel
theorem dX0_parent_5 : decode cX0_parent 5 = .ok (.ifCond .eq 19, 3) := by decide +kernel
theorem dX0_parent_8 : decode cX0_parent 8 = .ok (.aload_n 0, 1) := by decide +kernel
theorem dX0_parent_9 : decode cX0_parent 9 = .ok (.getfield 22, 3) := by decide +kernel
theorem dX0_parent_12 : decode cX0_parent 12 = .ok (.iload_n 1, 1) := by decide +kernel
theorem dX0_parent_13 : decode cX0_parent 13 = .ok (.iaload, 1) := by decide +kernel
theorem dX0_parent_14 : decode cX0_parent 14 = .ok (.iload_n 2, 1) := by decide +kernel
theorem dX0_parent_15 : decode cX0_parent 15 = .ok (.aload_n 0, 1) := by decide +kernel
theorem dX0_parent_16 : decode cX0_parent 16 = .ok (.getfield 55, 3) := by decide +kernel
theorem dX0_parent_19 : decode cX0_parent 19 = .ok (.imul, 1) := by decide +kernel
theorem dX0_parent_20 : decode cX0_parent 20 = .ok (.iadd, 1) := by decide +kernel
theorem dX0_parent_21 : decode cX0_parent 21 = .ok (.goto 4, 3) := by decide +kernel
theorem dX0_parent_24 : decode cX0_parent 24 = .ok (.iconst (-1), 1) := by decide +kernel
theorem dX0_parent_25 : decode cX0_parent 25 = .ok (.ireturn, 1) := by decide +kernel
theorem dX0_ladderLength_0 : decode cX0_ladderLength 0 = .ok (.iconst 1, 1) := by decide +kernel
theorem dX0_ladderLength_1 : decode cX0_ladderLength 1 = .ok (.istore_n 2, 1) := by decide +kernel
theorem dX0_ladderLength_2 : decode cX0_ladderLength 2 = .ok (.iload_n 1, 1) := by decide +kernel
theorem dX0_ladderLength_3 : decode cX0_ladderLength 3 = .ok (.istore_n 3, 1) := by decide +kernel
theorem dX0_ladderLength_4 : decode cX0_ladderLength 4 = .ok (.iconst 0, 1) := by decide +kernel
theorem dX0_ladderLength_5 : decode cX0_ladderLength 5 = .ok (.istore 4, 2) := by decide +kernel
theorem dX0_ladderLength_7 : decode cX0_ladderLength 7 = .ok (.iload 4, 2) := by decide +kernel
theorem dX0_ladderLength_9 : decode cX0_ladderLength 9 = .ok (.aload_n 0, 1) := by decide +kernel
theorem dX0_ladderLength_10 : decode cX0_ladderLength 10 = .ok (.getfield 29, 3) := by decide +kernel
theorem dX0_ladderLength_13 : decode cX0_ladderLength 13 = .ok (.if_icmp .ge 27, 3) := by decide +kernel
theorem dX0_ladderLength_16 : decode cX0_ladderLength 16 = .ok (.aload_n 0, 1) := by decide +kernel
theorem dX0_ladderLength_17 : decode cX0_ladderLength 17 = .ok (.iload_n 3, 1) := by decide +kernel
theorem dX0_ladderLength_18 : decode cX0_ladderLength 18 = .ok (.invokevirtual 110, 3) := by decide +kernel
theorem dX0_ladderLength_21 : decode cX0_ladderLength 21 = .ok (.ifCond .le 19, 3) := by decide +kernel
theorem dX0_ladderLength_24 : decode cX0_ladderLength 24 = .ok (.aload_n 0, 1) := by decide +kernel
theorem dX0_ladderLength_25 : decode cX0_ladderLength 25 = .ok (.iload_n 3, 1) := by decide +kernel
theorem dX0_ladderLength_26 : decode cX0_ladderLength 26 = .ok (.iconst 0, 1) := by decide +kernel
theorem dX0_ladderLength_27 : decode cX0_ladderLength 27 = .ok (.invokevirtual 113, 3) := by decide +kernel
theorem dX0_ladderLength_30 : decode cX0_ladderLength 30 = .ok (.istore_n 3, 1) := by decide +kernel
theorem dX0_ladderLength_31 : decode cX0_ladderLength 31 = .ok (.iinc 2 1, 3) := by decide +kernel
theorem dX0_ladderLength_34 : decode cX0_ladderLength 34 = .ok (.iinc 4 1, 3) := by decide +kernel
theorem dX0_ladderLength_37 : decode cX0_ladderLength 37 = .ok (.goto (-30), 3) := by decide +kernel
theorem dX0_ladderLength_40 : decode cX0_ladderLength 40 = .ok (.iload_n 2, 1) := by decide +kernel
theorem dX0_ladderLength_41 : decode cX0_ladderLength 41 = .ok (.ireturn, 1) := by decide +kernel
theorem dX0_stitchCount_0 : decode cX0_stitchCount 0 = .ok (.aload_n 0, 1) := by decide +kernel
theorem dX0_stitchCount_1 : decode cX0_stitchCount 1 = .ok (.iload_n 1, 1) := by decide +kernel
theorem dX0_stitchCount_2 : decode cX0_stitchCount 2 = .ok (.invokevirtual 101, 3) := by decide +kernel
theorem dX0_stitchCount_5 : decode cX0_stitchCount 5 = .ok (.ifCond .eq 21, 3) := by decide +kernel
theorem dX0_stitchCount_8 : decode cX0_stitchCount 8 = .ok (.aload_n 0, 1) := by decide +kernel
theorem dX0_stitchCount_9 : decode cX0_stitchCount 9 = .ok (.getfield 13, 3) := by decide +kernel
theorem dX0_stitchCount_12 : decode cX0_stitchCount 12 = .ok (.iload_n 1, 1) := by decide +kernel
theorem dX0_stitchCount_13 : decode cX0_stitchCount 13 = .ok (.iconst 1, 1) := by decide +kernel
theorem dX0_stitchCount_14 : decode cX0_stitchCount 14 = .ok (.iadd, 1) := by decide +kernel
theorem dX0_stitchCount_15 : decode cX0_stitchCount 15 = .ok (.iaload, 1) := by decide +kernel
theorem dX0_stitchCount_16 : decode cX0_stitchCount 16 = .ok (.aload_n 0, 1) := by decide +kernel
theorem dX0_stitchCount_17 : decode cX0_stitchCount 17 = .ok (.getfield 13, 3) := by decide +kernel
theorem dX0_stitchCount_20 : decode cX0_stitchCount 20 = .ok (.iload_n 1, 1) := by decide +kernel
theorem dX0_stitchCount_21 : decode cX0_stitchCount 21 = .ok (.iaload, 1) := by decide +kernel
theorem dX0_stitchCount_22 : decode cX0_stitchCount 22 = .ok (.isub, 1) := by decide +kernel
theorem dX0_stitchCount_23 : decode cX0_stitchCount 23 = .ok (.goto 4, 3) := by decide +kernel
theorem dX0_stitchCount_26 : decode cX0_stitchCount 26 = .ok (.iconst 0, 1) := by decide +kernel
theorem dX0_stitchCount_27 : decode cX0_stitchCount 27 = .ok (.ireturn, 1) := by decide +kernel
theorem dX0_stitchAt_0 : decode cX0_stitchAt 0 = .ok (.iload_n 2, 1) := by decide +kernel
theorem dX0_stitchAt_1 : decode cX0_stitchAt 1 = .ok (.ifCond .lt 12, 3) := by decide +kernel
theorem dX0_stitchAt_4 : decode cX0_stitchAt 4 = .ok (.iload_n 2, 1) := by decide +kernel
theorem dX0_stitchAt_5 : decode cX0_stitchAt 5 = .ok (.aload_n 0, 1) := by decide +kernel
theorem dX0_stitchAt_6 : decode cX0_stitchAt 6 = .ok (.iload_n 1, 1) := by decide +kernel
theorem dX0_stitchAt_7 : decode cX0_stitchAt 7 = .ok (.invokevirtual 116, 3) := by decide +kernel
theorem dX0_stitchAt_10 : decode cX0_stitchAt 10 = .ok (.if_icmp .lt 5, 3) := by decide +kernel
theorem dX0_stitchAt_13 : decode cX0_stitchAt 13 = .ok (.iconst 0, 1) := by decide +kernel
theorem dX0_stitchAt_14 : decode cX0_stitchAt 14 = .ok (.ireturn, 1) := by decide +kernel
theorem dX0_stitchAt_15 : decode cX0_stitchAt 15 = .ok (.aload_n 0, 1) := by decide +kernel
theorem dX0_stitchAt_16 : decode cX0_stitchAt 16 = .ok (.getfield 16, 3) := by decide +kernel
theorem dX0_stitchAt_19 : decode cX0_stitchAt 19 = .ok (.aload_n 0, 1) := by decide +kernel
theorem dX0_stitchAt_20 : decode cX0_stitchAt 20 = .ok (.getfield 13, 3) := by decide +kernel
theorem dX0_stitchAt_23 : decode cX0_stitchAt 23 = .ok (.iload_n 1, 1) := by decide +kernel
theorem dX0_stitchAt_24 : decode cX0_stitchAt 24 = .ok (.iaload, 1) := by decide +kernel
theorem dX0_stitchAt_25 : decode cX0_stitchAt 25 = .ok (.iload_n 2, 1) := by decide +kernel
theorem dX0_stitchAt_26 : decode cX0_stitchAt 26 = .ok (.iadd, 1) := by decide +kernel
theorem dX0_stitchAt_27 : decode cX0_stitchAt 27 = .ok (.iaload, 1) := by decide +kernel
theorem dX0_stitchAt_28 : decode cX0_stitchAt 28 = .ok (.ireturn, 1) := by decide +kernel
theorem dX0_stitchSeen_0 : decode cX0_stitchSeen 0 = .ok (.aload_n 0, 1) := by decide +kernel
theorem dX0_stitchSeen_1 : decode cX0_stitchSeen 1 = .ok (.getfield 25, 3) := by decide +kernel
theorem dX0_stitchSeen_4 : decode cX0_stitchSeen 4 = .ok (.ifCond .ne 13, 3) := by decide +kernel
theorem dX0_stitchSeen_7 : decode cX0_stitchSeen 7 = .ok (.iload_n 1, 1) := by decide +kernel
theorem dX0_stitchSeen_8 : decode cX0_stitchSeen 8 = .ok (.iconst 2, 1) := by decide +kernel
theorem dX0_stitchSeen_9 : decode cX0_stitchSeen 9 = .ok (.irem, 1) := by decide +kernel
theorem dX0_stitchSeen_10 : decode cX0_stitchSeen 10 = .ok (.ifCond .ne 7, 3) := by decide +kernel
theorem dX0_stitchSeen_13 : decode cX0_stitchSeen 13 = .ok (.iconst 1, 1) := by decide +kernel
theorem dX0_stitchSeen_14 : decode cX0_stitchSeen 14 = .ok (.goto 4, 3) := by decide +kernel
theorem dX0_stitchSeen_17 : decode cX0_stitchSeen 17 = .ok (.iconst 0, 1) := by decide +kernel
theorem dX0_stitchSeen_18 : decode cX0_stitchSeen 18 = .ok (.istore_n 3, 1) := by decide +kernel
theorem dX0_stitchSeen_19 : decode cX0_stitchSeen 19 = .ok (.iload_n 3, 1) := by decide +kernel
theorem dX0_stitchSeen_20 : decode cX0_stitchSeen 20 = .ok (.ifCond .eq 21, 3) := by decide +kernel
theorem dX0_stitchSeen_23 : decode cX0_stitchSeen 23 = .ok (.aload_n 0, 1) := by decide +kernel
theorem dX0_stitchSeen_24 : decode cX0_stitchSeen 24 = .ok (.iload_n 1, 1) := by decide +kernel
theorem dX0_stitchSeen_25 : decode cX0_stitchSeen 25 = .ok (.aload_n 0, 1) := by decide +kernel
theorem dX0_stitchSeen_26 : decode cX0_stitchSeen 26 = .ok (.iload_n 1, 1) := by decide +kernel
theorem dX0_stitchSeen_27 : decode cX0_stitchSeen 27 = .ok (.invokevirtual 116, 3) := by decide +kernel
theorem dX0_stitchSeen_30 : decode cX0_stitchSeen 30 = .ok (.iconst 1, 1) := by decide +kernel
theorem dX0_stitchSeen_31 : decode cX0_stitchSeen 31 = .ok (.isub, 1) := by decide +kernel
theorem dX0_stitchSeen_32 : decode cX0_stitchSeen 32 = .ok (.iload_n 2, 1) := by decide +kernel
theorem dX0_stitchSeen_33 : decode cX0_stitchSeen 33 = .ok (.isub, 1) := by decide +kernel
theorem dX0_stitchSeen_34 : decode cX0_stitchSeen 34 = .ok (.invokevirtual 119, 3) := by decide +kernel
theorem dX0_stitchSeen_37 : decode cX0_stitchSeen 37 = .ok (.invokestatic 122, 3) := by decide +kernel
theorem dX0_stitchSeen_40 : decode cX0_stitchSeen 40 = .ok (.ireturn, 1) := by decide +kernel
theorem dX0_stitchSeen_41 : decode cX0_stitchSeen 41 = .ok (.aload_n 0, 1) := by decide +kernel
theorem dX0_stitchSeen_42 : decode cX0_stitchSeen 42 = .ok (.iload_n 1, 1) := by decide +kernel
theorem dX0_stitchSeen_43 : decode cX0_stitchSeen 43 = .ok (.iload_n 2, 1) := by decide +kernel
theorem dX0_stitchSeen_44 : decode cX0_stitchSeen 44 = .ok (.invokevirtual 119, 3) := by decide +kernel
theorem dX0_stitchSeen_47 : decode cX0_stitchSeen 47 = .ok (.ireturn, 1) := by decide +kernel
theorem dX0_crossings_0 : decode cX0_crossings 0 = .ok (.iconst 0, 1) := by decide +kernel
theorem dX0_crossings_1 : decode cX0_crossings 1 = .ok (.istore_n 2, 1) := by decide +kernel
theorem dX0_crossings_2 : decode cX0_crossings 2 = .ok (.aload_n 0, 1) := by decide +kernel
theorem dX0_crossings_3 : decode cX0_crossings 3 = .ok (.iload_n 1, 1) := by decide +kernel
theorem dX0_crossings_4 : decode cX0_crossings 4 = .ok (.invokevirtual 116, 3) := by decide +kernel
theorem dX0_crossings_7 : decode cX0_crossings 7 = .ok (.istore_n 3, 1) := by decide +kernel
theorem dX0_crossings_8 : decode cX0_crossings 8 = .ok (.iconst 0, 1) := by decide +kernel
theorem dX0_crossings_9 : decode cX0_crossings 9 = .ok (.istore 4, 2) := by decide +kernel
theorem dX0_crossings_11 : decode cX0_crossings 11 = .ok (.iload 4, 2) := by decide +kernel
theorem dX0_crossings_13 : decode cX0_crossings 13 = .ok (.iload_n 3, 1) := by decide +kernel
theorem dX0_crossings_14 : decode cX0_crossings 14 = .ok (.if_icmp .ge 40, 3) := by decide +kernel
theorem dX0_crossings_17 : decode cX0_crossings 17 = .ok (.aload_n 0, 1) := by decide +kernel
theorem dX0_crossings_18 : decode cX0_crossings 18 = .ok (.iload_n 1, 1) := by decide +kernel
theorem dX0_crossings_19 : decode cX0_crossings 19 = .ok (.iload 4, 2) := by decide +kernel
theorem dX0_crossings_21 : decode cX0_crossings 21 = .ok (.invokevirtual 119, 3) := by decide +kernel
theorem dX0_crossings_24 : decode cX0_crossings 24 = .ok (.istore 5, 2) := by decide +kernel
theorem dX0_crossings_26 : decode cX0_crossings 26 = .ok (.iload 5, 2) := by decide +kernel
theorem dX0_crossings_28 : decode cX0_crossings 28 = .ok (.invokestatic 85, 3) := by decide +kernel
theorem dX0_crossings_31 : decode cX0_crossings 31 = .ok (.ifCond .eq 17, 3) := by decide +kernel
theorem dX0_crossings_34 : decode cX0_crossings 34 = .ok (.iload_n 2, 1) := by decide +kernel
theorem dX0_crossings_35 : decode cX0_crossings 35 = .ok (.iload 5, 2) := by decide +kernel
theorem dX0_crossings_37 : decode cX0_crossings 37 = .ok (.invokestatic 89, 3) := by decide +kernel
theorem dX0_crossings_40 : decode cX0_crossings 40 = .ok (.iload 5, 2) := by decide +kernel
theorem dX0_crossings_42 : decode cX0_crossings 42 = .ok (.invokestatic 92, 3) := by decide +kernel
theorem dX0_crossings_45 : decode cX0_crossings 45 = .ok (.imul, 1) := by decide +kernel
theorem dX0_crossings_46 : decode cX0_crossings 46 = .ok (.iadd, 1) := by decide +kernel
theorem dX0_crossings_47 : decode cX0_crossings 47 = .ok (.istore_n 2, 1) := by decide +kernel
theorem dX0_crossings_48 : decode cX0_crossings 48 = .ok (.iinc 4 1, 3) := by decide +kernel
theorem dX0_crossings_51 : decode cX0_crossings 51 = .ok (.goto (-40), 3) := by decide +kernel
theorem dX0_crossings_54 : decode cX0_crossings 54 = .ok (.iload_n 2, 1) := by decide +kernel
theorem dX0_crossings_55 : decode cX0_crossings 55 = .ok (.ireturn, 1) := by decide +kernel
theorem dX0_boundIn_0 : decode cX0_boundIn 0 = .ok (.aload_n 0, 1) := by decide +kernel
theorem dX0_boundIn_1 : decode cX0_boundIn 1 = .ok (.iload_n 1, 1) := by decide +kernel
theorem dX0_boundIn_2 : decode cX0_boundIn 2 = .ok (.invokevirtual 101, 3) := by decide +kernel
theorem dX0_boundIn_5 : decode cX0_boundIn 5 = .ok (.ifCond .eq 11, 3) := by decide +kernel
theorem dX0_boundIn_8 : decode cX0_boundIn 8 = .ok (.aload_n 0, 1) := by decide +kernel
theorem dX0_boundIn_9 : decode cX0_boundIn 9 = .ok (.iload_n 2, 1) := by decide +kernel
theorem dX0_boundIn_10 : decode cX0_boundIn 10 = .ok (.invokevirtual 101, 3) := by decide +kernel
theorem dX0_boundIn_13 : decode cX0_boundIn 13 = .ok (.ifCond .ne 5, 3) := by decide +kernel
theorem dX0_boundIn_16 : decode cX0_boundIn 16 = .ok (.iconst 0, 1) := by decide +kernel
theorem dX0_boundIn_17 : decode cX0_boundIn 17 = .ok (.ireturn, 1) := by decide +kernel
theorem dX0_boundIn_18 : decode cX0_boundIn 18 = .ok (.iconst 0, 1) := by decide +kernel
theorem dX0_boundIn_19 : decode cX0_boundIn 19 = .ok (.istore_n 3, 1) := by decide +kernel
theorem dX0_boundIn_20 : decode cX0_boundIn 20 = .ok (.aload_n 0, 1) := by decide +kernel
theorem dX0_boundIn_21 : decode cX0_boundIn 21 = .ok (.getfield 13, 3) := by decide +kernel
theorem dX0_boundIn_24 : decode cX0_boundIn 24 = .ok (.iload_n 1, 1) := by decide +kernel
theorem dX0_boundIn_25 : decode cX0_boundIn 25 = .ok (.iaload, 1) := by decide +kernel
theorem dX0_boundIn_26 : decode cX0_boundIn 26 = .ok (.istore 4, 2) := by decide +kernel
theorem dX0_boundIn_28 : decode cX0_boundIn 28 = .ok (.iload 4, 2) := by decide +kernel
theorem dX0_boundIn_30 : decode cX0_boundIn 30 = .ok (.aload_n 0, 1) := by decide +kernel
theorem dX0_boundIn_31 : decode cX0_boundIn 31 = .ok (.getfield 13, 3) := by decide +kernel
theorem dX0_boundIn_34 : decode cX0_boundIn 34 = .ok (.iload_n 2, 1) := by decide +kernel
theorem dX0_boundIn_35 : decode cX0_boundIn 35 = .ok (.iconst 1, 1) := by decide +kernel
theorem dX0_boundIn_36 : decode cX0_boundIn 36 = .ok (.iadd, 1) := by decide +kernel
theorem dX0_boundIn_37 : decode cX0_boundIn 37 = .ok (.iaload, 1) := by decide +kernel
theorem dX0_boundIn_38 : decode cX0_boundIn 38 = .ok (.if_icmp .ge 24, 3) := by decide +kernel
theorem dX0_boundIn_41 : decode cX0_boundIn 41 = .ok (.aload_n 0, 1) := by decide +kernel
theorem dX0_boundIn_42 : decode cX0_boundIn 42 = .ok (.getfield 16, 3) := by decide +kernel
theorem dX0_boundIn_45 : decode cX0_boundIn 45 = .ok (.iload 4, 2) := by decide +kernel
theorem dX0_boundIn_47 : decode cX0_boundIn 47 = .ok (.iaload, 1) := by decide +kernel
theorem dX0_boundIn_48 : decode cX0_boundIn 48 = .ok (.bipush 8, 2) := by decide +kernel
theorem dX0_boundIn_50 : decode cX0_boundIn 50 = .ok (.if_icmp .ne 6, 3) := by decide +kernel
theorem dX0_boundIn_53 : decode cX0_boundIn 53 = .ok (.iinc 3 1, 3) := by decide +kernel
theorem dX0_boundIn_56 : decode cX0_boundIn 56 = .ok (.iinc 4 1, 3) := by decide +kernel
theorem dX0_boundIn_59 : decode cX0_boundIn 59 = .ok (.goto (-31), 3) := by decide +kernel
theorem dX0_boundIn_62 : decode cX0_boundIn 62 = .ok (.iload_n 3, 1) := by decide +kernel
theorem dX0_boundIn_63 : decode cX0_boundIn 63 = .ok (.ireturn, 1) := by decide +kernel
theorem dX1_answer_0 : decode cX1_answer 0 = .ok (.sipush 1000, 3) := by decide +kernel
theorem dX1_answer_3 : decode cX1_answer 3 = .ok (.iload_n 0, 1) := by decide +kernel
theorem dX1_answer_4 : decode cX1_answer 4 = .ok (.imul, 1) := by decide +kernel
theorem dX1_answer_5 : decode cX1_answer 5 = .ok (.iload_n 1, 1) := by decide +kernel
theorem dX1_answer_6 : decode cX1_answer 6 = .ok (.iadd, 1) := by decide +kernel
theorem dX1_answer_7 : decode cX1_answer 7 = .ok (.ineg, 1) := by decide +kernel
theorem dX1_answer_8 : decode cX1_answer 8 = .ok (.ireturn, 1) := by decide +kernel
theorem dX3_init_0 : decode cX3_init 0 = .ok (.aload_n 0, 1) := by decide +kernel
theorem dX3_init_1 : decode cX3_init 1 = .ok (.invokespecial 3, 3) := by decide +kernel
theorem dX3_init_4 : decode cX3_init 4 = .ok (.aload_n 0, 1) := by decide +kernel
theorem dX3_init_5 : decode cX3_init 5 = .ok (.sipush 200, 3) := by decide +kernel
theorem dX3_init_8 : decode cX3_init 8 = .ok (.newarray .int, 2) := by decide +kernel
theorem dX3_init_10 : decode cX3_init 10 = .ok (.putfield 11, 3) := by decide +kernel
theorem dX3_init_13 : decode cX3_init 13 = .ok (.aload_n 0, 1) := by decide +kernel
theorem dX3_init_14 : decode cX3_init 14 = .ok (.sipush 200, 3) := by decide +kernel
theorem dX3_init_17 : decode cX3_init 17 = .ok (.newarray .int, 2) := by decide +kernel
theorem dX3_init_19 : decode cX3_init 19 = .ok (.putfield 15, 3) := by decide +kernel
theorem dX3_init_22 : decode cX3_init 22 = .ok (.aload_n 0, 1) := by decide +kernel
theorem dX3_init_23 : decode cX3_init 23 = .ok (.sipush 200, 3) := by decide +kernel
theorem dX3_init_26 : decode cX3_init 26 = .ok (.newarray .int, 2) := by decide +kernel
theorem dX3_init_28 : decode cX3_init 28 = .ok (.putfield 18, 3) := by decide +kernel
theorem dX3_init_31 : decode cX3_init 31 = .ok (.aload_n 0, 1) := by decide +kernel
theorem dX3_init_32 : decode cX3_init 32 = .ok (.sipush 200, 3) := by decide +kernel
theorem dX3_init_35 : decode cX3_init 35 = .ok (.newarray .int, 2) := by decide +kernel
theorem dX3_init_37 : decode cX3_init 37 = .ok (.putfield 21, 3) := by decide +kernel
theorem dX3_init_40 : decode cX3_init 40 = .ok (.aload_n 0, 1) := by decide +kernel
theorem dX3_init_41 : decode cX3_init 41 = .ok (.sipush 200, 3) := by decide +kernel
theorem dX3_init_44 : decode cX3_init 44 = .ok (.newarray .long, 2) := by decide +kernel
theorem dX3_init_46 : decode cX3_init 46 = .ok (.putfield 24, 3) := by decide +kernel
theorem dX3_init_49 : decode cX3_init 49 = .ok (.return_, 1) := by decide +kernel
theorem dX3_clear_0 : decode cX3_clear 0 = .ok (.aload_n 0, 1) := by decide +kernel
theorem dX3_clear_1 : decode cX3_clear 1 = .ok (.iconst 0, 1) := by decide +kernel
theorem dX3_clear_2 : decode cX3_clear 2 = .ok (.putfield 28, 3) := by decide +kernel
theorem dX3_clear_5 : decode cX3_clear 5 = .ok (.return_, 1) := by decide +kernel
theorem dX3_size_0 : decode cX3_size 0 = .ok (.aload_n 0, 1) := by decide +kernel
theorem dX3_size_1 : decode cX3_size 1 = .ok (.getfield 28, 3) := by decide +kernel
theorem dX3_size_4 : decode cX3_size 4 = .ok (.ireturn, 1) := by decide +kernel
theorem dX3_addStitches_0 : decode cX3_addStitches 0 = .ok (.aload_n 0, 1) := by decide +kernel
theorem dX3_addStitches_1 : decode cX3_addStitches 1 = .ok (.iconst 0, 1) := by decide +kernel
theorem dX3_addStitches_2 : decode cX3_addStitches 2 = .ok (.iload_n 1, 1) := by decide +kernel
theorem dX3_addStitches_3 : decode cX3_addStitches 3 = .ok (.iload_n 2, 1) := by decide +kernel
theorem dX3_addStitches_4 : decode cX3_addStitches 4 = .ok (.iload_n 3, 1) := by decide +kernel
theorem dX3_addStitches_5 : decode cX3_addStitches 5 = .ok (.invokevirtual 32, 3) := by decide +kernel
theorem dX3_addStitches_8 : decode cX3_addStitches 8 = .ok (.return_, 1) := by decide +kernel
theorem dX3_addOpen_0 : decode cX3_addOpen 0 = .ok (.aload_n 0, 1) := by decide +kernel
theorem dX3_addOpen_1 : decode cX3_addOpen 1 = .ok (.iload_n 1, 1) := by decide +kernel
theorem dX3_addOpen_2 : decode cX3_addOpen 2 = .ok (.iconst 0, 1) := by decide +kernel
theorem dX3_addOpen_3 : decode cX3_addOpen 3 = .ok (.iconst 0, 1) := by decide +kernel
theorem dX3_addOpen_4 : decode cX3_addOpen 4 = .ok (.iload_n 2, 1) := by decide +kernel
theorem dX3_addOpen_5 : decode cX3_addOpen 5 = .ok (.invokevirtual 32, 3) := by decide +kernel
theorem dX3_addOpen_8 : decode cX3_addOpen 8 = .ok (.return_, 1) := by decide +kernel
theorem dX3_addClose_0 : decode cX3_addClose 0 = .ok (.iload_n 1, 1) := by decide +kernel
theorem dX3_addClose_1 : decode cX3_addClose 1 = .ok (.ifCond .lt 36, 3) := by decide +kernel
theorem dX3_addClose_4 : decode cX3_addClose 4 = .ok (.iload_n 1, 1) := by decide +kernel
theorem dX3_addClose_5 : decode cX3_addClose 5 = .ok (.aload_n 0, 1) := by decide +kernel
theorem dX3_addClose_6 : decode cX3_addClose 6 = .ok (.getfield 28, 3) := by decide +kernel
theorem dX3_addClose_9 : decode cX3_addClose 9 = .ok (.if_icmp .ge 28, 3) := by decide +kernel
theorem dX3_addClose_12 : decode cX3_addClose 12 = .ok (.aload_n 0, 1) := by decide +kernel
theorem dX3_addClose_13 : decode cX3_addClose 13 = .ok (.getfield 21, 3) := by decide +kernel
theorem dX3_addClose_16 : decode cX3_addClose 16 = .ok (.iload_n 1, 1) := by decide +kernel
theorem dX3_addClose_17 : decode cX3_addClose 17 = .ok (.aload_n 0, 1) := by decide +kernel
theorem dX3_addClose_18 : decode cX3_addClose 18 = .ok (.getfield 28, 3) := by decide +kernel
theorem dX3_addClose_21 : decode cX3_addClose 21 = .ok (.iastore, 1) := by decide +kernel
theorem dX3_addClose_22 : decode cX3_addClose 22 = .ok (.aload_n 0, 1) := by decide +kernel
theorem dX3_addClose_23 : decode cX3_addClose 23 = .ok (.getfield 18, 3) := by decide +kernel
theorem dX3_addClose_26 : decode cX3_addClose 26 = .ok (.iload_n 1, 1) := by decide +kernel
theorem dX3_addClose_27 : decode cX3_addClose 27 = .ok (.iload_n 2, 1) := by decide +kernel
theorem dX3_addClose_28 : decode cX3_addClose 28 = .ok (.iastore, 1) := by decide +kernel
theorem dX3_addClose_29 : decode cX3_addClose 29 = .ok (.aload_n 0, 1) := by decide +kernel
theorem dX3_addClose_30 : decode cX3_addClose 30 = .ok (.getfield 24, 3) := by decide +kernel
theorem dX3_addClose_33 : decode cX3_addClose 33 = .ok (.iload_n 1, 1) := by decide +kernel
theorem dX3_addClose_34 : decode cX3_addClose 34 = .ok (.lload 4, 2) := by decide +kernel
theorem dX3_addClose_36 : decode cX3_addClose 36 = .ok (.lastore, 1) := by decide +kernel
theorem dX3_addClose_37 : decode cX3_addClose 37 = .ok (.aload_n 0, 1) := by decide +kernel
theorem dX3_addClose_38 : decode cX3_addClose 38 = .ok (.iconst 3, 1) := by decide +kernel
theorem dX3_addClose_39 : decode cX3_addClose 39 = .ok (.iload_n 1, 1) := by decide +kernel
theorem dX3_addClose_40 : decode cX3_addClose 40 = .ok (.iconst 0, 1) := by decide +kernel
theorem dX3_addClose_41 : decode cX3_addClose 41 = .ok (.iload_n 3, 1) := by decide +kernel
theorem dX3_addClose_42 : decode cX3_addClose 42 = .ok (.invokevirtual 32, 3) := by decide +kernel
theorem dX3_addClose_45 : decode cX3_addClose 45 = .ok (.return_, 1) := by decide +kernel
theorem dX3_add_0 : decode cX3_add 0 = .ok (.aload_n 0, 1) := by decide +kernel
theorem dX3_add_1 : decode cX3_add 1 = .ok (.getfield 28, 3) := by decide +kernel
theorem dX3_add_4 : decode cX3_add 4 = .ok (.sipush 200, 3) := by decide +kernel
theorem dX3_add_7 : decode cX3_add 7 = .ok (.if_icmp .ge 64, 3) := by decide +kernel
theorem dX3_add_10 : decode cX3_add 10 = .ok (.aload_n 0, 1) := by decide +kernel
theorem dX3_add_11 : decode cX3_add 11 = .ok (.getfield 11, 3) := by decide +kernel
theorem dX3_add_14 : decode cX3_add 14 = .ok (.aload_n 0, 1) := by decide +kernel
theorem dX3_add_15 : decode cX3_add 15 = .ok (.getfield 28, 3) := by decide +kernel
theorem dX3_add_18 : decode cX3_add 18 = .ok (.iload_n 1, 1) := by decide +kernel
theorem dX3_add_19 : decode cX3_add 19 = .ok (.iastore, 1) := by decide +kernel
theorem dX3_add_20 : decode cX3_add 20 = .ok (.aload_n 0, 1) := by decide +kernel
theorem dX3_add_21 : decode cX3_add 21 = .ok (.getfield 21, 3) := by decide +kernel
theorem dX3_add_24 : decode cX3_add 24 = .ok (.aload_n 0, 1) := by decide +kernel
theorem dX3_add_25 : decode cX3_add 25 = .ok (.getfield 28, 3) := by decide +kernel
theorem dX3_add_28 : decode cX3_add 28 = .ok (.iload_n 2, 1) := by decide +kernel
theorem dX3_add_29 : decode cX3_add 29 = .ok (.iastore, 1) := by decide +kernel
theorem dX3_add_30 : decode cX3_add 30 = .ok (.aload_n 0, 1) := by decide +kernel
theorem dX3_add_31 : decode cX3_add 31 = .ok (.getfield 18, 3) := by decide +kernel
theorem dX3_add_34 : decode cX3_add 34 = .ok (.aload_n 0, 1) := by decide +kernel
theorem dX3_add_35 : decode cX3_add 35 = .ok (.getfield 28, 3) := by decide +kernel
theorem dX3_add_38 : decode cX3_add 38 = .ok (.iload_n 3, 1) := by decide +kernel
theorem dX3_add_39 : decode cX3_add 39 = .ok (.iastore, 1) := by decide +kernel
theorem dX3_add_40 : decode cX3_add 40 = .ok (.aload_n 0, 1) := by decide +kernel
theorem dX3_add_41 : decode cX3_add 41 = .ok (.getfield 15, 3) := by decide +kernel
theorem dX3_add_44 : decode cX3_add 44 = .ok (.aload_n 0, 1) := by decide +kernel
theorem dX3_add_45 : decode cX3_add 45 = .ok (.getfield 28, 3) := by decide +kernel
theorem dX3_add_48 : decode cX3_add 48 = .ok (.iload 4, 2) := by decide +kernel
theorem dX3_add_50 : decode cX3_add 50 = .ok (.iastore, 1) := by decide +kernel
theorem dX3_add_51 : decode cX3_add 51 = .ok (.aload_n 0, 1) := by decide +kernel
theorem dX3_add_52 : decode cX3_add 52 = .ok (.getfield 24, 3) := by decide +kernel
theorem dX3_add_55 : decode cX3_add 55 = .ok (.aload_n 0, 1) := by decide +kernel
theorem dX3_add_56 : decode cX3_add 56 = .ok (.getfield 28, 3) := by decide +kernel
theorem dX3_add_59 : decode cX3_add 59 = .ok (.lconst 0, 1) := by decide +kernel
theorem dX3_add_60 : decode cX3_add 60 = .ok (.lastore, 1) := by decide +kernel
theorem dX3_add_61 : decode cX3_add 61 = .ok (.aload_n 0, 1) := by decide +kernel
theorem dX3_add_62 : decode cX3_add 62 = .ok (.dup, 1) := by decide +kernel
theorem dX3_add_63 : decode cX3_add 63 = .ok (.getfield 28, 3) := by decide +kernel
theorem dX3_add_66 : decode cX3_add 66 = .ok (.iconst 1, 1) := by decide +kernel
theorem dX3_add_67 : decode cX3_add 67 = .ok (.iadd, 1) := by decide +kernel
theorem dX3_add_68 : decode cX3_add 68 = .ok (.putfield 28, 3) := by decide +kernel
theorem dX3_add_71 : decode cX3_add 71 = .ok (.return_, 1) := by decide +kernel
theorem dX3_kind_0 : decode cX3_kind 0 = .ok (.aload_n 0, 1) := by decide +kernel
theorem dX3_kind_1 : decode cX3_kind 1 = .ok (.iload_n 1, 1) := by decide +kernel
theorem dX3_kind_2 : decode cX3_kind 2 = .ok (.invokevirtual 36, 3) := by decide +kernel
theorem dX3_kind_5 : decode cX3_kind 5 = .ok (.ifCond .eq 12, 3) := by decide +kernel
theorem dX3_kind_8 : decode cX3_kind 8 = .ok (.aload_n 0, 1) := by decide +kernel
theorem dX3_kind_9 : decode cX3_kind 9 = .ok (.getfield 11, 3) := by decide +kernel
theorem dX3_kind_12 : decode cX3_kind 12 = .ok (.iload_n 1, 1) := by decide +kernel
theorem dX3_kind_13 : decode cX3_kind 13 = .ok (.iaload, 1) := by decide +kernel
theorem dX3_kind_14 : decode cX3_kind 14 = .ok (.goto 4, 3) := by decide +kernel
theorem dX3_kind_17 : decode cX3_kind 17 = .ok (.iconst 3, 1) := by decide +kernel
theorem dX3_kind_18 : decode cX3_kind 18 = .ok (.ireturn, 1) := by decide +kernel
theorem dX3_link_0 : decode cX3_link 0 = .ok (.aload_n 0, 1) := by decide +kernel
theorem dX3_link_1 : decode cX3_link 1 = .ok (.iload_n 1, 1) := by decide +kernel
theorem dX3_link_2 : decode cX3_link 2 = .ok (.invokevirtual 36, 3) := by decide +kernel
theorem dX3_link_5 : decode cX3_link 5 = .ok (.ifCond .eq 12, 3) := by decide +kernel
theorem dX3_link_8 : decode cX3_link 8 = .ok (.aload_n 0, 1) := by decide +kernel
theorem dX3_link_9 : decode cX3_link 9 = .ok (.getfield 21, 3) := by decide +kernel
theorem dX3_link_12 : decode cX3_link 12 = .ok (.iload_n 1, 1) := by decide +kernel
theorem dX3_link_13 : decode cX3_link 13 = .ok (.iaload, 1) := by decide +kernel
theorem dX3_link_14 : decode cX3_link 14 = .ok (.goto 4, 3) := by decide +kernel
theorem dX3_link_17 : decode cX3_link 17 = .ok (.iconst 0, 1) := by decide +kernel
theorem dX3_link_18 : decode cX3_link 18 = .ok (.ireturn, 1) := by decide +kernel
theorem dX3_count_0 : decode cX3_count 0 = .ok (.aload_n 0, 1) := by decide +kernel
theorem dX3_count_1 : decode cX3_count 1 = .ok (.iload_n 1, 1) := by decide +kernel
theorem dX3_count_2 : decode cX3_count 2 = .ok (.invokevirtual 36, 3) := by decide +kernel
theorem dX3_count_5 : decode cX3_count 5 = .ok (.ifCond .eq 12, 3) := by decide +kernel
theorem dX3_count_8 : decode cX3_count 8 = .ok (.aload_n 0, 1) := by decide +kernel
theorem dX3_count_9 : decode cX3_count 9 = .ok (.getfield 18, 3) := by decide +kernel
theorem dX3_count_12 : decode cX3_count 12 = .ok (.iload_n 1, 1) := by decide +kernel
theorem dX3_count_13 : decode cX3_count 13 = .ok (.iaload, 1) := by decide +kernel
theorem dX3_count_14 : decode cX3_count 14 = .ok (.goto 4, 3) := by decide +kernel
theorem dX3_count_17 : decode cX3_count 17 = .ok (.iconst 0, 1) := by decide +kernel
theorem dX3_count_18 : decode cX3_count 18 = .ok (.ireturn, 1) := by decide +kernel
theorem dX3_place_0 : decode cX3_place 0 = .ok (.aload_n 0, 1) := by decide +kernel
theorem dX3_place_1 : decode cX3_place 1 = .ok (.iload_n 1, 1) := by decide +kernel
theorem dX3_place_2 : decode cX3_place 2 = .ok (.invokevirtual 36, 3) := by decide +kernel
theorem dX3_place_5 : decode cX3_place 5 = .ok (.ifCond .eq 12, 3) := by decide +kernel
theorem dX3_place_8 : decode cX3_place 8 = .ok (.aload_n 0, 1) := by decide +kernel
theorem dX3_place_9 : decode cX3_place 9 = .ok (.getfield 15, 3) := by decide +kernel
theorem dX3_place_12 : decode cX3_place 12 = .ok (.iload_n 1, 1) := by decide +kernel
theorem dX3_place_13 : decode cX3_place 13 = .ok (.iaload, 1) := by decide +kernel
theorem dX3_place_14 : decode cX3_place 14 = .ok (.goto 4, 3) := by decide +kernel
theorem dX3_place_17 : decode cX3_place 17 = .ok (.iconst 0, 1) := by decide +kernel
theorem dX3_place_18 : decode cX3_place 18 = .ok (.ireturn, 1) := by decide +kernel
theorem dX3_takes_0 : decode cX3_takes 0 = .ok (.aload_n 0, 1) := by decide +kernel
theorem dX3_takes_1 : decode cX3_takes 1 = .ok (.iload_n 1, 1) := by decide +kernel
theorem dX3_takes_2 : decode cX3_takes 2 = .ok (.invokevirtual 36, 3) := by decide +kernel
theorem dX3_takes_5 : decode cX3_takes 5 = .ok (.ifCond .eq 12, 3) := by decide +kernel
theorem dX3_takes_8 : decode cX3_takes 8 = .ok (.aload_n 0, 1) := by decide +kernel
theorem dX3_takes_9 : decode cX3_takes 9 = .ok (.getfield 24, 3) := by decide +kernel
theorem dX3_takes_12 : decode cX3_takes 12 = .ok (.iload_n 1, 1) := by decide +kernel
theorem dX3_takes_13 : decode cX3_takes 13 = .ok (.laload, 1) := by decide +kernel
theorem dX3_takes_14 : decode cX3_takes 14 = .ok (.goto 4, 3) := by decide +kernel
theorem dX3_takes_17 : decode cX3_takes 17 = .ok (.lconst 0, 1) := by decide +kernel
theorem dX3_takes_18 : decode cX3_takes 18 = .ok (.lreturn, 1) := by decide +kernel
theorem dX3_has_0 : decode cX3_has 0 = .ok (.iload_n 1, 1) := by decide +kernel
theorem dX3_has_1 : decode cX3_has 1 = .ok (.ifCond .lt 15, 3) := by decide +kernel
theorem dX3_has_4 : decode cX3_has 4 = .ok (.iload_n 1, 1) := by decide +kernel
theorem dX3_has_5 : decode cX3_has 5 = .ok (.aload_n 0, 1) := by decide +kernel
theorem dX3_has_6 : decode cX3_has 6 = .ok (.getfield 28, 3) := by decide +kernel
theorem dX3_has_9 : decode cX3_has 9 = .ok (.if_icmp .ge 7, 3) := by decide +kernel
theorem dX3_has_12 : decode cX3_has 12 = .ok (.iconst 1, 1) := by decide +kernel
theorem dX3_has_13 : decode cX3_has 13 = .ok (.goto 4, 3) := by decide +kernel
theorem dX3_has_16 : decode cX3_has 16 = .ok (.iconst 0, 1) := by decide +kernel
theorem dX3_has_17 : decode cX3_has 17 = .ok (.ireturn, 1) := by decide +kernel
theorem dX6_cable_0 : decode cX6_cable 0 = .ok (.bipush 100, 2) := by decide +kernel
theorem dX6_cable_2 : decode cX6_cable 2 = .ok (.iload_n 0, 1) := by decide +kernel
theorem dX6_cable_3 : decode cX6_cable 3 = .ok (.imul, 1) := by decide +kernel
theorem dX6_cable_4 : decode cX6_cable 4 = .ok (.bipush 10, 2) := by decide +kernel
theorem dX6_cable_6 : decode cX6_cable 6 = .ok (.iload_n 1, 1) := by decide +kernel
theorem dX6_cable_7 : decode cX6_cable 7 = .ok (.imul, 1) := by decide +kernel
theorem dX6_cable_8 : decode cX6_cable 8 = .ok (.iadd, 1) := by decide +kernel
theorem dX6_cable_9 : decode cX6_cable 9 = .ok (.iload_n 2, 1) := by decide +kernel
theorem dX6_cable_10 : decode cX6_cable 10 = .ok (.iadd, 1) := by decide +kernel
theorem dX6_cable_11 : decode cX6_cable 11 = .ok (.ireturn, 1) := by decide +kernel
theorem dX6_isCable_0 : decode cX6_isCable 0 = .ok (.iload_n 0, 1) := by decide +kernel
theorem dX6_isCable_1 : decode cX6_isCable 1 = .ok (.bipush 10, 2) := by decide +kernel
theorem dX6_isCable_3 : decode cX6_isCable 3 = .ok (.if_icmp .lt 7, 3) := by decide +kernel
theorem dX6_isCable_6 : decode cX6_isCable 6 = .ok (.iconst 1, 1) := by decide +kernel
theorem dX6_isCable_7 : decode cX6_isCable 7 = .ok (.goto 4, 3) := by decide +kernel
theorem dX6_isCable_10 : decode cX6_isCable 10 = .ok (.iconst 0, 1) := by decide +kernel
theorem dX6_isCable_11 : decode cX6_isCable 11 = .ok (.ireturn, 1) := by decide +kernel
theorem dX6_cableA_0 : decode cX6_cableA 0 = .ok (.iload_n 0, 1) := by decide +kernel
theorem dX6_cableA_1 : decode cX6_cableA 1 = .ok (.bipush 100, 2) := by decide +kernel
theorem dX6_cableA_3 : decode cX6_cableA 3 = .ok (.idiv, 1) := by decide +kernel
theorem dX6_cableA_4 : decode cX6_cableA 4 = .ok (.ireturn, 1) := by decide +kernel
theorem dX6_cableB_0 : decode cX6_cableB 0 = .ok (.iload_n 0, 1) := by decide +kernel
theorem dX6_cableB_1 : decode cX6_cableB 1 = .ok (.bipush 10, 2) := by decide +kernel
theorem dX6_cableB_3 : decode cX6_cableB 3 = .ok (.idiv, 1) := by decide +kernel
theorem dX6_cableB_4 : decode cX6_cableB 4 = .ok (.bipush 10, 2) := by decide +kernel
theorem dX6_cableB_6 : decode cX6_cableB 6 = .ok (.irem, 1) := by decide +kernel
theorem dX6_cableB_7 : decode cX6_cableB 7 = .ok (.iconst 1, 1) := by decide +kernel
theorem dX6_cableB_8 : decode cX6_cableB 8 = .ok (.isub, 1) := by decide +kernel
theorem dX6_cableB_9 : decode cX6_cableB 9 = .ok (.ireturn, 1) := by decide +kernel
theorem dX6_isBehind_0 : decode cX6_isBehind 0 = .ok (.iload_n 0, 1) := by decide +kernel
theorem dX6_isBehind_1 : decode cX6_isBehind 1 = .ok (.bipush 10, 2) := by decide +kernel
theorem dX6_isBehind_3 : decode cX6_isBehind 3 = .ok (.irem, 1) := by decide +kernel
theorem dX6_isBehind_4 : decode cX6_isBehind 4 = .ok (.iconst 1, 1) := by decide +kernel
theorem dX6_isBehind_5 : decode cX6_isBehind 5 = .ok (.if_icmp .ne 7, 3) := by decide +kernel
theorem dX6_isBehind_8 : decode cX6_isBehind 8 = .ok (.iconst 1, 1) := by decide +kernel
theorem dX6_isBehind_9 : decode cX6_isBehind 9 = .ok (.goto 4, 3) := by decide +kernel
theorem dX6_isBehind_12 : decode cX6_isBehind 12 = .ok (.iconst 0, 1) := by decide +kernel
theorem dX6_isBehind_13 : decode cX6_isBehind 13 = .ok (.ireturn, 1) := by decide +kernel
theorem dX6_loopsTaken_0 : decode cX6_loopsTaken 0 = .ok (.iload_n 0, 1) := by decide +kernel
theorem dX6_loopsTaken_1 : decode cX6_loopsTaken 1 = .ok (.ifCond .lt 11, 3) := by decide +kernel
theorem dX6_loopsTaken_4 : decode cX6_loopsTaken 4 = .ok (.iload_n 0, 1) := by decide +kernel
theorem dX6_loopsTaken_5 : decode cX6_loopsTaken 5 = .ok (.getstatic 9, 3) := by decide +kernel
theorem dX6_loopsTaken_8 : decode cX6_loopsTaken 8 = .ok (.arraylength, 1) := by decide +kernel
theorem dX6_loopsTaken_9 : decode cX6_loopsTaken 9 = .ok (.if_icmp .lt 13, 3) := by decide +kernel
theorem dX6_loopsTaken_12 : decode cX6_loopsTaken 12 = .ok (.iload_n 0, 1) := by decide +kernel
theorem dX6_loopsTaken_13 : decode cX6_loopsTaken 13 = .ok (.invokestatic 13, 3) := by decide +kernel
theorem dX6_loopsTaken_16 : decode cX6_loopsTaken 16 = .ok (.iload_n 0, 1) := by decide +kernel
theorem dX6_loopsTaken_17 : decode cX6_loopsTaken 17 = .ok (.invokestatic 17, 3) := by decide +kernel
theorem dX6_loopsTaken_20 : decode cX6_loopsTaken 20 = .ok (.iadd, 1) := by decide +kernel
theorem dX6_loopsTaken_21 : decode cX6_loopsTaken 21 = .ok (.ireturn, 1) := by decide +kernel
theorem dX6_loopsTaken_22 : decode cX6_loopsTaken 22 = .ok (.getstatic 9, 3) := by decide +kernel
theorem dX6_loopsTaken_25 : decode cX6_loopsTaken 25 = .ok (.iload_n 0, 1) := by decide +kernel
theorem dX6_loopsTaken_26 : decode cX6_loopsTaken 26 = .ok (.iaload, 1) := by decide +kernel
theorem dX6_loopsTaken_27 : decode cX6_loopsTaken 27 = .ok (.ireturn, 1) := by decide +kernel
theorem dX6_loopsMade_0 : decode cX6_loopsMade 0 = .ok (.iload_n 0, 1) := by decide +kernel
theorem dX6_loopsMade_1 : decode cX6_loopsMade 1 = .ok (.ifCond .lt 11, 3) := by decide +kernel
theorem dX6_loopsMade_4 : decode cX6_loopsMade 4 = .ok (.iload_n 0, 1) := by decide +kernel
theorem dX6_loopsMade_5 : decode cX6_loopsMade 5 = .ok (.getstatic 20, 3) := by decide +kernel
theorem dX6_loopsMade_8 : decode cX6_loopsMade 8 = .ok (.arraylength, 1) := by decide +kernel
theorem dX6_loopsMade_9 : decode cX6_loopsMade 9 = .ok (.if_icmp .lt 13, 3) := by decide +kernel
theorem dX6_loopsMade_12 : decode cX6_loopsMade 12 = .ok (.iload_n 0, 1) := by decide +kernel
theorem dX6_loopsMade_13 : decode cX6_loopsMade 13 = .ok (.invokestatic 13, 3) := by decide +kernel
theorem dX6_loopsMade_16 : decode cX6_loopsMade 16 = .ok (.iload_n 0, 1) := by decide +kernel
theorem dX6_loopsMade_17 : decode cX6_loopsMade 17 = .ok (.invokestatic 17, 3) := by decide +kernel
theorem dX6_loopsMade_20 : decode cX6_loopsMade 20 = .ok (.iadd, 1) := by decide +kernel
theorem dX6_loopsMade_21 : decode cX6_loopsMade 21 = .ok (.ireturn, 1) := by decide +kernel
theorem dX6_loopsMade_22 : decode cX6_loopsMade 22 = .ok (.getstatic 20, 3) := by decide +kernel
theorem dX6_loopsMade_25 : decode cX6_loopsMade 25 = .ok (.iload_n 0, 1) := by decide +kernel
theorem dX6_loopsMade_26 : decode cX6_loopsMade 26 = .ok (.iaload, 1) := by decide +kernel
theorem dX6_loopsMade_27 : decode cX6_loopsMade 27 = .ok (.ireturn, 1) := by decide +kernel
theorem dX6_seenFromBehind_0 : decode cX6_seenFromBehind 0 = .ok (.iload_n 0, 1) := by decide +kernel
theorem dX6_seenFromBehind_1 : decode cX6_seenFromBehind 1 = .ok (.ifCond .ne 5, 3) := by decide +kernel
theorem dX6_seenFromBehind_4 : decode cX6_seenFromBehind 4 = .ok (.iconst 1, 1) := by decide +kernel
theorem dX6_seenFromBehind_5 : decode cX6_seenFromBehind 5 = .ok (.ireturn, 1) := by decide +kernel
theorem dX6_seenFromBehind_6 : decode cX6_seenFromBehind 6 = .ok (.iload_n 0, 1) := by decide +kernel
theorem dX6_seenFromBehind_7 : decode cX6_seenFromBehind 7 = .ok (.iconst 1, 1) := by decide +kernel
theorem dX6_seenFromBehind_8 : decode cX6_seenFromBehind 8 = .ok (.if_icmp .ne 7, 3) := by decide +kernel
theorem dX6_seenFromBehind_11 : decode cX6_seenFromBehind 11 = .ok (.iconst 0, 1) := by decide +kernel
theorem dX6_seenFromBehind_12 : decode cX6_seenFromBehind 12 = .ok (.goto 4, 3) := by decide +kernel
theorem dX6_seenFromBehind_15 : decode cX6_seenFromBehind 15 = .ok (.iload_n 0, 1) := by decide +kernel
theorem dX6_seenFromBehind_16 : decode cX6_seenFromBehind 16 = .ok (.ireturn, 1) := by decide +kernel
theorem dX6_nameOf_0 : decode cX6_nameOf 0 = .ok (.iload_n 0, 1) := by decide +kernel
theorem dX6_nameOf_1 : decode cX6_nameOf 1 = .ok (.tableswitch 78 0 8 #[51, 54, 57, 60, 63, 66, 69, 72, 75], 51) := by decide +kernel
theorem dX6_nameOf_52 : decode cX6_nameOf 52 = .ok (.ldc 23, 2) := by decide +kernel
theorem dX6_nameOf_54 : decode cX6_nameOf 54 = .ok (.areturn, 1) := by decide +kernel
theorem dX6_nameOf_55 : decode cX6_nameOf 55 = .ok (.ldc 25, 2) := by decide +kernel
theorem dX6_nameOf_57 : decode cX6_nameOf 57 = .ok (.areturn, 1) := by decide +kernel
theorem dX6_nameOf_58 : decode cX6_nameOf 58 = .ok (.ldc 27, 2) := by decide +kernel
theorem dX6_nameOf_60 : decode cX6_nameOf 60 = .ok (.areturn, 1) := by decide +kernel
theorem dX6_nameOf_61 : decode cX6_nameOf 61 = .ok (.ldc 29, 2) := by decide +kernel
theorem dX6_nameOf_63 : decode cX6_nameOf 63 = .ok (.areturn, 1) := by decide +kernel
theorem dX6_nameOf_64 : decode cX6_nameOf 64 = .ok (.ldc 31, 2) := by decide +kernel
theorem dX6_nameOf_66 : decode cX6_nameOf 66 = .ok (.areturn, 1) := by decide +kernel
theorem dX6_nameOf_67 : decode cX6_nameOf 67 = .ok (.ldc 33, 2) := by decide +kernel
theorem dX6_nameOf_69 : decode cX6_nameOf 69 = .ok (.areturn, 1) := by decide +kernel
theorem dX6_nameOf_70 : decode cX6_nameOf 70 = .ok (.ldc 35, 2) := by decide +kernel
theorem dX6_nameOf_72 : decode cX6_nameOf 72 = .ok (.areturn, 1) := by decide +kernel
theorem dX6_nameOf_73 : decode cX6_nameOf 73 = .ok (.ldc 37, 2) := by decide +kernel
theorem dX6_nameOf_75 : decode cX6_nameOf 75 = .ok (.areturn, 1) := by decide +kernel
theorem dX6_nameOf_76 : decode cX6_nameOf 76 = .ok (.ldc 39, 2) := by decide +kernel
theorem dX6_nameOf_78 : decode cX6_nameOf 78 = .ok (.areturn, 1) := by decide +kernel
theorem dX6_nameOf_79 : decode cX6_nameOf 79 = .ok (.ldc 41, 2) := by decide +kernel
theorem dX6_nameOf_81 : decode cX6_nameOf 81 = .ok (.areturn, 1) := by decide +kernel
theorem dX7_init_0 : decode cX7_init 0 = .ok (.aload_n 0, 1) := by decide +kernel
theorem dX7_init_1 : decode cX7_init 1 = .ok (.invokespecial 1, 3) := by decide +kernel
theorem dX7_init_4 : decode cX7_init 4 = .ok (.aload_n 0, 1) := by decide +kernel
theorem dX7_init_5 : decode cX7_init 5 = .ok (.sipush 200, 3) := by decide +kernel
theorem dX7_init_8 : decode cX7_init 8 = .ok (.newarray .int, 2) := by decide +kernel
theorem dX7_init_10 : decode cX7_init 10 = .ok (.putfield 9, 3) := by decide +kernel
theorem dX7_init_13 : decode cX7_init 13 = .ok (.return_, 1) := by decide +kernel
theorem dX7_length_0 : decode cX7_length 0 = .ok (.aload_n 0, 1) := by decide +kernel
theorem dX7_length_1 : decode cX7_length 1 = .ok (.getfield 13, 3) := by decide +kernel
theorem dX7_length_4 : decode cX7_length 4 = .ok (.ireturn, 1) := by decide +kernel
theorem dX7_hasRoomFor_0 : decode cX7_hasRoomFor 0 = .ok (.iload_n 1, 1) := by decide +kernel
theorem dX7_hasRoomFor_1 : decode cX7_hasRoomFor 1 = .ok (.sipush 200, 3) := by decide +kernel
theorem dX7_hasRoomFor_4 : decode cX7_hasRoomFor 4 = .ok (.aload_n 0, 1) := by decide +kernel
theorem dX7_hasRoomFor_5 : decode cX7_hasRoomFor 5 = .ok (.getfield 13, 3) := by decide +kernel
theorem dX7_hasRoomFor_8 : decode cX7_hasRoomFor 8 = .ok (.isub, 1) := by decide +kernel
theorem dX7_hasRoomFor_9 : decode cX7_hasRoomFor 9 = .ok (.if_icmp .gt 7, 3) := by decide +kernel
theorem dX7_hasRoomFor_12 : decode cX7_hasRoomFor 12 = .ok (.iconst 1, 1) := by decide +kernel
theorem dX7_hasRoomFor_13 : decode cX7_hasRoomFor 13 = .ok (.goto 4, 3) := by decide +kernel
theorem dX7_hasRoomFor_16 : decode cX7_hasRoomFor 16 = .ok (.iconst 0, 1) := by decide +kernel
theorem dX7_hasRoomFor_17 : decode cX7_hasRoomFor 17 = .ok (.ireturn, 1) := by decide +kernel
theorem dX7_add_0 : decode cX7_add 0 = .ok (.iload_n 3, 1) := by decide +kernel
theorem dX7_add_1 : decode cX7_add 1 = .ok (.iconst 1, 1) := by decide +kernel
theorem dX7_add_2 : decode cX7_add 2 = .ok (.isub, 1) := by decide +kernel
theorem dX7_add_3 : decode cX7_add 3 = .ok (.istore 4, 2) := by decide +kernel
theorem dX7_add_5 : decode cX7_add 5 = .ok (.iload 4, 2) := by decide +kernel
theorem dX7_add_7 : decode cX7_add 7 = .ok (.ifCond .lt 50, 3) := by decide +kernel
theorem dX7_add_10 : decode cX7_add 10 = .ok (.aload_n 0, 1) := by decide +kernel
theorem dX7_add_11 : decode cX7_add 11 = .ok (.getfield 13, 3) := by decide +kernel
theorem dX7_add_14 : decode cX7_add 14 = .ok (.sipush 200, 3) := by decide +kernel
theorem dX7_add_17 : decode cX7_add 17 = .ok (.if_icmp .ge 40, 3) := by decide +kernel
theorem dX7_add_20 : decode cX7_add 20 = .ok (.aload_n 0, 1) := by decide +kernel
theorem dX7_add_21 : decode cX7_add 21 = .ok (.getfield 9, 3) := by decide +kernel
theorem dX7_add_24 : decode cX7_add 24 = .ok (.aload_n 0, 1) := by decide +kernel
theorem dX7_add_25 : decode cX7_add 25 = .ok (.getfield 13, 3) := by decide +kernel
theorem dX7_add_28 : decode cX7_add 28 = .ok (.lload_n 1, 1) := by decide +kernel
theorem dX7_add_29 : decode cX7_add 29 = .ok (.bipush 8, 2) := by decide +kernel
theorem dX7_add_31 : decode cX7_add 31 = .ok (.iload 4, 2) := by decide +kernel
theorem dX7_add_33 : decode cX7_add 33 = .ok (.imul, 1) := by decide +kernel
theorem dX7_add_34 : decode cX7_add 34 = .ok (.lushr, 1) := by decide +kernel
theorem dX7_add_35 : decode cX7_add 35 = .ok (.l2i, 1) := by decide +kernel
theorem dX7_add_36 : decode cX7_add 36 = .ok (.sipush 255, 3) := by decide +kernel
theorem dX7_add_39 : decode cX7_add 39 = .ok (.iand, 1) := by decide +kernel
theorem dX7_add_40 : decode cX7_add 40 = .ok (.iastore, 1) := by decide +kernel
theorem dX7_add_41 : decode cX7_add 41 = .ok (.aload_n 0, 1) := by decide +kernel
theorem dX7_add_42 : decode cX7_add 42 = .ok (.dup, 1) := by decide +kernel
theorem dX7_add_43 : decode cX7_add 43 = .ok (.getfield 13, 3) := by decide +kernel
theorem dX7_add_46 : decode cX7_add 46 = .ok (.iconst 1, 1) := by decide +kernel
theorem dX7_add_47 : decode cX7_add 47 = .ok (.iadd, 1) := by decide +kernel
theorem dX7_add_48 : decode cX7_add 48 = .ok (.putfield 13, 3) := by decide +kernel
theorem dX7_add_51 : decode cX7_add 51 = .ok (.iinc 4 (-1), 3) := by decide +kernel
theorem dX7_add_54 : decode cX7_add 54 = .ok (.goto (-49), 3) := by decide +kernel
theorem dX7_add_57 : decode cX7_add 57 = .ok (.return_, 1) := by decide +kernel
theorem dX7_clear_0 : decode cX7_clear 0 = .ok (.aload_n 0, 1) := by decide +kernel
theorem dX7_clear_1 : decode cX7_clear 1 = .ok (.iconst 0, 1) := by decide +kernel
theorem dX7_clear_2 : decode cX7_clear 2 = .ok (.putfield 13, 3) := by decide +kernel
theorem dX7_clear_5 : decode cX7_clear 5 = .ok (.return_, 1) := by decide +kernel
theorem dX7_byteAt_0 : decode cX7_byteAt 0 = .ok (.iload_n 1, 1) := by decide +kernel
theorem dX7_byteAt_1 : decode cX7_byteAt 1 = .ok (.ifCond .lt 20, 3) := by decide +kernel
theorem dX7_byteAt_4 : decode cX7_byteAt 4 = .ok (.iload_n 1, 1) := by decide +kernel
theorem dX7_byteAt_5 : decode cX7_byteAt 5 = .ok (.aload_n 0, 1) := by decide +kernel
theorem dX7_byteAt_6 : decode cX7_byteAt 6 = .ok (.getfield 13, 3) := by decide +kernel
theorem dX7_byteAt_9 : decode cX7_byteAt 9 = .ok (.if_icmp .ge 12, 3) := by decide +kernel
theorem dX7_byteAt_12 : decode cX7_byteAt 12 = .ok (.aload_n 0, 1) := by decide +kernel
theorem dX7_byteAt_13 : decode cX7_byteAt 13 = .ok (.getfield 9, 3) := by decide +kernel
theorem dX7_byteAt_16 : decode cX7_byteAt 16 = .ok (.iload_n 1, 1) := by decide +kernel
theorem dX7_byteAt_17 : decode cX7_byteAt 17 = .ok (.iaload, 1) := by decide +kernel
theorem dX7_byteAt_18 : decode cX7_byteAt 18 = .ok (.goto 4, 3) := by decide +kernel
theorem dX7_byteAt_21 : decode cX7_byteAt 21 = .ok (.iconst (-1), 1) := by decide +kernel
theorem dX7_byteAt_22 : decode cX7_byteAt 22 = .ok (.ireturn, 1) := by decide +kernel
