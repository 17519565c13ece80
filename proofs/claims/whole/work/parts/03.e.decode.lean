theorem dX2_init_0 : decode cX2_init 0 = .ok (.aload_n 0, 1) := by decide +kernel
theorem dX2_init_1 : decode cX2_init 1 = .ok (.invokespecial 1, 3) := by decide +kernel
theorem dX2_init_4 : decode cX2_init 4 = .ok (.aload_n 0, 1) := by decide +kernel
theorem dX2_init_5 : decode cX2_init 5 = .ok (.iconst 5, 1) := by decide +kernel
theorem dX2_init_6 : decode cX2_init 6 = .ok (.newarray .long, 2) := by decide +kernel
theorem dX2_init_8 : decode cX2_init 8 = .ok (.putfield 9, 3) := by decide +kernel
theorem dX2_init_11 : decode cX2_init 11 = .ok (.aload_n 0, 1) := by decide +kernel
theorem dX2_init_12 : decode cX2_init 12 = .ok (.aload_n 1, 1) := by decide +kernel
theorem dX2_init_13 : decode cX2_init 13 = .ok (.putfield 15, 3) := by decide +kernel
theorem dX2_init_16 : decode cX2_init 16 = .ok (.aload_n 0, 1) := by decide +kernel
theorem dX2_init_17 : decode cX2_init 17 = .ok (.aload_n 2, 1) := by decide +kernel
theorem dX2_init_18 : decode cX2_init 18 = .ok (.putfield 19, 3) := by decide +kernel
theorem dX2_init_21 : decode cX2_init 21 = .ok (.return_, 1) := by decide +kernel
theorem dX2_knitPlan_0 : decode cX2_knitPlan 0 = .ok (.aload_n 0, 1) := by decide +kernel
theorem dX2_knitPlan_1 : decode cX2_knitPlan 1 = .ok (.iconst 0, 1) := by decide +kernel
theorem dX2_knitPlan_2 : decode cX2_knitPlan 2 = .ok (.putfield 23, 3) := by decide +kernel
theorem dX2_knitPlan_5 : decode cX2_knitPlan 5 = .ok (.aload_n 0, 1) := by decide +kernel
theorem dX2_knitPlan_6 : decode cX2_knitPlan 6 = .ok (.iconst 0, 1) := by decide +kernel
theorem dX2_knitPlan_7 : decode cX2_knitPlan 7 = .ok (.putfield 29, 3) := by decide +kernel
theorem dX2_knitPlan_10 : decode cX2_knitPlan 10 = .ok (.aload_n 0, 1) := by decide +kernel
theorem dX2_knitPlan_11 : decode cX2_knitPlan 11 = .ok (.getfield 19, 3) := by decide +kernel
theorem dX2_knitPlan_14 : decode cX2_knitPlan 14 = .ok (.invokevirtual 32, 3) := by decide +kernel
theorem dX2_knitPlan_17 : decode cX2_knitPlan 17 = .ok (.iconst 0, 1) := by decide +kernel
theorem dX2_knitPlan_18 : decode cX2_knitPlan 18 = .ok (.istore_n 2, 1) := by decide +kernel
theorem dX2_knitPlan_19 : decode cX2_knitPlan 19 = .ok (.iconst 0, 1) := by decide +kernel
theorem dX2_knitPlan_20 : decode cX2_knitPlan 20 = .ok (.istore_n 3, 1) := by decide +kernel
theorem dX2_knitPlan_21 : decode cX2_knitPlan 21 = .ok (.iload_n 3, 1) := by decide +kernel
theorem dX2_knitPlan_22 : decode cX2_knitPlan 22 = .ok (.ldc 37, 2) := by decide +kernel
theorem dX2_knitPlan_24 : decode cX2_knitPlan 24 = .ok (.if_icmp .ge 33, 3) := by decide +kernel
theorem dX2_knitPlan_27 : decode cX2_knitPlan 27 = .ok (.iload_n 2, 1) := by decide +kernel
theorem dX2_knitPlan_28 : decode cX2_knitPlan 28 = .ok (.aload_n 0, 1) := by decide +kernel
theorem dX2_knitPlan_29 : decode cX2_knitPlan 29 = .ok (.getfield 15, 3) := by decide +kernel
theorem dX2_knitPlan_32 : decode cX2_knitPlan 32 = .ok (.invokevirtual 38, 3) := by decide +kernel
theorem dX2_knitPlan_35 : decode cX2_knitPlan 35 = .ok (.if_icmp .ge 22, 3) := by decide +kernel
theorem dX2_knitPlan_38 : decode cX2_knitPlan 38 = .ok (.aload_n 0, 1) := by decide +kernel
theorem dX2_knitPlan_39 : decode cX2_knitPlan 39 = .ok (.getfield 29, 3) := by decide +kernel
theorem dX2_knitPlan_42 : decode cX2_knitPlan 42 = .ok (.ifCond .ne 15, 3) := by decide +kernel
theorem dX2_knitPlan_45 : decode cX2_knitPlan 45 = .ok (.aload_n 0, 1) := by decide +kernel
theorem dX2_knitPlan_46 : decode cX2_knitPlan 46 = .ok (.iload_n 2, 1) := by decide +kernel
theorem dX2_knitPlan_47 : decode cX2_knitPlan 47 = .ok (.invokevirtual 44, 3) := by decide +kernel
theorem dX2_knitPlan_50 : decode cX2_knitPlan 50 = .ok (.istore_n 2, 1) := by decide +kernel
theorem dX2_knitPlan_51 : decode cX2_knitPlan 51 = .ok (.iinc 3 1, 3) := by decide +kernel
theorem dX2_knitPlan_54 : decode cX2_knitPlan 54 = .ok (.goto (-33), 3) := by decide +kernel
theorem dX2_knitPlan_57 : decode cX2_knitPlan 57 = .ok (.aload_n 0, 1) := by decide +kernel
theorem dX2_knitPlan_58 : decode cX2_knitPlan 58 = .ok (.getfield 29, 3) := by decide +kernel
theorem dX2_knitPlan_61 : decode cX2_knitPlan 61 = .ok (.ifCond .ne 15, 3) := by decide +kernel
theorem dX2_knitPlan_64 : decode cX2_knitPlan 64 = .ok (.aload_n 0, 1) := by decide +kernel
theorem dX2_knitPlan_65 : decode cX2_knitPlan 65 = .ok (.aload_n 0, 1) := by decide +kernel
theorem dX2_knitPlan_66 : decode cX2_knitPlan 66 = .ok (.getfield 19, 3) := by decide +kernel
theorem dX2_knitPlan_69 : decode cX2_knitPlan 69 = .ok (.invokevirtual 48, 3) := by decide +kernel
theorem dX2_knitPlan_72 : decode cX2_knitPlan 72 = .ok (.iload_n 1, 1) := by decide +kernel
theorem dX2_knitPlan_73 : decode cX2_knitPlan 73 = .ok (.invokevirtual 51, 3) := by decide +kernel
theorem dX2_knitPlan_76 : decode cX2_knitPlan 76 = .ok (.aload_n 0, 1) := by decide +kernel
theorem dX2_knitPlan_77 : decode cX2_knitPlan 77 = .ok (.getfield 29, 3) := by decide +kernel
theorem dX2_knitPlan_80 : decode cX2_knitPlan 80 = .ok (.ifCond .eq 8, 3) := by decide +kernel
theorem dX2_knitPlan_83 : decode cX2_knitPlan 83 = .ok (.aload_n 0, 1) := by decide +kernel
theorem dX2_knitPlan_84 : decode cX2_knitPlan 84 = .ok (.getfield 29, 3) := by decide +kernel
theorem dX2_knitPlan_87 : decode cX2_knitPlan 87 = .ok (.ireturn, 1) := by decide +kernel
theorem dX2_knitPlan_88 : decode cX2_knitPlan 88 = .ok (.aload_n 0, 1) := by decide +kernel
theorem dX2_knitPlan_89 : decode cX2_knitPlan 89 = .ok (.getfield 19, 3) := by decide +kernel
theorem dX2_knitPlan_92 : decode cX2_knitPlan 92 = .ok (.invokevirtual 55, 3) := by decide +kernel
theorem dX2_knitPlan_95 : decode cX2_knitPlan 95 = .ok (.aload_n 0, 1) := by decide +kernel
theorem dX2_knitPlan_96 : decode cX2_knitPlan 96 = .ok (.getfield 19, 3) := by decide +kernel
theorem dX2_knitPlan_99 : decode cX2_knitPlan 99 = .ok (.invokevirtual 58, 3) := by decide +kernel
theorem dX2_knitPlan_102 : decode cX2_knitPlan 102 = .ok (.ireturn, 1) := by decide +kernel
theorem dX2_note_0 : decode cX2_note 0 = .ok (.iload_n 1, 1) := by decide +kernel
theorem dX2_note_1 : decode cX2_note 1 = .ok (.ifCond .eq 12, 3) := by decide +kernel
theorem dX2_note_4 : decode cX2_note 4 = .ok (.aload_n 0, 1) := by decide +kernel
theorem dX2_note_5 : decode cX2_note 5 = .ok (.iload_n 1, 1) := by decide +kernel
theorem dX2_note_6 : decode cX2_note 6 = .ok (.iload_n 2, 1) := by decide +kernel
theorem dX2_note_7 : decode cX2_note 7 = .ok (.invokestatic 61, 3) := by decide +kernel
theorem dX2_note_10 : decode cX2_note 10 = .ok (.putfield 29, 3) := by decide +kernel
theorem dX2_note_13 : decode cX2_note 13 = .ok (.return_, 1) := by decide +kernel
theorem dX2_knitStep_0 : decode cX2_knitStep 0 = .ok (.aload_n 0, 1) := by decide +kernel
theorem dX2_knitStep_1 : decode cX2_knitStep 1 = .ok (.getfield 15, 3) := by decide +kernel
theorem dX2_knitStep_4 : decode cX2_knitStep 4 = .ok (.iload_n 1, 1) := by decide +kernel
theorem dX2_knitStep_5 : decode cX2_knitStep 5 = .ok (.invokevirtual 65, 3) := by decide +kernel
theorem dX2_knitStep_8 : decode cX2_knitStep 8 = .ok (.tableswitch 63 0 2 #[28, 37, 52], 28) := by decide +kernel
theorem dX2_knitStep_36 : decode cX2_knitStep 36 = .ok (.aload_n 0, 1) := by decide +kernel
theorem dX2_knitStep_37 : decode cX2_knitStep 37 = .ok (.iload_n 1, 1) := by decide +kernel
theorem dX2_knitStep_38 : decode cX2_knitStep 38 = .ok (.invokevirtual 68, 3) := by decide +kernel
theorem dX2_knitStep_41 : decode cX2_knitStep 41 = .ok (.iload_n 1, 1) := by decide +kernel
theorem dX2_knitStep_42 : decode cX2_knitStep 42 = .ok (.iconst 1, 1) := by decide +kernel
theorem dX2_knitStep_43 : decode cX2_knitStep 43 = .ok (.iadd, 1) := by decide +kernel
theorem dX2_knitStep_44 : decode cX2_knitStep 44 = .ok (.ireturn, 1) := by decide +kernel
theorem dX2_knitStep_45 : decode cX2_knitStep 45 = .ok (.aload_n 0, 1) := by decide +kernel
theorem dX2_knitStep_46 : decode cX2_knitStep 46 = .ok (.iload_n 1, 1) := by decide +kernel
theorem dX2_knitStep_47 : decode cX2_knitStep 47 = .ok (.aload_n 0, 1) := by decide +kernel
theorem dX2_knitStep_48 : decode cX2_knitStep 48 = .ok (.getfield 15, 3) := by decide +kernel
theorem dX2_knitStep_51 : decode cX2_knitStep 51 = .ok (.iload_n 1, 1) := by decide +kernel
theorem dX2_knitStep_52 : decode cX2_knitStep 52 = .ok (.invokevirtual 72, 3) := by decide +kernel
theorem dX2_knitStep_55 : decode cX2_knitStep 55 = .ok (.i2l, 1) := by decide +kernel
theorem dX2_knitStep_56 : decode cX2_knitStep 56 = .ok (.invokevirtual 75, 3) := by decide +kernel
theorem dX2_knitStep_59 : decode cX2_knitStep 59 = .ok (.ireturn, 1) := by decide +kernel
theorem dX2_knitStep_60 : decode cX2_knitStep 60 = .ok (.aload_n 0, 1) := by decide +kernel
theorem dX2_knitStep_61 : decode cX2_knitStep 61 = .ok (.iload_n 1, 1) := by decide +kernel
theorem dX2_knitStep_62 : decode cX2_knitStep 62 = .ok (.aload_n 0, 1) := by decide +kernel
theorem dX2_knitStep_63 : decode cX2_knitStep 63 = .ok (.iload_n 1, 1) := by decide +kernel
theorem dX2_knitStep_64 : decode cX2_knitStep 64 = .ok (.invokevirtual 79, 3) := by decide +kernel
theorem dX2_knitStep_67 : decode cX2_knitStep 67 = .ok (.invokevirtual 75, 3) := by decide +kernel
theorem dX2_knitStep_70 : decode cX2_knitStep 70 = .ok (.ireturn, 1) := by decide +kernel
theorem dX2_knitStep_71 : decode cX2_knitStep 71 = .ok (.aload_n 0, 1) := by decide +kernel
theorem dX2_knitStep_72 : decode cX2_knitStep 72 = .ok (.iload_n 1, 1) := by decide +kernel
theorem dX2_knitStep_73 : decode cX2_knitStep 73 = .ok (.invokevirtual 83, 3) := by decide +kernel
theorem dX2_knitStep_76 : decode cX2_knitStep 76 = .ok (.ireturn, 1) := by decide +kernel
theorem dX2_knitStitches_0 : decode cX2_knitStitches 0 = .ok (.aload_n 0, 1) := by decide +kernel
theorem dX2_knitStitches_1 : decode cX2_knitStitches 1 = .ok (.getfield 15, 3) := by decide +kernel
theorem dX2_knitStitches_4 : decode cX2_knitStitches 4 = .ok (.iload_n 1, 1) := by decide +kernel
theorem dX2_knitStitches_5 : decode cX2_knitStitches 5 = .ok (.invokevirtual 86, 3) := by decide +kernel
theorem dX2_knitStitches_8 : decode cX2_knitStitches 8 = .ok (.istore_n 2, 1) := by decide +kernel
theorem dX2_knitStitches_9 : decode cX2_knitStitches 9 = .ok (.aload_n 0, 1) := by decide +kernel
theorem dX2_knitStitches_10 : decode cX2_knitStitches 10 = .ok (.getfield 15, 3) := by decide +kernel
theorem dX2_knitStitches_13 : decode cX2_knitStitches 13 = .ok (.iload_n 1, 1) := by decide +kernel
theorem dX2_knitStitches_14 : decode cX2_knitStitches 14 = .ok (.invokevirtual 72, 3) := by decide +kernel
theorem dX2_knitStitches_17 : decode cX2_knitStitches 17 = .ok (.istore_n 3, 1) := by decide +kernel
theorem dX2_knitStitches_18 : decode cX2_knitStitches 18 = .ok (.iconst 0, 1) := by decide +kernel
theorem dX2_knitStitches_19 : decode cX2_knitStitches 19 = .ok (.istore 4, 2) := by decide +kernel
theorem dX2_knitStitches_21 : decode cX2_knitStitches 21 = .ok (.iload 4, 2) := by decide +kernel
theorem dX2_knitStitches_23 : decode cX2_knitStitches 23 = .ok (.iload_n 3, 1) := by decide +kernel
theorem dX2_knitStitches_24 : decode cX2_knitStitches 24 = .ok (.if_icmp .ge 51, 3) := by decide +kernel
theorem dX2_knitStitches_27 : decode cX2_knitStitches 27 = .ok (.aload_n 0, 1) := by decide +kernel
theorem dX2_knitStitches_28 : decode cX2_knitStitches 28 = .ok (.getfield 29, 3) := by decide +kernel
theorem dX2_knitStitches_31 : decode cX2_knitStitches 31 = .ok (.ifCond .ne 44, 3) := by decide +kernel
theorem dX2_knitStitches_34 : decode cX2_knitStitches 34 = .ok (.aload_n 0, 1) := by decide +kernel
theorem dX2_knitStitches_35 : decode cX2_knitStitches 35 = .ok (.aload_n 0, 1) := by decide +kernel
theorem dX2_knitStitches_36 : decode cX2_knitStitches 36 = .ok (.getfield 19, 3) := by decide +kernel
theorem dX2_knitStitches_39 : decode cX2_knitStitches 39 = .ok (.iload_n 2, 1) := by decide +kernel
theorem dX2_knitStitches_40 : decode cX2_knitStitches 40 = .ok (.invokevirtual 89, 3) := by decide +kernel
theorem dX2_knitStitches_43 : decode cX2_knitStitches 43 = .ok (.aload_n 0, 1) := by decide +kernel
theorem dX2_knitStitches_44 : decode cX2_knitStitches 44 = .ok (.getfield 15, 3) := by decide +kernel
theorem dX2_knitStitches_47 : decode cX2_knitStitches 47 = .ok (.iload_n 1, 1) := by decide +kernel
theorem dX2_knitStitches_48 : decode cX2_knitStitches 48 = .ok (.invokevirtual 92, 3) := by decide +kernel
theorem dX2_knitStitches_51 : decode cX2_knitStitches 51 = .ok (.invokevirtual 51, 3) := by decide +kernel
theorem dX2_knitStitches_54 : decode cX2_knitStitches 54 = .ok (.aload_n 0, 1) := by decide +kernel
theorem dX2_knitStitches_55 : decode cX2_knitStitches 55 = .ok (.getfield 29, 3) := by decide +kernel
theorem dX2_knitStitches_58 : decode cX2_knitStitches 58 = .ok (.ifCond .ne 11, 3) := by decide +kernel
theorem dX2_knitStitches_61 : decode cX2_knitStitches 61 = .ok (.aload_n 0, 1) := by decide +kernel
theorem dX2_knitStitches_62 : decode cX2_knitStitches 62 = .ok (.getfield 19, 3) := by decide +kernel
theorem dX2_knitStitches_65 : decode cX2_knitStitches 65 = .ok (.iload_n 2, 1) := by decide +kernel
theorem dX2_knitStitches_66 : decode cX2_knitStitches 66 = .ok (.invokevirtual 95, 3) := by decide +kernel
theorem dX2_knitStitches_69 : decode cX2_knitStitches 69 = .ok (.iinc 4 1, 3) := by decide +kernel
theorem dX2_knitStitches_72 : decode cX2_knitStitches 72 = .ok (.goto (-51), 3) := by decide +kernel
theorem dX2_knitStitches_75 : decode cX2_knitStitches 75 = .ok (.return_, 1) := by decide +kernel
theorem dX2_runsOfRepeat_0 : decode cX2_runsOfRepeat 0 = .ok (.aload_n 0, 1) := by decide +kernel
theorem dX2_runsOfRepeat_1 : decode cX2_runsOfRepeat 1 = .ok (.getfield 15, 3) := by decide +kernel
theorem dX2_runsOfRepeat_4 : decode cX2_runsOfRepeat 4 = .ok (.iload_n 1, 1) := by decide +kernel
theorem dX2_runsOfRepeat_5 : decode cX2_runsOfRepeat 5 = .ok (.invokevirtual 98, 3) := by decide +kernel
theorem dX2_runsOfRepeat_8 : decode cX2_runsOfRepeat 8 = .ok (.lstore_n 2, 1) := by decide +kernel
theorem dX2_runsOfRepeat_9 : decode cX2_runsOfRepeat 9 = .ok (.aload_n 0, 1) := by decide +kernel
theorem dX2_runsOfRepeat_10 : decode cX2_runsOfRepeat 10 = .ok (.getfield 19, 3) := by decide +kernel
theorem dX2_runsOfRepeat_13 : decode cX2_runsOfRepeat 13 = .ok (.invokevirtual 101, 3) := by decide +kernel
theorem dX2_runsOfRepeat_16 : decode cX2_runsOfRepeat 16 = .ok (.aload_n 0, 1) := by decide +kernel
theorem dX2_runsOfRepeat_17 : decode cX2_runsOfRepeat 17 = .ok (.getfield 15, 3) := by decide +kernel
theorem dX2_runsOfRepeat_20 : decode cX2_runsOfRepeat 20 = .ok (.iload_n 1, 1) := by decide +kernel
theorem dX2_runsOfRepeat_21 : decode cX2_runsOfRepeat 21 = .ok (.invokevirtual 72, 3) := by decide +kernel
theorem dX2_runsOfRepeat_24 : decode cX2_runsOfRepeat 24 = .ok (.isub, 1) := by decide +kernel
theorem dX2_runsOfRepeat_25 : decode cX2_runsOfRepeat 25 = .ok (.i2l, 1) := by decide +kernel
theorem dX2_runsOfRepeat_26 : decode cX2_runsOfRepeat 26 = .ok (.lstore 4, 2) := by decide +kernel
theorem dX2_runsOfRepeat_28 : decode cX2_runsOfRepeat 28 = .ok (.lload_n 2, 1) := by decide +kernel
theorem dX2_runsOfRepeat_29 : decode cX2_runsOfRepeat 29 = .ok (.lconst 0, 1) := by decide +kernel
theorem dX2_runsOfRepeat_30 : decode cX2_runsOfRepeat 30 = .ok (.lcmp, 1) := by decide +kernel
theorem dX2_runsOfRepeat_31 : decode cX2_runsOfRepeat 31 = .ok (.ifCond .le 19, 3) := by decide +kernel
theorem dX2_runsOfRepeat_34 : decode cX2_runsOfRepeat 34 = .ok (.lload 4, 2) := by decide +kernel
theorem dX2_runsOfRepeat_36 : decode cX2_runsOfRepeat 36 = .ok (.lconst 0, 1) := by decide +kernel
theorem dX2_runsOfRepeat_37 : decode cX2_runsOfRepeat 37 = .ok (.lcmp, 1) := by decide +kernel
theorem dX2_runsOfRepeat_38 : decode cX2_runsOfRepeat 38 = .ok (.ifCond .lt 12, 3) := by decide +kernel
theorem dX2_runsOfRepeat_41 : decode cX2_runsOfRepeat 41 = .ok (.lload 4, 2) := by decide +kernel
theorem dX2_runsOfRepeat_43 : decode cX2_runsOfRepeat 43 = .ok (.lload_n 2, 1) := by decide +kernel
theorem dX2_runsOfRepeat_44 : decode cX2_runsOfRepeat 44 = .ok (.lrem, 1) := by decide +kernel
theorem dX2_runsOfRepeat_45 : decode cX2_runsOfRepeat 45 = .ok (.lconst 0, 1) := by decide +kernel
theorem dX2_runsOfRepeat_46 : decode cX2_runsOfRepeat 46 = .ok (.lcmp, 1) := by decide +kernel
theorem dX2_runsOfRepeat_47 : decode cX2_runsOfRepeat 47 = .ok (.ifCond .eq 18, 3) := by decide +kernel
theorem dX2_runsOfRepeat_50 : decode cX2_runsOfRepeat 50 = .ok (.aload_n 0, 1) := by decide +kernel
theorem dX2_runsOfRepeat_51 : decode cX2_runsOfRepeat 51 = .ok (.iconst 3, 1) := by decide +kernel
theorem dX2_runsOfRepeat_52 : decode cX2_runsOfRepeat 52 = .ok (.aload_n 0, 1) := by decide +kernel
theorem dX2_runsOfRepeat_53 : decode cX2_runsOfRepeat 53 = .ok (.getfield 15, 3) := by decide +kernel
theorem dX2_runsOfRepeat_56 : decode cX2_runsOfRepeat 56 = .ok (.iload_n 1, 1) := by decide +kernel
theorem dX2_runsOfRepeat_57 : decode cX2_runsOfRepeat 57 = .ok (.invokevirtual 92, 3) := by decide +kernel
theorem dX2_runsOfRepeat_60 : decode cX2_runsOfRepeat 60 = .ok (.invokevirtual 51, 3) := by decide +kernel
theorem dX2_runsOfRepeat_63 : decode cX2_runsOfRepeat 63 = .ok (.lconst 0, 1) := by decide +kernel
theorem dX2_runsOfRepeat_64 : decode cX2_runsOfRepeat 64 = .ok (.lreturn, 1) := by decide +kernel
theorem dX2_runsOfRepeat_65 : decode cX2_runsOfRepeat 65 = .ok (.lload 4, 2) := by decide +kernel
theorem dX2_runsOfRepeat_67 : decode cX2_runsOfRepeat 67 = .ok (.lload_n 2, 1) := by decide +kernel
theorem dX2_runsOfRepeat_68 : decode cX2_runsOfRepeat 68 = .ok (.ldiv, 1) := by decide +kernel
theorem dX2_runsOfRepeat_69 : decode cX2_runsOfRepeat 69 = .ok (.lreturn, 1) := by decide +kernel
theorem dX2_enter_0 : decode cX2_enter 0 = .ok (.lload_n 2, 1) := by decide +kernel
theorem dX2_enter_1 : decode cX2_enter 1 = .ok (.lconst 0, 1) := by decide +kernel
theorem dX2_enter_2 : decode cX2_enter 2 = .ok (.lcmp, 1) := by decide +kernel
theorem dX2_enter_3 : decode cX2_enter 3 = .ok (.ifCond .le 11, 3) := by decide +kernel
theorem dX2_enter_6 : decode cX2_enter 6 = .ok (.aload_n 0, 1) := by decide +kernel
theorem dX2_enter_7 : decode cX2_enter 7 = .ok (.getfield 23, 3) := by decide +kernel
theorem dX2_enter_10 : decode cX2_enter 10 = .ok (.iconst 4, 1) := by decide +kernel
theorem dX2_enter_11 : decode cX2_enter 11 = .ok (.if_icmp .lt 14, 3) := by decide +kernel
theorem dX2_enter_14 : decode cX2_enter 14 = .ok (.aload_n 0, 1) := by decide +kernel
theorem dX2_enter_15 : decode cX2_enter 15 = .ok (.getfield 15, 3) := by decide +kernel
theorem dX2_enter_18 : decode cX2_enter 18 = .ok (.iload_n 1, 1) := by decide +kernel
theorem dX2_enter_19 : decode cX2_enter 19 = .ok (.invokevirtual 86, 3) := by decide +kernel
theorem dX2_enter_22 : decode cX2_enter 22 = .ok (.iconst 1, 1) := by decide +kernel
theorem dX2_enter_23 : decode cX2_enter 23 = .ok (.iadd, 1) := by decide +kernel
theorem dX2_enter_24 : decode cX2_enter 24 = .ok (.ireturn, 1) := by decide +kernel
theorem dX2_enter_25 : decode cX2_enter 25 = .ok (.aload_n 0, 1) := by decide +kernel
theorem dX2_enter_26 : decode cX2_enter 26 = .ok (.dup, 1) := by decide +kernel
theorem dX2_enter_27 : decode cX2_enter 27 = .ok (.getfield 23, 3) := by decide +kernel
theorem dX2_enter_30 : decode cX2_enter 30 = .ok (.iconst 1, 1) := by decide +kernel
theorem dX2_enter_31 : decode cX2_enter 31 = .ok (.iadd, 1) := by decide +kernel
theorem dX2_enter_32 : decode cX2_enter 32 = .ok (.putfield 23, 3) := by decide +kernel
theorem dX2_enter_35 : decode cX2_enter 35 = .ok (.aload_n 0, 1) := by decide +kernel
theorem dX2_enter_36 : decode cX2_enter 36 = .ok (.getfield 9, 3) := by decide +kernel
theorem dX2_enter_39 : decode cX2_enter 39 = .ok (.aload_n 0, 1) := by decide +kernel
theorem dX2_enter_40 : decode cX2_enter 40 = .ok (.getfield 23, 3) := by decide +kernel
theorem dX2_enter_43 : decode cX2_enter 43 = .ok (.lload_n 2, 1) := by decide +kernel
theorem dX2_enter_44 : decode cX2_enter 44 = .ok (.lastore, 1) := by decide +kernel
theorem dX2_enter_45 : decode cX2_enter 45 = .ok (.iload_n 1, 1) := by decide +kernel
theorem dX2_enter_46 : decode cX2_enter 46 = .ok (.iconst 1, 1) := by decide +kernel
theorem dX2_enter_47 : decode cX2_enter 47 = .ok (.iadd, 1) := by decide +kernel
theorem dX2_enter_48 : decode cX2_enter 48 = .ok (.ireturn, 1) := by decide +kernel
theorem dX2_leave_0 : decode cX2_leave 0 = .ok (.aload_n 0, 1) := by decide +kernel
theorem dX2_leave_1 : decode cX2_leave 1 = .ok (.getfield 9, 3) := by decide +kernel
theorem dX2_leave_4 : decode cX2_leave 4 = .ok (.aload_n 0, 1) := by decide +kernel
theorem dX2_leave_5 : decode cX2_leave 5 = .ok (.getfield 23, 3) := by decide +kernel
theorem dX2_leave_8 : decode cX2_leave 8 = .ok (.dup2, 1) := by decide +kernel
theorem dX2_leave_9 : decode cX2_leave 9 = .ok (.laload, 1) := by decide +kernel
theorem dX2_leave_10 : decode cX2_leave 10 = .ok (.lconst 1, 1) := by decide +kernel
theorem dX2_leave_11 : decode cX2_leave 11 = .ok (.lsub, 1) := by decide +kernel
theorem dX2_leave_12 : decode cX2_leave 12 = .ok (.lastore, 1) := by decide +kernel
theorem dX2_leave_13 : decode cX2_leave 13 = .ok (.aload_n 0, 1) := by decide +kernel
theorem dX2_leave_14 : decode cX2_leave 14 = .ok (.getfield 9, 3) := by decide +kernel
theorem dX2_leave_17 : decode cX2_leave 17 = .ok (.aload_n 0, 1) := by decide +kernel
theorem dX2_leave_18 : decode cX2_leave 18 = .ok (.getfield 23, 3) := by decide +kernel
theorem dX2_leave_21 : decode cX2_leave 21 = .ok (.laload, 1) := by decide +kernel
theorem dX2_leave_22 : decode cX2_leave 22 = .ok (.lconst 0, 1) := by decide +kernel
theorem dX2_leave_23 : decode cX2_leave 23 = .ok (.lcmp, 1) := by decide +kernel
theorem dX2_leave_24 : decode cX2_leave 24 = .ok (.ifCond .le 14, 3) := by decide +kernel
theorem dX2_leave_27 : decode cX2_leave 27 = .ok (.aload_n 0, 1) := by decide +kernel
theorem dX2_leave_28 : decode cX2_leave 28 = .ok (.getfield 15, 3) := by decide +kernel
theorem dX2_leave_31 : decode cX2_leave 31 = .ok (.iload_n 1, 1) := by decide +kernel
theorem dX2_leave_32 : decode cX2_leave 32 = .ok (.invokevirtual 86, 3) := by decide +kernel
theorem dX2_leave_35 : decode cX2_leave 35 = .ok (.iconst 1, 1) := by decide +kernel
theorem dX2_leave_36 : decode cX2_leave 36 = .ok (.iadd, 1) := by decide +kernel
theorem dX2_leave_37 : decode cX2_leave 37 = .ok (.ireturn, 1) := by decide +kernel
theorem dX2_leave_38 : decode cX2_leave 38 = .ok (.aload_n 0, 1) := by decide +kernel
theorem dX2_leave_39 : decode cX2_leave 39 = .ok (.aload_n 0, 1) := by decide +kernel
theorem dX2_leave_40 : decode cX2_leave 40 = .ok (.getfield 23, 3) := by decide +kernel
theorem dX2_leave_43 : decode cX2_leave 43 = .ok (.iconst 1, 1) := by decide +kernel
theorem dX2_leave_44 : decode cX2_leave 44 = .ok (.isub, 1) := by decide +kernel
theorem dX2_leave_45 : decode cX2_leave 45 = .ok (.iconst 0, 1) := by decide +kernel
theorem dX2_leave_46 : decode cX2_leave 46 = .ok (.invokestatic 104, 3) := by decide +kernel
theorem dX2_leave_49 : decode cX2_leave 49 = .ok (.putfield 23, 3) := by decide +kernel
theorem dX2_leave_52 : decode cX2_leave 52 = .ok (.iload_n 1, 1) := by decide +kernel
theorem dX2_leave_53 : decode cX2_leave 53 = .ok (.iconst 1, 1) := by decide +kernel
theorem dX2_leave_54 : decode cX2_leave 54 = .ok (.iadd, 1) := by decide +kernel
theorem dX2_leave_55 : decode cX2_leave 55 = .ok (.ireturn, 1) := by decide +kernel
theorem dX4_init_0 : decode cX4_init 0 = .ok (.aload_n 0, 1) := by decide +kernel
theorem dX4_init_1 : decode cX4_init 1 = .ok (.invokespecial 1, 3) := by decide +kernel
theorem dX4_init_4 : decode cX4_init 4 = .ok (.aload_n 0, 1) := by decide +kernel
theorem dX4_init_5 : decode cX4_init 5 = .ok (.iconst 5, 1) := by decide +kernel
theorem dX4_init_6 : decode cX4_init 6 = .ok (.newarray .int, 2) := by decide +kernel
theorem dX4_init_8 : decode cX4_init 8 = .ok (.putfield 9, 3) := by decide +kernel
theorem dX4_init_11 : decode cX4_init 11 = .ok (.aload_n 0, 1) := by decide +kernel
theorem dX4_init_12 : decode cX4_init 12 = .ok (.iconst 5, 1) := by decide +kernel
theorem dX4_init_13 : decode cX4_init 13 = .ok (.newarray .long, 2) := by decide +kernel
theorem dX4_init_15 : decode cX4_init 15 = .ok (.putfield 13, 3) := by decide +kernel
theorem dX4_init_18 : decode cX4_init 18 = .ok (.aload_n 0, 1) := by decide +kernel
theorem dX4_init_19 : decode cX4_init 19 = .ok (.aload_n 1, 1) := by decide +kernel
theorem dX4_init_20 : decode cX4_init 20 = .ok (.putfield 17, 3) := by decide +kernel
theorem dX4_init_23 : decode cX4_init 23 = .ok (.aload_n 0, 1) := by decide +kernel
theorem dX4_init_24 : decode cX4_init 24 = .ok (.aload_n 2, 1) := by decide +kernel
theorem dX4_init_25 : decode cX4_init 25 = .ok (.putfield 21, 3) := by decide +kernel
theorem dX4_init_28 : decode cX4_init 28 = .ok (.return_, 1) := by decide +kernel
theorem dX4_readTape_0 : decode cX4_readTape 0 = .ok (.aload_n 0, 1) := by decide +kernel
theorem dX4_readTape_1 : decode cX4_readTape 1 = .ok (.getfield 21, 3) := by decide +kernel
theorem dX4_readTape_4 : decode cX4_readTape 4 = .ok (.invokevirtual 25, 3) := by decide +kernel
theorem dX4_readTape_7 : decode cX4_readTape 7 = .ok (.aload_n 0, 1) := by decide +kernel
theorem dX4_readTape_8 : decode cX4_readTape 8 = .ok (.iconst 0, 1) := by decide +kernel
theorem dX4_readTape_9 : decode cX4_readTape 9 = .ok (.putfield 30, 3) := by decide +kernel
theorem dX4_readTape_12 : decode cX4_readTape 12 = .ok (.aload_n 0, 1) := by decide +kernel
theorem dX4_readTape_13 : decode cX4_readTape 13 = .ok (.getfield 13, 3) := by decide +kernel
theorem dX4_readTape_16 : decode cX4_readTape 16 = .ok (.iconst 0, 1) := by decide +kernel
theorem dX4_readTape_17 : decode cX4_readTape 17 = .ok (.lconst 0, 1) := by decide +kernel
theorem dX4_readTape_18 : decode cX4_readTape 18 = .ok (.lastore, 1) := by decide +kernel
theorem dX4_readTape_19 : decode cX4_readTape 19 = .ok (.aload_n 0, 1) := by decide +kernel
theorem dX4_readTape_20 : decode cX4_readTape 20 = .ok (.iconst 0, 1) := by decide +kernel
theorem dX4_readTape_21 : decode cX4_readTape 21 = .ok (.putfield 34, 3) := by decide +kernel
theorem dX4_readTape_24 : decode cX4_readTape 24 = .ok (.aload_n 0, 1) := by decide +kernel
theorem dX4_readTape_25 : decode cX4_readTape 25 = .ok (.iconst 0, 1) := by decide +kernel
theorem dX4_readTape_26 : decode cX4_readTape 26 = .ok (.putfield 39, 3) := by decide +kernel
theorem dX4_readTape_29 : decode cX4_readTape 29 = .ok (.aload_n 0, 1) := by decide +kernel
theorem dX4_readTape_30 : decode cX4_readTape 30 = .ok (.iconst 1, 1) := by decide +kernel
theorem dX4_readTape_31 : decode cX4_readTape 31 = .ok (.putfield 42, 3) := by decide +kernel
theorem dX4_readTape_34 : decode cX4_readTape 34 = .ok (.aload_n 0, 1) := by decide +kernel
theorem dX4_readTape_35 : decode cX4_readTape 35 = .ok (.iconst 0, 1) := by decide +kernel
theorem dX4_readTape_36 : decode cX4_readTape 36 = .ok (.putfield 46, 3) := by decide +kernel
theorem dX4_readTape_39 : decode cX4_readTape 39 = .ok (.iconst 0, 1) := by decide +kernel
theorem dX4_readTape_40 : decode cX4_readTape 40 = .ok (.istore_n 1, 1) := by decide +kernel
theorem dX4_readTape_41 : decode cX4_readTape 41 = .ok (.iload_n 1, 1) := by decide +kernel
theorem dX4_readTape_42 : decode cX4_readTape 42 = .ok (.aload_n 0, 1) := by decide +kernel
theorem dX4_readTape_43 : decode cX4_readTape 43 = .ok (.getfield 17, 3) := by decide +kernel
theorem dX4_readTape_46 : decode cX4_readTape 46 = .ok (.invokevirtual 49, 3) := by decide +kernel
theorem dX4_readTape_49 : decode cX4_readTape 49 = .ok (.if_icmp .gt 45, 3) := by decide +kernel
theorem dX4_readTape_52 : decode cX4_readTape 52 = .ok (.aload_n 0, 1) := by decide +kernel
theorem dX4_readTape_53 : decode cX4_readTape 53 = .ok (.getfield 46, 3) := by decide +kernel
theorem dX4_readTape_56 : decode cX4_readTape 56 = .ok (.ifCond .ne 38, 3) := by decide +kernel
theorem dX4_readTape_59 : decode cX4_readTape 59 = .ok (.aload_n 0, 1) := by decide +kernel
theorem dX4_readTape_60 : decode cX4_readTape 60 = .ok (.invokevirtual 55, 3) := by decide +kernel
theorem dX4_readTape_63 : decode cX4_readTape 63 = .ok (.ifCond .eq 31, 3) := by decide +kernel
theorem dX4_readTape_66 : decode cX4_readTape 66 = .ok (.aload_n 0, 1) := by decide +kernel
theorem dX4_readTape_67 : decode cX4_readTape 67 = .ok (.invokevirtual 59, 3) := by decide +kernel
theorem dX4_readTape_70 : decode cX4_readTape 70 = .ok (.aload_n 0, 1) := by decide +kernel
theorem dX4_readTape_71 : decode cX4_readTape 71 = .ok (.getfield 42, 3) := by decide +kernel
theorem dX4_readTape_74 : decode cX4_readTape 74 = .ok (.ifCond .eq 10, 3) := by decide +kernel
theorem dX4_readTape_77 : decode cX4_readTape 77 = .ok (.aload_n 0, 1) := by decide +kernel
theorem dX4_readTape_78 : decode cX4_readTape 78 = .ok (.invokevirtual 62, 3) := by decide +kernel
theorem dX4_readTape_81 : decode cX4_readTape 81 = .ok (.goto 7, 3) := by decide +kernel
theorem dX4_readTape_84 : decode cX4_readTape 84 = .ok (.aload_n 0, 1) := by decide +kernel
theorem dX4_readTape_85 : decode cX4_readTape 85 = .ok (.invokevirtual 65, 3) := by decide +kernel
theorem dX4_readTape_88 : decode cX4_readTape 88 = .ok (.iinc 1 1, 3) := by decide +kernel
theorem dX4_readTape_91 : decode cX4_readTape 91 = .ok (.goto (-50), 3) := by decide +kernel
theorem dX4_readTape_94 : decode cX4_readTape 94 = .ok (.aload_n 0, 1) := by decide +kernel
theorem dX4_readTape_95 : decode cX4_readTape 95 = .ok (.getfield 39, 3) := by decide +kernel
theorem dX4_readTape_98 : decode cX4_readTape 98 = .ok (.ireturn, 1) := by decide +kernel
theorem dX4_isRight_0 : decode cX4_isRight 0 = .ok (.aload_n 0, 1) := by decide +kernel
theorem dX4_isRight_1 : decode cX4_isRight 1 = .ok (.getfield 39, 3) := by decide +kernel
theorem dX4_isRight_4 : decode cX4_isRight 4 = .ok (.ifCond .ne 7, 3) := by decide +kernel
theorem dX4_isRight_7 : decode cX4_isRight 7 = .ok (.iconst 1, 1) := by decide +kernel
theorem dX4_isRight_8 : decode cX4_isRight 8 = .ok (.goto 4, 3) := by decide +kernel
theorem dX4_isRight_11 : decode cX4_isRight 11 = .ok (.iconst 0, 1) := by decide +kernel
theorem dX4_isRight_12 : decode cX4_isRight 12 = .ok (.ireturn, 1) := by decide +kernel
theorem dX4_next_0 : decode cX4_next 0 = .ok (.aload_n 0, 1) := by decide +kernel
theorem dX4_next_1 : decode cX4_next 1 = .ok (.getfield 17, 3) := by decide +kernel
theorem dX4_next_4 : decode cX4_next 4 = .ok (.aload_n 0, 1) := by decide +kernel
theorem dX4_next_5 : decode cX4_next 5 = .ok (.getfield 34, 3) := by decide +kernel
theorem dX4_next_8 : decode cX4_next 8 = .ok (.invokevirtual 68, 3) := by decide +kernel
theorem dX4_next_11 : decode cX4_next 11 = .ok (.ireturn, 1) := by decide +kernel
theorem dX4_fail_0 : decode cX4_fail 0 = .ok (.aload_n 0, 1) := by decide +kernel
theorem dX4_fail_1 : decode cX4_fail 1 = .ok (.invokevirtual 55, 3) := by decide +kernel
theorem dX4_fail_4 : decode cX4_fail 4 = .ok (.ifCond .eq 15, 3) := by decide +kernel
theorem dX4_fail_7 : decode cX4_fail 7 = .ok (.aload_n 0, 1) := by decide +kernel
theorem dX4_fail_8 : decode cX4_fail 8 = .ok (.iload_n 1, 1) := by decide +kernel
theorem dX4_fail_9 : decode cX4_fail 9 = .ok (.aload_n 0, 1) := by decide +kernel
theorem dX4_fail_10 : decode cX4_fail 10 = .ok (.getfield 34, 3) := by decide +kernel
theorem dX4_fail_13 : decode cX4_fail 13 = .ok (.invokestatic 72, 3) := by decide +kernel
theorem dX4_fail_16 : decode cX4_fail 16 = .ok (.putfield 39, 3) := by decide +kernel
theorem dX4_fail_19 : decode cX4_fail 19 = .ok (.return_, 1) := by decide +kernel
theorem dX4_skipBlanks_0 : decode cX4_skipBlanks 0 = .ok (.aload_n 0, 1) := by decide +kernel
theorem dX4_skipBlanks_1 : decode cX4_skipBlanks 1 = .ok (.getfield 34, 3) := by decide +kernel
theorem dX4_skipBlanks_4 : decode cX4_skipBlanks 4 = .ok (.aload_n 0, 1) := by decide +kernel
theorem dX4_skipBlanks_5 : decode cX4_skipBlanks 5 = .ok (.getfield 17, 3) := by decide +kernel
theorem dX4_skipBlanks_8 : decode cX4_skipBlanks 8 = .ok (.invokevirtual 49, 3) := by decide +kernel
theorem dX4_skipBlanks_11 : decode cX4_skipBlanks 11 = .ok (.if_icmp .ge 25, 3) := by decide +kernel
theorem dX4_skipBlanks_14 : decode cX4_skipBlanks 14 = .ok (.aload_n 0, 1) := by decide +kernel
theorem dX4_skipBlanks_15 : decode cX4_skipBlanks 15 = .ok (.invokevirtual 76, 3) := by decide +kernel
theorem dX4_skipBlanks_18 : decode cX4_skipBlanks 18 = .ok (.bipush 32, 2) := by decide +kernel
theorem dX4_skipBlanks_20 : decode cX4_skipBlanks 20 = .ok (.if_icmp .ne 16, 3) := by decide +kernel
theorem dX4_skipBlanks_23 : decode cX4_skipBlanks 23 = .ok (.aload_n 0, 1) := by decide +kernel
theorem dX4_skipBlanks_24 : decode cX4_skipBlanks 24 = .ok (.dup, 1) := by decide +kernel
theorem dX4_skipBlanks_25 : decode cX4_skipBlanks 25 = .ok (.getfield 34, 3) := by decide +kernel
theorem dX4_skipBlanks_28 : decode cX4_skipBlanks 28 = .ok (.iconst 1, 1) := by decide +kernel
theorem dX4_skipBlanks_29 : decode cX4_skipBlanks 29 = .ok (.iadd, 1) := by decide +kernel
theorem dX4_skipBlanks_30 : decode cX4_skipBlanks 30 = .ok (.putfield 34, 3) := by decide +kernel
theorem dX4_skipBlanks_33 : decode cX4_skipBlanks 33 = .ok (.goto (-33), 3) := by decide +kernel
theorem dX4_skipBlanks_36 : decode cX4_skipBlanks 36 = .ok (.return_, 1) := by decide +kernel
theorem dX4_readItem_0 : decode cX4_readItem 0 = .ok (.aload_n 0, 1) := by decide +kernel
theorem dX4_readItem_1 : decode cX4_readItem 1 = .ok (.getfield 34, 3) := by decide +kernel
theorem dX4_readItem_4 : decode cX4_readItem 4 = .ok (.istore_n 1, 1) := by decide +kernel
theorem dX4_readItem_5 : decode cX4_readItem 5 = .ok (.aload_n 0, 1) := by decide +kernel
theorem dX4_readItem_6 : decode cX4_readItem 6 = .ok (.invokevirtual 76, 3) := by decide +kernel
theorem dX4_readItem_9 : decode cX4_readItem 9 = .ok (.lookupswitch 151 #[(40, 134), (98, 114), (99, 126), (107, 75), (112, 83), (114, 143), (115, 94), (121, 102)], 75) := by decide +kernel
theorem dX4_readItem_84 : decode cX4_readItem 84 = .ok (.aload_n 0, 1) := by decide +kernel
theorem dX4_readItem_85 : decode cX4_readItem 85 = .ok (.iload_n 1, 1) := by decide +kernel
theorem dX4_readItem_86 : decode cX4_readItem 86 = .ok (.invokevirtual 79, 3) := by decide +kernel
theorem dX4_readItem_89 : decode cX4_readItem 89 = .ok (.goto 76, 3) := by decide +kernel
theorem dX4_readItem_92 : decode cX4_readItem 92 = .ok (.aload_n 0, 1) := by decide +kernel
theorem dX4_readItem_93 : decode cX4_readItem 93 = .ok (.ldc 83, 2) := by decide +kernel
theorem dX4_readItem_95 : decode cX4_readItem 95 = .ok (.iconst 1, 1) := by decide +kernel
theorem dX4_readItem_96 : decode cX4_readItem 96 = .ok (.iload_n 1, 1) := by decide +kernel
theorem dX4_readItem_97 : decode cX4_readItem 97 = .ok (.invokevirtual 87, 3) := by decide +kernel
theorem dX4_readItem_100 : decode cX4_readItem 100 = .ok (.goto 65, 3) := by decide +kernel
theorem dX4_readItem_103 : decode cX4_readItem 103 = .ok (.aload_n 0, 1) := by decide +kernel
theorem dX4_readItem_104 : decode cX4_readItem 104 = .ok (.iload_n 1, 1) := by decide +kernel
theorem dX4_readItem_105 : decode cX4_readItem 105 = .ok (.invokevirtual 91, 3) := by decide +kernel
theorem dX4_readItem_108 : decode cX4_readItem 108 = .ok (.goto 57, 3) := by decide +kernel
theorem dX4_readItem_111 : decode cX4_readItem 111 = .ok (.aload_n 0, 1) := by decide +kernel
theorem dX4_readItem_112 : decode cX4_readItem 112 = .ok (.ldc 94, 2) := by decide +kernel
theorem dX4_readItem_114 : decode cX4_readItem 114 = .ok (.bipush 7, 2) := by decide +kernel
theorem dX4_readItem_116 : decode cX4_readItem 116 = .ok (.iload_n 1, 1) := by decide +kernel
theorem dX4_readItem_117 : decode cX4_readItem 117 = .ok (.invokevirtual 87, 3) := by decide +kernel
theorem dX4_readItem_120 : decode cX4_readItem 120 = .ok (.goto 45, 3) := by decide +kernel
theorem dX4_readItem_123 : decode cX4_readItem 123 = .ok (.aload_n 0, 1) := by decide +kernel
theorem dX4_readItem_124 : decode cX4_readItem 124 = .ok (.ldc 96, 2) := by decide +kernel
theorem dX4_readItem_126 : decode cX4_readItem 126 = .ok (.bipush 8, 2) := by decide +kernel
theorem dX4_readItem_128 : decode cX4_readItem 128 = .ok (.iload_n 1, 1) := by decide +kernel
theorem dX4_readItem_129 : decode cX4_readItem 129 = .ok (.invokevirtual 87, 3) := by decide +kernel
theorem dX4_readItem_132 : decode cX4_readItem 132 = .ok (.goto 33, 3) := by decide +kernel
theorem dX4_readItem_135 : decode cX4_readItem 135 = .ok (.aload_n 0, 1) := by decide +kernel
theorem dX4_readItem_136 : decode cX4_readItem 136 = .ok (.iload_n 1, 1) := by decide +kernel
theorem dX4_readItem_137 : decode cX4_readItem 137 = .ok (.invokevirtual 98, 3) := by decide +kernel
theorem dX4_readItem_140 : decode cX4_readItem 140 = .ok (.goto 25, 3) := by decide +kernel
theorem dX4_readItem_143 : decode cX4_readItem 143 = .ok (.aload_n 0, 1) := by decide +kernel
theorem dX4_readItem_144 : decode cX4_readItem 144 = .ok (.iconst 1, 1) := by decide +kernel
theorem dX4_readItem_145 : decode cX4_readItem 145 = .ok (.iload_n 1, 1) := by decide +kernel
theorem dX4_readItem_146 : decode cX4_readItem 146 = .ok (.invokevirtual 101, 3) := by decide +kernel
theorem dX4_readItem_149 : decode cX4_readItem 149 = .ok (.goto 16, 3) := by decide +kernel
theorem dX4_readItem_152 : decode cX4_readItem 152 = .ok (.aload_n 0, 1) := by decide +kernel
theorem dX4_readItem_153 : decode cX4_readItem 153 = .ok (.iload_n 1, 1) := by decide +kernel
theorem dX4_readItem_154 : decode cX4_readItem 154 = .ok (.invokevirtual 105, 3) := by decide +kernel
theorem dX4_readItem_157 : decode cX4_readItem 157 = .ok (.goto 8, 3) := by decide +kernel
theorem dX4_readItem_160 : decode cX4_readItem 160 = .ok (.aload_n 0, 1) := by decide +kernel
theorem dX4_readItem_161 : decode cX4_readItem 161 = .ok (.iconst 1, 1) := by decide +kernel
theorem dX4_readItem_162 : decode cX4_readItem 162 = .ok (.invokevirtual 108, 3) := by decide +kernel
theorem dX4_readItem_165 : decode cX4_readItem 165 = .ok (.return_, 1) := by decide +kernel
theorem dX4_readKnit_0 : decode cX4_readKnit 0 = .ok (.aload_n 0, 1) := by decide +kernel
theorem dX4_readKnit_1 : decode cX4_readKnit 1 = .ok (.getfield 17, 3) := by decide +kernel
theorem dX4_readKnit_4 : decode cX4_readKnit 4 = .ok (.aload_n 0, 1) := by decide +kernel
theorem dX4_readKnit_5 : decode cX4_readKnit 5 = .ok (.getfield 34, 3) := by decide +kernel
theorem dX4_readKnit_8 : decode cX4_readKnit 8 = .ok (.iconst 1, 1) := by decide +kernel
theorem dX4_readKnit_9 : decode cX4_readKnit 9 = .ok (.iadd, 1) := by decide +kernel
theorem dX4_readKnit_10 : decode cX4_readKnit 10 = .ok (.invokevirtual 68, 3) := by decide +kernel
theorem dX4_readKnit_13 : decode cX4_readKnit 13 = .ok (.istore_n 2, 1) := by decide +kernel
theorem dX4_readKnit_14 : decode cX4_readKnit 14 = .ok (.aload_n 0, 1) := by decide +kernel
theorem dX4_readKnit_15 : decode cX4_readKnit 15 = .ok (.getfield 17, 3) := by decide +kernel
theorem dX4_readKnit_18 : decode cX4_readKnit 18 = .ok (.aload_n 0, 1) := by decide +kernel
theorem dX4_readKnit_19 : decode cX4_readKnit 19 = .ok (.getfield 34, 3) := by decide +kernel
theorem dX4_readKnit_22 : decode cX4_readKnit 22 = .ok (.iconst 2, 1) := by decide +kernel
theorem dX4_readKnit_23 : decode cX4_readKnit 23 = .ok (.iadd, 1) := by decide +kernel
theorem dX4_readKnit_24 : decode cX4_readKnit 24 = .ok (.invokevirtual 68, 3) := by decide +kernel
theorem dX4_readKnit_27 : decode cX4_readKnit 27 = .ok (.bipush 116, 2) := by decide +kernel
theorem dX4_readKnit_29 : decode cX4_readKnit 29 = .ok (.if_icmp .ne 7, 3) := by decide +kernel
theorem dX4_readKnit_32 : decode cX4_readKnit 32 = .ok (.iconst 1, 1) := by decide +kernel
theorem dX4_readKnit_33 : decode cX4_readKnit 33 = .ok (.goto 4, 3) := by decide +kernel
theorem dX4_readKnit_36 : decode cX4_readKnit 36 = .ok (.iconst 0, 1) := by decide +kernel
theorem dX4_readKnit_37 : decode cX4_readKnit 37 = .ok (.istore_n 3, 1) := by decide +kernel
theorem dX4_readKnit_38 : decode cX4_readKnit 38 = .ok (.iload_n 2, 1) := by decide +kernel
theorem dX4_readKnit_39 : decode cX4_readKnit 39 = .ok (.bipush 102, 2) := by decide +kernel
theorem dX4_readKnit_41 : decode cX4_readKnit 41 = .ok (.if_icmp .ne 15, 3) := by decide +kernel
theorem dX4_readKnit_44 : decode cX4_readKnit 44 = .ok (.aload_n 0, 1) := by decide +kernel
theorem dX4_readKnit_45 : decode cX4_readKnit 45 = .ok (.ldc 111, 2) := by decide +kernel
theorem dX4_readKnit_47 : decode cX4_readKnit 47 = .ok (.bipush 6, 2) := by decide +kernel
theorem dX4_readKnit_49 : decode cX4_readKnit 49 = .ok (.iload_n 1, 1) := by decide +kernel
theorem dX4_readKnit_50 : decode cX4_readKnit 50 = .ok (.invokevirtual 113, 3) := by decide +kernel
theorem dX4_readKnit_53 : decode cX4_readKnit 53 = .ok (.goto 53, 3) := by decide +kernel
theorem dX4_readKnit_56 : decode cX4_readKnit 56 = .ok (.iload_n 2, 1) := by decide +kernel
theorem dX4_readKnit_57 : decode cX4_readKnit 57 = .ok (.bipush 50, 2) := by decide +kernel
theorem dX4_readKnit_59 : decode cX4_readKnit 59 = .ok (.if_icmp .ne 18, 3) := by decide +kernel
theorem dX4_readKnit_62 : decode cX4_readKnit 62 = .ok (.iload_n 3, 1) := by decide +kernel
theorem dX4_readKnit_63 : decode cX4_readKnit 63 = .ok (.ifCond .eq 14, 3) := by decide +kernel
theorem dX4_readKnit_66 : decode cX4_readKnit 66 = .ok (.aload_n 0, 1) := by decide +kernel
theorem dX4_readKnit_67 : decode cX4_readKnit 67 = .ok (.ldc 116, 2) := by decide +kernel
theorem dX4_readKnit_69 : decode cX4_readKnit 69 = .ok (.iconst 3, 1) := by decide +kernel
theorem dX4_readKnit_70 : decode cX4_readKnit 70 = .ok (.iload_n 1, 1) := by decide +kernel
theorem dX4_readKnit_71 : decode cX4_readKnit 71 = .ok (.invokevirtual 113, 3) := by decide +kernel
theorem dX4_readKnit_74 : decode cX4_readKnit 74 = .ok (.goto 32, 3) := by decide +kernel
theorem dX4_readKnit_77 : decode cX4_readKnit 77 = .ok (.iload_n 2, 1) := by decide +kernel
theorem dX4_readKnit_78 : decode cX4_readKnit 78 = .ok (.bipush 51, 2) := by decide +kernel
theorem dX4_readKnit_80 : decode cX4_readKnit 80 = .ok (.if_icmp .ne 18, 3) := by decide +kernel
theorem dX4_readKnit_83 : decode cX4_readKnit 83 = .ok (.iload_n 3, 1) := by decide +kernel
theorem dX4_readKnit_84 : decode cX4_readKnit 84 = .ok (.ifCond .eq 14, 3) := by decide +kernel
theorem dX4_readKnit_87 : decode cX4_readKnit 87 = .ok (.aload_n 0, 1) := by decide +kernel
theorem dX4_readKnit_88 : decode cX4_readKnit 88 = .ok (.ldc 118, 2) := by decide +kernel
theorem dX4_readKnit_90 : decode cX4_readKnit 90 = .ok (.iconst 5, 1) := by decide +kernel
theorem dX4_readKnit_91 : decode cX4_readKnit 91 = .ok (.iload_n 1, 1) := by decide +kernel
theorem dX4_readKnit_92 : decode cX4_readKnit 92 = .ok (.invokevirtual 113, 3) := by decide +kernel
theorem dX4_readKnit_95 : decode cX4_readKnit 95 = .ok (.goto 11, 3) := by decide +kernel
theorem dX4_readKnit_98 : decode cX4_readKnit 98 = .ok (.aload_n 0, 1) := by decide +kernel
theorem dX4_readKnit_99 : decode cX4_readKnit 99 = .ok (.ldc 120, 2) := by decide +kernel
theorem dX4_readKnit_101 : decode cX4_readKnit 101 = .ok (.iconst 0, 1) := by decide +kernel
theorem dX4_readKnit_102 : decode cX4_readKnit 102 = .ok (.iload_n 1, 1) := by decide +kernel
theorem dX4_readKnit_103 : decode cX4_readKnit 103 = .ok (.invokevirtual 87, 3) := by decide +kernel
theorem dX4_readKnit_106 : decode cX4_readKnit 106 = .ok (.return_, 1) := by decide +kernel
theorem dX4_readSlipOrSsk_0 : decode cX4_readSlipOrSsk 0 = .ok (.aload_n 0, 1) := by decide +kernel
theorem dX4_readSlipOrSsk_1 : decode cX4_readSlipOrSsk 1 = .ok (.getfield 17, 3) := by decide +kernel
theorem dX4_readSlipOrSsk_4 : decode cX4_readSlipOrSsk 4 = .ok (.aload_n 0, 1) := by decide +kernel
theorem dX4_readSlipOrSsk_5 : decode cX4_readSlipOrSsk 5 = .ok (.getfield 34, 3) := by decide +kernel
theorem dX4_readSlipOrSsk_8 : decode cX4_readSlipOrSsk 8 = .ok (.iconst 1, 1) := by decide +kernel
theorem dX4_readSlipOrSsk_9 : decode cX4_readSlipOrSsk 9 = .ok (.iadd, 1) := by decide +kernel
theorem dX4_readSlipOrSsk_10 : decode cX4_readSlipOrSsk 10 = .ok (.invokevirtual 68, 3) := by decide +kernel
theorem dX4_readSlipOrSsk_13 : decode cX4_readSlipOrSsk 13 = .ok (.bipush 115, 2) := by decide +kernel
theorem dX4_readSlipOrSsk_15 : decode cX4_readSlipOrSsk 15 = .ok (.if_icmp .ne 14, 3) := by decide +kernel
theorem dX4_readSlipOrSsk_18 : decode cX4_readSlipOrSsk 18 = .ok (.aload_n 0, 1) := by decide +kernel
theorem dX4_readSlipOrSsk_19 : decode cX4_readSlipOrSsk 19 = .ok (.ldc 122, 2) := by decide +kernel
theorem dX4_readSlipOrSsk_21 : decode cX4_readSlipOrSsk 21 = .ok (.iconst 4, 1) := by decide +kernel
theorem dX4_readSlipOrSsk_22 : decode cX4_readSlipOrSsk 22 = .ok (.iload_n 1, 1) := by decide +kernel
theorem dX4_readSlipOrSsk_23 : decode cX4_readSlipOrSsk 23 = .ok (.invokevirtual 113, 3) := by decide +kernel
theorem dX4_readSlipOrSsk_26 : decode cX4_readSlipOrSsk 26 = .ok (.goto 11, 3) := by decide +kernel
theorem dX4_readSlipOrSsk_29 : decode cX4_readSlipOrSsk 29 = .ok (.aload_n 0, 1) := by decide +kernel
theorem dX4_readSlipOrSsk_30 : decode cX4_readSlipOrSsk 30 = .ok (.ldc 124, 2) := by decide +kernel
theorem dX4_readSlipOrSsk_32 : decode cX4_readSlipOrSsk 32 = .ok (.iconst 2, 1) := by decide +kernel
theorem dX4_readSlipOrSsk_33 : decode cX4_readSlipOrSsk 33 = .ok (.iload_n 1, 1) := by decide +kernel
theorem dX4_readSlipOrSsk_34 : decode cX4_readSlipOrSsk 34 = .ok (.invokevirtual 87, 3) := by decide +kernel
theorem dX4_readSlipOrSsk_37 : decode cX4_readSlipOrSsk 37 = .ok (.return_, 1) := by decide +kernel
theorem dX4_readCastOrCable_0 : decode cX4_readCastOrCable 0 = .ok (.aload_n 0, 1) := by decide +kernel
theorem dX4_readCastOrCable_1 : decode cX4_readCastOrCable 1 = .ok (.getfield 21, 3) := by decide +kernel
theorem dX4_readCastOrCable_4 : decode cX4_readCastOrCable 4 = .ok (.invokevirtual 126, 3) := by decide +kernel
theorem dX4_readCastOrCable_7 : decode cX4_readCastOrCable 7 = .ok (.ifCond .ne 7, 3) := by decide +kernel
theorem dX4_readCastOrCable_10 : decode cX4_readCastOrCable 10 = .ok (.iconst 1, 1) := by decide +kernel
theorem dX4_readCastOrCable_11 : decode cX4_readCastOrCable 11 = .ok (.goto 4, 3) := by decide +kernel
theorem dX4_readCastOrCable_14 : decode cX4_readCastOrCable 14 = .ok (.iconst 0, 1) := by decide +kernel
theorem dX4_readCastOrCable_15 : decode cX4_readCastOrCable 15 = .ok (.istore_n 2, 1) := by decide +kernel
theorem dX4_readCastOrCable_16 : decode cX4_readCastOrCable 16 = .ok (.iload_n 2, 1) := by decide +kernel
theorem dX4_readCastOrCable_17 : decode cX4_readCastOrCable 17 = .ok (.ifCond .eq 42, 3) := by decide +kernel
theorem dX4_readCastOrCable_20 : decode cX4_readCastOrCable 20 = .ok (.aload_n 0, 1) := by decide +kernel
theorem dX4_readCastOrCable_21 : decode cX4_readCastOrCable 21 = .ok (.getfield 17, 3) := by decide +kernel
theorem dX4_readCastOrCable_24 : decode cX4_readCastOrCable 24 = .ok (.aload_n 0, 1) := by decide +kernel
theorem dX4_readCastOrCable_25 : decode cX4_readCastOrCable 25 = .ok (.getfield 34, 3) := by decide +kernel
theorem dX4_readCastOrCable_28 : decode cX4_readCastOrCable 28 = .ok (.iconst 1, 1) := by decide +kernel
theorem dX4_readCastOrCable_29 : decode cX4_readCastOrCable 29 = .ok (.iadd, 1) := by decide +kernel
theorem dX4_readCastOrCable_30 : decode cX4_readCastOrCable 30 = .ok (.invokevirtual 68, 3) := by decide +kernel
theorem dX4_readCastOrCable_33 : decode cX4_readCastOrCable 33 = .ok (.bipush 97, 2) := by decide +kernel
theorem dX4_readCastOrCable_35 : decode cX4_readCastOrCable 35 = .ok (.if_icmp .ne 24, 3) := by decide +kernel
theorem dX4_readCastOrCable_38 : decode cX4_readCastOrCable 38 = .ok (.aload_n 0, 1) := by decide +kernel
theorem dX4_readCastOrCable_39 : decode cX4_readCastOrCable 39 = .ok (.ldc 129, 2) := by decide +kernel
theorem dX4_readCastOrCable_41 : decode cX4_readCastOrCable 41 = .ok (.invokevirtual 131, 3) := by decide +kernel
theorem dX4_readCastOrCable_44 : decode cX4_readCastOrCable 44 = .ok (.aload_n 0, 1) := by decide +kernel
theorem dX4_readCastOrCable_45 : decode cX4_readCastOrCable 45 = .ok (.bipush 9, 2) := by decide +kernel
theorem dX4_readCastOrCable_47 : decode cX4_readCastOrCable 47 = .ok (.aload_n 0, 1) := by decide +kernel
theorem dX4_readCastOrCable_48 : decode cX4_readCastOrCable 48 = .ok (.iconst 1, 1) := by decide +kernel
theorem dX4_readCastOrCable_49 : decode cX4_readCastOrCable 49 = .ok (.invokevirtual 135, 3) := by decide +kernel
theorem dX4_readCastOrCable_52 : decode cX4_readCastOrCable 52 = .ok (.iload_n 1, 1) := by decide +kernel
theorem dX4_readCastOrCable_53 : decode cX4_readCastOrCable 53 = .ok (.invokevirtual 138, 3) := by decide +kernel
theorem dX4_readCastOrCable_56 : decode cX4_readCastOrCable 56 = .ok (.goto 8, 3) := by decide +kernel
theorem dX4_readCastOrCable_59 : decode cX4_readCastOrCable 59 = .ok (.aload_n 0, 1) := by decide +kernel
theorem dX4_readCastOrCable_60 : decode cX4_readCastOrCable 60 = .ok (.iload_n 1, 1) := by decide +kernel
theorem dX4_readCastOrCable_61 : decode cX4_readCastOrCable 61 = .ok (.invokevirtual 142, 3) := by decide +kernel
theorem dX4_readCastOrCable_64 : decode cX4_readCastOrCable 64 = .ok (.return_, 1) := by decide +kernel
theorem dX4_readCable_0 : decode cX4_readCable 0 = .ok (.aload_n 0, 1) := by decide +kernel
theorem dX4_readCable_1 : decode cX4_readCable 1 = .ok (.ldc 145, 2) := by decide +kernel
theorem dX4_readCable_3 : decode cX4_readCable 3 = .ok (.invokevirtual 131, 3) := by decide +kernel
theorem dX4_readCable_6 : decode cX4_readCable 6 = .ok (.aload_n 0, 1) := by decide +kernel
theorem dX4_readCable_7 : decode cX4_readCable 7 = .ok (.invokevirtual 147, 3) := by decide +kernel
theorem dX4_readCable_10 : decode cX4_readCable 10 = .ok (.istore_n 2, 1) := by decide +kernel
theorem dX4_readCable_11 : decode cX4_readCable 11 = .ok (.aload_n 0, 1) := by decide +kernel
theorem dX4_readCable_12 : decode cX4_readCable 12 = .ok (.ldc 150, 2) := by decide +kernel
theorem dX4_readCable_14 : decode cX4_readCable 14 = .ok (.invokevirtual 131, 3) := by decide +kernel
theorem dX4_readCable_17 : decode cX4_readCable 17 = .ok (.aload_n 0, 1) := by decide +kernel
theorem dX4_readCable_18 : decode cX4_readCable 18 = .ok (.invokevirtual 147, 3) := by decide +kernel
theorem dX4_readCable_21 : decode cX4_readCable 21 = .ok (.istore_n 3, 1) := by decide +kernel
theorem dX4_readCable_22 : decode cX4_readCable 22 = .ok (.aload_n 0, 1) := by decide +kernel
theorem dX4_readCable_23 : decode cX4_readCable 23 = .ok (.invokevirtual 76, 3) := by decide +kernel
theorem dX4_readCable_26 : decode cX4_readCable 26 = .ok (.bipush 102, 2) := by decide +kernel
theorem dX4_readCable_28 : decode cX4_readCable 28 = .ok (.if_icmp .ne 25, 3) := by decide +kernel
theorem dX4_readCable_31 : decode cX4_readCable 31 = .ok (.aload_n 0, 1) := by decide +kernel
theorem dX4_readCable_32 : decode cX4_readCable 32 = .ok (.ldc 152, 2) := by decide +kernel
theorem dX4_readCable_34 : decode cX4_readCable 34 = .ok (.invokevirtual 131, 3) := by decide +kernel
theorem dX4_readCable_37 : decode cX4_readCable 37 = .ok (.aload_n 0, 1) := by decide +kernel
theorem dX4_readCable_38 : decode cX4_readCable 38 = .ok (.iload_n 2, 1) := by decide +kernel
theorem dX4_readCable_39 : decode cX4_readCable 39 = .ok (.iload_n 3, 1) := by decide +kernel
theorem dX4_readCable_40 : decode cX4_readCable 40 = .ok (.bipush 10, 2) := by decide +kernel
theorem dX4_readCable_42 : decode cX4_readCable 42 = .ok (.invokestatic 154, 3) := by decide +kernel
theorem dX4_readCable_45 : decode cX4_readCable 45 = .ok (.iconst 1, 1) := by decide +kernel
theorem dX4_readCable_46 : decode cX4_readCable 46 = .ok (.iload_n 1, 1) := by decide +kernel
theorem dX4_readCable_47 : decode cX4_readCable 47 = .ok (.invokevirtual 138, 3) := by decide +kernel
theorem dX4_readCable_50 : decode cX4_readCable 50 = .ok (.goto 22, 3) := by decide +kernel
theorem dX4_readCable_53 : decode cX4_readCable 53 = .ok (.aload_n 0, 1) := by decide +kernel
theorem dX4_readCable_54 : decode cX4_readCable 54 = .ok (.ldc 158, 2) := by decide +kernel
theorem dX4_readCable_56 : decode cX4_readCable 56 = .ok (.invokevirtual 131, 3) := by decide +kernel
theorem dX4_readCable_59 : decode cX4_readCable 59 = .ok (.aload_n 0, 1) := by decide +kernel
theorem dX4_readCable_60 : decode cX4_readCable 60 = .ok (.iload_n 2, 1) := by decide +kernel
theorem dX4_readCable_61 : decode cX4_readCable 61 = .ok (.iload_n 3, 1) := by decide +kernel
theorem dX4_readCable_62 : decode cX4_readCable 62 = .ok (.bipush 11, 2) := by decide +kernel
theorem dX4_readCable_64 : decode cX4_readCable 64 = .ok (.invokestatic 154, 3) := by decide +kernel
theorem dX4_readCable_67 : decode cX4_readCable 67 = .ok (.iconst 1, 1) := by decide +kernel
theorem dX4_readCable_68 : decode cX4_readCable 68 = .ok (.iload_n 1, 1) := by decide +kernel
theorem dX4_readCable_69 : decode cX4_readCable 69 = .ok (.invokevirtual 138, 3) := by decide +kernel
theorem dX4_readCable_72 : decode cX4_readCable 72 = .ok (.return_, 1) := by decide +kernel
theorem dX4_readCableDigit_0 : decode cX4_readCableDigit 0 = .ok (.aload_n 0, 1) := by decide +kernel
theorem dX4_readCableDigit_1 : decode cX4_readCableDigit 1 = .ok (.invokevirtual 76, 3) := by decide +kernel
theorem dX4_readCableDigit_4 : decode cX4_readCableDigit 4 = .ok (.bipush 48, 2) := by decide +kernel
theorem dX4_readCableDigit_6 : decode cX4_readCableDigit 6 = .ok (.isub, 1) := by decide +kernel
theorem dX4_readCableDigit_7 : decode cX4_readCableDigit 7 = .ok (.istore_n 1, 1) := by decide +kernel
theorem dX4_readCableDigit_8 : decode cX4_readCableDigit 8 = .ok (.aload_n 0, 1) := by decide +kernel
theorem dX4_readCableDigit_9 : decode cX4_readCableDigit 9 = .ok (.invokevirtual 55, 3) := by decide +kernel
theorem dX4_readCableDigit_12 : decode cX4_readCableDigit 12 = .ok (.ifCond .eq 13, 3) := by decide +kernel
theorem dX4_readCableDigit_15 : decode cX4_readCableDigit 15 = .ok (.iload_n 1, 1) := by decide +kernel
theorem dX4_readCableDigit_16 : decode cX4_readCableDigit 16 = .ok (.iconst 1, 1) := by decide +kernel
theorem dX4_readCableDigit_17 : decode cX4_readCableDigit 17 = .ok (.if_icmp .lt 8, 3) := by decide +kernel
theorem dX4_readCableDigit_20 : decode cX4_readCableDigit 20 = .ok (.iload_n 1, 1) := by decide +kernel
theorem dX4_readCableDigit_21 : decode cX4_readCableDigit 21 = .ok (.iconst 5, 1) := by decide +kernel
theorem dX4_readCableDigit_22 : decode cX4_readCableDigit 22 = .ok (.if_icmp .le 10, 3) := by decide +kernel
theorem dX4_readCableDigit_25 : decode cX4_readCableDigit 25 = .ok (.aload_n 0, 1) := by decide +kernel
theorem dX4_readCableDigit_26 : decode cX4_readCableDigit 26 = .ok (.iconst 1, 1) := by decide +kernel
theorem dX4_readCableDigit_27 : decode cX4_readCableDigit 27 = .ok (.invokevirtual 108, 3) := by decide +kernel
theorem dX4_readCableDigit_30 : decode cX4_readCableDigit 30 = .ok (.iconst 1, 1) := by decide +kernel
theorem dX4_readCableDigit_31 : decode cX4_readCableDigit 31 = .ok (.ireturn, 1) := by decide +kernel
theorem dX4_readCableDigit_32 : decode cX4_readCableDigit 32 = .ok (.aload_n 0, 1) := by decide +kernel
theorem dX4_readCableDigit_33 : decode cX4_readCableDigit 33 = .ok (.dup, 1) := by decide +kernel
theorem dX4_readCableDigit_34 : decode cX4_readCableDigit 34 = .ok (.getfield 34, 3) := by decide +kernel
theorem dX4_readCableDigit_37 : decode cX4_readCableDigit 37 = .ok (.iconst 1, 1) := by decide +kernel
theorem dX4_readCableDigit_38 : decode cX4_readCableDigit 38 = .ok (.iadd, 1) := by decide +kernel
theorem dX4_readCableDigit_39 : decode cX4_readCableDigit 39 = .ok (.putfield 34, 3) := by decide +kernel
theorem dX4_readCableDigit_42 : decode cX4_readCableDigit 42 = .ok (.iload_n 1, 1) := by decide +kernel
theorem dX4_readCableDigit_43 : decode cX4_readCableDigit 43 = .ok (.ireturn, 1) := by decide +kernel
theorem dX4_readSingle_0 : decode cX4_readSingle 0 = .ok (.aload_n 0, 1) := by decide +kernel
theorem dX4_readSingle_1 : decode cX4_readSingle 1 = .ok (.aload_n 1, 1) := by decide +kernel
theorem dX4_readSingle_2 : decode cX4_readSingle 2 = .ok (.invokevirtual 131, 3) := by decide +kernel
theorem dX4_readSingle_5 : decode cX4_readSingle 5 = .ok (.aload_n 0, 1) := by decide +kernel
theorem dX4_readSingle_6 : decode cX4_readSingle 6 = .ok (.iload_n 2, 1) := by decide +kernel
theorem dX4_readSingle_7 : decode cX4_readSingle 7 = .ok (.iconst 1, 1) := by decide +kernel
theorem dX4_readSingle_8 : decode cX4_readSingle 8 = .ok (.iload_n 3, 1) := by decide +kernel
theorem dX4_readSingle_9 : decode cX4_readSingle 9 = .ok (.invokevirtual 138, 3) := by decide +kernel
theorem dX4_readSingle_12 : decode cX4_readSingle 12 = .ok (.return_, 1) := by decide +kernel
theorem dX4_readNamed_0 : decode cX4_readNamed 0 = .ok (.aload_n 0, 1) := by decide +kernel
theorem dX4_readNamed_1 : decode cX4_readNamed 1 = .ok (.aload_n 1, 1) := by decide +kernel
theorem dX4_readNamed_2 : decode cX4_readNamed 2 = .ok (.invokevirtual 131, 3) := by decide +kernel
theorem dX4_readNamed_5 : decode cX4_readNamed 5 = .ok (.aload_n 0, 1) := by decide +kernel
theorem dX4_readNamed_6 : decode cX4_readNamed 6 = .ok (.invokevirtual 76, 3) := by decide +kernel
theorem dX4_readNamed_9 : decode cX4_readNamed 9 = .ok (.invokestatic 160, 3) := by decide +kernel
theorem dX4_readNamed_12 : decode cX4_readNamed 12 = .ok (.ifCond .eq 11, 3) := by decide +kernel
theorem dX4_readNamed_15 : decode cX4_readNamed 15 = .ok (.aload_n 0, 1) := by decide +kernel
theorem dX4_readNamed_16 : decode cX4_readNamed 16 = .ok (.iconst 1, 1) := by decide +kernel
theorem dX4_readNamed_17 : decode cX4_readNamed 17 = .ok (.invokevirtual 135, 3) := by decide +kernel
theorem dX4_readNamed_20 : decode cX4_readNamed 20 = .ok (.goto 4, 3) := by decide +kernel
theorem dX4_readNamed_23 : decode cX4_readNamed 23 = .ok (.iconst 1, 1) := by decide +kernel
theorem dX4_readNamed_24 : decode cX4_readNamed 24 = .ok (.istore 4, 2) := by decide +kernel
theorem dX4_readNamed_26 : decode cX4_readNamed 26 = .ok (.aload_n 0, 1) := by decide +kernel
theorem dX4_readNamed_27 : decode cX4_readNamed 27 = .ok (.iload_n 2, 1) := by decide +kernel
theorem dX4_readNamed_28 : decode cX4_readNamed 28 = .ok (.iload 4, 2) := by decide +kernel
theorem dX4_readNamed_30 : decode cX4_readNamed 30 = .ok (.iload_n 3, 1) := by decide +kernel
theorem dX4_readNamed_31 : decode cX4_readNamed 31 = .ok (.invokevirtual 138, 3) := by decide +kernel
theorem dX4_readNamed_34 : decode cX4_readNamed 34 = .ok (.return_, 1) := by decide +kernel
theorem dX4_addStitches_0 : decode cX4_addStitches 0 = .ok (.aload_n 0, 1) := by decide +kernel
theorem dX4_addStitches_1 : decode cX4_addStitches 1 = .ok (.invokevirtual 55, 3) := by decide +kernel
theorem dX4_addStitches_4 : decode cX4_addStitches 4 = .ok (.ifCond .eq 38, 3) := by decide +kernel
theorem dX4_addStitches_7 : decode cX4_addStitches 7 = .ok (.aload_n 0, 1) := by decide +kernel
theorem dX4_addStitches_8 : decode cX4_addStitches 8 = .ok (.getfield 21, 3) := by decide +kernel
theorem dX4_addStitches_11 : decode cX4_addStitches 11 = .ok (.iload_n 1, 1) := by decide +kernel
theorem dX4_addStitches_12 : decode cX4_addStitches 12 = .ok (.iload_n 2, 1) := by decide +kernel
theorem dX4_addStitches_13 : decode cX4_addStitches 13 = .ok (.iload_n 3, 1) := by decide +kernel
theorem dX4_addStitches_14 : decode cX4_addStitches 14 = .ok (.invokevirtual 164, 3) := by decide +kernel
theorem dX4_addStitches_17 : decode cX4_addStitches 17 = .ok (.aload_n 0, 1) := by decide +kernel
theorem dX4_addStitches_18 : decode cX4_addStitches 18 = .ok (.getfield 13, 3) := by decide +kernel
theorem dX4_addStitches_21 : decode cX4_addStitches 21 = .ok (.aload_n 0, 1) := by decide +kernel
theorem dX4_addStitches_22 : decode cX4_addStitches 22 = .ok (.getfield 30, 3) := by decide +kernel
theorem dX4_addStitches_25 : decode cX4_addStitches 25 = .ok (.dup2, 1) := by decide +kernel
theorem dX4_addStitches_26 : decode cX4_addStitches 26 = .ok (.laload, 1) := by decide +kernel
theorem dX4_addStitches_27 : decode cX4_addStitches 27 = .ok (.iload_n 2, 1) := by decide +kernel
theorem dX4_addStitches_28 : decode cX4_addStitches 28 = .ok (.i2l, 1) := by decide +kernel
theorem dX4_addStitches_29 : decode cX4_addStitches 29 = .ok (.iload_n 1, 1) := by decide +kernel
theorem dX4_addStitches_30 : decode cX4_addStitches 30 = .ok (.invokestatic 165, 3) := by decide +kernel
theorem dX4_addStitches_33 : decode cX4_addStitches 33 = .ok (.i2l, 1) := by decide +kernel
theorem dX4_addStitches_34 : decode cX4_addStitches 34 = .ok (.lmul, 1) := by decide +kernel
theorem dX4_addStitches_35 : decode cX4_addStitches 35 = .ok (.ladd, 1) := by decide +kernel
theorem dX4_addStitches_36 : decode cX4_addStitches 36 = .ok (.lastore, 1) := by decide +kernel
theorem dX4_addStitches_37 : decode cX4_addStitches 37 = .ok (.aload_n 0, 1) := by decide +kernel
theorem dX4_addStitches_38 : decode cX4_addStitches 38 = .ok (.iconst 0, 1) := by decide +kernel
theorem dX4_addStitches_39 : decode cX4_addStitches 39 = .ok (.putfield 42, 3) := by decide +kernel
theorem dX4_addStitches_42 : decode cX4_addStitches 42 = .ok (.return_, 1) := by decide +kernel
theorem dX4_readRepeat_0 : decode cX4_readRepeat 0 = .ok (.aload_n 0, 1) := by decide +kernel
theorem dX4_readRepeat_1 : decode cX4_readRepeat 1 = .ok (.getfield 30, 3) := by decide +kernel
theorem dX4_readRepeat_4 : decode cX4_readRepeat 4 = .ok (.ifCond .le 9, 3) := by decide +kernel
theorem dX4_readRepeat_7 : decode cX4_readRepeat 7 = .ok (.aload_n 0, 1) := by decide +kernel
theorem dX4_readRepeat_8 : decode cX4_readRepeat 8 = .ok (.iconst 1, 1) := by decide +kernel
theorem dX4_readRepeat_9 : decode cX4_readRepeat 9 = .ok (.invokevirtual 108, 3) := by decide +kernel
theorem dX4_readRepeat_12 : decode cX4_readRepeat 12 = .ok (.return_, 1) := by decide +kernel
theorem dX4_readRepeat_13 : decode cX4_readRepeat 13 = .ok (.aload_n 0, 1) := by decide +kernel
theorem dX4_readRepeat_14 : decode cX4_readRepeat 14 = .ok (.ldc 168, 2) := by decide +kernel
theorem dX4_readRepeat_16 : decode cX4_readRepeat 16 = .ok (.invokevirtual 131, 3) := by decide +kernel
theorem dX4_readRepeat_19 : decode cX4_readRepeat 19 = .ok (.aload_n 0, 1) := by decide +kernel
theorem dX4_readRepeat_20 : decode cX4_readRepeat 20 = .ok (.invokevirtual 59, 3) := by decide +kernel
theorem dX4_readRepeat_23 : decode cX4_readRepeat 23 = .ok (.aload_n 0, 1) := by decide +kernel
theorem dX4_readRepeat_24 : decode cX4_readRepeat 24 = .ok (.invokevirtual 76, 3) := by decide +kernel
theorem dX4_readRepeat_27 : decode cX4_readRepeat 27 = .ok (.bipush 40, 2) := by decide +kernel
theorem dX4_readRepeat_29 : decode cX4_readRepeat 29 = .ok (.if_icmp .ne 12, 3) := by decide +kernel
theorem dX4_readRepeat_32 : decode cX4_readRepeat 32 = .ok (.aload_n 0, 1) := by decide +kernel
theorem dX4_readRepeat_33 : decode cX4_readRepeat 33 = .ok (.iconst 2, 1) := by decide +kernel
theorem dX4_readRepeat_34 : decode cX4_readRepeat 34 = .ok (.iload_n 1, 1) := by decide +kernel
theorem dX4_readRepeat_35 : decode cX4_readRepeat 35 = .ok (.invokevirtual 101, 3) := by decide +kernel
theorem dX4_readRepeat_38 : decode cX4_readRepeat 38 = .ok (.goto 8, 3) := by decide +kernel
theorem dX4_readRepeat_41 : decode cX4_readRepeat 41 = .ok (.aload_n 0, 1) := by decide +kernel
theorem dX4_readRepeat_42 : decode cX4_readRepeat 42 = .ok (.iconst 1, 1) := by decide +kernel
theorem dX4_readRepeat_43 : decode cX4_readRepeat 43 = .ok (.invokevirtual 108, 3) := by decide +kernel
theorem dX4_readRepeat_46 : decode cX4_readRepeat 46 = .ok (.return_, 1) := by decide +kernel
theorem dX4_openBracket_0 : decode cX4_openBracket 0 = .ok (.aload_n 0, 1) := by decide +kernel
theorem dX4_openBracket_1 : decode cX4_openBracket 1 = .ok (.getfield 30, 3) := by decide +kernel
theorem dX4_openBracket_4 : decode cX4_openBracket 4 = .ok (.iconst 4, 1) := by decide +kernel
theorem dX4_openBracket_5 : decode cX4_openBracket 5 = .ok (.if_icmp .lt 8, 3) := by decide +kernel
theorem dX4_openBracket_8 : decode cX4_openBracket 8 = .ok (.aload_n 0, 1) := by decide +kernel
theorem dX4_openBracket_9 : decode cX4_openBracket 9 = .ok (.iconst 2, 1) := by decide +kernel
theorem dX4_openBracket_10 : decode cX4_openBracket 10 = .ok (.invokevirtual 108, 3) := by decide +kernel
theorem dX4_openBracket_13 : decode cX4_openBracket 13 = .ok (.aload_n 0, 1) := by decide +kernel
theorem dX4_openBracket_14 : decode cX4_openBracket 14 = .ok (.invokevirtual 55, 3) := by decide +kernel
theorem dX4_openBracket_17 : decode cX4_openBracket 17 = .ok (.ifCond .eq 58, 3) := by decide +kernel
theorem dX4_openBracket_20 : decode cX4_openBracket 20 = .ok (.aload_n 0, 1) := by decide +kernel
theorem dX4_openBracket_21 : decode cX4_openBracket 21 = .ok (.dup, 1) := by decide +kernel
theorem dX4_openBracket_22 : decode cX4_openBracket 22 = .ok (.getfield 34, 3) := by decide +kernel
theorem dX4_openBracket_25 : decode cX4_openBracket 25 = .ok (.iconst 1, 1) := by decide +kernel
theorem dX4_openBracket_26 : decode cX4_openBracket 26 = .ok (.iadd, 1) := by decide +kernel
theorem dX4_openBracket_27 : decode cX4_openBracket 27 = .ok (.putfield 34, 3) := by decide +kernel
theorem dX4_openBracket_30 : decode cX4_openBracket 30 = .ok (.aload_n 0, 1) := by decide +kernel
theorem dX4_openBracket_31 : decode cX4_openBracket 31 = .ok (.dup, 1) := by decide +kernel
theorem dX4_openBracket_32 : decode cX4_openBracket 32 = .ok (.getfield 30, 3) := by decide +kernel
theorem dX4_openBracket_35 : decode cX4_openBracket 35 = .ok (.iconst 1, 1) := by decide +kernel
theorem dX4_openBracket_36 : decode cX4_openBracket 36 = .ok (.iadd, 1) := by decide +kernel
theorem dX4_openBracket_37 : decode cX4_openBracket 37 = .ok (.putfield 30, 3) := by decide +kernel
theorem dX4_openBracket_40 : decode cX4_openBracket 40 = .ok (.aload_n 0, 1) := by decide +kernel
theorem dX4_openBracket_41 : decode cX4_openBracket 41 = .ok (.getfield 9, 3) := by decide +kernel
theorem dX4_openBracket_44 : decode cX4_openBracket 44 = .ok (.aload_n 0, 1) := by decide +kernel
theorem dX4_openBracket_45 : decode cX4_openBracket 45 = .ok (.getfield 30, 3) := by decide +kernel
theorem dX4_openBracket_48 : decode cX4_openBracket 48 = .ok (.aload_n 0, 1) := by decide +kernel
theorem dX4_openBracket_49 : decode cX4_openBracket 49 = .ok (.getfield 21, 3) := by decide +kernel
theorem dX4_openBracket_52 : decode cX4_openBracket 52 = .ok (.invokevirtual 126, 3) := by decide +kernel
theorem dX4_openBracket_55 : decode cX4_openBracket 55 = .ok (.iastore, 1) := by decide +kernel
theorem dX4_openBracket_56 : decode cX4_openBracket 56 = .ok (.aload_n 0, 1) := by decide +kernel
theorem dX4_openBracket_57 : decode cX4_openBracket 57 = .ok (.getfield 13, 3) := by decide +kernel
theorem dX4_openBracket_60 : decode cX4_openBracket 60 = .ok (.aload_n 0, 1) := by decide +kernel
theorem dX4_openBracket_61 : decode cX4_openBracket 61 = .ok (.getfield 30, 3) := by decide +kernel
theorem dX4_openBracket_64 : decode cX4_openBracket 64 = .ok (.lconst 0, 1) := by decide +kernel
theorem dX4_openBracket_65 : decode cX4_openBracket 65 = .ok (.lastore, 1) := by decide +kernel
theorem dX4_openBracket_66 : decode cX4_openBracket 66 = .ok (.aload_n 0, 1) := by decide +kernel
theorem dX4_openBracket_67 : decode cX4_openBracket 67 = .ok (.getfield 21, 3) := by decide +kernel
theorem dX4_openBracket_70 : decode cX4_openBracket 70 = .ok (.iload_n 1, 1) := by decide +kernel
theorem dX4_openBracket_71 : decode cX4_openBracket 71 = .ok (.iload_n 2, 1) := by decide +kernel
theorem dX4_openBracket_72 : decode cX4_openBracket 72 = .ok (.invokevirtual 170, 3) := by decide +kernel
theorem dX4_openBracket_75 : decode cX4_openBracket 75 = .ok (.return_, 1) := by decide +kernel
theorem dX4_readSign_0 : decode cX4_readSign 0 = .ok (.aload_n 0, 1) := by decide +kernel
theorem dX4_readSign_1 : decode cX4_readSign 1 = .ok (.invokevirtual 76, 3) := by decide +kernel
theorem dX4_readSign_4 : decode cX4_readSign 4 = .ok (.bipush 44, 2) := by decide +kernel
theorem dX4_readSign_6 : decode cX4_readSign 6 = .ok (.if_icmp .ne 21, 3) := by decide +kernel
theorem dX4_readSign_9 : decode cX4_readSign 9 = .ok (.aload_n 0, 1) := by decide +kernel
theorem dX4_readSign_10 : decode cX4_readSign 10 = .ok (.dup, 1) := by decide +kernel
theorem dX4_readSign_11 : decode cX4_readSign 11 = .ok (.getfield 34, 3) := by decide +kernel
theorem dX4_readSign_14 : decode cX4_readSign 14 = .ok (.iconst 1, 1) := by decide +kernel
theorem dX4_readSign_15 : decode cX4_readSign 15 = .ok (.iadd, 1) := by decide +kernel
theorem dX4_readSign_16 : decode cX4_readSign 16 = .ok (.putfield 34, 3) := by decide +kernel
theorem dX4_readSign_19 : decode cX4_readSign 19 = .ok (.aload_n 0, 1) := by decide +kernel
theorem dX4_readSign_20 : decode cX4_readSign 20 = .ok (.iconst 1, 1) := by decide +kernel
theorem dX4_readSign_21 : decode cX4_readSign 21 = .ok (.putfield 42, 3) := by decide +kernel
theorem dX4_readSign_24 : decode cX4_readSign 24 = .ok (.goto 54, 3) := by decide +kernel
theorem dX4_readSign_27 : decode cX4_readSign 27 = .ok (.aload_n 0, 1) := by decide +kernel
theorem dX4_readSign_28 : decode cX4_readSign 28 = .ok (.invokevirtual 76, 3) := by decide +kernel
theorem dX4_readSign_31 : decode cX4_readSign 31 = .ok (.bipush 41, 2) := by decide +kernel
theorem dX4_readSign_33 : decode cX4_readSign 33 = .ok (.if_icmp .ne 17, 3) := by decide +kernel
theorem dX4_readSign_36 : decode cX4_readSign 36 = .ok (.aload_n 0, 1) := by decide +kernel
theorem dX4_readSign_37 : decode cX4_readSign 37 = .ok (.getfield 30, 3) := by decide +kernel
theorem dX4_readSign_40 : decode cX4_readSign 40 = .ok (.ifCond .le 10, 3) := by decide +kernel
theorem dX4_readSign_43 : decode cX4_readSign 43 = .ok (.aload_n 0, 1) := by decide +kernel
theorem dX4_readSign_44 : decode cX4_readSign 44 = .ok (.invokevirtual 173, 3) := by decide +kernel
theorem dX4_readSign_47 : decode cX4_readSign 47 = .ok (.goto 31, 3) := by decide +kernel
theorem dX4_readSign_50 : decode cX4_readSign 50 = .ok (.aload_n 0, 1) := by decide +kernel
theorem dX4_readSign_51 : decode cX4_readSign 51 = .ok (.invokevirtual 76, 3) := by decide +kernel
theorem dX4_readSign_54 : decode cX4_readSign 54 = .ok (.iconst (-1), 1) := by decide +kernel
theorem dX4_readSign_55 : decode cX4_readSign 55 = .ok (.if_icmp .ne 18, 3) := by decide +kernel
theorem dX4_readSign_58 : decode cX4_readSign 58 = .ok (.aload_n 0, 1) := by decide +kernel
theorem dX4_readSign_59 : decode cX4_readSign 59 = .ok (.getfield 30, 3) := by decide +kernel
theorem dX4_readSign_62 : decode cX4_readSign 62 = .ok (.ifCond .ne 11, 3) := by decide +kernel
theorem dX4_readSign_65 : decode cX4_readSign 65 = .ok (.aload_n 0, 1) := by decide +kernel
theorem dX4_readSign_66 : decode cX4_readSign 66 = .ok (.iconst 1, 1) := by decide +kernel
theorem dX4_readSign_67 : decode cX4_readSign 67 = .ok (.putfield 46, 3) := by decide +kernel
theorem dX4_readSign_70 : decode cX4_readSign 70 = .ok (.goto 8, 3) := by decide +kernel
theorem dX4_readSign_73 : decode cX4_readSign 73 = .ok (.aload_n 0, 1) := by decide +kernel
theorem dX4_readSign_74 : decode cX4_readSign 74 = .ok (.iconst 1, 1) := by decide +kernel
theorem dX4_readSign_75 : decode cX4_readSign 75 = .ok (.invokevirtual 108, 3) := by decide +kernel
theorem dX4_readSign_78 : decode cX4_readSign 78 = .ok (.return_, 1) := by decide +kernel
theorem dX4_closeBracket_0 : decode cX4_closeBracket 0 = .ok (.aload_n 0, 1) := by decide +kernel
theorem dX4_closeBracket_1 : decode cX4_closeBracket 1 = .ok (.getfield 34, 3) := by decide +kernel
theorem dX4_closeBracket_4 : decode cX4_closeBracket 4 = .ok (.istore_n 1, 1) := by decide +kernel
theorem dX4_closeBracket_5 : decode cX4_closeBracket 5 = .ok (.aload_n 0, 1) := by decide +kernel
theorem dX4_closeBracket_6 : decode cX4_closeBracket 6 = .ok (.getfield 9, 3) := by decide +kernel
theorem dX4_closeBracket_9 : decode cX4_closeBracket 9 = .ok (.aload_n 0, 1) := by decide +kernel
theorem dX4_closeBracket_10 : decode cX4_closeBracket 10 = .ok (.getfield 30, 3) := by decide +kernel
theorem dX4_closeBracket_13 : decode cX4_closeBracket 13 = .ok (.iaload, 1) := by decide +kernel
theorem dX4_closeBracket_14 : decode cX4_closeBracket 14 = .ok (.istore_n 2, 1) := by decide +kernel
theorem dX4_closeBracket_15 : decode cX4_closeBracket 15 = .ok (.aload_n 0, 1) := by decide +kernel
theorem dX4_closeBracket_16 : decode cX4_closeBracket 16 = .ok (.getfield 13, 3) := by decide +kernel
theorem dX4_closeBracket_19 : decode cX4_closeBracket 19 = .ok (.aload_n 0, 1) := by decide +kernel
theorem dX4_closeBracket_20 : decode cX4_closeBracket 20 = .ok (.getfield 30, 3) := by decide +kernel
theorem dX4_closeBracket_23 : decode cX4_closeBracket 23 = .ok (.laload, 1) := by decide +kernel
theorem dX4_closeBracket_24 : decode cX4_closeBracket 24 = .ok (.lstore_n 3, 1) := by decide +kernel
theorem dX4_closeBracket_25 : decode cX4_closeBracket 25 = .ok (.aload_n 0, 1) := by decide +kernel
theorem dX4_closeBracket_26 : decode cX4_closeBracket 26 = .ok (.dup, 1) := by decide +kernel
theorem dX4_closeBracket_27 : decode cX4_closeBracket 27 = .ok (.getfield 34, 3) := by decide +kernel
theorem dX4_closeBracket_30 : decode cX4_closeBracket 30 = .ok (.iconst 1, 1) := by decide +kernel
theorem dX4_closeBracket_31 : decode cX4_closeBracket 31 = .ok (.iadd, 1) := by decide +kernel
theorem dX4_closeBracket_32 : decode cX4_closeBracket 32 = .ok (.putfield 34, 3) := by decide +kernel
theorem dX4_closeBracket_35 : decode cX4_closeBracket 35 = .ok (.aload_n 0, 1) := by decide +kernel
theorem dX4_closeBracket_36 : decode cX4_closeBracket 36 = .ok (.invokevirtual 59, 3) := by decide +kernel
theorem dX4_closeBracket_39 : decode cX4_closeBracket 39 = .ok (.aload_n 0, 1) := by decide +kernel
theorem dX4_closeBracket_40 : decode cX4_closeBracket 40 = .ok (.getfield 21, 3) := by decide +kernel
theorem dX4_closeBracket_43 : decode cX4_closeBracket 43 = .ok (.iload_n 2, 1) := by decide +kernel
theorem dX4_closeBracket_44 : decode cX4_closeBracket 44 = .ok (.invokevirtual 176, 3) := by decide +kernel
theorem dX4_closeBracket_47 : decode cX4_closeBracket 47 = .ok (.iconst 2, 1) := by decide +kernel
theorem dX4_closeBracket_48 : decode cX4_closeBracket 48 = .ok (.if_icmp .ne 34, 3) := by decide +kernel
theorem dX4_closeBracket_51 : decode cX4_closeBracket 51 = .ok (.aload_n 0, 1) := by decide +kernel
theorem dX4_closeBracket_52 : decode cX4_closeBracket 52 = .ok (.invokevirtual 179, 3) := by decide +kernel
theorem dX4_closeBracket_55 : decode cX4_closeBracket 55 = .ok (.istore 5, 2) := by decide +kernel
theorem dX4_closeBracket_57 : decode cX4_closeBracket 57 = .ok (.aload_n 0, 1) := by decide +kernel
theorem dX4_closeBracket_58 : decode cX4_closeBracket 58 = .ok (.getfield 21, 3) := by decide +kernel
theorem dX4_closeBracket_61 : decode cX4_closeBracket 61 = .ok (.iload_n 2, 1) := by decide +kernel
theorem dX4_closeBracket_62 : decode cX4_closeBracket 62 = .ok (.iload 5, 2) := by decide +kernel
theorem dX4_closeBracket_64 : decode cX4_closeBracket 64 = .ok (.iload_n 1, 1) := by decide +kernel
theorem dX4_closeBracket_65 : decode cX4_closeBracket 65 = .ok (.lload_n 3, 1) := by decide +kernel
theorem dX4_closeBracket_66 : decode cX4_closeBracket 66 = .ok (.invokevirtual 182, 3) := by decide +kernel
theorem dX4_closeBracket_69 : decode cX4_closeBracket 69 = .ok (.aload_n 0, 1) := by decide +kernel
theorem dX4_closeBracket_70 : decode cX4_closeBracket 70 = .ok (.dup, 1) := by decide +kernel
theorem dX4_closeBracket_71 : decode cX4_closeBracket 71 = .ok (.getfield 30, 3) := by decide +kernel
theorem dX4_closeBracket_74 : decode cX4_closeBracket 74 = .ok (.iconst 1, 1) := by decide +kernel
theorem dX4_closeBracket_75 : decode cX4_closeBracket 75 = .ok (.isub, 1) := by decide +kernel
theorem dX4_closeBracket_76 : decode cX4_closeBracket 76 = .ok (.putfield 30, 3) := by decide +kernel
theorem dX4_closeBracket_79 : decode cX4_closeBracket 79 = .ok (.goto 55, 3) := by decide +kernel
theorem dX4_closeBracket_82 : decode cX4_closeBracket 82 = .ok (.aload_n 0, 1) := by decide +kernel
theorem dX4_closeBracket_83 : decode cX4_closeBracket 83 = .ok (.ldc 186, 2) := by decide +kernel
theorem dX4_closeBracket_85 : decode cX4_closeBracket 85 = .ok (.invokevirtual 131, 3) := by decide +kernel
theorem dX4_closeBracket_88 : decode cX4_closeBracket 88 = .ok (.aload_n 0, 1) := by decide +kernel
theorem dX4_closeBracket_89 : decode cX4_closeBracket 89 = .ok (.iconst 2, 1) := by decide +kernel
theorem dX4_closeBracket_90 : decode cX4_closeBracket 90 = .ok (.invokevirtual 135, 3) := by decide +kernel
theorem dX4_closeBracket_93 : decode cX4_closeBracket 93 = .ok (.istore 5, 2) := by decide +kernel
theorem dX4_closeBracket_95 : decode cX4_closeBracket 95 = .ok (.aload_n 0, 1) := by decide +kernel
theorem dX4_closeBracket_96 : decode cX4_closeBracket 96 = .ok (.getfield 21, 3) := by decide +kernel
theorem dX4_closeBracket_99 : decode cX4_closeBracket 99 = .ok (.iload_n 2, 1) := by decide +kernel
theorem dX4_closeBracket_100 : decode cX4_closeBracket 100 = .ok (.iload 5, 2) := by decide +kernel
theorem dX4_closeBracket_102 : decode cX4_closeBracket 102 = .ok (.iload_n 1, 1) := by decide +kernel
theorem dX4_closeBracket_103 : decode cX4_closeBracket 103 = .ok (.lload_n 3, 1) := by decide +kernel
theorem dX4_closeBracket_104 : decode cX4_closeBracket 104 = .ok (.invokevirtual 182, 3) := by decide +kernel
theorem dX4_closeBracket_107 : decode cX4_closeBracket 107 = .ok (.aload_n 0, 1) := by decide +kernel
theorem dX4_closeBracket_108 : decode cX4_closeBracket 108 = .ok (.dup, 1) := by decide +kernel
theorem dX4_closeBracket_109 : decode cX4_closeBracket 109 = .ok (.getfield 30, 3) := by decide +kernel
theorem dX4_closeBracket_112 : decode cX4_closeBracket 112 = .ok (.iconst 1, 1) := by decide +kernel
theorem dX4_closeBracket_113 : decode cX4_closeBracket 113 = .ok (.isub, 1) := by decide +kernel
theorem dX4_closeBracket_114 : decode cX4_closeBracket 114 = .ok (.putfield 30, 3) := by decide +kernel
theorem dX4_closeBracket_117 : decode cX4_closeBracket 117 = .ok (.aload_n 0, 1) := by decide +kernel
theorem dX4_closeBracket_118 : decode cX4_closeBracket 118 = .ok (.getfield 13, 3) := by decide +kernel
theorem dX4_closeBracket_121 : decode cX4_closeBracket 121 = .ok (.aload_n 0, 1) := by decide +kernel
theorem dX4_closeBracket_122 : decode cX4_closeBracket 122 = .ok (.getfield 30, 3) := by decide +kernel
theorem dX4_closeBracket_125 : decode cX4_closeBracket 125 = .ok (.dup2, 1) := by decide +kernel
theorem dX4_closeBracket_126 : decode cX4_closeBracket 126 = .ok (.laload, 1) := by decide +kernel
theorem dX4_closeBracket_127 : decode cX4_closeBracket 127 = .ok (.iload 5, 2) := by decide +kernel
theorem dX4_closeBracket_129 : decode cX4_closeBracket 129 = .ok (.i2l, 1) := by decide +kernel
theorem dX4_closeBracket_130 : decode cX4_closeBracket 130 = .ok (.lload_n 3, 1) := by decide +kernel
theorem dX4_closeBracket_131 : decode cX4_closeBracket 131 = .ok (.lmul, 1) := by decide +kernel
theorem dX4_closeBracket_132 : decode cX4_closeBracket 132 = .ok (.ladd, 1) := by decide +kernel
theorem dX4_closeBracket_133 : decode cX4_closeBracket 133 = .ok (.lastore, 1) := by decide +kernel
theorem dX4_closeBracket_134 : decode cX4_closeBracket 134 = .ok (.return_, 1) := by decide +kernel
theorem dX4_readToLast_0 : decode cX4_readToLast 0 = .ok (.aload_n 0, 1) := by decide +kernel
theorem dX4_readToLast_1 : decode cX4_readToLast 1 = .ok (.ldc 188, 2) := by decide +kernel
theorem dX4_readToLast_3 : decode cX4_readToLast 3 = .ok (.invokevirtual 131, 3) := by decide +kernel
theorem dX4_readToLast_6 : decode cX4_readToLast 6 = .ok (.aload_n 0, 1) := by decide +kernel
theorem dX4_readToLast_7 : decode cX4_readToLast 7 = .ok (.invokevirtual 59, 3) := by decide +kernel
theorem dX4_readToLast_10 : decode cX4_readToLast 10 = .ok (.aload_n 0, 1) := by decide +kernel
theorem dX4_readToLast_11 : decode cX4_readToLast 11 = .ok (.ldc 190, 2) := by decide +kernel
theorem dX4_readToLast_13 : decode cX4_readToLast 13 = .ok (.invokevirtual 131, 3) := by decide +kernel
theorem dX4_readToLast_16 : decode cX4_readToLast 16 = .ok (.aload_n 0, 1) := by decide +kernel
theorem dX4_readToLast_17 : decode cX4_readToLast 17 = .ok (.invokevirtual 59, 3) := by decide +kernel
theorem dX4_readToLast_20 : decode cX4_readToLast 20 = .ok (.aload_n 0, 1) := by decide +kernel
theorem dX4_readToLast_21 : decode cX4_readToLast 21 = .ok (.iconst 0, 1) := by decide +kernel
theorem dX4_readToLast_22 : decode cX4_readToLast 22 = .ok (.invokevirtual 135, 3) := by decide +kernel
theorem dX4_readToLast_25 : decode cX4_readToLast 25 = .ok (.ireturn, 1) := by decide +kernel
theorem dX4_readWord_0 : decode cX4_readWord 0 = .ok (.iconst 0, 1) := by decide +kernel
theorem dX4_readWord_1 : decode cX4_readWord 1 = .ok (.istore_n 2, 1) := by decide +kernel
theorem dX4_readWord_2 : decode cX4_readWord 2 = .ok (.iload_n 2, 1) := by decide +kernel
theorem dX4_readWord_3 : decode cX4_readWord 3 = .ok (.aload_n 1, 1) := by decide +kernel
theorem dX4_readWord_4 : decode cX4_readWord 4 = .ok (.invokevirtual 192, 3) := by decide +kernel
theorem dX4_readWord_7 : decode cX4_readWord 7 = .ok (.if_icmp .ge 46, 3) := by decide +kernel
theorem dX4_readWord_10 : decode cX4_readWord 10 = .ok (.aload_n 0, 1) := by decide +kernel
theorem dX4_readWord_11 : decode cX4_readWord 11 = .ok (.invokevirtual 55, 3) := by decide +kernel
theorem dX4_readWord_14 : decode cX4_readWord 14 = .ok (.ifCond .eq 39, 3) := by decide +kernel
theorem dX4_readWord_17 : decode cX4_readWord 17 = .ok (.aload_n 0, 1) := by decide +kernel
theorem dX4_readWord_18 : decode cX4_readWord 18 = .ok (.invokevirtual 76, 3) := by decide +kernel
theorem dX4_readWord_21 : decode cX4_readWord 21 = .ok (.aload_n 1, 1) := by decide +kernel
theorem dX4_readWord_22 : decode cX4_readWord 22 = .ok (.iload_n 2, 1) := by decide +kernel
theorem dX4_readWord_23 : decode cX4_readWord 23 = .ok (.invokevirtual 195, 3) := by decide +kernel
theorem dX4_readWord_26 : decode cX4_readWord 26 = .ok (.if_icmp .ne 16, 3) := by decide +kernel
theorem dX4_readWord_29 : decode cX4_readWord 29 = .ok (.aload_n 0, 1) := by decide +kernel
theorem dX4_readWord_30 : decode cX4_readWord 30 = .ok (.dup, 1) := by decide +kernel
theorem dX4_readWord_31 : decode cX4_readWord 31 = .ok (.getfield 34, 3) := by decide +kernel
theorem dX4_readWord_34 : decode cX4_readWord 34 = .ok (.iconst 1, 1) := by decide +kernel
theorem dX4_readWord_35 : decode cX4_readWord 35 = .ok (.iadd, 1) := by decide +kernel
theorem dX4_readWord_36 : decode cX4_readWord 36 = .ok (.putfield 34, 3) := by decide +kernel
theorem dX4_readWord_39 : decode cX4_readWord 39 = .ok (.goto 8, 3) := by decide +kernel
theorem dX4_readWord_42 : decode cX4_readWord 42 = .ok (.aload_n 0, 1) := by decide +kernel
theorem dX4_readWord_43 : decode cX4_readWord 43 = .ok (.iconst 1, 1) := by decide +kernel
theorem dX4_readWord_44 : decode cX4_readWord 44 = .ok (.invokevirtual 108, 3) := by decide +kernel
theorem dX4_readWord_47 : decode cX4_readWord 47 = .ok (.iinc 2 1, 3) := by decide +kernel
theorem dX4_readWord_50 : decode cX4_readWord 50 = .ok (.goto (-48), 3) := by decide +kernel
theorem dX4_readWord_53 : decode cX4_readWord 53 = .ok (.return_, 1) := by decide +kernel
theorem dX4_readNumber_0 : decode cX4_readNumber 0 = .ok (.aload_n 0, 1) := by decide +kernel
theorem dX4_readNumber_1 : decode cX4_readNumber 1 = .ok (.invokevirtual 76, 3) := by decide +kernel
theorem dX4_readNumber_4 : decode cX4_readNumber 4 = .ok (.bipush 48, 2) := by decide +kernel
theorem dX4_readNumber_6 : decode cX4_readNumber 6 = .ok (.isub, 1) := by decide +kernel
theorem dX4_readNumber_7 : decode cX4_readNumber 7 = .ok (.istore_n 2, 1) := by decide +kernel
theorem dX4_readNumber_8 : decode cX4_readNumber 8 = .ok (.aload_n 0, 1) := by decide +kernel
theorem dX4_readNumber_9 : decode cX4_readNumber 9 = .ok (.invokevirtual 55, 3) := by decide +kernel
theorem dX4_readNumber_12 : decode cX4_readNumber 12 = .ok (.ifCond .eq 21, 3) := by decide +kernel
theorem dX4_readNumber_15 : decode cX4_readNumber 15 = .ok (.aload_n 0, 1) := by decide +kernel
theorem dX4_readNumber_16 : decode cX4_readNumber 16 = .ok (.invokevirtual 76, 3) := by decide +kernel
theorem dX4_readNumber_19 : decode cX4_readNumber 19 = .ok (.invokestatic 160, 3) := by decide +kernel
theorem dX4_readNumber_22 : decode cX4_readNumber 22 = .ok (.ifCond .eq 11, 3) := by decide +kernel
theorem dX4_readNumber_25 : decode cX4_readNumber 25 = .ok (.iload_n 2, 1) := by decide +kernel
theorem dX4_readNumber_26 : decode cX4_readNumber 26 = .ok (.ifCond .ne 14, 3) := by decide +kernel
theorem dX4_readNumber_29 : decode cX4_readNumber 29 = .ok (.iload_n 1, 1) := by decide +kernel
theorem dX4_readNumber_30 : decode cX4_readNumber 30 = .ok (.ifCond .le 10, 3) := by decide +kernel
theorem dX4_readNumber_33 : decode cX4_readNumber 33 = .ok (.aload_n 0, 1) := by decide +kernel
theorem dX4_readNumber_34 : decode cX4_readNumber 34 = .ok (.iconst 1, 1) := by decide +kernel
theorem dX4_readNumber_35 : decode cX4_readNumber 35 = .ok (.invokevirtual 108, 3) := by decide +kernel
theorem dX4_readNumber_38 : decode cX4_readNumber 38 = .ok (.iload_n 1, 1) := by decide +kernel
theorem dX4_readNumber_39 : decode cX4_readNumber 39 = .ok (.ireturn, 1) := by decide +kernel
theorem dX4_readNumber_40 : decode cX4_readNumber 40 = .ok (.aload_n 0, 1) := by decide +kernel
theorem dX4_readNumber_41 : decode cX4_readNumber 41 = .ok (.dup, 1) := by decide +kernel
theorem dX4_readNumber_42 : decode cX4_readNumber 42 = .ok (.getfield 34, 3) := by decide +kernel
theorem dX4_readNumber_45 : decode cX4_readNumber 45 = .ok (.iconst 1, 1) := by decide +kernel
theorem dX4_readNumber_46 : decode cX4_readNumber 46 = .ok (.iadd, 1) := by decide +kernel
theorem dX4_readNumber_47 : decode cX4_readNumber 47 = .ok (.putfield 34, 3) := by decide +kernel
theorem dX4_readNumber_50 : decode cX4_readNumber 50 = .ok (.iload_n 2, 1) := by decide +kernel
theorem dX4_readNumber_51 : decode cX4_readNumber 51 = .ok (.ifCond .ne 5, 3) := by decide +kernel
theorem dX4_readNumber_54 : decode cX4_readNumber 54 = .ok (.iconst 0, 1) := by decide +kernel
theorem dX4_readNumber_55 : decode cX4_readNumber 55 = .ok (.ireturn, 1) := by decide +kernel
theorem dX4_readNumber_56 : decode cX4_readNumber 56 = .ok (.aload_n 0, 1) := by decide +kernel
theorem dX4_readNumber_57 : decode cX4_readNumber 57 = .ok (.invokevirtual 76, 3) := by decide +kernel
theorem dX4_readNumber_60 : decode cX4_readNumber 60 = .ok (.invokestatic 160, 3) := by decide +kernel
theorem dX4_readNumber_63 : decode cX4_readNumber 63 = .ok (.ifCond .eq 28, 3) := by decide +kernel
theorem dX4_readNumber_66 : decode cX4_readNumber 66 = .ok (.bipush 10, 2) := by decide +kernel
theorem dX4_readNumber_68 : decode cX4_readNumber 68 = .ok (.iload_n 2, 1) := by decide +kernel
theorem dX4_readNumber_69 : decode cX4_readNumber 69 = .ok (.imul, 1) := by decide +kernel
theorem dX4_readNumber_70 : decode cX4_readNumber 70 = .ok (.aload_n 0, 1) := by decide +kernel
theorem dX4_readNumber_71 : decode cX4_readNumber 71 = .ok (.invokevirtual 76, 3) := by decide +kernel
theorem dX4_readNumber_74 : decode cX4_readNumber 74 = .ok (.iadd, 1) := by decide +kernel
theorem dX4_readNumber_75 : decode cX4_readNumber 75 = .ok (.bipush 48, 2) := by decide +kernel
theorem dX4_readNumber_77 : decode cX4_readNumber 77 = .ok (.isub, 1) := by decide +kernel
theorem dX4_readNumber_78 : decode cX4_readNumber 78 = .ok (.istore_n 3, 1) := by decide +kernel
theorem dX4_readNumber_79 : decode cX4_readNumber 79 = .ok (.aload_n 0, 1) := by decide +kernel
theorem dX4_readNumber_80 : decode cX4_readNumber 80 = .ok (.dup, 1) := by decide +kernel
theorem dX4_readNumber_81 : decode cX4_readNumber 81 = .ok (.getfield 34, 3) := by decide +kernel
theorem dX4_readNumber_84 : decode cX4_readNumber 84 = .ok (.iconst 1, 1) := by decide +kernel
theorem dX4_readNumber_85 : decode cX4_readNumber 85 = .ok (.iadd, 1) := by decide +kernel
theorem dX4_readNumber_86 : decode cX4_readNumber 86 = .ok (.putfield 34, 3) := by decide +kernel
theorem dX4_readNumber_89 : decode cX4_readNumber 89 = .ok (.iload_n 3, 1) := by decide +kernel
theorem dX4_readNumber_90 : decode cX4_readNumber 90 = .ok (.ireturn, 1) := by decide +kernel
theorem dX4_readNumber_91 : decode cX4_readNumber 91 = .ok (.iload_n 2, 1) := by decide +kernel
theorem dX4_readNumber_92 : decode cX4_readNumber 92 = .ok (.iload_n 1, 1) := by decide +kernel
theorem dX4_readNumber_93 : decode cX4_readNumber 93 = .ok (.if_icmp .ge 8, 3) := by decide +kernel
theorem dX4_readNumber_96 : decode cX4_readNumber 96 = .ok (.aload_n 0, 1) := by decide +kernel
theorem dX4_readNumber_97 : decode cX4_readNumber 97 = .ok (.iconst 1, 1) := by decide +kernel
theorem dX4_readNumber_98 : decode cX4_readNumber 98 = .ok (.invokevirtual 108, 3) := by decide +kernel
theorem dX4_readNumber_101 : decode cX4_readNumber 101 = .ok (.iload_n 2, 1) := by decide +kernel
theorem dX4_readNumber_102 : decode cX4_readNumber 102 = .ok (.ireturn, 1) := by decide +kernel
theorem dX4_isDigit_0 : decode cX4_isDigit 0 = .ok (.iload_n 0, 1) := by decide +kernel
theorem dX4_isDigit_1 : decode cX4_isDigit 1 = .ok (.bipush 48, 2) := by decide +kernel
theorem dX4_isDigit_3 : decode cX4_isDigit 3 = .ok (.if_icmp .lt 13, 3) := by decide +kernel
theorem dX4_isDigit_6 : decode cX4_isDigit 6 = .ok (.iload_n 0, 1) := by decide +kernel
theorem dX4_isDigit_7 : decode cX4_isDigit 7 = .ok (.bipush 57, 2) := by decide +kernel
theorem dX4_isDigit_9 : decode cX4_isDigit 9 = .ok (.if_icmp .gt 7, 3) := by decide +kernel
theorem dX4_isDigit_12 : decode cX4_isDigit 12 = .ok (.iconst 1, 1) := by decide +kernel
theorem dX4_isDigit_13 : decode cX4_isDigit 13 = .ok (.goto 4, 3) := by decide +kernel
theorem dX4_isDigit_16 : decode cX4_isDigit 16 = .ok (.iconst 0, 1) := by decide +kernel
theorem dX4_isDigit_17 : decode cX4_isDigit 17 = .ok (.ireturn, 1) := by decide +kernel
theorem dJ0_charAt_5068e_0 : decode cJ0_charAt_5068e 0 = .ok (.aload_n 0, 1) := by decide +kernel
theorem dJ0_charAt_5068e_1 : decode cJ0_charAt_5068e 1 = .ok (.invokevirtual 492, 3) := by decide +kernel
theorem dJ0_charAt_5068e_4 : decode cJ0_charAt_5068e 4 = .ok (.ifCond .eq 12, 3) := by decide +kernel
theorem dJ0_charAt_5068e_7 : decode cJ0_charAt_5068e 7 = .ok (.aload_n 0, 1) := by decide +kernel
theorem dJ0_charAt_5068e_8 : decode cJ0_charAt_5068e 8 = .ok (.getfield 9, 3) := by decide +kernel
theorem dJ0_charAt_5068e_11 : decode cJ0_charAt_5068e 11 = .ok (.iload_n 1, 1) := by decide +kernel
theorem dJ0_charAt_5068e_12 : decode cJ0_charAt_5068e 12 = .ok (.invokestatic 495, 3) := by decide +kernel
theorem dJ0_charAt_5068e_15 : decode cJ0_charAt_5068e 15 = .ok (.ireturn, 1) := by decide +kernel
theorem dJ0_charAt_5068e_16 : decode cJ0_charAt_5068e 16 = .ok (.aload_n 0, 1) := by decide +kernel
theorem dJ0_charAt_5068e_17 : decode cJ0_charAt_5068e 17 = .ok (.getfield 9, 3) := by decide +kernel
theorem dJ0_charAt_5068e_20 : decode cJ0_charAt_5068e 20 = .ok (.iload_n 1, 1) := by decide +kernel
theorem dJ0_charAt_5068e_21 : decode cJ0_charAt_5068e 21 = .ok (.invokestatic 498, 3) := by decide +kernel
theorem dJ0_charAt_5068e_24 : decode cJ0_charAt_5068e 24 = .ok (.ireturn, 1) := by decide +kernel
theorem dJ1_charAt_3b067_0 : decode cJ1_charAt_3b067 0 = .ok (.iload_n 1, 1) := by decide +kernel
theorem dJ1_charAt_3b067_1 : decode cJ1_charAt_3b067 1 = .ok (.aload_n 0, 1) := by decide +kernel
theorem dJ1_charAt_3b067_2 : decode cJ1_charAt_3b067 2 = .ok (.arraylength, 1) := by decide +kernel
theorem dJ1_charAt_3b067_3 : decode cJ1_charAt_3b067 3 = .ok (.invokestatic 9, 3) := by decide +kernel
theorem dJ1_charAt_3b067_6 : decode cJ1_charAt_3b067 6 = .ok (.aload_n 0, 1) := by decide +kernel
theorem dJ1_charAt_3b067_7 : decode cJ1_charAt_3b067 7 = .ok (.iload_n 1, 1) := by decide +kernel
theorem dJ1_charAt_3b067_8 : decode cJ1_charAt_3b067 8 = .ok (.baload, 1) := by decide +kernel
theorem dJ1_charAt_3b067_9 : decode cJ1_charAt_3b067 9 = .ok (.sipush 255, 3) := by decide +kernel
theorem dJ1_charAt_3b067_12 : decode cJ1_charAt_3b067 12 = .ok (.iand, 1) := by decide +kernel
theorem dJ1_charAt_3b067_13 : decode cJ1_charAt_3b067 13 = .ok (.i2c, 1) := by decide +kernel
theorem dJ1_charAt_3b067_14 : decode cJ1_charAt_3b067 14 = .ok (.ireturn, 1) := by decide +kernel
theorem dJ0_length_8abf5_0 : decode cJ0_length_8abf5 0 = .ok (.aload_n 0, 1) := by decide +kernel
theorem dJ0_length_8abf5_1 : decode cJ0_length_8abf5 1 = .ok (.getfield 9, 3) := by decide +kernel
theorem dJ0_length_8abf5_4 : decode cJ0_length_8abf5 4 = .ok (.arraylength, 1) := by decide +kernel
theorem dJ0_length_8abf5_5 : decode cJ0_length_8abf5 5 = .ok (.aload_n 0, 1) := by decide +kernel
theorem dJ0_length_8abf5_6 : decode cJ0_length_8abf5 6 = .ok (.invokevirtual 335, 3) := by decide +kernel
theorem dJ0_length_8abf5_9 : decode cJ0_length_8abf5 9 = .ok (.ishr, 1) := by decide +kernel
theorem dJ0_length_8abf5_10 : decode cJ0_length_8abf5 10 = .ok (.ireturn, 1) := by decide +kernel
theorem dJ0_coder_7d493_0 : decode cJ0_coder_7d493 0 = .ok (.getstatic 38, 3) := by decide +kernel
theorem dJ0_coder_7d493_3 : decode cJ0_coder_7d493 3 = .ok (.ifCond .eq 10, 3) := by decide +kernel
theorem dJ0_coder_7d493_6 : decode cJ0_coder_7d493 6 = .ok (.aload_n 0, 1) := by decide +kernel
theorem dJ0_coder_7d493_7 : decode cJ0_coder_7d493 7 = .ok (.getfield 15, 3) := by decide +kernel
theorem dJ0_coder_7d493_10 : decode cJ0_coder_7d493 10 = .ok (.goto 4, 3) := by decide +kernel
theorem dJ0_coder_7d493_13 : decode cJ0_coder_7d493 13 = .ok (.iconst 1, 1) := by decide +kernel
theorem dJ0_coder_7d493_14 : decode cJ0_coder_7d493 14 = .ok (.ireturn, 1) := by decide +kernel
theorem dJ0_isLatin1_aae02_0 : decode cJ0_isLatin1_aae02 0 = .ok (.getstatic 38, 3) := by decide +kernel
theorem dJ0_isLatin1_aae02_3 : decode cJ0_isLatin1_aae02 3 = .ok (.ifCond .eq 14, 3) := by decide +kernel
theorem dJ0_isLatin1_aae02_6 : decode cJ0_isLatin1_aae02 6 = .ok (.aload_n 0, 1) := by decide +kernel
theorem dJ0_isLatin1_aae02_7 : decode cJ0_isLatin1_aae02 7 = .ok (.getfield 15, 3) := by decide +kernel
theorem dJ0_isLatin1_aae02_10 : decode cJ0_isLatin1_aae02 10 = .ok (.ifCond .ne 7, 3) := by decide +kernel
theorem dJ0_isLatin1_aae02_13 : decode cJ0_isLatin1_aae02 13 = .ok (.iconst 1, 1) := by decide +kernel
theorem dJ0_isLatin1_aae02_14 : decode cJ0_isLatin1_aae02 14 = .ok (.goto 4, 3) := by decide +kernel
theorem dJ0_isLatin1_aae02_17 : decode cJ0_isLatin1_aae02 17 = .ok (.iconst 0, 1) := by decide +kernel
theorem dJ0_isLatin1_aae02_18 : decode cJ0_isLatin1_aae02 18 = .ok (.ireturn, 1) := by decide +kernel
theorem dJ0_checkIndex_df160_0 : decode cJ0_checkIndex_df160 0 = .ok (.iload_n 0, 1) := by decide +kernel
theorem dJ0_checkIndex_df160_1 : decode cJ0_checkIndex_df160 1 = .ok (.iload_n 1, 1) := by decide +kernel
theorem dJ0_checkIndex_df160_2 : decode cJ0_checkIndex_df160 2 = .ok (.getstatic 1053, 3) := by decide +kernel
theorem dJ0_checkIndex_df160_5 : decode cJ0_checkIndex_df160 5 = .ok (.invokestatic 1059, 3) := by decide +kernel
theorem dJ0_checkIndex_df160_8 : decode cJ0_checkIndex_df160 8 = .ok (.pop, 1) := by decide +kernel
theorem dJ0_checkIndex_df160_9 : decode cJ0_checkIndex_df160 9 = .ok (.return_, 1) := by decide +kernel
theorem dJ3_checkIndex_8e157_0 : decode cJ3_checkIndex_8e157 0 = .ok (.iload_n 0, 1) := by decide +kernel
theorem dJ3_checkIndex_8e157_1 : decode cJ3_checkIndex_8e157 1 = .ok (.ifCond .lt 8, 3) := by decide +kernel
theorem dJ3_checkIndex_8e157_4 : decode cJ3_checkIndex_8e157 4 = .ok (.iload_n 0, 1) := by decide +kernel
theorem dJ3_checkIndex_8e157_5 : decode cJ3_checkIndex_8e157 5 = .ok (.iload_n 1, 1) := by decide +kernel
theorem dJ3_checkIndex_8e157_6 : decode cJ3_checkIndex_8e157 6 = .ok (.if_icmp .lt 10, 3) := by decide +kernel
theorem dJ3_checkIndex_8e157_9 : decode cJ3_checkIndex_8e157 9 = .ok (.aload_n 2, 1) := by decide +kernel
theorem dJ3_checkIndex_8e157_10 : decode cJ3_checkIndex_8e157 10 = .ok (.iload_n 0, 1) := by decide +kernel
theorem dJ3_checkIndex_8e157_11 : decode cJ3_checkIndex_8e157 11 = .ok (.iload_n 1, 1) := by decide +kernel
theorem dJ3_checkIndex_8e157_12 : decode cJ3_checkIndex_8e157 12 = .ok (.invokestatic 95, 3) := by decide +kernel
theorem dJ3_checkIndex_8e157_15 : decode cJ3_checkIndex_8e157 15 = .ok (.athrow, 1) := by decide +kernel
theorem dJ3_checkIndex_8e157_16 : decode cJ3_checkIndex_8e157 16 = .ok (.iload_n 0, 1) := by decide +kernel
theorem dJ3_checkIndex_8e157_17 : decode cJ3_checkIndex_8e157 17 = .ok (.ireturn, 1) := by decide +kernel
