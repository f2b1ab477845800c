/-! ===== decoded instructions ===== -/
theorem dd_CH_init_0 : decode cc_CH_init 0 = .ok (.aload_n 0, 1) := by decide +kernel
theorem dd_CH_init_1 : decode cc_CH_init 1 = .ok (.invokespecial 3, 3) := by decide +kernel
theorem dd_CH_init_4 : decode cc_CH_init 4 = .ok (.aload_n 0, 1) := by decide +kernel
theorem dd_CH_init_5 : decode cc_CH_init 5 = .ok (.bipush 40, 2) := by decide +kernel
theorem dd_CH_init_7 : decode cc_CH_init 7 = .ok (.sipush 600, 3) := by decide +kernel
theorem dd_CH_init_10 : decode cc_CH_init 10 = .ok (.iload_n 1, 1) := by decide +kernel
theorem dd_CH_init_11 : decode cc_CH_init 11 = .ok (.invokestatic 9, 3) := by decide +kernel
theorem dd_CH_init_14 : decode cc_CH_init 14 = .ok (.invokestatic 15, 3) := by decide +kernel
theorem dd_CH_init_17 : decode cc_CH_init 17 = .ok (.putfield 18, 3) := by decide +kernel
theorem dd_CH_init_20 : decode cc_CH_init 20 = .ok (.aload_n 0, 1) := by decide +kernel
theorem dd_CH_init_21 : decode cc_CH_init 21 = .ok (.new 22, 3) := by decide +kernel
theorem dd_CH_init_24 : decode cc_CH_init 24 = .ok (.dup, 1) := by decide +kernel
theorem dd_CH_init_25 : decode cc_CH_init 25 = .ok (.aload_n 0, 1) := by decide +kernel
theorem dd_CH_init_26 : decode cc_CH_init 26 = .ok (.getfield 18, 3) := by decide +kernel
theorem dd_CH_init_29 : decode cc_CH_init 29 = .ok (.invokespecial 24, 3) := by decide +kernel
theorem dd_CH_init_32 : decode cc_CH_init 32 = .ok (.putfield 27, 3) := by decide +kernel
theorem dd_CH_init_35 : decode cc_CH_init 35 = .ok (.aload_n 0, 1) := by decide +kernel
theorem dd_CH_init_36 : decode cc_CH_init 36 = .ok (.new 31, 3) := by decide +kernel
theorem dd_CH_init_39 : decode cc_CH_init 39 = .ok (.dup, 1) := by decide +kernel
theorem dd_CH_init_40 : decode cc_CH_init 40 = .ok (.invokespecial 33, 3) := by decide +kernel
theorem dd_CH_init_43 : decode cc_CH_init 43 = .ok (.putfield 34, 3) := by decide +kernel
theorem dd_CH_init_46 : decode cc_CH_init 46 = .ok (.aload_n 0, 1) := by decide +kernel
theorem dd_CH_init_47 : decode cc_CH_init 47 = .ok (.new 31, 3) := by decide +kernel
theorem dd_CH_init_50 : decode cc_CH_init 50 = .ok (.dup, 1) := by decide +kernel
theorem dd_CH_init_51 : decode cc_CH_init 51 = .ok (.invokespecial 33, 3) := by decide +kernel
theorem dd_CH_init_54 : decode cc_CH_init 54 = .ok (.putfield 38, 3) := by decide +kernel
theorem dd_CH_init_57 : decode cc_CH_init 57 = .ok (.aload_n 0, 1) := by decide +kernel
theorem dd_CH_init_58 : decode cc_CH_init 58 = .ok (.new 41, 3) := by decide +kernel
theorem dd_CH_init_61 : decode cc_CH_init 61 = .ok (.dup, 1) := by decide +kernel
theorem dd_CH_init_62 : decode cc_CH_init 62 = .ok (.aload_n 0, 1) := by decide +kernel
theorem dd_CH_init_63 : decode cc_CH_init 63 = .ok (.getfield 18, 3) := by decide +kernel
theorem dd_CH_init_66 : decode cc_CH_init 66 = .ok (.invokespecial 43, 3) := by decide +kernel
theorem dd_CH_init_69 : decode cc_CH_init 69 = .ok (.putfield 44, 3) := by decide +kernel
theorem dd_CH_init_72 : decode cc_CH_init 72 = .ok (.aload_n 0, 1) := by decide +kernel
theorem dd_CH_init_73 : decode cc_CH_init 73 = .ok (.new 48, 3) := by decide +kernel
theorem dd_CH_init_76 : decode cc_CH_init 76 = .ok (.dup, 1) := by decide +kernel
theorem dd_CH_init_77 : decode cc_CH_init 77 = .ok (.aload_n 0, 1) := by decide +kernel
theorem dd_CH_init_78 : decode cc_CH_init 78 = .ok (.getfield 18, 3) := by decide +kernel
theorem dd_CH_init_81 : decode cc_CH_init 81 = .ok (.invokespecial 50, 3) := by decide +kernel
theorem dd_CH_init_84 : decode cc_CH_init 84 = .ok (.putfield 51, 3) := by decide +kernel
theorem dd_CH_init_87 : decode cc_CH_init 87 = .ok (.aload_n 0, 1) := by decide +kernel
theorem dd_CH_init_88 : decode cc_CH_init 88 = .ok (.new 55, 3) := by decide +kernel
theorem dd_CH_init_91 : decode cc_CH_init 91 = .ok (.dup, 1) := by decide +kernel
theorem dd_CH_init_92 : decode cc_CH_init 92 = .ok (.aload_n 0, 1) := by decide +kernel
theorem dd_CH_init_93 : decode cc_CH_init 93 = .ok (.getfield 18, 3) := by decide +kernel
theorem dd_CH_init_96 : decode cc_CH_init 96 = .ok (.invokespecial 57, 3) := by decide +kernel
theorem dd_CH_init_99 : decode cc_CH_init 99 = .ok (.putfield 58, 3) := by decide +kernel
theorem dd_CH_init_102 : decode cc_CH_init 102 = .ok (.return_, 1) := by decide +kernel
theorem dd_Po_init_0 : decode cc_Po_init 0 = .ok (.aload_n 0, 1) := by decide +kernel
theorem dd_Po_init_1 : decode cc_Po_init 1 = .ok (.invokespecial 3, 3) := by decide +kernel
theorem dd_Po_init_4 : decode cc_Po_init 4 = .ok (.aload_n 0, 1) := by decide +kernel
theorem dd_Po_init_5 : decode cc_Po_init 5 = .ok (.bipush 30, 2) := by decide +kernel
theorem dd_Po_init_7 : decode cc_Po_init 7 = .ok (.newarray .int, 2) := by decide +kernel
theorem dd_Po_init_9 : decode cc_Po_init 9 = .ok (.putfield 9, 3) := by decide +kernel
theorem dd_Po_init_12 : decode cc_Po_init 12 = .ok (.aload_n 0, 1) := by decide +kernel
theorem dd_Po_init_13 : decode cc_Po_init 13 = .ok (.bipush 30, 2) := by decide +kernel
theorem dd_Po_init_15 : decode cc_Po_init 15 = .ok (.newarray .int, 2) := by decide +kernel
theorem dd_Po_init_17 : decode cc_Po_init 17 = .ok (.putfield 15, 3) := by decide +kernel
theorem dd_Po_init_20 : decode cc_Po_init 20 = .ok (.aload_n 0, 1) := by decide +kernel
theorem dd_Po_init_21 : decode cc_Po_init 21 = .ok (.iload_n 1, 1) := by decide +kernel
theorem dd_Po_init_22 : decode cc_Po_init 22 = .ok (.putfield 18, 3) := by decide +kernel
theorem dd_Po_init_25 : decode cc_Po_init 25 = .ok (.return_, 1) := by decide +kernel
theorem dd_AL_init_0 : decode cc_AL_init 0 = .ok (.aload_n 0, 1) := by decide +kernel
theorem dd_AL_init_1 : decode cc_AL_init 1 = .ok (.invokespecial 1, 3) := by decide +kernel
theorem dd_AL_init_4 : decode cc_AL_init 4 = .ok (.aload_n 0, 1) := by decide +kernel
theorem dd_AL_init_5 : decode cc_AL_init 5 = .ok (.getstatic 39, 3) := by decide +kernel
theorem dd_AL_init_8 : decode cc_AL_init 8 = .ok (.putfield 9, 3) := by decide +kernel
theorem dd_AL_init_11 : decode cc_AL_init 11 = .ok (.return_, 1) := by decide +kernel
theorem dd_Ab_init_0 : decode cc_Ab_init 0 = .ok (.aload_n 0, 1) := by decide +kernel
theorem dd_Ab_init_1 : decode cc_Ab_init 1 = .ok (.invokespecial 1, 3) := by decide +kernel
theorem dd_Ab_init_4 : decode cc_Ab_init 4 = .ok (.aload_n 0, 1) := by decide +kernel
theorem dd_Ab_init_5 : decode cc_Ab_init 5 = .ok (.iconst 0, 1) := by decide +kernel
theorem dd_Ab_init_6 : decode cc_Ab_init 6 = .ok (.putfield 7, 3) := by decide +kernel
theorem dd_Ab_init_9 : decode cc_Ab_init 9 = .ok (.return_, 1) := by decide +kernel
theorem dd_Ac_init_0 : decode cc_Ac_init 0 = .ok (.aload_n 0, 1) := by decide +kernel
theorem dd_Ac_init_1 : decode cc_Ac_init 1 = .ok (.invokespecial 1, 3) := by decide +kernel
theorem dd_Ac_init_4 : decode cc_Ac_init 4 = .ok (.return_, 1) := by decide +kernel
theorem dd_Ca_init_0 : decode cc_Ca_init 0 = .ok (.aload_n 0, 1) := by decide +kernel
theorem dd_Ca_init_1 : decode cc_Ca_init 1 = .ok (.invokespecial 3, 3) := by decide +kernel
theorem dd_Ca_init_4 : decode cc_Ca_init 4 = .ok (.aload_n 0, 1) := by decide +kernel
theorem dd_Ca_init_5 : decode cc_Ca_init 5 = .ok (.iload_n 1, 1) := by decide +kernel
theorem dd_Ca_init_6 : decode cc_Ca_init 6 = .ok (.newarray .int, 2) := by decide +kernel
theorem dd_Ca_init_8 : decode cc_Ca_init 8 = .ok (.putfield 9, 3) := by decide +kernel
theorem dd_Ca_init_11 : decode cc_Ca_init 11 = .ok (.return_, 1) := by decide +kernel
theorem dd_Co_init_0 : decode cc_Co_init 0 = .ok (.aload_n 0, 1) := by decide +kernel
theorem dd_Co_init_1 : decode cc_Co_init 1 = .ok (.invokespecial 3, 3) := by decide +kernel
theorem dd_Co_init_4 : decode cc_Co_init 4 = .ok (.aload_n 0, 1) := by decide +kernel
theorem dd_Co_init_5 : decode cc_Co_init 5 = .ok (.iload_n 1, 1) := by decide +kernel
theorem dd_Co_init_6 : decode cc_Co_init 6 = .ok (.newarray .int, 2) := by decide +kernel
theorem dd_Co_init_8 : decode cc_Co_init 8 = .ok (.putfield 9, 3) := by decide +kernel
theorem dd_Co_init_11 : decode cc_Co_init 11 = .ok (.aload_n 0, 1) := by decide +kernel
theorem dd_Co_init_12 : decode cc_Co_init 12 = .ok (.iload_n 1, 1) := by decide +kernel
theorem dd_Co_init_13 : decode cc_Co_init 13 = .ok (.newarray .int, 2) := by decide +kernel
theorem dd_Co_init_15 : decode cc_Co_init 15 = .ok (.putfield 15, 3) := by decide +kernel
theorem dd_Co_init_18 : decode cc_Co_init 18 = .ok (.return_, 1) := by decide +kernel
theorem dd_He_init_0 : decode cc_He_init 0 = .ok (.aload_n 0, 1) := by decide +kernel
theorem dd_He_init_1 : decode cc_He_init 1 = .ok (.invokespecial 3, 3) := by decide +kernel
theorem dd_He_init_4 : decode cc_He_init 4 = .ok (.aload_n 0, 1) := by decide +kernel
theorem dd_He_init_5 : decode cc_He_init 5 = .ok (.iload_n 1, 1) := by decide +kernel
theorem dd_He_init_6 : decode cc_He_init 6 = .ok (.newarray .int, 2) := by decide +kernel
theorem dd_He_init_8 : decode cc_He_init 8 = .ok (.putfield 9, 3) := by decide +kernel
theorem dd_He_init_11 : decode cc_He_init 11 = .ok (.aload_n 0, 1) := by decide +kernel
theorem dd_He_init_12 : decode cc_He_init 12 = .ok (.iload_n 1, 1) := by decide +kernel
theorem dd_He_init_13 : decode cc_He_init 13 = .ok (.newarray .int, 2) := by decide +kernel
theorem dd_He_init_15 : decode cc_He_init 15 = .ok (.putfield 15, 3) := by decide +kernel
theorem dd_He_init_18 : decode cc_He_init 18 = .ok (.return_, 1) := by decide +kernel
theorem dd_La_cell_0 : decode cc_La_cell 0 = .ok (.iload_n 1, 1) := by decide +kernel
theorem dd_La_cell_1 : decode cc_La_cell 1 = .ok (.aload_n 0, 1) := by decide +kernel
theorem dd_La_cell_2 : decode cc_La_cell 2 = .ok (.arraylength, 1) := by decide +kernel
theorem dd_La_cell_3 : decode cc_La_cell 3 = .ok (.if_icmp .ge 9, 3) := by decide +kernel
theorem dd_La_cell_6 : decode cc_La_cell 6 = .ok (.aload_n 0, 1) := by decide +kernel
theorem dd_La_cell_7 : decode cc_La_cell 7 = .ok (.iload_n 1, 1) := by decide +kernel
theorem dd_La_cell_8 : decode cc_La_cell 8 = .ok (.iaload, 1) := by decide +kernel
theorem dd_La_cell_9 : decode cc_La_cell 9 = .ok (.goto 4, 3) := by decide +kernel
theorem dd_La_cell_12 : decode cc_La_cell 12 = .ok (.iconst 0, 1) := by decide +kernel
theorem dd_La_cell_13 : decode cc_La_cell 13 = .ok (.ireturn, 1) := by decide +kernel
theorem dd_La_spawn_0 : decode cc_La_spawn 0 = .ok (.aload_n 1, 1) := by decide +kernel
theorem dd_La_spawn_1 : decode cc_La_spawn 1 = .ok (.iconst 0, 1) := by decide +kernel
theorem dd_La_spawn_2 : decode cc_La_spawn 2 = .ok (.aload_n 0, 1) := by decide +kernel
theorem dd_La_spawn_3 : decode cc_La_spawn 3 = .ok (.invokevirtual 7, 3) := by decide +kernel
theorem dd_La_spawn_6 : decode cc_La_spawn 6 = .ok (.i2l, 1) := by decide +kernel
theorem dd_La_spawn_7 : decode cc_La_spawn 7 = .ok (.lastore, 1) := by decide +kernel
theorem dd_La_spawn_8 : decode cc_La_spawn 8 = .ok (.goto 6, 3) := by decide +kernel
theorem dd_La_spawn_11 : decode cc_La_spawn 11 = .ok (.astore_n 2, 1) := by decide +kernel
theorem dd_La_spawn_12 : decode cc_La_spawn 12 = .ok (.iconst 1, 1) := by decide +kernel
theorem dd_La_spawn_13 : decode cc_La_spawn 13 = .ok (.ireturn, 1) := by decide +kernel
theorem dd_La_spawn_14 : decode cc_La_spawn 14 = .ok (.iconst 0, 1) := by decide +kernel
theorem dd_La_spawn_15 : decode cc_La_spawn 15 = .ok (.ireturn, 1) := by decide +kernel
theorem dd_CH_spawn_0 : decode cc_CH_spawn 0 = .ok (.aload_n 0, 1) := by decide +kernel
theorem dd_CH_spawn_1 : decode cc_CH_spawn 1 = .ok (.getfield 34, 3) := by decide +kernel
theorem dd_CH_spawn_4 : decode cc_CH_spawn 4 = .ok (.invokevirtual 62, 3) := by decide +kernel
theorem dd_CH_spawn_7 : decode cc_CH_spawn 7 = .ok (.bipush 8, 2) := by decide +kernel
theorem dd_CH_spawn_9 : decode cc_CH_spawn 9 = .ok (.if_icmp .ge 15, 3) := by decide +kernel
theorem dd_CH_spawn_12 : decode cc_CH_spawn 12 = .ok (.aload_n 0, 1) := by decide +kernel
theorem dd_CH_spawn_13 : decode cc_CH_spawn 13 = .ok (.getfield 27, 3) := by decide +kernel
theorem dd_CH_spawn_16 : decode cc_CH_spawn 16 = .ok (.getfield 66, 3) := by decide +kernel
theorem dd_CH_spawn_19 : decode cc_CH_spawn 19 = .ok (.bipush 8, 2) := by decide +kernel
theorem dd_CH_spawn_21 : decode cc_CH_spawn 21 = .ok (.if_icmp .ge 11, 3) := by decide +kernel
theorem dd_CH_spawn_24 : decode cc_CH_spawn 24 = .ok (.new 69, 3) := by decide +kernel
theorem dd_CH_spawn_27 : decode cc_CH_spawn 27 = .ok (.dup, 1) := by decide +kernel
theorem dd_CH_spawn_28 : decode cc_CH_spawn 28 = .ok (.invokespecial 71, 3) := by decide +kernel
theorem dd_CH_spawn_31 : decode cc_CH_spawn 31 = .ok (.athrow, 1) := by decide +kernel
theorem dd_CH_spawn_32 : decode cc_CH_spawn 32 = .ok (.aload_n 0, 1) := by decide +kernel
theorem dd_CH_spawn_33 : decode cc_CH_spawn 33 = .ok (.getfield 38, 3) := by decide +kernel
theorem dd_CH_spawn_36 : decode cc_CH_spawn 36 = .ok (.invokevirtual 72, 3) := by decide +kernel
theorem dd_CH_spawn_39 : decode cc_CH_spawn 39 = .ok (.ifCond .eq 17, 3) := by decide +kernel
theorem dd_CH_spawn_42 : decode cc_CH_spawn 42 = .ok (.new 76, 3) := by decide +kernel
theorem dd_CH_spawn_45 : decode cc_CH_spawn 45 = .ok (.dup, 1) := by decide +kernel
theorem dd_CH_spawn_46 : decode cc_CH_spawn 46 = .ok (.aload_n 0, 1) := by decide +kernel
theorem dd_CH_spawn_47 : decode cc_CH_spawn 47 = .ok (.getfield 18, 3) := by decide +kernel
theorem dd_CH_spawn_50 : decode cc_CH_spawn 50 = .ok (.invokespecial 78, 3) := by decide +kernel
theorem dd_CH_spawn_53 : decode cc_CH_spawn 53 = .ok (.goto 22, 3) := by decide +kernel
theorem dd_CH_spawn_56 : decode cc_CH_spawn 56 = .ok (.aload_n 0, 1) := by decide +kernel
theorem dd_CH_spawn_57 : decode cc_CH_spawn 57 = .ok (.getfield 38, 3) := by decide +kernel
theorem dd_CH_spawn_60 : decode cc_CH_spawn 60 = .ok (.aload_n 0, 1) := by decide +kernel
theorem dd_CH_spawn_61 : decode cc_CH_spawn 61 = .ok (.getfield 38, 3) := by decide +kernel
theorem dd_CH_spawn_64 : decode cc_CH_spawn 64 = .ok (.invokevirtual 62, 3) := by decide +kernel
theorem dd_CH_spawn_67 : decode cc_CH_spawn 67 = .ok (.iconst 1, 1) := by decide +kernel
theorem dd_CH_spawn_68 : decode cc_CH_spawn 68 = .ok (.isub, 1) := by decide +kernel
theorem dd_CH_spawn_69 : decode cc_CH_spawn 69 = .ok (.invokevirtual 79, 3) := by decide +kernel
theorem dd_CH_spawn_72 : decode cc_CH_spawn 72 = .ok (.checkcast 76, 3) := by decide +kernel
theorem dd_CH_spawn_75 : decode cc_CH_spawn 75 = .ok (.astore_n 1, 1) := by decide +kernel
theorem dd_CH_spawn_76 : decode cc_CH_spawn 76 = .ok (.aload_n 0, 1) := by decide +kernel
theorem dd_CH_spawn_77 : decode cc_CH_spawn 77 = .ok (.dup, 1) := by decide +kernel
theorem dd_CH_spawn_78 : decode cc_CH_spawn 78 = .ok (.getfield 83, 3) := by decide +kernel
theorem dd_CH_spawn_81 : decode cc_CH_spawn 81 = .ok (.iconst 1, 1) := by decide +kernel
theorem dd_CH_spawn_82 : decode cc_CH_spawn 82 = .ok (.iadd, 1) := by decide +kernel
theorem dd_CH_spawn_83 : decode cc_CH_spawn 83 = .ok (.putfield 83, 3) := by decide +kernel
theorem dd_CH_spawn_86 : decode cc_CH_spawn 86 = .ok (.aload_n 1, 1) := by decide +kernel
theorem dd_CH_spawn_87 : decode cc_CH_spawn 87 = .ok (.aload_n 0, 1) := by decide +kernel
theorem dd_CH_spawn_88 : decode cc_CH_spawn 88 = .ok (.getfield 83, 3) := by decide +kernel
theorem dd_CH_spawn_91 : decode cc_CH_spawn 91 = .ok (.invokevirtual 86, 3) := by decide +kernel
theorem dd_CH_spawn_94 : decode cc_CH_spawn 94 = .ok (.aload_n 0, 1) := by decide +kernel
theorem dd_CH_spawn_95 : decode cc_CH_spawn 95 = .ok (.getfield 27, 3) := by decide +kernel
theorem dd_CH_spawn_98 : decode cc_CH_spawn 98 = .ok (.dup, 1) := by decide +kernel
theorem dd_CH_spawn_99 : decode cc_CH_spawn 99 = .ok (.getfield 66, 3) := by decide +kernel
theorem dd_CH_spawn_102 : decode cc_CH_spawn 102 = .ok (.bipush 8, 2) := by decide +kernel
theorem dd_CH_spawn_104 : decode cc_CH_spawn 104 = .ok (.isub, 1) := by decide +kernel
theorem dd_CH_spawn_105 : decode cc_CH_spawn 105 = .ok (.putfield 66, 3) := by decide +kernel
theorem dd_CH_spawn_108 : decode cc_CH_spawn 108 = .ok (.aload_n 0, 1) := by decide +kernel
theorem dd_CH_spawn_109 : decode cc_CH_spawn 109 = .ok (.getfield 34, 3) := by decide +kernel
theorem dd_CH_spawn_112 : decode cc_CH_spawn 112 = .ok (.aload_n 1, 1) := by decide +kernel
theorem dd_CH_spawn_113 : decode cc_CH_spawn 113 = .ok (.invokevirtual 89, 3) := by decide +kernel
theorem dd_CH_spawn_116 : decode cc_CH_spawn 116 = .ok (.pop, 1) := by decide +kernel
theorem dd_CH_spawn_117 : decode cc_CH_spawn 117 = .ok (.aload_n 0, 1) := by decide +kernel
theorem dd_CH_spawn_118 : decode cc_CH_spawn 118 = .ok (.getfield 83, 3) := by decide +kernel
theorem dd_CH_spawn_121 : decode cc_CH_spawn 121 = .ok (.ireturn, 1) := by decide +kernel
theorem dd_AL_size_0 : decode cc_AL_size 0 = .ok (.aload_n 0, 1) := by decide +kernel
theorem dd_AL_size_1 : decode cc_AL_size 1 = .ok (.getfield 48, 3) := by decide +kernel
theorem dd_AL_size_4 : decode cc_AL_size 4 = .ok (.ireturn, 1) := by decide +kernel
theorem dd_AL_isEmpty_0 : decode cc_AL_isEmpty 0 = .ok (.aload_n 0, 1) := by decide +kernel
theorem dd_AL_isEmpty_1 : decode cc_AL_isEmpty 1 = .ok (.getfield 48, 3) := by decide +kernel
theorem dd_AL_isEmpty_4 : decode cc_AL_isEmpty 4 = .ok (.ifCond .ne 7, 3) := by decide +kernel
theorem dd_AL_isEmpty_7 : decode cc_AL_isEmpty 7 = .ok (.iconst 1, 1) := by decide +kernel
theorem dd_AL_isEmpty_8 : decode cc_AL_isEmpty 8 = .ok (.goto 4, 3) := by decide +kernel
theorem dd_AL_isEmpty_11 : decode cc_AL_isEmpty 11 = .ok (.iconst 0, 1) := by decide +kernel
theorem dd_AL_isEmpty_12 : decode cc_AL_isEmpty 12 = .ok (.ireturn, 1) := by decide +kernel
theorem dd_Pr_init_0 : decode cc_Pr_init 0 = .ok (.aload_n 0, 1) := by decide +kernel
theorem dd_Pr_init_1 : decode cc_Pr_init 1 = .ok (.invokespecial 3, 3) := by decide +kernel
theorem dd_Pr_init_4 : decode cc_Pr_init 4 = .ok (.aload_n 0, 1) := by decide +kernel
theorem dd_Pr_init_5 : decode cc_Pr_init 5 = .ok (.iconst 4, 1) := by decide +kernel
theorem dd_Pr_init_6 : decode cc_Pr_init 6 = .ok (.newarray .int, 2) := by decide +kernel
theorem dd_Pr_init_8 : decode cc_Pr_init 8 = .ok (.putfield 9, 3) := by decide +kernel
theorem dd_Pr_init_11 : decode cc_Pr_init 11 = .ok (.aload_n 0, 1) := by decide +kernel
theorem dd_Pr_init_12 : decode cc_Pr_init 12 = .ok (.new 15, 3) := by decide +kernel
theorem dd_Pr_init_15 : decode cc_Pr_init 15 = .ok (.dup, 1) := by decide +kernel
theorem dd_Pr_init_16 : decode cc_Pr_init 16 = .ok (.invokespecial 17, 3) := by decide +kernel
theorem dd_Pr_init_19 : decode cc_Pr_init 19 = .ok (.putfield 18, 3) := by decide +kernel
theorem dd_Pr_init_22 : decode cc_Pr_init 22 = .ok (.aload_n 0, 1) := by decide +kernel
theorem dd_Pr_init_23 : decode cc_Pr_init 23 = .ok (.new 22, 3) := by decide +kernel
theorem dd_Pr_init_26 : decode cc_Pr_init 26 = .ok (.dup, 1) := by decide +kernel
theorem dd_Pr_init_27 : decode cc_Pr_init 27 = .ok (.iload_n 1, 1) := by decide +kernel
theorem dd_Pr_init_28 : decode cc_Pr_init 28 = .ok (.invokespecial 24, 3) := by decide +kernel
theorem dd_Pr_init_31 : decode cc_Pr_init 31 = .ok (.putfield 27, 3) := by decide +kernel
theorem dd_Pr_init_34 : decode cc_Pr_init 34 = .ok (.return_, 1) := by decide +kernel
theorem dd_Ma_init_0 : decode cc_Ma_init 0 = .ok (.aload_n 0, 1) := by decide +kernel
theorem dd_Ma_init_1 : decode cc_Ma_init 1 = .ok (.invokespecial 3, 3) := by decide +kernel
theorem dd_Ma_init_4 : decode cc_Ma_init 4 = .ok (.aload_n 0, 1) := by decide +kernel
theorem dd_Ma_init_5 : decode cc_Ma_init 5 = .ok (.sipush 512, 3) := by decide +kernel
theorem dd_Ma_init_8 : decode cc_Ma_init 8 = .ok (.newarray .int, 2) := by decide +kernel
theorem dd_Ma_init_10 : decode cc_Ma_init 10 = .ok (.putfield 9, 3) := by decide +kernel
theorem dd_Ma_init_13 : decode cc_Ma_init 13 = .ok (.return_, 1) := by decide +kernel
theorem dd_AL_remove1_0 : decode cc_AL_remove1 0 = .ok (.iload_n 1, 1) := by decide +kernel
theorem dd_AL_remove1_1 : decode cc_AL_remove1 1 = .ok (.aload_n 0, 1) := by decide +kernel
theorem dd_AL_remove1_2 : decode cc_AL_remove1 2 = .ok (.getfield 48, 3) := by decide +kernel
theorem dd_AL_remove1_5 : decode cc_AL_remove1 5 = .ok (.invokestatic 118, 3) := by decide +kernel
theorem dd_AL_remove1_8 : decode cc_AL_remove1 8 = .ok (.pop, 1) := by decide +kernel
theorem dd_AL_remove1_9 : decode cc_AL_remove1 9 = .ok (.aload_n 0, 1) := by decide +kernel
theorem dd_AL_remove1_10 : decode cc_AL_remove1 10 = .ok (.getfield 9, 3) := by decide +kernel
theorem dd_AL_remove1_13 : decode cc_AL_remove1 13 = .ok (.astore_n 2, 1) := by decide +kernel
theorem dd_AL_remove1_14 : decode cc_AL_remove1 14 = .ok (.aload_n 2, 1) := by decide +kernel
theorem dd_AL_remove1_15 : decode cc_AL_remove1 15 = .ok (.iload_n 1, 1) := by decide +kernel
theorem dd_AL_remove1_16 : decode cc_AL_remove1 16 = .ok (.aaload, 1) := by decide +kernel
theorem dd_AL_remove1_17 : decode cc_AL_remove1 17 = .ok (.astore_n 3, 1) := by decide +kernel
theorem dd_AL_remove1_18 : decode cc_AL_remove1 18 = .ok (.aload_n 0, 1) := by decide +kernel
theorem dd_AL_remove1_19 : decode cc_AL_remove1 19 = .ok (.aload_n 2, 1) := by decide +kernel
theorem dd_AL_remove1_20 : decode cc_AL_remove1 20 = .ok (.iload_n 1, 1) := by decide +kernel
theorem dd_AL_remove1_21 : decode cc_AL_remove1 21 = .ok (.invokevirtual 144, 3) := by decide +kernel
theorem dd_AL_remove1_24 : decode cc_AL_remove1 24 = .ok (.aload_n 3, 1) := by decide +kernel
theorem dd_AL_remove1_25 : decode cc_AL_remove1 25 = .ok (.areturn, 1) := by decide +kernel
theorem dd_Ob_checkIndex2_0 : decode cc_Ob_checkIndex2 0 = .ok (.iload_n 0, 1) := by decide +kernel
theorem dd_Ob_checkIndex2_1 : decode cc_Ob_checkIndex2 1 = .ok (.iload_n 1, 1) := by decide +kernel
theorem dd_Ob_checkIndex2_2 : decode cc_Ob_checkIndex2 2 = .ok (.aconst_null, 1) := by decide +kernel
theorem dd_Ob_checkIndex2_3 : decode cc_Ob_checkIndex2 3 = .ok (.invokestatic 105, 3) := by decide +kernel
theorem dd_Ob_checkIndex2_6 : decode cc_Ob_checkIndex2 6 = .ok (.ireturn, 1) := by decide +kernel
theorem dd_Pc_checkIndex3_0 : decode cc_Pc_checkIndex3 0 = .ok (.iload_n 0, 1) := by decide +kernel
theorem dd_Pc_checkIndex3_1 : decode cc_Pc_checkIndex3 1 = .ok (.ifCond .lt 8, 3) := by decide +kernel
theorem dd_Pc_checkIndex3_4 : decode cc_Pc_checkIndex3 4 = .ok (.iload_n 0, 1) := by decide +kernel
theorem dd_Pc_checkIndex3_5 : decode cc_Pc_checkIndex3 5 = .ok (.iload_n 1, 1) := by decide +kernel
theorem dd_Pc_checkIndex3_6 : decode cc_Pc_checkIndex3 6 = .ok (.if_icmp .lt 10, 3) := by decide +kernel
theorem dd_Pc_checkIndex3_9 : decode cc_Pc_checkIndex3 9 = .ok (.aload_n 2, 1) := by decide +kernel
theorem dd_Pc_checkIndex3_10 : decode cc_Pc_checkIndex3 10 = .ok (.iload_n 0, 1) := by decide +kernel
theorem dd_Pc_checkIndex3_11 : decode cc_Pc_checkIndex3 11 = .ok (.iload_n 1, 1) := by decide +kernel
theorem dd_Pc_checkIndex3_12 : decode cc_Pc_checkIndex3 12 = .ok (.invokestatic 95, 3) := by decide +kernel
theorem dd_Pc_checkIndex3_15 : decode cc_Pc_checkIndex3 15 = .ok (.athrow, 1) := by decide +kernel
theorem dd_Pc_checkIndex3_16 : decode cc_Pc_checkIndex3 16 = .ok (.iload_n 0, 1) := by decide +kernel
theorem dd_Pc_checkIndex3_17 : decode cc_Pc_checkIndex3 17 = .ok (.ireturn, 1) := by decide +kernel
theorem dd_AL_fastRemove_0 : decode cc_AL_fastRemove 0 = .ok (.aload_n 0, 1) := by decide +kernel
theorem dd_AL_fastRemove_1 : decode cc_AL_fastRemove 1 = .ok (.dup, 1) := by decide +kernel
theorem dd_AL_fastRemove_2 : decode cc_AL_fastRemove 2 = .ok (.getfield 63, 3) := by decide +kernel
theorem dd_AL_fastRemove_5 : decode cc_AL_fastRemove 5 = .ok (.iconst 1, 1) := by decide +kernel
theorem dd_AL_fastRemove_6 : decode cc_AL_fastRemove 6 = .ok (.iadd, 1) := by decide +kernel
theorem dd_AL_fastRemove_7 : decode cc_AL_fastRemove 7 = .ok (.putfield 63, 3) := by decide +kernel
theorem dd_AL_fastRemove_10 : decode cc_AL_fastRemove 10 = .ok (.aload_n 0, 1) := by decide +kernel
theorem dd_AL_fastRemove_11 : decode cc_AL_fastRemove 11 = .ok (.getfield 48, 3) := by decide +kernel
theorem dd_AL_fastRemove_14 : decode cc_AL_fastRemove 14 = .ok (.iconst 1, 1) := by decide +kernel
theorem dd_AL_fastRemove_15 : decode cc_AL_fastRemove 15 = .ok (.isub, 1) := by decide +kernel
theorem dd_AL_fastRemove_16 : decode cc_AL_fastRemove 16 = .ok (.dup, 1) := by decide +kernel
theorem dd_AL_fastRemove_17 : decode cc_AL_fastRemove 17 = .ok (.istore_n 3, 1) := by decide +kernel
theorem dd_AL_fastRemove_18 : decode cc_AL_fastRemove 18 = .ok (.iload_n 2, 1) := by decide +kernel
theorem dd_AL_fastRemove_19 : decode cc_AL_fastRemove 19 = .ok (.if_icmp .le 15, 3) := by decide +kernel
theorem dd_AL_fastRemove_22 : decode cc_AL_fastRemove 22 = .ok (.aload_n 1, 1) := by decide +kernel
theorem dd_AL_fastRemove_23 : decode cc_AL_fastRemove 23 = .ok (.iload_n 2, 1) := by decide +kernel
theorem dd_AL_fastRemove_24 : decode cc_AL_fastRemove 24 = .ok (.iconst 1, 1) := by decide +kernel
theorem dd_AL_fastRemove_25 : decode cc_AL_fastRemove 25 = .ok (.iadd, 1) := by decide +kernel
theorem dd_AL_fastRemove_26 : decode cc_AL_fastRemove 26 = .ok (.aload_n 1, 1) := by decide +kernel
theorem dd_AL_fastRemove_27 : decode cc_AL_fastRemove 27 = .ok (.iload_n 2, 1) := by decide +kernel
theorem dd_AL_fastRemove_28 : decode cc_AL_fastRemove 28 = .ok (.iload_n 3, 1) := by decide +kernel
theorem dd_AL_fastRemove_29 : decode cc_AL_fastRemove 29 = .ok (.iload_n 2, 1) := by decide +kernel
theorem dd_AL_fastRemove_30 : decode cc_AL_fastRemove 30 = .ok (.isub, 1) := by decide +kernel
theorem dd_AL_fastRemove_31 : decode cc_AL_fastRemove 31 = .ok (.invokestatic 112, 3) := by decide +kernel
theorem dd_AL_fastRemove_34 : decode cc_AL_fastRemove 34 = .ok (.aload_n 1, 1) := by decide +kernel
theorem dd_AL_fastRemove_35 : decode cc_AL_fastRemove 35 = .ok (.aload_n 0, 1) := by decide +kernel
theorem dd_AL_fastRemove_36 : decode cc_AL_fastRemove 36 = .ok (.iload_n 3, 1) := by decide +kernel
theorem dd_AL_fastRemove_37 : decode cc_AL_fastRemove 37 = .ok (.dup_x1, 1) := by decide +kernel
theorem dd_AL_fastRemove_38 : decode cc_AL_fastRemove 38 = .ok (.putfield 48, 3) := by decide +kernel
theorem dd_AL_fastRemove_41 : decode cc_AL_fastRemove 41 = .ok (.aconst_null, 1) := by decide +kernel
theorem dd_AL_fastRemove_42 : decode cc_AL_fastRemove 42 = .ok (.aastore, 1) := by decide +kernel
theorem dd_AL_fastRemove_43 : decode cc_AL_fastRemove 43 = .ok (.return_, 1) := by decide +kernel
theorem dd_Pr_begin_0 : decode cc_Pr_begin 0 = .ok (.aload_n 0, 1) := by decide +kernel
theorem dd_Pr_begin_1 : decode cc_Pr_begin 1 = .ok (.iload_n 1, 1) := by decide +kernel
theorem dd_Pr_begin_2 : decode cc_Pr_begin 2 = .ok (.putfield 31, 3) := by decide +kernel
theorem dd_Pr_begin_5 : decode cc_Pr_begin 5 = .ok (.aload_n 0, 1) := by decide +kernel
theorem dd_Pr_begin_6 : decode cc_Pr_begin 6 = .ok (.bipush 8, 2) := by decide +kernel
theorem dd_Pr_begin_8 : decode cc_Pr_begin 8 = .ok (.putfield 35, 3) := by decide +kernel
theorem dd_Pr_begin_11 : decode cc_Pr_begin 11 = .ok (.aload_n 0, 1) := by decide +kernel
theorem dd_Pr_begin_12 : decode cc_Pr_begin 12 = .ok (.getfield 27, 3) := by decide +kernel
theorem dd_Pr_begin_15 : decode cc_Pr_begin 15 = .ok (.invokevirtual 38, 3) := by decide +kernel
theorem dd_Pr_begin_18 : decode cc_Pr_begin 18 = .ok (.aload_n 0, 1) := by decide +kernel
theorem dd_Pr_begin_19 : decode cc_Pr_begin 19 = .ok (.getfield 9, 3) := by decide +kernel
theorem dd_Pr_begin_22 : decode cc_Pr_begin 22 = .ok (.iconst 0, 1) := by decide +kernel
theorem dd_Pr_begin_23 : decode cc_Pr_begin 23 = .ok (.invokestatic 41, 3) := by decide +kernel
theorem dd_Pr_begin_26 : decode cc_Pr_begin 26 = .ok (.aload_n 0, 1) := by decide +kernel
theorem dd_Pr_begin_27 : decode cc_Pr_begin 27 = .ok (.getfield 18, 3) := by decide +kernel
theorem dd_Pr_begin_30 : decode cc_Pr_begin 30 = .ok (.invokevirtual 47, 3) := by decide +kernel
theorem dd_Pr_begin_33 : decode cc_Pr_begin 33 = .ok (.return_, 1) := by decide +kernel
theorem dd_He_clear_0 : decode cc_He_clear 0 = .ok (.aload_n 0, 1) := by decide +kernel
theorem dd_He_clear_1 : decode cc_He_clear 1 = .ok (.iconst 0, 1) := by decide +kernel
theorem dd_He_clear_2 : decode cc_He_clear 2 = .ok (.putfield 18, 3) := by decide +kernel
theorem dd_He_clear_5 : decode cc_He_clear 5 = .ok (.aload_n 0, 1) := by decide +kernel
theorem dd_He_clear_6 : decode cc_He_clear 6 = .ok (.iconst 0, 1) := by decide +kernel
theorem dd_He_clear_7 : decode cc_He_clear 7 = .ok (.putfield 22, 3) := by decide +kernel
theorem dd_He_clear_10 : decode cc_He_clear 10 = .ok (.return_, 1) := by decide +kernel
theorem dd_Ar_fill_0 : decode cc_Ar_fill 0 = .ok (.iconst 0, 1) := by decide +kernel
theorem dd_Ar_fill_1 : decode cc_Ar_fill 1 = .ok (.istore_n 2, 1) := by decide +kernel
theorem dd_Ar_fill_2 : decode cc_Ar_fill 2 = .ok (.aload_n 0, 1) := by decide +kernel
theorem dd_Ar_fill_3 : decode cc_Ar_fill 3 = .ok (.arraylength, 1) := by decide +kernel
theorem dd_Ar_fill_4 : decode cc_Ar_fill 4 = .ok (.istore_n 3, 1) := by decide +kernel
theorem dd_Ar_fill_5 : decode cc_Ar_fill 5 = .ok (.iload_n 2, 1) := by decide +kernel
theorem dd_Ar_fill_6 : decode cc_Ar_fill 6 = .ok (.iload_n 3, 1) := by decide +kernel
theorem dd_Ar_fill_7 : decode cc_Ar_fill 7 = .ok (.if_icmp .ge 13, 3) := by decide +kernel
theorem dd_Ar_fill_10 : decode cc_Ar_fill 10 = .ok (.aload_n 0, 1) := by decide +kernel
theorem dd_Ar_fill_11 : decode cc_Ar_fill 11 = .ok (.iload_n 2, 1) := by decide +kernel
theorem dd_Ar_fill_12 : decode cc_Ar_fill 12 = .ok (.iload_n 1, 1) := by decide +kernel
theorem dd_Ar_fill_13 : decode cc_Ar_fill 13 = .ok (.iastore, 1) := by decide +kernel
theorem dd_Ar_fill_14 : decode cc_Ar_fill 14 = .ok (.iinc 2 1, 3) := by decide +kernel
theorem dd_Ar_fill_17 : decode cc_Ar_fill 17 = .ok (.goto (-12), 3) := by decide +kernel
theorem dd_Ar_fill_20 : decode cc_Ar_fill 20 = .ok (.return_, 1) := by decide +kernel
theorem dd_Ma_clear_0 : decode cc_Ma_clear 0 = .ok (.aload_n 0, 1) := by decide +kernel
theorem dd_Ma_clear_1 : decode cc_Ma_clear 1 = .ok (.iconst 0, 1) := by decide +kernel
theorem dd_Ma_clear_2 : decode cc_Ma_clear 2 = .ok (.putfield 15, 3) := by decide +kernel
theorem dd_Ma_clear_5 : decode cc_Ma_clear 5 = .ok (.aload_n 0, 1) := by decide +kernel
theorem dd_Ma_clear_6 : decode cc_Ma_clear 6 = .ok (.iconst 0, 1) := by decide +kernel
theorem dd_Ma_clear_7 : decode cc_Ma_clear 7 = .ok (.putfield 19, 3) := by decide +kernel
theorem dd_Ma_clear_10 : decode cc_Ma_clear 10 = .ok (.return_, 1) := by decide +kernel
theorem dd_AL_add1_0 : decode cc_AL_add1 0 = .ok (.aload_n 0, 1) := by decide +kernel
theorem dd_AL_add1_1 : decode cc_AL_add1 1 = .ok (.dup, 1) := by decide +kernel
theorem dd_AL_add1_2 : decode cc_AL_add1 2 = .ok (.getfield 63, 3) := by decide +kernel
theorem dd_AL_add1_5 : decode cc_AL_add1 5 = .ok (.iconst 1, 1) := by decide +kernel
theorem dd_AL_add1_6 : decode cc_AL_add1 6 = .ok (.iadd, 1) := by decide +kernel
theorem dd_AL_add1_7 : decode cc_AL_add1 7 = .ok (.putfield 63, 3) := by decide +kernel
theorem dd_AL_add1_10 : decode cc_AL_add1 10 = .ok (.aload_n 0, 1) := by decide +kernel
theorem dd_AL_add1_11 : decode cc_AL_add1 11 = .ok (.aload_n 1, 1) := by decide +kernel
theorem dd_AL_add1_12 : decode cc_AL_add1 12 = .ok (.aload_n 0, 1) := by decide +kernel
theorem dd_AL_add1_13 : decode cc_AL_add1 13 = .ok (.getfield 9, 3) := by decide +kernel
theorem dd_AL_add1_16 : decode cc_AL_add1 16 = .ok (.aload_n 0, 1) := by decide +kernel
theorem dd_AL_add1_17 : decode cc_AL_add1 17 = .ok (.getfield 48, 3) := by decide +kernel
theorem dd_AL_add1_20 : decode cc_AL_add1 20 = .ok (.invokevirtual 131, 3) := by decide +kernel
theorem dd_AL_add1_23 : decode cc_AL_add1 23 = .ok (.iconst 1, 1) := by decide +kernel
theorem dd_AL_add1_24 : decode cc_AL_add1 24 = .ok (.ireturn, 1) := by decide +kernel
theorem dd_AL_add3_0 : decode cc_AL_add3 0 = .ok (.iload_n 3, 1) := by decide +kernel
theorem dd_AL_add3_1 : decode cc_AL_add3 1 = .ok (.aload_n 2, 1) := by decide +kernel
theorem dd_AL_add3_2 : decode cc_AL_add3 2 = .ok (.arraylength, 1) := by decide +kernel
theorem dd_AL_add3_3 : decode cc_AL_add3 3 = .ok (.if_icmp .ne 8, 3) := by decide +kernel
theorem dd_AL_add3_6 : decode cc_AL_add3 6 = .ok (.aload_n 0, 1) := by decide +kernel
theorem dd_AL_add3_7 : decode cc_AL_add3 7 = .ok (.invokevirtual 129, 3) := by decide +kernel
theorem dd_AL_add3_10 : decode cc_AL_add3 10 = .ok (.astore_n 2, 1) := by decide +kernel
theorem dd_AL_add3_11 : decode cc_AL_add3 11 = .ok (.aload_n 2, 1) := by decide +kernel
theorem dd_AL_add3_12 : decode cc_AL_add3 12 = .ok (.iload_n 3, 1) := by decide +kernel
theorem dd_AL_add3_13 : decode cc_AL_add3 13 = .ok (.aload_n 1, 1) := by decide +kernel
theorem dd_AL_add3_14 : decode cc_AL_add3 14 = .ok (.aastore, 1) := by decide +kernel
theorem dd_AL_add3_15 : decode cc_AL_add3 15 = .ok (.aload_n 0, 1) := by decide +kernel
theorem dd_AL_add3_16 : decode cc_AL_add3 16 = .ok (.iload_n 3, 1) := by decide +kernel
theorem dd_AL_add3_17 : decode cc_AL_add3 17 = .ok (.iconst 1, 1) := by decide +kernel
theorem dd_AL_add3_18 : decode cc_AL_add3 18 = .ok (.iadd, 1) := by decide +kernel
theorem dd_AL_add3_19 : decode cc_AL_add3 19 = .ok (.putfield 48, 3) := by decide +kernel
theorem dd_AL_add3_22 : decode cc_AL_add3 22 = .ok (.return_, 1) := by decide +kernel
theorem dd_AL_grow0_0 : decode cc_AL_grow0 0 = .ok (.aload_n 0, 1) := by decide +kernel
theorem dd_AL_grow0_1 : decode cc_AL_grow0 1 = .ok (.aload_n 0, 1) := by decide +kernel
theorem dd_AL_grow0_2 : decode cc_AL_grow0 2 = .ok (.getfield 48, 3) := by decide +kernel
theorem dd_AL_grow0_5 : decode cc_AL_grow0 5 = .ok (.iconst 1, 1) := by decide +kernel
theorem dd_AL_grow0_6 : decode cc_AL_grow0 6 = .ok (.iadd, 1) := by decide +kernel
theorem dd_AL_grow0_7 : decode cc_AL_grow0 7 = .ok (.invokevirtual 69, 3) := by decide +kernel
theorem dd_AL_grow0_10 : decode cc_AL_grow0 10 = .ok (.areturn, 1) := by decide +kernel
theorem dd_AL_grow1_0 : decode cc_AL_grow1 0 = .ok (.aload_n 0, 1) := by decide +kernel
theorem dd_AL_grow1_1 : decode cc_AL_grow1 1 = .ok (.getfield 9, 3) := by decide +kernel
theorem dd_AL_grow1_4 : decode cc_AL_grow1 4 = .ok (.arraylength, 1) := by decide +kernel
theorem dd_AL_grow1_5 : decode cc_AL_grow1 5 = .ok (.istore_n 2, 1) := by decide +kernel
theorem dd_AL_grow1_6 : decode cc_AL_grow1 6 = .ok (.iload_n 2, 1) := by decide +kernel
theorem dd_AL_grow1_7 : decode cc_AL_grow1 7 = .ok (.ifCond .gt 13, 3) := by decide +kernel
theorem dd_AL_grow1_10 : decode cc_AL_grow1 10 = .ok (.aload_n 0, 1) := by decide +kernel
theorem dd_AL_grow1_11 : decode cc_AL_grow1 11 = .ok (.getfield 9, 3) := by decide +kernel
theorem dd_AL_grow1_14 : decode cc_AL_grow1 14 = .ok (.getstatic 39, 3) := by decide +kernel
theorem dd_AL_grow1_17 : decode cc_AL_grow1 17 = .ok (.if_acmp .eq 28, 3) := by decide +kernel
theorem dd_AL_grow1_20 : decode cc_AL_grow1 20 = .ok (.iload_n 2, 1) := by decide +kernel
theorem dd_AL_grow1_21 : decode cc_AL_grow1 21 = .ok (.iload_n 1, 1) := by decide +kernel
theorem dd_AL_grow1_22 : decode cc_AL_grow1 22 = .ok (.iload_n 2, 1) := by decide +kernel
theorem dd_AL_grow1_23 : decode cc_AL_grow1 23 = .ok (.isub, 1) := by decide +kernel
theorem dd_AL_grow1_24 : decode cc_AL_grow1 24 = .ok (.iload_n 2, 1) := by decide +kernel
theorem dd_AL_grow1_25 : decode cc_AL_grow1 25 = .ok (.iconst 1, 1) := by decide +kernel
theorem dd_AL_grow1_26 : decode cc_AL_grow1 26 = .ok (.ishr, 1) := by decide +kernel
theorem dd_AL_grow1_27 : decode cc_AL_grow1 27 = .ok (.invokestatic 73, 3) := by decide +kernel
theorem dd_AL_grow1_30 : decode cc_AL_grow1 30 = .ok (.istore_n 3, 1) := by decide +kernel
theorem dd_AL_grow1_31 : decode cc_AL_grow1 31 = .ok (.aload_n 0, 1) := by decide +kernel
theorem dd_AL_grow1_32 : decode cc_AL_grow1 32 = .ok (.aload_n 0, 1) := by decide +kernel
theorem dd_AL_grow1_33 : decode cc_AL_grow1 33 = .ok (.getfield 9, 3) := by decide +kernel
theorem dd_AL_grow1_36 : decode cc_AL_grow1 36 = .ok (.iload_n 3, 1) := by decide +kernel
theorem dd_AL_grow1_37 : decode cc_AL_grow1 37 = .ok (.invokestatic 66, 3) := by decide +kernel
theorem dd_AL_grow1_40 : decode cc_AL_grow1 40 = .ok (.dup_x1, 1) := by decide +kernel
theorem dd_AL_grow1_41 : decode cc_AL_grow1 41 = .ok (.putfield 9, 3) := by decide +kernel
theorem dd_AL_grow1_44 : decode cc_AL_grow1 44 = .ok (.areturn, 1) := by decide +kernel
theorem dd_AL_grow1_45 : decode cc_AL_grow1 45 = .ok (.aload_n 0, 1) := by decide +kernel
theorem dd_AL_grow1_46 : decode cc_AL_grow1 46 = .ok (.bipush 10, 2) := by decide +kernel
theorem dd_AL_grow1_48 : decode cc_AL_grow1 48 = .ok (.iload_n 1, 1) := by decide +kernel
theorem dd_AL_grow1_49 : decode cc_AL_grow1 49 = .ok (.invokestatic 79, 3) := by decide +kernel
theorem dd_AL_grow1_52 : decode cc_AL_grow1 52 = .ok (.anewarray 7, 3) := by decide +kernel
theorem dd_AL_grow1_55 : decode cc_AL_grow1 55 = .ok (.dup_x1, 1) := by decide +kernel
theorem dd_AL_grow1_56 : decode cc_AL_grow1 56 = .ok (.putfield 9, 3) := by decide +kernel
theorem dd_AL_grow1_59 : decode cc_AL_grow1 59 = .ok (.areturn, 1) := by decide +kernel
theorem dd_La_exit_0 : decode cc_La_exit 0 = .ok (.aload_n 2, 1) := by decide +kernel
theorem dd_La_exit_1 : decode cc_La_exit 1 = .ok (.iconst 0, 1) := by decide +kernel
theorem dd_La_exit_2 : decode cc_La_exit 2 = .ok (.aload_n 0, 1) := by decide +kernel
theorem dd_La_exit_3 : decode cc_La_exit 3 = .ok (.iload_n 1, 1) := by decide +kernel
theorem dd_La_exit_4 : decode cc_La_exit 4 = .ok (.invokevirtual 15, 3) := by decide +kernel
theorem dd_La_exit_7 : decode cc_La_exit 7 = .ok (.i2l, 1) := by decide +kernel
theorem dd_La_exit_8 : decode cc_La_exit 8 = .ok (.lastore, 1) := by decide +kernel
theorem dd_La_exit_9 : decode cc_La_exit 9 = .ok (.goto 6, 3) := by decide +kernel
theorem dd_La_exit_12 : decode cc_La_exit 12 = .ok (.astore_n 3, 1) := by decide +kernel
theorem dd_La_exit_13 : decode cc_La_exit 13 = .ok (.iconst 1, 1) := by decide +kernel
theorem dd_La_exit_14 : decode cc_La_exit 14 = .ok (.ireturn, 1) := by decide +kernel
theorem dd_La_exit_15 : decode cc_La_exit 15 = .ok (.iconst 0, 1) := by decide +kernel
theorem dd_La_exit_16 : decode cc_La_exit 16 = .ok (.ireturn, 1) := by decide +kernel
theorem dd_CH_exit_0 : decode cc_CH_exit 0 = .ok (.aload_n 0, 1) := by decide +kernel
theorem dd_CH_exit_1 : decode cc_CH_exit 1 = .ok (.iload_n 1, 1) := by decide +kernel
theorem dd_CH_exit_2 : decode cc_CH_exit 2 = .ok (.invokevirtual 93, 3) := by decide +kernel
theorem dd_CH_exit_5 : decode cc_CH_exit 5 = .ok (.astore_n 2, 1) := by decide +kernel
theorem dd_CH_exit_6 : decode cc_CH_exit 6 = .ok (.aload_n 0, 1) := by decide +kernel
theorem dd_CH_exit_7 : decode cc_CH_exit 7 = .ok (.getfield 27, 3) := by decide +kernel
theorem dd_CH_exit_10 : decode cc_CH_exit 10 = .ok (.getfield 66, 3) := by decide +kernel
theorem dd_CH_exit_13 : decode cc_CH_exit 13 = .ok (.istore_n 3, 1) := by decide +kernel
theorem dd_CH_exit_14 : decode cc_CH_exit 14 = .ok (.aload_n 0, 1) := by decide +kernel
theorem dd_CH_exit_15 : decode cc_CH_exit 15 = .ok (.getfield 44, 3) := by decide +kernel
theorem dd_CH_exit_18 : decode cc_CH_exit 18 = .ok (.aload_n 2, 1) := by decide +kernel
theorem dd_CH_exit_19 : decode cc_CH_exit 19 = .ok (.getfield 97, 3) := by decide +kernel
theorem dd_CH_exit_22 : decode cc_CH_exit 22 = .ok (.aload_n 0, 1) := by decide +kernel
theorem dd_CH_exit_23 : decode cc_CH_exit 23 = .ok (.getfield 58, 3) := by decide +kernel
theorem dd_CH_exit_26 : decode cc_CH_exit 26 = .ok (.invokevirtual 100, 3) := by decide +kernel
theorem dd_CH_exit_29 : decode cc_CH_exit 29 = .ok (.aload_n 0, 1) := by decide +kernel
theorem dd_CH_exit_30 : decode cc_CH_exit 30 = .ok (.getfield 44, 3) := by decide +kernel
theorem dd_CH_exit_33 : decode cc_CH_exit 33 = .ok (.aload_n 0, 1) := by decide +kernel
theorem dd_CH_exit_34 : decode cc_CH_exit 34 = .ok (.getfield 27, 3) := by decide +kernel
theorem dd_CH_exit_37 : decode cc_CH_exit 37 = .ok (.invokevirtual 104, 3) := by decide +kernel
theorem dd_CH_exit_40 : decode cc_CH_exit 40 = .ok (.aload_n 0, 1) := by decide +kernel
theorem dd_CH_exit_41 : decode cc_CH_exit 41 = .ok (.getfield 27, 3) := by decide +kernel
theorem dd_CH_exit_44 : decode cc_CH_exit 44 = .ok (.dup, 1) := by decide +kernel
theorem dd_CH_exit_45 : decode cc_CH_exit 45 = .ok (.getfield 66, 3) := by decide +kernel
theorem dd_CH_exit_48 : decode cc_CH_exit 48 = .ok (.aload_n 2, 1) := by decide +kernel
theorem dd_CH_exit_49 : decode cc_CH_exit 49 = .ok (.getfield 108, 3) := by decide +kernel
theorem dd_CH_exit_52 : decode cc_CH_exit 52 = .ok (.iadd, 1) := by decide +kernel
theorem dd_CH_exit_53 : decode cc_CH_exit 53 = .ok (.putfield 66, 3) := by decide +kernel
theorem dd_CH_exit_56 : decode cc_CH_exit 56 = .ok (.aload_n 0, 1) := by decide +kernel
theorem dd_CH_exit_57 : decode cc_CH_exit 57 = .ok (.getfield 34, 3) := by decide +kernel
theorem dd_CH_exit_60 : decode cc_CH_exit 60 = .ok (.aload_n 0, 1) := by decide +kernel
theorem dd_CH_exit_61 : decode cc_CH_exit 61 = .ok (.iload_n 1, 1) := by decide +kernel
theorem dd_CH_exit_62 : decode cc_CH_exit 62 = .ok (.invokevirtual 111, 3) := by decide +kernel
theorem dd_CH_exit_65 : decode cc_CH_exit 65 = .ok (.invokevirtual 79, 3) := by decide +kernel
theorem dd_CH_exit_68 : decode cc_CH_exit 68 = .ok (.pop, 1) := by decide +kernel
theorem dd_CH_exit_69 : decode cc_CH_exit 69 = .ok (.aload_n 0, 1) := by decide +kernel
theorem dd_CH_exit_70 : decode cc_CH_exit 70 = .ok (.getfield 38, 3) := by decide +kernel
theorem dd_CH_exit_73 : decode cc_CH_exit 73 = .ok (.aload_n 2, 1) := by decide +kernel
theorem dd_CH_exit_74 : decode cc_CH_exit 74 = .ok (.invokevirtual 89, 3) := by decide +kernel
theorem dd_CH_exit_77 : decode cc_CH_exit 77 = .ok (.pop, 1) := by decide +kernel
theorem dd_CH_exit_78 : decode cc_CH_exit 78 = .ok (.aload_n 0, 1) := by decide +kernel
theorem dd_CH_exit_79 : decode cc_CH_exit 79 = .ok (.getfield 27, 3) := by decide +kernel
theorem dd_CH_exit_82 : decode cc_CH_exit 82 = .ok (.getfield 66, 3) := by decide +kernel
theorem dd_CH_exit_85 : decode cc_CH_exit 85 = .ok (.iload_n 3, 1) := by decide +kernel
theorem dd_CH_exit_86 : decode cc_CH_exit 86 = .ok (.isub, 1) := by decide +kernel
theorem dd_CH_exit_87 : decode cc_CH_exit 87 = .ok (.ireturn, 1) := by decide +kernel
theorem dd_CH_living1_0 : decode cc_CH_living1 0 = .ok (.aload_n 0, 1) := by decide +kernel
theorem dd_CH_living1_1 : decode cc_CH_living1 1 = .ok (.iload_n 1, 1) := by decide +kernel
theorem dd_CH_living1_2 : decode cc_CH_living1 2 = .ok (.invokevirtual 111, 3) := by decide +kernel
theorem dd_CH_living1_5 : decode cc_CH_living1 5 = .ok (.istore_n 2, 1) := by decide +kernel
theorem dd_CH_living1_6 : decode cc_CH_living1 6 = .ok (.iload_n 2, 1) := by decide +kernel
theorem dd_CH_living1_7 : decode cc_CH_living1 7 = .ok (.ifCond .ge 11, 3) := by decide +kernel
theorem dd_CH_living1_10 : decode cc_CH_living1 10 = .ok (.new 228, 3) := by decide +kernel
theorem dd_CH_living1_13 : decode cc_CH_living1 13 = .ok (.dup, 1) := by decide +kernel
theorem dd_CH_living1_14 : decode cc_CH_living1 14 = .ok (.invokespecial 230, 3) := by decide +kernel
theorem dd_CH_living1_17 : decode cc_CH_living1 17 = .ok (.athrow, 1) := by decide +kernel
theorem dd_CH_living1_18 : decode cc_CH_living1 18 = .ok (.aload_n 0, 1) := by decide +kernel
theorem dd_CH_living1_19 : decode cc_CH_living1 19 = .ok (.getfield 34, 3) := by decide +kernel
theorem dd_CH_living1_22 : decode cc_CH_living1 22 = .ok (.iload_n 2, 1) := by decide +kernel
theorem dd_CH_living1_23 : decode cc_CH_living1 23 = .ok (.invokevirtual 162, 3) := by decide +kernel
theorem dd_CH_living1_26 : decode cc_CH_living1 26 = .ok (.checkcast 76, 3) := by decide +kernel
theorem dd_CH_living1_29 : decode cc_CH_living1 29 = .ok (.areturn, 1) := by decide +kernel
theorem dd_CH_placeOf_0 : decode cc_CH_placeOf 0 = .ok (.iconst 0, 1) := by decide +kernel
theorem dd_CH_placeOf_1 : decode cc_CH_placeOf 1 = .ok (.istore_n 2, 1) := by decide +kernel
theorem dd_CH_placeOf_2 : decode cc_CH_placeOf 2 = .ok (.iload_n 2, 1) := by decide +kernel
theorem dd_CH_placeOf_3 : decode cc_CH_placeOf 3 = .ok (.aload_n 0, 1) := by decide +kernel
theorem dd_CH_placeOf_4 : decode cc_CH_placeOf 4 = .ok (.getfield 34, 3) := by decide +kernel
theorem dd_CH_placeOf_7 : decode cc_CH_placeOf 7 = .ok (.invokevirtual 62, 3) := by decide +kernel
theorem dd_CH_placeOf_10 : decode cc_CH_placeOf 10 = .ok (.if_icmp .ge 29, 3) := by decide +kernel
theorem dd_CH_placeOf_13 : decode cc_CH_placeOf 13 = .ok (.aload_n 0, 1) := by decide +kernel
theorem dd_CH_placeOf_14 : decode cc_CH_placeOf 14 = .ok (.getfield 34, 3) := by decide +kernel
theorem dd_CH_placeOf_17 : decode cc_CH_placeOf 17 = .ok (.iload_n 2, 1) := by decide +kernel
theorem dd_CH_placeOf_18 : decode cc_CH_placeOf 18 = .ok (.invokevirtual 162, 3) := by decide +kernel
theorem dd_CH_placeOf_21 : decode cc_CH_placeOf 21 = .ok (.checkcast 76, 3) := by decide +kernel
theorem dd_CH_placeOf_24 : decode cc_CH_placeOf 24 = .ok (.getfield 225, 3) := by decide +kernel
theorem dd_CH_placeOf_27 : decode cc_CH_placeOf 27 = .ok (.iload_n 1, 1) := by decide +kernel
theorem dd_CH_placeOf_28 : decode cc_CH_placeOf 28 = .ok (.if_icmp .ne 5, 3) := by decide +kernel
theorem dd_CH_placeOf_31 : decode cc_CH_placeOf 31 = .ok (.iload_n 2, 1) := by decide +kernel
theorem dd_CH_placeOf_32 : decode cc_CH_placeOf 32 = .ok (.ireturn, 1) := by decide +kernel
theorem dd_CH_placeOf_33 : decode cc_CH_placeOf 33 = .ok (.iinc 2 1, 3) := by decide +kernel
theorem dd_CH_placeOf_36 : decode cc_CH_placeOf 36 = .ok (.goto (-34), 3) := by decide +kernel
theorem dd_CH_placeOf_39 : decode cc_CH_placeOf 39 = .ok (.iconst (-1), 1) := by decide +kernel
theorem dd_CH_placeOf_40 : decode cc_CH_placeOf 40 = .ok (.ireturn, 1) := by decide +kernel
theorem dd_AL_get_0 : decode cc_AL_get 0 = .ok (.iload_n 1, 1) := by decide +kernel
theorem dd_AL_get_1 : decode cc_AL_get 1 = .ok (.aload_n 0, 1) := by decide +kernel
theorem dd_AL_get_2 : decode cc_AL_get 2 = .ok (.getfield 48, 3) := by decide +kernel
theorem dd_AL_get_5 : decode cc_AL_get 5 = .ok (.invokestatic 118, 3) := by decide +kernel
theorem dd_AL_get_8 : decode cc_AL_get 8 = .ok (.pop, 1) := by decide +kernel
theorem dd_AL_get_9 : decode cc_AL_get 9 = .ok (.aload_n 0, 1) := by decide +kernel
theorem dd_AL_get_10 : decode cc_AL_get 10 = .ok (.iload_n 1, 1) := by decide +kernel
theorem dd_AL_get_11 : decode cc_AL_get 11 = .ok (.invokevirtual 123, 3) := by decide +kernel
theorem dd_AL_get_14 : decode cc_AL_get 14 = .ok (.areturn, 1) := by decide +kernel
theorem dd_AL_elementData_0 : decode cc_AL_elementData 0 = .ok (.aload_n 0, 1) := by decide +kernel
theorem dd_AL_elementData_1 : decode cc_AL_elementData 1 = .ok (.getfield 9, 3) := by decide +kernel
theorem dd_AL_elementData_4 : decode cc_AL_elementData 4 = .ok (.iload_n 1, 1) := by decide +kernel
theorem dd_AL_elementData_5 : decode cc_AL_elementData 5 = .ok (.aaload, 1) := by decide +kernel
theorem dd_AL_elementData_6 : decode cc_AL_elementData 6 = .ok (.areturn, 1) := by decide +kernel
theorem dd_Ca_start_0 : decode cc_Ca_start 0 = .ok (.aload_n 0, 1) := by decide +kernel
theorem dd_Ca_start_1 : decode cc_Ca_start 1 = .ok (.aload_n 1, 1) := by decide +kernel
theorem dd_Ca_start_2 : decode cc_Ca_start 2 = .ok (.putfield 15, 3) := by decide +kernel
theorem dd_Ca_start_5 : decode cc_Ca_start 5 = .ok (.aload_n 0, 1) := by decide +kernel
theorem dd_Ca_start_6 : decode cc_Ca_start 6 = .ok (.aload_n 2, 1) := by decide +kernel
theorem dd_Ca_start_7 : decode cc_Ca_start 7 = .ok (.putfield 19, 3) := by decide +kernel
theorem dd_Ca_start_10 : decode cc_Ca_start 10 = .ok (.aload_n 0, 1) := by decide +kernel
theorem dd_Ca_start_11 : decode cc_Ca_start 11 = .ok (.aload_n 2, 1) := by decide +kernel
theorem dd_Ca_start_12 : decode cc_Ca_start 12 = .ok (.getfield 22, 3) := by decide +kernel
theorem dd_Ca_start_15 : decode cc_Ca_start 15 = .ok (.putfield 28, 3) := by decide +kernel
theorem dd_Ca_start_18 : decode cc_Ca_start 18 = .ok (.aload_n 0, 1) := by decide +kernel
theorem dd_Ca_start_19 : decode cc_Ca_start 19 = .ok (.getfield 9, 3) := by decide +kernel
theorem dd_Ca_start_22 : decode cc_Ca_start 22 = .ok (.iconst 0, 1) := by decide +kernel
theorem dd_Ca_start_23 : decode cc_Ca_start 23 = .ok (.invokestatic 31, 3) := by decide +kernel
theorem dd_Ca_start_26 : decode cc_Ca_start 26 = .ok (.return_, 1) := by decide +kernel
theorem dd_Ca_dropHandlesLeftBehind_0 : decode cc_Ca_dropHandlesLeftBehind 0 = .ok (.iconst 0, 1) := by decide +kernel
theorem dd_Ca_dropHandlesLeftBehind_1 : decode cc_Ca_dropHandlesLeftBehind 1 = .ok (.istore_n 2, 1) := by decide +kernel
theorem dd_Ca_dropHandlesLeftBehind_2 : decode cc_Ca_dropHandlesLeftBehind 2 = .ok (.iload_n 2, 1) := by decide +kernel
theorem dd_Ca_dropHandlesLeftBehind_3 : decode cc_Ca_dropHandlesLeftBehind 3 = .ok (.aload_n 0, 1) := by decide +kernel
theorem dd_Ca_dropHandlesLeftBehind_4 : decode cc_Ca_dropHandlesLeftBehind 4 = .ok (.getfield 15, 3) := by decide +kernel
theorem dd_Ca_dropHandlesLeftBehind_7 : decode cc_Ca_dropHandlesLeftBehind 7 = .ok (.getfield 22, 3) := by decide +kernel
theorem dd_Ca_dropHandlesLeftBehind_10 : decode cc_Ca_dropHandlesLeftBehind 10 = .ok (.if_icmp .ge 51, 3) := by decide +kernel
theorem dd_Ca_dropHandlesLeftBehind_13 : decode cc_Ca_dropHandlesLeftBehind 13 = .ok (.aload_n 0, 1) := by decide +kernel
theorem dd_Ca_dropHandlesLeftBehind_14 : decode cc_Ca_dropHandlesLeftBehind 14 = .ok (.getfield 15, 3) := by decide +kernel
theorem dd_Ca_dropHandlesLeftBehind_17 : decode cc_Ca_dropHandlesLeftBehind 17 = .ok (.getfield 49, 3) := by decide +kernel
theorem dd_Ca_dropHandlesLeftBehind_20 : decode cc_Ca_dropHandlesLeftBehind 20 = .ok (.iload_n 2, 1) := by decide +kernel
theorem dd_Ca_dropHandlesLeftBehind_21 : decode cc_Ca_dropHandlesLeftBehind 21 = .ok (.iaload, 1) := by decide +kernel
theorem dd_Ca_dropHandlesLeftBehind_22 : decode cc_Ca_dropHandlesLeftBehind 22 = .ok (.istore_n 3, 1) := by decide +kernel
theorem dd_Ca_dropHandlesLeftBehind_23 : decode cc_Ca_dropHandlesLeftBehind 23 = .ok (.iload_n 3, 1) := by decide +kernel
theorem dd_Ca_dropHandlesLeftBehind_24 : decode cc_Ca_dropHandlesLeftBehind 24 = .ok (.invokestatic 66, 3) := by decide +kernel
theorem dd_Ca_dropHandlesLeftBehind_27 : decode cc_Ca_dropHandlesLeftBehind 27 = .ok (.iconst 5, 1) := by decide +kernel
theorem dd_Ca_dropHandlesLeftBehind_28 : decode cc_Ca_dropHandlesLeftBehind 28 = .ok (.if_icmp .ne 27, 3) := by decide +kernel
theorem dd_Ca_dropHandlesLeftBehind_31 : decode cc_Ca_dropHandlesLeftBehind 31 = .ok (.aload_n 0, 1) := by decide +kernel
theorem dd_Ca_dropHandlesLeftBehind_32 : decode cc_Ca_dropHandlesLeftBehind 32 = .ok (.getfield 9, 3) := by decide +kernel
theorem dd_Ca_dropHandlesLeftBehind_35 : decode cc_Ca_dropHandlesLeftBehind 35 = .ok (.iload_n 3, 1) := by decide +kernel
theorem dd_Ca_dropHandlesLeftBehind_36 : decode cc_Ca_dropHandlesLeftBehind 36 = .ok (.invokestatic 41, 3) := by decide +kernel
theorem dd_Ca_dropHandlesLeftBehind_39 : decode cc_Ca_dropHandlesLeftBehind 39 = .ok (.iaload, 1) := by decide +kernel
theorem dd_Ca_dropHandlesLeftBehind_40 : decode cc_Ca_dropHandlesLeftBehind 40 = .ok (.ifCond .ne 15, 3) := by decide +kernel
theorem dd_Ca_dropHandlesLeftBehind_43 : decode cc_Ca_dropHandlesLeftBehind 43 = .ok (.aload_n 1, 1) := by decide +kernel
theorem dd_Ca_dropHandlesLeftBehind_44 : decode cc_Ca_dropHandlesLeftBehind 44 = .ok (.aload_n 0, 1) := by decide +kernel
theorem dd_Ca_dropHandlesLeftBehind_45 : decode cc_Ca_dropHandlesLeftBehind 45 = .ok (.getfield 15, 3) := by decide +kernel
theorem dd_Ca_dropHandlesLeftBehind_48 : decode cc_Ca_dropHandlesLeftBehind 48 = .ok (.iload_n 3, 1) := by decide +kernel
theorem dd_Ca_dropHandlesLeftBehind_49 : decode cc_Ca_dropHandlesLeftBehind 49 = .ok (.invokevirtual 69, 3) := by decide +kernel
theorem dd_Ca_dropHandlesLeftBehind_52 : decode cc_Ca_dropHandlesLeftBehind 52 = .ok (.invokevirtual 78, 3) := by decide +kernel
theorem dd_Ca_dropHandlesLeftBehind_55 : decode cc_Ca_dropHandlesLeftBehind 55 = .ok (.iinc 2 1, 3) := by decide +kernel
theorem dd_Ca_dropHandlesLeftBehind_58 : decode cc_Ca_dropHandlesLeftBehind 58 = .ok (.goto (-56), 3) := by decide +kernel
theorem dd_Ca_dropHandlesLeftBehind_61 : decode cc_Ca_dropHandlesLeftBehind 61 = .ok (.return_, 1) := by decide +kernel
theorem dd_CH_kindOf_0 : decode cc_CH_kindOf 0 = .ok (.iload_n 0, 1) := by decide +kernel
theorem dd_CH_kindOf_1 : decode cc_CH_kindOf 1 = .ok (.bipush 7, 2) := by decide +kernel
theorem dd_CH_kindOf_3 : decode cc_CH_kindOf 3 = .ok (.iand, 1) := by decide +kernel
theorem dd_CH_kindOf_4 : decode cc_CH_kindOf 4 = .ok (.ireturn, 1) := by decide +kernel
theorem dd_CH_contentOf_0 : decode cc_CH_contentOf 0 = .ok (.iload_n 0, 1) := by decide +kernel
theorem dd_CH_contentOf_1 : decode cc_CH_contentOf 1 = .ok (.iconst 3, 1) := by decide +kernel
theorem dd_CH_contentOf_2 : decode cc_CH_contentOf 2 = .ok (.ishr, 1) := by decide +kernel
theorem dd_CH_contentOf_3 : decode cc_CH_contentOf 3 = .ok (.ireturn, 1) := by decide +kernel
theorem dd_He_blobOf_0 : decode cc_He_blobOf 0 = .ok (.aload_n 0, 1) := by decide +kernel
theorem dd_He_blobOf_1 : decode cc_He_blobOf 1 = .ok (.getfield 15, 3) := by decide +kernel
theorem dd_He_blobOf_4 : decode cc_He_blobOf 4 = .ok (.iload_n 1, 1) := by decide +kernel
theorem dd_He_blobOf_5 : decode cc_He_blobOf 5 = .ok (.invokestatic 32, 3) := by decide +kernel
theorem dd_He_blobOf_8 : decode cc_He_blobOf 8 = .ok (.iaload, 1) := by decide +kernel
theorem dd_He_blobOf_9 : decode cc_He_blobOf 9 = .ok (.ireturn, 1) := by decide +kernel
theorem dd_Po_dropHandle_0 : decode cc_Po_dropHandle 0 = .ok (.aload_n 0, 1) := by decide +kernel
theorem dd_Po_dropHandle_1 : decode cc_Po_dropHandle 1 = .ok (.getfield 15, 3) := by decide +kernel
theorem dd_Po_dropHandle_4 : decode cc_Po_dropHandle 4 = .ok (.iload_n 1, 1) := by decide +kernel
theorem dd_Po_dropHandle_5 : decode cc_Po_dropHandle 5 = .ok (.dup2, 1) := by decide +kernel
theorem dd_Po_dropHandle_6 : decode cc_Po_dropHandle 6 = .ok (.iaload, 1) := by decide +kernel
theorem dd_Po_dropHandle_7 : decode cc_Po_dropHandle 7 = .ok (.iconst 1, 1) := by decide +kernel
theorem dd_Po_dropHandle_8 : decode cc_Po_dropHandle 8 = .ok (.isub, 1) := by decide +kernel
theorem dd_Po_dropHandle_9 : decode cc_Po_dropHandle 9 = .ok (.iastore, 1) := by decide +kernel
theorem dd_Po_dropHandle_10 : decode cc_Po_dropHandle 10 = .ok (.aload_n 0, 1) := by decide +kernel
theorem dd_Po_dropHandle_11 : decode cc_Po_dropHandle 11 = .ok (.getfield 15, 3) := by decide +kernel
theorem dd_Po_dropHandle_14 : decode cc_Po_dropHandle 14 = .ok (.iload_n 1, 1) := by decide +kernel
theorem dd_Po_dropHandle_15 : decode cc_Po_dropHandle 15 = .ok (.iaload, 1) := by decide +kernel
theorem dd_Po_dropHandle_16 : decode cc_Po_dropHandle 16 = .ok (.ifCond .ne 28, 3) := by decide +kernel
theorem dd_Po_dropHandle_19 : decode cc_Po_dropHandle 19 = .ok (.aload_n 0, 1) := by decide +kernel
theorem dd_Po_dropHandle_20 : decode cc_Po_dropHandle 20 = .ok (.dup, 1) := by decide +kernel
theorem dd_Po_dropHandle_21 : decode cc_Po_dropHandle 21 = .ok (.getfield 18, 3) := by decide +kernel
theorem dd_Po_dropHandle_24 : decode cc_Po_dropHandle 24 = .ok (.aload_n 0, 1) := by decide +kernel
theorem dd_Po_dropHandle_25 : decode cc_Po_dropHandle 25 = .ok (.getfield 9, 3) := by decide +kernel
theorem dd_Po_dropHandle_28 : decode cc_Po_dropHandle 28 = .ok (.iload_n 1, 1) := by decide +kernel
theorem dd_Po_dropHandle_29 : decode cc_Po_dropHandle 29 = .ok (.iaload, 1) := by decide +kernel
theorem dd_Po_dropHandle_30 : decode cc_Po_dropHandle 30 = .ok (.iadd, 1) := by decide +kernel
theorem dd_Po_dropHandle_31 : decode cc_Po_dropHandle 31 = .ok (.putfield 18, 3) := by decide +kernel
theorem dd_Po_dropHandle_34 : decode cc_Po_dropHandle 34 = .ok (.aload_n 0, 1) := by decide +kernel
theorem dd_Po_dropHandle_35 : decode cc_Po_dropHandle 35 = .ok (.dup, 1) := by decide +kernel
theorem dd_Po_dropHandle_36 : decode cc_Po_dropHandle 36 = .ok (.getfield 22, 3) := by decide +kernel
theorem dd_Po_dropHandle_39 : decode cc_Po_dropHandle 39 = .ok (.iconst 1, 1) := by decide +kernel
theorem dd_Po_dropHandle_40 : decode cc_Po_dropHandle 40 = .ok (.isub, 1) := by decide +kernel
theorem dd_Po_dropHandle_41 : decode cc_Po_dropHandle 41 = .ok (.putfield 22, 3) := by decide +kernel
theorem dd_Po_dropHandle_44 : decode cc_Po_dropHandle 44 = .ok (.return_, 1) := by decide +kernel
theorem dd_La_nil_0 : decode cc_La_nil 0 = .ok (.aload_n 0, 1) := by decide +kernel
theorem dd_La_nil_1 : decode cc_La_nil 1 = .ok (.iload_n 1, 1) := by decide +kernel
theorem dd_La_nil_2 : decode cc_La_nil 2 = .ok (.iload_n 2, 1) := by decide +kernel
theorem dd_La_nil_3 : decode cc_La_nil 3 = .ok (.invokevirtual 21, 3) := by decide +kernel
theorem dd_La_nil_6 : decode cc_La_nil 6 = .ok (.goto 6, 3) := by decide +kernel
theorem dd_La_nil_9 : decode cc_La_nil 9 = .ok (.astore_n 3, 1) := by decide +kernel
theorem dd_La_nil_10 : decode cc_La_nil 10 = .ok (.iconst 1, 1) := by decide +kernel
theorem dd_La_nil_11 : decode cc_La_nil 11 = .ok (.ireturn, 1) := by decide +kernel
theorem dd_La_nil_12 : decode cc_La_nil 12 = .ok (.iconst 0, 1) := by decide +kernel
theorem dd_La_nil_13 : decode cc_La_nil 13 = .ok (.ireturn, 1) := by decide +kernel
theorem dd_CH_nil_0 : decode cc_CH_nil 0 = .ok (.aload_n 0, 1) := by decide +kernel
theorem dd_CH_nil_1 : decode cc_CH_nil 1 = .ok (.iload_n 1, 1) := by decide +kernel
theorem dd_CH_nil_2 : decode cc_CH_nil 2 = .ok (.iload_n 2, 1) := by decide +kernel
theorem dd_CH_nil_3 : decode cc_CH_nil 3 = .ok (.invokevirtual 115, 3) := by decide +kernel
theorem dd_CH_nil_6 : decode cc_CH_nil 6 = .ok (.getfield 118, 3) := by decide +kernel
theorem dd_CH_nil_9 : decode cc_CH_nil 9 = .ok (.iload_n 2, 1) := by decide +kernel
theorem dd_CH_nil_10 : decode cc_CH_nil 10 = .ok (.iconst 0, 1) := by decide +kernel
theorem dd_CH_nil_11 : decode cc_CH_nil 11 = .ok (.iastore, 1) := by decide +kernel
theorem dd_CH_nil_12 : decode cc_CH_nil 12 = .ok (.return_, 1) := by decide +kernel
theorem dd_CH_living2_0 : decode cc_CH_living2 0 = .ok (.iload_n 2, 1) := by decide +kernel
theorem dd_CH_living2_1 : decode cc_CH_living2 1 = .ok (.invokestatic 130, 3) := by decide +kernel
theorem dd_CH_living2_4 : decode cc_CH_living2 4 = .ok (.aload_n 0, 1) := by decide +kernel
theorem dd_CH_living2_5 : decode cc_CH_living2 5 = .ok (.iload_n 1, 1) := by decide +kernel
theorem dd_CH_living2_6 : decode cc_CH_living2 6 = .ok (.invokevirtual 93, 3) := by decide +kernel
theorem dd_CH_living2_9 : decode cc_CH_living2 9 = .ok (.areturn, 1) := by decide +kernel
theorem dd_CH_checkRegister_0 : decode cc_CH_checkRegister 0 = .ok (.iload_n 0, 1) := by decide +kernel
theorem dd_CH_checkRegister_1 : decode cc_CH_checkRegister 1 = .ok (.ifCond .lt 8, 3) := by decide +kernel
theorem dd_CH_checkRegister_4 : decode cc_CH_checkRegister 4 = .ok (.iload_n 0, 1) := by decide +kernel
theorem dd_CH_checkRegister_5 : decode cc_CH_checkRegister 5 = .ok (.iconst 4, 1) := by decide +kernel
theorem dd_CH_checkRegister_6 : decode cc_CH_checkRegister 6 = .ok (.if_icmp .lt 11, 3) := by decide +kernel
theorem dd_CH_checkRegister_9 : decode cc_CH_checkRegister 9 = .ok (.new 228, 3) := by decide +kernel
theorem dd_CH_checkRegister_12 : decode cc_CH_checkRegister 12 = .ok (.dup, 1) := by decide +kernel
theorem dd_CH_checkRegister_13 : decode cc_CH_checkRegister 13 = .ok (.invokespecial 230, 3) := by decide +kernel
theorem dd_CH_checkRegister_16 : decode cc_CH_checkRegister 16 = .ok (.athrow, 1) := by decide +kernel
theorem dd_CH_checkRegister_17 : decode cc_CH_checkRegister 17 = .ok (.return_, 1) := by decide +kernel
theorem dd_La_integer_0 : decode cc_La_integer 0 = .ok (.aload_n 0, 1) := by decide +kernel
theorem dd_La_integer_1 : decode cc_La_integer 1 = .ok (.iload_n 1, 1) := by decide +kernel
theorem dd_La_integer_2 : decode cc_La_integer 2 = .ok (.iload_n 2, 1) := by decide +kernel
theorem dd_La_integer_3 : decode cc_La_integer 3 = .ok (.iload_n 3, 1) := by decide +kernel
theorem dd_La_integer_4 : decode cc_La_integer 4 = .ok (.invokevirtual 25, 3) := by decide +kernel
theorem dd_La_integer_7 : decode cc_La_integer 7 = .ok (.goto 11, 3) := by decide +kernel
theorem dd_La_integer_10 : decode cc_La_integer 10 = .ok (.astore 4, 2) := by decide +kernel
theorem dd_La_integer_12 : decode cc_La_integer 12 = .ok (.iconst 1, 1) := by decide +kernel
theorem dd_La_integer_13 : decode cc_La_integer 13 = .ok (.ireturn, 1) := by decide +kernel
theorem dd_La_integer_14 : decode cc_La_integer 14 = .ok (.astore 4, 2) := by decide +kernel
theorem dd_La_integer_16 : decode cc_La_integer 16 = .ok (.iconst 2, 1) := by decide +kernel
theorem dd_La_integer_17 : decode cc_La_integer 17 = .ok (.ireturn, 1) := by decide +kernel
theorem dd_La_integer_18 : decode cc_La_integer 18 = .ok (.iconst 0, 1) := by decide +kernel
theorem dd_La_integer_19 : decode cc_La_integer 19 = .ok (.ireturn, 1) := by decide +kernel
theorem dd_CH_integer_0 : decode cc_CH_integer 0 = .ok (.aload_n 0, 1) := by decide +kernel
theorem dd_CH_integer_1 : decode cc_CH_integer 1 = .ok (.iload_n 1, 1) := by decide +kernel
theorem dd_CH_integer_2 : decode cc_CH_integer 2 = .ok (.iload_n 2, 1) := by decide +kernel
theorem dd_CH_integer_3 : decode cc_CH_integer 3 = .ok (.invokevirtual 115, 3) := by decide +kernel
theorem dd_CH_integer_6 : decode cc_CH_integer 6 = .ok (.astore 4, 2) := by decide +kernel
theorem dd_CH_integer_8 : decode cc_CH_integer 8 = .ok (.iload_n 3, 1) := by decide +kernel
theorem dd_CH_integer_9 : decode cc_CH_integer 9 = .ok (.ldc 122, 2) := by decide +kernel
theorem dd_CH_integer_11 : decode cc_CH_integer 11 = .ok (.if_icmp .lt 9, 3) := by decide +kernel
theorem dd_CH_integer_14 : decode cc_CH_integer 14 = .ok (.iload_n 3, 1) := by decide +kernel
theorem dd_CH_integer_15 : decode cc_CH_integer 15 = .ok (.ldc 123, 2) := by decide +kernel
theorem dd_CH_integer_17 : decode cc_CH_integer 17 = .ok (.if_icmp .le 11, 3) := by decide +kernel
theorem dd_CH_integer_20 : decode cc_CH_integer 20 = .ok (.new 124, 3) := by decide +kernel
theorem dd_CH_integer_23 : decode cc_CH_integer 23 = .ok (.dup, 1) := by decide +kernel
theorem dd_CH_integer_24 : decode cc_CH_integer 24 = .ok (.invokespecial 126, 3) := by decide +kernel
theorem dd_CH_integer_27 : decode cc_CH_integer 27 = .ok (.athrow, 1) := by decide +kernel
theorem dd_CH_integer_28 : decode cc_CH_integer 28 = .ok (.aload 4, 2) := by decide +kernel
theorem dd_CH_integer_30 : decode cc_CH_integer 30 = .ok (.getfield 118, 3) := by decide +kernel
theorem dd_CH_integer_33 : decode cc_CH_integer 33 = .ok (.iload_n 2, 1) := by decide +kernel
theorem dd_CH_integer_34 : decode cc_CH_integer 34 = .ok (.iconst 1, 1) := by decide +kernel
theorem dd_CH_integer_35 : decode cc_CH_integer 35 = .ok (.iload_n 3, 1) := by decide +kernel
theorem dd_CH_integer_36 : decode cc_CH_integer 36 = .ok (.invokestatic 127, 3) := by decide +kernel
theorem dd_CH_integer_39 : decode cc_CH_integer 39 = .ok (.iastore, 1) := by decide +kernel
theorem dd_CH_integer_40 : decode cc_CH_integer 40 = .ok (.return_, 1) := by decide +kernel
theorem dd_CH_termOf_0 : decode cc_CH_termOf 0 = .ok (.iload_n 1, 1) := by decide +kernel
theorem dd_CH_termOf_1 : decode cc_CH_termOf 1 = .ok (.iconst 3, 1) := by decide +kernel
theorem dd_CH_termOf_2 : decode cc_CH_termOf 2 = .ok (.ishl, 1) := by decide +kernel
theorem dd_CH_termOf_3 : decode cc_CH_termOf 3 = .ok (.iload_n 0, 1) := by decide +kernel
theorem dd_CH_termOf_4 : decode cc_CH_termOf 4 = .ok (.ior, 1) := by decide +kernel
theorem dd_CH_termOf_5 : decode cc_CH_termOf 5 = .ok (.ireturn, 1) := by decide +kernel
theorem dd_La_name_0 : decode cc_La_name 0 = .ok (.aload_n 0, 1) := by decide +kernel
theorem dd_La_name_1 : decode cc_La_name 1 = .ok (.iload_n 1, 1) := by decide +kernel
theorem dd_La_name_2 : decode cc_La_name 2 = .ok (.iload_n 2, 1) := by decide +kernel
theorem dd_La_name_3 : decode cc_La_name 3 = .ok (.iload_n 3, 1) := by decide +kernel
theorem dd_La_name_4 : decode cc_La_name 4 = .ok (.invokevirtual 31, 3) := by decide +kernel
theorem dd_La_name_7 : decode cc_La_name 7 = .ok (.goto 11, 3) := by decide +kernel
theorem dd_La_name_10 : decode cc_La_name 10 = .ok (.astore 4, 2) := by decide +kernel
theorem dd_La_name_12 : decode cc_La_name 12 = .ok (.iconst 1, 1) := by decide +kernel
theorem dd_La_name_13 : decode cc_La_name 13 = .ok (.ireturn, 1) := by decide +kernel
theorem dd_La_name_14 : decode cc_La_name 14 = .ok (.astore 4, 2) := by decide +kernel
theorem dd_La_name_16 : decode cc_La_name 16 = .ok (.iconst 2, 1) := by decide +kernel
theorem dd_La_name_17 : decode cc_La_name 17 = .ok (.ireturn, 1) := by decide +kernel
theorem dd_La_name_18 : decode cc_La_name 18 = .ok (.iconst 0, 1) := by decide +kernel
theorem dd_La_name_19 : decode cc_La_name 19 = .ok (.ireturn, 1) := by decide +kernel
theorem dd_CH_name_0 : decode cc_CH_name 0 = .ok (.aload_n 0, 1) := by decide +kernel
theorem dd_CH_name_1 : decode cc_CH_name 1 = .ok (.iload_n 1, 1) := by decide +kernel
theorem dd_CH_name_2 : decode cc_CH_name 2 = .ok (.iload_n 2, 1) := by decide +kernel
theorem dd_CH_name_3 : decode cc_CH_name 3 = .ok (.invokevirtual 115, 3) := by decide +kernel
theorem dd_CH_name_6 : decode cc_CH_name 6 = .ok (.astore 4, 2) := by decide +kernel
theorem dd_CH_name_8 : decode cc_CH_name 8 = .ok (.iload_n 3, 1) := by decide +kernel
theorem dd_CH_name_9 : decode cc_CH_name 9 = .ok (.iconst 1, 1) := by decide +kernel
theorem dd_CH_name_10 : decode cc_CH_name 10 = .ok (.if_icmp .lt 11, 3) := by decide +kernel
theorem dd_CH_name_13 : decode cc_CH_name 13 = .ok (.iload_n 3, 1) := by decide +kernel
theorem dd_CH_name_14 : decode cc_CH_name 14 = .ok (.aload_n 0, 1) := by decide +kernel
theorem dd_CH_name_15 : decode cc_CH_name 15 = .ok (.getfield 83, 3) := by decide +kernel
theorem dd_CH_name_18 : decode cc_CH_name 18 = .ok (.if_icmp .le 11, 3) := by decide +kernel
theorem dd_CH_name_21 : decode cc_CH_name 21 = .ok (.new 124, 3) := by decide +kernel
theorem dd_CH_name_24 : decode cc_CH_name 24 = .ok (.dup, 1) := by decide +kernel
theorem dd_CH_name_25 : decode cc_CH_name 25 = .ok (.invokespecial 126, 3) := by decide +kernel
theorem dd_CH_name_28 : decode cc_CH_name 28 = .ok (.athrow, 1) := by decide +kernel
theorem dd_CH_name_29 : decode cc_CH_name 29 = .ok (.aload 4, 2) := by decide +kernel
theorem dd_CH_name_31 : decode cc_CH_name 31 = .ok (.getfield 118, 3) := by decide +kernel
theorem dd_CH_name_34 : decode cc_CH_name 34 = .ok (.iload_n 2, 1) := by decide +kernel
theorem dd_CH_name_35 : decode cc_CH_name 35 = .ok (.iconst 2, 1) := by decide +kernel
theorem dd_CH_name_36 : decode cc_CH_name 36 = .ok (.iload_n 3, 1) := by decide +kernel
theorem dd_CH_name_37 : decode cc_CH_name 37 = .ok (.invokestatic 127, 3) := by decide +kernel
theorem dd_CH_name_40 : decode cc_CH_name 40 = .ok (.iastore, 1) := by decide +kernel
theorem dd_CH_name_41 : decode cc_CH_name 41 = .ok (.return_, 1) := by decide +kernel
theorem dd_La_move_0 : decode cc_La_move 0 = .ok (.aload_n 0, 1) := by decide +kernel
theorem dd_La_move_1 : decode cc_La_move 1 = .ok (.iload_n 1, 1) := by decide +kernel
theorem dd_La_move_2 : decode cc_La_move 2 = .ok (.iload_n 2, 1) := by decide +kernel
theorem dd_La_move_3 : decode cc_La_move 3 = .ok (.iload_n 3, 1) := by decide +kernel
theorem dd_La_move_4 : decode cc_La_move 4 = .ok (.invokevirtual 34, 3) := by decide +kernel
theorem dd_La_move_7 : decode cc_La_move 7 = .ok (.goto 7, 3) := by decide +kernel
theorem dd_La_move_10 : decode cc_La_move 10 = .ok (.astore 4, 2) := by decide +kernel
theorem dd_La_move_12 : decode cc_La_move 12 = .ok (.iconst 1, 1) := by decide +kernel
theorem dd_La_move_13 : decode cc_La_move 13 = .ok (.ireturn, 1) := by decide +kernel
theorem dd_La_move_14 : decode cc_La_move 14 = .ok (.iconst 0, 1) := by decide +kernel
theorem dd_La_move_15 : decode cc_La_move 15 = .ok (.ireturn, 1) := by decide +kernel
theorem dd_CH_move_0 : decode cc_CH_move 0 = .ok (.aload_n 0, 1) := by decide +kernel
theorem dd_CH_move_1 : decode cc_CH_move 1 = .ok (.iload_n 1, 1) := by decide +kernel
theorem dd_CH_move_2 : decode cc_CH_move 2 = .ok (.iload_n 2, 1) := by decide +kernel
theorem dd_CH_move_3 : decode cc_CH_move 3 = .ok (.invokevirtual 115, 3) := by decide +kernel
theorem dd_CH_move_6 : decode cc_CH_move 6 = .ok (.astore 4, 2) := by decide +kernel
theorem dd_CH_move_8 : decode cc_CH_move 8 = .ok (.iload_n 3, 1) := by decide +kernel
theorem dd_CH_move_9 : decode cc_CH_move 9 = .ok (.invokestatic 130, 3) := by decide +kernel
theorem dd_CH_move_12 : decode cc_CH_move 12 = .ok (.aload 4, 2) := by decide +kernel
theorem dd_CH_move_14 : decode cc_CH_move 14 = .ok (.getfield 118, 3) := by decide +kernel
theorem dd_CH_move_17 : decode cc_CH_move 17 = .ok (.iload_n 2, 1) := by decide +kernel
theorem dd_CH_move_18 : decode cc_CH_move 18 = .ok (.aload 4, 2) := by decide +kernel
theorem dd_CH_move_20 : decode cc_CH_move 20 = .ok (.getfield 118, 3) := by decide +kernel
theorem dd_CH_move_23 : decode cc_CH_move 23 = .ok (.iload_n 3, 1) := by decide +kernel
theorem dd_CH_move_24 : decode cc_CH_move 24 = .ok (.iaload, 1) := by decide +kernel
theorem dd_CH_move_25 : decode cc_CH_move 25 = .ok (.iastore, 1) := by decide +kernel
theorem dd_CH_move_26 : decode cc_CH_move 26 = .ok (.return_, 1) := by decide +kernel
theorem dd_La_pair_0 : decode cc_La_pair 0 = .ok (.aload_n 0, 1) := by decide +kernel
theorem dd_La_pair_1 : decode cc_La_pair 1 = .ok (.iload_n 1, 1) := by decide +kernel
theorem dd_La_pair_2 : decode cc_La_pair 2 = .ok (.iload_n 2, 1) := by decide +kernel
theorem dd_La_pair_3 : decode cc_La_pair 3 = .ok (.iload_n 3, 1) := by decide +kernel
theorem dd_La_pair_4 : decode cc_La_pair 4 = .ok (.iload 4, 2) := by decide +kernel
theorem dd_La_pair_6 : decode cc_La_pair 6 = .ok (.invokevirtual 37, 3) := by decide +kernel
theorem dd_La_pair_9 : decode cc_La_pair 9 = .ok (.goto 11, 3) := by decide +kernel
theorem dd_La_pair_12 : decode cc_La_pair 12 = .ok (.astore 5, 2) := by decide +kernel
theorem dd_La_pair_14 : decode cc_La_pair 14 = .ok (.iconst 1, 1) := by decide +kernel
theorem dd_La_pair_15 : decode cc_La_pair 15 = .ok (.ireturn, 1) := by decide +kernel
theorem dd_La_pair_16 : decode cc_La_pair 16 = .ok (.astore 5, 2) := by decide +kernel
theorem dd_La_pair_18 : decode cc_La_pair 18 = .ok (.iconst 2, 1) := by decide +kernel
theorem dd_La_pair_19 : decode cc_La_pair 19 = .ok (.ireturn, 1) := by decide +kernel
theorem dd_La_pair_20 : decode cc_La_pair 20 = .ok (.iconst 0, 1) := by decide +kernel
theorem dd_La_pair_21 : decode cc_La_pair 21 = .ok (.ireturn, 1) := by decide +kernel
theorem dd_CH_pair_0 : decode cc_CH_pair 0 = .ok (.aload_n 0, 1) := by decide +kernel
theorem dd_CH_pair_1 : decode cc_CH_pair 1 = .ok (.iload_n 1, 1) := by decide +kernel
theorem dd_CH_pair_2 : decode cc_CH_pair 2 = .ok (.iload_n 2, 1) := by decide +kernel
theorem dd_CH_pair_3 : decode cc_CH_pair 3 = .ok (.invokevirtual 115, 3) := by decide +kernel
theorem dd_CH_pair_6 : decode cc_CH_pair 6 = .ok (.astore 5, 2) := by decide +kernel
theorem dd_CH_pair_8 : decode cc_CH_pair 8 = .ok (.iload_n 3, 1) := by decide +kernel
theorem dd_CH_pair_9 : decode cc_CH_pair 9 = .ok (.invokestatic 130, 3) := by decide +kernel
theorem dd_CH_pair_12 : decode cc_CH_pair 12 = .ok (.iload 4, 2) := by decide +kernel
theorem dd_CH_pair_14 : decode cc_CH_pair 14 = .ok (.invokestatic 130, 3) := by decide +kernel
theorem dd_CH_pair_17 : decode cc_CH_pair 17 = .ok (.aload_n 0, 1) := by decide +kernel
theorem dd_CH_pair_18 : decode cc_CH_pair 18 = .ok (.aload 5, 2) := by decide +kernel
theorem dd_CH_pair_20 : decode cc_CH_pair 20 = .ok (.iconst 2, 1) := by decide +kernel
theorem dd_CH_pair_21 : decode cc_CH_pair 21 = .ok (.invokevirtual 133, 3) := by decide +kernel
theorem dd_CH_pair_24 : decode cc_CH_pair 24 = .ok (.aload 5, 2) := by decide +kernel
theorem dd_CH_pair_26 : decode cc_CH_pair 26 = .ok (.getfield 118, 3) := by decide +kernel
theorem dd_CH_pair_29 : decode cc_CH_pair 29 = .ok (.iload_n 2, 1) := by decide +kernel
theorem dd_CH_pair_30 : decode cc_CH_pair 30 = .ok (.aload 5, 2) := by decide +kernel
theorem dd_CH_pair_32 : decode cc_CH_pair 32 = .ok (.getfield 97, 3) := by decide +kernel
theorem dd_CH_pair_35 : decode cc_CH_pair 35 = .ok (.aload 5, 2) := by decide +kernel
theorem dd_CH_pair_37 : decode cc_CH_pair 37 = .ok (.getfield 118, 3) := by decide +kernel
theorem dd_CH_pair_40 : decode cc_CH_pair 40 = .ok (.iload_n 3, 1) := by decide +kernel
theorem dd_CH_pair_41 : decode cc_CH_pair 41 = .ok (.iaload, 1) := by decide +kernel
theorem dd_CH_pair_42 : decode cc_CH_pair 42 = .ok (.aload 5, 2) := by decide +kernel
theorem dd_CH_pair_44 : decode cc_CH_pair 44 = .ok (.getfield 118, 3) := by decide +kernel
theorem dd_CH_pair_47 : decode cc_CH_pair 47 = .ok (.iload 4, 2) := by decide +kernel
theorem dd_CH_pair_49 : decode cc_CH_pair 49 = .ok (.iaload, 1) := by decide +kernel
theorem dd_CH_pair_50 : decode cc_CH_pair 50 = .ok (.invokevirtual 137, 3) := by decide +kernel
theorem dd_CH_pair_53 : decode cc_CH_pair 53 = .ok (.iastore, 1) := by decide +kernel
theorem dd_CH_pair_54 : decode cc_CH_pair 54 = .ok (.return_, 1) := by decide +kernel
theorem dd_CH_needRoom_0 : decode cc_CH_needRoom 0 = .ok (.aload_n 0, 1) := by decide +kernel
theorem dd_CH_needRoom_1 : decode cc_CH_needRoom 1 = .ok (.aload_n 1, 1) := by decide +kernel
theorem dd_CH_needRoom_2 : decode cc_CH_needRoom 2 = .ok (.iload_n 2, 1) := by decide +kernel
theorem dd_CH_needRoom_3 : decode cc_CH_needRoom 3 = .ok (.invokevirtual 231, 3) := by decide +kernel
theorem dd_CH_needRoom_6 : decode cc_CH_needRoom 6 = .ok (.ifCond .ne 11, 3) := by decide +kernel
theorem dd_CH_needRoom_9 : decode cc_CH_needRoom 9 = .ok (.new 69, 3) := by decide +kernel
theorem dd_CH_needRoom_12 : decode cc_CH_needRoom 12 = .ok (.dup, 1) := by decide +kernel
theorem dd_CH_needRoom_13 : decode cc_CH_needRoom 13 = .ok (.invokespecial 71, 3) := by decide +kernel
theorem dd_CH_needRoom_16 : decode cc_CH_needRoom 16 = .ok (.athrow, 1) := by decide +kernel
theorem dd_CH_needRoom_17 : decode cc_CH_needRoom 17 = .ok (.return_, 1) := by decide +kernel
theorem dd_CH_makeRoom_0 : decode cc_CH_makeRoom 0 = .ok (.aload_n 1, 1) := by decide +kernel
theorem dd_CH_makeRoom_1 : decode cc_CH_makeRoom 1 = .ok (.iload_n 2, 1) := by decide +kernel
theorem dd_CH_makeRoom_2 : decode cc_CH_makeRoom 2 = .ok (.invokevirtual 235, 3) := by decide +kernel
theorem dd_CH_makeRoom_5 : decode cc_CH_makeRoom 5 = .ok (.ifCond .gt 5, 3) := by decide +kernel
theorem dd_CH_makeRoom_8 : decode cc_CH_makeRoom 8 = .ok (.iconst 1, 1) := by decide +kernel
theorem dd_CH_makeRoom_9 : decode cc_CH_makeRoom 9 = .ok (.ireturn, 1) := by decide +kernel
theorem dd_CH_makeRoom_10 : decode cc_CH_makeRoom 10 = .ok (.aload_n 0, 1) := by decide +kernel
theorem dd_CH_makeRoom_11 : decode cc_CH_makeRoom 11 = .ok (.aload_n 1, 1) := by decide +kernel
theorem dd_CH_makeRoom_12 : decode cc_CH_makeRoom 12 = .ok (.invokevirtual 183, 3) := by decide +kernel
theorem dd_CH_makeRoom_15 : decode cc_CH_makeRoom 15 = .ok (.iconst 0, 1) := by decide +kernel
theorem dd_CH_makeRoom_16 : decode cc_CH_makeRoom 16 = .ok (.aload_n 1, 1) := by decide +kernel
theorem dd_CH_makeRoom_17 : decode cc_CH_makeRoom 17 = .ok (.iload_n 2, 1) := by decide +kernel
theorem dd_CH_makeRoom_18 : decode cc_CH_makeRoom 18 = .ok (.invokevirtual 235, 3) := by decide +kernel
theorem dd_CH_makeRoom_21 : decode cc_CH_makeRoom 21 = .ok (.invokestatic 15, 3) := by decide +kernel
theorem dd_CH_makeRoom_24 : decode cc_CH_makeRoom 24 = .ok (.invokestatic 187, 3) := by decide +kernel
theorem dd_CH_makeRoom_27 : decode cc_CH_makeRoom 27 = .ok (.istore_n 3, 1) := by decide +kernel
theorem dd_CH_makeRoom_28 : decode cc_CH_makeRoom 28 = .ok (.iload_n 3, 1) := by decide +kernel
theorem dd_CH_makeRoom_29 : decode cc_CH_makeRoom 29 = .ok (.aload_n 0, 1) := by decide +kernel
theorem dd_CH_makeRoom_30 : decode cc_CH_makeRoom 30 = .ok (.getfield 27, 3) := by decide +kernel
theorem dd_CH_makeRoom_33 : decode cc_CH_makeRoom 33 = .ok (.getfield 66, 3) := by decide +kernel
theorem dd_CH_makeRoom_36 : decode cc_CH_makeRoom 36 = .ok (.if_icmp .le 5, 3) := by decide +kernel
theorem dd_CH_makeRoom_39 : decode cc_CH_makeRoom 39 = .ok (.iconst 0, 1) := by decide +kernel
theorem dd_CH_makeRoom_40 : decode cc_CH_makeRoom 40 = .ok (.ireturn, 1) := by decide +kernel
theorem dd_CH_makeRoom_41 : decode cc_CH_makeRoom 41 = .ok (.aload_n 0, 1) := by decide +kernel
theorem dd_CH_makeRoom_42 : decode cc_CH_makeRoom 42 = .ok (.getfield 27, 3) := by decide +kernel
theorem dd_CH_makeRoom_45 : decode cc_CH_makeRoom 45 = .ok (.dup, 1) := by decide +kernel
theorem dd_CH_makeRoom_46 : decode cc_CH_makeRoom 46 = .ok (.getfield 66, 3) := by decide +kernel
theorem dd_CH_makeRoom_49 : decode cc_CH_makeRoom 49 = .ok (.iload_n 3, 1) := by decide +kernel
theorem dd_CH_makeRoom_50 : decode cc_CH_makeRoom 50 = .ok (.isub, 1) := by decide +kernel
theorem dd_CH_makeRoom_51 : decode cc_CH_makeRoom 51 = .ok (.putfield 66, 3) := by decide +kernel
theorem dd_CH_makeRoom_54 : decode cc_CH_makeRoom 54 = .ok (.aload_n 1, 1) := by decide +kernel
theorem dd_CH_makeRoom_55 : decode cc_CH_makeRoom 55 = .ok (.dup, 1) := by decide +kernel
theorem dd_CH_makeRoom_56 : decode cc_CH_makeRoom 56 = .ok (.getfield 108, 3) := by decide +kernel
theorem dd_CH_makeRoom_59 : decode cc_CH_makeRoom 59 = .ok (.iload_n 3, 1) := by decide +kernel
theorem dd_CH_makeRoom_60 : decode cc_CH_makeRoom 60 = .ok (.iadd, 1) := by decide +kernel
theorem dd_CH_makeRoom_61 : decode cc_CH_makeRoom 61 = .ok (.putfield 108, 3) := by decide +kernel
theorem dd_CH_makeRoom_64 : decode cc_CH_makeRoom 64 = .ok (.iconst 1, 1) := by decide +kernel
theorem dd_CH_makeRoom_65 : decode cc_CH_makeRoom 65 = .ok (.ireturn, 1) := by decide +kernel
theorem dd_Pr_lacks_0 : decode cc_Pr_lacks 0 = .ok (.aload_n 0, 1) := by decide +kernel
theorem dd_Pr_lacks_1 : decode cc_Pr_lacks 1 = .ok (.getfield 27, 3) := by decide +kernel
theorem dd_Pr_lacks_4 : decode cc_Pr_lacks 4 = .ok (.getfield 48, 3) := by decide +kernel
theorem dd_Pr_lacks_7 : decode cc_Pr_lacks 7 = .ok (.iload_n 1, 1) := by decide +kernel
theorem dd_Pr_lacks_8 : decode cc_Pr_lacks 8 = .ok (.iadd, 1) := by decide +kernel
theorem dd_Pr_lacks_9 : decode cc_Pr_lacks 9 = .ok (.aload_n 0, 1) := by decide +kernel
theorem dd_Pr_lacks_10 : decode cc_Pr_lacks 10 = .ok (.getfield 35, 3) := by decide +kernel
theorem dd_Pr_lacks_13 : decode cc_Pr_lacks 13 = .ok (.isub, 1) := by decide +kernel
theorem dd_Pr_lacks_14 : decode cc_Pr_lacks 14 = .ok (.ireturn, 1) := by decide +kernel
theorem dd_CH_collectHeap_0 : decode cc_CH_collectHeap 0 = .ok (.aload_n 1, 1) := by decide +kernel
theorem dd_CH_collectHeap_1 : decode cc_CH_collectHeap 1 = .ok (.getfield 97, 3) := by decide +kernel
theorem dd_CH_collectHeap_4 : decode cc_CH_collectHeap 4 = .ok (.astore_n 2, 1) := by decide +kernel
theorem dd_CH_collectHeap_5 : decode cc_CH_collectHeap 5 = .ok (.aload_n 0, 1) := by decide +kernel
theorem dd_CH_collectHeap_6 : decode cc_CH_collectHeap 6 = .ok (.getfield 58, 3) := by decide +kernel
theorem dd_CH_collectHeap_9 : decode cc_CH_collectHeap 9 = .ok (.invokevirtual 238, 3) := by decide +kernel
theorem dd_CH_collectHeap_12 : decode cc_CH_collectHeap 12 = .ok (.aload_n 0, 1) := by decide +kernel
theorem dd_CH_collectHeap_13 : decode cc_CH_collectHeap 13 = .ok (.getfield 44, 3) := by decide +kernel
theorem dd_CH_collectHeap_16 : decode cc_CH_collectHeap 16 = .ok (.aload_n 2, 1) := by decide +kernel
theorem dd_CH_collectHeap_17 : decode cc_CH_collectHeap 17 = .ok (.aload_n 0, 1) := by decide +kernel
theorem dd_CH_collectHeap_18 : decode cc_CH_collectHeap 18 = .ok (.getfield 58, 3) := by decide +kernel
theorem dd_CH_collectHeap_21 : decode cc_CH_collectHeap 21 = .ok (.invokevirtual 100, 3) := by decide +kernel
theorem dd_CH_collectHeap_24 : decode cc_CH_collectHeap 24 = .ok (.iconst 0, 1) := by decide +kernel
theorem dd_CH_collectHeap_25 : decode cc_CH_collectHeap 25 = .ok (.istore_n 3, 1) := by decide +kernel
theorem dd_CH_collectHeap_26 : decode cc_CH_collectHeap 26 = .ok (.iload_n 3, 1) := by decide +kernel
theorem dd_CH_collectHeap_27 : decode cc_CH_collectHeap 27 = .ok (.iconst 4, 1) := by decide +kernel
theorem dd_CH_collectHeap_28 : decode cc_CH_collectHeap 28 = .ok (.if_icmp .ge 28, 3) := by decide +kernel
theorem dd_CH_collectHeap_31 : decode cc_CH_collectHeap 31 = .ok (.aload_n 1, 1) := by decide +kernel
theorem dd_CH_collectHeap_32 : decode cc_CH_collectHeap 32 = .ok (.getfield 118, 3) := by decide +kernel
theorem dd_CH_collectHeap_35 : decode cc_CH_collectHeap 35 = .ok (.iload_n 3, 1) := by decide +kernel
theorem dd_CH_collectHeap_36 : decode cc_CH_collectHeap 36 = .ok (.aload_n 0, 1) := by decide +kernel
theorem dd_CH_collectHeap_37 : decode cc_CH_collectHeap 37 = .ok (.getfield 44, 3) := by decide +kernel
theorem dd_CH_collectHeap_40 : decode cc_CH_collectHeap 40 = .ok (.aload_n 1, 1) := by decide +kernel
theorem dd_CH_collectHeap_41 : decode cc_CH_collectHeap 41 = .ok (.getfield 118, 3) := by decide +kernel
theorem dd_CH_collectHeap_44 : decode cc_CH_collectHeap 44 = .ok (.iload_n 3, 1) := by decide +kernel
theorem dd_CH_collectHeap_45 : decode cc_CH_collectHeap 45 = .ok (.iaload, 1) := by decide +kernel
theorem dd_CH_collectHeap_46 : decode cc_CH_collectHeap 46 = .ok (.invokevirtual 241, 3) := by decide +kernel
theorem dd_CH_collectHeap_49 : decode cc_CH_collectHeap 49 = .ok (.iastore, 1) := by decide +kernel
theorem dd_CH_collectHeap_50 : decode cc_CH_collectHeap 50 = .ok (.iinc 3 1, 3) := by decide +kernel
theorem dd_CH_collectHeap_53 : decode cc_CH_collectHeap 53 = .ok (.goto (-27), 3) := by decide +kernel
theorem dd_CH_collectHeap_56 : decode cc_CH_collectHeap 56 = .ok (.iconst 0, 1) := by decide +kernel
theorem dd_CH_collectHeap_57 : decode cc_CH_collectHeap 57 = .ok (.istore_n 3, 1) := by decide +kernel
theorem dd_CH_collectHeap_58 : decode cc_CH_collectHeap 58 = .ok (.iload_n 3, 1) := by decide +kernel
theorem dd_CH_collectHeap_59 : decode cc_CH_collectHeap 59 = .ok (.aload_n 1, 1) := by decide +kernel
theorem dd_CH_collectHeap_60 : decode cc_CH_collectHeap 60 = .ok (.getfield 169, 3) := by decide +kernel
theorem dd_CH_collectHeap_63 : decode cc_CH_collectHeap 63 = .ok (.getfield 173, 3) := by decide +kernel
theorem dd_CH_collectHeap_66 : decode cc_CH_collectHeap 66 = .ok (.if_icmp .ge 32, 3) := by decide +kernel
theorem dd_CH_collectHeap_69 : decode cc_CH_collectHeap 69 = .ok (.aload_n 1, 1) := by decide +kernel
theorem dd_CH_collectHeap_70 : decode cc_CH_collectHeap 70 = .ok (.getfield 169, 3) := by decide +kernel
theorem dd_CH_collectHeap_73 : decode cc_CH_collectHeap 73 = .ok (.iload_n 3, 1) := by decide +kernel
theorem dd_CH_collectHeap_74 : decode cc_CH_collectHeap 74 = .ok (.aload_n 0, 1) := by decide +kernel
theorem dd_CH_collectHeap_75 : decode cc_CH_collectHeap 75 = .ok (.getfield 44, 3) := by decide +kernel
theorem dd_CH_collectHeap_78 : decode cc_CH_collectHeap 78 = .ok (.aload_n 1, 1) := by decide +kernel
theorem dd_CH_collectHeap_79 : decode cc_CH_collectHeap 79 = .ok (.getfield 169, 3) := by decide +kernel
theorem dd_CH_collectHeap_82 : decode cc_CH_collectHeap 82 = .ok (.iload_n 3, 1) := by decide +kernel
theorem dd_CH_collectHeap_83 : decode cc_CH_collectHeap 83 = .ok (.invokevirtual 244, 3) := by decide +kernel
theorem dd_CH_collectHeap_86 : decode cc_CH_collectHeap 86 = .ok (.invokevirtual 241, 3) := by decide +kernel
theorem dd_CH_collectHeap_89 : decode cc_CH_collectHeap 89 = .ok (.invokevirtual 246, 3) := by decide +kernel
theorem dd_CH_collectHeap_92 : decode cc_CH_collectHeap 92 = .ok (.iinc 3 1, 3) := by decide +kernel
theorem dd_CH_collectHeap_95 : decode cc_CH_collectHeap 95 = .ok (.goto (-37), 3) := by decide +kernel
theorem dd_CH_collectHeap_98 : decode cc_CH_collectHeap 98 = .ok (.aload_n 0, 1) := by decide +kernel
theorem dd_CH_collectHeap_99 : decode cc_CH_collectHeap 99 = .ok (.getfield 44, 3) := by decide +kernel
theorem dd_CH_collectHeap_102 : decode cc_CH_collectHeap 102 = .ok (.invokevirtual 250, 3) := by decide +kernel
theorem dd_CH_collectHeap_105 : decode cc_CH_collectHeap 105 = .ok (.aload_n 0, 1) := by decide +kernel
theorem dd_CH_collectHeap_106 : decode cc_CH_collectHeap 106 = .ok (.getfield 44, 3) := by decide +kernel
theorem dd_CH_collectHeap_109 : decode cc_CH_collectHeap 109 = .ok (.aload_n 0, 1) := by decide +kernel
theorem dd_CH_collectHeap_110 : decode cc_CH_collectHeap 110 = .ok (.getfield 27, 3) := by decide +kernel
theorem dd_CH_collectHeap_113 : decode cc_CH_collectHeap 113 = .ok (.invokevirtual 104, 3) := by decide +kernel
theorem dd_CH_collectHeap_116 : decode cc_CH_collectHeap 116 = .ok (.aload_n 1, 1) := by decide +kernel
theorem dd_CH_collectHeap_117 : decode cc_CH_collectHeap 117 = .ok (.aload_n 0, 1) := by decide +kernel
theorem dd_CH_collectHeap_118 : decode cc_CH_collectHeap 118 = .ok (.getfield 58, 3) := by decide +kernel
theorem dd_CH_collectHeap_121 : decode cc_CH_collectHeap 121 = .ok (.putfield 97, 3) := by decide +kernel
theorem dd_CH_collectHeap_124 : decode cc_CH_collectHeap 124 = .ok (.aload_n 0, 1) := by decide +kernel
theorem dd_CH_collectHeap_125 : decode cc_CH_collectHeap 125 = .ok (.aload_n 2, 1) := by decide +kernel
theorem dd_CH_collectHeap_126 : decode cc_CH_collectHeap 126 = .ok (.putfield 58, 3) := by decide +kernel
theorem dd_CH_collectHeap_129 : decode cc_CH_collectHeap 129 = .ok (.aload_n 0, 1) := by decide +kernel
theorem dd_CH_collectHeap_130 : decode cc_CH_collectHeap 130 = .ok (.dup, 1) := by decide +kernel
theorem dd_CH_collectHeap_131 : decode cc_CH_collectHeap 131 = .ok (.getfield 190, 3) := by decide +kernel
theorem dd_CH_collectHeap_134 : decode cc_CH_collectHeap 134 = .ok (.iconst 1, 1) := by decide +kernel
theorem dd_CH_collectHeap_135 : decode cc_CH_collectHeap 135 = .ok (.iadd, 1) := by decide +kernel
theorem dd_CH_collectHeap_136 : decode cc_CH_collectHeap 136 = .ok (.putfield 190, 3) := by decide +kernel
theorem dd_CH_collectHeap_139 : decode cc_CH_collectHeap 139 = .ok (.return_, 1) := by decide +kernel
theorem dd_Ca_carry_0 : decode cc_Ca_carry 0 = .ok (.iload_n 1, 1) := by decide +kernel
theorem dd_Ca_carry_1 : decode cc_Ca_carry 1 = .ok (.invokestatic 37, 3) := by decide +kernel
theorem dd_Ca_carry_4 : decode cc_Ca_carry 4 = .ok (.ifCond .ne 5, 3) := by decide +kernel
theorem dd_Ca_carry_7 : decode cc_Ca_carry 7 = .ok (.iload_n 1, 1) := by decide +kernel
theorem dd_Ca_carry_8 : decode cc_Ca_carry 8 = .ok (.ireturn, 1) := by decide +kernel
theorem dd_Ca_carry_9 : decode cc_Ca_carry 9 = .ok (.iload_n 1, 1) := by decide +kernel
theorem dd_Ca_carry_10 : decode cc_Ca_carry 10 = .ok (.invokestatic 41, 3) := by decide +kernel
theorem dd_Ca_carry_13 : decode cc_Ca_carry 13 = .ok (.istore_n 2, 1) := by decide +kernel
theorem dd_Ca_carry_14 : decode cc_Ca_carry 14 = .ok (.aload_n 0, 1) := by decide +kernel
theorem dd_Ca_carry_15 : decode cc_Ca_carry 15 = .ok (.getfield 9, 3) := by decide +kernel
theorem dd_Ca_carry_18 : decode cc_Ca_carry 18 = .ok (.iload_n 2, 1) := by decide +kernel
theorem dd_Ca_carry_19 : decode cc_Ca_carry 19 = .ok (.iaload, 1) := by decide +kernel
theorem dd_Ca_carry_20 : decode cc_Ca_carry 20 = .ok (.ifCond .ne 21, 3) := by decide +kernel
theorem dd_Ca_carry_23 : decode cc_Ca_carry 23 = .ok (.aload_n 0, 1) := by decide +kernel
theorem dd_Ca_carry_24 : decode cc_Ca_carry 24 = .ok (.getfield 9, 3) := by decide +kernel
theorem dd_Ca_carry_27 : decode cc_Ca_carry 27 = .ok (.iload_n 2, 1) := by decide +kernel
theorem dd_Ca_carry_28 : decode cc_Ca_carry 28 = .ok (.aload_n 0, 1) := by decide +kernel
theorem dd_Ca_carry_29 : decode cc_Ca_carry 29 = .ok (.getfield 19, 3) := by decide +kernel
theorem dd_Ca_carry_32 : decode cc_Ca_carry 32 = .ok (.aload_n 0, 1) := by decide +kernel
theorem dd_Ca_carry_33 : decode cc_Ca_carry 33 = .ok (.getfield 15, 3) := by decide +kernel
theorem dd_Ca_carry_36 : decode cc_Ca_carry 36 = .ok (.iload_n 1, 1) := by decide +kernel
theorem dd_Ca_carry_37 : decode cc_Ca_carry 37 = .ok (.invokevirtual 45, 3) := by decide +kernel
theorem dd_Ca_carry_40 : decode cc_Ca_carry 40 = .ok (.iastore, 1) := by decide +kernel
theorem dd_Ca_carry_41 : decode cc_Ca_carry 41 = .ok (.aload_n 0, 1) := by decide +kernel
theorem dd_Ca_carry_42 : decode cc_Ca_carry 42 = .ok (.getfield 9, 3) := by decide +kernel
theorem dd_Ca_carry_45 : decode cc_Ca_carry 45 = .ok (.iload_n 2, 1) := by decide +kernel
theorem dd_Ca_carry_46 : decode cc_Ca_carry 46 = .ok (.iaload, 1) := by decide +kernel
theorem dd_Ca_carry_47 : decode cc_Ca_carry 47 = .ok (.ireturn, 1) := by decide +kernel
theorem dd_CH_liesInHeap_0 : decode cc_CH_liesInHeap 0 = .ok (.iload_n 0, 1) := by decide +kernel
theorem dd_CH_liesInHeap_1 : decode cc_CH_liesInHeap 1 = .ok (.invokestatic 193, 3) := by decide +kernel
theorem dd_CH_liesInHeap_4 : decode cc_CH_liesInHeap 4 = .ok (.iconst 3, 1) := by decide +kernel
theorem dd_CH_liesInHeap_5 : decode cc_CH_liesInHeap 5 = .ok (.if_icmp .lt 7, 3) := by decide +kernel
theorem dd_CH_liesInHeap_8 : decode cc_CH_liesInHeap 8 = .ok (.iconst 1, 1) := by decide +kernel
theorem dd_CH_liesInHeap_9 : decode cc_CH_liesInHeap 9 = .ok (.goto 4, 3) := by decide +kernel
theorem dd_CH_liesInHeap_12 : decode cc_CH_liesInHeap 12 = .ok (.iconst 0, 1) := by decide +kernel
theorem dd_CH_liesInHeap_13 : decode cc_CH_liesInHeap 13 = .ok (.ireturn, 1) := by decide +kernel
theorem dd_He_addCopy_0 : decode cc_He_addCopy 0 = .ok (.iload_n 2, 1) := by decide +kernel
theorem dd_He_addCopy_1 : decode cc_He_addCopy 1 = .ok (.invokestatic 32, 3) := by decide +kernel
theorem dd_He_addCopy_4 : decode cc_He_addCopy 4 = .ok (.istore_n 3, 1) := by decide +kernel
theorem dd_He_addCopy_5 : decode cc_He_addCopy 5 = .ok (.iload_n 2, 1) := by decide +kernel
theorem dd_He_addCopy_6 : decode cc_He_addCopy 6 = .ok (.invokestatic 36, 3) := by decide +kernel
theorem dd_He_addCopy_9 : decode cc_He_addCopy 9 = .ok (.aload_n 1, 1) := by decide +kernel
theorem dd_He_addCopy_10 : decode cc_He_addCopy 10 = .ok (.getfield 15, 3) := by decide +kernel
theorem dd_He_addCopy_13 : decode cc_He_addCopy 13 = .ok (.iload_n 3, 1) := by decide +kernel
theorem dd_He_addCopy_14 : decode cc_He_addCopy 14 = .ok (.iaload, 1) := by decide +kernel
theorem dd_He_addCopy_15 : decode cc_He_addCopy 15 = .ok (.invokestatic 39, 3) := by decide +kernel
theorem dd_He_addCopy_18 : decode cc_He_addCopy 18 = .ok (.istore 4, 2) := by decide +kernel
theorem dd_He_addCopy_20 : decode cc_He_addCopy 20 = .ok (.aload_n 1, 1) := by decide +kernel
theorem dd_He_addCopy_21 : decode cc_He_addCopy 21 = .ok (.getfield 15, 3) := by decide +kernel
theorem dd_He_addCopy_24 : decode cc_He_addCopy 24 = .ok (.iload_n 3, 1) := by decide +kernel
theorem dd_He_addCopy_25 : decode cc_He_addCopy 25 = .ok (.aload_n 0, 1) := by decide +kernel
theorem dd_He_addCopy_26 : decode cc_He_addCopy 26 = .ok (.getfield 15, 3) := by decide +kernel
theorem dd_He_addCopy_29 : decode cc_He_addCopy 29 = .ok (.aload_n 0, 1) := by decide +kernel
theorem dd_He_addCopy_30 : decode cc_He_addCopy 30 = .ok (.getfield 18, 3) := by decide +kernel
theorem dd_He_addCopy_33 : decode cc_He_addCopy 33 = .ok (.iload 4, 2) := by decide +kernel
theorem dd_He_addCopy_35 : decode cc_He_addCopy 35 = .ok (.invokestatic 42, 3) := by decide +kernel
theorem dd_He_addCopy_38 : decode cc_He_addCopy 38 = .ok (.aload_n 0, 1) := by decide +kernel
theorem dd_He_addCopy_39 : decode cc_He_addCopy 39 = .ok (.iload_n 2, 1) := by decide +kernel
theorem dd_He_addCopy_40 : decode cc_He_addCopy 40 = .ok (.invokestatic 36, 3) := by decide +kernel
theorem dd_He_addCopy_43 : decode cc_He_addCopy 43 = .ok (.aload_n 0, 1) := by decide +kernel
theorem dd_He_addCopy_44 : decode cc_He_addCopy 44 = .ok (.getfield 18, 3) := by decide +kernel
theorem dd_He_addCopy_47 : decode cc_He_addCopy 47 = .ok (.invokestatic 25, 3) := by decide +kernel
theorem dd_He_addCopy_50 : decode cc_He_addCopy 50 = .ok (.iload 4, 2) := by decide +kernel
theorem dd_He_addCopy_52 : decode cc_He_addCopy 52 = .ok (.invokevirtual 29, 3) := by decide +kernel
theorem dd_He_addCopy_55 : decode cc_He_addCopy 55 = .ok (.ireturn, 1) := by decide +kernel
theorem dd_He_lengthOf_0 : decode cc_He_lengthOf 0 = .ok (.iload_n 0, 1) := by decide +kernel
theorem dd_He_lengthOf_1 : decode cc_He_lengthOf 1 = .ok (.lookupswitch 33 #[(3, 27), (4, 29)], 27) := by decide +kernel
theorem dd_He_lengthOf_28 : decode cc_He_lengthOf 28 = .ok (.iconst 2, 1) := by decide +kernel
theorem dd_He_lengthOf_29 : decode cc_He_lengthOf 29 = .ok (.ireturn, 1) := by decide +kernel
theorem dd_He_lengthOf_30 : decode cc_He_lengthOf 30 = .ok (.iload_n 1, 1) := by decide +kernel
theorem dd_He_lengthOf_31 : decode cc_He_lengthOf 31 = .ok (.iconst 1, 1) := by decide +kernel
theorem dd_He_lengthOf_32 : decode cc_He_lengthOf 32 = .ok (.iadd, 1) := by decide +kernel
theorem dd_He_lengthOf_33 : decode cc_He_lengthOf 33 = .ok (.ireturn, 1) := by decide +kernel
theorem dd_He_lengthOf_34 : decode cc_He_lengthOf 34 = .ok (.iconst 2, 1) := by decide +kernel
theorem dd_He_lengthOf_35 : decode cc_He_lengthOf 35 = .ok (.ireturn, 1) := by decide +kernel
theorem dd_He_place_0 : decode cc_He_place 0 = .ok (.aload_n 0, 1) := by decide +kernel
theorem dd_He_place_1 : decode cc_He_place 1 = .ok (.getfield 9, 3) := by decide +kernel
theorem dd_He_place_4 : decode cc_He_place 4 = .ok (.aload_n 0, 1) := by decide +kernel
theorem dd_He_place_5 : decode cc_He_place 5 = .ok (.getfield 22, 3) := by decide +kernel
theorem dd_He_place_8 : decode cc_He_place 8 = .ok (.iload_n 1, 1) := by decide +kernel
theorem dd_He_place_9 : decode cc_He_place 9 = .ok (.iastore, 1) := by decide +kernel
theorem dd_He_place_10 : decode cc_He_place 10 = .ok (.aload_n 0, 1) := by decide +kernel
theorem dd_He_place_11 : decode cc_He_place 11 = .ok (.dup, 1) := by decide +kernel
theorem dd_He_place_12 : decode cc_He_place 12 = .ok (.getfield 22, 3) := by decide +kernel
theorem dd_He_place_15 : decode cc_He_place 15 = .ok (.iconst 1, 1) := by decide +kernel
theorem dd_He_place_16 : decode cc_He_place 16 = .ok (.iadd, 1) := by decide +kernel
theorem dd_He_place_17 : decode cc_He_place 17 = .ok (.putfield 22, 3) := by decide +kernel
theorem dd_He_place_20 : decode cc_He_place 20 = .ok (.aload_n 0, 1) := by decide +kernel
theorem dd_He_place_21 : decode cc_He_place 21 = .ok (.dup, 1) := by decide +kernel
theorem dd_He_place_22 : decode cc_He_place 22 = .ok (.getfield 18, 3) := by decide +kernel
theorem dd_He_place_25 : decode cc_He_place 25 = .ok (.iload_n 2, 1) := by decide +kernel
theorem dd_He_place_26 : decode cc_He_place 26 = .ok (.iadd, 1) := by decide +kernel
theorem dd_He_place_27 : decode cc_He_place 27 = .ok (.putfield 18, 3) := by decide +kernel
theorem dd_He_place_30 : decode cc_He_place 30 = .ok (.iload_n 1, 1) := by decide +kernel
theorem dd_He_place_31 : decode cc_He_place 31 = .ok (.ireturn, 1) := by decide +kernel
theorem dd_Ma_get_0 : decode cc_Ma_get 0 = .ok (.aload_n 0, 1) := by decide +kernel
theorem dd_Ma_get_1 : decode cc_Ma_get 1 = .ok (.getfield 9, 3) := by decide +kernel
theorem dd_Ma_get_4 : decode cc_Ma_get 4 = .ok (.aload_n 0, 1) := by decide +kernel
theorem dd_Ma_get_5 : decode cc_Ma_get 5 = .ok (.iload_n 1, 1) := by decide +kernel
theorem dd_Ma_get_6 : decode cc_Ma_get 6 = .ok (.invokevirtual 30, 3) := by decide +kernel
theorem dd_Ma_get_9 : decode cc_Ma_get 9 = .ok (.iaload, 1) := by decide +kernel
theorem dd_Ma_get_10 : decode cc_Ma_get 10 = .ok (.ireturn, 1) := by decide +kernel
theorem dd_Ma_placeInRing_0 : decode cc_Ma_placeInRing 0 = .ok (.aload_n 0, 1) := by decide +kernel
theorem dd_Ma_placeInRing_1 : decode cc_Ma_placeInRing 1 = .ok (.getfield 15, 3) := by decide +kernel
theorem dd_Ma_placeInRing_4 : decode cc_Ma_placeInRing 4 = .ok (.iload_n 1, 1) := by decide +kernel
theorem dd_Ma_placeInRing_5 : decode cc_Ma_placeInRing 5 = .ok (.iadd, 1) := by decide +kernel
theorem dd_Ma_placeInRing_6 : decode cc_Ma_placeInRing 6 = .ok (.sipush 512, 3) := by decide +kernel
theorem dd_Ma_placeInRing_9 : decode cc_Ma_placeInRing 9 = .ok (.irem, 1) := by decide +kernel
theorem dd_Ma_placeInRing_10 : decode cc_Ma_placeInRing 10 = .ok (.ireturn, 1) := by decide +kernel
theorem dd_Ma_set_0 : decode cc_Ma_set 0 = .ok (.aload_n 0, 1) := by decide +kernel
theorem dd_Ma_set_1 : decode cc_Ma_set 1 = .ok (.getfield 9, 3) := by decide +kernel
theorem dd_Ma_set_4 : decode cc_Ma_set 4 = .ok (.aload_n 0, 1) := by decide +kernel
theorem dd_Ma_set_5 : decode cc_Ma_set 5 = .ok (.iload_n 1, 1) := by decide +kernel
theorem dd_Ma_set_6 : decode cc_Ma_set 6 = .ok (.invokevirtual 30, 3) := by decide +kernel
theorem dd_Ma_set_9 : decode cc_Ma_set 9 = .ok (.iload_n 2, 1) := by decide +kernel
theorem dd_Ma_set_10 : decode cc_Ma_set 10 = .ok (.iastore, 1) := by decide +kernel
theorem dd_Ma_set_11 : decode cc_Ma_set 11 = .ok (.return_, 1) := by decide +kernel
theorem dd_Ca_carryPartsOfCarried_0 : decode cc_Ca_carryPartsOfCarried 0 = .ok (.aload_n 0, 1) := by decide +kernel
theorem dd_Ca_carryPartsOfCarried_1 : decode cc_Ca_carryPartsOfCarried 1 = .ok (.getfield 28, 3) := by decide +kernel
theorem dd_Ca_carryPartsOfCarried_4 : decode cc_Ca_carryPartsOfCarried 4 = .ok (.istore_n 1, 1) := by decide +kernel
theorem dd_Ca_carryPartsOfCarried_5 : decode cc_Ca_carryPartsOfCarried 5 = .ok (.iload_n 1, 1) := by decide +kernel
theorem dd_Ca_carryPartsOfCarried_6 : decode cc_Ca_carryPartsOfCarried 6 = .ok (.aload_n 0, 1) := by decide +kernel
theorem dd_Ca_carryPartsOfCarried_7 : decode cc_Ca_carryPartsOfCarried 7 = .ok (.getfield 19, 3) := by decide +kernel
theorem dd_Ca_carryPartsOfCarried_10 : decode cc_Ca_carryPartsOfCarried 10 = .ok (.getfield 49, 3) := by decide +kernel
theorem dd_Ca_carryPartsOfCarried_13 : decode cc_Ca_carryPartsOfCarried 13 = .ok (.arraylength, 1) := by decide +kernel
theorem dd_Ca_carryPartsOfCarried_14 : decode cc_Ca_carryPartsOfCarried 14 = .ok (.if_icmp .ge 72, 3) := by decide +kernel
theorem dd_Ca_carryPartsOfCarried_17 : decode cc_Ca_carryPartsOfCarried 17 = .ok (.iload_n 1, 1) := by decide +kernel
theorem dd_Ca_carryPartsOfCarried_18 : decode cc_Ca_carryPartsOfCarried 18 = .ok (.aload_n 0, 1) := by decide +kernel
theorem dd_Ca_carryPartsOfCarried_19 : decode cc_Ca_carryPartsOfCarried 19 = .ok (.getfield 19, 3) := by decide +kernel
theorem dd_Ca_carryPartsOfCarried_22 : decode cc_Ca_carryPartsOfCarried 22 = .ok (.getfield 22, 3) := by decide +kernel
theorem dd_Ca_carryPartsOfCarried_25 : decode cc_Ca_carryPartsOfCarried 25 = .ok (.if_icmp .ge 61, 3) := by decide +kernel
theorem dd_Ca_carryPartsOfCarried_28 : decode cc_Ca_carryPartsOfCarried 28 = .ok (.aload_n 0, 1) := by decide +kernel
theorem dd_Ca_carryPartsOfCarried_29 : decode cc_Ca_carryPartsOfCarried 29 = .ok (.getfield 19, 3) := by decide +kernel
theorem dd_Ca_carryPartsOfCarried_32 : decode cc_Ca_carryPartsOfCarried 32 = .ok (.getfield 49, 3) := by decide +kernel
theorem dd_Ca_carryPartsOfCarried_35 : decode cc_Ca_carryPartsOfCarried 35 = .ok (.iload_n 1, 1) := by decide +kernel
theorem dd_Ca_carryPartsOfCarried_36 : decode cc_Ca_carryPartsOfCarried 36 = .ok (.iaload, 1) := by decide +kernel
theorem dd_Ca_carryPartsOfCarried_37 : decode cc_Ca_carryPartsOfCarried 37 = .ok (.istore_n 2, 1) := by decide +kernel
theorem dd_Ca_carryPartsOfCarried_38 : decode cc_Ca_carryPartsOfCarried 38 = .ok (.iconst 0, 1) := by decide +kernel
theorem dd_Ca_carryPartsOfCarried_39 : decode cc_Ca_carryPartsOfCarried 39 = .ok (.istore_n 3, 1) := by decide +kernel
theorem dd_Ca_carryPartsOfCarried_40 : decode cc_Ca_carryPartsOfCarried 40 = .ok (.iload_n 3, 1) := by decide +kernel
theorem dd_Ca_carryPartsOfCarried_41 : decode cc_Ca_carryPartsOfCarried 41 = .ok (.aload_n 0, 1) := by decide +kernel
theorem dd_Ca_carryPartsOfCarried_42 : decode cc_Ca_carryPartsOfCarried 42 = .ok (.getfield 19, 3) := by decide +kernel
theorem dd_Ca_carryPartsOfCarried_45 : decode cc_Ca_carryPartsOfCarried 45 = .ok (.iload_n 2, 1) := by decide +kernel
theorem dd_Ca_carryPartsOfCarried_46 : decode cc_Ca_carryPartsOfCarried 46 = .ok (.invokevirtual 52, 3) := by decide +kernel
theorem dd_Ca_carryPartsOfCarried_49 : decode cc_Ca_carryPartsOfCarried 49 = .ok (.if_icmp .ge 31, 3) := by decide +kernel
theorem dd_Ca_carryPartsOfCarried_52 : decode cc_Ca_carryPartsOfCarried 52 = .ok (.aload_n 0, 1) := by decide +kernel
theorem dd_Ca_carryPartsOfCarried_53 : decode cc_Ca_carryPartsOfCarried 53 = .ok (.getfield 19, 3) := by decide +kernel
theorem dd_Ca_carryPartsOfCarried_56 : decode cc_Ca_carryPartsOfCarried 56 = .ok (.iload_n 2, 1) := by decide +kernel
theorem dd_Ca_carryPartsOfCarried_57 : decode cc_Ca_carryPartsOfCarried 57 = .ok (.iload_n 3, 1) := by decide +kernel
theorem dd_Ca_carryPartsOfCarried_58 : decode cc_Ca_carryPartsOfCarried 58 = .ok (.aload_n 0, 1) := by decide +kernel
theorem dd_Ca_carryPartsOfCarried_59 : decode cc_Ca_carryPartsOfCarried 59 = .ok (.aload_n 0, 1) := by decide +kernel
theorem dd_Ca_carryPartsOfCarried_60 : decode cc_Ca_carryPartsOfCarried 60 = .ok (.getfield 19, 3) := by decide +kernel
theorem dd_Ca_carryPartsOfCarried_63 : decode cc_Ca_carryPartsOfCarried 63 = .ok (.iload_n 2, 1) := by decide +kernel
theorem dd_Ca_carryPartsOfCarried_64 : decode cc_Ca_carryPartsOfCarried 64 = .ok (.iload_n 3, 1) := by decide +kernel
theorem dd_Ca_carryPartsOfCarried_65 : decode cc_Ca_carryPartsOfCarried 65 = .ok (.invokevirtual 55, 3) := by decide +kernel
theorem dd_Ca_carryPartsOfCarried_68 : decode cc_Ca_carryPartsOfCarried 68 = .ok (.invokevirtual 59, 3) := by decide +kernel
theorem dd_Ca_carryPartsOfCarried_71 : decode cc_Ca_carryPartsOfCarried 71 = .ok (.invokevirtual 62, 3) := by decide +kernel
theorem dd_Ca_carryPartsOfCarried_74 : decode cc_Ca_carryPartsOfCarried 74 = .ok (.iinc 3 1, 3) := by decide +kernel
theorem dd_Ca_carryPartsOfCarried_77 : decode cc_Ca_carryPartsOfCarried 77 = .ok (.goto (-37), 3) := by decide +kernel
theorem dd_Ca_carryPartsOfCarried_80 : decode cc_Ca_carryPartsOfCarried 80 = .ok (.iinc 1 1, 3) := by decide +kernel
theorem dd_Ca_carryPartsOfCarried_83 : decode cc_Ca_carryPartsOfCarried 83 = .ok (.goto (-78), 3) := by decide +kernel
theorem dd_Ca_carryPartsOfCarried_86 : decode cc_Ca_carryPartsOfCarried 86 = .ok (.return_, 1) := by decide +kernel
theorem dd_He_partCount_0 : decode cc_He_partCount 0 = .ok (.iload_n 1, 1) := by decide +kernel
theorem dd_He_partCount_1 : decode cc_He_partCount 1 = .ok (.invokestatic 36, 3) := by decide +kernel
theorem dd_He_partCount_4 : decode cc_He_partCount 4 = .ok (.lookupswitch 40 #[(3, 28), (4, 30)], 28) := by decide +kernel
theorem dd_He_partCount_32 : decode cc_He_partCount 32 = .ok (.iconst 2, 1) := by decide +kernel
theorem dd_He_partCount_33 : decode cc_He_partCount 33 = .ok (.ireturn, 1) := by decide +kernel
theorem dd_He_partCount_34 : decode cc_He_partCount 34 = .ok (.aload_n 0, 1) := by decide +kernel
theorem dd_He_partCount_35 : decode cc_He_partCount 35 = .ok (.getfield 15, 3) := by decide +kernel
theorem dd_He_partCount_38 : decode cc_He_partCount 38 = .ok (.iload_n 1, 1) := by decide +kernel
theorem dd_He_partCount_39 : decode cc_He_partCount 39 = .ok (.invokestatic 32, 3) := by decide +kernel
theorem dd_He_partCount_42 : decode cc_He_partCount 42 = .ok (.iaload, 1) := by decide +kernel
theorem dd_He_partCount_43 : decode cc_He_partCount 43 = .ok (.ireturn, 1) := by decide +kernel
theorem dd_He_partCount_44 : decode cc_He_partCount 44 = .ok (.iconst 0, 1) := by decide +kernel
theorem dd_He_partCount_45 : decode cc_He_partCount 45 = .ok (.ireturn, 1) := by decide +kernel
theorem dd_He_partOf_0 : decode cc_He_partOf 0 = .ok (.aload_n 0, 1) := by decide +kernel
theorem dd_He_partOf_1 : decode cc_He_partOf 1 = .ok (.getfield 15, 3) := by decide +kernel
theorem dd_He_partOf_4 : decode cc_He_partOf 4 = .ok (.iload_n 1, 1) := by decide +kernel
theorem dd_He_partOf_5 : decode cc_He_partOf 5 = .ok (.invokestatic 32, 3) := by decide +kernel
theorem dd_He_partOf_8 : decode cc_He_partOf 8 = .ok (.iload_n 1, 1) := by decide +kernel
theorem dd_He_partOf_9 : decode cc_He_partOf 9 = .ok (.invokestatic 48, 3) := by decide +kernel
theorem dd_He_partOf_12 : decode cc_He_partOf 12 = .ok (.iadd, 1) := by decide +kernel
theorem dd_He_partOf_13 : decode cc_He_partOf 13 = .ok (.iload_n 2, 1) := by decide +kernel
theorem dd_He_partOf_14 : decode cc_He_partOf 14 = .ok (.iadd, 1) := by decide +kernel
theorem dd_He_partOf_15 : decode cc_He_partOf 15 = .ok (.iaload, 1) := by decide +kernel
theorem dd_He_partOf_16 : decode cc_He_partOf 16 = .ok (.ireturn, 1) := by decide +kernel
theorem dd_He_firstPart_0 : decode cc_He_firstPart 0 = .ok (.iload_n 0, 1) := by decide +kernel
theorem dd_He_firstPart_1 : decode cc_He_firstPart 1 = .ok (.invokestatic 36, 3) := by decide +kernel
theorem dd_He_firstPart_4 : decode cc_He_firstPart 4 = .ok (.iconst 4, 1) := by decide +kernel
theorem dd_He_firstPart_5 : decode cc_He_firstPart 5 = .ok (.if_icmp .ne 7, 3) := by decide +kernel
theorem dd_He_firstPart_8 : decode cc_He_firstPart 8 = .ok (.iconst 1, 1) := by decide +kernel
theorem dd_He_firstPart_9 : decode cc_He_firstPart 9 = .ok (.goto 4, 3) := by decide +kernel
theorem dd_He_firstPart_12 : decode cc_He_firstPart 12 = .ok (.iconst 0, 1) := by decide +kernel
theorem dd_He_firstPart_13 : decode cc_He_firstPart 13 = .ok (.ireturn, 1) := by decide +kernel
theorem dd_He_setPart_0 : decode cc_He_setPart 0 = .ok (.aload_n 0, 1) := by decide +kernel
theorem dd_He_setPart_1 : decode cc_He_setPart 1 = .ok (.getfield 15, 3) := by decide +kernel
theorem dd_He_setPart_4 : decode cc_He_setPart 4 = .ok (.iload_n 1, 1) := by decide +kernel
theorem dd_He_setPart_5 : decode cc_He_setPart 5 = .ok (.invokestatic 32, 3) := by decide +kernel
theorem dd_He_setPart_8 : decode cc_He_setPart 8 = .ok (.iload_n 1, 1) := by decide +kernel
theorem dd_He_setPart_9 : decode cc_He_setPart 9 = .ok (.invokestatic 48, 3) := by decide +kernel
theorem dd_He_setPart_12 : decode cc_He_setPart 12 = .ok (.iadd, 1) := by decide +kernel
theorem dd_He_setPart_13 : decode cc_He_setPart 13 = .ok (.iload_n 2, 1) := by decide +kernel
theorem dd_He_setPart_14 : decode cc_He_setPart 14 = .ok (.iadd, 1) := by decide +kernel
theorem dd_He_setPart_15 : decode cc_He_setPart 15 = .ok (.iload_n 3, 1) := by decide +kernel
theorem dd_He_setPart_16 : decode cc_He_setPart 16 = .ok (.iastore, 1) := by decide +kernel
theorem dd_He_setPart_17 : decode cc_He_setPart 17 = .ok (.return_, 1) := by decide +kernel
theorem dd_CH_inSteps_0 : decode cc_CH_inSteps 0 = .ok (.iload_n 0, 1) := by decide +kernel
theorem dd_CH_inSteps_1 : decode cc_CH_inSteps 1 = .ok (.bipush 8, 2) := by decide +kernel
theorem dd_CH_inSteps_3 : decode cc_CH_inSteps 3 = .ok (.iadd, 1) := by decide +kernel
theorem dd_CH_inSteps_4 : decode cc_CH_inSteps 4 = .ok (.iconst 1, 1) := by decide +kernel
theorem dd_CH_inSteps_5 : decode cc_CH_inSteps 5 = .ok (.isub, 1) := by decide +kernel
theorem dd_CH_inSteps_6 : decode cc_CH_inSteps 6 = .ok (.bipush 8, 2) := by decide +kernel
theorem dd_CH_inSteps_8 : decode cc_CH_inSteps 8 = .ok (.idiv, 1) := by decide +kernel
theorem dd_CH_inSteps_9 : decode cc_CH_inSteps 9 = .ok (.bipush 8, 2) := by decide +kernel
theorem dd_CH_inSteps_11 : decode cc_CH_inSteps 11 = .ok (.imul, 1) := by decide +kernel
theorem dd_CH_inSteps_12 : decode cc_CH_inSteps 12 = .ok (.ireturn, 1) := by decide +kernel
theorem dd_He_addPair_0 : decode cc_He_addPair 0 = .ok (.aload_n 0, 1) := by decide +kernel
theorem dd_He_addPair_1 : decode cc_He_addPair 1 = .ok (.getfield 15, 3) := by decide +kernel
theorem dd_He_addPair_4 : decode cc_He_addPair 4 = .ok (.aload_n 0, 1) := by decide +kernel
theorem dd_He_addPair_5 : decode cc_He_addPair 5 = .ok (.getfield 18, 3) := by decide +kernel
theorem dd_He_addPair_8 : decode cc_He_addPair 8 = .ok (.iload_n 1, 1) := by decide +kernel
theorem dd_He_addPair_9 : decode cc_He_addPair 9 = .ok (.iastore, 1) := by decide +kernel
theorem dd_He_addPair_10 : decode cc_He_addPair 10 = .ok (.aload_n 0, 1) := by decide +kernel
theorem dd_He_addPair_11 : decode cc_He_addPair 11 = .ok (.getfield 15, 3) := by decide +kernel
theorem dd_He_addPair_14 : decode cc_He_addPair 14 = .ok (.aload_n 0, 1) := by decide +kernel
theorem dd_He_addPair_15 : decode cc_He_addPair 15 = .ok (.getfield 18, 3) := by decide +kernel
theorem dd_He_addPair_18 : decode cc_He_addPair 18 = .ok (.iconst 1, 1) := by decide +kernel
theorem dd_He_addPair_19 : decode cc_He_addPair 19 = .ok (.iadd, 1) := by decide +kernel
theorem dd_He_addPair_20 : decode cc_He_addPair 20 = .ok (.iload_n 2, 1) := by decide +kernel
theorem dd_He_addPair_21 : decode cc_He_addPair 21 = .ok (.iastore, 1) := by decide +kernel
theorem dd_He_addPair_22 : decode cc_He_addPair 22 = .ok (.aload_n 0, 1) := by decide +kernel
theorem dd_He_addPair_23 : decode cc_He_addPair 23 = .ok (.iconst 3, 1) := by decide +kernel
theorem dd_He_addPair_24 : decode cc_He_addPair 24 = .ok (.aload_n 0, 1) := by decide +kernel
theorem dd_He_addPair_25 : decode cc_He_addPair 25 = .ok (.getfield 18, 3) := by decide +kernel
theorem dd_He_addPair_28 : decode cc_He_addPair 28 = .ok (.invokestatic 25, 3) := by decide +kernel
theorem dd_He_addPair_31 : decode cc_He_addPair 31 = .ok (.iconst 2, 1) := by decide +kernel
theorem dd_He_addPair_32 : decode cc_He_addPair 32 = .ok (.invokevirtual 29, 3) := by decide +kernel
theorem dd_He_addPair_35 : decode cc_He_addPair 35 = .ok (.ireturn, 1) := by decide +kernel
theorem dd_La_tuple_0 : decode cc_La_tuple 0 = .ok (.aload_n 0, 1) := by decide +kernel
theorem dd_La_tuple_1 : decode cc_La_tuple 1 = .ok (.iload_n 1, 1) := by decide +kernel
theorem dd_La_tuple_2 : decode cc_La_tuple 2 = .ok (.iload_n 2, 1) := by decide +kernel
theorem dd_La_tuple_3 : decode cc_La_tuple 3 = .ok (.iload_n 3, 1) := by decide +kernel
theorem dd_La_tuple_4 : decode cc_La_tuple 4 = .ok (.invokevirtual 41, 3) := by decide +kernel
theorem dd_La_tuple_7 : decode cc_La_tuple 7 = .ok (.goto 15, 3) := by decide +kernel
theorem dd_La_tuple_10 : decode cc_La_tuple 10 = .ok (.astore 4, 2) := by decide +kernel
theorem dd_La_tuple_12 : decode cc_La_tuple 12 = .ok (.iconst 1, 1) := by decide +kernel
theorem dd_La_tuple_13 : decode cc_La_tuple 13 = .ok (.ireturn, 1) := by decide +kernel
theorem dd_La_tuple_14 : decode cc_La_tuple 14 = .ok (.astore 4, 2) := by decide +kernel
theorem dd_La_tuple_16 : decode cc_La_tuple 16 = .ok (.iconst 2, 1) := by decide +kernel
theorem dd_La_tuple_17 : decode cc_La_tuple 17 = .ok (.ireturn, 1) := by decide +kernel
theorem dd_La_tuple_18 : decode cc_La_tuple 18 = .ok (.astore 4, 2) := by decide +kernel
theorem dd_La_tuple_20 : decode cc_La_tuple 20 = .ok (.iconst 3, 1) := by decide +kernel
theorem dd_La_tuple_21 : decode cc_La_tuple 21 = .ok (.ireturn, 1) := by decide +kernel
theorem dd_La_tuple_22 : decode cc_La_tuple 22 = .ok (.iconst 0, 1) := by decide +kernel
theorem dd_La_tuple_23 : decode cc_La_tuple 23 = .ok (.ireturn, 1) := by decide +kernel
theorem dd_CH_tuple_0 : decode cc_CH_tuple 0 = .ok (.aload_n 0, 1) := by decide +kernel
theorem dd_CH_tuple_1 : decode cc_CH_tuple 1 = .ok (.iload_n 1, 1) := by decide +kernel
theorem dd_CH_tuple_2 : decode cc_CH_tuple 2 = .ok (.iload_n 2, 1) := by decide +kernel
theorem dd_CH_tuple_3 : decode cc_CH_tuple 3 = .ok (.invokevirtual 115, 3) := by decide +kernel
theorem dd_CH_tuple_6 : decode cc_CH_tuple 6 = .ok (.astore 4, 2) := by decide +kernel
theorem dd_CH_tuple_8 : decode cc_CH_tuple 8 = .ok (.iload_n 3, 1) := by decide +kernel
theorem dd_CH_tuple_9 : decode cc_CH_tuple 9 = .ok (.ifCond .lt 8, 3) := by decide +kernel
theorem dd_CH_tuple_12 : decode cc_CH_tuple 12 = .ok (.iload_n 3, 1) := by decide +kernel
theorem dd_CH_tuple_13 : decode cc_CH_tuple 13 = .ok (.iconst 4, 1) := by decide +kernel
theorem dd_CH_tuple_14 : decode cc_CH_tuple 14 = .ok (.if_icmp .le 11, 3) := by decide +kernel
theorem dd_CH_tuple_17 : decode cc_CH_tuple 17 = .ok (.new 124, 3) := by decide +kernel
theorem dd_CH_tuple_20 : decode cc_CH_tuple 20 = .ok (.dup, 1) := by decide +kernel
theorem dd_CH_tuple_21 : decode cc_CH_tuple 21 = .ok (.invokespecial 126, 3) := by decide +kernel
theorem dd_CH_tuple_24 : decode cc_CH_tuple 24 = .ok (.athrow, 1) := by decide +kernel
theorem dd_CH_tuple_25 : decode cc_CH_tuple 25 = .ok (.aload_n 0, 1) := by decide +kernel
theorem dd_CH_tuple_26 : decode cc_CH_tuple 26 = .ok (.aload 4, 2) := by decide +kernel
theorem dd_CH_tuple_28 : decode cc_CH_tuple 28 = .ok (.iload_n 3, 1) := by decide +kernel
theorem dd_CH_tuple_29 : decode cc_CH_tuple 29 = .ok (.iconst 1, 1) := by decide +kernel
theorem dd_CH_tuple_30 : decode cc_CH_tuple 30 = .ok (.iadd, 1) := by decide +kernel
theorem dd_CH_tuple_31 : decode cc_CH_tuple 31 = .ok (.invokevirtual 133, 3) := by decide +kernel
theorem dd_CH_tuple_34 : decode cc_CH_tuple 34 = .ok (.aload 4, 2) := by decide +kernel
theorem dd_CH_tuple_36 : decode cc_CH_tuple 36 = .ok (.getfield 118, 3) := by decide +kernel
theorem dd_CH_tuple_39 : decode cc_CH_tuple 39 = .ok (.iload_n 2, 1) := by decide +kernel
theorem dd_CH_tuple_40 : decode cc_CH_tuple 40 = .ok (.aload 4, 2) := by decide +kernel
theorem dd_CH_tuple_42 : decode cc_CH_tuple 42 = .ok (.getfield 97, 3) := by decide +kernel
theorem dd_CH_tuple_45 : decode cc_CH_tuple 45 = .ok (.aload 4, 2) := by decide +kernel
theorem dd_CH_tuple_47 : decode cc_CH_tuple 47 = .ok (.getfield 118, 3) := by decide +kernel
theorem dd_CH_tuple_50 : decode cc_CH_tuple 50 = .ok (.iload_n 3, 1) := by decide +kernel
theorem dd_CH_tuple_51 : decode cc_CH_tuple 51 = .ok (.invokevirtual 140, 3) := by decide +kernel
theorem dd_CH_tuple_54 : decode cc_CH_tuple 54 = .ok (.iastore, 1) := by decide +kernel
theorem dd_CH_tuple_55 : decode cc_CH_tuple 55 = .ok (.return_, 1) := by decide +kernel
theorem dd_He_addTuple_0 : decode cc_He_addTuple 0 = .ok (.aload_n 0, 1) := by decide +kernel
theorem dd_He_addTuple_1 : decode cc_He_addTuple 1 = .ok (.getfield 15, 3) := by decide +kernel
theorem dd_He_addTuple_4 : decode cc_He_addTuple 4 = .ok (.aload_n 0, 1) := by decide +kernel
theorem dd_He_addTuple_5 : decode cc_He_addTuple 5 = .ok (.getfield 18, 3) := by decide +kernel
theorem dd_He_addTuple_8 : decode cc_He_addTuple 8 = .ok (.iload_n 2, 1) := by decide +kernel
theorem dd_He_addTuple_9 : decode cc_He_addTuple 9 = .ok (.iastore, 1) := by decide +kernel
theorem dd_He_addTuple_10 : decode cc_He_addTuple 10 = .ok (.iconst 0, 1) := by decide +kernel
theorem dd_He_addTuple_11 : decode cc_He_addTuple 11 = .ok (.istore_n 3, 1) := by decide +kernel
theorem dd_He_addTuple_12 : decode cc_He_addTuple 12 = .ok (.iload_n 3, 1) := by decide +kernel
theorem dd_He_addTuple_13 : decode cc_He_addTuple 13 = .ok (.iload_n 2, 1) := by decide +kernel
theorem dd_He_addTuple_14 : decode cc_He_addTuple 14 = .ok (.if_icmp .ge 25, 3) := by decide +kernel
theorem dd_He_addTuple_17 : decode cc_He_addTuple 17 = .ok (.aload_n 0, 1) := by decide +kernel
theorem dd_He_addTuple_18 : decode cc_He_addTuple 18 = .ok (.getfield 15, 3) := by decide +kernel
theorem dd_He_addTuple_21 : decode cc_He_addTuple 21 = .ok (.aload_n 0, 1) := by decide +kernel
theorem dd_He_addTuple_22 : decode cc_He_addTuple 22 = .ok (.getfield 18, 3) := by decide +kernel
theorem dd_He_addTuple_25 : decode cc_He_addTuple 25 = .ok (.iconst 1, 1) := by decide +kernel
theorem dd_He_addTuple_26 : decode cc_He_addTuple 26 = .ok (.iadd, 1) := by decide +kernel
theorem dd_He_addTuple_27 : decode cc_He_addTuple 27 = .ok (.iload_n 3, 1) := by decide +kernel
theorem dd_He_addTuple_28 : decode cc_He_addTuple 28 = .ok (.iadd, 1) := by decide +kernel
theorem dd_He_addTuple_29 : decode cc_He_addTuple 29 = .ok (.aload_n 1, 1) := by decide +kernel
theorem dd_He_addTuple_30 : decode cc_He_addTuple 30 = .ok (.iload_n 3, 1) := by decide +kernel
theorem dd_He_addTuple_31 : decode cc_He_addTuple 31 = .ok (.iaload, 1) := by decide +kernel
theorem dd_He_addTuple_32 : decode cc_He_addTuple 32 = .ok (.iastore, 1) := by decide +kernel
theorem dd_He_addTuple_33 : decode cc_He_addTuple 33 = .ok (.iinc 3 1, 3) := by decide +kernel
theorem dd_He_addTuple_36 : decode cc_He_addTuple 36 = .ok (.goto (-24), 3) := by decide +kernel
theorem dd_He_addTuple_39 : decode cc_He_addTuple 39 = .ok (.aload_n 0, 1) := by decide +kernel
theorem dd_He_addTuple_40 : decode cc_He_addTuple 40 = .ok (.iconst 4, 1) := by decide +kernel
theorem dd_He_addTuple_41 : decode cc_He_addTuple 41 = .ok (.aload_n 0, 1) := by decide +kernel
theorem dd_He_addTuple_42 : decode cc_He_addTuple 42 = .ok (.getfield 18, 3) := by decide +kernel
theorem dd_He_addTuple_45 : decode cc_He_addTuple 45 = .ok (.invokestatic 25, 3) := by decide +kernel
theorem dd_He_addTuple_48 : decode cc_He_addTuple 48 = .ok (.iload_n 2, 1) := by decide +kernel
theorem dd_He_addTuple_49 : decode cc_He_addTuple 49 = .ok (.iconst 1, 1) := by decide +kernel
theorem dd_He_addTuple_50 : decode cc_He_addTuple 50 = .ok (.iadd, 1) := by decide +kernel
theorem dd_He_addTuple_51 : decode cc_He_addTuple 51 = .ok (.invokevirtual 29, 3) := by decide +kernel
theorem dd_He_addTuple_54 : decode cc_He_addTuple 54 = .ok (.ireturn, 1) := by decide +kernel
theorem dd_La_blob_0 : decode cc_La_blob 0 = .ok (.aload_n 0, 1) := by decide +kernel
theorem dd_La_blob_1 : decode cc_La_blob 1 = .ok (.iload_n 1, 1) := by decide +kernel
theorem dd_La_blob_2 : decode cc_La_blob 2 = .ok (.iload_n 2, 1) := by decide +kernel
theorem dd_La_blob_3 : decode cc_La_blob 3 = .ok (.iload_n 3, 1) := by decide +kernel
theorem dd_La_blob_4 : decode cc_La_blob 4 = .ok (.invokevirtual 44, 3) := by decide +kernel
theorem dd_La_blob_7 : decode cc_La_blob 7 = .ok (.goto 19, 3) := by decide +kernel
theorem dd_La_blob_10 : decode cc_La_blob 10 = .ok (.astore 4, 2) := by decide +kernel
theorem dd_La_blob_12 : decode cc_La_blob 12 = .ok (.iconst 1, 1) := by decide +kernel
theorem dd_La_blob_13 : decode cc_La_blob 13 = .ok (.ireturn, 1) := by decide +kernel
theorem dd_La_blob_14 : decode cc_La_blob 14 = .ok (.astore 4, 2) := by decide +kernel
theorem dd_La_blob_16 : decode cc_La_blob 16 = .ok (.iconst 2, 1) := by decide +kernel
theorem dd_La_blob_17 : decode cc_La_blob 17 = .ok (.ireturn, 1) := by decide +kernel
theorem dd_La_blob_18 : decode cc_La_blob 18 = .ok (.astore 4, 2) := by decide +kernel
theorem dd_La_blob_20 : decode cc_La_blob 20 = .ok (.iconst 3, 1) := by decide +kernel
theorem dd_La_blob_21 : decode cc_La_blob 21 = .ok (.ireturn, 1) := by decide +kernel
theorem dd_La_blob_22 : decode cc_La_blob 22 = .ok (.astore 4, 2) := by decide +kernel
theorem dd_La_blob_24 : decode cc_La_blob 24 = .ok (.iconst 4, 1) := by decide +kernel
theorem dd_La_blob_25 : decode cc_La_blob 25 = .ok (.ireturn, 1) := by decide +kernel
theorem dd_La_blob_26 : decode cc_La_blob 26 = .ok (.iconst 0, 1) := by decide +kernel
theorem dd_La_blob_27 : decode cc_La_blob 27 = .ok (.ireturn, 1) := by decide +kernel
theorem dd_CH_blob_0 : decode cc_CH_blob 0 = .ok (.aload_n 0, 1) := by decide +kernel
theorem dd_CH_blob_1 : decode cc_CH_blob 1 = .ok (.iload_n 1, 1) := by decide +kernel
theorem dd_CH_blob_2 : decode cc_CH_blob 2 = .ok (.iload_n 2, 1) := by decide +kernel
theorem dd_CH_blob_3 : decode cc_CH_blob 3 = .ok (.invokevirtual 115, 3) := by decide +kernel
theorem dd_CH_blob_6 : decode cc_CH_blob 6 = .ok (.astore 4, 2) := by decide +kernel
theorem dd_CH_blob_8 : decode cc_CH_blob 8 = .ok (.iload_n 3, 1) := by decide +kernel
theorem dd_CH_blob_9 : decode cc_CH_blob 9 = .ok (.iconst 1, 1) := by decide +kernel
theorem dd_CH_blob_10 : decode cc_CH_blob 10 = .ok (.if_icmp .lt 9, 3) := by decide +kernel
theorem dd_CH_blob_13 : decode cc_CH_blob 13 = .ok (.iload_n 3, 1) := by decide +kernel
theorem dd_CH_blob_14 : decode cc_CH_blob 14 = .ok (.bipush 100, 2) := by decide +kernel
theorem dd_CH_blob_16 : decode cc_CH_blob 16 = .ok (.if_icmp .le 11, 3) := by decide +kernel
theorem dd_CH_blob_19 : decode cc_CH_blob 19 = .ok (.new 124, 3) := by decide +kernel
theorem dd_CH_blob_22 : decode cc_CH_blob 22 = .ok (.dup, 1) := by decide +kernel
theorem dd_CH_blob_23 : decode cc_CH_blob 23 = .ok (.invokespecial 126, 3) := by decide +kernel
theorem dd_CH_blob_26 : decode cc_CH_blob 26 = .ok (.athrow, 1) := by decide +kernel
theorem dd_CH_blob_27 : decode cc_CH_blob 27 = .ok (.aload_n 0, 1) := by decide +kernel
theorem dd_CH_blob_28 : decode cc_CH_blob 28 = .ok (.aload 4, 2) := by decide +kernel
theorem dd_CH_blob_30 : decode cc_CH_blob 30 = .ok (.iconst 2, 1) := by decide +kernel
theorem dd_CH_blob_31 : decode cc_CH_blob 31 = .ok (.invokevirtual 133, 3) := by decide +kernel
theorem dd_CH_blob_34 : decode cc_CH_blob 34 = .ok (.aload_n 0, 1) := by decide +kernel
theorem dd_CH_blob_35 : decode cc_CH_blob 35 = .ok (.getfield 27, 3) := by decide +kernel
theorem dd_CH_blob_38 : decode cc_CH_blob 38 = .ok (.getfield 66, 3) := by decide +kernel
theorem dd_CH_blob_41 : decode cc_CH_blob 41 = .ok (.iload_n 3, 1) := by decide +kernel
theorem dd_CH_blob_42 : decode cc_CH_blob 42 = .ok (.if_icmp .lt 15, 3) := by decide +kernel
theorem dd_CH_blob_45 : decode cc_CH_blob 45 = .ok (.aload_n 0, 1) := by decide +kernel
theorem dd_CH_blob_46 : decode cc_CH_blob 46 = .ok (.getfield 27, 3) := by decide +kernel
theorem dd_CH_blob_49 : decode cc_CH_blob 49 = .ok (.getfield 144, 3) := by decide +kernel
theorem dd_CH_blob_52 : decode cc_CH_blob 52 = .ok (.bipush 30, 2) := by decide +kernel
theorem dd_CH_blob_54 : decode cc_CH_blob 54 = .ok (.if_icmp .lt 11, 3) := by decide +kernel
theorem dd_CH_blob_57 : decode cc_CH_blob 57 = .ok (.new 147, 3) := by decide +kernel
theorem dd_CH_blob_60 : decode cc_CH_blob 60 = .ok (.dup, 1) := by decide +kernel
theorem dd_CH_blob_61 : decode cc_CH_blob 61 = .ok (.invokespecial 149, 3) := by decide +kernel
theorem dd_CH_blob_64 : decode cc_CH_blob 64 = .ok (.athrow, 1) := by decide +kernel
theorem dd_CH_blob_65 : decode cc_CH_blob 65 = .ok (.aload 4, 2) := by decide +kernel
theorem dd_CH_blob_67 : decode cc_CH_blob 67 = .ok (.getfield 118, 3) := by decide +kernel
theorem dd_CH_blob_70 : decode cc_CH_blob 70 = .ok (.iload_n 2, 1) := by decide +kernel
theorem dd_CH_blob_71 : decode cc_CH_blob 71 = .ok (.aload 4, 2) := by decide +kernel
theorem dd_CH_blob_73 : decode cc_CH_blob 73 = .ok (.getfield 97, 3) := by decide +kernel
theorem dd_CH_blob_76 : decode cc_CH_blob 76 = .ok (.aload_n 0, 1) := by decide +kernel
theorem dd_CH_blob_77 : decode cc_CH_blob 77 = .ok (.getfield 27, 3) := by decide +kernel
theorem dd_CH_blob_80 : decode cc_CH_blob 80 = .ok (.iload_n 3, 1) := by decide +kernel
theorem dd_CH_blob_81 : decode cc_CH_blob 81 = .ok (.invokevirtual 150, 3) := by decide +kernel
theorem dd_CH_blob_84 : decode cc_CH_blob 84 = .ok (.invokevirtual 153, 3) := by decide +kernel
theorem dd_CH_blob_87 : decode cc_CH_blob 87 = .ok (.iastore, 1) := by decide +kernel
theorem dd_CH_blob_88 : decode cc_CH_blob 88 = .ok (.return_, 1) := by decide +kernel
theorem dd_Po_makeBlob_0 : decode cc_Po_makeBlob 0 = .ok (.iconst 0, 1) := by decide +kernel
theorem dd_Po_makeBlob_1 : decode cc_Po_makeBlob 1 = .ok (.istore_n 2, 1) := by decide +kernel
theorem dd_Po_makeBlob_2 : decode cc_Po_makeBlob 2 = .ok (.iload_n 2, 1) := by decide +kernel
theorem dd_Po_makeBlob_3 : decode cc_Po_makeBlob 3 = .ok (.bipush 29, 2) := by decide +kernel
theorem dd_Po_makeBlob_5 : decode cc_Po_makeBlob 5 = .ok (.if_icmp .ge 18, 3) := by decide +kernel
theorem dd_Po_makeBlob_8 : decode cc_Po_makeBlob 8 = .ok (.aload_n 0, 1) := by decide +kernel
theorem dd_Po_makeBlob_9 : decode cc_Po_makeBlob 9 = .ok (.getfield 15, 3) := by decide +kernel
theorem dd_Po_makeBlob_12 : decode cc_Po_makeBlob 12 = .ok (.iload_n 2, 1) := by decide +kernel
theorem dd_Po_makeBlob_13 : decode cc_Po_makeBlob 13 = .ok (.iaload, 1) := by decide +kernel
theorem dd_Po_makeBlob_14 : decode cc_Po_makeBlob 14 = .ok (.ifCond .le 9, 3) := by decide +kernel
theorem dd_Po_makeBlob_17 : decode cc_Po_makeBlob 17 = .ok (.iinc 2 1, 3) := by decide +kernel
theorem dd_Po_makeBlob_20 : decode cc_Po_makeBlob 20 = .ok (.goto (-18), 3) := by decide +kernel
theorem dd_Po_makeBlob_23 : decode cc_Po_makeBlob 23 = .ok (.aload_n 0, 1) := by decide +kernel
theorem dd_Po_makeBlob_24 : decode cc_Po_makeBlob 24 = .ok (.getfield 9, 3) := by decide +kernel
theorem dd_Po_makeBlob_27 : decode cc_Po_makeBlob 27 = .ok (.iload_n 2, 1) := by decide +kernel
theorem dd_Po_makeBlob_28 : decode cc_Po_makeBlob 28 = .ok (.iload_n 1, 1) := by decide +kernel
theorem dd_Po_makeBlob_29 : decode cc_Po_makeBlob 29 = .ok (.iastore, 1) := by decide +kernel
theorem dd_Po_makeBlob_30 : decode cc_Po_makeBlob 30 = .ok (.aload_n 0, 1) := by decide +kernel
theorem dd_Po_makeBlob_31 : decode cc_Po_makeBlob 31 = .ok (.getfield 15, 3) := by decide +kernel
theorem dd_Po_makeBlob_34 : decode cc_Po_makeBlob 34 = .ok (.iload_n 2, 1) := by decide +kernel
theorem dd_Po_makeBlob_35 : decode cc_Po_makeBlob 35 = .ok (.iconst 1, 1) := by decide +kernel
theorem dd_Po_makeBlob_36 : decode cc_Po_makeBlob 36 = .ok (.iastore, 1) := by decide +kernel
theorem dd_Po_makeBlob_37 : decode cc_Po_makeBlob 37 = .ok (.aload_n 0, 1) := by decide +kernel
theorem dd_Po_makeBlob_38 : decode cc_Po_makeBlob 38 = .ok (.dup, 1) := by decide +kernel
theorem dd_Po_makeBlob_39 : decode cc_Po_makeBlob 39 = .ok (.getfield 18, 3) := by decide +kernel
theorem dd_Po_makeBlob_42 : decode cc_Po_makeBlob 42 = .ok (.iload_n 1, 1) := by decide +kernel
theorem dd_Po_makeBlob_43 : decode cc_Po_makeBlob 43 = .ok (.isub, 1) := by decide +kernel
theorem dd_Po_makeBlob_44 : decode cc_Po_makeBlob 44 = .ok (.putfield 18, 3) := by decide +kernel
theorem dd_Po_makeBlob_47 : decode cc_Po_makeBlob 47 = .ok (.aload_n 0, 1) := by decide +kernel
theorem dd_Po_makeBlob_48 : decode cc_Po_makeBlob 48 = .ok (.dup, 1) := by decide +kernel
theorem dd_Po_makeBlob_49 : decode cc_Po_makeBlob 49 = .ok (.getfield 22, 3) := by decide +kernel
theorem dd_Po_makeBlob_52 : decode cc_Po_makeBlob 52 = .ok (.iconst 1, 1) := by decide +kernel
theorem dd_Po_makeBlob_53 : decode cc_Po_makeBlob 53 = .ok (.iadd, 1) := by decide +kernel
theorem dd_Po_makeBlob_54 : decode cc_Po_makeBlob 54 = .ok (.putfield 22, 3) := by decide +kernel
theorem dd_Po_makeBlob_57 : decode cc_Po_makeBlob 57 = .ok (.iload_n 2, 1) := by decide +kernel
theorem dd_Po_makeBlob_58 : decode cc_Po_makeBlob 58 = .ok (.ireturn, 1) := by decide +kernel
theorem dd_He_addHandle_0 : decode cc_He_addHandle 0 = .ok (.aload_n 0, 1) := by decide +kernel
theorem dd_He_addHandle_1 : decode cc_He_addHandle 1 = .ok (.getfield 15, 3) := by decide +kernel
theorem dd_He_addHandle_4 : decode cc_He_addHandle 4 = .ok (.aload_n 0, 1) := by decide +kernel
theorem dd_He_addHandle_5 : decode cc_He_addHandle 5 = .ok (.getfield 18, 3) := by decide +kernel
theorem dd_He_addHandle_8 : decode cc_He_addHandle 8 = .ok (.iload_n 1, 1) := by decide +kernel
theorem dd_He_addHandle_9 : decode cc_He_addHandle 9 = .ok (.iastore, 1) := by decide +kernel
theorem dd_He_addHandle_10 : decode cc_He_addHandle 10 = .ok (.aload_n 0, 1) := by decide +kernel
theorem dd_He_addHandle_11 : decode cc_He_addHandle 11 = .ok (.iconst 5, 1) := by decide +kernel
theorem dd_He_addHandle_12 : decode cc_He_addHandle 12 = .ok (.aload_n 0, 1) := by decide +kernel
theorem dd_He_addHandle_13 : decode cc_He_addHandle 13 = .ok (.getfield 18, 3) := by decide +kernel
theorem dd_He_addHandle_16 : decode cc_He_addHandle 16 = .ok (.invokestatic 25, 3) := by decide +kernel
theorem dd_He_addHandle_19 : decode cc_He_addHandle 19 = .ok (.iconst 2, 1) := by decide +kernel
theorem dd_He_addHandle_20 : decode cc_He_addHandle 20 = .ok (.invokevirtual 29, 3) := by decide +kernel
theorem dd_He_addHandle_23 : decode cc_He_addHandle 23 = .ok (.ireturn, 1) := by decide +kernel
theorem dd_La_part_0 : decode cc_La_part 0 = .ok (.aload_n 0, 1) := by decide +kernel
theorem dd_La_part_1 : decode cc_La_part 1 = .ok (.iload_n 1, 1) := by decide +kernel
theorem dd_La_part_2 : decode cc_La_part 2 = .ok (.iload_n 2, 1) := by decide +kernel
theorem dd_La_part_3 : decode cc_La_part 3 = .ok (.iload_n 3, 1) := by decide +kernel
theorem dd_La_part_4 : decode cc_La_part 4 = .ok (.iload 4, 2) := by decide +kernel
theorem dd_La_part_6 : decode cc_La_part 6 = .ok (.invokevirtual 49, 3) := by decide +kernel
theorem dd_La_part_9 : decode cc_La_part 9 = .ok (.goto 11, 3) := by decide +kernel
theorem dd_La_part_12 : decode cc_La_part 12 = .ok (.astore 5, 2) := by decide +kernel
theorem dd_La_part_14 : decode cc_La_part 14 = .ok (.iconst 1, 1) := by decide +kernel
theorem dd_La_part_15 : decode cc_La_part 15 = .ok (.ireturn, 1) := by decide +kernel
theorem dd_La_part_16 : decode cc_La_part 16 = .ok (.astore 5, 2) := by decide +kernel
theorem dd_La_part_18 : decode cc_La_part 18 = .ok (.iconst 2, 1) := by decide +kernel
theorem dd_La_part_19 : decode cc_La_part 19 = .ok (.ireturn, 1) := by decide +kernel
theorem dd_La_part_20 : decode cc_La_part 20 = .ok (.iconst 0, 1) := by decide +kernel
theorem dd_La_part_21 : decode cc_La_part 21 = .ok (.ireturn, 1) := by decide +kernel
theorem dd_CH_part_0 : decode cc_CH_part 0 = .ok (.aload_n 0, 1) := by decide +kernel
theorem dd_CH_part_1 : decode cc_CH_part 1 = .ok (.iload_n 1, 1) := by decide +kernel
theorem dd_CH_part_2 : decode cc_CH_part 2 = .ok (.iload_n 2, 1) := by decide +kernel
theorem dd_CH_part_3 : decode cc_CH_part 3 = .ok (.invokevirtual 115, 3) := by decide +kernel
theorem dd_CH_part_6 : decode cc_CH_part 6 = .ok (.astore 5, 2) := by decide +kernel
theorem dd_CH_part_8 : decode cc_CH_part 8 = .ok (.iload_n 3, 1) := by decide +kernel
theorem dd_CH_part_9 : decode cc_CH_part 9 = .ok (.invokestatic 130, 3) := by decide +kernel
theorem dd_CH_part_12 : decode cc_CH_part 12 = .ok (.aload 5, 2) := by decide +kernel
theorem dd_CH_part_14 : decode cc_CH_part 14 = .ok (.getfield 118, 3) := by decide +kernel
theorem dd_CH_part_17 : decode cc_CH_part 17 = .ok (.iload_n 3, 1) := by decide +kernel
theorem dd_CH_part_18 : decode cc_CH_part 18 = .ok (.iaload, 1) := by decide +kernel
theorem dd_CH_part_19 : decode cc_CH_part 19 = .ok (.istore 6, 2) := by decide +kernel
theorem dd_CH_part_21 : decode cc_CH_part 21 = .ok (.iload 4, 2) := by decide +kernel
theorem dd_CH_part_23 : decode cc_CH_part 23 = .ok (.ifCond .lt 18, 3) := by decide +kernel
theorem dd_CH_part_26 : decode cc_CH_part 26 = .ok (.iload 4, 2) := by decide +kernel
theorem dd_CH_part_28 : decode cc_CH_part 28 = .ok (.aload 5, 2) := by decide +kernel
theorem dd_CH_part_30 : decode cc_CH_part 30 = .ok (.getfield 97, 3) := by decide +kernel
theorem dd_CH_part_33 : decode cc_CH_part 33 = .ok (.iload 6, 2) := by decide +kernel
theorem dd_CH_part_35 : decode cc_CH_part 35 = .ok (.invokevirtual 156, 3) := by decide +kernel
theorem dd_CH_part_38 : decode cc_CH_part 38 = .ok (.if_icmp .lt 11, 3) := by decide +kernel
theorem dd_CH_part_41 : decode cc_CH_part 41 = .ok (.new 124, 3) := by decide +kernel
theorem dd_CH_part_44 : decode cc_CH_part 44 = .ok (.dup, 1) := by decide +kernel
theorem dd_CH_part_45 : decode cc_CH_part 45 = .ok (.invokespecial 126, 3) := by decide +kernel
theorem dd_CH_part_48 : decode cc_CH_part 48 = .ok (.athrow, 1) := by decide +kernel
theorem dd_CH_part_49 : decode cc_CH_part 49 = .ok (.aload 5, 2) := by decide +kernel
theorem dd_CH_part_51 : decode cc_CH_part 51 = .ok (.getfield 118, 3) := by decide +kernel
theorem dd_CH_part_54 : decode cc_CH_part 54 = .ok (.iload_n 2, 1) := by decide +kernel
theorem dd_CH_part_55 : decode cc_CH_part 55 = .ok (.aload 5, 2) := by decide +kernel
theorem dd_CH_part_57 : decode cc_CH_part 57 = .ok (.getfield 97, 3) := by decide +kernel
theorem dd_CH_part_60 : decode cc_CH_part 60 = .ok (.iload 6, 2) := by decide +kernel
theorem dd_CH_part_62 : decode cc_CH_part 62 = .ok (.iload 4, 2) := by decide +kernel
theorem dd_CH_part_64 : decode cc_CH_part 64 = .ok (.invokevirtual 159, 3) := by decide +kernel
theorem dd_CH_part_67 : decode cc_CH_part 67 = .ok (.iastore, 1) := by decide +kernel
theorem dd_CH_part_68 : decode cc_CH_part 68 = .ok (.return_, 1) := by decide +kernel
theorem dd_La_send_0 : decode cc_La_send 0 = .ok (.aload 4, 2) := by decide +kernel
theorem dd_La_send_2 : decode cc_La_send 2 = .ok (.iconst 0, 1) := by decide +kernel
theorem dd_La_send_3 : decode cc_La_send 3 = .ok (.aload_n 0, 1) := by decide +kernel
theorem dd_La_send_4 : decode cc_La_send 4 = .ok (.iload_n 1, 1) := by decide +kernel
theorem dd_La_send_5 : decode cc_La_send 5 = .ok (.iload_n 2, 1) := by decide +kernel
theorem dd_La_send_6 : decode cc_La_send 6 = .ok (.iload_n 3, 1) := by decide +kernel
theorem dd_La_send_7 : decode cc_La_send 7 = .ok (.invokevirtual 52, 3) := by decide +kernel
theorem dd_La_send_10 : decode cc_La_send 10 = .ok (.ifCond .eq 7, 3) := by decide +kernel
theorem dd_La_send_13 : decode cc_La_send 13 = .ok (.lconst 1, 1) := by decide +kernel
theorem dd_La_send_14 : decode cc_La_send 14 = .ok (.goto 4, 3) := by decide +kernel
theorem dd_La_send_17 : decode cc_La_send 17 = .ok (.lconst 0, 1) := by decide +kernel
theorem dd_La_send_18 : decode cc_La_send 18 = .ok (.lastore, 1) := by decide +kernel
theorem dd_La_send_19 : decode cc_La_send 19 = .ok (.goto 11, 3) := by decide +kernel
theorem dd_La_send_22 : decode cc_La_send 22 = .ok (.astore 5, 2) := by decide +kernel
theorem dd_La_send_24 : decode cc_La_send 24 = .ok (.iconst 1, 1) := by decide +kernel
theorem dd_La_send_25 : decode cc_La_send 25 = .ok (.ireturn, 1) := by decide +kernel
theorem dd_La_send_26 : decode cc_La_send 26 = .ok (.astore 5, 2) := by decide +kernel
theorem dd_La_send_28 : decode cc_La_send 28 = .ok (.iconst 2, 1) := by decide +kernel
theorem dd_La_send_29 : decode cc_La_send 29 = .ok (.ireturn, 1) := by decide +kernel
theorem dd_La_send_30 : decode cc_La_send 30 = .ok (.iconst 0, 1) := by decide +kernel
theorem dd_La_send_31 : decode cc_La_send 31 = .ok (.ireturn, 1) := by decide +kernel
theorem dd_CH_send_0 : decode cc_CH_send 0 = .ok (.aload_n 0, 1) := by decide +kernel
theorem dd_CH_send_1 : decode cc_CH_send 1 = .ok (.iload_n 1, 1) := by decide +kernel
theorem dd_CH_send_2 : decode cc_CH_send 2 = .ok (.iload_n 2, 1) := by decide +kernel
theorem dd_CH_send_3 : decode cc_CH_send 3 = .ok (.invokevirtual 115, 3) := by decide +kernel
theorem dd_CH_send_6 : decode cc_CH_send 6 = .ok (.astore 4, 2) := by decide +kernel
theorem dd_CH_send_8 : decode cc_CH_send 8 = .ok (.aload_n 0, 1) := by decide +kernel
theorem dd_CH_send_9 : decode cc_CH_send 9 = .ok (.iload_n 3, 1) := by decide +kernel
theorem dd_CH_send_10 : decode cc_CH_send 10 = .ok (.invokevirtual 111, 3) := by decide +kernel
theorem dd_CH_send_13 : decode cc_CH_send 13 = .ok (.istore 5, 2) := by decide +kernel
theorem dd_CH_send_15 : decode cc_CH_send 15 = .ok (.iload 5, 2) := by decide +kernel
theorem dd_CH_send_17 : decode cc_CH_send 17 = .ok (.ifCond .ge 5, 3) := by decide +kernel
theorem dd_CH_send_20 : decode cc_CH_send 20 = .ok (.iconst 0, 1) := by decide +kernel
theorem dd_CH_send_21 : decode cc_CH_send 21 = .ok (.ireturn, 1) := by decide +kernel
theorem dd_CH_send_22 : decode cc_CH_send 22 = .ok (.aload_n 0, 1) := by decide +kernel
theorem dd_CH_send_23 : decode cc_CH_send 23 = .ok (.aload 4, 2) := by decide +kernel
theorem dd_CH_send_25 : decode cc_CH_send 25 = .ok (.aload 4, 2) := by decide +kernel
theorem dd_CH_send_27 : decode cc_CH_send 27 = .ok (.getfield 118, 3) := by decide +kernel
theorem dd_CH_send_30 : decode cc_CH_send 30 = .ok (.iload_n 2, 1) := by decide +kernel
theorem dd_CH_send_31 : decode cc_CH_send 31 = .ok (.iaload, 1) := by decide +kernel
theorem dd_CH_send_32 : decode cc_CH_send 32 = .ok (.aload_n 0, 1) := by decide +kernel
theorem dd_CH_send_33 : decode cc_CH_send 33 = .ok (.getfield 34, 3) := by decide +kernel
theorem dd_CH_send_36 : decode cc_CH_send 36 = .ok (.iload 5, 2) := by decide +kernel
theorem dd_CH_send_38 : decode cc_CH_send 38 = .ok (.invokevirtual 162, 3) := by decide +kernel
theorem dd_CH_send_41 : decode cc_CH_send 41 = .ok (.checkcast 76, 3) := by decide +kernel
theorem dd_CH_send_44 : decode cc_CH_send 44 = .ok (.invokevirtual 165, 3) := by decide +kernel
theorem dd_CH_send_47 : decode cc_CH_send 47 = .ok (.ifCond .ne 11, 3) := by decide +kernel
theorem dd_CH_send_50 : decode cc_CH_send 50 = .ok (.new 69, 3) := by decide +kernel
theorem dd_CH_send_53 : decode cc_CH_send 53 = .ok (.dup, 1) := by decide +kernel
theorem dd_CH_send_54 : decode cc_CH_send 54 = .ok (.invokespecial 71, 3) := by decide +kernel
theorem dd_CH_send_57 : decode cc_CH_send 57 = .ok (.athrow, 1) := by decide +kernel
theorem dd_CH_send_58 : decode cc_CH_send 58 = .ok (.iconst 1, 1) := by decide +kernel
theorem dd_CH_send_59 : decode cc_CH_send 59 = .ok (.ireturn, 1) := by decide +kernel
theorem dd_CH_deliver_0 : decode cc_CH_deliver 0 = .ok (.aload_n 3, 1) := by decide +kernel
theorem dd_CH_deliver_1 : decode cc_CH_deliver 1 = .ok (.getfield 169, 3) := by decide +kernel
theorem dd_CH_deliver_4 : decode cc_CH_deliver 4 = .ok (.invokevirtual 253, 3) := by decide +kernel
theorem dd_CH_deliver_7 : decode cc_CH_deliver 7 = .ok (.ifCond .eq 5, 3) := by decide +kernel
theorem dd_CH_deliver_10 : decode cc_CH_deliver 10 = .ok (.iconst 0, 1) := by decide +kernel
theorem dd_CH_deliver_11 : decode cc_CH_deliver 11 = .ok (.ireturn, 1) := by decide +kernel
theorem dd_CH_deliver_12 : decode cc_CH_deliver 12 = .ok (.aload_n 3, 1) := by decide +kernel
theorem dd_CH_deliver_13 : decode cc_CH_deliver 13 = .ok (.aload_n 1, 1) := by decide +kernel
theorem dd_CH_deliver_14 : decode cc_CH_deliver 14 = .ok (.if_acmp .ne 13, 3) := by decide +kernel
theorem dd_CH_deliver_17 : decode cc_CH_deliver 17 = .ok (.aload_n 3, 1) := by decide +kernel
theorem dd_CH_deliver_18 : decode cc_CH_deliver 18 = .ok (.getfield 169, 3) := by decide +kernel
theorem dd_CH_deliver_21 : decode cc_CH_deliver 21 = .ok (.iload_n 2, 1) := by decide +kernel
theorem dd_CH_deliver_22 : decode cc_CH_deliver 22 = .ok (.invokevirtual 256, 3) := by decide +kernel
theorem dd_CH_deliver_25 : decode cc_CH_deliver 25 = .ok (.iconst 1, 1) := by decide +kernel
theorem dd_CH_deliver_26 : decode cc_CH_deliver 26 = .ok (.ireturn, 1) := by decide +kernel
theorem dd_CH_deliver_27 : decode cc_CH_deliver 27 = .ok (.aload_n 0, 1) := by decide +kernel
theorem dd_CH_deliver_28 : decode cc_CH_deliver 28 = .ok (.aload_n 3, 1) := by decide +kernel
theorem dd_CH_deliver_29 : decode cc_CH_deliver 29 = .ok (.aload_n 0, 1) := by decide +kernel
theorem dd_CH_deliver_30 : decode cc_CH_deliver 30 = .ok (.aload_n 1, 1) := by decide +kernel
theorem dd_CH_deliver_31 : decode cc_CH_deliver 31 = .ok (.getfield 97, 3) := by decide +kernel
theorem dd_CH_deliver_34 : decode cc_CH_deliver 34 = .ok (.iload_n 2, 1) := by decide +kernel
theorem dd_CH_deliver_35 : decode cc_CH_deliver 35 = .ok (.invokevirtual 209, 3) := by decide +kernel
theorem dd_CH_deliver_38 : decode cc_CH_deliver 38 = .ok (.invokevirtual 231, 3) := by decide +kernel
theorem dd_CH_deliver_41 : decode cc_CH_deliver 41 = .ok (.ifCond .ne 5, 3) := by decide +kernel
theorem dd_CH_deliver_44 : decode cc_CH_deliver 44 = .ok (.iconst 0, 1) := by decide +kernel
theorem dd_CH_deliver_45 : decode cc_CH_deliver 45 = .ok (.ireturn, 1) := by decide +kernel
theorem dd_CH_deliver_46 : decode cc_CH_deliver 46 = .ok (.aload_n 0, 1) := by decide +kernel
theorem dd_CH_deliver_47 : decode cc_CH_deliver 47 = .ok (.getfield 44, 3) := by decide +kernel
theorem dd_CH_deliver_50 : decode cc_CH_deliver 50 = .ok (.aload_n 1, 1) := by decide +kernel
theorem dd_CH_deliver_51 : decode cc_CH_deliver 51 = .ok (.getfield 97, 3) := by decide +kernel
theorem dd_CH_deliver_54 : decode cc_CH_deliver 54 = .ok (.aload_n 3, 1) := by decide +kernel
theorem dd_CH_deliver_55 : decode cc_CH_deliver 55 = .ok (.getfield 97, 3) := by decide +kernel
theorem dd_CH_deliver_58 : decode cc_CH_deliver 58 = .ok (.invokevirtual 100, 3) := by decide +kernel
theorem dd_CH_deliver_61 : decode cc_CH_deliver 61 = .ok (.aload_n 3, 1) := by decide +kernel
theorem dd_CH_deliver_62 : decode cc_CH_deliver 62 = .ok (.getfield 169, 3) := by decide +kernel
theorem dd_CH_deliver_65 : decode cc_CH_deliver 65 = .ok (.aload_n 0, 1) := by decide +kernel
theorem dd_CH_deliver_66 : decode cc_CH_deliver 66 = .ok (.getfield 44, 3) := by decide +kernel
theorem dd_CH_deliver_69 : decode cc_CH_deliver 69 = .ok (.iload_n 2, 1) := by decide +kernel
theorem dd_CH_deliver_70 : decode cc_CH_deliver 70 = .ok (.invokevirtual 241, 3) := by decide +kernel
theorem dd_CH_deliver_73 : decode cc_CH_deliver 73 = .ok (.invokevirtual 256, 3) := by decide +kernel
theorem dd_CH_deliver_76 : decode cc_CH_deliver 76 = .ok (.aload_n 0, 1) := by decide +kernel
theorem dd_CH_deliver_77 : decode cc_CH_deliver 77 = .ok (.getfield 44, 3) := by decide +kernel
theorem dd_CH_deliver_80 : decode cc_CH_deliver 80 = .ok (.invokevirtual 250, 3) := by decide +kernel
theorem dd_CH_deliver_83 : decode cc_CH_deliver 83 = .ok (.aload_n 0, 1) := by decide +kernel
theorem dd_CH_deliver_84 : decode cc_CH_deliver 84 = .ok (.getfield 44, 3) := by decide +kernel
theorem dd_CH_deliver_87 : decode cc_CH_deliver 87 = .ok (.aload_n 0, 1) := by decide +kernel
theorem dd_CH_deliver_88 : decode cc_CH_deliver 88 = .ok (.getfield 27, 3) := by decide +kernel
theorem dd_CH_deliver_91 : decode cc_CH_deliver 91 = .ok (.invokevirtual 259, 3) := by decide +kernel
theorem dd_CH_deliver_94 : decode cc_CH_deliver 94 = .ok (.iconst 1, 1) := by decide +kernel
theorem dd_CH_deliver_95 : decode cc_CH_deliver 95 = .ok (.ireturn, 1) := by decide +kernel
theorem dd_Ma_isFull_0 : decode cc_Ma_isFull 0 = .ok (.aload_n 0, 1) := by decide +kernel
theorem dd_Ma_isFull_1 : decode cc_Ma_isFull 1 = .ok (.getfield 19, 3) := by decide +kernel
theorem dd_Ma_isFull_4 : decode cc_Ma_isFull 4 = .ok (.sipush 512, 3) := by decide +kernel
theorem dd_Ma_isFull_7 : decode cc_Ma_isFull 7 = .ok (.if_icmp .lt 7, 3) := by decide +kernel
theorem dd_Ma_isFull_10 : decode cc_Ma_isFull 10 = .ok (.iconst 1, 1) := by decide +kernel
theorem dd_Ma_isFull_11 : decode cc_Ma_isFull 11 = .ok (.goto 4, 3) := by decide +kernel
theorem dd_Ma_isFull_14 : decode cc_Ma_isFull 14 = .ok (.iconst 0, 1) := by decide +kernel
theorem dd_Ma_isFull_15 : decode cc_Ma_isFull 15 = .ok (.ireturn, 1) := by decide +kernel
theorem dd_Ma_addLast_0 : decode cc_Ma_addLast 0 = .ok (.aload_n 0, 1) := by decide +kernel
theorem dd_Ma_addLast_1 : decode cc_Ma_addLast 1 = .ok (.dup, 1) := by decide +kernel
theorem dd_Ma_addLast_2 : decode cc_Ma_addLast 2 = .ok (.getfield 19, 3) := by decide +kernel
theorem dd_Ma_addLast_5 : decode cc_Ma_addLast 5 = .ok (.iconst 1, 1) := by decide +kernel
theorem dd_Ma_addLast_6 : decode cc_Ma_addLast 6 = .ok (.iadd, 1) := by decide +kernel
theorem dd_Ma_addLast_7 : decode cc_Ma_addLast 7 = .ok (.putfield 19, 3) := by decide +kernel
theorem dd_Ma_addLast_10 : decode cc_Ma_addLast 10 = .ok (.aload_n 0, 1) := by decide +kernel
theorem dd_Ma_addLast_11 : decode cc_Ma_addLast 11 = .ok (.aload_n 0, 1) := by decide +kernel
theorem dd_Ma_addLast_12 : decode cc_Ma_addLast 12 = .ok (.getfield 19, 3) := by decide +kernel
theorem dd_Ma_addLast_15 : decode cc_Ma_addLast 15 = .ok (.iconst 1, 1) := by decide +kernel
theorem dd_Ma_addLast_16 : decode cc_Ma_addLast 16 = .ok (.isub, 1) := by decide +kernel
theorem dd_Ma_addLast_17 : decode cc_Ma_addLast 17 = .ok (.iload_n 1, 1) := by decide +kernel
theorem dd_Ma_addLast_18 : decode cc_Ma_addLast 18 = .ok (.invokevirtual 22, 3) := by decide +kernel
theorem dd_Ma_addLast_21 : decode cc_Ma_addLast 21 = .ok (.return_, 1) := by decide +kernel
theorem dd_CH_wordsLedTo_0 : decode cc_CH_wordsLedTo 0 = .ok (.aload_n 0, 1) := by decide +kernel
theorem dd_CH_wordsLedTo_1 : decode cc_CH_wordsLedTo 1 = .ok (.getfield 58, 3) := by decide +kernel
theorem dd_CH_wordsLedTo_4 : decode cc_CH_wordsLedTo 4 = .ok (.invokevirtual 238, 3) := by decide +kernel
theorem dd_CH_wordsLedTo_7 : decode cc_CH_wordsLedTo 7 = .ok (.aload_n 0, 1) := by decide +kernel
theorem dd_CH_wordsLedTo_8 : decode cc_CH_wordsLedTo 8 = .ok (.getfield 44, 3) := by decide +kernel
theorem dd_CH_wordsLedTo_11 : decode cc_CH_wordsLedTo 11 = .ok (.aload_n 1, 1) := by decide +kernel
theorem dd_CH_wordsLedTo_12 : decode cc_CH_wordsLedTo 12 = .ok (.aload_n 0, 1) := by decide +kernel
theorem dd_CH_wordsLedTo_13 : decode cc_CH_wordsLedTo 13 = .ok (.getfield 58, 3) := by decide +kernel
theorem dd_CH_wordsLedTo_16 : decode cc_CH_wordsLedTo 16 = .ok (.invokevirtual 100, 3) := by decide +kernel
theorem dd_CH_wordsLedTo_19 : decode cc_CH_wordsLedTo 19 = .ok (.aload_n 0, 1) := by decide +kernel
theorem dd_CH_wordsLedTo_20 : decode cc_CH_wordsLedTo 20 = .ok (.getfield 44, 3) := by decide +kernel
theorem dd_CH_wordsLedTo_23 : decode cc_CH_wordsLedTo 23 = .ok (.iload_n 2, 1) := by decide +kernel
theorem dd_CH_wordsLedTo_24 : decode cc_CH_wordsLedTo 24 = .ok (.invokevirtual 241, 3) := by decide +kernel
theorem dd_CH_wordsLedTo_27 : decode cc_CH_wordsLedTo 27 = .ok (.pop, 1) := by decide +kernel
theorem dd_CH_wordsLedTo_28 : decode cc_CH_wordsLedTo 28 = .ok (.aload_n 0, 1) := by decide +kernel
theorem dd_CH_wordsLedTo_29 : decode cc_CH_wordsLedTo 29 = .ok (.getfield 44, 3) := by decide +kernel
theorem dd_CH_wordsLedTo_32 : decode cc_CH_wordsLedTo 32 = .ok (.invokevirtual 250, 3) := by decide +kernel
theorem dd_CH_wordsLedTo_35 : decode cc_CH_wordsLedTo 35 = .ok (.aload_n 0, 1) := by decide +kernel
theorem dd_CH_wordsLedTo_36 : decode cc_CH_wordsLedTo 36 = .ok (.getfield 58, 3) := by decide +kernel
theorem dd_CH_wordsLedTo_39 : decode cc_CH_wordsLedTo 39 = .ok (.getfield 180, 3) := by decide +kernel
theorem dd_CH_wordsLedTo_42 : decode cc_CH_wordsLedTo 42 = .ok (.ireturn, 1) := by decide +kernel
theorem dd_Ca_countHandlesCarried_0 : decode cc_Ca_countHandlesCarried 0 = .ok (.aload_n 0, 1) := by decide +kernel
theorem dd_Ca_countHandlesCarried_1 : decode cc_Ca_countHandlesCarried 1 = .ok (.getfield 28, 3) := by decide +kernel
theorem dd_Ca_countHandlesCarried_4 : decode cc_Ca_countHandlesCarried 4 = .ok (.istore_n 2, 1) := by decide +kernel
theorem dd_Ca_countHandlesCarried_5 : decode cc_Ca_countHandlesCarried 5 = .ok (.iload_n 2, 1) := by decide +kernel
theorem dd_Ca_countHandlesCarried_6 : decode cc_Ca_countHandlesCarried 6 = .ok (.aload_n 0, 1) := by decide +kernel
theorem dd_Ca_countHandlesCarried_7 : decode cc_Ca_countHandlesCarried 7 = .ok (.getfield 19, 3) := by decide +kernel
theorem dd_Ca_countHandlesCarried_10 : decode cc_Ca_countHandlesCarried 10 = .ok (.getfield 22, 3) := by decide +kernel
theorem dd_Ca_countHandlesCarried_13 : decode cc_Ca_countHandlesCarried 13 = .ok (.if_icmp .ge 45, 3) := by decide +kernel
theorem dd_Ca_countHandlesCarried_16 : decode cc_Ca_countHandlesCarried 16 = .ok (.aload_n 0, 1) := by decide +kernel
theorem dd_Ca_countHandlesCarried_17 : decode cc_Ca_countHandlesCarried 17 = .ok (.getfield 19, 3) := by decide +kernel
theorem dd_Ca_countHandlesCarried_20 : decode cc_Ca_countHandlesCarried 20 = .ok (.getfield 49, 3) := by decide +kernel
theorem dd_Ca_countHandlesCarried_23 : decode cc_Ca_countHandlesCarried 23 = .ok (.iload_n 2, 1) := by decide +kernel
theorem dd_Ca_countHandlesCarried_24 : decode cc_Ca_countHandlesCarried 24 = .ok (.iaload, 1) := by decide +kernel
theorem dd_Ca_countHandlesCarried_25 : decode cc_Ca_countHandlesCarried 25 = .ok (.invokestatic 66, 3) := by decide +kernel
theorem dd_Ca_countHandlesCarried_28 : decode cc_Ca_countHandlesCarried 28 = .ok (.iconst 5, 1) := by decide +kernel
theorem dd_Ca_countHandlesCarried_29 : decode cc_Ca_countHandlesCarried 29 = .ok (.if_icmp .ne 23, 3) := by decide +kernel
theorem dd_Ca_countHandlesCarried_32 : decode cc_Ca_countHandlesCarried 32 = .ok (.aload_n 1, 1) := by decide +kernel
theorem dd_Ca_countHandlesCarried_33 : decode cc_Ca_countHandlesCarried 33 = .ok (.aload_n 0, 1) := by decide +kernel
theorem dd_Ca_countHandlesCarried_34 : decode cc_Ca_countHandlesCarried 34 = .ok (.getfield 19, 3) := by decide +kernel
theorem dd_Ca_countHandlesCarried_37 : decode cc_Ca_countHandlesCarried 37 = .ok (.aload_n 0, 1) := by decide +kernel
theorem dd_Ca_countHandlesCarried_38 : decode cc_Ca_countHandlesCarried 38 = .ok (.getfield 19, 3) := by decide +kernel
theorem dd_Ca_countHandlesCarried_41 : decode cc_Ca_countHandlesCarried 41 = .ok (.getfield 49, 3) := by decide +kernel
theorem dd_Ca_countHandlesCarried_44 : decode cc_Ca_countHandlesCarried 44 = .ok (.iload_n 2, 1) := by decide +kernel
theorem dd_Ca_countHandlesCarried_45 : decode cc_Ca_countHandlesCarried 45 = .ok (.iaload, 1) := by decide +kernel
theorem dd_Ca_countHandlesCarried_46 : decode cc_Ca_countHandlesCarried 46 = .ok (.invokevirtual 69, 3) := by decide +kernel
theorem dd_Ca_countHandlesCarried_49 : decode cc_Ca_countHandlesCarried 49 = .ok (.invokevirtual 72, 3) := by decide +kernel
theorem dd_Ca_countHandlesCarried_52 : decode cc_Ca_countHandlesCarried 52 = .ok (.iinc 2 1, 3) := by decide +kernel
theorem dd_Ca_countHandlesCarried_55 : decode cc_Ca_countHandlesCarried 55 = .ok (.goto (-50), 3) := by decide +kernel
theorem dd_Ca_countHandlesCarried_58 : decode cc_Ca_countHandlesCarried 58 = .ok (.return_, 1) := by decide +kernel
theorem dd_Po_countHandle_0 : decode cc_Po_countHandle 0 = .ok (.aload_n 0, 1) := by decide +kernel
theorem dd_Po_countHandle_1 : decode cc_Po_countHandle 1 = .ok (.getfield 15, 3) := by decide +kernel
theorem dd_Po_countHandle_4 : decode cc_Po_countHandle 4 = .ok (.iload_n 1, 1) := by decide +kernel
theorem dd_Po_countHandle_5 : decode cc_Po_countHandle 5 = .ok (.dup2, 1) := by decide +kernel
theorem dd_Po_countHandle_6 : decode cc_Po_countHandle 6 = .ok (.iaload, 1) := by decide +kernel
theorem dd_Po_countHandle_7 : decode cc_Po_countHandle 7 = .ok (.iconst 1, 1) := by decide +kernel
theorem dd_Po_countHandle_8 : decode cc_Po_countHandle 8 = .ok (.iadd, 1) := by decide +kernel
theorem dd_Po_countHandle_9 : decode cc_Po_countHandle 9 = .ok (.iastore, 1) := by decide +kernel
theorem dd_Po_countHandle_10 : decode cc_Po_countHandle 10 = .ok (.return_, 1) := by decide +kernel
theorem dd_La_broadcast_0 : decode cc_La_broadcast 0 = .ok (.aload_n 3, 1) := by decide +kernel
theorem dd_La_broadcast_1 : decode cc_La_broadcast 1 = .ok (.iconst 0, 1) := by decide +kernel
theorem dd_La_broadcast_2 : decode cc_La_broadcast 2 = .ok (.aload_n 0, 1) := by decide +kernel
theorem dd_La_broadcast_3 : decode cc_La_broadcast 3 = .ok (.iload_n 1, 1) := by decide +kernel
theorem dd_La_broadcast_4 : decode cc_La_broadcast 4 = .ok (.iload_n 2, 1) := by decide +kernel
theorem dd_La_broadcast_5 : decode cc_La_broadcast 5 = .ok (.invokevirtual 56, 3) := by decide +kernel
theorem dd_La_broadcast_8 : decode cc_La_broadcast 8 = .ok (.i2l, 1) := by decide +kernel
theorem dd_La_broadcast_9 : decode cc_La_broadcast 9 = .ok (.lastore, 1) := by decide +kernel
theorem dd_La_broadcast_10 : decode cc_La_broadcast 10 = .ok (.goto 7, 3) := by decide +kernel
theorem dd_La_broadcast_13 : decode cc_La_broadcast 13 = .ok (.astore 4, 2) := by decide +kernel
theorem dd_La_broadcast_15 : decode cc_La_broadcast 15 = .ok (.iconst 1, 1) := by decide +kernel
theorem dd_La_broadcast_16 : decode cc_La_broadcast 16 = .ok (.ireturn, 1) := by decide +kernel
theorem dd_La_broadcast_17 : decode cc_La_broadcast 17 = .ok (.iconst 0, 1) := by decide +kernel
theorem dd_La_broadcast_18 : decode cc_La_broadcast 18 = .ok (.ireturn, 1) := by decide +kernel
theorem dd_CH_broadcast_0 : decode cc_CH_broadcast 0 = .ok (.aload_n 0, 1) := by decide +kernel
theorem dd_CH_broadcast_1 : decode cc_CH_broadcast 1 = .ok (.iload_n 1, 1) := by decide +kernel
theorem dd_CH_broadcast_2 : decode cc_CH_broadcast 2 = .ok (.iload_n 2, 1) := by decide +kernel
theorem dd_CH_broadcast_3 : decode cc_CH_broadcast 3 = .ok (.invokevirtual 115, 3) := by decide +kernel
theorem dd_CH_broadcast_6 : decode cc_CH_broadcast 6 = .ok (.astore_n 3, 1) := by decide +kernel
theorem dd_CH_broadcast_7 : decode cc_CH_broadcast 7 = .ok (.iconst 0, 1) := by decide +kernel
theorem dd_CH_broadcast_8 : decode cc_CH_broadcast 8 = .ok (.istore 4, 2) := by decide +kernel
theorem dd_CH_broadcast_10 : decode cc_CH_broadcast 10 = .ok (.iconst 0, 1) := by decide +kernel
theorem dd_CH_broadcast_11 : decode cc_CH_broadcast 11 = .ok (.istore 5, 2) := by decide +kernel
theorem dd_CH_broadcast_13 : decode cc_CH_broadcast 13 = .ok (.iload 5, 2) := by decide +kernel
theorem dd_CH_broadcast_15 : decode cc_CH_broadcast 15 = .ok (.aload_n 0, 1) := by decide +kernel
theorem dd_CH_broadcast_16 : decode cc_CH_broadcast 16 = .ok (.getfield 34, 3) := by decide +kernel
theorem dd_CH_broadcast_19 : decode cc_CH_broadcast 19 = .ok (.invokevirtual 62, 3) := by decide +kernel
theorem dd_CH_broadcast_22 : decode cc_CH_broadcast 22 = .ok (.if_icmp .ge 48, 3) := by decide +kernel
theorem dd_CH_broadcast_25 : decode cc_CH_broadcast 25 = .ok (.aload_n 0, 1) := by decide +kernel
theorem dd_CH_broadcast_26 : decode cc_CH_broadcast 26 = .ok (.getfield 34, 3) := by decide +kernel
theorem dd_CH_broadcast_29 : decode cc_CH_broadcast 29 = .ok (.iload 5, 2) := by decide +kernel
theorem dd_CH_broadcast_31 : decode cc_CH_broadcast 31 = .ok (.invokevirtual 162, 3) := by decide +kernel
theorem dd_CH_broadcast_34 : decode cc_CH_broadcast 34 = .ok (.checkcast 76, 3) := by decide +kernel
theorem dd_CH_broadcast_37 : decode cc_CH_broadcast 37 = .ok (.astore 6, 2) := by decide +kernel
theorem dd_CH_broadcast_39 : decode cc_CH_broadcast 39 = .ok (.aload 6, 2) := by decide +kernel
theorem dd_CH_broadcast_41 : decode cc_CH_broadcast 41 = .ok (.aload_n 3, 1) := by decide +kernel
theorem dd_CH_broadcast_42 : decode cc_CH_broadcast 42 = .ok (.if_acmp .eq 22, 3) := by decide +kernel
theorem dd_CH_broadcast_45 : decode cc_CH_broadcast 45 = .ok (.aload_n 0, 1) := by decide +kernel
theorem dd_CH_broadcast_46 : decode cc_CH_broadcast 46 = .ok (.aload_n 3, 1) := by decide +kernel
theorem dd_CH_broadcast_47 : decode cc_CH_broadcast 47 = .ok (.aload_n 3, 1) := by decide +kernel
theorem dd_CH_broadcast_48 : decode cc_CH_broadcast 48 = .ok (.getfield 118, 3) := by decide +kernel
theorem dd_CH_broadcast_51 : decode cc_CH_broadcast 51 = .ok (.iload_n 2, 1) := by decide +kernel
theorem dd_CH_broadcast_52 : decode cc_CH_broadcast 52 = .ok (.iaload, 1) := by decide +kernel
theorem dd_CH_broadcast_53 : decode cc_CH_broadcast 53 = .ok (.aload 6, 2) := by decide +kernel
theorem dd_CH_broadcast_55 : decode cc_CH_broadcast 55 = .ok (.invokevirtual 165, 3) := by decide +kernel
theorem dd_CH_broadcast_58 : decode cc_CH_broadcast 58 = .ok (.ifCond .eq 6, 3) := by decide +kernel
theorem dd_CH_broadcast_61 : decode cc_CH_broadcast 61 = .ok (.iinc 4 1, 3) := by decide +kernel
theorem dd_CH_broadcast_64 : decode cc_CH_broadcast 64 = .ok (.iinc 5 1, 3) := by decide +kernel
theorem dd_CH_broadcast_67 : decode cc_CH_broadcast 67 = .ok (.goto (-54), 3) := by decide +kernel
theorem dd_CH_broadcast_70 : decode cc_CH_broadcast 70 = .ok (.iload 4, 2) := by decide +kernel
theorem dd_CH_broadcast_72 : decode cc_CH_broadcast 72 = .ok (.ireturn, 1) := by decide +kernel
theorem dd_La_receive_0 : decode cc_La_receive 0 = .ok (.aload_n 3, 1) := by decide +kernel
theorem dd_La_receive_1 : decode cc_La_receive 1 = .ok (.iconst 0, 1) := by decide +kernel
theorem dd_La_receive_2 : decode cc_La_receive 2 = .ok (.aload_n 0, 1) := by decide +kernel
theorem dd_La_receive_3 : decode cc_La_receive 3 = .ok (.iload_n 1, 1) := by decide +kernel
theorem dd_La_receive_4 : decode cc_La_receive 4 = .ok (.iload_n 2, 1) := by decide +kernel
theorem dd_La_receive_5 : decode cc_La_receive 5 = .ok (.invokevirtual 60, 3) := by decide +kernel
theorem dd_La_receive_8 : decode cc_La_receive 8 = .ok (.i2l, 1) := by decide +kernel
theorem dd_La_receive_9 : decode cc_La_receive 9 = .ok (.lastore, 1) := by decide +kernel
theorem dd_La_receive_10 : decode cc_La_receive 10 = .ok (.goto 11, 3) := by decide +kernel
theorem dd_La_receive_13 : decode cc_La_receive 13 = .ok (.astore 4, 2) := by decide +kernel
theorem dd_La_receive_15 : decode cc_La_receive 15 = .ok (.iconst 1, 1) := by decide +kernel
theorem dd_La_receive_16 : decode cc_La_receive 16 = .ok (.ireturn, 1) := by decide +kernel
theorem dd_La_receive_17 : decode cc_La_receive 17 = .ok (.astore 4, 2) := by decide +kernel
theorem dd_La_receive_19 : decode cc_La_receive 19 = .ok (.iconst 2, 1) := by decide +kernel
theorem dd_La_receive_20 : decode cc_La_receive 20 = .ok (.ireturn, 1) := by decide +kernel
theorem dd_La_receive_21 : decode cc_La_receive 21 = .ok (.iconst 0, 1) := by decide +kernel
theorem dd_La_receive_22 : decode cc_La_receive 22 = .ok (.ireturn, 1) := by decide +kernel
theorem dd_CH_receive_0 : decode cc_CH_receive 0 = .ok (.aload_n 0, 1) := by decide +kernel
theorem dd_CH_receive_1 : decode cc_CH_receive 1 = .ok (.iload_n 1, 1) := by decide +kernel
theorem dd_CH_receive_2 : decode cc_CH_receive 2 = .ok (.iload_n 2, 1) := by decide +kernel
theorem dd_CH_receive_3 : decode cc_CH_receive 3 = .ok (.invokevirtual 115, 3) := by decide +kernel
theorem dd_CH_receive_6 : decode cc_CH_receive 6 = .ok (.astore_n 3, 1) := by decide +kernel
theorem dd_CH_receive_7 : decode cc_CH_receive 7 = .ok (.aload_n 3, 1) := by decide +kernel
theorem dd_CH_receive_8 : decode cc_CH_receive 8 = .ok (.getfield 169, 3) := by decide +kernel
theorem dd_CH_receive_11 : decode cc_CH_receive 11 = .ok (.getfield 173, 3) := by decide +kernel
theorem dd_CH_receive_14 : decode cc_CH_receive 14 = .ok (.ifCond .ne 11, 3) := by decide +kernel
theorem dd_CH_receive_17 : decode cc_CH_receive 17 = .ok (.new 69, 3) := by decide +kernel
theorem dd_CH_receive_20 : decode cc_CH_receive 20 = .ok (.dup, 1) := by decide +kernel
theorem dd_CH_receive_21 : decode cc_CH_receive 21 = .ok (.invokespecial 71, 3) := by decide +kernel
theorem dd_CH_receive_24 : decode cc_CH_receive 24 = .ok (.athrow, 1) := by decide +kernel
theorem dd_CH_receive_25 : decode cc_CH_receive 25 = .ok (.aload_n 3, 1) := by decide +kernel
theorem dd_CH_receive_26 : decode cc_CH_receive 26 = .ok (.getfield 118, 3) := by decide +kernel
theorem dd_CH_receive_29 : decode cc_CH_receive 29 = .ok (.iload_n 2, 1) := by decide +kernel
theorem dd_CH_receive_30 : decode cc_CH_receive 30 = .ok (.aload_n 3, 1) := by decide +kernel
theorem dd_CH_receive_31 : decode cc_CH_receive 31 = .ok (.getfield 169, 3) := by decide +kernel
theorem dd_CH_receive_34 : decode cc_CH_receive 34 = .ok (.invokevirtual 177, 3) := by decide +kernel
theorem dd_CH_receive_37 : decode cc_CH_receive 37 = .ok (.iastore, 1) := by decide +kernel
theorem dd_CH_receive_38 : decode cc_CH_receive 38 = .ok (.aload_n 3, 1) := by decide +kernel
theorem dd_CH_receive_39 : decode cc_CH_receive 39 = .ok (.getfield 169, 3) := by decide +kernel
theorem dd_CH_receive_42 : decode cc_CH_receive 42 = .ok (.getfield 173, 3) := by decide +kernel
theorem dd_CH_receive_45 : decode cc_CH_receive 45 = .ok (.ireturn, 1) := by decide +kernel
theorem dd_Ma_takeFirst_0 : decode cc_Ma_takeFirst 0 = .ok (.aload_n 0, 1) := by decide +kernel
theorem dd_Ma_takeFirst_1 : decode cc_Ma_takeFirst 1 = .ok (.iconst 0, 1) := by decide +kernel
theorem dd_Ma_takeFirst_2 : decode cc_Ma_takeFirst 2 = .ok (.invokevirtual 26, 3) := by decide +kernel
theorem dd_Ma_takeFirst_5 : decode cc_Ma_takeFirst 5 = .ok (.istore_n 1, 1) := by decide +kernel
theorem dd_Ma_takeFirst_6 : decode cc_Ma_takeFirst 6 = .ok (.aload_n 0, 1) := by decide +kernel
theorem dd_Ma_takeFirst_7 : decode cc_Ma_takeFirst 7 = .ok (.aload_n 0, 1) := by decide +kernel
theorem dd_Ma_takeFirst_8 : decode cc_Ma_takeFirst 8 = .ok (.iconst 1, 1) := by decide +kernel
theorem dd_Ma_takeFirst_9 : decode cc_Ma_takeFirst 9 = .ok (.invokevirtual 30, 3) := by decide +kernel
theorem dd_Ma_takeFirst_12 : decode cc_Ma_takeFirst 12 = .ok (.putfield 15, 3) := by decide +kernel
theorem dd_Ma_takeFirst_15 : decode cc_Ma_takeFirst 15 = .ok (.aload_n 0, 1) := by decide +kernel
theorem dd_Ma_takeFirst_16 : decode cc_Ma_takeFirst 16 = .ok (.dup, 1) := by decide +kernel
theorem dd_Ma_takeFirst_17 : decode cc_Ma_takeFirst 17 = .ok (.getfield 19, 3) := by decide +kernel
theorem dd_Ma_takeFirst_20 : decode cc_Ma_takeFirst 20 = .ok (.iconst 1, 1) := by decide +kernel
theorem dd_Ma_takeFirst_21 : decode cc_Ma_takeFirst 21 = .ok (.isub, 1) := by decide +kernel
theorem dd_Ma_takeFirst_22 : decode cc_Ma_takeFirst 22 = .ok (.putfield 19, 3) := by decide +kernel
theorem dd_Ma_takeFirst_25 : decode cc_Ma_takeFirst 25 = .ok (.iload_n 1, 1) := by decide +kernel
theorem dd_Ma_takeFirst_26 : decode cc_Ma_takeFirst 26 = .ok (.ireturn, 1) := by decide +kernel
theorem dd_La_collect_0 : decode cc_La_collect 0 = .ok (.aload_n 2, 1) := by decide +kernel
theorem dd_La_collect_1 : decode cc_La_collect 1 = .ok (.iconst 0, 1) := by decide +kernel
theorem dd_La_collect_2 : decode cc_La_collect 2 = .ok (.aload_n 0, 1) := by decide +kernel
theorem dd_La_collect_3 : decode cc_La_collect 3 = .ok (.iload_n 1, 1) := by decide +kernel
theorem dd_La_collect_4 : decode cc_La_collect 4 = .ok (.invokevirtual 63, 3) := by decide +kernel
theorem dd_La_collect_7 : decode cc_La_collect 7 = .ok (.i2l, 1) := by decide +kernel
theorem dd_La_collect_8 : decode cc_La_collect 8 = .ok (.lastore, 1) := by decide +kernel
theorem dd_La_collect_9 : decode cc_La_collect 9 = .ok (.goto 6, 3) := by decide +kernel
theorem dd_La_collect_12 : decode cc_La_collect 12 = .ok (.astore_n 3, 1) := by decide +kernel
theorem dd_La_collect_13 : decode cc_La_collect 13 = .ok (.iconst 1, 1) := by decide +kernel
theorem dd_La_collect_14 : decode cc_La_collect 14 = .ok (.ireturn, 1) := by decide +kernel
theorem dd_La_collect_15 : decode cc_La_collect 15 = .ok (.iconst 0, 1) := by decide +kernel
theorem dd_La_collect_16 : decode cc_La_collect 16 = .ok (.ireturn, 1) := by decide +kernel
theorem dd_CH_collect_0 : decode cc_CH_collect 0 = .ok (.aload_n 0, 1) := by decide +kernel
theorem dd_CH_collect_1 : decode cc_CH_collect 1 = .ok (.iload_n 1, 1) := by decide +kernel
theorem dd_CH_collect_2 : decode cc_CH_collect 2 = .ok (.invokevirtual 93, 3) := by decide +kernel
theorem dd_CH_collect_5 : decode cc_CH_collect 5 = .ok (.astore_n 2, 1) := by decide +kernel
theorem dd_CH_collect_6 : decode cc_CH_collect 6 = .ok (.aload_n 2, 1) := by decide +kernel
theorem dd_CH_collect_7 : decode cc_CH_collect 7 = .ok (.getfield 97, 3) := by decide +kernel
theorem dd_CH_collect_10 : decode cc_CH_collect 10 = .ok (.getfield 180, 3) := by decide +kernel
theorem dd_CH_collect_13 : decode cc_CH_collect 13 = .ok (.istore_n 3, 1) := by decide +kernel
theorem dd_CH_collect_14 : decode cc_CH_collect 14 = .ok (.aload_n 0, 1) := by decide +kernel
theorem dd_CH_collect_15 : decode cc_CH_collect 15 = .ok (.aload_n 2, 1) := by decide +kernel
theorem dd_CH_collect_16 : decode cc_CH_collect 16 = .ok (.invokevirtual 183, 3) := by decide +kernel
theorem dd_CH_collect_19 : decode cc_CH_collect 19 = .ok (.iload_n 3, 1) := by decide +kernel
theorem dd_CH_collect_20 : decode cc_CH_collect 20 = .ok (.aload_n 2, 1) := by decide +kernel
theorem dd_CH_collect_21 : decode cc_CH_collect 21 = .ok (.getfield 97, 3) := by decide +kernel
theorem dd_CH_collect_24 : decode cc_CH_collect 24 = .ok (.getfield 180, 3) := by decide +kernel
theorem dd_CH_collect_27 : decode cc_CH_collect 27 = .ok (.isub, 1) := by decide +kernel
theorem dd_CH_collect_28 : decode cc_CH_collect 28 = .ok (.ireturn, 1) := by decide +kernel
theorem dd_La_trim_0 : decode cc_La_trim 0 = .ok (.aload_n 2, 1) := by decide +kernel
theorem dd_La_trim_1 : decode cc_La_trim 1 = .ok (.iconst 0, 1) := by decide +kernel
theorem dd_La_trim_2 : decode cc_La_trim 2 = .ok (.aload_n 0, 1) := by decide +kernel
theorem dd_La_trim_3 : decode cc_La_trim 3 = .ok (.iload_n 1, 1) := by decide +kernel
theorem dd_La_trim_4 : decode cc_La_trim 4 = .ok (.invokevirtual 66, 3) := by decide +kernel
theorem dd_La_trim_7 : decode cc_La_trim 7 = .ok (.i2l, 1) := by decide +kernel
theorem dd_La_trim_8 : decode cc_La_trim 8 = .ok (.lastore, 1) := by decide +kernel
theorem dd_La_trim_9 : decode cc_La_trim 9 = .ok (.goto 6, 3) := by decide +kernel
theorem dd_La_trim_12 : decode cc_La_trim 12 = .ok (.astore_n 3, 1) := by decide +kernel
theorem dd_La_trim_13 : decode cc_La_trim 13 = .ok (.iconst 1, 1) := by decide +kernel
theorem dd_La_trim_14 : decode cc_La_trim 14 = .ok (.ireturn, 1) := by decide +kernel
theorem dd_La_trim_15 : decode cc_La_trim 15 = .ok (.iconst 0, 1) := by decide +kernel
theorem dd_La_trim_16 : decode cc_La_trim 16 = .ok (.ireturn, 1) := by decide +kernel
theorem dd_CH_trim_0 : decode cc_CH_trim 0 = .ok (.aload_n 0, 1) := by decide +kernel
theorem dd_CH_trim_1 : decode cc_CH_trim 1 = .ok (.iload_n 1, 1) := by decide +kernel
theorem dd_CH_trim_2 : decode cc_CH_trim 2 = .ok (.invokevirtual 93, 3) := by decide +kernel
theorem dd_CH_trim_5 : decode cc_CH_trim 5 = .ok (.astore_n 2, 1) := by decide +kernel
theorem dd_CH_trim_6 : decode cc_CH_trim 6 = .ok (.aload_n 0, 1) := by decide +kernel
theorem dd_CH_trim_7 : decode cc_CH_trim 7 = .ok (.aload_n 2, 1) := by decide +kernel
theorem dd_CH_trim_8 : decode cc_CH_trim 8 = .ok (.invokevirtual 183, 3) := by decide +kernel
theorem dd_CH_trim_11 : decode cc_CH_trim 11 = .ok (.bipush 8, 2) := by decide +kernel
theorem dd_CH_trim_13 : decode cc_CH_trim 13 = .ok (.aload_n 2, 1) := by decide +kernel
theorem dd_CH_trim_14 : decode cc_CH_trim 14 = .ok (.getfield 97, 3) := by decide +kernel
theorem dd_CH_trim_17 : decode cc_CH_trim 17 = .ok (.getfield 180, 3) := by decide +kernel
theorem dd_CH_trim_20 : decode cc_CH_trim 20 = .ok (.invokestatic 187, 3) := by decide +kernel
theorem dd_CH_trim_23 : decode cc_CH_trim 23 = .ok (.invokestatic 15, 3) := by decide +kernel
theorem dd_CH_trim_26 : decode cc_CH_trim 26 = .ok (.istore_n 3, 1) := by decide +kernel
theorem dd_CH_trim_27 : decode cc_CH_trim 27 = .ok (.aload_n 0, 1) := by decide +kernel
theorem dd_CH_trim_28 : decode cc_CH_trim 28 = .ok (.getfield 27, 3) := by decide +kernel
theorem dd_CH_trim_31 : decode cc_CH_trim 31 = .ok (.dup, 1) := by decide +kernel
theorem dd_CH_trim_32 : decode cc_CH_trim 32 = .ok (.getfield 66, 3) := by decide +kernel
theorem dd_CH_trim_35 : decode cc_CH_trim 35 = .ok (.aload_n 2, 1) := by decide +kernel
theorem dd_CH_trim_36 : decode cc_CH_trim 36 = .ok (.getfield 108, 3) := by decide +kernel
theorem dd_CH_trim_39 : decode cc_CH_trim 39 = .ok (.iload_n 3, 1) := by decide +kernel
theorem dd_CH_trim_40 : decode cc_CH_trim 40 = .ok (.isub, 1) := by decide +kernel
theorem dd_CH_trim_41 : decode cc_CH_trim 41 = .ok (.iadd, 1) := by decide +kernel
theorem dd_CH_trim_42 : decode cc_CH_trim 42 = .ok (.putfield 66, 3) := by decide +kernel
theorem dd_CH_trim_45 : decode cc_CH_trim 45 = .ok (.aload_n 2, 1) := by decide +kernel
theorem dd_CH_trim_46 : decode cc_CH_trim 46 = .ok (.iload_n 3, 1) := by decide +kernel
theorem dd_CH_trim_47 : decode cc_CH_trim 47 = .ok (.putfield 108, 3) := by decide +kernel
theorem dd_CH_trim_50 : decode cc_CH_trim 50 = .ok (.iload_n 3, 1) := by decide +kernel
theorem dd_CH_trim_51 : decode cc_CH_trim 51 = .ok (.ireturn, 1) := by decide +kernel
theorem dd_La_count_0 : decode cc_La_count 0 = .ok (.aload_n 2, 1) := by decide +kernel
theorem dd_La_count_1 : decode cc_La_count 1 = .ok (.iconst 0, 1) := by decide +kernel
theorem dd_La_count_2 : decode cc_La_count 2 = .ok (.aload_n 0, 1) := by decide +kernel
theorem dd_La_count_3 : decode cc_La_count 3 = .ok (.iload_n 1, 1) := by decide +kernel
theorem dd_La_count_4 : decode cc_La_count 4 = .ok (.invokevirtual 69, 3) := by decide +kernel
theorem dd_La_count_7 : decode cc_La_count 7 = .ok (.i2l, 1) := by decide +kernel
theorem dd_La_count_8 : decode cc_La_count 8 = .ok (.lastore, 1) := by decide +kernel
theorem dd_La_count_9 : decode cc_La_count 9 = .ok (.goto 6, 3) := by decide +kernel
theorem dd_La_count_12 : decode cc_La_count 12 = .ok (.astore_n 3, 1) := by decide +kernel
theorem dd_La_count_13 : decode cc_La_count 13 = .ok (.iconst 1, 1) := by decide +kernel
theorem dd_La_count_14 : decode cc_La_count 14 = .ok (.ireturn, 1) := by decide +kernel
theorem dd_La_count_15 : decode cc_La_count 15 = .ok (.iconst 0, 1) := by decide +kernel
theorem dd_La_count_16 : decode cc_La_count 16 = .ok (.ireturn, 1) := by decide +kernel
theorem dd_CH_count_0 : decode cc_CH_count 0 = .ok (.iload_n 1, 1) := by decide +kernel
theorem dd_CH_count_1 : decode cc_CH_count 1 = .ok (.tableswitch 69 0 4 #[35, 43, 51, 59, 64], 35) := by decide +kernel
theorem dd_CH_count_36 : decode cc_CH_count 36 = .ok (.aload_n 0, 1) := by decide +kernel
theorem dd_CH_count_37 : decode cc_CH_count 37 = .ok (.getfield 34, 3) := by decide +kernel
theorem dd_CH_count_40 : decode cc_CH_count 40 = .ok (.invokevirtual 62, 3) := by decide +kernel
theorem dd_CH_count_43 : decode cc_CH_count 43 = .ok (.ireturn, 1) := by decide +kernel
theorem dd_CH_count_44 : decode cc_CH_count 44 = .ok (.aload_n 0, 1) := by decide +kernel
theorem dd_CH_count_45 : decode cc_CH_count 45 = .ok (.getfield 27, 3) := by decide +kernel
theorem dd_CH_count_48 : decode cc_CH_count 48 = .ok (.getfield 66, 3) := by decide +kernel
theorem dd_CH_count_51 : decode cc_CH_count 51 = .ok (.ireturn, 1) := by decide +kernel
theorem dd_CH_count_52 : decode cc_CH_count 52 = .ok (.aload_n 0, 1) := by decide +kernel
theorem dd_CH_count_53 : decode cc_CH_count 53 = .ok (.getfield 27, 3) := by decide +kernel
theorem dd_CH_count_56 : decode cc_CH_count 56 = .ok (.getfield 144, 3) := by decide +kernel
theorem dd_CH_count_59 : decode cc_CH_count 59 = .ok (.ireturn, 1) := by decide +kernel
theorem dd_CH_count_60 : decode cc_CH_count 60 = .ok (.aload_n 0, 1) := by decide +kernel
theorem dd_CH_count_61 : decode cc_CH_count 61 = .ok (.getfield 83, 3) := by decide +kernel
theorem dd_CH_count_64 : decode cc_CH_count 64 = .ok (.ireturn, 1) := by decide +kernel
theorem dd_CH_count_65 : decode cc_CH_count 65 = .ok (.aload_n 0, 1) := by decide +kernel
theorem dd_CH_count_66 : decode cc_CH_count 66 = .ok (.getfield 190, 3) := by decide +kernel
theorem dd_CH_count_69 : decode cc_CH_count 69 = .ok (.ireturn, 1) := by decide +kernel
theorem dd_CH_count_70 : decode cc_CH_count 70 = .ok (.new 124, 3) := by decide +kernel
theorem dd_CH_count_73 : decode cc_CH_count 73 = .ok (.dup, 1) := by decide +kernel
theorem dd_CH_count_74 : decode cc_CH_count 74 = .ok (.invokespecial 126, 3) := by decide +kernel
theorem dd_CH_count_77 : decode cc_CH_count 77 = .ok (.athrow, 1) := by decide +kernel
theorem dd_La_of_0 : decode cc_La_of 0 = .ok (.aload_n 3, 1) := by decide +kernel
theorem dd_La_of_1 : decode cc_La_of 1 = .ok (.iconst 0, 1) := by decide +kernel
theorem dd_La_of_2 : decode cc_La_of 2 = .ok (.aload_n 0, 1) := by decide +kernel
theorem dd_La_of_3 : decode cc_La_of 3 = .ok (.iload_n 1, 1) := by decide +kernel
theorem dd_La_of_4 : decode cc_La_of 4 = .ok (.iload_n 2, 1) := by decide +kernel
theorem dd_La_of_5 : decode cc_La_of 5 = .ok (.invokevirtual 72, 3) := by decide +kernel
theorem dd_La_of_8 : decode cc_La_of 8 = .ok (.i2l, 1) := by decide +kernel
theorem dd_La_of_9 : decode cc_La_of 9 = .ok (.lastore, 1) := by decide +kernel
theorem dd_La_of_10 : decode cc_La_of 10 = .ok (.goto 11, 3) := by decide +kernel
theorem dd_La_of_13 : decode cc_La_of 13 = .ok (.astore 4, 2) := by decide +kernel
theorem dd_La_of_15 : decode cc_La_of 15 = .ok (.iconst 1, 1) := by decide +kernel
theorem dd_La_of_16 : decode cc_La_of 16 = .ok (.ireturn, 1) := by decide +kernel
theorem dd_La_of_17 : decode cc_La_of 17 = .ok (.astore 4, 2) := by decide +kernel
theorem dd_La_of_19 : decode cc_La_of 19 = .ok (.iconst 2, 1) := by decide +kernel
theorem dd_La_of_20 : decode cc_La_of 20 = .ok (.ireturn, 1) := by decide +kernel
theorem dd_La_of_21 : decode cc_La_of 21 = .ok (.iconst 0, 1) := by decide +kernel
theorem dd_La_of_22 : decode cc_La_of 22 = .ok (.ireturn, 1) := by decide +kernel
theorem dd_CH_of_0 : decode cc_CH_of 0 = .ok (.aload_n 0, 1) := by decide +kernel
theorem dd_CH_of_1 : decode cc_CH_of 1 = .ok (.iload_n 1, 1) := by decide +kernel
theorem dd_CH_of_2 : decode cc_CH_of 2 = .ok (.invokevirtual 93, 3) := by decide +kernel
theorem dd_CH_of_5 : decode cc_CH_of 5 = .ok (.astore_n 3, 1) := by decide +kernel
theorem dd_CH_of_6 : decode cc_CH_of 6 = .ok (.iload_n 2, 1) := by decide +kernel
theorem dd_CH_of_7 : decode cc_CH_of 7 = .ok (.tableswitch 46 0 2 #[25, 30, 38], 25) := by decide +kernel
theorem dd_CH_of_32 : decode cc_CH_of 32 = .ok (.aload_n 3, 1) := by decide +kernel
theorem dd_CH_of_33 : decode cc_CH_of 33 = .ok (.getfield 108, 3) := by decide +kernel
theorem dd_CH_of_36 : decode cc_CH_of 36 = .ok (.ireturn, 1) := by decide +kernel
theorem dd_CH_of_37 : decode cc_CH_of 37 = .ok (.aload_n 3, 1) := by decide +kernel
theorem dd_CH_of_38 : decode cc_CH_of 38 = .ok (.getfield 97, 3) := by decide +kernel
theorem dd_CH_of_41 : decode cc_CH_of 41 = .ok (.getfield 180, 3) := by decide +kernel
theorem dd_CH_of_44 : decode cc_CH_of 44 = .ok (.ireturn, 1) := by decide +kernel
theorem dd_CH_of_45 : decode cc_CH_of 45 = .ok (.aload_n 3, 1) := by decide +kernel
theorem dd_CH_of_46 : decode cc_CH_of 46 = .ok (.getfield 169, 3) := by decide +kernel
theorem dd_CH_of_49 : decode cc_CH_of 49 = .ok (.getfield 173, 3) := by decide +kernel
theorem dd_CH_of_52 : decode cc_CH_of 52 = .ok (.ireturn, 1) := by decide +kernel
theorem dd_CH_of_53 : decode cc_CH_of 53 = .ok (.new 124, 3) := by decide +kernel
theorem dd_CH_of_56 : decode cc_CH_of 56 = .ok (.dup, 1) := by decide +kernel
theorem dd_CH_of_57 : decode cc_CH_of 57 = .ok (.invokespecial 126, 3) := by decide +kernel
theorem dd_CH_of_60 : decode cc_CH_of 60 = .ok (.athrow, 1) := by decide +kernel
theorem dd_La_kind_0 : decode cc_La_kind 0 = .ok (.aload_n 3, 1) := by decide +kernel
theorem dd_La_kind_1 : decode cc_La_kind 1 = .ok (.iconst 0, 1) := by decide +kernel
theorem dd_La_kind_2 : decode cc_La_kind 2 = .ok (.aload_n 0, 1) := by decide +kernel
theorem dd_La_kind_3 : decode cc_La_kind 3 = .ok (.iload_n 1, 1) := by decide +kernel
theorem dd_La_kind_4 : decode cc_La_kind 4 = .ok (.iload_n 2, 1) := by decide +kernel
theorem dd_La_kind_5 : decode cc_La_kind 5 = .ok (.invokevirtual 75, 3) := by decide +kernel
theorem dd_La_kind_8 : decode cc_La_kind 8 = .ok (.i2l, 1) := by decide +kernel
theorem dd_La_kind_9 : decode cc_La_kind 9 = .ok (.lastore, 1) := by decide +kernel
theorem dd_La_kind_10 : decode cc_La_kind 10 = .ok (.goto 7, 3) := by decide +kernel
theorem dd_La_kind_13 : decode cc_La_kind 13 = .ok (.astore 4, 2) := by decide +kernel
theorem dd_La_kind_15 : decode cc_La_kind 15 = .ok (.iconst 1, 1) := by decide +kernel
theorem dd_La_kind_16 : decode cc_La_kind 16 = .ok (.ireturn, 1) := by decide +kernel
theorem dd_La_kind_17 : decode cc_La_kind 17 = .ok (.iconst 0, 1) := by decide +kernel
theorem dd_La_kind_18 : decode cc_La_kind 18 = .ok (.ireturn, 1) := by decide +kernel
theorem dd_CH_kind_0 : decode cc_CH_kind 0 = .ok (.aload_n 0, 1) := by decide +kernel
theorem dd_CH_kind_1 : decode cc_CH_kind 1 = .ok (.iload_n 1, 1) := by decide +kernel
theorem dd_CH_kind_2 : decode cc_CH_kind 2 = .ok (.iload_n 2, 1) := by decide +kernel
theorem dd_CH_kind_3 : decode cc_CH_kind 3 = .ok (.invokevirtual 115, 3) := by decide +kernel
theorem dd_CH_kind_6 : decode cc_CH_kind 6 = .ok (.getfield 118, 3) := by decide +kernel
theorem dd_CH_kind_9 : decode cc_CH_kind 9 = .ok (.iload_n 2, 1) := by decide +kernel
theorem dd_CH_kind_10 : decode cc_CH_kind 10 = .ok (.iaload, 1) := by decide +kernel
theorem dd_CH_kind_11 : decode cc_CH_kind 11 = .ok (.invokestatic 193, 3) := by decide +kernel
theorem dd_CH_kind_14 : decode cc_CH_kind 14 = .ok (.ireturn, 1) := by decide +kernel
theorem dd_La_value_0 : decode cc_La_value 0 = .ok (.aload_n 3, 1) := by decide +kernel
theorem dd_La_value_1 : decode cc_La_value 1 = .ok (.iconst 0, 1) := by decide +kernel
theorem dd_La_value_2 : decode cc_La_value 2 = .ok (.aload_n 0, 1) := by decide +kernel
theorem dd_La_value_3 : decode cc_La_value 3 = .ok (.iload_n 1, 1) := by decide +kernel
theorem dd_La_value_4 : decode cc_La_value 4 = .ok (.iload_n 2, 1) := by decide +kernel
theorem dd_La_value_5 : decode cc_La_value 5 = .ok (.invokevirtual 78, 3) := by decide +kernel
theorem dd_La_value_8 : decode cc_La_value 8 = .ok (.i2l, 1) := by decide +kernel
theorem dd_La_value_9 : decode cc_La_value 9 = .ok (.lastore, 1) := by decide +kernel
theorem dd_La_value_10 : decode cc_La_value 10 = .ok (.goto 7, 3) := by decide +kernel
theorem dd_La_value_13 : decode cc_La_value 13 = .ok (.astore 4, 2) := by decide +kernel
theorem dd_La_value_15 : decode cc_La_value 15 = .ok (.iconst 1, 1) := by decide +kernel
theorem dd_La_value_16 : decode cc_La_value 16 = .ok (.ireturn, 1) := by decide +kernel
theorem dd_La_value_17 : decode cc_La_value 17 = .ok (.iconst 0, 1) := by decide +kernel
theorem dd_La_value_18 : decode cc_La_value 18 = .ok (.ireturn, 1) := by decide +kernel
theorem dd_CH_value_0 : decode cc_CH_value 0 = .ok (.aload_n 0, 1) := by decide +kernel
theorem dd_CH_value_1 : decode cc_CH_value 1 = .ok (.iload_n 1, 1) := by decide +kernel
theorem dd_CH_value_2 : decode cc_CH_value 2 = .ok (.iload_n 2, 1) := by decide +kernel
theorem dd_CH_value_3 : decode cc_CH_value 3 = .ok (.invokevirtual 115, 3) := by decide +kernel
theorem dd_CH_value_6 : decode cc_CH_value 6 = .ok (.astore_n 3, 1) := by decide +kernel
theorem dd_CH_value_7 : decode cc_CH_value 7 = .ok (.aload_n 3, 1) := by decide +kernel
theorem dd_CH_value_8 : decode cc_CH_value 8 = .ok (.getfield 118, 3) := by decide +kernel
theorem dd_CH_value_11 : decode cc_CH_value 11 = .ok (.iload_n 2, 1) := by decide +kernel
theorem dd_CH_value_12 : decode cc_CH_value 12 = .ok (.iaload, 1) := by decide +kernel
theorem dd_CH_value_13 : decode cc_CH_value 13 = .ok (.istore 4, 2) := by decide +kernel
theorem dd_CH_value_15 : decode cc_CH_value 15 = .ok (.iload 4, 2) := by decide +kernel
theorem dd_CH_value_17 : decode cc_CH_value 17 = .ok (.invokestatic 193, 3) := by decide +kernel
theorem dd_CH_value_20 : decode cc_CH_value 20 = .ok (.tableswitch 60 1 5 #[36, 36, 60, 60, 42], 36) := by decide +kernel
theorem dd_CH_value_56 : decode cc_CH_value 56 = .ok (.iload 4, 2) := by decide +kernel
theorem dd_CH_value_58 : decode cc_CH_value 58 = .ok (.invokestatic 196, 3) := by decide +kernel
theorem dd_CH_value_61 : decode cc_CH_value 61 = .ok (.ireturn, 1) := by decide +kernel
theorem dd_CH_value_62 : decode cc_CH_value 62 = .ok (.aload_n 0, 1) := by decide +kernel
theorem dd_CH_value_63 : decode cc_CH_value 63 = .ok (.getfield 27, 3) := by decide +kernel
theorem dd_CH_value_66 : decode cc_CH_value 66 = .ok (.getfield 199, 3) := by decide +kernel
theorem dd_CH_value_69 : decode cc_CH_value 69 = .ok (.aload_n 3, 1) := by decide +kernel
theorem dd_CH_value_70 : decode cc_CH_value 70 = .ok (.getfield 97, 3) := by decide +kernel
theorem dd_CH_value_73 : decode cc_CH_value 73 = .ok (.iload 4, 2) := by decide +kernel
theorem dd_CH_value_75 : decode cc_CH_value 75 = .ok (.invokevirtual 202, 3) := by decide +kernel
theorem dd_CH_value_78 : decode cc_CH_value 78 = .ok (.iaload, 1) := by decide +kernel
theorem dd_CH_value_79 : decode cc_CH_value 79 = .ok (.ireturn, 1) := by decide +kernel
theorem dd_CH_value_80 : decode cc_CH_value 80 = .ok (.aload_n 3, 1) := by decide +kernel
theorem dd_CH_value_81 : decode cc_CH_value 81 = .ok (.getfield 97, 3) := by decide +kernel
theorem dd_CH_value_84 : decode cc_CH_value 84 = .ok (.iload 4, 2) := by decide +kernel
theorem dd_CH_value_86 : decode cc_CH_value 86 = .ok (.invokevirtual 156, 3) := by decide +kernel
theorem dd_CH_value_89 : decode cc_CH_value 89 = .ok (.ireturn, 1) := by decide +kernel
theorem dd_La_address_0 : decode cc_La_address 0 = .ok (.aload_n 3, 1) := by decide +kernel
theorem dd_La_address_1 : decode cc_La_address 1 = .ok (.iconst 0, 1) := by decide +kernel
theorem dd_La_address_2 : decode cc_La_address 2 = .ok (.aload_n 0, 1) := by decide +kernel
theorem dd_La_address_3 : decode cc_La_address 3 = .ok (.iload_n 1, 1) := by decide +kernel
theorem dd_La_address_4 : decode cc_La_address 4 = .ok (.iload_n 2, 1) := by decide +kernel
theorem dd_La_address_5 : decode cc_La_address 5 = .ok (.invokevirtual 81, 3) := by decide +kernel
theorem dd_La_address_8 : decode cc_La_address 8 = .ok (.i2l, 1) := by decide +kernel
theorem dd_La_address_9 : decode cc_La_address 9 = .ok (.lastore, 1) := by decide +kernel
theorem dd_La_address_10 : decode cc_La_address 10 = .ok (.goto 7, 3) := by decide +kernel
theorem dd_La_address_13 : decode cc_La_address 13 = .ok (.astore 4, 2) := by decide +kernel
theorem dd_La_address_15 : decode cc_La_address 15 = .ok (.iconst 1, 1) := by decide +kernel
theorem dd_La_address_16 : decode cc_La_address 16 = .ok (.ireturn, 1) := by decide +kernel
theorem dd_La_address_17 : decode cc_La_address 17 = .ok (.iconst 0, 1) := by decide +kernel
theorem dd_La_address_18 : decode cc_La_address 18 = .ok (.ireturn, 1) := by decide +kernel
theorem dd_CH_address_0 : decode cc_CH_address 0 = .ok (.aload_n 0, 1) := by decide +kernel
theorem dd_CH_address_1 : decode cc_CH_address 1 = .ok (.iload_n 1, 1) := by decide +kernel
theorem dd_CH_address_2 : decode cc_CH_address 2 = .ok (.iload_n 2, 1) := by decide +kernel
theorem dd_CH_address_3 : decode cc_CH_address 3 = .ok (.invokevirtual 115, 3) := by decide +kernel
theorem dd_CH_address_6 : decode cc_CH_address 6 = .ok (.getfield 118, 3) := by decide +kernel
theorem dd_CH_address_9 : decode cc_CH_address 9 = .ok (.iload_n 2, 1) := by decide +kernel
theorem dd_CH_address_10 : decode cc_CH_address 10 = .ok (.iaload, 1) := by decide +kernel
theorem dd_CH_address_11 : decode cc_CH_address 11 = .ok (.istore_n 3, 1) := by decide +kernel
theorem dd_CH_address_12 : decode cc_CH_address 12 = .ok (.iload_n 3, 1) := by decide +kernel
theorem dd_CH_address_13 : decode cc_CH_address 13 = .ok (.invokestatic 205, 3) := by decide +kernel
theorem dd_CH_address_16 : decode cc_CH_address 16 = .ok (.ifCond .eq 10, 3) := by decide +kernel
theorem dd_CH_address_19 : decode cc_CH_address 19 = .ok (.iload_n 3, 1) := by decide +kernel
theorem dd_CH_address_20 : decode cc_CH_address 20 = .ok (.invokestatic 196, 3) := by decide +kernel
theorem dd_CH_address_23 : decode cc_CH_address 23 = .ok (.goto 4, 3) := by decide +kernel
theorem dd_CH_address_26 : decode cc_CH_address 26 = .ok (.iconst (-1), 1) := by decide +kernel
theorem dd_CH_address_27 : decode cc_CH_address 27 = .ok (.ireturn, 1) := by decide +kernel
theorem dd_La_words_0 : decode cc_La_words 0 = .ok (.aload_n 3, 1) := by decide +kernel
theorem dd_La_words_1 : decode cc_La_words 1 = .ok (.iconst 0, 1) := by decide +kernel
theorem dd_La_words_2 : decode cc_La_words 2 = .ok (.aload_n 0, 1) := by decide +kernel
theorem dd_La_words_3 : decode cc_La_words 3 = .ok (.iload_n 1, 1) := by decide +kernel
theorem dd_La_words_4 : decode cc_La_words 4 = .ok (.iload_n 2, 1) := by decide +kernel
theorem dd_La_words_5 : decode cc_La_words 5 = .ok (.invokevirtual 84, 3) := by decide +kernel
theorem dd_La_words_8 : decode cc_La_words 8 = .ok (.i2l, 1) := by decide +kernel
theorem dd_La_words_9 : decode cc_La_words 9 = .ok (.lastore, 1) := by decide +kernel
theorem dd_La_words_10 : decode cc_La_words 10 = .ok (.goto 7, 3) := by decide +kernel
theorem dd_La_words_13 : decode cc_La_words 13 = .ok (.astore 4, 2) := by decide +kernel
theorem dd_La_words_15 : decode cc_La_words 15 = .ok (.iconst 1, 1) := by decide +kernel
theorem dd_La_words_16 : decode cc_La_words 16 = .ok (.ireturn, 1) := by decide +kernel
theorem dd_La_words_17 : decode cc_La_words 17 = .ok (.iconst 0, 1) := by decide +kernel
theorem dd_La_words_18 : decode cc_La_words 18 = .ok (.ireturn, 1) := by decide +kernel
theorem dd_CH_words_0 : decode cc_CH_words 0 = .ok (.aload_n 0, 1) := by decide +kernel
theorem dd_CH_words_1 : decode cc_CH_words 1 = .ok (.iload_n 1, 1) := by decide +kernel
theorem dd_CH_words_2 : decode cc_CH_words 2 = .ok (.iload_n 2, 1) := by decide +kernel
theorem dd_CH_words_3 : decode cc_CH_words 3 = .ok (.invokevirtual 115, 3) := by decide +kernel
theorem dd_CH_words_6 : decode cc_CH_words 6 = .ok (.astore_n 3, 1) := by decide +kernel
theorem dd_CH_words_7 : decode cc_CH_words 7 = .ok (.aload_n 0, 1) := by decide +kernel
theorem dd_CH_words_8 : decode cc_CH_words 8 = .ok (.aload_n 3, 1) := by decide +kernel
theorem dd_CH_words_9 : decode cc_CH_words 9 = .ok (.getfield 97, 3) := by decide +kernel
theorem dd_CH_words_12 : decode cc_CH_words 12 = .ok (.aload_n 3, 1) := by decide +kernel
theorem dd_CH_words_13 : decode cc_CH_words 13 = .ok (.getfield 118, 3) := by decide +kernel
theorem dd_CH_words_16 : decode cc_CH_words 16 = .ok (.iload_n 2, 1) := by decide +kernel
theorem dd_CH_words_17 : decode cc_CH_words 17 = .ok (.iaload, 1) := by decide +kernel
theorem dd_CH_words_18 : decode cc_CH_words 18 = .ok (.invokevirtual 209, 3) := by decide +kernel
theorem dd_CH_words_21 : decode cc_CH_words 21 = .ok (.ireturn, 1) := by decide +kernel
theorem dd_La_handles_0 : decode cc_La_handles 0 = .ok (.aload_n 3, 1) := by decide +kernel
theorem dd_La_handles_1 : decode cc_La_handles 1 = .ok (.iconst 0, 1) := by decide +kernel
theorem dd_La_handles_2 : decode cc_La_handles 2 = .ok (.aload_n 0, 1) := by decide +kernel
theorem dd_La_handles_3 : decode cc_La_handles 3 = .ok (.iload_n 1, 1) := by decide +kernel
theorem dd_La_handles_4 : decode cc_La_handles 4 = .ok (.iload_n 2, 1) := by decide +kernel
theorem dd_La_handles_5 : decode cc_La_handles 5 = .ok (.invokevirtual 87, 3) := by decide +kernel
theorem dd_La_handles_8 : decode cc_La_handles 8 = .ok (.i2l, 1) := by decide +kernel
theorem dd_La_handles_9 : decode cc_La_handles 9 = .ok (.lastore, 1) := by decide +kernel
theorem dd_La_handles_10 : decode cc_La_handles 10 = .ok (.goto 7, 3) := by decide +kernel
theorem dd_La_handles_13 : decode cc_La_handles 13 = .ok (.astore 4, 2) := by decide +kernel
theorem dd_La_handles_15 : decode cc_La_handles 15 = .ok (.iconst 1, 1) := by decide +kernel
theorem dd_La_handles_16 : decode cc_La_handles 16 = .ok (.ireturn, 1) := by decide +kernel
theorem dd_La_handles_17 : decode cc_La_handles 17 = .ok (.iconst 0, 1) := by decide +kernel
theorem dd_La_handles_18 : decode cc_La_handles 18 = .ok (.ireturn, 1) := by decide +kernel
theorem dd_CH_handles_0 : decode cc_CH_handles 0 = .ok (.aload_n 0, 1) := by decide +kernel
theorem dd_CH_handles_1 : decode cc_CH_handles 1 = .ok (.iload_n 1, 1) := by decide +kernel
theorem dd_CH_handles_2 : decode cc_CH_handles 2 = .ok (.iload_n 2, 1) := by decide +kernel
theorem dd_CH_handles_3 : decode cc_CH_handles 3 = .ok (.invokevirtual 115, 3) := by decide +kernel
theorem dd_CH_handles_6 : decode cc_CH_handles 6 = .ok (.astore_n 3, 1) := by decide +kernel
theorem dd_CH_handles_7 : decode cc_CH_handles 7 = .ok (.aload_n 3, 1) := by decide +kernel
theorem dd_CH_handles_8 : decode cc_CH_handles 8 = .ok (.getfield 118, 3) := by decide +kernel
theorem dd_CH_handles_11 : decode cc_CH_handles 11 = .ok (.iload_n 2, 1) := by decide +kernel
theorem dd_CH_handles_12 : decode cc_CH_handles 12 = .ok (.iaload, 1) := by decide +kernel
theorem dd_CH_handles_13 : decode cc_CH_handles 13 = .ok (.istore 4, 2) := by decide +kernel
theorem dd_CH_handles_15 : decode cc_CH_handles 15 = .ok (.iload 4, 2) := by decide +kernel
theorem dd_CH_handles_17 : decode cc_CH_handles 17 = .ok (.invokestatic 193, 3) := by decide +kernel
theorem dd_CH_handles_20 : decode cc_CH_handles 20 = .ok (.iconst 5, 1) := by decide +kernel
theorem dd_CH_handles_21 : decode cc_CH_handles 21 = .ok (.if_icmp .ne 23, 3) := by decide +kernel
theorem dd_CH_handles_24 : decode cc_CH_handles 24 = .ok (.aload_n 0, 1) := by decide +kernel
theorem dd_CH_handles_25 : decode cc_CH_handles 25 = .ok (.getfield 27, 3) := by decide +kernel
theorem dd_CH_handles_28 : decode cc_CH_handles 28 = .ok (.getfield 213, 3) := by decide +kernel
theorem dd_CH_handles_31 : decode cc_CH_handles 31 = .ok (.aload_n 3, 1) := by decide +kernel
theorem dd_CH_handles_32 : decode cc_CH_handles 32 = .ok (.getfield 97, 3) := by decide +kernel
theorem dd_CH_handles_35 : decode cc_CH_handles 35 = .ok (.iload 4, 2) := by decide +kernel
theorem dd_CH_handles_37 : decode cc_CH_handles 37 = .ok (.invokevirtual 202, 3) := by decide +kernel
theorem dd_CH_handles_40 : decode cc_CH_handles 40 = .ok (.iaload, 1) := by decide +kernel
theorem dd_CH_handles_41 : decode cc_CH_handles 41 = .ok (.goto 4, 3) := by decide +kernel
theorem dd_CH_handles_44 : decode cc_CH_handles 44 = .ok (.iconst 0, 1) := by decide +kernel
theorem dd_CH_handles_45 : decode cc_CH_handles 45 = .ok (.ireturn, 1) := by decide +kernel
theorem dd_La_equal_0 : decode cc_La_equal 0 = .ok (.aload 5, 2) := by decide +kernel
theorem dd_La_equal_2 : decode cc_La_equal 2 = .ok (.iconst 0, 1) := by decide +kernel
theorem dd_La_equal_3 : decode cc_La_equal 3 = .ok (.aload_n 0, 1) := by decide +kernel
theorem dd_La_equal_4 : decode cc_La_equal 4 = .ok (.iload_n 1, 1) := by decide +kernel
theorem dd_La_equal_5 : decode cc_La_equal 5 = .ok (.iload_n 2, 1) := by decide +kernel
theorem dd_La_equal_6 : decode cc_La_equal 6 = .ok (.iload_n 3, 1) := by decide +kernel
theorem dd_La_equal_7 : decode cc_La_equal 7 = .ok (.iload 4, 2) := by decide +kernel
theorem dd_La_equal_9 : decode cc_La_equal 9 = .ok (.invokevirtual 90, 3) := by decide +kernel
theorem dd_La_equal_12 : decode cc_La_equal 12 = .ok (.ifCond .eq 7, 3) := by decide +kernel
theorem dd_La_equal_15 : decode cc_La_equal 15 = .ok (.lconst 1, 1) := by decide +kernel
theorem dd_La_equal_16 : decode cc_La_equal 16 = .ok (.goto 4, 3) := by decide +kernel
theorem dd_La_equal_19 : decode cc_La_equal 19 = .ok (.lconst 0, 1) := by decide +kernel
theorem dd_La_equal_20 : decode cc_La_equal 20 = .ok (.lastore, 1) := by decide +kernel
theorem dd_La_equal_21 : decode cc_La_equal 21 = .ok (.goto 11, 3) := by decide +kernel
theorem dd_La_equal_24 : decode cc_La_equal 24 = .ok (.astore 6, 2) := by decide +kernel
theorem dd_La_equal_26 : decode cc_La_equal 26 = .ok (.iconst 1, 1) := by decide +kernel
theorem dd_La_equal_27 : decode cc_La_equal 27 = .ok (.ireturn, 1) := by decide +kernel
theorem dd_La_equal_28 : decode cc_La_equal 28 = .ok (.astore 6, 2) := by decide +kernel
theorem dd_La_equal_30 : decode cc_La_equal 30 = .ok (.iconst 2, 1) := by decide +kernel
theorem dd_La_equal_31 : decode cc_La_equal 31 = .ok (.ireturn, 1) := by decide +kernel
theorem dd_La_equal_32 : decode cc_La_equal 32 = .ok (.iconst 0, 1) := by decide +kernel
theorem dd_La_equal_33 : decode cc_La_equal 33 = .ok (.ireturn, 1) := by decide +kernel
theorem dd_CH_equal_0 : decode cc_CH_equal 0 = .ok (.aload_n 0, 1) := by decide +kernel
theorem dd_CH_equal_1 : decode cc_CH_equal 1 = .ok (.iload_n 1, 1) := by decide +kernel
theorem dd_CH_equal_2 : decode cc_CH_equal 2 = .ok (.iload_n 2, 1) := by decide +kernel
theorem dd_CH_equal_3 : decode cc_CH_equal 3 = .ok (.invokevirtual 115, 3) := by decide +kernel
theorem dd_CH_equal_6 : decode cc_CH_equal 6 = .ok (.astore 5, 2) := by decide +kernel
theorem dd_CH_equal_8 : decode cc_CH_equal 8 = .ok (.aload_n 0, 1) := by decide +kernel
theorem dd_CH_equal_9 : decode cc_CH_equal 9 = .ok (.iload_n 3, 1) := by decide +kernel
theorem dd_CH_equal_10 : decode cc_CH_equal 10 = .ok (.iload 4, 2) := by decide +kernel
theorem dd_CH_equal_12 : decode cc_CH_equal 12 = .ok (.invokevirtual 115, 3) := by decide +kernel
theorem dd_CH_equal_15 : decode cc_CH_equal 15 = .ok (.astore 6, 2) := by decide +kernel
theorem dd_CH_equal_17 : decode cc_CH_equal 17 = .ok (.aload_n 0, 1) := by decide +kernel
theorem dd_CH_equal_18 : decode cc_CH_equal 18 = .ok (.getfield 51, 3) := by decide +kernel
theorem dd_CH_equal_21 : decode cc_CH_equal 21 = .ok (.aload 5, 2) := by decide +kernel
theorem dd_CH_equal_23 : decode cc_CH_equal 23 = .ok (.getfield 97, 3) := by decide +kernel
theorem dd_CH_equal_26 : decode cc_CH_equal 26 = .ok (.aload 5, 2) := by decide +kernel
theorem dd_CH_equal_28 : decode cc_CH_equal 28 = .ok (.getfield 118, 3) := by decide +kernel
theorem dd_CH_equal_31 : decode cc_CH_equal 31 = .ok (.iload_n 2, 1) := by decide +kernel
theorem dd_CH_equal_32 : decode cc_CH_equal 32 = .ok (.iaload, 1) := by decide +kernel
theorem dd_CH_equal_33 : decode cc_CH_equal 33 = .ok (.aload 6, 2) := by decide +kernel
theorem dd_CH_equal_35 : decode cc_CH_equal 35 = .ok (.getfield 97, 3) := by decide +kernel
theorem dd_CH_equal_38 : decode cc_CH_equal 38 = .ok (.aload 6, 2) := by decide +kernel
theorem dd_CH_equal_40 : decode cc_CH_equal 40 = .ok (.getfield 118, 3) := by decide +kernel
theorem dd_CH_equal_43 : decode cc_CH_equal 43 = .ok (.iload 4, 2) := by decide +kernel
theorem dd_CH_equal_45 : decode cc_CH_equal 45 = .ok (.iaload, 1) := by decide +kernel
theorem dd_CH_equal_46 : decode cc_CH_equal 46 = .ok (.invokevirtual 216, 3) := by decide +kernel
theorem dd_CH_equal_49 : decode cc_CH_equal 49 = .ok (.aload_n 0, 1) := by decide +kernel
theorem dd_CH_equal_50 : decode cc_CH_equal 50 = .ok (.getfield 51, 3) := by decide +kernel
theorem dd_CH_equal_53 : decode cc_CH_equal 53 = .ok (.invokevirtual 219, 3) := by decide +kernel
theorem dd_CH_equal_56 : decode cc_CH_equal 56 = .ok (.istore 7, 2) := by decide +kernel
theorem dd_CH_equal_58 : decode cc_CH_equal 58 = .ok (.iload 7, 2) := by decide +kernel
theorem dd_CH_equal_60 : decode cc_CH_equal 60 = .ok (.ifCond .eq 21, 3) := by decide +kernel
theorem dd_CH_equal_63 : decode cc_CH_equal 63 = .ok (.aload_n 0, 1) := by decide +kernel
theorem dd_CH_equal_64 : decode cc_CH_equal 64 = .ok (.getfield 51, 3) := by decide +kernel
theorem dd_CH_equal_67 : decode cc_CH_equal 67 = .ok (.invokevirtual 222, 3) := by decide +kernel
theorem dd_CH_equal_70 : decode cc_CH_equal 70 = .ok (.ifCond .eq 11, 3) := by decide +kernel
theorem dd_CH_equal_73 : decode cc_CH_equal 73 = .ok (.new 147, 3) := by decide +kernel
theorem dd_CH_equal_76 : decode cc_CH_equal 76 = .ok (.dup, 1) := by decide +kernel
theorem dd_CH_equal_77 : decode cc_CH_equal 77 = .ok (.invokespecial 149, 3) := by decide +kernel
theorem dd_CH_equal_80 : decode cc_CH_equal 80 = .ok (.athrow, 1) := by decide +kernel
theorem dd_CH_equal_81 : decode cc_CH_equal 81 = .ok (.iload 7, 2) := by decide +kernel
theorem dd_CH_equal_83 : decode cc_CH_equal 83 = .ok (.ireturn, 1) := by decide +kernel
theorem dd_Co_start_0 : decode cc_Co_start 0 = .ok (.aload_n 0, 1) := by decide +kernel
theorem dd_Co_start_1 : decode cc_Co_start 1 = .ok (.aload_n 1, 1) := by decide +kernel
theorem dd_Co_start_2 : decode cc_Co_start 2 = .ok (.putfield 18, 3) := by decide +kernel
theorem dd_Co_start_5 : decode cc_Co_start 5 = .ok (.aload_n 0, 1) := by decide +kernel
theorem dd_Co_start_6 : decode cc_Co_start 6 = .ok (.aload_n 3, 1) := by decide +kernel
theorem dd_Co_start_7 : decode cc_Co_start 7 = .ok (.putfield 22, 3) := by decide +kernel
theorem dd_Co_start_10 : decode cc_Co_start 10 = .ok (.aload_n 0, 1) := by decide +kernel
theorem dd_Co_start_11 : decode cc_Co_start 11 = .ok (.iconst 0, 1) := by decide +kernel
theorem dd_Co_start_12 : decode cc_Co_start 12 = .ok (.putfield 25, 3) := by decide +kernel
theorem dd_Co_start_15 : decode cc_Co_start 15 = .ok (.aload_n 0, 1) := by decide +kernel
theorem dd_Co_start_16 : decode cc_Co_start 16 = .ok (.iload_n 2, 1) := by decide +kernel
theorem dd_Co_start_17 : decode cc_Co_start 17 = .ok (.iload 4, 2) := by decide +kernel
theorem dd_Co_start_19 : decode cc_Co_start 19 = .ok (.invokevirtual 29, 3) := by decide +kernel
theorem dd_Co_start_22 : decode cc_Co_start 22 = .ok (.return_, 1) := by decide +kernel
theorem dd_Co_push_0 : decode cc_Co_push 0 = .ok (.aload_n 0, 1) := by decide +kernel
theorem dd_Co_push_1 : decode cc_Co_push 1 = .ok (.getfield 9, 3) := by decide +kernel
theorem dd_Co_push_4 : decode cc_Co_push 4 = .ok (.aload_n 0, 1) := by decide +kernel
theorem dd_Co_push_5 : decode cc_Co_push 5 = .ok (.getfield 25, 3) := by decide +kernel
theorem dd_Co_push_8 : decode cc_Co_push 8 = .ok (.iload_n 1, 1) := by decide +kernel
theorem dd_Co_push_9 : decode cc_Co_push 9 = .ok (.iastore, 1) := by decide +kernel
theorem dd_Co_push_10 : decode cc_Co_push 10 = .ok (.aload_n 0, 1) := by decide +kernel
theorem dd_Co_push_11 : decode cc_Co_push 11 = .ok (.getfield 15, 3) := by decide +kernel
theorem dd_Co_push_14 : decode cc_Co_push 14 = .ok (.aload_n 0, 1) := by decide +kernel
theorem dd_Co_push_15 : decode cc_Co_push 15 = .ok (.getfield 25, 3) := by decide +kernel
theorem dd_Co_push_18 : decode cc_Co_push 18 = .ok (.iload_n 2, 1) := by decide +kernel
theorem dd_Co_push_19 : decode cc_Co_push 19 = .ok (.iastore, 1) := by decide +kernel
theorem dd_Co_push_20 : decode cc_Co_push 20 = .ok (.aload_n 0, 1) := by decide +kernel
theorem dd_Co_push_21 : decode cc_Co_push 21 = .ok (.dup, 1) := by decide +kernel
theorem dd_Co_push_22 : decode cc_Co_push 22 = .ok (.getfield 25, 3) := by decide +kernel
theorem dd_Co_push_25 : decode cc_Co_push 25 = .ok (.iconst 1, 1) := by decide +kernel
theorem dd_Co_push_26 : decode cc_Co_push 26 = .ok (.iadd, 1) := by decide +kernel
theorem dd_Co_push_27 : decode cc_Co_push 27 = .ok (.putfield 25, 3) := by decide +kernel
theorem dd_Co_push_30 : decode cc_Co_push 30 = .ok (.return_, 1) := by decide +kernel
theorem dd_Co_findsAllAlike_0 : decode cc_Co_findsAllAlike 0 = .ok (.iconst 0, 1) := by decide +kernel
theorem dd_Co_findsAllAlike_1 : decode cc_Co_findsAllAlike 1 = .ok (.istore_n 1, 1) := by decide +kernel
theorem dd_Co_findsAllAlike_2 : decode cc_Co_findsAllAlike 2 = .ok (.iload_n 1, 1) := by decide +kernel
theorem dd_Co_findsAllAlike_3 : decode cc_Co_findsAllAlike 3 = .ok (.sipush 2000, 3) := by decide +kernel
theorem dd_Co_findsAllAlike_6 : decode cc_Co_findsAllAlike 6 = .ok (.if_icmp .ge 63, 3) := by decide +kernel
theorem dd_Co_findsAllAlike_9 : decode cc_Co_findsAllAlike 9 = .ok (.aload_n 0, 1) := by decide +kernel
theorem dd_Co_findsAllAlike_10 : decode cc_Co_findsAllAlike 10 = .ok (.getfield 25, 3) := by decide +kernel
theorem dd_Co_findsAllAlike_13 : decode cc_Co_findsAllAlike 13 = .ok (.ifCond .le 56, 3) := by decide +kernel
theorem dd_Co_findsAllAlike_16 : decode cc_Co_findsAllAlike 16 = .ok (.aload_n 0, 1) := by decide +kernel
theorem dd_Co_findsAllAlike_17 : decode cc_Co_findsAllAlike 17 = .ok (.dup, 1) := by decide +kernel
theorem dd_Co_findsAllAlike_18 : decode cc_Co_findsAllAlike 18 = .ok (.getfield 25, 3) := by decide +kernel
theorem dd_Co_findsAllAlike_21 : decode cc_Co_findsAllAlike 21 = .ok (.iconst 1, 1) := by decide +kernel
theorem dd_Co_findsAllAlike_22 : decode cc_Co_findsAllAlike 22 = .ok (.isub, 1) := by decide +kernel
theorem dd_Co_findsAllAlike_23 : decode cc_Co_findsAllAlike 23 = .ok (.putfield 25, 3) := by decide +kernel
theorem dd_Co_findsAllAlike_26 : decode cc_Co_findsAllAlike 26 = .ok (.aload_n 0, 1) := by decide +kernel
theorem dd_Co_findsAllAlike_27 : decode cc_Co_findsAllAlike 27 = .ok (.getfield 9, 3) := by decide +kernel
theorem dd_Co_findsAllAlike_30 : decode cc_Co_findsAllAlike 30 = .ok (.aload_n 0, 1) := by decide +kernel
theorem dd_Co_findsAllAlike_31 : decode cc_Co_findsAllAlike 31 = .ok (.getfield 25, 3) := by decide +kernel
theorem dd_Co_findsAllAlike_34 : decode cc_Co_findsAllAlike 34 = .ok (.iaload, 1) := by decide +kernel
theorem dd_Co_findsAllAlike_35 : decode cc_Co_findsAllAlike 35 = .ok (.istore_n 2, 1) := by decide +kernel
theorem dd_Co_findsAllAlike_36 : decode cc_Co_findsAllAlike 36 = .ok (.aload_n 0, 1) := by decide +kernel
theorem dd_Co_findsAllAlike_37 : decode cc_Co_findsAllAlike 37 = .ok (.getfield 15, 3) := by decide +kernel
theorem dd_Co_findsAllAlike_40 : decode cc_Co_findsAllAlike 40 = .ok (.aload_n 0, 1) := by decide +kernel
theorem dd_Co_findsAllAlike_41 : decode cc_Co_findsAllAlike 41 = .ok (.getfield 25, 3) := by decide +kernel
theorem dd_Co_findsAllAlike_44 : decode cc_Co_findsAllAlike 44 = .ok (.iaload, 1) := by decide +kernel
theorem dd_Co_findsAllAlike_45 : decode cc_Co_findsAllAlike 45 = .ok (.istore_n 3, 1) := by decide +kernel
theorem dd_Co_findsAllAlike_46 : decode cc_Co_findsAllAlike 46 = .ok (.aload_n 0, 1) := by decide +kernel
theorem dd_Co_findsAllAlike_47 : decode cc_Co_findsAllAlike 47 = .ok (.iload_n 2, 1) := by decide +kernel
theorem dd_Co_findsAllAlike_48 : decode cc_Co_findsAllAlike 48 = .ok (.iload_n 3, 1) := by decide +kernel
theorem dd_Co_findsAllAlike_49 : decode cc_Co_findsAllAlike 49 = .ok (.invokevirtual 33, 3) := by decide +kernel
theorem dd_Co_findsAllAlike_52 : decode cc_Co_findsAllAlike 52 = .ok (.ifCond .ne 5, 3) := by decide +kernel
theorem dd_Co_findsAllAlike_55 : decode cc_Co_findsAllAlike 55 = .ok (.iconst 0, 1) := by decide +kernel
theorem dd_Co_findsAllAlike_56 : decode cc_Co_findsAllAlike 56 = .ok (.ireturn, 1) := by decide +kernel
theorem dd_Co_findsAllAlike_57 : decode cc_Co_findsAllAlike 57 = .ok (.aload_n 0, 1) := by decide +kernel
theorem dd_Co_findsAllAlike_58 : decode cc_Co_findsAllAlike 58 = .ok (.iload_n 2, 1) := by decide +kernel
theorem dd_Co_findsAllAlike_59 : decode cc_Co_findsAllAlike 59 = .ok (.iload_n 3, 1) := by decide +kernel
theorem dd_Co_findsAllAlike_60 : decode cc_Co_findsAllAlike 60 = .ok (.invokevirtual 37, 3) := by decide +kernel
theorem dd_Co_findsAllAlike_63 : decode cc_Co_findsAllAlike 63 = .ok (.iinc 1 1, 3) := by decide +kernel
theorem dd_Co_findsAllAlike_66 : decode cc_Co_findsAllAlike 66 = .ok (.goto (-64), 3) := by decide +kernel
theorem dd_Co_findsAllAlike_69 : decode cc_Co_findsAllAlike 69 = .ok (.iconst 1, 1) := by decide +kernel
theorem dd_Co_findsAllAlike_70 : decode cc_Co_findsAllAlike 70 = .ok (.ireturn, 1) := by decide +kernel
theorem dd_Co_areAlike_0 : decode cc_Co_areAlike 0 = .ok (.iload_n 1, 1) := by decide +kernel
theorem dd_Co_areAlike_1 : decode cc_Co_areAlike 1 = .ok (.invokestatic 40, 3) := by decide +kernel
theorem dd_Co_areAlike_4 : decode cc_Co_areAlike 4 = .ok (.iload_n 2, 1) := by decide +kernel
theorem dd_Co_areAlike_5 : decode cc_Co_areAlike 5 = .ok (.invokestatic 40, 3) := by decide +kernel
theorem dd_Co_areAlike_8 : decode cc_Co_areAlike 8 = .ok (.if_icmp .eq 5, 3) := by decide +kernel
theorem dd_Co_areAlike_11 : decode cc_Co_areAlike 11 = .ok (.iconst 0, 1) := by decide +kernel
theorem dd_Co_areAlike_12 : decode cc_Co_areAlike 12 = .ok (.ireturn, 1) := by decide +kernel
theorem dd_Co_areAlike_13 : decode cc_Co_areAlike 13 = .ok (.iload_n 1, 1) := by decide +kernel
theorem dd_Co_areAlike_14 : decode cc_Co_areAlike 14 = .ok (.invokestatic 40, 3) := by decide +kernel
theorem dd_Co_areAlike_17 : decode cc_Co_areAlike 17 = .ok (.iconst 5, 1) := by decide +kernel
theorem dd_Co_areAlike_18 : decode cc_Co_areAlike 18 = .ok (.if_icmp .ne 28, 3) := by decide +kernel
theorem dd_Co_areAlike_21 : decode cc_Co_areAlike 21 = .ok (.aload_n 0, 1) := by decide +kernel
theorem dd_Co_areAlike_22 : decode cc_Co_areAlike 22 = .ok (.getfield 18, 3) := by decide +kernel
theorem dd_Co_areAlike_25 : decode cc_Co_areAlike 25 = .ok (.iload_n 1, 1) := by decide +kernel
theorem dd_Co_areAlike_26 : decode cc_Co_areAlike 26 = .ok (.invokevirtual 44, 3) := by decide +kernel
theorem dd_Co_areAlike_29 : decode cc_Co_areAlike 29 = .ok (.aload_n 0, 1) := by decide +kernel
theorem dd_Co_areAlike_30 : decode cc_Co_areAlike 30 = .ok (.getfield 22, 3) := by decide +kernel
theorem dd_Co_areAlike_33 : decode cc_Co_areAlike 33 = .ok (.iload_n 2, 1) := by decide +kernel
theorem dd_Co_areAlike_34 : decode cc_Co_areAlike 34 = .ok (.invokevirtual 44, 3) := by decide +kernel
theorem dd_Co_areAlike_37 : decode cc_Co_areAlike 37 = .ok (.if_icmp .ne 7, 3) := by decide +kernel
theorem dd_Co_areAlike_40 : decode cc_Co_areAlike 40 = .ok (.iconst 1, 1) := by decide +kernel
theorem dd_Co_areAlike_41 : decode cc_Co_areAlike 41 = .ok (.goto 4, 3) := by decide +kernel
theorem dd_Co_areAlike_44 : decode cc_Co_areAlike 44 = .ok (.iconst 0, 1) := by decide +kernel
theorem dd_Co_areAlike_45 : decode cc_Co_areAlike 45 = .ok (.ireturn, 1) := by decide +kernel
theorem dd_Co_areAlike_46 : decode cc_Co_areAlike 46 = .ok (.iload_n 1, 1) := by decide +kernel
theorem dd_Co_areAlike_47 : decode cc_Co_areAlike 47 = .ok (.invokestatic 49, 3) := by decide +kernel
theorem dd_Co_areAlike_50 : decode cc_Co_areAlike 50 = .ok (.ifCond .eq 30, 3) := by decide +kernel
theorem dd_Co_areAlike_53 : decode cc_Co_areAlike 53 = .ok (.aload_n 0, 1) := by decide +kernel
theorem dd_Co_areAlike_54 : decode cc_Co_areAlike 54 = .ok (.getfield 18, 3) := by decide +kernel
theorem dd_Co_areAlike_57 : decode cc_Co_areAlike 57 = .ok (.iload_n 1, 1) := by decide +kernel
theorem dd_Co_areAlike_58 : decode cc_Co_areAlike 58 = .ok (.invokevirtual 53, 3) := by decide +kernel
theorem dd_Co_areAlike_61 : decode cc_Co_areAlike 61 = .ok (.aload_n 0, 1) := by decide +kernel
theorem dd_Co_areAlike_62 : decode cc_Co_areAlike 62 = .ok (.getfield 22, 3) := by decide +kernel
theorem dd_Co_areAlike_65 : decode cc_Co_areAlike 65 = .ok (.iload_n 2, 1) := by decide +kernel
theorem dd_Co_areAlike_66 : decode cc_Co_areAlike 66 = .ok (.invokevirtual 53, 3) := by decide +kernel
theorem dd_Co_areAlike_69 : decode cc_Co_areAlike 69 = .ok (.if_icmp .ne 7, 3) := by decide +kernel
theorem dd_Co_areAlike_72 : decode cc_Co_areAlike 72 = .ok (.iconst 1, 1) := by decide +kernel
theorem dd_Co_areAlike_73 : decode cc_Co_areAlike 73 = .ok (.goto 17, 3) := by decide +kernel
theorem dd_Co_areAlike_76 : decode cc_Co_areAlike 76 = .ok (.iconst 0, 1) := by decide +kernel
theorem dd_Co_areAlike_77 : decode cc_Co_areAlike 77 = .ok (.goto 13, 3) := by decide +kernel
theorem dd_Co_areAlike_80 : decode cc_Co_areAlike 80 = .ok (.iload_n 1, 1) := by decide +kernel
theorem dd_Co_areAlike_81 : decode cc_Co_areAlike 81 = .ok (.iload_n 2, 1) := by decide +kernel
theorem dd_Co_areAlike_82 : decode cc_Co_areAlike 82 = .ok (.if_icmp .ne 7, 3) := by decide +kernel
theorem dd_Co_areAlike_85 : decode cc_Co_areAlike 85 = .ok (.iconst 1, 1) := by decide +kernel
theorem dd_Co_areAlike_86 : decode cc_Co_areAlike 86 = .ok (.goto 4, 3) := by decide +kernel
theorem dd_Co_areAlike_89 : decode cc_Co_areAlike 89 = .ok (.iconst 0, 1) := by decide +kernel
theorem dd_Co_areAlike_90 : decode cc_Co_areAlike 90 = .ok (.ireturn, 1) := by decide +kernel
theorem dd_Co_pushParts_0 : decode cc_Co_pushParts 0 = .ok (.aload_n 0, 1) := by decide +kernel
theorem dd_Co_pushParts_1 : decode cc_Co_pushParts 1 = .ok (.getfield 18, 3) := by decide +kernel
theorem dd_Co_pushParts_4 : decode cc_Co_pushParts 4 = .ok (.iload_n 1, 1) := by decide +kernel
theorem dd_Co_pushParts_5 : decode cc_Co_pushParts 5 = .ok (.invokevirtual 53, 3) := by decide +kernel
theorem dd_Co_pushParts_8 : decode cc_Co_pushParts 8 = .ok (.iconst 1, 1) := by decide +kernel
theorem dd_Co_pushParts_9 : decode cc_Co_pushParts 9 = .ok (.isub, 1) := by decide +kernel
theorem dd_Co_pushParts_10 : decode cc_Co_pushParts 10 = .ok (.istore_n 3, 1) := by decide +kernel
theorem dd_Co_pushParts_11 : decode cc_Co_pushParts 11 = .ok (.iload_n 3, 1) := by decide +kernel
theorem dd_Co_pushParts_12 : decode cc_Co_pushParts 12 = .ok (.ifCond .lt 31, 3) := by decide +kernel
theorem dd_Co_pushParts_15 : decode cc_Co_pushParts 15 = .ok (.aload_n 0, 1) := by decide +kernel
theorem dd_Co_pushParts_16 : decode cc_Co_pushParts 16 = .ok (.aload_n 0, 1) := by decide +kernel
theorem dd_Co_pushParts_17 : decode cc_Co_pushParts 17 = .ok (.getfield 18, 3) := by decide +kernel
theorem dd_Co_pushParts_20 : decode cc_Co_pushParts 20 = .ok (.iload_n 1, 1) := by decide +kernel
theorem dd_Co_pushParts_21 : decode cc_Co_pushParts 21 = .ok (.iload_n 3, 1) := by decide +kernel
theorem dd_Co_pushParts_22 : decode cc_Co_pushParts 22 = .ok (.invokevirtual 56, 3) := by decide +kernel
theorem dd_Co_pushParts_25 : decode cc_Co_pushParts 25 = .ok (.aload_n 0, 1) := by decide +kernel
theorem dd_Co_pushParts_26 : decode cc_Co_pushParts 26 = .ok (.getfield 22, 3) := by decide +kernel
theorem dd_Co_pushParts_29 : decode cc_Co_pushParts 29 = .ok (.iload_n 2, 1) := by decide +kernel
theorem dd_Co_pushParts_30 : decode cc_Co_pushParts 30 = .ok (.iload_n 3, 1) := by decide +kernel
theorem dd_Co_pushParts_31 : decode cc_Co_pushParts 31 = .ok (.invokevirtual 56, 3) := by decide +kernel
theorem dd_Co_pushParts_34 : decode cc_Co_pushParts 34 = .ok (.invokevirtual 29, 3) := by decide +kernel
theorem dd_Co_pushParts_37 : decode cc_Co_pushParts 37 = .ok (.iinc 3 (-1), 3) := by decide +kernel
theorem dd_Co_pushParts_40 : decode cc_Co_pushParts 40 = .ok (.goto (-29), 3) := by decide +kernel
theorem dd_Co_pushParts_43 : decode cc_Co_pushParts 43 = .ok (.return_, 1) := by decide +kernel
theorem dd_Co_isUnfinished_0 : decode cc_Co_isUnfinished 0 = .ok (.aload_n 0, 1) := by decide +kernel
theorem dd_Co_isUnfinished_1 : decode cc_Co_isUnfinished 1 = .ok (.getfield 25, 3) := by decide +kernel
theorem dd_Co_isUnfinished_4 : decode cc_Co_isUnfinished 4 = .ok (.ifCond .le 7, 3) := by decide +kernel
theorem dd_Co_isUnfinished_7 : decode cc_Co_isUnfinished 7 = .ok (.iconst 1, 1) := by decide +kernel
theorem dd_Co_isUnfinished_8 : decode cc_Co_isUnfinished 8 = .ok (.goto 4, 3) := by decide +kernel
theorem dd_Co_isUnfinished_11 : decode cc_Co_isUnfinished 11 = .ok (.iconst 0, 1) := by decide +kernel
theorem dd_Co_isUnfinished_12 : decode cc_Co_isUnfinished 12 = .ok (.ireturn, 1) := by decide +kernel
theorem dd_Mo_init_0 : decode cc_Mo_init 0 = .ok (.aload_n 0, 1) := by decide +kernel
theorem dd_Mo_init_1 : decode cc_Mo_init 1 = .ok (.invokespecial 1, 3) := by decide +kernel
theorem dd_Mo_init_4 : decode cc_Mo_init 4 = .ok (.aload_n 0, 1) := by decide +kernel
theorem dd_Mo_init_5 : decode cc_Mo_init 5 = .ok (.bipush 8, 2) := by decide +kernel
theorem dd_Mo_init_7 : decode cc_Mo_init 7 = .ok (.newarray .int, 2) := by decide +kernel
theorem dd_Mo_init_9 : decode cc_Mo_init 9 = .ok (.putfield 7, 3) := by decide +kernel
theorem dd_Mo_init_12 : decode cc_Mo_init 12 = .ok (.aload_n 0, 1) := by decide +kernel
theorem dd_Mo_init_13 : decode cc_Mo_init 13 = .ok (.bipush 8, 2) := by decide +kernel
theorem dd_Mo_init_15 : decode cc_Mo_init 15 = .ok (.newarray .int, 2) := by decide +kernel
theorem dd_Mo_init_17 : decode cc_Mo_init 17 = .ok (.putfield 13, 3) := by decide +kernel
theorem dd_Mo_init_20 : decode cc_Mo_init 20 = .ok (.aload_n 0, 1) := by decide +kernel
theorem dd_Mo_init_21 : decode cc_Mo_init 21 = .ok (.bipush 8, 2) := by decide +kernel
theorem dd_Mo_init_23 : decode cc_Mo_init 23 = .ok (.newarray .int, 2) := by decide +kernel
theorem dd_Mo_init_25 : decode cc_Mo_init 25 = .ok (.putfield 16, 3) := by decide +kernel
theorem dd_Mo_init_28 : decode cc_Mo_init 28 = .ok (.aload_n 0, 1) := by decide +kernel
theorem dd_Mo_init_29 : decode cc_Mo_init 29 = .ok (.bipush 32, 2) := by decide +kernel
theorem dd_Mo_init_31 : decode cc_Mo_init 31 = .ok (.newarray .int, 2) := by decide +kernel
theorem dd_Mo_init_33 : decode cc_Mo_init 33 = .ok (.putfield 19, 3) := by decide +kernel
theorem dd_Mo_init_36 : decode cc_Mo_init 36 = .ok (.aload_n 0, 1) := by decide +kernel
theorem dd_Mo_init_37 : decode cc_Mo_init 37 = .ok (.bipush 8, 2) := by decide +kernel
theorem dd_Mo_init_39 : decode cc_Mo_init 39 = .ok (.newarray .int, 2) := by decide +kernel
theorem dd_Mo_init_41 : decode cc_Mo_init 41 = .ok (.putfield 22, 3) := by decide +kernel
theorem dd_Mo_init_44 : decode cc_Mo_init 44 = .ok (.aload_n 0, 1) := by decide +kernel
theorem dd_Mo_init_45 : decode cc_Mo_init 45 = .ok (.sipush 4160, 3) := by decide +kernel
theorem dd_Mo_init_48 : decode cc_Mo_init 48 = .ok (.newarray .int, 2) := by decide +kernel
theorem dd_Mo_init_50 : decode cc_Mo_init 50 = .ok (.putfield 25, 3) := by decide +kernel
theorem dd_Mo_init_53 : decode cc_Mo_init 53 = .ok (.aload_n 0, 1) := by decide +kernel
theorem dd_Mo_init_54 : decode cc_Mo_init 54 = .ok (.sipush 4800, 3) := by decide +kernel
theorem dd_Mo_init_57 : decode cc_Mo_init 57 = .ok (.newarray .int, 2) := by decide +kernel
theorem dd_Mo_init_59 : decode cc_Mo_init 59 = .ok (.putfield 28, 3) := by decide +kernel
theorem dd_Mo_init_62 : decode cc_Mo_init 62 = .ok (.aload_n 0, 1) := by decide +kernel
theorem dd_Mo_init_63 : decode cc_Mo_init 63 = .ok (.sipush 4800, 3) := by decide +kernel
theorem dd_Mo_init_66 : decode cc_Mo_init 66 = .ok (.newarray .int, 2) := by decide +kernel
theorem dd_Mo_init_68 : decode cc_Mo_init 68 = .ok (.putfield 31, 3) := by decide +kernel
theorem dd_Mo_init_71 : decode cc_Mo_init 71 = .ok (.aload_n 0, 1) := by decide +kernel
theorem dd_Mo_init_72 : decode cc_Mo_init 72 = .ok (.bipush 30, 2) := by decide +kernel
theorem dd_Mo_init_74 : decode cc_Mo_init 74 = .ok (.newarray .int, 2) := by decide +kernel
theorem dd_Mo_init_76 : decode cc_Mo_init 76 = .ok (.putfield 34, 3) := by decide +kernel
theorem dd_Mo_init_79 : decode cc_Mo_init 79 = .ok (.aload_n 0, 1) := by decide +kernel
theorem dd_Mo_init_80 : decode cc_Mo_init 80 = .ok (.bipush 30, 2) := by decide +kernel
theorem dd_Mo_init_82 : decode cc_Mo_init 82 = .ok (.newarray .int, 2) := by decide +kernel
theorem dd_Mo_init_84 : decode cc_Mo_init 84 = .ok (.putfield 37, 3) := by decide +kernel
theorem dd_Mo_init_87 : decode cc_Mo_init 87 = .ok (.aload_n 0, 1) := by decide +kernel
theorem dd_Mo_init_88 : decode cc_Mo_init 88 = .ok (.sipush 600, 3) := by decide +kernel
theorem dd_Mo_init_91 : decode cc_Mo_init 91 = .ok (.newarray .int, 2) := by decide +kernel
theorem dd_Mo_init_93 : decode cc_Mo_init 93 = .ok (.putfield 40, 3) := by decide +kernel
theorem dd_Mo_init_96 : decode cc_Mo_init 96 = .ok (.aload_n 0, 1) := by decide +kernel
theorem dd_Mo_init_97 : decode cc_Mo_init 97 = .ok (.sipush 600, 3) := by decide +kernel
theorem dd_Mo_init_100 : decode cc_Mo_init 100 = .ok (.newarray .int, 2) := by decide +kernel
theorem dd_Mo_init_102 : decode cc_Mo_init 102 = .ok (.putfield 43, 3) := by decide +kernel
theorem dd_Mo_init_105 : decode cc_Mo_init 105 = .ok (.aload_n 0, 1) := by decide +kernel
theorem dd_Mo_init_106 : decode cc_Mo_init 106 = .ok (.sipush 600, 3) := by decide +kernel
theorem dd_Mo_init_109 : decode cc_Mo_init 109 = .ok (.newarray .int, 2) := by decide +kernel
theorem dd_Mo_init_111 : decode cc_Mo_init 111 = .ok (.putfield 46, 3) := by decide +kernel
theorem dd_Mo_init_114 : decode cc_Mo_init 114 = .ok (.aload_n 0, 1) := by decide +kernel
theorem dd_Mo_init_115 : decode cc_Mo_init 115 = .ok (.sipush 320, 3) := by decide +kernel
theorem dd_Mo_init_118 : decode cc_Mo_init 118 = .ok (.newarray .int, 2) := by decide +kernel
theorem dd_Mo_init_120 : decode cc_Mo_init 120 = .ok (.putfield 49, 3) := by decide +kernel
theorem dd_Mo_init_123 : decode cc_Mo_init 123 = .ok (.aload_n 0, 1) := by decide +kernel
theorem dd_Mo_init_124 : decode cc_Mo_init 124 = .ok (.sipush 320, 3) := by decide +kernel
theorem dd_Mo_init_127 : decode cc_Mo_init 127 = .ok (.newarray .int, 2) := by decide +kernel
theorem dd_Mo_init_129 : decode cc_Mo_init 129 = .ok (.putfield 52, 3) := by decide +kernel
theorem dd_Mo_init_132 : decode cc_Mo_init 132 = .ok (.aload_n 0, 1) := by decide +kernel
theorem dd_Mo_init_133 : decode cc_Mo_init 133 = .ok (.sipush 320, 3) := by decide +kernel
theorem dd_Mo_init_136 : decode cc_Mo_init 136 = .ok (.newarray .int, 2) := by decide +kernel
theorem dd_Mo_init_138 : decode cc_Mo_init 138 = .ok (.putfield 55, 3) := by decide +kernel
theorem dd_Mo_init_141 : decode cc_Mo_init 141 = .ok (.aload_n 0, 1) := by decide +kernel
theorem dd_Mo_init_142 : decode cc_Mo_init 142 = .ok (.iload_n 1, 1) := by decide +kernel
theorem dd_Mo_init_143 : decode cc_Mo_init 143 = .ok (.bipush 40, 2) := by decide +kernel
theorem dd_Mo_init_145 : decode cc_Mo_init 145 = .ok (.if_icmp .ge 8, 3) := by decide +kernel
theorem dd_Mo_init_148 : decode cc_Mo_init 148 = .ok (.bipush 40, 2) := by decide +kernel
theorem dd_Mo_init_150 : decode cc_Mo_init 150 = .ok (.goto 17, 3) := by decide +kernel
theorem dd_Mo_init_153 : decode cc_Mo_init 153 = .ok (.iload_n 1, 1) := by decide +kernel
theorem dd_Mo_init_154 : decode cc_Mo_init 154 = .ok (.sipush 600, 3) := by decide +kernel
theorem dd_Mo_init_157 : decode cc_Mo_init 157 = .ok (.if_icmp .le 9, 3) := by decide +kernel
theorem dd_Mo_init_160 : decode cc_Mo_init 160 = .ok (.sipush 600, 3) := by decide +kernel
theorem dd_Mo_init_163 : decode cc_Mo_init 163 = .ok (.goto 4, 3) := by decide +kernel
theorem dd_Mo_init_166 : decode cc_Mo_init 166 = .ok (.iload_n 1, 1) := by decide +kernel
theorem dd_Mo_init_167 : decode cc_Mo_init 167 = .ok (.putfield 58, 3) := by decide +kernel
theorem dd_Mo_init_170 : decode cc_Mo_init 170 = .ok (.return_, 1) := by decide +kernel
theorem dd_Mo_thrown_0 : decode cc_Mo_thrown 0 = .ok (.aload_n 0, 1) := by decide +kernel
theorem dd_Mo_thrown_1 : decode cc_Mo_thrown 1 = .ok (.getfield 62, 3) := by decide +kernel
theorem dd_Mo_thrown_4 : decode cc_Mo_thrown 4 = .ok (.ireturn, 1) := by decide +kernel
theorem dd_Mo_spawn_0 : decode cc_Mo_spawn 0 = .ok (.aload_n 0, 1) := by decide +kernel
theorem dd_Mo_spawn_1 : decode cc_Mo_spawn 1 = .ok (.aload_n 0, 1) := by decide +kernel
theorem dd_Mo_spawn_2 : decode cc_Mo_spawn 2 = .ok (.getfield 114, 3) := by decide +kernel
theorem dd_Mo_spawn_5 : decode cc_Mo_spawn 5 = .ok (.bipush 8, 2) := by decide +kernel
theorem dd_Mo_spawn_7 : decode cc_Mo_spawn 7 = .ok (.if_icmp .eq 12, 3) := by decide +kernel
theorem dd_Mo_spawn_10 : decode cc_Mo_spawn 10 = .ok (.aload_n 0, 1) := by decide +kernel
theorem dd_Mo_spawn_11 : decode cc_Mo_spawn 11 = .ok (.invokevirtual 110, 3) := by decide +kernel
theorem dd_Mo_spawn_14 : decode cc_Mo_spawn 14 = .ok (.bipush 8, 2) := by decide +kernel
theorem dd_Mo_spawn_16 : decode cc_Mo_spawn 16 = .ok (.if_icmp .ge 7, 3) := by decide +kernel
theorem dd_Mo_spawn_19 : decode cc_Mo_spawn 19 = .ok (.iconst 1, 1) := by decide +kernel
theorem dd_Mo_spawn_20 : decode cc_Mo_spawn 20 = .ok (.goto 4, 3) := by decide +kernel
theorem dd_Mo_spawn_23 : decode cc_Mo_spawn 23 = .ok (.iconst 0, 1) := by decide +kernel
theorem dd_Mo_spawn_24 : decode cc_Mo_spawn 24 = .ok (.putfield 62, 3) := by decide +kernel
theorem dd_Mo_spawn_27 : decode cc_Mo_spawn 27 = .ok (.aload_n 0, 1) := by decide +kernel
theorem dd_Mo_spawn_28 : decode cc_Mo_spawn 28 = .ok (.getfield 62, 3) := by decide +kernel
theorem dd_Mo_spawn_31 : decode cc_Mo_spawn 31 = .ok (.ifCond .eq 5, 3) := by decide +kernel
theorem dd_Mo_spawn_34 : decode cc_Mo_spawn 34 = .ok (.iconst 0, 1) := by decide +kernel
theorem dd_Mo_spawn_35 : decode cc_Mo_spawn 35 = .ok (.ireturn, 1) := by decide +kernel
theorem dd_Mo_spawn_36 : decode cc_Mo_spawn 36 = .ok (.iconst 0, 1) := by decide +kernel
theorem dd_Mo_spawn_37 : decode cc_Mo_spawn 37 = .ok (.istore_n 1, 1) := by decide +kernel
theorem dd_Mo_spawn_38 : decode cc_Mo_spawn 38 = .ok (.aload_n 0, 1) := by decide +kernel
theorem dd_Mo_spawn_39 : decode cc_Mo_spawn 39 = .ok (.getfield 7, 3) := by decide +kernel
theorem dd_Mo_spawn_42 : decode cc_Mo_spawn 42 = .ok (.iload_n 1, 1) := by decide +kernel
theorem dd_Mo_spawn_43 : decode cc_Mo_spawn 43 = .ok (.iaload, 1) := by decide +kernel
theorem dd_Mo_spawn_44 : decode cc_Mo_spawn 44 = .ok (.ifCond .le 9, 3) := by decide +kernel
theorem dd_Mo_spawn_47 : decode cc_Mo_spawn 47 = .ok (.iinc 1 1, 3) := by decide +kernel
theorem dd_Mo_spawn_50 : decode cc_Mo_spawn 50 = .ok (.goto (-12), 3) := by decide +kernel
theorem dd_Mo_spawn_53 : decode cc_Mo_spawn 53 = .ok (.aload_n 0, 1) := by decide +kernel
theorem dd_Mo_spawn_54 : decode cc_Mo_spawn 54 = .ok (.dup, 1) := by decide +kernel
theorem dd_Mo_spawn_55 : decode cc_Mo_spawn 55 = .ok (.getfield 117, 3) := by decide +kernel
theorem dd_Mo_spawn_58 : decode cc_Mo_spawn 58 = .ok (.iconst 1, 1) := by decide +kernel
theorem dd_Mo_spawn_59 : decode cc_Mo_spawn 59 = .ok (.iadd, 1) := by decide +kernel
theorem dd_Mo_spawn_60 : decode cc_Mo_spawn 60 = .ok (.putfield 117, 3) := by decide +kernel
theorem dd_Mo_spawn_63 : decode cc_Mo_spawn 63 = .ok (.aload_n 0, 1) := by decide +kernel
theorem dd_Mo_spawn_64 : decode cc_Mo_spawn 64 = .ok (.dup, 1) := by decide +kernel
theorem dd_Mo_spawn_65 : decode cc_Mo_spawn 65 = .ok (.getfield 114, 3) := by decide +kernel
theorem dd_Mo_spawn_68 : decode cc_Mo_spawn 68 = .ok (.iconst 1, 1) := by decide +kernel
theorem dd_Mo_spawn_69 : decode cc_Mo_spawn 69 = .ok (.iadd, 1) := by decide +kernel
theorem dd_Mo_spawn_70 : decode cc_Mo_spawn 70 = .ok (.putfield 114, 3) := by decide +kernel
theorem dd_Mo_spawn_73 : decode cc_Mo_spawn 73 = .ok (.aload_n 0, 1) := by decide +kernel
theorem dd_Mo_spawn_74 : decode cc_Mo_spawn 74 = .ok (.getfield 7, 3) := by decide +kernel
theorem dd_Mo_spawn_77 : decode cc_Mo_spawn 77 = .ok (.iload_n 1, 1) := by decide +kernel
theorem dd_Mo_spawn_78 : decode cc_Mo_spawn 78 = .ok (.aload_n 0, 1) := by decide +kernel
theorem dd_Mo_spawn_79 : decode cc_Mo_spawn 79 = .ok (.getfield 117, 3) := by decide +kernel
theorem dd_Mo_spawn_82 : decode cc_Mo_spawn 82 = .ok (.iastore, 1) := by decide +kernel
theorem dd_Mo_spawn_83 : decode cc_Mo_spawn 83 = .ok (.aload_n 0, 1) := by decide +kernel
theorem dd_Mo_spawn_84 : decode cc_Mo_spawn 84 = .ok (.getfield 13, 3) := by decide +kernel
theorem dd_Mo_spawn_87 : decode cc_Mo_spawn 87 = .ok (.iload_n 1, 1) := by decide +kernel
theorem dd_Mo_spawn_88 : decode cc_Mo_spawn 88 = .ok (.bipush 8, 2) := by decide +kernel
theorem dd_Mo_spawn_90 : decode cc_Mo_spawn 90 = .ok (.iastore, 1) := by decide +kernel
theorem dd_Mo_spawn_91 : decode cc_Mo_spawn 91 = .ok (.aload_n 0, 1) := by decide +kernel
theorem dd_Mo_spawn_92 : decode cc_Mo_spawn 92 = .ok (.getfield 16, 3) := by decide +kernel
theorem dd_Mo_spawn_95 : decode cc_Mo_spawn 95 = .ok (.iload_n 1, 1) := by decide +kernel
theorem dd_Mo_spawn_96 : decode cc_Mo_spawn 96 = .ok (.iconst 0, 1) := by decide +kernel
theorem dd_Mo_spawn_97 : decode cc_Mo_spawn 97 = .ok (.iastore, 1) := by decide +kernel
theorem dd_Mo_spawn_98 : decode cc_Mo_spawn 98 = .ok (.aload_n 0, 1) := by decide +kernel
theorem dd_Mo_spawn_99 : decode cc_Mo_spawn 99 = .ok (.getfield 22, 3) := by decide +kernel
theorem dd_Mo_spawn_102 : decode cc_Mo_spawn 102 = .ok (.iload_n 1, 1) := by decide +kernel
theorem dd_Mo_spawn_103 : decode cc_Mo_spawn 103 = .ok (.iconst 0, 1) := by decide +kernel
theorem dd_Mo_spawn_104 : decode cc_Mo_spawn 104 = .ok (.iastore, 1) := by decide +kernel
theorem dd_Mo_spawn_105 : decode cc_Mo_spawn 105 = .ok (.iconst 0, 1) := by decide +kernel
theorem dd_Mo_spawn_106 : decode cc_Mo_spawn 106 = .ok (.istore_n 2, 1) := by decide +kernel
theorem dd_Mo_spawn_107 : decode cc_Mo_spawn 107 = .ok (.iload_n 2, 1) := by decide +kernel
theorem dd_Mo_spawn_108 : decode cc_Mo_spawn 108 = .ok (.iconst 4, 1) := by decide +kernel
theorem dd_Mo_spawn_109 : decode cc_Mo_spawn 109 = .ok (.if_icmp .ge 20, 3) := by decide +kernel
theorem dd_Mo_spawn_112 : decode cc_Mo_spawn 112 = .ok (.aload_n 0, 1) := by decide +kernel
theorem dd_Mo_spawn_113 : decode cc_Mo_spawn 113 = .ok (.getfield 19, 3) := by decide +kernel
theorem dd_Mo_spawn_116 : decode cc_Mo_spawn 116 = .ok (.iconst 4, 1) := by decide +kernel
theorem dd_Mo_spawn_117 : decode cc_Mo_spawn 117 = .ok (.iload_n 1, 1) := by decide +kernel
theorem dd_Mo_spawn_118 : decode cc_Mo_spawn 118 = .ok (.imul, 1) := by decide +kernel
theorem dd_Mo_spawn_119 : decode cc_Mo_spawn 119 = .ok (.iload_n 2, 1) := by decide +kernel
theorem dd_Mo_spawn_120 : decode cc_Mo_spawn 120 = .ok (.iadd, 1) := by decide +kernel
theorem dd_Mo_spawn_121 : decode cc_Mo_spawn 121 = .ok (.iconst 0, 1) := by decide +kernel
theorem dd_Mo_spawn_122 : decode cc_Mo_spawn 122 = .ok (.iastore, 1) := by decide +kernel
theorem dd_Mo_spawn_123 : decode cc_Mo_spawn 123 = .ok (.iinc 2 1, 3) := by decide +kernel
theorem dd_Mo_spawn_126 : decode cc_Mo_spawn 126 = .ok (.goto (-19), 3) := by decide +kernel
theorem dd_Mo_spawn_129 : decode cc_Mo_spawn 129 = .ok (.iconst 0, 1) := by decide +kernel
theorem dd_Mo_spawn_130 : decode cc_Mo_spawn 130 = .ok (.istore_n 2, 1) := by decide +kernel
theorem dd_Mo_spawn_131 : decode cc_Mo_spawn 131 = .ok (.iload_n 2, 1) := by decide +kernel
theorem dd_Mo_spawn_132 : decode cc_Mo_spawn 132 = .ok (.sipush 600, 3) := by decide +kernel
theorem dd_Mo_spawn_135 : decode cc_Mo_spawn 135 = .ok (.if_icmp .ge 22, 3) := by decide +kernel
theorem dd_Mo_spawn_138 : decode cc_Mo_spawn 138 = .ok (.aload_n 0, 1) := by decide +kernel
theorem dd_Mo_spawn_139 : decode cc_Mo_spawn 139 = .ok (.getfield 31, 3) := by decide +kernel
theorem dd_Mo_spawn_142 : decode cc_Mo_spawn 142 = .ok (.sipush 600, 3) := by decide +kernel
theorem dd_Mo_spawn_145 : decode cc_Mo_spawn 145 = .ok (.iload_n 1, 1) := by decide +kernel
theorem dd_Mo_spawn_146 : decode cc_Mo_spawn 146 = .ok (.imul, 1) := by decide +kernel
theorem dd_Mo_spawn_147 : decode cc_Mo_spawn 147 = .ok (.iload_n 2, 1) := by decide +kernel
theorem dd_Mo_spawn_148 : decode cc_Mo_spawn 148 = .ok (.iadd, 1) := by decide +kernel
theorem dd_Mo_spawn_149 : decode cc_Mo_spawn 149 = .ok (.iconst 0, 1) := by decide +kernel
theorem dd_Mo_spawn_150 : decode cc_Mo_spawn 150 = .ok (.iastore, 1) := by decide +kernel
theorem dd_Mo_spawn_151 : decode cc_Mo_spawn 151 = .ok (.iinc 2 1, 3) := by decide +kernel
theorem dd_Mo_spawn_154 : decode cc_Mo_spawn 154 = .ok (.goto (-23), 3) := by decide +kernel
theorem dd_Mo_spawn_157 : decode cc_Mo_spawn 157 = .ok (.aload_n 0, 1) := by decide +kernel
theorem dd_Mo_spawn_158 : decode cc_Mo_spawn 158 = .ok (.getfield 117, 3) := by decide +kernel
theorem dd_Mo_spawn_161 : decode cc_Mo_spawn 161 = .ok (.ireturn, 1) := by decide +kernel
theorem dd_Mo_free_0 : decode cc_Mo_free 0 = .ok (.aload_n 0, 1) := by decide +kernel
theorem dd_Mo_free_1 : decode cc_Mo_free 1 = .ok (.getfield 58, 3) := by decide +kernel
theorem dd_Mo_free_4 : decode cc_Mo_free 4 = .ok (.istore_n 1, 1) := by decide +kernel
theorem dd_Mo_free_5 : decode cc_Mo_free 5 = .ok (.iconst 0, 1) := by decide +kernel
theorem dd_Mo_free_6 : decode cc_Mo_free 6 = .ok (.istore_n 2, 1) := by decide +kernel
theorem dd_Mo_free_7 : decode cc_Mo_free 7 = .ok (.iload_n 2, 1) := by decide +kernel
theorem dd_Mo_free_8 : decode cc_Mo_free 8 = .ok (.bipush 8, 2) := by decide +kernel
theorem dd_Mo_free_10 : decode cc_Mo_free 10 = .ok (.if_icmp .ge 31, 3) := by decide +kernel
theorem dd_Mo_free_13 : decode cc_Mo_free 13 = .ok (.iload_n 1, 1) := by decide +kernel
theorem dd_Mo_free_14 : decode cc_Mo_free 14 = .ok (.aload_n 0, 1) := by decide +kernel
theorem dd_Mo_free_15 : decode cc_Mo_free 15 = .ok (.getfield 7, 3) := by decide +kernel
theorem dd_Mo_free_18 : decode cc_Mo_free 18 = .ok (.iload_n 2, 1) := by decide +kernel
theorem dd_Mo_free_19 : decode cc_Mo_free 19 = .ok (.iaload, 1) := by decide +kernel
theorem dd_Mo_free_20 : decode cc_Mo_free 20 = .ok (.ifCond .le 12, 3) := by decide +kernel
theorem dd_Mo_free_23 : decode cc_Mo_free 23 = .ok (.aload_n 0, 1) := by decide +kernel
theorem dd_Mo_free_24 : decode cc_Mo_free 24 = .ok (.getfield 13, 3) := by decide +kernel
theorem dd_Mo_free_27 : decode cc_Mo_free 27 = .ok (.iload_n 2, 1) := by decide +kernel
theorem dd_Mo_free_28 : decode cc_Mo_free 28 = .ok (.iaload, 1) := by decide +kernel
theorem dd_Mo_free_29 : decode cc_Mo_free 29 = .ok (.goto 4, 3) := by decide +kernel
theorem dd_Mo_free_32 : decode cc_Mo_free 32 = .ok (.iconst 0, 1) := by decide +kernel
theorem dd_Mo_free_33 : decode cc_Mo_free 33 = .ok (.isub, 1) := by decide +kernel
theorem dd_Mo_free_34 : decode cc_Mo_free 34 = .ok (.istore_n 1, 1) := by decide +kernel
theorem dd_Mo_free_35 : decode cc_Mo_free 35 = .ok (.iinc 2 1, 3) := by decide +kernel
theorem dd_Mo_free_38 : decode cc_Mo_free 38 = .ok (.goto (-31), 3) := by decide +kernel
theorem dd_Mo_free_41 : decode cc_Mo_free 41 = .ok (.iconst 0, 1) := by decide +kernel
theorem dd_Mo_free_42 : decode cc_Mo_free 42 = .ok (.istore_n 2, 1) := by decide +kernel
theorem dd_Mo_free_43 : decode cc_Mo_free 43 = .ok (.iload_n 2, 1) := by decide +kernel
theorem dd_Mo_free_44 : decode cc_Mo_free 44 = .ok (.bipush 30, 2) := by decide +kernel
theorem dd_Mo_free_46 : decode cc_Mo_free 46 = .ok (.if_icmp .ge 18, 3) := by decide +kernel
theorem dd_Mo_free_49 : decode cc_Mo_free 49 = .ok (.iload_n 1, 1) := by decide +kernel
theorem dd_Mo_free_50 : decode cc_Mo_free 50 = .ok (.aload_n 0, 1) := by decide +kernel
theorem dd_Mo_free_51 : decode cc_Mo_free 51 = .ok (.getfield 34, 3) := by decide +kernel
theorem dd_Mo_free_54 : decode cc_Mo_free 54 = .ok (.iload_n 2, 1) := by decide +kernel
theorem dd_Mo_free_55 : decode cc_Mo_free 55 = .ok (.iaload, 1) := by decide +kernel
theorem dd_Mo_free_56 : decode cc_Mo_free 56 = .ok (.isub, 1) := by decide +kernel
theorem dd_Mo_free_57 : decode cc_Mo_free 57 = .ok (.istore_n 1, 1) := by decide +kernel
theorem dd_Mo_free_58 : decode cc_Mo_free 58 = .ok (.iinc 2 1, 3) := by decide +kernel
theorem dd_Mo_free_61 : decode cc_Mo_free 61 = .ok (.goto (-18), 3) := by decide +kernel
theorem dd_Mo_free_64 : decode cc_Mo_free 64 = .ok (.iload_n 1, 1) := by decide +kernel
theorem dd_Mo_free_65 : decode cc_Mo_free 65 = .ok (.ireturn, 1) := by decide +kernel
theorem dd_Mo_exit_0 : decode cc_Mo_exit 0 = .ok (.aload_n 0, 1) := by decide +kernel
theorem dd_Mo_exit_1 : decode cc_Mo_exit 1 = .ok (.iload_n 1, 1) := by decide +kernel
theorem dd_Mo_exit_2 : decode cc_Mo_exit 2 = .ok (.invokevirtual 120, 3) := by decide +kernel
theorem dd_Mo_exit_5 : decode cc_Mo_exit 5 = .ok (.istore_n 2, 1) := by decide +kernel
theorem dd_Mo_exit_6 : decode cc_Mo_exit 6 = .ok (.aload_n 0, 1) := by decide +kernel
theorem dd_Mo_exit_7 : decode cc_Mo_exit 7 = .ok (.iload_n 2, 1) := by decide +kernel
theorem dd_Mo_exit_8 : decode cc_Mo_exit 8 = .ok (.ifCond .ge 7, 3) := by decide +kernel
theorem dd_Mo_exit_11 : decode cc_Mo_exit 11 = .ok (.iconst 1, 1) := by decide +kernel
theorem dd_Mo_exit_12 : decode cc_Mo_exit 12 = .ok (.goto 4, 3) := by decide +kernel
theorem dd_Mo_exit_15 : decode cc_Mo_exit 15 = .ok (.iconst 0, 1) := by decide +kernel
theorem dd_Mo_exit_16 : decode cc_Mo_exit 16 = .ok (.putfield 62, 3) := by decide +kernel
theorem dd_Mo_exit_19 : decode cc_Mo_exit 19 = .ok (.aload_n 0, 1) := by decide +kernel
theorem dd_Mo_exit_20 : decode cc_Mo_exit 20 = .ok (.getfield 62, 3) := by decide +kernel
theorem dd_Mo_exit_23 : decode cc_Mo_exit 23 = .ok (.ifCond .eq 5, 3) := by decide +kernel
theorem dd_Mo_exit_26 : decode cc_Mo_exit 26 = .ok (.iconst 0, 1) := by decide +kernel
theorem dd_Mo_exit_27 : decode cc_Mo_exit 27 = .ok (.ireturn, 1) := by decide +kernel
theorem dd_Mo_exit_28 : decode cc_Mo_exit 28 = .ok (.aload_n 0, 1) := by decide +kernel
theorem dd_Mo_exit_29 : decode cc_Mo_exit 29 = .ok (.invokevirtual 110, 3) := by decide +kernel
theorem dd_Mo_exit_32 : decode cc_Mo_exit 32 = .ok (.istore_n 3, 1) := by decide +kernel
theorem dd_Mo_exit_33 : decode cc_Mo_exit 33 = .ok (.iconst 0, 1) := by decide +kernel
theorem dd_Mo_exit_34 : decode cc_Mo_exit 34 = .ok (.istore 4, 2) := by decide +kernel
theorem dd_Mo_exit_36 : decode cc_Mo_exit 36 = .ok (.iload 4, 2) := by decide +kernel
theorem dd_Mo_exit_38 : decode cc_Mo_exit 38 = .ok (.aload_n 0, 1) := by decide +kernel
theorem dd_Mo_exit_39 : decode cc_Mo_exit 39 = .ok (.getfield 16, 3) := by decide +kernel
theorem dd_Mo_exit_42 : decode cc_Mo_exit 42 = .ok (.iload_n 2, 1) := by decide +kernel
theorem dd_Mo_exit_43 : decode cc_Mo_exit 43 = .ok (.iaload, 1) := by decide +kernel
theorem dd_Mo_exit_44 : decode cc_Mo_exit 44 = .ok (.if_icmp .ge 43, 3) := by decide +kernel
theorem dd_Mo_exit_47 : decode cc_Mo_exit 47 = .ok (.aload_n 0, 1) := by decide +kernel
theorem dd_Mo_exit_48 : decode cc_Mo_exit 48 = .ok (.getfield 31, 3) := by decide +kernel
theorem dd_Mo_exit_51 : decode cc_Mo_exit 51 = .ok (.sipush 600, 3) := by decide +kernel
theorem dd_Mo_exit_54 : decode cc_Mo_exit 54 = .ok (.iload_n 2, 1) := by decide +kernel
theorem dd_Mo_exit_55 : decode cc_Mo_exit 55 = .ok (.imul, 1) := by decide +kernel
theorem dd_Mo_exit_56 : decode cc_Mo_exit 56 = .ok (.iload 4, 2) := by decide +kernel
theorem dd_Mo_exit_58 : decode cc_Mo_exit 58 = .ok (.iadd, 1) := by decide +kernel
theorem dd_Mo_exit_59 : decode cc_Mo_exit 59 = .ok (.iaload, 1) := by decide +kernel
theorem dd_Mo_exit_60 : decode cc_Mo_exit 60 = .ok (.iconst 5, 1) := by decide +kernel
theorem dd_Mo_exit_61 : decode cc_Mo_exit 61 = .ok (.if_icmp .ne 20, 3) := by decide +kernel
theorem dd_Mo_exit_64 : decode cc_Mo_exit 64 = .ok (.aload_n 0, 1) := by decide +kernel
theorem dd_Mo_exit_65 : decode cc_Mo_exit 65 = .ok (.aload_n 0, 1) := by decide +kernel
theorem dd_Mo_exit_66 : decode cc_Mo_exit 66 = .ok (.getfield 28, 3) := by decide +kernel
theorem dd_Mo_exit_69 : decode cc_Mo_exit 69 = .ok (.sipush 600, 3) := by decide +kernel
theorem dd_Mo_exit_72 : decode cc_Mo_exit 72 = .ok (.iload_n 2, 1) := by decide +kernel
theorem dd_Mo_exit_73 : decode cc_Mo_exit 73 = .ok (.imul, 1) := by decide +kernel
theorem dd_Mo_exit_74 : decode cc_Mo_exit 74 = .ok (.iload 4, 2) := by decide +kernel
theorem dd_Mo_exit_76 : decode cc_Mo_exit 76 = .ok (.iadd, 1) := by decide +kernel
theorem dd_Mo_exit_77 : decode cc_Mo_exit 77 = .ok (.iaload, 1) := by decide +kernel
theorem dd_Mo_exit_78 : decode cc_Mo_exit 78 = .ok (.invokevirtual 103, 3) := by decide +kernel
theorem dd_Mo_exit_81 : decode cc_Mo_exit 81 = .ok (.iinc 4 1, 3) := by decide +kernel
theorem dd_Mo_exit_84 : decode cc_Mo_exit 84 = .ok (.goto (-48), 3) := by decide +kernel
theorem dd_Mo_exit_87 : decode cc_Mo_exit 87 = .ok (.aload_n 0, 1) := by decide +kernel
theorem dd_Mo_exit_88 : decode cc_Mo_exit 88 = .ok (.getfield 7, 3) := by decide +kernel
theorem dd_Mo_exit_91 : decode cc_Mo_exit 91 = .ok (.iload_n 2, 1) := by decide +kernel
theorem dd_Mo_exit_92 : decode cc_Mo_exit 92 = .ok (.iconst 0, 1) := by decide +kernel
theorem dd_Mo_exit_93 : decode cc_Mo_exit 93 = .ok (.iastore, 1) := by decide +kernel
theorem dd_Mo_exit_94 : decode cc_Mo_exit 94 = .ok (.aload_n 0, 1) := by decide +kernel
theorem dd_Mo_exit_95 : decode cc_Mo_exit 95 = .ok (.dup, 1) := by decide +kernel
theorem dd_Mo_exit_96 : decode cc_Mo_exit 96 = .ok (.getfield 114, 3) := by decide +kernel
theorem dd_Mo_exit_99 : decode cc_Mo_exit 99 = .ok (.iconst 1, 1) := by decide +kernel
theorem dd_Mo_exit_100 : decode cc_Mo_exit 100 = .ok (.isub, 1) := by decide +kernel
theorem dd_Mo_exit_101 : decode cc_Mo_exit 101 = .ok (.putfield 114, 3) := by decide +kernel
theorem dd_Mo_exit_104 : decode cc_Mo_exit 104 = .ok (.aload_n 0, 1) := by decide +kernel
theorem dd_Mo_exit_105 : decode cc_Mo_exit 105 = .ok (.invokevirtual 110, 3) := by decide +kernel
theorem dd_Mo_exit_108 : decode cc_Mo_exit 108 = .ok (.iload_n 3, 1) := by decide +kernel
theorem dd_Mo_exit_109 : decode cc_Mo_exit 109 = .ok (.isub, 1) := by decide +kernel
theorem dd_Mo_exit_110 : decode cc_Mo_exit 110 = .ok (.ireturn, 1) := by decide +kernel
theorem dd_Mo_placeOf_0 : decode cc_Mo_placeOf 0 = .ok (.iconst 0, 1) := by decide +kernel
theorem dd_Mo_placeOf_1 : decode cc_Mo_placeOf 1 = .ok (.istore_n 2, 1) := by decide +kernel
theorem dd_Mo_placeOf_2 : decode cc_Mo_placeOf 2 = .ok (.iload_n 2, 1) := by decide +kernel
theorem dd_Mo_placeOf_3 : decode cc_Mo_placeOf 3 = .ok (.bipush 8, 2) := by decide +kernel
theorem dd_Mo_placeOf_5 : decode cc_Mo_placeOf 5 = .ok (.if_icmp .ge 25, 3) := by decide +kernel
theorem dd_Mo_placeOf_8 : decode cc_Mo_placeOf 8 = .ok (.iload_n 1, 1) := by decide +kernel
theorem dd_Mo_placeOf_9 : decode cc_Mo_placeOf 9 = .ok (.ifCond .le 15, 3) := by decide +kernel
theorem dd_Mo_placeOf_12 : decode cc_Mo_placeOf 12 = .ok (.aload_n 0, 1) := by decide +kernel
theorem dd_Mo_placeOf_13 : decode cc_Mo_placeOf 13 = .ok (.getfield 7, 3) := by decide +kernel
theorem dd_Mo_placeOf_16 : decode cc_Mo_placeOf 16 = .ok (.iload_n 2, 1) := by decide +kernel
theorem dd_Mo_placeOf_17 : decode cc_Mo_placeOf 17 = .ok (.iaload, 1) := by decide +kernel
theorem dd_Mo_placeOf_18 : decode cc_Mo_placeOf 18 = .ok (.iload_n 1, 1) := by decide +kernel
theorem dd_Mo_placeOf_19 : decode cc_Mo_placeOf 19 = .ok (.if_icmp .ne 5, 3) := by decide +kernel
theorem dd_Mo_placeOf_22 : decode cc_Mo_placeOf 22 = .ok (.iload_n 2, 1) := by decide +kernel
theorem dd_Mo_placeOf_23 : decode cc_Mo_placeOf 23 = .ok (.ireturn, 1) := by decide +kernel
theorem dd_Mo_placeOf_24 : decode cc_Mo_placeOf 24 = .ok (.iinc 2 1, 3) := by decide +kernel
theorem dd_Mo_placeOf_27 : decode cc_Mo_placeOf 27 = .ok (.goto (-25), 3) := by decide +kernel
theorem dd_Mo_placeOf_30 : decode cc_Mo_placeOf 30 = .ok (.iconst (-1), 1) := by decide +kernel
theorem dd_Mo_placeOf_31 : decode cc_Mo_placeOf 31 = .ok (.ireturn, 1) := by decide +kernel
theorem dd_Mo_release_0 : decode cc_Mo_release 0 = .ok (.aload_n 0, 1) := by decide +kernel
theorem dd_Mo_release_1 : decode cc_Mo_release 1 = .ok (.getfield 37, 3) := by decide +kernel
theorem dd_Mo_release_4 : decode cc_Mo_release 4 = .ok (.iload_n 1, 1) := by decide +kernel
theorem dd_Mo_release_5 : decode cc_Mo_release 5 = .ok (.dup2, 1) := by decide +kernel
theorem dd_Mo_release_6 : decode cc_Mo_release 6 = .ok (.iaload, 1) := by decide +kernel
theorem dd_Mo_release_7 : decode cc_Mo_release 7 = .ok (.iconst 1, 1) := by decide +kernel
theorem dd_Mo_release_8 : decode cc_Mo_release 8 = .ok (.isub, 1) := by decide +kernel
theorem dd_Mo_release_9 : decode cc_Mo_release 9 = .ok (.iastore, 1) := by decide +kernel
theorem dd_Mo_release_10 : decode cc_Mo_release 10 = .ok (.aload_n 0, 1) := by decide +kernel
theorem dd_Mo_release_11 : decode cc_Mo_release 11 = .ok (.getfield 37, 3) := by decide +kernel
theorem dd_Mo_release_14 : decode cc_Mo_release 14 = .ok (.iload_n 1, 1) := by decide +kernel
theorem dd_Mo_release_15 : decode cc_Mo_release 15 = .ok (.iaload, 1) := by decide +kernel
theorem dd_Mo_release_16 : decode cc_Mo_release 16 = .ok (.ifCond .ne 20, 3) := by decide +kernel
theorem dd_Mo_release_19 : decode cc_Mo_release 19 = .ok (.aload_n 0, 1) := by decide +kernel
theorem dd_Mo_release_20 : decode cc_Mo_release 20 = .ok (.getfield 34, 3) := by decide +kernel
theorem dd_Mo_release_23 : decode cc_Mo_release 23 = .ok (.iload_n 1, 1) := by decide +kernel
theorem dd_Mo_release_24 : decode cc_Mo_release 24 = .ok (.iconst 0, 1) := by decide +kernel
theorem dd_Mo_release_25 : decode cc_Mo_release 25 = .ok (.iastore, 1) := by decide +kernel
theorem dd_Mo_release_26 : decode cc_Mo_release 26 = .ok (.aload_n 0, 1) := by decide +kernel
theorem dd_Mo_release_27 : decode cc_Mo_release 27 = .ok (.dup, 1) := by decide +kernel
theorem dd_Mo_release_28 : decode cc_Mo_release 28 = .ok (.getfield 65, 3) := by decide +kernel
theorem dd_Mo_release_31 : decode cc_Mo_release 31 = .ok (.iconst 1, 1) := by decide +kernel
theorem dd_Mo_release_32 : decode cc_Mo_release 32 = .ok (.isub, 1) := by decide +kernel
theorem dd_Mo_release_33 : decode cc_Mo_release 33 = .ok (.putfield 65, 3) := by decide +kernel
theorem dd_Mo_release_36 : decode cc_Mo_release 36 = .ok (.return_, 1) := by decide +kernel
theorem dd_Mo_nil_0 : decode cc_Mo_nil 0 = .ok (.aload_n 0, 1) := by decide +kernel
theorem dd_Mo_nil_1 : decode cc_Mo_nil 1 = .ok (.iload_n 1, 1) := by decide +kernel
theorem dd_Mo_nil_2 : decode cc_Mo_nil 2 = .ok (.invokevirtual 120, 3) := by decide +kernel
theorem dd_Mo_nil_5 : decode cc_Mo_nil 5 = .ok (.istore_n 3, 1) := by decide +kernel
theorem dd_Mo_nil_6 : decode cc_Mo_nil 6 = .ok (.aload_n 0, 1) := by decide +kernel
theorem dd_Mo_nil_7 : decode cc_Mo_nil 7 = .ok (.iload_n 3, 1) := by decide +kernel
theorem dd_Mo_nil_8 : decode cc_Mo_nil 8 = .ok (.ifCond .lt 11, 3) := by decide +kernel
theorem dd_Mo_nil_11 : decode cc_Mo_nil 11 = .ok (.aload_n 0, 1) := by decide +kernel
theorem dd_Mo_nil_12 : decode cc_Mo_nil 12 = .ok (.iload_n 2, 1) := by decide +kernel
theorem dd_Mo_nil_13 : decode cc_Mo_nil 13 = .ok (.invokevirtual 123, 3) := by decide +kernel
theorem dd_Mo_nil_16 : decode cc_Mo_nil 16 = .ok (.ifCond .eq 7, 3) := by decide +kernel
theorem dd_Mo_nil_19 : decode cc_Mo_nil 19 = .ok (.iconst 1, 1) := by decide +kernel
theorem dd_Mo_nil_20 : decode cc_Mo_nil 20 = .ok (.goto 4, 3) := by decide +kernel
theorem dd_Mo_nil_23 : decode cc_Mo_nil 23 = .ok (.iconst 0, 1) := by decide +kernel
theorem dd_Mo_nil_24 : decode cc_Mo_nil 24 = .ok (.putfield 62, 3) := by decide +kernel
theorem dd_Mo_nil_27 : decode cc_Mo_nil 27 = .ok (.aload_n 0, 1) := by decide +kernel
theorem dd_Mo_nil_28 : decode cc_Mo_nil 28 = .ok (.getfield 62, 3) := by decide +kernel
theorem dd_Mo_nil_31 : decode cc_Mo_nil 31 = .ok (.ifCond .ne 14, 3) := by decide +kernel
theorem dd_Mo_nil_34 : decode cc_Mo_nil 34 = .ok (.aload_n 0, 1) := by decide +kernel
theorem dd_Mo_nil_35 : decode cc_Mo_nil 35 = .ok (.getfield 19, 3) := by decide +kernel
theorem dd_Mo_nil_38 : decode cc_Mo_nil 38 = .ok (.iconst 4, 1) := by decide +kernel
theorem dd_Mo_nil_39 : decode cc_Mo_nil 39 = .ok (.iload_n 3, 1) := by decide +kernel
theorem dd_Mo_nil_40 : decode cc_Mo_nil 40 = .ok (.imul, 1) := by decide +kernel
theorem dd_Mo_nil_41 : decode cc_Mo_nil 41 = .ok (.iload_n 2, 1) := by decide +kernel
theorem dd_Mo_nil_42 : decode cc_Mo_nil 42 = .ok (.iadd, 1) := by decide +kernel
theorem dd_Mo_nil_43 : decode cc_Mo_nil 43 = .ok (.iconst 0, 1) := by decide +kernel
theorem dd_Mo_nil_44 : decode cc_Mo_nil 44 = .ok (.iastore, 1) := by decide +kernel
theorem dd_Mo_nil_45 : decode cc_Mo_nil 45 = .ok (.return_, 1) := by decide +kernel
theorem dd_Mo_noRegister_0 : decode cc_Mo_noRegister 0 = .ok (.iload_n 1, 1) := by decide +kernel
theorem dd_Mo_noRegister_1 : decode cc_Mo_noRegister 1 = .ok (.ifCond .lt 8, 3) := by decide +kernel
theorem dd_Mo_noRegister_4 : decode cc_Mo_noRegister 4 = .ok (.iload_n 1, 1) := by decide +kernel
theorem dd_Mo_noRegister_5 : decode cc_Mo_noRegister 5 = .ok (.iconst 3, 1) := by decide +kernel
theorem dd_Mo_noRegister_6 : decode cc_Mo_noRegister 6 = .ok (.if_icmp .le 7, 3) := by decide +kernel
theorem dd_Mo_noRegister_9 : decode cc_Mo_noRegister 9 = .ok (.iconst 1, 1) := by decide +kernel
theorem dd_Mo_noRegister_10 : decode cc_Mo_noRegister 10 = .ok (.goto 4, 3) := by decide +kernel
theorem dd_Mo_noRegister_13 : decode cc_Mo_noRegister 13 = .ok (.iconst 0, 1) := by decide +kernel
theorem dd_Mo_noRegister_14 : decode cc_Mo_noRegister 14 = .ok (.ireturn, 1) := by decide +kernel
theorem dd_Mo_integer_0 : decode cc_Mo_integer 0 = .ok (.aload_n 0, 1) := by decide +kernel
theorem dd_Mo_integer_1 : decode cc_Mo_integer 1 = .ok (.iload_n 1, 1) := by decide +kernel
theorem dd_Mo_integer_2 : decode cc_Mo_integer 2 = .ok (.invokevirtual 120, 3) := by decide +kernel
theorem dd_Mo_integer_5 : decode cc_Mo_integer 5 = .ok (.istore 4, 2) := by decide +kernel
theorem dd_Mo_integer_7 : decode cc_Mo_integer 7 = .ok (.aload_n 0, 1) := by decide +kernel
theorem dd_Mo_integer_8 : decode cc_Mo_integer 8 = .ok (.iload 4, 2) := by decide +kernel
theorem dd_Mo_integer_10 : decode cc_Mo_integer 10 = .ok (.ifCond .lt 11, 3) := by decide +kernel
theorem dd_Mo_integer_13 : decode cc_Mo_integer 13 = .ok (.aload_n 0, 1) := by decide +kernel
theorem dd_Mo_integer_14 : decode cc_Mo_integer 14 = .ok (.iload_n 2, 1) := by decide +kernel
theorem dd_Mo_integer_15 : decode cc_Mo_integer 15 = .ok (.invokevirtual 123, 3) := by decide +kernel
theorem dd_Mo_integer_18 : decode cc_Mo_integer 18 = .ok (.ifCond .eq 7, 3) := by decide +kernel
theorem dd_Mo_integer_21 : decode cc_Mo_integer 21 = .ok (.iconst 1, 1) := by decide +kernel
theorem dd_Mo_integer_22 : decode cc_Mo_integer 22 = .ok (.goto 20, 3) := by decide +kernel
theorem dd_Mo_integer_25 : decode cc_Mo_integer 25 = .ok (.iload_n 3, 1) := by decide +kernel
theorem dd_Mo_integer_26 : decode cc_Mo_integer 26 = .ok (.ldc 126, 2) := by decide +kernel
theorem dd_Mo_integer_28 : decode cc_Mo_integer 28 = .ok (.if_icmp .lt 9, 3) := by decide +kernel
theorem dd_Mo_integer_31 : decode cc_Mo_integer 31 = .ok (.iload_n 3, 1) := by decide +kernel
theorem dd_Mo_integer_32 : decode cc_Mo_integer 32 = .ok (.ldc 127, 2) := by decide +kernel
theorem dd_Mo_integer_34 : decode cc_Mo_integer 34 = .ok (.if_icmp .le 7, 3) := by decide +kernel
theorem dd_Mo_integer_37 : decode cc_Mo_integer 37 = .ok (.iconst 2, 1) := by decide +kernel
theorem dd_Mo_integer_38 : decode cc_Mo_integer 38 = .ok (.goto 4, 3) := by decide +kernel
theorem dd_Mo_integer_41 : decode cc_Mo_integer 41 = .ok (.iconst 0, 1) := by decide +kernel
theorem dd_Mo_integer_42 : decode cc_Mo_integer 42 = .ok (.putfield 62, 3) := by decide +kernel
theorem dd_Mo_integer_45 : decode cc_Mo_integer 45 = .ok (.aload_n 0, 1) := by decide +kernel
theorem dd_Mo_integer_46 : decode cc_Mo_integer 46 = .ok (.getfield 62, 3) := by decide +kernel
theorem dd_Mo_integer_49 : decode cc_Mo_integer 49 = .ok (.ifCond .ne 20, 3) := by decide +kernel
theorem dd_Mo_integer_52 : decode cc_Mo_integer 52 = .ok (.aload_n 0, 1) := by decide +kernel
theorem dd_Mo_integer_53 : decode cc_Mo_integer 53 = .ok (.getfield 19, 3) := by decide +kernel
theorem dd_Mo_integer_56 : decode cc_Mo_integer 56 = .ok (.iconst 4, 1) := by decide +kernel
theorem dd_Mo_integer_57 : decode cc_Mo_integer 57 = .ok (.iload 4, 2) := by decide +kernel
theorem dd_Mo_integer_59 : decode cc_Mo_integer 59 = .ok (.imul, 1) := by decide +kernel
theorem dd_Mo_integer_60 : decode cc_Mo_integer 60 = .ok (.iload_n 2, 1) := by decide +kernel
theorem dd_Mo_integer_61 : decode cc_Mo_integer 61 = .ok (.iadd, 1) := by decide +kernel
theorem dd_Mo_integer_62 : decode cc_Mo_integer 62 = .ok (.bipush 8, 2) := by decide +kernel
theorem dd_Mo_integer_64 : decode cc_Mo_integer 64 = .ok (.iload_n 3, 1) := by decide +kernel
theorem dd_Mo_integer_65 : decode cc_Mo_integer 65 = .ok (.imul, 1) := by decide +kernel
theorem dd_Mo_integer_66 : decode cc_Mo_integer 66 = .ok (.iconst 1, 1) := by decide +kernel
theorem dd_Mo_integer_67 : decode cc_Mo_integer 67 = .ok (.iadd, 1) := by decide +kernel
theorem dd_Mo_integer_68 : decode cc_Mo_integer 68 = .ok (.iastore, 1) := by decide +kernel
theorem dd_Mo_integer_69 : decode cc_Mo_integer 69 = .ok (.return_, 1) := by decide +kernel
theorem dd_Mo_name_0 : decode cc_Mo_name 0 = .ok (.aload_n 0, 1) := by decide +kernel
theorem dd_Mo_name_1 : decode cc_Mo_name 1 = .ok (.iload_n 1, 1) := by decide +kernel
theorem dd_Mo_name_2 : decode cc_Mo_name 2 = .ok (.invokevirtual 120, 3) := by decide +kernel
theorem dd_Mo_name_5 : decode cc_Mo_name 5 = .ok (.istore 4, 2) := by decide +kernel
theorem dd_Mo_name_7 : decode cc_Mo_name 7 = .ok (.aload_n 0, 1) := by decide +kernel
theorem dd_Mo_name_8 : decode cc_Mo_name 8 = .ok (.iload 4, 2) := by decide +kernel
theorem dd_Mo_name_10 : decode cc_Mo_name 10 = .ok (.ifCond .lt 11, 3) := by decide +kernel
theorem dd_Mo_name_13 : decode cc_Mo_name 13 = .ok (.aload_n 0, 1) := by decide +kernel
theorem dd_Mo_name_14 : decode cc_Mo_name 14 = .ok (.iload_n 2, 1) := by decide +kernel
theorem dd_Mo_name_15 : decode cc_Mo_name 15 = .ok (.invokevirtual 123, 3) := by decide +kernel
theorem dd_Mo_name_18 : decode cc_Mo_name 18 = .ok (.ifCond .eq 7, 3) := by decide +kernel
theorem dd_Mo_name_21 : decode cc_Mo_name 21 = .ok (.iconst 1, 1) := by decide +kernel
theorem dd_Mo_name_22 : decode cc_Mo_name 22 = .ok (.goto 21, 3) := by decide +kernel
theorem dd_Mo_name_25 : decode cc_Mo_name 25 = .ok (.iload_n 3, 1) := by decide +kernel
theorem dd_Mo_name_26 : decode cc_Mo_name 26 = .ok (.iconst 1, 1) := by decide +kernel
theorem dd_Mo_name_27 : decode cc_Mo_name 27 = .ok (.if_icmp .lt 11, 3) := by decide +kernel
theorem dd_Mo_name_30 : decode cc_Mo_name 30 = .ok (.iload_n 3, 1) := by decide +kernel
theorem dd_Mo_name_31 : decode cc_Mo_name 31 = .ok (.aload_n 0, 1) := by decide +kernel
theorem dd_Mo_name_32 : decode cc_Mo_name 32 = .ok (.getfield 117, 3) := by decide +kernel
theorem dd_Mo_name_35 : decode cc_Mo_name 35 = .ok (.if_icmp .le 7, 3) := by decide +kernel
theorem dd_Mo_name_38 : decode cc_Mo_name 38 = .ok (.iconst 2, 1) := by decide +kernel
theorem dd_Mo_name_39 : decode cc_Mo_name 39 = .ok (.goto 4, 3) := by decide +kernel
theorem dd_Mo_name_42 : decode cc_Mo_name 42 = .ok (.iconst 0, 1) := by decide +kernel
theorem dd_Mo_name_43 : decode cc_Mo_name 43 = .ok (.putfield 62, 3) := by decide +kernel
theorem dd_Mo_name_46 : decode cc_Mo_name 46 = .ok (.aload_n 0, 1) := by decide +kernel
theorem dd_Mo_name_47 : decode cc_Mo_name 47 = .ok (.getfield 62, 3) := by decide +kernel
theorem dd_Mo_name_50 : decode cc_Mo_name 50 = .ok (.ifCond .ne 20, 3) := by decide +kernel
theorem dd_Mo_name_53 : decode cc_Mo_name 53 = .ok (.aload_n 0, 1) := by decide +kernel
theorem dd_Mo_name_54 : decode cc_Mo_name 54 = .ok (.getfield 19, 3) := by decide +kernel
theorem dd_Mo_name_57 : decode cc_Mo_name 57 = .ok (.iconst 4, 1) := by decide +kernel
theorem dd_Mo_name_58 : decode cc_Mo_name 58 = .ok (.iload 4, 2) := by decide +kernel
theorem dd_Mo_name_60 : decode cc_Mo_name 60 = .ok (.imul, 1) := by decide +kernel
theorem dd_Mo_name_61 : decode cc_Mo_name 61 = .ok (.iload_n 2, 1) := by decide +kernel
theorem dd_Mo_name_62 : decode cc_Mo_name 62 = .ok (.iadd, 1) := by decide +kernel
theorem dd_Mo_name_63 : decode cc_Mo_name 63 = .ok (.bipush 8, 2) := by decide +kernel
theorem dd_Mo_name_65 : decode cc_Mo_name 65 = .ok (.iload_n 3, 1) := by decide +kernel
theorem dd_Mo_name_66 : decode cc_Mo_name 66 = .ok (.imul, 1) := by decide +kernel
theorem dd_Mo_name_67 : decode cc_Mo_name 67 = .ok (.iconst 2, 1) := by decide +kernel
theorem dd_Mo_name_68 : decode cc_Mo_name 68 = .ok (.iadd, 1) := by decide +kernel
theorem dd_Mo_name_69 : decode cc_Mo_name 69 = .ok (.iastore, 1) := by decide +kernel
theorem dd_Mo_name_70 : decode cc_Mo_name 70 = .ok (.return_, 1) := by decide +kernel
theorem dd_Mo_move_0 : decode cc_Mo_move 0 = .ok (.aload_n 0, 1) := by decide +kernel
theorem dd_Mo_move_1 : decode cc_Mo_move 1 = .ok (.iload_n 1, 1) := by decide +kernel
theorem dd_Mo_move_2 : decode cc_Mo_move 2 = .ok (.invokevirtual 120, 3) := by decide +kernel
theorem dd_Mo_move_5 : decode cc_Mo_move 5 = .ok (.istore 4, 2) := by decide +kernel
theorem dd_Mo_move_7 : decode cc_Mo_move 7 = .ok (.aload_n 0, 1) := by decide +kernel
theorem dd_Mo_move_8 : decode cc_Mo_move 8 = .ok (.iload 4, 2) := by decide +kernel
theorem dd_Mo_move_10 : decode cc_Mo_move 10 = .ok (.ifCond .lt 19, 3) := by decide +kernel
theorem dd_Mo_move_13 : decode cc_Mo_move 13 = .ok (.aload_n 0, 1) := by decide +kernel
theorem dd_Mo_move_14 : decode cc_Mo_move 14 = .ok (.iload_n 2, 1) := by decide +kernel
theorem dd_Mo_move_15 : decode cc_Mo_move 15 = .ok (.invokevirtual 123, 3) := by decide +kernel
theorem dd_Mo_move_18 : decode cc_Mo_move 18 = .ok (.ifCond .ne 11, 3) := by decide +kernel
theorem dd_Mo_move_21 : decode cc_Mo_move 21 = .ok (.aload_n 0, 1) := by decide +kernel
theorem dd_Mo_move_22 : decode cc_Mo_move 22 = .ok (.iload_n 3, 1) := by decide +kernel
theorem dd_Mo_move_23 : decode cc_Mo_move 23 = .ok (.invokevirtual 123, 3) := by decide +kernel
theorem dd_Mo_move_26 : decode cc_Mo_move 26 = .ok (.ifCond .eq 7, 3) := by decide +kernel
theorem dd_Mo_move_29 : decode cc_Mo_move 29 = .ok (.iconst 1, 1) := by decide +kernel
theorem dd_Mo_move_30 : decode cc_Mo_move 30 = .ok (.goto 4, 3) := by decide +kernel
theorem dd_Mo_move_33 : decode cc_Mo_move 33 = .ok (.iconst 0, 1) := by decide +kernel
theorem dd_Mo_move_34 : decode cc_Mo_move 34 = .ok (.putfield 62, 3) := by decide +kernel
theorem dd_Mo_move_37 : decode cc_Mo_move 37 = .ok (.aload_n 0, 1) := by decide +kernel
theorem dd_Mo_move_38 : decode cc_Mo_move 38 = .ok (.getfield 62, 3) := by decide +kernel
theorem dd_Mo_move_41 : decode cc_Mo_move 41 = .ok (.ifCond .ne 25, 3) := by decide +kernel
theorem dd_Mo_move_44 : decode cc_Mo_move 44 = .ok (.aload_n 0, 1) := by decide +kernel
theorem dd_Mo_move_45 : decode cc_Mo_move 45 = .ok (.getfield 19, 3) := by decide +kernel
theorem dd_Mo_move_48 : decode cc_Mo_move 48 = .ok (.iconst 4, 1) := by decide +kernel
theorem dd_Mo_move_49 : decode cc_Mo_move 49 = .ok (.iload 4, 2) := by decide +kernel
theorem dd_Mo_move_51 : decode cc_Mo_move 51 = .ok (.imul, 1) := by decide +kernel
theorem dd_Mo_move_52 : decode cc_Mo_move 52 = .ok (.iload_n 2, 1) := by decide +kernel
theorem dd_Mo_move_53 : decode cc_Mo_move 53 = .ok (.iadd, 1) := by decide +kernel
theorem dd_Mo_move_54 : decode cc_Mo_move 54 = .ok (.aload_n 0, 1) := by decide +kernel
theorem dd_Mo_move_55 : decode cc_Mo_move 55 = .ok (.getfield 19, 3) := by decide +kernel
theorem dd_Mo_move_58 : decode cc_Mo_move 58 = .ok (.iconst 4, 1) := by decide +kernel
theorem dd_Mo_move_59 : decode cc_Mo_move 59 = .ok (.iload 4, 2) := by decide +kernel
theorem dd_Mo_move_61 : decode cc_Mo_move 61 = .ok (.imul, 1) := by decide +kernel
theorem dd_Mo_move_62 : decode cc_Mo_move 62 = .ok (.iload_n 3, 1) := by decide +kernel
theorem dd_Mo_move_63 : decode cc_Mo_move 63 = .ok (.iadd, 1) := by decide +kernel
theorem dd_Mo_move_64 : decode cc_Mo_move 64 = .ok (.iaload, 1) := by decide +kernel
theorem dd_Mo_move_65 : decode cc_Mo_move 65 = .ok (.iastore, 1) := by decide +kernel
theorem dd_Mo_move_66 : decode cc_Mo_move 66 = .ok (.return_, 1) := by decide +kernel
theorem dd_Mo_pair_0 : decode cc_Mo_pair 0 = .ok (.aload_n 0, 1) := by decide +kernel
theorem dd_Mo_pair_1 : decode cc_Mo_pair 1 = .ok (.iload_n 1, 1) := by decide +kernel
theorem dd_Mo_pair_2 : decode cc_Mo_pair 2 = .ok (.invokevirtual 120, 3) := by decide +kernel
theorem dd_Mo_pair_5 : decode cc_Mo_pair 5 = .ok (.istore 5, 2) := by decide +kernel
theorem dd_Mo_pair_7 : decode cc_Mo_pair 7 = .ok (.aload_n 0, 1) := by decide +kernel
theorem dd_Mo_pair_8 : decode cc_Mo_pair 8 = .ok (.iload 5, 2) := by decide +kernel
theorem dd_Mo_pair_10 : decode cc_Mo_pair 10 = .ok (.ifCond .lt 28, 3) := by decide +kernel
theorem dd_Mo_pair_13 : decode cc_Mo_pair 13 = .ok (.aload_n 0, 1) := by decide +kernel
theorem dd_Mo_pair_14 : decode cc_Mo_pair 14 = .ok (.iload_n 2, 1) := by decide +kernel
theorem dd_Mo_pair_15 : decode cc_Mo_pair 15 = .ok (.invokevirtual 123, 3) := by decide +kernel
theorem dd_Mo_pair_18 : decode cc_Mo_pair 18 = .ok (.ifCond .ne 20, 3) := by decide +kernel
theorem dd_Mo_pair_21 : decode cc_Mo_pair 21 = .ok (.aload_n 0, 1) := by decide +kernel
theorem dd_Mo_pair_22 : decode cc_Mo_pair 22 = .ok (.iload_n 3, 1) := by decide +kernel
theorem dd_Mo_pair_23 : decode cc_Mo_pair 23 = .ok (.invokevirtual 123, 3) := by decide +kernel
theorem dd_Mo_pair_26 : decode cc_Mo_pair 26 = .ok (.ifCond .ne 12, 3) := by decide +kernel
theorem dd_Mo_pair_29 : decode cc_Mo_pair 29 = .ok (.aload_n 0, 1) := by decide +kernel
theorem dd_Mo_pair_30 : decode cc_Mo_pair 30 = .ok (.iload 4, 2) := by decide +kernel
theorem dd_Mo_pair_32 : decode cc_Mo_pair 32 = .ok (.invokevirtual 123, 3) := by decide +kernel
theorem dd_Mo_pair_35 : decode cc_Mo_pair 35 = .ok (.ifCond .eq 7, 3) := by decide +kernel
theorem dd_Mo_pair_38 : decode cc_Mo_pair 38 = .ok (.iconst 1, 1) := by decide +kernel
theorem dd_Mo_pair_39 : decode cc_Mo_pair 39 = .ok (.goto 4, 3) := by decide +kernel
theorem dd_Mo_pair_42 : decode cc_Mo_pair 42 = .ok (.iconst 0, 1) := by decide +kernel
theorem dd_Mo_pair_43 : decode cc_Mo_pair 43 = .ok (.putfield 62, 3) := by decide +kernel
theorem dd_Mo_pair_46 : decode cc_Mo_pair 46 = .ok (.aload_n 0, 1) := by decide +kernel
theorem dd_Mo_pair_47 : decode cc_Mo_pair 47 = .ok (.getfield 62, 3) := by decide +kernel
theorem dd_Mo_pair_50 : decode cc_Mo_pair 50 = .ok (.ifCond .eq 4, 3) := by decide +kernel
theorem dd_Mo_pair_53 : decode cc_Mo_pair 53 = .ok (.return_, 1) := by decide +kernel
theorem dd_Mo_pair_54 : decode cc_Mo_pair 54 = .ok (.aload_n 0, 1) := by decide +kernel
theorem dd_Mo_pair_55 : decode cc_Mo_pair 55 = .ok (.aload_n 0, 1) := by decide +kernel
theorem dd_Mo_pair_56 : decode cc_Mo_pair 56 = .ok (.iload 5, 2) := by decide +kernel
theorem dd_Mo_pair_58 : decode cc_Mo_pair 58 = .ok (.iconst 2, 1) := by decide +kernel
theorem dd_Mo_pair_59 : decode cc_Mo_pair 59 = .ok (.invokevirtual 128, 3) := by decide +kernel
theorem dd_Mo_pair_62 : decode cc_Mo_pair 62 = .ok (.ifCond .eq 7, 3) := by decide +kernel
theorem dd_Mo_pair_65 : decode cc_Mo_pair 65 = .ok (.iconst 0, 1) := by decide +kernel
theorem dd_Mo_pair_66 : decode cc_Mo_pair 66 = .ok (.goto 4, 3) := by decide +kernel
theorem dd_Mo_pair_69 : decode cc_Mo_pair 69 = .ok (.iconst 2, 1) := by decide +kernel
theorem dd_Mo_pair_70 : decode cc_Mo_pair 70 = .ok (.putfield 62, 3) := by decide +kernel
theorem dd_Mo_pair_73 : decode cc_Mo_pair 73 = .ok (.aload_n 0, 1) := by decide +kernel
theorem dd_Mo_pair_74 : decode cc_Mo_pair 74 = .ok (.getfield 62, 3) := by decide +kernel
theorem dd_Mo_pair_77 : decode cc_Mo_pair 77 = .ok (.ifCond .ne 84, 3) := by decide +kernel
theorem dd_Mo_pair_80 : decode cc_Mo_pair 80 = .ok (.aload_n 0, 1) := by decide +kernel
theorem dd_Mo_pair_81 : decode cc_Mo_pair 81 = .ok (.iload 5, 2) := by decide +kernel
theorem dd_Mo_pair_83 : decode cc_Mo_pair 83 = .ok (.iconst 3, 1) := by decide +kernel
theorem dd_Mo_pair_84 : decode cc_Mo_pair 84 = .ok (.iconst 2, 1) := by decide +kernel
theorem dd_Mo_pair_85 : decode cc_Mo_pair 85 = .ok (.invokevirtual 132, 3) := by decide +kernel
theorem dd_Mo_pair_88 : decode cc_Mo_pair 88 = .ok (.istore 6, 2) := by decide +kernel
theorem dd_Mo_pair_90 : decode cc_Mo_pair 90 = .ok (.aload_n 0, 1) := by decide +kernel
theorem dd_Mo_pair_91 : decode cc_Mo_pair 91 = .ok (.getfield 28, 3) := by decide +kernel
theorem dd_Mo_pair_94 : decode cc_Mo_pair 94 = .ok (.sipush 600, 3) := by decide +kernel
theorem dd_Mo_pair_97 : decode cc_Mo_pair 97 = .ok (.iload 5, 2) := by decide +kernel
theorem dd_Mo_pair_99 : decode cc_Mo_pair 99 = .ok (.imul, 1) := by decide +kernel
theorem dd_Mo_pair_100 : decode cc_Mo_pair 100 = .ok (.iload 6, 2) := by decide +kernel
theorem dd_Mo_pair_102 : decode cc_Mo_pair 102 = .ok (.iadd, 1) := by decide +kernel
theorem dd_Mo_pair_103 : decode cc_Mo_pair 103 = .ok (.aload_n 0, 1) := by decide +kernel
theorem dd_Mo_pair_104 : decode cc_Mo_pair 104 = .ok (.getfield 19, 3) := by decide +kernel
theorem dd_Mo_pair_107 : decode cc_Mo_pair 107 = .ok (.iconst 4, 1) := by decide +kernel
theorem dd_Mo_pair_108 : decode cc_Mo_pair 108 = .ok (.iload 5, 2) := by decide +kernel
theorem dd_Mo_pair_110 : decode cc_Mo_pair 110 = .ok (.imul, 1) := by decide +kernel
theorem dd_Mo_pair_111 : decode cc_Mo_pair 111 = .ok (.iload_n 3, 1) := by decide +kernel
theorem dd_Mo_pair_112 : decode cc_Mo_pair 112 = .ok (.iadd, 1) := by decide +kernel
theorem dd_Mo_pair_113 : decode cc_Mo_pair 113 = .ok (.iaload, 1) := by decide +kernel
theorem dd_Mo_pair_114 : decode cc_Mo_pair 114 = .ok (.iastore, 1) := by decide +kernel
theorem dd_Mo_pair_115 : decode cc_Mo_pair 115 = .ok (.aload_n 0, 1) := by decide +kernel
theorem dd_Mo_pair_116 : decode cc_Mo_pair 116 = .ok (.getfield 28, 3) := by decide +kernel
theorem dd_Mo_pair_119 : decode cc_Mo_pair 119 = .ok (.sipush 600, 3) := by decide +kernel
theorem dd_Mo_pair_122 : decode cc_Mo_pair 122 = .ok (.iload 5, 2) := by decide +kernel
theorem dd_Mo_pair_124 : decode cc_Mo_pair 124 = .ok (.imul, 1) := by decide +kernel
theorem dd_Mo_pair_125 : decode cc_Mo_pair 125 = .ok (.iload 6, 2) := by decide +kernel
theorem dd_Mo_pair_127 : decode cc_Mo_pair 127 = .ok (.iadd, 1) := by decide +kernel
theorem dd_Mo_pair_128 : decode cc_Mo_pair 128 = .ok (.iconst 1, 1) := by decide +kernel
theorem dd_Mo_pair_129 : decode cc_Mo_pair 129 = .ok (.iadd, 1) := by decide +kernel
theorem dd_Mo_pair_130 : decode cc_Mo_pair 130 = .ok (.aload_n 0, 1) := by decide +kernel
theorem dd_Mo_pair_131 : decode cc_Mo_pair 131 = .ok (.getfield 19, 3) := by decide +kernel
theorem dd_Mo_pair_134 : decode cc_Mo_pair 134 = .ok (.iconst 4, 1) := by decide +kernel
theorem dd_Mo_pair_135 : decode cc_Mo_pair 135 = .ok (.iload 5, 2) := by decide +kernel
theorem dd_Mo_pair_137 : decode cc_Mo_pair 137 = .ok (.imul, 1) := by decide +kernel
theorem dd_Mo_pair_138 : decode cc_Mo_pair 138 = .ok (.iload 4, 2) := by decide +kernel
theorem dd_Mo_pair_140 : decode cc_Mo_pair 140 = .ok (.iadd, 1) := by decide +kernel
theorem dd_Mo_pair_141 : decode cc_Mo_pair 141 = .ok (.iaload, 1) := by decide +kernel
theorem dd_Mo_pair_142 : decode cc_Mo_pair 142 = .ok (.iastore, 1) := by decide +kernel
theorem dd_Mo_pair_143 : decode cc_Mo_pair 143 = .ok (.aload_n 0, 1) := by decide +kernel
theorem dd_Mo_pair_144 : decode cc_Mo_pair 144 = .ok (.getfield 19, 3) := by decide +kernel
theorem dd_Mo_pair_147 : decode cc_Mo_pair 147 = .ok (.iconst 4, 1) := by decide +kernel
theorem dd_Mo_pair_148 : decode cc_Mo_pair 148 = .ok (.iload 5, 2) := by decide +kernel
theorem dd_Mo_pair_150 : decode cc_Mo_pair 150 = .ok (.imul, 1) := by decide +kernel
theorem dd_Mo_pair_151 : decode cc_Mo_pair 151 = .ok (.iload_n 2, 1) := by decide +kernel
theorem dd_Mo_pair_152 : decode cc_Mo_pair 152 = .ok (.iadd, 1) := by decide +kernel
theorem dd_Mo_pair_153 : decode cc_Mo_pair 153 = .ok (.bipush 8, 2) := by decide +kernel
theorem dd_Mo_pair_155 : decode cc_Mo_pair 155 = .ok (.iload 6, 2) := by decide +kernel
theorem dd_Mo_pair_157 : decode cc_Mo_pair 157 = .ok (.imul, 1) := by decide +kernel
theorem dd_Mo_pair_158 : decode cc_Mo_pair 158 = .ok (.iconst 3, 1) := by decide +kernel
theorem dd_Mo_pair_159 : decode cc_Mo_pair 159 = .ok (.iadd, 1) := by decide +kernel
theorem dd_Mo_pair_160 : decode cc_Mo_pair 160 = .ok (.iastore, 1) := by decide +kernel
theorem dd_Mo_pair_161 : decode cc_Mo_pair 161 = .ok (.return_, 1) := by decide +kernel
theorem dd_Mo_room_0 : decode cc_Mo_room 0 = .ok (.aload_n 0, 1) := by decide +kernel
theorem dd_Mo_room_1 : decode cc_Mo_room 1 = .ok (.getfield 16, 3) := by decide +kernel
theorem dd_Mo_room_4 : decode cc_Mo_room 4 = .ok (.iload_n 1, 1) := by decide +kernel
theorem dd_Mo_room_5 : decode cc_Mo_room 5 = .ok (.iaload, 1) := by decide +kernel
theorem dd_Mo_room_6 : decode cc_Mo_room 6 = .ok (.iload_n 2, 1) := by decide +kernel
theorem dd_Mo_room_7 : decode cc_Mo_room 7 = .ok (.iadd, 1) := by decide +kernel
theorem dd_Mo_room_8 : decode cc_Mo_room 8 = .ok (.aload_n 0, 1) := by decide +kernel
theorem dd_Mo_room_9 : decode cc_Mo_room 9 = .ok (.getfield 13, 3) := by decide +kernel
theorem dd_Mo_room_12 : decode cc_Mo_room 12 = .ok (.iload_n 1, 1) := by decide +kernel
theorem dd_Mo_room_13 : decode cc_Mo_room 13 = .ok (.iaload, 1) := by decide +kernel
theorem dd_Mo_room_14 : decode cc_Mo_room 14 = .ok (.if_icmp .gt 5, 3) := by decide +kernel
theorem dd_Mo_room_17 : decode cc_Mo_room 17 = .ok (.iconst 1, 1) := by decide +kernel
theorem dd_Mo_room_18 : decode cc_Mo_room 18 = .ok (.ireturn, 1) := by decide +kernel
theorem dd_Mo_room_19 : decode cc_Mo_room 19 = .ok (.aload_n 0, 1) := by decide +kernel
theorem dd_Mo_room_20 : decode cc_Mo_room 20 = .ok (.iload_n 1, 1) := by decide +kernel
theorem dd_Mo_room_21 : decode cc_Mo_room 21 = .ok (.invokevirtual 107, 3) := by decide +kernel
theorem dd_Mo_room_24 : decode cc_Mo_room 24 = .ok (.aload_n 0, 1) := by decide +kernel
theorem dd_Mo_room_25 : decode cc_Mo_room 25 = .ok (.getfield 16, 3) := by decide +kernel
theorem dd_Mo_room_28 : decode cc_Mo_room 28 = .ok (.iload_n 1, 1) := by decide +kernel
theorem dd_Mo_room_29 : decode cc_Mo_room 29 = .ok (.iaload, 1) := by decide +kernel
theorem dd_Mo_room_30 : decode cc_Mo_room 30 = .ok (.iload_n 2, 1) := by decide +kernel
theorem dd_Mo_room_31 : decode cc_Mo_room 31 = .ok (.iadd, 1) := by decide +kernel
theorem dd_Mo_room_32 : decode cc_Mo_room 32 = .ok (.aload_n 0, 1) := by decide +kernel
theorem dd_Mo_room_33 : decode cc_Mo_room 33 = .ok (.getfield 13, 3) := by decide +kernel
theorem dd_Mo_room_36 : decode cc_Mo_room 36 = .ok (.iload_n 1, 1) := by decide +kernel
theorem dd_Mo_room_37 : decode cc_Mo_room 37 = .ok (.iaload, 1) := by decide +kernel
theorem dd_Mo_room_38 : decode cc_Mo_room 38 = .ok (.isub, 1) := by decide +kernel
theorem dd_Mo_room_39 : decode cc_Mo_room 39 = .ok (.istore_n 3, 1) := by decide +kernel
theorem dd_Mo_room_40 : decode cc_Mo_room 40 = .ok (.iload_n 3, 1) := by decide +kernel
theorem dd_Mo_room_41 : decode cc_Mo_room 41 = .ok (.ifCond .gt 5, 3) := by decide +kernel
theorem dd_Mo_room_44 : decode cc_Mo_room 44 = .ok (.iconst 1, 1) := by decide +kernel
theorem dd_Mo_room_45 : decode cc_Mo_room 45 = .ok (.ireturn, 1) := by decide +kernel
theorem dd_Mo_room_46 : decode cc_Mo_room 46 = .ok (.iload_n 3, 1) := by decide +kernel
theorem dd_Mo_room_47 : decode cc_Mo_room 47 = .ok (.bipush 7, 2) := by decide +kernel
theorem dd_Mo_room_49 : decode cc_Mo_room 49 = .ok (.iadd, 1) := by decide +kernel
theorem dd_Mo_room_50 : decode cc_Mo_room 50 = .ok (.bipush 8, 2) := by decide +kernel
theorem dd_Mo_room_52 : decode cc_Mo_room 52 = .ok (.idiv, 1) := by decide +kernel
theorem dd_Mo_room_53 : decode cc_Mo_room 53 = .ok (.bipush 8, 2) := by decide +kernel
theorem dd_Mo_room_55 : decode cc_Mo_room 55 = .ok (.imul, 1) := by decide +kernel
theorem dd_Mo_room_56 : decode cc_Mo_room 56 = .ok (.istore_n 3, 1) := by decide +kernel
theorem dd_Mo_room_57 : decode cc_Mo_room 57 = .ok (.aload_n 0, 1) := by decide +kernel
theorem dd_Mo_room_58 : decode cc_Mo_room 58 = .ok (.invokevirtual 110, 3) := by decide +kernel
theorem dd_Mo_room_61 : decode cc_Mo_room 61 = .ok (.iload_n 3, 1) := by decide +kernel
theorem dd_Mo_room_62 : decode cc_Mo_room 62 = .ok (.if_icmp .ge 5, 3) := by decide +kernel
theorem dd_Mo_room_65 : decode cc_Mo_room 65 = .ok (.iconst 0, 1) := by decide +kernel
theorem dd_Mo_room_66 : decode cc_Mo_room 66 = .ok (.ireturn, 1) := by decide +kernel
theorem dd_Mo_room_67 : decode cc_Mo_room 67 = .ok (.aload_n 0, 1) := by decide +kernel
theorem dd_Mo_room_68 : decode cc_Mo_room 68 = .ok (.getfield 13, 3) := by decide +kernel
theorem dd_Mo_room_71 : decode cc_Mo_room 71 = .ok (.iload_n 1, 1) := by decide +kernel
theorem dd_Mo_room_72 : decode cc_Mo_room 72 = .ok (.dup2, 1) := by decide +kernel
theorem dd_Mo_room_73 : decode cc_Mo_room 73 = .ok (.iaload, 1) := by decide +kernel
theorem dd_Mo_room_74 : decode cc_Mo_room 74 = .ok (.iload_n 3, 1) := by decide +kernel
theorem dd_Mo_room_75 : decode cc_Mo_room 75 = .ok (.iadd, 1) := by decide +kernel
theorem dd_Mo_room_76 : decode cc_Mo_room 76 = .ok (.iastore, 1) := by decide +kernel
theorem dd_Mo_room_77 : decode cc_Mo_room 77 = .ok (.iconst 1, 1) := by decide +kernel
theorem dd_Mo_room_78 : decode cc_Mo_room 78 = .ok (.ireturn, 1) := by decide +kernel
theorem dd_Mo_gather_0 : decode cc_Mo_gather 0 = .ok (.aload_n 0, 1) := by decide +kernel
theorem dd_Mo_gather_1 : decode cc_Mo_gather 1 = .ok (.dup, 1) := by decide +kernel
theorem dd_Mo_gather_2 : decode cc_Mo_gather 2 = .ok (.getfield 93, 3) := by decide +kernel
theorem dd_Mo_gather_5 : decode cc_Mo_gather 5 = .ok (.iconst 1, 1) := by decide +kernel
theorem dd_Mo_gather_6 : decode cc_Mo_gather 6 = .ok (.iadd, 1) := by decide +kernel
theorem dd_Mo_gather_7 : decode cc_Mo_gather 7 = .ok (.putfield 93, 3) := by decide +kernel
theorem dd_Mo_gather_10 : decode cc_Mo_gather 10 = .ok (.aload_n 0, 1) := by decide +kernel
theorem dd_Mo_gather_11 : decode cc_Mo_gather 11 = .ok (.invokevirtual 96, 3) := by decide +kernel
theorem dd_Mo_gather_14 : decode cc_Mo_gather 14 = .ok (.iconst 4, 1) := by decide +kernel
theorem dd_Mo_gather_15 : decode cc_Mo_gather 15 = .ok (.iload_n 1, 1) := by decide +kernel
theorem dd_Mo_gather_16 : decode cc_Mo_gather 16 = .ok (.imul, 1) := by decide +kernel
theorem dd_Mo_gather_17 : decode cc_Mo_gather 17 = .ok (.istore_n 2, 1) := by decide +kernel
theorem dd_Mo_gather_18 : decode cc_Mo_gather 18 = .ok (.iload_n 2, 1) := by decide +kernel
theorem dd_Mo_gather_19 : decode cc_Mo_gather 19 = .ok (.iconst 4, 1) := by decide +kernel
theorem dd_Mo_gather_20 : decode cc_Mo_gather 20 = .ok (.iload_n 1, 1) := by decide +kernel
theorem dd_Mo_gather_21 : decode cc_Mo_gather 21 = .ok (.imul, 1) := by decide +kernel
theorem dd_Mo_gather_22 : decode cc_Mo_gather 22 = .ok (.iconst 4, 1) := by decide +kernel
theorem dd_Mo_gather_23 : decode cc_Mo_gather 23 = .ok (.iadd, 1) := by decide +kernel
theorem dd_Mo_gather_24 : decode cc_Mo_gather 24 = .ok (.if_icmp .ge 27, 3) := by decide +kernel
theorem dd_Mo_gather_27 : decode cc_Mo_gather 27 = .ok (.aload_n 0, 1) := by decide +kernel
theorem dd_Mo_gather_28 : decode cc_Mo_gather 28 = .ok (.getfield 19, 3) := by decide +kernel
theorem dd_Mo_gather_31 : decode cc_Mo_gather 31 = .ok (.iload_n 2, 1) := by decide +kernel
theorem dd_Mo_gather_32 : decode cc_Mo_gather 32 = .ok (.aload_n 0, 1) := by decide +kernel
theorem dd_Mo_gather_33 : decode cc_Mo_gather 33 = .ok (.iload_n 1, 1) := by decide +kernel
theorem dd_Mo_gather_34 : decode cc_Mo_gather 34 = .ok (.aload_n 0, 1) := by decide +kernel
theorem dd_Mo_gather_35 : decode cc_Mo_gather 35 = .ok (.getfield 19, 3) := by decide +kernel
theorem dd_Mo_gather_38 : decode cc_Mo_gather 38 = .ok (.iload_n 2, 1) := by decide +kernel
theorem dd_Mo_gather_39 : decode cc_Mo_gather 39 = .ok (.iaload, 1) := by decide +kernel
theorem dd_Mo_gather_40 : decode cc_Mo_gather 40 = .ok (.iconst 0, 1) := by decide +kernel
theorem dd_Mo_gather_41 : decode cc_Mo_gather 41 = .ok (.invokevirtual 89, 3) := by decide +kernel
theorem dd_Mo_gather_44 : decode cc_Mo_gather 44 = .ok (.iastore, 1) := by decide +kernel
theorem dd_Mo_gather_45 : decode cc_Mo_gather 45 = .ok (.iinc 2 1, 3) := by decide +kernel
theorem dd_Mo_gather_48 : decode cc_Mo_gather 48 = .ok (.goto (-30), 3) := by decide +kernel
theorem dd_Mo_gather_51 : decode cc_Mo_gather 51 = .ok (.sipush 520, 3) := by decide +kernel
theorem dd_Mo_gather_54 : decode cc_Mo_gather 54 = .ok (.iload_n 1, 1) := by decide +kernel
theorem dd_Mo_gather_55 : decode cc_Mo_gather 55 = .ok (.imul, 1) := by decide +kernel
theorem dd_Mo_gather_56 : decode cc_Mo_gather 56 = .ok (.istore_n 2, 1) := by decide +kernel
theorem dd_Mo_gather_57 : decode cc_Mo_gather 57 = .ok (.iload_n 2, 1) := by decide +kernel
theorem dd_Mo_gather_58 : decode cc_Mo_gather 58 = .ok (.sipush 520, 3) := by decide +kernel
theorem dd_Mo_gather_61 : decode cc_Mo_gather 61 = .ok (.iload_n 1, 1) := by decide +kernel
theorem dd_Mo_gather_62 : decode cc_Mo_gather 62 = .ok (.imul, 1) := by decide +kernel
theorem dd_Mo_gather_63 : decode cc_Mo_gather 63 = .ok (.aload_n 0, 1) := by decide +kernel
theorem dd_Mo_gather_64 : decode cc_Mo_gather 64 = .ok (.getfield 22, 3) := by decide +kernel
theorem dd_Mo_gather_67 : decode cc_Mo_gather 67 = .ok (.iload_n 1, 1) := by decide +kernel
theorem dd_Mo_gather_68 : decode cc_Mo_gather 68 = .ok (.iaload, 1) := by decide +kernel
theorem dd_Mo_gather_69 : decode cc_Mo_gather 69 = .ok (.iadd, 1) := by decide +kernel
theorem dd_Mo_gather_70 : decode cc_Mo_gather 70 = .ok (.if_icmp .ge 27, 3) := by decide +kernel
theorem dd_Mo_gather_73 : decode cc_Mo_gather 73 = .ok (.aload_n 0, 1) := by decide +kernel
theorem dd_Mo_gather_74 : decode cc_Mo_gather 74 = .ok (.getfield 25, 3) := by decide +kernel
theorem dd_Mo_gather_77 : decode cc_Mo_gather 77 = .ok (.iload_n 2, 1) := by decide +kernel
theorem dd_Mo_gather_78 : decode cc_Mo_gather 78 = .ok (.aload_n 0, 1) := by decide +kernel
theorem dd_Mo_gather_79 : decode cc_Mo_gather 79 = .ok (.iload_n 1, 1) := by decide +kernel
theorem dd_Mo_gather_80 : decode cc_Mo_gather 80 = .ok (.aload_n 0, 1) := by decide +kernel
theorem dd_Mo_gather_81 : decode cc_Mo_gather 81 = .ok (.getfield 25, 3) := by decide +kernel
theorem dd_Mo_gather_84 : decode cc_Mo_gather 84 = .ok (.iload_n 2, 1) := by decide +kernel
theorem dd_Mo_gather_85 : decode cc_Mo_gather 85 = .ok (.iaload, 1) := by decide +kernel
theorem dd_Mo_gather_86 : decode cc_Mo_gather 86 = .ok (.iconst 0, 1) := by decide +kernel
theorem dd_Mo_gather_87 : decode cc_Mo_gather 87 = .ok (.invokevirtual 89, 3) := by decide +kernel
theorem dd_Mo_gather_90 : decode cc_Mo_gather 90 = .ok (.iastore, 1) := by decide +kernel
theorem dd_Mo_gather_91 : decode cc_Mo_gather 91 = .ok (.iinc 2 1, 3) := by decide +kernel
theorem dd_Mo_gather_94 : decode cc_Mo_gather 94 = .ok (.goto (-37), 3) := by decide +kernel
theorem dd_Mo_gather_97 : decode cc_Mo_gather 97 = .ok (.aload_n 0, 1) := by decide +kernel
theorem dd_Mo_gather_98 : decode cc_Mo_gather 98 = .ok (.iload_n 1, 1) := by decide +kernel
theorem dd_Mo_gather_99 : decode cc_Mo_gather 99 = .ok (.iconst 0, 1) := by decide +kernel
theorem dd_Mo_gather_100 : decode cc_Mo_gather 100 = .ok (.invokevirtual 99, 3) := by decide +kernel
theorem dd_Mo_gather_103 : decode cc_Mo_gather 103 = .ok (.iconst 0, 1) := by decide +kernel
theorem dd_Mo_gather_104 : decode cc_Mo_gather 104 = .ok (.istore_n 2, 1) := by decide +kernel
theorem dd_Mo_gather_105 : decode cc_Mo_gather 105 = .ok (.iload_n 2, 1) := by decide +kernel
theorem dd_Mo_gather_106 : decode cc_Mo_gather 106 = .ok (.aload_n 0, 1) := by decide +kernel
theorem dd_Mo_gather_107 : decode cc_Mo_gather 107 = .ok (.getfield 16, 3) := by decide +kernel
theorem dd_Mo_gather_110 : decode cc_Mo_gather 110 = .ok (.iload_n 1, 1) := by decide +kernel
theorem dd_Mo_gather_111 : decode cc_Mo_gather 111 = .ok (.iaload, 1) := by decide +kernel
theorem dd_Mo_gather_112 : decode cc_Mo_gather 112 = .ok (.if_icmp .ge 50, 3) := by decide +kernel
theorem dd_Mo_gather_115 : decode cc_Mo_gather 115 = .ok (.aload_n 0, 1) := by decide +kernel
theorem dd_Mo_gather_116 : decode cc_Mo_gather 116 = .ok (.getfield 31, 3) := by decide +kernel
theorem dd_Mo_gather_119 : decode cc_Mo_gather 119 = .ok (.sipush 600, 3) := by decide +kernel
theorem dd_Mo_gather_122 : decode cc_Mo_gather 122 = .ok (.iload_n 1, 1) := by decide +kernel
theorem dd_Mo_gather_123 : decode cc_Mo_gather 123 = .ok (.imul, 1) := by decide +kernel
theorem dd_Mo_gather_124 : decode cc_Mo_gather 124 = .ok (.iload_n 2, 1) := by decide +kernel
theorem dd_Mo_gather_125 : decode cc_Mo_gather 125 = .ok (.iadd, 1) := by decide +kernel
theorem dd_Mo_gather_126 : decode cc_Mo_gather 126 = .ok (.iaload, 1) := by decide +kernel
theorem dd_Mo_gather_127 : decode cc_Mo_gather 127 = .ok (.iconst 5, 1) := by decide +kernel
theorem dd_Mo_gather_128 : decode cc_Mo_gather 128 = .ok (.if_icmp .ne 28, 3) := by decide +kernel
theorem dd_Mo_gather_131 : decode cc_Mo_gather 131 = .ok (.aload_n 0, 1) := by decide +kernel
theorem dd_Mo_gather_132 : decode cc_Mo_gather 132 = .ok (.getfield 46, 3) := by decide +kernel
theorem dd_Mo_gather_135 : decode cc_Mo_gather 135 = .ok (.iload_n 2, 1) := by decide +kernel
theorem dd_Mo_gather_136 : decode cc_Mo_gather 136 = .ok (.iaload, 1) := by decide +kernel
theorem dd_Mo_gather_137 : decode cc_Mo_gather 137 = .ok (.ifCond .ge 19, 3) := by decide +kernel
theorem dd_Mo_gather_140 : decode cc_Mo_gather 140 = .ok (.aload_n 0, 1) := by decide +kernel
theorem dd_Mo_gather_141 : decode cc_Mo_gather 141 = .ok (.aload_n 0, 1) := by decide +kernel
theorem dd_Mo_gather_142 : decode cc_Mo_gather 142 = .ok (.getfield 28, 3) := by decide +kernel
theorem dd_Mo_gather_145 : decode cc_Mo_gather 145 = .ok (.sipush 600, 3) := by decide +kernel
theorem dd_Mo_gather_148 : decode cc_Mo_gather 148 = .ok (.iload_n 1, 1) := by decide +kernel
theorem dd_Mo_gather_149 : decode cc_Mo_gather 149 = .ok (.imul, 1) := by decide +kernel
theorem dd_Mo_gather_150 : decode cc_Mo_gather 150 = .ok (.iload_n 2, 1) := by decide +kernel
theorem dd_Mo_gather_151 : decode cc_Mo_gather 151 = .ok (.iadd, 1) := by decide +kernel
theorem dd_Mo_gather_152 : decode cc_Mo_gather 152 = .ok (.iaload, 1) := by decide +kernel
theorem dd_Mo_gather_153 : decode cc_Mo_gather 153 = .ok (.invokevirtual 103, 3) := by decide +kernel
theorem dd_Mo_gather_156 : decode cc_Mo_gather 156 = .ok (.iinc 2 1, 3) := by decide +kernel
theorem dd_Mo_gather_159 : decode cc_Mo_gather 159 = .ok (.goto (-54), 3) := by decide +kernel
theorem dd_Mo_gather_162 : decode cc_Mo_gather 162 = .ok (.iconst 0, 1) := by decide +kernel
theorem dd_Mo_gather_163 : decode cc_Mo_gather 163 = .ok (.istore_n 2, 1) := by decide +kernel
theorem dd_Mo_gather_164 : decode cc_Mo_gather 164 = .ok (.iload_n 2, 1) := by decide +kernel
theorem dd_Mo_gather_165 : decode cc_Mo_gather 165 = .ok (.sipush 600, 3) := by decide +kernel
theorem dd_Mo_gather_168 : decode cc_Mo_gather 168 = .ok (.if_icmp .ge 57, 3) := by decide +kernel
theorem dd_Mo_gather_171 : decode cc_Mo_gather 171 = .ok (.aload_n 0, 1) := by decide +kernel
theorem dd_Mo_gather_172 : decode cc_Mo_gather 172 = .ok (.getfield 28, 3) := by decide +kernel
theorem dd_Mo_gather_175 : decode cc_Mo_gather 175 = .ok (.sipush 600, 3) := by decide +kernel
theorem dd_Mo_gather_178 : decode cc_Mo_gather 178 = .ok (.iload_n 1, 1) := by decide +kernel
theorem dd_Mo_gather_179 : decode cc_Mo_gather 179 = .ok (.imul, 1) := by decide +kernel
theorem dd_Mo_gather_180 : decode cc_Mo_gather 180 = .ok (.iload_n 2, 1) := by decide +kernel
theorem dd_Mo_gather_181 : decode cc_Mo_gather 181 = .ok (.iadd, 1) := by decide +kernel
theorem dd_Mo_gather_182 : decode cc_Mo_gather 182 = .ok (.iload_n 2, 1) := by decide +kernel
theorem dd_Mo_gather_183 : decode cc_Mo_gather 183 = .ok (.aload_n 0, 1) := by decide +kernel
theorem dd_Mo_gather_184 : decode cc_Mo_gather 184 = .ok (.getfield 79, 3) := by decide +kernel
theorem dd_Mo_gather_187 : decode cc_Mo_gather 187 = .ok (.if_icmp .ge 12, 3) := by decide +kernel
theorem dd_Mo_gather_190 : decode cc_Mo_gather 190 = .ok (.aload_n 0, 1) := by decide +kernel
theorem dd_Mo_gather_191 : decode cc_Mo_gather 191 = .ok (.getfield 40, 3) := by decide +kernel
theorem dd_Mo_gather_194 : decode cc_Mo_gather 194 = .ok (.iload_n 2, 1) := by decide +kernel
theorem dd_Mo_gather_195 : decode cc_Mo_gather 195 = .ok (.iaload, 1) := by decide +kernel
theorem dd_Mo_gather_196 : decode cc_Mo_gather 196 = .ok (.goto 4, 3) := by decide +kernel
theorem dd_Mo_gather_199 : decode cc_Mo_gather 199 = .ok (.iconst 0, 1) := by decide +kernel
theorem dd_Mo_gather_200 : decode cc_Mo_gather 200 = .ok (.iastore, 1) := by decide +kernel
theorem dd_Mo_gather_201 : decode cc_Mo_gather 201 = .ok (.aload_n 0, 1) := by decide +kernel
theorem dd_Mo_gather_202 : decode cc_Mo_gather 202 = .ok (.getfield 31, 3) := by decide +kernel
theorem dd_Mo_gather_205 : decode cc_Mo_gather 205 = .ok (.sipush 600, 3) := by decide +kernel
theorem dd_Mo_gather_208 : decode cc_Mo_gather 208 = .ok (.iload_n 1, 1) := by decide +kernel
theorem dd_Mo_gather_209 : decode cc_Mo_gather 209 = .ok (.imul, 1) := by decide +kernel
theorem dd_Mo_gather_210 : decode cc_Mo_gather 210 = .ok (.iload_n 2, 1) := by decide +kernel
theorem dd_Mo_gather_211 : decode cc_Mo_gather 211 = .ok (.iadd, 1) := by decide +kernel
theorem dd_Mo_gather_212 : decode cc_Mo_gather 212 = .ok (.aload_n 0, 1) := by decide +kernel
theorem dd_Mo_gather_213 : decode cc_Mo_gather 213 = .ok (.getfield 43, 3) := by decide +kernel
theorem dd_Mo_gather_216 : decode cc_Mo_gather 216 = .ok (.iload_n 2, 1) := by decide +kernel
theorem dd_Mo_gather_217 : decode cc_Mo_gather 217 = .ok (.iaload, 1) := by decide +kernel
theorem dd_Mo_gather_218 : decode cc_Mo_gather 218 = .ok (.iastore, 1) := by decide +kernel
theorem dd_Mo_gather_219 : decode cc_Mo_gather 219 = .ok (.iinc 2 1, 3) := by decide +kernel
theorem dd_Mo_gather_222 : decode cc_Mo_gather 222 = .ok (.goto (-58), 3) := by decide +kernel
theorem dd_Mo_gather_225 : decode cc_Mo_gather 225 = .ok (.aload_n 0, 1) := by decide +kernel
theorem dd_Mo_gather_226 : decode cc_Mo_gather 226 = .ok (.getfield 16, 3) := by decide +kernel
theorem dd_Mo_gather_229 : decode cc_Mo_gather 229 = .ok (.iload_n 1, 1) := by decide +kernel
theorem dd_Mo_gather_230 : decode cc_Mo_gather 230 = .ok (.aload_n 0, 1) := by decide +kernel
theorem dd_Mo_gather_231 : decode cc_Mo_gather 231 = .ok (.getfield 79, 3) := by decide +kernel
theorem dd_Mo_gather_234 : decode cc_Mo_gather 234 = .ok (.iastore, 1) := by decide +kernel
theorem dd_Mo_gather_235 : decode cc_Mo_gather 235 = .ok (.return_, 1) := by decide +kernel
theorem dd_Mo_begin_0 : decode cc_Mo_begin 0 = .ok (.aload_n 0, 1) := by decide +kernel
theorem dd_Mo_begin_1 : decode cc_Mo_begin 1 = .ok (.iconst 0, 1) := by decide +kernel
theorem dd_Mo_begin_2 : decode cc_Mo_begin 2 = .ok (.putfield 79, 3) := by decide +kernel
theorem dd_Mo_begin_5 : decode cc_Mo_begin 5 = .ok (.iconst 0, 1) := by decide +kernel
theorem dd_Mo_begin_6 : decode cc_Mo_begin 6 = .ok (.istore_n 1, 1) := by decide +kernel
theorem dd_Mo_begin_7 : decode cc_Mo_begin 7 = .ok (.iload_n 1, 1) := by decide +kernel
theorem dd_Mo_begin_8 : decode cc_Mo_begin 8 = .ok (.sipush 600, 3) := by decide +kernel
theorem dd_Mo_begin_11 : decode cc_Mo_begin 11 = .ok (.if_icmp .ge 23, 3) := by decide +kernel
theorem dd_Mo_begin_14 : decode cc_Mo_begin 14 = .ok (.aload_n 0, 1) := by decide +kernel
theorem dd_Mo_begin_15 : decode cc_Mo_begin 15 = .ok (.getfield 46, 3) := by decide +kernel
theorem dd_Mo_begin_18 : decode cc_Mo_begin 18 = .ok (.iload_n 1, 1) := by decide +kernel
theorem dd_Mo_begin_19 : decode cc_Mo_begin 19 = .ok (.iconst (-1), 1) := by decide +kernel
theorem dd_Mo_begin_20 : decode cc_Mo_begin 20 = .ok (.iastore, 1) := by decide +kernel
theorem dd_Mo_begin_21 : decode cc_Mo_begin 21 = .ok (.aload_n 0, 1) := by decide +kernel
theorem dd_Mo_begin_22 : decode cc_Mo_begin 22 = .ok (.getfield 43, 3) := by decide +kernel
theorem dd_Mo_begin_25 : decode cc_Mo_begin 25 = .ok (.iload_n 1, 1) := by decide +kernel
theorem dd_Mo_begin_26 : decode cc_Mo_begin 26 = .ok (.iconst 0, 1) := by decide +kernel
theorem dd_Mo_begin_27 : decode cc_Mo_begin 27 = .ok (.iastore, 1) := by decide +kernel
theorem dd_Mo_begin_28 : decode cc_Mo_begin 28 = .ok (.iinc 1 1, 3) := by decide +kernel
theorem dd_Mo_begin_31 : decode cc_Mo_begin 31 = .ok (.goto (-24), 3) := by decide +kernel
theorem dd_Mo_begin_34 : decode cc_Mo_begin 34 = .ok (.return_, 1) := by decide +kernel
theorem dd_Mo_put_0 : decode cc_Mo_put 0 = .ok (.aload_n 0, 1) := by decide +kernel
theorem dd_Mo_put_1 : decode cc_Mo_put 1 = .ok (.iload_n 2, 1) := by decide +kernel
theorem dd_Mo_put_2 : decode cc_Mo_put 2 = .ok (.invokevirtual 82, 3) := by decide +kernel
theorem dd_Mo_put_5 : decode cc_Mo_put 5 = .ok (.ifCond .ne 5, 3) := by decide +kernel
theorem dd_Mo_put_8 : decode cc_Mo_put 8 = .ok (.iload_n 2, 1) := by decide +kernel
theorem dd_Mo_put_9 : decode cc_Mo_put 9 = .ok (.ireturn, 1) := by decide +kernel
theorem dd_Mo_put_10 : decode cc_Mo_put 10 = .ok (.aload_n 0, 1) := by decide +kernel
theorem dd_Mo_put_11 : decode cc_Mo_put 11 = .ok (.iload_n 2, 1) := by decide +kernel
theorem dd_Mo_put_12 : decode cc_Mo_put 12 = .ok (.invokevirtual 72, 3) := by decide +kernel
theorem dd_Mo_put_15 : decode cc_Mo_put 15 = .ok (.istore 4, 2) := by decide +kernel
theorem dd_Mo_put_17 : decode cc_Mo_put 17 = .ok (.aload_n 0, 1) := by decide +kernel
theorem dd_Mo_put_18 : decode cc_Mo_put 18 = .ok (.getfield 46, 3) := by decide +kernel
theorem dd_Mo_put_21 : decode cc_Mo_put 21 = .ok (.iload 4, 2) := by decide +kernel
theorem dd_Mo_put_23 : decode cc_Mo_put 23 = .ok (.iaload, 1) := by decide +kernel
theorem dd_Mo_put_24 : decode cc_Mo_put 24 = .ok (.ifCond .ge 91, 3) := by decide +kernel
theorem dd_Mo_put_27 : decode cc_Mo_put 27 = .ok (.aload_n 0, 1) := by decide +kernel
theorem dd_Mo_put_28 : decode cc_Mo_put 28 = .ok (.getfield 46, 3) := by decide +kernel
theorem dd_Mo_put_31 : decode cc_Mo_put 31 = .ok (.iload 4, 2) := by decide +kernel
theorem dd_Mo_put_33 : decode cc_Mo_put 33 = .ok (.aload_n 0, 1) := by decide +kernel
theorem dd_Mo_put_34 : decode cc_Mo_put 34 = .ok (.getfield 79, 3) := by decide +kernel
theorem dd_Mo_put_37 : decode cc_Mo_put 37 = .ok (.iastore, 1) := by decide +kernel
theorem dd_Mo_put_38 : decode cc_Mo_put 38 = .ok (.aload_n 0, 1) := by decide +kernel
theorem dd_Mo_put_39 : decode cc_Mo_put 39 = .ok (.getfield 43, 3) := by decide +kernel
theorem dd_Mo_put_42 : decode cc_Mo_put 42 = .ok (.aload_n 0, 1) := by decide +kernel
theorem dd_Mo_put_43 : decode cc_Mo_put 43 = .ok (.getfield 79, 3) := by decide +kernel
theorem dd_Mo_put_46 : decode cc_Mo_put 46 = .ok (.aload_n 0, 1) := by decide +kernel
theorem dd_Mo_put_47 : decode cc_Mo_put 47 = .ok (.iload_n 2, 1) := by decide +kernel
theorem dd_Mo_put_48 : decode cc_Mo_put 48 = .ok (.invokevirtual 68, 3) := by decide +kernel
theorem dd_Mo_put_51 : decode cc_Mo_put 51 = .ok (.iastore, 1) := by decide +kernel
theorem dd_Mo_put_52 : decode cc_Mo_put 52 = .ok (.iconst 0, 1) := by decide +kernel
theorem dd_Mo_put_53 : decode cc_Mo_put 53 = .ok (.istore 5, 2) := by decide +kernel
theorem dd_Mo_put_55 : decode cc_Mo_put 55 = .ok (.iload 5, 2) := by decide +kernel
theorem dd_Mo_put_57 : decode cc_Mo_put 57 = .ok (.aload_n 0, 1) := by decide +kernel
theorem dd_Mo_put_58 : decode cc_Mo_put 58 = .ok (.iload_n 1, 1) := by decide +kernel
theorem dd_Mo_put_59 : decode cc_Mo_put 59 = .ok (.iload_n 2, 1) := by decide +kernel
theorem dd_Mo_put_60 : decode cc_Mo_put 60 = .ok (.invokevirtual 86, 3) := by decide +kernel
theorem dd_Mo_put_63 : decode cc_Mo_put 63 = .ok (.if_icmp .ge 37, 3) := by decide +kernel
theorem dd_Mo_put_66 : decode cc_Mo_put 66 = .ok (.aload_n 0, 1) := by decide +kernel
theorem dd_Mo_put_67 : decode cc_Mo_put 67 = .ok (.getfield 40, 3) := by decide +kernel
theorem dd_Mo_put_70 : decode cc_Mo_put 70 = .ok (.aload_n 0, 1) := by decide +kernel
theorem dd_Mo_put_71 : decode cc_Mo_put 71 = .ok (.getfield 79, 3) := by decide +kernel
theorem dd_Mo_put_74 : decode cc_Mo_put 74 = .ok (.iload 5, 2) := by decide +kernel
theorem dd_Mo_put_76 : decode cc_Mo_put 76 = .ok (.iadd, 1) := by decide +kernel
theorem dd_Mo_put_77 : decode cc_Mo_put 77 = .ok (.aload_n 0, 1) := by decide +kernel
theorem dd_Mo_put_78 : decode cc_Mo_put 78 = .ok (.getfield 28, 3) := by decide +kernel
theorem dd_Mo_put_81 : decode cc_Mo_put 81 = .ok (.sipush 600, 3) := by decide +kernel
theorem dd_Mo_put_84 : decode cc_Mo_put 84 = .ok (.iload_n 1, 1) := by decide +kernel
theorem dd_Mo_put_85 : decode cc_Mo_put 85 = .ok (.imul, 1) := by decide +kernel
theorem dd_Mo_put_86 : decode cc_Mo_put 86 = .ok (.iload 4, 2) := by decide +kernel
theorem dd_Mo_put_88 : decode cc_Mo_put 88 = .ok (.iadd, 1) := by decide +kernel
theorem dd_Mo_put_89 : decode cc_Mo_put 89 = .ok (.iload 5, 2) := by decide +kernel
theorem dd_Mo_put_91 : decode cc_Mo_put 91 = .ok (.iadd, 1) := by decide +kernel
theorem dd_Mo_put_92 : decode cc_Mo_put 92 = .ok (.iaload, 1) := by decide +kernel
theorem dd_Mo_put_93 : decode cc_Mo_put 93 = .ok (.iastore, 1) := by decide +kernel
theorem dd_Mo_put_94 : decode cc_Mo_put 94 = .ok (.iinc 5 1, 3) := by decide +kernel
theorem dd_Mo_put_97 : decode cc_Mo_put 97 = .ok (.goto (-42), 3) := by decide +kernel
theorem dd_Mo_put_100 : decode cc_Mo_put 100 = .ok (.aload_n 0, 1) := by decide +kernel
theorem dd_Mo_put_101 : decode cc_Mo_put 101 = .ok (.dup, 1) := by decide +kernel
theorem dd_Mo_put_102 : decode cc_Mo_put 102 = .ok (.getfield 79, 3) := by decide +kernel
theorem dd_Mo_put_105 : decode cc_Mo_put 105 = .ok (.aload_n 0, 1) := by decide +kernel
theorem dd_Mo_put_106 : decode cc_Mo_put 106 = .ok (.iload_n 1, 1) := by decide +kernel
theorem dd_Mo_put_107 : decode cc_Mo_put 107 = .ok (.iload_n 2, 1) := by decide +kernel
theorem dd_Mo_put_108 : decode cc_Mo_put 108 = .ok (.invokevirtual 86, 3) := by decide +kernel
theorem dd_Mo_put_111 : decode cc_Mo_put 111 = .ok (.iadd, 1) := by decide +kernel
theorem dd_Mo_put_112 : decode cc_Mo_put 112 = .ok (.putfield 79, 3) := by decide +kernel
theorem dd_Mo_put_115 : decode cc_Mo_put 115 = .ok (.bipush 8, 2) := by decide +kernel
theorem dd_Mo_put_117 : decode cc_Mo_put 117 = .ok (.iload_n 3, 1) := by decide +kernel
theorem dd_Mo_put_118 : decode cc_Mo_put 118 = .ok (.aload_n 0, 1) := by decide +kernel
theorem dd_Mo_put_119 : decode cc_Mo_put 119 = .ok (.getfield 46, 3) := by decide +kernel
theorem dd_Mo_put_122 : decode cc_Mo_put 122 = .ok (.iload 4, 2) := by decide +kernel
theorem dd_Mo_put_124 : decode cc_Mo_put 124 = .ok (.iaload, 1) := by decide +kernel
theorem dd_Mo_put_125 : decode cc_Mo_put 125 = .ok (.iadd, 1) := by decide +kernel
theorem dd_Mo_put_126 : decode cc_Mo_put 126 = .ok (.imul, 1) := by decide +kernel
theorem dd_Mo_put_127 : decode cc_Mo_put 127 = .ok (.aload_n 0, 1) := by decide +kernel
theorem dd_Mo_put_128 : decode cc_Mo_put 128 = .ok (.iload_n 2, 1) := by decide +kernel
theorem dd_Mo_put_129 : decode cc_Mo_put 129 = .ok (.invokevirtual 68, 3) := by decide +kernel
theorem dd_Mo_put_132 : decode cc_Mo_put 132 = .ok (.iadd, 1) := by decide +kernel
theorem dd_Mo_put_133 : decode cc_Mo_put 133 = .ok (.ireturn, 1) := by decide +kernel
theorem dd_Mo_isHeaped_0 : decode cc_Mo_isHeaped 0 = .ok (.iload_n 1, 1) := by decide +kernel
theorem dd_Mo_isHeaped_1 : decode cc_Mo_isHeaped 1 = .ok (.bipush 7, 2) := by decide +kernel
theorem dd_Mo_isHeaped_3 : decode cc_Mo_isHeaped 3 = .ok (.iand, 1) := by decide +kernel
theorem dd_Mo_isHeaped_4 : decode cc_Mo_isHeaped 4 = .ok (.iconst 2, 1) := by decide +kernel
theorem dd_Mo_isHeaped_5 : decode cc_Mo_isHeaped 5 = .ok (.if_icmp .le 7, 3) := by decide +kernel
theorem dd_Mo_isHeaped_8 : decode cc_Mo_isHeaped 8 = .ok (.iconst 1, 1) := by decide +kernel
theorem dd_Mo_isHeaped_9 : decode cc_Mo_isHeaped 9 = .ok (.goto 4, 3) := by decide +kernel
theorem dd_Mo_isHeaped_12 : decode cc_Mo_isHeaped 12 = .ok (.iconst 0, 1) := by decide +kernel
theorem dd_Mo_isHeaped_13 : decode cc_Mo_isHeaped 13 = .ok (.ireturn, 1) := by decide +kernel
theorem dd_Mo_at_0 : decode cc_Mo_at 0 = .ok (.iload_n 1, 1) := by decide +kernel
theorem dd_Mo_at_1 : decode cc_Mo_at 1 = .ok (.iconst 3, 1) := by decide +kernel
theorem dd_Mo_at_2 : decode cc_Mo_at 2 = .ok (.ishr, 1) := by decide +kernel
theorem dd_Mo_at_3 : decode cc_Mo_at 3 = .ok (.ireturn, 1) := by decide +kernel
theorem dd_Mo_kindOf_0 : decode cc_Mo_kindOf 0 = .ok (.iload_n 1, 1) := by decide +kernel
theorem dd_Mo_kindOf_1 : decode cc_Mo_kindOf 1 = .ok (.bipush 7, 2) := by decide +kernel
theorem dd_Mo_kindOf_3 : decode cc_Mo_kindOf 3 = .ok (.iand, 1) := by decide +kernel
theorem dd_Mo_kindOf_4 : decode cc_Mo_kindOf 4 = .ok (.ireturn, 1) := by decide +kernel
theorem dd_Mo_sizeOf_0 : decode cc_Mo_sizeOf 0 = .ok (.aload_n 0, 1) := by decide +kernel
theorem dd_Mo_sizeOf_1 : decode cc_Mo_sizeOf 1 = .ok (.iload_n 2, 1) := by decide +kernel
theorem dd_Mo_sizeOf_2 : decode cc_Mo_sizeOf 2 = .ok (.invokevirtual 68, 3) := by decide +kernel
theorem dd_Mo_sizeOf_5 : decode cc_Mo_sizeOf 5 = .ok (.iconst 4, 1) := by decide +kernel
theorem dd_Mo_sizeOf_6 : decode cc_Mo_sizeOf 6 = .ok (.if_icmp .ne 14, 3) := by decide +kernel
theorem dd_Mo_sizeOf_9 : decode cc_Mo_sizeOf 9 = .ok (.iconst 1, 1) := by decide +kernel
theorem dd_Mo_sizeOf_10 : decode cc_Mo_sizeOf 10 = .ok (.aload_n 0, 1) := by decide +kernel
theorem dd_Mo_sizeOf_11 : decode cc_Mo_sizeOf 11 = .ok (.iload_n 1, 1) := by decide +kernel
theorem dd_Mo_sizeOf_12 : decode cc_Mo_sizeOf 12 = .ok (.iload_n 2, 1) := by decide +kernel
theorem dd_Mo_sizeOf_13 : decode cc_Mo_sizeOf 13 = .ok (.invokevirtual 75, 3) := by decide +kernel
theorem dd_Mo_sizeOf_16 : decode cc_Mo_sizeOf 16 = .ok (.iadd, 1) := by decide +kernel
theorem dd_Mo_sizeOf_17 : decode cc_Mo_sizeOf 17 = .ok (.goto 4, 3) := by decide +kernel
theorem dd_Mo_sizeOf_20 : decode cc_Mo_sizeOf 20 = .ok (.iconst 2, 1) := by decide +kernel
theorem dd_Mo_sizeOf_21 : decode cc_Mo_sizeOf 21 = .ok (.ireturn, 1) := by decide +kernel
theorem dd_Mo_partsOf_0 : decode cc_Mo_partsOf 0 = .ok (.aload_n 0, 1) := by decide +kernel
theorem dd_Mo_partsOf_1 : decode cc_Mo_partsOf 1 = .ok (.iload_n 2, 1) := by decide +kernel
theorem dd_Mo_partsOf_2 : decode cc_Mo_partsOf 2 = .ok (.invokevirtual 68, 3) := by decide +kernel
theorem dd_Mo_partsOf_5 : decode cc_Mo_partsOf 5 = .ok (.iconst 3, 1) := by decide +kernel
theorem dd_Mo_partsOf_6 : decode cc_Mo_partsOf 6 = .ok (.if_icmp .ne 7, 3) := by decide +kernel
theorem dd_Mo_partsOf_9 : decode cc_Mo_partsOf 9 = .ok (.iconst 2, 1) := by decide +kernel
theorem dd_Mo_partsOf_10 : decode cc_Mo_partsOf 10 = .ok (.goto 32, 3) := by decide +kernel
theorem dd_Mo_partsOf_13 : decode cc_Mo_partsOf 13 = .ok (.aload_n 0, 1) := by decide +kernel
theorem dd_Mo_partsOf_14 : decode cc_Mo_partsOf 14 = .ok (.iload_n 2, 1) := by decide +kernel
theorem dd_Mo_partsOf_15 : decode cc_Mo_partsOf 15 = .ok (.invokevirtual 68, 3) := by decide +kernel
theorem dd_Mo_partsOf_18 : decode cc_Mo_partsOf 18 = .ok (.iconst 4, 1) := by decide +kernel
theorem dd_Mo_partsOf_19 : decode cc_Mo_partsOf 19 = .ok (.if_icmp .ne 22, 3) := by decide +kernel
theorem dd_Mo_partsOf_22 : decode cc_Mo_partsOf 22 = .ok (.aload_n 0, 1) := by decide +kernel
theorem dd_Mo_partsOf_23 : decode cc_Mo_partsOf 23 = .ok (.getfield 28, 3) := by decide +kernel
theorem dd_Mo_partsOf_26 : decode cc_Mo_partsOf 26 = .ok (.sipush 600, 3) := by decide +kernel
theorem dd_Mo_partsOf_29 : decode cc_Mo_partsOf 29 = .ok (.iload_n 1, 1) := by decide +kernel
theorem dd_Mo_partsOf_30 : decode cc_Mo_partsOf 30 = .ok (.imul, 1) := by decide +kernel
theorem dd_Mo_partsOf_31 : decode cc_Mo_partsOf 31 = .ok (.aload_n 0, 1) := by decide +kernel
theorem dd_Mo_partsOf_32 : decode cc_Mo_partsOf 32 = .ok (.iload_n 2, 1) := by decide +kernel
theorem dd_Mo_partsOf_33 : decode cc_Mo_partsOf 33 = .ok (.invokevirtual 72, 3) := by decide +kernel
theorem dd_Mo_partsOf_36 : decode cc_Mo_partsOf 36 = .ok (.iadd, 1) := by decide +kernel
theorem dd_Mo_partsOf_37 : decode cc_Mo_partsOf 37 = .ok (.iaload, 1) := by decide +kernel
theorem dd_Mo_partsOf_38 : decode cc_Mo_partsOf 38 = .ok (.goto 4, 3) := by decide +kernel
theorem dd_Mo_partsOf_41 : decode cc_Mo_partsOf 41 = .ok (.iconst 0, 1) := by decide +kernel
theorem dd_Mo_partsOf_42 : decode cc_Mo_partsOf 42 = .ok (.ireturn, 1) := by decide +kernel
theorem dd_Mo_follow_0 : decode cc_Mo_follow 0 = .ok (.iconst 0, 1) := by decide +kernel
theorem dd_Mo_follow_1 : decode cc_Mo_follow 1 = .ok (.istore_n 3, 1) := by decide +kernel
theorem dd_Mo_follow_2 : decode cc_Mo_follow 2 = .ok (.iload_n 3, 1) := by decide +kernel
theorem dd_Mo_follow_3 : decode cc_Mo_follow 3 = .ok (.aload_n 0, 1) := by decide +kernel
theorem dd_Mo_follow_4 : decode cc_Mo_follow 4 = .ok (.getfield 79, 3) := by decide +kernel
theorem dd_Mo_follow_7 : decode cc_Mo_follow 7 = .ok (.if_icmp .ge 128, 3) := by decide +kernel
theorem dd_Mo_follow_10 : decode cc_Mo_follow 10 = .ok (.aload_n 0, 1) := by decide +kernel
theorem dd_Mo_follow_11 : decode cc_Mo_follow 11 = .ok (.getfield 43, 3) := by decide +kernel
theorem dd_Mo_follow_14 : decode cc_Mo_follow 14 = .ok (.iload_n 3, 1) := by decide +kernel
theorem dd_Mo_follow_15 : decode cc_Mo_follow 15 = .ok (.iaload, 1) := by decide +kernel
theorem dd_Mo_follow_16 : decode cc_Mo_follow 16 = .ok (.iconst 4, 1) := by decide +kernel
theorem dd_Mo_follow_17 : decode cc_Mo_follow 17 = .ok (.if_icmp .ne 9, 3) := by decide +kernel
theorem dd_Mo_follow_20 : decode cc_Mo_follow 20 = .ok (.iload_n 3, 1) := by decide +kernel
theorem dd_Mo_follow_21 : decode cc_Mo_follow 21 = .ok (.iconst 1, 1) := by decide +kernel
theorem dd_Mo_follow_22 : decode cc_Mo_follow 22 = .ok (.iadd, 1) := by decide +kernel
theorem dd_Mo_follow_23 : decode cc_Mo_follow 23 = .ok (.goto 4, 3) := by decide +kernel
theorem dd_Mo_follow_26 : decode cc_Mo_follow 26 = .ok (.iload_n 3, 1) := by decide +kernel
theorem dd_Mo_follow_27 : decode cc_Mo_follow 27 = .ok (.istore 4, 2) := by decide +kernel
theorem dd_Mo_follow_29 : decode cc_Mo_follow 29 = .ok (.aload_n 0, 1) := by decide +kernel
theorem dd_Mo_follow_30 : decode cc_Mo_follow 30 = .ok (.getfield 43, 3) := by decide +kernel
theorem dd_Mo_follow_33 : decode cc_Mo_follow 33 = .ok (.iload_n 3, 1) := by decide +kernel
theorem dd_Mo_follow_34 : decode cc_Mo_follow 34 = .ok (.iaload, 1) := by decide +kernel
theorem dd_Mo_follow_35 : decode cc_Mo_follow 35 = .ok (.iconst 3, 1) := by decide +kernel
theorem dd_Mo_follow_36 : decode cc_Mo_follow 36 = .ok (.if_icmp .ne 7, 3) := by decide +kernel
theorem dd_Mo_follow_39 : decode cc_Mo_follow 39 = .ok (.iconst 2, 1) := by decide +kernel
theorem dd_Mo_follow_40 : decode cc_Mo_follow 40 = .ok (.goto 23, 3) := by decide +kernel
theorem dd_Mo_follow_43 : decode cc_Mo_follow 43 = .ok (.aload_n 0, 1) := by decide +kernel
theorem dd_Mo_follow_44 : decode cc_Mo_follow 44 = .ok (.getfield 43, 3) := by decide +kernel
theorem dd_Mo_follow_47 : decode cc_Mo_follow 47 = .ok (.iload_n 3, 1) := by decide +kernel
theorem dd_Mo_follow_48 : decode cc_Mo_follow 48 = .ok (.iaload, 1) := by decide +kernel
theorem dd_Mo_follow_49 : decode cc_Mo_follow 49 = .ok (.iconst 4, 1) := by decide +kernel
theorem dd_Mo_follow_50 : decode cc_Mo_follow 50 = .ok (.if_icmp .ne 12, 3) := by decide +kernel
theorem dd_Mo_follow_53 : decode cc_Mo_follow 53 = .ok (.aload_n 0, 1) := by decide +kernel
theorem dd_Mo_follow_54 : decode cc_Mo_follow 54 = .ok (.getfield 40, 3) := by decide +kernel
theorem dd_Mo_follow_57 : decode cc_Mo_follow 57 = .ok (.iload_n 3, 1) := by decide +kernel
theorem dd_Mo_follow_58 : decode cc_Mo_follow 58 = .ok (.iaload, 1) := by decide +kernel
theorem dd_Mo_follow_59 : decode cc_Mo_follow 59 = .ok (.goto 4, 3) := by decide +kernel
theorem dd_Mo_follow_62 : decode cc_Mo_follow 62 = .ok (.iconst 0, 1) := by decide +kernel
theorem dd_Mo_follow_63 : decode cc_Mo_follow 63 = .ok (.istore 5, 2) := by decide +kernel
theorem dd_Mo_follow_65 : decode cc_Mo_follow 65 = .ok (.aload_n 0, 1) := by decide +kernel
theorem dd_Mo_follow_66 : decode cc_Mo_follow 66 = .ok (.getfield 43, 3) := by decide +kernel
theorem dd_Mo_follow_69 : decode cc_Mo_follow 69 = .ok (.iload_n 3, 1) := by decide +kernel
theorem dd_Mo_follow_70 : decode cc_Mo_follow 70 = .ok (.iaload, 1) := by decide +kernel
theorem dd_Mo_follow_71 : decode cc_Mo_follow 71 = .ok (.iconst 4, 1) := by decide +kernel
theorem dd_Mo_follow_72 : decode cc_Mo_follow 72 = .ok (.if_icmp .ne 12, 3) := by decide +kernel
theorem dd_Mo_follow_75 : decode cc_Mo_follow 75 = .ok (.iload_n 3, 1) := by decide +kernel
theorem dd_Mo_follow_76 : decode cc_Mo_follow 76 = .ok (.iconst 1, 1) := by decide +kernel
theorem dd_Mo_follow_77 : decode cc_Mo_follow 77 = .ok (.iadd, 1) := by decide +kernel
theorem dd_Mo_follow_78 : decode cc_Mo_follow 78 = .ok (.iload 5, 2) := by decide +kernel
theorem dd_Mo_follow_80 : decode cc_Mo_follow 80 = .ok (.iadd, 1) := by decide +kernel
theorem dd_Mo_follow_81 : decode cc_Mo_follow 81 = .ok (.goto 6, 3) := by decide +kernel
theorem dd_Mo_follow_84 : decode cc_Mo_follow 84 = .ok (.iload_n 3, 1) := by decide +kernel
theorem dd_Mo_follow_85 : decode cc_Mo_follow 85 = .ok (.iconst 2, 1) := by decide +kernel
theorem dd_Mo_follow_86 : decode cc_Mo_follow 86 = .ok (.iadd, 1) := by decide +kernel
theorem dd_Mo_follow_87 : decode cc_Mo_follow 87 = .ok (.istore 6, 2) := by decide +kernel
theorem dd_Mo_follow_89 : decode cc_Mo_follow 89 = .ok (.iload 4, 2) := by decide +kernel
theorem dd_Mo_follow_91 : decode cc_Mo_follow 91 = .ok (.istore 7, 2) := by decide +kernel
theorem dd_Mo_follow_93 : decode cc_Mo_follow 93 = .ok (.iload 7, 2) := by decide +kernel
theorem dd_Mo_follow_95 : decode cc_Mo_follow 95 = .ok (.iload 4, 2) := by decide +kernel
theorem dd_Mo_follow_97 : decode cc_Mo_follow 97 = .ok (.iload 5, 2) := by decide +kernel
theorem dd_Mo_follow_99 : decode cc_Mo_follow 99 = .ok (.iadd, 1) := by decide +kernel
theorem dd_Mo_follow_100 : decode cc_Mo_follow 100 = .ok (.if_icmp .ge 29, 3) := by decide +kernel
theorem dd_Mo_follow_103 : decode cc_Mo_follow 103 = .ok (.aload_n 0, 1) := by decide +kernel
theorem dd_Mo_follow_104 : decode cc_Mo_follow 104 = .ok (.getfield 40, 3) := by decide +kernel
theorem dd_Mo_follow_107 : decode cc_Mo_follow 107 = .ok (.iload 7, 2) := by decide +kernel
theorem dd_Mo_follow_109 : decode cc_Mo_follow 109 = .ok (.aload_n 0, 1) := by decide +kernel
theorem dd_Mo_follow_110 : decode cc_Mo_follow 110 = .ok (.iload_n 1, 1) := by decide +kernel
theorem dd_Mo_follow_111 : decode cc_Mo_follow 111 = .ok (.aload_n 0, 1) := by decide +kernel
theorem dd_Mo_follow_112 : decode cc_Mo_follow 112 = .ok (.getfield 40, 3) := by decide +kernel
theorem dd_Mo_follow_115 : decode cc_Mo_follow 115 = .ok (.iload 7, 2) := by decide +kernel
theorem dd_Mo_follow_117 : decode cc_Mo_follow 117 = .ok (.iaload, 1) := by decide +kernel
theorem dd_Mo_follow_118 : decode cc_Mo_follow 118 = .ok (.iload_n 2, 1) := by decide +kernel
theorem dd_Mo_follow_119 : decode cc_Mo_follow 119 = .ok (.invokevirtual 89, 3) := by decide +kernel
theorem dd_Mo_follow_122 : decode cc_Mo_follow 122 = .ok (.iastore, 1) := by decide +kernel
theorem dd_Mo_follow_123 : decode cc_Mo_follow 123 = .ok (.iinc 7 1, 3) := by decide +kernel
theorem dd_Mo_follow_126 : decode cc_Mo_follow 126 = .ok (.goto (-33), 3) := by decide +kernel
theorem dd_Mo_follow_129 : decode cc_Mo_follow 129 = .ok (.iload 6, 2) := by decide +kernel
theorem dd_Mo_follow_131 : decode cc_Mo_follow 131 = .ok (.istore_n 3, 1) := by decide +kernel
theorem dd_Mo_follow_132 : decode cc_Mo_follow 132 = .ok (.goto (-130), 3) := by decide +kernel
theorem dd_Mo_follow_135 : decode cc_Mo_follow 135 = .ok (.return_, 1) := by decide +kernel
theorem dd_Mo_open_0 : decode cc_Mo_open 0 = .ok (.aload_n 0, 1) := by decide +kernel
theorem dd_Mo_open_1 : decode cc_Mo_open 1 = .ok (.getfield 16, 3) := by decide +kernel
theorem dd_Mo_open_4 : decode cc_Mo_open 4 = .ok (.iload_n 1, 1) := by decide +kernel
theorem dd_Mo_open_5 : decode cc_Mo_open 5 = .ok (.iaload, 1) := by decide +kernel
theorem dd_Mo_open_6 : decode cc_Mo_open 6 = .ok (.istore 4, 2) := by decide +kernel
theorem dd_Mo_open_8 : decode cc_Mo_open 8 = .ok (.aload_n 0, 1) := by decide +kernel
theorem dd_Mo_open_9 : decode cc_Mo_open 9 = .ok (.getfield 31, 3) := by decide +kernel
theorem dd_Mo_open_12 : decode cc_Mo_open 12 = .ok (.sipush 600, 3) := by decide +kernel
theorem dd_Mo_open_15 : decode cc_Mo_open 15 = .ok (.iload_n 1, 1) := by decide +kernel
theorem dd_Mo_open_16 : decode cc_Mo_open 16 = .ok (.imul, 1) := by decide +kernel
theorem dd_Mo_open_17 : decode cc_Mo_open 17 = .ok (.iload 4, 2) := by decide +kernel
theorem dd_Mo_open_19 : decode cc_Mo_open 19 = .ok (.iadd, 1) := by decide +kernel
theorem dd_Mo_open_20 : decode cc_Mo_open 20 = .ok (.iload_n 2, 1) := by decide +kernel
theorem dd_Mo_open_21 : decode cc_Mo_open 21 = .ok (.iastore, 1) := by decide +kernel
theorem dd_Mo_open_22 : decode cc_Mo_open 22 = .ok (.iconst 1, 1) := by decide +kernel
theorem dd_Mo_open_23 : decode cc_Mo_open 23 = .ok (.istore 5, 2) := by decide +kernel
theorem dd_Mo_open_25 : decode cc_Mo_open 25 = .ok (.iload 5, 2) := by decide +kernel
theorem dd_Mo_open_27 : decode cc_Mo_open 27 = .ok (.iload_n 3, 1) := by decide +kernel
theorem dd_Mo_open_28 : decode cc_Mo_open 28 = .ok (.if_icmp .ge 26, 3) := by decide +kernel
theorem dd_Mo_open_31 : decode cc_Mo_open 31 = .ok (.aload_n 0, 1) := by decide +kernel
theorem dd_Mo_open_32 : decode cc_Mo_open 32 = .ok (.getfield 31, 3) := by decide +kernel
theorem dd_Mo_open_35 : decode cc_Mo_open 35 = .ok (.sipush 600, 3) := by decide +kernel
theorem dd_Mo_open_38 : decode cc_Mo_open 38 = .ok (.iload_n 1, 1) := by decide +kernel
theorem dd_Mo_open_39 : decode cc_Mo_open 39 = .ok (.imul, 1) := by decide +kernel
theorem dd_Mo_open_40 : decode cc_Mo_open 40 = .ok (.iload 4, 2) := by decide +kernel
theorem dd_Mo_open_42 : decode cc_Mo_open 42 = .ok (.iadd, 1) := by decide +kernel
theorem dd_Mo_open_43 : decode cc_Mo_open 43 = .ok (.iload 5, 2) := by decide +kernel
theorem dd_Mo_open_45 : decode cc_Mo_open 45 = .ok (.iadd, 1) := by decide +kernel
theorem dd_Mo_open_46 : decode cc_Mo_open 46 = .ok (.iconst 0, 1) := by decide +kernel
theorem dd_Mo_open_47 : decode cc_Mo_open 47 = .ok (.iastore, 1) := by decide +kernel
theorem dd_Mo_open_48 : decode cc_Mo_open 48 = .ok (.iinc 5 1, 3) := by decide +kernel
theorem dd_Mo_open_51 : decode cc_Mo_open 51 = .ok (.goto (-26), 3) := by decide +kernel
theorem dd_Mo_open_54 : decode cc_Mo_open 54 = .ok (.aload_n 0, 1) := by decide +kernel
theorem dd_Mo_open_55 : decode cc_Mo_open 55 = .ok (.getfield 16, 3) := by decide +kernel
theorem dd_Mo_open_58 : decode cc_Mo_open 58 = .ok (.iload_n 1, 1) := by decide +kernel
theorem dd_Mo_open_59 : decode cc_Mo_open 59 = .ok (.dup2, 1) := by decide +kernel
theorem dd_Mo_open_60 : decode cc_Mo_open 60 = .ok (.iaload, 1) := by decide +kernel
theorem dd_Mo_open_61 : decode cc_Mo_open 61 = .ok (.iload_n 3, 1) := by decide +kernel
theorem dd_Mo_open_62 : decode cc_Mo_open 62 = .ok (.iadd, 1) := by decide +kernel
theorem dd_Mo_open_63 : decode cc_Mo_open 63 = .ok (.iastore, 1) := by decide +kernel
theorem dd_Mo_open_64 : decode cc_Mo_open 64 = .ok (.iload 4, 2) := by decide +kernel
theorem dd_Mo_open_66 : decode cc_Mo_open 66 = .ok (.ireturn, 1) := by decide +kernel
theorem dd_Mo_tuple_0 : decode cc_Mo_tuple 0 = .ok (.aload_n 0, 1) := by decide +kernel
theorem dd_Mo_tuple_1 : decode cc_Mo_tuple 1 = .ok (.iload_n 1, 1) := by decide +kernel
theorem dd_Mo_tuple_2 : decode cc_Mo_tuple 2 = .ok (.invokevirtual 120, 3) := by decide +kernel
theorem dd_Mo_tuple_5 : decode cc_Mo_tuple 5 = .ok (.istore 4, 2) := by decide +kernel
theorem dd_Mo_tuple_7 : decode cc_Mo_tuple 7 = .ok (.aload_n 0, 1) := by decide +kernel
theorem dd_Mo_tuple_8 : decode cc_Mo_tuple 8 = .ok (.iload 4, 2) := by decide +kernel
theorem dd_Mo_tuple_10 : decode cc_Mo_tuple 10 = .ok (.ifCond .lt 11, 3) := by decide +kernel
theorem dd_Mo_tuple_13 : decode cc_Mo_tuple 13 = .ok (.aload_n 0, 1) := by decide +kernel
theorem dd_Mo_tuple_14 : decode cc_Mo_tuple 14 = .ok (.iload_n 2, 1) := by decide +kernel
theorem dd_Mo_tuple_15 : decode cc_Mo_tuple 15 = .ok (.invokevirtual 123, 3) := by decide +kernel
theorem dd_Mo_tuple_18 : decode cc_Mo_tuple 18 = .ok (.ifCond .eq 7, 3) := by decide +kernel
theorem dd_Mo_tuple_21 : decode cc_Mo_tuple 21 = .ok (.iconst 1, 1) := by decide +kernel
theorem dd_Mo_tuple_22 : decode cc_Mo_tuple 22 = .ok (.goto 17, 3) := by decide +kernel
theorem dd_Mo_tuple_25 : decode cc_Mo_tuple 25 = .ok (.iload_n 3, 1) := by decide +kernel
theorem dd_Mo_tuple_26 : decode cc_Mo_tuple 26 = .ok (.ifCond .lt 8, 3) := by decide +kernel
theorem dd_Mo_tuple_29 : decode cc_Mo_tuple 29 = .ok (.iload_n 3, 1) := by decide +kernel
theorem dd_Mo_tuple_30 : decode cc_Mo_tuple 30 = .ok (.iconst 4, 1) := by decide +kernel
theorem dd_Mo_tuple_31 : decode cc_Mo_tuple 31 = .ok (.if_icmp .le 7, 3) := by decide +kernel
theorem dd_Mo_tuple_34 : decode cc_Mo_tuple 34 = .ok (.iconst 2, 1) := by decide +kernel
theorem dd_Mo_tuple_35 : decode cc_Mo_tuple 35 = .ok (.goto 4, 3) := by decide +kernel
theorem dd_Mo_tuple_38 : decode cc_Mo_tuple 38 = .ok (.iconst 0, 1) := by decide +kernel
theorem dd_Mo_tuple_39 : decode cc_Mo_tuple 39 = .ok (.putfield 62, 3) := by decide +kernel
theorem dd_Mo_tuple_42 : decode cc_Mo_tuple 42 = .ok (.aload_n 0, 1) := by decide +kernel
theorem dd_Mo_tuple_43 : decode cc_Mo_tuple 43 = .ok (.getfield 62, 3) := by decide +kernel
theorem dd_Mo_tuple_46 : decode cc_Mo_tuple 46 = .ok (.ifCond .eq 4, 3) := by decide +kernel
theorem dd_Mo_tuple_49 : decode cc_Mo_tuple 49 = .ok (.return_, 1) := by decide +kernel
theorem dd_Mo_tuple_50 : decode cc_Mo_tuple 50 = .ok (.aload_n 0, 1) := by decide +kernel
theorem dd_Mo_tuple_51 : decode cc_Mo_tuple 51 = .ok (.aload_n 0, 1) := by decide +kernel
theorem dd_Mo_tuple_52 : decode cc_Mo_tuple 52 = .ok (.iload 4, 2) := by decide +kernel
theorem dd_Mo_tuple_54 : decode cc_Mo_tuple 54 = .ok (.iload_n 3, 1) := by decide +kernel
theorem dd_Mo_tuple_55 : decode cc_Mo_tuple 55 = .ok (.iconst 1, 1) := by decide +kernel
theorem dd_Mo_tuple_56 : decode cc_Mo_tuple 56 = .ok (.iadd, 1) := by decide +kernel
theorem dd_Mo_tuple_57 : decode cc_Mo_tuple 57 = .ok (.invokevirtual 128, 3) := by decide +kernel
theorem dd_Mo_tuple_60 : decode cc_Mo_tuple 60 = .ok (.ifCond .eq 7, 3) := by decide +kernel
theorem dd_Mo_tuple_63 : decode cc_Mo_tuple 63 = .ok (.iconst 0, 1) := by decide +kernel
theorem dd_Mo_tuple_64 : decode cc_Mo_tuple 64 = .ok (.goto 4, 3) := by decide +kernel
theorem dd_Mo_tuple_67 : decode cc_Mo_tuple 67 = .ok (.iconst 3, 1) := by decide +kernel
theorem dd_Mo_tuple_68 : decode cc_Mo_tuple 68 = .ok (.putfield 62, 3) := by decide +kernel
theorem dd_Mo_tuple_71 : decode cc_Mo_tuple 71 = .ok (.aload_n 0, 1) := by decide +kernel
theorem dd_Mo_tuple_72 : decode cc_Mo_tuple 72 = .ok (.getfield 62, 3) := by decide +kernel
theorem dd_Mo_tuple_75 : decode cc_Mo_tuple 75 = .ok (.ifCond .ne 94, 3) := by decide +kernel
theorem dd_Mo_tuple_78 : decode cc_Mo_tuple 78 = .ok (.aload_n 0, 1) := by decide +kernel
theorem dd_Mo_tuple_79 : decode cc_Mo_tuple 79 = .ok (.iload 4, 2) := by decide +kernel
theorem dd_Mo_tuple_81 : decode cc_Mo_tuple 81 = .ok (.iconst 4, 1) := by decide +kernel
theorem dd_Mo_tuple_82 : decode cc_Mo_tuple 82 = .ok (.iload_n 3, 1) := by decide +kernel
theorem dd_Mo_tuple_83 : decode cc_Mo_tuple 83 = .ok (.iconst 1, 1) := by decide +kernel
theorem dd_Mo_tuple_84 : decode cc_Mo_tuple 84 = .ok (.iadd, 1) := by decide +kernel
theorem dd_Mo_tuple_85 : decode cc_Mo_tuple 85 = .ok (.invokevirtual 132, 3) := by decide +kernel
theorem dd_Mo_tuple_88 : decode cc_Mo_tuple 88 = .ok (.istore 5, 2) := by decide +kernel
theorem dd_Mo_tuple_90 : decode cc_Mo_tuple 90 = .ok (.aload_n 0, 1) := by decide +kernel
theorem dd_Mo_tuple_91 : decode cc_Mo_tuple 91 = .ok (.getfield 28, 3) := by decide +kernel
theorem dd_Mo_tuple_94 : decode cc_Mo_tuple 94 = .ok (.sipush 600, 3) := by decide +kernel
theorem dd_Mo_tuple_97 : decode cc_Mo_tuple 97 = .ok (.iload 4, 2) := by decide +kernel
theorem dd_Mo_tuple_99 : decode cc_Mo_tuple 99 = .ok (.imul, 1) := by decide +kernel
theorem dd_Mo_tuple_100 : decode cc_Mo_tuple 100 = .ok (.iload 5, 2) := by decide +kernel
theorem dd_Mo_tuple_102 : decode cc_Mo_tuple 102 = .ok (.iadd, 1) := by decide +kernel
theorem dd_Mo_tuple_103 : decode cc_Mo_tuple 103 = .ok (.iload_n 3, 1) := by decide +kernel
theorem dd_Mo_tuple_104 : decode cc_Mo_tuple 104 = .ok (.iastore, 1) := by decide +kernel
theorem dd_Mo_tuple_105 : decode cc_Mo_tuple 105 = .ok (.iconst 0, 1) := by decide +kernel
theorem dd_Mo_tuple_106 : decode cc_Mo_tuple 106 = .ok (.istore 6, 2) := by decide +kernel
theorem dd_Mo_tuple_108 : decode cc_Mo_tuple 108 = .ok (.iload 6, 2) := by decide +kernel
theorem dd_Mo_tuple_110 : decode cc_Mo_tuple 110 = .ok (.iload_n 3, 1) := by decide +kernel
theorem dd_Mo_tuple_111 : decode cc_Mo_tuple 111 = .ok (.if_icmp .ge 40, 3) := by decide +kernel
theorem dd_Mo_tuple_114 : decode cc_Mo_tuple 114 = .ok (.aload_n 0, 1) := by decide +kernel
theorem dd_Mo_tuple_115 : decode cc_Mo_tuple 115 = .ok (.getfield 28, 3) := by decide +kernel
theorem dd_Mo_tuple_118 : decode cc_Mo_tuple 118 = .ok (.sipush 600, 3) := by decide +kernel
theorem dd_Mo_tuple_121 : decode cc_Mo_tuple 121 = .ok (.iload 4, 2) := by decide +kernel
theorem dd_Mo_tuple_123 : decode cc_Mo_tuple 123 = .ok (.imul, 1) := by decide +kernel
theorem dd_Mo_tuple_124 : decode cc_Mo_tuple 124 = .ok (.iload 5, 2) := by decide +kernel
theorem dd_Mo_tuple_126 : decode cc_Mo_tuple 126 = .ok (.iadd, 1) := by decide +kernel
theorem dd_Mo_tuple_127 : decode cc_Mo_tuple 127 = .ok (.iconst 1, 1) := by decide +kernel
theorem dd_Mo_tuple_128 : decode cc_Mo_tuple 128 = .ok (.iadd, 1) := by decide +kernel
theorem dd_Mo_tuple_129 : decode cc_Mo_tuple 129 = .ok (.iload 6, 2) := by decide +kernel
theorem dd_Mo_tuple_131 : decode cc_Mo_tuple 131 = .ok (.iadd, 1) := by decide +kernel
theorem dd_Mo_tuple_132 : decode cc_Mo_tuple 132 = .ok (.aload_n 0, 1) := by decide +kernel
theorem dd_Mo_tuple_133 : decode cc_Mo_tuple 133 = .ok (.getfield 19, 3) := by decide +kernel
theorem dd_Mo_tuple_136 : decode cc_Mo_tuple 136 = .ok (.iconst 4, 1) := by decide +kernel
theorem dd_Mo_tuple_137 : decode cc_Mo_tuple 137 = .ok (.iload 4, 2) := by decide +kernel
theorem dd_Mo_tuple_139 : decode cc_Mo_tuple 139 = .ok (.imul, 1) := by decide +kernel
theorem dd_Mo_tuple_140 : decode cc_Mo_tuple 140 = .ok (.iload 6, 2) := by decide +kernel
theorem dd_Mo_tuple_142 : decode cc_Mo_tuple 142 = .ok (.iadd, 1) := by decide +kernel
theorem dd_Mo_tuple_143 : decode cc_Mo_tuple 143 = .ok (.iaload, 1) := by decide +kernel
theorem dd_Mo_tuple_144 : decode cc_Mo_tuple 144 = .ok (.iastore, 1) := by decide +kernel
theorem dd_Mo_tuple_145 : decode cc_Mo_tuple 145 = .ok (.iinc 6 1, 3) := by decide +kernel
theorem dd_Mo_tuple_148 : decode cc_Mo_tuple 148 = .ok (.goto (-40), 3) := by decide +kernel
theorem dd_Mo_tuple_151 : decode cc_Mo_tuple 151 = .ok (.aload_n 0, 1) := by decide +kernel
theorem dd_Mo_tuple_152 : decode cc_Mo_tuple 152 = .ok (.getfield 19, 3) := by decide +kernel
theorem dd_Mo_tuple_155 : decode cc_Mo_tuple 155 = .ok (.iconst 4, 1) := by decide +kernel
theorem dd_Mo_tuple_156 : decode cc_Mo_tuple 156 = .ok (.iload 4, 2) := by decide +kernel
theorem dd_Mo_tuple_158 : decode cc_Mo_tuple 158 = .ok (.imul, 1) := by decide +kernel
theorem dd_Mo_tuple_159 : decode cc_Mo_tuple 159 = .ok (.iload_n 2, 1) := by decide +kernel
theorem dd_Mo_tuple_160 : decode cc_Mo_tuple 160 = .ok (.iadd, 1) := by decide +kernel
theorem dd_Mo_tuple_161 : decode cc_Mo_tuple 161 = .ok (.bipush 8, 2) := by decide +kernel
theorem dd_Mo_tuple_163 : decode cc_Mo_tuple 163 = .ok (.iload 5, 2) := by decide +kernel
theorem dd_Mo_tuple_165 : decode cc_Mo_tuple 165 = .ok (.imul, 1) := by decide +kernel
theorem dd_Mo_tuple_166 : decode cc_Mo_tuple 166 = .ok (.iconst 4, 1) := by decide +kernel
theorem dd_Mo_tuple_167 : decode cc_Mo_tuple 167 = .ok (.iadd, 1) := by decide +kernel
theorem dd_Mo_tuple_168 : decode cc_Mo_tuple 168 = .ok (.iastore, 1) := by decide +kernel
theorem dd_Mo_tuple_169 : decode cc_Mo_tuple 169 = .ok (.return_, 1) := by decide +kernel
theorem dd_Mo_blob_0 : decode cc_Mo_blob 0 = .ok (.aload_n 0, 1) := by decide +kernel
theorem dd_Mo_blob_1 : decode cc_Mo_blob 1 = .ok (.iload_n 1, 1) := by decide +kernel
theorem dd_Mo_blob_2 : decode cc_Mo_blob 2 = .ok (.invokevirtual 120, 3) := by decide +kernel
theorem dd_Mo_blob_5 : decode cc_Mo_blob 5 = .ok (.istore 4, 2) := by decide +kernel
theorem dd_Mo_blob_7 : decode cc_Mo_blob 7 = .ok (.aload_n 0, 1) := by decide +kernel
theorem dd_Mo_blob_8 : decode cc_Mo_blob 8 = .ok (.iload 4, 2) := by decide +kernel
theorem dd_Mo_blob_10 : decode cc_Mo_blob 10 = .ok (.ifCond .lt 11, 3) := by decide +kernel
theorem dd_Mo_blob_13 : decode cc_Mo_blob 13 = .ok (.aload_n 0, 1) := by decide +kernel
theorem dd_Mo_blob_14 : decode cc_Mo_blob 14 = .ok (.iload_n 2, 1) := by decide +kernel
theorem dd_Mo_blob_15 : decode cc_Mo_blob 15 = .ok (.invokevirtual 123, 3) := by decide +kernel
theorem dd_Mo_blob_18 : decode cc_Mo_blob 18 = .ok (.ifCond .eq 7, 3) := by decide +kernel
theorem dd_Mo_blob_21 : decode cc_Mo_blob 21 = .ok (.iconst 1, 1) := by decide +kernel
theorem dd_Mo_blob_22 : decode cc_Mo_blob 22 = .ok (.goto 19, 3) := by decide +kernel
theorem dd_Mo_blob_25 : decode cc_Mo_blob 25 = .ok (.iload_n 3, 1) := by decide +kernel
theorem dd_Mo_blob_26 : decode cc_Mo_blob 26 = .ok (.iconst 1, 1) := by decide +kernel
theorem dd_Mo_blob_27 : decode cc_Mo_blob 27 = .ok (.if_icmp .lt 9, 3) := by decide +kernel
theorem dd_Mo_blob_30 : decode cc_Mo_blob 30 = .ok (.iload_n 3, 1) := by decide +kernel
theorem dd_Mo_blob_31 : decode cc_Mo_blob 31 = .ok (.bipush 100, 2) := by decide +kernel
theorem dd_Mo_blob_33 : decode cc_Mo_blob 33 = .ok (.if_icmp .le 7, 3) := by decide +kernel
theorem dd_Mo_blob_36 : decode cc_Mo_blob 36 = .ok (.iconst 2, 1) := by decide +kernel
theorem dd_Mo_blob_37 : decode cc_Mo_blob 37 = .ok (.goto 4, 3) := by decide +kernel
theorem dd_Mo_blob_40 : decode cc_Mo_blob 40 = .ok (.iconst 0, 1) := by decide +kernel
theorem dd_Mo_blob_41 : decode cc_Mo_blob 41 = .ok (.putfield 62, 3) := by decide +kernel
theorem dd_Mo_blob_44 : decode cc_Mo_blob 44 = .ok (.aload_n 0, 1) := by decide +kernel
theorem dd_Mo_blob_45 : decode cc_Mo_blob 45 = .ok (.getfield 62, 3) := by decide +kernel
theorem dd_Mo_blob_48 : decode cc_Mo_blob 48 = .ok (.ifCond .eq 4, 3) := by decide +kernel
theorem dd_Mo_blob_51 : decode cc_Mo_blob 51 = .ok (.return_, 1) := by decide +kernel
theorem dd_Mo_blob_52 : decode cc_Mo_blob 52 = .ok (.aload_n 0, 1) := by decide +kernel
theorem dd_Mo_blob_53 : decode cc_Mo_blob 53 = .ok (.aload_n 0, 1) := by decide +kernel
theorem dd_Mo_blob_54 : decode cc_Mo_blob 54 = .ok (.iload 4, 2) := by decide +kernel
theorem dd_Mo_blob_56 : decode cc_Mo_blob 56 = .ok (.iconst 2, 1) := by decide +kernel
theorem dd_Mo_blob_57 : decode cc_Mo_blob 57 = .ok (.invokevirtual 128, 3) := by decide +kernel
theorem dd_Mo_blob_60 : decode cc_Mo_blob 60 = .ok (.ifCond .ne 7, 3) := by decide +kernel
theorem dd_Mo_blob_63 : decode cc_Mo_blob 63 = .ok (.iconst 3, 1) := by decide +kernel
theorem dd_Mo_blob_64 : decode cc_Mo_blob 64 = .ok (.goto 4, 3) := by decide +kernel
theorem dd_Mo_blob_67 : decode cc_Mo_blob 67 = .ok (.iconst 0, 1) := by decide +kernel
theorem dd_Mo_blob_68 : decode cc_Mo_blob 68 = .ok (.putfield 62, 3) := by decide +kernel
theorem dd_Mo_blob_71 : decode cc_Mo_blob 71 = .ok (.aload_n 0, 1) := by decide +kernel
theorem dd_Mo_blob_72 : decode cc_Mo_blob 72 = .ok (.aload_n 0, 1) := by decide +kernel
theorem dd_Mo_blob_73 : decode cc_Mo_blob 73 = .ok (.getfield 62, 3) := by decide +kernel
theorem dd_Mo_blob_76 : decode cc_Mo_blob 76 = .ok (.ifCond .ne 24, 3) := by decide +kernel
theorem dd_Mo_blob_79 : decode cc_Mo_blob 79 = .ok (.aload_n 0, 1) := by decide +kernel
theorem dd_Mo_blob_80 : decode cc_Mo_blob 80 = .ok (.invokevirtual 110, 3) := by decide +kernel
theorem dd_Mo_blob_83 : decode cc_Mo_blob 83 = .ok (.iload_n 3, 1) := by decide +kernel
theorem dd_Mo_blob_84 : decode cc_Mo_blob 84 = .ok (.if_icmp .lt 12, 3) := by decide +kernel
theorem dd_Mo_blob_87 : decode cc_Mo_blob 87 = .ok (.aload_n 0, 1) := by decide +kernel
theorem dd_Mo_blob_88 : decode cc_Mo_blob 88 = .ok (.getfield 65, 3) := by decide +kernel
theorem dd_Mo_blob_91 : decode cc_Mo_blob 91 = .ok (.bipush 30, 2) := by decide +kernel
theorem dd_Mo_blob_93 : decode cc_Mo_blob 93 = .ok (.if_icmp .ne 7, 3) := by decide +kernel
theorem dd_Mo_blob_96 : decode cc_Mo_blob 96 = .ok (.iconst 4, 1) := by decide +kernel
theorem dd_Mo_blob_97 : decode cc_Mo_blob 97 = .ok (.goto 7, 3) := by decide +kernel
theorem dd_Mo_blob_100 : decode cc_Mo_blob 100 = .ok (.aload_n 0, 1) := by decide +kernel
theorem dd_Mo_blob_101 : decode cc_Mo_blob 101 = .ok (.getfield 62, 3) := by decide +kernel
theorem dd_Mo_blob_104 : decode cc_Mo_blob 104 = .ok (.putfield 62, 3) := by decide +kernel
theorem dd_Mo_blob_107 : decode cc_Mo_blob 107 = .ok (.aload_n 0, 1) := by decide +kernel
theorem dd_Mo_blob_108 : decode cc_Mo_blob 108 = .ok (.getfield 62, 3) := by decide +kernel
theorem dd_Mo_blob_111 : decode cc_Mo_blob 111 = .ok (.ifCond .ne 109, 3) := by decide +kernel
theorem dd_Mo_blob_114 : decode cc_Mo_blob 114 = .ok (.iconst 0, 1) := by decide +kernel
theorem dd_Mo_blob_115 : decode cc_Mo_blob 115 = .ok (.istore 5, 2) := by decide +kernel
theorem dd_Mo_blob_117 : decode cc_Mo_blob 117 = .ok (.aload_n 0, 1) := by decide +kernel
theorem dd_Mo_blob_118 : decode cc_Mo_blob 118 = .ok (.getfield 34, 3) := by decide +kernel
theorem dd_Mo_blob_121 : decode cc_Mo_blob 121 = .ok (.iload 5, 2) := by decide +kernel
theorem dd_Mo_blob_123 : decode cc_Mo_blob 123 = .ok (.iaload, 1) := by decide +kernel
theorem dd_Mo_blob_124 : decode cc_Mo_blob 124 = .ok (.ifCond .le 9, 3) := by decide +kernel
theorem dd_Mo_blob_127 : decode cc_Mo_blob 127 = .ok (.iinc 5 1, 3) := by decide +kernel
theorem dd_Mo_blob_130 : decode cc_Mo_blob 130 = .ok (.goto (-13), 3) := by decide +kernel
theorem dd_Mo_blob_133 : decode cc_Mo_blob 133 = .ok (.aload_n 0, 1) := by decide +kernel
theorem dd_Mo_blob_134 : decode cc_Mo_blob 134 = .ok (.getfield 34, 3) := by decide +kernel
theorem dd_Mo_blob_137 : decode cc_Mo_blob 137 = .ok (.iload 5, 2) := by decide +kernel
theorem dd_Mo_blob_139 : decode cc_Mo_blob 139 = .ok (.iload_n 3, 1) := by decide +kernel
theorem dd_Mo_blob_140 : decode cc_Mo_blob 140 = .ok (.iastore, 1) := by decide +kernel
theorem dd_Mo_blob_141 : decode cc_Mo_blob 141 = .ok (.aload_n 0, 1) := by decide +kernel
theorem dd_Mo_blob_142 : decode cc_Mo_blob 142 = .ok (.getfield 37, 3) := by decide +kernel
theorem dd_Mo_blob_145 : decode cc_Mo_blob 145 = .ok (.iload 5, 2) := by decide +kernel
theorem dd_Mo_blob_147 : decode cc_Mo_blob 147 = .ok (.iconst 1, 1) := by decide +kernel
theorem dd_Mo_blob_148 : decode cc_Mo_blob 148 = .ok (.iastore, 1) := by decide +kernel
theorem dd_Mo_blob_149 : decode cc_Mo_blob 149 = .ok (.aload_n 0, 1) := by decide +kernel
theorem dd_Mo_blob_150 : decode cc_Mo_blob 150 = .ok (.dup, 1) := by decide +kernel
theorem dd_Mo_blob_151 : decode cc_Mo_blob 151 = .ok (.getfield 65, 3) := by decide +kernel
theorem dd_Mo_blob_154 : decode cc_Mo_blob 154 = .ok (.iconst 1, 1) := by decide +kernel
theorem dd_Mo_blob_155 : decode cc_Mo_blob 155 = .ok (.iadd, 1) := by decide +kernel
theorem dd_Mo_blob_156 : decode cc_Mo_blob 156 = .ok (.putfield 65, 3) := by decide +kernel
theorem dd_Mo_blob_159 : decode cc_Mo_blob 159 = .ok (.aload_n 0, 1) := by decide +kernel
theorem dd_Mo_blob_160 : decode cc_Mo_blob 160 = .ok (.iload 4, 2) := by decide +kernel
theorem dd_Mo_blob_162 : decode cc_Mo_blob 162 = .ok (.iconst 5, 1) := by decide +kernel
theorem dd_Mo_blob_163 : decode cc_Mo_blob 163 = .ok (.iconst 2, 1) := by decide +kernel
theorem dd_Mo_blob_164 : decode cc_Mo_blob 164 = .ok (.invokevirtual 132, 3) := by decide +kernel
theorem dd_Mo_blob_167 : decode cc_Mo_blob 167 = .ok (.istore 6, 2) := by decide +kernel
theorem dd_Mo_blob_169 : decode cc_Mo_blob 169 = .ok (.aload_n 0, 1) := by decide +kernel
theorem dd_Mo_blob_170 : decode cc_Mo_blob 170 = .ok (.getfield 28, 3) := by decide +kernel
theorem dd_Mo_blob_173 : decode cc_Mo_blob 173 = .ok (.sipush 600, 3) := by decide +kernel
theorem dd_Mo_blob_176 : decode cc_Mo_blob 176 = .ok (.iload 4, 2) := by decide +kernel
theorem dd_Mo_blob_178 : decode cc_Mo_blob 178 = .ok (.imul, 1) := by decide +kernel
theorem dd_Mo_blob_179 : decode cc_Mo_blob 179 = .ok (.iload 6, 2) := by decide +kernel
theorem dd_Mo_blob_181 : decode cc_Mo_blob 181 = .ok (.iadd, 1) := by decide +kernel
theorem dd_Mo_blob_182 : decode cc_Mo_blob 182 = .ok (.iload 5, 2) := by decide +kernel
theorem dd_Mo_blob_184 : decode cc_Mo_blob 184 = .ok (.iastore, 1) := by decide +kernel
theorem dd_Mo_blob_185 : decode cc_Mo_blob 185 = .ok (.aload_n 0, 1) := by decide +kernel
theorem dd_Mo_blob_186 : decode cc_Mo_blob 186 = .ok (.getfield 28, 3) := by decide +kernel
theorem dd_Mo_blob_189 : decode cc_Mo_blob 189 = .ok (.sipush 600, 3) := by decide +kernel
theorem dd_Mo_blob_192 : decode cc_Mo_blob 192 = .ok (.iload 4, 2) := by decide +kernel
theorem dd_Mo_blob_194 : decode cc_Mo_blob 194 = .ok (.imul, 1) := by decide +kernel
theorem dd_Mo_blob_195 : decode cc_Mo_blob 195 = .ok (.iload 6, 2) := by decide +kernel
theorem dd_Mo_blob_197 : decode cc_Mo_blob 197 = .ok (.iadd, 1) := by decide +kernel
theorem dd_Mo_blob_198 : decode cc_Mo_blob 198 = .ok (.iconst 1, 1) := by decide +kernel
theorem dd_Mo_blob_199 : decode cc_Mo_blob 199 = .ok (.iadd, 1) := by decide +kernel
theorem dd_Mo_blob_200 : decode cc_Mo_blob 200 = .ok (.iconst 0, 1) := by decide +kernel
theorem dd_Mo_blob_201 : decode cc_Mo_blob 201 = .ok (.iastore, 1) := by decide +kernel
theorem dd_Mo_blob_202 : decode cc_Mo_blob 202 = .ok (.aload_n 0, 1) := by decide +kernel
theorem dd_Mo_blob_203 : decode cc_Mo_blob 203 = .ok (.getfield 19, 3) := by decide +kernel
theorem dd_Mo_blob_206 : decode cc_Mo_blob 206 = .ok (.iconst 4, 1) := by decide +kernel
theorem dd_Mo_blob_207 : decode cc_Mo_blob 207 = .ok (.iload 4, 2) := by decide +kernel
theorem dd_Mo_blob_209 : decode cc_Mo_blob 209 = .ok (.imul, 1) := by decide +kernel
theorem dd_Mo_blob_210 : decode cc_Mo_blob 210 = .ok (.iload_n 2, 1) := by decide +kernel
theorem dd_Mo_blob_211 : decode cc_Mo_blob 211 = .ok (.iadd, 1) := by decide +kernel
theorem dd_Mo_blob_212 : decode cc_Mo_blob 212 = .ok (.bipush 8, 2) := by decide +kernel
theorem dd_Mo_blob_214 : decode cc_Mo_blob 214 = .ok (.iload 6, 2) := by decide +kernel
theorem dd_Mo_blob_216 : decode cc_Mo_blob 216 = .ok (.imul, 1) := by decide +kernel
theorem dd_Mo_blob_217 : decode cc_Mo_blob 217 = .ok (.iconst 5, 1) := by decide +kernel
theorem dd_Mo_blob_218 : decode cc_Mo_blob 218 = .ok (.iadd, 1) := by decide +kernel
theorem dd_Mo_blob_219 : decode cc_Mo_blob 219 = .ok (.iastore, 1) := by decide +kernel
theorem dd_Mo_blob_220 : decode cc_Mo_blob 220 = .ok (.return_, 1) := by decide +kernel
theorem dd_Mo_part_0 : decode cc_Mo_part 0 = .ok (.aload_n 0, 1) := by decide +kernel
theorem dd_Mo_part_1 : decode cc_Mo_part 1 = .ok (.iload_n 1, 1) := by decide +kernel
theorem dd_Mo_part_2 : decode cc_Mo_part 2 = .ok (.invokevirtual 120, 3) := by decide +kernel
theorem dd_Mo_part_5 : decode cc_Mo_part 5 = .ok (.istore 5, 2) := by decide +kernel
theorem dd_Mo_part_7 : decode cc_Mo_part 7 = .ok (.aload_n 0, 1) := by decide +kernel
theorem dd_Mo_part_8 : decode cc_Mo_part 8 = .ok (.iload 5, 2) := by decide +kernel
theorem dd_Mo_part_10 : decode cc_Mo_part 10 = .ok (.ifCond .lt 19, 3) := by decide +kernel
theorem dd_Mo_part_13 : decode cc_Mo_part 13 = .ok (.aload_n 0, 1) := by decide +kernel
theorem dd_Mo_part_14 : decode cc_Mo_part 14 = .ok (.iload_n 2, 1) := by decide +kernel
theorem dd_Mo_part_15 : decode cc_Mo_part 15 = .ok (.invokevirtual 123, 3) := by decide +kernel
theorem dd_Mo_part_18 : decode cc_Mo_part 18 = .ok (.ifCond .ne 11, 3) := by decide +kernel
theorem dd_Mo_part_21 : decode cc_Mo_part 21 = .ok (.aload_n 0, 1) := by decide +kernel
theorem dd_Mo_part_22 : decode cc_Mo_part 22 = .ok (.iload_n 3, 1) := by decide +kernel
theorem dd_Mo_part_23 : decode cc_Mo_part 23 = .ok (.invokevirtual 123, 3) := by decide +kernel
theorem dd_Mo_part_26 : decode cc_Mo_part 26 = .ok (.ifCond .eq 7, 3) := by decide +kernel
theorem dd_Mo_part_29 : decode cc_Mo_part 29 = .ok (.iconst 1, 1) := by decide +kernel
theorem dd_Mo_part_30 : decode cc_Mo_part 30 = .ok (.goto 4, 3) := by decide +kernel
theorem dd_Mo_part_33 : decode cc_Mo_part 33 = .ok (.iconst 0, 1) := by decide +kernel
theorem dd_Mo_part_34 : decode cc_Mo_part 34 = .ok (.putfield 62, 3) := by decide +kernel
theorem dd_Mo_part_37 : decode cc_Mo_part 37 = .ok (.aload_n 0, 1) := by decide +kernel
theorem dd_Mo_part_38 : decode cc_Mo_part 38 = .ok (.getfield 62, 3) := by decide +kernel
theorem dd_Mo_part_41 : decode cc_Mo_part 41 = .ok (.ifCond .eq 4, 3) := by decide +kernel
theorem dd_Mo_part_44 : decode cc_Mo_part 44 = .ok (.return_, 1) := by decide +kernel
theorem dd_Mo_part_45 : decode cc_Mo_part 45 = .ok (.aload_n 0, 1) := by decide +kernel
theorem dd_Mo_part_46 : decode cc_Mo_part 46 = .ok (.getfield 19, 3) := by decide +kernel
theorem dd_Mo_part_49 : decode cc_Mo_part 49 = .ok (.iconst 4, 1) := by decide +kernel
theorem dd_Mo_part_50 : decode cc_Mo_part 50 = .ok (.iload 5, 2) := by decide +kernel
theorem dd_Mo_part_52 : decode cc_Mo_part 52 = .ok (.imul, 1) := by decide +kernel
theorem dd_Mo_part_53 : decode cc_Mo_part 53 = .ok (.iload_n 3, 1) := by decide +kernel
theorem dd_Mo_part_54 : decode cc_Mo_part 54 = .ok (.iadd, 1) := by decide +kernel
theorem dd_Mo_part_55 : decode cc_Mo_part 55 = .ok (.iaload, 1) := by decide +kernel
theorem dd_Mo_part_56 : decode cc_Mo_part 56 = .ok (.istore 6, 2) := by decide +kernel
theorem dd_Mo_part_58 : decode cc_Mo_part 58 = .ok (.aload_n 0, 1) := by decide +kernel
theorem dd_Mo_part_59 : decode cc_Mo_part 59 = .ok (.iload 4, 2) := by decide +kernel
theorem dd_Mo_part_61 : decode cc_Mo_part 61 = .ok (.ifCond .lt 16, 3) := by decide +kernel
theorem dd_Mo_part_64 : decode cc_Mo_part 64 = .ok (.iload 4, 2) := by decide +kernel
theorem dd_Mo_part_66 : decode cc_Mo_part 66 = .ok (.aload_n 0, 1) := by decide +kernel
theorem dd_Mo_part_67 : decode cc_Mo_part 67 = .ok (.iload 5, 2) := by decide +kernel
theorem dd_Mo_part_69 : decode cc_Mo_part 69 = .ok (.iload 6, 2) := by decide +kernel
theorem dd_Mo_part_71 : decode cc_Mo_part 71 = .ok (.invokevirtual 75, 3) := by decide +kernel
theorem dd_Mo_part_74 : decode cc_Mo_part 74 = .ok (.if_icmp .lt 7, 3) := by decide +kernel
theorem dd_Mo_part_77 : decode cc_Mo_part 77 = .ok (.iconst 2, 1) := by decide +kernel
theorem dd_Mo_part_78 : decode cc_Mo_part 78 = .ok (.goto 4, 3) := by decide +kernel
theorem dd_Mo_part_81 : decode cc_Mo_part 81 = .ok (.iconst 0, 1) := by decide +kernel
theorem dd_Mo_part_82 : decode cc_Mo_part 82 = .ok (.putfield 62, 3) := by decide +kernel
theorem dd_Mo_part_85 : decode cc_Mo_part 85 = .ok (.aload_n 0, 1) := by decide +kernel
theorem dd_Mo_part_86 : decode cc_Mo_part 86 = .ok (.getfield 62, 3) := by decide +kernel
theorem dd_Mo_part_89 : decode cc_Mo_part 89 = .ok (.ifCond .ne 24, 3) := by decide +kernel
theorem dd_Mo_part_92 : decode cc_Mo_part 92 = .ok (.aload_n 0, 1) := by decide +kernel
theorem dd_Mo_part_93 : decode cc_Mo_part 93 = .ok (.getfield 19, 3) := by decide +kernel
theorem dd_Mo_part_96 : decode cc_Mo_part 96 = .ok (.iconst 4, 1) := by decide +kernel
theorem dd_Mo_part_97 : decode cc_Mo_part 97 = .ok (.iload 5, 2) := by decide +kernel
theorem dd_Mo_part_99 : decode cc_Mo_part 99 = .ok (.imul, 1) := by decide +kernel
theorem dd_Mo_part_100 : decode cc_Mo_part 100 = .ok (.iload_n 2, 1) := by decide +kernel
theorem dd_Mo_part_101 : decode cc_Mo_part 101 = .ok (.iadd, 1) := by decide +kernel
theorem dd_Mo_part_102 : decode cc_Mo_part 102 = .ok (.aload_n 0, 1) := by decide +kernel
theorem dd_Mo_part_103 : decode cc_Mo_part 103 = .ok (.iload 5, 2) := by decide +kernel
theorem dd_Mo_part_105 : decode cc_Mo_part 105 = .ok (.iload 6, 2) := by decide +kernel
theorem dd_Mo_part_107 : decode cc_Mo_part 107 = .ok (.iload 4, 2) := by decide +kernel
theorem dd_Mo_part_109 : decode cc_Mo_part 109 = .ok (.invokevirtual 135, 3) := by decide +kernel
theorem dd_Mo_part_112 : decode cc_Mo_part 112 = .ok (.iastore, 1) := by decide +kernel
theorem dd_Mo_part_113 : decode cc_Mo_part 113 = .ok (.return_, 1) := by decide +kernel
theorem dd_Mo_partOf_0 : decode cc_Mo_partOf 0 = .ok (.aload_n 0, 1) := by decide +kernel
theorem dd_Mo_partOf_1 : decode cc_Mo_partOf 1 = .ok (.getfield 28, 3) := by decide +kernel
theorem dd_Mo_partOf_4 : decode cc_Mo_partOf 4 = .ok (.sipush 600, 3) := by decide +kernel
theorem dd_Mo_partOf_7 : decode cc_Mo_partOf 7 = .ok (.iload_n 1, 1) := by decide +kernel
theorem dd_Mo_partOf_8 : decode cc_Mo_partOf 8 = .ok (.imul, 1) := by decide +kernel
theorem dd_Mo_partOf_9 : decode cc_Mo_partOf 9 = .ok (.aload_n 0, 1) := by decide +kernel
theorem dd_Mo_partOf_10 : decode cc_Mo_partOf 10 = .ok (.iload_n 2, 1) := by decide +kernel
theorem dd_Mo_partOf_11 : decode cc_Mo_partOf 11 = .ok (.invokevirtual 72, 3) := by decide +kernel
theorem dd_Mo_partOf_14 : decode cc_Mo_partOf 14 = .ok (.iadd, 1) := by decide +kernel
theorem dd_Mo_partOf_15 : decode cc_Mo_partOf 15 = .ok (.aload_n 0, 1) := by decide +kernel
theorem dd_Mo_partOf_16 : decode cc_Mo_partOf 16 = .ok (.iload_n 2, 1) := by decide +kernel
theorem dd_Mo_partOf_17 : decode cc_Mo_partOf 17 = .ok (.invokevirtual 68, 3) := by decide +kernel
theorem dd_Mo_partOf_20 : decode cc_Mo_partOf 20 = .ok (.iconst 4, 1) := by decide +kernel
theorem dd_Mo_partOf_21 : decode cc_Mo_partOf 21 = .ok (.if_icmp .ne 7, 3) := by decide +kernel
theorem dd_Mo_partOf_24 : decode cc_Mo_partOf 24 = .ok (.iconst 1, 1) := by decide +kernel
theorem dd_Mo_partOf_25 : decode cc_Mo_partOf 25 = .ok (.goto 4, 3) := by decide +kernel
theorem dd_Mo_partOf_28 : decode cc_Mo_partOf 28 = .ok (.iconst 0, 1) := by decide +kernel
theorem dd_Mo_partOf_29 : decode cc_Mo_partOf 29 = .ok (.iadd, 1) := by decide +kernel
theorem dd_Mo_partOf_30 : decode cc_Mo_partOf 30 = .ok (.iload_n 3, 1) := by decide +kernel
theorem dd_Mo_partOf_31 : decode cc_Mo_partOf 31 = .ok (.iadd, 1) := by decide +kernel
theorem dd_Mo_partOf_32 : decode cc_Mo_partOf 32 = .ok (.iaload, 1) := by decide +kernel
theorem dd_Mo_partOf_33 : decode cc_Mo_partOf 33 = .ok (.ireturn, 1) := by decide +kernel
theorem dd_Mo_send_0 : decode cc_Mo_send 0 = .ok (.aload_n 0, 1) := by decide +kernel
theorem dd_Mo_send_1 : decode cc_Mo_send 1 = .ok (.iload_n 1, 1) := by decide +kernel
theorem dd_Mo_send_2 : decode cc_Mo_send 2 = .ok (.invokevirtual 120, 3) := by decide +kernel
theorem dd_Mo_send_5 : decode cc_Mo_send 5 = .ok (.istore 4, 2) := by decide +kernel
theorem dd_Mo_send_7 : decode cc_Mo_send 7 = .ok (.aload_n 0, 1) := by decide +kernel
theorem dd_Mo_send_8 : decode cc_Mo_send 8 = .ok (.iload 4, 2) := by decide +kernel
theorem dd_Mo_send_10 : decode cc_Mo_send 10 = .ok (.ifCond .lt 11, 3) := by decide +kernel
theorem dd_Mo_send_13 : decode cc_Mo_send 13 = .ok (.aload_n 0, 1) := by decide +kernel
theorem dd_Mo_send_14 : decode cc_Mo_send 14 = .ok (.iload_n 2, 1) := by decide +kernel
theorem dd_Mo_send_15 : decode cc_Mo_send 15 = .ok (.invokevirtual 123, 3) := by decide +kernel
theorem dd_Mo_send_18 : decode cc_Mo_send 18 = .ok (.ifCond .eq 7, 3) := by decide +kernel
theorem dd_Mo_send_21 : decode cc_Mo_send 21 = .ok (.iconst 1, 1) := by decide +kernel
theorem dd_Mo_send_22 : decode cc_Mo_send 22 = .ok (.goto 4, 3) := by decide +kernel
theorem dd_Mo_send_25 : decode cc_Mo_send 25 = .ok (.iconst 0, 1) := by decide +kernel
theorem dd_Mo_send_26 : decode cc_Mo_send 26 = .ok (.putfield 62, 3) := by decide +kernel
theorem dd_Mo_send_29 : decode cc_Mo_send 29 = .ok (.aload_n 0, 1) := by decide +kernel
theorem dd_Mo_send_30 : decode cc_Mo_send 30 = .ok (.iload_n 3, 1) := by decide +kernel
theorem dd_Mo_send_31 : decode cc_Mo_send 31 = .ok (.invokevirtual 120, 3) := by decide +kernel
theorem dd_Mo_send_34 : decode cc_Mo_send 34 = .ok (.istore 5, 2) := by decide +kernel
theorem dd_Mo_send_36 : decode cc_Mo_send 36 = .ok (.aload_n 0, 1) := by decide +kernel
theorem dd_Mo_send_37 : decode cc_Mo_send 37 = .ok (.getfield 62, 3) := by decide +kernel
theorem dd_Mo_send_40 : decode cc_Mo_send 40 = .ok (.ifCond .ne 8, 3) := by decide +kernel
theorem dd_Mo_send_43 : decode cc_Mo_send 43 = .ok (.iload 5, 2) := by decide +kernel
theorem dd_Mo_send_45 : decode cc_Mo_send 45 = .ok (.ifCond .ge 5, 3) := by decide +kernel
theorem dd_Mo_send_48 : decode cc_Mo_send 48 = .ok (.iconst 0, 1) := by decide +kernel
theorem dd_Mo_send_49 : decode cc_Mo_send 49 = .ok (.ireturn, 1) := by decide +kernel
theorem dd_Mo_send_50 : decode cc_Mo_send 50 = .ok (.iload 5, 2) := by decide +kernel
theorem dd_Mo_send_52 : decode cc_Mo_send 52 = .ok (.iload 4, 2) := by decide +kernel
theorem dd_Mo_send_54 : decode cc_Mo_send 54 = .ok (.if_icmp .ne 46, 3) := by decide +kernel
theorem dd_Mo_send_57 : decode cc_Mo_send 57 = .ok (.aload_n 0, 1) := by decide +kernel
theorem dd_Mo_send_58 : decode cc_Mo_send 58 = .ok (.getfield 25, 3) := by decide +kernel
theorem dd_Mo_send_61 : decode cc_Mo_send 61 = .ok (.sipush 520, 3) := by decide +kernel
theorem dd_Mo_send_64 : decode cc_Mo_send 64 = .ok (.iload 4, 2) := by decide +kernel
theorem dd_Mo_send_66 : decode cc_Mo_send 66 = .ok (.imul, 1) := by decide +kernel
theorem dd_Mo_send_67 : decode cc_Mo_send 67 = .ok (.aload_n 0, 1) := by decide +kernel
theorem dd_Mo_send_68 : decode cc_Mo_send 68 = .ok (.getfield 22, 3) := by decide +kernel
theorem dd_Mo_send_71 : decode cc_Mo_send 71 = .ok (.iload 4, 2) := by decide +kernel
theorem dd_Mo_send_73 : decode cc_Mo_send 73 = .ok (.iaload, 1) := by decide +kernel
theorem dd_Mo_send_74 : decode cc_Mo_send 74 = .ok (.iadd, 1) := by decide +kernel
theorem dd_Mo_send_75 : decode cc_Mo_send 75 = .ok (.aload_n 0, 1) := by decide +kernel
theorem dd_Mo_send_76 : decode cc_Mo_send 76 = .ok (.getfield 19, 3) := by decide +kernel
theorem dd_Mo_send_79 : decode cc_Mo_send 79 = .ok (.iconst 4, 1) := by decide +kernel
theorem dd_Mo_send_80 : decode cc_Mo_send 80 = .ok (.iload 4, 2) := by decide +kernel
theorem dd_Mo_send_82 : decode cc_Mo_send 82 = .ok (.imul, 1) := by decide +kernel
theorem dd_Mo_send_83 : decode cc_Mo_send 83 = .ok (.iload_n 2, 1) := by decide +kernel
theorem dd_Mo_send_84 : decode cc_Mo_send 84 = .ok (.iadd, 1) := by decide +kernel
theorem dd_Mo_send_85 : decode cc_Mo_send 85 = .ok (.iaload, 1) := by decide +kernel
theorem dd_Mo_send_86 : decode cc_Mo_send 86 = .ok (.iastore, 1) := by decide +kernel
theorem dd_Mo_send_87 : decode cc_Mo_send 87 = .ok (.aload_n 0, 1) := by decide +kernel
theorem dd_Mo_send_88 : decode cc_Mo_send 88 = .ok (.getfield 22, 3) := by decide +kernel
theorem dd_Mo_send_91 : decode cc_Mo_send 91 = .ok (.iload 4, 2) := by decide +kernel
theorem dd_Mo_send_93 : decode cc_Mo_send 93 = .ok (.dup2, 1) := by decide +kernel
theorem dd_Mo_send_94 : decode cc_Mo_send 94 = .ok (.iaload, 1) := by decide +kernel
theorem dd_Mo_send_95 : decode cc_Mo_send 95 = .ok (.iconst 1, 1) := by decide +kernel
theorem dd_Mo_send_96 : decode cc_Mo_send 96 = .ok (.iadd, 1) := by decide +kernel
theorem dd_Mo_send_97 : decode cc_Mo_send 97 = .ok (.iastore, 1) := by decide +kernel
theorem dd_Mo_send_98 : decode cc_Mo_send 98 = .ok (.iconst 1, 1) := by decide +kernel
theorem dd_Mo_send_99 : decode cc_Mo_send 99 = .ok (.ireturn, 1) := by decide +kernel
theorem dd_Mo_send_100 : decode cc_Mo_send 100 = .ok (.aload_n 0, 1) := by decide +kernel
theorem dd_Mo_send_101 : decode cc_Mo_send 101 = .ok (.aload_n 0, 1) := by decide +kernel
theorem dd_Mo_send_102 : decode cc_Mo_send 102 = .ok (.iload 4, 2) := by decide +kernel
theorem dd_Mo_send_104 : decode cc_Mo_send 104 = .ok (.aload_n 0, 1) := by decide +kernel
theorem dd_Mo_send_105 : decode cc_Mo_send 105 = .ok (.getfield 19, 3) := by decide +kernel
theorem dd_Mo_send_108 : decode cc_Mo_send 108 = .ok (.iconst 4, 1) := by decide +kernel
theorem dd_Mo_send_109 : decode cc_Mo_send 109 = .ok (.iload 4, 2) := by decide +kernel
theorem dd_Mo_send_111 : decode cc_Mo_send 111 = .ok (.imul, 1) := by decide +kernel
theorem dd_Mo_send_112 : decode cc_Mo_send 112 = .ok (.iload_n 2, 1) := by decide +kernel
theorem dd_Mo_send_113 : decode cc_Mo_send 113 = .ok (.iadd, 1) := by decide +kernel
theorem dd_Mo_send_114 : decode cc_Mo_send 114 = .ok (.iaload, 1) := by decide +kernel
theorem dd_Mo_send_115 : decode cc_Mo_send 115 = .ok (.iload 5, 2) := by decide +kernel
theorem dd_Mo_send_117 : decode cc_Mo_send 117 = .ok (.invokevirtual 141, 3) := by decide +kernel
theorem dd_Mo_send_120 : decode cc_Mo_send 120 = .ok (.ifCond .eq 7, 3) := by decide +kernel
theorem dd_Mo_send_123 : decode cc_Mo_send 123 = .ok (.iconst 0, 1) := by decide +kernel
theorem dd_Mo_send_124 : decode cc_Mo_send 124 = .ok (.goto 4, 3) := by decide +kernel
theorem dd_Mo_send_127 : decode cc_Mo_send 127 = .ok (.iconst 2, 1) := by decide +kernel
theorem dd_Mo_send_128 : decode cc_Mo_send 128 = .ok (.putfield 62, 3) := by decide +kernel
theorem dd_Mo_send_131 : decode cc_Mo_send 131 = .ok (.aload_n 0, 1) := by decide +kernel
theorem dd_Mo_send_132 : decode cc_Mo_send 132 = .ok (.getfield 62, 3) := by decide +kernel
theorem dd_Mo_send_135 : decode cc_Mo_send 135 = .ok (.ifCond .ne 7, 3) := by decide +kernel
theorem dd_Mo_send_138 : decode cc_Mo_send 138 = .ok (.iconst 1, 1) := by decide +kernel
theorem dd_Mo_send_139 : decode cc_Mo_send 139 = .ok (.goto 4, 3) := by decide +kernel
theorem dd_Mo_send_142 : decode cc_Mo_send 142 = .ok (.iconst 0, 1) := by decide +kernel
theorem dd_Mo_send_143 : decode cc_Mo_send 143 = .ok (.ireturn, 1) := by decide +kernel
theorem dd_Mo_pass_0 : decode cc_Mo_pass 0 = .ok (.aload_n 0, 1) := by decide +kernel
theorem dd_Mo_pass_1 : decode cc_Mo_pass 1 = .ok (.iload_n 3, 1) := by decide +kernel
theorem dd_Mo_pass_2 : decode cc_Mo_pass 2 = .ok (.aload_n 0, 1) := by decide +kernel
theorem dd_Mo_pass_3 : decode cc_Mo_pass 3 = .ok (.iload_n 1, 1) := by decide +kernel
theorem dd_Mo_pass_4 : decode cc_Mo_pass 4 = .ok (.iload_n 2, 1) := by decide +kernel
theorem dd_Mo_pass_5 : decode cc_Mo_pass 5 = .ok (.invokevirtual 138, 3) := by decide +kernel
theorem dd_Mo_pass_8 : decode cc_Mo_pass 8 = .ok (.invokevirtual 128, 3) := by decide +kernel
theorem dd_Mo_pass_11 : decode cc_Mo_pass 11 = .ok (.ifCond .ne 5, 3) := by decide +kernel
theorem dd_Mo_pass_14 : decode cc_Mo_pass 14 = .ok (.iconst 0, 1) := by decide +kernel
theorem dd_Mo_pass_15 : decode cc_Mo_pass 15 = .ok (.ireturn, 1) := by decide +kernel
theorem dd_Mo_pass_16 : decode cc_Mo_pass 16 = .ok (.aload_n 0, 1) := by decide +kernel
theorem dd_Mo_pass_17 : decode cc_Mo_pass 17 = .ok (.invokevirtual 96, 3) := by decide +kernel
theorem dd_Mo_pass_20 : decode cc_Mo_pass 20 = .ok (.aload_n 0, 1) := by decide +kernel
theorem dd_Mo_pass_21 : decode cc_Mo_pass 21 = .ok (.getfield 16, 3) := by decide +kernel
theorem dd_Mo_pass_24 : decode cc_Mo_pass 24 = .ok (.iload_n 3, 1) := by decide +kernel
theorem dd_Mo_pass_25 : decode cc_Mo_pass 25 = .ok (.iaload, 1) := by decide +kernel
theorem dd_Mo_pass_26 : decode cc_Mo_pass 26 = .ok (.istore 4, 2) := by decide +kernel
theorem dd_Mo_pass_28 : decode cc_Mo_pass 28 = .ok (.aload_n 0, 1) := by decide +kernel
theorem dd_Mo_pass_29 : decode cc_Mo_pass 29 = .ok (.iload_n 1, 1) := by decide +kernel
theorem dd_Mo_pass_30 : decode cc_Mo_pass 30 = .ok (.iload_n 2, 1) := by decide +kernel
theorem dd_Mo_pass_31 : decode cc_Mo_pass 31 = .ok (.iload 4, 2) := by decide +kernel
theorem dd_Mo_pass_33 : decode cc_Mo_pass 33 = .ok (.invokevirtual 89, 3) := by decide +kernel
theorem dd_Mo_pass_36 : decode cc_Mo_pass 36 = .ok (.istore 5, 2) := by decide +kernel
theorem dd_Mo_pass_38 : decode cc_Mo_pass 38 = .ok (.aload_n 0, 1) := by decide +kernel
theorem dd_Mo_pass_39 : decode cc_Mo_pass 39 = .ok (.iload_n 1, 1) := by decide +kernel
theorem dd_Mo_pass_40 : decode cc_Mo_pass 40 = .ok (.iload 4, 2) := by decide +kernel
theorem dd_Mo_pass_42 : decode cc_Mo_pass 42 = .ok (.invokevirtual 99, 3) := by decide +kernel
theorem dd_Mo_pass_45 : decode cc_Mo_pass 45 = .ok (.iconst 0, 1) := by decide +kernel
theorem dd_Mo_pass_46 : decode cc_Mo_pass 46 = .ok (.istore 6, 2) := by decide +kernel
theorem dd_Mo_pass_48 : decode cc_Mo_pass 48 = .ok (.iload 6, 2) := by decide +kernel
theorem dd_Mo_pass_50 : decode cc_Mo_pass 50 = .ok (.aload_n 0, 1) := by decide +kernel
theorem dd_Mo_pass_51 : decode cc_Mo_pass 51 = .ok (.getfield 79, 3) := by decide +kernel
theorem dd_Mo_pass_54 : decode cc_Mo_pass 54 = .ok (.if_icmp .ge 82, 3) := by decide +kernel
theorem dd_Mo_pass_57 : decode cc_Mo_pass 57 = .ok (.aload_n 0, 1) := by decide +kernel
theorem dd_Mo_pass_58 : decode cc_Mo_pass 58 = .ok (.getfield 28, 3) := by decide +kernel
theorem dd_Mo_pass_61 : decode cc_Mo_pass 61 = .ok (.sipush 600, 3) := by decide +kernel
theorem dd_Mo_pass_64 : decode cc_Mo_pass 64 = .ok (.iload_n 3, 1) := by decide +kernel
theorem dd_Mo_pass_65 : decode cc_Mo_pass 65 = .ok (.imul, 1) := by decide +kernel
theorem dd_Mo_pass_66 : decode cc_Mo_pass 66 = .ok (.iload 4, 2) := by decide +kernel
theorem dd_Mo_pass_68 : decode cc_Mo_pass 68 = .ok (.iadd, 1) := by decide +kernel
theorem dd_Mo_pass_69 : decode cc_Mo_pass 69 = .ok (.iload 6, 2) := by decide +kernel
theorem dd_Mo_pass_71 : decode cc_Mo_pass 71 = .ok (.iadd, 1) := by decide +kernel
theorem dd_Mo_pass_72 : decode cc_Mo_pass 72 = .ok (.aload_n 0, 1) := by decide +kernel
theorem dd_Mo_pass_73 : decode cc_Mo_pass 73 = .ok (.getfield 40, 3) := by decide +kernel
theorem dd_Mo_pass_76 : decode cc_Mo_pass 76 = .ok (.iload 6, 2) := by decide +kernel
theorem dd_Mo_pass_78 : decode cc_Mo_pass 78 = .ok (.iaload, 1) := by decide +kernel
theorem dd_Mo_pass_79 : decode cc_Mo_pass 79 = .ok (.iastore, 1) := by decide +kernel
theorem dd_Mo_pass_80 : decode cc_Mo_pass 80 = .ok (.aload_n 0, 1) := by decide +kernel
theorem dd_Mo_pass_81 : decode cc_Mo_pass 81 = .ok (.getfield 31, 3) := by decide +kernel
theorem dd_Mo_pass_84 : decode cc_Mo_pass 84 = .ok (.sipush 600, 3) := by decide +kernel
theorem dd_Mo_pass_87 : decode cc_Mo_pass 87 = .ok (.iload_n 3, 1) := by decide +kernel
theorem dd_Mo_pass_88 : decode cc_Mo_pass 88 = .ok (.imul, 1) := by decide +kernel
theorem dd_Mo_pass_89 : decode cc_Mo_pass 89 = .ok (.iload 4, 2) := by decide +kernel
theorem dd_Mo_pass_91 : decode cc_Mo_pass 91 = .ok (.iadd, 1) := by decide +kernel
theorem dd_Mo_pass_92 : decode cc_Mo_pass 92 = .ok (.iload 6, 2) := by decide +kernel
theorem dd_Mo_pass_94 : decode cc_Mo_pass 94 = .ok (.iadd, 1) := by decide +kernel
theorem dd_Mo_pass_95 : decode cc_Mo_pass 95 = .ok (.aload_n 0, 1) := by decide +kernel
theorem dd_Mo_pass_96 : decode cc_Mo_pass 96 = .ok (.getfield 43, 3) := by decide +kernel
theorem dd_Mo_pass_99 : decode cc_Mo_pass 99 = .ok (.iload 6, 2) := by decide +kernel
theorem dd_Mo_pass_101 : decode cc_Mo_pass 101 = .ok (.iaload, 1) := by decide +kernel
theorem dd_Mo_pass_102 : decode cc_Mo_pass 102 = .ok (.iastore, 1) := by decide +kernel
theorem dd_Mo_pass_103 : decode cc_Mo_pass 103 = .ok (.aload_n 0, 1) := by decide +kernel
theorem dd_Mo_pass_104 : decode cc_Mo_pass 104 = .ok (.getfield 43, 3) := by decide +kernel
theorem dd_Mo_pass_107 : decode cc_Mo_pass 107 = .ok (.iload 6, 2) := by decide +kernel
theorem dd_Mo_pass_109 : decode cc_Mo_pass 109 = .ok (.iaload, 1) := by decide +kernel
theorem dd_Mo_pass_110 : decode cc_Mo_pass 110 = .ok (.iconst 5, 1) := by decide +kernel
theorem dd_Mo_pass_111 : decode cc_Mo_pass 111 = .ok (.if_icmp .ne 19, 3) := by decide +kernel
theorem dd_Mo_pass_114 : decode cc_Mo_pass 114 = .ok (.aload_n 0, 1) := by decide +kernel
theorem dd_Mo_pass_115 : decode cc_Mo_pass 115 = .ok (.getfield 37, 3) := by decide +kernel
theorem dd_Mo_pass_118 : decode cc_Mo_pass 118 = .ok (.aload_n 0, 1) := by decide +kernel
theorem dd_Mo_pass_119 : decode cc_Mo_pass 119 = .ok (.getfield 40, 3) := by decide +kernel
theorem dd_Mo_pass_122 : decode cc_Mo_pass 122 = .ok (.iload 6, 2) := by decide +kernel
theorem dd_Mo_pass_124 : decode cc_Mo_pass 124 = .ok (.iaload, 1) := by decide +kernel
theorem dd_Mo_pass_125 : decode cc_Mo_pass 125 = .ok (.dup2, 1) := by decide +kernel
theorem dd_Mo_pass_126 : decode cc_Mo_pass 126 = .ok (.iaload, 1) := by decide +kernel
theorem dd_Mo_pass_127 : decode cc_Mo_pass 127 = .ok (.iconst 1, 1) := by decide +kernel
theorem dd_Mo_pass_128 : decode cc_Mo_pass 128 = .ok (.iadd, 1) := by decide +kernel
theorem dd_Mo_pass_129 : decode cc_Mo_pass 129 = .ok (.iastore, 1) := by decide +kernel
theorem dd_Mo_pass_130 : decode cc_Mo_pass 130 = .ok (.iinc 6 1, 3) := by decide +kernel
theorem dd_Mo_pass_133 : decode cc_Mo_pass 133 = .ok (.goto (-85), 3) := by decide +kernel
theorem dd_Mo_pass_136 : decode cc_Mo_pass 136 = .ok (.aload_n 0, 1) := by decide +kernel
theorem dd_Mo_pass_137 : decode cc_Mo_pass 137 = .ok (.getfield 16, 3) := by decide +kernel
theorem dd_Mo_pass_140 : decode cc_Mo_pass 140 = .ok (.iload_n 3, 1) := by decide +kernel
theorem dd_Mo_pass_141 : decode cc_Mo_pass 141 = .ok (.dup2, 1) := by decide +kernel
theorem dd_Mo_pass_142 : decode cc_Mo_pass 142 = .ok (.iaload, 1) := by decide +kernel
theorem dd_Mo_pass_143 : decode cc_Mo_pass 143 = .ok (.aload_n 0, 1) := by decide +kernel
theorem dd_Mo_pass_144 : decode cc_Mo_pass 144 = .ok (.getfield 79, 3) := by decide +kernel
theorem dd_Mo_pass_147 : decode cc_Mo_pass 147 = .ok (.iadd, 1) := by decide +kernel
theorem dd_Mo_pass_148 : decode cc_Mo_pass 148 = .ok (.iastore, 1) := by decide +kernel
theorem dd_Mo_pass_149 : decode cc_Mo_pass 149 = .ok (.aload_n 0, 1) := by decide +kernel
theorem dd_Mo_pass_150 : decode cc_Mo_pass 150 = .ok (.getfield 25, 3) := by decide +kernel
theorem dd_Mo_pass_153 : decode cc_Mo_pass 153 = .ok (.sipush 520, 3) := by decide +kernel
theorem dd_Mo_pass_156 : decode cc_Mo_pass 156 = .ok (.iload_n 3, 1) := by decide +kernel
theorem dd_Mo_pass_157 : decode cc_Mo_pass 157 = .ok (.imul, 1) := by decide +kernel
theorem dd_Mo_pass_158 : decode cc_Mo_pass 158 = .ok (.aload_n 0, 1) := by decide +kernel
theorem dd_Mo_pass_159 : decode cc_Mo_pass 159 = .ok (.getfield 22, 3) := by decide +kernel
theorem dd_Mo_pass_162 : decode cc_Mo_pass 162 = .ok (.iload_n 3, 1) := by decide +kernel
theorem dd_Mo_pass_163 : decode cc_Mo_pass 163 = .ok (.iaload, 1) := by decide +kernel
theorem dd_Mo_pass_164 : decode cc_Mo_pass 164 = .ok (.iadd, 1) := by decide +kernel
theorem dd_Mo_pass_165 : decode cc_Mo_pass 165 = .ok (.iload 5, 2) := by decide +kernel
theorem dd_Mo_pass_167 : decode cc_Mo_pass 167 = .ok (.iastore, 1) := by decide +kernel
theorem dd_Mo_pass_168 : decode cc_Mo_pass 168 = .ok (.aload_n 0, 1) := by decide +kernel
theorem dd_Mo_pass_169 : decode cc_Mo_pass 169 = .ok (.getfield 22, 3) := by decide +kernel
theorem dd_Mo_pass_172 : decode cc_Mo_pass 172 = .ok (.iload_n 3, 1) := by decide +kernel
theorem dd_Mo_pass_173 : decode cc_Mo_pass 173 = .ok (.dup2, 1) := by decide +kernel
theorem dd_Mo_pass_174 : decode cc_Mo_pass 174 = .ok (.iaload, 1) := by decide +kernel
theorem dd_Mo_pass_175 : decode cc_Mo_pass 175 = .ok (.iconst 1, 1) := by decide +kernel
theorem dd_Mo_pass_176 : decode cc_Mo_pass 176 = .ok (.iadd, 1) := by decide +kernel
theorem dd_Mo_pass_177 : decode cc_Mo_pass 177 = .ok (.iastore, 1) := by decide +kernel
theorem dd_Mo_pass_178 : decode cc_Mo_pass 178 = .ok (.iconst 1, 1) := by decide +kernel
theorem dd_Mo_pass_179 : decode cc_Mo_pass 179 = .ok (.ireturn, 1) := by decide +kernel
theorem dd_Mo_reach_0 : decode cc_Mo_reach 0 = .ok (.aload_n 0, 1) := by decide +kernel
theorem dd_Mo_reach_1 : decode cc_Mo_reach 1 = .ok (.invokevirtual 96, 3) := by decide +kernel
theorem dd_Mo_reach_4 : decode cc_Mo_reach 4 = .ok (.aload_n 0, 1) := by decide +kernel
theorem dd_Mo_reach_5 : decode cc_Mo_reach 5 = .ok (.iload_n 1, 1) := by decide +kernel
theorem dd_Mo_reach_6 : decode cc_Mo_reach 6 = .ok (.iload_n 2, 1) := by decide +kernel
theorem dd_Mo_reach_7 : decode cc_Mo_reach 7 = .ok (.iconst 0, 1) := by decide +kernel
theorem dd_Mo_reach_8 : decode cc_Mo_reach 8 = .ok (.invokevirtual 89, 3) := by decide +kernel
theorem dd_Mo_reach_11 : decode cc_Mo_reach 11 = .ok (.istore_n 3, 1) := by decide +kernel
theorem dd_Mo_reach_12 : decode cc_Mo_reach 12 = .ok (.aload_n 0, 1) := by decide +kernel
theorem dd_Mo_reach_13 : decode cc_Mo_reach 13 = .ok (.iload_n 1, 1) := by decide +kernel
theorem dd_Mo_reach_14 : decode cc_Mo_reach 14 = .ok (.iconst 0, 1) := by decide +kernel
theorem dd_Mo_reach_15 : decode cc_Mo_reach 15 = .ok (.invokevirtual 99, 3) := by decide +kernel
theorem dd_Mo_reach_18 : decode cc_Mo_reach 18 = .ok (.aload_n 0, 1) := by decide +kernel
theorem dd_Mo_reach_19 : decode cc_Mo_reach 19 = .ok (.getfield 79, 3) := by decide +kernel
theorem dd_Mo_reach_22 : decode cc_Mo_reach 22 = .ok (.ireturn, 1) := by decide +kernel
theorem dd_Mo_broadcast_0 : decode cc_Mo_broadcast 0 = .ok (.aload_n 0, 1) := by decide +kernel
theorem dd_Mo_broadcast_1 : decode cc_Mo_broadcast 1 = .ok (.iload_n 1, 1) := by decide +kernel
theorem dd_Mo_broadcast_2 : decode cc_Mo_broadcast 2 = .ok (.invokevirtual 120, 3) := by decide +kernel
theorem dd_Mo_broadcast_5 : decode cc_Mo_broadcast 5 = .ok (.istore_n 3, 1) := by decide +kernel
theorem dd_Mo_broadcast_6 : decode cc_Mo_broadcast 6 = .ok (.aload_n 0, 1) := by decide +kernel
theorem dd_Mo_broadcast_7 : decode cc_Mo_broadcast 7 = .ok (.iload_n 3, 1) := by decide +kernel
theorem dd_Mo_broadcast_8 : decode cc_Mo_broadcast 8 = .ok (.ifCond .lt 11, 3) := by decide +kernel
theorem dd_Mo_broadcast_11 : decode cc_Mo_broadcast 11 = .ok (.aload_n 0, 1) := by decide +kernel
theorem dd_Mo_broadcast_12 : decode cc_Mo_broadcast 12 = .ok (.iload_n 2, 1) := by decide +kernel
theorem dd_Mo_broadcast_13 : decode cc_Mo_broadcast 13 = .ok (.invokevirtual 123, 3) := by decide +kernel
theorem dd_Mo_broadcast_16 : decode cc_Mo_broadcast 16 = .ok (.ifCond .eq 7, 3) := by decide +kernel
theorem dd_Mo_broadcast_19 : decode cc_Mo_broadcast 19 = .ok (.iconst 1, 1) := by decide +kernel
theorem dd_Mo_broadcast_20 : decode cc_Mo_broadcast 20 = .ok (.goto 4, 3) := by decide +kernel
theorem dd_Mo_broadcast_23 : decode cc_Mo_broadcast 23 = .ok (.iconst 0, 1) := by decide +kernel
theorem dd_Mo_broadcast_24 : decode cc_Mo_broadcast 24 = .ok (.putfield 62, 3) := by decide +kernel
theorem dd_Mo_broadcast_27 : decode cc_Mo_broadcast 27 = .ok (.iconst 0, 1) := by decide +kernel
theorem dd_Mo_broadcast_28 : decode cc_Mo_broadcast 28 = .ok (.istore 4, 2) := by decide +kernel
theorem dd_Mo_broadcast_30 : decode cc_Mo_broadcast 30 = .ok (.iconst 0, 1) := by decide +kernel
theorem dd_Mo_broadcast_31 : decode cc_Mo_broadcast 31 = .ok (.istore 5, 2) := by decide +kernel
theorem dd_Mo_broadcast_33 : decode cc_Mo_broadcast 33 = .ok (.aload_n 0, 1) := by decide +kernel
theorem dd_Mo_broadcast_34 : decode cc_Mo_broadcast 34 = .ok (.getfield 62, 3) := by decide +kernel
theorem dd_Mo_broadcast_37 : decode cc_Mo_broadcast 37 = .ok (.ifCond .ne 121, 3) := by decide +kernel
theorem dd_Mo_broadcast_40 : decode cc_Mo_broadcast 40 = .ok (.iconst (-1), 1) := by decide +kernel
theorem dd_Mo_broadcast_41 : decode cc_Mo_broadcast 41 = .ok (.istore 6, 2) := by decide +kernel
theorem dd_Mo_broadcast_43 : decode cc_Mo_broadcast 43 = .ok (.iconst 0, 1) := by decide +kernel
theorem dd_Mo_broadcast_44 : decode cc_Mo_broadcast 44 = .ok (.istore 7, 2) := by decide +kernel
theorem dd_Mo_broadcast_46 : decode cc_Mo_broadcast 46 = .ok (.iload 7, 2) := by decide +kernel
theorem dd_Mo_broadcast_48 : decode cc_Mo_broadcast 48 = .ok (.bipush 8, 2) := by decide +kernel
theorem dd_Mo_broadcast_50 : decode cc_Mo_broadcast 50 = .ok (.if_icmp .ge 52, 3) := by decide +kernel
theorem dd_Mo_broadcast_53 : decode cc_Mo_broadcast 53 = .ok (.aload_n 0, 1) := by decide +kernel
theorem dd_Mo_broadcast_54 : decode cc_Mo_broadcast 54 = .ok (.getfield 7, 3) := by decide +kernel
theorem dd_Mo_broadcast_57 : decode cc_Mo_broadcast 57 = .ok (.iload 7, 2) := by decide +kernel
theorem dd_Mo_broadcast_59 : decode cc_Mo_broadcast 59 = .ok (.iaload, 1) := by decide +kernel
theorem dd_Mo_broadcast_60 : decode cc_Mo_broadcast 60 = .ok (.iload 5, 2) := by decide +kernel
theorem dd_Mo_broadcast_62 : decode cc_Mo_broadcast 62 = .ok (.if_icmp .le 30, 3) := by decide +kernel
theorem dd_Mo_broadcast_65 : decode cc_Mo_broadcast 65 = .ok (.iload 6, 2) := by decide +kernel
theorem dd_Mo_broadcast_67 : decode cc_Mo_broadcast 67 = .ok (.ifCond .lt 20, 3) := by decide +kernel
theorem dd_Mo_broadcast_70 : decode cc_Mo_broadcast 70 = .ok (.aload_n 0, 1) := by decide +kernel
theorem dd_Mo_broadcast_71 : decode cc_Mo_broadcast 71 = .ok (.getfield 7, 3) := by decide +kernel
theorem dd_Mo_broadcast_74 : decode cc_Mo_broadcast 74 = .ok (.iload 7, 2) := by decide +kernel
theorem dd_Mo_broadcast_76 : decode cc_Mo_broadcast 76 = .ok (.iaload, 1) := by decide +kernel
theorem dd_Mo_broadcast_77 : decode cc_Mo_broadcast 77 = .ok (.aload_n 0, 1) := by decide +kernel
theorem dd_Mo_broadcast_78 : decode cc_Mo_broadcast 78 = .ok (.getfield 7, 3) := by decide +kernel
theorem dd_Mo_broadcast_81 : decode cc_Mo_broadcast 81 = .ok (.iload 6, 2) := by decide +kernel
theorem dd_Mo_broadcast_83 : decode cc_Mo_broadcast 83 = .ok (.iaload, 1) := by decide +kernel
theorem dd_Mo_broadcast_84 : decode cc_Mo_broadcast 84 = .ok (.if_icmp .ge 8, 3) := by decide +kernel
theorem dd_Mo_broadcast_87 : decode cc_Mo_broadcast 87 = .ok (.iload 7, 2) := by decide +kernel
theorem dd_Mo_broadcast_89 : decode cc_Mo_broadcast 89 = .ok (.goto 5, 3) := by decide +kernel
theorem dd_Mo_broadcast_92 : decode cc_Mo_broadcast 92 = .ok (.iload 6, 2) := by decide +kernel
theorem dd_Mo_broadcast_94 : decode cc_Mo_broadcast 94 = .ok (.istore 6, 2) := by decide +kernel
theorem dd_Mo_broadcast_96 : decode cc_Mo_broadcast 96 = .ok (.iinc 7 1, 3) := by decide +kernel
theorem dd_Mo_broadcast_99 : decode cc_Mo_broadcast 99 = .ok (.goto (-53), 3) := by decide +kernel
theorem dd_Mo_broadcast_102 : decode cc_Mo_broadcast 102 = .ok (.iload 6, 2) := by decide +kernel
theorem dd_Mo_broadcast_104 : decode cc_Mo_broadcast 104 = .ok (.ifCond .ge 6, 3) := by decide +kernel
theorem dd_Mo_broadcast_107 : decode cc_Mo_broadcast 107 = .ok (.iload 4, 2) := by decide +kernel
theorem dd_Mo_broadcast_109 : decode cc_Mo_broadcast 109 = .ok (.ireturn, 1) := by decide +kernel
theorem dd_Mo_broadcast_110 : decode cc_Mo_broadcast 110 = .ok (.aload_n 0, 1) := by decide +kernel
theorem dd_Mo_broadcast_111 : decode cc_Mo_broadcast 111 = .ok (.getfield 7, 3) := by decide +kernel
theorem dd_Mo_broadcast_114 : decode cc_Mo_broadcast 114 = .ok (.iload 6, 2) := by decide +kernel
theorem dd_Mo_broadcast_116 : decode cc_Mo_broadcast 116 = .ok (.iaload, 1) := by decide +kernel
theorem dd_Mo_broadcast_117 : decode cc_Mo_broadcast 117 = .ok (.istore 5, 2) := by decide +kernel
theorem dd_Mo_broadcast_119 : decode cc_Mo_broadcast 119 = .ok (.iload 4, 2) := by decide +kernel
theorem dd_Mo_broadcast_121 : decode cc_Mo_broadcast 121 = .ok (.iload 6, 2) := by decide +kernel
theorem dd_Mo_broadcast_123 : decode cc_Mo_broadcast 123 = .ok (.iload_n 3, 1) := by decide +kernel
theorem dd_Mo_broadcast_124 : decode cc_Mo_broadcast 124 = .ok (.if_icmp .eq 27, 3) := by decide +kernel
theorem dd_Mo_broadcast_127 : decode cc_Mo_broadcast 127 = .ok (.aload_n 0, 1) := by decide +kernel
theorem dd_Mo_broadcast_128 : decode cc_Mo_broadcast 128 = .ok (.iload_n 3, 1) := by decide +kernel
theorem dd_Mo_broadcast_129 : decode cc_Mo_broadcast 129 = .ok (.aload_n 0, 1) := by decide +kernel
theorem dd_Mo_broadcast_130 : decode cc_Mo_broadcast 130 = .ok (.getfield 19, 3) := by decide +kernel
theorem dd_Mo_broadcast_133 : decode cc_Mo_broadcast 133 = .ok (.iconst 4, 1) := by decide +kernel
theorem dd_Mo_broadcast_134 : decode cc_Mo_broadcast 134 = .ok (.iload_n 3, 1) := by decide +kernel
theorem dd_Mo_broadcast_135 : decode cc_Mo_broadcast 135 = .ok (.imul, 1) := by decide +kernel
theorem dd_Mo_broadcast_136 : decode cc_Mo_broadcast 136 = .ok (.iload_n 2, 1) := by decide +kernel
theorem dd_Mo_broadcast_137 : decode cc_Mo_broadcast 137 = .ok (.iadd, 1) := by decide +kernel
theorem dd_Mo_broadcast_138 : decode cc_Mo_broadcast 138 = .ok (.iaload, 1) := by decide +kernel
theorem dd_Mo_broadcast_139 : decode cc_Mo_broadcast 139 = .ok (.iload 6, 2) := by decide +kernel
theorem dd_Mo_broadcast_141 : decode cc_Mo_broadcast 141 = .ok (.invokevirtual 141, 3) := by decide +kernel
theorem dd_Mo_broadcast_144 : decode cc_Mo_broadcast 144 = .ok (.ifCond .eq 7, 3) := by decide +kernel
theorem dd_Mo_broadcast_147 : decode cc_Mo_broadcast 147 = .ok (.iconst 1, 1) := by decide +kernel
theorem dd_Mo_broadcast_148 : decode cc_Mo_broadcast 148 = .ok (.goto 4, 3) := by decide +kernel
theorem dd_Mo_broadcast_151 : decode cc_Mo_broadcast 151 = .ok (.iconst 0, 1) := by decide +kernel
theorem dd_Mo_broadcast_152 : decode cc_Mo_broadcast 152 = .ok (.iadd, 1) := by decide +kernel
theorem dd_Mo_broadcast_153 : decode cc_Mo_broadcast 153 = .ok (.istore 4, 2) := by decide +kernel
theorem dd_Mo_broadcast_155 : decode cc_Mo_broadcast 155 = .ok (.goto (-122), 3) := by decide +kernel
theorem dd_Mo_broadcast_158 : decode cc_Mo_broadcast 158 = .ok (.iconst 0, 1) := by decide +kernel
theorem dd_Mo_broadcast_159 : decode cc_Mo_broadcast 159 = .ok (.ireturn, 1) := by decide +kernel
theorem dd_Mo_receive_0 : decode cc_Mo_receive 0 = .ok (.aload_n 0, 1) := by decide +kernel
theorem dd_Mo_receive_1 : decode cc_Mo_receive 1 = .ok (.iload_n 1, 1) := by decide +kernel
theorem dd_Mo_receive_2 : decode cc_Mo_receive 2 = .ok (.invokevirtual 120, 3) := by decide +kernel
theorem dd_Mo_receive_5 : decode cc_Mo_receive 5 = .ok (.istore_n 3, 1) := by decide +kernel
theorem dd_Mo_receive_6 : decode cc_Mo_receive 6 = .ok (.aload_n 0, 1) := by decide +kernel
theorem dd_Mo_receive_7 : decode cc_Mo_receive 7 = .ok (.iload_n 3, 1) := by decide +kernel
theorem dd_Mo_receive_8 : decode cc_Mo_receive 8 = .ok (.ifCond .lt 11, 3) := by decide +kernel
theorem dd_Mo_receive_11 : decode cc_Mo_receive 11 = .ok (.aload_n 0, 1) := by decide +kernel
theorem dd_Mo_receive_12 : decode cc_Mo_receive 12 = .ok (.iload_n 2, 1) := by decide +kernel
theorem dd_Mo_receive_13 : decode cc_Mo_receive 13 = .ok (.invokevirtual 123, 3) := by decide +kernel
theorem dd_Mo_receive_16 : decode cc_Mo_receive 16 = .ok (.ifCond .eq 7, 3) := by decide +kernel
theorem dd_Mo_receive_19 : decode cc_Mo_receive 19 = .ok (.iconst 1, 1) := by decide +kernel
theorem dd_Mo_receive_20 : decode cc_Mo_receive 20 = .ok (.goto 17, 3) := by decide +kernel
theorem dd_Mo_receive_23 : decode cc_Mo_receive 23 = .ok (.aload_n 0, 1) := by decide +kernel
theorem dd_Mo_receive_24 : decode cc_Mo_receive 24 = .ok (.getfield 22, 3) := by decide +kernel
theorem dd_Mo_receive_27 : decode cc_Mo_receive 27 = .ok (.iload_n 3, 1) := by decide +kernel
theorem dd_Mo_receive_28 : decode cc_Mo_receive 28 = .ok (.iaload, 1) := by decide +kernel
theorem dd_Mo_receive_29 : decode cc_Mo_receive 29 = .ok (.ifCond .ne 7, 3) := by decide +kernel
theorem dd_Mo_receive_32 : decode cc_Mo_receive 32 = .ok (.iconst 2, 1) := by decide +kernel
theorem dd_Mo_receive_33 : decode cc_Mo_receive 33 = .ok (.goto 4, 3) := by decide +kernel
theorem dd_Mo_receive_36 : decode cc_Mo_receive 36 = .ok (.iconst 0, 1) := by decide +kernel
theorem dd_Mo_receive_37 : decode cc_Mo_receive 37 = .ok (.putfield 62, 3) := by decide +kernel
theorem dd_Mo_receive_40 : decode cc_Mo_receive 40 = .ok (.aload_n 0, 1) := by decide +kernel
theorem dd_Mo_receive_41 : decode cc_Mo_receive 41 = .ok (.getfield 62, 3) := by decide +kernel
theorem dd_Mo_receive_44 : decode cc_Mo_receive 44 = .ok (.ifCond .eq 5, 3) := by decide +kernel
theorem dd_Mo_receive_47 : decode cc_Mo_receive 47 = .ok (.iconst 0, 1) := by decide +kernel
theorem dd_Mo_receive_48 : decode cc_Mo_receive 48 = .ok (.ireturn, 1) := by decide +kernel
theorem dd_Mo_receive_49 : decode cc_Mo_receive 49 = .ok (.aload_n 0, 1) := by decide +kernel
theorem dd_Mo_receive_50 : decode cc_Mo_receive 50 = .ok (.getfield 19, 3) := by decide +kernel
theorem dd_Mo_receive_53 : decode cc_Mo_receive 53 = .ok (.iconst 4, 1) := by decide +kernel
theorem dd_Mo_receive_54 : decode cc_Mo_receive 54 = .ok (.iload_n 3, 1) := by decide +kernel
theorem dd_Mo_receive_55 : decode cc_Mo_receive 55 = .ok (.imul, 1) := by decide +kernel
theorem dd_Mo_receive_56 : decode cc_Mo_receive 56 = .ok (.iload_n 2, 1) := by decide +kernel
theorem dd_Mo_receive_57 : decode cc_Mo_receive 57 = .ok (.iadd, 1) := by decide +kernel
theorem dd_Mo_receive_58 : decode cc_Mo_receive 58 = .ok (.aload_n 0, 1) := by decide +kernel
theorem dd_Mo_receive_59 : decode cc_Mo_receive 59 = .ok (.getfield 25, 3) := by decide +kernel
theorem dd_Mo_receive_62 : decode cc_Mo_receive 62 = .ok (.sipush 520, 3) := by decide +kernel
theorem dd_Mo_receive_65 : decode cc_Mo_receive 65 = .ok (.iload_n 3, 1) := by decide +kernel
theorem dd_Mo_receive_66 : decode cc_Mo_receive 66 = .ok (.imul, 1) := by decide +kernel
theorem dd_Mo_receive_67 : decode cc_Mo_receive 67 = .ok (.iaload, 1) := by decide +kernel
theorem dd_Mo_receive_68 : decode cc_Mo_receive 68 = .ok (.iastore, 1) := by decide +kernel
theorem dd_Mo_receive_69 : decode cc_Mo_receive 69 = .ok (.aload_n 0, 1) := by decide +kernel
theorem dd_Mo_receive_70 : decode cc_Mo_receive 70 = .ok (.getfield 22, 3) := by decide +kernel
theorem dd_Mo_receive_73 : decode cc_Mo_receive 73 = .ok (.iload_n 3, 1) := by decide +kernel
theorem dd_Mo_receive_74 : decode cc_Mo_receive 74 = .ok (.dup2, 1) := by decide +kernel
theorem dd_Mo_receive_75 : decode cc_Mo_receive 75 = .ok (.iaload, 1) := by decide +kernel
theorem dd_Mo_receive_76 : decode cc_Mo_receive 76 = .ok (.iconst 1, 1) := by decide +kernel
theorem dd_Mo_receive_77 : decode cc_Mo_receive 77 = .ok (.isub, 1) := by decide +kernel
theorem dd_Mo_receive_78 : decode cc_Mo_receive 78 = .ok (.iastore, 1) := by decide +kernel
theorem dd_Mo_receive_79 : decode cc_Mo_receive 79 = .ok (.iconst 0, 1) := by decide +kernel
theorem dd_Mo_receive_80 : decode cc_Mo_receive 80 = .ok (.istore 4, 2) := by decide +kernel
theorem dd_Mo_receive_82 : decode cc_Mo_receive 82 = .ok (.iload 4, 2) := by decide +kernel
theorem dd_Mo_receive_84 : decode cc_Mo_receive 84 = .ok (.aload_n 0, 1) := by decide +kernel
theorem dd_Mo_receive_85 : decode cc_Mo_receive 85 = .ok (.getfield 22, 3) := by decide +kernel
theorem dd_Mo_receive_88 : decode cc_Mo_receive 88 = .ok (.iload_n 3, 1) := by decide +kernel
theorem dd_Mo_receive_89 : decode cc_Mo_receive 89 = .ok (.iaload, 1) := by decide +kernel
theorem dd_Mo_receive_90 : decode cc_Mo_receive 90 = .ok (.if_icmp .ge 37, 3) := by decide +kernel
theorem dd_Mo_receive_93 : decode cc_Mo_receive 93 = .ok (.aload_n 0, 1) := by decide +kernel
theorem dd_Mo_receive_94 : decode cc_Mo_receive 94 = .ok (.getfield 25, 3) := by decide +kernel
theorem dd_Mo_receive_97 : decode cc_Mo_receive 97 = .ok (.sipush 520, 3) := by decide +kernel
theorem dd_Mo_receive_100 : decode cc_Mo_receive 100 = .ok (.iload_n 3, 1) := by decide +kernel
theorem dd_Mo_receive_101 : decode cc_Mo_receive 101 = .ok (.imul, 1) := by decide +kernel
theorem dd_Mo_receive_102 : decode cc_Mo_receive 102 = .ok (.iload 4, 2) := by decide +kernel
theorem dd_Mo_receive_104 : decode cc_Mo_receive 104 = .ok (.iadd, 1) := by decide +kernel
theorem dd_Mo_receive_105 : decode cc_Mo_receive 105 = .ok (.aload_n 0, 1) := by decide +kernel
theorem dd_Mo_receive_106 : decode cc_Mo_receive 106 = .ok (.getfield 25, 3) := by decide +kernel
theorem dd_Mo_receive_109 : decode cc_Mo_receive 109 = .ok (.sipush 520, 3) := by decide +kernel
theorem dd_Mo_receive_112 : decode cc_Mo_receive 112 = .ok (.iload_n 3, 1) := by decide +kernel
theorem dd_Mo_receive_113 : decode cc_Mo_receive 113 = .ok (.imul, 1) := by decide +kernel
theorem dd_Mo_receive_114 : decode cc_Mo_receive 114 = .ok (.iload 4, 2) := by decide +kernel
theorem dd_Mo_receive_116 : decode cc_Mo_receive 116 = .ok (.iadd, 1) := by decide +kernel
theorem dd_Mo_receive_117 : decode cc_Mo_receive 117 = .ok (.iconst 1, 1) := by decide +kernel
theorem dd_Mo_receive_118 : decode cc_Mo_receive 118 = .ok (.iadd, 1) := by decide +kernel
theorem dd_Mo_receive_119 : decode cc_Mo_receive 119 = .ok (.iaload, 1) := by decide +kernel
theorem dd_Mo_receive_120 : decode cc_Mo_receive 120 = .ok (.iastore, 1) := by decide +kernel
theorem dd_Mo_receive_121 : decode cc_Mo_receive 121 = .ok (.iinc 4 1, 3) := by decide +kernel
theorem dd_Mo_receive_124 : decode cc_Mo_receive 124 = .ok (.goto (-42), 3) := by decide +kernel
theorem dd_Mo_receive_127 : decode cc_Mo_receive 127 = .ok (.aload_n 0, 1) := by decide +kernel
theorem dd_Mo_receive_128 : decode cc_Mo_receive 128 = .ok (.getfield 22, 3) := by decide +kernel
theorem dd_Mo_receive_131 : decode cc_Mo_receive 131 = .ok (.iload_n 3, 1) := by decide +kernel
theorem dd_Mo_receive_132 : decode cc_Mo_receive 132 = .ok (.iaload, 1) := by decide +kernel
theorem dd_Mo_receive_133 : decode cc_Mo_receive 133 = .ok (.ireturn, 1) := by decide +kernel
theorem dd_Mo_collect_0 : decode cc_Mo_collect 0 = .ok (.aload_n 0, 1) := by decide +kernel
theorem dd_Mo_collect_1 : decode cc_Mo_collect 1 = .ok (.iload_n 1, 1) := by decide +kernel
theorem dd_Mo_collect_2 : decode cc_Mo_collect 2 = .ok (.invokevirtual 120, 3) := by decide +kernel
theorem dd_Mo_collect_5 : decode cc_Mo_collect 5 = .ok (.istore_n 2, 1) := by decide +kernel
theorem dd_Mo_collect_6 : decode cc_Mo_collect 6 = .ok (.aload_n 0, 1) := by decide +kernel
theorem dd_Mo_collect_7 : decode cc_Mo_collect 7 = .ok (.iload_n 2, 1) := by decide +kernel
theorem dd_Mo_collect_8 : decode cc_Mo_collect 8 = .ok (.ifCond .ge 7, 3) := by decide +kernel
theorem dd_Mo_collect_11 : decode cc_Mo_collect 11 = .ok (.iconst 1, 1) := by decide +kernel
theorem dd_Mo_collect_12 : decode cc_Mo_collect 12 = .ok (.goto 4, 3) := by decide +kernel
theorem dd_Mo_collect_15 : decode cc_Mo_collect 15 = .ok (.iconst 0, 1) := by decide +kernel
theorem dd_Mo_collect_16 : decode cc_Mo_collect 16 = .ok (.putfield 62, 3) := by decide +kernel
theorem dd_Mo_collect_19 : decode cc_Mo_collect 19 = .ok (.aload_n 0, 1) := by decide +kernel
theorem dd_Mo_collect_20 : decode cc_Mo_collect 20 = .ok (.getfield 62, 3) := by decide +kernel
theorem dd_Mo_collect_23 : decode cc_Mo_collect 23 = .ok (.ifCond .eq 5, 3) := by decide +kernel
theorem dd_Mo_collect_26 : decode cc_Mo_collect 26 = .ok (.iconst 0, 1) := by decide +kernel
theorem dd_Mo_collect_27 : decode cc_Mo_collect 27 = .ok (.ireturn, 1) := by decide +kernel
theorem dd_Mo_collect_28 : decode cc_Mo_collect 28 = .ok (.aload_n 0, 1) := by decide +kernel
theorem dd_Mo_collect_29 : decode cc_Mo_collect 29 = .ok (.getfield 16, 3) := by decide +kernel
theorem dd_Mo_collect_32 : decode cc_Mo_collect 32 = .ok (.iload_n 2, 1) := by decide +kernel
theorem dd_Mo_collect_33 : decode cc_Mo_collect 33 = .ok (.iaload, 1) := by decide +kernel
theorem dd_Mo_collect_34 : decode cc_Mo_collect 34 = .ok (.istore_n 3, 1) := by decide +kernel
theorem dd_Mo_collect_35 : decode cc_Mo_collect 35 = .ok (.aload_n 0, 1) := by decide +kernel
theorem dd_Mo_collect_36 : decode cc_Mo_collect 36 = .ok (.iload_n 2, 1) := by decide +kernel
theorem dd_Mo_collect_37 : decode cc_Mo_collect 37 = .ok (.invokevirtual 107, 3) := by decide +kernel
theorem dd_Mo_collect_40 : decode cc_Mo_collect 40 = .ok (.iload_n 3, 1) := by decide +kernel
theorem dd_Mo_collect_41 : decode cc_Mo_collect 41 = .ok (.aload_n 0, 1) := by decide +kernel
theorem dd_Mo_collect_42 : decode cc_Mo_collect 42 = .ok (.getfield 16, 3) := by decide +kernel
theorem dd_Mo_collect_45 : decode cc_Mo_collect 45 = .ok (.iload_n 2, 1) := by decide +kernel
theorem dd_Mo_collect_46 : decode cc_Mo_collect 46 = .ok (.iaload, 1) := by decide +kernel
theorem dd_Mo_collect_47 : decode cc_Mo_collect 47 = .ok (.isub, 1) := by decide +kernel
theorem dd_Mo_collect_48 : decode cc_Mo_collect 48 = .ok (.ireturn, 1) := by decide +kernel
theorem dd_Mo_trim_0 : decode cc_Mo_trim 0 = .ok (.aload_n 0, 1) := by decide +kernel
theorem dd_Mo_trim_1 : decode cc_Mo_trim 1 = .ok (.iload_n 1, 1) := by decide +kernel
theorem dd_Mo_trim_2 : decode cc_Mo_trim 2 = .ok (.invokevirtual 120, 3) := by decide +kernel
theorem dd_Mo_trim_5 : decode cc_Mo_trim 5 = .ok (.istore_n 2, 1) := by decide +kernel
theorem dd_Mo_trim_6 : decode cc_Mo_trim 6 = .ok (.aload_n 0, 1) := by decide +kernel
theorem dd_Mo_trim_7 : decode cc_Mo_trim 7 = .ok (.iload_n 2, 1) := by decide +kernel
theorem dd_Mo_trim_8 : decode cc_Mo_trim 8 = .ok (.ifCond .ge 7, 3) := by decide +kernel
theorem dd_Mo_trim_11 : decode cc_Mo_trim 11 = .ok (.iconst 1, 1) := by decide +kernel
theorem dd_Mo_trim_12 : decode cc_Mo_trim 12 = .ok (.goto 4, 3) := by decide +kernel
theorem dd_Mo_trim_15 : decode cc_Mo_trim 15 = .ok (.iconst 0, 1) := by decide +kernel
theorem dd_Mo_trim_16 : decode cc_Mo_trim 16 = .ok (.putfield 62, 3) := by decide +kernel
theorem dd_Mo_trim_19 : decode cc_Mo_trim 19 = .ok (.aload_n 0, 1) := by decide +kernel
theorem dd_Mo_trim_20 : decode cc_Mo_trim 20 = .ok (.getfield 62, 3) := by decide +kernel
theorem dd_Mo_trim_23 : decode cc_Mo_trim 23 = .ok (.ifCond .eq 5, 3) := by decide +kernel
theorem dd_Mo_trim_26 : decode cc_Mo_trim 26 = .ok (.iconst 0, 1) := by decide +kernel
theorem dd_Mo_trim_27 : decode cc_Mo_trim 27 = .ok (.ireturn, 1) := by decide +kernel
theorem dd_Mo_trim_28 : decode cc_Mo_trim 28 = .ok (.aload_n 0, 1) := by decide +kernel
theorem dd_Mo_trim_29 : decode cc_Mo_trim 29 = .ok (.iload_n 2, 1) := by decide +kernel
theorem dd_Mo_trim_30 : decode cc_Mo_trim 30 = .ok (.invokevirtual 107, 3) := by decide +kernel
theorem dd_Mo_trim_33 : decode cc_Mo_trim 33 = .ok (.aload_n 0, 1) := by decide +kernel
theorem dd_Mo_trim_34 : decode cc_Mo_trim 34 = .ok (.getfield 13, 3) := by decide +kernel
theorem dd_Mo_trim_37 : decode cc_Mo_trim 37 = .ok (.iload_n 2, 1) := by decide +kernel
theorem dd_Mo_trim_38 : decode cc_Mo_trim 38 = .ok (.aload_n 0, 1) := by decide +kernel
theorem dd_Mo_trim_39 : decode cc_Mo_trim 39 = .ok (.getfield 16, 3) := by decide +kernel
theorem dd_Mo_trim_42 : decode cc_Mo_trim 42 = .ok (.iload_n 2, 1) := by decide +kernel
theorem dd_Mo_trim_43 : decode cc_Mo_trim 43 = .ok (.iaload, 1) := by decide +kernel
theorem dd_Mo_trim_44 : decode cc_Mo_trim 44 = .ok (.ifCond .ne 8, 3) := by decide +kernel
theorem dd_Mo_trim_47 : decode cc_Mo_trim 47 = .ok (.bipush 8, 2) := by decide +kernel
theorem dd_Mo_trim_49 : decode cc_Mo_trim 49 = .ok (.goto 18, 3) := by decide +kernel
theorem dd_Mo_trim_52 : decode cc_Mo_trim 52 = .ok (.aload_n 0, 1) := by decide +kernel
theorem dd_Mo_trim_53 : decode cc_Mo_trim 53 = .ok (.getfield 16, 3) := by decide +kernel
theorem dd_Mo_trim_56 : decode cc_Mo_trim 56 = .ok (.iload_n 2, 1) := by decide +kernel
theorem dd_Mo_trim_57 : decode cc_Mo_trim 57 = .ok (.iaload, 1) := by decide +kernel
theorem dd_Mo_trim_58 : decode cc_Mo_trim 58 = .ok (.bipush 7, 2) := by decide +kernel
theorem dd_Mo_trim_60 : decode cc_Mo_trim 60 = .ok (.iadd, 1) := by decide +kernel
theorem dd_Mo_trim_61 : decode cc_Mo_trim 61 = .ok (.bipush 8, 2) := by decide +kernel
theorem dd_Mo_trim_63 : decode cc_Mo_trim 63 = .ok (.idiv, 1) := by decide +kernel
theorem dd_Mo_trim_64 : decode cc_Mo_trim 64 = .ok (.bipush 8, 2) := by decide +kernel
theorem dd_Mo_trim_66 : decode cc_Mo_trim 66 = .ok (.imul, 1) := by decide +kernel
theorem dd_Mo_trim_67 : decode cc_Mo_trim 67 = .ok (.iastore, 1) := by decide +kernel
theorem dd_Mo_trim_68 : decode cc_Mo_trim 68 = .ok (.aload_n 0, 1) := by decide +kernel
theorem dd_Mo_trim_69 : decode cc_Mo_trim 69 = .ok (.getfield 13, 3) := by decide +kernel
theorem dd_Mo_trim_72 : decode cc_Mo_trim 72 = .ok (.iload_n 2, 1) := by decide +kernel
theorem dd_Mo_trim_73 : decode cc_Mo_trim 73 = .ok (.iaload, 1) := by decide +kernel
theorem dd_Mo_trim_74 : decode cc_Mo_trim 74 = .ok (.ireturn, 1) := by decide +kernel
theorem dd_Mo_count_0 : decode cc_Mo_count 0 = .ok (.aload_n 0, 1) := by decide +kernel
theorem dd_Mo_count_1 : decode cc_Mo_count 1 = .ok (.iload_n 1, 1) := by decide +kernel
theorem dd_Mo_count_2 : decode cc_Mo_count 2 = .ok (.ifCond .lt 8, 3) := by decide +kernel
theorem dd_Mo_count_5 : decode cc_Mo_count 5 = .ok (.iload_n 1, 1) := by decide +kernel
theorem dd_Mo_count_6 : decode cc_Mo_count 6 = .ok (.iconst 4, 1) := by decide +kernel
theorem dd_Mo_count_7 : decode cc_Mo_count 7 = .ok (.if_icmp .le 7, 3) := by decide +kernel
theorem dd_Mo_count_10 : decode cc_Mo_count 10 = .ok (.iconst 1, 1) := by decide +kernel
theorem dd_Mo_count_11 : decode cc_Mo_count 11 = .ok (.goto 4, 3) := by decide +kernel
theorem dd_Mo_count_14 : decode cc_Mo_count 14 = .ok (.iconst 0, 1) := by decide +kernel
theorem dd_Mo_count_15 : decode cc_Mo_count 15 = .ok (.putfield 62, 3) := by decide +kernel
theorem dd_Mo_count_18 : decode cc_Mo_count 18 = .ok (.aload_n 0, 1) := by decide +kernel
theorem dd_Mo_count_19 : decode cc_Mo_count 19 = .ok (.getfield 62, 3) := by decide +kernel
theorem dd_Mo_count_22 : decode cc_Mo_count 22 = .ok (.ifCond .eq 7, 3) := by decide +kernel
theorem dd_Mo_count_25 : decode cc_Mo_count 25 = .ok (.iconst 0, 1) := by decide +kernel
theorem dd_Mo_count_26 : decode cc_Mo_count 26 = .ok (.goto 54, 3) := by decide +kernel
theorem dd_Mo_count_29 : decode cc_Mo_count 29 = .ok (.iload_n 1, 1) := by decide +kernel
theorem dd_Mo_count_30 : decode cc_Mo_count 30 = .ok (.ifCond .ne 10, 3) := by decide +kernel
theorem dd_Mo_count_33 : decode cc_Mo_count 33 = .ok (.aload_n 0, 1) := by decide +kernel
theorem dd_Mo_count_34 : decode cc_Mo_count 34 = .ok (.getfield 114, 3) := by decide +kernel
theorem dd_Mo_count_37 : decode cc_Mo_count 37 = .ok (.goto 43, 3) := by decide +kernel
theorem dd_Mo_count_40 : decode cc_Mo_count 40 = .ok (.iload_n 1, 1) := by decide +kernel
theorem dd_Mo_count_41 : decode cc_Mo_count 41 = .ok (.iconst 1, 1) := by decide +kernel
theorem dd_Mo_count_42 : decode cc_Mo_count 42 = .ok (.if_icmp .ne 10, 3) := by decide +kernel
theorem dd_Mo_count_45 : decode cc_Mo_count 45 = .ok (.aload_n 0, 1) := by decide +kernel
theorem dd_Mo_count_46 : decode cc_Mo_count 46 = .ok (.invokevirtual 110, 3) := by decide +kernel
theorem dd_Mo_count_49 : decode cc_Mo_count 49 = .ok (.goto 31, 3) := by decide +kernel
theorem dd_Mo_count_52 : decode cc_Mo_count 52 = .ok (.iload_n 1, 1) := by decide +kernel
theorem dd_Mo_count_53 : decode cc_Mo_count 53 = .ok (.iconst 2, 1) := by decide +kernel
theorem dd_Mo_count_54 : decode cc_Mo_count 54 = .ok (.if_icmp .ne 10, 3) := by decide +kernel
theorem dd_Mo_count_57 : decode cc_Mo_count 57 = .ok (.aload_n 0, 1) := by decide +kernel
theorem dd_Mo_count_58 : decode cc_Mo_count 58 = .ok (.getfield 65, 3) := by decide +kernel
theorem dd_Mo_count_61 : decode cc_Mo_count 61 = .ok (.goto 19, 3) := by decide +kernel
theorem dd_Mo_count_64 : decode cc_Mo_count 64 = .ok (.iload_n 1, 1) := by decide +kernel
theorem dd_Mo_count_65 : decode cc_Mo_count 65 = .ok (.iconst 3, 1) := by decide +kernel
theorem dd_Mo_count_66 : decode cc_Mo_count 66 = .ok (.if_icmp .ne 10, 3) := by decide +kernel
theorem dd_Mo_count_69 : decode cc_Mo_count 69 = .ok (.aload_n 0, 1) := by decide +kernel
theorem dd_Mo_count_70 : decode cc_Mo_count 70 = .ok (.getfield 117, 3) := by decide +kernel
theorem dd_Mo_count_73 : decode cc_Mo_count 73 = .ok (.goto 7, 3) := by decide +kernel
theorem dd_Mo_count_76 : decode cc_Mo_count 76 = .ok (.aload_n 0, 1) := by decide +kernel
theorem dd_Mo_count_77 : decode cc_Mo_count 77 = .ok (.getfield 93, 3) := by decide +kernel
theorem dd_Mo_count_80 : decode cc_Mo_count 80 = .ok (.ireturn, 1) := by decide +kernel
theorem dd_Mo_of_0 : decode cc_Mo_of 0 = .ok (.aload_n 0, 1) := by decide +kernel
theorem dd_Mo_of_1 : decode cc_Mo_of 1 = .ok (.iload_n 1, 1) := by decide +kernel
theorem dd_Mo_of_2 : decode cc_Mo_of 2 = .ok (.invokevirtual 120, 3) := by decide +kernel
theorem dd_Mo_of_5 : decode cc_Mo_of 5 = .ok (.istore_n 3, 1) := by decide +kernel
theorem dd_Mo_of_6 : decode cc_Mo_of 6 = .ok (.aload_n 0, 1) := by decide +kernel
theorem dd_Mo_of_7 : decode cc_Mo_of 7 = .ok (.iload_n 3, 1) := by decide +kernel
theorem dd_Mo_of_8 : decode cc_Mo_of 8 = .ok (.ifCond .ge 7, 3) := by decide +kernel
theorem dd_Mo_of_11 : decode cc_Mo_of 11 = .ok (.iconst 1, 1) := by decide +kernel
theorem dd_Mo_of_12 : decode cc_Mo_of 12 = .ok (.goto 17, 3) := by decide +kernel
theorem dd_Mo_of_15 : decode cc_Mo_of 15 = .ok (.iload_n 2, 1) := by decide +kernel
theorem dd_Mo_of_16 : decode cc_Mo_of 16 = .ok (.ifCond .lt 8, 3) := by decide +kernel
theorem dd_Mo_of_19 : decode cc_Mo_of 19 = .ok (.iload_n 2, 1) := by decide +kernel
theorem dd_Mo_of_20 : decode cc_Mo_of 20 = .ok (.iconst 2, 1) := by decide +kernel
theorem dd_Mo_of_21 : decode cc_Mo_of 21 = .ok (.if_icmp .le 7, 3) := by decide +kernel
theorem dd_Mo_of_24 : decode cc_Mo_of 24 = .ok (.iconst 2, 1) := by decide +kernel
theorem dd_Mo_of_25 : decode cc_Mo_of 25 = .ok (.goto 4, 3) := by decide +kernel
theorem dd_Mo_of_28 : decode cc_Mo_of 28 = .ok (.iconst 0, 1) := by decide +kernel
theorem dd_Mo_of_29 : decode cc_Mo_of 29 = .ok (.putfield 62, 3) := by decide +kernel
theorem dd_Mo_of_32 : decode cc_Mo_of 32 = .ok (.aload_n 0, 1) := by decide +kernel
theorem dd_Mo_of_33 : decode cc_Mo_of 33 = .ok (.getfield 62, 3) := by decide +kernel
theorem dd_Mo_of_36 : decode cc_Mo_of 36 = .ok (.ifCond .eq 7, 3) := by decide +kernel
theorem dd_Mo_of_39 : decode cc_Mo_of 39 = .ok (.iconst 0, 1) := by decide +kernel
theorem dd_Mo_of_40 : decode cc_Mo_of 40 = .ok (.goto 36, 3) := by decide +kernel
theorem dd_Mo_of_43 : decode cc_Mo_of 43 = .ok (.iload_n 2, 1) := by decide +kernel
theorem dd_Mo_of_44 : decode cc_Mo_of 44 = .ok (.ifCond .ne 12, 3) := by decide +kernel
theorem dd_Mo_of_47 : decode cc_Mo_of 47 = .ok (.aload_n 0, 1) := by decide +kernel
theorem dd_Mo_of_48 : decode cc_Mo_of 48 = .ok (.getfield 13, 3) := by decide +kernel
theorem dd_Mo_of_51 : decode cc_Mo_of 51 = .ok (.iload_n 3, 1) := by decide +kernel
theorem dd_Mo_of_52 : decode cc_Mo_of 52 = .ok (.iaload, 1) := by decide +kernel
theorem dd_Mo_of_53 : decode cc_Mo_of 53 = .ok (.goto 23, 3) := by decide +kernel
theorem dd_Mo_of_56 : decode cc_Mo_of 56 = .ok (.iload_n 2, 1) := by decide +kernel
theorem dd_Mo_of_57 : decode cc_Mo_of 57 = .ok (.iconst 1, 1) := by decide +kernel
theorem dd_Mo_of_58 : decode cc_Mo_of 58 = .ok (.if_icmp .ne 12, 3) := by decide +kernel
theorem dd_Mo_of_61 : decode cc_Mo_of 61 = .ok (.aload_n 0, 1) := by decide +kernel
theorem dd_Mo_of_62 : decode cc_Mo_of 62 = .ok (.getfield 16, 3) := by decide +kernel
theorem dd_Mo_of_65 : decode cc_Mo_of 65 = .ok (.iload_n 3, 1) := by decide +kernel
theorem dd_Mo_of_66 : decode cc_Mo_of 66 = .ok (.iaload, 1) := by decide +kernel
theorem dd_Mo_of_67 : decode cc_Mo_of 67 = .ok (.goto 9, 3) := by decide +kernel
theorem dd_Mo_of_70 : decode cc_Mo_of 70 = .ok (.aload_n 0, 1) := by decide +kernel
theorem dd_Mo_of_71 : decode cc_Mo_of 71 = .ok (.getfield 22, 3) := by decide +kernel
theorem dd_Mo_of_74 : decode cc_Mo_of 74 = .ok (.iload_n 3, 1) := by decide +kernel
theorem dd_Mo_of_75 : decode cc_Mo_of 75 = .ok (.iaload, 1) := by decide +kernel
theorem dd_Mo_of_76 : decode cc_Mo_of 76 = .ok (.ireturn, 1) := by decide +kernel
theorem dd_Mo_kind_0 : decode cc_Mo_kind 0 = .ok (.aload_n 0, 1) := by decide +kernel
theorem dd_Mo_kind_1 : decode cc_Mo_kind 1 = .ok (.aload_n 0, 1) := by decide +kernel
theorem dd_Mo_kind_2 : decode cc_Mo_kind 2 = .ok (.iload_n 1, 1) := by decide +kernel
theorem dd_Mo_kind_3 : decode cc_Mo_kind 3 = .ok (.iload_n 2, 1) := by decide +kernel
theorem dd_Mo_kind_4 : decode cc_Mo_kind 4 = .ok (.invokevirtual 145, 3) := by decide +kernel
theorem dd_Mo_kind_7 : decode cc_Mo_kind 7 = .ok (.invokevirtual 68, 3) := by decide +kernel
theorem dd_Mo_kind_10 : decode cc_Mo_kind 10 = .ok (.ireturn, 1) := by decide +kernel
theorem dd_Mo_termOf_0 : decode cc_Mo_termOf 0 = .ok (.aload_n 0, 1) := by decide +kernel
theorem dd_Mo_termOf_1 : decode cc_Mo_termOf 1 = .ok (.iload_n 1, 1) := by decide +kernel
theorem dd_Mo_termOf_2 : decode cc_Mo_termOf 2 = .ok (.invokevirtual 120, 3) := by decide +kernel
theorem dd_Mo_termOf_5 : decode cc_Mo_termOf 5 = .ok (.istore_n 3, 1) := by decide +kernel
theorem dd_Mo_termOf_6 : decode cc_Mo_termOf 6 = .ok (.aload_n 0, 1) := by decide +kernel
theorem dd_Mo_termOf_7 : decode cc_Mo_termOf 7 = .ok (.iload_n 3, 1) := by decide +kernel
theorem dd_Mo_termOf_8 : decode cc_Mo_termOf 8 = .ok (.ifCond .lt 11, 3) := by decide +kernel
theorem dd_Mo_termOf_11 : decode cc_Mo_termOf 11 = .ok (.aload_n 0, 1) := by decide +kernel
theorem dd_Mo_termOf_12 : decode cc_Mo_termOf 12 = .ok (.iload_n 2, 1) := by decide +kernel
theorem dd_Mo_termOf_13 : decode cc_Mo_termOf 13 = .ok (.invokevirtual 123, 3) := by decide +kernel
theorem dd_Mo_termOf_16 : decode cc_Mo_termOf 16 = .ok (.ifCond .eq 7, 3) := by decide +kernel
theorem dd_Mo_termOf_19 : decode cc_Mo_termOf 19 = .ok (.iconst 1, 1) := by decide +kernel
theorem dd_Mo_termOf_20 : decode cc_Mo_termOf 20 = .ok (.goto 4, 3) := by decide +kernel
theorem dd_Mo_termOf_23 : decode cc_Mo_termOf 23 = .ok (.iconst 0, 1) := by decide +kernel
theorem dd_Mo_termOf_24 : decode cc_Mo_termOf 24 = .ok (.putfield 62, 3) := by decide +kernel
theorem dd_Mo_termOf_27 : decode cc_Mo_termOf 27 = .ok (.aload_n 0, 1) := by decide +kernel
theorem dd_Mo_termOf_28 : decode cc_Mo_termOf 28 = .ok (.getfield 62, 3) := by decide +kernel
theorem dd_Mo_termOf_31 : decode cc_Mo_termOf 31 = .ok (.ifCond .ne 16, 3) := by decide +kernel
theorem dd_Mo_termOf_34 : decode cc_Mo_termOf 34 = .ok (.aload_n 0, 1) := by decide +kernel
theorem dd_Mo_termOf_35 : decode cc_Mo_termOf 35 = .ok (.getfield 19, 3) := by decide +kernel
theorem dd_Mo_termOf_38 : decode cc_Mo_termOf 38 = .ok (.iconst 4, 1) := by decide +kernel
theorem dd_Mo_termOf_39 : decode cc_Mo_termOf 39 = .ok (.iload_n 3, 1) := by decide +kernel
theorem dd_Mo_termOf_40 : decode cc_Mo_termOf 40 = .ok (.imul, 1) := by decide +kernel
theorem dd_Mo_termOf_41 : decode cc_Mo_termOf 41 = .ok (.iload_n 2, 1) := by decide +kernel
theorem dd_Mo_termOf_42 : decode cc_Mo_termOf 42 = .ok (.iadd, 1) := by decide +kernel
theorem dd_Mo_termOf_43 : decode cc_Mo_termOf 43 = .ok (.iaload, 1) := by decide +kernel
theorem dd_Mo_termOf_44 : decode cc_Mo_termOf 44 = .ok (.goto 4, 3) := by decide +kernel
theorem dd_Mo_termOf_47 : decode cc_Mo_termOf 47 = .ok (.iconst 0, 1) := by decide +kernel
theorem dd_Mo_termOf_48 : decode cc_Mo_termOf 48 = .ok (.ireturn, 1) := by decide +kernel
theorem dd_Mo_value_0 : decode cc_Mo_value 0 = .ok (.aload_n 0, 1) := by decide +kernel
theorem dd_Mo_value_1 : decode cc_Mo_value 1 = .ok (.iload_n 1, 1) := by decide +kernel
theorem dd_Mo_value_2 : decode cc_Mo_value 2 = .ok (.iload_n 2, 1) := by decide +kernel
theorem dd_Mo_value_3 : decode cc_Mo_value 3 = .ok (.invokevirtual 145, 3) := by decide +kernel
theorem dd_Mo_value_6 : decode cc_Mo_value 6 = .ok (.istore_n 3, 1) := by decide +kernel
theorem dd_Mo_value_7 : decode cc_Mo_value 7 = .ok (.aload_n 0, 1) := by decide +kernel
theorem dd_Mo_value_8 : decode cc_Mo_value 8 = .ok (.iload_n 1, 1) := by decide +kernel
theorem dd_Mo_value_9 : decode cc_Mo_value 9 = .ok (.invokevirtual 120, 3) := by decide +kernel
theorem dd_Mo_value_12 : decode cc_Mo_value 12 = .ok (.istore 4, 2) := by decide +kernel
theorem dd_Mo_value_14 : decode cc_Mo_value 14 = .ok (.aload_n 0, 1) := by decide +kernel
theorem dd_Mo_value_15 : decode cc_Mo_value 15 = .ok (.iload_n 3, 1) := by decide +kernel
theorem dd_Mo_value_16 : decode cc_Mo_value 16 = .ok (.invokevirtual 68, 3) := by decide +kernel
theorem dd_Mo_value_19 : decode cc_Mo_value 19 = .ok (.tableswitch 68 1 5 #[33, 33, 37, 37, 45], 33) := by decide +kernel
theorem dd_Mo_value_52 : decode cc_Mo_value 52 = .ok (.iload_n 3, 1) := by decide +kernel
theorem dd_Mo_value_53 : decode cc_Mo_value 53 = .ok (.iconst 3, 1) := by decide +kernel
theorem dd_Mo_value_54 : decode cc_Mo_value 54 = .ok (.ishr, 1) := by decide +kernel
theorem dd_Mo_value_55 : decode cc_Mo_value 55 = .ok (.ireturn, 1) := by decide +kernel
theorem dd_Mo_value_56 : decode cc_Mo_value 56 = .ok (.aload_n 0, 1) := by decide +kernel
theorem dd_Mo_value_57 : decode cc_Mo_value 57 = .ok (.iload 4, 2) := by decide +kernel
theorem dd_Mo_value_59 : decode cc_Mo_value 59 = .ok (.iload_n 3, 1) := by decide +kernel
theorem dd_Mo_value_60 : decode cc_Mo_value 60 = .ok (.invokevirtual 75, 3) := by decide +kernel
theorem dd_Mo_value_63 : decode cc_Mo_value 63 = .ok (.ireturn, 1) := by decide +kernel
theorem dd_Mo_value_64 : decode cc_Mo_value 64 = .ok (.aload_n 0, 1) := by decide +kernel
theorem dd_Mo_value_65 : decode cc_Mo_value 65 = .ok (.getfield 34, 3) := by decide +kernel
theorem dd_Mo_value_68 : decode cc_Mo_value 68 = .ok (.aload_n 0, 1) := by decide +kernel
theorem dd_Mo_value_69 : decode cc_Mo_value 69 = .ok (.getfield 28, 3) := by decide +kernel
theorem dd_Mo_value_72 : decode cc_Mo_value 72 = .ok (.sipush 600, 3) := by decide +kernel
theorem dd_Mo_value_75 : decode cc_Mo_value 75 = .ok (.iload 4, 2) := by decide +kernel
theorem dd_Mo_value_77 : decode cc_Mo_value 77 = .ok (.imul, 1) := by decide +kernel
theorem dd_Mo_value_78 : decode cc_Mo_value 78 = .ok (.aload_n 0, 1) := by decide +kernel
theorem dd_Mo_value_79 : decode cc_Mo_value 79 = .ok (.iload_n 3, 1) := by decide +kernel
theorem dd_Mo_value_80 : decode cc_Mo_value 80 = .ok (.invokevirtual 72, 3) := by decide +kernel
theorem dd_Mo_value_83 : decode cc_Mo_value 83 = .ok (.iadd, 1) := by decide +kernel
theorem dd_Mo_value_84 : decode cc_Mo_value 84 = .ok (.iaload, 1) := by decide +kernel
theorem dd_Mo_value_85 : decode cc_Mo_value 85 = .ok (.iaload, 1) := by decide +kernel
theorem dd_Mo_value_86 : decode cc_Mo_value 86 = .ok (.ireturn, 1) := by decide +kernel
theorem dd_Mo_value_87 : decode cc_Mo_value 87 = .ok (.iconst 0, 1) := by decide +kernel
theorem dd_Mo_value_88 : decode cc_Mo_value 88 = .ok (.ireturn, 1) := by decide +kernel
theorem dd_Mo_address_0 : decode cc_Mo_address 0 = .ok (.aload_n 0, 1) := by decide +kernel
theorem dd_Mo_address_1 : decode cc_Mo_address 1 = .ok (.iload_n 1, 1) := by decide +kernel
theorem dd_Mo_address_2 : decode cc_Mo_address 2 = .ok (.iload_n 2, 1) := by decide +kernel
theorem dd_Mo_address_3 : decode cc_Mo_address 3 = .ok (.invokevirtual 145, 3) := by decide +kernel
theorem dd_Mo_address_6 : decode cc_Mo_address 6 = .ok (.istore_n 3, 1) := by decide +kernel
theorem dd_Mo_address_7 : decode cc_Mo_address 7 = .ok (.aload_n 0, 1) := by decide +kernel
theorem dd_Mo_address_8 : decode cc_Mo_address 8 = .ok (.getfield 62, 3) := by decide +kernel
theorem dd_Mo_address_11 : decode cc_Mo_address 11 = .ok (.ifCond .eq 7, 3) := by decide +kernel
theorem dd_Mo_address_14 : decode cc_Mo_address 14 = .ok (.iconst 0, 1) := by decide +kernel
theorem dd_Mo_address_15 : decode cc_Mo_address 15 = .ok (.goto 20, 3) := by decide +kernel
theorem dd_Mo_address_18 : decode cc_Mo_address 18 = .ok (.aload_n 0, 1) := by decide +kernel
theorem dd_Mo_address_19 : decode cc_Mo_address 19 = .ok (.iload_n 3, 1) := by decide +kernel
theorem dd_Mo_address_20 : decode cc_Mo_address 20 = .ok (.invokevirtual 82, 3) := by decide +kernel
theorem dd_Mo_address_23 : decode cc_Mo_address 23 = .ok (.ifCond .eq 11, 3) := by decide +kernel
theorem dd_Mo_address_26 : decode cc_Mo_address 26 = .ok (.aload_n 0, 1) := by decide +kernel
theorem dd_Mo_address_27 : decode cc_Mo_address 27 = .ok (.iload_n 3, 1) := by decide +kernel
theorem dd_Mo_address_28 : decode cc_Mo_address 28 = .ok (.invokevirtual 72, 3) := by decide +kernel
theorem dd_Mo_address_31 : decode cc_Mo_address 31 = .ok (.goto 4, 3) := by decide +kernel
theorem dd_Mo_address_34 : decode cc_Mo_address 34 = .ok (.iconst (-1), 1) := by decide +kernel
theorem dd_Mo_address_35 : decode cc_Mo_address 35 = .ok (.ireturn, 1) := by decide +kernel
theorem dd_Mo_words_0 : decode cc_Mo_words 0 = .ok (.aload_n 0, 1) := by decide +kernel
theorem dd_Mo_words_1 : decode cc_Mo_words 1 = .ok (.iload_n 1, 1) := by decide +kernel
theorem dd_Mo_words_2 : decode cc_Mo_words 2 = .ok (.iload_n 2, 1) := by decide +kernel
theorem dd_Mo_words_3 : decode cc_Mo_words 3 = .ok (.invokevirtual 145, 3) := by decide +kernel
theorem dd_Mo_words_6 : decode cc_Mo_words 6 = .ok (.istore_n 3, 1) := by decide +kernel
theorem dd_Mo_words_7 : decode cc_Mo_words 7 = .ok (.aload_n 0, 1) := by decide +kernel
theorem dd_Mo_words_8 : decode cc_Mo_words 8 = .ok (.getfield 62, 3) := by decide +kernel
theorem dd_Mo_words_11 : decode cc_Mo_words 11 = .ok (.ifCond .eq 7, 3) := by decide +kernel
theorem dd_Mo_words_14 : decode cc_Mo_words 14 = .ok (.iconst 0, 1) := by decide +kernel
theorem dd_Mo_words_15 : decode cc_Mo_words 15 = .ok (.goto 13, 3) := by decide +kernel
theorem dd_Mo_words_18 : decode cc_Mo_words 18 = .ok (.aload_n 0, 1) := by decide +kernel
theorem dd_Mo_words_19 : decode cc_Mo_words 19 = .ok (.aload_n 0, 1) := by decide +kernel
theorem dd_Mo_words_20 : decode cc_Mo_words 20 = .ok (.iload_n 1, 1) := by decide +kernel
theorem dd_Mo_words_21 : decode cc_Mo_words 21 = .ok (.invokevirtual 120, 3) := by decide +kernel
theorem dd_Mo_words_24 : decode cc_Mo_words 24 = .ok (.iload_n 3, 1) := by decide +kernel
theorem dd_Mo_words_25 : decode cc_Mo_words 25 = .ok (.invokevirtual 138, 3) := by decide +kernel
theorem dd_Mo_words_28 : decode cc_Mo_words 28 = .ok (.ireturn, 1) := by decide +kernel
theorem dd_Mo_handles_0 : decode cc_Mo_handles 0 = .ok (.aload_n 0, 1) := by decide +kernel
theorem dd_Mo_handles_1 : decode cc_Mo_handles 1 = .ok (.iload_n 1, 1) := by decide +kernel
theorem dd_Mo_handles_2 : decode cc_Mo_handles 2 = .ok (.iload_n 2, 1) := by decide +kernel
theorem dd_Mo_handles_3 : decode cc_Mo_handles 3 = .ok (.invokevirtual 145, 3) := by decide +kernel
theorem dd_Mo_handles_6 : decode cc_Mo_handles 6 = .ok (.istore_n 3, 1) := by decide +kernel
theorem dd_Mo_handles_7 : decode cc_Mo_handles 7 = .ok (.aload_n 0, 1) := by decide +kernel
theorem dd_Mo_handles_8 : decode cc_Mo_handles 8 = .ok (.iload_n 3, 1) := by decide +kernel
theorem dd_Mo_handles_9 : decode cc_Mo_handles 9 = .ok (.invokevirtual 68, 3) := by decide +kernel
theorem dd_Mo_handles_12 : decode cc_Mo_handles 12 = .ok (.iconst 5, 1) := by decide +kernel
theorem dd_Mo_handles_13 : decode cc_Mo_handles 13 = .ok (.if_icmp .ne 31, 3) := by decide +kernel
theorem dd_Mo_handles_16 : decode cc_Mo_handles 16 = .ok (.aload_n 0, 1) := by decide +kernel
theorem dd_Mo_handles_17 : decode cc_Mo_handles 17 = .ok (.getfield 37, 3) := by decide +kernel
theorem dd_Mo_handles_20 : decode cc_Mo_handles 20 = .ok (.aload_n 0, 1) := by decide +kernel
theorem dd_Mo_handles_21 : decode cc_Mo_handles 21 = .ok (.getfield 28, 3) := by decide +kernel
theorem dd_Mo_handles_24 : decode cc_Mo_handles 24 = .ok (.sipush 600, 3) := by decide +kernel
theorem dd_Mo_handles_27 : decode cc_Mo_handles 27 = .ok (.aload_n 0, 1) := by decide +kernel
theorem dd_Mo_handles_28 : decode cc_Mo_handles 28 = .ok (.iload_n 1, 1) := by decide +kernel
theorem dd_Mo_handles_29 : decode cc_Mo_handles 29 = .ok (.invokevirtual 120, 3) := by decide +kernel
theorem dd_Mo_handles_32 : decode cc_Mo_handles 32 = .ok (.imul, 1) := by decide +kernel
theorem dd_Mo_handles_33 : decode cc_Mo_handles 33 = .ok (.aload_n 0, 1) := by decide +kernel
theorem dd_Mo_handles_34 : decode cc_Mo_handles 34 = .ok (.iload_n 3, 1) := by decide +kernel
theorem dd_Mo_handles_35 : decode cc_Mo_handles 35 = .ok (.invokevirtual 72, 3) := by decide +kernel
theorem dd_Mo_handles_38 : decode cc_Mo_handles 38 = .ok (.iadd, 1) := by decide +kernel
theorem dd_Mo_handles_39 : decode cc_Mo_handles 39 = .ok (.iaload, 1) := by decide +kernel
theorem dd_Mo_handles_40 : decode cc_Mo_handles 40 = .ok (.iaload, 1) := by decide +kernel
theorem dd_Mo_handles_41 : decode cc_Mo_handles 41 = .ok (.goto 4, 3) := by decide +kernel
theorem dd_Mo_handles_44 : decode cc_Mo_handles 44 = .ok (.iconst 0, 1) := by decide +kernel
theorem dd_Mo_handles_45 : decode cc_Mo_handles 45 = .ok (.ireturn, 1) := by decide +kernel
theorem dd_Mo_equal_0 : decode cc_Mo_equal 0 = .ok (.aload_n 0, 1) := by decide +kernel
theorem dd_Mo_equal_1 : decode cc_Mo_equal 1 = .ok (.iload_n 1, 1) := by decide +kernel
theorem dd_Mo_equal_2 : decode cc_Mo_equal 2 = .ok (.invokevirtual 120, 3) := by decide +kernel
theorem dd_Mo_equal_5 : decode cc_Mo_equal 5 = .ok (.istore 5, 2) := by decide +kernel
theorem dd_Mo_equal_7 : decode cc_Mo_equal 7 = .ok (.aload_n 0, 1) := by decide +kernel
theorem dd_Mo_equal_8 : decode cc_Mo_equal 8 = .ok (.iload_n 3, 1) := by decide +kernel
theorem dd_Mo_equal_9 : decode cc_Mo_equal 9 = .ok (.invokevirtual 120, 3) := by decide +kernel
theorem dd_Mo_equal_12 : decode cc_Mo_equal 12 = .ok (.istore 6, 2) := by decide +kernel
theorem dd_Mo_equal_14 : decode cc_Mo_equal 14 = .ok (.aload_n 0, 1) := by decide +kernel
theorem dd_Mo_equal_15 : decode cc_Mo_equal 15 = .ok (.iload 5, 2) := by decide +kernel
theorem dd_Mo_equal_17 : decode cc_Mo_equal 17 = .ok (.ifCond .lt 25, 3) := by decide +kernel
theorem dd_Mo_equal_20 : decode cc_Mo_equal 20 = .ok (.aload_n 0, 1) := by decide +kernel
theorem dd_Mo_equal_21 : decode cc_Mo_equal 21 = .ok (.iload_n 2, 1) := by decide +kernel
theorem dd_Mo_equal_22 : decode cc_Mo_equal 22 = .ok (.invokevirtual 123, 3) := by decide +kernel
theorem dd_Mo_equal_25 : decode cc_Mo_equal 25 = .ok (.ifCond .ne 17, 3) := by decide +kernel
theorem dd_Mo_equal_28 : decode cc_Mo_equal 28 = .ok (.iload 6, 2) := by decide +kernel
theorem dd_Mo_equal_30 : decode cc_Mo_equal 30 = .ok (.ifCond .lt 12, 3) := by decide +kernel
theorem dd_Mo_equal_33 : decode cc_Mo_equal 33 = .ok (.aload_n 0, 1) := by decide +kernel
theorem dd_Mo_equal_34 : decode cc_Mo_equal 34 = .ok (.iload 4, 2) := by decide +kernel
theorem dd_Mo_equal_36 : decode cc_Mo_equal 36 = .ok (.invokevirtual 123, 3) := by decide +kernel
theorem dd_Mo_equal_39 : decode cc_Mo_equal 39 = .ok (.ifCond .eq 7, 3) := by decide +kernel
theorem dd_Mo_equal_42 : decode cc_Mo_equal 42 = .ok (.iconst 1, 1) := by decide +kernel
theorem dd_Mo_equal_43 : decode cc_Mo_equal 43 = .ok (.goto 4, 3) := by decide +kernel
theorem dd_Mo_equal_46 : decode cc_Mo_equal 46 = .ok (.iconst 0, 1) := by decide +kernel
theorem dd_Mo_equal_47 : decode cc_Mo_equal 47 = .ok (.putfield 62, 3) := by decide +kernel
theorem dd_Mo_equal_50 : decode cc_Mo_equal 50 = .ok (.aload_n 0, 1) := by decide +kernel
theorem dd_Mo_equal_51 : decode cc_Mo_equal 51 = .ok (.getfield 62, 3) := by decide +kernel
theorem dd_Mo_equal_54 : decode cc_Mo_equal 54 = .ok (.ifCond .eq 5, 3) := by decide +kernel
theorem dd_Mo_equal_57 : decode cc_Mo_equal 57 = .ok (.iconst 0, 1) := by decide +kernel
theorem dd_Mo_equal_58 : decode cc_Mo_equal 58 = .ok (.ireturn, 1) := by decide +kernel
theorem dd_Mo_equal_59 : decode cc_Mo_equal 59 = .ok (.iconst 0, 1) := by decide +kernel
theorem dd_Mo_equal_60 : decode cc_Mo_equal 60 = .ok (.istore 7, 2) := by decide +kernel
theorem dd_Mo_equal_62 : decode cc_Mo_equal 62 = .ok (.iconst 1, 1) := by decide +kernel
theorem dd_Mo_equal_63 : decode cc_Mo_equal 63 = .ok (.istore 8, 2) := by decide +kernel
theorem dd_Mo_equal_65 : decode cc_Mo_equal 65 = .ok (.aload_n 0, 1) := by decide +kernel
theorem dd_Mo_equal_66 : decode cc_Mo_equal 66 = .ok (.getfield 19, 3) := by decide +kernel
theorem dd_Mo_equal_69 : decode cc_Mo_equal 69 = .ok (.iconst 4, 1) := by decide +kernel
theorem dd_Mo_equal_70 : decode cc_Mo_equal 70 = .ok (.iload 5, 2) := by decide +kernel
theorem dd_Mo_equal_72 : decode cc_Mo_equal 72 = .ok (.imul, 1) := by decide +kernel
theorem dd_Mo_equal_73 : decode cc_Mo_equal 73 = .ok (.iload_n 2, 1) := by decide +kernel
theorem dd_Mo_equal_74 : decode cc_Mo_equal 74 = .ok (.iadd, 1) := by decide +kernel
theorem dd_Mo_equal_75 : decode cc_Mo_equal 75 = .ok (.iaload, 1) := by decide +kernel
theorem dd_Mo_equal_76 : decode cc_Mo_equal 76 = .ok (.istore 9, 2) := by decide +kernel
theorem dd_Mo_equal_78 : decode cc_Mo_equal 78 = .ok (.aload_n 0, 1) := by decide +kernel
theorem dd_Mo_equal_79 : decode cc_Mo_equal 79 = .ok (.getfield 19, 3) := by decide +kernel
theorem dd_Mo_equal_82 : decode cc_Mo_equal 82 = .ok (.iconst 4, 1) := by decide +kernel
theorem dd_Mo_equal_83 : decode cc_Mo_equal 83 = .ok (.iload 6, 2) := by decide +kernel
theorem dd_Mo_equal_85 : decode cc_Mo_equal 85 = .ok (.imul, 1) := by decide +kernel
theorem dd_Mo_equal_86 : decode cc_Mo_equal 86 = .ok (.iload 4, 2) := by decide +kernel
theorem dd_Mo_equal_88 : decode cc_Mo_equal 88 = .ok (.iadd, 1) := by decide +kernel
theorem dd_Mo_equal_89 : decode cc_Mo_equal 89 = .ok (.iaload, 1) := by decide +kernel
theorem dd_Mo_equal_90 : decode cc_Mo_equal 90 = .ok (.istore 10, 2) := by decide +kernel
theorem dd_Mo_equal_92 : decode cc_Mo_equal 92 = .ok (.aload_n 0, 1) := by decide +kernel
theorem dd_Mo_equal_93 : decode cc_Mo_equal 93 = .ok (.iload 5, 2) := by decide +kernel
theorem dd_Mo_equal_95 : decode cc_Mo_equal 95 = .ok (.iload 9, 2) := by decide +kernel
theorem dd_Mo_equal_97 : decode cc_Mo_equal 97 = .ok (.iload 6, 2) := by decide +kernel
theorem dd_Mo_equal_99 : decode cc_Mo_equal 99 = .ok (.iload 10, 2) := by decide +kernel
theorem dd_Mo_equal_101 : decode cc_Mo_equal 101 = .ok (.invokevirtual 148, 3) := by decide +kernel
theorem dd_Mo_equal_104 : decode cc_Mo_equal 104 = .ok (.istore 11, 2) := by decide +kernel
theorem dd_Mo_equal_106 : decode cc_Mo_equal 106 = .ok (.aload_n 0, 1) := by decide +kernel
theorem dd_Mo_equal_107 : decode cc_Mo_equal 107 = .ok (.getfield 49, 3) := by decide +kernel
theorem dd_Mo_equal_110 : decode cc_Mo_equal 110 = .ok (.iconst 0, 1) := by decide +kernel
theorem dd_Mo_equal_111 : decode cc_Mo_equal 111 = .ok (.iload 9, 2) := by decide +kernel
theorem dd_Mo_equal_113 : decode cc_Mo_equal 113 = .ok (.iastore, 1) := by decide +kernel
theorem dd_Mo_equal_114 : decode cc_Mo_equal 114 = .ok (.aload_n 0, 1) := by decide +kernel
theorem dd_Mo_equal_115 : decode cc_Mo_equal 115 = .ok (.getfield 52, 3) := by decide +kernel
theorem dd_Mo_equal_118 : decode cc_Mo_equal 118 = .ok (.iconst 0, 1) := by decide +kernel
theorem dd_Mo_equal_119 : decode cc_Mo_equal 119 = .ok (.iload 10, 2) := by decide +kernel
theorem dd_Mo_equal_121 : decode cc_Mo_equal 121 = .ok (.iastore, 1) := by decide +kernel
theorem dd_Mo_equal_122 : decode cc_Mo_equal 122 = .ok (.aload_n 0, 1) := by decide +kernel
theorem dd_Mo_equal_123 : decode cc_Mo_equal 123 = .ok (.getfield 55, 3) := by decide +kernel
theorem dd_Mo_equal_126 : decode cc_Mo_equal 126 = .ok (.iconst 0, 1) := by decide +kernel
theorem dd_Mo_equal_127 : decode cc_Mo_equal 127 = .ok (.iconst 0, 1) := by decide +kernel
theorem dd_Mo_equal_128 : decode cc_Mo_equal 128 = .ok (.iastore, 1) := by decide +kernel
theorem dd_Mo_equal_129 : decode cc_Mo_equal 129 = .ok (.iload 11, 2) := by decide +kernel
theorem dd_Mo_equal_131 : decode cc_Mo_equal 131 = .ok (.ifCond .eq 156, 3) := by decide +kernel
theorem dd_Mo_equal_134 : decode cc_Mo_equal 134 = .ok (.iload 7, 2) := by decide +kernel
theorem dd_Mo_equal_136 : decode cc_Mo_equal 136 = .ok (.ifCond .lt 151, 3) := by decide +kernel
theorem dd_Mo_equal_139 : decode cc_Mo_equal 139 = .ok (.aload_n 0, 1) := by decide +kernel
theorem dd_Mo_equal_140 : decode cc_Mo_equal 140 = .ok (.getfield 55, 3) := by decide +kernel
theorem dd_Mo_equal_143 : decode cc_Mo_equal 143 = .ok (.iload 7, 2) := by decide +kernel
theorem dd_Mo_equal_145 : decode cc_Mo_equal 145 = .ok (.iaload, 1) := by decide +kernel
theorem dd_Mo_equal_146 : decode cc_Mo_equal 146 = .ok (.aload_n 0, 1) := by decide +kernel
theorem dd_Mo_equal_147 : decode cc_Mo_equal 147 = .ok (.iload 5, 2) := by decide +kernel
theorem dd_Mo_equal_149 : decode cc_Mo_equal 149 = .ok (.aload_n 0, 1) := by decide +kernel
theorem dd_Mo_equal_150 : decode cc_Mo_equal 150 = .ok (.getfield 49, 3) := by decide +kernel
theorem dd_Mo_equal_153 : decode cc_Mo_equal 153 = .ok (.iload 7, 2) := by decide +kernel
theorem dd_Mo_equal_155 : decode cc_Mo_equal 155 = .ok (.iaload, 1) := by decide +kernel
theorem dd_Mo_equal_156 : decode cc_Mo_equal 156 = .ok (.invokevirtual 75, 3) := by decide +kernel
theorem dd_Mo_equal_159 : decode cc_Mo_equal 159 = .ok (.if_icmp .ne 9, 3) := by decide +kernel
theorem dd_Mo_equal_162 : decode cc_Mo_equal 162 = .ok (.iinc 7 (-1), 3) := by decide +kernel
theorem dd_Mo_equal_165 : decode cc_Mo_equal 165 = .ok (.goto (-36), 3) := by decide +kernel
theorem dd_Mo_equal_168 : decode cc_Mo_equal 168 = .ok (.aload_n 0, 1) := by decide +kernel
theorem dd_Mo_equal_169 : decode cc_Mo_equal 169 = .ok (.iload 5, 2) := by decide +kernel
theorem dd_Mo_equal_171 : decode cc_Mo_equal 171 = .ok (.aload_n 0, 1) := by decide +kernel
theorem dd_Mo_equal_172 : decode cc_Mo_equal 172 = .ok (.getfield 49, 3) := by decide +kernel
theorem dd_Mo_equal_175 : decode cc_Mo_equal 175 = .ok (.iload 7, 2) := by decide +kernel
theorem dd_Mo_equal_177 : decode cc_Mo_equal 177 = .ok (.iaload, 1) := by decide +kernel
theorem dd_Mo_equal_178 : decode cc_Mo_equal 178 = .ok (.aload_n 0, 1) := by decide +kernel
theorem dd_Mo_equal_179 : decode cc_Mo_equal 179 = .ok (.getfield 55, 3) := by decide +kernel
theorem dd_Mo_equal_182 : decode cc_Mo_equal 182 = .ok (.iload 7, 2) := by decide +kernel
theorem dd_Mo_equal_184 : decode cc_Mo_equal 184 = .ok (.iaload, 1) := by decide +kernel
theorem dd_Mo_equal_185 : decode cc_Mo_equal 185 = .ok (.invokevirtual 135, 3) := by decide +kernel
theorem dd_Mo_equal_188 : decode cc_Mo_equal 188 = .ok (.istore 9, 2) := by decide +kernel
theorem dd_Mo_equal_190 : decode cc_Mo_equal 190 = .ok (.aload_n 0, 1) := by decide +kernel
theorem dd_Mo_equal_191 : decode cc_Mo_equal 191 = .ok (.iload 6, 2) := by decide +kernel
theorem dd_Mo_equal_193 : decode cc_Mo_equal 193 = .ok (.aload_n 0, 1) := by decide +kernel
theorem dd_Mo_equal_194 : decode cc_Mo_equal 194 = .ok (.getfield 52, 3) := by decide +kernel
theorem dd_Mo_equal_197 : decode cc_Mo_equal 197 = .ok (.iload 7, 2) := by decide +kernel
theorem dd_Mo_equal_199 : decode cc_Mo_equal 199 = .ok (.iaload, 1) := by decide +kernel
theorem dd_Mo_equal_200 : decode cc_Mo_equal 200 = .ok (.aload_n 0, 1) := by decide +kernel
theorem dd_Mo_equal_201 : decode cc_Mo_equal 201 = .ok (.getfield 55, 3) := by decide +kernel
theorem dd_Mo_equal_204 : decode cc_Mo_equal 204 = .ok (.iload 7, 2) := by decide +kernel
theorem dd_Mo_equal_206 : decode cc_Mo_equal 206 = .ok (.iaload, 1) := by decide +kernel
theorem dd_Mo_equal_207 : decode cc_Mo_equal 207 = .ok (.invokevirtual 135, 3) := by decide +kernel
theorem dd_Mo_equal_210 : decode cc_Mo_equal 210 = .ok (.istore 10, 2) := by decide +kernel
theorem dd_Mo_equal_212 : decode cc_Mo_equal 212 = .ok (.aload_n 0, 1) := by decide +kernel
theorem dd_Mo_equal_213 : decode cc_Mo_equal 213 = .ok (.getfield 55, 3) := by decide +kernel
theorem dd_Mo_equal_216 : decode cc_Mo_equal 216 = .ok (.iload 7, 2) := by decide +kernel
theorem dd_Mo_equal_218 : decode cc_Mo_equal 218 = .ok (.dup2, 1) := by decide +kernel
theorem dd_Mo_equal_219 : decode cc_Mo_equal 219 = .ok (.iaload, 1) := by decide +kernel
theorem dd_Mo_equal_220 : decode cc_Mo_equal 220 = .ok (.iconst 1, 1) := by decide +kernel
theorem dd_Mo_equal_221 : decode cc_Mo_equal 221 = .ok (.iadd, 1) := by decide +kernel
theorem dd_Mo_equal_222 : decode cc_Mo_equal 222 = .ok (.iastore, 1) := by decide +kernel
theorem dd_Mo_equal_223 : decode cc_Mo_equal 223 = .ok (.iinc 8 1, 3) := by decide +kernel
theorem dd_Mo_equal_226 : decode cc_Mo_equal 226 = .ok (.iload 8, 2) := by decide +kernel
theorem dd_Mo_equal_228 : decode cc_Mo_equal 228 = .ok (.sipush 2000, 3) := by decide +kernel
theorem dd_Mo_equal_231 : decode cc_Mo_equal 231 = .ok (.if_icmp .le 10, 3) := by decide +kernel
theorem dd_Mo_equal_234 : decode cc_Mo_equal 234 = .ok (.aload_n 0, 1) := by decide +kernel
theorem dd_Mo_equal_235 : decode cc_Mo_equal 235 = .ok (.iconst 2, 1) := by decide +kernel
theorem dd_Mo_equal_236 : decode cc_Mo_equal 236 = .ok (.putfield 62, 3) := by decide +kernel
theorem dd_Mo_equal_239 : decode cc_Mo_equal 239 = .ok (.iconst 0, 1) := by decide +kernel
theorem dd_Mo_equal_240 : decode cc_Mo_equal 240 = .ok (.ireturn, 1) := by decide +kernel
theorem dd_Mo_equal_241 : decode cc_Mo_equal 241 = .ok (.aload_n 0, 1) := by decide +kernel
theorem dd_Mo_equal_242 : decode cc_Mo_equal 242 = .ok (.iload 5, 2) := by decide +kernel
theorem dd_Mo_equal_244 : decode cc_Mo_equal 244 = .ok (.iload 9, 2) := by decide +kernel
theorem dd_Mo_equal_246 : decode cc_Mo_equal 246 = .ok (.iload 6, 2) := by decide +kernel
theorem dd_Mo_equal_248 : decode cc_Mo_equal 248 = .ok (.iload 10, 2) := by decide +kernel
theorem dd_Mo_equal_250 : decode cc_Mo_equal 250 = .ok (.invokevirtual 148, 3) := by decide +kernel
theorem dd_Mo_equal_253 : decode cc_Mo_equal 253 = .ok (.istore 11, 2) := by decide +kernel
theorem dd_Mo_equal_255 : decode cc_Mo_equal 255 = .ok (.iinc 7 1, 3) := by decide +kernel
theorem dd_Mo_equal_258 : decode cc_Mo_equal 258 = .ok (.aload_n 0, 1) := by decide +kernel
theorem dd_Mo_equal_259 : decode cc_Mo_equal 259 = .ok (.getfield 49, 3) := by decide +kernel
theorem dd_Mo_equal_262 : decode cc_Mo_equal 262 = .ok (.iload 7, 2) := by decide +kernel
theorem dd_Mo_equal_264 : decode cc_Mo_equal 264 = .ok (.iload 9, 2) := by decide +kernel
theorem dd_Mo_equal_266 : decode cc_Mo_equal 266 = .ok (.iastore, 1) := by decide +kernel
theorem dd_Mo_equal_267 : decode cc_Mo_equal 267 = .ok (.aload_n 0, 1) := by decide +kernel
theorem dd_Mo_equal_268 : decode cc_Mo_equal 268 = .ok (.getfield 52, 3) := by decide +kernel
theorem dd_Mo_equal_271 : decode cc_Mo_equal 271 = .ok (.iload 7, 2) := by decide +kernel
theorem dd_Mo_equal_273 : decode cc_Mo_equal 273 = .ok (.iload 10, 2) := by decide +kernel
theorem dd_Mo_equal_275 : decode cc_Mo_equal 275 = .ok (.iastore, 1) := by decide +kernel
theorem dd_Mo_equal_276 : decode cc_Mo_equal 276 = .ok (.aload_n 0, 1) := by decide +kernel
theorem dd_Mo_equal_277 : decode cc_Mo_equal 277 = .ok (.getfield 55, 3) := by decide +kernel
theorem dd_Mo_equal_280 : decode cc_Mo_equal 280 = .ok (.iload 7, 2) := by decide +kernel
theorem dd_Mo_equal_282 : decode cc_Mo_equal 282 = .ok (.iconst 0, 1) := by decide +kernel
theorem dd_Mo_equal_283 : decode cc_Mo_equal 283 = .ok (.iastore, 1) := by decide +kernel
theorem dd_Mo_equal_284 : decode cc_Mo_equal 284 = .ok (.goto (-155), 3) := by decide +kernel
theorem dd_Mo_equal_287 : decode cc_Mo_equal 287 = .ok (.iload 11, 2) := by decide +kernel
theorem dd_Mo_equal_289 : decode cc_Mo_equal 289 = .ok (.ireturn, 1) := by decide +kernel
theorem dd_Mo_alike_0 : decode cc_Mo_alike 0 = .ok (.aload_n 0, 1) := by decide +kernel
theorem dd_Mo_alike_1 : decode cc_Mo_alike 1 = .ok (.iload_n 2, 1) := by decide +kernel
theorem dd_Mo_alike_2 : decode cc_Mo_alike 2 = .ok (.invokevirtual 68, 3) := by decide +kernel
theorem dd_Mo_alike_5 : decode cc_Mo_alike 5 = .ok (.aload_n 0, 1) := by decide +kernel
theorem dd_Mo_alike_6 : decode cc_Mo_alike 6 = .ok (.iload 4, 2) := by decide +kernel
theorem dd_Mo_alike_8 : decode cc_Mo_alike 8 = .ok (.invokevirtual 68, 3) := by decide +kernel
theorem dd_Mo_alike_11 : decode cc_Mo_alike 11 = .ok (.if_icmp .eq 5, 3) := by decide +kernel
theorem dd_Mo_alike_14 : decode cc_Mo_alike 14 = .ok (.iconst 0, 1) := by decide +kernel
theorem dd_Mo_alike_15 : decode cc_Mo_alike 15 = .ok (.ireturn, 1) := by decide +kernel
theorem dd_Mo_alike_16 : decode cc_Mo_alike 16 = .ok (.aload_n 0, 1) := by decide +kernel
theorem dd_Mo_alike_17 : decode cc_Mo_alike 17 = .ok (.iload_n 2, 1) := by decide +kernel
theorem dd_Mo_alike_18 : decode cc_Mo_alike 18 = .ok (.invokevirtual 82, 3) := by decide +kernel
theorem dd_Mo_alike_21 : decode cc_Mo_alike 21 = .ok (.ifCond .ne 15, 3) := by decide +kernel
theorem dd_Mo_alike_24 : decode cc_Mo_alike 24 = .ok (.iload_n 2, 1) := by decide +kernel
theorem dd_Mo_alike_25 : decode cc_Mo_alike 25 = .ok (.iload 4, 2) := by decide +kernel
theorem dd_Mo_alike_27 : decode cc_Mo_alike 27 = .ok (.if_icmp .ne 7, 3) := by decide +kernel
theorem dd_Mo_alike_30 : decode cc_Mo_alike 30 = .ok (.iconst 1, 1) := by decide +kernel
theorem dd_Mo_alike_31 : decode cc_Mo_alike 31 = .ok (.goto 4, 3) := by decide +kernel
theorem dd_Mo_alike_34 : decode cc_Mo_alike 34 = .ok (.iconst 0, 1) := by decide +kernel
theorem dd_Mo_alike_35 : decode cc_Mo_alike 35 = .ok (.ireturn, 1) := by decide +kernel
theorem dd_Mo_alike_36 : decode cc_Mo_alike 36 = .ok (.aload_n 0, 1) := by decide +kernel
theorem dd_Mo_alike_37 : decode cc_Mo_alike 37 = .ok (.iload_n 2, 1) := by decide +kernel
theorem dd_Mo_alike_38 : decode cc_Mo_alike 38 = .ok (.invokevirtual 68, 3) := by decide +kernel
theorem dd_Mo_alike_41 : decode cc_Mo_alike 41 = .ok (.iconst 5, 1) := by decide +kernel
theorem dd_Mo_alike_42 : decode cc_Mo_alike 42 = .ok (.if_icmp .ne 47, 3) := by decide +kernel
theorem dd_Mo_alike_45 : decode cc_Mo_alike 45 = .ok (.aload_n 0, 1) := by decide +kernel
theorem dd_Mo_alike_46 : decode cc_Mo_alike 46 = .ok (.getfield 28, 3) := by decide +kernel
theorem dd_Mo_alike_49 : decode cc_Mo_alike 49 = .ok (.sipush 600, 3) := by decide +kernel
theorem dd_Mo_alike_52 : decode cc_Mo_alike 52 = .ok (.iload_n 1, 1) := by decide +kernel
theorem dd_Mo_alike_53 : decode cc_Mo_alike 53 = .ok (.imul, 1) := by decide +kernel
theorem dd_Mo_alike_54 : decode cc_Mo_alike 54 = .ok (.aload_n 0, 1) := by decide +kernel
theorem dd_Mo_alike_55 : decode cc_Mo_alike 55 = .ok (.iload_n 2, 1) := by decide +kernel
theorem dd_Mo_alike_56 : decode cc_Mo_alike 56 = .ok (.invokevirtual 72, 3) := by decide +kernel
theorem dd_Mo_alike_59 : decode cc_Mo_alike 59 = .ok (.iadd, 1) := by decide +kernel
theorem dd_Mo_alike_60 : decode cc_Mo_alike 60 = .ok (.iaload, 1) := by decide +kernel
theorem dd_Mo_alike_61 : decode cc_Mo_alike 61 = .ok (.aload_n 0, 1) := by decide +kernel
theorem dd_Mo_alike_62 : decode cc_Mo_alike 62 = .ok (.getfield 28, 3) := by decide +kernel
theorem dd_Mo_alike_65 : decode cc_Mo_alike 65 = .ok (.sipush 600, 3) := by decide +kernel
theorem dd_Mo_alike_68 : decode cc_Mo_alike 68 = .ok (.iload_n 3, 1) := by decide +kernel
theorem dd_Mo_alike_69 : decode cc_Mo_alike 69 = .ok (.imul, 1) := by decide +kernel
theorem dd_Mo_alike_70 : decode cc_Mo_alike 70 = .ok (.aload_n 0, 1) := by decide +kernel
theorem dd_Mo_alike_71 : decode cc_Mo_alike 71 = .ok (.iload 4, 2) := by decide +kernel
theorem dd_Mo_alike_73 : decode cc_Mo_alike 73 = .ok (.invokevirtual 72, 3) := by decide +kernel
theorem dd_Mo_alike_76 : decode cc_Mo_alike 76 = .ok (.iadd, 1) := by decide +kernel
theorem dd_Mo_alike_77 : decode cc_Mo_alike 77 = .ok (.iaload, 1) := by decide +kernel
theorem dd_Mo_alike_78 : decode cc_Mo_alike 78 = .ok (.if_icmp .ne 7, 3) := by decide +kernel
theorem dd_Mo_alike_81 : decode cc_Mo_alike 81 = .ok (.iconst 1, 1) := by decide +kernel
theorem dd_Mo_alike_82 : decode cc_Mo_alike 82 = .ok (.goto 28, 3) := by decide +kernel
theorem dd_Mo_alike_85 : decode cc_Mo_alike 85 = .ok (.iconst 0, 1) := by decide +kernel
theorem dd_Mo_alike_86 : decode cc_Mo_alike 86 = .ok (.goto 24, 3) := by decide +kernel
theorem dd_Mo_alike_89 : decode cc_Mo_alike 89 = .ok (.aload_n 0, 1) := by decide +kernel
theorem dd_Mo_alike_90 : decode cc_Mo_alike 90 = .ok (.iload_n 1, 1) := by decide +kernel
theorem dd_Mo_alike_91 : decode cc_Mo_alike 91 = .ok (.iload_n 2, 1) := by decide +kernel
theorem dd_Mo_alike_92 : decode cc_Mo_alike 92 = .ok (.invokevirtual 75, 3) := by decide +kernel
theorem dd_Mo_alike_95 : decode cc_Mo_alike 95 = .ok (.aload_n 0, 1) := by decide +kernel
theorem dd_Mo_alike_96 : decode cc_Mo_alike 96 = .ok (.iload_n 3, 1) := by decide +kernel
theorem dd_Mo_alike_97 : decode cc_Mo_alike 97 = .ok (.iload 4, 2) := by decide +kernel
theorem dd_Mo_alike_99 : decode cc_Mo_alike 99 = .ok (.invokevirtual 75, 3) := by decide +kernel
theorem dd_Mo_alike_102 : decode cc_Mo_alike 102 = .ok (.if_icmp .ne 7, 3) := by decide +kernel
theorem dd_Mo_alike_105 : decode cc_Mo_alike 105 = .ok (.iconst 1, 1) := by decide +kernel
theorem dd_Mo_alike_106 : decode cc_Mo_alike 106 = .ok (.goto 4, 3) := by decide +kernel
theorem dd_Mo_alike_109 : decode cc_Mo_alike 109 = .ok (.iconst 0, 1) := by decide +kernel
theorem dd_Mo_alike_110 : decode cc_Mo_alike 110 = .ok (.ireturn, 1) := by decide +kernel
