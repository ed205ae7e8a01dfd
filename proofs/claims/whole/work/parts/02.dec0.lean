theorem dX0_init_0 : decode cX0_init 0 = .ok (.aload_n 0, 1) := by decide +kernel
theorem dX0_init_1 : decode cX0_init 1 = .ok (.iload_n 1, 1) := by decide +kernel
theorem dX0_init_2 : decode cX0_init 2 = .ok (.iload_n 2, 1) := by decide +kernel
theorem dX0_init_3 : decode cX0_init 3 = .ok (.iload_n 3, 1) := by decide +kernel
theorem dX0_init_4 : decode cX0_init 4 = .ok (.invokespecial 1, 3) := by decide +kernel
theorem dX0_init_7 : decode cX0_init 7 = .ok (.return_, 1) := by decide +kernel
theorem dX0_kind_0 : decode cX0_kind 0 = .ok (.iconst 5, 1) := by decide +kernel
theorem dX0_kind_1 : decode cX0_kind 1 = .ok (.ireturn, 1) := by decide +kernel
theorem dX0_isUnder_0 : decode cX0_isUnder 0 = .ok (.iload_n 1, 1) := by decide +kernel
theorem dX0_isUnder_1 : decode cX0_isUnder 1 = .ok (.iconst 5, 1) := by decide +kernel
theorem dX0_isUnder_2 : decode cX0_isUnder 2 = .ok (.if_icmp .eq 11, 3) := by decide +kernel
theorem dX0_isUnder_5 : decode cX0_isUnder 5 = .ok (.aload_n 0, 1) := by decide +kernel
theorem dX0_isUnder_6 : decode cX0_isUnder 6 = .ok (.iload_n 1, 1) := by decide +kernel
theorem dX0_isUnder_7 : decode cX0_isUnder 7 = .ok (.invokespecial 9, 3) := by decide +kernel
theorem dX0_isUnder_10 : decode cX0_isUnder 10 = .ok (.ifCond .eq 7, 3) := by decide +kernel
theorem dX0_isUnder_13 : decode cX0_isUnder 13 = .ok (.iconst 1, 1) := by decide +kernel
theorem dX0_isUnder_14 : decode cX0_isUnder 14 = .ok (.goto 4, 3) := by decide +kernel
theorem dX0_isUnder_17 : decode cX0_isUnder 17 = .ok (.iconst 0, 1) := by decide +kernel
theorem dX0_isUnder_18 : decode cX0_isUnder 18 = .ok (.ireturn, 1) := by decide +kernel
theorem dX0_reach_0 : decode cX0_reach 0 = .ok (.aload_n 0, 1) := by decide +kernel
theorem dX0_reach_1 : decode cX0_reach 1 = .ok (.iload_n 1, 1) := by decide +kernel
theorem dX0_reach_2 : decode cX0_reach 2 = .ok (.iload_n 2, 1) := by decide +kernel
theorem dX0_reach_3 : decode cX0_reach 3 = .ok (.invokespecial 13, 3) := by decide +kernel
theorem dX0_reach_6 : decode cX0_reach 6 = .ok (.iconst 2, 1) := by decide +kernel
theorem dX0_reach_7 : decode cX0_reach 7 = .ok (.idiv, 1) := by decide +kernel
theorem dX0_reach_8 : decode cX0_reach 8 = .ok (.ireturn, 1) := by decide +kernel
theorem dX0_silentSteps_0 : decode cX0_silentSteps 0 = .ok (.iconst 2, 1) := by decide +kernel
theorem dX0_silentSteps_1 : decode cX0_silentSteps 1 = .ok (.aload_n 0, 1) := by decide +kernel
theorem dX0_silentSteps_2 : decode cX0_silentSteps 2 = .ok (.iload_n 1, 1) := by decide +kernel
theorem dX0_silentSteps_3 : decode cX0_silentSteps 3 = .ok (.invokespecial 17, 3) := by decide +kernel
theorem dX0_silentSteps_6 : decode cX0_silentSteps 6 = .ok (.imul, 1) := by decide +kernel
theorem dX0_silentSteps_7 : decode cX0_silentSteps 7 = .ok (.ireturn, 1) := by decide +kernel
theorem dX0_says_0 : decode cX0_says 0 = .ok (.iconst 1, 1) := by decide +kernel
theorem dX0_says_1 : decode cX0_says 1 = .ok (.ireturn, 1) := by decide +kernel
theorem dX1_init_0 : decode cX1_init 0 = .ok (.aload_n 0, 1) := by decide +kernel
theorem dX1_init_1 : decode cX1_init 1 = .ok (.invokespecial 3, 3) := by decide +kernel
theorem dX1_init_4 : decode cX1_init 4 = .ok (.aload_n 0, 1) := by decide +kernel
theorem dX1_init_5 : decode cX1_init 5 = .ok (.bipush 6, 2) := by decide +kernel
theorem dX1_init_7 : decode cX1_init 7 = .ok (.newarray .int, 2) := by decide +kernel
theorem dX1_init_9 : decode cX1_init 9 = .ok (.putfield 11, 3) := by decide +kernel
theorem dX1_init_12 : decode cX1_init 12 = .ok (.aload_n 0, 1) := by decide +kernel
theorem dX1_init_13 : decode cX1_init 13 = .ok (.bipush 10, 2) := by decide +kernel
theorem dX1_init_15 : decode cX1_init 15 = .ok (.newarray .int, 2) := by decide +kernel
theorem dX1_init_17 : decode cX1_init 17 = .ok (.putfield 17, 3) := by decide +kernel
theorem dX1_init_20 : decode cX1_init 20 = .ok (.aload_n 0, 1) := by decide +kernel
theorem dX1_init_21 : decode cX1_init 21 = .ok (.bipush 10, 2) := by decide +kernel
theorem dX1_init_23 : decode cX1_init 23 = .ok (.newarray .int, 2) := by decide +kernel
theorem dX1_init_25 : decode cX1_init 25 = .ok (.putfield 20, 3) := by decide +kernel
theorem dX1_init_28 : decode cX1_init 28 = .ok (.aload_n 0, 1) := by decide +kernel
theorem dX1_init_29 : decode cX1_init 29 = .ok (.bipush 10, 2) := by decide +kernel
theorem dX1_init_31 : decode cX1_init 31 = .ok (.newarray .int, 2) := by decide +kernel
theorem dX1_init_33 : decode cX1_init 33 = .ok (.putfield 23, 3) := by decide +kernel
theorem dX1_init_36 : decode cX1_init 36 = .ok (.aload_n 0, 1) := by decide +kernel
theorem dX1_init_37 : decode cX1_init 37 = .ok (.bipush 10, 2) := by decide +kernel
theorem dX1_init_39 : decode cX1_init 39 = .ok (.newarray .long, 2) := by decide +kernel
theorem dX1_init_41 : decode cX1_init 41 = .ok (.putfield 26, 3) := by decide +kernel
theorem dX1_init_44 : decode cX1_init 44 = .ok (.aload_n 0, 1) := by decide +kernel
theorem dX1_init_45 : decode cX1_init 45 = .ok (.iconst 4, 1) := by decide +kernel
theorem dX1_init_46 : decode cX1_init 46 = .ok (.newarray .int, 2) := by decide +kernel
theorem dX1_init_48 : decode cX1_init 48 = .ok (.putfield 30, 3) := by decide +kernel
theorem dX1_init_51 : decode cX1_init 51 = .ok (.aload_n 0, 1) := by decide +kernel
theorem dX1_init_52 : decode cX1_init 52 = .ok (.iconst 4, 1) := by decide +kernel
theorem dX1_init_53 : decode cX1_init 53 = .ok (.newarray .int, 2) := by decide +kernel
theorem dX1_init_55 : decode cX1_init 55 = .ok (.putfield 33, 3) := by decide +kernel
theorem dX1_init_58 : decode cX1_init 58 = .ok (.aload_n 0, 1) := by decide +kernel
theorem dX1_init_59 : decode cX1_init 59 = .ok (.bipush 48, 2) := by decide +kernel
theorem dX1_init_61 : decode cX1_init 61 = .ok (.newarray .int, 2) := by decide +kernel
theorem dX1_init_63 : decode cX1_init 63 = .ok (.putfield 36, 3) := by decide +kernel
theorem dX1_init_66 : decode cX1_init 66 = .ok (.aload_n 0, 1) := by decide +kernel
theorem dX1_init_67 : decode cX1_init 67 = .ok (.aload_n 1, 1) := by decide +kernel
theorem dX1_init_68 : decode cX1_init 68 = .ok (.putfield 39, 3) := by decide +kernel
theorem dX1_init_71 : decode cX1_init 71 = .ok (.aload_n 0, 1) := by decide +kernel
theorem dX1_init_72 : decode cX1_init 72 = .ok (.aload_n 2, 1) := by decide +kernel
theorem dX1_init_73 : decode cX1_init 73 = .ok (.putfield 43, 3) := by decide +kernel
theorem dX1_init_76 : decode cX1_init 76 = .ok (.return_, 1) := by decide +kernel
theorem dX1_choose_0 : decode cX1_choose 0 = .ok (.aload_n 0, 1) := by decide +kernel
theorem dX1_choose_1 : decode cX1_choose 1 = .ok (.iload_n 1, 1) := by decide +kernel
theorem dX1_choose_2 : decode cX1_choose 2 = .ok (.putfield 47, 3) := by decide +kernel
theorem dX1_choose_5 : decode cX1_choose 5 = .ok (.aload_n 0, 1) := by decide +kernel
theorem dX1_choose_6 : decode cX1_choose 6 = .ok (.iload_n 2, 1) := by decide +kernel
theorem dX1_choose_7 : decode cX1_choose 7 = .ok (.putfield 51, 3) := by decide +kernel
theorem dX1_choose_10 : decode cX1_choose 10 = .ok (.aload_n 0, 1) := by decide +kernel
theorem dX1_choose_11 : decode cX1_choose 11 = .ok (.aload_n 3, 1) := by decide +kernel
theorem dX1_choose_12 : decode cX1_choose 12 = .ok (.putfield 54, 3) := by decide +kernel
theorem dX1_choose_15 : decode cX1_choose 15 = .ok (.aload_n 0, 1) := by decide +kernel
theorem dX1_choose_16 : decode cX1_choose 16 = .ok (.iconst (-1), 1) := by decide +kernel
theorem dX1_choose_17 : decode cX1_choose 17 = .ok (.putfield 58, 3) := by decide +kernel
theorem dX1_choose_20 : decode cX1_choose 20 = .ok (.return_, 1) := by decide +kernel
theorem dX1_lose_0 : decode cX1_lose 0 = .ok (.aload_n 0, 1) := by decide +kernel
theorem dX1_lose_1 : decode cX1_lose 1 = .ok (.iload_n 1, 1) := by decide +kernel
theorem dX1_lose_2 : decode cX1_lose 2 = .ok (.putfield 58, 3) := by decide +kernel
theorem dX1_lose_5 : decode cX1_lose 5 = .ok (.aload_n 0, 1) := by decide +kernel
theorem dX1_lose_6 : decode cX1_lose 6 = .ok (.iload_n 2, 1) := by decide +kernel
theorem dX1_lose_7 : decode cX1_lose 7 = .ok (.putfield 61, 3) := by decide +kernel
theorem dX1_lose_10 : decode cX1_lose 10 = .ok (.return_, 1) := by decide +kernel
theorem dX1_readPlan_0 : decode cX1_readPlan 0 = .ok (.aload_n 0, 1) := by decide +kernel
theorem dX1_readPlan_1 : decode cX1_readPlan 1 = .ok (.getfield 26, 3) := by decide +kernel
theorem dX1_readPlan_4 : decode cX1_readPlan 4 = .ok (.lconst 0, 1) := by decide +kernel
theorem dX1_readPlan_5 : decode cX1_readPlan 5 = .ok (.invokestatic 64, 3) := by decide +kernel
theorem dX1_readPlan_8 : decode cX1_readPlan 8 = .ok (.iconst 0, 1) := by decide +kernel
theorem dX1_readPlan_9 : decode cX1_readPlan 9 = .ok (.istore_n 2, 1) := by decide +kernel
theorem dX1_readPlan_10 : decode cX1_readPlan 10 = .ok (.iload_n 2, 1) := by decide +kernel
theorem dX1_readPlan_11 : decode cX1_readPlan 11 = .ok (.iconst 1, 1) := by decide +kernel
theorem dX1_readPlan_12 : decode cX1_readPlan 12 = .ok (.iadd, 1) := by decide +kernel
theorem dX1_readPlan_13 : decode cX1_readPlan 13 = .ok (.aload_n 1, 1) := by decide +kernel
theorem dX1_readPlan_14 : decode cX1_readPlan 14 = .ok (.getfield 70, 3) := by decide +kernel
theorem dX1_readPlan_17 : decode cX1_readPlan 17 = .ok (.if_icmp .ge 60, 3) := by decide +kernel
theorem dX1_readPlan_20 : decode cX1_readPlan 20 = .ok (.aload_n 1, 1) := by decide +kernel
theorem dX1_readPlan_21 : decode cX1_readPlan 21 = .ok (.getfield 75, 3) := by decide +kernel
theorem dX1_readPlan_24 : decode cX1_readPlan 24 = .ok (.iload_n 2, 1) := by decide +kernel
theorem dX1_readPlan_25 : decode cX1_readPlan 25 = .ok (.iaload, 1) := by decide +kernel
theorem dX1_readPlan_26 : decode cX1_readPlan 26 = .ok (.istore_n 3, 1) := by decide +kernel
theorem dX1_readPlan_27 : decode cX1_readPlan 27 = .ok (.aload_n 1, 1) := by decide +kernel
theorem dX1_readPlan_28 : decode cX1_readPlan 28 = .ok (.getfield 75, 3) := by decide +kernel
theorem dX1_readPlan_31 : decode cX1_readPlan 31 = .ok (.iload_n 2, 1) := by decide +kernel
theorem dX1_readPlan_32 : decode cX1_readPlan 32 = .ok (.iconst 1, 1) := by decide +kernel
theorem dX1_readPlan_33 : decode cX1_readPlan 33 = .ok (.iadd, 1) := by decide +kernel
theorem dX1_readPlan_34 : decode cX1_readPlan 34 = .ok (.iaload, 1) := by decide +kernel
theorem dX1_readPlan_35 : decode cX1_readPlan 35 = .ok (.istore 4, 2) := by decide +kernel
theorem dX1_readPlan_37 : decode cX1_readPlan 37 = .ok (.iload_n 3, 1) := by decide +kernel
theorem dX1_readPlan_38 : decode cX1_readPlan 38 = .ok (.aload_n 0, 1) := by decide +kernel
theorem dX1_readPlan_39 : decode cX1_readPlan 39 = .ok (.getfield 51, 3) := by decide +kernel
theorem dX1_readPlan_42 : decode cX1_readPlan 42 = .ok (.invokestatic 78, 3) := by decide +kernel
theorem dX1_readPlan_45 : decode cX1_readPlan 45 = .ok (.ifCond .ne 26, 3) := by decide +kernel
theorem dX1_readPlan_48 : decode cX1_readPlan 48 = .ok (.iload 4, 2) := by decide +kernel
theorem dX1_readPlan_50 : decode cX1_readPlan 50 = .ok (.bipush 48, 2) := by decide +kernel
theorem dX1_readPlan_52 : decode cX1_readPlan 52 = .ok (.invokestatic 78, 3) := by decide +kernel
theorem dX1_readPlan_55 : decode cX1_readPlan 55 = .ok (.ifCond .ne 16, 3) := by decide +kernel
theorem dX1_readPlan_58 : decode cX1_readPlan 58 = .ok (.aload_n 0, 1) := by decide +kernel
theorem dX1_readPlan_59 : decode cX1_readPlan 59 = .ok (.getfield 26, 3) := by decide +kernel
theorem dX1_readPlan_62 : decode cX1_readPlan 62 = .ok (.iload_n 3, 1) := by decide +kernel
theorem dX1_readPlan_63 : decode cX1_readPlan 63 = .ok (.dup2, 1) := by decide +kernel
theorem dX1_readPlan_64 : decode cX1_readPlan 64 = .ok (.laload, 1) := by decide +kernel
theorem dX1_readPlan_65 : decode cX1_readPlan 65 = .ok (.lconst 1, 1) := by decide +kernel
theorem dX1_readPlan_66 : decode cX1_readPlan 66 = .ok (.iload 4, 2) := by decide +kernel
theorem dX1_readPlan_68 : decode cX1_readPlan 68 = .ok (.lshl, 1) := by decide +kernel
theorem dX1_readPlan_69 : decode cX1_readPlan 69 = .ok (.lor, 1) := by decide +kernel
theorem dX1_readPlan_70 : decode cX1_readPlan 70 = .ok (.lastore, 1) := by decide +kernel
theorem dX1_readPlan_71 : decode cX1_readPlan 71 = .ok (.iinc 2 2, 3) := by decide +kernel
theorem dX1_readPlan_74 : decode cX1_readPlan 74 = .ok (.goto (-64), 3) := by decide +kernel
theorem dX1_readPlan_77 : decode cX1_readPlan 77 = .ok (.return_, 1) := by decide +kernel
theorem dX1_start_0 : decode cX1_start 0 = .ok (.aload_n 0, 1) := by decide +kernel
theorem dX1_start_1 : decode cX1_start 1 = .ok (.getfield 17, 3) := by decide +kernel
theorem dX1_start_4 : decode cX1_start 4 = .ok (.iconst 0, 1) := by decide +kernel
theorem dX1_start_5 : decode cX1_start 5 = .ok (.invokestatic 82, 3) := by decide +kernel
theorem dX1_start_8 : decode cX1_start 8 = .ok (.aload_n 0, 1) := by decide +kernel
theorem dX1_start_9 : decode cX1_start 9 = .ok (.getfield 20, 3) := by decide +kernel
theorem dX1_start_12 : decode cX1_start 12 = .ok (.iconst 0, 1) := by decide +kernel
theorem dX1_start_13 : decode cX1_start 13 = .ok (.invokestatic 82, 3) := by decide +kernel
theorem dX1_start_16 : decode cX1_start 16 = .ok (.aload_n 0, 1) := by decide +kernel
theorem dX1_start_17 : decode cX1_start 17 = .ok (.getfield 23, 3) := by decide +kernel
theorem dX1_start_20 : decode cX1_start 20 = .ok (.iconst 0, 1) := by decide +kernel
theorem dX1_start_21 : decode cX1_start 21 = .ok (.invokestatic 82, 3) := by decide +kernel
theorem dX1_start_24 : decode cX1_start 24 = .ok (.aload_n 0, 1) := by decide +kernel
theorem dX1_start_25 : decode cX1_start 25 = .ok (.getfield 30, 3) := by decide +kernel
theorem dX1_start_28 : decode cX1_start 28 = .ok (.iconst 0, 1) := by decide +kernel
theorem dX1_start_29 : decode cX1_start 29 = .ok (.invokestatic 82, 3) := by decide +kernel
theorem dX1_start_32 : decode cX1_start 32 = .ok (.aload_n 0, 1) := by decide +kernel
theorem dX1_start_33 : decode cX1_start 33 = .ok (.getfield 33, 3) := by decide +kernel
theorem dX1_start_36 : decode cX1_start 36 = .ok (.iconst 0, 1) := by decide +kernel
theorem dX1_start_37 : decode cX1_start 37 = .ok (.invokestatic 82, 3) := by decide +kernel
theorem dX1_start_40 : decode cX1_start 40 = .ok (.iconst 0, 1) := by decide +kernel
theorem dX1_start_41 : decode cX1_start 41 = .ok (.istore_n 1, 1) := by decide +kernel
theorem dX1_start_42 : decode cX1_start 42 = .ok (.iload_n 1, 1) := by decide +kernel
theorem dX1_start_43 : decode cX1_start 43 = .ok (.aload_n 0, 1) := by decide +kernel
theorem dX1_start_44 : decode cX1_start 44 = .ok (.getfield 51, 3) := by decide +kernel
theorem dX1_start_47 : decode cX1_start 47 = .ok (.if_icmp .ge 29, 3) := by decide +kernel
theorem dX1_start_50 : decode cX1_start 50 = .ok (.aload_n 0, 1) := by decide +kernel
theorem dX1_start_51 : decode cX1_start 51 = .ok (.getfield 30, 3) := by decide +kernel
theorem dX1_start_54 : decode cX1_start 54 = .ok (.aload_n 0, 1) := by decide +kernel
theorem dX1_start_55 : decode cX1_start 55 = .ok (.getfield 39, 3) := by decide +kernel
theorem dX1_start_58 : decode cX1_start 58 = .ok (.getfield 85, 3) := by decide +kernel
theorem dX1_start_61 : decode cX1_start 61 = .ok (.iload_n 1, 1) := by decide +kernel
theorem dX1_start_62 : decode cX1_start 62 = .ok (.iaload, 1) := by decide +kernel
theorem dX1_start_63 : decode cX1_start 63 = .ok (.dup2, 1) := by decide +kernel
theorem dX1_start_64 : decode cX1_start 64 = .ok (.iaload, 1) := by decide +kernel
theorem dX1_start_65 : decode cX1_start 65 = .ok (.iconst 1, 1) := by decide +kernel
theorem dX1_start_66 : decode cX1_start 66 = .ok (.iload_n 1, 1) := by decide +kernel
theorem dX1_start_67 : decode cX1_start 67 = .ok (.ishl, 1) := by decide +kernel
theorem dX1_start_68 : decode cX1_start 68 = .ok (.ior, 1) := by decide +kernel
theorem dX1_start_69 : decode cX1_start 69 = .ok (.iastore, 1) := by decide +kernel
theorem dX1_start_70 : decode cX1_start 70 = .ok (.iinc 1 1, 3) := by decide +kernel
theorem dX1_start_73 : decode cX1_start 73 = .ok (.goto (-31), 3) := by decide +kernel
theorem dX1_start_76 : decode cX1_start 76 = .ok (.aload_n 0, 1) := by decide +kernel
theorem dX1_start_77 : decode cX1_start 77 = .ok (.iconst 1, 1) := by decide +kernel
theorem dX1_start_78 : decode cX1_start 78 = .ok (.aload_n 0, 1) := by decide +kernel
theorem dX1_start_79 : decode cX1_start 79 = .ok (.getfield 51, 3) := by decide +kernel
theorem dX1_start_82 : decode cX1_start 82 = .ok (.ishl, 1) := by decide +kernel
theorem dX1_start_83 : decode cX1_start 83 = .ok (.iconst 1, 1) := by decide +kernel
theorem dX1_start_84 : decode cX1_start 84 = .ok (.isub, 1) := by decide +kernel
theorem dX1_start_85 : decode cX1_start 85 = .ok (.putfield 90, 3) := by decide +kernel
theorem dX1_start_88 : decode cX1_start 88 = .ok (.return_, 1) := by decide +kernel
theorem dX1_advance_0 : decode cX1_advance 0 = .ok (.iconst 0, 1) := by decide +kernel
theorem dX1_advance_1 : decode cX1_advance 1 = .ok (.istore_n 3, 1) := by decide +kernel
theorem dX1_advance_2 : decode cX1_advance 2 = .ok (.iconst 0, 1) := by decide +kernel
theorem dX1_advance_3 : decode cX1_advance 3 = .ok (.istore 4, 2) := by decide +kernel
theorem dX1_advance_5 : decode cX1_advance 5 = .ok (.iload 4, 2) := by decide +kernel
theorem dX1_advance_7 : decode cX1_advance 7 = .ok (.aload_n 0, 1) := by decide +kernel
theorem dX1_advance_8 : decode cX1_advance 8 = .ok (.getfield 51, 3) := by decide +kernel
theorem dX1_advance_11 : decode cX1_advance 11 = .ok (.if_icmp .ge 135, 3) := by decide +kernel
theorem dX1_advance_14 : decode cX1_advance 14 = .ok (.iload 4, 2) := by decide +kernel
theorem dX1_advance_16 : decode cX1_advance 16 = .ok (.aload_n 0, 1) := by decide +kernel
theorem dX1_advance_17 : decode cX1_advance 17 = .ok (.getfield 58, 3) := by decide +kernel
theorem dX1_advance_20 : decode cX1_advance 20 = .ok (.if_icmp .ne 14, 3) := by decide +kernel
theorem dX1_advance_23 : decode cX1_advance 23 = .ok (.iload_n 1, 1) := by decide +kernel
theorem dX1_advance_24 : decode cX1_advance 24 = .ok (.aload_n 0, 1) := by decide +kernel
theorem dX1_advance_25 : decode cX1_advance 25 = .ok (.getfield 61, 3) := by decide +kernel
theorem dX1_advance_28 : decode cX1_advance 28 = .ok (.if_icmp .lt 6, 3) := by decide +kernel
theorem dX1_advance_31 : decode cX1_advance 31 = .ok (.goto 109, 3) := by decide +kernel
theorem dX1_advance_34 : decode cX1_advance 34 = .ok (.aload_n 0, 1) := by decide +kernel
theorem dX1_advance_35 : decode cX1_advance 35 = .ok (.getfield 20, 3) := by decide +kernel
theorem dX1_advance_38 : decode cX1_advance 38 = .ok (.iload 4, 2) := by decide +kernel
theorem dX1_advance_40 : decode cX1_advance 40 = .ok (.iaload, 1) := by decide +kernel
theorem dX1_advance_41 : decode cX1_advance 41 = .ok (.ifCond .ne 57, 3) := by decide +kernel
theorem dX1_advance_44 : decode cX1_advance 44 = .ok (.aload_n 0, 1) := by decide +kernel
theorem dX1_advance_45 : decode cX1_advance 45 = .ok (.iload 4, 2) := by decide +kernel
theorem dX1_advance_47 : decode cX1_advance 47 = .ok (.iload_n 1, 1) := by decide +kernel
theorem dX1_advance_48 : decode cX1_advance 48 = .ok (.iload_n 2, 1) := by decide +kernel
theorem dX1_advance_49 : decode cX1_advance 49 = .ok (.invokevirtual 93, 3) := by decide +kernel
theorem dX1_advance_52 : decode cX1_advance 52 = .ok (.ifCond .eq 46, 3) := by decide +kernel
theorem dX1_advance_55 : decode cX1_advance 55 = .ok (.aload_n 0, 1) := by decide +kernel
theorem dX1_advance_56 : decode cX1_advance 56 = .ok (.getfield 20, 3) := by decide +kernel
theorem dX1_advance_59 : decode cX1_advance 59 = .ok (.iload 4, 2) := by decide +kernel
theorem dX1_advance_61 : decode cX1_advance 61 = .ok (.aload_n 0, 1) := by decide +kernel
theorem dX1_advance_62 : decode cX1_advance 62 = .ok (.getfield 43, 3) := by decide +kernel
theorem dX1_advance_65 : decode cX1_advance 65 = .ok (.iload 4, 2) := by decide +kernel
theorem dX1_advance_67 : decode cX1_advance 67 = .ok (.aaload, 1) := by decide +kernel
theorem dX1_advance_68 : decode cX1_advance 68 = .ok (.aload_n 0, 1) := by decide +kernel
theorem dX1_advance_69 : decode cX1_advance 69 = .ok (.getfield 23, 3) := by decide +kernel
theorem dX1_advance_72 : decode cX1_advance 72 = .ok (.iload 4, 2) := by decide +kernel
theorem dX1_advance_74 : decode cX1_advance 74 = .ok (.iaload, 1) := by decide +kernel
theorem dX1_advance_75 : decode cX1_advance 75 = .ok (.invokevirtual 97, 3) := by decide +kernel
theorem dX1_advance_78 : decode cX1_advance 78 = .ok (.iastore, 1) := by decide +kernel
theorem dX1_advance_79 : decode cX1_advance 79 = .ok (.aload_n 0, 1) := by decide +kernel
theorem dX1_advance_80 : decode cX1_advance 80 = .ok (.getfield 23, 3) := by decide +kernel
theorem dX1_advance_83 : decode cX1_advance 83 = .ok (.iload 4, 2) := by decide +kernel
theorem dX1_advance_85 : decode cX1_advance 85 = .ok (.dup2, 1) := by decide +kernel
theorem dX1_advance_86 : decode cX1_advance 86 = .ok (.iaload, 1) := by decide +kernel
theorem dX1_advance_87 : decode cX1_advance 87 = .ok (.iconst 1, 1) := by decide +kernel
theorem dX1_advance_88 : decode cX1_advance 88 = .ok (.iadd, 1) := by decide +kernel
theorem dX1_advance_89 : decode cX1_advance 89 = .ok (.iastore, 1) := by decide +kernel
theorem dX1_advance_90 : decode cX1_advance 90 = .ok (.aload_n 0, 1) := by decide +kernel
theorem dX1_advance_91 : decode cX1_advance 91 = .ok (.getfield 17, 3) := by decide +kernel
theorem dX1_advance_94 : decode cX1_advance 94 = .ok (.iload 4, 2) := by decide +kernel
theorem dX1_advance_96 : decode cX1_advance 96 = .ok (.iconst 0, 1) := by decide +kernel
theorem dX1_advance_97 : decode cX1_advance 97 = .ok (.iastore, 1) := by decide +kernel
theorem dX1_advance_98 : decode cX1_advance 98 = .ok (.aload_n 0, 1) := by decide +kernel
theorem dX1_advance_99 : decode cX1_advance 99 = .ok (.getfield 20, 3) := by decide +kernel
theorem dX1_advance_102 : decode cX1_advance 102 = .ok (.iload 4, 2) := by decide +kernel
theorem dX1_advance_104 : decode cX1_advance 104 = .ok (.iaload, 1) := by decide +kernel
theorem dX1_advance_105 : decode cX1_advance 105 = .ok (.ifCond .le 17, 3) := by decide +kernel
theorem dX1_advance_108 : decode cX1_advance 108 = .ok (.aload_n 0, 1) := by decide +kernel
theorem dX1_advance_109 : decode cX1_advance 109 = .ok (.getfield 20, 3) := by decide +kernel
theorem dX1_advance_112 : decode cX1_advance 112 = .ok (.iload 4, 2) := by decide +kernel
theorem dX1_advance_114 : decode cX1_advance 114 = .ok (.dup2, 1) := by decide +kernel
theorem dX1_advance_115 : decode cX1_advance 115 = .ok (.iaload, 1) := by decide +kernel
theorem dX1_advance_116 : decode cX1_advance 116 = .ok (.iconst 1, 1) := by decide +kernel
theorem dX1_advance_117 : decode cX1_advance 117 = .ok (.isub, 1) := by decide +kernel
theorem dX1_advance_118 : decode cX1_advance 118 = .ok (.iastore, 1) := by decide +kernel
theorem dX1_advance_119 : decode cX1_advance 119 = .ok (.goto 21, 3) := by decide +kernel
theorem dX1_advance_122 : decode cX1_advance 122 = .ok (.aload_n 0, 1) := by decide +kernel
theorem dX1_advance_123 : decode cX1_advance 123 = .ok (.getfield 17, 3) := by decide +kernel
theorem dX1_advance_126 : decode cX1_advance 126 = .ok (.iload 4, 2) := by decide +kernel
theorem dX1_advance_128 : decode cX1_advance 128 = .ok (.dup2, 1) := by decide +kernel
theorem dX1_advance_129 : decode cX1_advance 129 = .ok (.iaload, 1) := by decide +kernel
theorem dX1_advance_130 : decode cX1_advance 130 = .ok (.iconst 1, 1) := by decide +kernel
theorem dX1_advance_131 : decode cX1_advance 131 = .ok (.iadd, 1) := by decide +kernel
theorem dX1_advance_132 : decode cX1_advance 132 = .ok (.iastore, 1) := by decide +kernel
theorem dX1_advance_133 : decode cX1_advance 133 = .ok (.iload_n 3, 1) := by decide +kernel
theorem dX1_advance_134 : decode cX1_advance 134 = .ok (.iconst 1, 1) := by decide +kernel
theorem dX1_advance_135 : decode cX1_advance 135 = .ok (.iload 4, 2) := by decide +kernel
theorem dX1_advance_137 : decode cX1_advance 137 = .ok (.ishl, 1) := by decide +kernel
theorem dX1_advance_138 : decode cX1_advance 138 = .ok (.ior, 1) := by decide +kernel
theorem dX1_advance_139 : decode cX1_advance 139 = .ok (.istore_n 3, 1) := by decide +kernel
theorem dX1_advance_140 : decode cX1_advance 140 = .ok (.iinc 4 1, 3) := by decide +kernel
theorem dX1_advance_143 : decode cX1_advance 143 = .ok (.goto (-138), 3) := by decide +kernel
theorem dX1_advance_146 : decode cX1_advance 146 = .ok (.aload_n 0, 1) := by decide +kernel
theorem dX1_advance_147 : decode cX1_advance 147 = .ok (.iload_n 3, 1) := by decide +kernel
theorem dX1_advance_148 : decode cX1_advance 148 = .ok (.putfield 90, 3) := by decide +kernel
theorem dX1_advance_151 : decode cX1_advance 151 = .ok (.iconst 0, 1) := by decide +kernel
theorem dX1_advance_152 : decode cX1_advance 152 = .ok (.istore 4, 2) := by decide +kernel
theorem dX1_advance_154 : decode cX1_advance 154 = .ok (.iload 4, 2) := by decide +kernel
theorem dX1_advance_156 : decode cX1_advance 156 = .ok (.iconst 4, 1) := by decide +kernel
theorem dX1_advance_157 : decode cX1_advance 157 = .ok (.if_icmp .ge 48, 3) := by decide +kernel
theorem dX1_advance_160 : decode cX1_advance 160 = .ok (.aload_n 0, 1) := by decide +kernel
theorem dX1_advance_161 : decode cX1_advance 161 = .ok (.getfield 33, 3) := by decide +kernel
theorem dX1_advance_164 : decode cX1_advance 164 = .ok (.iload 4, 2) := by decide +kernel
theorem dX1_advance_166 : decode cX1_advance 166 = .ok (.aload_n 0, 1) := by decide +kernel
theorem dX1_advance_167 : decode cX1_advance 167 = .ok (.iload 4, 2) := by decide +kernel
theorem dX1_advance_169 : decode cX1_advance 169 = .ok (.invokevirtual 103, 3) := by decide +kernel
theorem dX1_advance_172 : decode cX1_advance 172 = .ok (.aload_n 0, 1) := by decide +kernel
theorem dX1_advance_173 : decode cX1_advance 173 = .ok (.getfield 39, 3) := by decide +kernel
theorem dX1_advance_176 : decode cX1_advance 176 = .ok (.getfield 106, 3) := by decide +kernel
theorem dX1_advance_179 : decode cX1_advance 179 = .ok (.iload 4, 2) := by decide +kernel
theorem dX1_advance_181 : decode cX1_advance 181 = .ok (.iaload, 1) := by decide +kernel
theorem dX1_advance_182 : decode cX1_advance 182 = .ok (.if_icmp .ge 15, 3) := by decide +kernel
theorem dX1_advance_185 : decode cX1_advance 185 = .ok (.aload_n 0, 1) := by decide +kernel
theorem dX1_advance_186 : decode cX1_advance 186 = .ok (.getfield 33, 3) := by decide +kernel
theorem dX1_advance_189 : decode cX1_advance 189 = .ok (.iload 4, 2) := by decide +kernel
theorem dX1_advance_191 : decode cX1_advance 191 = .ok (.iaload, 1) := by decide +kernel
theorem dX1_advance_192 : decode cX1_advance 192 = .ok (.iconst 1, 1) := by decide +kernel
theorem dX1_advance_193 : decode cX1_advance 193 = .ok (.iadd, 1) := by decide +kernel
theorem dX1_advance_194 : decode cX1_advance 194 = .ok (.goto 4, 3) := by decide +kernel
theorem dX1_advance_197 : decode cX1_advance 197 = .ok (.iconst 0, 1) := by decide +kernel
theorem dX1_advance_198 : decode cX1_advance 198 = .ok (.iastore, 1) := by decide +kernel
theorem dX1_advance_199 : decode cX1_advance 199 = .ok (.iinc 4 1, 3) := by decide +kernel
theorem dX1_advance_202 : decode cX1_advance 202 = .ok (.goto (-48), 3) := by decide +kernel
theorem dX1_advance_205 : decode cX1_advance 205 = .ok (.return_, 1) := by decide +kernel
theorem dX1_begins_0 : decode cX1_begins 0 = .ok (.aload_n 0, 1) := by decide +kernel
theorem dX1_begins_1 : decode cX1_begins 1 = .ok (.getfield 47, 3) := by decide +kernel
theorem dX1_begins_4 : decode cX1_begins 4 = .ok (.iconst 1, 1) := by decide +kernel
theorem dX1_begins_5 : decode cX1_begins 5 = .ok (.if_icmp .ne 28, 3) := by decide +kernel
theorem dX1_begins_8 : decode cX1_begins 8 = .ok (.iload_n 2, 1) := by decide +kernel
theorem dX1_begins_9 : decode cX1_begins 9 = .ok (.bipush 48, 2) := by decide +kernel
theorem dX1_begins_11 : decode cX1_begins 11 = .ok (.if_icmp .ge 20, 3) := by decide +kernel
theorem dX1_begins_14 : decode cX1_begins 14 = .ok (.aload_n 0, 1) := by decide +kernel
theorem dX1_begins_15 : decode cX1_begins 15 = .ok (.getfield 39, 3) := by decide +kernel
theorem dX1_begins_18 : decode cX1_begins 18 = .ok (.getfield 109, 3) := by decide +kernel
theorem dX1_begins_21 : decode cX1_begins 21 = .ok (.iload_n 2, 1) := by decide +kernel
theorem dX1_begins_22 : decode cX1_begins 22 = .ok (.iaload, 1) := by decide +kernel
theorem dX1_begins_23 : decode cX1_begins 23 = .ok (.iconst 1, 1) := by decide +kernel
theorem dX1_begins_24 : decode cX1_begins 24 = .ok (.if_icmp .ne 7, 3) := by decide +kernel
theorem dX1_begins_27 : decode cX1_begins 27 = .ok (.iconst 1, 1) := by decide +kernel
theorem dX1_begins_28 : decode cX1_begins 28 = .ok (.goto 4, 3) := by decide +kernel
theorem dX1_begins_31 : decode cX1_begins 31 = .ok (.iconst 0, 1) := by decide +kernel
theorem dX1_begins_32 : decode cX1_begins 32 = .ok (.ireturn, 1) := by decide +kernel
theorem dX1_begins_33 : decode cX1_begins 33 = .ok (.aload_n 0, 1) := by decide +kernel
theorem dX1_begins_34 : decode cX1_begins 34 = .ok (.getfield 47, 3) := by decide +kernel
theorem dX1_begins_37 : decode cX1_begins 37 = .ok (.invokestatic 112, 3) := by decide +kernel
theorem dX1_begins_40 : decode cX1_begins 40 = .ok (.ifCond .eq 32, 3) := by decide +kernel
theorem dX1_begins_43 : decode cX1_begins 43 = .ok (.iload_n 2, 1) := by decide +kernel
theorem dX1_begins_44 : decode cX1_begins 44 = .ok (.bipush 48, 2) := by decide +kernel
theorem dX1_begins_46 : decode cX1_begins 46 = .ok (.if_icmp .ge 24, 3) := by decide +kernel
theorem dX1_begins_49 : decode cX1_begins 49 = .ok (.aload_n 0, 1) := by decide +kernel
theorem dX1_begins_50 : decode cX1_begins 50 = .ok (.getfield 26, 3) := by decide +kernel
theorem dX1_begins_53 : decode cX1_begins 53 = .ok (.iload_n 1, 1) := by decide +kernel
theorem dX1_begins_54 : decode cX1_begins 54 = .ok (.laload, 1) := by decide +kernel
theorem dX1_begins_55 : decode cX1_begins 55 = .ok (.iload_n 2, 1) := by decide +kernel
theorem dX1_begins_56 : decode cX1_begins 56 = .ok (.lshr, 1) := by decide +kernel
theorem dX1_begins_57 : decode cX1_begins 57 = .ok (.ldc2_w 116, 3) := by decide +kernel
theorem dX1_begins_60 : decode cX1_begins 60 = .ok (.lrem, 1) := by decide +kernel
theorem dX1_begins_61 : decode cX1_begins 61 = .ok (.lconst 1, 1) := by decide +kernel
theorem dX1_begins_62 : decode cX1_begins 62 = .ok (.lcmp, 1) := by decide +kernel
theorem dX1_begins_63 : decode cX1_begins 63 = .ok (.ifCond .ne 7, 3) := by decide +kernel
theorem dX1_begins_66 : decode cX1_begins 66 = .ok (.iconst 1, 1) := by decide +kernel
theorem dX1_begins_67 : decode cX1_begins 67 = .ok (.goto 4, 3) := by decide +kernel
theorem dX1_begins_70 : decode cX1_begins 70 = .ok (.iconst 0, 1) := by decide +kernel
theorem dX1_begins_71 : decode cX1_begins 71 = .ok (.ireturn, 1) := by decide +kernel
theorem dX1_begins_72 : decode cX1_begins 72 = .ok (.aload_n 0, 1) := by decide +kernel
theorem dX1_begins_73 : decode cX1_begins 73 = .ok (.getfield 17, 3) := by decide +kernel
theorem dX1_begins_76 : decode cX1_begins 76 = .ok (.iload_n 1, 1) := by decide +kernel
theorem dX1_begins_77 : decode cX1_begins 77 = .ok (.iaload, 1) := by decide +kernel
theorem dX1_begins_78 : decode cX1_begins 78 = .ok (.aload_n 0, 1) := by decide +kernel
theorem dX1_begins_79 : decode cX1_begins 79 = .ok (.getfield 43, 3) := by decide +kernel
theorem dX1_begins_82 : decode cX1_begins 82 = .ok (.iload_n 1, 1) := by decide +kernel
theorem dX1_begins_83 : decode cX1_begins 83 = .ok (.aaload, 1) := by decide +kernel
theorem dX1_begins_84 : decode cX1_begins 84 = .ok (.iload_n 3, 1) := by decide +kernel
theorem dX1_begins_85 : decode cX1_begins 85 = .ok (.aload_n 0, 1) := by decide +kernel
theorem dX1_begins_86 : decode cX1_begins 86 = .ok (.getfield 23, 3) := by decide +kernel
theorem dX1_begins_89 : decode cX1_begins 89 = .ok (.iload_n 1, 1) := by decide +kernel
theorem dX1_begins_90 : decode cX1_begins 90 = .ok (.iaload, 1) := by decide +kernel
theorem dX1_begins_91 : decode cX1_begins 91 = .ok (.invokevirtual 118, 3) := by decide +kernel
theorem dX1_begins_94 : decode cX1_begins 94 = .ok (.if_icmp .ge 20, 3) := by decide +kernel
theorem dX1_begins_97 : decode cX1_begins 97 = .ok (.aload_n 0, 1) := by decide +kernel
theorem dX1_begins_98 : decode cX1_begins 98 = .ok (.getfield 47, 3) := by decide +kernel
theorem dX1_begins_101 : decode cX1_begins 101 = .ok (.ifCond .ne 17, 3) := by decide +kernel
theorem dX1_begins_104 : decode cX1_begins 104 = .ok (.aload_n 0, 1) := by decide +kernel
theorem dX1_begins_105 : decode cX1_begins 105 = .ok (.iload_n 1, 1) := by decide +kernel
theorem dX1_begins_106 : decode cX1_begins 106 = .ok (.iload_n 2, 1) := by decide +kernel
theorem dX1_begins_107 : decode cX1_begins 107 = .ok (.iload_n 3, 1) := by decide +kernel
theorem dX1_begins_108 : decode cX1_begins 108 = .ok (.invokevirtual 122, 3) := by decide +kernel
theorem dX1_begins_111 : decode cX1_begins 111 = .ok (.ifCond .eq 7, 3) := by decide +kernel
theorem dX1_begins_114 : decode cX1_begins 114 = .ok (.iconst 1, 1) := by decide +kernel
theorem dX1_begins_115 : decode cX1_begins 115 = .ok (.goto 4, 3) := by decide +kernel
theorem dX1_begins_118 : decode cX1_begins 118 = .ok (.iconst 0, 1) := by decide +kernel
theorem dX1_begins_119 : decode cX1_begins 119 = .ok (.ireturn, 1) := by decide +kernel
theorem dX1_ruleTells_0 : decode cX1_ruleTells 0 = .ok (.aload_n 0, 1) := by decide +kernel
theorem dX1_ruleTells_1 : decode cX1_ruleTells 1 = .ok (.getfield 39, 3) := by decide +kernel
theorem dX1_ruleTells_4 : decode cX1_ruleTells 4 = .ok (.getfield 85, 3) := by decide +kernel
theorem dX1_ruleTells_7 : decode cX1_ruleTells 7 = .ok (.iload_n 1, 1) := by decide +kernel
theorem dX1_ruleTells_8 : decode cX1_ruleTells 8 = .ok (.iaload, 1) := by decide +kernel
theorem dX1_ruleTells_9 : decode cX1_ruleTells 9 = .ok (.istore 4, 2) := by decide +kernel
theorem dX1_ruleTells_11 : decode cX1_ruleTells 11 = .ok (.aload_n 0, 1) := by decide +kernel
theorem dX1_ruleTells_12 : decode cX1_ruleTells 12 = .ok (.getfield 90, 3) := by decide +kernel
theorem dX1_ruleTells_15 : decode cX1_ruleTells 15 = .ok (.aload_n 0, 1) := by decide +kernel
theorem dX1_ruleTells_16 : decode cX1_ruleTells 16 = .ok (.getfield 30, 3) := by decide +kernel
theorem dX1_ruleTells_19 : decode cX1_ruleTells 19 = .ok (.iload 4, 2) := by decide +kernel
theorem dX1_ruleTells_21 : decode cX1_ruleTells 21 = .ok (.iaload, 1) := by decide +kernel
theorem dX1_ruleTells_22 : decode cX1_ruleTells 22 = .ok (.iand, 1) := by decide +kernel
theorem dX1_ruleTells_23 : decode cX1_ruleTells 23 = .ok (.iconst 1, 1) := by decide +kernel
theorem dX1_ruleTells_24 : decode cX1_ruleTells 24 = .ok (.iload_n 1, 1) := by decide +kernel
theorem dX1_ruleTells_25 : decode cX1_ruleTells 25 = .ok (.ishl, 1) := by decide +kernel
theorem dX1_ruleTells_26 : decode cX1_ruleTells 26 = .ok (.iconst (-1), 1) := by decide +kernel
theorem dX1_ruleTells_27 : decode cX1_ruleTells 27 = .ok (.ixor, 1) := by decide +kernel
theorem dX1_ruleTells_28 : decode cX1_ruleTells 28 = .ok (.iand, 1) := by decide +kernel
theorem dX1_ruleTells_29 : decode cX1_ruleTells 29 = .ok (.invokestatic 125, 3) := by decide +kernel
theorem dX1_ruleTells_32 : decode cX1_ruleTells 32 = .ok (.istore 5, 2) := by decide +kernel
theorem dX1_ruleTells_34 : decode cX1_ruleTells 34 = .ok (.aload_n 0, 1) := by decide +kernel
theorem dX1_ruleTells_35 : decode cX1_ruleTells 35 = .ok (.iload_n 1, 1) := by decide +kernel
theorem dX1_ruleTells_36 : decode cX1_ruleTells 36 = .ok (.iconst 1, 1) := by decide +kernel
theorem dX1_ruleTells_37 : decode cX1_ruleTells 37 = .ok (.isub, 1) := by decide +kernel
theorem dX1_ruleTells_38 : decode cX1_ruleTells 38 = .ok (.invokevirtual 130, 3) := by decide +kernel
theorem dX1_ruleTells_41 : decode cX1_ruleTells 41 = .ok (.invokestatic 133, 3) := by decide +kernel
theorem dX1_ruleTells_44 : decode cX1_ruleTells 44 = .ok (.aload_n 0, 1) := by decide +kernel
theorem dX1_ruleTells_45 : decode cX1_ruleTells 45 = .ok (.iload_n 1, 1) := by decide +kernel
theorem dX1_ruleTells_46 : decode cX1_ruleTells 46 = .ok (.iconst 1, 1) := by decide +kernel
theorem dX1_ruleTells_47 : decode cX1_ruleTells 47 = .ok (.iadd, 1) := by decide +kernel
theorem dX1_ruleTells_48 : decode cX1_ruleTells 48 = .ok (.invokevirtual 130, 3) := by decide +kernel
theorem dX1_ruleTells_51 : decode cX1_ruleTells 51 = .ok (.invokestatic 133, 3) := by decide +kernel
theorem dX1_ruleTells_54 : decode cX1_ruleTells 54 = .ok (.iadd, 1) := by decide +kernel
theorem dX1_ruleTells_55 : decode cX1_ruleTells 55 = .ok (.istore 6, 2) := by decide +kernel
theorem dX1_ruleTells_57 : decode cX1_ruleTells 57 = .ok (.aload_n 0, 1) := by decide +kernel
theorem dX1_ruleTells_58 : decode cX1_ruleTells 58 = .ok (.iload_n 2, 1) := by decide +kernel
theorem dX1_ruleTells_59 : decode cX1_ruleTells 59 = .ok (.iload_n 3, 1) := by decide +kernel
theorem dX1_ruleTells_60 : decode cX1_ruleTells 60 = .ok (.invokevirtual 137, 3) := by decide +kernel
theorem dX1_ruleTells_63 : decode cX1_ruleTells 63 = .ok (.aload_n 0, 1) := by decide +kernel
theorem dX1_ruleTells_64 : decode cX1_ruleTells 64 = .ok (.getfield 11, 3) := by decide +kernel
theorem dX1_ruleTells_67 : decode cX1_ruleTells 67 = .ok (.iconst 0, 1) := by decide +kernel
theorem dX1_ruleTells_68 : decode cX1_ruleTells 68 = .ok (.aload_n 0, 1) := by decide +kernel
theorem dX1_ruleTells_69 : decode cX1_ruleTells 69 = .ok (.getfield 17, 3) := by decide +kernel
theorem dX1_ruleTells_72 : decode cX1_ruleTells 72 = .ok (.iload_n 1, 1) := by decide +kernel
theorem dX1_ruleTells_73 : decode cX1_ruleTells 73 = .ok (.iaload, 1) := by decide +kernel
theorem dX1_ruleTells_74 : decode cX1_ruleTells 74 = .ok (.iastore, 1) := by decide +kernel
theorem dX1_ruleTells_75 : decode cX1_ruleTells 75 = .ok (.aload_n 0, 1) := by decide +kernel
theorem dX1_ruleTells_76 : decode cX1_ruleTells 76 = .ok (.getfield 11, 3) := by decide +kernel
theorem dX1_ruleTells_79 : decode cX1_ruleTells 79 = .ok (.iconst 3, 1) := by decide +kernel
theorem dX1_ruleTells_80 : decode cX1_ruleTells 80 = .ok (.iload 5, 2) := by decide +kernel
theorem dX1_ruleTells_82 : decode cX1_ruleTells 82 = .ok (.iastore, 1) := by decide +kernel
theorem dX1_ruleTells_83 : decode cX1_ruleTells 83 = .ok (.aload_n 0, 1) := by decide +kernel
theorem dX1_ruleTells_84 : decode cX1_ruleTells 84 = .ok (.getfield 11, 3) := by decide +kernel
theorem dX1_ruleTells_87 : decode cX1_ruleTells 87 = .ok (.iconst 4, 1) := by decide +kernel
theorem dX1_ruleTells_88 : decode cX1_ruleTells 88 = .ok (.iload 6, 2) := by decide +kernel
theorem dX1_ruleTells_90 : decode cX1_ruleTells 90 = .ok (.iastore, 1) := by decide +kernel
theorem dX1_ruleTells_91 : decode cX1_ruleTells 91 = .ok (.aload_n 0, 1) := by decide +kernel
theorem dX1_ruleTells_92 : decode cX1_ruleTells 92 = .ok (.getfield 11, 3) := by decide +kernel
theorem dX1_ruleTells_95 : decode cX1_ruleTells 95 = .ok (.iconst 5, 1) := by decide +kernel
theorem dX1_ruleTells_96 : decode cX1_ruleTells 96 = .ok (.aload_n 0, 1) := by decide +kernel
theorem dX1_ruleTells_97 : decode cX1_ruleTells 97 = .ok (.getfield 23, 3) := by decide +kernel
theorem dX1_ruleTells_100 : decode cX1_ruleTells 100 = .ok (.iload_n 1, 1) := by decide +kernel
theorem dX1_ruleTells_101 : decode cX1_ruleTells 101 = .ok (.iaload, 1) := by decide +kernel
theorem dX1_ruleTells_102 : decode cX1_ruleTells 102 = .ok (.iastore, 1) := by decide +kernel
theorem dX1_ruleTells_103 : decode cX1_ruleTells 103 = .ok (.aload_n 0, 1) := by decide +kernel
theorem dX1_ruleTells_104 : decode cX1_ruleTells 104 = .ok (.getfield 54, 3) := by decide +kernel
theorem dX1_ruleTells_107 : decode cX1_ruleTells 107 = .ok (.iconst 0, 1) := by decide +kernel
theorem dX1_ruleTells_108 : decode cX1_ruleTells 108 = .ok (.aload_n 0, 1) := by decide +kernel
theorem dX1_ruleTells_109 : decode cX1_ruleTells 109 = .ok (.getfield 11, 3) := by decide +kernel
theorem dX1_ruleTells_112 : decode cX1_ruleTells 112 = .ok (.invokevirtual 143, 3) := by decide +kernel
theorem dX1_ruleTells_115 : decode cX1_ruleTells 115 = .ok (.ifCond .ne 38, 3) := by decide +kernel
theorem dX1_ruleTells_118 : decode cX1_ruleTells 118 = .ok (.iload 5, 2) := by decide +kernel
theorem dX1_ruleTells_120 : decode cX1_ruleTells 120 = .ok (.aload_n 0, 1) := by decide +kernel
theorem dX1_ruleTells_121 : decode cX1_ruleTells 121 = .ok (.getfield 39, 3) := by decide +kernel
theorem dX1_ruleTells_124 : decode cX1_ruleTells 124 = .ok (.getfield 106, 3) := by decide +kernel
theorem dX1_ruleTells_127 : decode cX1_ruleTells 127 = .ok (.iload 4, 2) := by decide +kernel
theorem dX1_ruleTells_129 : decode cX1_ruleTells 129 = .ok (.iaload, 1) := by decide +kernel
theorem dX1_ruleTells_130 : decode cX1_ruleTells 130 = .ok (.if_icmp .lt 27, 3) := by decide +kernel
theorem dX1_ruleTells_133 : decode cX1_ruleTells 133 = .ok (.iload 6, 2) := by decide +kernel
theorem dX1_ruleTells_135 : decode cX1_ruleTells 135 = .ok (.ifCond .ne 22, 3) := by decide +kernel
theorem dX1_ruleTells_138 : decode cX1_ruleTells 138 = .ok (.aload_n 0, 1) := by decide +kernel
theorem dX1_ruleTells_139 : decode cX1_ruleTells 139 = .ok (.getfield 54, 3) := by decide +kernel
theorem dX1_ruleTells_142 : decode cX1_ruleTells 142 = .ok (.iconst 1, 1) := by decide +kernel
theorem dX1_ruleTells_143 : decode cX1_ruleTells 143 = .ok (.aload_n 0, 1) := by decide +kernel
theorem dX1_ruleTells_144 : decode cX1_ruleTells 144 = .ok (.getfield 11, 3) := by decide +kernel
theorem dX1_ruleTells_147 : decode cX1_ruleTells 147 = .ok (.invokevirtual 143, 3) := by decide +kernel
theorem dX1_ruleTells_150 : decode cX1_ruleTells 150 = .ok (.ifCond .eq 7, 3) := by decide +kernel
theorem dX1_ruleTells_153 : decode cX1_ruleTells 153 = .ok (.iconst 1, 1) := by decide +kernel
theorem dX1_ruleTells_154 : decode cX1_ruleTells 154 = .ok (.goto 4, 3) := by decide +kernel
theorem dX1_ruleTells_157 : decode cX1_ruleTells 157 = .ok (.iconst 0, 1) := by decide +kernel
theorem dX1_ruleTells_158 : decode cX1_ruleTells 158 = .ok (.ireturn, 1) := by decide +kernel
theorem dX1_isSilent_0 : decode cX1_isSilent 0 = .ok (.iload_n 1, 1) := by decide +kernel
theorem dX1_isSilent_1 : decode cX1_isSilent 1 = .ok (.aload_n 0, 1) := by decide +kernel
theorem dX1_isSilent_2 : decode cX1_isSilent 2 = .ok (.getfield 51, 3) := by decide +kernel
theorem dX1_isSilent_5 : decode cX1_isSilent 5 = .ok (.invokestatic 78, 3) := by decide +kernel
theorem dX1_isSilent_8 : decode cX1_isSilent 8 = .ok (.ifCond .ne 18, 3) := by decide +kernel
theorem dX1_isSilent_11 : decode cX1_isSilent 11 = .ok (.aload_n 0, 1) := by decide +kernel
theorem dX1_isSilent_12 : decode cX1_isSilent 12 = .ok (.getfield 90, 3) := by decide +kernel
theorem dX1_isSilent_15 : decode cX1_isSilent 15 = .ok (.iload_n 1, 1) := by decide +kernel
theorem dX1_isSilent_16 : decode cX1_isSilent 16 = .ok (.ishr, 1) := by decide +kernel
theorem dX1_isSilent_17 : decode cX1_isSilent 17 = .ok (.iconst 2, 1) := by decide +kernel
theorem dX1_isSilent_18 : decode cX1_isSilent 18 = .ok (.irem, 1) := by decide +kernel
theorem dX1_isSilent_19 : decode cX1_isSilent 19 = .ok (.ifCond .ne 7, 3) := by decide +kernel
theorem dX1_isSilent_22 : decode cX1_isSilent 22 = .ok (.iconst 1, 1) := by decide +kernel
theorem dX1_isSilent_23 : decode cX1_isSilent 23 = .ok (.goto 4, 3) := by decide +kernel
theorem dX1_isSilent_26 : decode cX1_isSilent 26 = .ok (.iconst 0, 1) := by decide +kernel
theorem dX1_isSilent_27 : decode cX1_isSilent 27 = .ok (.ireturn, 1) := by decide +kernel
theorem dX1_listen_0 : decode cX1_listen 0 = .ok (.aload_n 0, 1) := by decide +kernel
theorem dX1_listen_1 : decode cX1_listen 1 = .ok (.getfield 11, 3) := by decide +kernel
theorem dX1_listen_4 : decode cX1_listen 4 = .ok (.iconst 0, 1) := by decide +kernel
theorem dX1_listen_5 : decode cX1_listen 5 = .ok (.invokestatic 82, 3) := by decide +kernel
theorem dX1_listen_8 : decode cX1_listen 8 = .ok (.aload_n 0, 1) := by decide +kernel
theorem dX1_listen_9 : decode cX1_listen 9 = .ok (.getfield 11, 3) := by decide +kernel
theorem dX1_listen_12 : decode cX1_listen 12 = .ok (.iconst 1, 1) := by decide +kernel
theorem dX1_listen_13 : decode cX1_listen 13 = .ok (.iload_n 2, 1) := by decide +kernel
theorem dX1_listen_14 : decode cX1_listen 14 = .ok (.iastore, 1) := by decide +kernel
theorem dX1_listen_15 : decode cX1_listen 15 = .ok (.aload_n 0, 1) := by decide +kernel
theorem dX1_listen_16 : decode cX1_listen 16 = .ok (.getfield 11, 3) := by decide +kernel
theorem dX1_listen_19 : decode cX1_listen 19 = .ok (.iconst 2, 1) := by decide +kernel
theorem dX1_listen_20 : decode cX1_listen 20 = .ok (.iload_n 1, 1) := by decide +kernel
theorem dX1_listen_21 : decode cX1_listen 21 = .ok (.iastore, 1) := by decide +kernel
theorem dX1_listen_22 : decode cX1_listen 22 = .ok (.return_, 1) := by decide +kernel
theorem dX1_howMany_0 : decode cX1_howMany 0 = .ok (.aload_n 0, 1) := by decide +kernel
theorem dX1_howMany_1 : decode cX1_howMany 1 = .ok (.getfield 90, 3) := by decide +kernel
theorem dX1_howMany_4 : decode cX1_howMany 4 = .ok (.aload_n 0, 1) := by decide +kernel
theorem dX1_howMany_5 : decode cX1_howMany 5 = .ok (.getfield 30, 3) := by decide +kernel
theorem dX1_howMany_8 : decode cX1_howMany 8 = .ok (.iload_n 1, 1) := by decide +kernel
theorem dX1_howMany_9 : decode cX1_howMany 9 = .ok (.iaload, 1) := by decide +kernel
theorem dX1_howMany_10 : decode cX1_howMany 10 = .ok (.iand, 1) := by decide +kernel
theorem dX1_howMany_11 : decode cX1_howMany 11 = .ok (.invokestatic 125, 3) := by decide +kernel
theorem dX1_howMany_14 : decode cX1_howMany 14 = .ok (.ireturn, 1) := by decide +kernel
theorem dX1_isHeard_0 : decode cX1_isHeard 0 = .ok (.aload_n 0, 1) := by decide +kernel
theorem dX1_isHeard_1 : decode cX1_isHeard 1 = .ok (.getfield 33, 3) := by decide +kernel
theorem dX1_isHeard_4 : decode cX1_isHeard 4 = .ok (.iload_n 1, 1) := by decide +kernel
theorem dX1_isHeard_5 : decode cX1_isHeard 5 = .ok (.iaload, 1) := by decide +kernel
theorem dX1_isHeard_6 : decode cX1_isHeard 6 = .ok (.aload_n 0, 1) := by decide +kernel
theorem dX1_isHeard_7 : decode cX1_isHeard 7 = .ok (.getfield 39, 3) := by decide +kernel
theorem dX1_isHeard_10 : decode cX1_isHeard 10 = .ok (.getfield 147, 3) := by decide +kernel
theorem dX1_isHeard_13 : decode cX1_isHeard 13 = .ok (.if_icmp .le 7, 3) := by decide +kernel
theorem dX1_isHeard_16 : decode cX1_isHeard 16 = .ok (.iconst 1, 1) := by decide +kernel
theorem dX1_isHeard_17 : decode cX1_isHeard 17 = .ok (.goto 4, 3) := by decide +kernel
theorem dX1_isHeard_20 : decode cX1_isHeard 20 = .ok (.iconst 0, 1) := by decide +kernel
theorem dX1_isHeard_21 : decode cX1_isHeard 21 = .ok (.ireturn, 1) := by decide +kernel
theorem dX1_allBreaths_0 : decode cX1_allBreaths 0 = .ok (.aload_n 0, 1) := by decide +kernel
theorem dX1_allBreaths_1 : decode cX1_allBreaths 1 = .ok (.getfield 23, 3) := by decide +kernel
theorem dX1_allBreaths_4 : decode cX1_allBreaths 4 = .ok (.aload_n 0, 1) := by decide +kernel
theorem dX1_allBreaths_5 : decode cX1_allBreaths 5 = .ok (.getfield 51, 3) := by decide +kernel
theorem dX1_allBreaths_8 : decode cX1_allBreaths 8 = .ok (.invokestatic 150, 3) := by decide +kernel
theorem dX1_allBreaths_11 : decode cX1_allBreaths 11 = .ok (.ireturn, 1) := by decide +kernel
theorem dX1_stateOf_0 : decode cX1_stateOf 0 = .ok (.lconst 0, 1) := by decide +kernel
theorem dX1_stateOf_1 : decode cX1_stateOf 1 = .ok (.lstore_n 3, 1) := by decide +kernel
theorem dX1_stateOf_2 : decode cX1_stateOf 2 = .ok (.iload_n 1, 1) := by decide +kernel
theorem dX1_stateOf_3 : decode cX1_stateOf 3 = .ok (.istore 5, 2) := by decide +kernel
theorem dX1_stateOf_5 : decode cX1_stateOf 5 = .ok (.iload 5, 2) := by decide +kernel
theorem dX1_stateOf_7 : decode cX1_stateOf 7 = .ok (.iload_n 2, 1) := by decide +kernel
theorem dX1_stateOf_8 : decode cX1_stateOf 8 = .ok (.if_icmp .ge 43, 3) := by decide +kernel
theorem dX1_stateOf_11 : decode cX1_stateOf 11 = .ok (.iload 5, 2) := by decide +kernel
theorem dX1_stateOf_13 : decode cX1_stateOf 13 = .ok (.aload_n 0, 1) := by decide +kernel
theorem dX1_stateOf_14 : decode cX1_stateOf 14 = .ok (.getfield 51, 3) := by decide +kernel
theorem dX1_stateOf_17 : decode cX1_stateOf 17 = .ok (.if_icmp .ge 34, 3) := by decide +kernel
theorem dX1_stateOf_20 : decode cX1_stateOf 20 = .ok (.lload_n 3, 1) := by decide +kernel
theorem dX1_stateOf_21 : decode cX1_stateOf 21 = .ok (.bipush 12, 2) := by decide +kernel
theorem dX1_stateOf_23 : decode cX1_stateOf 23 = .ok (.lshl, 1) := by decide +kernel
theorem dX1_stateOf_24 : decode cX1_stateOf 24 = .ok (.aload_n 0, 1) := by decide +kernel
theorem dX1_stateOf_25 : decode cX1_stateOf 25 = .ok (.getfield 17, 3) := by decide +kernel
theorem dX1_stateOf_28 : decode cX1_stateOf 28 = .ok (.iload 5, 2) := by decide +kernel
theorem dX1_stateOf_30 : decode cX1_stateOf 30 = .ok (.iaload, 1) := by decide +kernel
theorem dX1_stateOf_31 : decode cX1_stateOf 31 = .ok (.iconst 5, 1) := by decide +kernel
theorem dX1_stateOf_32 : decode cX1_stateOf 32 = .ok (.ishl, 1) := by decide +kernel
theorem dX1_stateOf_33 : decode cX1_stateOf 33 = .ok (.i2l, 1) := by decide +kernel
theorem dX1_stateOf_34 : decode cX1_stateOf 34 = .ok (.ladd, 1) := by decide +kernel
theorem dX1_stateOf_35 : decode cX1_stateOf 35 = .ok (.aload_n 0, 1) := by decide +kernel
theorem dX1_stateOf_36 : decode cX1_stateOf 36 = .ok (.getfield 20, 3) := by decide +kernel
theorem dX1_stateOf_39 : decode cX1_stateOf 39 = .ok (.iload 5, 2) := by decide +kernel
theorem dX1_stateOf_41 : decode cX1_stateOf 41 = .ok (.iaload, 1) := by decide +kernel
theorem dX1_stateOf_42 : decode cX1_stateOf 42 = .ok (.i2l, 1) := by decide +kernel
theorem dX1_stateOf_43 : decode cX1_stateOf 43 = .ok (.ladd, 1) := by decide +kernel
theorem dX1_stateOf_44 : decode cX1_stateOf 44 = .ok (.lstore_n 3, 1) := by decide +kernel
theorem dX1_stateOf_45 : decode cX1_stateOf 45 = .ok (.iinc 5 1, 3) := by decide +kernel
theorem dX1_stateOf_48 : decode cX1_stateOf 48 = .ok (.goto (-43), 3) := by decide +kernel
theorem dX1_stateOf_51 : decode cX1_stateOf 51 = .ok (.lload_n 3, 1) := by decide +kernel
theorem dX1_stateOf_52 : decode cX1_stateOf 52 = .ok (.lreturn, 1) := by decide +kernel
theorem dX1_wrongHere_0 : decode cX1_wrongHere 0 = .ok (.aload_n 0, 1) := by decide +kernel
theorem dX1_wrongHere_1 : decode cX1_wrongHere 1 = .ok (.getfield 39, 3) := by decide +kernel
theorem dX1_wrongHere_4 : decode cX1_wrongHere 4 = .ok (.getfield 154, 3) := by decide +kernel
theorem dX1_wrongHere_7 : decode cX1_wrongHere 7 = .ok (.iload_n 1, 1) := by decide +kernel
theorem dX1_wrongHere_8 : decode cX1_wrongHere 8 = .ok (.iaload, 1) := by decide +kernel
theorem dX1_wrongHere_9 : decode cX1_wrongHere 9 = .ok (.istore_n 2, 1) := by decide +kernel
theorem dX1_wrongHere_10 : decode cX1_wrongHere 10 = .ok (.iconst 0, 1) := by decide +kernel
theorem dX1_wrongHere_11 : decode cX1_wrongHere 11 = .ok (.istore_n 3, 1) := by decide +kernel
theorem dX1_wrongHere_12 : decode cX1_wrongHere 12 = .ok (.iload_n 3, 1) := by decide +kernel
theorem dX1_wrongHere_13 : decode cX1_wrongHere 13 = .ok (.aload_n 0, 1) := by decide +kernel
theorem dX1_wrongHere_14 : decode cX1_wrongHere 14 = .ok (.getfield 51, 3) := by decide +kernel
theorem dX1_wrongHere_17 : decode cX1_wrongHere 17 = .ok (.if_icmp .ge 47, 3) := by decide +kernel
theorem dX1_wrongHere_20 : decode cX1_wrongHere 20 = .ok (.aload_n 0, 1) := by decide +kernel
theorem dX1_wrongHere_21 : decode cX1_wrongHere 21 = .ok (.iload_n 3, 1) := by decide +kernel
theorem dX1_wrongHere_22 : decode cX1_wrongHere 22 = .ok (.invokevirtual 130, 3) := by decide +kernel
theorem dX1_wrongHere_25 : decode cX1_wrongHere 25 = .ok (.ifCond .ne 33, 3) := by decide +kernel
theorem dX1_wrongHere_28 : decode cX1_wrongHere 28 = .ok (.aload_n 0, 1) := by decide +kernel
theorem dX1_wrongHere_29 : decode cX1_wrongHere 29 = .ok (.getfield 17, 3) := by decide +kernel
theorem dX1_wrongHere_32 : decode cX1_wrongHere 32 = .ok (.iload_n 3, 1) := by decide +kernel
theorem dX1_wrongHere_33 : decode cX1_wrongHere 33 = .ok (.iaload, 1) := by decide +kernel
theorem dX1_wrongHere_34 : decode cX1_wrongHere 34 = .ok (.aload_n 0, 1) := by decide +kernel
theorem dX1_wrongHere_35 : decode cX1_wrongHere 35 = .ok (.getfield 43, 3) := by decide +kernel
theorem dX1_wrongHere_38 : decode cX1_wrongHere 38 = .ok (.iload_n 3, 1) := by decide +kernel
theorem dX1_wrongHere_39 : decode cX1_wrongHere 39 = .ok (.aaload, 1) := by decide +kernel
theorem dX1_wrongHere_40 : decode cX1_wrongHere 40 = .ok (.iload_n 2, 1) := by decide +kernel
theorem dX1_wrongHere_41 : decode cX1_wrongHere 41 = .ok (.aload_n 0, 1) := by decide +kernel
theorem dX1_wrongHere_42 : decode cX1_wrongHere 42 = .ok (.getfield 23, 3) := by decide +kernel
theorem dX1_wrongHere_45 : decode cX1_wrongHere 45 = .ok (.iload_n 3, 1) := by decide +kernel
theorem dX1_wrongHere_46 : decode cX1_wrongHere 46 = .ok (.iaload, 1) := by decide +kernel
theorem dX1_wrongHere_47 : decode cX1_wrongHere 47 = .ok (.invokevirtual 118, 3) := by decide +kernel
theorem dX1_wrongHere_50 : decode cX1_wrongHere 50 = .ok (.if_icmp .le 8, 3) := by decide +kernel
theorem dX1_wrongHere_53 : decode cX1_wrongHere 53 = .ok (.bipush 100, 2) := by decide +kernel
theorem dX1_wrongHere_55 : decode cX1_wrongHere 55 = .ok (.iload_n 3, 1) := by decide +kernel
theorem dX1_wrongHere_56 : decode cX1_wrongHere 56 = .ok (.iadd, 1) := by decide +kernel
theorem dX1_wrongHere_57 : decode cX1_wrongHere 57 = .ok (.ireturn, 1) := by decide +kernel
theorem dX1_wrongHere_58 : decode cX1_wrongHere 58 = .ok (.iinc 3 1, 3) := by decide +kernel
theorem dX1_wrongHere_61 : decode cX1_wrongHere 61 = .ok (.goto (-49), 3) := by decide +kernel
theorem dX1_wrongHere_64 : decode cX1_wrongHere 64 = .ok (.iconst 0, 1) := by decide +kernel
theorem dX1_wrongHere_65 : decode cX1_wrongHere 65 = .ok (.istore_n 3, 1) := by decide +kernel
theorem dX1_wrongHere_66 : decode cX1_wrongHere 66 = .ok (.iload_n 3, 1) := by decide +kernel
theorem dX1_wrongHere_67 : decode cX1_wrongHere 67 = .ok (.iconst 1, 1) := by decide +kernel
theorem dX1_wrongHere_68 : decode cX1_wrongHere 68 = .ok (.iadd, 1) := by decide +kernel
theorem dX1_wrongHere_69 : decode cX1_wrongHere 69 = .ok (.aload_n 0, 1) := by decide +kernel
theorem dX1_wrongHere_70 : decode cX1_wrongHere 70 = .ok (.getfield 51, 3) := by decide +kernel
theorem dX1_wrongHere_73 : decode cX1_wrongHere 73 = .ok (.if_icmp .ge 33, 3) := by decide +kernel
theorem dX1_wrongHere_76 : decode cX1_wrongHere 76 = .ok (.aload_n 0, 1) := by decide +kernel
theorem dX1_wrongHere_77 : decode cX1_wrongHere 77 = .ok (.iload_n 3, 1) := by decide +kernel
theorem dX1_wrongHere_78 : decode cX1_wrongHere 78 = .ok (.invokevirtual 130, 3) := by decide +kernel
theorem dX1_wrongHere_81 : decode cX1_wrongHere 81 = .ok (.ifCond .eq 19, 3) := by decide +kernel
theorem dX1_wrongHere_84 : decode cX1_wrongHere 84 = .ok (.aload_n 0, 1) := by decide +kernel
theorem dX1_wrongHere_85 : decode cX1_wrongHere 85 = .ok (.iload_n 3, 1) := by decide +kernel
theorem dX1_wrongHere_86 : decode cX1_wrongHere 86 = .ok (.iconst 1, 1) := by decide +kernel
theorem dX1_wrongHere_87 : decode cX1_wrongHere 87 = .ok (.iadd, 1) := by decide +kernel
theorem dX1_wrongHere_88 : decode cX1_wrongHere 88 = .ok (.invokevirtual 130, 3) := by decide +kernel
theorem dX1_wrongHere_91 : decode cX1_wrongHere 91 = .ok (.ifCond .eq 9, 3) := by decide +kernel
theorem dX1_wrongHere_94 : decode cX1_wrongHere 94 = .ok (.sipush 200, 3) := by decide +kernel
theorem dX1_wrongHere_97 : decode cX1_wrongHere 97 = .ok (.iload_n 3, 1) := by decide +kernel
theorem dX1_wrongHere_98 : decode cX1_wrongHere 98 = .ok (.iadd, 1) := by decide +kernel
theorem dX1_wrongHere_99 : decode cX1_wrongHere 99 = .ok (.ireturn, 1) := by decide +kernel
theorem dX1_wrongHere_100 : decode cX1_wrongHere 100 = .ok (.iinc 3 1, 3) := by decide +kernel
theorem dX1_wrongHere_103 : decode cX1_wrongHere 103 = .ok (.goto (-37), 3) := by decide +kernel
theorem dX1_wrongHere_106 : decode cX1_wrongHere 106 = .ok (.iconst 0, 1) := by decide +kernel
theorem dX1_wrongHere_107 : decode cX1_wrongHere 107 = .ok (.istore_n 3, 1) := by decide +kernel
theorem dX1_wrongHere_108 : decode cX1_wrongHere 108 = .ok (.iload_n 3, 1) := by decide +kernel
theorem dX1_wrongHere_109 : decode cX1_wrongHere 109 = .ok (.iconst 4, 1) := by decide +kernel
theorem dX1_wrongHere_110 : decode cX1_wrongHere 110 = .ok (.if_icmp .ge 23, 3) := by decide +kernel
theorem dX1_wrongHere_113 : decode cX1_wrongHere 113 = .ok (.aload_n 0, 1) := by decide +kernel
theorem dX1_wrongHere_114 : decode cX1_wrongHere 114 = .ok (.iload_n 3, 1) := by decide +kernel
theorem dX1_wrongHere_115 : decode cX1_wrongHere 115 = .ok (.invokevirtual 157, 3) := by decide +kernel
theorem dX1_wrongHere_118 : decode cX1_wrongHere 118 = .ok (.ifCond .eq 9, 3) := by decide +kernel
theorem dX1_wrongHere_121 : decode cX1_wrongHere 121 = .ok (.sipush 300, 3) := by decide +kernel
theorem dX1_wrongHere_124 : decode cX1_wrongHere 124 = .ok (.iload_n 3, 1) := by decide +kernel
theorem dX1_wrongHere_125 : decode cX1_wrongHere 125 = .ok (.iadd, 1) := by decide +kernel
theorem dX1_wrongHere_126 : decode cX1_wrongHere 126 = .ok (.ireturn, 1) := by decide +kernel
theorem dX1_wrongHere_127 : decode cX1_wrongHere 127 = .ok (.iinc 3 1, 3) := by decide +kernel
theorem dX1_wrongHere_130 : decode cX1_wrongHere 130 = .ok (.goto (-22), 3) := by decide +kernel
theorem dX1_wrongHere_133 : decode cX1_wrongHere 133 = .ok (.aload_n 0, 1) := by decide +kernel
theorem dX1_wrongHere_134 : decode cX1_wrongHere 134 = .ok (.getfield 39, 3) := by decide +kernel
theorem dX1_wrongHere_137 : decode cX1_wrongHere 137 = .ok (.getfield 160, 3) := by decide +kernel
theorem dX1_wrongHere_140 : decode cX1_wrongHere 140 = .ok (.iload_n 1, 1) := by decide +kernel
theorem dX1_wrongHere_141 : decode cX1_wrongHere 141 = .ok (.iaload, 1) := by decide +kernel
theorem dX1_wrongHere_142 : decode cX1_wrongHere 142 = .ok (.iconst 1, 1) := by decide +kernel
theorem dX1_wrongHere_143 : decode cX1_wrongHere 143 = .ok (.if_icmp .ne 17, 3) := by decide +kernel
theorem dX1_wrongHere_146 : decode cX1_wrongHere 146 = .ok (.aload_n 0, 1) := by decide +kernel
theorem dX1_wrongHere_147 : decode cX1_wrongHere 147 = .ok (.iload_n 2, 1) := by decide +kernel
theorem dX1_wrongHere_148 : decode cX1_wrongHere 148 = .ok (.invokevirtual 163, 3) := by decide +kernel
theorem dX1_wrongHere_151 : decode cX1_wrongHere 151 = .ok (.ifCond .ne 9, 3) := by decide +kernel
theorem dX1_wrongHere_154 : decode cX1_wrongHere 154 = .ok (.sipush 400, 3) := by decide +kernel
theorem dX1_wrongHere_157 : decode cX1_wrongHere 157 = .ok (.goto 4, 3) := by decide +kernel
theorem dX1_wrongHere_160 : decode cX1_wrongHere 160 = .ok (.iconst (-1), 1) := by decide +kernel
theorem dX1_wrongHere_161 : decode cX1_wrongHere 161 = .ok (.ireturn, 1) := by decide +kernel
theorem dX1_isSaid_0 : decode cX1_isSaid 0 = .ok (.iconst 0, 1) := by decide +kernel
theorem dX1_isSaid_1 : decode cX1_isSaid 1 = .ok (.istore_n 2, 1) := by decide +kernel
theorem dX1_isSaid_2 : decode cX1_isSaid 2 = .ok (.iconst 0, 1) := by decide +kernel
theorem dX1_isSaid_3 : decode cX1_isSaid 3 = .ok (.istore_n 3, 1) := by decide +kernel
theorem dX1_isSaid_4 : decode cX1_isSaid 4 = .ok (.iload_n 3, 1) := by decide +kernel
theorem dX1_isSaid_5 : decode cX1_isSaid 5 = .ok (.aload_n 0, 1) := by decide +kernel
theorem dX1_isSaid_6 : decode cX1_isSaid 6 = .ok (.getfield 51, 3) := by decide +kernel
theorem dX1_isSaid_9 : decode cX1_isSaid 9 = .ok (.if_icmp .ge 33, 3) := by decide +kernel
theorem dX1_isSaid_12 : decode cX1_isSaid 12 = .ok (.aload_n 0, 1) := by decide +kernel
theorem dX1_isSaid_13 : decode cX1_isSaid 13 = .ok (.iload_n 3, 1) := by decide +kernel
theorem dX1_isSaid_14 : decode cX1_isSaid 14 = .ok (.invokevirtual 130, 3) := by decide +kernel
theorem dX1_isSaid_17 : decode cX1_isSaid 17 = .ok (.ifCond .ne 19, 3) := by decide +kernel
theorem dX1_isSaid_20 : decode cX1_isSaid 20 = .ok (.aload_n 0, 1) := by decide +kernel
theorem dX1_isSaid_21 : decode cX1_isSaid 21 = .ok (.getfield 43, 3) := by decide +kernel
theorem dX1_isSaid_24 : decode cX1_isSaid 24 = .ok (.iload_n 3, 1) := by decide +kernel
theorem dX1_isSaid_25 : decode cX1_isSaid 25 = .ok (.aaload, 1) := by decide +kernel
theorem dX1_isSaid_26 : decode cX1_isSaid 26 = .ok (.iload_n 1, 1) := by decide +kernel
theorem dX1_isSaid_27 : decode cX1_isSaid 27 = .ok (.invokevirtual 166, 3) := by decide +kernel
theorem dX1_isSaid_30 : decode cX1_isSaid 30 = .ok (.ifCond .eq 6, 3) := by decide +kernel
theorem dX1_isSaid_33 : decode cX1_isSaid 33 = .ok (.iinc 2 1, 3) := by decide +kernel
theorem dX1_isSaid_36 : decode cX1_isSaid 36 = .ok (.iinc 3 1, 3) := by decide +kernel
theorem dX1_isSaid_39 : decode cX1_isSaid 39 = .ok (.goto (-35), 3) := by decide +kernel
theorem dX1_isSaid_42 : decode cX1_isSaid 42 = .ok (.iload_n 2, 1) := by decide +kernel
theorem dX1_isSaid_43 : decode cX1_isSaid 43 = .ok (.iconst 1, 1) := by decide +kernel
theorem dX1_isSaid_44 : decode cX1_isSaid 44 = .ok (.if_icmp .lt 12, 3) := by decide +kernel
theorem dX1_isSaid_47 : decode cX1_isSaid 47 = .ok (.iload_n 2, 1) := by decide +kernel
theorem dX1_isSaid_48 : decode cX1_isSaid 48 = .ok (.iconst 3, 1) := by decide +kernel
theorem dX1_isSaid_49 : decode cX1_isSaid 49 = .ok (.if_icmp .gt 7, 3) := by decide +kernel
theorem dX1_isSaid_52 : decode cX1_isSaid 52 = .ok (.iconst 1, 1) := by decide +kernel
theorem dX1_isSaid_53 : decode cX1_isSaid 53 = .ok (.goto 4, 3) := by decide +kernel
theorem dX1_isSaid_56 : decode cX1_isSaid 56 = .ok (.iconst 0, 1) := by decide +kernel
theorem dX1_isSaid_57 : decode cX1_isSaid 57 = .ok (.ireturn, 1) := by decide +kernel
theorem dX1_weigh_0 : decode cX1_weigh 0 = .ok (.iconst 0, 1) := by decide +kernel
theorem dX1_weigh_1 : decode cX1_weigh 1 = .ok (.istore_n 1, 1) := by decide +kernel
theorem dX1_weigh_2 : decode cX1_weigh 2 = .ok (.iload_n 1, 1) := by decide +kernel
theorem dX1_weigh_3 : decode cX1_weigh 3 = .ok (.aload_n 0, 1) := by decide +kernel
theorem dX1_weigh_4 : decode cX1_weigh 4 = .ok (.getfield 39, 3) := by decide +kernel
theorem dX1_weigh_7 : decode cX1_weigh 7 = .ok (.getfield 169, 3) := by decide +kernel
theorem dX1_weigh_10 : decode cX1_weigh 10 = .ok (.if_icmp .ge 50, 3) := by decide +kernel
theorem dX1_weigh_13 : decode cX1_weigh 13 = .ok (.aload_n 0, 1) := by decide +kernel
theorem dX1_weigh_14 : decode cX1_weigh 14 = .ok (.iload_n 1, 1) := by decide +kernel
theorem dX1_weigh_15 : decode cX1_weigh 15 = .ok (.aload_n 0, 1) := by decide +kernel
theorem dX1_weigh_16 : decode cX1_weigh 16 = .ok (.getfield 39, 3) := by decide +kernel
theorem dX1_weigh_19 : decode cX1_weigh 19 = .ok (.getfield 154, 3) := by decide +kernel
theorem dX1_weigh_22 : decode cX1_weigh 22 = .ok (.iload_n 1, 1) := by decide +kernel
theorem dX1_weigh_23 : decode cX1_weigh 23 = .ok (.iaload, 1) := by decide +kernel
theorem dX1_weigh_24 : decode cX1_weigh 24 = .ok (.invokevirtual 137, 3) := by decide +kernel
theorem dX1_weigh_27 : decode cX1_weigh 27 = .ok (.aload_n 0, 1) := by decide +kernel
theorem dX1_weigh_28 : decode cX1_weigh 28 = .ok (.getfield 36, 3) := by decide +kernel
theorem dX1_weigh_31 : decode cX1_weigh 31 = .ok (.iload_n 1, 1) := by decide +kernel
theorem dX1_weigh_32 : decode cX1_weigh 32 = .ok (.iconst 0, 1) := by decide +kernel
theorem dX1_weigh_33 : decode cX1_weigh 33 = .ok (.bipush 99, 2) := by decide +kernel
theorem dX1_weigh_35 : decode cX1_weigh 35 = .ok (.aload_n 0, 1) := by decide +kernel
theorem dX1_weigh_36 : decode cX1_weigh 36 = .ok (.getfield 54, 3) := by decide +kernel
theorem dX1_weigh_39 : decode cX1_weigh 39 = .ok (.iconst 2, 1) := by decide +kernel
theorem dX1_weigh_40 : decode cX1_weigh 40 = .ok (.aload_n 0, 1) := by decide +kernel
theorem dX1_weigh_41 : decode cX1_weigh 41 = .ok (.getfield 11, 3) := by decide +kernel
theorem dX1_weigh_44 : decode cX1_weigh 44 = .ok (.invokevirtual 143, 3) := by decide +kernel
theorem dX1_weigh_47 : decode cX1_weigh 47 = .ok (.invokestatic 172, 3) := by decide +kernel
theorem dX1_weigh_50 : decode cX1_weigh 50 = .ok (.invokestatic 177, 3) := by decide +kernel
theorem dX1_weigh_53 : decode cX1_weigh 53 = .ok (.iastore, 1) := by decide +kernel
theorem dX1_weigh_54 : decode cX1_weigh 54 = .ok (.iinc 1 1, 3) := by decide +kernel
theorem dX1_weigh_57 : decode cX1_weigh 57 = .ok (.goto (-55), 3) := by decide +kernel
theorem dX1_weigh_60 : decode cX1_weigh 60 = .ok (.return_, 1) := by decide +kernel
theorem dX1_badOfAll_0 : decode cX1_badOfAll 0 = .ok (.aload_n 0, 1) := by decide +kernel
theorem dX1_badOfAll_1 : decode cX1_badOfAll 1 = .ok (.invokevirtual 180, 3) := by decide +kernel
theorem dX1_badOfAll_4 : decode cX1_badOfAll 4 = .ok (.lconst 0, 1) := by decide +kernel
theorem dX1_badOfAll_5 : decode cX1_badOfAll 5 = .ok (.lstore_n 1, 1) := by decide +kernel
theorem dX1_badOfAll_6 : decode cX1_badOfAll 6 = .ok (.iconst 0, 1) := by decide +kernel
theorem dX1_badOfAll_7 : decode cX1_badOfAll 7 = .ok (.istore_n 3, 1) := by decide +kernel
theorem dX1_badOfAll_8 : decode cX1_badOfAll 8 = .ok (.iload_n 3, 1) := by decide +kernel
theorem dX1_badOfAll_9 : decode cX1_badOfAll 9 = .ok (.aload_n 0, 1) := by decide +kernel
theorem dX1_badOfAll_10 : decode cX1_badOfAll 10 = .ok (.getfield 39, 3) := by decide +kernel
theorem dX1_badOfAll_13 : decode cX1_badOfAll 13 = .ok (.getfield 169, 3) := by decide +kernel
theorem dX1_badOfAll_16 : decode cX1_badOfAll 16 = .ok (.if_icmp .ge 75, 3) := by decide +kernel
theorem dX1_badOfAll_19 : decode cX1_badOfAll 19 = .ok (.aload_n 0, 1) := by decide +kernel
theorem dX1_badOfAll_20 : decode cX1_badOfAll 20 = .ok (.iload_n 3, 1) := by decide +kernel
theorem dX1_badOfAll_21 : decode cX1_badOfAll 21 = .ok (.aload_n 0, 1) := by decide +kernel
theorem dX1_badOfAll_22 : decode cX1_badOfAll 22 = .ok (.getfield 39, 3) := by decide +kernel
theorem dX1_badOfAll_25 : decode cX1_badOfAll 25 = .ok (.getfield 154, 3) := by decide +kernel
theorem dX1_badOfAll_28 : decode cX1_badOfAll 28 = .ok (.iload_n 3, 1) := by decide +kernel
theorem dX1_badOfAll_29 : decode cX1_badOfAll 29 = .ok (.iaload, 1) := by decide +kernel
theorem dX1_badOfAll_30 : decode cX1_badOfAll 30 = .ok (.invokevirtual 183, 3) := by decide +kernel
theorem dX1_badOfAll_33 : decode cX1_badOfAll 33 = .ok (.iconst 0, 1) := by decide +kernel
theorem dX1_badOfAll_34 : decode cX1_badOfAll 34 = .ok (.istore 4, 2) := by decide +kernel
theorem dX1_badOfAll_36 : decode cX1_badOfAll 36 = .ok (.iload 4, 2) := by decide +kernel
theorem dX1_badOfAll_38 : decode cX1_badOfAll 38 = .ok (.iconst 4, 1) := by decide +kernel
theorem dX1_badOfAll_39 : decode cX1_badOfAll 39 = .ok (.if_icmp .ge 46, 3) := by decide +kernel
theorem dX1_badOfAll_42 : decode cX1_badOfAll 42 = .ok (.aload_n 0, 1) := by decide +kernel
theorem dX1_badOfAll_43 : decode cX1_badOfAll 43 = .ok (.iload 4, 2) := by decide +kernel
theorem dX1_badOfAll_45 : decode cX1_badOfAll 45 = .ok (.invokevirtual 157, 3) := by decide +kernel
theorem dX1_badOfAll_48 : decode cX1_badOfAll 48 = .ok (.ifCond .eq 31, 3) := by decide +kernel
theorem dX1_badOfAll_51 : decode cX1_badOfAll 51 = .ok (.lload_n 1, 1) := by decide +kernel
theorem dX1_badOfAll_52 : decode cX1_badOfAll 52 = .ok (.aload_n 0, 1) := by decide +kernel
theorem dX1_badOfAll_53 : decode cX1_badOfAll 53 = .ok (.getfield 36, 3) := by decide +kernel
theorem dX1_badOfAll_56 : decode cX1_badOfAll 56 = .ok (.iload_n 3, 1) := by decide +kernel
theorem dX1_badOfAll_57 : decode cX1_badOfAll 57 = .ok (.iaload, 1) := by decide +kernel
theorem dX1_badOfAll_58 : decode cX1_badOfAll 58 = .ok (.aload_n 0, 1) := by decide +kernel
theorem dX1_badOfAll_59 : decode cX1_badOfAll 59 = .ok (.getfield 39, 3) := by decide +kernel
theorem dX1_badOfAll_62 : decode cX1_badOfAll 62 = .ok (.getfield 106, 3) := by decide +kernel
theorem dX1_badOfAll_65 : decode cX1_badOfAll 65 = .ok (.iload 4, 2) := by decide +kernel
theorem dX1_badOfAll_67 : decode cX1_badOfAll 67 = .ok (.iaload, 1) := by decide +kernel
theorem dX1_badOfAll_68 : decode cX1_badOfAll 68 = .ok (.aload_n 0, 1) := by decide +kernel
theorem dX1_badOfAll_69 : decode cX1_badOfAll 69 = .ok (.iload 4, 2) := by decide +kernel
theorem dX1_badOfAll_71 : decode cX1_badOfAll 71 = .ok (.invokevirtual 103, 3) := by decide +kernel
theorem dX1_badOfAll_74 : decode cX1_badOfAll 74 = .ok (.isub, 1) := by decide +kernel
theorem dX1_badOfAll_75 : decode cX1_badOfAll 75 = .ok (.imul, 1) := by decide +kernel
theorem dX1_badOfAll_76 : decode cX1_badOfAll 76 = .ok (.i2l, 1) := by decide +kernel
theorem dX1_badOfAll_77 : decode cX1_badOfAll 77 = .ok (.ladd, 1) := by decide +kernel
theorem dX1_badOfAll_78 : decode cX1_badOfAll 78 = .ok (.lstore_n 1, 1) := by decide +kernel
theorem dX1_badOfAll_79 : decode cX1_badOfAll 79 = .ok (.iinc 4 1, 3) := by decide +kernel
theorem dX1_badOfAll_82 : decode cX1_badOfAll 82 = .ok (.goto (-46), 3) := by decide +kernel
theorem dX1_badOfAll_85 : decode cX1_badOfAll 85 = .ok (.iinc 3 1, 3) := by decide +kernel
theorem dX1_badOfAll_88 : decode cX1_badOfAll 88 = .ok (.goto (-80), 3) := by decide +kernel
theorem dX1_badOfAll_91 : decode cX1_badOfAll 91 = .ok (.lload_n 1, 1) := by decide +kernel
theorem dX1_badOfAll_92 : decode cX1_badOfAll 92 = .ok (.lreturn, 1) := by decide +kernel
theorem dX1_breathesBehind_0 : decode cX1_breathesBehind 0 = .ok (.aload_n 0, 1) := by decide +kernel
theorem dX1_breathesBehind_1 : decode cX1_breathesBehind 1 = .ok (.getfield 26, 3) := by decide +kernel
theorem dX1_breathesBehind_4 : decode cX1_breathesBehind 4 = .ok (.iload_n 1, 1) := by decide +kernel
theorem dX1_breathesBehind_5 : decode cX1_breathesBehind 5 = .ok (.laload, 1) := by decide +kernel
theorem dX1_breathesBehind_6 : decode cX1_breathesBehind 6 = .ok (.iload_n 2, 1) := by decide +kernel
theorem dX1_breathesBehind_7 : decode cX1_breathesBehind 7 = .ok (.lshr, 1) := by decide +kernel
theorem dX1_breathesBehind_8 : decode cX1_breathesBehind 8 = .ok (.lconst 1, 1) := by decide +kernel
theorem dX1_breathesBehind_9 : decode cX1_breathesBehind 9 = .ok (.lcmp, 1) := by decide +kernel
theorem dX1_breathesBehind_10 : decode cX1_breathesBehind 10 = .ok (.ifCond .le 7, 3) := by decide +kernel
theorem dX1_breathesBehind_13 : decode cX1_breathesBehind 13 = .ok (.iconst 1, 1) := by decide +kernel
theorem dX1_breathesBehind_14 : decode cX1_breathesBehind 14 = .ok (.goto 4, 3) := by decide +kernel
theorem dX1_breathesBehind_17 : decode cX1_breathesBehind 17 = .ok (.iconst 0, 1) := by decide +kernel
theorem dX1_breathesBehind_18 : decode cX1_breathesBehind 18 = .ok (.ireturn, 1) := by decide +kernel
theorem dX2_init_0 : decode cX2_init 0 = .ok (.aload_n 0, 1) := by decide +kernel
theorem dX2_init_1 : decode cX2_init 1 = .ok (.iload_n 1, 1) := by decide +kernel
theorem dX2_init_2 : decode cX2_init 2 = .ok (.iload_n 2, 1) := by decide +kernel
theorem dX2_init_3 : decode cX2_init 3 = .ok (.iload_n 3, 1) := by decide +kernel
theorem dX2_init_4 : decode cX2_init 4 = .ok (.invokespecial 1, 3) := by decide +kernel
theorem dX2_init_7 : decode cX2_init 7 = .ok (.return_, 1) := by decide +kernel
theorem dX2_kind_0 : decode cX2_kind 0 = .ok (.iconst 4, 1) := by decide +kernel
theorem dX2_kind_1 : decode cX2_kind 1 = .ok (.ireturn, 1) := by decide +kernel
theorem dX2_isUnder_0 : decode cX2_isUnder 0 = .ok (.iload_n 1, 1) := by decide +kernel
theorem dX2_isUnder_1 : decode cX2_isUnder 1 = .ok (.iconst 4, 1) := by decide +kernel
theorem dX2_isUnder_2 : decode cX2_isUnder 2 = .ok (.if_icmp .eq 11, 3) := by decide +kernel
theorem dX2_isUnder_5 : decode cX2_isUnder 5 = .ok (.aload_n 0, 1) := by decide +kernel
theorem dX2_isUnder_6 : decode cX2_isUnder 6 = .ok (.iload_n 1, 1) := by decide +kernel
theorem dX2_isUnder_7 : decode cX2_isUnder 7 = .ok (.invokespecial 9, 3) := by decide +kernel
theorem dX2_isUnder_10 : decode cX2_isUnder 10 = .ok (.ifCond .eq 7, 3) := by decide +kernel
theorem dX2_isUnder_13 : decode cX2_isUnder 13 = .ok (.iconst 1, 1) := by decide +kernel
theorem dX2_isUnder_14 : decode cX2_isUnder 14 = .ok (.goto 4, 3) := by decide +kernel
theorem dX2_isUnder_17 : decode cX2_isUnder 17 = .ok (.iconst 0, 1) := by decide +kernel
theorem dX2_isUnder_18 : decode cX2_isUnder 18 = .ok (.ireturn, 1) := by decide +kernel
theorem dX2_reach_0 : decode cX2_reach 0 = .ok (.aload_n 0, 1) := by decide +kernel
theorem dX2_reach_1 : decode cX2_reach 1 = .ok (.iload_n 1, 1) := by decide +kernel
theorem dX2_reach_2 : decode cX2_reach 2 = .ok (.iload_n 2, 1) := by decide +kernel
theorem dX2_reach_3 : decode cX2_reach 3 = .ok (.invokespecial 13, 3) := by decide +kernel
theorem dX2_reach_6 : decode cX2_reach 6 = .ok (.aload_n 0, 1) := by decide +kernel
theorem dX2_reach_7 : decode cX2_reach 7 = .ok (.getfield 17, 3) := by decide +kernel
theorem dX2_reach_10 : decode cX2_reach 10 = .ok (.iadd, 1) := by decide +kernel
theorem dX2_reach_11 : decode cX2_reach 11 = .ok (.ireturn, 1) := by decide +kernel
theorem dX3_init_0 : decode cX3_init 0 = .ok (.aload_n 0, 1) := by decide +kernel
theorem dX3_init_1 : decode cX3_init 1 = .ok (.iload_n 1, 1) := by decide +kernel
theorem dX3_init_2 : decode cX3_init 2 = .ok (.iload_n 2, 1) := by decide +kernel
theorem dX3_init_3 : decode cX3_init 3 = .ok (.iload_n 3, 1) := by decide +kernel
theorem dX3_init_4 : decode cX3_init 4 = .ok (.invokespecial 1, 3) := by decide +kernel
theorem dX3_init_7 : decode cX3_init 7 = .ok (.return_, 1) := by decide +kernel
theorem dX3_kind_0 : decode cX3_kind 0 = .ok (.iconst 3, 1) := by decide +kernel
theorem dX3_kind_1 : decode cX3_kind 1 = .ok (.ireturn, 1) := by decide +kernel
theorem dX3_isUnder_0 : decode cX3_isUnder 0 = .ok (.iload_n 1, 1) := by decide +kernel
theorem dX3_isUnder_1 : decode cX3_isUnder 1 = .ok (.iconst 3, 1) := by decide +kernel
theorem dX3_isUnder_2 : decode cX3_isUnder 2 = .ok (.if_icmp .eq 11, 3) := by decide +kernel
theorem dX3_isUnder_5 : decode cX3_isUnder 5 = .ok (.aload_n 0, 1) := by decide +kernel
theorem dX3_isUnder_6 : decode cX3_isUnder 6 = .ok (.iload_n 1, 1) := by decide +kernel
theorem dX3_isUnder_7 : decode cX3_isUnder 7 = .ok (.invokespecial 9, 3) := by decide +kernel
theorem dX3_isUnder_10 : decode cX3_isUnder 10 = .ok (.ifCond .eq 7, 3) := by decide +kernel
theorem dX3_isUnder_13 : decode cX3_isUnder 13 = .ok (.iconst 1, 1) := by decide +kernel
theorem dX3_isUnder_14 : decode cX3_isUnder 14 = .ok (.goto 4, 3) := by decide +kernel
theorem dX3_isUnder_17 : decode cX3_isUnder 17 = .ok (.iconst 0, 1) := by decide +kernel
theorem dX3_isUnder_18 : decode cX3_isUnder 18 = .ok (.ireturn, 1) := by decide +kernel
theorem dX3_reach_0 : decode cX3_reach 0 = .ok (.aload_n 0, 1) := by decide +kernel
theorem dX3_reach_1 : decode cX3_reach 1 = .ok (.iload_n 1, 1) := by decide +kernel
theorem dX3_reach_2 : decode cX3_reach 2 = .ok (.iload_n 2, 1) := by decide +kernel
theorem dX3_reach_3 : decode cX3_reach 3 = .ok (.invokespecial 13, 3) := by decide +kernel
theorem dX3_reach_6 : decode cX3_reach 6 = .ok (.aload_n 0, 1) := by decide +kernel
theorem dX3_reach_7 : decode cX3_reach 7 = .ok (.getfield 17, 3) := by decide +kernel
theorem dX3_reach_10 : decode cX3_reach 10 = .ok (.isub, 1) := by decide +kernel
theorem dX3_reach_11 : decode cX3_reach 11 = .ok (.ireturn, 1) := by decide +kernel
theorem dX3_says_0 : decode cX3_says 0 = .ok (.iload_n 1, 1) := by decide +kernel
theorem dX3_says_1 : decode cX3_says 1 = .ok (.iconst 5, 1) := by decide +kernel
theorem dX3_says_2 : decode cX3_says 2 = .ok (.if_icmp .ge 15, 3) := by decide +kernel
theorem dX3_says_5 : decode cX3_says 5 = .ok (.aload_n 0, 1) := by decide +kernel
theorem dX3_says_6 : decode cX3_says 6 = .ok (.iload_n 1, 1) := by decide +kernel
theorem dX3_says_7 : decode cX3_says 7 = .ok (.invokespecial 21, 3) := by decide +kernel
theorem dX3_says_10 : decode cX3_says 10 = .ok (.ifCond .eq 7, 3) := by decide +kernel
theorem dX3_says_13 : decode cX3_says 13 = .ok (.iconst 1, 1) := by decide +kernel
theorem dX3_says_14 : decode cX3_says 14 = .ok (.goto 4, 3) := by decide +kernel
theorem dX3_says_17 : decode cX3_says 17 = .ok (.iconst 0, 1) := by decide +kernel
theorem dX3_says_18 : decode cX3_says 18 = .ok (.ireturn, 1) := by decide +kernel
theorem dX4_init_0 : decode cX4_init 0 = .ok (.aload_n 0, 1) := by decide +kernel
theorem dX4_init_1 : decode cX4_init 1 = .ok (.invokespecial 3, 3) := by decide +kernel
theorem dX4_init_4 : decode cX4_init 4 = .ok (.aload_n 0, 1) := by decide +kernel
theorem dX4_init_5 : decode cX4_init 5 = .ok (.bipush 48, 2) := by decide +kernel
theorem dX4_init_7 : decode cX4_init 7 = .ok (.newarray .int, 2) := by decide +kernel
theorem dX4_init_9 : decode cX4_init 9 = .ok (.putfield 9, 3) := by decide +kernel
theorem dX4_init_12 : decode cX4_init 12 = .ok (.aload_n 0, 1) := by decide +kernel
theorem dX4_init_13 : decode cX4_init 13 = .ok (.bipush 48, 2) := by decide +kernel
theorem dX4_init_15 : decode cX4_init 15 = .ok (.newarray .int, 2) := by decide +kernel
theorem dX4_init_17 : decode cX4_init 17 = .ok (.putfield 15, 3) := by decide +kernel
theorem dX4_init_20 : decode cX4_init 20 = .ok (.aload_n 0, 1) := by decide +kernel
theorem dX4_init_21 : decode cX4_init 21 = .ok (.bipush 48, 2) := by decide +kernel
theorem dX4_init_23 : decode cX4_init 23 = .ok (.newarray .int, 2) := by decide +kernel
theorem dX4_init_25 : decode cX4_init 25 = .ok (.putfield 18, 3) := by decide +kernel
theorem dX4_init_28 : decode cX4_init 28 = .ok (.aload_n 0, 1) := by decide +kernel
theorem dX4_init_29 : decode cX4_init 29 = .ok (.iconst 4, 1) := by decide +kernel
theorem dX4_init_30 : decode cX4_init 30 = .ok (.newarray .int, 2) := by decide +kernel
theorem dX4_init_32 : decode cX4_init 32 = .ok (.putfield 21, 3) := by decide +kernel
theorem dX4_init_35 : decode cX4_init 35 = .ok (.aload_n 0, 1) := by decide +kernel
theorem dX4_init_36 : decode cX4_init 36 = .ok (.bipush 10, 2) := by decide +kernel
theorem dX4_init_38 : decode cX4_init 38 = .ok (.newarray .int, 2) := by decide +kernel
theorem dX4_init_40 : decode cX4_init 40 = .ok (.putfield 24, 3) := by decide +kernel
theorem dX4_init_43 : decode cX4_init 43 = .ok (.aload_n 0, 1) := by decide +kernel
theorem dX4_init_44 : decode cX4_init 44 = .ok (.bipush 24, 2) := by decide +kernel
theorem dX4_init_46 : decode cX4_init 46 = .ok (.putfield 27, 3) := by decide +kernel
theorem dX4_init_49 : decode cX4_init 49 = .ok (.aload_n 0, 1) := by decide +kernel
theorem dX4_init_50 : decode cX4_init 50 = .ok (.iconst 0, 1) := by decide +kernel
theorem dX4_init_51 : decode cX4_init 51 = .ok (.putfield 31, 3) := by decide +kernel
theorem dX4_init_54 : decode cX4_init 54 = .ok (.aload_n 0, 1) := by decide +kernel
theorem dX4_init_55 : decode cX4_init 55 = .ok (.iconst 0, 1) := by decide +kernel
theorem dX4_init_56 : decode cX4_init 56 = .ok (.putfield 34, 3) := by decide +kernel
theorem dX4_init_59 : decode cX4_init 59 = .ok (.aload_n 0, 1) := by decide +kernel
theorem dX4_init_60 : decode cX4_init 60 = .ok (.getfield 9, 3) := by decide +kernel
theorem dX4_init_63 : decode cX4_init 63 = .ok (.iconst 3, 1) := by decide +kernel
theorem dX4_init_64 : decode cX4_init 64 = .ok (.invokestatic 37, 3) := by decide +kernel
theorem dX4_init_67 : decode cX4_init 67 = .ok (.return_, 1) := by decide +kernel
theorem dX4_takeFrom_0 : decode cX4_takeFrom 0 = .ok (.aload_n 1, 1) := by decide +kernel
theorem dX4_takeFrom_1 : decode cX4_takeFrom 1 = .ok (.getfield 9, 3) := by decide +kernel
theorem dX4_takeFrom_4 : decode cX4_takeFrom 4 = .ok (.iconst 0, 1) := by decide +kernel
theorem dX4_takeFrom_5 : decode cX4_takeFrom 5 = .ok (.aload_n 0, 1) := by decide +kernel
theorem dX4_takeFrom_6 : decode cX4_takeFrom 6 = .ok (.getfield 9, 3) := by decide +kernel
theorem dX4_takeFrom_9 : decode cX4_takeFrom 9 = .ok (.iconst 0, 1) := by decide +kernel
theorem dX4_takeFrom_10 : decode cX4_takeFrom 10 = .ok (.bipush 48, 2) := by decide +kernel
theorem dX4_takeFrom_12 : decode cX4_takeFrom 12 = .ok (.invokestatic 43, 3) := by decide +kernel
theorem dX4_takeFrom_15 : decode cX4_takeFrom 15 = .ok (.aload_n 1, 1) := by decide +kernel
theorem dX4_takeFrom_16 : decode cX4_takeFrom 16 = .ok (.getfield 15, 3) := by decide +kernel
theorem dX4_takeFrom_19 : decode cX4_takeFrom 19 = .ok (.iconst 0, 1) := by decide +kernel
theorem dX4_takeFrom_20 : decode cX4_takeFrom 20 = .ok (.aload_n 0, 1) := by decide +kernel
theorem dX4_takeFrom_21 : decode cX4_takeFrom 21 = .ok (.getfield 15, 3) := by decide +kernel
theorem dX4_takeFrom_24 : decode cX4_takeFrom 24 = .ok (.iconst 0, 1) := by decide +kernel
theorem dX4_takeFrom_25 : decode cX4_takeFrom 25 = .ok (.bipush 48, 2) := by decide +kernel
theorem dX4_takeFrom_27 : decode cX4_takeFrom 27 = .ok (.invokestatic 43, 3) := by decide +kernel
theorem dX4_takeFrom_30 : decode cX4_takeFrom 30 = .ok (.aload_n 1, 1) := by decide +kernel
theorem dX4_takeFrom_31 : decode cX4_takeFrom 31 = .ok (.getfield 18, 3) := by decide +kernel
theorem dX4_takeFrom_34 : decode cX4_takeFrom 34 = .ok (.iconst 0, 1) := by decide +kernel
theorem dX4_takeFrom_35 : decode cX4_takeFrom 35 = .ok (.aload_n 0, 1) := by decide +kernel
theorem dX4_takeFrom_36 : decode cX4_takeFrom 36 = .ok (.getfield 18, 3) := by decide +kernel
theorem dX4_takeFrom_39 : decode cX4_takeFrom 39 = .ok (.iconst 0, 1) := by decide +kernel
theorem dX4_takeFrom_40 : decode cX4_takeFrom 40 = .ok (.bipush 48, 2) := by decide +kernel
theorem dX4_takeFrom_42 : decode cX4_takeFrom 42 = .ok (.invokestatic 43, 3) := by decide +kernel
theorem dX4_takeFrom_45 : decode cX4_takeFrom 45 = .ok (.aload_n 1, 1) := by decide +kernel
theorem dX4_takeFrom_46 : decode cX4_takeFrom 46 = .ok (.getfield 21, 3) := by decide +kernel
theorem dX4_takeFrom_49 : decode cX4_takeFrom 49 = .ok (.iconst 0, 1) := by decide +kernel
theorem dX4_takeFrom_50 : decode cX4_takeFrom 50 = .ok (.aload_n 0, 1) := by decide +kernel
theorem dX4_takeFrom_51 : decode cX4_takeFrom 51 = .ok (.getfield 21, 3) := by decide +kernel
theorem dX4_takeFrom_54 : decode cX4_takeFrom 54 = .ok (.iconst 0, 1) := by decide +kernel
theorem dX4_takeFrom_55 : decode cX4_takeFrom 55 = .ok (.iconst 4, 1) := by decide +kernel
theorem dX4_takeFrom_56 : decode cX4_takeFrom 56 = .ok (.invokestatic 43, 3) := by decide +kernel
theorem dX4_takeFrom_59 : decode cX4_takeFrom 59 = .ok (.iconst 0, 1) := by decide +kernel
theorem dX4_takeFrom_60 : decode cX4_takeFrom 60 = .ok (.istore_n 3, 1) := by decide +kernel
theorem dX4_takeFrom_61 : decode cX4_takeFrom 61 = .ok (.iload_n 3, 1) := by decide +kernel
theorem dX4_takeFrom_62 : decode cX4_takeFrom 62 = .ok (.iload_n 2, 1) := by decide +kernel
theorem dX4_takeFrom_63 : decode cX4_takeFrom 63 = .ok (.if_icmp .ge 27, 3) := by decide +kernel
theorem dX4_takeFrom_66 : decode cX4_takeFrom 66 = .ok (.iload_n 3, 1) := by decide +kernel
theorem dX4_takeFrom_67 : decode cX4_takeFrom 67 = .ok (.bipush 10, 2) := by decide +kernel
theorem dX4_takeFrom_69 : decode cX4_takeFrom 69 = .ok (.if_icmp .ge 21, 3) := by decide +kernel
theorem dX4_takeFrom_72 : decode cX4_takeFrom 72 = .ok (.aload_n 0, 1) := by decide +kernel
theorem dX4_takeFrom_73 : decode cX4_takeFrom 73 = .ok (.getfield 24, 3) := by decide +kernel
theorem dX4_takeFrom_76 : decode cX4_takeFrom 76 = .ok (.iload_n 3, 1) := by decide +kernel
theorem dX4_takeFrom_77 : decode cX4_takeFrom 77 = .ok (.aload_n 1, 1) := by decide +kernel
theorem dX4_takeFrom_78 : decode cX4_takeFrom 78 = .ok (.getfield 24, 3) := by decide +kernel
theorem dX4_takeFrom_81 : decode cX4_takeFrom 81 = .ok (.iload_n 3, 1) := by decide +kernel
theorem dX4_takeFrom_82 : decode cX4_takeFrom 82 = .ok (.iaload, 1) := by decide +kernel
theorem dX4_takeFrom_83 : decode cX4_takeFrom 83 = .ok (.iastore, 1) := by decide +kernel
theorem dX4_takeFrom_84 : decode cX4_takeFrom 84 = .ok (.iinc 3 1, 3) := by decide +kernel
theorem dX4_takeFrom_87 : decode cX4_takeFrom 87 = .ok (.goto (-26), 3) := by decide +kernel
theorem dX4_takeFrom_90 : decode cX4_takeFrom 90 = .ok (.aload_n 0, 1) := by decide +kernel
theorem dX4_takeFrom_91 : decode cX4_takeFrom 91 = .ok (.aload_n 1, 1) := by decide +kernel
theorem dX4_takeFrom_92 : decode cX4_takeFrom 92 = .ok (.getfield 27, 3) := by decide +kernel
theorem dX4_takeFrom_95 : decode cX4_takeFrom 95 = .ok (.putfield 27, 3) := by decide +kernel
theorem dX4_takeFrom_98 : decode cX4_takeFrom 98 = .ok (.aload_n 0, 1) := by decide +kernel
theorem dX4_takeFrom_99 : decode cX4_takeFrom 99 = .ok (.aload_n 1, 1) := by decide +kernel
theorem dX4_takeFrom_100 : decode cX4_takeFrom 100 = .ok (.getfield 31, 3) := by decide +kernel
theorem dX4_takeFrom_103 : decode cX4_takeFrom 103 = .ok (.putfield 31, 3) := by decide +kernel
theorem dX4_takeFrom_106 : decode cX4_takeFrom 106 = .ok (.aload_n 0, 1) := by decide +kernel
theorem dX4_takeFrom_107 : decode cX4_takeFrom 107 = .ok (.aload_n 1, 1) := by decide +kernel
theorem dX4_takeFrom_108 : decode cX4_takeFrom 108 = .ok (.getfield 34, 3) := by decide +kernel
theorem dX4_takeFrom_111 : decode cX4_takeFrom 111 = .ok (.putfield 34, 3) := by decide +kernel
theorem dX4_takeFrom_114 : decode cX4_takeFrom 114 = .ok (.return_, 1) := by decide +kernel
theorem dX5_init_0 : decode cX5_init 0 = .ok (.aload_n 0, 1) := by decide +kernel
theorem dX5_init_1 : decode cX5_init 1 = .ok (.invokespecial 3, 3) := by decide +kernel
theorem dX5_init_4 : decode cX5_init 4 = .ok (.aload_n 0, 1) := by decide +kernel
theorem dX5_init_5 : decode cX5_init 5 = .ok (.sipush 160, 3) := by decide +kernel
theorem dX5_init_8 : decode cX5_init 8 = .ok (.newarray .char, 2) := by decide +kernel
theorem dX5_init_10 : decode cX5_init 10 = .ok (.putfield 9, 3) := by decide +kernel
theorem dX5_init_13 : decode cX5_init 13 = .ok (.aload_n 0, 1) := by decide +kernel
theorem dX5_init_14 : decode cX5_init 14 = .ok (.sipush 160, 3) := by decide +kernel
theorem dX5_init_17 : decode cX5_init 17 = .ok (.newarray .int, 2) := by decide +kernel
theorem dX5_init_19 : decode cX5_init 19 = .ok (.putfield 15, 3) := by decide +kernel
theorem dX5_init_22 : decode cX5_init 22 = .ok (.aload_n 0, 1) := by decide +kernel
theorem dX5_init_23 : decode cX5_init 23 = .ok (.iconst 0, 1) := by decide +kernel
theorem dX5_init_24 : decode cX5_init 24 = .ok (.putfield 19, 3) := by decide +kernel
theorem dX5_init_27 : decode cX5_init 27 = .ok (.return_, 1) := by decide +kernel
theorem dX5_put_0 : decode cX5_put 0 = .ok (.aload_n 0, 1) := by decide +kernel
theorem dX5_put_1 : decode cX5_put 1 = .ok (.getfield 19, 3) := by decide +kernel
theorem dX5_put_4 : decode cX5_put 4 = .ok (.sipush 160, 3) := by decide +kernel
theorem dX5_put_7 : decode cX5_put 7 = .ok (.if_icmp .ge 24, 3) := by decide +kernel
theorem dX5_put_10 : decode cX5_put 10 = .ok (.aload_n 0, 1) := by decide +kernel
theorem dX5_put_11 : decode cX5_put 11 = .ok (.getfield 9, 3) := by decide +kernel
theorem dX5_put_14 : decode cX5_put 14 = .ok (.aload_n 0, 1) := by decide +kernel
theorem dX5_put_15 : decode cX5_put 15 = .ok (.getfield 19, 3) := by decide +kernel
theorem dX5_put_18 : decode cX5_put 18 = .ok (.iload_n 1, 1) := by decide +kernel
theorem dX5_put_19 : decode cX5_put 19 = .ok (.i2c, 1) := by decide +kernel
theorem dX5_put_20 : decode cX5_put 20 = .ok (.castore, 1) := by decide +kernel
theorem dX5_put_21 : decode cX5_put 21 = .ok (.aload_n 0, 1) := by decide +kernel
theorem dX5_put_22 : decode cX5_put 22 = .ok (.dup, 1) := by decide +kernel
theorem dX5_put_23 : decode cX5_put 23 = .ok (.getfield 19, 3) := by decide +kernel
theorem dX5_put_26 : decode cX5_put 26 = .ok (.iconst 1, 1) := by decide +kernel
theorem dX5_put_27 : decode cX5_put 27 = .ok (.iadd, 1) := by decide +kernel
theorem dX5_put_28 : decode cX5_put 28 = .ok (.putfield 19, 3) := by decide +kernel
theorem dX5_put_31 : decode cX5_put 31 = .ok (.return_, 1) := by decide +kernel
theorem dX5_clear_0 : decode cX5_clear 0 = .ok (.aload_n 0, 1) := by decide +kernel
theorem dX5_clear_1 : decode cX5_clear 1 = .ok (.iconst 0, 1) := by decide +kernel
theorem dX5_clear_2 : decode cX5_clear 2 = .ok (.putfield 19, 3) := by decide +kernel
theorem dX5_clear_5 : decode cX5_clear 5 = .ok (.return_, 1) := by decide +kernel
theorem dX5_compiled_0 : decode cX5_compiled 0 = .ok (.aload_n 0, 1) := by decide +kernel
theorem dX5_compiled_1 : decode cX5_compiled 1 = .ok (.iconst 0, 1) := by decide +kernel
theorem dX5_compiled_2 : decode cX5_compiled 2 = .ok (.putfield 23, 3) := by decide +kernel
theorem dX5_compiled_5 : decode cX5_compiled 5 = .ok (.aload_n 0, 1) := by decide +kernel
theorem dX5_compiled_6 : decode cX5_compiled 6 = .ok (.iconst 0, 1) := by decide +kernel
theorem dX5_compiled_7 : decode cX5_compiled 7 = .ok (.putfield 26, 3) := by decide +kernel
theorem dX5_compiled_10 : decode cX5_compiled 10 = .ok (.aload_n 0, 1) := by decide +kernel
theorem dX5_compiled_11 : decode cX5_compiled 11 = .ok (.invokevirtual 29, 3) := by decide +kernel
theorem dX5_compiled_14 : decode cX5_compiled 14 = .ok (.iconst 3, 1) := by decide +kernel
theorem dX5_compiled_15 : decode cX5_compiled 15 = .ok (.newarray .int, 2) := by decide +kernel
theorem dX5_compiled_17 : decode cX5_compiled 17 = .ok (.astore_n 1, 1) := by decide +kernel
theorem dX5_compiled_18 : decode cX5_compiled 18 = .ok (.iconst 0, 1) := by decide +kernel
theorem dX5_compiled_19 : decode cX5_compiled 19 = .ok (.istore_n 2, 1) := by decide +kernel
theorem dX5_compiled_20 : decode cX5_compiled 20 = .ok (.iload_n 2, 1) := by decide +kernel
theorem dX5_compiled_21 : decode cX5_compiled 21 = .ok (.iconst 3, 1) := by decide +kernel
theorem dX5_compiled_22 : decode cX5_compiled 22 = .ok (.if_icmp .ge 43, 3) := by decide +kernel
theorem dX5_compiled_25 : decode cX5_compiled 25 = .ok (.aload_n 0, 1) := by decide +kernel
theorem dX5_compiled_26 : decode cX5_compiled 26 = .ok (.iload_n 2, 1) := by decide +kernel
theorem dX5_compiled_27 : decode cX5_compiled 27 = .ok (.invokevirtual 32, 3) := by decide +kernel
theorem dX5_compiled_30 : decode cX5_compiled 30 = .ok (.ifCond .eq 20, 3) := by decide +kernel
theorem dX5_compiled_33 : decode cX5_compiled 33 = .ok (.aload_n 0, 1) := by decide +kernel
theorem dX5_compiled_34 : decode cX5_compiled 34 = .ok (.iconst 0, 1) := by decide +kernel
theorem dX5_compiled_35 : decode cX5_compiled 35 = .ok (.invokevirtual 36, 3) := by decide +kernel
theorem dX5_compiled_38 : decode cX5_compiled 38 = .ok (.ifCond .eq 12, 3) := by decide +kernel
theorem dX5_compiled_41 : decode cX5_compiled 41 = .ok (.aload_n 0, 1) := by decide +kernel
theorem dX5_compiled_42 : decode cX5_compiled 42 = .ok (.bipush 59, 2) := by decide +kernel
theorem dX5_compiled_44 : decode cX5_compiled 44 = .ok (.invokevirtual 32, 3) := by decide +kernel
theorem dX5_compiled_47 : decode cX5_compiled 47 = .ok (.ifCond .ne 5, 3) := by decide +kernel
theorem dX5_compiled_50 : decode cX5_compiled 50 = .ok (.aconst_null, 1) := by decide +kernel
theorem dX5_compiled_51 : decode cX5_compiled 51 = .ok (.areturn, 1) := by decide +kernel
theorem dX5_compiled_52 : decode cX5_compiled 52 = .ok (.aload_n 1, 1) := by decide +kernel
theorem dX5_compiled_53 : decode cX5_compiled 53 = .ok (.iload_n 2, 1) := by decide +kernel
theorem dX5_compiled_54 : decode cX5_compiled 54 = .ok (.aload_n 0, 1) := by decide +kernel
theorem dX5_compiled_55 : decode cX5_compiled 55 = .ok (.getfield 26, 3) := by decide +kernel
theorem dX5_compiled_58 : decode cX5_compiled 58 = .ok (.iastore, 1) := by decide +kernel
theorem dX5_compiled_59 : decode cX5_compiled 59 = .ok (.iinc 2 1, 3) := by decide +kernel
theorem dX5_compiled_62 : decode cX5_compiled 62 = .ok (.goto (-42), 3) := by decide +kernel
theorem dX5_compiled_65 : decode cX5_compiled 65 = .ok (.aload_n 0, 1) := by decide +kernel
theorem dX5_compiled_66 : decode cX5_compiled 66 = .ok (.getfield 39, 3) := by decide +kernel
theorem dX5_compiled_69 : decode cX5_compiled 69 = .ok (.bipush 9, 2) := by decide +kernel
theorem dX5_compiled_71 : decode cX5_compiled 71 = .ok (.if_icmp .ne 25, 3) := by decide +kernel
theorem dX5_compiled_74 : decode cX5_compiled 74 = .ok (.new 42, 3) := by decide +kernel
theorem dX5_compiled_77 : decode cX5_compiled 77 = .ok (.dup, 1) := by decide +kernel
theorem dX5_compiled_78 : decode cX5_compiled 78 = .ok (.aload_n 0, 1) := by decide +kernel
theorem dX5_compiled_79 : decode cX5_compiled 79 = .ok (.getfield 15, 3) := by decide +kernel
theorem dX5_compiled_82 : decode cX5_compiled 82 = .ok (.aload_n 0, 1) := by decide +kernel
theorem dX5_compiled_83 : decode cX5_compiled 83 = .ok (.getfield 26, 3) := by decide +kernel
theorem dX5_compiled_86 : decode cX5_compiled 86 = .ok (.invokestatic 44, 3) := by decide +kernel
theorem dX5_compiled_89 : decode cX5_compiled 89 = .ok (.aload_n 1, 1) := by decide +kernel
theorem dX5_compiled_90 : decode cX5_compiled 90 = .ok (.invokespecial 50, 3) := by decide +kernel
theorem dX5_compiled_93 : decode cX5_compiled 93 = .ok (.goto 4, 3) := by decide +kernel
theorem dX5_compiled_96 : decode cX5_compiled 96 = .ok (.aconst_null, 1) := by decide +kernel
theorem dX5_compiled_97 : decode cX5_compiled 97 = .ok (.areturn, 1) := by decide +kernel
theorem dX5_either_0 : decode cX5_either 0 = .ok (.aload_n 0, 1) := by decide +kernel
theorem dX5_either_1 : decode cX5_either 1 = .ok (.iload_n 1, 1) := by decide +kernel
theorem dX5_either_2 : decode cX5_either 2 = .ok (.invokevirtual 53, 3) := by decide +kernel
theorem dX5_either_5 : decode cX5_either 5 = .ok (.istore_n 2, 1) := by decide +kernel
theorem dX5_either_6 : decode cX5_either 6 = .ok (.iconst 0, 1) := by decide +kernel
theorem dX5_either_7 : decode cX5_either 7 = .ok (.istore_n 3, 1) := by decide +kernel
theorem dX5_either_8 : decode cX5_either 8 = .ok (.iload_n 3, 1) := by decide +kernel
theorem dX5_either_9 : decode cX5_either 9 = .ok (.sipush 160, 3) := by decide +kernel
theorem dX5_either_12 : decode cX5_either 12 = .ok (.if_icmp .ge 38, 3) := by decide +kernel
theorem dX5_either_15 : decode cX5_either 15 = .ok (.iload_n 2, 1) := by decide +kernel
theorem dX5_either_16 : decode cX5_either 16 = .ok (.ifCond .eq 34, 3) := by decide +kernel
theorem dX5_either_19 : decode cX5_either 19 = .ok (.aload_n 0, 1) := by decide +kernel
theorem dX5_either_20 : decode cX5_either 20 = .ok (.getfield 39, 3) := by decide +kernel
theorem dX5_either_23 : decode cX5_either 23 = .ok (.iconst 3, 1) := by decide +kernel
theorem dX5_either_24 : decode cX5_either 24 = .ok (.if_icmp .ne 26, 3) := by decide +kernel
theorem dX5_either_27 : decode cX5_either 27 = .ok (.aload_n 0, 1) := by decide +kernel
theorem dX5_either_28 : decode cX5_either 28 = .ok (.invokevirtual 29, 3) := by decide +kernel
theorem dX5_either_31 : decode cX5_either 31 = .ok (.aload_n 0, 1) := by decide +kernel
theorem dX5_either_32 : decode cX5_either 32 = .ok (.iload_n 1, 1) := by decide +kernel
theorem dX5_either_33 : decode cX5_either 33 = .ok (.invokevirtual 53, 3) := by decide +kernel
theorem dX5_either_36 : decode cX5_either 36 = .ok (.istore_n 2, 1) := by decide +kernel
theorem dX5_either_37 : decode cX5_either 37 = .ok (.aload_n 0, 1) := by decide +kernel
theorem dX5_either_38 : decode cX5_either 38 = .ok (.iconst 3, 1) := by decide +kernel
theorem dX5_either_39 : decode cX5_either 39 = .ok (.iconst 0, 1) := by decide +kernel
theorem dX5_either_40 : decode cX5_either 40 = .ok (.invokevirtual 56, 3) := by decide +kernel
theorem dX5_either_43 : decode cX5_either 43 = .ok (.pop, 1) := by decide +kernel
theorem dX5_either_44 : decode cX5_either 44 = .ok (.iinc 3 1, 3) := by decide +kernel
theorem dX5_either_47 : decode cX5_either 47 = .ok (.goto (-39), 3) := by decide +kernel
theorem dX5_either_50 : decode cX5_either 50 = .ok (.iload_n 2, 1) := by decide +kernel
theorem dX5_either_51 : decode cX5_either 51 = .ok (.ireturn, 1) := by decide +kernel
theorem dX5_both_0 : decode cX5_both 0 = .ok (.aload_n 0, 1) := by decide +kernel
theorem dX5_both_1 : decode cX5_both 1 = .ok (.iload_n 1, 1) := by decide +kernel
theorem dX5_both_2 : decode cX5_both 2 = .ok (.invokevirtual 60, 3) := by decide +kernel
theorem dX5_both_5 : decode cX5_both 5 = .ok (.istore_n 2, 1) := by decide +kernel
theorem dX5_both_6 : decode cX5_both 6 = .ok (.iconst 0, 1) := by decide +kernel
theorem dX5_both_7 : decode cX5_both 7 = .ok (.istore_n 3, 1) := by decide +kernel
theorem dX5_both_8 : decode cX5_both 8 = .ok (.iload_n 3, 1) := by decide +kernel
theorem dX5_both_9 : decode cX5_both 9 = .ok (.sipush 160, 3) := by decide +kernel
theorem dX5_both_12 : decode cX5_both 12 = .ok (.if_icmp .ge 38, 3) := by decide +kernel
theorem dX5_both_15 : decode cX5_both 15 = .ok (.iload_n 2, 1) := by decide +kernel
theorem dX5_both_16 : decode cX5_both 16 = .ok (.ifCond .eq 34, 3) := by decide +kernel
theorem dX5_both_19 : decode cX5_both 19 = .ok (.aload_n 0, 1) := by decide +kernel
theorem dX5_both_20 : decode cX5_both 20 = .ok (.getfield 39, 3) := by decide +kernel
theorem dX5_both_23 : decode cX5_both 23 = .ok (.iconst 4, 1) := by decide +kernel
theorem dX5_both_24 : decode cX5_both 24 = .ok (.if_icmp .ne 26, 3) := by decide +kernel
theorem dX5_both_27 : decode cX5_both 27 = .ok (.aload_n 0, 1) := by decide +kernel
theorem dX5_both_28 : decode cX5_both 28 = .ok (.invokevirtual 29, 3) := by decide +kernel
theorem dX5_both_31 : decode cX5_both 31 = .ok (.aload_n 0, 1) := by decide +kernel
theorem dX5_both_32 : decode cX5_both 32 = .ok (.iload_n 1, 1) := by decide +kernel
theorem dX5_both_33 : decode cX5_both 33 = .ok (.invokevirtual 60, 3) := by decide +kernel
theorem dX5_both_36 : decode cX5_both 36 = .ok (.istore_n 2, 1) := by decide +kernel
theorem dX5_both_37 : decode cX5_both 37 = .ok (.aload_n 0, 1) := by decide +kernel
theorem dX5_both_38 : decode cX5_both 38 = .ok (.iconst 4, 1) := by decide +kernel
theorem dX5_both_39 : decode cX5_both 39 = .ok (.iconst 0, 1) := by decide +kernel
theorem dX5_both_40 : decode cX5_both 40 = .ok (.invokevirtual 56, 3) := by decide +kernel
theorem dX5_both_43 : decode cX5_both 43 = .ok (.pop, 1) := by decide +kernel
theorem dX5_both_44 : decode cX5_both 44 = .ok (.iinc 3 1, 3) := by decide +kernel
theorem dX5_both_47 : decode cX5_both 47 = .ok (.goto (-39), 3) := by decide +kernel
theorem dX5_both_50 : decode cX5_both 50 = .ok (.iload_n 2, 1) := by decide +kernel
theorem dX5_both_51 : decode cX5_both 51 = .ok (.ireturn, 1) := by decide +kernel
theorem dX5_negated_0 : decode cX5_negated 0 = .ok (.aload_n 0, 1) := by decide +kernel
theorem dX5_negated_1 : decode cX5_negated 1 = .ok (.getfield 39, 3) := by decide +kernel
theorem dX5_negated_4 : decode cX5_negated 4 = .ok (.iconst 5, 1) := by decide +kernel
theorem dX5_negated_5 : decode cX5_negated 5 = .ok (.if_icmp .ne 36, 3) := by decide +kernel
theorem dX5_negated_8 : decode cX5_negated 8 = .ok (.aload_n 0, 1) := by decide +kernel
theorem dX5_negated_9 : decode cX5_negated 9 = .ok (.iload_n 1, 1) := by decide +kernel
theorem dX5_negated_10 : decode cX5_negated 10 = .ok (.invokevirtual 63, 3) := by decide +kernel
theorem dX5_negated_13 : decode cX5_negated 13 = .ok (.ifCond .eq 26, 3) := by decide +kernel
theorem dX5_negated_16 : decode cX5_negated 16 = .ok (.aload_n 0, 1) := by decide +kernel
theorem dX5_negated_17 : decode cX5_negated 17 = .ok (.iload_n 1, 1) := by decide +kernel
theorem dX5_negated_18 : decode cX5_negated 18 = .ok (.iconst 1, 1) := by decide +kernel
theorem dX5_negated_19 : decode cX5_negated 19 = .ok (.iadd, 1) := by decide +kernel
theorem dX5_negated_20 : decode cX5_negated 20 = .ok (.invokevirtual 60, 3) := by decide +kernel
theorem dX5_negated_23 : decode cX5_negated 23 = .ok (.ifCond .eq 16, 3) := by decide +kernel
theorem dX5_negated_26 : decode cX5_negated 26 = .ok (.aload_n 0, 1) := by decide +kernel
theorem dX5_negated_27 : decode cX5_negated 27 = .ok (.iconst 5, 1) := by decide +kernel
theorem dX5_negated_28 : decode cX5_negated 28 = .ok (.iconst 0, 1) := by decide +kernel
theorem dX5_negated_29 : decode cX5_negated 29 = .ok (.invokevirtual 56, 3) := by decide +kernel
theorem dX5_negated_32 : decode cX5_negated 32 = .ok (.ifCond .eq 7, 3) := by decide +kernel
theorem dX5_negated_35 : decode cX5_negated 35 = .ok (.iconst 1, 1) := by decide +kernel
theorem dX5_negated_36 : decode cX5_negated 36 = .ok (.goto 4, 3) := by decide +kernel
theorem dX5_negated_39 : decode cX5_negated 39 = .ok (.iconst 0, 1) := by decide +kernel
theorem dX5_negated_40 : decode cX5_negated 40 = .ok (.ireturn, 1) := by decide +kernel
theorem dX5_negated_41 : decode cX5_negated 41 = .ok (.aload_n 0, 1) := by decide +kernel
theorem dX5_negated_42 : decode cX5_negated 42 = .ok (.iload_n 1, 1) := by decide +kernel
theorem dX5_negated_43 : decode cX5_negated 43 = .ok (.invokevirtual 66, 3) := by decide +kernel
theorem dX5_negated_46 : decode cX5_negated 46 = .ok (.ifCond .ne 5, 3) := by decide +kernel
theorem dX5_negated_49 : decode cX5_negated 49 = .ok (.iconst 0, 1) := by decide +kernel
theorem dX5_negated_50 : decode cX5_negated 50 = .ok (.ireturn, 1) := by decide +kernel
theorem dX5_negated_51 : decode cX5_negated 51 = .ok (.aload_n 0, 1) := by decide +kernel
theorem dX5_negated_52 : decode cX5_negated 52 = .ok (.getfield 39, 3) := by decide +kernel
theorem dX5_negated_55 : decode cX5_negated 55 = .ok (.bipush 60, 2) := by decide +kernel
theorem dX5_negated_57 : decode cX5_negated 57 = .ok (.if_icmp .eq 14, 3) := by decide +kernel
theorem dX5_negated_60 : decode cX5_negated 60 = .ok (.aload_n 0, 1) := by decide +kernel
theorem dX5_negated_61 : decode cX5_negated 61 = .ok (.getfield 39, 3) := by decide +kernel
theorem dX5_negated_64 : decode cX5_negated 64 = .ok (.bipush 61, 2) := by decide +kernel
theorem dX5_negated_66 : decode cX5_negated 66 = .ok (.if_icmp .eq 5, 3) := by decide +kernel
theorem dX5_negated_69 : decode cX5_negated 69 = .ok (.iconst 1, 1) := by decide +kernel
theorem dX5_negated_70 : decode cX5_negated 70 = .ok (.ireturn, 1) := by decide +kernel
theorem dX5_negated_71 : decode cX5_negated 71 = .ok (.aload_n 0, 1) := by decide +kernel
theorem dX5_negated_72 : decode cX5_negated 72 = .ok (.getfield 39, 3) := by decide +kernel
theorem dX5_negated_75 : decode cX5_negated 75 = .ok (.istore_n 2, 1) := by decide +kernel
theorem dX5_negated_76 : decode cX5_negated 76 = .ok (.aload_n 0, 1) := by decide +kernel
theorem dX5_negated_77 : decode cX5_negated 77 = .ok (.invokevirtual 29, 3) := by decide +kernel
theorem dX5_negated_80 : decode cX5_negated 80 = .ok (.aload_n 0, 1) := by decide +kernel
theorem dX5_negated_81 : decode cX5_negated 81 = .ok (.iload_n 1, 1) := by decide +kernel
theorem dX5_negated_82 : decode cX5_negated 82 = .ok (.invokevirtual 66, 3) := by decide +kernel
theorem dX5_negated_85 : decode cX5_negated 85 = .ok (.ifCond .eq 16, 3) := by decide +kernel
theorem dX5_negated_88 : decode cX5_negated 88 = .ok (.aload_n 0, 1) := by decide +kernel
theorem dX5_negated_89 : decode cX5_negated 89 = .ok (.iload_n 2, 1) := by decide +kernel
theorem dX5_negated_90 : decode cX5_negated 90 = .ok (.iconst 0, 1) := by decide +kernel
theorem dX5_negated_91 : decode cX5_negated 91 = .ok (.invokevirtual 56, 3) := by decide +kernel
theorem dX5_negated_94 : decode cX5_negated 94 = .ok (.ifCond .eq 7, 3) := by decide +kernel
theorem dX5_negated_97 : decode cX5_negated 97 = .ok (.iconst 1, 1) := by decide +kernel
theorem dX5_negated_98 : decode cX5_negated 98 = .ok (.goto 4, 3) := by decide +kernel
theorem dX5_negated_101 : decode cX5_negated 101 = .ok (.iconst 0, 1) := by decide +kernel
theorem dX5_negated_102 : decode cX5_negated 102 = .ok (.ireturn, 1) := by decide +kernel
theorem dX5_sum_0 : decode cX5_sum 0 = .ok (.aload_n 0, 1) := by decide +kernel
theorem dX5_sum_1 : decode cX5_sum 1 = .ok (.iload_n 1, 1) := by decide +kernel
theorem dX5_sum_2 : decode cX5_sum 2 = .ok (.invokevirtual 69, 3) := by decide +kernel
theorem dX5_sum_5 : decode cX5_sum 5 = .ok (.istore_n 2, 1) := by decide +kernel
theorem dX5_sum_6 : decode cX5_sum 6 = .ok (.iconst 0, 1) := by decide +kernel
theorem dX5_sum_7 : decode cX5_sum 7 = .ok (.istore_n 3, 1) := by decide +kernel
theorem dX5_sum_8 : decode cX5_sum 8 = .ok (.iload_n 3, 1) := by decide +kernel
theorem dX5_sum_9 : decode cX5_sum 9 = .ok (.sipush 160, 3) := by decide +kernel
theorem dX5_sum_12 : decode cX5_sum 12 = .ok (.if_icmp .ge 55, 3) := by decide +kernel
theorem dX5_sum_15 : decode cX5_sum 15 = .ok (.iload_n 2, 1) := by decide +kernel
theorem dX5_sum_16 : decode cX5_sum 16 = .ok (.ifCond .eq 51, 3) := by decide +kernel
theorem dX5_sum_19 : decode cX5_sum 19 = .ok (.aload_n 0, 1) := by decide +kernel
theorem dX5_sum_20 : decode cX5_sum 20 = .ok (.getfield 39, 3) := by decide +kernel
theorem dX5_sum_23 : decode cX5_sum 23 = .ok (.bipush 43, 2) := by decide +kernel
theorem dX5_sum_25 : decode cX5_sum 25 = .ok (.if_icmp .eq 12, 3) := by decide +kernel
theorem dX5_sum_28 : decode cX5_sum 28 = .ok (.aload_n 0, 1) := by decide +kernel
theorem dX5_sum_29 : decode cX5_sum 29 = .ok (.getfield 39, 3) := by decide +kernel
theorem dX5_sum_32 : decode cX5_sum 32 = .ok (.bipush 45, 2) := by decide +kernel
theorem dX5_sum_34 : decode cX5_sum 34 = .ok (.if_icmp .ne 33, 3) := by decide +kernel
theorem dX5_sum_37 : decode cX5_sum 37 = .ok (.aload_n 0, 1) := by decide +kernel
theorem dX5_sum_38 : decode cX5_sum 38 = .ok (.getfield 39, 3) := by decide +kernel
theorem dX5_sum_41 : decode cX5_sum 41 = .ok (.istore 4, 2) := by decide +kernel
theorem dX5_sum_43 : decode cX5_sum 43 = .ok (.aload_n 0, 1) := by decide +kernel
theorem dX5_sum_44 : decode cX5_sum 44 = .ok (.invokevirtual 29, 3) := by decide +kernel
theorem dX5_sum_47 : decode cX5_sum 47 = .ok (.aload_n 0, 1) := by decide +kernel
theorem dX5_sum_48 : decode cX5_sum 48 = .ok (.iload_n 1, 1) := by decide +kernel
theorem dX5_sum_49 : decode cX5_sum 49 = .ok (.invokevirtual 69, 3) := by decide +kernel
theorem dX5_sum_52 : decode cX5_sum 52 = .ok (.istore_n 2, 1) := by decide +kernel
theorem dX5_sum_53 : decode cX5_sum 53 = .ok (.aload_n 0, 1) := by decide +kernel
theorem dX5_sum_54 : decode cX5_sum 54 = .ok (.iload 4, 2) := by decide +kernel
theorem dX5_sum_56 : decode cX5_sum 56 = .ok (.iconst 0, 1) := by decide +kernel
theorem dX5_sum_57 : decode cX5_sum 57 = .ok (.invokevirtual 56, 3) := by decide +kernel
theorem dX5_sum_60 : decode cX5_sum 60 = .ok (.pop, 1) := by decide +kernel
theorem dX5_sum_61 : decode cX5_sum 61 = .ok (.iinc 3 1, 3) := by decide +kernel
theorem dX5_sum_64 : decode cX5_sum 64 = .ok (.goto (-56), 3) := by decide +kernel
theorem dX5_sum_67 : decode cX5_sum 67 = .ok (.iload_n 2, 1) := by decide +kernel
theorem dX5_sum_68 : decode cX5_sum 68 = .ok (.ireturn, 1) := by decide +kernel
theorem dX5_product_0 : decode cX5_product 0 = .ok (.aload_n 0, 1) := by decide +kernel
theorem dX5_product_1 : decode cX5_product 1 = .ok (.iload_n 1, 1) := by decide +kernel
theorem dX5_product_2 : decode cX5_product 2 = .ok (.invokevirtual 72, 3) := by decide +kernel
theorem dX5_product_5 : decode cX5_product 5 = .ok (.istore_n 2, 1) := by decide +kernel
theorem dX5_product_6 : decode cX5_product 6 = .ok (.iconst 0, 1) := by decide +kernel
theorem dX5_product_7 : decode cX5_product 7 = .ok (.istore_n 3, 1) := by decide +kernel
theorem dX5_product_8 : decode cX5_product 8 = .ok (.iload_n 3, 1) := by decide +kernel
theorem dX5_product_9 : decode cX5_product 9 = .ok (.sipush 160, 3) := by decide +kernel
theorem dX5_product_12 : decode cX5_product 12 = .ok (.if_icmp .ge 40, 3) := by decide +kernel
theorem dX5_product_15 : decode cX5_product 15 = .ok (.iload_n 2, 1) := by decide +kernel
theorem dX5_product_16 : decode cX5_product 16 = .ok (.ifCond .eq 36, 3) := by decide +kernel
theorem dX5_product_19 : decode cX5_product 19 = .ok (.aload_n 0, 1) := by decide +kernel
theorem dX5_product_20 : decode cX5_product 20 = .ok (.getfield 39, 3) := by decide +kernel
theorem dX5_product_23 : decode cX5_product 23 = .ok (.bipush 42, 2) := by decide +kernel
theorem dX5_product_25 : decode cX5_product 25 = .ok (.if_icmp .ne 27, 3) := by decide +kernel
theorem dX5_product_28 : decode cX5_product 28 = .ok (.aload_n 0, 1) := by decide +kernel
theorem dX5_product_29 : decode cX5_product 29 = .ok (.invokevirtual 29, 3) := by decide +kernel
theorem dX5_product_32 : decode cX5_product 32 = .ok (.aload_n 0, 1) := by decide +kernel
theorem dX5_product_33 : decode cX5_product 33 = .ok (.iload_n 1, 1) := by decide +kernel
theorem dX5_product_34 : decode cX5_product 34 = .ok (.invokevirtual 72, 3) := by decide +kernel
theorem dX5_product_37 : decode cX5_product 37 = .ok (.istore_n 2, 1) := by decide +kernel
theorem dX5_product_38 : decode cX5_product 38 = .ok (.aload_n 0, 1) := by decide +kernel
theorem dX5_product_39 : decode cX5_product 39 = .ok (.bipush 42, 2) := by decide +kernel
theorem dX5_product_41 : decode cX5_product 41 = .ok (.iconst 0, 1) := by decide +kernel
theorem dX5_product_42 : decode cX5_product 42 = .ok (.invokevirtual 56, 3) := by decide +kernel
theorem dX5_product_45 : decode cX5_product 45 = .ok (.pop, 1) := by decide +kernel
theorem dX5_product_46 : decode cX5_product 46 = .ok (.iinc 3 1, 3) := by decide +kernel
theorem dX5_product_49 : decode cX5_product 49 = .ok (.goto (-41), 3) := by decide +kernel
theorem dX5_product_52 : decode cX5_product 52 = .ok (.iload_n 2, 1) := by decide +kernel
theorem dX5_product_53 : decode cX5_product 53 = .ok (.ireturn, 1) := by decide +kernel
theorem dX5_one_0 : decode cX5_one 0 = .ok (.aload_n 0, 1) := by decide +kernel
theorem dX5_one_1 : decode cX5_one 1 = .ok (.getfield 39, 3) := by decide +kernel
theorem dX5_one_4 : decode cX5_one 4 = .ok (.bipush 7, 2) := by decide +kernel
theorem dX5_one_6 : decode cX5_one 6 = .ok (.if_icmp .eq 12, 3) := by decide +kernel
theorem dX5_one_9 : decode cX5_one 9 = .ok (.aload_n 0, 1) := by decide +kernel
theorem dX5_one_10 : decode cX5_one 10 = .ok (.getfield 39, 3) := by decide +kernel
theorem dX5_one_13 : decode cX5_one 13 = .ok (.bipush 6, 2) := by decide +kernel
theorem dX5_one_15 : decode cX5_one 15 = .ok (.if_icmp .ne 22, 3) := by decide +kernel
theorem dX5_one_18 : decode cX5_one 18 = .ok (.aload_n 0, 1) := by decide +kernel
theorem dX5_one_19 : decode cX5_one 19 = .ok (.aload_n 0, 1) := by decide +kernel
theorem dX5_one_20 : decode cX5_one 20 = .ok (.getfield 39, 3) := by decide +kernel
theorem dX5_one_23 : decode cX5_one 23 = .ok (.aload_n 0, 1) := by decide +kernel
theorem dX5_one_24 : decode cX5_one 24 = .ok (.getfield 75, 3) := by decide +kernel
theorem dX5_one_27 : decode cX5_one 27 = .ok (.invokevirtual 56, 3) := by decide +kernel
theorem dX5_one_30 : decode cX5_one 30 = .ok (.pop, 1) := by decide +kernel
theorem dX5_one_31 : decode cX5_one 31 = .ok (.aload_n 0, 1) := by decide +kernel
theorem dX5_one_32 : decode cX5_one 32 = .ok (.invokevirtual 29, 3) := by decide +kernel
theorem dX5_one_35 : decode cX5_one 35 = .ok (.iconst 1, 1) := by decide +kernel
theorem dX5_one_36 : decode cX5_one 36 = .ok (.ireturn, 1) := by decide +kernel
theorem dX5_one_37 : decode cX5_one 37 = .ok (.aload_n 0, 1) := by decide +kernel
theorem dX5_one_38 : decode cX5_one 38 = .ok (.getfield 39, 3) := by decide +kernel
theorem dX5_one_41 : decode cX5_one 41 = .ok (.bipush 45, 2) := by decide +kernel
theorem dX5_one_43 : decode cX5_one 43 = .ok (.if_icmp .ne 37, 3) := by decide +kernel
theorem dX5_one_46 : decode cX5_one 46 = .ok (.aload_n 0, 1) := by decide +kernel
theorem dX5_one_47 : decode cX5_one 47 = .ok (.iload_n 1, 1) := by decide +kernel
theorem dX5_one_48 : decode cX5_one 48 = .ok (.invokevirtual 63, 3) := by decide +kernel
theorem dX5_one_51 : decode cX5_one 51 = .ok (.ifCond .eq 27, 3) := by decide +kernel
theorem dX5_one_54 : decode cX5_one 54 = .ok (.aload_n 0, 1) := by decide +kernel
theorem dX5_one_55 : decode cX5_one 55 = .ok (.iload_n 1, 1) := by decide +kernel
theorem dX5_one_56 : decode cX5_one 56 = .ok (.iconst 1, 1) := by decide +kernel
theorem dX5_one_57 : decode cX5_one 57 = .ok (.iadd, 1) := by decide +kernel
theorem dX5_one_58 : decode cX5_one 58 = .ok (.invokevirtual 72, 3) := by decide +kernel
theorem dX5_one_61 : decode cX5_one 61 = .ok (.ifCond .eq 17, 3) := by decide +kernel
theorem dX5_one_64 : decode cX5_one 64 = .ok (.aload_n 0, 1) := by decide +kernel
theorem dX5_one_65 : decode cX5_one 65 = .ok (.bipush 8, 2) := by decide +kernel
theorem dX5_one_67 : decode cX5_one 67 = .ok (.iconst 0, 1) := by decide +kernel
theorem dX5_one_68 : decode cX5_one 68 = .ok (.invokevirtual 56, 3) := by decide +kernel
theorem dX5_one_71 : decode cX5_one 71 = .ok (.ifCond .eq 7, 3) := by decide +kernel
theorem dX5_one_74 : decode cX5_one 74 = .ok (.iconst 1, 1) := by decide +kernel
theorem dX5_one_75 : decode cX5_one 75 = .ok (.goto 4, 3) := by decide +kernel
theorem dX5_one_78 : decode cX5_one 78 = .ok (.iconst 0, 1) := by decide +kernel
theorem dX5_one_79 : decode cX5_one 79 = .ok (.ireturn, 1) := by decide +kernel
theorem dX5_one_80 : decode cX5_one 80 = .ok (.aload_n 0, 1) := by decide +kernel
theorem dX5_one_81 : decode cX5_one 81 = .ok (.getfield 39, 3) := by decide +kernel
theorem dX5_one_84 : decode cX5_one 84 = .ok (.bipush 40, 2) := by decide +kernel
theorem dX5_one_86 : decode cX5_one 86 = .ok (.if_icmp .ne 34, 3) := by decide +kernel
theorem dX5_one_89 : decode cX5_one 89 = .ok (.aload_n 0, 1) := by decide +kernel
theorem dX5_one_90 : decode cX5_one 90 = .ok (.iload_n 1, 1) := by decide +kernel
theorem dX5_one_91 : decode cX5_one 91 = .ok (.invokevirtual 63, 3) := by decide +kernel
theorem dX5_one_94 : decode cX5_one 94 = .ok (.ifCond .eq 26, 3) := by decide +kernel
theorem dX5_one_97 : decode cX5_one 97 = .ok (.aload_n 0, 1) := by decide +kernel
theorem dX5_one_98 : decode cX5_one 98 = .ok (.iload_n 1, 1) := by decide +kernel
theorem dX5_one_99 : decode cX5_one 99 = .ok (.iconst 1, 1) := by decide +kernel
theorem dX5_one_100 : decode cX5_one 100 = .ok (.iadd, 1) := by decide +kernel
theorem dX5_one_101 : decode cX5_one 101 = .ok (.invokevirtual 36, 3) := by decide +kernel
theorem dX5_one_104 : decode cX5_one 104 = .ok (.ifCond .eq 16, 3) := by decide +kernel
theorem dX5_one_107 : decode cX5_one 107 = .ok (.aload_n 0, 1) := by decide +kernel
theorem dX5_one_108 : decode cX5_one 108 = .ok (.bipush 41, 2) := by decide +kernel
theorem dX5_one_110 : decode cX5_one 110 = .ok (.invokevirtual 32, 3) := by decide +kernel
theorem dX5_one_113 : decode cX5_one 113 = .ok (.ifCond .eq 7, 3) := by decide +kernel
theorem dX5_one_116 : decode cX5_one 116 = .ok (.iconst 1, 1) := by decide +kernel
theorem dX5_one_117 : decode cX5_one 117 = .ok (.goto 4, 3) := by decide +kernel
theorem dX5_one_120 : decode cX5_one 120 = .ok (.iconst 0, 1) := by decide +kernel
theorem dX5_one_121 : decode cX5_one 121 = .ok (.ireturn, 1) := by decide +kernel
theorem dX5_enter_0 : decode cX5_enter 0 = .ok (.iload_n 1, 1) := by decide +kernel
theorem dX5_enter_1 : decode cX5_enter 1 = .ok (.iconst 5, 1) := by decide +kernel
theorem dX5_enter_2 : decode cX5_enter 2 = .ok (.if_icmp .lt 5, 3) := by decide +kernel
theorem dX5_enter_5 : decode cX5_enter 5 = .ok (.iconst 0, 1) := by decide +kernel
theorem dX5_enter_6 : decode cX5_enter 6 = .ok (.ireturn, 1) := by decide +kernel
theorem dX5_enter_7 : decode cX5_enter 7 = .ok (.aload_n 0, 1) := by decide +kernel
theorem dX5_enter_8 : decode cX5_enter 8 = .ok (.invokevirtual 29, 3) := by decide +kernel
theorem dX5_enter_11 : decode cX5_enter 11 = .ok (.iconst 1, 1) := by decide +kernel
theorem dX5_enter_12 : decode cX5_enter 12 = .ok (.ireturn, 1) := by decide +kernel
theorem dX5_pass_0 : decode cX5_pass 0 = .ok (.aload_n 0, 1) := by decide +kernel
theorem dX5_pass_1 : decode cX5_pass 1 = .ok (.getfield 39, 3) := by decide +kernel
theorem dX5_pass_4 : decode cX5_pass 4 = .ok (.iload_n 1, 1) := by decide +kernel
theorem dX5_pass_5 : decode cX5_pass 5 = .ok (.if_icmp .eq 5, 3) := by decide +kernel
theorem dX5_pass_8 : decode cX5_pass 8 = .ok (.iconst 0, 1) := by decide +kernel
theorem dX5_pass_9 : decode cX5_pass 9 = .ok (.ireturn, 1) := by decide +kernel
theorem dX5_pass_10 : decode cX5_pass 10 = .ok (.aload_n 0, 1) := by decide +kernel
theorem dX5_pass_11 : decode cX5_pass 11 = .ok (.invokevirtual 29, 3) := by decide +kernel
theorem dX5_pass_14 : decode cX5_pass 14 = .ok (.iconst 1, 1) := by decide +kernel
theorem dX5_pass_15 : decode cX5_pass 15 = .ok (.ireturn, 1) := by decide +kernel
theorem dX5_emit_0 : decode cX5_emit 0 = .ok (.aload_n 0, 1) := by decide +kernel
theorem dX5_emit_1 : decode cX5_emit 1 = .ok (.getfield 26, 3) := by decide +kernel
theorem dX5_emit_4 : decode cX5_emit 4 = .ok (.sipush 160, 3) := by decide +kernel
theorem dX5_emit_7 : decode cX5_emit 7 = .ok (.if_icmp .ge 28, 3) := by decide +kernel
theorem dX5_emit_10 : decode cX5_emit 10 = .ok (.aload_n 0, 1) := by decide +kernel
theorem dX5_emit_11 : decode cX5_emit 11 = .ok (.getfield 15, 3) := by decide +kernel
theorem dX5_emit_14 : decode cX5_emit 14 = .ok (.aload_n 0, 1) := by decide +kernel
theorem dX5_emit_15 : decode cX5_emit 15 = .ok (.getfield 26, 3) := by decide +kernel
theorem dX5_emit_18 : decode cX5_emit 18 = .ok (.iload_n 1, 1) := by decide +kernel
theorem dX5_emit_19 : decode cX5_emit 19 = .ok (.bipush 64, 2) := by decide +kernel
theorem dX5_emit_21 : decode cX5_emit 21 = .ok (.iload_n 2, 1) := by decide +kernel
theorem dX5_emit_22 : decode cX5_emit 22 = .ok (.imul, 1) := by decide +kernel
theorem dX5_emit_23 : decode cX5_emit 23 = .ok (.iadd, 1) := by decide +kernel
theorem dX5_emit_24 : decode cX5_emit 24 = .ok (.iastore, 1) := by decide +kernel
theorem dX5_emit_25 : decode cX5_emit 25 = .ok (.aload_n 0, 1) := by decide +kernel
theorem dX5_emit_26 : decode cX5_emit 26 = .ok (.dup, 1) := by decide +kernel
theorem dX5_emit_27 : decode cX5_emit 27 = .ok (.getfield 26, 3) := by decide +kernel
theorem dX5_emit_30 : decode cX5_emit 30 = .ok (.iconst 1, 1) := by decide +kernel
theorem dX5_emit_31 : decode cX5_emit 31 = .ok (.iadd, 1) := by decide +kernel
theorem dX5_emit_32 : decode cX5_emit 32 = .ok (.putfield 26, 3) := by decide +kernel
theorem dX5_emit_35 : decode cX5_emit 35 = .ok (.iconst 1, 1) := by decide +kernel
theorem dX5_emit_36 : decode cX5_emit 36 = .ok (.ireturn, 1) := by decide +kernel
theorem dX5_advance_0 : decode cX5_advance 0 = .ok (.aload_n 0, 1) := by decide +kernel
theorem dX5_advance_1 : decode cX5_advance 1 = .ok (.getfield 23, 3) := by decide +kernel
theorem dX5_advance_4 : decode cX5_advance 4 = .ok (.istore_n 1, 1) := by decide +kernel
theorem dX5_advance_5 : decode cX5_advance 5 = .ok (.iconst 0, 1) := by decide +kernel
theorem dX5_advance_6 : decode cX5_advance 6 = .ok (.istore_n 2, 1) := by decide +kernel
theorem dX5_advance_7 : decode cX5_advance 7 = .ok (.iload_n 2, 1) := by decide +kernel
theorem dX5_advance_8 : decode cX5_advance 8 = .ok (.sipush 160, 3) := by decide +kernel
theorem dX5_advance_11 : decode cX5_advance 11 = .ok (.if_icmp .ge 42, 3) := by decide +kernel
theorem dX5_advance_14 : decode cX5_advance 14 = .ok (.iload_n 1, 1) := by decide +kernel
theorem dX5_advance_15 : decode cX5_advance 15 = .ok (.aload_n 0, 1) := by decide +kernel
theorem dX5_advance_16 : decode cX5_advance 16 = .ok (.getfield 19, 3) := by decide +kernel
theorem dX5_advance_19 : decode cX5_advance 19 = .ok (.if_icmp .ge 34, 3) := by decide +kernel
theorem dX5_advance_22 : decode cX5_advance 22 = .ok (.aload_n 0, 1) := by decide +kernel
theorem dX5_advance_23 : decode cX5_advance 23 = .ok (.getfield 9, 3) := by decide +kernel
theorem dX5_advance_26 : decode cX5_advance 26 = .ok (.iload_n 1, 1) := by decide +kernel
theorem dX5_advance_27 : decode cX5_advance 27 = .ok (.caload, 1) := by decide +kernel
theorem dX5_advance_28 : decode cX5_advance 28 = .ok (.bipush 32, 2) := by decide +kernel
theorem dX5_advance_30 : decode cX5_advance 30 = .ok (.if_icmp .eq 14, 3) := by decide +kernel
theorem dX5_advance_33 : decode cX5_advance 33 = .ok (.aload_n 0, 1) := by decide +kernel
theorem dX5_advance_34 : decode cX5_advance 34 = .ok (.getfield 9, 3) := by decide +kernel
theorem dX5_advance_37 : decode cX5_advance 37 = .ok (.iload_n 1, 1) := by decide +kernel
theorem dX5_advance_38 : decode cX5_advance 38 = .ok (.caload, 1) := by decide +kernel
theorem dX5_advance_39 : decode cX5_advance 39 = .ok (.bipush 10, 2) := by decide +kernel
theorem dX5_advance_41 : decode cX5_advance 41 = .ok (.if_icmp .ne 12, 3) := by decide +kernel
theorem dX5_advance_44 : decode cX5_advance 44 = .ok (.iinc 1 1, 3) := by decide +kernel
theorem dX5_advance_47 : decode cX5_advance 47 = .ok (.iinc 2 1, 3) := by decide +kernel
theorem dX5_advance_50 : decode cX5_advance 50 = .ok (.goto (-43), 3) := by decide +kernel
theorem dX5_advance_53 : decode cX5_advance 53 = .ok (.aload_n 0, 1) := by decide +kernel
theorem dX5_advance_54 : decode cX5_advance 54 = .ok (.iload_n 1, 1) := by decide +kernel
theorem dX5_advance_55 : decode cX5_advance 55 = .ok (.putfield 78, 3) := by decide +kernel
theorem dX5_advance_58 : decode cX5_advance 58 = .ok (.aload_n 0, 1) := by decide +kernel
theorem dX5_advance_59 : decode cX5_advance 59 = .ok (.iload_n 1, 1) := by decide +kernel
theorem dX5_advance_60 : decode cX5_advance 60 = .ok (.putfield 23, 3) := by decide +kernel
theorem dX5_advance_63 : decode cX5_advance 63 = .ok (.aload_n 0, 1) := by decide +kernel
theorem dX5_advance_64 : decode cX5_advance 64 = .ok (.bipush 9, 2) := by decide +kernel
theorem dX5_advance_66 : decode cX5_advance 66 = .ok (.putfield 39, 3) := by decide +kernel
theorem dX5_advance_69 : decode cX5_advance 69 = .ok (.iload_n 1, 1) := by decide +kernel
theorem dX5_advance_70 : decode cX5_advance 70 = .ok (.aload_n 0, 1) := by decide +kernel
theorem dX5_advance_71 : decode cX5_advance 71 = .ok (.getfield 19, 3) := by decide +kernel
theorem dX5_advance_74 : decode cX5_advance 74 = .ok (.if_icmp .ge 65, 3) := by decide +kernel
theorem dX5_advance_77 : decode cX5_advance 77 = .ok (.aload_n 0, 1) := by decide +kernel
theorem dX5_advance_78 : decode cX5_advance 78 = .ok (.getfield 9, 3) := by decide +kernel
theorem dX5_advance_81 : decode cX5_advance 81 = .ok (.iload_n 1, 1) := by decide +kernel
theorem dX5_advance_82 : decode cX5_advance 82 = .ok (.caload, 1) := by decide +kernel
theorem dX5_advance_83 : decode cX5_advance 83 = .ok (.bipush 97, 2) := by decide +kernel
theorem dX5_advance_85 : decode cX5_advance 85 = .ok (.if_icmp .lt 21, 3) := by decide +kernel
theorem dX5_advance_88 : decode cX5_advance 88 = .ok (.aload_n 0, 1) := by decide +kernel
theorem dX5_advance_89 : decode cX5_advance 89 = .ok (.getfield 9, 3) := by decide +kernel
theorem dX5_advance_92 : decode cX5_advance 92 = .ok (.iload_n 1, 1) := by decide +kernel
theorem dX5_advance_93 : decode cX5_advance 93 = .ok (.caload, 1) := by decide +kernel
theorem dX5_advance_94 : decode cX5_advance 94 = .ok (.bipush 122, 2) := by decide +kernel
theorem dX5_advance_96 : decode cX5_advance 96 = .ok (.if_icmp .gt 10, 3) := by decide +kernel
theorem dX5_advance_99 : decode cX5_advance 99 = .ok (.aload_n 0, 1) := by decide +kernel
theorem dX5_advance_100 : decode cX5_advance 100 = .ok (.invokevirtual 81, 3) := by decide +kernel
theorem dX5_advance_103 : decode cX5_advance 103 = .ok (.goto 36, 3) := by decide +kernel
theorem dX5_advance_106 : decode cX5_advance 106 = .ok (.aload_n 0, 1) := by decide +kernel
theorem dX5_advance_107 : decode cX5_advance 107 = .ok (.getfield 9, 3) := by decide +kernel
theorem dX5_advance_110 : decode cX5_advance 110 = .ok (.iload_n 1, 1) := by decide +kernel
theorem dX5_advance_111 : decode cX5_advance 111 = .ok (.caload, 1) := by decide +kernel
theorem dX5_advance_112 : decode cX5_advance 112 = .ok (.bipush 48, 2) := by decide +kernel
theorem dX5_advance_114 : decode cX5_advance 114 = .ok (.if_icmp .lt 21, 3) := by decide +kernel
theorem dX5_advance_117 : decode cX5_advance 117 = .ok (.aload_n 0, 1) := by decide +kernel
theorem dX5_advance_118 : decode cX5_advance 118 = .ok (.getfield 9, 3) := by decide +kernel
theorem dX5_advance_121 : decode cX5_advance 121 = .ok (.iload_n 1, 1) := by decide +kernel
theorem dX5_advance_122 : decode cX5_advance 122 = .ok (.caload, 1) := by decide +kernel
theorem dX5_advance_123 : decode cX5_advance 123 = .ok (.bipush 57, 2) := by decide +kernel
theorem dX5_advance_125 : decode cX5_advance 125 = .ok (.if_icmp .gt 10, 3) := by decide +kernel
theorem dX5_advance_128 : decode cX5_advance 128 = .ok (.aload_n 0, 1) := by decide +kernel
theorem dX5_advance_129 : decode cX5_advance 129 = .ok (.invokevirtual 84, 3) := by decide +kernel
theorem dX5_advance_132 : decode cX5_advance 132 = .ok (.goto 7, 3) := by decide +kernel
theorem dX5_advance_135 : decode cX5_advance 135 = .ok (.aload_n 0, 1) := by decide +kernel
theorem dX5_advance_136 : decode cX5_advance 136 = .ok (.invokevirtual 87, 3) := by decide +kernel
theorem dX5_advance_139 : decode cX5_advance 139 = .ok (.return_, 1) := by decide +kernel
theorem dX5_readWord_0 : decode cX5_readWord 0 = .ok (.iconst 0, 1) := by decide +kernel
theorem dX5_readWord_1 : decode cX5_readWord 1 = .ok (.istore_n 1, 1) := by decide +kernel
theorem dX5_readWord_2 : decode cX5_readWord 2 = .ok (.iload_n 1, 1) := by decide +kernel
theorem dX5_readWord_3 : decode cX5_readWord 3 = .ok (.sipush 160, 3) := by decide +kernel
theorem dX5_readWord_6 : decode cX5_readWord 6 = .ok (.if_icmp .ge 58, 3) := by decide +kernel
theorem dX5_readWord_9 : decode cX5_readWord 9 = .ok (.aload_n 0, 1) := by decide +kernel
theorem dX5_readWord_10 : decode cX5_readWord 10 = .ok (.getfield 23, 3) := by decide +kernel
theorem dX5_readWord_13 : decode cX5_readWord 13 = .ok (.aload_n 0, 1) := by decide +kernel
theorem dX5_readWord_14 : decode cX5_readWord 14 = .ok (.getfield 19, 3) := by decide +kernel
theorem dX5_readWord_17 : decode cX5_readWord 17 = .ok (.if_icmp .ge 47, 3) := by decide +kernel
theorem dX5_readWord_20 : decode cX5_readWord 20 = .ok (.aload_n 0, 1) := by decide +kernel
theorem dX5_readWord_21 : decode cX5_readWord 21 = .ok (.getfield 9, 3) := by decide +kernel
theorem dX5_readWord_24 : decode cX5_readWord 24 = .ok (.aload_n 0, 1) := by decide +kernel
theorem dX5_readWord_25 : decode cX5_readWord 25 = .ok (.getfield 23, 3) := by decide +kernel
theorem dX5_readWord_28 : decode cX5_readWord 28 = .ok (.caload, 1) := by decide +kernel
theorem dX5_readWord_29 : decode cX5_readWord 29 = .ok (.bipush 97, 2) := by decide +kernel
theorem dX5_readWord_31 : decode cX5_readWord 31 = .ok (.if_icmp .lt 33, 3) := by decide +kernel
theorem dX5_readWord_34 : decode cX5_readWord 34 = .ok (.aload_n 0, 1) := by decide +kernel
theorem dX5_readWord_35 : decode cX5_readWord 35 = .ok (.getfield 9, 3) := by decide +kernel
theorem dX5_readWord_38 : decode cX5_readWord 38 = .ok (.aload_n 0, 1) := by decide +kernel
theorem dX5_readWord_39 : decode cX5_readWord 39 = .ok (.getfield 23, 3) := by decide +kernel
theorem dX5_readWord_42 : decode cX5_readWord 42 = .ok (.caload, 1) := by decide +kernel
theorem dX5_readWord_43 : decode cX5_readWord 43 = .ok (.bipush 122, 2) := by decide +kernel
theorem dX5_readWord_45 : decode cX5_readWord 45 = .ok (.if_icmp .gt 19, 3) := by decide +kernel
theorem dX5_readWord_48 : decode cX5_readWord 48 = .ok (.aload_n 0, 1) := by decide +kernel
theorem dX5_readWord_49 : decode cX5_readWord 49 = .ok (.dup, 1) := by decide +kernel
theorem dX5_readWord_50 : decode cX5_readWord 50 = .ok (.getfield 23, 3) := by decide +kernel
theorem dX5_readWord_53 : decode cX5_readWord 53 = .ok (.iconst 1, 1) := by decide +kernel
theorem dX5_readWord_54 : decode cX5_readWord 54 = .ok (.iadd, 1) := by decide +kernel
theorem dX5_readWord_55 : decode cX5_readWord 55 = .ok (.putfield 23, 3) := by decide +kernel
theorem dX5_readWord_58 : decode cX5_readWord 58 = .ok (.iinc 1 1, 3) := by decide +kernel
theorem dX5_readWord_61 : decode cX5_readWord 61 = .ok (.goto (-59), 3) := by decide +kernel
theorem dX5_readWord_64 : decode cX5_readWord 64 = .ok (.aload_n 0, 1) := by decide +kernel
theorem dX5_readWord_65 : decode cX5_readWord 65 = .ok (.bipush 10, 2) := by decide +kernel
theorem dX5_readWord_67 : decode cX5_readWord 67 = .ok (.putfield 39, 3) := by decide +kernel
theorem dX5_readWord_70 : decode cX5_readWord 70 = .ok (.iconst 0, 1) := by decide +kernel
theorem dX5_readWord_71 : decode cX5_readWord 71 = .ok (.istore_n 1, 1) := by decide +kernel
theorem dX5_readWord_72 : decode cX5_readWord 72 = .ok (.iload_n 1, 1) := by decide +kernel
theorem dX5_readWord_73 : decode cX5_readWord 73 = .ok (.bipush 12, 2) := by decide +kernel
theorem dX5_readWord_75 : decode cX5_readWord 75 = .ok (.if_icmp .ge 35, 3) := by decide +kernel
theorem dX5_readWord_78 : decode cX5_readWord 78 = .ok (.aload_n 0, 1) := by decide +kernel
theorem dX5_readWord_79 : decode cX5_readWord 79 = .ok (.iload_n 1, 1) := by decide +kernel
theorem dX5_readWord_80 : decode cX5_readWord 80 = .ok (.invokevirtual 90, 3) := by decide +kernel
theorem dX5_readWord_83 : decode cX5_readWord 83 = .ok (.ifCond .eq 21, 3) := by decide +kernel
theorem dX5_readWord_86 : decode cX5_readWord 86 = .ok (.aload_n 0, 1) := by decide +kernel
theorem dX5_readWord_87 : decode cX5_readWord 87 = .ok (.iload_n 1, 1) := by decide +kernel
theorem dX5_readWord_88 : decode cX5_readWord 88 = .ok (.bipush 6, 2) := by decide +kernel
theorem dX5_readWord_90 : decode cX5_readWord 90 = .ok (.invokestatic 93, 3) := by decide +kernel
theorem dX5_readWord_93 : decode cX5_readWord 93 = .ok (.putfield 39, 3) := by decide +kernel
theorem dX5_readWord_96 : decode cX5_readWord 96 = .ok (.aload_n 0, 1) := by decide +kernel
theorem dX5_readWord_97 : decode cX5_readWord 97 = .ok (.iload_n 1, 1) := by decide +kernel
theorem dX5_readWord_98 : decode cX5_readWord 98 = .ok (.bipush 6, 2) := by decide +kernel
theorem dX5_readWord_100 : decode cX5_readWord 100 = .ok (.isub, 1) := by decide +kernel
theorem dX5_readWord_101 : decode cX5_readWord 101 = .ok (.putfield 75, 3) := by decide +kernel
theorem dX5_readWord_104 : decode cX5_readWord 104 = .ok (.iinc 1 1, 3) := by decide +kernel
theorem dX5_readWord_107 : decode cX5_readWord 107 = .ok (.goto (-35), 3) := by decide +kernel
theorem dX5_readWord_110 : decode cX5_readWord 110 = .ok (.return_, 1) := by decide +kernel
theorem dX5_isWord_0 : decode cX5_isWord 0 = .ok (.aload_n 0, 1) := by decide +kernel
theorem dX5_isWord_1 : decode cX5_isWord 1 = .ok (.getfield 23, 3) := by decide +kernel
theorem dX5_isWord_4 : decode cX5_isWord 4 = .ok (.aload_n 0, 1) := by decide +kernel
theorem dX5_isWord_5 : decode cX5_isWord 5 = .ok (.getfield 78, 3) := by decide +kernel
theorem dX5_isWord_8 : decode cX5_isWord 8 = .ok (.isub, 1) := by decide +kernel
theorem dX5_isWord_9 : decode cX5_isWord 9 = .ok (.istore_n 2, 1) := by decide +kernel
theorem dX5_isWord_10 : decode cX5_isWord 10 = .ok (.iconst 0, 1) := by decide +kernel
theorem dX5_isWord_11 : decode cX5_isWord 11 = .ok (.istore_n 3, 1) := by decide +kernel
theorem dX5_isWord_12 : decode cX5_isWord 12 = .ok (.iload_n 3, 1) := by decide +kernel
theorem dX5_isWord_13 : decode cX5_isWord 13 = .ok (.bipush 7, 2) := by decide +kernel
theorem dX5_isWord_15 : decode cX5_isWord 15 = .ok (.if_icmp .ge 54, 3) := by decide +kernel
theorem dX5_isWord_18 : decode cX5_isWord 18 = .ok (.ldc 99, 2) := by decide +kernel
theorem dX5_isWord_20 : decode cX5_isWord 20 = .ok (.iload_n 1, 1) := by decide +kernel
theorem dX5_isWord_21 : decode cX5_isWord 21 = .ok (.bipush 7, 2) := by decide +kernel
theorem dX5_isWord_23 : decode cX5_isWord 23 = .ok (.imul, 1) := by decide +kernel
theorem dX5_isWord_24 : decode cX5_isWord 24 = .ok (.iload_n 3, 1) := by decide +kernel
theorem dX5_isWord_25 : decode cX5_isWord 25 = .ok (.iadd, 1) := by decide +kernel
theorem dX5_isWord_26 : decode cX5_isWord 26 = .ok (.invokevirtual 101, 3) := by decide +kernel
theorem dX5_isWord_29 : decode cX5_isWord 29 = .ok (.istore 4, 2) := by decide +kernel
theorem dX5_isWord_31 : decode cX5_isWord 31 = .ok (.iload_n 3, 1) := by decide +kernel
theorem dX5_isWord_32 : decode cX5_isWord 32 = .ok (.iload_n 2, 1) := by decide +kernel
theorem dX5_isWord_33 : decode cX5_isWord 33 = .ok (.if_icmp .ge 17, 3) := by decide +kernel
theorem dX5_isWord_36 : decode cX5_isWord 36 = .ok (.aload_n 0, 1) := by decide +kernel
theorem dX5_isWord_37 : decode cX5_isWord 37 = .ok (.getfield 9, 3) := by decide +kernel
theorem dX5_isWord_40 : decode cX5_isWord 40 = .ok (.aload_n 0, 1) := by decide +kernel
theorem dX5_isWord_41 : decode cX5_isWord 41 = .ok (.getfield 78, 3) := by decide +kernel
theorem dX5_isWord_44 : decode cX5_isWord 44 = .ok (.iload_n 3, 1) := by decide +kernel
theorem dX5_isWord_45 : decode cX5_isWord 45 = .ok (.iadd, 1) := by decide +kernel
theorem dX5_isWord_46 : decode cX5_isWord 46 = .ok (.caload, 1) := by decide +kernel
theorem dX5_isWord_47 : decode cX5_isWord 47 = .ok (.goto 5, 3) := by decide +kernel
theorem dX5_isWord_50 : decode cX5_isWord 50 = .ok (.bipush 32, 2) := by decide +kernel
theorem dX5_isWord_52 : decode cX5_isWord 52 = .ok (.istore 5, 2) := by decide +kernel
theorem dX5_isWord_54 : decode cX5_isWord 54 = .ok (.iload 4, 2) := by decide +kernel
theorem dX5_isWord_56 : decode cX5_isWord 56 = .ok (.iload 5, 2) := by decide +kernel
theorem dX5_isWord_58 : decode cX5_isWord 58 = .ok (.if_icmp .eq 5, 3) := by decide +kernel
theorem dX5_isWord_61 : decode cX5_isWord 61 = .ok (.iconst 0, 1) := by decide +kernel
theorem dX5_isWord_62 : decode cX5_isWord 62 = .ok (.ireturn, 1) := by decide +kernel
theorem dX5_isWord_63 : decode cX5_isWord 63 = .ok (.iinc 3 1, 3) := by decide +kernel
theorem dX5_isWord_66 : decode cX5_isWord 66 = .ok (.goto (-54), 3) := by decide +kernel
theorem dX5_isWord_69 : decode cX5_isWord 69 = .ok (.iload_n 2, 1) := by decide +kernel
theorem dX5_isWord_70 : decode cX5_isWord 70 = .ok (.bipush 7, 2) := by decide +kernel
theorem dX5_isWord_72 : decode cX5_isWord 72 = .ok (.if_icmp .gt 7, 3) := by decide +kernel
theorem dX5_isWord_75 : decode cX5_isWord 75 = .ok (.iconst 1, 1) := by decide +kernel
theorem dX5_isWord_76 : decode cX5_isWord 76 = .ok (.goto 4, 3) := by decide +kernel
theorem dX5_isWord_79 : decode cX5_isWord 79 = .ok (.iconst 0, 1) := by decide +kernel
theorem dX5_isWord_80 : decode cX5_isWord 80 = .ok (.ireturn, 1) := by decide +kernel
theorem dX5_readNumber_0 : decode cX5_readNumber 0 = .ok (.aload_n 0, 1) := by decide +kernel
theorem dX5_readNumber_1 : decode cX5_readNumber 1 = .ok (.iconst 0, 1) := by decide +kernel
theorem dX5_readNumber_2 : decode cX5_readNumber 2 = .ok (.putfield 75, 3) := by decide +kernel
