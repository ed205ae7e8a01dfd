theorem dX5_readNumber_5 : decode cX5_readNumber 5 = .ok (.iconst 0, 1) := by decide +kernel
theorem dX5_readNumber_6 : decode cX5_readNumber 6 = .ok (.istore_n 1, 1) := by decide +kernel
theorem dX5_readNumber_7 : decode cX5_readNumber 7 = .ok (.iload_n 1, 1) := by decide +kernel
theorem dX5_readNumber_8 : decode cX5_readNumber 8 = .ok (.sipush 160, 3) := by decide +kernel
theorem dX5_readNumber_11 : decode cX5_readNumber 11 = .ok (.if_icmp .ge 82, 3) := by decide +kernel
theorem dX5_readNumber_14 : decode cX5_readNumber 14 = .ok (.aload_n 0, 1) := by decide +kernel
theorem dX5_readNumber_15 : decode cX5_readNumber 15 = .ok (.getfield 23, 3) := by decide +kernel
theorem dX5_readNumber_18 : decode cX5_readNumber 18 = .ok (.aload_n 0, 1) := by decide +kernel
theorem dX5_readNumber_19 : decode cX5_readNumber 19 = .ok (.getfield 19, 3) := by decide +kernel
theorem dX5_readNumber_22 : decode cX5_readNumber 22 = .ok (.if_icmp .ge 71, 3) := by decide +kernel
theorem dX5_readNumber_25 : decode cX5_readNumber 25 = .ok (.aload_n 0, 1) := by decide +kernel
theorem dX5_readNumber_26 : decode cX5_readNumber 26 = .ok (.getfield 9, 3) := by decide +kernel
theorem dX5_readNumber_29 : decode cX5_readNumber 29 = .ok (.aload_n 0, 1) := by decide +kernel
theorem dX5_readNumber_30 : decode cX5_readNumber 30 = .ok (.getfield 23, 3) := by decide +kernel
theorem dX5_readNumber_33 : decode cX5_readNumber 33 = .ok (.caload, 1) := by decide +kernel
theorem dX5_readNumber_34 : decode cX5_readNumber 34 = .ok (.bipush 48, 2) := by decide +kernel
theorem dX5_readNumber_36 : decode cX5_readNumber 36 = .ok (.if_icmp .lt 57, 3) := by decide +kernel
theorem dX5_readNumber_39 : decode cX5_readNumber 39 = .ok (.aload_n 0, 1) := by decide +kernel
theorem dX5_readNumber_40 : decode cX5_readNumber 40 = .ok (.getfield 9, 3) := by decide +kernel
theorem dX5_readNumber_43 : decode cX5_readNumber 43 = .ok (.aload_n 0, 1) := by decide +kernel
theorem dX5_readNumber_44 : decode cX5_readNumber 44 = .ok (.getfield 23, 3) := by decide +kernel
theorem dX5_readNumber_47 : decode cX5_readNumber 47 = .ok (.caload, 1) := by decide +kernel
theorem dX5_readNumber_48 : decode cX5_readNumber 48 = .ok (.bipush 57, 2) := by decide +kernel
theorem dX5_readNumber_50 : decode cX5_readNumber 50 = .ok (.if_icmp .gt 43, 3) := by decide +kernel
theorem dX5_readNumber_53 : decode cX5_readNumber 53 = .ok (.aload_n 0, 1) := by decide +kernel
theorem dX5_readNumber_54 : decode cX5_readNumber 54 = .ok (.bipush 10, 2) := by decide +kernel
theorem dX5_readNumber_56 : decode cX5_readNumber 56 = .ok (.aload_n 0, 1) := by decide +kernel
theorem dX5_readNumber_57 : decode cX5_readNumber 57 = .ok (.getfield 75, 3) := by decide +kernel
theorem dX5_readNumber_60 : decode cX5_readNumber 60 = .ok (.imul, 1) := by decide +kernel
theorem dX5_readNumber_61 : decode cX5_readNumber 61 = .ok (.aload_n 0, 1) := by decide +kernel
theorem dX5_readNumber_62 : decode cX5_readNumber 62 = .ok (.getfield 9, 3) := by decide +kernel
theorem dX5_readNumber_65 : decode cX5_readNumber 65 = .ok (.aload_n 0, 1) := by decide +kernel
theorem dX5_readNumber_66 : decode cX5_readNumber 66 = .ok (.getfield 23, 3) := by decide +kernel
theorem dX5_readNumber_69 : decode cX5_readNumber 69 = .ok (.caload, 1) := by decide +kernel
theorem dX5_readNumber_70 : decode cX5_readNumber 70 = .ok (.iadd, 1) := by decide +kernel
theorem dX5_readNumber_71 : decode cX5_readNumber 71 = .ok (.bipush 48, 2) := by decide +kernel
theorem dX5_readNumber_73 : decode cX5_readNumber 73 = .ok (.isub, 1) := by decide +kernel
theorem dX5_readNumber_74 : decode cX5_readNumber 74 = .ok (.putfield 75, 3) := by decide +kernel
theorem dX5_readNumber_77 : decode cX5_readNumber 77 = .ok (.aload_n 0, 1) := by decide +kernel
theorem dX5_readNumber_78 : decode cX5_readNumber 78 = .ok (.dup, 1) := by decide +kernel
theorem dX5_readNumber_79 : decode cX5_readNumber 79 = .ok (.getfield 23, 3) := by decide +kernel
theorem dX5_readNumber_82 : decode cX5_readNumber 82 = .ok (.iconst 1, 1) := by decide +kernel
theorem dX5_readNumber_83 : decode cX5_readNumber 83 = .ok (.iadd, 1) := by decide +kernel
theorem dX5_readNumber_84 : decode cX5_readNumber 84 = .ok (.putfield 23, 3) := by decide +kernel
theorem dX5_readNumber_87 : decode cX5_readNumber 87 = .ok (.iinc 1 1, 3) := by decide +kernel
theorem dX5_readNumber_90 : decode cX5_readNumber 90 = .ok (.goto (-83), 3) := by decide +kernel
theorem dX5_readNumber_93 : decode cX5_readNumber 93 = .ok (.aload_n 0, 1) := by decide +kernel
theorem dX5_readNumber_94 : decode cX5_readNumber 94 = .ok (.aload_n 0, 1) := by decide +kernel
theorem dX5_readNumber_95 : decode cX5_readNumber 95 = .ok (.getfield 23, 3) := by decide +kernel
theorem dX5_readNumber_98 : decode cX5_readNumber 98 = .ok (.aload_n 0, 1) := by decide +kernel
theorem dX5_readNumber_99 : decode cX5_readNumber 99 = .ok (.getfield 78, 3) := by decide +kernel
theorem dX5_readNumber_102 : decode cX5_readNumber 102 = .ok (.isub, 1) := by decide +kernel
theorem dX5_readNumber_103 : decode cX5_readNumber 103 = .ok (.iconst 4, 1) := by decide +kernel
theorem dX5_readNumber_104 : decode cX5_readNumber 104 = .ok (.if_icmp .le 8, 3) := by decide +kernel
theorem dX5_readNumber_107 : decode cX5_readNumber 107 = .ok (.bipush 10, 2) := by decide +kernel
theorem dX5_readNumber_109 : decode cX5_readNumber 109 = .ok (.goto 5, 3) := by decide +kernel
theorem dX5_readNumber_112 : decode cX5_readNumber 112 = .ok (.bipush 7, 2) := by decide +kernel
theorem dX5_readNumber_114 : decode cX5_readNumber 114 = .ok (.putfield 39, 3) := by decide +kernel
theorem dX5_readNumber_117 : decode cX5_readNumber 117 = .ok (.return_, 1) := by decide +kernel
theorem dX5_readSign_0 : decode cX5_readSign 0 = .ok (.aload_n 0, 1) := by decide +kernel
theorem dX5_readSign_1 : decode cX5_readSign 1 = .ok (.ldc 107, 2) := by decide +kernel
theorem dX5_readSign_3 : decode cX5_readSign 3 = .ok (.aload_n 0, 1) := by decide +kernel
theorem dX5_readSign_4 : decode cX5_readSign 4 = .ok (.getfield 9, 3) := by decide +kernel
theorem dX5_readSign_7 : decode cX5_readSign 7 = .ok (.aload_n 0, 1) := by decide +kernel
theorem dX5_readSign_8 : decode cX5_readSign 8 = .ok (.getfield 78, 3) := by decide +kernel
theorem dX5_readSign_11 : decode cX5_readSign 11 = .ok (.caload, 1) := by decide +kernel
theorem dX5_readSign_12 : decode cX5_readSign 12 = .ok (.invokevirtual 109, 3) := by decide +kernel
theorem dX5_readSign_15 : decode cX5_readSign 15 = .ok (.ifCond .lt 15, 3) := by decide +kernel
theorem dX5_readSign_18 : decode cX5_readSign 18 = .ok (.aload_n 0, 1) := by decide +kernel
theorem dX5_readSign_19 : decode cX5_readSign 19 = .ok (.getfield 9, 3) := by decide +kernel
theorem dX5_readSign_22 : decode cX5_readSign 22 = .ok (.aload_n 0, 1) := by decide +kernel
theorem dX5_readSign_23 : decode cX5_readSign 23 = .ok (.getfield 78, 3) := by decide +kernel
theorem dX5_readSign_26 : decode cX5_readSign 26 = .ok (.caload, 1) := by decide +kernel
theorem dX5_readSign_27 : decode cX5_readSign 27 = .ok (.goto 5, 3) := by decide +kernel
theorem dX5_readSign_30 : decode cX5_readSign 30 = .ok (.bipush 10, 2) := by decide +kernel
theorem dX5_readSign_32 : decode cX5_readSign 32 = .ok (.putfield 39, 3) := by decide +kernel
theorem dX5_readSign_35 : decode cX5_readSign 35 = .ok (.aload_n 0, 1) := by decide +kernel
theorem dX5_readSign_36 : decode cX5_readSign 36 = .ok (.aload_n 0, 1) := by decide +kernel
theorem dX5_readSign_37 : decode cX5_readSign 37 = .ok (.getfield 78, 3) := by decide +kernel
theorem dX5_readSign_40 : decode cX5_readSign 40 = .ok (.iconst 1, 1) := by decide +kernel
theorem dX5_readSign_41 : decode cX5_readSign 41 = .ok (.iadd, 1) := by decide +kernel
theorem dX5_readSign_42 : decode cX5_readSign 42 = .ok (.putfield 23, 3) := by decide +kernel
theorem dX5_readSign_45 : decode cX5_readSign 45 = .ok (.return_, 1) := by decide +kernel
theorem dX6_init_0 : decode cX6_init 0 = .ok (.aload_n 0, 1) := by decide +kernel
theorem dX6_init_1 : decode cX6_init 1 = .ok (.invokespecial 3, 3) := by decide +kernel
theorem dX6_init_4 : decode cX6_init 4 = .ok (.aload_n 0, 1) := by decide +kernel
theorem dX6_init_5 : decode cX6_init 5 = .ok (.bipush 40, 2) := by decide +kernel
theorem dX6_init_7 : decode cX6_init 7 = .ok (.newarray .int, 2) := by decide +kernel
theorem dX6_init_9 : decode cX6_init 9 = .ok (.putfield 9, 3) := by decide +kernel
theorem dX6_init_12 : decode cX6_init 12 = .ok (.aload_n 0, 1) := by decide +kernel
theorem dX6_init_13 : decode cX6_init 13 = .ok (.iconst (-1), 1) := by decide +kernel
theorem dX6_init_14 : decode cX6_init 14 = .ok (.putfield 15, 3) := by decide +kernel
theorem dX6_init_17 : decode cX6_init 17 = .ok (.aload_n 0, 1) := by decide +kernel
theorem dX6_init_18 : decode cX6_init 18 = .ok (.iconst 0, 1) := by decide +kernel
theorem dX6_init_19 : decode cX6_init 19 = .ok (.putfield 19, 3) := by decide +kernel
theorem dX6_init_22 : decode cX6_init 22 = .ok (.return_, 1) := by decide +kernel
theorem dX6_isMissing_0 : decode cX6_isMissing 0 = .ok (.aload_n 0, 1) := by decide +kernel
theorem dX6_isMissing_1 : decode cX6_isMissing 1 = .ok (.getfield 15, 3) := by decide +kernel
theorem dX6_isMissing_4 : decode cX6_isMissing 4 = .ok (.iconst (-1), 1) := by decide +kernel
theorem dX6_isMissing_5 : decode cX6_isMissing 5 = .ok (.if_icmp .ne 7, 3) := by decide +kernel
theorem dX6_isMissing_8 : decode cX6_isMissing 8 = .ok (.iconst 1, 1) := by decide +kernel
theorem dX6_isMissing_9 : decode cX6_isMissing 9 = .ok (.goto 4, 3) := by decide +kernel
theorem dX6_isMissing_12 : decode cX6_isMissing 12 = .ok (.iconst 0, 1) := by decide +kernel
theorem dX6_isMissing_13 : decode cX6_isMissing 13 = .ok (.ireturn, 1) := by decide +kernel
theorem dX6_become_0 : decode cX6_become 0 = .ok (.aload_n 0, 1) := by decide +kernel
theorem dX6_become_1 : decode cX6_become 1 = .ok (.iload_n 1, 1) := by decide +kernel
theorem dX6_become_2 : decode cX6_become 2 = .ok (.putfield 15, 3) := by decide +kernel
theorem dX6_become_5 : decode cX6_become 5 = .ok (.aload_n 0, 1) := by decide +kernel
theorem dX6_become_6 : decode cX6_become 6 = .ok (.iload_n 2, 1) := by decide +kernel
theorem dX6_become_7 : decode cX6_become 7 = .ok (.putfield 19, 3) := by decide +kernel
theorem dX6_become_10 : decode cX6_become 10 = .ok (.aload_n 0, 1) := by decide +kernel
theorem dX6_become_11 : decode cX6_become 11 = .ok (.getfield 9, 3) := by decide +kernel
theorem dX6_become_14 : decode cX6_become 14 = .ok (.iconst 0, 1) := by decide +kernel
theorem dX6_become_15 : decode cX6_become 15 = .ok (.invokestatic 22, 3) := by decide +kernel
theorem dX6_become_18 : decode cX6_become 18 = .ok (.return_, 1) := by decide +kernel
theorem dX6_put_0 : decode cX6_put 0 = .ok (.aload_n 0, 1) := by decide +kernel
theorem dX6_put_1 : decode cX6_put 1 = .ok (.getfield 9, 3) := by decide +kernel
theorem dX6_put_4 : decode cX6_put 4 = .ok (.iload_n 1, 1) := by decide +kernel
theorem dX6_put_5 : decode cX6_put 5 = .ok (.aload_n 0, 1) := by decide +kernel
theorem dX6_put_6 : decode cX6_put 6 = .ok (.getfield 15, 3) := by decide +kernel
theorem dX6_put_9 : decode cX6_put 9 = .ok (.ifCond .ne 8, 3) := by decide +kernel
theorem dX6_put_12 : decode cX6_put 12 = .ok (.iload_n 2, 1) := by decide +kernel
theorem dX6_put_13 : decode cX6_put 13 = .ok (.i2b, 1) := by decide +kernel
theorem dX6_put_14 : decode cX6_put 14 = .ok (.goto 17, 3) := by decide +kernel
theorem dX6_put_17 : decode cX6_put 17 = .ok (.aload_n 0, 1) := by decide +kernel
theorem dX6_put_18 : decode cX6_put 18 = .ok (.getfield 15, 3) := by decide +kernel
theorem dX6_put_21 : decode cX6_put 21 = .ok (.iconst 1, 1) := by decide +kernel
theorem dX6_put_22 : decode cX6_put 22 = .ok (.if_icmp .ne 8, 3) := by decide +kernel
theorem dX6_put_25 : decode cX6_put 25 = .ok (.iload_n 2, 1) := by decide +kernel
theorem dX6_put_26 : decode cX6_put 26 = .ok (.i2s, 1) := by decide +kernel
theorem dX6_put_27 : decode cX6_put 27 = .ok (.goto 4, 3) := by decide +kernel
theorem dX6_put_30 : decode cX6_put 30 = .ok (.iload_n 2, 1) := by decide +kernel
theorem dX6_put_31 : decode cX6_put 31 = .ok (.iastore, 1) := by decide +kernel
theorem dX6_put_32 : decode cX6_put 32 = .ok (.return_, 1) := by decide +kernel
theorem dX6_hasRoom_0 : decode cX6_hasRoom 0 = .ok (.iload_n 2, 1) := by decide +kernel
theorem dX6_hasRoom_1 : decode cX6_hasRoom 1 = .ok (.ifCond .lt 29, 3) := by decide +kernel
theorem dX6_hasRoom_4 : decode cX6_hasRoom 4 = .ok (.iload_n 2, 1) := by decide +kernel
theorem dX6_hasRoom_5 : decode cX6_hasRoom 5 = .ok (.aload_n 0, 1) := by decide +kernel
theorem dX6_hasRoom_6 : decode cX6_hasRoom 6 = .ok (.getfield 19, 3) := by decide +kernel
theorem dX6_hasRoom_9 : decode cX6_hasRoom 9 = .ok (.if_icmp .gt 21, 3) := by decide +kernel
theorem dX6_hasRoom_12 : decode cX6_hasRoom 12 = .ok (.iload_n 1, 1) := by decide +kernel
theorem dX6_hasRoom_13 : decode cX6_hasRoom 13 = .ok (.ifCond .lt 17, 3) := by decide +kernel
theorem dX6_hasRoom_16 : decode cX6_hasRoom 16 = .ok (.iload_n 1, 1) := by decide +kernel
theorem dX6_hasRoom_17 : decode cX6_hasRoom 17 = .ok (.aload_n 0, 1) := by decide +kernel
theorem dX6_hasRoom_18 : decode cX6_hasRoom 18 = .ok (.getfield 19, 3) := by decide +kernel
theorem dX6_hasRoom_21 : decode cX6_hasRoom 21 = .ok (.iload_n 2, 1) := by decide +kernel
theorem dX6_hasRoom_22 : decode cX6_hasRoom 22 = .ok (.isub, 1) := by decide +kernel
theorem dX6_hasRoom_23 : decode cX6_hasRoom 23 = .ok (.if_icmp .gt 7, 3) := by decide +kernel
theorem dX6_hasRoom_26 : decode cX6_hasRoom 26 = .ok (.iconst 1, 1) := by decide +kernel
theorem dX6_hasRoom_27 : decode cX6_hasRoom 27 = .ok (.goto 4, 3) := by decide +kernel
theorem dX6_hasRoom_30 : decode cX6_hasRoom 30 = .ok (.iconst 0, 1) := by decide +kernel
theorem dX6_hasRoom_31 : decode cX6_hasRoom 31 = .ok (.ireturn, 1) := by decide +kernel
theorem dX7_init_0 : decode cX7_init 0 = .ok (.aload_n 0, 1) := by decide +kernel
theorem dX7_init_1 : decode cX7_init 1 = .ok (.invokespecial 1, 3) := by decide +kernel
theorem dX7_init_4 : decode cX7_init 4 = .ok (.aload_n 0, 1) := by decide +kernel
theorem dX7_init_5 : decode cX7_init 5 = .ok (.iload_n 1, 1) := by decide +kernel
theorem dX7_init_6 : decode cX7_init 6 = .ok (.putfield 7, 3) := by decide +kernel
theorem dX7_init_9 : decode cX7_init 9 = .ok (.aload_n 0, 1) := by decide +kernel
theorem dX7_init_10 : decode cX7_init 10 = .ok (.iload_n 2, 1) := by decide +kernel
theorem dX7_init_11 : decode cX7_init 11 = .ok (.putfield 13, 3) := by decide +kernel
theorem dX7_init_14 : decode cX7_init 14 = .ok (.aload_n 0, 1) := by decide +kernel
theorem dX7_init_15 : decode cX7_init 15 = .ok (.iload_n 3, 1) := by decide +kernel
theorem dX7_init_16 : decode cX7_init 16 = .ok (.putfield 16, 3) := by decide +kernel
theorem dX7_init_19 : decode cX7_init 19 = .ok (.return_, 1) := by decide +kernel
theorem dX7_kind_0 : decode cX7_kind 0 = .ok (.iconst 0, 1) := by decide +kernel
theorem dX7_kind_1 : decode cX7_kind 1 = .ok (.ireturn, 1) := by decide +kernel
theorem dX7_isUnder_0 : decode cX7_isUnder 0 = .ok (.iload_n 1, 1) := by decide +kernel
theorem dX7_isUnder_1 : decode cX7_isUnder 1 = .ok (.ifCond .ne 7, 3) := by decide +kernel
theorem dX7_isUnder_4 : decode cX7_isUnder 4 = .ok (.iconst 1, 1) := by decide +kernel
theorem dX7_isUnder_5 : decode cX7_isUnder 5 = .ok (.goto 4, 3) := by decide +kernel
theorem dX7_isUnder_8 : decode cX7_isUnder 8 = .ok (.iconst 0, 1) := by decide +kernel
theorem dX7_isUnder_9 : decode cX7_isUnder 9 = .ok (.ireturn, 1) := by decide +kernel
theorem dX7_canHold_0 : decode cX7_canHold 0 = .ok (.iconst 1, 1) := by decide +kernel
theorem dX7_canHold_1 : decode cX7_canHold 1 = .ok (.aload_n 0, 1) := by decide +kernel
theorem dX7_canHold_2 : decode cX7_canHold 2 = .ok (.iload_n 1, 1) := by decide +kernel
theorem dX7_canHold_3 : decode cX7_canHold 3 = .ok (.iload_n 2, 1) := by decide +kernel
theorem dX7_canHold_4 : decode cX7_canHold 4 = .ok (.invokevirtual 19, 3) := by decide +kernel
theorem dX7_canHold_7 : decode cX7_canHold 7 = .ok (.invokestatic 23, 3) := by decide +kernel
theorem dX7_canHold_10 : decode cX7_canHold 10 = .ok (.ireturn, 1) := by decide +kernel
theorem dX7_reach_0 : decode cX7_reach 0 = .ok (.aload_n 0, 1) := by decide +kernel
theorem dX7_reach_1 : decode cX7_reach 1 = .ok (.getfield 7, 3) := by decide +kernel
theorem dX7_reach_4 : decode cX7_reach 4 = .ok (.iload_n 1, 1) := by decide +kernel
theorem dX7_reach_5 : decode cX7_reach 5 = .ok (.isub, 1) := by decide +kernel
theorem dX7_reach_6 : decode cX7_reach 6 = .ok (.ireturn, 1) := by decide +kernel
theorem dX7_silentSteps_0 : decode cX7_silentSteps 0 = .ok (.aload_n 0, 1) := by decide +kernel
theorem dX7_silentSteps_1 : decode cX7_silentSteps 1 = .ok (.getfield 13, 3) := by decide +kernel
theorem dX7_silentSteps_4 : decode cX7_silentSteps 4 = .ok (.ireturn, 1) := by decide +kernel
theorem dX7_says_0 : decode cX7_says 0 = .ok (.aload_n 0, 1) := by decide +kernel
theorem dX7_says_1 : decode cX7_says 1 = .ok (.getfield 16, 3) := by decide +kernel
theorem dX7_says_4 : decode cX7_says 4 = .ok (.iconst 2, 1) := by decide +kernel
theorem dX7_says_5 : decode cX7_says 5 = .ok (.irem, 1) := by decide +kernel
theorem dX7_says_6 : decode cX7_says 6 = .ok (.ifCond .ne 7, 3) := by decide +kernel
theorem dX7_says_9 : decode cX7_says 9 = .ok (.iconst 1, 1) := by decide +kernel
theorem dX7_says_10 : decode cX7_says 10 = .ok (.goto 4, 3) := by decide +kernel
theorem dX7_says_13 : decode cX7_says 13 = .ok (.iconst 0, 1) := by decide +kernel
theorem dX7_says_14 : decode cX7_says 14 = .ok (.ireturn, 1) := by decide +kernel
theorem dX8_init_0 : decode cX8_init 0 = .ok (.aload_n 0, 1) := by decide +kernel
theorem dX8_init_1 : decode cX8_init 1 = .ok (.iload_n 1, 1) := by decide +kernel
theorem dX8_init_2 : decode cX8_init 2 = .ok (.iload_n 2, 1) := by decide +kernel
theorem dX8_init_3 : decode cX8_init 3 = .ok (.iload_n 3, 1) := by decide +kernel
theorem dX8_init_4 : decode cX8_init 4 = .ok (.invokespecial 1, 3) := by decide +kernel
theorem dX8_init_7 : decode cX8_init 7 = .ok (.return_, 1) := by decide +kernel
theorem dX8_kind_0 : decode cX8_kind 0 = .ok (.iconst 1, 1) := by decide +kernel
theorem dX8_kind_1 : decode cX8_kind 1 = .ok (.ireturn, 1) := by decide +kernel
theorem dX8_isUnder_0 : decode cX8_isUnder 0 = .ok (.iload_n 1, 1) := by decide +kernel
theorem dX8_isUnder_1 : decode cX8_isUnder 1 = .ok (.iconst 1, 1) := by decide +kernel
theorem dX8_isUnder_2 : decode cX8_isUnder 2 = .ok (.if_icmp .eq 11, 3) := by decide +kernel
theorem dX8_isUnder_5 : decode cX8_isUnder 5 = .ok (.aload_n 0, 1) := by decide +kernel
theorem dX8_isUnder_6 : decode cX8_isUnder 6 = .ok (.iload_n 1, 1) := by decide +kernel
theorem dX8_isUnder_7 : decode cX8_isUnder 7 = .ok (.invokespecial 9, 3) := by decide +kernel
theorem dX8_isUnder_10 : decode cX8_isUnder 10 = .ok (.ifCond .eq 7, 3) := by decide +kernel
theorem dX8_isUnder_13 : decode cX8_isUnder 13 = .ok (.iconst 1, 1) := by decide +kernel
theorem dX8_isUnder_14 : decode cX8_isUnder 14 = .ok (.goto 4, 3) := by decide +kernel
theorem dX8_isUnder_17 : decode cX8_isUnder 17 = .ok (.iconst 0, 1) := by decide +kernel
theorem dX8_isUnder_18 : decode cX8_isUnder 18 = .ok (.ireturn, 1) := by decide +kernel
theorem dX8_reach_0 : decode cX8_reach 0 = .ok (.aload_n 0, 1) := by decide +kernel
theorem dX8_reach_1 : decode cX8_reach 1 = .ok (.iload_n 1, 1) := by decide +kernel
theorem dX8_reach_2 : decode cX8_reach 2 = .ok (.iload_n 2, 1) := by decide +kernel
theorem dX8_reach_3 : decode cX8_reach 3 = .ok (.invokespecial 13, 3) := by decide +kernel
theorem dX8_reach_6 : decode cX8_reach 6 = .ok (.iload_n 1, 1) := by decide +kernel
theorem dX8_reach_7 : decode cX8_reach 7 = .ok (.iconst 2, 1) := by decide +kernel
theorem dX8_reach_8 : decode cX8_reach 8 = .ok (.idiv, 1) := by decide +kernel
theorem dX8_reach_9 : decode cX8_reach 9 = .ok (.iadd, 1) := by decide +kernel
theorem dX8_reach_10 : decode cX8_reach 10 = .ok (.ireturn, 1) := by decide +kernel
theorem dX8_says_0 : decode cX8_says 0 = .ok (.iconst 0, 1) := by decide +kernel
theorem dX8_says_1 : decode cX8_says 1 = .ok (.ireturn, 1) := by decide +kernel
theorem dX9_init_0 : decode cX9_init 0 = .ok (.aload_n 0, 1) := by decide +kernel
theorem dX9_init_1 : decode cX9_init 1 = .ok (.invokespecial 3, 3) := by decide +kernel
theorem dX9_init_4 : decode cX9_init 4 = .ok (.aload_n 0, 1) := by decide +kernel
theorem dX9_init_5 : decode cX9_init 5 = .ok (.bipush 32, 2) := by decide +kernel
theorem dX9_init_7 : decode cX9_init 7 = .ok (.newarray .int, 2) := by decide +kernel
theorem dX9_init_9 : decode cX9_init 9 = .ok (.putfield 11, 3) := by decide +kernel
theorem dX9_init_12 : decode cX9_init 12 = .ok (.aload_n 0, 1) := by decide +kernel
theorem dX9_init_13 : decode cX9_init 13 = .ok (.aload_n 1, 1) := by decide +kernel
theorem dX9_init_14 : decode cX9_init 14 = .ok (.putfield 15, 3) := by decide +kernel
theorem dX9_init_17 : decode cX9_init 17 = .ok (.aload_n 0, 1) := by decide +kernel
theorem dX9_init_18 : decode cX9_init 18 = .ok (.aload_n 2, 1) := by decide +kernel
theorem dX9_init_19 : decode cX9_init 19 = .ok (.putfield 18, 3) := by decide +kernel
theorem dX9_init_22 : decode cX9_init 22 = .ok (.return_, 1) := by decide +kernel
theorem dX9_valueOf_0 : decode cX9_valueOf 0 = .ok (.iload_n 1, 1) := by decide +kernel
theorem dX9_valueOf_1 : decode cX9_valueOf 1 = .ok (.aload_n 0, 1) := by decide +kernel
theorem dX9_valueOf_2 : decode cX9_valueOf 2 = .ok (.getfield 18, 3) := by decide +kernel
theorem dX9_valueOf_5 : decode cX9_valueOf 5 = .ok (.arraylength, 1) := by decide +kernel
theorem dX9_valueOf_6 : decode cX9_valueOf 6 = .ok (.invokestatic 21, 3) := by decide +kernel
theorem dX9_valueOf_9 : decode cX9_valueOf 9 = .ok (.ifCond .eq 5, 3) := by decide +kernel
theorem dX9_valueOf_12 : decode cX9_valueOf 12 = .ok (.iconst 0, 1) := by decide +kernel
theorem dX9_valueOf_13 : decode cX9_valueOf 13 = .ok (.ireturn, 1) := by decide +kernel
theorem dX9_valueOf_14 : decode cX9_valueOf 14 = .ok (.iload_n 1, 1) := by decide +kernel
theorem dX9_valueOf_15 : decode cX9_valueOf 15 = .ok (.ifCond .ne 7, 3) := by decide +kernel
theorem dX9_valueOf_18 : decode cX9_valueOf 18 = .ok (.iconst 0, 1) := by decide +kernel
theorem dX9_valueOf_19 : decode cX9_valueOf 19 = .ok (.goto 11, 3) := by decide +kernel
theorem dX9_valueOf_22 : decode cX9_valueOf 22 = .ok (.aload_n 0, 1) := by decide +kernel
theorem dX9_valueOf_23 : decode cX9_valueOf 23 = .ok (.getfield 18, 3) := by decide +kernel
theorem dX9_valueOf_26 : decode cX9_valueOf 26 = .ok (.iload_n 1, 1) := by decide +kernel
theorem dX9_valueOf_27 : decode cX9_valueOf 27 = .ok (.iconst 1, 1) := by decide +kernel
theorem dX9_valueOf_28 : decode cX9_valueOf 28 = .ok (.isub, 1) := by decide +kernel
theorem dX9_valueOf_29 : decode cX9_valueOf 29 = .ok (.iaload, 1) := by decide +kernel
theorem dX9_valueOf_30 : decode cX9_valueOf 30 = .ok (.istore_n 3, 1) := by decide +kernel
theorem dX9_valueOf_31 : decode cX9_valueOf 31 = .ok (.aload_n 0, 1) := by decide +kernel
theorem dX9_valueOf_32 : decode cX9_valueOf 32 = .ok (.getfield 18, 3) := by decide +kernel
theorem dX9_valueOf_35 : decode cX9_valueOf 35 = .ok (.iload_n 1, 1) := by decide +kernel
theorem dX9_valueOf_36 : decode cX9_valueOf 36 = .ok (.iaload, 1) := by decide +kernel
theorem dX9_valueOf_37 : decode cX9_valueOf 37 = .ok (.istore 4, 2) := by decide +kernel
theorem dX9_valueOf_39 : decode cX9_valueOf 39 = .ok (.iconst 0, 1) := by decide +kernel
theorem dX9_valueOf_40 : decode cX9_valueOf 40 = .ok (.istore 5, 2) := by decide +kernel
theorem dX9_valueOf_42 : decode cX9_valueOf 42 = .ok (.iload_n 3, 1) := by decide +kernel
theorem dX9_valueOf_43 : decode cX9_valueOf 43 = .ok (.istore 6, 2) := by decide +kernel
theorem dX9_valueOf_45 : decode cX9_valueOf 45 = .ok (.iload 6, 2) := by decide +kernel
theorem dX9_valueOf_47 : decode cX9_valueOf 47 = .ok (.iload 4, 2) := by decide +kernel
theorem dX9_valueOf_49 : decode cX9_valueOf 49 = .ok (.if_icmp .ge 230, 3) := by decide +kernel
theorem dX9_valueOf_52 : decode cX9_valueOf 52 = .ok (.iload 6, 2) := by decide +kernel
theorem dX9_valueOf_54 : decode cX9_valueOf 54 = .ok (.aload_n 0, 1) := by decide +kernel
theorem dX9_valueOf_55 : decode cX9_valueOf 55 = .ok (.getfield 15, 3) := by decide +kernel
theorem dX9_valueOf_58 : decode cX9_valueOf 58 = .ok (.arraylength, 1) := by decide +kernel
theorem dX9_valueOf_59 : decode cX9_valueOf 59 = .ok (.if_icmp .ge 220, 3) := by decide +kernel
theorem dX9_valueOf_62 : decode cX9_valueOf 62 = .ok (.aload_n 0, 1) := by decide +kernel
theorem dX9_valueOf_63 : decode cX9_valueOf 63 = .ok (.getfield 15, 3) := by decide +kernel
theorem dX9_valueOf_66 : decode cX9_valueOf 66 = .ok (.iload 6, 2) := by decide +kernel
theorem dX9_valueOf_68 : decode cX9_valueOf 68 = .ok (.iaload, 1) := by decide +kernel
theorem dX9_valueOf_69 : decode cX9_valueOf 69 = .ok (.bipush 64, 2) := by decide +kernel
theorem dX9_valueOf_71 : decode cX9_valueOf 71 = .ok (.irem, 1) := by decide +kernel
theorem dX9_valueOf_72 : decode cX9_valueOf 72 = .ok (.istore 7, 2) := by decide +kernel
theorem dX9_valueOf_74 : decode cX9_valueOf 74 = .ok (.aload_n 0, 1) := by decide +kernel
theorem dX9_valueOf_75 : decode cX9_valueOf 75 = .ok (.getfield 15, 3) := by decide +kernel
theorem dX9_valueOf_78 : decode cX9_valueOf 78 = .ok (.iload 6, 2) := by decide +kernel
theorem dX9_valueOf_80 : decode cX9_valueOf 80 = .ok (.iaload, 1) := by decide +kernel
theorem dX9_valueOf_81 : decode cX9_valueOf 81 = .ok (.bipush 64, 2) := by decide +kernel
theorem dX9_valueOf_83 : decode cX9_valueOf 83 = .ok (.idiv, 1) := by decide +kernel
theorem dX9_valueOf_84 : decode cX9_valueOf 84 = .ok (.istore 8, 2) := by decide +kernel
theorem dX9_valueOf_86 : decode cX9_valueOf 86 = .ok (.iload 7, 2) := by decide +kernel
theorem dX9_valueOf_88 : decode cX9_valueOf 88 = .ok (.bipush 7, 2) := by decide +kernel
theorem dX9_valueOf_90 : decode cX9_valueOf 90 = .ok (.if_icmp .ne 25, 3) := by decide +kernel
theorem dX9_valueOf_93 : decode cX9_valueOf 93 = .ok (.iload 5, 2) := by decide +kernel
theorem dX9_valueOf_95 : decode cX9_valueOf 95 = .ok (.bipush 32, 2) := by decide +kernel
theorem dX9_valueOf_97 : decode cX9_valueOf 97 = .ok (.if_icmp .ge 18, 3) := by decide +kernel
theorem dX9_valueOf_100 : decode cX9_valueOf 100 = .ok (.aload_n 0, 1) := by decide +kernel
theorem dX9_valueOf_101 : decode cX9_valueOf 101 = .ok (.getfield 11, 3) := by decide +kernel
theorem dX9_valueOf_104 : decode cX9_valueOf 104 = .ok (.iload 5, 2) := by decide +kernel
theorem dX9_valueOf_106 : decode cX9_valueOf 106 = .ok (.iload 8, 2) := by decide +kernel
theorem dX9_valueOf_108 : decode cX9_valueOf 108 = .ok (.iastore, 1) := by decide +kernel
theorem dX9_valueOf_109 : decode cX9_valueOf 109 = .ok (.iinc 5 1, 3) := by decide +kernel
theorem dX9_valueOf_112 : decode cX9_valueOf 112 = .ok (.goto 161, 3) := by decide +kernel
theorem dX9_valueOf_115 : decode cX9_valueOf 115 = .ok (.iload 7, 2) := by decide +kernel
theorem dX9_valueOf_117 : decode cX9_valueOf 117 = .ok (.bipush 6, 2) := by decide +kernel
theorem dX9_valueOf_119 : decode cX9_valueOf 119 = .ok (.if_icmp .ne 34, 3) := by decide +kernel
theorem dX9_valueOf_122 : decode cX9_valueOf 122 = .ok (.iload 5, 2) := by decide +kernel
theorem dX9_valueOf_124 : decode cX9_valueOf 124 = .ok (.bipush 32, 2) := by decide +kernel
theorem dX9_valueOf_126 : decode cX9_valueOf 126 = .ok (.if_icmp .ge 27, 3) := by decide +kernel
theorem dX9_valueOf_129 : decode cX9_valueOf 129 = .ok (.iload 8, 2) := by decide +kernel
theorem dX9_valueOf_131 : decode cX9_valueOf 131 = .ok (.aload_n 2, 1) := by decide +kernel
theorem dX9_valueOf_132 : decode cX9_valueOf 132 = .ok (.arraylength, 1) := by decide +kernel
theorem dX9_valueOf_133 : decode cX9_valueOf 133 = .ok (.if_icmp .ge 20, 3) := by decide +kernel
theorem dX9_valueOf_136 : decode cX9_valueOf 136 = .ok (.aload_n 0, 1) := by decide +kernel
theorem dX9_valueOf_137 : decode cX9_valueOf 137 = .ok (.getfield 11, 3) := by decide +kernel
theorem dX9_valueOf_140 : decode cX9_valueOf 140 = .ok (.iload 5, 2) := by decide +kernel
theorem dX9_valueOf_142 : decode cX9_valueOf 142 = .ok (.aload_n 2, 1) := by decide +kernel
theorem dX9_valueOf_143 : decode cX9_valueOf 143 = .ok (.iload 8, 2) := by decide +kernel
theorem dX9_valueOf_145 : decode cX9_valueOf 145 = .ok (.iaload, 1) := by decide +kernel
theorem dX9_valueOf_146 : decode cX9_valueOf 146 = .ok (.iastore, 1) := by decide +kernel
theorem dX9_valueOf_147 : decode cX9_valueOf 147 = .ok (.iinc 5 1, 3) := by decide +kernel
theorem dX9_valueOf_150 : decode cX9_valueOf 150 = .ok (.goto 123, 3) := by decide +kernel
theorem dX9_valueOf_153 : decode cX9_valueOf 153 = .ok (.iload 7, 2) := by decide +kernel
theorem dX9_valueOf_155 : decode cX9_valueOf 155 = .ok (.iconst 5, 1) := by decide +kernel
theorem dX9_valueOf_156 : decode cX9_valueOf 156 = .ok (.if_icmp .ne 41, 3) := by decide +kernel
theorem dX9_valueOf_159 : decode cX9_valueOf 159 = .ok (.iload 5, 2) := by decide +kernel
theorem dX9_valueOf_161 : decode cX9_valueOf 161 = .ok (.iconst 1, 1) := by decide +kernel
theorem dX9_valueOf_162 : decode cX9_valueOf 162 = .ok (.if_icmp .lt 35, 3) := by decide +kernel
theorem dX9_valueOf_165 : decode cX9_valueOf 165 = .ok (.aload_n 0, 1) := by decide +kernel
theorem dX9_valueOf_166 : decode cX9_valueOf 166 = .ok (.getfield 11, 3) := by decide +kernel
theorem dX9_valueOf_169 : decode cX9_valueOf 169 = .ok (.iload 5, 2) := by decide +kernel
theorem dX9_valueOf_171 : decode cX9_valueOf 171 = .ok (.iconst 1, 1) := by decide +kernel
theorem dX9_valueOf_172 : decode cX9_valueOf 172 = .ok (.isub, 1) := by decide +kernel
theorem dX9_valueOf_173 : decode cX9_valueOf 173 = .ok (.aload_n 0, 1) := by decide +kernel
theorem dX9_valueOf_174 : decode cX9_valueOf 174 = .ok (.getfield 11, 3) := by decide +kernel
theorem dX9_valueOf_177 : decode cX9_valueOf 177 = .ok (.iload 5, 2) := by decide +kernel
theorem dX9_valueOf_179 : decode cX9_valueOf 179 = .ok (.iconst 1, 1) := by decide +kernel
theorem dX9_valueOf_180 : decode cX9_valueOf 180 = .ok (.isub, 1) := by decide +kernel
theorem dX9_valueOf_181 : decode cX9_valueOf 181 = .ok (.iaload, 1) := by decide +kernel
theorem dX9_valueOf_182 : decode cX9_valueOf 182 = .ok (.ifCond .ne 7, 3) := by decide +kernel
theorem dX9_valueOf_185 : decode cX9_valueOf 185 = .ok (.iconst 1, 1) := by decide +kernel
theorem dX9_valueOf_186 : decode cX9_valueOf 186 = .ok (.goto 4, 3) := by decide +kernel
theorem dX9_valueOf_189 : decode cX9_valueOf 189 = .ok (.iconst 0, 1) := by decide +kernel
theorem dX9_valueOf_190 : decode cX9_valueOf 190 = .ok (.invokestatic 27, 3) := by decide +kernel
theorem dX9_valueOf_193 : decode cX9_valueOf 193 = .ok (.iastore, 1) := by decide +kernel
theorem dX9_valueOf_194 : decode cX9_valueOf 194 = .ok (.goto 79, 3) := by decide +kernel
theorem dX9_valueOf_197 : decode cX9_valueOf 197 = .ok (.iload 7, 2) := by decide +kernel
theorem dX9_valueOf_199 : decode cX9_valueOf 199 = .ok (.bipush 8, 2) := by decide +kernel
theorem dX9_valueOf_201 : decode cX9_valueOf 201 = .ok (.if_icmp .ne 31, 3) := by decide +kernel
theorem dX9_valueOf_204 : decode cX9_valueOf 204 = .ok (.iload 5, 2) := by decide +kernel
theorem dX9_valueOf_206 : decode cX9_valueOf 206 = .ok (.iconst 1, 1) := by decide +kernel
theorem dX9_valueOf_207 : decode cX9_valueOf 207 = .ok (.if_icmp .lt 25, 3) := by decide +kernel
theorem dX9_valueOf_210 : decode cX9_valueOf 210 = .ok (.aload_n 0, 1) := by decide +kernel
theorem dX9_valueOf_211 : decode cX9_valueOf 211 = .ok (.getfield 11, 3) := by decide +kernel
theorem dX9_valueOf_214 : decode cX9_valueOf 214 = .ok (.iload 5, 2) := by decide +kernel
theorem dX9_valueOf_216 : decode cX9_valueOf 216 = .ok (.iconst 1, 1) := by decide +kernel
theorem dX9_valueOf_217 : decode cX9_valueOf 217 = .ok (.isub, 1) := by decide +kernel
theorem dX9_valueOf_218 : decode cX9_valueOf 218 = .ok (.aload_n 0, 1) := by decide +kernel
theorem dX9_valueOf_219 : decode cX9_valueOf 219 = .ok (.getfield 11, 3) := by decide +kernel
theorem dX9_valueOf_222 : decode cX9_valueOf 222 = .ok (.iload 5, 2) := by decide +kernel
theorem dX9_valueOf_224 : decode cX9_valueOf 224 = .ok (.iconst 1, 1) := by decide +kernel
theorem dX9_valueOf_225 : decode cX9_valueOf 225 = .ok (.isub, 1) := by decide +kernel
theorem dX9_valueOf_226 : decode cX9_valueOf 226 = .ok (.iaload, 1) := by decide +kernel
theorem dX9_valueOf_227 : decode cX9_valueOf 227 = .ok (.ineg, 1) := by decide +kernel
theorem dX9_valueOf_228 : decode cX9_valueOf 228 = .ok (.iastore, 1) := by decide +kernel
theorem dX9_valueOf_229 : decode cX9_valueOf 229 = .ok (.goto 44, 3) := by decide +kernel
theorem dX9_valueOf_232 : decode cX9_valueOf 232 = .ok (.iload 5, 2) := by decide +kernel
theorem dX9_valueOf_234 : decode cX9_valueOf 234 = .ok (.iconst 2, 1) := by decide +kernel
theorem dX9_valueOf_235 : decode cX9_valueOf 235 = .ok (.if_icmp .lt 38, 3) := by decide +kernel
theorem dX9_valueOf_238 : decode cX9_valueOf 238 = .ok (.aload_n 0, 1) := by decide +kernel
theorem dX9_valueOf_239 : decode cX9_valueOf 239 = .ok (.getfield 11, 3) := by decide +kernel
theorem dX9_valueOf_242 : decode cX9_valueOf 242 = .ok (.iload 5, 2) := by decide +kernel
theorem dX9_valueOf_244 : decode cX9_valueOf 244 = .ok (.iconst 2, 1) := by decide +kernel
theorem dX9_valueOf_245 : decode cX9_valueOf 245 = .ok (.isub, 1) := by decide +kernel
theorem dX9_valueOf_246 : decode cX9_valueOf 246 = .ok (.iload 7, 2) := by decide +kernel
theorem dX9_valueOf_248 : decode cX9_valueOf 248 = .ok (.aload_n 0, 1) := by decide +kernel
theorem dX9_valueOf_249 : decode cX9_valueOf 249 = .ok (.getfield 11, 3) := by decide +kernel
theorem dX9_valueOf_252 : decode cX9_valueOf 252 = .ok (.iload 5, 2) := by decide +kernel
theorem dX9_valueOf_254 : decode cX9_valueOf 254 = .ok (.iconst 2, 1) := by decide +kernel
theorem dX9_valueOf_255 : decode cX9_valueOf 255 = .ok (.isub, 1) := by decide +kernel
theorem dX9_valueOf_256 : decode cX9_valueOf 256 = .ok (.iaload, 1) := by decide +kernel
theorem dX9_valueOf_257 : decode cX9_valueOf 257 = .ok (.aload_n 0, 1) := by decide +kernel
theorem dX9_valueOf_258 : decode cX9_valueOf 258 = .ok (.getfield 11, 3) := by decide +kernel
theorem dX9_valueOf_261 : decode cX9_valueOf 261 = .ok (.iload 5, 2) := by decide +kernel
theorem dX9_valueOf_263 : decode cX9_valueOf 263 = .ok (.iconst 1, 1) := by decide +kernel
theorem dX9_valueOf_264 : decode cX9_valueOf 264 = .ok (.isub, 1) := by decide +kernel
theorem dX9_valueOf_265 : decode cX9_valueOf 265 = .ok (.iaload, 1) := by decide +kernel
theorem dX9_valueOf_266 : decode cX9_valueOf 266 = .ok (.invokestatic 31, 3) := by decide +kernel
theorem dX9_valueOf_269 : decode cX9_valueOf 269 = .ok (.iastore, 1) := by decide +kernel
theorem dX9_valueOf_270 : decode cX9_valueOf 270 = .ok (.iinc 5 (-1), 3) := by decide +kernel
theorem dX9_valueOf_273 : decode cX9_valueOf 273 = .ok (.iinc 6 1, 3) := by decide +kernel
theorem dX9_valueOf_276 : decode cX9_valueOf 276 = .ok (.goto (-231), 3) := by decide +kernel
theorem dX9_valueOf_279 : decode cX9_valueOf 279 = .ok (.aload_n 0, 1) := by decide +kernel
theorem dX9_valueOf_280 : decode cX9_valueOf 280 = .ok (.getfield 11, 3) := by decide +kernel
theorem dX9_valueOf_283 : decode cX9_valueOf 283 = .ok (.iconst 0, 1) := by decide +kernel
theorem dX9_valueOf_284 : decode cX9_valueOf 284 = .ok (.iaload, 1) := by decide +kernel
theorem dX9_valueOf_285 : decode cX9_valueOf 285 = .ok (.ireturn, 1) := by decide +kernel
theorem dX9_joined_0 : decode cX9_joined 0 = .ok (.iload_n 0, 1) := by decide +kernel
theorem dX9_joined_1 : decode cX9_joined 1 = .ok (.lookupswitch 117 #[(3, 59), (4, 73), (43, 109), (45, 113), (60, 87), (61, 98)], 59) := by decide +kernel
theorem dX9_joined_60 : decode cX9_joined 60 = .ok (.iload_n 1, 1) := by decide +kernel
theorem dX9_joined_61 : decode cX9_joined 61 = .ok (.ifCond .ne 7, 3) := by decide +kernel
theorem dX9_joined_64 : decode cX9_joined 64 = .ok (.iload_n 2, 1) := by decide +kernel
theorem dX9_joined_65 : decode cX9_joined 65 = .ok (.ifCond .eq 7, 3) := by decide +kernel
theorem dX9_joined_68 : decode cX9_joined 68 = .ok (.iconst 1, 1) := by decide +kernel
theorem dX9_joined_69 : decode cX9_joined 69 = .ok (.goto 4, 3) := by decide +kernel
theorem dX9_joined_72 : decode cX9_joined 72 = .ok (.iconst 0, 1) := by decide +kernel
theorem dX9_joined_73 : decode cX9_joined 73 = .ok (.ireturn, 1) := by decide +kernel
theorem dX9_joined_74 : decode cX9_joined 74 = .ok (.iload_n 1, 1) := by decide +kernel
theorem dX9_joined_75 : decode cX9_joined 75 = .ok (.ifCond .eq 11, 3) := by decide +kernel
theorem dX9_joined_78 : decode cX9_joined 78 = .ok (.iload_n 2, 1) := by decide +kernel
theorem dX9_joined_79 : decode cX9_joined 79 = .ok (.ifCond .eq 7, 3) := by decide +kernel
theorem dX9_joined_82 : decode cX9_joined 82 = .ok (.iconst 1, 1) := by decide +kernel
theorem dX9_joined_83 : decode cX9_joined 83 = .ok (.goto 4, 3) := by decide +kernel
theorem dX9_joined_86 : decode cX9_joined 86 = .ok (.iconst 0, 1) := by decide +kernel
theorem dX9_joined_87 : decode cX9_joined 87 = .ok (.ireturn, 1) := by decide +kernel
theorem dX9_joined_88 : decode cX9_joined 88 = .ok (.iload_n 1, 1) := by decide +kernel
theorem dX9_joined_89 : decode cX9_joined 89 = .ok (.iload_n 2, 1) := by decide +kernel
theorem dX9_joined_90 : decode cX9_joined 90 = .ok (.if_icmp .ge 7, 3) := by decide +kernel
theorem dX9_joined_93 : decode cX9_joined 93 = .ok (.iconst 1, 1) := by decide +kernel
theorem dX9_joined_94 : decode cX9_joined 94 = .ok (.goto 4, 3) := by decide +kernel
theorem dX9_joined_97 : decode cX9_joined 97 = .ok (.iconst 0, 1) := by decide +kernel
theorem dX9_joined_98 : decode cX9_joined 98 = .ok (.ireturn, 1) := by decide +kernel
theorem dX9_joined_99 : decode cX9_joined 99 = .ok (.iload_n 1, 1) := by decide +kernel
theorem dX9_joined_100 : decode cX9_joined 100 = .ok (.iload_n 2, 1) := by decide +kernel
theorem dX9_joined_101 : decode cX9_joined 101 = .ok (.if_icmp .ne 7, 3) := by decide +kernel
theorem dX9_joined_104 : decode cX9_joined 104 = .ok (.iconst 1, 1) := by decide +kernel
theorem dX9_joined_105 : decode cX9_joined 105 = .ok (.goto 4, 3) := by decide +kernel
theorem dX9_joined_108 : decode cX9_joined 108 = .ok (.iconst 0, 1) := by decide +kernel
theorem dX9_joined_109 : decode cX9_joined 109 = .ok (.ireturn, 1) := by decide +kernel
theorem dX9_joined_110 : decode cX9_joined 110 = .ok (.iload_n 1, 1) := by decide +kernel
theorem dX9_joined_111 : decode cX9_joined 111 = .ok (.iload_n 2, 1) := by decide +kernel
theorem dX9_joined_112 : decode cX9_joined 112 = .ok (.iadd, 1) := by decide +kernel
theorem dX9_joined_113 : decode cX9_joined 113 = .ok (.ireturn, 1) := by decide +kernel
theorem dX9_joined_114 : decode cX9_joined 114 = .ok (.iload_n 1, 1) := by decide +kernel
theorem dX9_joined_115 : decode cX9_joined 115 = .ok (.iload_n 2, 1) := by decide +kernel
theorem dX9_joined_116 : decode cX9_joined 116 = .ok (.isub, 1) := by decide +kernel
theorem dX9_joined_117 : decode cX9_joined 117 = .ok (.ireturn, 1) := by decide +kernel
theorem dX9_joined_118 : decode cX9_joined 118 = .ok (.iload_n 1, 1) := by decide +kernel
theorem dX9_joined_119 : decode cX9_joined 119 = .ok (.iload_n 2, 1) := by decide +kernel
theorem dX9_joined_120 : decode cX9_joined 120 = .ok (.imul, 1) := by decide +kernel
theorem dX9_joined_121 : decode cX9_joined 121 = .ok (.ireturn, 1) := by decide +kernel
theorem dX10_init_0 : decode cX10_init 0 = .ok (.aload_n 0, 1) := by decide +kernel
theorem dX10_init_1 : decode cX10_init 1 = .ok (.iload_n 1, 1) := by decide +kernel
theorem dX10_init_2 : decode cX10_init 2 = .ok (.iload_n 2, 1) := by decide +kernel
theorem dX10_init_3 : decode cX10_init 3 = .ok (.iload_n 3, 1) := by decide +kernel
theorem dX10_init_4 : decode cX10_init 4 = .ok (.invokespecial 1, 3) := by decide +kernel
theorem dX10_init_7 : decode cX10_init 7 = .ok (.return_, 1) := by decide +kernel
theorem dX10_kind_0 : decode cX10_kind 0 = .ok (.iconst 2, 1) := by decide +kernel
theorem dX10_kind_1 : decode cX10_kind 1 = .ok (.ireturn, 1) := by decide +kernel
theorem dX10_isUnder_0 : decode cX10_isUnder 0 = .ok (.iload_n 1, 1) := by decide +kernel
theorem dX10_isUnder_1 : decode cX10_isUnder 1 = .ok (.iconst 2, 1) := by decide +kernel
theorem dX10_isUnder_2 : decode cX10_isUnder 2 = .ok (.if_icmp .eq 11, 3) := by decide +kernel
theorem dX10_isUnder_5 : decode cX10_isUnder 5 = .ok (.aload_n 0, 1) := by decide +kernel
theorem dX10_isUnder_6 : decode cX10_isUnder 6 = .ok (.iload_n 1, 1) := by decide +kernel
theorem dX10_isUnder_7 : decode cX10_isUnder 7 = .ok (.invokespecial 9, 3) := by decide +kernel
theorem dX10_isUnder_10 : decode cX10_isUnder 10 = .ok (.ifCond .eq 7, 3) := by decide +kernel
theorem dX10_isUnder_13 : decode cX10_isUnder 13 = .ok (.iconst 1, 1) := by decide +kernel
theorem dX10_isUnder_14 : decode cX10_isUnder 14 = .ok (.goto 4, 3) := by decide +kernel
theorem dX10_isUnder_17 : decode cX10_isUnder 17 = .ok (.iconst 0, 1) := by decide +kernel
theorem dX10_isUnder_18 : decode cX10_isUnder 18 = .ok (.ireturn, 1) := by decide +kernel
theorem dX10_reach_0 : decode cX10_reach 0 = .ok (.aload_n 0, 1) := by decide +kernel
theorem dX10_reach_1 : decode cX10_reach 1 = .ok (.iload_n 1, 1) := by decide +kernel
theorem dX10_reach_2 : decode cX10_reach 2 = .ok (.iload_n 2, 1) := by decide +kernel
theorem dX10_reach_3 : decode cX10_reach 3 = .ok (.invokespecial 13, 3) := by decide +kernel
theorem dX10_reach_6 : decode cX10_reach 6 = .ok (.iload_n 2, 1) := by decide +kernel
theorem dX10_reach_7 : decode cX10_reach 7 = .ok (.isub, 1) := by decide +kernel
theorem dX10_reach_8 : decode cX10_reach 8 = .ok (.ireturn, 1) := by decide +kernel
theorem dX10_silentSteps_0 : decode cX10_silentSteps 0 = .ok (.aload_n 0, 1) := by decide +kernel
theorem dX10_silentSteps_1 : decode cX10_silentSteps 1 = .ok (.iload_n 1, 1) := by decide +kernel
theorem dX10_silentSteps_2 : decode cX10_silentSteps 2 = .ok (.invokespecial 17, 3) := by decide +kernel
theorem dX10_silentSteps_5 : decode cX10_silentSteps 5 = .ok (.iload_n 1, 1) := by decide +kernel
theorem dX10_silentSteps_6 : decode cX10_silentSteps 6 = .ok (.iconst 3, 1) := by decide +kernel
theorem dX10_silentSteps_7 : decode cX10_silentSteps 7 = .ok (.if_icmp .lt 7, 3) := by decide +kernel
theorem dX10_silentSteps_10 : decode cX10_silentSteps 10 = .ok (.iconst 1, 1) := by decide +kernel
theorem dX10_silentSteps_11 : decode cX10_silentSteps 11 = .ok (.goto 4, 3) := by decide +kernel
theorem dX10_silentSteps_14 : decode cX10_silentSteps 14 = .ok (.iconst 0, 1) := by decide +kernel
theorem dX10_silentSteps_15 : decode cX10_silentSteps 15 = .ok (.invokestatic 21, 3) := by decide +kernel
theorem dX10_silentSteps_18 : decode cX10_silentSteps 18 = .ok (.iadd, 1) := by decide +kernel
theorem dX10_silentSteps_19 : decode cX10_silentSteps 19 = .ok (.ireturn, 1) := by decide +kernel
theorem dX11_init_0 : decode cX11_init 0 = .ok (.aload_n 0, 1) := by decide +kernel
theorem dX11_init_1 : decode cX11_init 1 = .ok (.invokespecial 1, 3) := by decide +kernel
theorem dX11_init_4 : decode cX11_init 4 = .ok (.aload_n 0, 1) := by decide +kernel
theorem dX11_init_5 : decode cX11_init 5 = .ok (.new 7, 3) := by decide +kernel
theorem dX11_init_8 : decode cX11_init 8 = .ok (.dup, 1) := by decide +kernel
theorem dX11_init_9 : decode cX11_init 9 = .ok (.invokespecial 9, 3) := by decide +kernel
theorem dX11_init_12 : decode cX11_init 12 = .ok (.putfield 10, 3) := by decide +kernel
theorem dX11_init_15 : decode cX11_init 15 = .ok (.aload_n 0, 1) := by decide +kernel
theorem dX11_init_16 : decode cX11_init 16 = .ok (.new 7, 3) := by decide +kernel
theorem dX11_init_19 : decode cX11_init 19 = .ok (.dup, 1) := by decide +kernel
theorem dX11_init_20 : decode cX11_init 20 = .ok (.invokespecial 9, 3) := by decide +kernel
theorem dX11_init_23 : decode cX11_init 23 = .ok (.putfield 16, 3) := by decide +kernel
theorem dX11_init_26 : decode cX11_init 26 = .ok (.aload_n 0, 1) := by decide +kernel
theorem dX11_init_27 : decode cX11_init 27 = .ok (.iconst (-1), 1) := by decide +kernel
theorem dX11_init_28 : decode cX11_init 28 = .ok (.putfield 19, 3) := by decide +kernel
theorem dX11_init_31 : decode cX11_init 31 = .ok (.aload_n 0, 1) := by decide +kernel
theorem dX11_init_32 : decode cX11_init 32 = .ok (.bipush 10, 2) := by decide +kernel
theorem dX11_init_34 : decode cX11_init 34 = .ok (.anewarray 23, 3) := by decide +kernel
theorem dX11_init_37 : decode cX11_init 37 = .ok (.putfield 25, 3) := by decide +kernel
theorem dX11_init_40 : decode cX11_init 40 = .ok (.aload_n 0, 1) := by decide +kernel
theorem dX11_init_41 : decode cX11_init 41 = .ok (.iconst 0, 1) := by decide +kernel
theorem dX11_init_42 : decode cX11_init 42 = .ok (.putfield 29, 3) := by decide +kernel
theorem dX11_init_45 : decode cX11_init 45 = .ok (.aload_n 0, 1) := by decide +kernel
theorem dX11_init_46 : decode cX11_init 46 = .ok (.new 32, 3) := by decide +kernel
theorem dX11_init_49 : decode cX11_init 49 = .ok (.dup, 1) := by decide +kernel
theorem dX11_init_50 : decode cX11_init 50 = .ok (.invokespecial 34, 3) := by decide +kernel
theorem dX11_init_53 : decode cX11_init 53 = .ok (.putfield 35, 3) := by decide +kernel
theorem dX11_init_56 : decode cX11_init 56 = .ok (.aload_n 0, 1) := by decide +kernel
theorem dX11_init_57 : decode cX11_init 57 = .ok (.bipush 6, 2) := by decide +kernel
theorem dX11_init_59 : decode cX11_init 59 = .ok (.anewarray 39, 3) := by decide +kernel
theorem dX11_init_62 : decode cX11_init 62 = .ok (.putfield 41, 3) := by decide +kernel
theorem dX11_init_65 : decode cX11_init 65 = .ok (.aload_n 0, 1) := by decide +kernel
theorem dX11_init_66 : decode cX11_init 66 = .ok (.iconst 0, 1) := by decide +kernel
theorem dX11_init_67 : decode cX11_init 67 = .ok (.putfield 45, 3) := by decide +kernel
theorem dX11_init_70 : decode cX11_init 70 = .ok (.aload_n 0, 1) := by decide +kernel
theorem dX11_init_71 : decode cX11_init 71 = .ok (.iconst 4, 1) := by decide +kernel
theorem dX11_init_72 : decode cX11_init 72 = .ok (.anewarray 48, 3) := by decide +kernel
theorem dX11_init_75 : decode cX11_init 75 = .ok (.putfield 50, 3) := by decide +kernel
theorem dX11_init_78 : decode cX11_init 78 = .ok (.aload_n 0, 1) := by decide +kernel
theorem dX11_init_79 : decode cX11_init 79 = .ok (.new 54, 3) := by decide +kernel
theorem dX11_init_82 : decode cX11_init 82 = .ok (.dup, 1) := by decide +kernel
theorem dX11_init_83 : decode cX11_init 83 = .ok (.aload_n 0, 1) := by decide +kernel
theorem dX11_init_84 : decode cX11_init 84 = .ok (.getfield 10, 3) := by decide +kernel
theorem dX11_init_87 : decode cX11_init 87 = .ok (.aload_n 0, 1) := by decide +kernel
theorem dX11_init_88 : decode cX11_init 88 = .ok (.getfield 25, 3) := by decide +kernel
theorem dX11_init_91 : decode cX11_init 91 = .ok (.invokespecial 56, 3) := by decide +kernel
theorem dX11_init_94 : decode cX11_init 94 = .ok (.putfield 59, 3) := by decide +kernel
theorem dX11_init_97 : decode cX11_init 97 = .ok (.aload_n 0, 1) := by decide +kernel
theorem dX11_init_98 : decode cX11_init 98 = .ok (.sipush 200, 3) := by decide +kernel
theorem dX11_init_101 : decode cX11_init 101 = .ok (.newarray .long, 2) := by decide +kernel
theorem dX11_init_103 : decode cX11_init 103 = .ok (.putfield 63, 3) := by decide +kernel
theorem dX11_init_106 : decode cX11_init 106 = .ok (.aload_n 0, 1) := by decide +kernel
theorem dX11_init_107 : decode cX11_init 107 = .ok (.sipush 200, 3) := by decide +kernel
theorem dX11_init_110 : decode cX11_init 110 = .ok (.newarray .long, 2) := by decide +kernel
theorem dX11_init_112 : decode cX11_init 112 = .ok (.putfield 67, 3) := by decide +kernel
theorem dX11_init_115 : decode cX11_init 115 = .ok (.iconst 0, 1) := by decide +kernel
theorem dX11_init_116 : decode cX11_init 116 = .ok (.istore_n 1, 1) := by decide +kernel
theorem dX11_init_117 : decode cX11_init 117 = .ok (.iload_n 1, 1) := by decide +kernel
theorem dX11_init_118 : decode cX11_init 118 = .ok (.iconst 4, 1) := by decide +kernel
theorem dX11_init_119 : decode cX11_init 119 = .ok (.if_icmp .ge 22, 3) := by decide +kernel
theorem dX11_init_122 : decode cX11_init 122 = .ok (.aload_n 0, 1) := by decide +kernel
theorem dX11_init_123 : decode cX11_init 123 = .ok (.getfield 50, 3) := by decide +kernel
theorem dX11_init_126 : decode cX11_init 126 = .ok (.iload_n 1, 1) := by decide +kernel
theorem dX11_init_127 : decode cX11_init 127 = .ok (.new 48, 3) := by decide +kernel
theorem dX11_init_130 : decode cX11_init 130 = .ok (.dup, 1) := by decide +kernel
theorem dX11_init_131 : decode cX11_init 131 = .ok (.invokespecial 70, 3) := by decide +kernel
theorem dX11_init_134 : decode cX11_init 134 = .ok (.aastore, 1) := by decide +kernel
theorem dX11_init_135 : decode cX11_init 135 = .ok (.iinc 1 1, 3) := by decide +kernel
theorem dX11_init_138 : decode cX11_init 138 = .ok (.goto (-21), 3) := by decide +kernel
theorem dX11_init_141 : decode cX11_init 141 = .ok (.iconst 0, 1) := by decide +kernel
theorem dX11_init_142 : decode cX11_init 142 = .ok (.istore_n 1, 1) := by decide +kernel
theorem dX11_init_143 : decode cX11_init 143 = .ok (.iload_n 1, 1) := by decide +kernel
theorem dX11_init_144 : decode cX11_init 144 = .ok (.ldc 71, 2) := by decide +kernel
theorem dX11_init_146 : decode cX11_init 146 = .ok (.invokevirtual 73, 3) := by decide +kernel
theorem dX11_init_149 : decode cX11_init 149 = .ok (.if_icmp .ge 22, 3) := by decide +kernel
theorem dX11_init_152 : decode cX11_init 152 = .ok (.aload_n 0, 1) := by decide +kernel
theorem dX11_init_153 : decode cX11_init 153 = .ok (.getfield 35, 3) := by decide +kernel
theorem dX11_init_156 : decode cX11_init 156 = .ok (.ldc 71, 2) := by decide +kernel
theorem dX11_init_158 : decode cX11_init 158 = .ok (.iload_n 1, 1) := by decide +kernel
theorem dX11_init_159 : decode cX11_init 159 = .ok (.invokevirtual 79, 3) := by decide +kernel
theorem dX11_init_162 : decode cX11_init 162 = .ok (.invokevirtual 83, 3) := by decide +kernel
theorem dX11_init_165 : decode cX11_init 165 = .ok (.iinc 1 1, 3) := by decide +kernel
theorem dX11_init_168 : decode cX11_init 168 = .ok (.goto (-25), 3) := by decide +kernel
theorem dX11_init_171 : decode cX11_init 171 = .ok (.aload_n 0, 1) := by decide +kernel
theorem dX11_init_172 : decode cX11_init 172 = .ok (.aload_n 0, 1) := by decide +kernel
theorem dX11_init_173 : decode cX11_init 173 = .ok (.getfield 35, 3) := by decide +kernel
theorem dX11_init_176 : decode cX11_init 176 = .ok (.invokevirtual 87, 3) := by decide +kernel
theorem dX11_init_179 : decode cX11_init 179 = .ok (.invokevirtual 91, 3) := by decide +kernel
theorem dX11_init_182 : decode cX11_init 182 = .ok (.aload_n 0, 1) := by decide +kernel
theorem dX11_init_183 : decode cX11_init 183 = .ok (.getfield 35, 3) := by decide +kernel
theorem dX11_init_186 : decode cX11_init 186 = .ok (.invokevirtual 95, 3) := by decide +kernel
theorem dX11_init_189 : decode cX11_init 189 = .ok (.return_, 1) := by decide +kernel
theorem dX11_set_0 : decode cX11_set 0 = .ok (.bipush (-2), 2) := by decide +kernel
theorem dX11_set_2 : decode cX11_set 2 = .ok (.istore 4, 2) := by decide +kernel
theorem dX11_set_4 : decode cX11_set 4 = .ok (.iload_n 1, 1) := by decide +kernel
theorem dX11_set_5 : decode cX11_set 5 = .ok (.ifCond .ne 22, 3) := by decide +kernel
theorem dX11_set_8 : decode cX11_set 8 = .ok (.aload_n 0, 1) := by decide +kernel
theorem dX11_set_9 : decode cX11_set 9 = .ok (.getfield 10, 3) := by decide +kernel
theorem dX11_set_12 : decode cX11_set 12 = .ok (.getfield 98, 3) := by decide +kernel
theorem dX11_set_15 : decode cX11_set 15 = .ok (.iload_n 2, 1) := by decide +kernel
theorem dX11_set_16 : decode cX11_set 16 = .ok (.iload_n 3, 1) := by decide +kernel
theorem dX11_set_17 : decode cX11_set 17 = .ok (.bipush 10, 2) := by decide +kernel
theorem dX11_set_19 : decode cX11_set 19 = .ok (.invokestatic 102, 3) := by decide +kernel
theorem dX11_set_22 : decode cX11_set 22 = .ok (.istore 4, 2) := by decide +kernel
theorem dX11_set_24 : decode cX11_set 24 = .ok (.goto 140, 3) := by decide +kernel
theorem dX11_set_27 : decode cX11_set 27 = .ok (.iload_n 1, 1) := by decide +kernel
theorem dX11_set_28 : decode cX11_set 28 = .ok (.iconst 1, 1) := by decide +kernel
theorem dX11_set_29 : decode cX11_set 29 = .ok (.if_icmp .ne 21, 3) := by decide +kernel
theorem dX11_set_32 : decode cX11_set 32 = .ok (.aload_n 0, 1) := by decide +kernel
theorem dX11_set_33 : decode cX11_set 33 = .ok (.getfield 10, 3) := by decide +kernel
theorem dX11_set_36 : decode cX11_set 36 = .ok (.getfield 106, 3) := by decide +kernel
theorem dX11_set_39 : decode cX11_set 39 = .ok (.iload_n 2, 1) := by decide +kernel
theorem dX11_set_40 : decode cX11_set 40 = .ok (.iload_n 3, 1) := by decide +kernel
theorem dX11_set_41 : decode cX11_set 41 = .ok (.iconst 2, 1) := by decide +kernel
theorem dX11_set_42 : decode cX11_set 42 = .ok (.invokestatic 102, 3) := by decide +kernel
theorem dX11_set_45 : decode cX11_set 45 = .ok (.istore 4, 2) := by decide +kernel
theorem dX11_set_47 : decode cX11_set 47 = .ok (.goto 117, 3) := by decide +kernel
theorem dX11_set_50 : decode cX11_set 50 = .ok (.iload_n 1, 1) := by decide +kernel
theorem dX11_set_51 : decode cX11_set 51 = .ok (.iconst 2, 1) := by decide +kernel
theorem dX11_set_52 : decode cX11_set 52 = .ok (.if_icmp .ne 21, 3) := by decide +kernel
theorem dX11_set_55 : decode cX11_set 55 = .ok (.aload_n 0, 1) := by decide +kernel
theorem dX11_set_56 : decode cX11_set 56 = .ok (.getfield 10, 3) := by decide +kernel
theorem dX11_set_59 : decode cX11_set 59 = .ok (.getfield 109, 3) := by decide +kernel
theorem dX11_set_62 : decode cX11_set 62 = .ok (.iload_n 2, 1) := by decide +kernel
theorem dX11_set_63 : decode cX11_set 63 = .ok (.iload_n 3, 1) := by decide +kernel
theorem dX11_set_64 : decode cX11_set 64 = .ok (.iconst 2, 1) := by decide +kernel
theorem dX11_set_65 : decode cX11_set 65 = .ok (.invokestatic 102, 3) := by decide +kernel
theorem dX11_set_68 : decode cX11_set 68 = .ok (.istore 4, 2) := by decide +kernel
theorem dX11_set_70 : decode cX11_set 70 = .ok (.goto 94, 3) := by decide +kernel
theorem dX11_set_73 : decode cX11_set 73 = .ok (.iload_n 1, 1) := by decide +kernel
theorem dX11_set_74 : decode cX11_set 74 = .ok (.iconst 3, 1) := by decide +kernel
theorem dX11_set_75 : decode cX11_set 75 = .ok (.if_icmp .ne 22, 3) := by decide +kernel
theorem dX11_set_78 : decode cX11_set 78 = .ok (.aload_n 0, 1) := by decide +kernel
theorem dX11_set_79 : decode cX11_set 79 = .ok (.getfield 10, 3) := by decide +kernel
theorem dX11_set_82 : decode cX11_set 82 = .ok (.getfield 112, 3) := by decide +kernel
theorem dX11_set_85 : decode cX11_set 85 = .ok (.iload_n 2, 1) := by decide +kernel
theorem dX11_set_86 : decode cX11_set 86 = .ok (.iload_n 3, 1) := by decide +kernel
theorem dX11_set_87 : decode cX11_set 87 = .ok (.bipush 10, 2) := by decide +kernel
theorem dX11_set_89 : decode cX11_set 89 = .ok (.invokestatic 102, 3) := by decide +kernel
theorem dX11_set_92 : decode cX11_set 92 = .ok (.istore 4, 2) := by decide +kernel
theorem dX11_set_94 : decode cX11_set 94 = .ok (.goto 70, 3) := by decide +kernel
theorem dX11_set_97 : decode cX11_set 97 = .ok (.iload_n 1, 1) := by decide +kernel
theorem dX11_set_98 : decode cX11_set 98 = .ok (.iconst 4, 1) := by decide +kernel
theorem dX11_set_99 : decode cX11_set 99 = .ok (.if_icmp .ne 34, 3) := by decide +kernel
theorem dX11_set_102 : decode cX11_set 102 = .ok (.iload_n 3, 1) := by decide +kernel
theorem dX11_set_103 : decode cX11_set 103 = .ok (.iconst 1, 1) := by decide +kernel
theorem dX11_set_104 : decode cX11_set 104 = .ok (.if_icmp .lt 29, 3) := by decide +kernel
theorem dX11_set_107 : decode cX11_set 107 = .ok (.iload_n 3, 1) := by decide +kernel
theorem dX11_set_108 : decode cX11_set 108 = .ok (.bipush 48, 2) := by decide +kernel
theorem dX11_set_110 : decode cX11_set 110 = .ok (.if_icmp .gt 23, 3) := by decide +kernel
theorem dX11_set_113 : decode cX11_set 113 = .ok (.aload_n 0, 1) := by decide +kernel
theorem dX11_set_114 : decode cX11_set 114 = .ok (.getfield 10, 3) := by decide +kernel
theorem dX11_set_117 : decode cX11_set 117 = .ok (.getfield 115, 3) := by decide +kernel
theorem dX11_set_120 : decode cX11_set 120 = .ok (.istore 4, 2) := by decide +kernel
theorem dX11_set_122 : decode cX11_set 122 = .ok (.aload_n 0, 1) := by decide +kernel
theorem dX11_set_123 : decode cX11_set 123 = .ok (.getfield 10, 3) := by decide +kernel
theorem dX11_set_126 : decode cX11_set 126 = .ok (.iload_n 3, 1) := by decide +kernel
theorem dX11_set_127 : decode cX11_set 127 = .ok (.putfield 115, 3) := by decide +kernel
theorem dX11_set_130 : decode cX11_set 130 = .ok (.goto 34, 3) := by decide +kernel
theorem dX11_set_133 : decode cX11_set 133 = .ok (.iload_n 1, 1) := by decide +kernel
theorem dX11_set_134 : decode cX11_set 134 = .ok (.iconst 5, 1) := by decide +kernel
theorem dX11_set_135 : decode cX11_set 135 = .ok (.if_icmp .ne 29, 3) := by decide +kernel
theorem dX11_set_138 : decode cX11_set 138 = .ok (.iload_n 3, 1) := by decide +kernel
theorem dX11_set_139 : decode cX11_set 139 = .ok (.bipush 6, 2) := by decide +kernel
theorem dX11_set_141 : decode cX11_set 141 = .ok (.invokestatic 118, 3) := by decide +kernel
theorem dX11_set_144 : decode cX11_set 144 = .ok (.ifCond .ne 20, 3) := by decide +kernel
theorem dX11_set_147 : decode cX11_set 147 = .ok (.aload_n 0, 1) := by decide +kernel
theorem dX11_set_148 : decode cX11_set 148 = .ok (.getfield 10, 3) := by decide +kernel
theorem dX11_set_151 : decode cX11_set 151 = .ok (.getfield 122, 3) := by decide +kernel
theorem dX11_set_154 : decode cX11_set 154 = .ok (.istore 4, 2) := by decide +kernel
theorem dX11_set_156 : decode cX11_set 156 = .ok (.aload_n 0, 1) := by decide +kernel
theorem dX11_set_157 : decode cX11_set 157 = .ok (.getfield 10, 3) := by decide +kernel
theorem dX11_set_160 : decode cX11_set 160 = .ok (.iload_n 3, 1) := by decide +kernel
theorem dX11_set_161 : decode cX11_set 161 = .ok (.putfield 122, 3) := by decide +kernel
theorem dX11_set_164 : decode cX11_set 164 = .ok (.iload 4, 2) := by decide +kernel
theorem dX11_set_166 : decode cX11_set 166 = .ok (.ireturn, 1) := by decide +kernel
theorem dX11_singer_0 : decode cX11_singer 0 = .ok (.iload_n 2, 1) := by decide +kernel
theorem dX11_singer_1 : decode cX11_singer 1 = .ok (.sipush 1000, 3) := by decide +kernel
theorem dX11_singer_4 : decode cX11_singer 4 = .ok (.idiv, 1) := by decide +kernel
theorem dX11_singer_5 : decode cX11_singer 5 = .ok (.istore 4, 2) := by decide +kernel
theorem dX11_singer_7 : decode cX11_singer 7 = .ok (.iload_n 2, 1) := by decide +kernel
theorem dX11_singer_8 : decode cX11_singer 8 = .ok (.bipush 100, 2) := by decide +kernel
theorem dX11_singer_10 : decode cX11_singer 10 = .ok (.idiv, 1) := by decide +kernel
theorem dX11_singer_11 : decode cX11_singer 11 = .ok (.bipush 10, 2) := by decide +kernel
theorem dX11_singer_13 : decode cX11_singer 13 = .ok (.irem, 1) := by decide +kernel
theorem dX11_singer_14 : decode cX11_singer 14 = .ok (.istore 5, 2) := by decide +kernel
theorem dX11_singer_16 : decode cX11_singer 16 = .ok (.iload_n 2, 1) := by decide +kernel
theorem dX11_singer_17 : decode cX11_singer 17 = .ok (.bipush 100, 2) := by decide +kernel
theorem dX11_singer_19 : decode cX11_singer 19 = .ok (.irem, 1) := by decide +kernel
theorem dX11_singer_20 : decode cX11_singer 20 = .ok (.istore 6, 2) := by decide +kernel
theorem dX11_singer_22 : decode cX11_singer 22 = .ok (.iload_n 1, 1) := by decide +kernel
theorem dX11_singer_23 : decode cX11_singer 23 = .ok (.bipush 6, 2) := by decide +kernel
theorem dX11_singer_25 : decode cX11_singer 25 = .ok (.invokestatic 118, 3) := by decide +kernel
theorem dX11_singer_28 : decode cX11_singer 28 = .ok (.ifCond .ne 44, 3) := by decide +kernel
theorem dX11_singer_31 : decode cX11_singer 31 = .ok (.iload_n 2, 1) := by decide +kernel
theorem dX11_singer_32 : decode cX11_singer 32 = .ok (.ifCond .lt 40, 3) := by decide +kernel
theorem dX11_singer_35 : decode cX11_singer 35 = .ok (.iload 4, 2) := by decide +kernel
theorem dX11_singer_37 : decode cX11_singer 37 = .ok (.iconst 4, 1) := by decide +kernel
theorem dX11_singer_38 : decode cX11_singer 38 = .ok (.invokestatic 118, 3) := by decide +kernel
theorem dX11_singer_41 : decode cX11_singer 41 = .ok (.ifCond .ne 31, 3) := by decide +kernel
theorem dX11_singer_44 : decode cX11_singer 44 = .ok (.iload 5, 2) := by decide +kernel
theorem dX11_singer_46 : decode cX11_singer 46 = .ok (.iconst 1, 1) := by decide +kernel
theorem dX11_singer_47 : decode cX11_singer 47 = .ok (.if_icmp .lt 25, 3) := by decide +kernel
theorem dX11_singer_50 : decode cX11_singer 50 = .ok (.iload 6, 2) := by decide +kernel
theorem dX11_singer_52 : decode cX11_singer 52 = .ok (.iconst 2, 1) := by decide +kernel
theorem dX11_singer_53 : decode cX11_singer 53 = .ok (.if_icmp .lt 19, 3) := by decide +kernel
theorem dX11_singer_56 : decode cX11_singer 56 = .ok (.iload 6, 2) := by decide +kernel
theorem dX11_singer_58 : decode cX11_singer 58 = .ok (.bipush 40, 2) := by decide +kernel
theorem dX11_singer_60 : decode cX11_singer 60 = .ok (.if_icmp .gt 12, 3) := by decide +kernel
theorem dX11_singer_63 : decode cX11_singer 63 = .ok (.iload_n 3, 1) := by decide +kernel
theorem dX11_singer_64 : decode cX11_singer 64 = .ok (.bipush 10, 2) := by decide +kernel
theorem dX11_singer_66 : decode cX11_singer 66 = .ok (.invokestatic 118, 3) := by decide +kernel
theorem dX11_singer_69 : decode cX11_singer 69 = .ok (.ifCond .eq 6, 3) := by decide +kernel
theorem dX11_singer_72 : decode cX11_singer 72 = .ok (.bipush (-2), 2) := by decide +kernel
theorem dX11_singer_74 : decode cX11_singer 74 = .ok (.ireturn, 1) := by decide +kernel
theorem dX11_singer_75 : decode cX11_singer 75 = .ok (.aload_n 0, 1) := by decide +kernel
theorem dX11_singer_76 : decode cX11_singer 76 = .ok (.getfield 29, 3) := by decide +kernel
theorem dX11_singer_79 : decode cX11_singer 79 = .ok (.bipush 10, 2) := by decide +kernel
theorem dX11_singer_81 : decode cX11_singer 81 = .ok (.if_icmp .lt 6, 3) := by decide +kernel
theorem dX11_singer_84 : decode cX11_singer 84 = .ok (.bipush (-4), 2) := by decide +kernel
theorem dX11_singer_86 : decode cX11_singer 86 = .ok (.ireturn, 1) := by decide +kernel
theorem dX11_singer_87 : decode cX11_singer 87 = .ok (.aload_n 0, 1) := by decide +kernel
theorem dX11_singer_88 : decode cX11_singer 88 = .ok (.getfield 25, 3) := by decide +kernel
theorem dX11_singer_91 : decode cX11_singer 91 = .ok (.aload_n 0, 1) := by decide +kernel
theorem dX11_singer_92 : decode cX11_singer 92 = .ok (.getfield 29, 3) := by decide +kernel
theorem dX11_singer_95 : decode cX11_singer 95 = .ok (.iload_n 1, 1) := by decide +kernel
theorem dX11_singer_96 : decode cX11_singer 96 = .ok (.iload 6, 2) := by decide +kernel
theorem dX11_singer_98 : decode cX11_singer 98 = .ok (.iload 5, 2) := by decide +kernel
theorem dX11_singer_100 : decode cX11_singer 100 = .ok (.iload_n 3, 1) := by decide +kernel
theorem dX11_singer_101 : decode cX11_singer 101 = .ok (.invokestatic 125, 3) := by decide +kernel
theorem dX11_singer_104 : decode cX11_singer 104 = .ok (.aastore, 1) := by decide +kernel
theorem dX11_singer_105 : decode cX11_singer 105 = .ok (.aload_n 0, 1) := by decide +kernel
theorem dX11_singer_106 : decode cX11_singer 106 = .ok (.getfield 10, 3) := by decide +kernel
theorem dX11_singer_109 : decode cX11_singer 109 = .ok (.getfield 129, 3) := by decide +kernel
theorem dX11_singer_112 : decode cX11_singer 112 = .ok (.aload_n 0, 1) := by decide +kernel
theorem dX11_singer_113 : decode cX11_singer 113 = .ok (.getfield 29, 3) := by decide +kernel
theorem dX11_singer_116 : decode cX11_singer 116 = .ok (.iload 4, 2) := by decide +kernel
theorem dX11_singer_118 : decode cX11_singer 118 = .ok (.iastore, 1) := by decide +kernel
theorem dX11_singer_119 : decode cX11_singer 119 = .ok (.aload_n 0, 1) := by decide +kernel
theorem dX11_singer_120 : decode cX11_singer 120 = .ok (.dup, 1) := by decide +kernel
theorem dX11_singer_121 : decode cX11_singer 121 = .ok (.getfield 29, 3) := by decide +kernel
theorem dX11_singer_124 : decode cX11_singer 124 = .ok (.iconst 1, 1) := by decide +kernel
theorem dX11_singer_125 : decode cX11_singer 125 = .ok (.iadd, 1) := by decide +kernel
theorem dX11_singer_126 : decode cX11_singer 126 = .ok (.putfield 29, 3) := by decide +kernel
theorem dX11_singer_129 : decode cX11_singer 129 = .ok (.aload_n 0, 1) := by decide +kernel
theorem dX11_singer_130 : decode cX11_singer 130 = .ok (.getfield 29, 3) := by decide +kernel
theorem dX11_singer_133 : decode cX11_singer 133 = .ok (.iconst 1, 1) := by decide +kernel
theorem dX11_singer_134 : decode cX11_singer 134 = .ok (.isub, 1) := by decide +kernel
theorem dX11_singer_135 : decode cX11_singer 135 = .ok (.ireturn, 1) := by decide +kernel
theorem dX11_voice_0 : decode cX11_voice 0 = .ok (.iload_n 1, 1) := by decide +kernel
theorem dX11_voice_1 : decode cX11_voice 1 = .ok (.aload_n 0, 1) := by decide +kernel
theorem dX11_voice_2 : decode cX11_voice 2 = .ok (.getfield 29, 3) := by decide +kernel
theorem dX11_voice_5 : decode cX11_voice 5 = .ok (.invokestatic 118, 3) := by decide +kernel
theorem dX11_voice_8 : decode cX11_voice 8 = .ok (.ifCond .eq 6, 3) := by decide +kernel
theorem dX11_voice_11 : decode cX11_voice 11 = .ok (.bipush (-2), 2) := by decide +kernel
theorem dX11_voice_13 : decode cX11_voice 13 = .ok (.ireturn, 1) := by decide +kernel
theorem dX11_voice_14 : decode cX11_voice 14 = .ok (.aload_n 0, 1) := by decide +kernel
theorem dX11_voice_15 : decode cX11_voice 15 = .ok (.getfield 10, 3) := by decide +kernel
theorem dX11_voice_18 : decode cX11_voice 18 = .ok (.getfield 129, 3) := by decide +kernel
theorem dX11_voice_21 : decode cX11_voice 21 = .ok (.iload_n 1, 1) := by decide +kernel
theorem dX11_voice_22 : decode cX11_voice 22 = .ok (.iload_n 2, 1) := by decide +kernel
theorem dX11_voice_23 : decode cX11_voice 23 = .ok (.iconst 4, 1) := by decide +kernel
theorem dX11_voice_24 : decode cX11_voice 24 = .ok (.invokestatic 102, 3) := by decide +kernel
theorem dX11_voice_27 : decode cX11_voice 27 = .ok (.ireturn, 1) := by decide +kernel
theorem dX11_told_0 : decode cX11_told 0 = .ok (.iload_n 1, 1) := by decide +kernel
theorem dX11_told_1 : decode cX11_told 1 = .ok (.aload_n 0, 1) := by decide +kernel
theorem dX11_told_2 : decode cX11_told 2 = .ok (.getfield 29, 3) := by decide +kernel
theorem dX11_told_5 : decode cX11_told 5 = .ok (.invokestatic 118, 3) := by decide +kernel
theorem dX11_told_8 : decode cX11_told 8 = .ok (.ifCond .ne 21, 3) := by decide +kernel
theorem dX11_told_11 : decode cX11_told 11 = .ok (.iload_n 2, 1) := by decide +kernel
theorem dX11_told_12 : decode cX11_told 12 = .ok (.bipush 49, 2) := by decide +kernel
theorem dX11_told_14 : decode cX11_told 14 = .ok (.invokestatic 118, 3) := by decide +kernel
theorem dX11_told_17 : decode cX11_told 17 = .ok (.ifCond .ne 12, 3) := by decide +kernel
theorem dX11_told_20 : decode cX11_told 20 = .ok (.iload_n 3, 1) := by decide +kernel
theorem dX11_told_21 : decode cX11_told 21 = .ok (.bipush 48, 2) := by decide +kernel
theorem dX11_told_23 : decode cX11_told 23 = .ok (.invokestatic 118, 3) := by decide +kernel
theorem dX11_told_26 : decode cX11_told 26 = .ok (.ifCond .eq 6, 3) := by decide +kernel
theorem dX11_told_29 : decode cX11_told 29 = .ok (.bipush (-2), 2) := by decide +kernel
theorem dX11_told_31 : decode cX11_told 31 = .ok (.ireturn, 1) := by decide +kernel
theorem dX11_told_32 : decode cX11_told 32 = .ok (.aload_n 0, 1) := by decide +kernel
theorem dX11_told_33 : decode cX11_told 33 = .ok (.getfield 25, 3) := by decide +kernel
theorem dX11_told_36 : decode cX11_told 36 = .ok (.iload_n 1, 1) := by decide +kernel
theorem dX11_told_37 : decode cX11_told 37 = .ok (.aaload, 1) := by decide +kernel
theorem dX11_told_38 : decode cX11_told 38 = .ok (.astore 5, 2) := by decide +kernel
theorem dX11_told_40 : decode cX11_told 40 = .ok (.aload_n 0, 1) := by decide +kernel
theorem dX11_told_41 : decode cX11_told 41 = .ok (.getfield 10, 3) := by decide +kernel
theorem dX11_told_44 : decode cX11_told 44 = .ok (.getfield 98, 3) := by decide +kernel
theorem dX11_told_47 : decode cX11_told 47 = .ok (.iload_n 3, 1) := by decide +kernel
theorem dX11_told_48 : decode cX11_told 48 = .ok (.iaload, 1) := by decide +kernel
theorem dX11_told_49 : decode cX11_told 49 = .ok (.istore 6, 2) := by decide +kernel
theorem dX11_told_51 : decode cX11_told 51 = .ok (.iload 4, 2) := by decide +kernel
theorem dX11_told_53 : decode cX11_told 53 = .ok (.tableswitch 88 0 5 #[39, 45, 55, 64, 71, 82], 39) := by decide +kernel
theorem dX11_told_92 : decode cX11_told 92 = .ok (.aload 5, 2) := by decide +kernel
theorem dX11_told_94 : decode cX11_told 94 = .ok (.invokevirtual 132, 3) := by decide +kernel
theorem dX11_told_97 : decode cX11_told 97 = .ok (.ireturn, 1) := by decide +kernel
theorem dX11_told_98 : decode cX11_told 98 = .ok (.aload_n 0, 1) := by decide +kernel
theorem dX11_told_99 : decode cX11_told 99 = .ok (.getfield 10, 3) := by decide +kernel
theorem dX11_told_102 : decode cX11_told 102 = .ok (.getfield 129, 3) := by decide +kernel
theorem dX11_told_105 : decode cX11_told 105 = .ok (.iload_n 1, 1) := by decide +kernel
theorem dX11_told_106 : decode cX11_told 106 = .ok (.iaload, 1) := by decide +kernel
theorem dX11_told_107 : decode cX11_told 107 = .ok (.ireturn, 1) := by decide +kernel
theorem dX11_told_108 : decode cX11_told 108 = .ok (.aload 5, 2) := by decide +kernel
theorem dX11_told_110 : decode cX11_told 110 = .ok (.iload 6, 2) := by decide +kernel
theorem dX11_told_112 : decode cX11_told 112 = .ok (.iload_n 2, 1) := by decide +kernel
theorem dX11_told_113 : decode cX11_told 113 = .ok (.invokevirtual 135, 3) := by decide +kernel
theorem dX11_told_116 : decode cX11_told 116 = .ok (.ireturn, 1) := by decide +kernel
theorem dX11_told_117 : decode cX11_told 117 = .ok (.aload 5, 2) := by decide +kernel
theorem dX11_told_119 : decode cX11_told 119 = .ok (.iload_n 2, 1) := by decide +kernel
theorem dX11_told_120 : decode cX11_told 120 = .ok (.invokevirtual 139, 3) := by decide +kernel
theorem dX11_told_123 : decode cX11_told 123 = .ok (.ireturn, 1) := by decide +kernel
theorem dX11_told_124 : decode cX11_told 124 = .ok (.aload 5, 2) := by decide +kernel
theorem dX11_told_126 : decode cX11_told 126 = .ok (.iload 6, 2) := by decide +kernel
theorem dX11_told_128 : decode cX11_told 128 = .ok (.invokevirtual 143, 3) := by decide +kernel
theorem dX11_told_131 : decode cX11_told 131 = .ok (.invokestatic 147, 3) := by decide +kernel
theorem dX11_told_134 : decode cX11_told 134 = .ok (.ireturn, 1) := by decide +kernel
theorem dX11_told_135 : decode cX11_told 135 = .ok (.aload 5, 2) := by decide +kernel
theorem dX11_told_137 : decode cX11_told 137 = .ok (.getfield 151, 3) := by decide +kernel
theorem dX11_told_140 : decode cX11_told 140 = .ok (.ireturn, 1) := by decide +kernel
theorem dX11_told_141 : decode cX11_told 141 = .ok (.bipush (-2), 2) := by decide +kernel
theorem dX11_told_143 : decode cX11_told 143 = .ok (.ireturn, 1) := by decide +kernel
theorem dX11_feed_0 : decode cX11_feed 0 = .ok (.iload_n 1, 1) := by decide +kernel
theorem dX11_feed_1 : decode cX11_feed 1 = .ok (.iconst 1, 1) := by decide +kernel
theorem dX11_feed_2 : decode cX11_feed 2 = .ok (.if_icmp .lt 9, 3) := by decide +kernel
theorem dX11_feed_5 : decode cX11_feed 5 = .ok (.iload_n 1, 1) := by decide +kernel
theorem dX11_feed_6 : decode cX11_feed 6 = .ok (.bipush 8, 2) := by decide +kernel
theorem dX11_feed_8 : decode cX11_feed 8 = .ok (.if_icmp .le 6, 3) := by decide +kernel
theorem dX11_feed_11 : decode cX11_feed 11 = .ok (.bipush (-2), 2) := by decide +kernel
theorem dX11_feed_13 : decode cX11_feed 13 = .ok (.ireturn, 1) := by decide +kernel
theorem dX11_feed_14 : decode cX11_feed 14 = .ok (.aload_n 0, 1) := by decide +kernel
theorem dX11_feed_15 : decode cX11_feed 15 = .ok (.getfield 35, 3) := by decide +kernel
theorem dX11_feed_18 : decode cX11_feed 18 = .ok (.getfield 154, 3) := by decide +kernel
theorem dX11_feed_21 : decode cX11_feed 21 = .ok (.iload_n 1, 1) := by decide +kernel
theorem dX11_feed_22 : decode cX11_feed 22 = .ok (.iadd, 1) := by decide +kernel
theorem dX11_feed_23 : decode cX11_feed 23 = .ok (.sipush 160, 3) := by decide +kernel
theorem dX11_feed_26 : decode cX11_feed 26 = .ok (.if_icmp .le 6, 3) := by decide +kernel
theorem dX11_feed_29 : decode cX11_feed 29 = .ok (.bipush (-4), 2) := by decide +kernel
theorem dX11_feed_31 : decode cX11_feed 31 = .ok (.ireturn, 1) := by decide +kernel
theorem dX11_feed_32 : decode cX11_feed 32 = .ok (.iconst 0, 1) := by decide +kernel
theorem dX11_feed_33 : decode cX11_feed 33 = .ok (.istore 4, 2) := by decide +kernel
theorem dX11_feed_35 : decode cX11_feed 35 = .ok (.iload 4, 2) := by decide +kernel
theorem dX11_feed_37 : decode cX11_feed 37 = .ok (.iload_n 1, 1) := by decide +kernel
theorem dX11_feed_38 : decode cX11_feed 38 = .ok (.if_icmp .ge 28, 3) := by decide +kernel
theorem dX11_feed_41 : decode cX11_feed 41 = .ok (.aload_n 0, 1) := by decide +kernel
theorem dX11_feed_42 : decode cX11_feed 42 = .ok (.getfield 35, 3) := by decide +kernel
theorem dX11_feed_45 : decode cX11_feed 45 = .ok (.lload_n 2, 1) := by decide +kernel
theorem dX11_feed_46 : decode cX11_feed 46 = .ok (.bipush 8, 2) := by decide +kernel
theorem dX11_feed_48 : decode cX11_feed 48 = .ok (.iload 4, 2) := by decide +kernel
theorem dX11_feed_50 : decode cX11_feed 50 = .ok (.imul, 1) := by decide +kernel
theorem dX11_feed_51 : decode cX11_feed 51 = .ok (.lshr, 1) := by decide +kernel
theorem dX11_feed_52 : decode cX11_feed 52 = .ok (.l2i, 1) := by decide +kernel
theorem dX11_feed_53 : decode cX11_feed 53 = .ok (.sipush 255, 3) := by decide +kernel
theorem dX11_feed_56 : decode cX11_feed 56 = .ok (.iand, 1) := by decide +kernel
theorem dX11_feed_57 : decode cX11_feed 57 = .ok (.invokevirtual 83, 3) := by decide +kernel
theorem dX11_feed_60 : decode cX11_feed 60 = .ok (.iinc 4 1, 3) := by decide +kernel
theorem dX11_feed_63 : decode cX11_feed 63 = .ok (.goto (-28), 3) := by decide +kernel
theorem dX11_feed_66 : decode cX11_feed 66 = .ok (.aload_n 0, 1) := by decide +kernel
theorem dX11_feed_67 : decode cX11_feed 67 = .ok (.getfield 35, 3) := by decide +kernel
theorem dX11_feed_70 : decode cX11_feed 70 = .ok (.getfield 154, 3) := by decide +kernel
theorem dX11_feed_73 : decode cX11_feed 73 = .ok (.ireturn, 1) := by decide +kernel
theorem dX11_text_0 : decode cX11_text 0 = .ok (.aload_n 0, 1) := by decide +kernel
theorem dX11_text_1 : decode cX11_text 1 = .ok (.getfield 45, 3) := by decide +kernel
theorem dX11_text_4 : decode cX11_text 4 = .ok (.bipush 6, 2) := by decide +kernel
theorem dX11_text_6 : decode cX11_text 6 = .ok (.if_icmp .lt 6, 3) := by decide +kernel
theorem dX11_text_9 : decode cX11_text 9 = .ok (.bipush (-4), 2) := by decide +kernel
theorem dX11_text_11 : decode cX11_text 11 = .ok (.ireturn, 1) := by decide +kernel
theorem dX11_text_12 : decode cX11_text 12 = .ok (.aload_n 0, 1) := by decide +kernel
theorem dX11_text_13 : decode cX11_text 13 = .ok (.getfield 35, 3) := by decide +kernel
theorem dX11_text_16 : decode cX11_text 16 = .ok (.invokevirtual 87, 3) := by decide +kernel
theorem dX11_text_19 : decode cX11_text 19 = .ok (.astore_n 1, 1) := by decide +kernel
theorem dX11_text_20 : decode cX11_text 20 = .ok (.aload_n 1, 1) := by decide +kernel
theorem dX11_text_21 : decode cX11_text 21 = .ok (.ifnonnull 16, 3) := by decide +kernel
theorem dX11_text_24 : decode cX11_text 24 = .ok (.bipush (-100), 2) := by decide +kernel
theorem dX11_text_26 : decode cX11_text 26 = .ok (.aload_n 0, 1) := by decide +kernel
theorem dX11_text_27 : decode cX11_text 27 = .ok (.getfield 35, 3) := by decide +kernel
theorem dX11_text_30 : decode cX11_text 30 = .ok (.getfield 155, 3) := by decide +kernel
theorem dX11_text_33 : decode cX11_text 33 = .ok (.isub, 1) := by decide +kernel
theorem dX11_text_34 : decode cX11_text 34 = .ok (.goto 7, 3) := by decide +kernel
theorem dX11_text_37 : decode cX11_text 37 = .ok (.aload_n 0, 1) := by decide +kernel
theorem dX11_text_38 : decode cX11_text 38 = .ok (.getfield 45, 3) := by decide +kernel
theorem dX11_text_41 : decode cX11_text 41 = .ok (.istore_n 2, 1) := by decide +kernel
theorem dX11_text_42 : decode cX11_text 42 = .ok (.aload_n 0, 1) := by decide +kernel
theorem dX11_text_43 : decode cX11_text 43 = .ok (.aload_n 1, 1) := by decide +kernel
theorem dX11_text_44 : decode cX11_text 44 = .ok (.invokevirtual 91, 3) := by decide +kernel
theorem dX11_text_47 : decode cX11_text 47 = .ok (.aload_n 0, 1) := by decide +kernel
theorem dX11_text_48 : decode cX11_text 48 = .ok (.getfield 35, 3) := by decide +kernel
theorem dX11_text_51 : decode cX11_text 51 = .ok (.invokevirtual 95, 3) := by decide +kernel
theorem dX11_text_54 : decode cX11_text 54 = .ok (.iload_n 2, 1) := by decide +kernel
theorem dX11_text_55 : decode cX11_text 55 = .ok (.ireturn, 1) := by decide +kernel
theorem dX11_force_0 : decode cX11_force 0 = .ok (.iload_n 1, 1) := by decide +kernel
theorem dX11_force_1 : decode cX11_force 1 = .ok (.aload_n 0, 1) := by decide +kernel
theorem dX11_force_2 : decode cX11_force 2 = .ok (.getfield 45, 3) := by decide +kernel
theorem dX11_force_5 : decode cX11_force 5 = .ok (.invokestatic 118, 3) := by decide +kernel
theorem dX11_force_8 : decode cX11_force 8 = .ok (.ifCond .eq 6, 3) := by decide +kernel
theorem dX11_force_11 : decode cX11_force 11 = .ok (.bipush (-2), 2) := by decide +kernel
theorem dX11_force_13 : decode cX11_force 13 = .ok (.ireturn, 1) := by decide +kernel
theorem dX11_force_14 : decode cX11_force 14 = .ok (.aload_n 0, 1) := by decide +kernel
theorem dX11_force_15 : decode cX11_force 15 = .ok (.getfield 10, 3) := by decide +kernel
theorem dX11_force_18 : decode cX11_force 18 = .ok (.getfield 158, 3) := by decide +kernel
theorem dX11_force_21 : decode cX11_force 21 = .ok (.istore_n 2, 1) := by decide +kernel
theorem dX11_force_22 : decode cX11_force 22 = .ok (.aload_n 0, 1) := by decide +kernel
theorem dX11_force_23 : decode cX11_force 23 = .ok (.getfield 10, 3) := by decide +kernel
theorem dX11_force_26 : decode cX11_force 26 = .ok (.iload_n 1, 1) := by decide +kernel
theorem dX11_force_27 : decode cX11_force 27 = .ok (.putfield 158, 3) := by decide +kernel
theorem dX11_force_30 : decode cX11_force 30 = .ok (.iload_n 2, 1) := by decide +kernel
theorem dX11_force_31 : decode cX11_force 31 = .ok (.ireturn, 1) := by decide +kernel
theorem dX11_sing_0 : decode cX11_sing 0 = .ok (.iload_n 1, 1) := by decide +kernel
theorem dX11_sing_1 : decode cX11_sing 1 = .ok (.bipush 7, 2) := by decide +kernel
theorem dX11_sing_3 : decode cX11_sing 3 = .ok (.invokestatic 118, 3) := by decide +kernel
theorem dX11_sing_6 : decode cX11_sing 6 = .ok (.ifCond .ne 17, 3) := by decide +kernel
theorem dX11_sing_9 : decode cX11_sing 9 = .ok (.iload_n 2, 1) := by decide +kernel
theorem dX11_sing_10 : decode cX11_sing 10 = .ok (.aload_n 0, 1) := by decide +kernel
theorem dX11_sing_11 : decode cX11_sing 11 = .ok (.getfield 10, 3) := by decide +kernel
theorem dX11_sing_14 : decode cX11_sing 14 = .ok (.getfield 115, 3) := by decide +kernel
theorem dX11_sing_17 : decode cX11_sing 17 = .ok (.invokestatic 118, 3) := by decide +kernel
theorem dX11_sing_20 : decode cX11_sing 20 = .ok (.ifCond .eq 6, 3) := by decide +kernel
theorem dX11_sing_23 : decode cX11_sing 23 = .ok (.bipush (-2), 2) := by decide +kernel
theorem dX11_sing_25 : decode cX11_sing 25 = .ok (.ireturn, 1) := by decide +kernel
theorem dX11_sing_26 : decode cX11_sing 26 = .ok (.aload_n 0, 1) := by decide +kernel
theorem dX11_sing_27 : decode cX11_sing 27 = .ok (.iload_n 1, 1) := by decide +kernel
theorem dX11_sing_28 : decode cX11_sing 28 = .ok (.invokevirtual 161, 3) := by decide +kernel
theorem dX11_sing_31 : decode cX11_sing 31 = .ok (.ifCond .eq 6, 3) := by decide +kernel
theorem dX11_sing_34 : decode cX11_sing 34 = .ok (.bipush (-11), 2) := by decide +kernel
theorem dX11_sing_36 : decode cX11_sing 36 = .ok (.ireturn, 1) := by decide +kernel
theorem dX11_sing_37 : decode cX11_sing 37 = .ok (.aload_n 0, 1) := by decide +kernel
theorem dX11_sing_38 : decode cX11_sing 38 = .ok (.iload_n 1, 1) := by decide +kernel
theorem dX11_sing_39 : decode cX11_sing 39 = .ok (.iload_n 2, 1) := by decide +kernel
theorem dX11_sing_40 : decode cX11_sing 40 = .ok (.invokevirtual 164, 3) := by decide +kernel
theorem dX11_sing_43 : decode cX11_sing 43 = .ok (.aload_n 0, 1) := by decide +kernel
theorem dX11_sing_44 : decode cX11_sing 44 = .ok (.getfield 59, 3) := by decide +kernel
theorem dX11_sing_47 : decode cX11_sing 47 = .ok (.getfield 168, 3) := by decide +kernel
theorem dX11_sing_50 : decode cX11_sing 50 = .ok (.ireturn, 1) := by decide +kernel
theorem dX11_of_0 : decode cX11_of 0 = .ok (.iload_n 1, 1) := by decide +kernel
theorem dX11_of_1 : decode cX11_of 1 = .ok (.bipush 7, 2) := by decide +kernel
theorem dX11_of_3 : decode cX11_of 3 = .ok (.invokestatic 118, 3) := by decide +kernel
theorem dX11_of_6 : decode cX11_of 6 = .ok (.ifCond .ne 25, 3) := by decide +kernel
theorem dX11_of_9 : decode cX11_of 9 = .ok (.iload_n 2, 1) := by decide +kernel
theorem dX11_of_10 : decode cX11_of 10 = .ok (.aload_n 0, 1) := by decide +kernel
theorem dX11_of_11 : decode cX11_of 11 = .ok (.getfield 10, 3) := by decide +kernel
theorem dX11_of_14 : decode cX11_of 14 = .ok (.getfield 115, 3) := by decide +kernel
theorem dX11_of_17 : decode cX11_of 17 = .ok (.invokestatic 118, 3) := by decide +kernel
theorem dX11_of_20 : decode cX11_of 20 = .ok (.ifCond .ne 11, 3) := by decide +kernel
theorem dX11_of_23 : decode cX11_of 23 = .ok (.iload_n 3, 1) := by decide +kernel
theorem dX11_of_24 : decode cX11_of 24 = .ok (.iconst 4, 1) := by decide +kernel
theorem dX11_of_25 : decode cX11_of 25 = .ok (.invokestatic 118, 3) := by decide +kernel
theorem dX11_of_28 : decode cX11_of 28 = .ok (.ifCond .eq 6, 3) := by decide +kernel
theorem dX11_of_31 : decode cX11_of 31 = .ok (.bipush (-2), 2) := by decide +kernel
theorem dX11_of_33 : decode cX11_of 33 = .ok (.ireturn, 1) := by decide +kernel
theorem dX11_of_34 : decode cX11_of 34 = .ok (.aload_n 0, 1) := by decide +kernel
theorem dX11_of_35 : decode cX11_of 35 = .ok (.iload_n 1, 1) := by decide +kernel
theorem dX11_of_36 : decode cX11_of 36 = .ok (.invokevirtual 161, 3) := by decide +kernel
theorem dX11_of_39 : decode cX11_of 39 = .ok (.ifCond .eq 6, 3) := by decide +kernel
theorem dX11_of_42 : decode cX11_of 42 = .ok (.bipush (-11), 2) := by decide +kernel
theorem dX11_of_44 : decode cX11_of 44 = .ok (.ireturn, 1) := by decide +kernel
theorem dX11_of_45 : decode cX11_of 45 = .ok (.aload_n 0, 1) := by decide +kernel
theorem dX11_of_46 : decode cX11_of 46 = .ok (.iload_n 1, 1) := by decide +kernel
theorem dX11_of_47 : decode cX11_of 47 = .ok (.iload_n 2, 1) := by decide +kernel
theorem dX11_of_48 : decode cX11_of 48 = .ok (.invokevirtual 164, 3) := by decide +kernel
theorem dX11_of_51 : decode cX11_of 51 = .ok (.aload_n 0, 1) := by decide +kernel
theorem dX11_of_52 : decode cX11_of 52 = .ok (.getfield 59, 3) := by decide +kernel
theorem dX11_of_55 : decode cX11_of 55 = .ok (.iload_n 3, 1) := by decide +kernel
theorem dX11_of_56 : decode cX11_of 56 = .ok (.invokevirtual 171, 3) := by decide +kernel
theorem dX11_of_59 : decode cX11_of 59 = .ok (.ireturn, 1) := by decide +kernel
theorem dX11_wrong_0 : decode cX11_wrong 0 = .ok (.iload_n 1, 1) := by decide +kernel
theorem dX11_wrong_1 : decode cX11_wrong 1 = .ok (.bipush 7, 2) := by decide +kernel
theorem dX11_wrong_3 : decode cX11_wrong 3 = .ok (.invokestatic 118, 3) := by decide +kernel
theorem dX11_wrong_6 : decode cX11_wrong 6 = .ok (.ifCond .eq 6, 3) := by decide +kernel
theorem dX11_wrong_9 : decode cX11_wrong 9 = .ok (.bipush (-2), 2) := by decide +kernel
theorem dX11_wrong_11 : decode cX11_wrong 11 = .ok (.ireturn, 1) := by decide +kernel
theorem dX11_wrong_12 : decode cX11_wrong 12 = .ok (.aload_n 0, 1) := by decide +kernel
theorem dX11_wrong_13 : decode cX11_wrong 13 = .ok (.iload_n 1, 1) := by decide +kernel
theorem dX11_wrong_14 : decode cX11_wrong 14 = .ok (.invokevirtual 161, 3) := by decide +kernel
theorem dX11_wrong_17 : decode cX11_wrong 17 = .ok (.ifCond .eq 6, 3) := by decide +kernel
theorem dX11_wrong_20 : decode cX11_wrong 20 = .ok (.bipush (-11), 2) := by decide +kernel
theorem dX11_wrong_22 : decode cX11_wrong 22 = .ok (.ireturn, 1) := by decide +kernel
theorem dX11_wrong_23 : decode cX11_wrong 23 = .ok (.aload_n 0, 1) := by decide +kernel
theorem dX11_wrong_24 : decode cX11_wrong 24 = .ok (.iload_n 1, 1) := by decide +kernel
theorem dX11_wrong_25 : decode cX11_wrong 25 = .ok (.invokevirtual 174, 3) := by decide +kernel
theorem dX11_wrong_28 : decode cX11_wrong 28 = .ok (.iconst 0, 1) := by decide +kernel
theorem dX11_wrong_29 : decode cX11_wrong 29 = .ok (.istore_n 2, 1) := by decide +kernel
theorem dX11_wrong_30 : decode cX11_wrong 30 = .ok (.iload_n 2, 1) := by decide +kernel
theorem dX11_wrong_31 : decode cX11_wrong 31 = .ok (.aload_n 0, 1) := by decide +kernel
theorem dX11_wrong_32 : decode cX11_wrong 32 = .ok (.getfield 10, 3) := by decide +kernel
theorem dX11_wrong_35 : decode cX11_wrong 35 = .ok (.getfield 115, 3) := by decide +kernel
theorem dX11_wrong_38 : decode cX11_wrong 38 = .ok (.if_icmp .ge 48, 3) := by decide +kernel
theorem dX11_wrong_41 : decode cX11_wrong 41 = .ok (.aload_n 0, 1) := by decide +kernel
theorem dX11_wrong_42 : decode cX11_wrong 42 = .ok (.getfield 59, 3) := by decide +kernel
theorem dX11_wrong_45 : decode cX11_wrong 45 = .ok (.iload_n 2, 1) := by decide +kernel
theorem dX11_wrong_46 : decode cX11_wrong 46 = .ok (.aload_n 0, 1) := by decide +kernel
theorem dX11_wrong_47 : decode cX11_wrong 47 = .ok (.getfield 10, 3) := by decide +kernel
theorem dX11_wrong_50 : decode cX11_wrong 50 = .ok (.getfield 98, 3) := by decide +kernel
theorem dX11_wrong_53 : decode cX11_wrong 53 = .ok (.iload_n 2, 1) := by decide +kernel
theorem dX11_wrong_54 : decode cX11_wrong 54 = .ok (.iaload, 1) := by decide +kernel
theorem dX11_wrong_55 : decode cX11_wrong 55 = .ok (.invokevirtual 177, 3) := by decide +kernel
theorem dX11_wrong_58 : decode cX11_wrong 58 = .ok (.aload_n 0, 1) := by decide +kernel
theorem dX11_wrong_59 : decode cX11_wrong 59 = .ok (.getfield 59, 3) := by decide +kernel
theorem dX11_wrong_62 : decode cX11_wrong 62 = .ok (.iload_n 2, 1) := by decide +kernel
theorem dX11_wrong_63 : decode cX11_wrong 63 = .ok (.invokevirtual 180, 3) := by decide +kernel
theorem dX11_wrong_66 : decode cX11_wrong 66 = .ok (.istore_n 3, 1) := by decide +kernel
theorem dX11_wrong_67 : decode cX11_wrong 67 = .ok (.iload_n 3, 1) := by decide +kernel
theorem dX11_wrong_68 : decode cX11_wrong 68 = .ok (.iconst (-1), 1) := by decide +kernel
theorem dX11_wrong_69 : decode cX11_wrong 69 = .ok (.if_icmp .eq 11, 3) := by decide +kernel
theorem dX11_wrong_72 : decode cX11_wrong 72 = .ok (.sipush 1000, 3) := by decide +kernel
theorem dX11_wrong_75 : decode cX11_wrong 75 = .ok (.iload_n 2, 1) := by decide +kernel
theorem dX11_wrong_76 : decode cX11_wrong 76 = .ok (.imul, 1) := by decide +kernel
theorem dX11_wrong_77 : decode cX11_wrong 77 = .ok (.iload_n 3, 1) := by decide +kernel
theorem dX11_wrong_78 : decode cX11_wrong 78 = .ok (.iadd, 1) := by decide +kernel
theorem dX11_wrong_79 : decode cX11_wrong 79 = .ok (.ireturn, 1) := by decide +kernel
theorem dX11_wrong_80 : decode cX11_wrong 80 = .ok (.iinc 2 1, 3) := by decide +kernel
theorem dX11_wrong_83 : decode cX11_wrong 83 = .ok (.goto (-53), 3) := by decide +kernel
theorem dX11_wrong_86 : decode cX11_wrong 86 = .ok (.iconst (-1), 1) := by decide +kernel
theorem dX11_wrong_87 : decode cX11_wrong 87 = .ok (.ireturn, 1) := by decide +kernel
theorem dX11_bad_0 : decode cX11_bad 0 = .ok (.iload_n 1, 1) := by decide +kernel
theorem dX11_bad_1 : decode cX11_bad 1 = .ok (.bipush 7, 2) := by decide +kernel
theorem dX11_bad_3 : decode cX11_bad 3 = .ok (.invokestatic 118, 3) := by decide +kernel
theorem dX11_bad_6 : decode cX11_bad 6 = .ok (.ifCond .ne 11, 3) := by decide +kernel
theorem dX11_bad_9 : decode cX11_bad 9 = .ok (.aload_n 0, 1) := by decide +kernel
theorem dX11_bad_10 : decode cX11_bad 10 = .ok (.iload_n 1, 1) := by decide +kernel
theorem dX11_bad_11 : decode cX11_bad 11 = .ok (.invokevirtual 161, 3) := by decide +kernel
theorem dX11_bad_14 : decode cX11_bad 14 = .ok (.ifCond .eq 7, 3) := by decide +kernel
theorem dX11_bad_17 : decode cX11_bad 17 = .ok (.ldc2_w 183, 3) := by decide +kernel
theorem dX11_bad_20 : decode cX11_bad 20 = .ok (.lreturn, 1) := by decide +kernel
theorem dX11_bad_21 : decode cX11_bad 21 = .ok (.aload_n 0, 1) := by decide +kernel
theorem dX11_bad_22 : decode cX11_bad 22 = .ok (.iload_n 1, 1) := by decide +kernel
theorem dX11_bad_23 : decode cX11_bad 23 = .ok (.invokevirtual 174, 3) := by decide +kernel
theorem dX11_bad_26 : decode cX11_bad 26 = .ok (.aload_n 0, 1) := by decide +kernel
theorem dX11_bad_27 : decode cX11_bad 27 = .ok (.getfield 59, 3) := by decide +kernel
theorem dX11_bad_30 : decode cX11_bad 30 = .ok (.invokevirtual 185, 3) := by decide +kernel
theorem dX11_bad_33 : decode cX11_bad 33 = .ok (.aload_n 0, 1) := by decide +kernel
theorem dX11_bad_34 : decode cX11_bad 34 = .ok (.getfield 59, 3) := by decide +kernel
theorem dX11_bad_37 : decode cX11_bad 37 = .ok (.invokevirtual 188, 3) := by decide +kernel
theorem dX11_bad_40 : decode cX11_bad 40 = .ok (.lreturn, 1) := by decide +kernel
theorem dX11_breaths_0 : decode cX11_breaths 0 = .ok (.iload_n 1, 1) := by decide +kernel
theorem dX11_breaths_1 : decode cX11_breaths 1 = .ok (.bipush 7, 2) := by decide +kernel
theorem dX11_breaths_3 : decode cX11_breaths 3 = .ok (.invokestatic 118, 3) := by decide +kernel
theorem dX11_breaths_6 : decode cX11_breaths 6 = .ok (.ifCond .ne 19, 3) := by decide +kernel
theorem dX11_breaths_9 : decode cX11_breaths 9 = .ok (.iload_n 2, 1) := by decide +kernel
theorem dX11_breaths_10 : decode cX11_breaths 10 = .ok (.iconst (-1), 1) := by decide +kernel
theorem dX11_breaths_11 : decode cX11_breaths 11 = .ok (.if_icmp .eq 17, 3) := by decide +kernel
theorem dX11_breaths_14 : decode cX11_breaths 14 = .ok (.iload_n 2, 1) := by decide +kernel
theorem dX11_breaths_15 : decode cX11_breaths 15 = .ok (.aload_n 0, 1) := by decide +kernel
theorem dX11_breaths_16 : decode cX11_breaths 16 = .ok (.getfield 29, 3) := by decide +kernel
theorem dX11_breaths_19 : decode cX11_breaths 19 = .ok (.invokestatic 118, 3) := by decide +kernel
theorem dX11_breaths_22 : decode cX11_breaths 22 = .ok (.ifCond .eq 6, 3) := by decide +kernel
theorem dX11_breaths_25 : decode cX11_breaths 25 = .ok (.bipush (-2), 2) := by decide +kernel
theorem dX11_breaths_27 : decode cX11_breaths 27 = .ok (.ireturn, 1) := by decide +kernel
theorem dX11_breaths_28 : decode cX11_breaths 28 = .ok (.aload_n 0, 1) := by decide +kernel
theorem dX11_breaths_29 : decode cX11_breaths 29 = .ok (.iload_n 1, 1) := by decide +kernel
theorem dX11_breaths_30 : decode cX11_breaths 30 = .ok (.invokevirtual 161, 3) := by decide +kernel
theorem dX11_breaths_33 : decode cX11_breaths 33 = .ok (.ifCond .eq 6, 3) := by decide +kernel
theorem dX11_breaths_36 : decode cX11_breaths 36 = .ok (.bipush (-11), 2) := by decide +kernel
theorem dX11_breaths_38 : decode cX11_breaths 38 = .ok (.ireturn, 1) := by decide +kernel
theorem dX11_breaths_39 : decode cX11_breaths 39 = .ok (.aload_n 0, 1) := by decide +kernel
theorem dX11_breaths_40 : decode cX11_breaths 40 = .ok (.iload_n 1, 1) := by decide +kernel
theorem dX11_breaths_41 : decode cX11_breaths 41 = .ok (.aload_n 0, 1) := by decide +kernel
theorem dX11_breaths_42 : decode cX11_breaths 42 = .ok (.getfield 10, 3) := by decide +kernel
theorem dX11_breaths_45 : decode cX11_breaths 45 = .ok (.getfield 115, 3) := by decide +kernel
theorem dX11_breaths_48 : decode cX11_breaths 48 = .ok (.iconst 1, 1) := by decide +kernel
theorem dX11_breaths_49 : decode cX11_breaths 49 = .ok (.isub, 1) := by decide +kernel
theorem dX11_breaths_50 : decode cX11_breaths 50 = .ok (.invokevirtual 164, 3) := by decide +kernel
theorem dX11_breaths_53 : decode cX11_breaths 53 = .ok (.iload_n 2, 1) := by decide +kernel
theorem dX11_breaths_54 : decode cX11_breaths 54 = .ok (.iconst (-1), 1) := by decide +kernel
theorem dX11_breaths_55 : decode cX11_breaths 55 = .ok (.if_icmp .ne 13, 3) := by decide +kernel
theorem dX11_breaths_58 : decode cX11_breaths 58 = .ok (.aload_n 0, 1) := by decide +kernel
theorem dX11_breaths_59 : decode cX11_breaths 59 = .ok (.getfield 59, 3) := by decide +kernel
theorem dX11_breaths_62 : decode cX11_breaths 62 = .ok (.invokevirtual 192, 3) := by decide +kernel
theorem dX11_breaths_65 : decode cX11_breaths 65 = .ok (.goto 12, 3) := by decide +kernel
theorem dX11_breaths_68 : decode cX11_breaths 68 = .ok (.aload_n 0, 1) := by decide +kernel
theorem dX11_breaths_69 : decode cX11_breaths 69 = .ok (.getfield 59, 3) := by decide +kernel
theorem dX11_breaths_72 : decode cX11_breaths 72 = .ok (.getfield 195, 3) := by decide +kernel
theorem dX11_breaths_75 : decode cX11_breaths 75 = .ok (.iload_n 2, 1) := by decide +kernel
theorem dX11_breaths_76 : decode cX11_breaths 76 = .ok (.iaload, 1) := by decide +kernel
theorem dX11_breaths_77 : decode cX11_breaths 77 = .ok (.ireturn, 1) := by decide +kernel
theorem dX11_fewest_0 : decode cX11_fewest 0 = .ok (.iload_n 1, 1) := by decide +kernel
theorem dX11_fewest_1 : decode cX11_fewest 1 = .ok (.iconst 1, 1) := by decide +kernel
theorem dX11_fewest_2 : decode cX11_fewest 2 = .ok (.if_icmp .lt 30, 3) := by decide +kernel
theorem dX11_fewest_5 : decode cX11_fewest 5 = .ok (.iload_n 1, 1) := by decide +kernel
theorem dX11_fewest_6 : decode cX11_fewest 6 = .ok (.bipush 40, 2) := by decide +kernel
theorem dX11_fewest_8 : decode cX11_fewest 8 = .ok (.if_icmp .gt 24, 3) := by decide +kernel
theorem dX11_fewest_11 : decode cX11_fewest 11 = .ok (.iload_n 2, 1) := by decide +kernel
theorem dX11_fewest_12 : decode cX11_fewest 12 = .ok (.iconst 1, 1) := by decide +kernel
theorem dX11_fewest_13 : decode cX11_fewest 13 = .ok (.if_icmp .lt 19, 3) := by decide +kernel
theorem dX11_fewest_16 : decode cX11_fewest 16 = .ok (.iload_n 2, 1) := by decide +kernel
theorem dX11_fewest_17 : decode cX11_fewest 17 = .ok (.bipush 18, 2) := by decide +kernel
theorem dX11_fewest_19 : decode cX11_fewest 19 = .ok (.if_icmp .gt 13, 3) := by decide +kernel
theorem dX11_fewest_22 : decode cX11_fewest 22 = .ok (.iload_n 3, 1) := by decide +kernel
theorem dX11_fewest_23 : decode cX11_fewest 23 = .ok (.ifCond .lt 9, 3) := by decide +kernel
theorem dX11_fewest_26 : decode cX11_fewest 26 = .ok (.iload_n 3, 1) := by decide +kernel
theorem dX11_fewest_27 : decode cX11_fewest 27 = .ok (.bipush 99, 2) := by decide +kernel
theorem dX11_fewest_29 : decode cX11_fewest 29 = .ok (.if_icmp .le 6, 3) := by decide +kernel
theorem dX11_fewest_32 : decode cX11_fewest 32 = .ok (.bipush (-2), 2) := by decide +kernel
theorem dX11_fewest_34 : decode cX11_fewest 34 = .ok (.ireturn, 1) := by decide +kernel
theorem dX11_fewest_35 : decode cX11_fewest 35 = .ok (.iload_n 3, 1) := by decide +kernel
theorem dX11_fewest_36 : decode cX11_fewest 36 = .ok (.iload_n 1, 1) := by decide +kernel
theorem dX11_fewest_37 : decode cX11_fewest 37 = .ok (.iload_n 2, 1) := by decide +kernel
theorem dX11_fewest_38 : decode cX11_fewest 38 = .ok (.iadd, 1) := by decide +kernel
theorem dX11_fewest_39 : decode cX11_fewest 39 = .ok (.imul, 1) := by decide +kernel
theorem dX11_fewest_40 : decode cX11_fewest 40 = .ok (.iload_n 1, 1) := by decide +kernel
theorem dX11_fewest_41 : decode cX11_fewest 41 = .ok (.iadd, 1) := by decide +kernel
theorem dX11_fewest_42 : decode cX11_fewest 42 = .ok (.iconst 1, 1) := by decide +kernel
theorem dX11_fewest_43 : decode cX11_fewest 43 = .ok (.isub, 1) := by decide +kernel
theorem dX11_fewest_44 : decode cX11_fewest 44 = .ok (.iload_n 1, 1) := by decide +kernel
theorem dX11_fewest_45 : decode cX11_fewest 45 = .ok (.idiv, 1) := by decide +kernel
theorem dX11_fewest_46 : decode cX11_fewest 46 = .ok (.ireturn, 1) := by decide +kernel
theorem dX11_round_0 : decode cX11_round 0 = .ok (.iload_n 1, 1) := by decide +kernel
theorem dX11_round_1 : decode cX11_round 1 = .ok (.ifCond .eq 9, 3) := by decide +kernel
theorem dX11_round_4 : decode cX11_round 4 = .ok (.iload_n 1, 1) := by decide +kernel
theorem dX11_round_5 : decode cX11_round 5 = .ok (.bipush 6, 2) := by decide +kernel
theorem dX11_round_7 : decode cX11_round 7 = .ok (.if_icmp .ne 20, 3) := by decide +kernel
theorem dX11_round_10 : decode cX11_round 10 = .ok (.iload_n 2, 1) := by decide +kernel
theorem dX11_round_11 : decode cX11_round 11 = .ok (.bipush 10, 2) := by decide +kernel
theorem dX11_round_13 : decode cX11_round 13 = .ok (.invokestatic 118, 3) := by decide +kernel
theorem dX11_round_16 : decode cX11_round 16 = .ok (.ifCond .ne 11, 3) := by decide +kernel
theorem dX11_round_19 : decode cX11_round 19 = .ok (.iload_n 3, 1) := by decide +kernel
theorem dX11_round_20 : decode cX11_round 20 = .ok (.iconst 2, 1) := by decide +kernel
theorem dX11_round_21 : decode cX11_round 21 = .ok (.invokestatic 118, 3) := by decide +kernel
theorem dX11_round_24 : decode cX11_round 24 = .ok (.ifCond .eq 6, 3) := by decide +kernel
theorem dX11_round_27 : decode cX11_round 27 = .ok (.bipush (-2), 2) := by decide +kernel
theorem dX11_round_29 : decode cX11_round 29 = .ok (.ireturn, 1) := by decide +kernel
theorem dX11_round_30 : decode cX11_round 30 = .ok (.aload_n 0, 1) := by decide +kernel
theorem dX11_round_31 : decode cX11_round 31 = .ok (.iload_n 1, 1) := by decide +kernel
theorem dX11_round_32 : decode cX11_round 32 = .ok (.invokevirtual 174, 3) := by decide +kernel
theorem dX11_round_35 : decode cX11_round 35 = .ok (.iconst 0, 1) := by decide +kernel
theorem dX11_round_36 : decode cX11_round 36 = .ok (.istore 4, 2) := by decide +kernel
theorem dX11_round_38 : decode cX11_round 38 = .ok (.iload 4, 2) := by decide +kernel
theorem dX11_round_40 : decode cX11_round 40 = .ok (.sipush 200, 3) := by decide +kernel
theorem dX11_round_43 : decode cX11_round 43 = .ok (.if_icmp .ge 78, 3) := by decide +kernel
theorem dX11_round_46 : decode cX11_round 46 = .ok (.aload_n 0, 1) := by decide +kernel
theorem dX11_round_47 : decode cX11_round 47 = .ok (.getfield 59, 3) := by decide +kernel
theorem dX11_round_50 : decode cX11_round 50 = .ok (.iload 4, 2) := by decide +kernel
theorem dX11_round_52 : decode cX11_round 52 = .ok (.iload_n 2, 1) := by decide +kernel
theorem dX11_round_53 : decode cX11_round 53 = .ok (.invokevirtual 177, 3) := by decide +kernel
theorem dX11_round_56 : decode cX11_round 56 = .ok (.aload_n 0, 1) := by decide +kernel
theorem dX11_round_57 : decode cX11_round 57 = .ok (.getfield 63, 3) := by decide +kernel
theorem dX11_round_60 : decode cX11_round 60 = .ok (.iload 4, 2) := by decide +kernel
theorem dX11_round_62 : decode cX11_round 62 = .ok (.aload_n 0, 1) := by decide +kernel
theorem dX11_round_63 : decode cX11_round 63 = .ok (.getfield 59, 3) := by decide +kernel
theorem dX11_round_66 : decode cX11_round 66 = .ok (.iconst 0, 1) := by decide +kernel
theorem dX11_round_67 : decode cX11_round 67 = .ok (.iconst 5, 1) := by decide +kernel
theorem dX11_round_68 : decode cX11_round 68 = .ok (.invokevirtual 198, 3) := by decide +kernel
theorem dX11_round_71 : decode cX11_round 71 = .ok (.lastore, 1) := by decide +kernel
theorem dX11_round_72 : decode cX11_round 72 = .ok (.aload_n 0, 1) := by decide +kernel
theorem dX11_round_73 : decode cX11_round 73 = .ok (.getfield 67, 3) := by decide +kernel
theorem dX11_round_76 : decode cX11_round 76 = .ok (.iload 4, 2) := by decide +kernel
theorem dX11_round_78 : decode cX11_round 78 = .ok (.aload_n 0, 1) := by decide +kernel
theorem dX11_round_79 : decode cX11_round 79 = .ok (.getfield 59, 3) := by decide +kernel
theorem dX11_round_82 : decode cX11_round 82 = .ok (.iconst 5, 1) := by decide +kernel
theorem dX11_round_83 : decode cX11_round 83 = .ok (.bipush 10, 2) := by decide +kernel
theorem dX11_round_85 : decode cX11_round 85 = .ok (.invokevirtual 198, 3) := by decide +kernel
theorem dX11_round_88 : decode cX11_round 88 = .ok (.lastore, 1) := by decide +kernel
theorem dX11_round_89 : decode cX11_round 89 = .ok (.aload_n 0, 1) := by decide +kernel
theorem dX11_round_90 : decode cX11_round 90 = .ok (.iload 4, 2) := by decide +kernel
theorem dX11_round_92 : decode cX11_round 92 = .ok (.invokevirtual 202, 3) := by decide +kernel
theorem dX11_round_95 : decode cX11_round 95 = .ok (.istore 5, 2) := by decide +kernel
theorem dX11_round_97 : decode cX11_round 97 = .ok (.iload 5, 2) := by decide +kernel
theorem dX11_round_99 : decode cX11_round 99 = .ok (.iconst (-1), 1) := by decide +kernel
theorem dX11_round_100 : decode cX11_round 100 = .ok (.if_icmp .eq 15, 3) := by decide +kernel
theorem dX11_round_103 : decode cX11_round 103 = .ok (.iload_n 3, 1) := by decide +kernel
theorem dX11_round_104 : decode cX11_round 104 = .ok (.ifCond .ne 8, 3) := by decide +kernel
theorem dX11_round_107 : decode cX11_round 107 = .ok (.iload 4, 2) := by decide +kernel
theorem dX11_round_109 : decode cX11_round 109 = .ok (.goto 5, 3) := by decide +kernel
theorem dX11_round_112 : decode cX11_round 112 = .ok (.iload 5, 2) := by decide +kernel
theorem dX11_round_114 : decode cX11_round 114 = .ok (.ireturn, 1) := by decide +kernel
theorem dX11_round_115 : decode cX11_round 115 = .ok (.iinc 4 1, 3) := by decide +kernel
theorem dX11_round_118 : decode cX11_round 118 = .ok (.goto (-80), 3) := by decide +kernel
theorem dX11_round_121 : decode cX11_round 121 = .ok (.iconst (-1), 1) := by decide +kernel
theorem dX11_round_122 : decode cX11_round 122 = .ok (.ireturn, 1) := by decide +kernel
theorem dX11_lent_0 : decode cX11_lent 0 = .ok (.iload_n 1, 1) := by decide +kernel
theorem dX11_lent_1 : decode cX11_lent 1 = .ok (.bipush 7, 2) := by decide +kernel
theorem dX11_lent_3 : decode cX11_lent 3 = .ok (.invokestatic 118, 3) := by decide +kernel
theorem dX11_lent_6 : decode cX11_lent 6 = .ok (.ifCond .ne 30, 3) := by decide +kernel
theorem dX11_lent_9 : decode cX11_lent 9 = .ok (.iload_n 2, 1) := by decide +kernel
theorem dX11_lent_10 : decode cX11_lent 10 = .ok (.aload_n 0, 1) := by decide +kernel
theorem dX11_lent_11 : decode cX11_lent 11 = .ok (.getfield 29, 3) := by decide +kernel
theorem dX11_lent_14 : decode cX11_lent 14 = .ok (.invokestatic 118, 3) := by decide +kernel
theorem dX11_lent_17 : decode cX11_lent 17 = .ok (.ifCond .ne 19, 3) := by decide +kernel
theorem dX11_lent_20 : decode cX11_lent 20 = .ok (.iload_n 3, 1) := by decide +kernel
theorem dX11_lent_21 : decode cX11_lent 21 = .ok (.iconst 4, 1) := by decide +kernel
theorem dX11_lent_22 : decode cX11_lent 22 = .ok (.invokestatic 118, 3) := by decide +kernel
theorem dX11_lent_25 : decode cX11_lent 25 = .ok (.ifCond .ne 11, 3) := by decide +kernel
theorem dX11_lent_28 : decode cX11_lent 28 = .ok (.aload_n 0, 1) := by decide +kernel
theorem dX11_lent_29 : decode cX11_lent 29 = .ok (.iload_n 1, 1) := by decide +kernel
theorem dX11_lent_30 : decode cX11_lent 30 = .ok (.invokevirtual 161, 3) := by decide +kernel
theorem dX11_lent_33 : decode cX11_lent 33 = .ok (.ifCond .eq 7, 3) := by decide +kernel
theorem dX11_lent_36 : decode cX11_lent 36 = .ok (.ldc2_w 183, 3) := by decide +kernel
theorem dX11_lent_39 : decode cX11_lent 39 = .ok (.lreturn, 1) := by decide +kernel
theorem dX11_lent_40 : decode cX11_lent 40 = .ok (.aload_n 0, 1) := by decide +kernel
theorem dX11_lent_41 : decode cX11_lent 41 = .ok (.iload_n 1, 1) := by decide +kernel
theorem dX11_lent_42 : decode cX11_lent 42 = .ok (.invokevirtual 174, 3) := by decide +kernel
theorem dX11_lent_45 : decode cX11_lent 45 = .ok (.aload_n 0, 1) := by decide +kernel
theorem dX11_lent_46 : decode cX11_lent 46 = .ok (.getfield 59, 3) := by decide +kernel
theorem dX11_lent_49 : decode cX11_lent 49 = .ok (.invokevirtual 185, 3) := by decide +kernel
theorem dX11_lent_52 : decode cX11_lent 52 = .ok (.aload_n 0, 1) := by decide +kernel
theorem dX11_lent_53 : decode cX11_lent 53 = .ok (.getfield 59, 3) := by decide +kernel
theorem dX11_lent_56 : decode cX11_lent 56 = .ok (.invokevirtual 188, 3) := by decide +kernel
theorem dX11_lent_59 : decode cX11_lent 59 = .ok (.lstore 4, 2) := by decide +kernel
theorem dX11_lent_61 : decode cX11_lent 61 = .ok (.aload_n 0, 1) := by decide +kernel
theorem dX11_lent_62 : decode cX11_lent 62 = .ok (.getfield 10, 3) := by decide +kernel
theorem dX11_lent_65 : decode cX11_lent 65 = .ok (.getfield 129, 3) := by decide +kernel
theorem dX11_lent_68 : decode cX11_lent 68 = .ok (.iload_n 2, 1) := by decide +kernel
theorem dX11_lent_69 : decode cX11_lent 69 = .ok (.iaload, 1) := by decide +kernel
theorem dX11_lent_70 : decode cX11_lent 70 = .ok (.istore 6, 2) := by decide +kernel
theorem dX11_lent_72 : decode cX11_lent 72 = .ok (.aload_n 0, 1) := by decide +kernel
theorem dX11_lent_73 : decode cX11_lent 73 = .ok (.getfield 10, 3) := by decide +kernel
theorem dX11_lent_76 : decode cX11_lent 76 = .ok (.getfield 129, 3) := by decide +kernel
theorem dX11_lent_79 : decode cX11_lent 79 = .ok (.iload_n 2, 1) := by decide +kernel
theorem dX11_lent_80 : decode cX11_lent 80 = .ok (.iload_n 3, 1) := by decide +kernel
theorem dX11_lent_81 : decode cX11_lent 81 = .ok (.iastore, 1) := by decide +kernel
theorem dX11_lent_82 : decode cX11_lent 82 = .ok (.aload_n 0, 1) := by decide +kernel
theorem dX11_lent_83 : decode cX11_lent 83 = .ok (.getfield 59, 3) := by decide +kernel
theorem dX11_lent_86 : decode cX11_lent 86 = .ok (.invokevirtual 188, 3) := by decide +kernel
theorem dX11_lent_89 : decode cX11_lent 89 = .ok (.lstore 7, 2) := by decide +kernel
theorem dX11_lent_91 : decode cX11_lent 91 = .ok (.aload_n 0, 1) := by decide +kernel
theorem dX11_lent_92 : decode cX11_lent 92 = .ok (.getfield 10, 3) := by decide +kernel
theorem dX11_lent_95 : decode cX11_lent 95 = .ok (.getfield 129, 3) := by decide +kernel
theorem dX11_lent_98 : decode cX11_lent 98 = .ok (.iload_n 2, 1) := by decide +kernel
theorem dX11_lent_99 : decode cX11_lent 99 = .ok (.iload 6, 2) := by decide +kernel
theorem dX11_lent_101 : decode cX11_lent 101 = .ok (.iastore, 1) := by decide +kernel
theorem dX11_lent_102 : decode cX11_lent 102 = .ok (.lload 7, 2) := by decide +kernel
theorem dX11_lent_104 : decode cX11_lent 104 = .ok (.lload 4, 2) := by decide +kernel
theorem dX11_lent_106 : decode cX11_lent 106 = .ok (.lsub, 1) := by decide +kernel
theorem dX11_lent_107 : decode cX11_lent 107 = .ok (.lreturn, 1) := by decide +kernel
theorem dX11_lost_0 : decode cX11_lost 0 = .ok (.iload_n 1, 1) := by decide +kernel
theorem dX11_lost_1 : decode cX11_lost 1 = .ok (.bipush 7, 2) := by decide +kernel
theorem dX11_lost_3 : decode cX11_lost 3 = .ok (.invokestatic 118, 3) := by decide +kernel
theorem dX11_lost_6 : decode cX11_lost 6 = .ok (.ifCond .ne 31, 3) := by decide +kernel
theorem dX11_lost_9 : decode cX11_lost 9 = .ok (.iload_n 2, 1) := by decide +kernel
theorem dX11_lost_10 : decode cX11_lost 10 = .ok (.aload_n 0, 1) := by decide +kernel
theorem dX11_lost_11 : decode cX11_lost 11 = .ok (.getfield 29, 3) := by decide +kernel
theorem dX11_lost_14 : decode cX11_lost 14 = .ok (.invokestatic 118, 3) := by decide +kernel
theorem dX11_lost_17 : decode cX11_lost 17 = .ok (.ifCond .ne 20, 3) := by decide +kernel
theorem dX11_lost_20 : decode cX11_lost 20 = .ok (.iload_n 3, 1) := by decide +kernel
theorem dX11_lost_21 : decode cX11_lost 21 = .ok (.bipush 48, 2) := by decide +kernel
theorem dX11_lost_23 : decode cX11_lost 23 = .ok (.invokestatic 118, 3) := by decide +kernel
theorem dX11_lost_26 : decode cX11_lost 26 = .ok (.ifCond .ne 11, 3) := by decide +kernel
theorem dX11_lost_29 : decode cX11_lost 29 = .ok (.aload_n 0, 1) := by decide +kernel
theorem dX11_lost_30 : decode cX11_lost 30 = .ok (.iload_n 1, 1) := by decide +kernel
theorem dX11_lost_31 : decode cX11_lost 31 = .ok (.invokevirtual 161, 3) := by decide +kernel
theorem dX11_lost_34 : decode cX11_lost 34 = .ok (.ifCond .eq 7, 3) := by decide +kernel
theorem dX11_lost_37 : decode cX11_lost 37 = .ok (.ldc2_w 183, 3) := by decide +kernel
theorem dX11_lost_40 : decode cX11_lost 40 = .ok (.lreturn, 1) := by decide +kernel
theorem dX11_lost_41 : decode cX11_lost 41 = .ok (.aload_n 0, 1) := by decide +kernel
theorem dX11_lost_42 : decode cX11_lost 42 = .ok (.iload_n 1, 1) := by decide +kernel
theorem dX11_lost_43 : decode cX11_lost 43 = .ok (.invokevirtual 174, 3) := by decide +kernel
theorem dX11_lost_46 : decode cX11_lost 46 = .ok (.aload_n 0, 1) := by decide +kernel
theorem dX11_lost_47 : decode cX11_lost 47 = .ok (.getfield 59, 3) := by decide +kernel
theorem dX11_lost_50 : decode cX11_lost 50 = .ok (.invokevirtual 185, 3) := by decide +kernel
theorem dX11_lost_53 : decode cX11_lost 53 = .ok (.aload_n 0, 1) := by decide +kernel
theorem dX11_lost_54 : decode cX11_lost 54 = .ok (.getfield 59, 3) := by decide +kernel
theorem dX11_lost_57 : decode cX11_lost 57 = .ok (.invokevirtual 188, 3) := by decide +kernel
theorem dX11_lost_60 : decode cX11_lost 60 = .ok (.lstore 4, 2) := by decide +kernel
theorem dX11_lost_62 : decode cX11_lost 62 = .ok (.aload_n 0, 1) := by decide +kernel
theorem dX11_lost_63 : decode cX11_lost 63 = .ok (.getfield 59, 3) := by decide +kernel
theorem dX11_lost_66 : decode cX11_lost 66 = .ok (.iload_n 2, 1) := by decide +kernel
theorem dX11_lost_67 : decode cX11_lost 67 = .ok (.iload_n 3, 1) := by decide +kernel
theorem dX11_lost_68 : decode cX11_lost 68 = .ok (.invokevirtual 205, 3) := by decide +kernel
theorem dX11_lost_71 : decode cX11_lost 71 = .ok (.aload_n 0, 1) := by decide +kernel
theorem dX11_lost_72 : decode cX11_lost 72 = .ok (.getfield 59, 3) := by decide +kernel
theorem dX11_lost_75 : decode cX11_lost 75 = .ok (.invokevirtual 188, 3) := by decide +kernel
theorem dX11_lost_78 : decode cX11_lost 78 = .ok (.lload 4, 2) := by decide +kernel
theorem dX11_lost_80 : decode cX11_lost 80 = .ok (.lsub, 1) := by decide +kernel
theorem dX11_lost_81 : decode cX11_lost 81 = .ok (.lreturn, 1) := by decide +kernel
theorem dX11_who_0 : decode cX11_who 0 = .ok (.iload_n 1, 1) := by decide +kernel
theorem dX11_who_1 : decode cX11_who 1 = .ok (.iconst 4, 1) := by decide +kernel
theorem dX11_who_2 : decode cX11_who 2 = .ok (.invokestatic 118, 3) := by decide +kernel
theorem dX11_who_5 : decode cX11_who 5 = .ok (.ifCond .eq 6, 3) := by decide +kernel
theorem dX11_who_8 : decode cX11_who 8 = .ok (.bipush (-2), 2) := by decide +kernel
theorem dX11_who_10 : decode cX11_who 10 = .ok (.ireturn, 1) := by decide +kernel
theorem dX11_who_11 : decode cX11_who 11 = .ok (.aload_n 0, 1) := by decide +kernel
theorem dX11_who_12 : decode cX11_who 12 = .ok (.getfield 50, 3) := by decide +kernel
theorem dX11_who_15 : decode cX11_who 15 = .ok (.iload_n 1, 1) := by decide +kernel
theorem dX11_who_16 : decode cX11_who 16 = .ok (.aaload, 1) := by decide +kernel
theorem dX11_who_17 : decode cX11_who 17 = .ok (.invokevirtual 208, 3) := by decide +kernel
theorem dX11_who_20 : decode cX11_who 20 = .ok (.ifCond .eq 6, 3) := by decide +kernel
theorem dX11_who_23 : decode cX11_who 23 = .ok (.bipush (-11), 2) := by decide +kernel
theorem dX11_who_25 : decode cX11_who 25 = .ok (.ireturn, 1) := by decide +kernel
theorem dX11_who_26 : decode cX11_who 26 = .ok (.aload_n 0, 1) := by decide +kernel
theorem dX11_who_27 : decode cX11_who 27 = .ok (.iconst 2, 1) := by decide +kernel
theorem dX11_who_28 : decode cX11_who 28 = .ok (.iload_n 1, 1) := by decide +kernel
theorem dX11_who_29 : decode cX11_who 29 = .ok (.iadd, 1) := by decide +kernel
theorem dX11_who_30 : decode cX11_who 30 = .ok (.invokevirtual 174, 3) := by decide +kernel
theorem dX11_who_33 : decode cX11_who 33 = .ok (.aload_n 0, 1) := by decide +kernel
theorem dX11_who_34 : decode cX11_who 34 = .ok (.getfield 59, 3) := by decide +kernel
theorem dX11_who_37 : decode cX11_who 37 = .ok (.invokevirtual 185, 3) := by decide +kernel
theorem dX11_who_40 : decode cX11_who 40 = .ok (.aload_n 0, 1) := by decide +kernel
theorem dX11_who_41 : decode cX11_who 41 = .ok (.getfield 59, 3) := by decide +kernel
theorem dX11_who_44 : decode cX11_who 44 = .ok (.invokevirtual 188, 3) := by decide +kernel
theorem dX11_who_47 : decode cX11_who 47 = .ok (.lstore_n 2, 1) := by decide +kernel
theorem dX11_who_48 : decode cX11_who 48 = .ok (.iconst (-1), 1) := by decide +kernel
theorem dX11_who_49 : decode cX11_who 49 = .ok (.istore 4, 2) := by decide +kernel
theorem dX11_who_51 : decode cX11_who 51 = .ok (.iconst 0, 1) := by decide +kernel
theorem dX11_who_52 : decode cX11_who 52 = .ok (.istore 5, 2) := by decide +kernel
theorem dX11_who_54 : decode cX11_who 54 = .ok (.iload 5, 2) := by decide +kernel
theorem dX11_who_56 : decode cX11_who 56 = .ok (.aload_n 0, 1) := by decide +kernel
theorem dX11_who_57 : decode cX11_who 57 = .ok (.getfield 10, 3) := by decide +kernel
theorem dX11_who_60 : decode cX11_who 60 = .ok (.getfield 115, 3) := by decide +kernel
theorem dX11_who_63 : decode cX11_who 63 = .ok (.if_icmp .ge 120, 3) := by decide +kernel
theorem dX11_who_66 : decode cX11_who 66 = .ok (.iconst 0, 1) := by decide +kernel
theorem dX11_who_67 : decode cX11_who 67 = .ok (.istore 6, 2) := by decide +kernel
theorem dX11_who_69 : decode cX11_who 69 = .ok (.iload 6, 2) := by decide +kernel
theorem dX11_who_71 : decode cX11_who 71 = .ok (.aload_n 0, 1) := by decide +kernel
theorem dX11_who_72 : decode cX11_who 72 = .ok (.getfield 29, 3) := by decide +kernel
theorem dX11_who_75 : decode cX11_who 75 = .ok (.if_icmp .ge 102, 3) := by decide +kernel
theorem dX11_who_78 : decode cX11_who 78 = .ok (.lload_n 2, 1) := by decide +kernel
theorem dX11_who_79 : decode cX11_who 79 = .ok (.lconst 0, 1) := by decide +kernel
theorem dX11_who_80 : decode cX11_who 80 = .ok (.lcmp, 1) := by decide +kernel
theorem dX11_who_81 : decode cX11_who 81 = .ok (.ifCond .eq 90, 3) := by decide +kernel
theorem dX11_who_84 : decode cX11_who 84 = .ok (.aload_n 0, 1) := by decide +kernel
theorem dX11_who_85 : decode cX11_who 85 = .ok (.getfield 59, 3) := by decide +kernel
theorem dX11_who_88 : decode cX11_who 88 = .ok (.iload 6, 2) := by decide +kernel
theorem dX11_who_90 : decode cX11_who 90 = .ok (.iload 5, 2) := by decide +kernel
theorem dX11_who_92 : decode cX11_who 92 = .ok (.invokevirtual 211, 3) := by decide +kernel
theorem dX11_who_95 : decode cX11_who 95 = .ok (.ifCond .ne 6, 3) := by decide +kernel
theorem dX11_who_98 : decode cX11_who 98 = .ok (.goto 73, 3) := by decide +kernel
theorem dX11_who_101 : decode cX11_who 101 = .ok (.aload_n 0, 1) := by decide +kernel
theorem dX11_who_102 : decode cX11_who 102 = .ok (.getfield 59, 3) := by decide +kernel
theorem dX11_who_105 : decode cX11_who 105 = .ok (.getfield 214, 3) := by decide +kernel
theorem dX11_who_108 : decode cX11_who 108 = .ok (.iload 6, 2) := by decide +kernel
theorem dX11_who_110 : decode cX11_who 110 = .ok (.laload, 1) := by decide +kernel
theorem dX11_who_111 : decode cX11_who 111 = .ok (.lstore 7, 2) := by decide +kernel
theorem dX11_who_113 : decode cX11_who 113 = .ok (.aload_n 0, 1) := by decide +kernel
theorem dX11_who_114 : decode cX11_who 114 = .ok (.getfield 59, 3) := by decide +kernel
theorem dX11_who_117 : decode cX11_who 117 = .ok (.getfield 214, 3) := by decide +kernel
theorem dX11_who_120 : decode cX11_who 120 = .ok (.iload 6, 2) := by decide +kernel
theorem dX11_who_122 : decode cX11_who 122 = .ok (.lload 7, 2) := by decide +kernel
theorem dX11_who_124 : decode cX11_who 124 = .ok (.lconst 1, 1) := by decide +kernel
theorem dX11_who_125 : decode cX11_who 125 = .ok (.iload 5, 2) := by decide +kernel
theorem dX11_who_127 : decode cX11_who 127 = .ok (.lshl, 1) := by decide +kernel
theorem dX11_who_128 : decode cX11_who 128 = .ok (.lor, 1) := by decide +kernel
theorem dX11_who_129 : decode cX11_who 129 = .ok (.lastore, 1) := by decide +kernel
theorem dX11_who_130 : decode cX11_who 130 = .ok (.aload_n 0, 1) := by decide +kernel
theorem dX11_who_131 : decode cX11_who 131 = .ok (.getfield 59, 3) := by decide +kernel
theorem dX11_who_134 : decode cX11_who 134 = .ok (.invokevirtual 188, 3) := by decide +kernel
theorem dX11_who_137 : decode cX11_who 137 = .ok (.lstore 9, 2) := by decide +kernel
theorem dX11_who_139 : decode cX11_who 139 = .ok (.aload_n 0, 1) := by decide +kernel
theorem dX11_who_140 : decode cX11_who 140 = .ok (.getfield 59, 3) := by decide +kernel
theorem dX11_who_143 : decode cX11_who 143 = .ok (.getfield 214, 3) := by decide +kernel
theorem dX11_who_146 : decode cX11_who 146 = .ok (.iload 6, 2) := by decide +kernel
theorem dX11_who_148 : decode cX11_who 148 = .ok (.lload 7, 2) := by decide +kernel
theorem dX11_who_150 : decode cX11_who 150 = .ok (.lastore, 1) := by decide +kernel
theorem dX11_who_151 : decode cX11_who 151 = .ok (.lload 9, 2) := by decide +kernel
theorem dX11_who_153 : decode cX11_who 153 = .ok (.lload_n 2, 1) := by decide +kernel
theorem dX11_who_154 : decode cX11_who 154 = .ok (.lcmp, 1) := by decide +kernel
theorem dX11_who_155 : decode cX11_who 155 = .ok (.ifCond .ge 16, 3) := by decide +kernel
theorem dX11_who_158 : decode cX11_who 158 = .ok (.lload 9, 2) := by decide +kernel
theorem dX11_who_160 : decode cX11_who 160 = .ok (.lstore_n 2, 1) := by decide +kernel
theorem dX11_who_161 : decode cX11_who 161 = .ok (.bipush 100, 2) := by decide +kernel
theorem dX11_who_163 : decode cX11_who 163 = .ok (.iload 6, 2) := by decide +kernel
theorem dX11_who_165 : decode cX11_who 165 = .ok (.imul, 1) := by decide +kernel
theorem dX11_who_166 : decode cX11_who 166 = .ok (.iload 5, 2) := by decide +kernel
theorem dX11_who_168 : decode cX11_who 168 = .ok (.iadd, 1) := by decide +kernel
theorem dX11_who_169 : decode cX11_who 169 = .ok (.istore 4, 2) := by decide +kernel
theorem dX11_who_171 : decode cX11_who 171 = .ok (.iinc 6 1, 3) := by decide +kernel
theorem dX11_who_174 : decode cX11_who 174 = .ok (.goto (-105), 3) := by decide +kernel
theorem dX11_who_177 : decode cX11_who 177 = .ok (.iinc 5 1, 3) := by decide +kernel
theorem dX11_who_180 : decode cX11_who 180 = .ok (.goto (-126), 3) := by decide +kernel
theorem dX11_who_183 : decode cX11_who 183 = .ok (.iload 4, 2) := by decide +kernel
theorem dX11_who_185 : decode cX11_who 185 = .ok (.ireturn, 1) := by decide +kernel
theorem dX11_image_0 : decode cX11_image 0 = .ok (.aload_n 0, 1) := by decide +kernel
theorem dX11_image_1 : decode cX11_image 1 = .ok (.getfield 16, 3) := by decide +kernel
theorem dX11_image_4 : decode cX11_image 4 = .ok (.aload_n 0, 1) := by decide +kernel
theorem dX11_image_5 : decode cX11_image 5 = .ok (.getfield 10, 3) := by decide +kernel
theorem dX11_image_8 : decode cX11_image 8 = .ok (.aload_n 0, 1) := by decide +kernel
theorem dX11_image_9 : decode cX11_image 9 = .ok (.getfield 29, 3) := by decide +kernel
theorem dX11_image_12 : decode cX11_image 12 = .ok (.invokevirtual 217, 3) := by decide +kernel
theorem dX11_image_15 : decode cX11_image 15 = .ok (.aload_n 0, 1) := by decide +kernel
theorem dX11_image_16 : decode cX11_image 16 = .ok (.aload_n 0, 1) := by decide +kernel
theorem dX11_image_17 : decode cX11_image 17 = .ok (.getfield 29, 3) := by decide +kernel
theorem dX11_image_20 : decode cX11_image 20 = .ok (.putfield 19, 3) := by decide +kernel
theorem dX11_image_23 : decode cX11_image 23 = .ok (.aload_n 0, 1) := by decide +kernel
theorem dX11_image_24 : decode cX11_image 24 = .ok (.getfield 29, 3) := by decide +kernel
theorem dX11_image_27 : decode cX11_image 27 = .ok (.ireturn, 1) := by decide +kernel
theorem dX11_back_0 : decode cX11_back 0 = .ok (.aload_n 0, 1) := by decide +kernel
theorem dX11_back_1 : decode cX11_back 1 = .ok (.getfield 19, 3) := by decide +kernel
theorem dX11_back_4 : decode cX11_back 4 = .ok (.iconst (-1), 1) := by decide +kernel
theorem dX11_back_5 : decode cX11_back 5 = .ok (.if_icmp .ne 6, 3) := by decide +kernel
theorem dX11_back_8 : decode cX11_back 8 = .ok (.bipush (-3), 2) := by decide +kernel
theorem dX11_back_10 : decode cX11_back 10 = .ok (.ireturn, 1) := by decide +kernel
theorem dX11_back_11 : decode cX11_back 11 = .ok (.aload_n 0, 1) := by decide +kernel
theorem dX11_back_12 : decode cX11_back 12 = .ok (.getfield 10, 3) := by decide +kernel
theorem dX11_back_15 : decode cX11_back 15 = .ok (.aload_n 0, 1) := by decide +kernel
theorem dX11_back_16 : decode cX11_back 16 = .ok (.getfield 16, 3) := by decide +kernel
theorem dX11_back_19 : decode cX11_back 19 = .ok (.aload_n 0, 1) := by decide +kernel
theorem dX11_back_20 : decode cX11_back 20 = .ok (.getfield 19, 3) := by decide +kernel
theorem dX11_back_23 : decode cX11_back 23 = .ok (.invokevirtual 217, 3) := by decide +kernel
theorem dX11_back_26 : decode cX11_back 26 = .ok (.aload_n 0, 1) := by decide +kernel
theorem dX11_back_27 : decode cX11_back 27 = .ok (.getfield 29, 3) := by decide +kernel
theorem dX11_back_30 : decode cX11_back 30 = .ok (.ireturn, 1) := by decide +kernel
theorem dX11_count_0 : decode cX11_count 0 = .ok (.iload_n 1, 1) := by decide +kernel
theorem dX11_count_1 : decode cX11_count 1 = .ok (.tableswitch 129 0 7 #[47, 52, 60, 78, 96, 101, 109, 117], 47) := by decide +kernel
theorem dX11_count_48 : decode cX11_count 48 = .ok (.aload_n 0, 1) := by decide +kernel
theorem dX11_count_49 : decode cX11_count 49 = .ok (.getfield 29, 3) := by decide +kernel
theorem dX11_count_52 : decode cX11_count 52 = .ok (.ireturn, 1) := by decide +kernel
theorem dX11_count_53 : decode cX11_count 53 = .ok (.aload_n 0, 1) := by decide +kernel
theorem dX11_count_54 : decode cX11_count 54 = .ok (.getfield 10, 3) := by decide +kernel
theorem dX11_count_57 : decode cX11_count 57 = .ok (.getfield 115, 3) := by decide +kernel
theorem dX11_count_60 : decode cX11_count 60 = .ok (.ireturn, 1) := by decide +kernel
theorem dX11_count_61 : decode cX11_count 61 = .ok (.aload_n 0, 1) := by decide +kernel
theorem dX11_count_62 : decode cX11_count 62 = .ok (.getfield 10, 3) := by decide +kernel
theorem dX11_count_65 : decode cX11_count 65 = .ok (.getfield 106, 3) := by decide +kernel
theorem dX11_count_68 : decode cX11_count 68 = .ok (.aload_n 0, 1) := by decide +kernel
theorem dX11_count_69 : decode cX11_count 69 = .ok (.getfield 10, 3) := by decide +kernel
theorem dX11_count_72 : decode cX11_count 72 = .ok (.getfield 115, 3) := by decide +kernel
theorem dX11_count_75 : decode cX11_count 75 = .ok (.invokestatic 221, 3) := by decide +kernel
theorem dX11_count_78 : decode cX11_count 78 = .ok (.ireturn, 1) := by decide +kernel
theorem dX11_count_79 : decode cX11_count 79 = .ok (.aload_n 0, 1) := by decide +kernel
theorem dX11_count_80 : decode cX11_count 80 = .ok (.getfield 10, 3) := by decide +kernel
theorem dX11_count_83 : decode cX11_count 83 = .ok (.getfield 109, 3) := by decide +kernel
theorem dX11_count_86 : decode cX11_count 86 = .ok (.aload_n 0, 1) := by decide +kernel
theorem dX11_count_87 : decode cX11_count 87 = .ok (.getfield 10, 3) := by decide +kernel
theorem dX11_count_90 : decode cX11_count 90 = .ok (.getfield 115, 3) := by decide +kernel
theorem dX11_count_93 : decode cX11_count 93 = .ok (.invokestatic 221, 3) := by decide +kernel
theorem dX11_count_96 : decode cX11_count 96 = .ok (.ireturn, 1) := by decide +kernel
theorem dX11_count_97 : decode cX11_count 97 = .ok (.aload_n 0, 1) := by decide +kernel
theorem dX11_count_98 : decode cX11_count 98 = .ok (.getfield 45, 3) := by decide +kernel
theorem dX11_count_101 : decode cX11_count 101 = .ok (.ireturn, 1) := by decide +kernel
theorem dX11_count_102 : decode cX11_count 102 = .ok (.aload_n 0, 1) := by decide +kernel
theorem dX11_count_103 : decode cX11_count 103 = .ok (.getfield 35, 3) := by decide +kernel
theorem dX11_count_106 : decode cX11_count 106 = .ok (.getfield 154, 3) := by decide +kernel
theorem dX11_count_109 : decode cX11_count 109 = .ok (.ireturn, 1) := by decide +kernel
theorem dX11_count_110 : decode cX11_count 110 = .ok (.aload_n 0, 1) := by decide +kernel
theorem dX11_count_111 : decode cX11_count 111 = .ok (.getfield 10, 3) := by decide +kernel
theorem dX11_count_114 : decode cX11_count 114 = .ok (.getfield 158, 3) := by decide +kernel
theorem dX11_count_117 : decode cX11_count 117 = .ok (.ireturn, 1) := by decide +kernel
theorem dX11_count_118 : decode cX11_count 118 = .ok (.aload_n 0, 1) := by decide +kernel
theorem dX11_count_119 : decode cX11_count 119 = .ok (.getfield 10, 3) := by decide +kernel
theorem dX11_count_122 : decode cX11_count 122 = .ok (.getfield 112, 3) := by decide +kernel
theorem dX11_count_125 : decode cX11_count 125 = .ok (.iconst 4, 1) := by decide +kernel
theorem dX11_count_126 : decode cX11_count 126 = .ok (.invokestatic 221, 3) := by decide +kernel
theorem dX11_count_129 : decode cX11_count 129 = .ok (.ireturn, 1) := by decide +kernel
theorem dX11_count_130 : decode cX11_count 130 = .ok (.bipush (-2), 2) := by decide +kernel
theorem dX11_count_132 : decode cX11_count 132 = .ok (.ireturn, 1) := by decide +kernel
theorem dX11_sheet_0 : decode cX11_sheet 0 = .ok (.iload_n 1, 1) := by decide +kernel
theorem dX11_sheet_1 : decode cX11_sheet 1 = .ok (.iconst 4, 1) := by decide +kernel
theorem dX11_sheet_2 : decode cX11_sheet 2 = .ok (.invokestatic 118, 3) := by decide +kernel
theorem dX11_sheet_5 : decode cX11_sheet 5 = .ok (.ifCond .ne 13, 3) := by decide +kernel
theorem dX11_sheet_8 : decode cX11_sheet 8 = .ok (.iload_n 2, 1) := by decide +kernel
theorem dX11_sheet_9 : decode cX11_sheet 9 = .ok (.iconst (-1), 1) := by decide +kernel
theorem dX11_sheet_10 : decode cX11_sheet 10 = .ok (.if_icmp .lt 8, 3) := by decide +kernel
theorem dX11_sheet_13 : decode cX11_sheet 13 = .ok (.iload_n 2, 1) := by decide +kernel
theorem dX11_sheet_14 : decode cX11_sheet 14 = .ok (.iconst 3, 1) := by decide +kernel
theorem dX11_sheet_15 : decode cX11_sheet 15 = .ok (.if_icmp .lt 6, 3) := by decide +kernel
theorem dX11_sheet_18 : decode cX11_sheet 18 = .ok (.bipush (-2), 2) := by decide +kernel
theorem dX11_sheet_20 : decode cX11_sheet 20 = .ok (.ireturn, 1) := by decide +kernel
theorem dX11_sheet_21 : decode cX11_sheet 21 = .ok (.iload_n 2, 1) := by decide +kernel
theorem dX11_sheet_22 : decode cX11_sheet 22 = .ok (.iconst (-1), 1) := by decide +kernel
theorem dX11_sheet_23 : decode cX11_sheet 23 = .ok (.if_icmp .ne 16, 3) := by decide +kernel
theorem dX11_sheet_26 : decode cX11_sheet 26 = .ok (.aload_n 0, 1) := by decide +kernel
theorem dX11_sheet_27 : decode cX11_sheet 27 = .ok (.getfield 50, 3) := by decide +kernel
theorem dX11_sheet_30 : decode cX11_sheet 30 = .ok (.iload_n 1, 1) := by decide +kernel
theorem dX11_sheet_31 : decode cX11_sheet 31 = .ok (.aaload, 1) := by decide +kernel
theorem dX11_sheet_32 : decode cX11_sheet 32 = .ok (.iconst (-1), 1) := by decide +kernel
theorem dX11_sheet_33 : decode cX11_sheet 33 = .ok (.iconst 0, 1) := by decide +kernel
theorem dX11_sheet_34 : decode cX11_sheet 34 = .ok (.invokevirtual 225, 3) := by decide +kernel
theorem dX11_sheet_37 : decode cX11_sheet 37 = .ok (.iconst 1, 1) := by decide +kernel
theorem dX11_sheet_38 : decode cX11_sheet 38 = .ok (.ireturn, 1) := by decide +kernel
theorem dX11_sheet_39 : decode cX11_sheet 39 = .ok (.iload_n 3, 1) := by decide +kernel
theorem dX11_sheet_40 : decode cX11_sheet 40 = .ok (.bipush 40, 2) := by decide +kernel
theorem dX11_sheet_42 : decode cX11_sheet 42 = .ok (.if_icmp .le 6, 3) := by decide +kernel
theorem dX11_sheet_45 : decode cX11_sheet 45 = .ok (.bipush (-2), 2) := by decide +kernel
theorem dX11_sheet_47 : decode cX11_sheet 47 = .ok (.ireturn, 1) := by decide +kernel
theorem dX11_sheet_48 : decode cX11_sheet 48 = .ok (.iload_n 3, 1) := by decide +kernel
theorem dX11_sheet_49 : decode cX11_sheet 49 = .ok (.ifCond .ge 6, 3) := by decide +kernel
theorem dX11_sheet_52 : decode cX11_sheet 52 = .ok (.bipush (-14), 2) := by decide +kernel
theorem dX11_sheet_54 : decode cX11_sheet 54 = .ok (.ireturn, 1) := by decide +kernel
theorem dX11_sheet_55 : decode cX11_sheet 55 = .ok (.aload_n 0, 1) := by decide +kernel
theorem dX11_sheet_56 : decode cX11_sheet 56 = .ok (.getfield 50, 3) := by decide +kernel
theorem dX11_sheet_59 : decode cX11_sheet 59 = .ok (.iload_n 1, 1) := by decide +kernel
theorem dX11_sheet_60 : decode cX11_sheet 60 = .ok (.aaload, 1) := by decide +kernel
theorem dX11_sheet_61 : decode cX11_sheet 61 = .ok (.iload_n 2, 1) := by decide +kernel
theorem dX11_sheet_62 : decode cX11_sheet 62 = .ok (.iload_n 3, 1) := by decide +kernel
theorem dX11_sheet_63 : decode cX11_sheet 63 = .ok (.invokevirtual 225, 3) := by decide +kernel
theorem dX11_sheet_66 : decode cX11_sheet 66 = .ok (.iconst 1, 1) := by decide +kernel
theorem dX11_sheet_67 : decode cX11_sheet 67 = .ok (.ireturn, 1) := by decide +kernel
theorem dX11_cell_0 : decode cX11_cell 0 = .ok (.iload_n 1, 1) := by decide +kernel
theorem dX11_cell_1 : decode cX11_cell 1 = .ok (.iconst 4, 1) := by decide +kernel
theorem dX11_cell_2 : decode cX11_cell 2 = .ok (.invokestatic 118, 3) := by decide +kernel
theorem dX11_cell_5 : decode cX11_cell 5 = .ok (.ifCond .eq 6, 3) := by decide +kernel
theorem dX11_cell_8 : decode cX11_cell 8 = .ok (.bipush (-2), 2) := by decide +kernel
theorem dX11_cell_10 : decode cX11_cell 10 = .ok (.ireturn, 1) := by decide +kernel
theorem dX11_cell_11 : decode cX11_cell 11 = .ok (.aload_n 0, 1) := by decide +kernel
theorem dX11_cell_12 : decode cX11_cell 12 = .ok (.getfield 50, 3) := by decide +kernel
theorem dX11_cell_15 : decode cX11_cell 15 = .ok (.iload_n 1, 1) := by decide +kernel
theorem dX11_cell_16 : decode cX11_cell 16 = .ok (.aaload, 1) := by decide +kernel
theorem dX11_cell_17 : decode cX11_cell 17 = .ok (.astore 4, 2) := by decide +kernel
theorem dX11_cell_19 : decode cX11_cell 19 = .ok (.aload 4, 2) := by decide +kernel
theorem dX11_cell_21 : decode cX11_cell 21 = .ok (.invokevirtual 208, 3) := by decide +kernel
theorem dX11_cell_24 : decode cX11_cell 24 = .ok (.ifCond .eq 6, 3) := by decide +kernel
theorem dX11_cell_27 : decode cX11_cell 27 = .ok (.bipush (-11), 2) := by decide +kernel
theorem dX11_cell_29 : decode cX11_cell 29 = .ok (.ireturn, 1) := by decide +kernel
theorem dX11_cell_30 : decode cX11_cell 30 = .ok (.iload_n 2, 1) := by decide +kernel
theorem dX11_cell_31 : decode cX11_cell 31 = .ok (.aload 4, 2) := by decide +kernel
theorem dX11_cell_33 : decode cX11_cell 33 = .ok (.getfield 228, 3) := by decide +kernel
theorem dX11_cell_36 : decode cX11_cell 36 = .ok (.invokestatic 118, 3) := by decide +kernel
theorem dX11_cell_39 : decode cX11_cell 39 = .ok (.ifCond .eq 6, 3) := by decide +kernel
theorem dX11_cell_42 : decode cX11_cell 42 = .ok (.bipush (-12), 2) := by decide +kernel
theorem dX11_cell_44 : decode cX11_cell 44 = .ok (.ireturn, 1) := by decide +kernel
theorem dX11_cell_45 : decode cX11_cell 45 = .ok (.aload 4, 2) := by decide +kernel
theorem dX11_cell_47 : decode cX11_cell 47 = .ok (.iload_n 2, 1) := by decide +kernel
theorem dX11_cell_48 : decode cX11_cell 48 = .ok (.iload_n 3, 1) := by decide +kernel
theorem dX11_cell_49 : decode cX11_cell 49 = .ok (.invokevirtual 230, 3) := by decide +kernel
theorem dX11_cell_52 : decode cX11_cell 52 = .ok (.iconst 1, 1) := by decide +kernel
theorem dX11_cell_53 : decode cX11_cell 53 = .ok (.ireturn, 1) := by decide +kernel
theorem dX11_copy_0 : decode cX11_copy 0 = .ok (.iload_n 1, 1) := by decide +kernel
theorem dX11_copy_1 : decode cX11_copy 1 = .ok (.iconst 4, 1) := by decide +kernel
theorem dX11_copy_2 : decode cX11_copy 2 = .ok (.invokestatic 118, 3) := by decide +kernel
theorem dX11_copy_5 : decode cX11_copy 5 = .ok (.ifCond .ne 11, 3) := by decide +kernel
theorem dX11_copy_8 : decode cX11_copy 8 = .ok (.iload_n 3, 1) := by decide +kernel
theorem dX11_copy_9 : decode cX11_copy 9 = .ok (.iconst 4, 1) := by decide +kernel
theorem dX11_copy_10 : decode cX11_copy 10 = .ok (.invokestatic 118, 3) := by decide +kernel
theorem dX11_copy_13 : decode cX11_copy 13 = .ok (.ifCond .eq 6, 3) := by decide +kernel
theorem dX11_copy_16 : decode cX11_copy 16 = .ok (.bipush (-2), 2) := by decide +kernel
theorem dX11_copy_18 : decode cX11_copy 18 = .ok (.ireturn, 1) := by decide +kernel
theorem dX11_copy_19 : decode cX11_copy 19 = .ok (.aload_n 0, 1) := by decide +kernel
theorem dX11_copy_20 : decode cX11_copy 20 = .ok (.getfield 50, 3) := by decide +kernel
theorem dX11_copy_23 : decode cX11_copy 23 = .ok (.iload_n 1, 1) := by decide +kernel
theorem dX11_copy_24 : decode cX11_copy 24 = .ok (.aaload, 1) := by decide +kernel
theorem dX11_copy_25 : decode cX11_copy 25 = .ok (.astore 6, 2) := by decide +kernel
theorem dX11_copy_27 : decode cX11_copy 27 = .ok (.aload_n 0, 1) := by decide +kernel
theorem dX11_copy_28 : decode cX11_copy 28 = .ok (.getfield 50, 3) := by decide +kernel
theorem dX11_copy_31 : decode cX11_copy 31 = .ok (.iload_n 3, 1) := by decide +kernel
theorem dX11_copy_32 : decode cX11_copy 32 = .ok (.aaload, 1) := by decide +kernel
theorem dX11_copy_33 : decode cX11_copy 33 = .ok (.astore 7, 2) := by decide +kernel
