theorem dX11_copy_35 : decode cX11_copy 35 = .ok (.aload 6, 2) := by decide +kernel
theorem dX11_copy_37 : decode cX11_copy 37 = .ok (.invokevirtual 208, 3) := by decide +kernel
theorem dX11_copy_40 : decode cX11_copy 40 = .ok (.ifCond .ne 11, 3) := by decide +kernel
theorem dX11_copy_43 : decode cX11_copy 43 = .ok (.aload 7, 2) := by decide +kernel
theorem dX11_copy_45 : decode cX11_copy 45 = .ok (.invokevirtual 208, 3) := by decide +kernel
theorem dX11_copy_48 : decode cX11_copy 48 = .ok (.ifCond .eq 6, 3) := by decide +kernel
theorem dX11_copy_51 : decode cX11_copy 51 = .ok (.bipush (-11), 2) := by decide +kernel
theorem dX11_copy_53 : decode cX11_copy 53 = .ok (.ireturn, 1) := by decide +kernel
theorem dX11_copy_54 : decode cX11_copy 54 = .ok (.aload 6, 2) := by decide +kernel
theorem dX11_copy_56 : decode cX11_copy 56 = .ok (.getfield 232, 3) := by decide +kernel
theorem dX11_copy_59 : decode cX11_copy 59 = .ok (.aload 7, 2) := by decide +kernel
theorem dX11_copy_61 : decode cX11_copy 61 = .ok (.getfield 232, 3) := by decide +kernel
theorem dX11_copy_64 : decode cX11_copy 64 = .ok (.if_icmp .eq 6, 3) := by decide +kernel
theorem dX11_copy_67 : decode cX11_copy 67 = .ok (.bipush (-13), 2) := by decide +kernel
theorem dX11_copy_69 : decode cX11_copy 69 = .ok (.ireturn, 1) := by decide +kernel
theorem dX11_copy_70 : decode cX11_copy 70 = .ok (.aload 6, 2) := by decide +kernel
theorem dX11_copy_72 : decode cX11_copy 72 = .ok (.iload_n 2, 1) := by decide +kernel
theorem dX11_copy_73 : decode cX11_copy 73 = .ok (.iload 5, 2) := by decide +kernel
theorem dX11_copy_75 : decode cX11_copy 75 = .ok (.invokevirtual 235, 3) := by decide +kernel
theorem dX11_copy_78 : decode cX11_copy 78 = .ok (.ifCond .eq 15, 3) := by decide +kernel
theorem dX11_copy_81 : decode cX11_copy 81 = .ok (.aload 7, 2) := by decide +kernel
theorem dX11_copy_83 : decode cX11_copy 83 = .ok (.iload 4, 2) := by decide +kernel
theorem dX11_copy_85 : decode cX11_copy 85 = .ok (.iload 5, 2) := by decide +kernel
theorem dX11_copy_87 : decode cX11_copy 87 = .ok (.invokevirtual 235, 3) := by decide +kernel
theorem dX11_copy_90 : decode cX11_copy 90 = .ok (.ifCond .ne 6, 3) := by decide +kernel
theorem dX11_copy_93 : decode cX11_copy 93 = .ok (.bipush (-12), 2) := by decide +kernel
theorem dX11_copy_95 : decode cX11_copy 95 = .ok (.ireturn, 1) := by decide +kernel
theorem dX11_copy_96 : decode cX11_copy 96 = .ok (.aload 6, 2) := by decide +kernel
theorem dX11_copy_98 : decode cX11_copy 98 = .ok (.getfield 238, 3) := by decide +kernel
theorem dX11_copy_101 : decode cX11_copy 101 = .ok (.iload_n 2, 1) := by decide +kernel
theorem dX11_copy_102 : decode cX11_copy 102 = .ok (.aload 7, 2) := by decide +kernel
theorem dX11_copy_104 : decode cX11_copy 104 = .ok (.getfield 238, 3) := by decide +kernel
theorem dX11_copy_107 : decode cX11_copy 107 = .ok (.iload 4, 2) := by decide +kernel
theorem dX11_copy_109 : decode cX11_copy 109 = .ok (.iload 5, 2) := by decide +kernel
theorem dX11_copy_111 : decode cX11_copy 111 = .ok (.invokestatic 241, 3) := by decide +kernel
theorem dX11_copy_114 : decode cX11_copy 114 = .ok (.iload 5, 2) := by decide +kernel
theorem dX11_copy_116 : decode cX11_copy 116 = .ok (.ireturn, 1) := by decide +kernel
theorem dX11_singers_0 : decode cX11_singers 0 = .ok (.iload_n 1, 1) := by decide +kernel
theorem dX11_singers_1 : decode cX11_singers 1 = .ok (.iconst 4, 1) := by decide +kernel
theorem dX11_singers_2 : decode cX11_singers 2 = .ok (.invokestatic 118, 3) := by decide +kernel
theorem dX11_singers_5 : decode cX11_singers 5 = .ok (.ifCond .ne 23, 3) := by decide +kernel
theorem dX11_singers_8 : decode cX11_singers 8 = .ok (.iload_n 2, 1) := by decide +kernel
theorem dX11_singers_9 : decode cX11_singers 9 = .ok (.iconst 3, 1) := by decide +kernel
theorem dX11_singers_10 : decode cX11_singers 10 = .ok (.invokestatic 118, 3) := by decide +kernel
theorem dX11_singers_13 : decode cX11_singers 13 = .ok (.ifCond .ne 15, 3) := by decide +kernel
theorem dX11_singers_16 : decode cX11_singers 16 = .ok (.iload 4, 2) := by decide +kernel
theorem dX11_singers_18 : decode cX11_singers 18 = .ok (.ifCond .lt 10, 3) := by decide +kernel
theorem dX11_singers_21 : decode cX11_singers 21 = .ok (.iload 4, 2) := by decide +kernel
theorem dX11_singers_23 : decode cX11_singers 23 = .ok (.bipush 10, 2) := by decide +kernel
theorem dX11_singers_25 : decode cX11_singers 25 = .ok (.if_icmp .le 6, 3) := by decide +kernel
theorem dX11_singers_28 : decode cX11_singers 28 = .ok (.bipush (-2), 2) := by decide +kernel
theorem dX11_singers_30 : decode cX11_singers 30 = .ok (.ireturn, 1) := by decide +kernel
theorem dX11_singers_31 : decode cX11_singers 31 = .ok (.aload_n 0, 1) := by decide +kernel
theorem dX11_singers_32 : decode cX11_singers 32 = .ok (.getfield 50, 3) := by decide +kernel
theorem dX11_singers_35 : decode cX11_singers 35 = .ok (.iload_n 1, 1) := by decide +kernel
theorem dX11_singers_36 : decode cX11_singers 36 = .ok (.aaload, 1) := by decide +kernel
theorem dX11_singers_37 : decode cX11_singers 37 = .ok (.astore 5, 2) := by decide +kernel
theorem dX11_singers_39 : decode cX11_singers 39 = .ok (.aload 5, 2) := by decide +kernel
theorem dX11_singers_41 : decode cX11_singers 41 = .ok (.invokevirtual 208, 3) := by decide +kernel
theorem dX11_singers_44 : decode cX11_singers 44 = .ok (.ifCond .ne 15, 3) := by decide +kernel
theorem dX11_singers_47 : decode cX11_singers 47 = .ok (.aload 5, 2) := by decide +kernel
theorem dX11_singers_49 : decode cX11_singers 49 = .ok (.getfield 232, 3) := by decide +kernel
theorem dX11_singers_52 : decode cX11_singers 52 = .ok (.iload_n 2, 1) := by decide +kernel
theorem dX11_singers_53 : decode cX11_singers 53 = .ok (.if_icmp .eq 6, 3) := by decide +kernel
theorem dX11_singers_56 : decode cX11_singers 56 = .ok (.bipush (-13), 2) := by decide +kernel
theorem dX11_singers_58 : decode cX11_singers 58 = .ok (.ireturn, 1) := by decide +kernel
theorem dX11_singers_59 : decode cX11_singers 59 = .ok (.aload 5, 2) := by decide +kernel
theorem dX11_singers_61 : decode cX11_singers 61 = .ok (.invokevirtual 208, 3) := by decide +kernel
theorem dX11_singers_64 : decode cX11_singers 64 = .ok (.ifCond .eq 6, 3) := by decide +kernel
theorem dX11_singers_67 : decode cX11_singers 67 = .ok (.bipush (-11), 2) := by decide +kernel
theorem dX11_singers_69 : decode cX11_singers 69 = .ok (.ireturn, 1) := by decide +kernel
theorem dX11_singers_70 : decode cX11_singers 70 = .ok (.iconst 0, 1) := by decide +kernel
theorem dX11_singers_71 : decode cX11_singers 71 = .ok (.istore 6, 2) := by decide +kernel
theorem dX11_singers_73 : decode cX11_singers 73 = .ok (.iconst 0, 1) := by decide +kernel
theorem dX11_singers_74 : decode cX11_singers 74 = .ok (.istore 7, 2) := by decide +kernel
theorem dX11_singers_76 : decode cX11_singers 76 = .ok (.iload 7, 2) := by decide +kernel
theorem dX11_singers_78 : decode cX11_singers 78 = .ok (.iload 4, 2) := by decide +kernel
theorem dX11_singers_80 : decode cX11_singers 80 = .ok (.if_icmp .ge 69, 3) := by decide +kernel
theorem dX11_singers_83 : decode cX11_singers 83 = .ok (.iload_n 3, 1) := by decide +kernel
theorem dX11_singers_84 : decode cX11_singers 84 = .ok (.iconst 3, 1) := by decide +kernel
theorem dX11_singers_85 : decode cX11_singers 85 = .ok (.iload 7, 2) := by decide +kernel
theorem dX11_singers_87 : decode cX11_singers 87 = .ok (.imul, 1) := by decide +kernel
theorem dX11_singers_88 : decode cX11_singers 88 = .ok (.iadd, 1) := by decide +kernel
theorem dX11_singers_89 : decode cX11_singers 89 = .ok (.istore 8, 2) := by decide +kernel
theorem dX11_singers_91 : decode cX11_singers 91 = .ok (.aload 5, 2) := by decide +kernel
theorem dX11_singers_93 : decode cX11_singers 93 = .ok (.iload 8, 2) := by decide +kernel
theorem dX11_singers_95 : decode cX11_singers 95 = .ok (.iconst 3, 1) := by decide +kernel
theorem dX11_singers_96 : decode cX11_singers 96 = .ok (.invokevirtual 235, 3) := by decide +kernel
theorem dX11_singers_99 : decode cX11_singers 99 = .ok (.ifCond .ne 6, 3) := by decide +kernel
theorem dX11_singers_102 : decode cX11_singers 102 = .ok (.bipush (-12), 2) := by decide +kernel
theorem dX11_singers_104 : decode cX11_singers 104 = .ok (.ireturn, 1) := by decide +kernel
theorem dX11_singers_105 : decode cX11_singers 105 = .ok (.aload_n 0, 1) := by decide +kernel
theorem dX11_singers_106 : decode cX11_singers 106 = .ok (.aload 5, 2) := by decide +kernel
theorem dX11_singers_108 : decode cX11_singers 108 = .ok (.getfield 238, 3) := by decide +kernel
theorem dX11_singers_111 : decode cX11_singers 111 = .ok (.iload 8, 2) := by decide +kernel
theorem dX11_singers_113 : decode cX11_singers 113 = .ok (.iaload, 1) := by decide +kernel
theorem dX11_singers_114 : decode cX11_singers 114 = .ok (.aload 5, 2) := by decide +kernel
theorem dX11_singers_116 : decode cX11_singers 116 = .ok (.getfield 238, 3) := by decide +kernel
theorem dX11_singers_119 : decode cX11_singers 119 = .ok (.iload 8, 2) := by decide +kernel
theorem dX11_singers_121 : decode cX11_singers 121 = .ok (.iconst 1, 1) := by decide +kernel
theorem dX11_singers_122 : decode cX11_singers 122 = .ok (.iadd, 1) := by decide +kernel
theorem dX11_singers_123 : decode cX11_singers 123 = .ok (.iaload, 1) := by decide +kernel
theorem dX11_singers_124 : decode cX11_singers 124 = .ok (.aload 5, 2) := by decide +kernel
theorem dX11_singers_126 : decode cX11_singers 126 = .ok (.getfield 238, 3) := by decide +kernel
theorem dX11_singers_129 : decode cX11_singers 129 = .ok (.iload 8, 2) := by decide +kernel
theorem dX11_singers_131 : decode cX11_singers 131 = .ok (.iconst 2, 1) := by decide +kernel
theorem dX11_singers_132 : decode cX11_singers 132 = .ok (.iadd, 1) := by decide +kernel
theorem dX11_singers_133 : decode cX11_singers 133 = .ok (.iaload, 1) := by decide +kernel
theorem dX11_singers_134 : decode cX11_singers 134 = .ok (.invokevirtual 247, 3) := by decide +kernel
theorem dX11_singers_137 : decode cX11_singers 137 = .ok (.ifCond .lt 6, 3) := by decide +kernel
theorem dX11_singers_140 : decode cX11_singers 140 = .ok (.iinc 6 1, 3) := by decide +kernel
theorem dX11_singers_143 : decode cX11_singers 143 = .ok (.iinc 7 1, 3) := by decide +kernel
theorem dX11_singers_146 : decode cX11_singers 146 = .ok (.goto (-70), 3) := by decide +kernel
theorem dX11_singers_149 : decode cX11_singers 149 = .ok (.iload 6, 2) := by decide +kernel
theorem dX11_singers_151 : decode cX11_singers 151 = .ok (.ireturn, 1) := by decide +kernel
theorem dX11_taken_0 : decode cX11_taken 0 = .ok (.iload_n 2, 1) := by decide +kernel
theorem dX11_taken_1 : decode cX11_taken 1 = .ok (.bipush 6, 2) := by decide +kernel
theorem dX11_taken_3 : decode cX11_taken 3 = .ok (.invokestatic 118, 3) := by decide +kernel
theorem dX11_taken_6 : decode cX11_taken 6 = .ok (.ifCond .eq 6, 3) := by decide +kernel
theorem dX11_taken_9 : decode cX11_taken 9 = .ok (.bipush (-2), 2) := by decide +kernel
theorem dX11_taken_11 : decode cX11_taken 11 = .ok (.ireturn, 1) := by decide +kernel
theorem dX11_taken_12 : decode cX11_taken 12 = .ok (.iload_n 1, 1) := by decide +kernel
theorem dX11_taken_13 : decode cX11_taken 13 = .ok (.aload_n 0, 1) := by decide +kernel
theorem dX11_taken_14 : decode cX11_taken 14 = .ok (.getfield 29, 3) := by decide +kernel
theorem dX11_taken_17 : decode cX11_taken 17 = .ok (.invokestatic 118, 3) := by decide +kernel
theorem dX11_taken_20 : decode cX11_taken 20 = .ok (.ifCond .eq 6, 3) := by decide +kernel
theorem dX11_taken_23 : decode cX11_taken 23 = .ok (.bipush (-11), 2) := by decide +kernel
theorem dX11_taken_25 : decode cX11_taken 25 = .ok (.ireturn, 1) := by decide +kernel
theorem dX11_taken_26 : decode cX11_taken 26 = .ok (.aload_n 0, 1) := by decide +kernel
theorem dX11_taken_27 : decode cX11_taken 27 = .ok (.getfield 25, 3) := by decide +kernel
theorem dX11_taken_30 : decode cX11_taken 30 = .ok (.iload_n 1, 1) := by decide +kernel
theorem dX11_taken_31 : decode cX11_taken 31 = .ok (.aaload, 1) := by decide +kernel
theorem dX11_taken_32 : decode cX11_taken 32 = .ok (.astore_n 3, 1) := by decide +kernel
theorem dX11_taken_33 : decode cX11_taken 33 = .ok (.aload_n 3, 1) := by decide +kernel
theorem dX11_taken_34 : decode cX11_taken 34 = .ok (.iload_n 2, 1) := by decide +kernel
theorem dX11_taken_35 : decode cX11_taken 35 = .ok (.invokevirtual 251, 3) := by decide +kernel
theorem dX11_taken_38 : decode cX11_taken 38 = .ok (.ifCond .eq 10, 3) := by decide +kernel
theorem dX11_taken_41 : decode cX11_taken 41 = .ok (.aload_n 3, 1) := by decide +kernel
theorem dX11_taken_42 : decode cX11_taken 42 = .ok (.getfield 254, 3) := by decide +kernel
theorem dX11_taken_45 : decode cX11_taken 45 = .ok (.goto 5, 3) := by decide +kernel
theorem dX11_taken_48 : decode cX11_taken 48 = .ok (.bipush (-13), 2) := by decide +kernel
theorem dX11_taken_50 : decode cX11_taken 50 = .ok (.ireturn, 1) := by decide +kernel
theorem dX11_outside_0 : decode cX11_outside 0 = .ok (.iload_n 0, 1) := by decide +kernel
theorem dX11_outside_1 : decode cX11_outside 1 = .ok (.ifCond .lt 8, 3) := by decide +kernel
theorem dX11_outside_4 : decode cX11_outside 4 = .ok (.iload_n 0, 1) := by decide +kernel
theorem dX11_outside_5 : decode cX11_outside 5 = .ok (.iload_n 1, 1) := by decide +kernel
theorem dX11_outside_6 : decode cX11_outside 6 = .ok (.if_icmp .lt 7, 3) := by decide +kernel
theorem dX11_outside_9 : decode cX11_outside 9 = .ok (.iconst 1, 1) := by decide +kernel
theorem dX11_outside_10 : decode cX11_outside 10 = .ok (.goto 4, 3) := by decide +kernel
theorem dX11_outside_13 : decode cX11_outside 13 = .ok (.iconst 0, 1) := by decide +kernel
theorem dX11_outside_14 : decode cX11_outside 14 = .ok (.ireturn, 1) := by decide +kernel
theorem dX11_truth_0 : decode cX11_truth 0 = .ok (.iload_n 0, 1) := by decide +kernel
theorem dX11_truth_1 : decode cX11_truth 1 = .ok (.ifCond .eq 7, 3) := by decide +kernel
theorem dX11_truth_4 : decode cX11_truth 4 = .ok (.iconst 1, 1) := by decide +kernel
theorem dX11_truth_5 : decode cX11_truth 5 = .ok (.goto 4, 3) := by decide +kernel
theorem dX11_truth_8 : decode cX11_truth 8 = .ok (.iconst 0, 1) := by decide +kernel
theorem dX11_truth_9 : decode cX11_truth 9 = .ok (.ireturn, 1) := by decide +kernel
theorem dX11_change_0 : decode cX11_change 0 = .ok (.iload_n 1, 1) := by decide +kernel
theorem dX11_change_1 : decode cX11_change 1 = .ok (.aload_n 0, 1) := by decide +kernel
theorem dX11_change_2 : decode cX11_change 2 = .ok (.arraylength, 1) := by decide +kernel
theorem dX11_change_3 : decode cX11_change 3 = .ok (.invokestatic 118, 3) := by decide +kernel
theorem dX11_change_6 : decode cX11_change 6 = .ok (.ifCond .ne 11, 3) := by decide +kernel
theorem dX11_change_9 : decode cX11_change 9 = .ok (.iload_n 2, 1) := by decide +kernel
theorem dX11_change_10 : decode cX11_change 10 = .ok (.iload_n 3, 1) := by decide +kernel
theorem dX11_change_11 : decode cX11_change 11 = .ok (.invokestatic 118, 3) := by decide +kernel
theorem dX11_change_14 : decode cX11_change 14 = .ok (.ifCond .eq 6, 3) := by decide +kernel
theorem dX11_change_17 : decode cX11_change 17 = .ok (.bipush (-2), 2) := by decide +kernel
theorem dX11_change_19 : decode cX11_change 19 = .ok (.ireturn, 1) := by decide +kernel
theorem dX11_change_20 : decode cX11_change 20 = .ok (.aload_n 0, 1) := by decide +kernel
theorem dX11_change_21 : decode cX11_change 21 = .ok (.iload_n 1, 1) := by decide +kernel
theorem dX11_change_22 : decode cX11_change 22 = .ok (.iaload, 1) := by decide +kernel
theorem dX11_change_23 : decode cX11_change 23 = .ok (.istore 4, 2) := by decide +kernel
theorem dX11_change_25 : decode cX11_change 25 = .ok (.aload_n 0, 1) := by decide +kernel
theorem dX11_change_26 : decode cX11_change 26 = .ok (.iload_n 1, 1) := by decide +kernel
theorem dX11_change_27 : decode cX11_change 27 = .ok (.iload_n 2, 1) := by decide +kernel
theorem dX11_change_28 : decode cX11_change 28 = .ok (.iastore, 1) := by decide +kernel
theorem dX11_change_29 : decode cX11_change 29 = .ok (.iload 4, 2) := by decide +kernel
theorem dX11_change_31 : decode cX11_change 31 = .ok (.ireturn, 1) := by decide +kernel
theorem dX11_sumOf_0 : decode cX11_sumOf 0 = .ok (.iconst 0, 1) := by decide +kernel
theorem dX11_sumOf_1 : decode cX11_sumOf 1 = .ok (.istore_n 2, 1) := by decide +kernel
theorem dX11_sumOf_2 : decode cX11_sumOf 2 = .ok (.iconst 0, 1) := by decide +kernel
theorem dX11_sumOf_3 : decode cX11_sumOf 3 = .ok (.istore_n 3, 1) := by decide +kernel
theorem dX11_sumOf_4 : decode cX11_sumOf 4 = .ok (.iload_n 3, 1) := by decide +kernel
theorem dX11_sumOf_5 : decode cX11_sumOf 5 = .ok (.iload_n 1, 1) := by decide +kernel
theorem dX11_sumOf_6 : decode cX11_sumOf 6 = .ok (.if_icmp .ge 21, 3) := by decide +kernel
theorem dX11_sumOf_9 : decode cX11_sumOf 9 = .ok (.iload_n 3, 1) := by decide +kernel
theorem dX11_sumOf_10 : decode cX11_sumOf 10 = .ok (.aload_n 0, 1) := by decide +kernel
theorem dX11_sumOf_11 : decode cX11_sumOf 11 = .ok (.arraylength, 1) := by decide +kernel
theorem dX11_sumOf_12 : decode cX11_sumOf 12 = .ok (.if_icmp .ge 15, 3) := by decide +kernel
theorem dX11_sumOf_15 : decode cX11_sumOf 15 = .ok (.iload_n 2, 1) := by decide +kernel
theorem dX11_sumOf_16 : decode cX11_sumOf 16 = .ok (.aload_n 0, 1) := by decide +kernel
theorem dX11_sumOf_17 : decode cX11_sumOf 17 = .ok (.iload_n 3, 1) := by decide +kernel
theorem dX11_sumOf_18 : decode cX11_sumOf 18 = .ok (.iaload, 1) := by decide +kernel
theorem dX11_sumOf_19 : decode cX11_sumOf 19 = .ok (.iadd, 1) := by decide +kernel
theorem dX11_sumOf_20 : decode cX11_sumOf 20 = .ok (.istore_n 2, 1) := by decide +kernel
theorem dX11_sumOf_21 : decode cX11_sumOf 21 = .ok (.iinc 3 1, 3) := by decide +kernel
theorem dX11_sumOf_24 : decode cX11_sumOf 24 = .ok (.goto (-20), 3) := by decide +kernel
theorem dX11_sumOf_27 : decode cX11_sumOf 27 = .ok (.iload_n 2, 1) := by decide +kernel
theorem dX11_sumOf_28 : decode cX11_sumOf 28 = .ok (.ireturn, 1) := by decide +kernel
theorem dX11_newSinger_0 : decode cX11_newSinger 0 = .ok (.iload_n 0, 1) := by decide +kernel
theorem dX11_newSinger_1 : decode cX11_newSinger 1 = .ok (.tableswitch 90 1 5 #[35, 46, 57, 68, 79], 35) := by decide +kernel
theorem dX11_newSinger_36 : decode cX11_newSinger 36 = .ok (.new 257, 3) := by decide +kernel
theorem dX11_newSinger_39 : decode cX11_newSinger 39 = .ok (.dup, 1) := by decide +kernel
theorem dX11_newSinger_40 : decode cX11_newSinger 40 = .ok (.iload_n 1, 1) := by decide +kernel
theorem dX11_newSinger_41 : decode cX11_newSinger 41 = .ok (.iload_n 2, 1) := by decide +kernel
theorem dX11_newSinger_42 : decode cX11_newSinger 42 = .ok (.iload_n 3, 1) := by decide +kernel
theorem dX11_newSinger_43 : decode cX11_newSinger 43 = .ok (.invokespecial 259, 3) := by decide +kernel
theorem dX11_newSinger_46 : decode cX11_newSinger 46 = .ok (.areturn, 1) := by decide +kernel
theorem dX11_newSinger_47 : decode cX11_newSinger 47 = .ok (.new 262, 3) := by decide +kernel
theorem dX11_newSinger_50 : decode cX11_newSinger 50 = .ok (.dup, 1) := by decide +kernel
theorem dX11_newSinger_51 : decode cX11_newSinger 51 = .ok (.iload_n 1, 1) := by decide +kernel
theorem dX11_newSinger_52 : decode cX11_newSinger 52 = .ok (.iload_n 2, 1) := by decide +kernel
theorem dX11_newSinger_53 : decode cX11_newSinger 53 = .ok (.iload_n 3, 1) := by decide +kernel
theorem dX11_newSinger_54 : decode cX11_newSinger 54 = .ok (.invokespecial 264, 3) := by decide +kernel
theorem dX11_newSinger_57 : decode cX11_newSinger 57 = .ok (.areturn, 1) := by decide +kernel
theorem dX11_newSinger_58 : decode cX11_newSinger 58 = .ok (.new 265, 3) := by decide +kernel
theorem dX11_newSinger_61 : decode cX11_newSinger 61 = .ok (.dup, 1) := by decide +kernel
theorem dX11_newSinger_62 : decode cX11_newSinger 62 = .ok (.iload_n 1, 1) := by decide +kernel
theorem dX11_newSinger_63 : decode cX11_newSinger 63 = .ok (.iload_n 2, 1) := by decide +kernel
theorem dX11_newSinger_64 : decode cX11_newSinger 64 = .ok (.iload_n 3, 1) := by decide +kernel
theorem dX11_newSinger_65 : decode cX11_newSinger 65 = .ok (.invokespecial 267, 3) := by decide +kernel
theorem dX11_newSinger_68 : decode cX11_newSinger 68 = .ok (.areturn, 1) := by decide +kernel
theorem dX11_newSinger_69 : decode cX11_newSinger 69 = .ok (.new 268, 3) := by decide +kernel
theorem dX11_newSinger_72 : decode cX11_newSinger 72 = .ok (.dup, 1) := by decide +kernel
theorem dX11_newSinger_73 : decode cX11_newSinger 73 = .ok (.iload_n 1, 1) := by decide +kernel
theorem dX11_newSinger_74 : decode cX11_newSinger 74 = .ok (.iload_n 2, 1) := by decide +kernel
theorem dX11_newSinger_75 : decode cX11_newSinger 75 = .ok (.iload_n 3, 1) := by decide +kernel
theorem dX11_newSinger_76 : decode cX11_newSinger 76 = .ok (.invokespecial 270, 3) := by decide +kernel
theorem dX11_newSinger_79 : decode cX11_newSinger 79 = .ok (.areturn, 1) := by decide +kernel
theorem dX11_newSinger_80 : decode cX11_newSinger 80 = .ok (.new 271, 3) := by decide +kernel
theorem dX11_newSinger_83 : decode cX11_newSinger 83 = .ok (.dup, 1) := by decide +kernel
theorem dX11_newSinger_84 : decode cX11_newSinger 84 = .ok (.iload_n 1, 1) := by decide +kernel
theorem dX11_newSinger_85 : decode cX11_newSinger 85 = .ok (.iload_n 2, 1) := by decide +kernel
theorem dX11_newSinger_86 : decode cX11_newSinger 86 = .ok (.iload_n 3, 1) := by decide +kernel
theorem dX11_newSinger_87 : decode cX11_newSinger 87 = .ok (.invokespecial 273, 3) := by decide +kernel
theorem dX11_newSinger_90 : decode cX11_newSinger 90 = .ok (.areturn, 1) := by decide +kernel
theorem dX11_newSinger_91 : decode cX11_newSinger 91 = .ok (.new 23, 3) := by decide +kernel
theorem dX11_newSinger_94 : decode cX11_newSinger 94 = .ok (.dup, 1) := by decide +kernel
theorem dX11_newSinger_95 : decode cX11_newSinger 95 = .ok (.iload_n 1, 1) := by decide +kernel
theorem dX11_newSinger_96 : decode cX11_newSinger 96 = .ok (.iload_n 2, 1) := by decide +kernel
theorem dX11_newSinger_97 : decode cX11_newSinger 97 = .ok (.iload_n 3, 1) := by decide +kernel
theorem dX11_newSinger_98 : decode cX11_newSinger 98 = .ok (.invokespecial 274, 3) := by decide +kernel
theorem dX11_newSinger_101 : decode cX11_newSinger 101 = .ok (.areturn, 1) := by decide +kernel
theorem dX11_keepText_0 : decode cX11_keepText 0 = .ok (.aload_n 1, 1) := by decide +kernel
theorem dX11_keepText_1 : decode cX11_keepText 1 = .ok (.ifnull 32, 3) := by decide +kernel
theorem dX11_keepText_4 : decode cX11_keepText 4 = .ok (.aload_n 0, 1) := by decide +kernel
theorem dX11_keepText_5 : decode cX11_keepText 5 = .ok (.getfield 45, 3) := by decide +kernel
theorem dX11_keepText_8 : decode cX11_keepText 8 = .ok (.bipush 6, 2) := by decide +kernel
theorem dX11_keepText_10 : decode cX11_keepText 10 = .ok (.if_icmp .ge 23, 3) := by decide +kernel
theorem dX11_keepText_13 : decode cX11_keepText 13 = .ok (.aload_n 0, 1) := by decide +kernel
theorem dX11_keepText_14 : decode cX11_keepText 14 = .ok (.getfield 41, 3) := by decide +kernel
theorem dX11_keepText_17 : decode cX11_keepText 17 = .ok (.aload_n 0, 1) := by decide +kernel
theorem dX11_keepText_18 : decode cX11_keepText 18 = .ok (.getfield 45, 3) := by decide +kernel
theorem dX11_keepText_21 : decode cX11_keepText 21 = .ok (.aload_n 1, 1) := by decide +kernel
theorem dX11_keepText_22 : decode cX11_keepText 22 = .ok (.aastore, 1) := by decide +kernel
theorem dX11_keepText_23 : decode cX11_keepText 23 = .ok (.aload_n 0, 1) := by decide +kernel
theorem dX11_keepText_24 : decode cX11_keepText 24 = .ok (.dup, 1) := by decide +kernel
theorem dX11_keepText_25 : decode cX11_keepText 25 = .ok (.getfield 45, 3) := by decide +kernel
theorem dX11_keepText_28 : decode cX11_keepText 28 = .ok (.iconst 1, 1) := by decide +kernel
theorem dX11_keepText_29 : decode cX11_keepText 29 = .ok (.iadd, 1) := by decide +kernel
theorem dX11_keepText_30 : decode cX11_keepText 30 = .ok (.putfield 45, 3) := by decide +kernel
theorem dX11_keepText_33 : decode cX11_keepText 33 = .ok (.return_, 1) := by decide +kernel
theorem dX11_isPlan_0 : decode cX11_isPlan 0 = .ok (.iload_n 0, 1) := by decide +kernel
theorem dX11_isPlan_1 : decode cX11_isPlan 1 = .ok (.iconst 2, 1) := by decide +kernel
theorem dX11_isPlan_2 : decode cX11_isPlan 2 = .ok (.if_icmp .lt 13, 3) := by decide +kernel
theorem dX11_isPlan_5 : decode cX11_isPlan 5 = .ok (.iload_n 0, 1) := by decide +kernel
theorem dX11_isPlan_6 : decode cX11_isPlan 6 = .ok (.bipush 6, 2) := by decide +kernel
theorem dX11_isPlan_8 : decode cX11_isPlan 8 = .ok (.if_icmp .ge 7, 3) := by decide +kernel
theorem dX11_isPlan_11 : decode cX11_isPlan 11 = .ok (.iconst 1, 1) := by decide +kernel
theorem dX11_isPlan_12 : decode cX11_isPlan 12 = .ok (.goto 4, 3) := by decide +kernel
theorem dX11_isPlan_15 : decode cX11_isPlan 15 = .ok (.iconst 0, 1) := by decide +kernel
theorem dX11_isPlan_16 : decode cX11_isPlan 16 = .ok (.ireturn, 1) := by decide +kernel
theorem dX11_isMissing_0 : decode cX11_isMissing 0 = .ok (.iload_n 1, 1) := by decide +kernel
theorem dX11_isMissing_1 : decode cX11_isMissing 1 = .ok (.invokestatic 275, 3) := by decide +kernel
theorem dX11_isMissing_4 : decode cX11_isMissing 4 = .ok (.ifCond .eq 21, 3) := by decide +kernel
theorem dX11_isMissing_7 : decode cX11_isMissing 7 = .ok (.aload_n 0, 1) := by decide +kernel
theorem dX11_isMissing_8 : decode cX11_isMissing 8 = .ok (.getfield 50, 3) := by decide +kernel
theorem dX11_isMissing_11 : decode cX11_isMissing 11 = .ok (.iload_n 1, 1) := by decide +kernel
theorem dX11_isMissing_12 : decode cX11_isMissing 12 = .ok (.iconst 2, 1) := by decide +kernel
theorem dX11_isMissing_13 : decode cX11_isMissing 13 = .ok (.isub, 1) := by decide +kernel
theorem dX11_isMissing_14 : decode cX11_isMissing 14 = .ok (.aaload, 1) := by decide +kernel
theorem dX11_isMissing_15 : decode cX11_isMissing 15 = .ok (.invokevirtual 208, 3) := by decide +kernel
theorem dX11_isMissing_18 : decode cX11_isMissing 18 = .ok (.ifCond .eq 7, 3) := by decide +kernel
theorem dX11_isMissing_21 : decode cX11_isMissing 21 = .ok (.iconst 1, 1) := by decide +kernel
theorem dX11_isMissing_22 : decode cX11_isMissing 22 = .ok (.goto 4, 3) := by decide +kernel
theorem dX11_isMissing_25 : decode cX11_isMissing 25 = .ok (.iconst 0, 1) := by decide +kernel
theorem dX11_isMissing_26 : decode cX11_isMissing 26 = .ok (.ireturn, 1) := by decide +kernel
theorem dX11_prepare_0 : decode cX11_prepare 0 = .ok (.aload_n 0, 1) := by decide +kernel
theorem dX11_prepare_1 : decode cX11_prepare 1 = .ok (.getfield 59, 3) := by decide +kernel
theorem dX11_prepare_4 : decode cX11_prepare 4 = .ok (.iload_n 1, 1) := by decide +kernel
theorem dX11_prepare_5 : decode cX11_prepare 5 = .ok (.aload_n 0, 1) := by decide +kernel
theorem dX11_prepare_6 : decode cX11_prepare 6 = .ok (.getfield 29, 3) := by decide +kernel
theorem dX11_prepare_9 : decode cX11_prepare 9 = .ok (.aload_n 0, 1) := by decide +kernel
theorem dX11_prepare_10 : decode cX11_prepare 10 = .ok (.getfield 41, 3) := by decide +kernel
theorem dX11_prepare_13 : decode cX11_prepare 13 = .ok (.aload_n 0, 1) := by decide +kernel
theorem dX11_prepare_14 : decode cX11_prepare 14 = .ok (.getfield 10, 3) := by decide +kernel
theorem dX11_prepare_17 : decode cX11_prepare 17 = .ok (.getfield 158, 3) := by decide +kernel
theorem dX11_prepare_20 : decode cX11_prepare 20 = .ok (.aaload, 1) := by decide +kernel
theorem dX11_prepare_21 : decode cX11_prepare 21 = .ok (.invokevirtual 278, 3) := by decide +kernel
theorem dX11_prepare_24 : decode cX11_prepare 24 = .ok (.iload_n 1, 1) := by decide +kernel
theorem dX11_prepare_25 : decode cX11_prepare 25 = .ok (.invokestatic 275, 3) := by decide +kernel
theorem dX11_prepare_28 : decode cX11_prepare 28 = .ok (.ifCond .eq 18, 3) := by decide +kernel
theorem dX11_prepare_31 : decode cX11_prepare 31 = .ok (.aload_n 0, 1) := by decide +kernel
theorem dX11_prepare_32 : decode cX11_prepare 32 = .ok (.getfield 59, 3) := by decide +kernel
theorem dX11_prepare_35 : decode cX11_prepare 35 = .ok (.aload_n 0, 1) := by decide +kernel
theorem dX11_prepare_36 : decode cX11_prepare 36 = .ok (.getfield 50, 3) := by decide +kernel
theorem dX11_prepare_39 : decode cX11_prepare 39 = .ok (.iload_n 1, 1) := by decide +kernel
theorem dX11_prepare_40 : decode cX11_prepare 40 = .ok (.iconst 2, 1) := by decide +kernel
theorem dX11_prepare_41 : decode cX11_prepare 41 = .ok (.isub, 1) := by decide +kernel
theorem dX11_prepare_42 : decode cX11_prepare 42 = .ok (.aaload, 1) := by decide +kernel
theorem dX11_prepare_43 : decode cX11_prepare 43 = .ok (.invokevirtual 282, 3) := by decide +kernel
theorem dX11_prepare_46 : decode cX11_prepare 46 = .ok (.aload_n 0, 1) := by decide +kernel
theorem dX11_prepare_47 : decode cX11_prepare 47 = .ok (.getfield 59, 3) := by decide +kernel
theorem dX11_prepare_50 : decode cX11_prepare 50 = .ok (.invokevirtual 286, 3) := by decide +kernel
theorem dX11_prepare_53 : decode cX11_prepare 53 = .ok (.return_, 1) := by decide +kernel
theorem dX11_perform_0 : decode cX11_perform 0 = .ok (.aload_n 0, 1) := by decide +kernel
theorem dX11_perform_1 : decode cX11_perform 1 = .ok (.iload_n 1, 1) := by decide +kernel
theorem dX11_perform_2 : decode cX11_perform 2 = .ok (.invokevirtual 174, 3) := by decide +kernel
theorem dX11_perform_5 : decode cX11_perform 5 = .ok (.iconst 0, 1) := by decide +kernel
theorem dX11_perform_6 : decode cX11_perform 6 = .ok (.istore_n 3, 1) := by decide +kernel
theorem dX11_perform_7 : decode cX11_perform 7 = .ok (.iload_n 3, 1) := by decide +kernel
theorem dX11_perform_8 : decode cX11_perform 8 = .ok (.iload_n 2, 1) := by decide +kernel
theorem dX11_perform_9 : decode cX11_perform 9 = .ok (.if_icmp .gt 37, 3) := by decide +kernel
theorem dX11_perform_12 : decode cX11_perform 12 = .ok (.iload_n 3, 1) := by decide +kernel
theorem dX11_perform_13 : decode cX11_perform 13 = .ok (.aload_n 0, 1) := by decide +kernel
theorem dX11_perform_14 : decode cX11_perform 14 = .ok (.getfield 10, 3) := by decide +kernel
theorem dX11_perform_17 : decode cX11_perform 17 = .ok (.getfield 115, 3) := by decide +kernel
theorem dX11_perform_20 : decode cX11_perform 20 = .ok (.if_icmp .ge 26, 3) := by decide +kernel
theorem dX11_perform_23 : decode cX11_perform 23 = .ok (.aload_n 0, 1) := by decide +kernel
theorem dX11_perform_24 : decode cX11_perform 24 = .ok (.getfield 59, 3) := by decide +kernel
theorem dX11_perform_27 : decode cX11_perform 27 = .ok (.iload_n 3, 1) := by decide +kernel
theorem dX11_perform_28 : decode cX11_perform 28 = .ok (.aload_n 0, 1) := by decide +kernel
theorem dX11_perform_29 : decode cX11_perform 29 = .ok (.getfield 10, 3) := by decide +kernel
theorem dX11_perform_32 : decode cX11_perform 32 = .ok (.getfield 98, 3) := by decide +kernel
theorem dX11_perform_35 : decode cX11_perform 35 = .ok (.iload_n 3, 1) := by decide +kernel
theorem dX11_perform_36 : decode cX11_perform 36 = .ok (.iaload, 1) := by decide +kernel
theorem dX11_perform_37 : decode cX11_perform 37 = .ok (.invokevirtual 177, 3) := by decide +kernel
theorem dX11_perform_40 : decode cX11_perform 40 = .ok (.iinc 3 1, 3) := by decide +kernel
theorem dX11_perform_43 : decode cX11_perform 43 = .ok (.goto (-36), 3) := by decide +kernel
theorem dX11_perform_46 : decode cX11_perform 46 = .ok (.return_, 1) := by decide +kernel
theorem dX11_earlierLike_0 : decode cX11_earlierLike 0 = .ok (.iconst 0, 1) := by decide +kernel
theorem dX11_earlierLike_1 : decode cX11_earlierLike 1 = .ok (.istore_n 2, 1) := by decide +kernel
theorem dX11_earlierLike_2 : decode cX11_earlierLike 2 = .ok (.iload_n 2, 1) := by decide +kernel
theorem dX11_earlierLike_3 : decode cX11_earlierLike 3 = .ok (.iload_n 1, 1) := by decide +kernel
theorem dX11_earlierLike_4 : decode cX11_earlierLike 4 = .ok (.if_icmp .ge 43, 3) := by decide +kernel
theorem dX11_earlierLike_7 : decode cX11_earlierLike 7 = .ok (.aload_n 0, 1) := by decide +kernel
theorem dX11_earlierLike_8 : decode cX11_earlierLike 8 = .ok (.getfield 63, 3) := by decide +kernel
theorem dX11_earlierLike_11 : decode cX11_earlierLike 11 = .ok (.iload_n 2, 1) := by decide +kernel
theorem dX11_earlierLike_12 : decode cX11_earlierLike 12 = .ok (.laload, 1) := by decide +kernel
theorem dX11_earlierLike_13 : decode cX11_earlierLike 13 = .ok (.aload_n 0, 1) := by decide +kernel
theorem dX11_earlierLike_14 : decode cX11_earlierLike 14 = .ok (.getfield 63, 3) := by decide +kernel
theorem dX11_earlierLike_17 : decode cX11_earlierLike 17 = .ok (.iload_n 1, 1) := by decide +kernel
theorem dX11_earlierLike_18 : decode cX11_earlierLike 18 = .ok (.laload, 1) := by decide +kernel
theorem dX11_earlierLike_19 : decode cX11_earlierLike 19 = .ok (.lcmp, 1) := by decide +kernel
theorem dX11_earlierLike_20 : decode cX11_earlierLike 20 = .ok (.ifCond .ne 21, 3) := by decide +kernel
theorem dX11_earlierLike_23 : decode cX11_earlierLike 23 = .ok (.aload_n 0, 1) := by decide +kernel
theorem dX11_earlierLike_24 : decode cX11_earlierLike 24 = .ok (.getfield 67, 3) := by decide +kernel
theorem dX11_earlierLike_27 : decode cX11_earlierLike 27 = .ok (.iload_n 2, 1) := by decide +kernel
theorem dX11_earlierLike_28 : decode cX11_earlierLike 28 = .ok (.laload, 1) := by decide +kernel
theorem dX11_earlierLike_29 : decode cX11_earlierLike 29 = .ok (.aload_n 0, 1) := by decide +kernel
theorem dX11_earlierLike_30 : decode cX11_earlierLike 30 = .ok (.getfield 67, 3) := by decide +kernel
theorem dX11_earlierLike_33 : decode cX11_earlierLike 33 = .ok (.iload_n 1, 1) := by decide +kernel
theorem dX11_earlierLike_34 : decode cX11_earlierLike 34 = .ok (.laload, 1) := by decide +kernel
theorem dX11_earlierLike_35 : decode cX11_earlierLike 35 = .ok (.lcmp, 1) := by decide +kernel
theorem dX11_earlierLike_36 : decode cX11_earlierLike 36 = .ok (.ifCond .ne 5, 3) := by decide +kernel
theorem dX11_earlierLike_39 : decode cX11_earlierLike 39 = .ok (.iload_n 2, 1) := by decide +kernel
theorem dX11_earlierLike_40 : decode cX11_earlierLike 40 = .ok (.ireturn, 1) := by decide +kernel
theorem dX11_earlierLike_41 : decode cX11_earlierLike 41 = .ok (.iinc 2 1, 3) := by decide +kernel
theorem dX11_earlierLike_44 : decode cX11_earlierLike 44 = .ok (.goto (-42), 3) := by decide +kernel
theorem dX11_earlierLike_47 : decode cX11_earlierLike 47 = .ok (.iconst (-1), 1) := by decide +kernel
theorem dX11_earlierLike_48 : decode cX11_earlierLike 48 = .ok (.ireturn, 1) := by decide +kernel
theorem dX12_init_0 : decode cX12_init 0 = .ok (.aload_n 0, 1) := by decide +kernel
theorem dX12_init_1 : decode cX12_init 1 = .ok (.invokespecial 1, 3) := by decide +kernel
theorem dX12_init_4 : decode cX12_init 4 = .ok (.aload_n 0, 1) := by decide +kernel
theorem dX12_init_5 : decode cX12_init 5 = .ok (.bipush 24, 2) := by decide +kernel
theorem dX12_init_7 : decode cX12_init 7 = .ok (.putfield 7, 3) := by decide +kernel
theorem dX12_init_10 : decode cX12_init 10 = .ok (.aload_n 0, 1) := by decide +kernel
theorem dX12_init_11 : decode cX12_init 11 = .ok (.bipush 48, 2) := by decide +kernel
theorem dX12_init_13 : decode cX12_init 13 = .ok (.newarray .int, 2) := by decide +kernel
theorem dX12_init_15 : decode cX12_init 15 = .ok (.dup, 1) := by decide +kernel
theorem dX12_init_16 : decode cX12_init 16 = .ok (.iconst 0, 1) := by decide +kernel
theorem dX12_init_17 : decode cX12_init 17 = .ok (.iconst 3, 1) := by decide +kernel
theorem dX12_init_18 : decode cX12_init 18 = .ok (.iastore, 1) := by decide +kernel
theorem dX12_init_19 : decode cX12_init 19 = .ok (.dup, 1) := by decide +kernel
theorem dX12_init_20 : decode cX12_init 20 = .ok (.iconst 1, 1) := by decide +kernel
theorem dX12_init_21 : decode cX12_init 21 = .ok (.iconst 3, 1) := by decide +kernel
theorem dX12_init_22 : decode cX12_init 22 = .ok (.iastore, 1) := by decide +kernel
theorem dX12_init_23 : decode cX12_init 23 = .ok (.dup, 1) := by decide +kernel
theorem dX12_init_24 : decode cX12_init 24 = .ok (.iconst 2, 1) := by decide +kernel
theorem dX12_init_25 : decode cX12_init 25 = .ok (.iconst 3, 1) := by decide +kernel
theorem dX12_init_26 : decode cX12_init 26 = .ok (.iastore, 1) := by decide +kernel
theorem dX12_init_27 : decode cX12_init 27 = .ok (.dup, 1) := by decide +kernel
theorem dX12_init_28 : decode cX12_init 28 = .ok (.iconst 3, 1) := by decide +kernel
theorem dX12_init_29 : decode cX12_init 29 = .ok (.iconst 3, 1) := by decide +kernel
theorem dX12_init_30 : decode cX12_init 30 = .ok (.iastore, 1) := by decide +kernel
theorem dX12_init_31 : decode cX12_init 31 = .ok (.dup, 1) := by decide +kernel
theorem dX12_init_32 : decode cX12_init 32 = .ok (.iconst 4, 1) := by decide +kernel
theorem dX12_init_33 : decode cX12_init 33 = .ok (.iconst 3, 1) := by decide +kernel
theorem dX12_init_34 : decode cX12_init 34 = .ok (.iastore, 1) := by decide +kernel
theorem dX12_init_35 : decode cX12_init 35 = .ok (.dup, 1) := by decide +kernel
theorem dX12_init_36 : decode cX12_init 36 = .ok (.iconst 5, 1) := by decide +kernel
theorem dX12_init_37 : decode cX12_init 37 = .ok (.iconst 3, 1) := by decide +kernel
theorem dX12_init_38 : decode cX12_init 38 = .ok (.iastore, 1) := by decide +kernel
theorem dX12_init_39 : decode cX12_init 39 = .ok (.dup, 1) := by decide +kernel
theorem dX12_init_40 : decode cX12_init 40 = .ok (.bipush 6, 2) := by decide +kernel
theorem dX12_init_42 : decode cX12_init 42 = .ok (.iconst 3, 1) := by decide +kernel
theorem dX12_init_43 : decode cX12_init 43 = .ok (.iastore, 1) := by decide +kernel
theorem dX12_init_44 : decode cX12_init 44 = .ok (.dup, 1) := by decide +kernel
theorem dX12_init_45 : decode cX12_init 45 = .ok (.bipush 7, 2) := by decide +kernel
theorem dX12_init_47 : decode cX12_init 47 = .ok (.iconst 3, 1) := by decide +kernel
theorem dX12_init_48 : decode cX12_init 48 = .ok (.iastore, 1) := by decide +kernel
theorem dX12_init_49 : decode cX12_init 49 = .ok (.dup, 1) := by decide +kernel
theorem dX12_init_50 : decode cX12_init 50 = .ok (.bipush 8, 2) := by decide +kernel
theorem dX12_init_52 : decode cX12_init 52 = .ok (.iconst 3, 1) := by decide +kernel
theorem dX12_init_53 : decode cX12_init 53 = .ok (.iastore, 1) := by decide +kernel
theorem dX12_init_54 : decode cX12_init 54 = .ok (.dup, 1) := by decide +kernel
theorem dX12_init_55 : decode cX12_init 55 = .ok (.bipush 9, 2) := by decide +kernel
theorem dX12_init_57 : decode cX12_init 57 = .ok (.iconst 3, 1) := by decide +kernel
theorem dX12_init_58 : decode cX12_init 58 = .ok (.iastore, 1) := by decide +kernel
theorem dX12_init_59 : decode cX12_init 59 = .ok (.dup, 1) := by decide +kernel
theorem dX12_init_60 : decode cX12_init 60 = .ok (.bipush 10, 2) := by decide +kernel
theorem dX12_init_62 : decode cX12_init 62 = .ok (.iconst 3, 1) := by decide +kernel
theorem dX12_init_63 : decode cX12_init 63 = .ok (.iastore, 1) := by decide +kernel
theorem dX12_init_64 : decode cX12_init 64 = .ok (.dup, 1) := by decide +kernel
theorem dX12_init_65 : decode cX12_init 65 = .ok (.bipush 11, 2) := by decide +kernel
theorem dX12_init_67 : decode cX12_init 67 = .ok (.iconst 3, 1) := by decide +kernel
theorem dX12_init_68 : decode cX12_init 68 = .ok (.iastore, 1) := by decide +kernel
theorem dX12_init_69 : decode cX12_init 69 = .ok (.dup, 1) := by decide +kernel
theorem dX12_init_70 : decode cX12_init 70 = .ok (.bipush 12, 2) := by decide +kernel
theorem dX12_init_72 : decode cX12_init 72 = .ok (.iconst 3, 1) := by decide +kernel
theorem dX12_init_73 : decode cX12_init 73 = .ok (.iastore, 1) := by decide +kernel
theorem dX12_init_74 : decode cX12_init 74 = .ok (.dup, 1) := by decide +kernel
theorem dX12_init_75 : decode cX12_init 75 = .ok (.bipush 13, 2) := by decide +kernel
theorem dX12_init_77 : decode cX12_init 77 = .ok (.iconst 3, 1) := by decide +kernel
theorem dX12_init_78 : decode cX12_init 78 = .ok (.iastore, 1) := by decide +kernel
theorem dX12_init_79 : decode cX12_init 79 = .ok (.dup, 1) := by decide +kernel
theorem dX12_init_80 : decode cX12_init 80 = .ok (.bipush 14, 2) := by decide +kernel
theorem dX12_init_82 : decode cX12_init 82 = .ok (.iconst 3, 1) := by decide +kernel
theorem dX12_init_83 : decode cX12_init 83 = .ok (.iastore, 1) := by decide +kernel
theorem dX12_init_84 : decode cX12_init 84 = .ok (.dup, 1) := by decide +kernel
theorem dX12_init_85 : decode cX12_init 85 = .ok (.bipush 15, 2) := by decide +kernel
theorem dX12_init_87 : decode cX12_init 87 = .ok (.iconst 3, 1) := by decide +kernel
theorem dX12_init_88 : decode cX12_init 88 = .ok (.iastore, 1) := by decide +kernel
theorem dX12_init_89 : decode cX12_init 89 = .ok (.dup, 1) := by decide +kernel
theorem dX12_init_90 : decode cX12_init 90 = .ok (.bipush 16, 2) := by decide +kernel
theorem dX12_init_92 : decode cX12_init 92 = .ok (.iconst 3, 1) := by decide +kernel
theorem dX12_init_93 : decode cX12_init 93 = .ok (.iastore, 1) := by decide +kernel
theorem dX12_init_94 : decode cX12_init 94 = .ok (.dup, 1) := by decide +kernel
theorem dX12_init_95 : decode cX12_init 95 = .ok (.bipush 17, 2) := by decide +kernel
theorem dX12_init_97 : decode cX12_init 97 = .ok (.iconst 3, 1) := by decide +kernel
theorem dX12_init_98 : decode cX12_init 98 = .ok (.iastore, 1) := by decide +kernel
theorem dX12_init_99 : decode cX12_init 99 = .ok (.dup, 1) := by decide +kernel
theorem dX12_init_100 : decode cX12_init 100 = .ok (.bipush 18, 2) := by decide +kernel
theorem dX12_init_102 : decode cX12_init 102 = .ok (.iconst 3, 1) := by decide +kernel
theorem dX12_init_103 : decode cX12_init 103 = .ok (.iastore, 1) := by decide +kernel
theorem dX12_init_104 : decode cX12_init 104 = .ok (.dup, 1) := by decide +kernel
theorem dX12_init_105 : decode cX12_init 105 = .ok (.bipush 19, 2) := by decide +kernel
theorem dX12_init_107 : decode cX12_init 107 = .ok (.iconst 3, 1) := by decide +kernel
theorem dX12_init_108 : decode cX12_init 108 = .ok (.iastore, 1) := by decide +kernel
theorem dX12_init_109 : decode cX12_init 109 = .ok (.dup, 1) := by decide +kernel
theorem dX12_init_110 : decode cX12_init 110 = .ok (.bipush 20, 2) := by decide +kernel
theorem dX12_init_112 : decode cX12_init 112 = .ok (.iconst 3, 1) := by decide +kernel
theorem dX12_init_113 : decode cX12_init 113 = .ok (.iastore, 1) := by decide +kernel
theorem dX12_init_114 : decode cX12_init 114 = .ok (.dup, 1) := by decide +kernel
theorem dX12_init_115 : decode cX12_init 115 = .ok (.bipush 21, 2) := by decide +kernel
theorem dX12_init_117 : decode cX12_init 117 = .ok (.iconst 3, 1) := by decide +kernel
theorem dX12_init_118 : decode cX12_init 118 = .ok (.iastore, 1) := by decide +kernel
theorem dX12_init_119 : decode cX12_init 119 = .ok (.dup, 1) := by decide +kernel
theorem dX12_init_120 : decode cX12_init 120 = .ok (.bipush 22, 2) := by decide +kernel
theorem dX12_init_122 : decode cX12_init 122 = .ok (.iconst 3, 1) := by decide +kernel
theorem dX12_init_123 : decode cX12_init 123 = .ok (.iastore, 1) := by decide +kernel
theorem dX12_init_124 : decode cX12_init 124 = .ok (.dup, 1) := by decide +kernel
theorem dX12_init_125 : decode cX12_init 125 = .ok (.bipush 23, 2) := by decide +kernel
theorem dX12_init_127 : decode cX12_init 127 = .ok (.iconst 3, 1) := by decide +kernel
theorem dX12_init_128 : decode cX12_init 128 = .ok (.iastore, 1) := by decide +kernel
theorem dX12_init_129 : decode cX12_init 129 = .ok (.dup, 1) := by decide +kernel
theorem dX12_init_130 : decode cX12_init 130 = .ok (.bipush 24, 2) := by decide +kernel
theorem dX12_init_132 : decode cX12_init 132 = .ok (.iconst 3, 1) := by decide +kernel
theorem dX12_init_133 : decode cX12_init 133 = .ok (.iastore, 1) := by decide +kernel
theorem dX12_init_134 : decode cX12_init 134 = .ok (.dup, 1) := by decide +kernel
theorem dX12_init_135 : decode cX12_init 135 = .ok (.bipush 25, 2) := by decide +kernel
theorem dX12_init_137 : decode cX12_init 137 = .ok (.iconst 3, 1) := by decide +kernel
theorem dX12_init_138 : decode cX12_init 138 = .ok (.iastore, 1) := by decide +kernel
theorem dX12_init_139 : decode cX12_init 139 = .ok (.dup, 1) := by decide +kernel
theorem dX12_init_140 : decode cX12_init 140 = .ok (.bipush 26, 2) := by decide +kernel
theorem dX12_init_142 : decode cX12_init 142 = .ok (.iconst 3, 1) := by decide +kernel
theorem dX12_init_143 : decode cX12_init 143 = .ok (.iastore, 1) := by decide +kernel
theorem dX12_init_144 : decode cX12_init 144 = .ok (.dup, 1) := by decide +kernel
theorem dX12_init_145 : decode cX12_init 145 = .ok (.bipush 27, 2) := by decide +kernel
theorem dX12_init_147 : decode cX12_init 147 = .ok (.iconst 3, 1) := by decide +kernel
theorem dX12_init_148 : decode cX12_init 148 = .ok (.iastore, 1) := by decide +kernel
theorem dX12_init_149 : decode cX12_init 149 = .ok (.dup, 1) := by decide +kernel
theorem dX12_init_150 : decode cX12_init 150 = .ok (.bipush 28, 2) := by decide +kernel
theorem dX12_init_152 : decode cX12_init 152 = .ok (.iconst 3, 1) := by decide +kernel
theorem dX12_init_153 : decode cX12_init 153 = .ok (.iastore, 1) := by decide +kernel
theorem dX12_init_154 : decode cX12_init 154 = .ok (.dup, 1) := by decide +kernel
theorem dX12_init_155 : decode cX12_init 155 = .ok (.bipush 29, 2) := by decide +kernel
theorem dX12_init_157 : decode cX12_init 157 = .ok (.iconst 3, 1) := by decide +kernel
theorem dX12_init_158 : decode cX12_init 158 = .ok (.iastore, 1) := by decide +kernel
theorem dX12_init_159 : decode cX12_init 159 = .ok (.dup, 1) := by decide +kernel
theorem dX12_init_160 : decode cX12_init 160 = .ok (.bipush 30, 2) := by decide +kernel
theorem dX12_init_162 : decode cX12_init 162 = .ok (.iconst 3, 1) := by decide +kernel
theorem dX12_init_163 : decode cX12_init 163 = .ok (.iastore, 1) := by decide +kernel
theorem dX12_init_164 : decode cX12_init 164 = .ok (.dup, 1) := by decide +kernel
theorem dX12_init_165 : decode cX12_init 165 = .ok (.bipush 31, 2) := by decide +kernel
theorem dX12_init_167 : decode cX12_init 167 = .ok (.iconst 3, 1) := by decide +kernel
theorem dX12_init_168 : decode cX12_init 168 = .ok (.iastore, 1) := by decide +kernel
theorem dX12_init_169 : decode cX12_init 169 = .ok (.dup, 1) := by decide +kernel
theorem dX12_init_170 : decode cX12_init 170 = .ok (.bipush 32, 2) := by decide +kernel
theorem dX12_init_172 : decode cX12_init 172 = .ok (.iconst 3, 1) := by decide +kernel
theorem dX12_init_173 : decode cX12_init 173 = .ok (.iastore, 1) := by decide +kernel
theorem dX12_init_174 : decode cX12_init 174 = .ok (.dup, 1) := by decide +kernel
theorem dX12_init_175 : decode cX12_init 175 = .ok (.bipush 33, 2) := by decide +kernel
theorem dX12_init_177 : decode cX12_init 177 = .ok (.iconst 3, 1) := by decide +kernel
theorem dX12_init_178 : decode cX12_init 178 = .ok (.iastore, 1) := by decide +kernel
theorem dX12_init_179 : decode cX12_init 179 = .ok (.dup, 1) := by decide +kernel
theorem dX12_init_180 : decode cX12_init 180 = .ok (.bipush 34, 2) := by decide +kernel
theorem dX12_init_182 : decode cX12_init 182 = .ok (.iconst 3, 1) := by decide +kernel
theorem dX12_init_183 : decode cX12_init 183 = .ok (.iastore, 1) := by decide +kernel
theorem dX12_init_184 : decode cX12_init 184 = .ok (.dup, 1) := by decide +kernel
theorem dX12_init_185 : decode cX12_init 185 = .ok (.bipush 35, 2) := by decide +kernel
theorem dX12_init_187 : decode cX12_init 187 = .ok (.iconst 3, 1) := by decide +kernel
theorem dX12_init_188 : decode cX12_init 188 = .ok (.iastore, 1) := by decide +kernel
theorem dX12_init_189 : decode cX12_init 189 = .ok (.dup, 1) := by decide +kernel
theorem dX12_init_190 : decode cX12_init 190 = .ok (.bipush 36, 2) := by decide +kernel
theorem dX12_init_192 : decode cX12_init 192 = .ok (.iconst 3, 1) := by decide +kernel
theorem dX12_init_193 : decode cX12_init 193 = .ok (.iastore, 1) := by decide +kernel
theorem dX12_init_194 : decode cX12_init 194 = .ok (.dup, 1) := by decide +kernel
theorem dX12_init_195 : decode cX12_init 195 = .ok (.bipush 37, 2) := by decide +kernel
theorem dX12_init_197 : decode cX12_init 197 = .ok (.iconst 3, 1) := by decide +kernel
theorem dX12_init_198 : decode cX12_init 198 = .ok (.iastore, 1) := by decide +kernel
theorem dX12_init_199 : decode cX12_init 199 = .ok (.dup, 1) := by decide +kernel
theorem dX12_init_200 : decode cX12_init 200 = .ok (.bipush 38, 2) := by decide +kernel
theorem dX12_init_202 : decode cX12_init 202 = .ok (.iconst 3, 1) := by decide +kernel
theorem dX12_init_203 : decode cX12_init 203 = .ok (.iastore, 1) := by decide +kernel
theorem dX12_init_204 : decode cX12_init 204 = .ok (.dup, 1) := by decide +kernel
theorem dX12_init_205 : decode cX12_init 205 = .ok (.bipush 39, 2) := by decide +kernel
theorem dX12_init_207 : decode cX12_init 207 = .ok (.iconst 3, 1) := by decide +kernel
theorem dX12_init_208 : decode cX12_init 208 = .ok (.iastore, 1) := by decide +kernel
theorem dX12_init_209 : decode cX12_init 209 = .ok (.dup, 1) := by decide +kernel
theorem dX12_init_210 : decode cX12_init 210 = .ok (.bipush 40, 2) := by decide +kernel
theorem dX12_init_212 : decode cX12_init 212 = .ok (.iconst 3, 1) := by decide +kernel
theorem dX12_init_213 : decode cX12_init 213 = .ok (.iastore, 1) := by decide +kernel
theorem dX12_init_214 : decode cX12_init 214 = .ok (.dup, 1) := by decide +kernel
theorem dX12_init_215 : decode cX12_init 215 = .ok (.bipush 41, 2) := by decide +kernel
theorem dX12_init_217 : decode cX12_init 217 = .ok (.iconst 3, 1) := by decide +kernel
theorem dX12_init_218 : decode cX12_init 218 = .ok (.iastore, 1) := by decide +kernel
theorem dX12_init_219 : decode cX12_init 219 = .ok (.dup, 1) := by decide +kernel
theorem dX12_init_220 : decode cX12_init 220 = .ok (.bipush 42, 2) := by decide +kernel
theorem dX12_init_222 : decode cX12_init 222 = .ok (.iconst 3, 1) := by decide +kernel
theorem dX12_init_223 : decode cX12_init 223 = .ok (.iastore, 1) := by decide +kernel
theorem dX12_init_224 : decode cX12_init 224 = .ok (.dup, 1) := by decide +kernel
theorem dX12_init_225 : decode cX12_init 225 = .ok (.bipush 43, 2) := by decide +kernel
theorem dX12_init_227 : decode cX12_init 227 = .ok (.iconst 3, 1) := by decide +kernel
theorem dX12_init_228 : decode cX12_init 228 = .ok (.iastore, 1) := by decide +kernel
theorem dX12_init_229 : decode cX12_init 229 = .ok (.dup, 1) := by decide +kernel
theorem dX12_init_230 : decode cX12_init 230 = .ok (.bipush 44, 2) := by decide +kernel
theorem dX12_init_232 : decode cX12_init 232 = .ok (.iconst 3, 1) := by decide +kernel
theorem dX12_init_233 : decode cX12_init 233 = .ok (.iastore, 1) := by decide +kernel
theorem dX12_init_234 : decode cX12_init 234 = .ok (.dup, 1) := by decide +kernel
theorem dX12_init_235 : decode cX12_init 235 = .ok (.bipush 45, 2) := by decide +kernel
theorem dX12_init_237 : decode cX12_init 237 = .ok (.iconst 3, 1) := by decide +kernel
theorem dX12_init_238 : decode cX12_init 238 = .ok (.iastore, 1) := by decide +kernel
theorem dX12_init_239 : decode cX12_init 239 = .ok (.dup, 1) := by decide +kernel
theorem dX12_init_240 : decode cX12_init 240 = .ok (.bipush 46, 2) := by decide +kernel
theorem dX12_init_242 : decode cX12_init 242 = .ok (.iconst 3, 1) := by decide +kernel
theorem dX12_init_243 : decode cX12_init 243 = .ok (.iastore, 1) := by decide +kernel
theorem dX12_init_244 : decode cX12_init 244 = .ok (.dup, 1) := by decide +kernel
theorem dX12_init_245 : decode cX12_init 245 = .ok (.bipush 47, 2) := by decide +kernel
theorem dX12_init_247 : decode cX12_init 247 = .ok (.iconst 3, 1) := by decide +kernel
theorem dX12_init_248 : decode cX12_init 248 = .ok (.iastore, 1) := by decide +kernel
theorem dX12_init_249 : decode cX12_init 249 = .ok (.putfield 13, 3) := by decide +kernel
theorem dX12_init_252 : decode cX12_init 252 = .ok (.aload_n 0, 1) := by decide +kernel
theorem dX12_init_253 : decode cX12_init 253 = .ok (.bipush 48, 2) := by decide +kernel
theorem dX12_init_255 : decode cX12_init 255 = .ok (.newarray .int, 2) := by decide +kernel
theorem dX12_init_257 : decode cX12_init 257 = .ok (.putfield 17, 3) := by decide +kernel
theorem dX12_init_260 : decode cX12_init 260 = .ok (.aload_n 0, 1) := by decide +kernel
theorem dX12_init_261 : decode cX12_init 261 = .ok (.bipush 48, 2) := by decide +kernel
theorem dX12_init_263 : decode cX12_init 263 = .ok (.newarray .int, 2) := by decide +kernel
theorem dX12_init_265 : decode cX12_init 265 = .ok (.putfield 20, 3) := by decide +kernel
theorem dX12_init_268 : decode cX12_init 268 = .ok (.aload_n 0, 1) := by decide +kernel
theorem dX12_init_269 : decode cX12_init 269 = .ok (.iconst 4, 1) := by decide +kernel
theorem dX12_init_270 : decode cX12_init 270 = .ok (.newarray .int, 2) := by decide +kernel
theorem dX12_init_272 : decode cX12_init 272 = .ok (.putfield 23, 3) := by decide +kernel
theorem dX12_init_275 : decode cX12_init 275 = .ok (.aload_n 0, 1) := by decide +kernel
theorem dX12_init_276 : decode cX12_init 276 = .ok (.bipush 10, 2) := by decide +kernel
theorem dX12_init_278 : decode cX12_init 278 = .ok (.newarray .int, 2) := by decide +kernel
theorem dX12_init_280 : decode cX12_init 280 = .ok (.putfield 26, 3) := by decide +kernel
theorem dX12_init_283 : decode cX12_init 283 = .ok (.aload_n 0, 1) := by decide +kernel
theorem dX12_init_284 : decode cX12_init 284 = .ok (.bipush 10, 2) := by decide +kernel
theorem dX12_init_286 : decode cX12_init 286 = .ok (.newarray .int, 2) := by decide +kernel
theorem dX12_init_288 : decode cX12_init 288 = .ok (.putfield 29, 3) := by decide +kernel
theorem dX12_init_291 : decode cX12_init 291 = .ok (.aload_n 0, 1) := by decide +kernel
theorem dX12_init_292 : decode cX12_init 292 = .ok (.bipush 10, 2) := by decide +kernel
theorem dX12_init_294 : decode cX12_init 294 = .ok (.newarray .int, 2) := by decide +kernel
theorem dX12_init_296 : decode cX12_init 296 = .ok (.putfield 32, 3) := by decide +kernel
theorem dX12_init_299 : decode cX12_init 299 = .ok (.aload_n 0, 1) := by decide +kernel
theorem dX12_init_300 : decode cX12_init 300 = .ok (.bipush 10, 2) := by decide +kernel
theorem dX12_init_302 : decode cX12_init 302 = .ok (.newarray .int, 2) := by decide +kernel
theorem dX12_init_304 : decode cX12_init 304 = .ok (.putfield 35, 3) := by decide +kernel
theorem dX12_init_307 : decode cX12_init 307 = .ok (.aload_n 0, 1) := by decide +kernel
theorem dX12_init_308 : decode cX12_init 308 = .ok (.bipush 10, 2) := by decide +kernel
theorem dX12_init_310 : decode cX12_init 310 = .ok (.newarray .int, 2) := by decide +kernel
theorem dX12_init_312 : decode cX12_init 312 = .ok (.putfield 38, 3) := by decide +kernel
theorem dX12_init_315 : decode cX12_init 315 = .ok (.aload_n 0, 1) := by decide +kernel
theorem dX12_init_316 : decode cX12_init 316 = .ok (.sipush 160, 3) := by decide +kernel
theorem dX12_init_319 : decode cX12_init 319 = .ok (.newarray .byte, 2) := by decide +kernel
theorem dX12_init_321 : decode cX12_init 321 = .ok (.putfield 41, 3) := by decide +kernel
theorem dX12_init_324 : decode cX12_init 324 = .ok (.aload_n 0, 1) := by decide +kernel
theorem dX12_init_325 : decode cX12_init 325 = .ok (.iconst 1, 1) := by decide +kernel
theorem dX12_init_326 : decode cX12_init 326 = .ok (.putfield 45, 3) := by decide +kernel
theorem dX12_init_329 : decode cX12_init 329 = .ok (.aload_n 0, 1) := by decide +kernel
theorem dX12_init_330 : decode cX12_init 330 = .ok (.sipush 1190, 3) := by decide +kernel
theorem dX12_init_333 : decode cX12_init 333 = .ok (.newarray .int, 2) := by decide +kernel
theorem dX12_init_335 : decode cX12_init 335 = .ok (.putfield 48, 3) := by decide +kernel
theorem dX12_init_338 : decode cX12_init 338 = .ok (.aload_n 0, 1) := by decide +kernel
theorem dX12_init_339 : decode cX12_init 339 = .ok (.sipush 1190, 3) := by decide +kernel
theorem dX12_init_342 : decode cX12_init 342 = .ok (.newarray .int, 2) := by decide +kernel
theorem dX12_init_344 : decode cX12_init 344 = .ok (.putfield 51, 3) := by decide +kernel
theorem dX12_init_347 : decode cX12_init 347 = .ok (.aload_n 0, 1) := by decide +kernel
theorem dX12_init_348 : decode cX12_init 348 = .ok (.bipush 21, 2) := by decide +kernel
theorem dX12_init_350 : decode cX12_init 350 = .ok (.newarray .int, 2) := by decide +kernel
theorem dX12_init_352 : decode cX12_init 352 = .ok (.putfield 54, 3) := by decide +kernel
theorem dX12_init_355 : decode cX12_init 355 = .ok (.aload_n 0, 1) := by decide +kernel
theorem dX12_init_356 : decode cX12_init 356 = .ok (.sipush 170, 3) := by decide +kernel
theorem dX12_init_359 : decode cX12_init 359 = .ok (.newarray .int, 2) := by decide +kernel
theorem dX12_init_361 : decode cX12_init 361 = .ok (.putfield 57, 3) := by decide +kernel
theorem dX12_init_364 : decode cX12_init 364 = .ok (.aload_n 0, 1) := by decide +kernel
theorem dX12_init_365 : decode cX12_init 365 = .ok (.bipush 6, 2) := by decide +kernel
theorem dX12_init_367 : decode cX12_init 367 = .ok (.newarray .int, 2) := by decide +kernel
theorem dX12_init_369 : decode cX12_init 369 = .ok (.putfield 60, 3) := by decide +kernel
theorem dX12_init_372 : decode cX12_init 372 = .ok (.aload_n 0, 1) := by decide +kernel
theorem dX12_init_373 : decode cX12_init 373 = .ok (.bipush 61, 2) := by decide +kernel
theorem dX12_init_375 : decode cX12_init 375 = .ok (.newarray .int, 2) := by decide +kernel
theorem dX12_init_377 : decode cX12_init 377 = .ok (.dup, 1) := by decide +kernel
theorem dX12_init_378 : decode cX12_init 378 = .ok (.iconst 0, 1) := by decide +kernel
theorem dX12_init_379 : decode cX12_init 379 = .ok (.bipush 104, 2) := by decide +kernel
theorem dX12_init_381 : decode cX12_init 381 = .ok (.iastore, 1) := by decide +kernel
theorem dX12_init_382 : decode cX12_init 382 = .ok (.dup, 1) := by decide +kernel
theorem dX12_init_383 : decode cX12_init 383 = .ok (.iconst 1, 1) := by decide +kernel
theorem dX12_init_384 : decode cX12_init 384 = .ok (.bipush 101, 2) := by decide +kernel
theorem dX12_init_386 : decode cX12_init 386 = .ok (.iastore, 1) := by decide +kernel
theorem dX12_init_387 : decode cX12_init 387 = .ok (.dup, 1) := by decide +kernel
theorem dX12_init_388 : decode cX12_init 388 = .ok (.iconst 2, 1) := by decide +kernel
theorem dX12_init_389 : decode cX12_init 389 = .ok (.bipush 108, 2) := by decide +kernel
theorem dX12_init_391 : decode cX12_init 391 = .ok (.iastore, 1) := by decide +kernel
theorem dX12_init_392 : decode cX12_init 392 = .ok (.dup, 1) := by decide +kernel
theorem dX12_init_393 : decode cX12_init 393 = .ok (.iconst 3, 1) := by decide +kernel
theorem dX12_init_394 : decode cX12_init 394 = .ok (.bipush 100, 2) := by decide +kernel
theorem dX12_init_396 : decode cX12_init 396 = .ok (.iastore, 1) := by decide +kernel
theorem dX12_init_397 : decode cX12_init 397 = .ok (.dup, 1) := by decide +kernel
theorem dX12_init_398 : decode cX12_init 398 = .ok (.iconst 4, 1) := by decide +kernel
theorem dX12_init_399 : decode cX12_init 399 = .ok (.bipush 32, 2) := by decide +kernel
theorem dX12_init_401 : decode cX12_init 401 = .ok (.iastore, 1) := by decide +kernel
theorem dX12_init_402 : decode cX12_init 402 = .ok (.dup, 1) := by decide +kernel
theorem dX12_init_403 : decode cX12_init 403 = .ok (.iconst 5, 1) := by decide +kernel
theorem dX12_init_404 : decode cX12_init 404 = .ok (.bipush 108, 2) := by decide +kernel
theorem dX12_init_406 : decode cX12_init 406 = .ok (.iastore, 1) := by decide +kernel
theorem dX12_init_407 : decode cX12_init 407 = .ok (.dup, 1) := by decide +kernel
theorem dX12_init_408 : decode cX12_init 408 = .ok (.bipush 6, 2) := by decide +kernel
theorem dX12_init_410 : decode cX12_init 410 = .ok (.bipush 111, 2) := by decide +kernel
theorem dX12_init_412 : decode cX12_init 412 = .ok (.iastore, 1) := by decide +kernel
theorem dX12_init_413 : decode cX12_init 413 = .ok (.dup, 1) := by decide +kernel
theorem dX12_init_414 : decode cX12_init 414 = .ok (.bipush 7, 2) := by decide +kernel
theorem dX12_init_416 : decode cX12_init 416 = .ok (.bipush 117, 2) := by decide +kernel
theorem dX12_init_418 : decode cX12_init 418 = .ok (.iastore, 1) := by decide +kernel
theorem dX12_init_419 : decode cX12_init 419 = .ok (.dup, 1) := by decide +kernel
theorem dX12_init_420 : decode cX12_init 420 = .ok (.bipush 8, 2) := by decide +kernel
theorem dX12_init_422 : decode cX12_init 422 = .ok (.bipush 100, 2) := by decide +kernel
theorem dX12_init_424 : decode cX12_init 424 = .ok (.iastore, 1) := by decide +kernel
theorem dX12_init_425 : decode cX12_init 425 = .ok (.dup, 1) := by decide +kernel
theorem dX12_init_426 : decode cX12_init 426 = .ok (.bipush 9, 2) := by decide +kernel
theorem dX12_init_428 : decode cX12_init 428 = .ok (.bipush 32, 2) := by decide +kernel
theorem dX12_init_430 : decode cX12_init 430 = .ok (.iastore, 1) := by decide +kernel
theorem dX12_init_431 : decode cX12_init 431 = .ok (.dup, 1) := by decide +kernel
theorem dX12_init_432 : decode cX12_init 432 = .ok (.bipush 10, 2) := by decide +kernel
theorem dX12_init_434 : decode cX12_init 434 = .ok (.bipush 115, 2) := by decide +kernel
theorem dX12_init_436 : decode cX12_init 436 = .ok (.iastore, 1) := by decide +kernel
theorem dX12_init_437 : decode cX12_init 437 = .ok (.dup, 1) := by decide +kernel
theorem dX12_init_438 : decode cX12_init 438 = .ok (.bipush 11, 2) := by decide +kernel
theorem dX12_init_440 : decode cX12_init 440 = .ok (.bipush 116, 2) := by decide +kernel
theorem dX12_init_442 : decode cX12_init 442 = .ok (.iastore, 1) := by decide +kernel
theorem dX12_init_443 : decode cX12_init 443 = .ok (.dup, 1) := by decide +kernel
theorem dX12_init_444 : decode cX12_init 444 = .ok (.bipush 12, 2) := by decide +kernel
theorem dX12_init_446 : decode cX12_init 446 = .ok (.bipush 101, 2) := by decide +kernel
theorem dX12_init_448 : decode cX12_init 448 = .ok (.iastore, 1) := by decide +kernel
theorem dX12_init_449 : decode cX12_init 449 = .ok (.dup, 1) := by decide +kernel
theorem dX12_init_450 : decode cX12_init 450 = .ok (.bipush 13, 2) := by decide +kernel
theorem dX12_init_452 : decode cX12_init 452 = .ok (.bipush 112, 2) := by decide +kernel
theorem dX12_init_454 : decode cX12_init 454 = .ok (.iastore, 1) := by decide +kernel
theorem dX12_init_455 : decode cX12_init 455 = .ok (.dup, 1) := by decide +kernel
theorem dX12_init_456 : decode cX12_init 456 = .ok (.bipush 14, 2) := by decide +kernel
theorem dX12_init_458 : decode cX12_init 458 = .ok (.bipush 32, 2) := by decide +kernel
theorem dX12_init_460 : decode cX12_init 460 = .ok (.iastore, 1) := by decide +kernel
theorem dX12_init_461 : decode cX12_init 461 = .ok (.dup, 1) := by decide +kernel
theorem dX12_init_462 : decode cX12_init 462 = .ok (.bipush 15, 2) := by decide +kernel
theorem dX12_init_464 : decode cX12_init 464 = .ok (.bipush 115, 2) := by decide +kernel
theorem dX12_init_466 : decode cX12_init 466 = .ok (.iastore, 1) := by decide +kernel
theorem dX12_init_467 : decode cX12_init 467 = .ok (.dup, 1) := by decide +kernel
theorem dX12_init_468 : decode cX12_init 468 = .ok (.bipush 16, 2) := by decide +kernel
theorem dX12_init_470 : decode cX12_init 470 = .ok (.bipush 105, 2) := by decide +kernel
theorem dX12_init_472 : decode cX12_init 472 = .ok (.iastore, 1) := by decide +kernel
theorem dX12_init_473 : decode cX12_init 473 = .ok (.dup, 1) := by decide +kernel
theorem dX12_init_474 : decode cX12_init 474 = .ok (.bipush 17, 2) := by decide +kernel
theorem dX12_init_476 : decode cX12_init 476 = .ok (.bipush 110, 2) := by decide +kernel
theorem dX12_init_478 : decode cX12_init 478 = .ok (.iastore, 1) := by decide +kernel
theorem dX12_init_479 : decode cX12_init 479 = .ok (.dup, 1) := by decide +kernel
theorem dX12_init_480 : decode cX12_init 480 = .ok (.bipush 18, 2) := by decide +kernel
theorem dX12_init_482 : decode cX12_init 482 = .ok (.bipush 103, 2) := by decide +kernel
theorem dX12_init_484 : decode cX12_init 484 = .ok (.iastore, 1) := by decide +kernel
theorem dX12_init_485 : decode cX12_init 485 = .ok (.dup, 1) := by decide +kernel
theorem dX12_init_486 : decode cX12_init 486 = .ok (.bipush 19, 2) := by decide +kernel
theorem dX12_init_488 : decode cX12_init 488 = .ok (.bipush 105, 2) := by decide +kernel
theorem dX12_init_490 : decode cX12_init 490 = .ok (.iastore, 1) := by decide +kernel
theorem dX12_init_491 : decode cX12_init 491 = .ok (.dup, 1) := by decide +kernel
theorem dX12_init_492 : decode cX12_init 492 = .ok (.bipush 20, 2) := by decide +kernel
theorem dX12_init_494 : decode cX12_init 494 = .ok (.bipush 110, 2) := by decide +kernel
theorem dX12_init_496 : decode cX12_init 496 = .ok (.iastore, 1) := by decide +kernel
theorem dX12_init_497 : decode cX12_init 497 = .ok (.dup, 1) := by decide +kernel
theorem dX12_init_498 : decode cX12_init 498 = .ok (.bipush 21, 2) := by decide +kernel
theorem dX12_init_500 : decode cX12_init 500 = .ok (.bipush 103, 2) := by decide +kernel
theorem dX12_init_502 : decode cX12_init 502 = .ok (.iastore, 1) := by decide +kernel
theorem dX12_init_503 : decode cX12_init 503 = .ok (.dup, 1) := by decide +kernel
theorem dX12_init_504 : decode cX12_init 504 = .ok (.bipush 22, 2) := by decide +kernel
theorem dX12_init_506 : decode cX12_init 506 = .ok (.bipush 32, 2) := by decide +kernel
theorem dX12_init_508 : decode cX12_init 508 = .ok (.iastore, 1) := by decide +kernel
theorem dX12_init_509 : decode cX12_init 509 = .ok (.dup, 1) := by decide +kernel
theorem dX12_init_510 : decode cX12_init 510 = .ok (.bipush 23, 2) := by decide +kernel
theorem dX12_init_512 : decode cX12_init 512 = .ok (.bipush 98, 2) := by decide +kernel
theorem dX12_init_514 : decode cX12_init 514 = .ok (.iastore, 1) := by decide +kernel
theorem dX12_init_515 : decode cX12_init 515 = .ok (.dup, 1) := by decide +kernel
theorem dX12_init_516 : decode cX12_init 516 = .ok (.bipush 24, 2) := by decide +kernel
theorem dX12_init_518 : decode cX12_init 518 = .ok (.bipush 101, 2) := by decide +kernel
theorem dX12_init_520 : decode cX12_init 520 = .ok (.iastore, 1) := by decide +kernel
theorem dX12_init_521 : decode cX12_init 521 = .ok (.dup, 1) := by decide +kernel
theorem dX12_init_522 : decode cX12_init 522 = .ok (.bipush 25, 2) := by decide +kernel
theorem dX12_init_524 : decode cX12_init 524 = .ok (.bipush 115, 2) := by decide +kernel
theorem dX12_init_526 : decode cX12_init 526 = .ok (.iastore, 1) := by decide +kernel
theorem dX12_init_527 : decode cX12_init 527 = .ok (.dup, 1) := by decide +kernel
theorem dX12_init_528 : decode cX12_init 528 = .ok (.bipush 26, 2) := by decide +kernel
theorem dX12_init_530 : decode cX12_init 530 = .ok (.bipush 105, 2) := by decide +kernel
theorem dX12_init_532 : decode cX12_init 532 = .ok (.iastore, 1) := by decide +kernel
theorem dX12_init_533 : decode cX12_init 533 = .ok (.dup, 1) := by decide +kernel
theorem dX12_init_534 : decode cX12_init 534 = .ok (.bipush 27, 2) := by decide +kernel
theorem dX12_init_536 : decode cX12_init 536 = .ok (.bipush 100, 2) := by decide +kernel
theorem dX12_init_538 : decode cX12_init 538 = .ok (.iastore, 1) := by decide +kernel
theorem dX12_init_539 : decode cX12_init 539 = .ok (.dup, 1) := by decide +kernel
theorem dX12_init_540 : decode cX12_init 540 = .ok (.bipush 28, 2) := by decide +kernel
theorem dX12_init_542 : decode cX12_init 542 = .ok (.bipush 101, 2) := by decide +kernel
theorem dX12_init_544 : decode cX12_init 544 = .ok (.iastore, 1) := by decide +kernel
theorem dX12_init_545 : decode cX12_init 545 = .ok (.dup, 1) := by decide +kernel
theorem dX12_init_546 : decode cX12_init 546 = .ok (.bipush 29, 2) := by decide +kernel
theorem dX12_init_548 : decode cX12_init 548 = .ok (.bipush 32, 2) := by decide +kernel
theorem dX12_init_550 : decode cX12_init 550 = .ok (.iastore, 1) := by decide +kernel
theorem dX12_init_551 : decode cX12_init 551 = .ok (.dup, 1) := by decide +kernel
theorem dX12_init_552 : decode cX12_init 552 = .ok (.bipush 30, 2) := by decide +kernel
theorem dX12_init_554 : decode cX12_init 554 = .ok (.bipush 116, 2) := by decide +kernel
theorem dX12_init_556 : decode cX12_init 556 = .ok (.iastore, 1) := by decide +kernel
theorem dX12_init_557 : decode cX12_init 557 = .ok (.dup, 1) := by decide +kernel
theorem dX12_init_558 : decode cX12_init 558 = .ok (.bipush 31, 2) := by decide +kernel
theorem dX12_init_560 : decode cX12_init 560 = .ok (.bipush 105, 2) := by decide +kernel
theorem dX12_init_562 : decode cX12_init 562 = .ok (.iastore, 1) := by decide +kernel
theorem dX12_init_563 : decode cX12_init 563 = .ok (.dup, 1) := by decide +kernel
theorem dX12_init_564 : decode cX12_init 564 = .ok (.bipush 32, 2) := by decide +kernel
theorem dX12_init_566 : decode cX12_init 566 = .ok (.bipush 114, 2) := by decide +kernel
theorem dX12_init_568 : decode cX12_init 568 = .ok (.iastore, 1) := by decide +kernel
theorem dX12_init_569 : decode cX12_init 569 = .ok (.dup, 1) := by decide +kernel
theorem dX12_init_570 : decode cX12_init 570 = .ok (.bipush 33, 2) := by decide +kernel
theorem dX12_init_572 : decode cX12_init 572 = .ok (.bipush 101, 2) := by decide +kernel
theorem dX12_init_574 : decode cX12_init 574 = .ok (.iastore, 1) := by decide +kernel
theorem dX12_init_575 : decode cX12_init 575 = .ok (.dup, 1) := by decide +kernel
theorem dX12_init_576 : decode cX12_init 576 = .ok (.bipush 34, 2) := by decide +kernel
theorem dX12_init_578 : decode cX12_init 578 = .ok (.bipush 100, 2) := by decide +kernel
theorem dX12_init_580 : decode cX12_init 580 = .ok (.iastore, 1) := by decide +kernel
theorem dX12_init_581 : decode cX12_init 581 = .ok (.dup, 1) := by decide +kernel
theorem dX12_init_582 : decode cX12_init 582 = .ok (.bipush 35, 2) := by decide +kernel
theorem dX12_init_584 : decode cX12_init 584 = .ok (.bipush 32, 2) := by decide +kernel
theorem dX12_init_586 : decode cX12_init 586 = .ok (.iastore, 1) := by decide +kernel
theorem dX12_init_587 : decode cX12_init 587 = .ok (.dup, 1) := by decide +kernel
theorem dX12_init_588 : decode cX12_init 588 = .ok (.bipush 36, 2) := by decide +kernel
theorem dX12_init_590 : decode cX12_init 590 = .ok (.bipush 109, 2) := by decide +kernel
theorem dX12_init_592 : decode cX12_init 592 = .ok (.iastore, 1) := by decide +kernel
theorem dX12_init_593 : decode cX12_init 593 = .ok (.dup, 1) := by decide +kernel
theorem dX12_init_594 : decode cX12_init 594 = .ok (.bipush 37, 2) := by decide +kernel
theorem dX12_init_596 : decode cX12_init 596 = .ok (.bipush 117, 2) := by decide +kernel
theorem dX12_init_598 : decode cX12_init 598 = .ok (.iastore, 1) := by decide +kernel
theorem dX12_init_599 : decode cX12_init 599 = .ok (.dup, 1) := by decide +kernel
theorem dX12_init_600 : decode cX12_init 600 = .ok (.bipush 38, 2) := by decide +kernel
theorem dX12_init_602 : decode cX12_init 602 = .ok (.bipush 115, 2) := by decide +kernel
theorem dX12_init_604 : decode cX12_init 604 = .ok (.iastore, 1) := by decide +kernel
theorem dX12_init_605 : decode cX12_init 605 = .ok (.dup, 1) := by decide +kernel
theorem dX12_init_606 : decode cX12_init 606 = .ok (.bipush 39, 2) := by decide +kernel
theorem dX12_init_608 : decode cX12_init 608 = .ok (.bipush 116, 2) := by decide +kernel
theorem dX12_init_610 : decode cX12_init 610 = .ok (.iastore, 1) := by decide +kernel
theorem dX12_init_611 : decode cX12_init 611 = .ok (.dup, 1) := by decide +kernel
theorem dX12_init_612 : decode cX12_init 612 = .ok (.bipush 40, 2) := by decide +kernel
theorem dX12_init_614 : decode cX12_init 614 = .ok (.bipush 32, 2) := by decide +kernel
theorem dX12_init_616 : decode cX12_init 616 = .ok (.iastore, 1) := by decide +kernel
theorem dX12_init_617 : decode cX12_init 617 = .ok (.dup, 1) := by decide +kernel
theorem dX12_init_618 : decode cX12_init 618 = .ok (.bipush 41, 2) := by decide +kernel
theorem dX12_init_620 : decode cX12_init 620 = .ok (.bipush 109, 2) := by decide +kernel
theorem dX12_init_622 : decode cX12_init 622 = .ok (.iastore, 1) := by decide +kernel
theorem dX12_init_623 : decode cX12_init 623 = .ok (.dup, 1) := by decide +kernel
theorem dX12_init_624 : decode cX12_init 624 = .ok (.bipush 42, 2) := by decide +kernel
theorem dX12_init_626 : decode cX12_init 626 = .ok (.bipush 97, 2) := by decide +kernel
theorem dX12_init_628 : decode cX12_init 628 = .ok (.iastore, 1) := by decide +kernel
theorem dX12_init_629 : decode cX12_init 629 = .ok (.dup, 1) := by decide +kernel
theorem dX12_init_630 : decode cX12_init 630 = .ok (.bipush 43, 2) := by decide +kernel
theorem dX12_init_632 : decode cX12_init 632 = .ok (.bipush 121, 2) := by decide +kernel
theorem dX12_init_634 : decode cX12_init 634 = .ok (.iastore, 1) := by decide +kernel
theorem dX12_init_635 : decode cX12_init 635 = .ok (.dup, 1) := by decide +kernel
theorem dX12_init_636 : decode cX12_init 636 = .ok (.bipush 44, 2) := by decide +kernel
theorem dX12_init_638 : decode cX12_init 638 = .ok (.bipush 32, 2) := by decide +kernel
theorem dX12_init_640 : decode cX12_init 640 = .ok (.iastore, 1) := by decide +kernel
theorem dX12_init_641 : decode cX12_init 641 = .ok (.dup, 1) := by decide +kernel
theorem dX12_init_642 : decode cX12_init 642 = .ok (.bipush 45, 2) := by decide +kernel
theorem dX12_init_644 : decode cX12_init 644 = .ok (.bipush 116, 2) := by decide +kernel
theorem dX12_init_646 : decode cX12_init 646 = .ok (.iastore, 1) := by decide +kernel
theorem dX12_init_647 : decode cX12_init 647 = .ok (.dup, 1) := by decide +kernel
theorem dX12_init_648 : decode cX12_init 648 = .ok (.bipush 46, 2) := by decide +kernel
theorem dX12_init_650 : decode cX12_init 650 = .ok (.bipush 104, 2) := by decide +kernel
theorem dX12_init_652 : decode cX12_init 652 = .ok (.iastore, 1) := by decide +kernel
theorem dX12_init_653 : decode cX12_init 653 = .ok (.dup, 1) := by decide +kernel
theorem dX12_init_654 : decode cX12_init 654 = .ok (.bipush 47, 2) := by decide +kernel
theorem dX12_init_656 : decode cX12_init 656 = .ok (.bipush 105, 2) := by decide +kernel
theorem dX12_init_658 : decode cX12_init 658 = .ok (.iastore, 1) := by decide +kernel
theorem dX12_init_659 : decode cX12_init 659 = .ok (.dup, 1) := by decide +kernel
theorem dX12_init_660 : decode cX12_init 660 = .ok (.bipush 48, 2) := by decide +kernel
theorem dX12_init_662 : decode cX12_init 662 = .ok (.bipush 110, 2) := by decide +kernel
theorem dX12_init_664 : decode cX12_init 664 = .ok (.iastore, 1) := by decide +kernel
theorem dX12_init_665 : decode cX12_init 665 = .ok (.dup, 1) := by decide +kernel
theorem dX12_init_666 : decode cX12_init 666 = .ok (.bipush 49, 2) := by decide +kernel
theorem dX12_init_668 : decode cX12_init 668 = .ok (.bipush 32, 2) := by decide +kernel
theorem dX12_init_670 : decode cX12_init 670 = .ok (.iastore, 1) := by decide +kernel
theorem dX12_init_671 : decode cX12_init 671 = .ok (.dup, 1) := by decide +kernel
theorem dX12_init_672 : decode cX12_init 672 = .ok (.bipush 50, 2) := by decide +kernel
theorem dX12_init_674 : decode cX12_init 674 = .ok (.bipush 111, 2) := by decide +kernel
theorem dX12_init_676 : decode cX12_init 676 = .ok (.iastore, 1) := by decide +kernel
theorem dX12_init_677 : decode cX12_init 677 = .ok (.dup, 1) := by decide +kernel
theorem dX12_init_678 : decode cX12_init 678 = .ok (.bipush 51, 2) := by decide +kernel
theorem dX12_init_680 : decode cX12_init 680 = .ok (.bipush 114, 2) := by decide +kernel
theorem dX12_init_682 : decode cX12_init 682 = .ok (.iastore, 1) := by decide +kernel
theorem dX12_init_683 : decode cX12_init 683 = .ok (.dup, 1) := by decide +kernel
theorem dX12_init_684 : decode cX12_init 684 = .ok (.bipush 52, 2) := by decide +kernel
theorem dX12_init_686 : decode cX12_init 686 = .ok (.bipush 32, 2) := by decide +kernel
theorem dX12_init_688 : decode cX12_init 688 = .ok (.iastore, 1) := by decide +kernel
theorem dX12_init_689 : decode cX12_init 689 = .ok (.dup, 1) := by decide +kernel
theorem dX12_init_690 : decode cX12_init 690 = .ok (.bipush 53, 2) := by decide +kernel
theorem dX12_init_692 : decode cX12_init 692 = .ok (.bipush 97, 2) := by decide +kernel
theorem dX12_init_694 : decode cX12_init 694 = .ok (.iastore, 1) := by decide +kernel
theorem dX12_init_695 : decode cX12_init 695 = .ok (.dup, 1) := by decide +kernel
theorem dX12_init_696 : decode cX12_init 696 = .ok (.bipush 54, 2) := by decide +kernel
theorem dX12_init_698 : decode cX12_init 698 = .ok (.bipush 110, 2) := by decide +kernel
theorem dX12_init_700 : decode cX12_init 700 = .ok (.iastore, 1) := by decide +kernel
theorem dX12_init_701 : decode cX12_init 701 = .ok (.dup, 1) := by decide +kernel
theorem dX12_init_702 : decode cX12_init 702 = .ok (.bipush 55, 2) := by decide +kernel
theorem dX12_init_704 : decode cX12_init 704 = .ok (.bipush 100, 2) := by decide +kernel
theorem dX12_init_706 : decode cX12_init 706 = .ok (.iastore, 1) := by decide +kernel
theorem dX12_init_707 : decode cX12_init 707 = .ok (.dup, 1) := by decide +kernel
theorem dX12_init_708 : decode cX12_init 708 = .ok (.bipush 56, 2) := by decide +kernel
theorem dX12_init_710 : decode cX12_init 710 = .ok (.bipush 32, 2) := by decide +kernel
theorem dX12_init_712 : decode cX12_init 712 = .ok (.iastore, 1) := by decide +kernel
theorem dX12_init_713 : decode cX12_init 713 = .ok (.dup, 1) := by decide +kernel
theorem dX12_init_714 : decode cX12_init 714 = .ok (.bipush 57, 2) := by decide +kernel
theorem dX12_init_716 : decode cX12_init 716 = .ok (.bipush 110, 2) := by decide +kernel
theorem dX12_init_718 : decode cX12_init 718 = .ok (.iastore, 1) := by decide +kernel
theorem dX12_init_719 : decode cX12_init 719 = .ok (.dup, 1) := by decide +kernel
theorem dX12_init_720 : decode cX12_init 720 = .ok (.bipush 58, 2) := by decide +kernel
theorem dX12_init_722 : decode cX12_init 722 = .ok (.bipush 111, 2) := by decide +kernel
theorem dX12_init_724 : decode cX12_init 724 = .ok (.iastore, 1) := by decide +kernel
theorem dX12_init_725 : decode cX12_init 725 = .ok (.dup, 1) := by decide +kernel
theorem dX12_init_726 : decode cX12_init 726 = .ok (.bipush 59, 2) := by decide +kernel
theorem dX12_init_728 : decode cX12_init 728 = .ok (.bipush 116, 2) := by decide +kernel
theorem dX12_init_730 : decode cX12_init 730 = .ok (.iastore, 1) := by decide +kernel
theorem dX12_init_731 : decode cX12_init 731 = .ok (.dup, 1) := by decide +kernel
theorem dX12_init_732 : decode cX12_init 732 = .ok (.bipush 60, 2) := by decide +kernel
theorem dX12_init_734 : decode cX12_init 734 = .ok (.bipush 32, 2) := by decide +kernel
theorem dX12_init_736 : decode cX12_init 736 = .ok (.iastore, 1) := by decide +kernel
theorem dX12_init_737 : decode cX12_init 737 = .ok (.putfield 63, 3) := by decide +kernel
theorem dX12_init_740 : decode cX12_init 740 = .ok (.aload_n 0, 1) := by decide +kernel
theorem dX12_init_741 : decode cX12_init 741 = .ok (.bipush 12, 2) := by decide +kernel
theorem dX12_init_743 : decode cX12_init 743 = .ok (.newarray .int, 2) := by decide +kernel
theorem dX12_init_745 : decode cX12_init 745 = .ok (.dup, 1) := by decide +kernel
theorem dX12_init_746 : decode cX12_init 746 = .ok (.iconst 0, 1) := by decide +kernel
theorem dX12_init_747 : decode cX12_init 747 = .ok (.iconst 0, 1) := by decide +kernel
theorem dX12_init_748 : decode cX12_init 748 = .ok (.iastore, 1) := by decide +kernel
theorem dX12_init_749 : decode cX12_init 749 = .ok (.dup, 1) := by decide +kernel
theorem dX12_init_750 : decode cX12_init 750 = .ok (.iconst 1, 1) := by decide +kernel
theorem dX12_init_751 : decode cX12_init 751 = .ok (.iconst 1, 1) := by decide +kernel
theorem dX12_init_752 : decode cX12_init 752 = .ok (.iastore, 1) := by decide +kernel
theorem dX12_init_753 : decode cX12_init 753 = .ok (.dup, 1) := by decide +kernel
theorem dX12_init_754 : decode cX12_init 754 = .ok (.iconst 2, 1) := by decide +kernel
theorem dX12_init_755 : decode cX12_init 755 = .ok (.iconst 2, 1) := by decide +kernel
theorem dX12_init_756 : decode cX12_init 756 = .ok (.iastore, 1) := by decide +kernel
theorem dX12_init_757 : decode cX12_init 757 = .ok (.dup, 1) := by decide +kernel
theorem dX12_init_758 : decode cX12_init 758 = .ok (.iconst 3, 1) := by decide +kernel
theorem dX12_init_759 : decode cX12_init 759 = .ok (.iconst 3, 1) := by decide +kernel
theorem dX12_init_760 : decode cX12_init 760 = .ok (.iastore, 1) := by decide +kernel
theorem dX12_init_761 : decode cX12_init 761 = .ok (.dup, 1) := by decide +kernel
theorem dX12_init_762 : decode cX12_init 762 = .ok (.iconst 4, 1) := by decide +kernel
theorem dX12_init_763 : decode cX12_init 763 = .ok (.iconst 4, 1) := by decide +kernel
theorem dX12_init_764 : decode cX12_init 764 = .ok (.iastore, 1) := by decide +kernel
theorem dX12_init_765 : decode cX12_init 765 = .ok (.dup, 1) := by decide +kernel
theorem dX12_init_766 : decode cX12_init 766 = .ok (.iconst 5, 1) := by decide +kernel
theorem dX12_init_767 : decode cX12_init 767 = .ok (.iconst 5, 1) := by decide +kernel
theorem dX12_init_768 : decode cX12_init 768 = .ok (.iastore, 1) := by decide +kernel
theorem dX12_init_769 : decode cX12_init 769 = .ok (.dup, 1) := by decide +kernel
theorem dX12_init_770 : decode cX12_init 770 = .ok (.bipush 6, 2) := by decide +kernel
theorem dX12_init_772 : decode cX12_init 772 = .ok (.bipush 10, 2) := by decide +kernel
theorem dX12_init_774 : decode cX12_init 774 = .ok (.iastore, 1) := by decide +kernel
theorem dX12_init_775 : decode cX12_init 775 = .ok (.dup, 1) := by decide +kernel
theorem dX12_init_776 : decode cX12_init 776 = .ok (.bipush 7, 2) := by decide +kernel
theorem dX12_init_778 : decode cX12_init 778 = .ok (.bipush 11, 2) := by decide +kernel
theorem dX12_init_780 : decode cX12_init 780 = .ok (.iastore, 1) := by decide +kernel
theorem dX12_init_781 : decode cX12_init 781 = .ok (.dup, 1) := by decide +kernel
theorem dX12_init_782 : decode cX12_init 782 = .ok (.bipush 8, 2) := by decide +kernel
theorem dX12_init_784 : decode cX12_init 784 = .ok (.bipush 12, 2) := by decide +kernel
theorem dX12_init_786 : decode cX12_init 786 = .ok (.iastore, 1) := by decide +kernel
theorem dX12_init_787 : decode cX12_init 787 = .ok (.dup, 1) := by decide +kernel
theorem dX12_init_788 : decode cX12_init 788 = .ok (.bipush 9, 2) := by decide +kernel
theorem dX12_init_790 : decode cX12_init 790 = .ok (.bipush 13, 2) := by decide +kernel
theorem dX12_init_792 : decode cX12_init 792 = .ok (.iastore, 1) := by decide +kernel
theorem dX12_init_793 : decode cX12_init 793 = .ok (.dup, 1) := by decide +kernel
theorem dX12_init_794 : decode cX12_init 794 = .ok (.bipush 10, 2) := by decide +kernel
theorem dX12_init_796 : decode cX12_init 796 = .ok (.bipush 14, 2) := by decide +kernel
theorem dX12_init_798 : decode cX12_init 798 = .ok (.iastore, 1) := by decide +kernel
theorem dX12_init_799 : decode cX12_init 799 = .ok (.dup, 1) := by decide +kernel
theorem dX12_init_800 : decode cX12_init 800 = .ok (.bipush 11, 2) := by decide +kernel
theorem dX12_init_802 : decode cX12_init 802 = .ok (.bipush 15, 2) := by decide +kernel
theorem dX12_init_804 : decode cX12_init 804 = .ok (.iastore, 1) := by decide +kernel
theorem dX12_init_805 : decode cX12_init 805 = .ok (.putfield 66, 3) := by decide +kernel
theorem dX12_init_808 : decode cX12_init 808 = .ok (.aload_n 0, 1) := by decide +kernel
theorem dX12_init_809 : decode cX12_init 809 = .ok (.bipush 10, 2) := by decide +kernel
theorem dX12_init_811 : decode cX12_init 811 = .ok (.newarray .int, 2) := by decide +kernel
theorem dX12_init_813 : decode cX12_init 813 = .ok (.putfield 69, 3) := by decide +kernel
theorem dX12_init_816 : decode cX12_init 816 = .ok (.aload_n 0, 1) := by decide +kernel
theorem dX12_init_817 : decode cX12_init 817 = .ok (.bipush 10, 2) := by decide +kernel
theorem dX12_init_819 : decode cX12_init 819 = .ok (.newarray .int, 2) := by decide +kernel
theorem dX12_init_821 : decode cX12_init 821 = .ok (.putfield 72, 3) := by decide +kernel
theorem dX12_init_824 : decode cX12_init 824 = .ok (.aload_n 0, 1) := by decide +kernel
theorem dX12_init_825 : decode cX12_init 825 = .ok (.bipush 10, 2) := by decide +kernel
theorem dX12_init_827 : decode cX12_init 827 = .ok (.newarray .int, 2) := by decide +kernel
theorem dX12_init_829 : decode cX12_init 829 = .ok (.putfield 75, 3) := by decide +kernel
theorem dX12_init_832 : decode cX12_init 832 = .ok (.aload_n 0, 1) := by decide +kernel
theorem dX12_init_833 : decode cX12_init 833 = .ok (.bipush 10, 2) := by decide +kernel
theorem dX12_init_835 : decode cX12_init 835 = .ok (.newarray .boolean, 2) := by decide +kernel
theorem dX12_init_837 : decode cX12_init 837 = .ok (.putfield 78, 3) := by decide +kernel
theorem dX12_init_840 : decode cX12_init 840 = .ok (.aload_n 0, 1) := by decide +kernel
theorem dX12_init_841 : decode cX12_init 841 = .ok (.bipush 10, 2) := by decide +kernel
theorem dX12_init_843 : decode cX12_init 843 = .ok (.newarray .boolean, 2) := by decide +kernel
theorem dX12_init_845 : decode cX12_init 845 = .ok (.putfield 82, 3) := by decide +kernel
theorem dX12_init_848 : decode cX12_init 848 = .ok (.aload_n 0, 1) := by decide +kernel
theorem dX12_init_849 : decode cX12_init 849 = .ok (.iconst 4, 1) := by decide +kernel
theorem dX12_init_850 : decode cX12_init 850 = .ok (.newarray .int, 2) := by decide +kernel
theorem dX12_init_852 : decode cX12_init 852 = .ok (.putfield 85, 3) := by decide +kernel
theorem dX12_init_855 : decode cX12_init 855 = .ok (.aload_n 0, 1) := by decide +kernel
theorem dX12_init_856 : decode cX12_init 856 = .ok (.sipush 2000, 3) := by decide +kernel
theorem dX12_init_859 : decode cX12_init 859 = .ok (.newarray .int, 2) := by decide +kernel
theorem dX12_init_861 : decode cX12_init 861 = .ok (.putfield 88, 3) := by decide +kernel
theorem dX12_init_864 : decode cX12_init 864 = .ok (.aload_n 0, 1) := by decide +kernel
theorem dX12_init_865 : decode cX12_init 865 = .ok (.sipush 2000, 3) := by decide +kernel
theorem dX12_init_868 : decode cX12_init 868 = .ok (.newarray .int, 2) := by decide +kernel
theorem dX12_init_870 : decode cX12_init 870 = .ok (.putfield 91, 3) := by decide +kernel
theorem dX12_init_873 : decode cX12_init 873 = .ok (.aload_n 0, 1) := by decide +kernel
theorem dX12_init_874 : decode cX12_init 874 = .ok (.bipush 48, 2) := by decide +kernel
theorem dX12_init_876 : decode cX12_init 876 = .ok (.newarray .int, 2) := by decide +kernel
theorem dX12_init_878 : decode cX12_init 878 = .ok (.putfield 94, 3) := by decide +kernel
theorem dX12_init_881 : decode cX12_init 881 = .ok (.aload_n 0, 1) := by decide +kernel
theorem dX12_init_882 : decode cX12_init 882 = .ok (.bipush 48, 2) := by decide +kernel
theorem dX12_init_884 : decode cX12_init 884 = .ok (.newarray .int, 2) := by decide +kernel
theorem dX12_init_886 : decode cX12_init 886 = .ok (.putfield 97, 3) := by decide +kernel
theorem dX12_init_889 : decode cX12_init 889 = .ok (.aload_n 0, 1) := by decide +kernel
theorem dX12_init_890 : decode cX12_init 890 = .ok (.bipush 48, 2) := by decide +kernel
theorem dX12_init_892 : decode cX12_init 892 = .ok (.newarray .int, 2) := by decide +kernel
theorem dX12_init_894 : decode cX12_init 894 = .ok (.putfield 100, 3) := by decide +kernel
theorem dX12_init_897 : decode cX12_init 897 = .ok (.aload_n 0, 1) := by decide +kernel
theorem dX12_init_898 : decode cX12_init 898 = .ok (.iconst 4, 1) := by decide +kernel
theorem dX12_init_899 : decode cX12_init 899 = .ok (.newarray .int, 2) := by decide +kernel
theorem dX12_init_901 : decode cX12_init 901 = .ok (.putfield 103, 3) := by decide +kernel
theorem dX12_init_904 : decode cX12_init 904 = .ok (.aload_n 0, 1) := by decide +kernel
theorem dX12_init_905 : decode cX12_init 905 = .ok (.bipush 10, 2) := by decide +kernel
theorem dX12_init_907 : decode cX12_init 907 = .ok (.newarray .int, 2) := by decide +kernel
theorem dX12_init_909 : decode cX12_init 909 = .ok (.putfield 106, 3) := by decide +kernel
theorem dX12_init_912 : decode cX12_init 912 = .ok (.aload_n 0, 1) := by decide +kernel
theorem dX12_init_913 : decode cX12_init 913 = .ok (.iconst 4, 1) := by decide +kernel
theorem dX12_init_914 : decode cX12_init 914 = .ok (.newarray .int, 2) := by decide +kernel
theorem dX12_init_916 : decode cX12_init 916 = .ok (.dup, 1) := by decide +kernel
theorem dX12_init_917 : decode cX12_init 917 = .ok (.iconst 0, 1) := by decide +kernel
theorem dX12_init_918 : decode cX12_init 918 = .ok (.iconst (-1), 1) := by decide +kernel
theorem dX12_init_919 : decode cX12_init 919 = .ok (.iastore, 1) := by decide +kernel
theorem dX12_init_920 : decode cX12_init 920 = .ok (.dup, 1) := by decide +kernel
theorem dX12_init_921 : decode cX12_init 921 = .ok (.iconst 1, 1) := by decide +kernel
theorem dX12_init_922 : decode cX12_init 922 = .ok (.iconst (-1), 1) := by decide +kernel
theorem dX12_init_923 : decode cX12_init 923 = .ok (.iastore, 1) := by decide +kernel
theorem dX12_init_924 : decode cX12_init 924 = .ok (.dup, 1) := by decide +kernel
theorem dX12_init_925 : decode cX12_init 925 = .ok (.iconst 2, 1) := by decide +kernel
theorem dX12_init_926 : decode cX12_init 926 = .ok (.iconst (-1), 1) := by decide +kernel
theorem dX12_init_927 : decode cX12_init 927 = .ok (.iastore, 1) := by decide +kernel
theorem dX12_init_928 : decode cX12_init 928 = .ok (.dup, 1) := by decide +kernel
theorem dX12_init_929 : decode cX12_init 929 = .ok (.iconst 3, 1) := by decide +kernel
theorem dX12_init_930 : decode cX12_init 930 = .ok (.iconst (-1), 1) := by decide +kernel
theorem dX12_init_931 : decode cX12_init 931 = .ok (.iastore, 1) := by decide +kernel
theorem dX12_init_932 : decode cX12_init 932 = .ok (.putfield 109, 3) := by decide +kernel
theorem dX12_init_935 : decode cX12_init 935 = .ok (.aload_n 0, 1) := by decide +kernel
theorem dX12_init_936 : decode cX12_init 936 = .ok (.iconst 4, 1) := by decide +kernel
theorem dX12_init_937 : decode cX12_init 937 = .ok (.newarray .int, 2) := by decide +kernel
theorem dX12_init_939 : decode cX12_init 939 = .ok (.putfield 112, 3) := by decide +kernel
theorem dX12_init_942 : decode cX12_init 942 = .ok (.aload_n 0, 1) := by decide +kernel
theorem dX12_init_943 : decode cX12_init 943 = .ok (.sipush 160, 3) := by decide +kernel
theorem dX12_init_946 : decode cX12_init 946 = .ok (.newarray .int, 2) := by decide +kernel
theorem dX12_init_948 : decode cX12_init 948 = .ok (.putfield 115, 3) := by decide +kernel
theorem dX12_init_951 : decode cX12_init 951 = .ok (.aload_n 0, 1) := by decide +kernel
theorem dX12_init_952 : decode cX12_init 952 = .ok (.bipush 40, 2) := by decide +kernel
theorem dX12_init_954 : decode cX12_init 954 = .ok (.newarray .int, 2) := by decide +kernel
theorem dX12_init_956 : decode cX12_init 956 = .ok (.putfield 118, 3) := by decide +kernel
theorem dX12_init_959 : decode cX12_init 959 = .ok (.return_, 1) := by decide +kernel
theorem dX12_in_0 : decode cX12_in 0 = .ok (.iload_n 0, 1) := by decide +kernel
theorem dX12_in_1 : decode cX12_in 1 = .ok (.iload_n 1, 1) := by decide +kernel
theorem dX12_in_2 : decode cX12_in 2 = .ok (.if_icmp .lt 12, 3) := by decide +kernel
theorem dX12_in_5 : decode cX12_in 5 = .ok (.iload_n 0, 1) := by decide +kernel
theorem dX12_in_6 : decode cX12_in 6 = .ok (.iload_n 2, 1) := by decide +kernel
theorem dX12_in_7 : decode cX12_in 7 = .ok (.if_icmp .gt 7, 3) := by decide +kernel
theorem dX12_in_10 : decode cX12_in 10 = .ok (.iconst 1, 1) := by decide +kernel
theorem dX12_in_11 : decode cX12_in 11 = .ok (.goto 4, 3) := by decide +kernel
theorem dX12_in_14 : decode cX12_in 14 = .ok (.iconst 0, 1) := by decide +kernel
theorem dX12_in_15 : decode cX12_in 15 = .ok (.ireturn, 1) := by decide +kernel
theorem dX12_held_0 : decode cX12_held 0 = .ok (.iload_n 0, 1) := by decide +kernel
theorem dX12_held_1 : decode cX12_held 1 = .ok (.ifCond .ge 7, 3) := by decide +kernel
theorem dX12_held_4 : decode cX12_held 4 = .ok (.iconst 0, 1) := by decide +kernel
theorem dX12_held_5 : decode cX12_held 5 = .ok (.goto 13, 3) := by decide +kernel
theorem dX12_held_8 : decode cX12_held 8 = .ok (.iload_n 0, 1) := by decide +kernel
theorem dX12_held_9 : decode cX12_held 9 = .ok (.iload_n 1, 1) := by decide +kernel
theorem dX12_held_10 : decode cX12_held 10 = .ok (.if_icmp .le 7, 3) := by decide +kernel
theorem dX12_held_13 : decode cX12_held 13 = .ok (.iload_n 1, 1) := by decide +kernel
theorem dX12_held_14 : decode cX12_held 14 = .ok (.goto 4, 3) := by decide +kernel
theorem dX12_held_17 : decode cX12_held 17 = .ok (.iload_n 0, 1) := by decide +kernel
theorem dX12_held_18 : decode cX12_held 18 = .ok (.ireturn, 1) := by decide +kernel
theorem dX12_isSinger_0 : decode cX12_isSinger 0 = .ok (.iload_n 1, 1) := by decide +kernel
theorem dX12_isSinger_1 : decode cX12_isSinger 1 = .ok (.iconst 0, 1) := by decide +kernel
theorem dX12_isSinger_2 : decode cX12_isSinger 2 = .ok (.aload_n 0, 1) := by decide +kernel
theorem dX12_isSinger_3 : decode cX12_isSinger 3 = .ok (.getfield 124, 3) := by decide +kernel
theorem dX12_isSinger_6 : decode cX12_isSinger 6 = .ok (.iconst 1, 1) := by decide +kernel
theorem dX12_isSinger_7 : decode cX12_isSinger 7 = .ok (.isub, 1) := by decide +kernel
theorem dX12_isSinger_8 : decode cX12_isSinger 8 = .ok (.invokestatic 127, 3) := by decide +kernel
theorem dX12_isSinger_11 : decode cX12_isSinger 11 = .ok (.ireturn, 1) := by decide +kernel
theorem dX12_isStep_0 : decode cX12_isStep 0 = .ok (.iload_n 1, 1) := by decide +kernel
theorem dX12_isStep_1 : decode cX12_isStep 1 = .ok (.iconst 0, 1) := by decide +kernel
theorem dX12_isStep_2 : decode cX12_isStep 2 = .ok (.aload_n 0, 1) := by decide +kernel
theorem dX12_isStep_3 : decode cX12_isStep 3 = .ok (.getfield 7, 3) := by decide +kernel
theorem dX12_isStep_6 : decode cX12_isStep 6 = .ok (.iconst 1, 1) := by decide +kernel
theorem dX12_isStep_7 : decode cX12_isStep 7 = .ok (.isub, 1) := by decide +kernel
theorem dX12_isStep_8 : decode cX12_isStep 8 = .ok (.invokestatic 127, 3) := by decide +kernel
theorem dX12_isStep_11 : decode cX12_isStep 11 = .ok (.ireturn, 1) := by decide +kernel
theorem dX12_set_0 : decode cX12_set 0 = .ok (.iload_n 1, 1) := by decide +kernel
theorem dX12_set_1 : decode cX12_set 1 = .ok (.tableswitch 253 0 5 #[39, 80, 120, 160, 200, 227], 39) := by decide +kernel
theorem dX12_set_40 : decode cX12_set 40 = .ok (.iload_n 2, 1) := by decide +kernel
theorem dX12_set_41 : decode cX12_set 41 = .ok (.iconst 0, 1) := by decide +kernel
theorem dX12_set_42 : decode cX12_set 42 = .ok (.bipush 47, 2) := by decide +kernel
theorem dX12_set_44 : decode cX12_set 44 = .ok (.invokestatic 127, 3) := by decide +kernel
theorem dX12_set_47 : decode cX12_set 47 = .ok (.ifCond .eq 13, 3) := by decide +kernel
theorem dX12_set_50 : decode cX12_set 50 = .ok (.iload_n 3, 1) := by decide +kernel
theorem dX12_set_51 : decode cX12_set 51 = .ok (.iconst 0, 1) := by decide +kernel
theorem dX12_set_52 : decode cX12_set 52 = .ok (.bipush 9, 2) := by decide +kernel
theorem dX12_set_54 : decode cX12_set 54 = .ok (.invokestatic 127, 3) := by decide +kernel
theorem dX12_set_57 : decode cX12_set 57 = .ok (.ifCond .ne 6, 3) := by decide +kernel
theorem dX12_set_60 : decode cX12_set 60 = .ok (.bipush (-2), 2) := by decide +kernel
theorem dX12_set_62 : decode cX12_set 62 = .ok (.ireturn, 1) := by decide +kernel
theorem dX12_set_63 : decode cX12_set 63 = .ok (.aload_n 0, 1) := by decide +kernel
theorem dX12_set_64 : decode cX12_set 64 = .ok (.getfield 13, 3) := by decide +kernel
theorem dX12_set_67 : decode cX12_set 67 = .ok (.iload_n 2, 1) := by decide +kernel
theorem dX12_set_68 : decode cX12_set 68 = .ok (.iaload, 1) := by decide +kernel
theorem dX12_set_69 : decode cX12_set 69 = .ok (.istore 4, 2) := by decide +kernel
theorem dX12_set_71 : decode cX12_set 71 = .ok (.aload_n 0, 1) := by decide +kernel
theorem dX12_set_72 : decode cX12_set 72 = .ok (.getfield 13, 3) := by decide +kernel
theorem dX12_set_75 : decode cX12_set 75 = .ok (.iload_n 2, 1) := by decide +kernel
theorem dX12_set_76 : decode cX12_set 76 = .ok (.iload_n 3, 1) := by decide +kernel
theorem dX12_set_77 : decode cX12_set 77 = .ok (.iastore, 1) := by decide +kernel
theorem dX12_set_78 : decode cX12_set 78 = .ok (.iload 4, 2) := by decide +kernel
theorem dX12_set_80 : decode cX12_set 80 = .ok (.ireturn, 1) := by decide +kernel
theorem dX12_set_81 : decode cX12_set 81 = .ok (.iload_n 2, 1) := by decide +kernel
theorem dX12_set_82 : decode cX12_set 82 = .ok (.iconst 0, 1) := by decide +kernel
theorem dX12_set_83 : decode cX12_set 83 = .ok (.bipush 47, 2) := by decide +kernel
theorem dX12_set_85 : decode cX12_set 85 = .ok (.invokestatic 127, 3) := by decide +kernel
theorem dX12_set_88 : decode cX12_set 88 = .ok (.ifCond .eq 12, 3) := by decide +kernel
theorem dX12_set_91 : decode cX12_set 91 = .ok (.iload_n 3, 1) := by decide +kernel
theorem dX12_set_92 : decode cX12_set 92 = .ok (.iconst 0, 1) := by decide +kernel
theorem dX12_set_93 : decode cX12_set 93 = .ok (.iconst 1, 1) := by decide +kernel
theorem dX12_set_94 : decode cX12_set 94 = .ok (.invokestatic 127, 3) := by decide +kernel
theorem dX12_set_97 : decode cX12_set 97 = .ok (.ifCond .ne 6, 3) := by decide +kernel
theorem dX12_set_100 : decode cX12_set 100 = .ok (.bipush (-2), 2) := by decide +kernel
theorem dX12_set_102 : decode cX12_set 102 = .ok (.ireturn, 1) := by decide +kernel
theorem dX12_set_103 : decode cX12_set 103 = .ok (.aload_n 0, 1) := by decide +kernel
theorem dX12_set_104 : decode cX12_set 104 = .ok (.getfield 17, 3) := by decide +kernel
theorem dX12_set_107 : decode cX12_set 107 = .ok (.iload_n 2, 1) := by decide +kernel
theorem dX12_set_108 : decode cX12_set 108 = .ok (.iaload, 1) := by decide +kernel
theorem dX12_set_109 : decode cX12_set 109 = .ok (.istore 4, 2) := by decide +kernel
theorem dX12_set_111 : decode cX12_set 111 = .ok (.aload_n 0, 1) := by decide +kernel
theorem dX12_set_112 : decode cX12_set 112 = .ok (.getfield 17, 3) := by decide +kernel
theorem dX12_set_115 : decode cX12_set 115 = .ok (.iload_n 2, 1) := by decide +kernel
theorem dX12_set_116 : decode cX12_set 116 = .ok (.iload_n 3, 1) := by decide +kernel
theorem dX12_set_117 : decode cX12_set 117 = .ok (.iastore, 1) := by decide +kernel
theorem dX12_set_118 : decode cX12_set 118 = .ok (.iload 4, 2) := by decide +kernel
theorem dX12_set_120 : decode cX12_set 120 = .ok (.ireturn, 1) := by decide +kernel
theorem dX12_set_121 : decode cX12_set 121 = .ok (.iload_n 2, 1) := by decide +kernel
theorem dX12_set_122 : decode cX12_set 122 = .ok (.iconst 0, 1) := by decide +kernel
theorem dX12_set_123 : decode cX12_set 123 = .ok (.bipush 47, 2) := by decide +kernel
theorem dX12_set_125 : decode cX12_set 125 = .ok (.invokestatic 127, 3) := by decide +kernel
theorem dX12_set_128 : decode cX12_set 128 = .ok (.ifCond .eq 12, 3) := by decide +kernel
theorem dX12_set_131 : decode cX12_set 131 = .ok (.iload_n 3, 1) := by decide +kernel
theorem dX12_set_132 : decode cX12_set 132 = .ok (.iconst 0, 1) := by decide +kernel
theorem dX12_set_133 : decode cX12_set 133 = .ok (.iconst 1, 1) := by decide +kernel
theorem dX12_set_134 : decode cX12_set 134 = .ok (.invokestatic 127, 3) := by decide +kernel
theorem dX12_set_137 : decode cX12_set 137 = .ok (.ifCond .ne 6, 3) := by decide +kernel
theorem dX12_set_140 : decode cX12_set 140 = .ok (.bipush (-2), 2) := by decide +kernel
theorem dX12_set_142 : decode cX12_set 142 = .ok (.ireturn, 1) := by decide +kernel
theorem dX12_set_143 : decode cX12_set 143 = .ok (.aload_n 0, 1) := by decide +kernel
theorem dX12_set_144 : decode cX12_set 144 = .ok (.getfield 20, 3) := by decide +kernel
theorem dX12_set_147 : decode cX12_set 147 = .ok (.iload_n 2, 1) := by decide +kernel
theorem dX12_set_148 : decode cX12_set 148 = .ok (.iaload, 1) := by decide +kernel
theorem dX12_set_149 : decode cX12_set 149 = .ok (.istore 4, 2) := by decide +kernel
theorem dX12_set_151 : decode cX12_set 151 = .ok (.aload_n 0, 1) := by decide +kernel
theorem dX12_set_152 : decode cX12_set 152 = .ok (.getfield 20, 3) := by decide +kernel
theorem dX12_set_155 : decode cX12_set 155 = .ok (.iload_n 2, 1) := by decide +kernel
theorem dX12_set_156 : decode cX12_set 156 = .ok (.iload_n 3, 1) := by decide +kernel
theorem dX12_set_157 : decode cX12_set 157 = .ok (.iastore, 1) := by decide +kernel
theorem dX12_set_158 : decode cX12_set 158 = .ok (.iload 4, 2) := by decide +kernel
theorem dX12_set_160 : decode cX12_set 160 = .ok (.ireturn, 1) := by decide +kernel
theorem dX12_set_161 : decode cX12_set 161 = .ok (.iload_n 2, 1) := by decide +kernel
theorem dX12_set_162 : decode cX12_set 162 = .ok (.iconst 0, 1) := by decide +kernel
theorem dX12_set_163 : decode cX12_set 163 = .ok (.iconst 3, 1) := by decide +kernel
theorem dX12_set_164 : decode cX12_set 164 = .ok (.invokestatic 127, 3) := by decide +kernel
theorem dX12_set_167 : decode cX12_set 167 = .ok (.ifCond .eq 13, 3) := by decide +kernel
theorem dX12_set_170 : decode cX12_set 170 = .ok (.iload_n 3, 1) := by decide +kernel
theorem dX12_set_171 : decode cX12_set 171 = .ok (.iconst 0, 1) := by decide +kernel
theorem dX12_set_172 : decode cX12_set 172 = .ok (.bipush 9, 2) := by decide +kernel
theorem dX12_set_174 : decode cX12_set 174 = .ok (.invokestatic 127, 3) := by decide +kernel
theorem dX12_set_177 : decode cX12_set 177 = .ok (.ifCond .ne 6, 3) := by decide +kernel
theorem dX12_set_180 : decode cX12_set 180 = .ok (.bipush (-2), 2) := by decide +kernel
theorem dX12_set_182 : decode cX12_set 182 = .ok (.ireturn, 1) := by decide +kernel
theorem dX12_set_183 : decode cX12_set 183 = .ok (.aload_n 0, 1) := by decide +kernel
theorem dX12_set_184 : decode cX12_set 184 = .ok (.getfield 23, 3) := by decide +kernel
theorem dX12_set_187 : decode cX12_set 187 = .ok (.iload_n 2, 1) := by decide +kernel
theorem dX12_set_188 : decode cX12_set 188 = .ok (.iaload, 1) := by decide +kernel
theorem dX12_set_189 : decode cX12_set 189 = .ok (.istore 4, 2) := by decide +kernel
theorem dX12_set_191 : decode cX12_set 191 = .ok (.aload_n 0, 1) := by decide +kernel
theorem dX12_set_192 : decode cX12_set 192 = .ok (.getfield 23, 3) := by decide +kernel
theorem dX12_set_195 : decode cX12_set 195 = .ok (.iload_n 2, 1) := by decide +kernel
theorem dX12_set_196 : decode cX12_set 196 = .ok (.iload_n 3, 1) := by decide +kernel
theorem dX12_set_197 : decode cX12_set 197 = .ok (.iastore, 1) := by decide +kernel
theorem dX12_set_198 : decode cX12_set 198 = .ok (.iload 4, 2) := by decide +kernel
theorem dX12_set_200 : decode cX12_set 200 = .ok (.ireturn, 1) := by decide +kernel
theorem dX12_set_201 : decode cX12_set 201 = .ok (.iload_n 3, 1) := by decide +kernel
theorem dX12_set_202 : decode cX12_set 202 = .ok (.iconst 1, 1) := by decide +kernel
theorem dX12_set_203 : decode cX12_set 203 = .ok (.bipush 48, 2) := by decide +kernel
theorem dX12_set_205 : decode cX12_set 205 = .ok (.invokestatic 127, 3) := by decide +kernel
theorem dX12_set_208 : decode cX12_set 208 = .ok (.ifCond .ne 6, 3) := by decide +kernel
theorem dX12_set_211 : decode cX12_set 211 = .ok (.bipush (-2), 2) := by decide +kernel
theorem dX12_set_213 : decode cX12_set 213 = .ok (.ireturn, 1) := by decide +kernel
theorem dX12_set_214 : decode cX12_set 214 = .ok (.aload_n 0, 1) := by decide +kernel
theorem dX12_set_215 : decode cX12_set 215 = .ok (.getfield 7, 3) := by decide +kernel
theorem dX12_set_218 : decode cX12_set 218 = .ok (.istore 4, 2) := by decide +kernel
theorem dX12_set_220 : decode cX12_set 220 = .ok (.aload_n 0, 1) := by decide +kernel
theorem dX12_set_221 : decode cX12_set 221 = .ok (.iload_n 3, 1) := by decide +kernel
theorem dX12_set_222 : decode cX12_set 222 = .ok (.putfield 7, 3) := by decide +kernel
theorem dX12_set_225 : decode cX12_set 225 = .ok (.iload 4, 2) := by decide +kernel
theorem dX12_set_227 : decode cX12_set 227 = .ok (.ireturn, 1) := by decide +kernel
theorem dX12_set_228 : decode cX12_set 228 = .ok (.iload_n 3, 1) := by decide +kernel
theorem dX12_set_229 : decode cX12_set 229 = .ok (.iconst 0, 1) := by decide +kernel
theorem dX12_set_230 : decode cX12_set 230 = .ok (.iconst 5, 1) := by decide +kernel
theorem dX12_set_231 : decode cX12_set 231 = .ok (.invokestatic 127, 3) := by decide +kernel
theorem dX12_set_234 : decode cX12_set 234 = .ok (.ifCond .ne 6, 3) := by decide +kernel
theorem dX12_set_237 : decode cX12_set 237 = .ok (.bipush (-2), 2) := by decide +kernel
theorem dX12_set_239 : decode cX12_set 239 = .ok (.ireturn, 1) := by decide +kernel
theorem dX12_set_240 : decode cX12_set 240 = .ok (.aload_n 0, 1) := by decide +kernel
theorem dX12_set_241 : decode cX12_set 241 = .ok (.getfield 131, 3) := by decide +kernel
theorem dX12_set_244 : decode cX12_set 244 = .ok (.istore 4, 2) := by decide +kernel
theorem dX12_set_246 : decode cX12_set 246 = .ok (.aload_n 0, 1) := by decide +kernel
theorem dX12_set_247 : decode cX12_set 247 = .ok (.iload_n 3, 1) := by decide +kernel
theorem dX12_set_248 : decode cX12_set 248 = .ok (.putfield 131, 3) := by decide +kernel
theorem dX12_set_251 : decode cX12_set 251 = .ok (.iload 4, 2) := by decide +kernel
theorem dX12_set_253 : decode cX12_set 253 = .ok (.ireturn, 1) := by decide +kernel
theorem dX12_set_254 : decode cX12_set 254 = .ok (.bipush (-2), 2) := by decide +kernel
theorem dX12_set_256 : decode cX12_set 256 = .ok (.ireturn, 1) := by decide +kernel
theorem dX12_singer_0 : decode cX12_singer 0 = .ok (.iload_n 1, 1) := by decide +kernel
theorem dX12_singer_1 : decode cX12_singer 1 = .ok (.iconst 0, 1) := by decide +kernel
theorem dX12_singer_2 : decode cX12_singer 2 = .ok (.iconst 5, 1) := by decide +kernel
theorem dX12_singer_3 : decode cX12_singer 3 = .ok (.invokestatic 127, 3) := by decide +kernel
theorem dX12_singer_6 : decode cX12_singer 6 = .ok (.ifCond .eq 49, 3) := by decide +kernel
theorem dX12_singer_9 : decode cX12_singer 9 = .ok (.iload_n 2, 1) := by decide +kernel
theorem dX12_singer_10 : decode cX12_singer 10 = .ok (.ifCond .lt 45, 3) := by decide +kernel
theorem dX12_singer_13 : decode cX12_singer 13 = .ok (.iload_n 2, 1) := by decide +kernel
theorem dX12_singer_14 : decode cX12_singer 14 = .ok (.sipush 1000, 3) := by decide +kernel
theorem dX12_singer_17 : decode cX12_singer 17 = .ok (.idiv, 1) := by decide +kernel
theorem dX12_singer_18 : decode cX12_singer 18 = .ok (.iconst 4, 1) := by decide +kernel
theorem dX12_singer_19 : decode cX12_singer 19 = .ok (.if_icmp .ge 36, 3) := by decide +kernel
theorem dX12_singer_22 : decode cX12_singer 22 = .ok (.iload_n 2, 1) := by decide +kernel
theorem dX12_singer_23 : decode cX12_singer 23 = .ok (.bipush 100, 2) := by decide +kernel
theorem dX12_singer_25 : decode cX12_singer 25 = .ok (.idiv, 1) := by decide +kernel
theorem dX12_singer_26 : decode cX12_singer 26 = .ok (.bipush 10, 2) := by decide +kernel
theorem dX12_singer_28 : decode cX12_singer 28 = .ok (.irem, 1) := by decide +kernel
theorem dX12_singer_29 : decode cX12_singer 29 = .ok (.ifCond .eq 26, 3) := by decide +kernel
theorem dX12_singer_32 : decode cX12_singer 32 = .ok (.iload_n 2, 1) := by decide +kernel
theorem dX12_singer_33 : decode cX12_singer 33 = .ok (.bipush 100, 2) := by decide +kernel
theorem dX12_singer_35 : decode cX12_singer 35 = .ok (.irem, 1) := by decide +kernel
theorem dX12_singer_36 : decode cX12_singer 36 = .ok (.iconst 2, 1) := by decide +kernel
theorem dX12_singer_37 : decode cX12_singer 37 = .ok (.bipush 40, 2) := by decide +kernel
theorem dX12_singer_39 : decode cX12_singer 39 = .ok (.invokestatic 127, 3) := by decide +kernel
theorem dX12_singer_42 : decode cX12_singer 42 = .ok (.ifCond .eq 13, 3) := by decide +kernel
theorem dX12_singer_45 : decode cX12_singer 45 = .ok (.iload_n 3, 1) := by decide +kernel
theorem dX12_singer_46 : decode cX12_singer 46 = .ok (.iconst 0, 1) := by decide +kernel
theorem dX12_singer_47 : decode cX12_singer 47 = .ok (.bipush 9, 2) := by decide +kernel
theorem dX12_singer_49 : decode cX12_singer 49 = .ok (.invokestatic 127, 3) := by decide +kernel
theorem dX12_singer_52 : decode cX12_singer 52 = .ok (.ifCond .ne 6, 3) := by decide +kernel
theorem dX12_singer_55 : decode cX12_singer 55 = .ok (.bipush (-2), 2) := by decide +kernel
theorem dX12_singer_57 : decode cX12_singer 57 = .ok (.ireturn, 1) := by decide +kernel
theorem dX12_singer_58 : decode cX12_singer 58 = .ok (.aload_n 0, 1) := by decide +kernel
theorem dX12_singer_59 : decode cX12_singer 59 = .ok (.getfield 124, 3) := by decide +kernel
theorem dX12_singer_62 : decode cX12_singer 62 = .ok (.bipush 10, 2) := by decide +kernel
theorem dX12_singer_64 : decode cX12_singer 64 = .ok (.if_icmp .ne 6, 3) := by decide +kernel
theorem dX12_singer_67 : decode cX12_singer 67 = .ok (.bipush (-4), 2) := by decide +kernel
theorem dX12_singer_69 : decode cX12_singer 69 = .ok (.ireturn, 1) := by decide +kernel
theorem dX12_singer_70 : decode cX12_singer 70 = .ok (.aload_n 0, 1) := by decide +kernel
theorem dX12_singer_71 : decode cX12_singer 71 = .ok (.getfield 26, 3) := by decide +kernel
theorem dX12_singer_74 : decode cX12_singer 74 = .ok (.aload_n 0, 1) := by decide +kernel
theorem dX12_singer_75 : decode cX12_singer 75 = .ok (.getfield 124, 3) := by decide +kernel
theorem dX12_singer_78 : decode cX12_singer 78 = .ok (.iload_n 1, 1) := by decide +kernel
theorem dX12_singer_79 : decode cX12_singer 79 = .ok (.iastore, 1) := by decide +kernel
theorem dX12_singer_80 : decode cX12_singer 80 = .ok (.aload_n 0, 1) := by decide +kernel
theorem dX12_singer_81 : decode cX12_singer 81 = .ok (.getfield 29, 3) := by decide +kernel
theorem dX12_singer_84 : decode cX12_singer 84 = .ok (.aload_n 0, 1) := by decide +kernel
theorem dX12_singer_85 : decode cX12_singer 85 = .ok (.getfield 124, 3) := by decide +kernel
theorem dX12_singer_88 : decode cX12_singer 88 = .ok (.iload_n 2, 1) := by decide +kernel
theorem dX12_singer_89 : decode cX12_singer 89 = .ok (.sipush 1000, 3) := by decide +kernel
theorem dX12_singer_92 : decode cX12_singer 92 = .ok (.idiv, 1) := by decide +kernel
theorem dX12_singer_93 : decode cX12_singer 93 = .ok (.iastore, 1) := by decide +kernel
theorem dX12_singer_94 : decode cX12_singer 94 = .ok (.aload_n 0, 1) := by decide +kernel
theorem dX12_singer_95 : decode cX12_singer 95 = .ok (.getfield 38, 3) := by decide +kernel
theorem dX12_singer_98 : decode cX12_singer 98 = .ok (.aload_n 0, 1) := by decide +kernel
theorem dX12_singer_99 : decode cX12_singer 99 = .ok (.getfield 124, 3) := by decide +kernel
theorem dX12_singer_102 : decode cX12_singer 102 = .ok (.iload_n 2, 1) := by decide +kernel
theorem dX12_singer_103 : decode cX12_singer 103 = .ok (.bipush 100, 2) := by decide +kernel
theorem dX12_singer_105 : decode cX12_singer 105 = .ok (.idiv, 1) := by decide +kernel
theorem dX12_singer_106 : decode cX12_singer 106 = .ok (.bipush 10, 2) := by decide +kernel
theorem dX12_singer_108 : decode cX12_singer 108 = .ok (.irem, 1) := by decide +kernel
theorem dX12_singer_109 : decode cX12_singer 109 = .ok (.iastore, 1) := by decide +kernel
theorem dX12_singer_110 : decode cX12_singer 110 = .ok (.aload_n 0, 1) := by decide +kernel
theorem dX12_singer_111 : decode cX12_singer 111 = .ok (.getfield 32, 3) := by decide +kernel
theorem dX12_singer_114 : decode cX12_singer 114 = .ok (.aload_n 0, 1) := by decide +kernel
theorem dX12_singer_115 : decode cX12_singer 115 = .ok (.getfield 124, 3) := by decide +kernel
theorem dX12_singer_118 : decode cX12_singer 118 = .ok (.iload_n 2, 1) := by decide +kernel
theorem dX12_singer_119 : decode cX12_singer 119 = .ok (.bipush 100, 2) := by decide +kernel
theorem dX12_singer_121 : decode cX12_singer 121 = .ok (.irem, 1) := by decide +kernel
theorem dX12_singer_122 : decode cX12_singer 122 = .ok (.iastore, 1) := by decide +kernel
theorem dX12_singer_123 : decode cX12_singer 123 = .ok (.aload_n 0, 1) := by decide +kernel
theorem dX12_singer_124 : decode cX12_singer 124 = .ok (.getfield 35, 3) := by decide +kernel
theorem dX12_singer_127 : decode cX12_singer 127 = .ok (.aload_n 0, 1) := by decide +kernel
theorem dX12_singer_128 : decode cX12_singer 128 = .ok (.getfield 124, 3) := by decide +kernel
theorem dX12_singer_131 : decode cX12_singer 131 = .ok (.iload_n 3, 1) := by decide +kernel
theorem dX12_singer_132 : decode cX12_singer 132 = .ok (.iastore, 1) := by decide +kernel
theorem dX12_singer_133 : decode cX12_singer 133 = .ok (.aload_n 0, 1) := by decide +kernel
theorem dX12_singer_134 : decode cX12_singer 134 = .ok (.dup, 1) := by decide +kernel
theorem dX12_singer_135 : decode cX12_singer 135 = .ok (.getfield 124, 3) := by decide +kernel
theorem dX12_singer_138 : decode cX12_singer 138 = .ok (.iconst 1, 1) := by decide +kernel
theorem dX12_singer_139 : decode cX12_singer 139 = .ok (.iadd, 1) := by decide +kernel
theorem dX12_singer_140 : decode cX12_singer 140 = .ok (.putfield 124, 3) := by decide +kernel
theorem dX12_singer_143 : decode cX12_singer 143 = .ok (.aload_n 0, 1) := by decide +kernel
theorem dX12_singer_144 : decode cX12_singer 144 = .ok (.getfield 124, 3) := by decide +kernel
theorem dX12_singer_147 : decode cX12_singer 147 = .ok (.iconst 1, 1) := by decide +kernel
theorem dX12_singer_148 : decode cX12_singer 148 = .ok (.isub, 1) := by decide +kernel
theorem dX12_singer_149 : decode cX12_singer 149 = .ok (.ireturn, 1) := by decide +kernel
theorem dX12_voice_0 : decode cX12_voice 0 = .ok (.aload_n 0, 1) := by decide +kernel
theorem dX12_voice_1 : decode cX12_voice 1 = .ok (.iload_n 1, 1) := by decide +kernel
theorem dX12_voice_2 : decode cX12_voice 2 = .ok (.invokevirtual 134, 3) := by decide +kernel
theorem dX12_voice_5 : decode cX12_voice 5 = .ok (.ifCond .eq 12, 3) := by decide +kernel
theorem dX12_voice_8 : decode cX12_voice 8 = .ok (.iload_n 2, 1) := by decide +kernel
theorem dX12_voice_9 : decode cX12_voice 9 = .ok (.iconst 0, 1) := by decide +kernel
theorem dX12_voice_10 : decode cX12_voice 10 = .ok (.iconst 3, 1) := by decide +kernel
theorem dX12_voice_11 : decode cX12_voice 11 = .ok (.invokestatic 127, 3) := by decide +kernel
theorem dX12_voice_14 : decode cX12_voice 14 = .ok (.ifCond .ne 6, 3) := by decide +kernel
theorem dX12_voice_17 : decode cX12_voice 17 = .ok (.bipush (-2), 2) := by decide +kernel
theorem dX12_voice_19 : decode cX12_voice 19 = .ok (.ireturn, 1) := by decide +kernel
theorem dX12_voice_20 : decode cX12_voice 20 = .ok (.aload_n 0, 1) := by decide +kernel
theorem dX12_voice_21 : decode cX12_voice 21 = .ok (.getfield 29, 3) := by decide +kernel
theorem dX12_voice_24 : decode cX12_voice 24 = .ok (.iload_n 1, 1) := by decide +kernel
theorem dX12_voice_25 : decode cX12_voice 25 = .ok (.iaload, 1) := by decide +kernel
theorem dX12_voice_26 : decode cX12_voice 26 = .ok (.istore_n 3, 1) := by decide +kernel
theorem dX12_voice_27 : decode cX12_voice 27 = .ok (.aload_n 0, 1) := by decide +kernel
theorem dX12_voice_28 : decode cX12_voice 28 = .ok (.getfield 29, 3) := by decide +kernel
theorem dX12_voice_31 : decode cX12_voice 31 = .ok (.iload_n 1, 1) := by decide +kernel
theorem dX12_voice_32 : decode cX12_voice 32 = .ok (.iload_n 2, 1) := by decide +kernel
theorem dX12_voice_33 : decode cX12_voice 33 = .ok (.iastore, 1) := by decide +kernel
theorem dX12_voice_34 : decode cX12_voice 34 = .ok (.iload_n 3, 1) := by decide +kernel
theorem dX12_voice_35 : decode cX12_voice 35 = .ok (.ireturn, 1) := by decide +kernel
theorem dX12_canHold_0 : decode cX12_canHold 0 = .ok (.aload_n 0, 1) := by decide +kernel
theorem dX12_canHold_1 : decode cX12_canHold 1 = .ok (.getfield 32, 3) := by decide +kernel
theorem dX12_canHold_4 : decode cX12_canHold 4 = .ok (.iload_n 1, 1) := by decide +kernel
theorem dX12_canHold_5 : decode cX12_canHold 5 = .ok (.iaload, 1) := by decide +kernel
theorem dX12_canHold_6 : decode cX12_canHold 6 = .ok (.iload_n 3, 1) := by decide +kernel
theorem dX12_canHold_7 : decode cX12_canHold 7 = .ok (.isub, 1) := by decide +kernel
theorem dX12_canHold_8 : decode cX12_canHold 8 = .ok (.istore 4, 2) := by decide +kernel
theorem dX12_canHold_10 : decode cX12_canHold 10 = .ok (.aload_n 0, 1) := by decide +kernel
theorem dX12_canHold_11 : decode cX12_canHold 11 = .ok (.getfield 26, 3) := by decide +kernel
theorem dX12_canHold_14 : decode cX12_canHold 14 = .ok (.iload_n 1, 1) := by decide +kernel
theorem dX12_canHold_15 : decode cX12_canHold 15 = .ok (.iaload, 1) := by decide +kernel
theorem dX12_canHold_16 : decode cX12_canHold 16 = .ok (.tableswitch 99 1 5 #[36, 47, 56, 72, 90], 36) := by decide +kernel
theorem dX12_canHold_52 : decode cX12_canHold 52 = .ok (.iload 4, 2) := by decide +kernel
theorem dX12_canHold_54 : decode cX12_canHold 54 = .ok (.iload_n 3, 1) := by decide +kernel
theorem dX12_canHold_55 : decode cX12_canHold 55 = .ok (.iconst 2, 1) := by decide +kernel
theorem dX12_canHold_56 : decode cX12_canHold 56 = .ok (.idiv, 1) := by decide +kernel
theorem dX12_canHold_57 : decode cX12_canHold 57 = .ok (.iadd, 1) := by decide +kernel
theorem dX12_canHold_58 : decode cX12_canHold 58 = .ok (.istore 5, 2) := by decide +kernel
theorem dX12_canHold_60 : decode cX12_canHold 60 = .ok (.goto 59, 3) := by decide +kernel
theorem dX12_canHold_63 : decode cX12_canHold 63 = .ok (.iload 4, 2) := by decide +kernel
theorem dX12_canHold_65 : decode cX12_canHold 65 = .ok (.iload_n 2, 1) := by decide +kernel
theorem dX12_canHold_66 : decode cX12_canHold 66 = .ok (.isub, 1) := by decide +kernel
theorem dX12_canHold_67 : decode cX12_canHold 67 = .ok (.istore 5, 2) := by decide +kernel
theorem dX12_canHold_69 : decode cX12_canHold 69 = .ok (.goto 50, 3) := by decide +kernel
theorem dX12_canHold_72 : decode cX12_canHold 72 = .ok (.iload 4, 2) := by decide +kernel
theorem dX12_canHold_74 : decode cX12_canHold 74 = .ok (.iload_n 2, 1) := by decide +kernel
theorem dX12_canHold_75 : decode cX12_canHold 75 = .ok (.isub, 1) := by decide +kernel
theorem dX12_canHold_76 : decode cX12_canHold 76 = .ok (.aload_n 0, 1) := by decide +kernel
theorem dX12_canHold_77 : decode cX12_canHold 77 = .ok (.getfield 35, 3) := by decide +kernel
theorem dX12_canHold_80 : decode cX12_canHold 80 = .ok (.iload_n 1, 1) := by decide +kernel
theorem dX12_canHold_81 : decode cX12_canHold 81 = .ok (.iaload, 1) := by decide +kernel
theorem dX12_canHold_82 : decode cX12_canHold 82 = .ok (.isub, 1) := by decide +kernel
theorem dX12_canHold_83 : decode cX12_canHold 83 = .ok (.istore 5, 2) := by decide +kernel
theorem dX12_canHold_85 : decode cX12_canHold 85 = .ok (.goto 34, 3) := by decide +kernel
theorem dX12_canHold_88 : decode cX12_canHold 88 = .ok (.iload 4, 2) := by decide +kernel
theorem dX12_canHold_90 : decode cX12_canHold 90 = .ok (.iload_n 3, 1) := by decide +kernel
theorem dX12_canHold_91 : decode cX12_canHold 91 = .ok (.iconst 2, 1) := by decide +kernel
theorem dX12_canHold_92 : decode cX12_canHold 92 = .ok (.idiv, 1) := by decide +kernel
theorem dX12_canHold_93 : decode cX12_canHold 93 = .ok (.iadd, 1) := by decide +kernel
theorem dX12_canHold_94 : decode cX12_canHold 94 = .ok (.aload_n 0, 1) := by decide +kernel
theorem dX12_canHold_95 : decode cX12_canHold 95 = .ok (.getfield 35, 3) := by decide +kernel
theorem dX12_canHold_98 : decode cX12_canHold 98 = .ok (.iload_n 1, 1) := by decide +kernel
theorem dX12_canHold_99 : decode cX12_canHold 99 = .ok (.iaload, 1) := by decide +kernel
theorem dX12_canHold_100 : decode cX12_canHold 100 = .ok (.iadd, 1) := by decide +kernel
theorem dX12_canHold_101 : decode cX12_canHold 101 = .ok (.istore 5, 2) := by decide +kernel
theorem dX12_canHold_103 : decode cX12_canHold 103 = .ok (.goto 16, 3) := by decide +kernel
theorem dX12_canHold_106 : decode cX12_canHold 106 = .ok (.iload 4, 2) := by decide +kernel
theorem dX12_canHold_108 : decode cX12_canHold 108 = .ok (.iconst 2, 1) := by decide +kernel
theorem dX12_canHold_109 : decode cX12_canHold 109 = .ok (.idiv, 1) := by decide +kernel
theorem dX12_canHold_110 : decode cX12_canHold 110 = .ok (.istore 5, 2) := by decide +kernel
theorem dX12_canHold_112 : decode cX12_canHold 112 = .ok (.goto 7, 3) := by decide +kernel
theorem dX12_canHold_115 : decode cX12_canHold 115 = .ok (.iload 4, 2) := by decide +kernel
theorem dX12_canHold_117 : decode cX12_canHold 117 = .ok (.istore 5, 2) := by decide +kernel
theorem dX12_canHold_119 : decode cX12_canHold 119 = .ok (.iload 5, 2) := by decide +kernel
theorem dX12_canHold_121 : decode cX12_canHold 121 = .ok (.iconst 1, 1) := by decide +kernel
theorem dX12_canHold_122 : decode cX12_canHold 122 = .ok (.if_icmp .ge 7, 3) := by decide +kernel
theorem dX12_canHold_125 : decode cX12_canHold 125 = .ok (.iconst 1, 1) := by decide +kernel
theorem dX12_canHold_126 : decode cX12_canHold 126 = .ok (.goto 5, 3) := by decide +kernel
theorem dX12_canHold_129 : decode cX12_canHold 129 = .ok (.iload 5, 2) := by decide +kernel
theorem dX12_canHold_131 : decode cX12_canHold 131 = .ok (.ireturn, 1) := by decide +kernel
theorem dX12_takes_0 : decode cX12_takes 0 = .ok (.aload_n 0, 1) := by decide +kernel
theorem dX12_takes_1 : decode cX12_takes 1 = .ok (.getfield 26, 3) := by decide +kernel
theorem dX12_takes_4 : decode cX12_takes 4 = .ok (.iload_n 1, 1) := by decide +kernel
theorem dX12_takes_5 : decode cX12_takes 5 = .ok (.iaload, 1) := by decide +kernel
theorem dX12_takes_6 : decode cX12_takes 6 = .ok (.iconst 5, 1) := by decide +kernel
theorem dX12_takes_7 : decode cX12_takes 7 = .ok (.if_icmp .ne 12, 3) := by decide +kernel
theorem dX12_takes_10 : decode cX12_takes 10 = .ok (.iconst 2, 1) := by decide +kernel
theorem dX12_takes_11 : decode cX12_takes 11 = .ok (.aload_n 0, 1) := by decide +kernel
theorem dX12_takes_12 : decode cX12_takes 12 = .ok (.getfield 38, 3) := by decide +kernel
theorem dX12_takes_15 : decode cX12_takes 15 = .ok (.iload_n 1, 1) := by decide +kernel
theorem dX12_takes_16 : decode cX12_takes 16 = .ok (.iaload, 1) := by decide +kernel
theorem dX12_takes_17 : decode cX12_takes 17 = .ok (.imul, 1) := by decide +kernel
theorem dX12_takes_18 : decode cX12_takes 18 = .ok (.ireturn, 1) := by decide +kernel
theorem dX12_takes_19 : decode cX12_takes 19 = .ok (.aload_n 0, 1) := by decide +kernel
theorem dX12_takes_20 : decode cX12_takes 20 = .ok (.getfield 26, 3) := by decide +kernel
theorem dX12_takes_23 : decode cX12_takes 23 = .ok (.iload_n 1, 1) := by decide +kernel
theorem dX12_takes_24 : decode cX12_takes 24 = .ok (.iaload, 1) := by decide +kernel
theorem dX12_takes_25 : decode cX12_takes 25 = .ok (.iconst 2, 1) := by decide +kernel
theorem dX12_takes_26 : decode cX12_takes 26 = .ok (.if_icmp .eq 13, 3) := by decide +kernel
theorem dX12_takes_29 : decode cX12_takes 29 = .ok (.aload_n 0, 1) := by decide +kernel
theorem dX12_takes_30 : decode cX12_takes 30 = .ok (.getfield 26, 3) := by decide +kernel
theorem dX12_takes_33 : decode cX12_takes 33 = .ok (.iload_n 1, 1) := by decide +kernel
theorem dX12_takes_34 : decode cX12_takes 34 = .ok (.iaload, 1) := by decide +kernel
theorem dX12_takes_35 : decode cX12_takes 35 = .ok (.iconst 3, 1) := by decide +kernel
theorem dX12_takes_36 : decode cX12_takes 36 = .ok (.if_icmp .ne 19, 3) := by decide +kernel
theorem dX12_takes_39 : decode cX12_takes 39 = .ok (.iload_n 2, 1) := by decide +kernel
theorem dX12_takes_40 : decode cX12_takes 40 = .ok (.iconst 3, 1) := by decide +kernel
theorem dX12_takes_41 : decode cX12_takes 41 = .ok (.if_icmp .lt 14, 3) := by decide +kernel
theorem dX12_takes_44 : decode cX12_takes 44 = .ok (.aload_n 0, 1) := by decide +kernel
theorem dX12_takes_45 : decode cX12_takes 45 = .ok (.getfield 38, 3) := by decide +kernel
theorem dX12_takes_48 : decode cX12_takes 48 = .ok (.iload_n 1, 1) := by decide +kernel
theorem dX12_takes_49 : decode cX12_takes 49 = .ok (.iaload, 1) := by decide +kernel
theorem dX12_takes_50 : decode cX12_takes 50 = .ok (.iconst 1, 1) := by decide +kernel
theorem dX12_takes_51 : decode cX12_takes 51 = .ok (.iadd, 1) := by decide +kernel
theorem dX12_takes_52 : decode cX12_takes 52 = .ok (.goto 9, 3) := by decide +kernel
theorem dX12_takes_55 : decode cX12_takes 55 = .ok (.aload_n 0, 1) := by decide +kernel
theorem dX12_takes_56 : decode cX12_takes 56 = .ok (.getfield 38, 3) := by decide +kernel
theorem dX12_takes_59 : decode cX12_takes 59 = .ok (.iload_n 1, 1) := by decide +kernel
theorem dX12_takes_60 : decode cX12_takes 60 = .ok (.iaload, 1) := by decide +kernel
theorem dX12_takes_61 : decode cX12_takes 61 = .ok (.ireturn, 1) := by decide +kernel
theorem dX12_doesSay_0 : decode cX12_doesSay 0 = .ok (.aload_n 0, 1) := by decide +kernel
theorem dX12_doesSay_1 : decode cX12_doesSay 1 = .ok (.getfield 26, 3) := by decide +kernel
theorem dX12_doesSay_4 : decode cX12_doesSay 4 = .ok (.iload_n 1, 1) := by decide +kernel
theorem dX12_doesSay_5 : decode cX12_doesSay 5 = .ok (.iaload, 1) := by decide +kernel
theorem dX12_doesSay_6 : decode cX12_doesSay 6 = .ok (.iconst 5, 1) := by decide +kernel
theorem dX12_doesSay_7 : decode cX12_doesSay 7 = .ok (.if_icmp .ne 5, 3) := by decide +kernel
theorem dX12_doesSay_10 : decode cX12_doesSay 10 = .ok (.iconst 1, 1) := by decide +kernel
theorem dX12_doesSay_11 : decode cX12_doesSay 11 = .ok (.ireturn, 1) := by decide +kernel
theorem dX12_doesSay_12 : decode cX12_doesSay 12 = .ok (.aload_n 0, 1) := by decide +kernel
theorem dX12_doesSay_13 : decode cX12_doesSay 13 = .ok (.getfield 26, 3) := by decide +kernel
theorem dX12_doesSay_16 : decode cX12_doesSay 16 = .ok (.iload_n 1, 1) := by decide +kernel
theorem dX12_doesSay_17 : decode cX12_doesSay 17 = .ok (.iaload, 1) := by decide +kernel
theorem dX12_doesSay_18 : decode cX12_doesSay 18 = .ok (.iconst 1, 1) := by decide +kernel
theorem dX12_doesSay_19 : decode cX12_doesSay 19 = .ok (.if_icmp .eq 13, 3) := by decide +kernel
theorem dX12_doesSay_22 : decode cX12_doesSay 22 = .ok (.aload_n 0, 1) := by decide +kernel
theorem dX12_doesSay_23 : decode cX12_doesSay 23 = .ok (.getfield 26, 3) := by decide +kernel
theorem dX12_doesSay_26 : decode cX12_doesSay 26 = .ok (.iload_n 1, 1) := by decide +kernel
theorem dX12_doesSay_27 : decode cX12_doesSay 27 = .ok (.iaload, 1) := by decide +kernel
theorem dX12_doesSay_28 : decode cX12_doesSay 28 = .ok (.iconst 4, 1) := by decide +kernel
theorem dX12_doesSay_29 : decode cX12_doesSay 29 = .ok (.if_icmp .ne 5, 3) := by decide +kernel
theorem dX12_doesSay_32 : decode cX12_doesSay 32 = .ok (.iconst 0, 1) := by decide +kernel
theorem dX12_doesSay_33 : decode cX12_doesSay 33 = .ok (.ireturn, 1) := by decide +kernel
theorem dX12_doesSay_34 : decode cX12_doesSay 34 = .ok (.aload_n 0, 1) := by decide +kernel
theorem dX12_doesSay_35 : decode cX12_doesSay 35 = .ok (.getfield 26, 3) := by decide +kernel
theorem dX12_doesSay_38 : decode cX12_doesSay 38 = .ok (.iload_n 1, 1) := by decide +kernel
theorem dX12_doesSay_39 : decode cX12_doesSay 39 = .ok (.iaload, 1) := by decide +kernel
theorem dX12_doesSay_40 : decode cX12_doesSay 40 = .ok (.iconst 3, 1) := by decide +kernel
theorem dX12_doesSay_41 : decode cX12_doesSay 41 = .ok (.if_icmp .ne 8, 3) := by decide +kernel
theorem dX12_doesSay_44 : decode cX12_doesSay 44 = .ok (.iload_n 2, 1) := by decide +kernel
theorem dX12_doesSay_45 : decode cX12_doesSay 45 = .ok (.iconst 5, 1) := by decide +kernel
theorem dX12_doesSay_46 : decode cX12_doesSay 46 = .ok (.if_icmp .ge 18, 3) := by decide +kernel
theorem dX12_doesSay_49 : decode cX12_doesSay 49 = .ok (.aload_n 0, 1) := by decide +kernel
theorem dX12_doesSay_50 : decode cX12_doesSay 50 = .ok (.getfield 35, 3) := by decide +kernel
theorem dX12_doesSay_53 : decode cX12_doesSay 53 = .ok (.iload_n 1, 1) := by decide +kernel
theorem dX12_doesSay_54 : decode cX12_doesSay 54 = .ok (.iaload, 1) := by decide +kernel
theorem dX12_doesSay_55 : decode cX12_doesSay 55 = .ok (.iconst 2, 1) := by decide +kernel
theorem dX12_doesSay_56 : decode cX12_doesSay 56 = .ok (.irem, 1) := by decide +kernel
theorem dX12_doesSay_57 : decode cX12_doesSay 57 = .ok (.ifCond .ne 7, 3) := by decide +kernel
theorem dX12_doesSay_60 : decode cX12_doesSay 60 = .ok (.iconst 1, 1) := by decide +kernel
theorem dX12_doesSay_61 : decode cX12_doesSay 61 = .ok (.goto 4, 3) := by decide +kernel
theorem dX12_doesSay_64 : decode cX12_doesSay 64 = .ok (.iconst 0, 1) := by decide +kernel
theorem dX12_doesSay_65 : decode cX12_doesSay 65 = .ok (.ireturn, 1) := by decide +kernel
theorem dX12_told_0 : decode cX12_told 0 = .ok (.aload_n 0, 1) := by decide +kernel
theorem dX12_told_1 : decode cX12_told 1 = .ok (.iload_n 1, 1) := by decide +kernel
theorem dX12_told_2 : decode cX12_told 2 = .ok (.invokevirtual 134, 3) := by decide +kernel
theorem dX12_told_5 : decode cX12_told 5 = .ok (.ifCond .eq 23, 3) := by decide +kernel
theorem dX12_told_8 : decode cX12_told 8 = .ok (.iload_n 2, 1) := by decide +kernel
theorem dX12_told_9 : decode cX12_told 9 = .ok (.iconst 0, 1) := by decide +kernel
theorem dX12_told_10 : decode cX12_told 10 = .ok (.bipush 48, 2) := by decide +kernel
theorem dX12_told_12 : decode cX12_told 12 = .ok (.invokestatic 127, 3) := by decide +kernel
theorem dX12_told_15 : decode cX12_told 15 = .ok (.ifCond .eq 13, 3) := by decide +kernel
theorem dX12_told_18 : decode cX12_told 18 = .ok (.iload_n 3, 1) := by decide +kernel
theorem dX12_told_19 : decode cX12_told 19 = .ok (.iconst 0, 1) := by decide +kernel
theorem dX12_told_20 : decode cX12_told 20 = .ok (.bipush 47, 2) := by decide +kernel
theorem dX12_told_22 : decode cX12_told 22 = .ok (.invokestatic 127, 3) := by decide +kernel
theorem dX12_told_25 : decode cX12_told 25 = .ok (.ifCond .ne 6, 3) := by decide +kernel
theorem dX12_told_28 : decode cX12_told 28 = .ok (.bipush (-2), 2) := by decide +kernel
theorem dX12_told_30 : decode cX12_told 30 = .ok (.ireturn, 1) := by decide +kernel
theorem dX12_told_31 : decode cX12_told 31 = .ok (.iload 4, 2) := by decide +kernel
theorem dX12_told_33 : decode cX12_told 33 = .ok (.tableswitch 100 0 5 #[39, 46, 53, 66, 73, 93], 39) := by decide +kernel
theorem dX12_told_72 : decode cX12_told 72 = .ok (.aload_n 0, 1) := by decide +kernel
theorem dX12_told_73 : decode cX12_told 73 = .ok (.getfield 26, 3) := by decide +kernel
theorem dX12_told_76 : decode cX12_told 76 = .ok (.iload_n 1, 1) := by decide +kernel
theorem dX12_told_77 : decode cX12_told 77 = .ok (.iaload, 1) := by decide +kernel
theorem dX12_told_78 : decode cX12_told 78 = .ok (.ireturn, 1) := by decide +kernel
theorem dX12_told_79 : decode cX12_told 79 = .ok (.aload_n 0, 1) := by decide +kernel
theorem dX12_told_80 : decode cX12_told 80 = .ok (.getfield 29, 3) := by decide +kernel
theorem dX12_told_83 : decode cX12_told 83 = .ok (.iload_n 1, 1) := by decide +kernel
theorem dX12_told_84 : decode cX12_told 84 = .ok (.iaload, 1) := by decide +kernel
theorem dX12_told_85 : decode cX12_told 85 = .ok (.ireturn, 1) := by decide +kernel
theorem dX12_told_86 : decode cX12_told 86 = .ok (.aload_n 0, 1) := by decide +kernel
theorem dX12_told_87 : decode cX12_told 87 = .ok (.iload_n 1, 1) := by decide +kernel
theorem dX12_told_88 : decode cX12_told 88 = .ok (.iload_n 2, 1) := by decide +kernel
theorem dX12_told_89 : decode cX12_told 89 = .ok (.aload_n 0, 1) := by decide +kernel
theorem dX12_told_90 : decode cX12_told 90 = .ok (.getfield 13, 3) := by decide +kernel
theorem dX12_told_93 : decode cX12_told 93 = .ok (.iload_n 3, 1) := by decide +kernel
theorem dX12_told_94 : decode cX12_told 94 = .ok (.iaload, 1) := by decide +kernel
theorem dX12_told_95 : decode cX12_told 95 = .ok (.invokevirtual 138, 3) := by decide +kernel
theorem dX12_told_98 : decode cX12_told 98 = .ok (.ireturn, 1) := by decide +kernel
theorem dX12_told_99 : decode cX12_told 99 = .ok (.aload_n 0, 1) := by decide +kernel
theorem dX12_told_100 : decode cX12_told 100 = .ok (.iload_n 1, 1) := by decide +kernel
theorem dX12_told_101 : decode cX12_told 101 = .ok (.iload_n 2, 1) := by decide +kernel
theorem dX12_told_102 : decode cX12_told 102 = .ok (.invokevirtual 142, 3) := by decide +kernel
theorem dX12_told_105 : decode cX12_told 105 = .ok (.ireturn, 1) := by decide +kernel
theorem dX12_told_106 : decode cX12_told 106 = .ok (.aload_n 0, 1) := by decide +kernel
theorem dX12_told_107 : decode cX12_told 107 = .ok (.iload_n 1, 1) := by decide +kernel
theorem dX12_told_108 : decode cX12_told 108 = .ok (.aload_n 0, 1) := by decide +kernel
theorem dX12_told_109 : decode cX12_told 109 = .ok (.getfield 13, 3) := by decide +kernel
theorem dX12_told_112 : decode cX12_told 112 = .ok (.iload_n 3, 1) := by decide +kernel
theorem dX12_told_113 : decode cX12_told 113 = .ok (.iaload, 1) := by decide +kernel
theorem dX12_told_114 : decode cX12_told 114 = .ok (.invokevirtual 146, 3) := by decide +kernel
theorem dX12_told_117 : decode cX12_told 117 = .ok (.ifCond .eq 7, 3) := by decide +kernel
theorem dX12_told_120 : decode cX12_told 120 = .ok (.iconst 1, 1) := by decide +kernel
theorem dX12_told_121 : decode cX12_told 121 = .ok (.goto 4, 3) := by decide +kernel
theorem dX12_told_124 : decode cX12_told 124 = .ok (.iconst 0, 1) := by decide +kernel
theorem dX12_told_125 : decode cX12_told 125 = .ok (.ireturn, 1) := by decide +kernel
theorem dX12_told_126 : decode cX12_told 126 = .ok (.aload_n 0, 1) := by decide +kernel
theorem dX12_told_127 : decode cX12_told 127 = .ok (.getfield 32, 3) := by decide +kernel
theorem dX12_told_130 : decode cX12_told 130 = .ok (.iload_n 1, 1) := by decide +kernel
theorem dX12_told_131 : decode cX12_told 131 = .ok (.iaload, 1) := by decide +kernel
theorem dX12_told_132 : decode cX12_told 132 = .ok (.ireturn, 1) := by decide +kernel
theorem dX12_told_133 : decode cX12_told 133 = .ok (.bipush (-2), 2) := by decide +kernel
theorem dX12_told_135 : decode cX12_told 135 = .ok (.ireturn, 1) := by decide +kernel
theorem dX12_feed_0 : decode cX12_feed 0 = .ok (.iload_n 1, 1) := by decide +kernel
theorem dX12_feed_1 : decode cX12_feed 1 = .ok (.iconst 1, 1) := by decide +kernel
theorem dX12_feed_2 : decode cX12_feed 2 = .ok (.bipush 8, 2) := by decide +kernel
theorem dX12_feed_4 : decode cX12_feed 4 = .ok (.invokestatic 127, 3) := by decide +kernel
