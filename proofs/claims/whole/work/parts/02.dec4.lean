theorem dX12_beginThin_8 : decode cX12_beginThin 8 = .ok (.getfield 85, 3) := by decide +kernel
theorem dX12_beginThin_11 : decode cX12_beginThin 11 = .ok (.iload_n 1, 1) := by decide +kernel
theorem dX12_beginThin_12 : decode cX12_beginThin 12 = .ok (.iconst 0, 1) := by decide +kernel
theorem dX12_beginThin_13 : decode cX12_beginThin 13 = .ok (.iastore, 1) := by decide +kernel
theorem dX12_beginThin_14 : decode cX12_beginThin 14 = .ok (.iinc 1 1, 3) := by decide +kernel
theorem dX12_beginThin_17 : decode cX12_beginThin 17 = .ok (.goto (-15), 3) := by decide +kernel
theorem dX12_beginThin_20 : decode cX12_beginThin 20 = .ok (.return_, 1) := by decide +kernel
theorem dX12_isHeard_0 : decode cX12_isHeard 0 = .ok (.aload_n 0, 1) := by decide +kernel
theorem dX12_isHeard_1 : decode cX12_isHeard 1 = .ok (.getfield 85, 3) := by decide +kernel
theorem dX12_isHeard_4 : decode cX12_isHeard 4 = .ok (.iload_n 1, 1) := by decide +kernel
theorem dX12_isHeard_5 : decode cX12_isHeard 5 = .ok (.iaload, 1) := by decide +kernel
theorem dX12_isHeard_6 : decode cX12_isHeard 6 = .ok (.aload_n 0, 1) := by decide +kernel
theorem dX12_isHeard_7 : decode cX12_isHeard 7 = .ok (.getfield 131, 3) := by decide +kernel
theorem dX12_isHeard_10 : decode cX12_isHeard 10 = .ok (.if_icmp .le 7, 3) := by decide +kernel
theorem dX12_isHeard_13 : decode cX12_isHeard 13 = .ok (.iconst 1, 1) := by decide +kernel
theorem dX12_isHeard_14 : decode cX12_isHeard 14 = .ok (.goto 4, 3) := by decide +kernel
theorem dX12_isHeard_17 : decode cX12_isHeard 17 = .ok (.iconst 0, 1) := by decide +kernel
theorem dX12_isHeard_18 : decode cX12_isHeard 18 = .ok (.ireturn, 1) := by decide +kernel
theorem dX12_wrongIn_0 : decode cX12_wrongIn 0 = .ok (.iconst 0, 1) := by decide +kernel
theorem dX12_wrongIn_1 : decode cX12_wrongIn 1 = .ok (.istore_n 2, 1) := by decide +kernel
theorem dX12_wrongIn_2 : decode cX12_wrongIn 2 = .ok (.iload_n 2, 1) := by decide +kernel
theorem dX12_wrongIn_3 : decode cX12_wrongIn 3 = .ok (.aload_n 0, 1) := by decide +kernel
theorem dX12_wrongIn_4 : decode cX12_wrongIn 4 = .ok (.getfield 124, 3) := by decide +kernel
theorem dX12_wrongIn_7 : decode cX12_wrongIn 7 = .ok (.if_icmp .ge 49, 3) := by decide +kernel
theorem dX12_wrongIn_10 : decode cX12_wrongIn 10 = .ok (.aload_n 0, 1) := by decide +kernel
theorem dX12_wrongIn_11 : decode cX12_wrongIn 11 = .ok (.getfield 78, 3) := by decide +kernel
theorem dX12_wrongIn_14 : decode cX12_wrongIn 14 = .ok (.iload_n 2, 1) := by decide +kernel
theorem dX12_wrongIn_15 : decode cX12_wrongIn 15 = .ok (.baload, 1) := by decide +kernel
theorem dX12_wrongIn_16 : decode cX12_wrongIn 16 = .ok (.ifCond .eq 34, 3) := by decide +kernel
theorem dX12_wrongIn_19 : decode cX12_wrongIn 19 = .ok (.aload_n 0, 1) := by decide +kernel
theorem dX12_wrongIn_20 : decode cX12_wrongIn 20 = .ok (.getfield 69, 3) := by decide +kernel
theorem dX12_wrongIn_23 : decode cX12_wrongIn 23 = .ok (.iload_n 2, 1) := by decide +kernel
theorem dX12_wrongIn_24 : decode cX12_wrongIn 24 = .ok (.iaload, 1) := by decide +kernel
theorem dX12_wrongIn_25 : decode cX12_wrongIn 25 = .ok (.aload_n 0, 1) := by decide +kernel
theorem dX12_wrongIn_26 : decode cX12_wrongIn 26 = .ok (.iload_n 2, 1) := by decide +kernel
theorem dX12_wrongIn_27 : decode cX12_wrongIn 27 = .ok (.aload_n 0, 1) := by decide +kernel
theorem dX12_wrongIn_28 : decode cX12_wrongIn 28 = .ok (.getfield 75, 3) := by decide +kernel
theorem dX12_wrongIn_31 : decode cX12_wrongIn 31 = .ok (.iload_n 2, 1) := by decide +kernel
theorem dX12_wrongIn_32 : decode cX12_wrongIn 32 = .ok (.iaload, 1) := by decide +kernel
theorem dX12_wrongIn_33 : decode cX12_wrongIn 33 = .ok (.aload_n 0, 1) := by decide +kernel
theorem dX12_wrongIn_34 : decode cX12_wrongIn 34 = .ok (.getfield 13, 3) := by decide +kernel
theorem dX12_wrongIn_37 : decode cX12_wrongIn 37 = .ok (.iload_n 1, 1) := by decide +kernel
theorem dX12_wrongIn_38 : decode cX12_wrongIn 38 = .ok (.iaload, 1) := by decide +kernel
theorem dX12_wrongIn_39 : decode cX12_wrongIn 39 = .ok (.invokevirtual 138, 3) := by decide +kernel
theorem dX12_wrongIn_42 : decode cX12_wrongIn 42 = .ok (.if_icmp .le 8, 3) := by decide +kernel
theorem dX12_wrongIn_45 : decode cX12_wrongIn 45 = .ok (.bipush 100, 2) := by decide +kernel
theorem dX12_wrongIn_47 : decode cX12_wrongIn 47 = .ok (.iload_n 2, 1) := by decide +kernel
theorem dX12_wrongIn_48 : decode cX12_wrongIn 48 = .ok (.iadd, 1) := by decide +kernel
theorem dX12_wrongIn_49 : decode cX12_wrongIn 49 = .ok (.ireturn, 1) := by decide +kernel
theorem dX12_wrongIn_50 : decode cX12_wrongIn 50 = .ok (.iinc 2 1, 3) := by decide +kernel
theorem dX12_wrongIn_53 : decode cX12_wrongIn 53 = .ok (.goto (-51), 3) := by decide +kernel
theorem dX12_wrongIn_56 : decode cX12_wrongIn 56 = .ok (.iconst 0, 1) := by decide +kernel
theorem dX12_wrongIn_57 : decode cX12_wrongIn 57 = .ok (.istore_n 2, 1) := by decide +kernel
theorem dX12_wrongIn_58 : decode cX12_wrongIn 58 = .ok (.iload_n 2, 1) := by decide +kernel
theorem dX12_wrongIn_59 : decode cX12_wrongIn 59 = .ok (.iconst 1, 1) := by decide +kernel
theorem dX12_wrongIn_60 : decode cX12_wrongIn 60 = .ok (.iadd, 1) := by decide +kernel
theorem dX12_wrongIn_61 : decode cX12_wrongIn 61 = .ok (.aload_n 0, 1) := by decide +kernel
theorem dX12_wrongIn_62 : decode cX12_wrongIn 62 = .ok (.getfield 124, 3) := by decide +kernel
theorem dX12_wrongIn_65 : decode cX12_wrongIn 65 = .ok (.if_icmp .ge 35, 3) := by decide +kernel
theorem dX12_wrongIn_68 : decode cX12_wrongIn 68 = .ok (.aload_n 0, 1) := by decide +kernel
theorem dX12_wrongIn_69 : decode cX12_wrongIn 69 = .ok (.getfield 78, 3) := by decide +kernel
theorem dX12_wrongIn_72 : decode cX12_wrongIn 72 = .ok (.iload_n 2, 1) := by decide +kernel
theorem dX12_wrongIn_73 : decode cX12_wrongIn 73 = .ok (.baload, 1) := by decide +kernel
theorem dX12_wrongIn_74 : decode cX12_wrongIn 74 = .ok (.ifCond .ne 20, 3) := by decide +kernel
theorem dX12_wrongIn_77 : decode cX12_wrongIn 77 = .ok (.aload_n 0, 1) := by decide +kernel
theorem dX12_wrongIn_78 : decode cX12_wrongIn 78 = .ok (.getfield 78, 3) := by decide +kernel
theorem dX12_wrongIn_81 : decode cX12_wrongIn 81 = .ok (.iload_n 2, 1) := by decide +kernel
theorem dX12_wrongIn_82 : decode cX12_wrongIn 82 = .ok (.iconst 1, 1) := by decide +kernel
theorem dX12_wrongIn_83 : decode cX12_wrongIn 83 = .ok (.iadd, 1) := by decide +kernel
theorem dX12_wrongIn_84 : decode cX12_wrongIn 84 = .ok (.baload, 1) := by decide +kernel
theorem dX12_wrongIn_85 : decode cX12_wrongIn 85 = .ok (.ifCond .ne 9, 3) := by decide +kernel
theorem dX12_wrongIn_88 : decode cX12_wrongIn 88 = .ok (.sipush 200, 3) := by decide +kernel
theorem dX12_wrongIn_91 : decode cX12_wrongIn 91 = .ok (.iload_n 2, 1) := by decide +kernel
theorem dX12_wrongIn_92 : decode cX12_wrongIn 92 = .ok (.iadd, 1) := by decide +kernel
theorem dX12_wrongIn_93 : decode cX12_wrongIn 93 = .ok (.ireturn, 1) := by decide +kernel
theorem dX12_wrongIn_94 : decode cX12_wrongIn 94 = .ok (.iinc 2 1, 3) := by decide +kernel
theorem dX12_wrongIn_97 : decode cX12_wrongIn 97 = .ok (.goto (-39), 3) := by decide +kernel
theorem dX12_wrongIn_100 : decode cX12_wrongIn 100 = .ok (.iconst 0, 1) := by decide +kernel
theorem dX12_wrongIn_101 : decode cX12_wrongIn 101 = .ok (.istore_n 2, 1) := by decide +kernel
theorem dX12_wrongIn_102 : decode cX12_wrongIn 102 = .ok (.iload_n 2, 1) := by decide +kernel
theorem dX12_wrongIn_103 : decode cX12_wrongIn 103 = .ok (.iconst 4, 1) := by decide +kernel
theorem dX12_wrongIn_104 : decode cX12_wrongIn 104 = .ok (.if_icmp .ge 23, 3) := by decide +kernel
theorem dX12_wrongIn_107 : decode cX12_wrongIn 107 = .ok (.aload_n 0, 1) := by decide +kernel
theorem dX12_wrongIn_108 : decode cX12_wrongIn 108 = .ok (.iload_n 2, 1) := by decide +kernel
theorem dX12_wrongIn_109 : decode cX12_wrongIn 109 = .ok (.invokevirtual 281, 3) := by decide +kernel
theorem dX12_wrongIn_112 : decode cX12_wrongIn 112 = .ok (.ifCond .eq 9, 3) := by decide +kernel
theorem dX12_wrongIn_115 : decode cX12_wrongIn 115 = .ok (.sipush 300, 3) := by decide +kernel
theorem dX12_wrongIn_118 : decode cX12_wrongIn 118 = .ok (.iload_n 2, 1) := by decide +kernel
theorem dX12_wrongIn_119 : decode cX12_wrongIn 119 = .ok (.iadd, 1) := by decide +kernel
theorem dX12_wrongIn_120 : decode cX12_wrongIn 120 = .ok (.ireturn, 1) := by decide +kernel
theorem dX12_wrongIn_121 : decode cX12_wrongIn 121 = .ok (.iinc 2 1, 3) := by decide +kernel
theorem dX12_wrongIn_124 : decode cX12_wrongIn 124 = .ok (.goto (-22), 3) := by decide +kernel
theorem dX12_wrongIn_127 : decode cX12_wrongIn 127 = .ok (.aload_n 0, 1) := by decide +kernel
theorem dX12_wrongIn_128 : decode cX12_wrongIn 128 = .ok (.getfield 20, 3) := by decide +kernel
theorem dX12_wrongIn_131 : decode cX12_wrongIn 131 = .ok (.iload_n 1, 1) := by decide +kernel
theorem dX12_wrongIn_132 : decode cX12_wrongIn 132 = .ok (.iaload, 1) := by decide +kernel
theorem dX12_wrongIn_133 : decode cX12_wrongIn 133 = .ok (.ifCond .ne 5, 3) := by decide +kernel
theorem dX12_wrongIn_136 : decode cX12_wrongIn 136 = .ok (.iconst (-1), 1) := by decide +kernel
theorem dX12_wrongIn_137 : decode cX12_wrongIn 137 = .ok (.ireturn, 1) := by decide +kernel
theorem dX12_wrongIn_138 : decode cX12_wrongIn 138 = .ok (.iconst 0, 1) := by decide +kernel
theorem dX12_wrongIn_139 : decode cX12_wrongIn 139 = .ok (.istore_n 2, 1) := by decide +kernel
theorem dX12_wrongIn_140 : decode cX12_wrongIn 140 = .ok (.iconst 0, 1) := by decide +kernel
theorem dX12_wrongIn_141 : decode cX12_wrongIn 141 = .ok (.istore_n 3, 1) := by decide +kernel
theorem dX12_wrongIn_142 : decode cX12_wrongIn 142 = .ok (.iload_n 3, 1) := by decide +kernel
theorem dX12_wrongIn_143 : decode cX12_wrongIn 143 = .ok (.aload_n 0, 1) := by decide +kernel
theorem dX12_wrongIn_144 : decode cX12_wrongIn 144 = .ok (.getfield 124, 3) := by decide +kernel
theorem dX12_wrongIn_147 : decode cX12_wrongIn 147 = .ok (.if_icmp .ge 40, 3) := by decide +kernel
theorem dX12_wrongIn_150 : decode cX12_wrongIn 150 = .ok (.iload_n 2, 1) := by decide +kernel
theorem dX12_wrongIn_151 : decode cX12_wrongIn 151 = .ok (.aload_n 0, 1) := by decide +kernel
theorem dX12_wrongIn_152 : decode cX12_wrongIn 152 = .ok (.getfield 78, 3) := by decide +kernel
theorem dX12_wrongIn_155 : decode cX12_wrongIn 155 = .ok (.iload_n 3, 1) := by decide +kernel
theorem dX12_wrongIn_156 : decode cX12_wrongIn 156 = .ok (.baload, 1) := by decide +kernel
theorem dX12_wrongIn_157 : decode cX12_wrongIn 157 = .ok (.ifCond .eq 21, 3) := by decide +kernel
theorem dX12_wrongIn_160 : decode cX12_wrongIn 160 = .ok (.aload_n 0, 1) := by decide +kernel
theorem dX12_wrongIn_161 : decode cX12_wrongIn 161 = .ok (.iload_n 3, 1) := by decide +kernel
theorem dX12_wrongIn_162 : decode cX12_wrongIn 162 = .ok (.aload_n 0, 1) := by decide +kernel
theorem dX12_wrongIn_163 : decode cX12_wrongIn 163 = .ok (.getfield 13, 3) := by decide +kernel
theorem dX12_wrongIn_166 : decode cX12_wrongIn 166 = .ok (.iload_n 1, 1) := by decide +kernel
theorem dX12_wrongIn_167 : decode cX12_wrongIn 167 = .ok (.iaload, 1) := by decide +kernel
theorem dX12_wrongIn_168 : decode cX12_wrongIn 168 = .ok (.invokevirtual 146, 3) := by decide +kernel
theorem dX12_wrongIn_171 : decode cX12_wrongIn 171 = .ok (.ifCond .eq 7, 3) := by decide +kernel
theorem dX12_wrongIn_174 : decode cX12_wrongIn 174 = .ok (.iconst 1, 1) := by decide +kernel
theorem dX12_wrongIn_175 : decode cX12_wrongIn 175 = .ok (.goto 4, 3) := by decide +kernel
theorem dX12_wrongIn_178 : decode cX12_wrongIn 178 = .ok (.iconst 0, 1) := by decide +kernel
theorem dX12_wrongIn_179 : decode cX12_wrongIn 179 = .ok (.iadd, 1) := by decide +kernel
theorem dX12_wrongIn_180 : decode cX12_wrongIn 180 = .ok (.istore_n 2, 1) := by decide +kernel
theorem dX12_wrongIn_181 : decode cX12_wrongIn 181 = .ok (.iinc 3 1, 3) := by decide +kernel
theorem dX12_wrongIn_184 : decode cX12_wrongIn 184 = .ok (.goto (-42), 3) := by decide +kernel
theorem dX12_wrongIn_187 : decode cX12_wrongIn 187 = .ok (.iload_n 2, 1) := by decide +kernel
theorem dX12_wrongIn_188 : decode cX12_wrongIn 188 = .ok (.ifCond .eq 8, 3) := by decide +kernel
theorem dX12_wrongIn_191 : decode cX12_wrongIn 191 = .ok (.iload_n 2, 1) := by decide +kernel
theorem dX12_wrongIn_192 : decode cX12_wrongIn 192 = .ok (.iconst 3, 1) := by decide +kernel
theorem dX12_wrongIn_193 : decode cX12_wrongIn 193 = .ok (.if_icmp .le 9, 3) := by decide +kernel
theorem dX12_wrongIn_196 : decode cX12_wrongIn 196 = .ok (.sipush 400, 3) := by decide +kernel
theorem dX12_wrongIn_199 : decode cX12_wrongIn 199 = .ok (.goto 4, 3) := by decide +kernel
theorem dX12_wrongIn_202 : decode cX12_wrongIn 202 = .ok (.iconst (-1), 1) := by decide +kernel
theorem dX12_wrongIn_203 : decode cX12_wrongIn 203 = .ok (.ireturn, 1) := by decide +kernel
theorem dX12_wrong_0 : decode cX12_wrong 0 = .ok (.aload_n 0, 1) := by decide +kernel
theorem dX12_wrong_1 : decode cX12_wrong 1 = .ok (.iload_n 1, 1) := by decide +kernel
theorem dX12_wrong_2 : decode cX12_wrong 2 = .ok (.invokevirtual 263, 3) := by decide +kernel
theorem dX12_wrong_5 : decode cX12_wrong 5 = .ok (.ifCond .ne 6, 3) := by decide +kernel
theorem dX12_wrong_8 : decode cX12_wrong 8 = .ok (.bipush (-2), 2) := by decide +kernel
theorem dX12_wrong_10 : decode cX12_wrong 10 = .ok (.ireturn, 1) := by decide +kernel
theorem dX12_wrong_11 : decode cX12_wrong 11 = .ok (.aload_n 0, 1) := by decide +kernel
theorem dX12_wrong_12 : decode cX12_wrong 12 = .ok (.iload_n 1, 1) := by decide +kernel
theorem dX12_wrong_13 : decode cX12_wrong 13 = .ok (.invokevirtual 269, 3) := by decide +kernel
theorem dX12_wrong_16 : decode cX12_wrong 16 = .ok (.ifCond .eq 6, 3) := by decide +kernel
theorem dX12_wrong_19 : decode cX12_wrong 19 = .ok (.bipush (-11), 2) := by decide +kernel
theorem dX12_wrong_21 : decode cX12_wrong 21 = .ok (.ireturn, 1) := by decide +kernel
theorem dX12_wrong_22 : decode cX12_wrong 22 = .ok (.aload_n 0, 1) := by decide +kernel
theorem dX12_wrong_23 : decode cX12_wrong 23 = .ok (.invokevirtual 272, 3) := by decide +kernel
theorem dX12_wrong_26 : decode cX12_wrong 26 = .ok (.aload_n 0, 1) := by decide +kernel
theorem dX12_wrong_27 : decode cX12_wrong 27 = .ok (.invokevirtual 284, 3) := by decide +kernel
theorem dX12_wrong_30 : decode cX12_wrong 30 = .ok (.iconst 0, 1) := by decide +kernel
theorem dX12_wrong_31 : decode cX12_wrong 31 = .ok (.istore_n 2, 1) := by decide +kernel
theorem dX12_wrong_32 : decode cX12_wrong 32 = .ok (.iload_n 2, 1) := by decide +kernel
theorem dX12_wrong_33 : decode cX12_wrong 33 = .ok (.aload_n 0, 1) := by decide +kernel
theorem dX12_wrong_34 : decode cX12_wrong 34 = .ok (.getfield 7, 3) := by decide +kernel
theorem dX12_wrong_37 : decode cX12_wrong 37 = .ok (.if_icmp .ge 38, 3) := by decide +kernel
theorem dX12_wrong_40 : decode cX12_wrong 40 = .ok (.aload_n 0, 1) := by decide +kernel
theorem dX12_wrong_41 : decode cX12_wrong 41 = .ok (.iload_n 1, 1) := by decide +kernel
theorem dX12_wrong_42 : decode cX12_wrong 42 = .ok (.iload_n 2, 1) := by decide +kernel
theorem dX12_wrong_43 : decode cX12_wrong 43 = .ok (.invokevirtual 275, 3) := by decide +kernel
theorem dX12_wrong_46 : decode cX12_wrong 46 = .ok (.aload_n 0, 1) := by decide +kernel
theorem dX12_wrong_47 : decode cX12_wrong 47 = .ok (.invokevirtual 287, 3) := by decide +kernel
theorem dX12_wrong_50 : decode cX12_wrong 50 = .ok (.aload_n 0, 1) := by decide +kernel
theorem dX12_wrong_51 : decode cX12_wrong 51 = .ok (.iload_n 2, 1) := by decide +kernel
theorem dX12_wrong_52 : decode cX12_wrong 52 = .ok (.invokevirtual 290, 3) := by decide +kernel
theorem dX12_wrong_55 : decode cX12_wrong 55 = .ok (.istore_n 3, 1) := by decide +kernel
theorem dX12_wrong_56 : decode cX12_wrong 56 = .ok (.iload_n 3, 1) := by decide +kernel
theorem dX12_wrong_57 : decode cX12_wrong 57 = .ok (.iconst (-1), 1) := by decide +kernel
theorem dX12_wrong_58 : decode cX12_wrong 58 = .ok (.if_icmp .eq 11, 3) := by decide +kernel
theorem dX12_wrong_61 : decode cX12_wrong 61 = .ok (.sipush 1000, 3) := by decide +kernel
theorem dX12_wrong_64 : decode cX12_wrong 64 = .ok (.iload_n 2, 1) := by decide +kernel
theorem dX12_wrong_65 : decode cX12_wrong 65 = .ok (.imul, 1) := by decide +kernel
theorem dX12_wrong_66 : decode cX12_wrong 66 = .ok (.iload_n 3, 1) := by decide +kernel
theorem dX12_wrong_67 : decode cX12_wrong 67 = .ok (.iadd, 1) := by decide +kernel
theorem dX12_wrong_68 : decode cX12_wrong 68 = .ok (.ireturn, 1) := by decide +kernel
theorem dX12_wrong_69 : decode cX12_wrong 69 = .ok (.iinc 2 1, 3) := by decide +kernel
theorem dX12_wrong_72 : decode cX12_wrong 72 = .ok (.goto (-40), 3) := by decide +kernel
theorem dX12_wrong_75 : decode cX12_wrong 75 = .ok (.iconst (-1), 1) := by decide +kernel
theorem dX12_wrong_76 : decode cX12_wrong 76 = .ok (.ireturn, 1) := by decide +kernel
theorem dX12_badOf_0 : decode cX12_badOf 0 = .ok (.aload_n 0, 1) := by decide +kernel
theorem dX12_badOf_1 : decode cX12_badOf 1 = .ok (.invokevirtual 284, 3) := by decide +kernel
theorem dX12_badOf_4 : decode cX12_badOf 4 = .ok (.lconst 0, 1) := by decide +kernel
theorem dX12_badOf_5 : decode cX12_badOf 5 = .ok (.lstore_n 2, 1) := by decide +kernel
theorem dX12_badOf_6 : decode cX12_badOf 6 = .ok (.iconst 0, 1) := by decide +kernel
theorem dX12_badOf_7 : decode cX12_badOf 7 = .ok (.istore 4, 2) := by decide +kernel
theorem dX12_badOf_9 : decode cX12_badOf 9 = .ok (.iload 4, 2) := by decide +kernel
theorem dX12_badOf_11 : decode cX12_badOf 11 = .ok (.aload_n 0, 1) := by decide +kernel
theorem dX12_badOf_12 : decode cX12_badOf 12 = .ok (.getfield 7, 3) := by decide +kernel
theorem dX12_badOf_15 : decode cX12_badOf 15 = .ok (.if_icmp .ge 122, 3) := by decide +kernel
theorem dX12_badOf_18 : decode cX12_badOf 18 = .ok (.aload_n 0, 1) := by decide +kernel
theorem dX12_badOf_19 : decode cX12_badOf 19 = .ok (.iload_n 1, 1) := by decide +kernel
theorem dX12_badOf_20 : decode cX12_badOf 20 = .ok (.iload 4, 2) := by decide +kernel
theorem dX12_badOf_22 : decode cX12_badOf 22 = .ok (.invokevirtual 275, 3) := by decide +kernel
theorem dX12_badOf_25 : decode cX12_badOf 25 = .ok (.aload_n 0, 1) := by decide +kernel
theorem dX12_badOf_26 : decode cX12_badOf 26 = .ok (.invokevirtual 287, 3) := by decide +kernel
theorem dX12_badOf_29 : decode cX12_badOf 29 = .ok (.iconst 0, 1) := by decide +kernel
theorem dX12_badOf_30 : decode cX12_badOf 30 = .ok (.istore 5, 2) := by decide +kernel
theorem dX12_badOf_32 : decode cX12_badOf 32 = .ok (.iload 5, 2) := by decide +kernel
theorem dX12_badOf_34 : decode cX12_badOf 34 = .ok (.iconst 4, 1) := by decide +kernel
theorem dX12_badOf_35 : decode cX12_badOf 35 = .ok (.if_icmp .ge 96, 3) := by decide +kernel
theorem dX12_badOf_38 : decode cX12_badOf 38 = .ok (.aload_n 0, 1) := by decide +kernel
theorem dX12_badOf_39 : decode cX12_badOf 39 = .ok (.iload 5, 2) := by decide +kernel
theorem dX12_badOf_41 : decode cX12_badOf 41 = .ok (.invokevirtual 281, 3) := by decide +kernel
theorem dX12_badOf_44 : decode cX12_badOf 44 = .ok (.ifCond .ne 6, 3) := by decide +kernel
theorem dX12_badOf_47 : decode cX12_badOf 47 = .ok (.goto 78, 3) := by decide +kernel
theorem dX12_badOf_50 : decode cX12_badOf 50 = .ok (.iconst 0, 1) := by decide +kernel
theorem dX12_badOf_51 : decode cX12_badOf 51 = .ok (.istore 6, 2) := by decide +kernel
theorem dX12_badOf_53 : decode cX12_badOf 53 = .ok (.iload 6, 2) := by decide +kernel
theorem dX12_badOf_55 : decode cX12_badOf 55 = .ok (.bipush 6, 2) := by decide +kernel
theorem dX12_badOf_57 : decode cX12_badOf 57 = .ok (.if_icmp .ge 17, 3) := by decide +kernel
theorem dX12_badOf_60 : decode cX12_badOf 60 = .ok (.aload_n 0, 1) := by decide +kernel
theorem dX12_badOf_61 : decode cX12_badOf 61 = .ok (.getfield 60, 3) := by decide +kernel
theorem dX12_badOf_64 : decode cX12_badOf 64 = .ok (.iload 6, 2) := by decide +kernel
theorem dX12_badOf_66 : decode cX12_badOf 66 = .ok (.iconst 0, 1) := by decide +kernel
theorem dX12_badOf_67 : decode cX12_badOf 67 = .ok (.iastore, 1) := by decide +kernel
theorem dX12_badOf_68 : decode cX12_badOf 68 = .ok (.iinc 6 1, 3) := by decide +kernel
theorem dX12_badOf_71 : decode cX12_badOf 71 = .ok (.goto (-18), 3) := by decide +kernel
theorem dX12_badOf_74 : decode cX12_badOf 74 = .ok (.aload_n 0, 1) := by decide +kernel
theorem dX12_badOf_75 : decode cX12_badOf 75 = .ok (.getfield 60, 3) := by decide +kernel
theorem dX12_badOf_78 : decode cX12_badOf 78 = .ok (.iconst 1, 1) := by decide +kernel
theorem dX12_badOf_79 : decode cX12_badOf 79 = .ok (.aload_n 0, 1) := by decide +kernel
theorem dX12_badOf_80 : decode cX12_badOf 80 = .ok (.getfield 13, 3) := by decide +kernel
theorem dX12_badOf_83 : decode cX12_badOf 83 = .ok (.iload 4, 2) := by decide +kernel
theorem dX12_badOf_85 : decode cX12_badOf 85 = .ok (.iaload, 1) := by decide +kernel
theorem dX12_badOf_86 : decode cX12_badOf 86 = .ok (.iastore, 1) := by decide +kernel
theorem dX12_badOf_87 : decode cX12_badOf 87 = .ok (.aload_n 0, 1) := by decide +kernel
theorem dX12_badOf_88 : decode cX12_badOf 88 = .ok (.getfield 60, 3) := by decide +kernel
theorem dX12_badOf_91 : decode cX12_badOf 91 = .ok (.iconst 2, 1) := by decide +kernel
theorem dX12_badOf_92 : decode cX12_badOf 92 = .ok (.iload 4, 2) := by decide +kernel
theorem dX12_badOf_94 : decode cX12_badOf 94 = .ok (.iastore, 1) := by decide +kernel
theorem dX12_badOf_95 : decode cX12_badOf 95 = .ok (.lload_n 2, 1) := by decide +kernel
theorem dX12_badOf_96 : decode cX12_badOf 96 = .ok (.aload_n 0, 1) := by decide +kernel
theorem dX12_badOf_97 : decode cX12_badOf 97 = .ok (.iconst 2, 1) := by decide +kernel
theorem dX12_badOf_98 : decode cX12_badOf 98 = .ok (.invokevirtual 254, 3) := by decide +kernel
theorem dX12_badOf_101 : decode cX12_badOf 101 = .ok (.bipush 99, 2) := by decide +kernel
theorem dX12_badOf_103 : decode cX12_badOf 103 = .ok (.invokestatic 293, 3) := by decide +kernel
theorem dX12_badOf_106 : decode cX12_badOf 106 = .ok (.i2l, 1) := by decide +kernel
theorem dX12_badOf_107 : decode cX12_badOf 107 = .ok (.aload_n 0, 1) := by decide +kernel
theorem dX12_badOf_108 : decode cX12_badOf 108 = .ok (.getfield 23, 3) := by decide +kernel
theorem dX12_badOf_111 : decode cX12_badOf 111 = .ok (.iload 5, 2) := by decide +kernel
theorem dX12_badOf_113 : decode cX12_badOf 113 = .ok (.iaload, 1) := by decide +kernel
theorem dX12_badOf_114 : decode cX12_badOf 114 = .ok (.aload_n 0, 1) := by decide +kernel
theorem dX12_badOf_115 : decode cX12_badOf 115 = .ok (.iload 5, 2) := by decide +kernel
theorem dX12_badOf_117 : decode cX12_badOf 117 = .ok (.invokevirtual 278, 3) := by decide +kernel
theorem dX12_badOf_120 : decode cX12_badOf 120 = .ok (.isub, 1) := by decide +kernel
theorem dX12_badOf_121 : decode cX12_badOf 121 = .ok (.i2l, 1) := by decide +kernel
theorem dX12_badOf_122 : decode cX12_badOf 122 = .ok (.lmul, 1) := by decide +kernel
theorem dX12_badOf_123 : decode cX12_badOf 123 = .ok (.ladd, 1) := by decide +kernel
theorem dX12_badOf_124 : decode cX12_badOf 124 = .ok (.lstore_n 2, 1) := by decide +kernel
theorem dX12_badOf_125 : decode cX12_badOf 125 = .ok (.iinc 5 1, 3) := by decide +kernel
theorem dX12_badOf_128 : decode cX12_badOf 128 = .ok (.goto (-96), 3) := by decide +kernel
theorem dX12_badOf_131 : decode cX12_badOf 131 = .ok (.iinc 4 1, 3) := by decide +kernel
theorem dX12_badOf_134 : decode cX12_badOf 134 = .ok (.goto (-125), 3) := by decide +kernel
theorem dX12_badOf_137 : decode cX12_badOf 137 = .ok (.lload_n 2, 1) := by decide +kernel
theorem dX12_badOf_138 : decode cX12_badOf 138 = .ok (.lreturn, 1) := by decide +kernel
theorem dX12_bad_0 : decode cX12_bad 0 = .ok (.aload_n 0, 1) := by decide +kernel
theorem dX12_bad_1 : decode cX12_bad 1 = .ok (.iload_n 1, 1) := by decide +kernel
theorem dX12_bad_2 : decode cX12_bad 2 = .ok (.invokevirtual 263, 3) := by decide +kernel
theorem dX12_bad_5 : decode cX12_bad 5 = .ok (.ifCond .eq 11, 3) := by decide +kernel
theorem dX12_bad_8 : decode cX12_bad 8 = .ok (.aload_n 0, 1) := by decide +kernel
theorem dX12_bad_9 : decode cX12_bad 9 = .ok (.iload_n 1, 1) := by decide +kernel
theorem dX12_bad_10 : decode cX12_bad 10 = .ok (.invokevirtual 269, 3) := by decide +kernel
theorem dX12_bad_13 : decode cX12_bad 13 = .ok (.ifCond .eq 7, 3) := by decide +kernel
theorem dX12_bad_16 : decode cX12_bad 16 = .ok (.ldc2_w 296, 3) := by decide +kernel
theorem dX12_bad_19 : decode cX12_bad 19 = .ok (.lreturn, 1) := by decide +kernel
theorem dX12_bad_20 : decode cX12_bad 20 = .ok (.aload_n 0, 1) := by decide +kernel
theorem dX12_bad_21 : decode cX12_bad 21 = .ok (.invokevirtual 272, 3) := by decide +kernel
theorem dX12_bad_24 : decode cX12_bad 24 = .ok (.aload_n 0, 1) := by decide +kernel
theorem dX12_bad_25 : decode cX12_bad 25 = .ok (.iload_n 1, 1) := by decide +kernel
theorem dX12_bad_26 : decode cX12_bad 26 = .ok (.invokevirtual 298, 3) := by decide +kernel
theorem dX12_bad_29 : decode cX12_bad 29 = .ok (.lreturn, 1) := by decide +kernel
theorem dX12_breaths_0 : decode cX12_breaths 0 = .ok (.aload_n 0, 1) := by decide +kernel
theorem dX12_breaths_1 : decode cX12_breaths 1 = .ok (.iload_n 1, 1) := by decide +kernel
theorem dX12_breaths_2 : decode cX12_breaths 2 = .ok (.invokevirtual 263, 3) := by decide +kernel
theorem dX12_breaths_5 : decode cX12_breaths 5 = .ok (.ifCond .eq 16, 3) := by decide +kernel
theorem dX12_breaths_8 : decode cX12_breaths 8 = .ok (.iload_n 2, 1) := by decide +kernel
theorem dX12_breaths_9 : decode cX12_breaths 9 = .ok (.iconst (-1), 1) := by decide +kernel
theorem dX12_breaths_10 : decode cX12_breaths 10 = .ok (.if_icmp .eq 14, 3) := by decide +kernel
theorem dX12_breaths_13 : decode cX12_breaths 13 = .ok (.aload_n 0, 1) := by decide +kernel
theorem dX12_breaths_14 : decode cX12_breaths 14 = .ok (.iload_n 2, 1) := by decide +kernel
theorem dX12_breaths_15 : decode cX12_breaths 15 = .ok (.invokevirtual 134, 3) := by decide +kernel
theorem dX12_breaths_18 : decode cX12_breaths 18 = .ok (.ifCond .ne 6, 3) := by decide +kernel
theorem dX12_breaths_21 : decode cX12_breaths 21 = .ok (.bipush (-2), 2) := by decide +kernel
theorem dX12_breaths_23 : decode cX12_breaths 23 = .ok (.ireturn, 1) := by decide +kernel
theorem dX12_breaths_24 : decode cX12_breaths 24 = .ok (.aload_n 0, 1) := by decide +kernel
theorem dX12_breaths_25 : decode cX12_breaths 25 = .ok (.iload_n 1, 1) := by decide +kernel
theorem dX12_breaths_26 : decode cX12_breaths 26 = .ok (.invokevirtual 269, 3) := by decide +kernel
theorem dX12_breaths_29 : decode cX12_breaths 29 = .ok (.ifCond .eq 6, 3) := by decide +kernel
theorem dX12_breaths_32 : decode cX12_breaths 32 = .ok (.bipush (-11), 2) := by decide +kernel
theorem dX12_breaths_34 : decode cX12_breaths 34 = .ok (.ireturn, 1) := by decide +kernel
theorem dX12_breaths_35 : decode cX12_breaths 35 = .ok (.aload_n 0, 1) := by decide +kernel
theorem dX12_breaths_36 : decode cX12_breaths 36 = .ok (.invokevirtual 272, 3) := by decide +kernel
theorem dX12_breaths_39 : decode cX12_breaths 39 = .ok (.iconst 0, 1) := by decide +kernel
theorem dX12_breaths_40 : decode cX12_breaths 40 = .ok (.istore_n 3, 1) := by decide +kernel
theorem dX12_breaths_41 : decode cX12_breaths 41 = .ok (.iload_n 3, 1) := by decide +kernel
theorem dX12_breaths_42 : decode cX12_breaths 42 = .ok (.aload_n 0, 1) := by decide +kernel
theorem dX12_breaths_43 : decode cX12_breaths 43 = .ok (.getfield 7, 3) := by decide +kernel
theorem dX12_breaths_46 : decode cX12_breaths 46 = .ok (.if_icmp .ge 15, 3) := by decide +kernel
theorem dX12_breaths_49 : decode cX12_breaths 49 = .ok (.aload_n 0, 1) := by decide +kernel
theorem dX12_breaths_50 : decode cX12_breaths 50 = .ok (.iload_n 1, 1) := by decide +kernel
theorem dX12_breaths_51 : decode cX12_breaths 51 = .ok (.iload_n 3, 1) := by decide +kernel
theorem dX12_breaths_52 : decode cX12_breaths 52 = .ok (.invokevirtual 275, 3) := by decide +kernel
theorem dX12_breaths_55 : decode cX12_breaths 55 = .ok (.iinc 3 1, 3) := by decide +kernel
theorem dX12_breaths_58 : decode cX12_breaths 58 = .ok (.goto (-17), 3) := by decide +kernel
theorem dX12_breaths_61 : decode cX12_breaths 61 = .ok (.iconst 0, 1) := by decide +kernel
theorem dX12_breaths_62 : decode cX12_breaths 62 = .ok (.istore_n 3, 1) := by decide +kernel
theorem dX12_breaths_63 : decode cX12_breaths 63 = .ok (.iconst 0, 1) := by decide +kernel
theorem dX12_breaths_64 : decode cX12_breaths 64 = .ok (.istore 4, 2) := by decide +kernel
theorem dX12_breaths_66 : decode cX12_breaths 66 = .ok (.iload 4, 2) := by decide +kernel
theorem dX12_breaths_68 : decode cX12_breaths 68 = .ok (.aload_n 0, 1) := by decide +kernel
theorem dX12_breaths_69 : decode cX12_breaths 69 = .ok (.getfield 124, 3) := by decide +kernel
theorem dX12_breaths_72 : decode cX12_breaths 72 = .ok (.if_icmp .ge 30, 3) := by decide +kernel
theorem dX12_breaths_75 : decode cX12_breaths 75 = .ok (.iload_n 2, 1) := by decide +kernel
theorem dX12_breaths_76 : decode cX12_breaths 76 = .ok (.iconst (-1), 1) := by decide +kernel
theorem dX12_breaths_77 : decode cX12_breaths 77 = .ok (.if_icmp .eq 9, 3) := by decide +kernel
theorem dX12_breaths_80 : decode cX12_breaths 80 = .ok (.iload 4, 2) := by decide +kernel
theorem dX12_breaths_82 : decode cX12_breaths 82 = .ok (.iload_n 2, 1) := by decide +kernel
theorem dX12_breaths_83 : decode cX12_breaths 83 = .ok (.if_icmp .ne 13, 3) := by decide +kernel
theorem dX12_breaths_86 : decode cX12_breaths 86 = .ok (.iload_n 3, 1) := by decide +kernel
theorem dX12_breaths_87 : decode cX12_breaths 87 = .ok (.aload_n 0, 1) := by decide +kernel
theorem dX12_breaths_88 : decode cX12_breaths 88 = .ok (.getfield 75, 3) := by decide +kernel
theorem dX12_breaths_91 : decode cX12_breaths 91 = .ok (.iload 4, 2) := by decide +kernel
theorem dX12_breaths_93 : decode cX12_breaths 93 = .ok (.iaload, 1) := by decide +kernel
theorem dX12_breaths_94 : decode cX12_breaths 94 = .ok (.iadd, 1) := by decide +kernel
theorem dX12_breaths_95 : decode cX12_breaths 95 = .ok (.istore_n 3, 1) := by decide +kernel
theorem dX12_breaths_96 : decode cX12_breaths 96 = .ok (.iinc 4 1, 3) := by decide +kernel
theorem dX12_breaths_99 : decode cX12_breaths 99 = .ok (.goto (-33), 3) := by decide +kernel
theorem dX12_breaths_102 : decode cX12_breaths 102 = .ok (.iload_n 3, 1) := by decide +kernel
theorem dX12_breaths_103 : decode cX12_breaths 103 = .ok (.ireturn, 1) := by decide +kernel
theorem dX12_fewest_0 : decode cX12_fewest 0 = .ok (.iload_n 1, 1) := by decide +kernel
theorem dX12_fewest_1 : decode cX12_fewest 1 = .ok (.iconst 1, 1) := by decide +kernel
theorem dX12_fewest_2 : decode cX12_fewest 2 = .ok (.bipush 40, 2) := by decide +kernel
theorem dX12_fewest_4 : decode cX12_fewest 4 = .ok (.invokestatic 127, 3) := by decide +kernel
theorem dX12_fewest_7 : decode cX12_fewest 7 = .ok (.ifCond .eq 37, 3) := by decide +kernel
theorem dX12_fewest_10 : decode cX12_fewest 10 = .ok (.iload_n 2, 1) := by decide +kernel
theorem dX12_fewest_11 : decode cX12_fewest 11 = .ok (.iconst 1, 1) := by decide +kernel
theorem dX12_fewest_12 : decode cX12_fewest 12 = .ok (.bipush 18, 2) := by decide +kernel
theorem dX12_fewest_14 : decode cX12_fewest 14 = .ok (.invokestatic 127, 3) := by decide +kernel
theorem dX12_fewest_17 : decode cX12_fewest 17 = .ok (.ifCond .eq 27, 3) := by decide +kernel
theorem dX12_fewest_20 : decode cX12_fewest 20 = .ok (.iload_n 3, 1) := by decide +kernel
theorem dX12_fewest_21 : decode cX12_fewest 21 = .ok (.iconst 0, 1) := by decide +kernel
theorem dX12_fewest_22 : decode cX12_fewest 22 = .ok (.bipush 99, 2) := by decide +kernel
theorem dX12_fewest_24 : decode cX12_fewest 24 = .ok (.invokestatic 127, 3) := by decide +kernel
theorem dX12_fewest_27 : decode cX12_fewest 27 = .ok (.ifCond .eq 17, 3) := by decide +kernel
theorem dX12_fewest_30 : decode cX12_fewest 30 = .ok (.iload_n 3, 1) := by decide +kernel
theorem dX12_fewest_31 : decode cX12_fewest 31 = .ok (.iload_n 1, 1) := by decide +kernel
theorem dX12_fewest_32 : decode cX12_fewest 32 = .ok (.iload_n 2, 1) := by decide +kernel
theorem dX12_fewest_33 : decode cX12_fewest 33 = .ok (.iadd, 1) := by decide +kernel
theorem dX12_fewest_34 : decode cX12_fewest 34 = .ok (.imul, 1) := by decide +kernel
theorem dX12_fewest_35 : decode cX12_fewest 35 = .ok (.iload_n 1, 1) := by decide +kernel
theorem dX12_fewest_36 : decode cX12_fewest 36 = .ok (.iadd, 1) := by decide +kernel
theorem dX12_fewest_37 : decode cX12_fewest 37 = .ok (.iconst 1, 1) := by decide +kernel
theorem dX12_fewest_38 : decode cX12_fewest 38 = .ok (.isub, 1) := by decide +kernel
theorem dX12_fewest_39 : decode cX12_fewest 39 = .ok (.iload_n 1, 1) := by decide +kernel
theorem dX12_fewest_40 : decode cX12_fewest 40 = .ok (.idiv, 1) := by decide +kernel
theorem dX12_fewest_41 : decode cX12_fewest 41 = .ok (.goto 5, 3) := by decide +kernel
theorem dX12_fewest_44 : decode cX12_fewest 44 = .ok (.bipush (-2), 2) := by decide +kernel
theorem dX12_fewest_46 : decode cX12_fewest 46 = .ok (.ireturn, 1) := by decide +kernel
theorem dX12_isLike_0 : decode cX12_isLike 0 = .ok (.iconst 0, 1) := by decide +kernel
theorem dX12_isLike_1 : decode cX12_isLike 1 = .ok (.istore_n 3, 1) := by decide +kernel
theorem dX12_isLike_2 : decode cX12_isLike 2 = .ok (.iload_n 3, 1) := by decide +kernel
theorem dX12_isLike_3 : decode cX12_isLike 3 = .ok (.aload_n 0, 1) := by decide +kernel
theorem dX12_isLike_4 : decode cX12_isLike 4 = .ok (.getfield 124, 3) := by decide +kernel
theorem dX12_isLike_7 : decode cX12_isLike 7 = .ok (.if_icmp .ge 61, 3) := by decide +kernel
theorem dX12_isLike_10 : decode cX12_isLike 10 = .ok (.aload_n 0, 1) := by decide +kernel
theorem dX12_isLike_11 : decode cX12_isLike 11 = .ok (.getfield 88, 3) := by decide +kernel
theorem dX12_isLike_14 : decode cX12_isLike 14 = .ok (.bipush 10, 2) := by decide +kernel
theorem dX12_isLike_16 : decode cX12_isLike 16 = .ok (.iload_n 1, 1) := by decide +kernel
theorem dX12_isLike_17 : decode cX12_isLike 17 = .ok (.imul, 1) := by decide +kernel
theorem dX12_isLike_18 : decode cX12_isLike 18 = .ok (.iload_n 3, 1) := by decide +kernel
theorem dX12_isLike_19 : decode cX12_isLike 19 = .ok (.iadd, 1) := by decide +kernel
theorem dX12_isLike_20 : decode cX12_isLike 20 = .ok (.iaload, 1) := by decide +kernel
theorem dX12_isLike_21 : decode cX12_isLike 21 = .ok (.aload_n 0, 1) := by decide +kernel
theorem dX12_isLike_22 : decode cX12_isLike 22 = .ok (.getfield 88, 3) := by decide +kernel
theorem dX12_isLike_25 : decode cX12_isLike 25 = .ok (.bipush 10, 2) := by decide +kernel
theorem dX12_isLike_27 : decode cX12_isLike 27 = .ok (.iload_n 2, 1) := by decide +kernel
theorem dX12_isLike_28 : decode cX12_isLike 28 = .ok (.imul, 1) := by decide +kernel
theorem dX12_isLike_29 : decode cX12_isLike 29 = .ok (.iload_n 3, 1) := by decide +kernel
theorem dX12_isLike_30 : decode cX12_isLike 30 = .ok (.iadd, 1) := by decide +kernel
theorem dX12_isLike_31 : decode cX12_isLike 31 = .ok (.iaload, 1) := by decide +kernel
theorem dX12_isLike_32 : decode cX12_isLike 32 = .ok (.if_icmp .ne 28, 3) := by decide +kernel
theorem dX12_isLike_35 : decode cX12_isLike 35 = .ok (.aload_n 0, 1) := by decide +kernel
theorem dX12_isLike_36 : decode cX12_isLike 36 = .ok (.getfield 91, 3) := by decide +kernel
theorem dX12_isLike_39 : decode cX12_isLike 39 = .ok (.bipush 10, 2) := by decide +kernel
theorem dX12_isLike_41 : decode cX12_isLike 41 = .ok (.iload_n 1, 1) := by decide +kernel
theorem dX12_isLike_42 : decode cX12_isLike 42 = .ok (.imul, 1) := by decide +kernel
theorem dX12_isLike_43 : decode cX12_isLike 43 = .ok (.iload_n 3, 1) := by decide +kernel
theorem dX12_isLike_44 : decode cX12_isLike 44 = .ok (.iadd, 1) := by decide +kernel
theorem dX12_isLike_45 : decode cX12_isLike 45 = .ok (.iaload, 1) := by decide +kernel
theorem dX12_isLike_46 : decode cX12_isLike 46 = .ok (.aload_n 0, 1) := by decide +kernel
theorem dX12_isLike_47 : decode cX12_isLike 47 = .ok (.getfield 91, 3) := by decide +kernel
theorem dX12_isLike_50 : decode cX12_isLike 50 = .ok (.bipush 10, 2) := by decide +kernel
theorem dX12_isLike_52 : decode cX12_isLike 52 = .ok (.iload_n 2, 1) := by decide +kernel
theorem dX12_isLike_53 : decode cX12_isLike 53 = .ok (.imul, 1) := by decide +kernel
theorem dX12_isLike_54 : decode cX12_isLike 54 = .ok (.iload_n 3, 1) := by decide +kernel
theorem dX12_isLike_55 : decode cX12_isLike 55 = .ok (.iadd, 1) := by decide +kernel
theorem dX12_isLike_56 : decode cX12_isLike 56 = .ok (.iaload, 1) := by decide +kernel
theorem dX12_isLike_57 : decode cX12_isLike 57 = .ok (.if_icmp .eq 5, 3) := by decide +kernel
theorem dX12_isLike_60 : decode cX12_isLike 60 = .ok (.iconst 0, 1) := by decide +kernel
theorem dX12_isLike_61 : decode cX12_isLike 61 = .ok (.ireturn, 1) := by decide +kernel
theorem dX12_isLike_62 : decode cX12_isLike 62 = .ok (.iinc 3 1, 3) := by decide +kernel
theorem dX12_isLike_65 : decode cX12_isLike 65 = .ok (.goto (-63), 3) := by decide +kernel
theorem dX12_isLike_68 : decode cX12_isLike 68 = .ok (.iconst 1, 1) := by decide +kernel
theorem dX12_isLike_69 : decode cX12_isLike 69 = .ok (.ireturn, 1) := by decide +kernel
theorem dX12_round_0 : decode cX12_round 0 = .ok (.iload_n 1, 1) := by decide +kernel
theorem dX12_round_1 : decode cX12_round 1 = .ok (.ifCond .eq 9, 3) := by decide +kernel
theorem dX12_round_4 : decode cX12_round 4 = .ok (.iload_n 1, 1) := by decide +kernel
theorem dX12_round_5 : decode cX12_round 5 = .ok (.bipush 6, 2) := by decide +kernel
theorem dX12_round_7 : decode cX12_round 7 = .ok (.if_icmp .ne 22, 3) := by decide +kernel
theorem dX12_round_10 : decode cX12_round 10 = .ok (.iload_n 2, 1) := by decide +kernel
theorem dX12_round_11 : decode cX12_round 11 = .ok (.iconst 0, 1) := by decide +kernel
theorem dX12_round_12 : decode cX12_round 12 = .ok (.bipush 9, 2) := by decide +kernel
theorem dX12_round_14 : decode cX12_round 14 = .ok (.invokestatic 127, 3) := by decide +kernel
theorem dX12_round_17 : decode cX12_round 17 = .ok (.ifCond .eq 12, 3) := by decide +kernel
theorem dX12_round_20 : decode cX12_round 20 = .ok (.iload_n 3, 1) := by decide +kernel
theorem dX12_round_21 : decode cX12_round 21 = .ok (.iconst 0, 1) := by decide +kernel
theorem dX12_round_22 : decode cX12_round 22 = .ok (.iconst 1, 1) := by decide +kernel
theorem dX12_round_23 : decode cX12_round 23 = .ok (.invokestatic 127, 3) := by decide +kernel
theorem dX12_round_26 : decode cX12_round 26 = .ok (.ifCond .ne 6, 3) := by decide +kernel
theorem dX12_round_29 : decode cX12_round 29 = .ok (.bipush (-2), 2) := by decide +kernel
theorem dX12_round_31 : decode cX12_round 31 = .ok (.ireturn, 1) := by decide +kernel
theorem dX12_round_32 : decode cX12_round 32 = .ok (.aload_n 0, 1) := by decide +kernel
theorem dX12_round_33 : decode cX12_round 33 = .ok (.invokevirtual 272, 3) := by decide +kernel
theorem dX12_round_36 : decode cX12_round 36 = .ok (.aload_n 0, 1) := by decide +kernel
theorem dX12_round_37 : decode cX12_round 37 = .ok (.iload_n 2, 1) := by decide +kernel
theorem dX12_round_38 : decode cX12_round 38 = .ok (.putfield 232, 3) := by decide +kernel
theorem dX12_round_41 : decode cX12_round 41 = .ok (.iconst 0, 1) := by decide +kernel
theorem dX12_round_42 : decode cX12_round 42 = .ok (.istore 4, 2) := by decide +kernel
theorem dX12_round_44 : decode cX12_round 44 = .ok (.iload 4, 2) := by decide +kernel
theorem dX12_round_46 : decode cX12_round 46 = .ok (.sipush 200, 3) := by decide +kernel
theorem dX12_round_49 : decode cX12_round 49 = .ok (.if_icmp .ge 113, 3) := by decide +kernel
theorem dX12_round_52 : decode cX12_round 52 = .ok (.aload_n 0, 1) := by decide +kernel
theorem dX12_round_53 : decode cX12_round 53 = .ok (.iload_n 1, 1) := by decide +kernel
theorem dX12_round_54 : decode cX12_round 54 = .ok (.iload 4, 2) := by decide +kernel
theorem dX12_round_56 : decode cX12_round 56 = .ok (.invokevirtual 275, 3) := by decide +kernel
theorem dX12_round_59 : decode cX12_round 59 = .ok (.iconst 0, 1) := by decide +kernel
theorem dX12_round_60 : decode cX12_round 60 = .ok (.istore 5, 2) := by decide +kernel
theorem dX12_round_62 : decode cX12_round 62 = .ok (.iload 5, 2) := by decide +kernel
theorem dX12_round_64 : decode cX12_round 64 = .ok (.aload_n 0, 1) := by decide +kernel
theorem dX12_round_65 : decode cX12_round 65 = .ok (.getfield 124, 3) := by decide +kernel
theorem dX12_round_68 : decode cX12_round 68 = .ok (.if_icmp .ge 49, 3) := by decide +kernel
theorem dX12_round_71 : decode cX12_round 71 = .ok (.aload_n 0, 1) := by decide +kernel
theorem dX12_round_72 : decode cX12_round 72 = .ok (.getfield 88, 3) := by decide +kernel
theorem dX12_round_75 : decode cX12_round 75 = .ok (.bipush 10, 2) := by decide +kernel
theorem dX12_round_77 : decode cX12_round 77 = .ok (.iload 4, 2) := by decide +kernel
theorem dX12_round_79 : decode cX12_round 79 = .ok (.imul, 1) := by decide +kernel
theorem dX12_round_80 : decode cX12_round 80 = .ok (.iload 5, 2) := by decide +kernel
theorem dX12_round_82 : decode cX12_round 82 = .ok (.iadd, 1) := by decide +kernel
theorem dX12_round_83 : decode cX12_round 83 = .ok (.aload_n 0, 1) := by decide +kernel
theorem dX12_round_84 : decode cX12_round 84 = .ok (.getfield 69, 3) := by decide +kernel
theorem dX12_round_87 : decode cX12_round 87 = .ok (.iload 5, 2) := by decide +kernel
theorem dX12_round_89 : decode cX12_round 89 = .ok (.iaload, 1) := by decide +kernel
theorem dX12_round_90 : decode cX12_round 90 = .ok (.iastore, 1) := by decide +kernel
theorem dX12_round_91 : decode cX12_round 91 = .ok (.aload_n 0, 1) := by decide +kernel
theorem dX12_round_92 : decode cX12_round 92 = .ok (.getfield 91, 3) := by decide +kernel
theorem dX12_round_95 : decode cX12_round 95 = .ok (.bipush 10, 2) := by decide +kernel
theorem dX12_round_97 : decode cX12_round 97 = .ok (.iload 4, 2) := by decide +kernel
theorem dX12_round_99 : decode cX12_round 99 = .ok (.imul, 1) := by decide +kernel
theorem dX12_round_100 : decode cX12_round 100 = .ok (.iload 5, 2) := by decide +kernel
theorem dX12_round_102 : decode cX12_round 102 = .ok (.iadd, 1) := by decide +kernel
theorem dX12_round_103 : decode cX12_round 103 = .ok (.aload_n 0, 1) := by decide +kernel
theorem dX12_round_104 : decode cX12_round 104 = .ok (.getfield 72, 3) := by decide +kernel
theorem dX12_round_107 : decode cX12_round 107 = .ok (.iload 5, 2) := by decide +kernel
theorem dX12_round_109 : decode cX12_round 109 = .ok (.iaload, 1) := by decide +kernel
theorem dX12_round_110 : decode cX12_round 110 = .ok (.iastore, 1) := by decide +kernel
theorem dX12_round_111 : decode cX12_round 111 = .ok (.iinc 5 1, 3) := by decide +kernel
theorem dX12_round_114 : decode cX12_round 114 = .ok (.goto (-52), 3) := by decide +kernel
theorem dX12_round_117 : decode cX12_round 117 = .ok (.iconst 0, 1) := by decide +kernel
theorem dX12_round_118 : decode cX12_round 118 = .ok (.istore 5, 2) := by decide +kernel
theorem dX12_round_120 : decode cX12_round 120 = .ok (.iload 5, 2) := by decide +kernel
theorem dX12_round_122 : decode cX12_round 122 = .ok (.iload 4, 2) := by decide +kernel
theorem dX12_round_124 : decode cX12_round 124 = .ok (.if_icmp .ge 32, 3) := by decide +kernel
theorem dX12_round_127 : decode cX12_round 127 = .ok (.aload_n 0, 1) := by decide +kernel
theorem dX12_round_128 : decode cX12_round 128 = .ok (.iload 5, 2) := by decide +kernel
theorem dX12_round_130 : decode cX12_round 130 = .ok (.iload 4, 2) := by decide +kernel
theorem dX12_round_132 : decode cX12_round 132 = .ok (.invokevirtual 302, 3) := by decide +kernel
theorem dX12_round_135 : decode cX12_round 135 = .ok (.ifCond .eq 15, 3) := by decide +kernel
theorem dX12_round_138 : decode cX12_round 138 = .ok (.iload_n 3, 1) := by decide +kernel
theorem dX12_round_139 : decode cX12_round 139 = .ok (.ifCond .ne 8, 3) := by decide +kernel
theorem dX12_round_142 : decode cX12_round 142 = .ok (.iload 4, 2) := by decide +kernel
theorem dX12_round_144 : decode cX12_round 144 = .ok (.goto 5, 3) := by decide +kernel
theorem dX12_round_147 : decode cX12_round 147 = .ok (.iload 5, 2) := by decide +kernel
theorem dX12_round_149 : decode cX12_round 149 = .ok (.ireturn, 1) := by decide +kernel
theorem dX12_round_150 : decode cX12_round 150 = .ok (.iinc 5 1, 3) := by decide +kernel
theorem dX12_round_153 : decode cX12_round 153 = .ok (.goto (-33), 3) := by decide +kernel
theorem dX12_round_156 : decode cX12_round 156 = .ok (.iinc 4 1, 3) := by decide +kernel
theorem dX12_round_159 : decode cX12_round 159 = .ok (.goto (-115), 3) := by decide +kernel
theorem dX12_round_162 : decode cX12_round 162 = .ok (.iconst (-1), 1) := by decide +kernel
theorem dX12_round_163 : decode cX12_round 163 = .ok (.ireturn, 1) := by decide +kernel
theorem dX12_lent_0 : decode cX12_lent 0 = .ok (.aload_n 0, 1) := by decide +kernel
theorem dX12_lent_1 : decode cX12_lent 1 = .ok (.iload_n 1, 1) := by decide +kernel
theorem dX12_lent_2 : decode cX12_lent 2 = .ok (.invokevirtual 263, 3) := by decide +kernel
theorem dX12_lent_5 : decode cX12_lent 5 = .ok (.ifCond .eq 28, 3) := by decide +kernel
theorem dX12_lent_8 : decode cX12_lent 8 = .ok (.aload_n 0, 1) := by decide +kernel
theorem dX12_lent_9 : decode cX12_lent 9 = .ok (.iload_n 1, 1) := by decide +kernel
theorem dX12_lent_10 : decode cX12_lent 10 = .ok (.invokevirtual 269, 3) := by decide +kernel
theorem dX12_lent_13 : decode cX12_lent 13 = .ok (.ifCond .ne 20, 3) := by decide +kernel
theorem dX12_lent_16 : decode cX12_lent 16 = .ok (.aload_n 0, 1) := by decide +kernel
theorem dX12_lent_17 : decode cX12_lent 17 = .ok (.iload_n 2, 1) := by decide +kernel
theorem dX12_lent_18 : decode cX12_lent 18 = .ok (.invokevirtual 134, 3) := by decide +kernel
theorem dX12_lent_21 : decode cX12_lent 21 = .ok (.ifCond .eq 12, 3) := by decide +kernel
theorem dX12_lent_24 : decode cX12_lent 24 = .ok (.iload_n 3, 1) := by decide +kernel
theorem dX12_lent_25 : decode cX12_lent 25 = .ok (.iconst 0, 1) := by decide +kernel
theorem dX12_lent_26 : decode cX12_lent 26 = .ok (.iconst 3, 1) := by decide +kernel
theorem dX12_lent_27 : decode cX12_lent 27 = .ok (.invokestatic 127, 3) := by decide +kernel
theorem dX12_lent_30 : decode cX12_lent 30 = .ok (.ifCond .ne 7, 3) := by decide +kernel
theorem dX12_lent_33 : decode cX12_lent 33 = .ok (.ldc2_w 296, 3) := by decide +kernel
theorem dX12_lent_36 : decode cX12_lent 36 = .ok (.lreturn, 1) := by decide +kernel
theorem dX12_lent_37 : decode cX12_lent 37 = .ok (.aload_n 0, 1) := by decide +kernel
theorem dX12_lent_38 : decode cX12_lent 38 = .ok (.invokevirtual 272, 3) := by decide +kernel
theorem dX12_lent_41 : decode cX12_lent 41 = .ok (.aload_n 0, 1) := by decide +kernel
theorem dX12_lent_42 : decode cX12_lent 42 = .ok (.iload_n 1, 1) := by decide +kernel
theorem dX12_lent_43 : decode cX12_lent 43 = .ok (.invokevirtual 298, 3) := by decide +kernel
theorem dX12_lent_46 : decode cX12_lent 46 = .ok (.lstore 4, 2) := by decide +kernel
theorem dX12_lent_48 : decode cX12_lent 48 = .ok (.aload_n 0, 1) := by decide +kernel
theorem dX12_lent_49 : decode cX12_lent 49 = .ok (.getfield 29, 3) := by decide +kernel
theorem dX12_lent_52 : decode cX12_lent 52 = .ok (.iload_n 2, 1) := by decide +kernel
theorem dX12_lent_53 : decode cX12_lent 53 = .ok (.iaload, 1) := by decide +kernel
theorem dX12_lent_54 : decode cX12_lent 54 = .ok (.istore 6, 2) := by decide +kernel
theorem dX12_lent_56 : decode cX12_lent 56 = .ok (.aload_n 0, 1) := by decide +kernel
theorem dX12_lent_57 : decode cX12_lent 57 = .ok (.getfield 29, 3) := by decide +kernel
theorem dX12_lent_60 : decode cX12_lent 60 = .ok (.iload_n 2, 1) := by decide +kernel
theorem dX12_lent_61 : decode cX12_lent 61 = .ok (.iload_n 3, 1) := by decide +kernel
theorem dX12_lent_62 : decode cX12_lent 62 = .ok (.iastore, 1) := by decide +kernel
theorem dX12_lent_63 : decode cX12_lent 63 = .ok (.aload_n 0, 1) := by decide +kernel
theorem dX12_lent_64 : decode cX12_lent 64 = .ok (.invokevirtual 272, 3) := by decide +kernel
theorem dX12_lent_67 : decode cX12_lent 67 = .ok (.aload_n 0, 1) := by decide +kernel
theorem dX12_lent_68 : decode cX12_lent 68 = .ok (.iload_n 1, 1) := by decide +kernel
theorem dX12_lent_69 : decode cX12_lent 69 = .ok (.invokevirtual 298, 3) := by decide +kernel
theorem dX12_lent_72 : decode cX12_lent 72 = .ok (.lstore 7, 2) := by decide +kernel
theorem dX12_lent_74 : decode cX12_lent 74 = .ok (.aload_n 0, 1) := by decide +kernel
theorem dX12_lent_75 : decode cX12_lent 75 = .ok (.getfield 29, 3) := by decide +kernel
theorem dX12_lent_78 : decode cX12_lent 78 = .ok (.iload_n 2, 1) := by decide +kernel
theorem dX12_lent_79 : decode cX12_lent 79 = .ok (.iload 6, 2) := by decide +kernel
theorem dX12_lent_81 : decode cX12_lent 81 = .ok (.iastore, 1) := by decide +kernel
theorem dX12_lent_82 : decode cX12_lent 82 = .ok (.lload 7, 2) := by decide +kernel
theorem dX12_lent_84 : decode cX12_lent 84 = .ok (.lload 4, 2) := by decide +kernel
theorem dX12_lent_86 : decode cX12_lent 86 = .ok (.lsub, 1) := by decide +kernel
theorem dX12_lent_87 : decode cX12_lent 87 = .ok (.lreturn, 1) := by decide +kernel
theorem dX12_lost_0 : decode cX12_lost 0 = .ok (.aload_n 0, 1) := by decide +kernel
theorem dX12_lost_1 : decode cX12_lost 1 = .ok (.iload_n 1, 1) := by decide +kernel
theorem dX12_lost_2 : decode cX12_lost 2 = .ok (.invokevirtual 263, 3) := by decide +kernel
theorem dX12_lost_5 : decode cX12_lost 5 = .ok (.ifCond .eq 29, 3) := by decide +kernel
theorem dX12_lost_8 : decode cX12_lost 8 = .ok (.aload_n 0, 1) := by decide +kernel
theorem dX12_lost_9 : decode cX12_lost 9 = .ok (.iload_n 1, 1) := by decide +kernel
theorem dX12_lost_10 : decode cX12_lost 10 = .ok (.invokevirtual 269, 3) := by decide +kernel
theorem dX12_lost_13 : decode cX12_lost 13 = .ok (.ifCond .ne 21, 3) := by decide +kernel
theorem dX12_lost_16 : decode cX12_lost 16 = .ok (.aload_n 0, 1) := by decide +kernel
theorem dX12_lost_17 : decode cX12_lost 17 = .ok (.iload_n 2, 1) := by decide +kernel
theorem dX12_lost_18 : decode cX12_lost 18 = .ok (.invokevirtual 134, 3) := by decide +kernel
theorem dX12_lost_21 : decode cX12_lost 21 = .ok (.ifCond .eq 13, 3) := by decide +kernel
theorem dX12_lost_24 : decode cX12_lost 24 = .ok (.iload_n 3, 1) := by decide +kernel
theorem dX12_lost_25 : decode cX12_lost 25 = .ok (.iconst 0, 1) := by decide +kernel
theorem dX12_lost_26 : decode cX12_lost 26 = .ok (.bipush 47, 2) := by decide +kernel
theorem dX12_lost_28 : decode cX12_lost 28 = .ok (.invokestatic 127, 3) := by decide +kernel
theorem dX12_lost_31 : decode cX12_lost 31 = .ok (.ifCond .ne 7, 3) := by decide +kernel
theorem dX12_lost_34 : decode cX12_lost 34 = .ok (.ldc2_w 296, 3) := by decide +kernel
theorem dX12_lost_37 : decode cX12_lost 37 = .ok (.lreturn, 1) := by decide +kernel
theorem dX12_lost_38 : decode cX12_lost 38 = .ok (.aload_n 0, 1) := by decide +kernel
theorem dX12_lost_39 : decode cX12_lost 39 = .ok (.invokevirtual 272, 3) := by decide +kernel
theorem dX12_lost_42 : decode cX12_lost 42 = .ok (.aload_n 0, 1) := by decide +kernel
theorem dX12_lost_43 : decode cX12_lost 43 = .ok (.iload_n 1, 1) := by decide +kernel
theorem dX12_lost_44 : decode cX12_lost 44 = .ok (.invokevirtual 298, 3) := by decide +kernel
theorem dX12_lost_47 : decode cX12_lost 47 = .ok (.lstore 4, 2) := by decide +kernel
theorem dX12_lost_49 : decode cX12_lost 49 = .ok (.aload_n 0, 1) := by decide +kernel
theorem dX12_lost_50 : decode cX12_lost 50 = .ok (.invokevirtual 272, 3) := by decide +kernel
theorem dX12_lost_53 : decode cX12_lost 53 = .ok (.aload_n 0, 1) := by decide +kernel
theorem dX12_lost_54 : decode cX12_lost 54 = .ok (.iload_n 2, 1) := by decide +kernel
theorem dX12_lost_55 : decode cX12_lost 55 = .ok (.putfield 235, 3) := by decide +kernel
theorem dX12_lost_58 : decode cX12_lost 58 = .ok (.aload_n 0, 1) := by decide +kernel
theorem dX12_lost_59 : decode cX12_lost 59 = .ok (.iload_n 3, 1) := by decide +kernel
theorem dX12_lost_60 : decode cX12_lost 60 = .ok (.putfield 257, 3) := by decide +kernel
theorem dX12_lost_63 : decode cX12_lost 63 = .ok (.aload_n 0, 1) := by decide +kernel
theorem dX12_lost_64 : decode cX12_lost 64 = .ok (.iload_n 1, 1) := by decide +kernel
theorem dX12_lost_65 : decode cX12_lost 65 = .ok (.invokevirtual 298, 3) := by decide +kernel
theorem dX12_lost_68 : decode cX12_lost 68 = .ok (.lload 4, 2) := by decide +kernel
theorem dX12_lost_70 : decode cX12_lost 70 = .ok (.lsub, 1) := by decide +kernel
theorem dX12_lost_71 : decode cX12_lost 71 = .ok (.lreturn, 1) := by decide +kernel
theorem dX12_who_0 : decode cX12_who 0 = .ok (.iload_n 1, 1) := by decide +kernel
theorem dX12_who_1 : decode cX12_who 1 = .ok (.invokestatic 305, 3) := by decide +kernel
theorem dX12_who_4 : decode cX12_who 4 = .ok (.ifCond .ne 6, 3) := by decide +kernel
theorem dX12_who_7 : decode cX12_who 7 = .ok (.bipush (-2), 2) := by decide +kernel
theorem dX12_who_9 : decode cX12_who 9 = .ok (.ireturn, 1) := by decide +kernel
theorem dX12_who_10 : decode cX12_who 10 = .ok (.aload_n 0, 1) := by decide +kernel
theorem dX12_who_11 : decode cX12_who 11 = .ok (.getfield 109, 3) := by decide +kernel
theorem dX12_who_14 : decode cX12_who 14 = .ok (.iload_n 1, 1) := by decide +kernel
theorem dX12_who_15 : decode cX12_who 15 = .ok (.iaload, 1) := by decide +kernel
theorem dX12_who_16 : decode cX12_who 16 = .ok (.ifCond .ge 6, 3) := by decide +kernel
theorem dX12_who_19 : decode cX12_who 19 = .ok (.bipush (-11), 2) := by decide +kernel
theorem dX12_who_21 : decode cX12_who 21 = .ok (.ireturn, 1) := by decide +kernel
theorem dX12_who_22 : decode cX12_who 22 = .ok (.aload_n 0, 1) := by decide +kernel
theorem dX12_who_23 : decode cX12_who 23 = .ok (.invokevirtual 272, 3) := by decide +kernel
theorem dX12_who_26 : decode cX12_who 26 = .ok (.aload_n 0, 1) := by decide +kernel
theorem dX12_who_27 : decode cX12_who 27 = .ok (.iconst 2, 1) := by decide +kernel
theorem dX12_who_28 : decode cX12_who 28 = .ok (.iload_n 1, 1) := by decide +kernel
theorem dX12_who_29 : decode cX12_who 29 = .ok (.iadd, 1) := by decide +kernel
theorem dX12_who_30 : decode cX12_who 30 = .ok (.invokevirtual 298, 3) := by decide +kernel
theorem dX12_who_33 : decode cX12_who 33 = .ok (.lstore_n 2, 1) := by decide +kernel
theorem dX12_who_34 : decode cX12_who 34 = .ok (.iconst (-1), 1) := by decide +kernel
theorem dX12_who_35 : decode cX12_who 35 = .ok (.istore 4, 2) := by decide +kernel
theorem dX12_who_37 : decode cX12_who 37 = .ok (.iconst 0, 1) := by decide +kernel
theorem dX12_who_38 : decode cX12_who 38 = .ok (.istore 5, 2) := by decide +kernel
theorem dX12_who_40 : decode cX12_who 40 = .ok (.iload 5, 2) := by decide +kernel
theorem dX12_who_42 : decode cX12_who 42 = .ok (.aload_n 0, 1) := by decide +kernel
theorem dX12_who_43 : decode cX12_who 43 = .ok (.getfield 7, 3) := by decide +kernel
theorem dX12_who_46 : decode cX12_who 46 = .ok (.if_icmp .ge 75, 3) := by decide +kernel
theorem dX12_who_49 : decode cX12_who 49 = .ok (.iconst 0, 1) := by decide +kernel
theorem dX12_who_50 : decode cX12_who 50 = .ok (.istore 6, 2) := by decide +kernel
theorem dX12_who_52 : decode cX12_who 52 = .ok (.iload 6, 2) := by decide +kernel
theorem dX12_who_54 : decode cX12_who 54 = .ok (.aload_n 0, 1) := by decide +kernel
theorem dX12_who_55 : decode cX12_who 55 = .ok (.getfield 124, 3) := by decide +kernel
theorem dX12_who_58 : decode cX12_who 58 = .ok (.if_icmp .ge 57, 3) := by decide +kernel
theorem dX12_who_61 : decode cX12_who 61 = .ok (.aload_n 0, 1) := by decide +kernel
theorem dX12_who_62 : decode cX12_who 62 = .ok (.invokevirtual 272, 3) := by decide +kernel
theorem dX12_who_65 : decode cX12_who 65 = .ok (.aload_n 0, 1) := by decide +kernel
theorem dX12_who_66 : decode cX12_who 66 = .ok (.iload 6, 2) := by decide +kernel
theorem dX12_who_68 : decode cX12_who 68 = .ok (.putfield 238, 3) := by decide +kernel
theorem dX12_who_71 : decode cX12_who 71 = .ok (.aload_n 0, 1) := by decide +kernel
theorem dX12_who_72 : decode cX12_who 72 = .ok (.iload 5, 2) := by decide +kernel
theorem dX12_who_74 : decode cX12_who 74 = .ok (.putfield 241, 3) := by decide +kernel
theorem dX12_who_77 : decode cX12_who 77 = .ok (.aload_n 0, 1) := by decide +kernel
theorem dX12_who_78 : decode cX12_who 78 = .ok (.iconst 2, 1) := by decide +kernel
theorem dX12_who_79 : decode cX12_who 79 = .ok (.iload_n 1, 1) := by decide +kernel
theorem dX12_who_80 : decode cX12_who 80 = .ok (.iadd, 1) := by decide +kernel
theorem dX12_who_81 : decode cX12_who 81 = .ok (.invokevirtual 298, 3) := by decide +kernel
theorem dX12_who_84 : decode cX12_who 84 = .ok (.lstore 7, 2) := by decide +kernel
theorem dX12_who_86 : decode cX12_who 86 = .ok (.lload 7, 2) := by decide +kernel
theorem dX12_who_88 : decode cX12_who 88 = .ok (.lload_n 2, 1) := by decide +kernel
theorem dX12_who_89 : decode cX12_who 89 = .ok (.lcmp, 1) := by decide +kernel
theorem dX12_who_90 : decode cX12_who 90 = .ok (.ifCond .lt 6, 3) := by decide +kernel
theorem dX12_who_93 : decode cX12_who 93 = .ok (.goto 16, 3) := by decide +kernel
theorem dX12_who_96 : decode cX12_who 96 = .ok (.lload 7, 2) := by decide +kernel
theorem dX12_who_98 : decode cX12_who 98 = .ok (.lstore_n 2, 1) := by decide +kernel
theorem dX12_who_99 : decode cX12_who 99 = .ok (.bipush 100, 2) := by decide +kernel
theorem dX12_who_101 : decode cX12_who 101 = .ok (.iload 6, 2) := by decide +kernel
theorem dX12_who_103 : decode cX12_who 103 = .ok (.imul, 1) := by decide +kernel
theorem dX12_who_104 : decode cX12_who 104 = .ok (.iload 5, 2) := by decide +kernel
theorem dX12_who_106 : decode cX12_who 106 = .ok (.iadd, 1) := by decide +kernel
theorem dX12_who_107 : decode cX12_who 107 = .ok (.istore 4, 2) := by decide +kernel
theorem dX12_who_109 : decode cX12_who 109 = .ok (.iinc 6 1, 3) := by decide +kernel
theorem dX12_who_112 : decode cX12_who 112 = .ok (.goto (-60), 3) := by decide +kernel
theorem dX12_who_115 : decode cX12_who 115 = .ok (.iinc 5 1, 3) := by decide +kernel
theorem dX12_who_118 : decode cX12_who 118 = .ok (.goto (-78), 3) := by decide +kernel
theorem dX12_who_121 : decode cX12_who 121 = .ok (.iload 4, 2) := by decide +kernel
theorem dX12_who_123 : decode cX12_who 123 = .ok (.ireturn, 1) := by decide +kernel
theorem dX12_image_0 : decode cX12_image 0 = .ok (.aload_n 0, 1) := by decide +kernel
theorem dX12_image_1 : decode cX12_image 1 = .ok (.iconst 1, 1) := by decide +kernel
theorem dX12_image_2 : decode cX12_image 2 = .ok (.putfield 308, 3) := by decide +kernel
theorem dX12_image_5 : decode cX12_image 5 = .ok (.aload_n 0, 1) := by decide +kernel
theorem dX12_image_6 : decode cX12_image 6 = .ok (.aload_n 0, 1) := by decide +kernel
theorem dX12_image_7 : decode cX12_image 7 = .ok (.getfield 7, 3) := by decide +kernel
theorem dX12_image_10 : decode cX12_image 10 = .ok (.putfield 312, 3) := by decide +kernel
theorem dX12_image_13 : decode cX12_image 13 = .ok (.aload_n 0, 1) := by decide +kernel
theorem dX12_image_14 : decode cX12_image 14 = .ok (.aload_n 0, 1) := by decide +kernel
theorem dX12_image_15 : decode cX12_image 15 = .ok (.getfield 131, 3) := by decide +kernel
theorem dX12_image_18 : decode cX12_image 18 = .ok (.putfield 315, 3) := by decide +kernel
theorem dX12_image_21 : decode cX12_image 21 = .ok (.aload_n 0, 1) := by decide +kernel
theorem dX12_image_22 : decode cX12_image 22 = .ok (.aload_n 0, 1) := by decide +kernel
theorem dX12_image_23 : decode cX12_image 23 = .ok (.getfield 226, 3) := by decide +kernel
theorem dX12_image_26 : decode cX12_image 26 = .ok (.putfield 318, 3) := by decide +kernel
theorem dX12_image_29 : decode cX12_image 29 = .ok (.aload_n 0, 1) := by decide +kernel
theorem dX12_image_30 : decode cX12_image 30 = .ok (.aload_n 0, 1) := by decide +kernel
theorem dX12_image_31 : decode cX12_image 31 = .ok (.getfield 124, 3) := by decide +kernel
theorem dX12_image_34 : decode cX12_image 34 = .ok (.putfield 321, 3) := by decide +kernel
theorem dX12_image_37 : decode cX12_image 37 = .ok (.iconst 0, 1) := by decide +kernel
theorem dX12_image_38 : decode cX12_image 38 = .ok (.istore_n 1, 1) := by decide +kernel
theorem dX12_image_39 : decode cX12_image 39 = .ok (.iload_n 1, 1) := by decide +kernel
theorem dX12_image_40 : decode cX12_image 40 = .ok (.bipush 48, 2) := by decide +kernel
theorem dX12_image_42 : decode cX12_image 42 = .ok (.if_icmp .ge 45, 3) := by decide +kernel
theorem dX12_image_45 : decode cX12_image 45 = .ok (.aload_n 0, 1) := by decide +kernel
theorem dX12_image_46 : decode cX12_image 46 = .ok (.getfield 94, 3) := by decide +kernel
theorem dX12_image_49 : decode cX12_image 49 = .ok (.iload_n 1, 1) := by decide +kernel
theorem dX12_image_50 : decode cX12_image 50 = .ok (.aload_n 0, 1) := by decide +kernel
theorem dX12_image_51 : decode cX12_image 51 = .ok (.getfield 13, 3) := by decide +kernel
theorem dX12_image_54 : decode cX12_image 54 = .ok (.iload_n 1, 1) := by decide +kernel
theorem dX12_image_55 : decode cX12_image 55 = .ok (.iaload, 1) := by decide +kernel
theorem dX12_image_56 : decode cX12_image 56 = .ok (.iastore, 1) := by decide +kernel
theorem dX12_image_57 : decode cX12_image 57 = .ok (.aload_n 0, 1) := by decide +kernel
theorem dX12_image_58 : decode cX12_image 58 = .ok (.getfield 97, 3) := by decide +kernel
theorem dX12_image_61 : decode cX12_image 61 = .ok (.iload_n 1, 1) := by decide +kernel
theorem dX12_image_62 : decode cX12_image 62 = .ok (.aload_n 0, 1) := by decide +kernel
theorem dX12_image_63 : decode cX12_image 63 = .ok (.getfield 17, 3) := by decide +kernel
theorem dX12_image_66 : decode cX12_image 66 = .ok (.iload_n 1, 1) := by decide +kernel
theorem dX12_image_67 : decode cX12_image 67 = .ok (.iaload, 1) := by decide +kernel
theorem dX12_image_68 : decode cX12_image 68 = .ok (.iastore, 1) := by decide +kernel
theorem dX12_image_69 : decode cX12_image 69 = .ok (.aload_n 0, 1) := by decide +kernel
theorem dX12_image_70 : decode cX12_image 70 = .ok (.getfield 100, 3) := by decide +kernel
theorem dX12_image_73 : decode cX12_image 73 = .ok (.iload_n 1, 1) := by decide +kernel
theorem dX12_image_74 : decode cX12_image 74 = .ok (.aload_n 0, 1) := by decide +kernel
theorem dX12_image_75 : decode cX12_image 75 = .ok (.getfield 20, 3) := by decide +kernel
theorem dX12_image_78 : decode cX12_image 78 = .ok (.iload_n 1, 1) := by decide +kernel
theorem dX12_image_79 : decode cX12_image 79 = .ok (.iaload, 1) := by decide +kernel
theorem dX12_image_80 : decode cX12_image 80 = .ok (.iastore, 1) := by decide +kernel
theorem dX12_image_81 : decode cX12_image 81 = .ok (.iinc 1 1, 3) := by decide +kernel
theorem dX12_image_84 : decode cX12_image 84 = .ok (.goto (-45), 3) := by decide +kernel
theorem dX12_image_87 : decode cX12_image 87 = .ok (.iconst 0, 1) := by decide +kernel
theorem dX12_image_88 : decode cX12_image 88 = .ok (.istore_n 1, 1) := by decide +kernel
theorem dX12_image_89 : decode cX12_image 89 = .ok (.iload_n 1, 1) := by decide +kernel
theorem dX12_image_90 : decode cX12_image 90 = .ok (.iconst 4, 1) := by decide +kernel
theorem dX12_image_91 : decode cX12_image 91 = .ok (.if_icmp .ge 21, 3) := by decide +kernel
theorem dX12_image_94 : decode cX12_image 94 = .ok (.aload_n 0, 1) := by decide +kernel
theorem dX12_image_95 : decode cX12_image 95 = .ok (.getfield 103, 3) := by decide +kernel
theorem dX12_image_98 : decode cX12_image 98 = .ok (.iload_n 1, 1) := by decide +kernel
theorem dX12_image_99 : decode cX12_image 99 = .ok (.aload_n 0, 1) := by decide +kernel
theorem dX12_image_100 : decode cX12_image 100 = .ok (.getfield 23, 3) := by decide +kernel
theorem dX12_image_103 : decode cX12_image 103 = .ok (.iload_n 1, 1) := by decide +kernel
theorem dX12_image_104 : decode cX12_image 104 = .ok (.iaload, 1) := by decide +kernel
theorem dX12_image_105 : decode cX12_image 105 = .ok (.iastore, 1) := by decide +kernel
theorem dX12_image_106 : decode cX12_image 106 = .ok (.iinc 1 1, 3) := by decide +kernel
theorem dX12_image_109 : decode cX12_image 109 = .ok (.goto (-20), 3) := by decide +kernel
theorem dX12_image_112 : decode cX12_image 112 = .ok (.iconst 0, 1) := by decide +kernel
theorem dX12_image_113 : decode cX12_image 113 = .ok (.istore_n 1, 1) := by decide +kernel
theorem dX12_image_114 : decode cX12_image 114 = .ok (.iload_n 1, 1) := by decide +kernel
theorem dX12_image_115 : decode cX12_image 115 = .ok (.bipush 10, 2) := by decide +kernel
theorem dX12_image_117 : decode cX12_image 117 = .ok (.if_icmp .ge 21, 3) := by decide +kernel
theorem dX12_image_120 : decode cX12_image 120 = .ok (.aload_n 0, 1) := by decide +kernel
theorem dX12_image_121 : decode cX12_image 121 = .ok (.getfield 106, 3) := by decide +kernel
theorem dX12_image_124 : decode cX12_image 124 = .ok (.iload_n 1, 1) := by decide +kernel
theorem dX12_image_125 : decode cX12_image 125 = .ok (.aload_n 0, 1) := by decide +kernel
theorem dX12_image_126 : decode cX12_image 126 = .ok (.getfield 29, 3) := by decide +kernel
theorem dX12_image_129 : decode cX12_image 129 = .ok (.iload_n 1, 1) := by decide +kernel
theorem dX12_image_130 : decode cX12_image 130 = .ok (.iaload, 1) := by decide +kernel
theorem dX12_image_131 : decode cX12_image 131 = .ok (.iastore, 1) := by decide +kernel
theorem dX12_image_132 : decode cX12_image 132 = .ok (.iinc 1 1, 3) := by decide +kernel
theorem dX12_image_135 : decode cX12_image 135 = .ok (.goto (-21), 3) := by decide +kernel
theorem dX12_image_138 : decode cX12_image 138 = .ok (.aload_n 0, 1) := by decide +kernel
theorem dX12_image_139 : decode cX12_image 139 = .ok (.getfield 124, 3) := by decide +kernel
theorem dX12_image_142 : decode cX12_image 142 = .ok (.ireturn, 1) := by decide +kernel
theorem dX12_back_0 : decode cX12_back 0 = .ok (.aload_n 0, 1) := by decide +kernel
theorem dX12_back_1 : decode cX12_back 1 = .ok (.getfield 308, 3) := by decide +kernel
theorem dX12_back_4 : decode cX12_back 4 = .ok (.ifCond .ne 6, 3) := by decide +kernel
theorem dX12_back_7 : decode cX12_back 7 = .ok (.bipush (-3), 2) := by decide +kernel
theorem dX12_back_9 : decode cX12_back 9 = .ok (.ireturn, 1) := by decide +kernel
theorem dX12_back_10 : decode cX12_back 10 = .ok (.aload_n 0, 1) := by decide +kernel
theorem dX12_back_11 : decode cX12_back 11 = .ok (.aload_n 0, 1) := by decide +kernel
theorem dX12_back_12 : decode cX12_back 12 = .ok (.getfield 312, 3) := by decide +kernel
theorem dX12_back_15 : decode cX12_back 15 = .ok (.putfield 7, 3) := by decide +kernel
theorem dX12_back_18 : decode cX12_back 18 = .ok (.aload_n 0, 1) := by decide +kernel
theorem dX12_back_19 : decode cX12_back 19 = .ok (.aload_n 0, 1) := by decide +kernel
theorem dX12_back_20 : decode cX12_back 20 = .ok (.getfield 315, 3) := by decide +kernel
theorem dX12_back_23 : decode cX12_back 23 = .ok (.putfield 131, 3) := by decide +kernel
theorem dX12_back_26 : decode cX12_back 26 = .ok (.aload_n 0, 1) := by decide +kernel
theorem dX12_back_27 : decode cX12_back 27 = .ok (.aload_n 0, 1) := by decide +kernel
theorem dX12_back_28 : decode cX12_back 28 = .ok (.getfield 318, 3) := by decide +kernel
theorem dX12_back_31 : decode cX12_back 31 = .ok (.putfield 226, 3) := by decide +kernel
theorem dX12_back_34 : decode cX12_back 34 = .ok (.iconst 0, 1) := by decide +kernel
theorem dX12_back_35 : decode cX12_back 35 = .ok (.istore_n 1, 1) := by decide +kernel
theorem dX12_back_36 : decode cX12_back 36 = .ok (.iload_n 1, 1) := by decide +kernel
theorem dX12_back_37 : decode cX12_back 37 = .ok (.bipush 48, 2) := by decide +kernel
theorem dX12_back_39 : decode cX12_back 39 = .ok (.if_icmp .ge 45, 3) := by decide +kernel
theorem dX12_back_42 : decode cX12_back 42 = .ok (.aload_n 0, 1) := by decide +kernel
theorem dX12_back_43 : decode cX12_back 43 = .ok (.getfield 13, 3) := by decide +kernel
theorem dX12_back_46 : decode cX12_back 46 = .ok (.iload_n 1, 1) := by decide +kernel
theorem dX12_back_47 : decode cX12_back 47 = .ok (.aload_n 0, 1) := by decide +kernel
theorem dX12_back_48 : decode cX12_back 48 = .ok (.getfield 94, 3) := by decide +kernel
theorem dX12_back_51 : decode cX12_back 51 = .ok (.iload_n 1, 1) := by decide +kernel
theorem dX12_back_52 : decode cX12_back 52 = .ok (.iaload, 1) := by decide +kernel
theorem dX12_back_53 : decode cX12_back 53 = .ok (.iastore, 1) := by decide +kernel
theorem dX12_back_54 : decode cX12_back 54 = .ok (.aload_n 0, 1) := by decide +kernel
theorem dX12_back_55 : decode cX12_back 55 = .ok (.getfield 17, 3) := by decide +kernel
theorem dX12_back_58 : decode cX12_back 58 = .ok (.iload_n 1, 1) := by decide +kernel
theorem dX12_back_59 : decode cX12_back 59 = .ok (.aload_n 0, 1) := by decide +kernel
theorem dX12_back_60 : decode cX12_back 60 = .ok (.getfield 97, 3) := by decide +kernel
theorem dX12_back_63 : decode cX12_back 63 = .ok (.iload_n 1, 1) := by decide +kernel
theorem dX12_back_64 : decode cX12_back 64 = .ok (.iaload, 1) := by decide +kernel
theorem dX12_back_65 : decode cX12_back 65 = .ok (.iastore, 1) := by decide +kernel
theorem dX12_back_66 : decode cX12_back 66 = .ok (.aload_n 0, 1) := by decide +kernel
theorem dX12_back_67 : decode cX12_back 67 = .ok (.getfield 20, 3) := by decide +kernel
theorem dX12_back_70 : decode cX12_back 70 = .ok (.iload_n 1, 1) := by decide +kernel
theorem dX12_back_71 : decode cX12_back 71 = .ok (.aload_n 0, 1) := by decide +kernel
theorem dX12_back_72 : decode cX12_back 72 = .ok (.getfield 100, 3) := by decide +kernel
theorem dX12_back_75 : decode cX12_back 75 = .ok (.iload_n 1, 1) := by decide +kernel
theorem dX12_back_76 : decode cX12_back 76 = .ok (.iaload, 1) := by decide +kernel
theorem dX12_back_77 : decode cX12_back 77 = .ok (.iastore, 1) := by decide +kernel
theorem dX12_back_78 : decode cX12_back 78 = .ok (.iinc 1 1, 3) := by decide +kernel
theorem dX12_back_81 : decode cX12_back 81 = .ok (.goto (-45), 3) := by decide +kernel
theorem dX12_back_84 : decode cX12_back 84 = .ok (.iconst 0, 1) := by decide +kernel
theorem dX12_back_85 : decode cX12_back 85 = .ok (.istore_n 1, 1) := by decide +kernel
theorem dX12_back_86 : decode cX12_back 86 = .ok (.iload_n 1, 1) := by decide +kernel
theorem dX12_back_87 : decode cX12_back 87 = .ok (.iconst 4, 1) := by decide +kernel
theorem dX12_back_88 : decode cX12_back 88 = .ok (.if_icmp .ge 21, 3) := by decide +kernel
theorem dX12_back_91 : decode cX12_back 91 = .ok (.aload_n 0, 1) := by decide +kernel
theorem dX12_back_92 : decode cX12_back 92 = .ok (.getfield 23, 3) := by decide +kernel
theorem dX12_back_95 : decode cX12_back 95 = .ok (.iload_n 1, 1) := by decide +kernel
theorem dX12_back_96 : decode cX12_back 96 = .ok (.aload_n 0, 1) := by decide +kernel
theorem dX12_back_97 : decode cX12_back 97 = .ok (.getfield 103, 3) := by decide +kernel
theorem dX12_back_100 : decode cX12_back 100 = .ok (.iload_n 1, 1) := by decide +kernel
theorem dX12_back_101 : decode cX12_back 101 = .ok (.iaload, 1) := by decide +kernel
theorem dX12_back_102 : decode cX12_back 102 = .ok (.iastore, 1) := by decide +kernel
theorem dX12_back_103 : decode cX12_back 103 = .ok (.iinc 1 1, 3) := by decide +kernel
theorem dX12_back_106 : decode cX12_back 106 = .ok (.goto (-20), 3) := by decide +kernel
theorem dX12_back_109 : decode cX12_back 109 = .ok (.iconst 0, 1) := by decide +kernel
theorem dX12_back_110 : decode cX12_back 110 = .ok (.istore_n 1, 1) := by decide +kernel
theorem dX12_back_111 : decode cX12_back 111 = .ok (.iload_n 1, 1) := by decide +kernel
theorem dX12_back_112 : decode cX12_back 112 = .ok (.aload_n 0, 1) := by decide +kernel
theorem dX12_back_113 : decode cX12_back 113 = .ok (.getfield 321, 3) := by decide +kernel
theorem dX12_back_116 : decode cX12_back 116 = .ok (.if_icmp .ge 21, 3) := by decide +kernel
theorem dX12_back_119 : decode cX12_back 119 = .ok (.aload_n 0, 1) := by decide +kernel
theorem dX12_back_120 : decode cX12_back 120 = .ok (.getfield 29, 3) := by decide +kernel
theorem dX12_back_123 : decode cX12_back 123 = .ok (.iload_n 1, 1) := by decide +kernel
theorem dX12_back_124 : decode cX12_back 124 = .ok (.aload_n 0, 1) := by decide +kernel
theorem dX12_back_125 : decode cX12_back 125 = .ok (.getfield 106, 3) := by decide +kernel
theorem dX12_back_128 : decode cX12_back 128 = .ok (.iload_n 1, 1) := by decide +kernel
theorem dX12_back_129 : decode cX12_back 129 = .ok (.iaload, 1) := by decide +kernel
theorem dX12_back_130 : decode cX12_back 130 = .ok (.iastore, 1) := by decide +kernel
theorem dX12_back_131 : decode cX12_back 131 = .ok (.iinc 1 1, 3) := by decide +kernel
theorem dX12_back_134 : decode cX12_back 134 = .ok (.goto (-23), 3) := by decide +kernel
theorem dX12_back_137 : decode cX12_back 137 = .ok (.aload_n 0, 1) := by decide +kernel
theorem dX12_back_138 : decode cX12_back 138 = .ok (.getfield 124, 3) := by decide +kernel
theorem dX12_back_141 : decode cX12_back 141 = .ok (.ireturn, 1) := by decide +kernel
theorem dX12_count_0 : decode cX12_count 0 = .ok (.iconst 0, 1) := by decide +kernel
theorem dX12_count_1 : decode cX12_count 1 = .ok (.istore_n 2, 1) := by decide +kernel
theorem dX12_count_2 : decode cX12_count 2 = .ok (.iload_n 1, 1) := by decide +kernel
theorem dX12_count_3 : decode cX12_count 3 = .ok (.tableswitch 148 0 7 #[45, 50, 55, 82, 109, 114, 119, 124], 45) := by decide +kernel
theorem dX12_count_48 : decode cX12_count 48 = .ok (.aload_n 0, 1) := by decide +kernel
theorem dX12_count_49 : decode cX12_count 49 = .ok (.getfield 124, 3) := by decide +kernel
theorem dX12_count_52 : decode cX12_count 52 = .ok (.ireturn, 1) := by decide +kernel
theorem dX12_count_53 : decode cX12_count 53 = .ok (.aload_n 0, 1) := by decide +kernel
theorem dX12_count_54 : decode cX12_count 54 = .ok (.getfield 7, 3) := by decide +kernel
theorem dX12_count_57 : decode cX12_count 57 = .ok (.ireturn, 1) := by decide +kernel
theorem dX12_count_58 : decode cX12_count 58 = .ok (.iconst 0, 1) := by decide +kernel
theorem dX12_count_59 : decode cX12_count 59 = .ok (.istore_n 3, 1) := by decide +kernel
theorem dX12_count_60 : decode cX12_count 60 = .ok (.iload_n 3, 1) := by decide +kernel
theorem dX12_count_61 : decode cX12_count 61 = .ok (.aload_n 0, 1) := by decide +kernel
theorem dX12_count_62 : decode cX12_count 62 = .ok (.getfield 7, 3) := by decide +kernel
theorem dX12_count_65 : decode cX12_count 65 = .ok (.if_icmp .ge 18, 3) := by decide +kernel
theorem dX12_count_68 : decode cX12_count 68 = .ok (.iload_n 2, 1) := by decide +kernel
theorem dX12_count_69 : decode cX12_count 69 = .ok (.aload_n 0, 1) := by decide +kernel
theorem dX12_count_70 : decode cX12_count 70 = .ok (.getfield 17, 3) := by decide +kernel
theorem dX12_count_73 : decode cX12_count 73 = .ok (.iload_n 3, 1) := by decide +kernel
theorem dX12_count_74 : decode cX12_count 74 = .ok (.iaload, 1) := by decide +kernel
theorem dX12_count_75 : decode cX12_count 75 = .ok (.iadd, 1) := by decide +kernel
theorem dX12_count_76 : decode cX12_count 76 = .ok (.istore_n 2, 1) := by decide +kernel
theorem dX12_count_77 : decode cX12_count 77 = .ok (.iinc 3 1, 3) := by decide +kernel
theorem dX12_count_80 : decode cX12_count 80 = .ok (.goto (-20), 3) := by decide +kernel
theorem dX12_count_83 : decode cX12_count 83 = .ok (.iload_n 2, 1) := by decide +kernel
theorem dX12_count_84 : decode cX12_count 84 = .ok (.ireturn, 1) := by decide +kernel
theorem dX12_count_85 : decode cX12_count 85 = .ok (.iconst 0, 1) := by decide +kernel
theorem dX12_count_86 : decode cX12_count 86 = .ok (.istore_n 3, 1) := by decide +kernel
theorem dX12_count_87 : decode cX12_count 87 = .ok (.iload_n 3, 1) := by decide +kernel
theorem dX12_count_88 : decode cX12_count 88 = .ok (.aload_n 0, 1) := by decide +kernel
theorem dX12_count_89 : decode cX12_count 89 = .ok (.getfield 7, 3) := by decide +kernel
theorem dX12_count_92 : decode cX12_count 92 = .ok (.if_icmp .ge 18, 3) := by decide +kernel
theorem dX12_count_95 : decode cX12_count 95 = .ok (.iload_n 2, 1) := by decide +kernel
theorem dX12_count_96 : decode cX12_count 96 = .ok (.aload_n 0, 1) := by decide +kernel
theorem dX12_count_97 : decode cX12_count 97 = .ok (.getfield 20, 3) := by decide +kernel
theorem dX12_count_100 : decode cX12_count 100 = .ok (.iload_n 3, 1) := by decide +kernel
theorem dX12_count_101 : decode cX12_count 101 = .ok (.iaload, 1) := by decide +kernel
theorem dX12_count_102 : decode cX12_count 102 = .ok (.iadd, 1) := by decide +kernel
theorem dX12_count_103 : decode cX12_count 103 = .ok (.istore_n 2, 1) := by decide +kernel
theorem dX12_count_104 : decode cX12_count 104 = .ok (.iinc 3 1, 3) := by decide +kernel
theorem dX12_count_107 : decode cX12_count 107 = .ok (.goto (-20), 3) := by decide +kernel
theorem dX12_count_110 : decode cX12_count 110 = .ok (.iload_n 2, 1) := by decide +kernel
theorem dX12_count_111 : decode cX12_count 111 = .ok (.ireturn, 1) := by decide +kernel
theorem dX12_count_112 : decode cX12_count 112 = .ok (.aload_n 0, 1) := by decide +kernel
theorem dX12_count_113 : decode cX12_count 113 = .ok (.getfield 45, 3) := by decide +kernel
theorem dX12_count_116 : decode cX12_count 116 = .ok (.ireturn, 1) := by decide +kernel
theorem dX12_count_117 : decode cX12_count 117 = .ok (.aload_n 0, 1) := by decide +kernel
theorem dX12_count_118 : decode cX12_count 118 = .ok (.getfield 150, 3) := by decide +kernel
theorem dX12_count_121 : decode cX12_count 121 = .ok (.ireturn, 1) := by decide +kernel
theorem dX12_count_122 : decode cX12_count 122 = .ok (.aload_n 0, 1) := by decide +kernel
theorem dX12_count_123 : decode cX12_count 123 = .ok (.getfield 226, 3) := by decide +kernel
theorem dX12_count_126 : decode cX12_count 126 = .ok (.ireturn, 1) := by decide +kernel
theorem dX12_count_127 : decode cX12_count 127 = .ok (.iconst 0, 1) := by decide +kernel
theorem dX12_count_128 : decode cX12_count 128 = .ok (.istore_n 3, 1) := by decide +kernel
theorem dX12_count_129 : decode cX12_count 129 = .ok (.iload_n 3, 1) := by decide +kernel
theorem dX12_count_130 : decode cX12_count 130 = .ok (.iconst 4, 1) := by decide +kernel
theorem dX12_count_131 : decode cX12_count 131 = .ok (.if_icmp .ge 18, 3) := by decide +kernel
theorem dX12_count_134 : decode cX12_count 134 = .ok (.iload_n 2, 1) := by decide +kernel
theorem dX12_count_135 : decode cX12_count 135 = .ok (.aload_n 0, 1) := by decide +kernel
theorem dX12_count_136 : decode cX12_count 136 = .ok (.getfield 23, 3) := by decide +kernel
theorem dX12_count_139 : decode cX12_count 139 = .ok (.iload_n 3, 1) := by decide +kernel
theorem dX12_count_140 : decode cX12_count 140 = .ok (.iaload, 1) := by decide +kernel
theorem dX12_count_141 : decode cX12_count 141 = .ok (.iadd, 1) := by decide +kernel
theorem dX12_count_142 : decode cX12_count 142 = .ok (.istore_n 2, 1) := by decide +kernel
theorem dX12_count_143 : decode cX12_count 143 = .ok (.iinc 3 1, 3) := by decide +kernel
theorem dX12_count_146 : decode cX12_count 146 = .ok (.goto (-17), 3) := by decide +kernel
theorem dX12_count_149 : decode cX12_count 149 = .ok (.iload_n 2, 1) := by decide +kernel
theorem dX12_count_150 : decode cX12_count 150 = .ok (.ireturn, 1) := by decide +kernel
theorem dX12_count_151 : decode cX12_count 151 = .ok (.bipush (-2), 2) := by decide +kernel
theorem dX12_count_153 : decode cX12_count 153 = .ok (.ireturn, 1) := by decide +kernel
theorem dX12_isSheet_0 : decode cX12_isSheet 0 = .ok (.iload_n 0, 1) := by decide +kernel
theorem dX12_isSheet_1 : decode cX12_isSheet 1 = .ok (.iconst 0, 1) := by decide +kernel
theorem dX12_isSheet_2 : decode cX12_isSheet 2 = .ok (.iconst 3, 1) := by decide +kernel
theorem dX12_isSheet_3 : decode cX12_isSheet 3 = .ok (.invokestatic 127, 3) := by decide +kernel
theorem dX12_isSheet_6 : decode cX12_isSheet 6 = .ok (.ireturn, 1) := by decide +kernel
theorem dX12_sheet_0 : decode cX12_sheet 0 = .ok (.iload_n 1, 1) := by decide +kernel
theorem dX12_sheet_1 : decode cX12_sheet 1 = .ok (.invokestatic 305, 3) := by decide +kernel
theorem dX12_sheet_4 : decode cX12_sheet 4 = .ok (.ifCond .eq 12, 3) := by decide +kernel
theorem dX12_sheet_7 : decode cX12_sheet 7 = .ok (.iload_n 2, 1) := by decide +kernel
theorem dX12_sheet_8 : decode cX12_sheet 8 = .ok (.iconst (-1), 1) := by decide +kernel
theorem dX12_sheet_9 : decode cX12_sheet 9 = .ok (.iconst 2, 1) := by decide +kernel
theorem dX12_sheet_10 : decode cX12_sheet 10 = .ok (.invokestatic 127, 3) := by decide +kernel
theorem dX12_sheet_13 : decode cX12_sheet 13 = .ok (.ifCond .ne 6, 3) := by decide +kernel
theorem dX12_sheet_16 : decode cX12_sheet 16 = .ok (.bipush (-2), 2) := by decide +kernel
theorem dX12_sheet_18 : decode cX12_sheet 18 = .ok (.ireturn, 1) := by decide +kernel
theorem dX12_sheet_19 : decode cX12_sheet 19 = .ok (.iload_n 2, 1) := by decide +kernel
theorem dX12_sheet_20 : decode cX12_sheet 20 = .ok (.iconst (-1), 1) := by decide +kernel
theorem dX12_sheet_21 : decode cX12_sheet 21 = .ok (.if_icmp .ne 12, 3) := by decide +kernel
theorem dX12_sheet_24 : decode cX12_sheet 24 = .ok (.aload_n 0, 1) := by decide +kernel
theorem dX12_sheet_25 : decode cX12_sheet 25 = .ok (.getfield 109, 3) := by decide +kernel
theorem dX12_sheet_28 : decode cX12_sheet 28 = .ok (.iload_n 1, 1) := by decide +kernel
theorem dX12_sheet_29 : decode cX12_sheet 29 = .ok (.iconst (-1), 1) := by decide +kernel
theorem dX12_sheet_30 : decode cX12_sheet 30 = .ok (.iastore, 1) := by decide +kernel
theorem dX12_sheet_31 : decode cX12_sheet 31 = .ok (.iconst 1, 1) := by decide +kernel
theorem dX12_sheet_32 : decode cX12_sheet 32 = .ok (.ireturn, 1) := by decide +kernel
theorem dX12_sheet_33 : decode cX12_sheet 33 = .ok (.iload_n 3, 1) := by decide +kernel
theorem dX12_sheet_34 : decode cX12_sheet 34 = .ok (.bipush 40, 2) := by decide +kernel
theorem dX12_sheet_36 : decode cX12_sheet 36 = .ok (.if_icmp .le 6, 3) := by decide +kernel
theorem dX12_sheet_39 : decode cX12_sheet 39 = .ok (.bipush (-2), 2) := by decide +kernel
theorem dX12_sheet_41 : decode cX12_sheet 41 = .ok (.ireturn, 1) := by decide +kernel
theorem dX12_sheet_42 : decode cX12_sheet 42 = .ok (.iload_n 3, 1) := by decide +kernel
theorem dX12_sheet_43 : decode cX12_sheet 43 = .ok (.ifCond .ge 6, 3) := by decide +kernel
theorem dX12_sheet_46 : decode cX12_sheet 46 = .ok (.bipush (-14), 2) := by decide +kernel
theorem dX12_sheet_48 : decode cX12_sheet 48 = .ok (.ireturn, 1) := by decide +kernel
theorem dX12_sheet_49 : decode cX12_sheet 49 = .ok (.aload_n 0, 1) := by decide +kernel
theorem dX12_sheet_50 : decode cX12_sheet 50 = .ok (.getfield 109, 3) := by decide +kernel
theorem dX12_sheet_53 : decode cX12_sheet 53 = .ok (.iload_n 1, 1) := by decide +kernel
theorem dX12_sheet_54 : decode cX12_sheet 54 = .ok (.iload_n 2, 1) := by decide +kernel
theorem dX12_sheet_55 : decode cX12_sheet 55 = .ok (.iastore, 1) := by decide +kernel
theorem dX12_sheet_56 : decode cX12_sheet 56 = .ok (.aload_n 0, 1) := by decide +kernel
theorem dX12_sheet_57 : decode cX12_sheet 57 = .ok (.getfield 112, 3) := by decide +kernel
theorem dX12_sheet_60 : decode cX12_sheet 60 = .ok (.iload_n 1, 1) := by decide +kernel
theorem dX12_sheet_61 : decode cX12_sheet 61 = .ok (.iload_n 3, 1) := by decide +kernel
theorem dX12_sheet_62 : decode cX12_sheet 62 = .ok (.iastore, 1) := by decide +kernel
theorem dX12_sheet_63 : decode cX12_sheet 63 = .ok (.iconst 0, 1) := by decide +kernel
theorem dX12_sheet_64 : decode cX12_sheet 64 = .ok (.istore 4, 2) := by decide +kernel
theorem dX12_sheet_66 : decode cX12_sheet 66 = .ok (.iload 4, 2) := by decide +kernel
theorem dX12_sheet_68 : decode cX12_sheet 68 = .ok (.iload_n 3, 1) := by decide +kernel
theorem dX12_sheet_69 : decode cX12_sheet 69 = .ok (.if_icmp .ge 22, 3) := by decide +kernel
theorem dX12_sheet_72 : decode cX12_sheet 72 = .ok (.aload_n 0, 1) := by decide +kernel
theorem dX12_sheet_73 : decode cX12_sheet 73 = .ok (.getfield 115, 3) := by decide +kernel
theorem dX12_sheet_76 : decode cX12_sheet 76 = .ok (.bipush 40, 2) := by decide +kernel
theorem dX12_sheet_78 : decode cX12_sheet 78 = .ok (.iload_n 1, 1) := by decide +kernel
theorem dX12_sheet_79 : decode cX12_sheet 79 = .ok (.imul, 1) := by decide +kernel
theorem dX12_sheet_80 : decode cX12_sheet 80 = .ok (.iload 4, 2) := by decide +kernel
theorem dX12_sheet_82 : decode cX12_sheet 82 = .ok (.iadd, 1) := by decide +kernel
theorem dX12_sheet_83 : decode cX12_sheet 83 = .ok (.iconst 0, 1) := by decide +kernel
theorem dX12_sheet_84 : decode cX12_sheet 84 = .ok (.iastore, 1) := by decide +kernel
theorem dX12_sheet_85 : decode cX12_sheet 85 = .ok (.iinc 4 1, 3) := by decide +kernel
theorem dX12_sheet_88 : decode cX12_sheet 88 = .ok (.goto (-22), 3) := by decide +kernel
theorem dX12_sheet_91 : decode cX12_sheet 91 = .ok (.iconst 1, 1) := by decide +kernel
theorem dX12_sheet_92 : decode cX12_sheet 92 = .ok (.ireturn, 1) := by decide +kernel
theorem dX12_cell_0 : decode cX12_cell 0 = .ok (.iload_n 1, 1) := by decide +kernel
theorem dX12_cell_1 : decode cX12_cell 1 = .ok (.invokestatic 305, 3) := by decide +kernel
theorem dX12_cell_4 : decode cX12_cell 4 = .ok (.ifCond .ne 6, 3) := by decide +kernel
theorem dX12_cell_7 : decode cX12_cell 7 = .ok (.bipush (-2), 2) := by decide +kernel
theorem dX12_cell_9 : decode cX12_cell 9 = .ok (.ireturn, 1) := by decide +kernel
theorem dX12_cell_10 : decode cX12_cell 10 = .ok (.aload_n 0, 1) := by decide +kernel
theorem dX12_cell_11 : decode cX12_cell 11 = .ok (.getfield 109, 3) := by decide +kernel
theorem dX12_cell_14 : decode cX12_cell 14 = .ok (.iload_n 1, 1) := by decide +kernel
theorem dX12_cell_15 : decode cX12_cell 15 = .ok (.iaload, 1) := by decide +kernel
theorem dX12_cell_16 : decode cX12_cell 16 = .ok (.ifCond .ge 6, 3) := by decide +kernel
theorem dX12_cell_19 : decode cX12_cell 19 = .ok (.bipush (-11), 2) := by decide +kernel
theorem dX12_cell_21 : decode cX12_cell 21 = .ok (.ireturn, 1) := by decide +kernel
theorem dX12_cell_22 : decode cX12_cell 22 = .ok (.iload_n 2, 1) := by decide +kernel
theorem dX12_cell_23 : decode cX12_cell 23 = .ok (.iconst 0, 1) := by decide +kernel
theorem dX12_cell_24 : decode cX12_cell 24 = .ok (.aload_n 0, 1) := by decide +kernel
theorem dX12_cell_25 : decode cX12_cell 25 = .ok (.getfield 112, 3) := by decide +kernel
theorem dX12_cell_28 : decode cX12_cell 28 = .ok (.iload_n 1, 1) := by decide +kernel
theorem dX12_cell_29 : decode cX12_cell 29 = .ok (.iaload, 1) := by decide +kernel
theorem dX12_cell_30 : decode cX12_cell 30 = .ok (.iconst 1, 1) := by decide +kernel
theorem dX12_cell_31 : decode cX12_cell 31 = .ok (.isub, 1) := by decide +kernel
theorem dX12_cell_32 : decode cX12_cell 32 = .ok (.invokestatic 127, 3) := by decide +kernel
theorem dX12_cell_35 : decode cX12_cell 35 = .ok (.ifCond .ne 6, 3) := by decide +kernel
theorem dX12_cell_38 : decode cX12_cell 38 = .ok (.bipush (-12), 2) := by decide +kernel
theorem dX12_cell_40 : decode cX12_cell 40 = .ok (.ireturn, 1) := by decide +kernel
theorem dX12_cell_41 : decode cX12_cell 41 = .ok (.aload_n 0, 1) := by decide +kernel
theorem dX12_cell_42 : decode cX12_cell 42 = .ok (.getfield 115, 3) := by decide +kernel
theorem dX12_cell_45 : decode cX12_cell 45 = .ok (.bipush 40, 2) := by decide +kernel
theorem dX12_cell_47 : decode cX12_cell 47 = .ok (.iload_n 1, 1) := by decide +kernel
theorem dX12_cell_48 : decode cX12_cell 48 = .ok (.imul, 1) := by decide +kernel
theorem dX12_cell_49 : decode cX12_cell 49 = .ok (.iload_n 2, 1) := by decide +kernel
theorem dX12_cell_50 : decode cX12_cell 50 = .ok (.iadd, 1) := by decide +kernel
theorem dX12_cell_51 : decode cX12_cell 51 = .ok (.aload_n 0, 1) := by decide +kernel
theorem dX12_cell_52 : decode cX12_cell 52 = .ok (.getfield 109, 3) := by decide +kernel
theorem dX12_cell_55 : decode cX12_cell 55 = .ok (.iload_n 1, 1) := by decide +kernel
theorem dX12_cell_56 : decode cX12_cell 56 = .ok (.iaload, 1) := by decide +kernel
theorem dX12_cell_57 : decode cX12_cell 57 = .ok (.ifCond .ne 8, 3) := by decide +kernel
theorem dX12_cell_60 : decode cX12_cell 60 = .ok (.iload_n 3, 1) := by decide +kernel
theorem dX12_cell_61 : decode cX12_cell 61 = .ok (.i2b, 1) := by decide +kernel
theorem dX12_cell_62 : decode cX12_cell 62 = .ok (.goto 19, 3) := by decide +kernel
theorem dX12_cell_65 : decode cX12_cell 65 = .ok (.aload_n 0, 1) := by decide +kernel
theorem dX12_cell_66 : decode cX12_cell 66 = .ok (.getfield 109, 3) := by decide +kernel
theorem dX12_cell_69 : decode cX12_cell 69 = .ok (.iload_n 1, 1) := by decide +kernel
theorem dX12_cell_70 : decode cX12_cell 70 = .ok (.iaload, 1) := by decide +kernel
theorem dX12_cell_71 : decode cX12_cell 71 = .ok (.iconst 1, 1) := by decide +kernel
theorem dX12_cell_72 : decode cX12_cell 72 = .ok (.if_icmp .ne 8, 3) := by decide +kernel
theorem dX12_cell_75 : decode cX12_cell 75 = .ok (.iload_n 3, 1) := by decide +kernel
theorem dX12_cell_76 : decode cX12_cell 76 = .ok (.i2s, 1) := by decide +kernel
theorem dX12_cell_77 : decode cX12_cell 77 = .ok (.goto 4, 3) := by decide +kernel
theorem dX12_cell_80 : decode cX12_cell 80 = .ok (.iload_n 3, 1) := by decide +kernel
theorem dX12_cell_81 : decode cX12_cell 81 = .ok (.iastore, 1) := by decide +kernel
theorem dX12_cell_82 : decode cX12_cell 82 = .ok (.iconst 1, 1) := by decide +kernel
theorem dX12_cell_83 : decode cX12_cell 83 = .ok (.ireturn, 1) := by decide +kernel
theorem dX12_copy_0 : decode cX12_copy 0 = .ok (.iload_n 1, 1) := by decide +kernel
theorem dX12_copy_1 : decode cX12_copy 1 = .ok (.invokestatic 305, 3) := by decide +kernel
theorem dX12_copy_4 : decode cX12_copy 4 = .ok (.ifCond .eq 10, 3) := by decide +kernel
theorem dX12_copy_7 : decode cX12_copy 7 = .ok (.iload_n 3, 1) := by decide +kernel
theorem dX12_copy_8 : decode cX12_copy 8 = .ok (.invokestatic 305, 3) := by decide +kernel
theorem dX12_copy_11 : decode cX12_copy 11 = .ok (.ifCond .ne 6, 3) := by decide +kernel
theorem dX12_copy_14 : decode cX12_copy 14 = .ok (.bipush (-2), 2) := by decide +kernel
theorem dX12_copy_16 : decode cX12_copy 16 = .ok (.ireturn, 1) := by decide +kernel
theorem dX12_copy_17 : decode cX12_copy 17 = .ok (.aload_n 0, 1) := by decide +kernel
theorem dX12_copy_18 : decode cX12_copy 18 = .ok (.getfield 109, 3) := by decide +kernel
theorem dX12_copy_21 : decode cX12_copy 21 = .ok (.iload_n 1, 1) := by decide +kernel
theorem dX12_copy_22 : decode cX12_copy 22 = .ok (.iaload, 1) := by decide +kernel
theorem dX12_copy_23 : decode cX12_copy 23 = .ok (.ifCond .lt 12, 3) := by decide +kernel
theorem dX12_copy_26 : decode cX12_copy 26 = .ok (.aload_n 0, 1) := by decide +kernel
theorem dX12_copy_27 : decode cX12_copy 27 = .ok (.getfield 109, 3) := by decide +kernel
theorem dX12_copy_30 : decode cX12_copy 30 = .ok (.iload_n 3, 1) := by decide +kernel
theorem dX12_copy_31 : decode cX12_copy 31 = .ok (.iaload, 1) := by decide +kernel
theorem dX12_copy_32 : decode cX12_copy 32 = .ok (.ifCond .ge 6, 3) := by decide +kernel
theorem dX12_copy_35 : decode cX12_copy 35 = .ok (.bipush (-11), 2) := by decide +kernel
theorem dX12_copy_37 : decode cX12_copy 37 = .ok (.ireturn, 1) := by decide +kernel
theorem dX12_copy_38 : decode cX12_copy 38 = .ok (.aload_n 0, 1) := by decide +kernel
theorem dX12_copy_39 : decode cX12_copy 39 = .ok (.getfield 109, 3) := by decide +kernel
theorem dX12_copy_42 : decode cX12_copy 42 = .ok (.iload_n 1, 1) := by decide +kernel
theorem dX12_copy_43 : decode cX12_copy 43 = .ok (.iaload, 1) := by decide +kernel
theorem dX12_copy_44 : decode cX12_copy 44 = .ok (.aload_n 0, 1) := by decide +kernel
theorem dX12_copy_45 : decode cX12_copy 45 = .ok (.getfield 109, 3) := by decide +kernel
theorem dX12_copy_48 : decode cX12_copy 48 = .ok (.iload_n 3, 1) := by decide +kernel
theorem dX12_copy_49 : decode cX12_copy 49 = .ok (.iaload, 1) := by decide +kernel
theorem dX12_copy_50 : decode cX12_copy 50 = .ok (.if_icmp .eq 6, 3) := by decide +kernel
theorem dX12_copy_53 : decode cX12_copy 53 = .ok (.bipush (-13), 2) := by decide +kernel
theorem dX12_copy_55 : decode cX12_copy 55 = .ok (.ireturn, 1) := by decide +kernel
theorem dX12_copy_56 : decode cX12_copy 56 = .ok (.iload 5, 2) := by decide +kernel
theorem dX12_copy_58 : decode cX12_copy 58 = .ok (.ifCond .lt 47, 3) := by decide +kernel
theorem dX12_copy_61 : decode cX12_copy 61 = .ok (.iload_n 2, 1) := by decide +kernel
theorem dX12_copy_62 : decode cX12_copy 62 = .ok (.ifCond .lt 43, 3) := by decide +kernel
theorem dX12_copy_65 : decode cX12_copy 65 = .ok (.iload 4, 2) := by decide +kernel
theorem dX12_copy_67 : decode cX12_copy 67 = .ok (.ifCond .lt 38, 3) := by decide +kernel
theorem dX12_copy_70 : decode cX12_copy 70 = .ok (.iload_n 2, 1) := by decide +kernel
theorem dX12_copy_71 : decode cX12_copy 71 = .ok (.i2l, 1) := by decide +kernel
theorem dX12_copy_72 : decode cX12_copy 72 = .ok (.iload 5, 2) := by decide +kernel
theorem dX12_copy_74 : decode cX12_copy 74 = .ok (.i2l, 1) := by decide +kernel
theorem dX12_copy_75 : decode cX12_copy 75 = .ok (.ladd, 1) := by decide +kernel
theorem dX12_copy_76 : decode cX12_copy 76 = .ok (.aload_n 0, 1) := by decide +kernel
theorem dX12_copy_77 : decode cX12_copy 77 = .ok (.getfield 112, 3) := by decide +kernel
theorem dX12_copy_80 : decode cX12_copy 80 = .ok (.iload_n 1, 1) := by decide +kernel
theorem dX12_copy_81 : decode cX12_copy 81 = .ok (.iaload, 1) := by decide +kernel
theorem dX12_copy_82 : decode cX12_copy 82 = .ok (.i2l, 1) := by decide +kernel
theorem dX12_copy_83 : decode cX12_copy 83 = .ok (.lcmp, 1) := by decide +kernel
theorem dX12_copy_84 : decode cX12_copy 84 = .ok (.ifCond .gt 21, 3) := by decide +kernel
theorem dX12_copy_87 : decode cX12_copy 87 = .ok (.iload 4, 2) := by decide +kernel
theorem dX12_copy_89 : decode cX12_copy 89 = .ok (.i2l, 1) := by decide +kernel
theorem dX12_copy_90 : decode cX12_copy 90 = .ok (.iload 5, 2) := by decide +kernel
theorem dX12_copy_92 : decode cX12_copy 92 = .ok (.i2l, 1) := by decide +kernel
theorem dX12_copy_93 : decode cX12_copy 93 = .ok (.ladd, 1) := by decide +kernel
theorem dX12_copy_94 : decode cX12_copy 94 = .ok (.aload_n 0, 1) := by decide +kernel
theorem dX12_copy_95 : decode cX12_copy 95 = .ok (.getfield 112, 3) := by decide +kernel
theorem dX12_copy_98 : decode cX12_copy 98 = .ok (.iload_n 3, 1) := by decide +kernel
theorem dX12_copy_99 : decode cX12_copy 99 = .ok (.iaload, 1) := by decide +kernel
theorem dX12_copy_100 : decode cX12_copy 100 = .ok (.i2l, 1) := by decide +kernel
theorem dX12_copy_101 : decode cX12_copy 101 = .ok (.lcmp, 1) := by decide +kernel
theorem dX12_copy_102 : decode cX12_copy 102 = .ok (.ifCond .le 6, 3) := by decide +kernel
theorem dX12_copy_105 : decode cX12_copy 105 = .ok (.bipush (-12), 2) := by decide +kernel
theorem dX12_copy_107 : decode cX12_copy 107 = .ok (.ireturn, 1) := by decide +kernel
theorem dX12_copy_108 : decode cX12_copy 108 = .ok (.iconst 0, 1) := by decide +kernel
theorem dX12_copy_109 : decode cX12_copy 109 = .ok (.istore 6, 2) := by decide +kernel
theorem dX12_copy_111 : decode cX12_copy 111 = .ok (.iload 6, 2) := by decide +kernel
theorem dX12_copy_113 : decode cX12_copy 113 = .ok (.iload 5, 2) := by decide +kernel
theorem dX12_copy_115 : decode cX12_copy 115 = .ok (.if_icmp .ge 30, 3) := by decide +kernel
theorem dX12_copy_118 : decode cX12_copy 118 = .ok (.aload_n 0, 1) := by decide +kernel
theorem dX12_copy_119 : decode cX12_copy 119 = .ok (.getfield 118, 3) := by decide +kernel
theorem dX12_copy_122 : decode cX12_copy 122 = .ok (.iload 6, 2) := by decide +kernel
theorem dX12_copy_124 : decode cX12_copy 124 = .ok (.aload_n 0, 1) := by decide +kernel
theorem dX12_copy_125 : decode cX12_copy 125 = .ok (.getfield 115, 3) := by decide +kernel
theorem dX12_copy_128 : decode cX12_copy 128 = .ok (.bipush 40, 2) := by decide +kernel
theorem dX12_copy_130 : decode cX12_copy 130 = .ok (.iload_n 1, 1) := by decide +kernel
theorem dX12_copy_131 : decode cX12_copy 131 = .ok (.imul, 1) := by decide +kernel
theorem dX12_copy_132 : decode cX12_copy 132 = .ok (.iload_n 2, 1) := by decide +kernel
theorem dX12_copy_133 : decode cX12_copy 133 = .ok (.iadd, 1) := by decide +kernel
theorem dX12_copy_134 : decode cX12_copy 134 = .ok (.iload 6, 2) := by decide +kernel
theorem dX12_copy_136 : decode cX12_copy 136 = .ok (.iadd, 1) := by decide +kernel
theorem dX12_copy_137 : decode cX12_copy 137 = .ok (.iaload, 1) := by decide +kernel
theorem dX12_copy_138 : decode cX12_copy 138 = .ok (.iastore, 1) := by decide +kernel
theorem dX12_copy_139 : decode cX12_copy 139 = .ok (.iinc 6 1, 3) := by decide +kernel
theorem dX12_copy_142 : decode cX12_copy 142 = .ok (.goto (-31), 3) := by decide +kernel
theorem dX12_copy_145 : decode cX12_copy 145 = .ok (.iconst 0, 1) := by decide +kernel
theorem dX12_copy_146 : decode cX12_copy 146 = .ok (.istore 6, 2) := by decide +kernel
theorem dX12_copy_148 : decode cX12_copy 148 = .ok (.iload 6, 2) := by decide +kernel
theorem dX12_copy_150 : decode cX12_copy 150 = .ok (.iload 5, 2) := by decide +kernel
theorem dX12_copy_152 : decode cX12_copy 152 = .ok (.if_icmp .ge 31, 3) := by decide +kernel
theorem dX12_copy_155 : decode cX12_copy 155 = .ok (.aload_n 0, 1) := by decide +kernel
theorem dX12_copy_156 : decode cX12_copy 156 = .ok (.getfield 115, 3) := by decide +kernel
theorem dX12_copy_159 : decode cX12_copy 159 = .ok (.bipush 40, 2) := by decide +kernel
theorem dX12_copy_161 : decode cX12_copy 161 = .ok (.iload_n 3, 1) := by decide +kernel
theorem dX12_copy_162 : decode cX12_copy 162 = .ok (.imul, 1) := by decide +kernel
theorem dX12_copy_163 : decode cX12_copy 163 = .ok (.iload 4, 2) := by decide +kernel
theorem dX12_copy_165 : decode cX12_copy 165 = .ok (.iadd, 1) := by decide +kernel
theorem dX12_copy_166 : decode cX12_copy 166 = .ok (.iload 6, 2) := by decide +kernel
theorem dX12_copy_168 : decode cX12_copy 168 = .ok (.iadd, 1) := by decide +kernel
theorem dX12_copy_169 : decode cX12_copy 169 = .ok (.aload_n 0, 1) := by decide +kernel
theorem dX12_copy_170 : decode cX12_copy 170 = .ok (.getfield 118, 3) := by decide +kernel
theorem dX12_copy_173 : decode cX12_copy 173 = .ok (.iload 6, 2) := by decide +kernel
theorem dX12_copy_175 : decode cX12_copy 175 = .ok (.iaload, 1) := by decide +kernel
theorem dX12_copy_176 : decode cX12_copy 176 = .ok (.iastore, 1) := by decide +kernel
theorem dX12_copy_177 : decode cX12_copy 177 = .ok (.iinc 6 1, 3) := by decide +kernel
theorem dX12_copy_180 : decode cX12_copy 180 = .ok (.goto (-32), 3) := by decide +kernel
theorem dX12_copy_183 : decode cX12_copy 183 = .ok (.iload 5, 2) := by decide +kernel
theorem dX12_copy_185 : decode cX12_copy 185 = .ok (.ireturn, 1) := by decide +kernel
theorem dX12_singers_0 : decode cX12_singers 0 = .ok (.iload_n 1, 1) := by decide +kernel
theorem dX12_singers_1 : decode cX12_singers 1 = .ok (.invokestatic 305, 3) := by decide +kernel
theorem dX12_singers_4 : decode cX12_singers 4 = .ok (.ifCond .eq 23, 3) := by decide +kernel
theorem dX12_singers_7 : decode cX12_singers 7 = .ok (.iload_n 2, 1) := by decide +kernel
theorem dX12_singers_8 : decode cX12_singers 8 = .ok (.iconst 0, 1) := by decide +kernel
theorem dX12_singers_9 : decode cX12_singers 9 = .ok (.iconst 2, 1) := by decide +kernel
theorem dX12_singers_10 : decode cX12_singers 10 = .ok (.invokestatic 127, 3) := by decide +kernel
theorem dX12_singers_13 : decode cX12_singers 13 = .ok (.ifCond .eq 14, 3) := by decide +kernel
theorem dX12_singers_16 : decode cX12_singers 16 = .ok (.iload 4, 2) := by decide +kernel
theorem dX12_singers_18 : decode cX12_singers 18 = .ok (.iconst 0, 1) := by decide +kernel
theorem dX12_singers_19 : decode cX12_singers 19 = .ok (.bipush 10, 2) := by decide +kernel
theorem dX12_singers_21 : decode cX12_singers 21 = .ok (.invokestatic 127, 3) := by decide +kernel
theorem dX12_singers_24 : decode cX12_singers 24 = .ok (.ifCond .ne 6, 3) := by decide +kernel
theorem dX12_singers_27 : decode cX12_singers 27 = .ok (.bipush (-2), 2) := by decide +kernel
theorem dX12_singers_29 : decode cX12_singers 29 = .ok (.ireturn, 1) := by decide +kernel
theorem dX12_singers_30 : decode cX12_singers 30 = .ok (.aload_n 0, 1) := by decide +kernel
theorem dX12_singers_31 : decode cX12_singers 31 = .ok (.getfield 109, 3) := by decide +kernel
theorem dX12_singers_34 : decode cX12_singers 34 = .ok (.iload_n 1, 1) := by decide +kernel
theorem dX12_singers_35 : decode cX12_singers 35 = .ok (.iaload, 1) := by decide +kernel
theorem dX12_singers_36 : decode cX12_singers 36 = .ok (.ifCond .lt 16, 3) := by decide +kernel
theorem dX12_singers_39 : decode cX12_singers 39 = .ok (.aload_n 0, 1) := by decide +kernel
theorem dX12_singers_40 : decode cX12_singers 40 = .ok (.getfield 109, 3) := by decide +kernel
theorem dX12_singers_43 : decode cX12_singers 43 = .ok (.iload_n 1, 1) := by decide +kernel
theorem dX12_singers_44 : decode cX12_singers 44 = .ok (.iaload, 1) := by decide +kernel
theorem dX12_singers_45 : decode cX12_singers 45 = .ok (.iload_n 2, 1) := by decide +kernel
theorem dX12_singers_46 : decode cX12_singers 46 = .ok (.if_icmp .eq 6, 3) := by decide +kernel
theorem dX12_singers_49 : decode cX12_singers 49 = .ok (.bipush (-13), 2) := by decide +kernel
theorem dX12_singers_51 : decode cX12_singers 51 = .ok (.ireturn, 1) := by decide +kernel
theorem dX12_singers_52 : decode cX12_singers 52 = .ok (.aload_n 0, 1) := by decide +kernel
theorem dX12_singers_53 : decode cX12_singers 53 = .ok (.getfield 109, 3) := by decide +kernel
theorem dX12_singers_56 : decode cX12_singers 56 = .ok (.iload_n 1, 1) := by decide +kernel
theorem dX12_singers_57 : decode cX12_singers 57 = .ok (.iaload, 1) := by decide +kernel
theorem dX12_singers_58 : decode cX12_singers 58 = .ok (.ifCond .ge 6, 3) := by decide +kernel
theorem dX12_singers_61 : decode cX12_singers 61 = .ok (.bipush (-11), 2) := by decide +kernel
theorem dX12_singers_63 : decode cX12_singers 63 = .ok (.ireturn, 1) := by decide +kernel
theorem dX12_singers_64 : decode cX12_singers 64 = .ok (.iconst 0, 1) := by decide +kernel
theorem dX12_singers_65 : decode cX12_singers 65 = .ok (.istore 5, 2) := by decide +kernel
theorem dX12_singers_67 : decode cX12_singers 67 = .ok (.iconst 0, 1) := by decide +kernel
theorem dX12_singers_68 : decode cX12_singers 68 = .ok (.istore 6, 2) := by decide +kernel
theorem dX12_singers_70 : decode cX12_singers 70 = .ok (.iload 6, 2) := by decide +kernel
theorem dX12_singers_72 : decode cX12_singers 72 = .ok (.iload 4, 2) := by decide +kernel
theorem dX12_singers_74 : decode cX12_singers 74 = .ok (.if_icmp .ge 91, 3) := by decide +kernel
theorem dX12_singers_77 : decode cX12_singers 77 = .ok (.iload_n 3, 1) := by decide +kernel
theorem dX12_singers_78 : decode cX12_singers 78 = .ok (.i2l, 1) := by decide +kernel
theorem dX12_singers_79 : decode cX12_singers 79 = .ok (.iconst 3, 1) := by decide +kernel
theorem dX12_singers_80 : decode cX12_singers 80 = .ok (.iload 6, 2) := by decide +kernel
theorem dX12_singers_82 : decode cX12_singers 82 = .ok (.imul, 1) := by decide +kernel
theorem dX12_singers_83 : decode cX12_singers 83 = .ok (.i2l, 1) := by decide +kernel
theorem dX12_singers_84 : decode cX12_singers 84 = .ok (.ladd, 1) := by decide +kernel
theorem dX12_singers_85 : decode cX12_singers 85 = .ok (.lstore 7, 2) := by decide +kernel
theorem dX12_singers_87 : decode cX12_singers 87 = .ok (.lload 7, 2) := by decide +kernel
theorem dX12_singers_89 : decode cX12_singers 89 = .ok (.lconst 0, 1) := by decide +kernel
theorem dX12_singers_90 : decode cX12_singers 90 = .ok (.lcmp, 1) := by decide +kernel
theorem dX12_singers_91 : decode cX12_singers 91 = .ok (.ifCond .lt 20, 3) := by decide +kernel
theorem dX12_singers_94 : decode cX12_singers 94 = .ok (.lload 7, 2) := by decide +kernel
theorem dX12_singers_96 : decode cX12_singers 96 = .ok (.ldc2_w 324, 3) := by decide +kernel
theorem dX12_singers_99 : decode cX12_singers 99 = .ok (.ladd, 1) := by decide +kernel
theorem dX12_singers_100 : decode cX12_singers 100 = .ok (.aload_n 0, 1) := by decide +kernel
theorem dX12_singers_101 : decode cX12_singers 101 = .ok (.getfield 112, 3) := by decide +kernel
theorem dX12_singers_104 : decode cX12_singers 104 = .ok (.iload_n 1, 1) := by decide +kernel
theorem dX12_singers_105 : decode cX12_singers 105 = .ok (.iaload, 1) := by decide +kernel
theorem dX12_singers_106 : decode cX12_singers 106 = .ok (.i2l, 1) := by decide +kernel
theorem dX12_singers_107 : decode cX12_singers 107 = .ok (.lcmp, 1) := by decide +kernel
theorem dX12_singers_108 : decode cX12_singers 108 = .ok (.ifCond .lt 6, 3) := by decide +kernel
theorem dX12_singers_111 : decode cX12_singers 111 = .ok (.bipush (-12), 2) := by decide +kernel
theorem dX12_singers_113 : decode cX12_singers 113 = .ok (.ireturn, 1) := by decide +kernel
theorem dX12_singers_114 : decode cX12_singers 114 = .ok (.bipush 40, 2) := by decide +kernel
theorem dX12_singers_116 : decode cX12_singers 116 = .ok (.iload_n 1, 1) := by decide +kernel
theorem dX12_singers_117 : decode cX12_singers 117 = .ok (.imul, 1) := by decide +kernel
theorem dX12_singers_118 : decode cX12_singers 118 = .ok (.lload 7, 2) := by decide +kernel
theorem dX12_singers_120 : decode cX12_singers 120 = .ok (.l2i, 1) := by decide +kernel
theorem dX12_singers_121 : decode cX12_singers 121 = .ok (.iadd, 1) := by decide +kernel
theorem dX12_singers_122 : decode cX12_singers 122 = .ok (.istore 9, 2) := by decide +kernel
theorem dX12_singers_124 : decode cX12_singers 124 = .ok (.aload_n 0, 1) := by decide +kernel
theorem dX12_singers_125 : decode cX12_singers 125 = .ok (.aload_n 0, 1) := by decide +kernel
theorem dX12_singers_126 : decode cX12_singers 126 = .ok (.getfield 115, 3) := by decide +kernel
theorem dX12_singers_129 : decode cX12_singers 129 = .ok (.iload 9, 2) := by decide +kernel
theorem dX12_singers_131 : decode cX12_singers 131 = .ok (.iaload, 1) := by decide +kernel
theorem dX12_singers_132 : decode cX12_singers 132 = .ok (.aload_n 0, 1) := by decide +kernel
theorem dX12_singers_133 : decode cX12_singers 133 = .ok (.getfield 115, 3) := by decide +kernel
theorem dX12_singers_136 : decode cX12_singers 136 = .ok (.iload 9, 2) := by decide +kernel
theorem dX12_singers_138 : decode cX12_singers 138 = .ok (.iconst 1, 1) := by decide +kernel
theorem dX12_singers_139 : decode cX12_singers 139 = .ok (.iadd, 1) := by decide +kernel
theorem dX12_singers_140 : decode cX12_singers 140 = .ok (.iaload, 1) := by decide +kernel
theorem dX12_singers_141 : decode cX12_singers 141 = .ok (.aload_n 0, 1) := by decide +kernel
theorem dX12_singers_142 : decode cX12_singers 142 = .ok (.getfield 115, 3) := by decide +kernel
theorem dX12_singers_145 : decode cX12_singers 145 = .ok (.iload 9, 2) := by decide +kernel
theorem dX12_singers_147 : decode cX12_singers 147 = .ok (.iconst 2, 1) := by decide +kernel
theorem dX12_singers_148 : decode cX12_singers 148 = .ok (.iadd, 1) := by decide +kernel
theorem dX12_singers_149 : decode cX12_singers 149 = .ok (.iaload, 1) := by decide +kernel
theorem dX12_singers_150 : decode cX12_singers 150 = .ok (.invokevirtual 326, 3) := by decide +kernel
theorem dX12_singers_153 : decode cX12_singers 153 = .ok (.ifCond .lt 6, 3) := by decide +kernel
theorem dX12_singers_156 : decode cX12_singers 156 = .ok (.iinc 5 1, 3) := by decide +kernel
theorem dX12_singers_159 : decode cX12_singers 159 = .ok (.iinc 6 1, 3) := by decide +kernel
theorem dX12_singers_162 : decode cX12_singers 162 = .ok (.goto (-92), 3) := by decide +kernel
theorem dX12_singers_165 : decode cX12_singers 165 = .ok (.iload 5, 2) := by decide +kernel
theorem dX12_singers_167 : decode cX12_singers 167 = .ok (.ireturn, 1) := by decide +kernel
theorem dX12_isUnder_0 : decode cX12_isUnder 0 = .ok (.iload_n 1, 1) := by decide +kernel
theorem dX12_isUnder_1 : decode cX12_isUnder 1 = .ok (.ifCond .eq 28, 3) := by decide +kernel
theorem dX12_isUnder_4 : decode cX12_isUnder 4 = .ok (.iload_n 0, 1) := by decide +kernel
theorem dX12_isUnder_5 : decode cX12_isUnder 5 = .ok (.iload_n 1, 1) := by decide +kernel
theorem dX12_isUnder_6 : decode cX12_isUnder 6 = .ok (.if_icmp .eq 23, 3) := by decide +kernel
theorem dX12_isUnder_9 : decode cX12_isUnder 9 = .ok (.iload_n 1, 1) := by decide +kernel
theorem dX12_isUnder_10 : decode cX12_isUnder 10 = .ok (.iconst 2, 1) := by decide +kernel
theorem dX12_isUnder_11 : decode cX12_isUnder 11 = .ok (.if_icmp .ne 8, 3) := by decide +kernel
theorem dX12_isUnder_14 : decode cX12_isUnder 14 = .ok (.iload_n 0, 1) := by decide +kernel
theorem dX12_isUnder_15 : decode cX12_isUnder 15 = .ok (.iconst 3, 1) := by decide +kernel
theorem dX12_isUnder_16 : decode cX12_isUnder 16 = .ok (.if_icmp .eq 13, 3) := by decide +kernel
theorem dX12_isUnder_19 : decode cX12_isUnder 19 = .ok (.iload_n 1, 1) := by decide +kernel
theorem dX12_isUnder_20 : decode cX12_isUnder 20 = .ok (.iconst 1, 1) := by decide +kernel
theorem dX12_isUnder_21 : decode cX12_isUnder 21 = .ok (.if_icmp .ne 12, 3) := by decide +kernel
theorem dX12_isUnder_24 : decode cX12_isUnder 24 = .ok (.iload_n 0, 1) := by decide +kernel
theorem dX12_isUnder_25 : decode cX12_isUnder 25 = .ok (.iconst 4, 1) := by decide +kernel
theorem dX12_isUnder_26 : decode cX12_isUnder 26 = .ok (.if_icmp .ne 7, 3) := by decide +kernel
theorem dX12_isUnder_29 : decode cX12_isUnder 29 = .ok (.iconst 1, 1) := by decide +kernel
theorem dX12_isUnder_30 : decode cX12_isUnder 30 = .ok (.goto 4, 3) := by decide +kernel
theorem dX12_isUnder_33 : decode cX12_isUnder 33 = .ok (.iconst 0, 1) := by decide +kernel
theorem dX12_isUnder_34 : decode cX12_isUnder 34 = .ok (.ireturn, 1) := by decide +kernel
theorem dX12_taken_0 : decode cX12_taken 0 = .ok (.iload_n 2, 1) := by decide +kernel
theorem dX12_taken_1 : decode cX12_taken 1 = .ok (.iconst 0, 1) := by decide +kernel
theorem dX12_taken_2 : decode cX12_taken 2 = .ok (.iconst 5, 1) := by decide +kernel
theorem dX12_taken_3 : decode cX12_taken 3 = .ok (.invokestatic 127, 3) := by decide +kernel
theorem dX12_taken_6 : decode cX12_taken 6 = .ok (.ifCond .ne 6, 3) := by decide +kernel
theorem dX12_taken_9 : decode cX12_taken 9 = .ok (.bipush (-2), 2) := by decide +kernel
theorem dX12_taken_11 : decode cX12_taken 11 = .ok (.ireturn, 1) := by decide +kernel
theorem dX12_taken_12 : decode cX12_taken 12 = .ok (.aload_n 0, 1) := by decide +kernel
theorem dX12_taken_13 : decode cX12_taken 13 = .ok (.iload_n 1, 1) := by decide +kernel
theorem dX12_taken_14 : decode cX12_taken 14 = .ok (.invokevirtual 134, 3) := by decide +kernel
theorem dX12_taken_17 : decode cX12_taken 17 = .ok (.ifCond .ne 6, 3) := by decide +kernel
theorem dX12_taken_20 : decode cX12_taken 20 = .ok (.bipush (-11), 2) := by decide +kernel
theorem dX12_taken_22 : decode cX12_taken 22 = .ok (.ireturn, 1) := by decide +kernel
theorem dX12_taken_23 : decode cX12_taken 23 = .ok (.aload_n 0, 1) := by decide +kernel
theorem dX12_taken_24 : decode cX12_taken 24 = .ok (.getfield 26, 3) := by decide +kernel
theorem dX12_taken_27 : decode cX12_taken 27 = .ok (.iload_n 1, 1) := by decide +kernel
theorem dX12_taken_28 : decode cX12_taken 28 = .ok (.iaload, 1) := by decide +kernel
theorem dX12_taken_29 : decode cX12_taken 29 = .ok (.iload_n 2, 1) := by decide +kernel
theorem dX12_taken_30 : decode cX12_taken 30 = .ok (.invokestatic 329, 3) := by decide +kernel
theorem dX12_taken_33 : decode cX12_taken 33 = .ok (.ifCond .eq 12, 3) := by decide +kernel
theorem dX12_taken_36 : decode cX12_taken 36 = .ok (.aload_n 0, 1) := by decide +kernel
theorem dX12_taken_37 : decode cX12_taken 37 = .ok (.getfield 35, 3) := by decide +kernel
theorem dX12_taken_40 : decode cX12_taken 40 = .ok (.iload_n 1, 1) := by decide +kernel
theorem dX12_taken_41 : decode cX12_taken 41 = .ok (.iaload, 1) := by decide +kernel
theorem dX12_taken_42 : decode cX12_taken 42 = .ok (.goto 5, 3) := by decide +kernel
theorem dX12_taken_45 : decode cX12_taken 45 = .ok (.bipush (-13), 2) := by decide +kernel
theorem dX12_taken_47 : decode cX12_taken 47 = .ok (.ireturn, 1) := by decide +kernel
theorem dJ11_isValidCodePoint_9a6ad_0 : decode cJ11_isValidCodePoint_9a6ad 0 = .ok (.iload_n 0, 1) := by decide +kernel
theorem dJ11_isValidCodePoint_9a6ad_1 : decode cJ11_isValidCodePoint_9a6ad 1 = .ok (.bipush 16, 2) := by decide +kernel
theorem dJ11_isValidCodePoint_9a6ad_3 : decode cJ11_isValidCodePoint_9a6ad 3 = .ok (.iushr, 1) := by decide +kernel
theorem dJ11_isValidCodePoint_9a6ad_4 : decode cJ11_isValidCodePoint_9a6ad 4 = .ok (.istore_n 1, 1) := by decide +kernel
theorem dJ11_isValidCodePoint_9a6ad_5 : decode cJ11_isValidCodePoint_9a6ad 5 = .ok (.iload_n 1, 1) := by decide +kernel
theorem dJ11_isValidCodePoint_9a6ad_6 : decode cJ11_isValidCodePoint_9a6ad 6 = .ok (.bipush 17, 2) := by decide +kernel
theorem dJ11_isValidCodePoint_9a6ad_8 : decode cJ11_isValidCodePoint_9a6ad 8 = .ok (.if_icmp .ge 7, 3) := by decide +kernel
theorem dJ11_isValidCodePoint_9a6ad_11 : decode cJ11_isValidCodePoint_9a6ad 11 = .ok (.iconst 1, 1) := by decide +kernel
theorem dJ11_isValidCodePoint_9a6ad_12 : decode cJ11_isValidCodePoint_9a6ad 12 = .ok (.goto 4, 3) := by decide +kernel
theorem dJ11_isValidCodePoint_9a6ad_15 : decode cJ11_isValidCodePoint_9a6ad 15 = .ok (.iconst 0, 1) := by decide +kernel
theorem dJ11_isValidCodePoint_9a6ad_16 : decode cJ11_isValidCodePoint_9a6ad 16 = .ok (.ireturn, 1) := by decide +kernel
theorem dJ11_highSurrogate_5068e_0 : decode cJ11_highSurrogate_5068e 0 = .ok (.iload_n 0, 1) := by decide +kernel
theorem dJ11_highSurrogate_5068e_1 : decode cJ11_highSurrogate_5068e 1 = .ok (.bipush 10, 2) := by decide +kernel
theorem dJ11_highSurrogate_5068e_3 : decode cJ11_highSurrogate_5068e 3 = .ok (.iushr, 1) := by decide +kernel
theorem dJ11_highSurrogate_5068e_4 : decode cJ11_highSurrogate_5068e 4 = .ok (.ldc 110, 2) := by decide +kernel
theorem dJ11_highSurrogate_5068e_6 : decode cJ11_highSurrogate_5068e 6 = .ok (.iadd, 1) := by decide +kernel
theorem dJ11_highSurrogate_5068e_7 : decode cJ11_highSurrogate_5068e 7 = .ok (.i2c, 1) := by decide +kernel
theorem dJ11_highSurrogate_5068e_8 : decode cJ11_highSurrogate_5068e 8 = .ok (.ireturn, 1) := by decide +kernel
theorem dJ11_lowSurrogate_5068e_0 : decode cJ11_lowSurrogate_5068e 0 = .ok (.iload_n 0, 1) := by decide +kernel
theorem dJ11_lowSurrogate_5068e_1 : decode cJ11_lowSurrogate_5068e 1 = .ok (.sipush 1023, 3) := by decide +kernel
theorem dJ11_lowSurrogate_5068e_4 : decode cJ11_lowSurrogate_5068e 4 = .ok (.iand, 1) := by decide +kernel
theorem dJ11_lowSurrogate_5068e_5 : decode cJ11_lowSurrogate_5068e 5 = .ok (.ldc 76, 2) := by decide +kernel
theorem dJ11_lowSurrogate_5068e_7 : decode cJ11_lowSurrogate_5068e 7 = .ok (.iadd, 1) := by decide +kernel
theorem dJ11_lowSurrogate_5068e_8 : decode cJ11_lowSurrogate_5068e 8 = .ok (.i2c, 1) := by decide +kernel
theorem dJ11_lowSurrogate_5068e_9 : decode cJ11_lowSurrogate_5068e 9 = .ok (.ireturn, 1) := by decide +kernel
theorem dJ6_bitCount_0f7a4_0 : decode cJ6_bitCount_0f7a4 0 = .ok (.iload_n 0, 1) := by decide +kernel
theorem dJ6_bitCount_0f7a4_1 : decode cJ6_bitCount_0f7a4 1 = .ok (.iload_n 0, 1) := by decide +kernel
theorem dJ6_bitCount_0f7a4_2 : decode cJ6_bitCount_0f7a4 2 = .ok (.iconst 1, 1) := by decide +kernel
theorem dJ6_bitCount_0f7a4_3 : decode cJ6_bitCount_0f7a4 3 = .ok (.iushr, 1) := by decide +kernel
theorem dJ6_bitCount_0f7a4_4 : decode cJ6_bitCount_0f7a4 4 = .ok (.ldc_w 265, 3) := by decide +kernel
theorem dJ6_bitCount_0f7a4_7 : decode cJ6_bitCount_0f7a4 7 = .ok (.iand, 1) := by decide +kernel
theorem dJ6_bitCount_0f7a4_8 : decode cJ6_bitCount_0f7a4 8 = .ok (.isub, 1) := by decide +kernel
theorem dJ6_bitCount_0f7a4_9 : decode cJ6_bitCount_0f7a4 9 = .ok (.istore_n 0, 1) := by decide +kernel
theorem dJ6_bitCount_0f7a4_10 : decode cJ6_bitCount_0f7a4 10 = .ok (.iload_n 0, 1) := by decide +kernel
theorem dJ6_bitCount_0f7a4_11 : decode cJ6_bitCount_0f7a4 11 = .ok (.ldc_w 266, 3) := by decide +kernel
theorem dJ6_bitCount_0f7a4_14 : decode cJ6_bitCount_0f7a4 14 = .ok (.iand, 1) := by decide +kernel
theorem dJ6_bitCount_0f7a4_15 : decode cJ6_bitCount_0f7a4 15 = .ok (.iload_n 0, 1) := by decide +kernel
theorem dJ6_bitCount_0f7a4_16 : decode cJ6_bitCount_0f7a4 16 = .ok (.iconst 2, 1) := by decide +kernel
theorem dJ6_bitCount_0f7a4_17 : decode cJ6_bitCount_0f7a4 17 = .ok (.iushr, 1) := by decide +kernel
theorem dJ6_bitCount_0f7a4_18 : decode cJ6_bitCount_0f7a4 18 = .ok (.ldc_w 266, 3) := by decide +kernel
theorem dJ6_bitCount_0f7a4_21 : decode cJ6_bitCount_0f7a4 21 = .ok (.iand, 1) := by decide +kernel
theorem dJ6_bitCount_0f7a4_22 : decode cJ6_bitCount_0f7a4 22 = .ok (.iadd, 1) := by decide +kernel
theorem dJ6_bitCount_0f7a4_23 : decode cJ6_bitCount_0f7a4 23 = .ok (.istore_n 0, 1) := by decide +kernel
theorem dJ6_bitCount_0f7a4_24 : decode cJ6_bitCount_0f7a4 24 = .ok (.iload_n 0, 1) := by decide +kernel
theorem dJ6_bitCount_0f7a4_25 : decode cJ6_bitCount_0f7a4 25 = .ok (.iload_n 0, 1) := by decide +kernel
theorem dJ6_bitCount_0f7a4_26 : decode cJ6_bitCount_0f7a4 26 = .ok (.iconst 4, 1) := by decide +kernel
theorem dJ6_bitCount_0f7a4_27 : decode cJ6_bitCount_0f7a4 27 = .ok (.iushr, 1) := by decide +kernel
theorem dJ6_bitCount_0f7a4_28 : decode cJ6_bitCount_0f7a4 28 = .ok (.iadd, 1) := by decide +kernel
theorem dJ6_bitCount_0f7a4_29 : decode cJ6_bitCount_0f7a4 29 = .ok (.ldc_w 267, 3) := by decide +kernel
theorem dJ6_bitCount_0f7a4_32 : decode cJ6_bitCount_0f7a4 32 = .ok (.iand, 1) := by decide +kernel
theorem dJ6_bitCount_0f7a4_33 : decode cJ6_bitCount_0f7a4 33 = .ok (.istore_n 0, 1) := by decide +kernel
theorem dJ6_bitCount_0f7a4_34 : decode cJ6_bitCount_0f7a4 34 = .ok (.iload_n 0, 1) := by decide +kernel
theorem dJ6_bitCount_0f7a4_35 : decode cJ6_bitCount_0f7a4 35 = .ok (.iload_n 0, 1) := by decide +kernel
theorem dJ6_bitCount_0f7a4_36 : decode cJ6_bitCount_0f7a4 36 = .ok (.bipush 8, 2) := by decide +kernel
theorem dJ6_bitCount_0f7a4_38 : decode cJ6_bitCount_0f7a4 38 = .ok (.iushr, 1) := by decide +kernel
theorem dJ6_bitCount_0f7a4_39 : decode cJ6_bitCount_0f7a4 39 = .ok (.iadd, 1) := by decide +kernel
theorem dJ6_bitCount_0f7a4_40 : decode cJ6_bitCount_0f7a4 40 = .ok (.istore_n 0, 1) := by decide +kernel
theorem dJ6_bitCount_0f7a4_41 : decode cJ6_bitCount_0f7a4 41 = .ok (.iload_n 0, 1) := by decide +kernel
theorem dJ6_bitCount_0f7a4_42 : decode cJ6_bitCount_0f7a4 42 = .ok (.iload_n 0, 1) := by decide +kernel
theorem dJ6_bitCount_0f7a4_43 : decode cJ6_bitCount_0f7a4 43 = .ok (.bipush 16, 2) := by decide +kernel
theorem dJ6_bitCount_0f7a4_45 : decode cJ6_bitCount_0f7a4 45 = .ok (.iushr, 1) := by decide +kernel
theorem dJ6_bitCount_0f7a4_46 : decode cJ6_bitCount_0f7a4 46 = .ok (.iadd, 1) := by decide +kernel
theorem dJ6_bitCount_0f7a4_47 : decode cJ6_bitCount_0f7a4 47 = .ok (.istore_n 0, 1) := by decide +kernel
theorem dJ6_bitCount_0f7a4_48 : decode cJ6_bitCount_0f7a4 48 = .ok (.iload_n 0, 1) := by decide +kernel
theorem dJ6_bitCount_0f7a4_49 : decode cJ6_bitCount_0f7a4 49 = .ok (.bipush 63, 2) := by decide +kernel
theorem dJ6_bitCount_0f7a4_51 : decode cJ6_bitCount_0f7a4 51 = .ok (.iand, 1) := by decide +kernel
theorem dJ6_bitCount_0f7a4_52 : decode cJ6_bitCount_0f7a4 52 = .ok (.ireturn, 1) := by decide +kernel
theorem dJ9_max_7cf53_0 : decode cJ9_max_7cf53 0 = .ok (.iload_n 0, 1) := by decide +kernel
theorem dJ9_max_7cf53_1 : decode cJ9_max_7cf53 1 = .ok (.iload_n 1, 1) := by decide +kernel
theorem dJ9_max_7cf53_2 : decode cJ9_max_7cf53 2 = .ok (.if_icmp .lt 7, 3) := by decide +kernel
theorem dJ9_max_7cf53_5 : decode cJ9_max_7cf53 5 = .ok (.iload_n 0, 1) := by decide +kernel
theorem dJ9_max_7cf53_6 : decode cJ9_max_7cf53 6 = .ok (.goto 4, 3) := by decide +kernel
theorem dJ9_max_7cf53_9 : decode cJ9_max_7cf53 9 = .ok (.iload_n 1, 1) := by decide +kernel
theorem dJ9_max_7cf53_10 : decode cJ9_max_7cf53 10 = .ok (.ireturn, 1) := by decide +kernel
theorem dJ9_min_7cf53_0 : decode cJ9_min_7cf53 0 = .ok (.iload_n 0, 1) := by decide +kernel
theorem dJ9_min_7cf53_1 : decode cJ9_min_7cf53 1 = .ok (.iload_n 1, 1) := by decide +kernel
theorem dJ9_min_7cf53_2 : decode cJ9_min_7cf53 2 = .ok (.if_icmp .gt 7, 3) := by decide +kernel
theorem dJ9_min_7cf53_5 : decode cJ9_min_7cf53 5 = .ok (.iload_n 0, 1) := by decide +kernel
theorem dJ9_min_7cf53_6 : decode cJ9_min_7cf53 6 = .ok (.goto 4, 3) := by decide +kernel
theorem dJ9_min_7cf53_9 : decode cJ9_min_7cf53 9 = .ok (.iload_n 1, 1) := by decide +kernel
theorem dJ9_min_7cf53_10 : decode cJ9_min_7cf53 10 = .ok (.ireturn, 1) := by decide +kernel
theorem dJ0_length_8abf5_0 : decode cJ0_length_8abf5 0 = .ok (.aload_n 0, 1) := by decide +kernel
theorem dJ0_length_8abf5_1 : decode cJ0_length_8abf5 1 = .ok (.getfield 9, 3) := by decide +kernel
theorem dJ0_length_8abf5_4 : decode cJ0_length_8abf5 4 = .ok (.arraylength, 1) := by decide +kernel
theorem dJ0_length_8abf5_5 : decode cJ0_length_8abf5 5 = .ok (.aload_n 0, 1) := by decide +kernel
theorem dJ0_length_8abf5_6 : decode cJ0_length_8abf5 6 = .ok (.invokevirtual 335, 3) := by decide +kernel
theorem dJ0_length_8abf5_9 : decode cJ0_length_8abf5 9 = .ok (.ishr, 1) := by decide +kernel
theorem dJ0_length_8abf5_10 : decode cJ0_length_8abf5 10 = .ok (.ireturn, 1) := by decide +kernel
theorem dJ0_charAt_5068e_0 : decode cJ0_charAt_5068e 0 = .ok (.aload_n 0, 1) := by decide +kernel
theorem dJ0_charAt_5068e_1 : decode cJ0_charAt_5068e 1 = .ok (.invokevirtual 492, 3) := by decide +kernel
theorem dJ0_charAt_5068e_4 : decode cJ0_charAt_5068e 4 = .ok (.ifCond .eq 12, 3) := by decide +kernel
theorem dJ0_charAt_5068e_7 : decode cJ0_charAt_5068e 7 = .ok (.aload_n 0, 1) := by decide +kernel
theorem dJ0_charAt_5068e_8 : decode cJ0_charAt_5068e 8 = .ok (.getfield 9, 3) := by decide +kernel
theorem dJ0_charAt_5068e_11 : decode cJ0_charAt_5068e 11 = .ok (.iload_n 1, 1) := by decide +kernel
theorem dJ0_charAt_5068e_12 : decode cJ0_charAt_5068e 12 = .ok (.invokestatic 495, 3) := by decide +kernel
theorem dJ0_charAt_5068e_15 : decode cJ0_charAt_5068e 15 = .ok (.ireturn, 1) := by decide +kernel
theorem dJ0_charAt_5068e_16 : decode cJ0_charAt_5068e 16 = .ok (.aload_n 0, 1) := by decide +kernel
theorem dJ0_charAt_5068e_17 : decode cJ0_charAt_5068e 17 = .ok (.getfield 9, 3) := by decide +kernel
theorem dJ0_charAt_5068e_20 : decode cJ0_charAt_5068e 20 = .ok (.iload_n 1, 1) := by decide +kernel
theorem dJ0_charAt_5068e_21 : decode cJ0_charAt_5068e 21 = .ok (.invokestatic 498, 3) := by decide +kernel
theorem dJ0_charAt_5068e_24 : decode cJ0_charAt_5068e 24 = .ok (.ireturn, 1) := by decide +kernel
theorem dJ0_indexOf_0f7a4_0 : decode cJ0_indexOf_0f7a4 0 = .ok (.aload_n 0, 1) := by decide +kernel
theorem dJ0_indexOf_0f7a4_1 : decode cJ0_indexOf_0f7a4 1 = .ok (.iload_n 1, 1) := by decide +kernel
theorem dJ0_indexOf_0f7a4_2 : decode cJ0_indexOf_0f7a4 2 = .ok (.iconst 0, 1) := by decide +kernel
theorem dJ0_indexOf_0f7a4_3 : decode cJ0_indexOf_0f7a4 3 = .ok (.invokevirtual 633, 3) := by decide +kernel
theorem dJ0_indexOf_0f7a4_6 : decode cJ0_indexOf_0f7a4 6 = .ok (.ireturn, 1) := by decide +kernel
theorem dJ0_indexOf_7cf53_0 : decode cJ0_indexOf_7cf53 0 = .ok (.aload_n 0, 1) := by decide +kernel
theorem dJ0_indexOf_7cf53_1 : decode cJ0_indexOf_7cf53 1 = .ok (.invokevirtual 492, 3) := by decide +kernel
theorem dJ0_indexOf_7cf53_4 : decode cJ0_indexOf_7cf53 4 = .ok (.ifCond .eq 19, 3) := by decide +kernel
theorem dJ0_indexOf_7cf53_7 : decode cJ0_indexOf_7cf53 7 = .ok (.aload_n 0, 1) := by decide +kernel
theorem dJ0_indexOf_7cf53_8 : decode cJ0_indexOf_7cf53 8 = .ok (.getfield 9, 3) := by decide +kernel
theorem dJ0_indexOf_7cf53_11 : decode cJ0_indexOf_7cf53 11 = .ok (.iload_n 1, 1) := by decide +kernel
theorem dJ0_indexOf_7cf53_12 : decode cJ0_indexOf_7cf53 12 = .ok (.iload_n 2, 1) := by decide +kernel
theorem dJ0_indexOf_7cf53_13 : decode cJ0_indexOf_7cf53 13 = .ok (.aload_n 0, 1) := by decide +kernel
theorem dJ0_indexOf_7cf53_14 : decode cJ0_indexOf_7cf53 14 = .ok (.invokevirtual 505, 3) := by decide +kernel
theorem dJ0_indexOf_7cf53_17 : decode cJ0_indexOf_7cf53 17 = .ok (.invokestatic 637, 3) := by decide +kernel
theorem dJ0_indexOf_7cf53_20 : decode cJ0_indexOf_7cf53 20 = .ok (.goto 16, 3) := by decide +kernel
theorem dJ0_indexOf_7cf53_23 : decode cJ0_indexOf_7cf53 23 = .ok (.aload_n 0, 1) := by decide +kernel
theorem dJ0_indexOf_7cf53_24 : decode cJ0_indexOf_7cf53 24 = .ok (.getfield 9, 3) := by decide +kernel
theorem dJ0_indexOf_7cf53_27 : decode cJ0_indexOf_7cf53 27 = .ok (.iload_n 1, 1) := by decide +kernel
theorem dJ0_indexOf_7cf53_28 : decode cJ0_indexOf_7cf53 28 = .ok (.iload_n 2, 1) := by decide +kernel
theorem dJ0_indexOf_7cf53_29 : decode cJ0_indexOf_7cf53 29 = .ok (.aload_n 0, 1) := by decide +kernel
theorem dJ0_indexOf_7cf53_30 : decode cJ0_indexOf_7cf53 30 = .ok (.invokevirtual 505, 3) := by decide +kernel
theorem dJ0_indexOf_7cf53_33 : decode cJ0_indexOf_7cf53 33 = .ok (.invokestatic 640, 3) := by decide +kernel
theorem dJ0_indexOf_7cf53_36 : decode cJ0_indexOf_7cf53 36 = .ok (.ireturn, 1) := by decide +kernel
theorem dJ0_coder_7d493_0 : decode cJ0_coder_7d493 0 = .ok (.getstatic 38, 3) := by decide +kernel
theorem dJ0_coder_7d493_3 : decode cJ0_coder_7d493 3 = .ok (.ifCond .eq 10, 3) := by decide +kernel
theorem dJ0_coder_7d493_6 : decode cJ0_coder_7d493 6 = .ok (.aload_n 0, 1) := by decide +kernel
theorem dJ0_coder_7d493_7 : decode cJ0_coder_7d493 7 = .ok (.getfield 15, 3) := by decide +kernel
theorem dJ0_coder_7d493_10 : decode cJ0_coder_7d493 10 = .ok (.goto 4, 3) := by decide +kernel
theorem dJ0_coder_7d493_13 : decode cJ0_coder_7d493 13 = .ok (.iconst 1, 1) := by decide +kernel
theorem dJ0_coder_7d493_14 : decode cJ0_coder_7d493 14 = .ok (.ireturn, 1) := by decide +kernel
theorem dJ0_isLatin1_aae02_0 : decode cJ0_isLatin1_aae02 0 = .ok (.getstatic 38, 3) := by decide +kernel
theorem dJ0_isLatin1_aae02_3 : decode cJ0_isLatin1_aae02 3 = .ok (.ifCond .eq 14, 3) := by decide +kernel
theorem dJ0_isLatin1_aae02_6 : decode cJ0_isLatin1_aae02 6 = .ok (.aload_n 0, 1) := by decide +kernel
theorem dJ0_isLatin1_aae02_7 : decode cJ0_isLatin1_aae02 7 = .ok (.getfield 15, 3) := by decide +kernel
theorem dJ0_isLatin1_aae02_10 : decode cJ0_isLatin1_aae02 10 = .ok (.ifCond .ne 7, 3) := by decide +kernel
theorem dJ0_isLatin1_aae02_13 : decode cJ0_isLatin1_aae02 13 = .ok (.iconst 1, 1) := by decide +kernel
theorem dJ0_isLatin1_aae02_14 : decode cJ0_isLatin1_aae02 14 = .ok (.goto 4, 3) := by decide +kernel
theorem dJ0_isLatin1_aae02_17 : decode cJ0_isLatin1_aae02 17 = .ok (.iconst 0, 1) := by decide +kernel
theorem dJ0_isLatin1_aae02_18 : decode cJ0_isLatin1_aae02 18 = .ok (.ireturn, 1) := by decide +kernel
theorem dJ0_checkIndex_df160_0 : decode cJ0_checkIndex_df160 0 = .ok (.iload_n 0, 1) := by decide +kernel
theorem dJ0_checkIndex_df160_1 : decode cJ0_checkIndex_df160 1 = .ok (.iload_n 1, 1) := by decide +kernel
theorem dJ0_checkIndex_df160_2 : decode cJ0_checkIndex_df160 2 = .ok (.getstatic 1053, 3) := by decide +kernel
theorem dJ0_checkIndex_df160_5 : decode cJ0_checkIndex_df160 5 = .ok (.invokestatic 1059, 3) := by decide +kernel
theorem dJ0_checkIndex_df160_8 : decode cJ0_checkIndex_df160 8 = .ok (.pop, 1) := by decide +kernel
theorem dJ0_checkIndex_df160_9 : decode cJ0_checkIndex_df160 9 = .ok (.return_, 1) := by decide +kernel
theorem dJ0_checkBoundsBeginEnd_23922_0 : decode cJ0_checkBoundsBeginEnd_23922 0 = .ok (.iload_n 0, 1) := by decide +kernel
theorem dJ0_checkBoundsBeginEnd_23922_1 : decode cJ0_checkBoundsBeginEnd_23922 1 = .ok (.iload_n 1, 1) := by decide +kernel
theorem dJ0_checkBoundsBeginEnd_23922_2 : decode cJ0_checkBoundsBeginEnd_23922 2 = .ok (.iload_n 2, 1) := by decide +kernel
theorem dJ0_checkBoundsBeginEnd_23922_3 : decode cJ0_checkBoundsBeginEnd_23922 3 = .ok (.getstatic 1053, 3) := by decide +kernel
theorem dJ0_checkBoundsBeginEnd_23922_6 : decode cJ0_checkBoundsBeginEnd_23922 6 = .ok (.invokestatic 1062, 3) := by decide +kernel
theorem dJ0_checkBoundsBeginEnd_23922_9 : decode cJ0_checkBoundsBeginEnd_23922 9 = .ok (.pop, 1) := by decide +kernel
theorem dJ0_checkBoundsBeginEnd_23922_10 : decode cJ0_checkBoundsBeginEnd_23922 10 = .ok (.return_, 1) := by decide +kernel
theorem dJ1_charAt_3b067_0 : decode cJ1_charAt_3b067 0 = .ok (.iload_n 1, 1) := by decide +kernel
theorem dJ1_charAt_3b067_1 : decode cJ1_charAt_3b067 1 = .ok (.aload_n 0, 1) := by decide +kernel
theorem dJ1_charAt_3b067_2 : decode cJ1_charAt_3b067 2 = .ok (.arraylength, 1) := by decide +kernel
theorem dJ1_charAt_3b067_3 : decode cJ1_charAt_3b067 3 = .ok (.invokestatic 9, 3) := by decide +kernel
theorem dJ1_charAt_3b067_6 : decode cJ1_charAt_3b067 6 = .ok (.aload_n 0, 1) := by decide +kernel
theorem dJ1_charAt_3b067_7 : decode cJ1_charAt_3b067 7 = .ok (.iload_n 1, 1) := by decide +kernel
theorem dJ1_charAt_3b067_8 : decode cJ1_charAt_3b067 8 = .ok (.baload, 1) := by decide +kernel
theorem dJ1_charAt_3b067_9 : decode cJ1_charAt_3b067 9 = .ok (.sipush 255, 3) := by decide +kernel
theorem dJ1_charAt_3b067_12 : decode cJ1_charAt_3b067 12 = .ok (.iand, 1) := by decide +kernel
theorem dJ1_charAt_3b067_13 : decode cJ1_charAt_3b067 13 = .ok (.i2c, 1) := by decide +kernel
theorem dJ1_charAt_3b067_14 : decode cJ1_charAt_3b067 14 = .ok (.ireturn, 1) := by decide +kernel
theorem dJ1_canEncode_9a6ad_0 : decode cJ1_canEncode_9a6ad 0 = .ok (.iload_n 0, 1) := by decide +kernel
theorem dJ1_canEncode_9a6ad_1 : decode cJ1_canEncode_9a6ad 1 = .ok (.ifCond .lt 14, 3) := by decide +kernel
theorem dJ1_canEncode_9a6ad_4 : decode cJ1_canEncode_9a6ad 4 = .ok (.iload_n 0, 1) := by decide +kernel
theorem dJ1_canEncode_9a6ad_5 : decode cJ1_canEncode_9a6ad 5 = .ok (.sipush 255, 3) := by decide +kernel
theorem dJ1_canEncode_9a6ad_8 : decode cJ1_canEncode_9a6ad 8 = .ok (.if_icmp .gt 7, 3) := by decide +kernel
theorem dJ1_canEncode_9a6ad_11 : decode cJ1_canEncode_9a6ad 11 = .ok (.iconst 1, 1) := by decide +kernel
theorem dJ1_canEncode_9a6ad_12 : decode cJ1_canEncode_9a6ad 12 = .ok (.goto 4, 3) := by decide +kernel
theorem dJ1_canEncode_9a6ad_15 : decode cJ1_canEncode_9a6ad 15 = .ok (.iconst 0, 1) := by decide +kernel
theorem dJ1_canEncode_9a6ad_16 : decode cJ1_canEncode_9a6ad 16 = .ok (.ireturn, 1) := by decide +kernel
theorem dJ1_indexOf_4cfef_0 : decode cJ1_indexOf_4cfef 0 = .ok (.iload_n 1, 1) := by decide +kernel
theorem dJ1_indexOf_4cfef_1 : decode cJ1_indexOf_4cfef 1 = .ok (.invokestatic 88, 3) := by decide +kernel
theorem dJ1_indexOf_4cfef_4 : decode cJ1_indexOf_4cfef 4 = .ok (.ifCond .ne 5, 3) := by decide +kernel
theorem dJ1_indexOf_4cfef_7 : decode cJ1_indexOf_4cfef 7 = .ok (.iconst (-1), 1) := by decide +kernel
theorem dJ1_indexOf_4cfef_8 : decode cJ1_indexOf_4cfef 8 = .ok (.ireturn, 1) := by decide +kernel
theorem dJ1_indexOf_4cfef_9 : decode cJ1_indexOf_4cfef 9 = .ok (.iload_n 2, 1) := by decide +kernel
theorem dJ1_indexOf_4cfef_10 : decode cJ1_indexOf_4cfef 10 = .ok (.iconst 0, 1) := by decide +kernel
theorem dJ1_indexOf_4cfef_11 : decode cJ1_indexOf_4cfef 11 = .ok (.invokestatic 92, 3) := by decide +kernel
theorem dJ1_indexOf_4cfef_14 : decode cJ1_indexOf_4cfef 14 = .ok (.istore_n 2, 1) := by decide +kernel
theorem dJ1_indexOf_4cfef_15 : decode cJ1_indexOf_4cfef 15 = .ok (.iload_n 3, 1) := by decide +kernel
theorem dJ1_indexOf_4cfef_16 : decode cJ1_indexOf_4cfef 16 = .ok (.aload_n 0, 1) := by decide +kernel
theorem dJ1_indexOf_4cfef_17 : decode cJ1_indexOf_4cfef 17 = .ok (.arraylength, 1) := by decide +kernel
theorem dJ1_indexOf_4cfef_18 : decode cJ1_indexOf_4cfef 18 = .ok (.invokestatic 38, 3) := by decide +kernel
theorem dJ1_indexOf_4cfef_21 : decode cJ1_indexOf_4cfef 21 = .ok (.istore_n 3, 1) := by decide +kernel
theorem dJ1_indexOf_4cfef_22 : decode cJ1_indexOf_4cfef 22 = .ok (.iload_n 2, 1) := by decide +kernel
theorem dJ1_indexOf_4cfef_23 : decode cJ1_indexOf_4cfef 23 = .ok (.iload_n 3, 1) := by decide +kernel
theorem dJ1_indexOf_4cfef_24 : decode cJ1_indexOf_4cfef 24 = .ok (.if_icmp .lt 5, 3) := by decide +kernel
theorem dJ1_indexOf_4cfef_27 : decode cJ1_indexOf_4cfef 27 = .ok (.iconst (-1), 1) := by decide +kernel
theorem dJ1_indexOf_4cfef_28 : decode cJ1_indexOf_4cfef 28 = .ok (.ireturn, 1) := by decide +kernel
theorem dJ1_indexOf_4cfef_29 : decode cJ1_indexOf_4cfef 29 = .ok (.aload_n 0, 1) := by decide +kernel
theorem dJ1_indexOf_4cfef_30 : decode cJ1_indexOf_4cfef 30 = .ok (.iload_n 1, 1) := by decide +kernel
theorem dJ1_indexOf_4cfef_31 : decode cJ1_indexOf_4cfef 31 = .ok (.iload_n 2, 1) := by decide +kernel
theorem dJ1_indexOf_4cfef_32 : decode cJ1_indexOf_4cfef 32 = .ok (.iload_n 3, 1) := by decide +kernel
theorem dJ1_indexOf_4cfef_33 : decode cJ1_indexOf_4cfef 33 = .ok (.invokestatic 95, 3) := by decide +kernel
theorem dJ1_indexOf_4cfef_36 : decode cJ1_indexOf_4cfef 36 = .ok (.ireturn, 1) := by decide +kernel
theorem dJ1_indexOfChar_4cfef_0 : decode cJ1_indexOfChar_4cfef 0 = .ok (.iload_n 1, 1) := by decide +kernel
theorem dJ1_indexOfChar_4cfef_1 : decode cJ1_indexOfChar_4cfef 1 = .ok (.i2b, 1) := by decide +kernel
theorem dJ1_indexOfChar_4cfef_2 : decode cJ1_indexOfChar_4cfef 2 = .ok (.istore 4, 2) := by decide +kernel
theorem dJ1_indexOfChar_4cfef_4 : decode cJ1_indexOfChar_4cfef 4 = .ok (.iload_n 2, 1) := by decide +kernel
theorem dJ1_indexOfChar_4cfef_5 : decode cJ1_indexOfChar_4cfef 5 = .ok (.istore 5, 2) := by decide +kernel
theorem dJ1_indexOfChar_4cfef_7 : decode cJ1_indexOfChar_4cfef 7 = .ok (.iload 5, 2) := by decide +kernel
theorem dJ1_indexOfChar_4cfef_9 : decode cJ1_indexOfChar_4cfef 9 = .ok (.iload_n 3, 1) := by decide +kernel
theorem dJ1_indexOfChar_4cfef_10 : decode cJ1_indexOfChar_4cfef 10 = .ok (.if_icmp .ge 21, 3) := by decide +kernel
theorem dJ1_indexOfChar_4cfef_13 : decode cJ1_indexOfChar_4cfef 13 = .ok (.aload_n 0, 1) := by decide +kernel
theorem dJ1_indexOfChar_4cfef_14 : decode cJ1_indexOfChar_4cfef 14 = .ok (.iload 5, 2) := by decide +kernel
theorem dJ1_indexOfChar_4cfef_16 : decode cJ1_indexOfChar_4cfef 16 = .ok (.baload, 1) := by decide +kernel
theorem dJ1_indexOfChar_4cfef_17 : decode cJ1_indexOfChar_4cfef 17 = .ok (.iload 4, 2) := by decide +kernel
theorem dJ1_indexOfChar_4cfef_19 : decode cJ1_indexOfChar_4cfef 19 = .ok (.if_icmp .ne 6, 3) := by decide +kernel
theorem dJ1_indexOfChar_4cfef_22 : decode cJ1_indexOfChar_4cfef 22 = .ok (.iload 5, 2) := by decide +kernel
theorem dJ1_indexOfChar_4cfef_24 : decode cJ1_indexOfChar_4cfef 24 = .ok (.ireturn, 1) := by decide +kernel
theorem dJ1_indexOfChar_4cfef_25 : decode cJ1_indexOfChar_4cfef 25 = .ok (.iinc 5 1, 3) := by decide +kernel
theorem dJ1_indexOfChar_4cfef_28 : decode cJ1_indexOfChar_4cfef 28 = .ok (.goto (-21), 3) := by decide +kernel
theorem dJ1_indexOfChar_4cfef_31 : decode cJ1_indexOfChar_4cfef 31 = .ok (.iconst (-1), 1) := by decide +kernel
theorem dJ1_indexOfChar_4cfef_32 : decode cJ1_indexOfChar_4cfef 32 = .ok (.ireturn, 1) := by decide +kernel
theorem dJ2_getChar_3b067_0 : decode cJ2_getChar_3b067 0 = .ok (.getstatic 44, 3) := by decide +kernel
theorem dJ2_getChar_3b067_3 : decode cJ2_getChar_3b067 3 = .ok (.ifCond .ne 25, 3) := by decide +kernel
theorem dJ2_getChar_3b067_6 : decode cJ2_getChar_3b067 6 = .ok (.iload_n 1, 1) := by decide +kernel
theorem dJ2_getChar_3b067_7 : decode cJ2_getChar_3b067 7 = .ok (.ifCond .lt 11, 3) := by decide +kernel
theorem dJ2_getChar_3b067_10 : decode cJ2_getChar_3b067 10 = .ok (.iload_n 1, 1) := by decide +kernel
theorem dJ2_getChar_3b067_11 : decode cJ2_getChar_3b067 11 = .ok (.aload_n 0, 1) := by decide +kernel
theorem dJ2_getChar_3b067_12 : decode cJ2_getChar_3b067 12 = .ok (.invokestatic 48, 3) := by decide +kernel
theorem dJ2_getChar_3b067_15 : decode cJ2_getChar_3b067 15 = .ok (.if_icmp .lt 13, 3) := by decide +kernel
theorem dJ2_getChar_3b067_18 : decode cJ2_getChar_3b067 18 = .ok (.new 52, 3) := by decide +kernel
theorem dJ2_getChar_3b067_21 : decode cJ2_getChar_3b067 21 = .ok (.dup, 1) := by decide +kernel
theorem dJ2_getChar_3b067_22 : decode cJ2_getChar_3b067 22 = .ok (.ldc 54, 2) := by decide +kernel
theorem dJ2_getChar_3b067_24 : decode cJ2_getChar_3b067 24 = .ok (.invokespecial 56, 3) := by decide +kernel
theorem dJ2_getChar_3b067_27 : decode cJ2_getChar_3b067 27 = .ok (.athrow, 1) := by decide +kernel
theorem dJ2_getChar_3b067_28 : decode cJ2_getChar_3b067 28 = .ok (.iload_n 1, 1) := by decide +kernel
theorem dJ2_getChar_3b067_29 : decode cJ2_getChar_3b067 29 = .ok (.iconst 1, 1) := by decide +kernel
theorem dJ2_getChar_3b067_30 : decode cJ2_getChar_3b067 30 = .ok (.ishl, 1) := by decide +kernel
theorem dJ2_getChar_3b067_31 : decode cJ2_getChar_3b067 31 = .ok (.istore_n 1, 1) := by decide +kernel
theorem dJ2_getChar_3b067_32 : decode cJ2_getChar_3b067 32 = .ok (.aload_n 0, 1) := by decide +kernel
theorem dJ2_getChar_3b067_33 : decode cJ2_getChar_3b067 33 = .ok (.iload_n 1, 1) := by decide +kernel
theorem dJ2_getChar_3b067_34 : decode cJ2_getChar_3b067 34 = .ok (.iinc 1 1, 3) := by decide +kernel
theorem dJ2_getChar_3b067_37 : decode cJ2_getChar_3b067 37 = .ok (.baload, 1) := by decide +kernel
theorem dJ2_getChar_3b067_38 : decode cJ2_getChar_3b067 38 = .ok (.sipush 255, 3) := by decide +kernel
theorem dJ2_getChar_3b067_41 : decode cJ2_getChar_3b067 41 = .ok (.iand, 1) := by decide +kernel
theorem dJ2_getChar_3b067_42 : decode cJ2_getChar_3b067 42 = .ok (.getstatic 59, 3) := by decide +kernel
theorem dJ2_getChar_3b067_45 : decode cJ2_getChar_3b067 45 = .ok (.ishl, 1) := by decide +kernel
theorem dJ2_getChar_3b067_46 : decode cJ2_getChar_3b067 46 = .ok (.aload_n 0, 1) := by decide +kernel
theorem dJ2_getChar_3b067_47 : decode cJ2_getChar_3b067 47 = .ok (.iload_n 1, 1) := by decide +kernel
theorem dJ2_getChar_3b067_48 : decode cJ2_getChar_3b067 48 = .ok (.baload, 1) := by decide +kernel
theorem dJ2_getChar_3b067_49 : decode cJ2_getChar_3b067 49 = .ok (.sipush 255, 3) := by decide +kernel
theorem dJ2_getChar_3b067_52 : decode cJ2_getChar_3b067 52 = .ok (.iand, 1) := by decide +kernel
theorem dJ2_getChar_3b067_53 : decode cJ2_getChar_3b067 53 = .ok (.getstatic 63, 3) := by decide +kernel
theorem dJ2_getChar_3b067_56 : decode cJ2_getChar_3b067 56 = .ok (.ishl, 1) := by decide +kernel
