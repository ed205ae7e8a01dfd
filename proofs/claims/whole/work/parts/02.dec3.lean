theorem dX12_feed_7 : decode cX12_feed 7 = .ok (.ifCond .ne 6, 3) := by decide +kernel
theorem dX12_feed_10 : decode cX12_feed 10 = .ok (.bipush (-2), 2) := by decide +kernel
theorem dX12_feed_12 : decode cX12_feed 12 = .ok (.ireturn, 1) := by decide +kernel
theorem dX12_feed_13 : decode cX12_feed 13 = .ok (.aload_n 0, 1) := by decide +kernel
theorem dX12_feed_14 : decode cX12_feed 14 = .ok (.getfield 150, 3) := by decide +kernel
theorem dX12_feed_17 : decode cX12_feed 17 = .ok (.iload_n 1, 1) := by decide +kernel
theorem dX12_feed_18 : decode cX12_feed 18 = .ok (.iadd, 1) := by decide +kernel
theorem dX12_feed_19 : decode cX12_feed 19 = .ok (.sipush 160, 3) := by decide +kernel
theorem dX12_feed_22 : decode cX12_feed 22 = .ok (.if_icmp .le 6, 3) := by decide +kernel
theorem dX12_feed_25 : decode cX12_feed 25 = .ok (.bipush (-4), 2) := by decide +kernel
theorem dX12_feed_27 : decode cX12_feed 27 = .ok (.ireturn, 1) := by decide +kernel
theorem dX12_feed_28 : decode cX12_feed 28 = .ok (.iconst 0, 1) := by decide +kernel
theorem dX12_feed_29 : decode cX12_feed 29 = .ok (.istore 4, 2) := by decide +kernel
theorem dX12_feed_31 : decode cX12_feed 31 = .ok (.iload 4, 2) := by decide +kernel
theorem dX12_feed_33 : decode cX12_feed 33 = .ok (.iload_n 1, 1) := by decide +kernel
theorem dX12_feed_34 : decode cX12_feed 34 = .ok (.if_icmp .ge 37, 3) := by decide +kernel
theorem dX12_feed_37 : decode cX12_feed 37 = .ok (.aload_n 0, 1) := by decide +kernel
theorem dX12_feed_38 : decode cX12_feed 38 = .ok (.getfield 41, 3) := by decide +kernel
theorem dX12_feed_41 : decode cX12_feed 41 = .ok (.aload_n 0, 1) := by decide +kernel
theorem dX12_feed_42 : decode cX12_feed 42 = .ok (.getfield 150, 3) := by decide +kernel
theorem dX12_feed_45 : decode cX12_feed 45 = .ok (.lload_n 2, 1) := by decide +kernel
theorem dX12_feed_46 : decode cX12_feed 46 = .ok (.bipush 8, 2) := by decide +kernel
theorem dX12_feed_48 : decode cX12_feed 48 = .ok (.iload 4, 2) := by decide +kernel
theorem dX12_feed_50 : decode cX12_feed 50 = .ok (.imul, 1) := by decide +kernel
theorem dX12_feed_51 : decode cX12_feed 51 = .ok (.lshr, 1) := by decide +kernel
theorem dX12_feed_52 : decode cX12_feed 52 = .ok (.l2i, 1) := by decide +kernel
theorem dX12_feed_53 : decode cX12_feed 53 = .ok (.i2b, 1) := by decide +kernel
theorem dX12_feed_54 : decode cX12_feed 54 = .ok (.bastore, 1) := by decide +kernel
theorem dX12_feed_55 : decode cX12_feed 55 = .ok (.aload_n 0, 1) := by decide +kernel
theorem dX12_feed_56 : decode cX12_feed 56 = .ok (.dup, 1) := by decide +kernel
theorem dX12_feed_57 : decode cX12_feed 57 = .ok (.getfield 150, 3) := by decide +kernel
theorem dX12_feed_60 : decode cX12_feed 60 = .ok (.iconst 1, 1) := by decide +kernel
theorem dX12_feed_61 : decode cX12_feed 61 = .ok (.iadd, 1) := by decide +kernel
theorem dX12_feed_62 : decode cX12_feed 62 = .ok (.putfield 150, 3) := by decide +kernel
theorem dX12_feed_65 : decode cX12_feed 65 = .ok (.iinc 4 1, 3) := by decide +kernel
theorem dX12_feed_68 : decode cX12_feed 68 = .ok (.goto (-37), 3) := by decide +kernel
theorem dX12_feed_71 : decode cX12_feed 71 = .ok (.aload_n 0, 1) := by decide +kernel
theorem dX12_feed_72 : decode cX12_feed 72 = .ok (.getfield 150, 3) := by decide +kernel
theorem dX12_feed_75 : decode cX12_feed 75 = .ok (.ireturn, 1) := by decide +kernel
theorem dX12_isLetter_0 : decode cX12_isLetter 0 = .ok (.iload_n 0, 1) := by decide +kernel
theorem dX12_isLetter_1 : decode cX12_isLetter 1 = .ok (.bipush 97, 2) := by decide +kernel
theorem dX12_isLetter_3 : decode cX12_isLetter 3 = .ok (.bipush 122, 2) := by decide +kernel
theorem dX12_isLetter_5 : decode cX12_isLetter 5 = .ok (.invokestatic 127, 3) := by decide +kernel
theorem dX12_isLetter_8 : decode cX12_isLetter 8 = .ok (.ireturn, 1) := by decide +kernel
theorem dX12_isDigit_0 : decode cX12_isDigit 0 = .ok (.iload_n 0, 1) := by decide +kernel
theorem dX12_isDigit_1 : decode cX12_isDigit 1 = .ok (.bipush 48, 2) := by decide +kernel
theorem dX12_isDigit_3 : decode cX12_isDigit 3 = .ok (.bipush 57, 2) := by decide +kernel
theorem dX12_isDigit_5 : decode cX12_isDigit 5 = .ok (.invokestatic 127, 3) := by decide +kernel
theorem dX12_isDigit_8 : decode cX12_isDigit 8 = .ok (.ireturn, 1) := by decide +kernel
theorem dX12_wordNow_0 : decode cX12_wordNow 0 = .ok (.iconst 0, 1) := by decide +kernel
theorem dX12_wordNow_1 : decode cX12_wordNow 1 = .ok (.istore_n 1, 1) := by decide +kernel
theorem dX12_wordNow_2 : decode cX12_wordNow 2 = .ok (.iconst 0, 1) := by decide +kernel
theorem dX12_wordNow_3 : decode cX12_wordNow 3 = .ok (.istore_n 2, 1) := by decide +kernel
theorem dX12_wordNow_4 : decode cX12_wordNow 4 = .ok (.iload_n 2, 1) := by decide +kernel
theorem dX12_wordNow_5 : decode cX12_wordNow 5 = .ok (.bipush 12, 2) := by decide +kernel
theorem dX12_wordNow_7 : decode cX12_wordNow 7 = .ok (.if_icmp .ge 86, 3) := by decide +kernel
theorem dX12_wordNow_10 : decode cX12_wordNow 10 = .ok (.aload_n 0, 1) := by decide +kernel
theorem dX12_wordNow_11 : decode cX12_wordNow 11 = .ok (.getfield 153, 3) := by decide +kernel
theorem dX12_wordNow_14 : decode cX12_wordNow 14 = .ok (.istore_n 3, 1) := by decide +kernel
theorem dX12_wordNow_15 : decode cX12_wordNow 15 = .ok (.iconst 1, 1) := by decide +kernel
theorem dX12_wordNow_16 : decode cX12_wordNow 16 = .ok (.istore 4, 2) := by decide +kernel
theorem dX12_wordNow_18 : decode cX12_wordNow 18 = .ok (.aload_n 0, 1) := by decide +kernel
theorem dX12_wordNow_19 : decode cX12_wordNow 19 = .ok (.getfield 63, 3) := by decide +kernel
theorem dX12_wordNow_22 : decode cX12_wordNow 22 = .ok (.iload_n 1, 1) := by decide +kernel
theorem dX12_wordNow_23 : decode cX12_wordNow 23 = .ok (.iaload, 1) := by decide +kernel
theorem dX12_wordNow_24 : decode cX12_wordNow 24 = .ok (.bipush 32, 2) := by decide +kernel
theorem dX12_wordNow_26 : decode cX12_wordNow 26 = .ok (.if_icmp .eq 38, 3) := by decide +kernel
theorem dX12_wordNow_29 : decode cX12_wordNow 29 = .ok (.iload_n 3, 1) := by decide +kernel
theorem dX12_wordNow_30 : decode cX12_wordNow 30 = .ok (.aload_n 0, 1) := by decide +kernel
theorem dX12_wordNow_31 : decode cX12_wordNow 31 = .ok (.getfield 156, 3) := by decide +kernel
theorem dX12_wordNow_34 : decode cX12_wordNow 34 = .ok (.if_icmp .ge 18, 3) := by decide +kernel
theorem dX12_wordNow_37 : decode cX12_wordNow 37 = .ok (.aload_n 0, 1) := by decide +kernel
theorem dX12_wordNow_38 : decode cX12_wordNow 38 = .ok (.getfield 41, 3) := by decide +kernel
theorem dX12_wordNow_41 : decode cX12_wordNow 41 = .ok (.iload_n 3, 1) := by decide +kernel
theorem dX12_wordNow_42 : decode cX12_wordNow 42 = .ok (.baload, 1) := by decide +kernel
theorem dX12_wordNow_43 : decode cX12_wordNow 43 = .ok (.aload_n 0, 1) := by decide +kernel
theorem dX12_wordNow_44 : decode cX12_wordNow 44 = .ok (.getfield 63, 3) := by decide +kernel
theorem dX12_wordNow_47 : decode cX12_wordNow 47 = .ok (.iload_n 1, 1) := by decide +kernel
theorem dX12_wordNow_48 : decode cX12_wordNow 48 = .ok (.iaload, 1) := by decide +kernel
theorem dX12_wordNow_49 : decode cX12_wordNow 49 = .ok (.if_icmp .eq 6, 3) := by decide +kernel
theorem dX12_wordNow_52 : decode cX12_wordNow 52 = .ok (.iconst 0, 1) := by decide +kernel
theorem dX12_wordNow_53 : decode cX12_wordNow 53 = .ok (.istore 4, 2) := by decide +kernel
theorem dX12_wordNow_55 : decode cX12_wordNow 55 = .ok (.iinc 3 1, 3) := by decide +kernel
theorem dX12_wordNow_58 : decode cX12_wordNow 58 = .ok (.iinc 1 1, 3) := by decide +kernel
theorem dX12_wordNow_61 : decode cX12_wordNow 61 = .ok (.goto (-43), 3) := by decide +kernel
theorem dX12_wordNow_64 : decode cX12_wordNow 64 = .ok (.iinc 1 1, 3) := by decide +kernel
theorem dX12_wordNow_67 : decode cX12_wordNow 67 = .ok (.iload 4, 2) := by decide +kernel
theorem dX12_wordNow_69 : decode cX12_wordNow 69 = .ok (.ifCond .eq 18, 3) := by decide +kernel
theorem dX12_wordNow_72 : decode cX12_wordNow 72 = .ok (.iload_n 3, 1) := by decide +kernel
theorem dX12_wordNow_73 : decode cX12_wordNow 73 = .ok (.aload_n 0, 1) := by decide +kernel
theorem dX12_wordNow_74 : decode cX12_wordNow 74 = .ok (.getfield 156, 3) := by decide +kernel
theorem dX12_wordNow_77 : decode cX12_wordNow 77 = .ok (.if_icmp .ne 10, 3) := by decide +kernel
theorem dX12_wordNow_80 : decode cX12_wordNow 80 = .ok (.aload_n 0, 1) := by decide +kernel
theorem dX12_wordNow_81 : decode cX12_wordNow 81 = .ok (.getfield 66, 3) := by decide +kernel
theorem dX12_wordNow_84 : decode cX12_wordNow 84 = .ok (.iload_n 2, 1) := by decide +kernel
theorem dX12_wordNow_85 : decode cX12_wordNow 85 = .ok (.iaload, 1) := by decide +kernel
theorem dX12_wordNow_86 : decode cX12_wordNow 86 = .ok (.ireturn, 1) := by decide +kernel
theorem dX12_wordNow_87 : decode cX12_wordNow 87 = .ok (.iinc 2 1, 3) := by decide +kernel
theorem dX12_wordNow_90 : decode cX12_wordNow 90 = .ok (.goto (-86), 3) := by decide +kernel
theorem dX12_wordNow_93 : decode cX12_wordNow 93 = .ok (.iconst (-1), 1) := by decide +kernel
theorem dX12_wordNow_94 : decode cX12_wordNow 94 = .ok (.ireturn, 1) := by decide +kernel
theorem dX12_next_0 : decode cX12_next 0 = .ok (.aload_n 0, 1) := by decide +kernel
theorem dX12_next_1 : decode cX12_next 1 = .ok (.aload_n 0, 1) := by decide +kernel
theorem dX12_next_2 : decode cX12_next 2 = .ok (.getfield 156, 3) := by decide +kernel
theorem dX12_next_5 : decode cX12_next 5 = .ok (.putfield 153, 3) := by decide +kernel
theorem dX12_next_8 : decode cX12_next 8 = .ok (.aload_n 0, 1) := by decide +kernel
theorem dX12_next_9 : decode cX12_next 9 = .ok (.getfield 153, 3) := by decide +kernel
theorem dX12_next_12 : decode cX12_next 12 = .ok (.aload_n 0, 1) := by decide +kernel
theorem dX12_next_13 : decode cX12_next 13 = .ok (.getfield 150, 3) := by decide +kernel
theorem dX12_next_16 : decode cX12_next 16 = .ok (.if_icmp .ge 44, 3) := by decide +kernel
theorem dX12_next_19 : decode cX12_next 19 = .ok (.aload_n 0, 1) := by decide +kernel
theorem dX12_next_20 : decode cX12_next 20 = .ok (.getfield 41, 3) := by decide +kernel
theorem dX12_next_23 : decode cX12_next 23 = .ok (.aload_n 0, 1) := by decide +kernel
theorem dX12_next_24 : decode cX12_next 24 = .ok (.getfield 153, 3) := by decide +kernel
theorem dX12_next_27 : decode cX12_next 27 = .ok (.baload, 1) := by decide +kernel
theorem dX12_next_28 : decode cX12_next 28 = .ok (.bipush 32, 2) := by decide +kernel
theorem dX12_next_30 : decode cX12_next 30 = .ok (.if_icmp .eq 17, 3) := by decide +kernel
theorem dX12_next_33 : decode cX12_next 33 = .ok (.aload_n 0, 1) := by decide +kernel
theorem dX12_next_34 : decode cX12_next 34 = .ok (.getfield 41, 3) := by decide +kernel
theorem dX12_next_37 : decode cX12_next 37 = .ok (.aload_n 0, 1) := by decide +kernel
theorem dX12_next_38 : decode cX12_next 38 = .ok (.getfield 153, 3) := by decide +kernel
theorem dX12_next_41 : decode cX12_next 41 = .ok (.baload, 1) := by decide +kernel
theorem dX12_next_42 : decode cX12_next 42 = .ok (.bipush 10, 2) := by decide +kernel
theorem dX12_next_44 : decode cX12_next 44 = .ok (.if_icmp .ne 16, 3) := by decide +kernel
theorem dX12_next_47 : decode cX12_next 47 = .ok (.aload_n 0, 1) := by decide +kernel
theorem dX12_next_48 : decode cX12_next 48 = .ok (.dup, 1) := by decide +kernel
theorem dX12_next_49 : decode cX12_next 49 = .ok (.getfield 153, 3) := by decide +kernel
theorem dX12_next_52 : decode cX12_next 52 = .ok (.iconst 1, 1) := by decide +kernel
theorem dX12_next_53 : decode cX12_next 53 = .ok (.iadd, 1) := by decide +kernel
theorem dX12_next_54 : decode cX12_next 54 = .ok (.putfield 153, 3) := by decide +kernel
theorem dX12_next_57 : decode cX12_next 57 = .ok (.goto (-49), 3) := by decide +kernel
theorem dX12_next_60 : decode cX12_next 60 = .ok (.aload_n 0, 1) := by decide +kernel
theorem dX12_next_61 : decode cX12_next 61 = .ok (.aload_n 0, 1) := by decide +kernel
theorem dX12_next_62 : decode cX12_next 62 = .ok (.getfield 153, 3) := by decide +kernel
theorem dX12_next_65 : decode cX12_next 65 = .ok (.putfield 156, 3) := by decide +kernel
theorem dX12_next_68 : decode cX12_next 68 = .ok (.aload_n 0, 1) := by decide +kernel
theorem dX12_next_69 : decode cX12_next 69 = .ok (.getfield 153, 3) := by decide +kernel
theorem dX12_next_72 : decode cX12_next 72 = .ok (.aload_n 0, 1) := by decide +kernel
theorem dX12_next_73 : decode cX12_next 73 = .ok (.getfield 150, 3) := by decide +kernel
theorem dX12_next_76 : decode cX12_next 76 = .ok (.if_icmp .lt 17, 3) := by decide +kernel
theorem dX12_next_79 : decode cX12_next 79 = .ok (.aload_n 0, 1) := by decide +kernel
theorem dX12_next_80 : decode cX12_next 80 = .ok (.aload_n 0, 1) := by decide +kernel
theorem dX12_next_81 : decode cX12_next 81 = .ok (.getfield 150, 3) := by decide +kernel
theorem dX12_next_84 : decode cX12_next 84 = .ok (.putfield 153, 3) := by decide +kernel
theorem dX12_next_87 : decode cX12_next 87 = .ok (.aload_n 0, 1) := by decide +kernel
theorem dX12_next_88 : decode cX12_next 88 = .ok (.iconst 4, 1) := by decide +kernel
theorem dX12_next_89 : decode cX12_next 89 = .ok (.putfield 159, 3) := by decide +kernel
theorem dX12_next_92 : decode cX12_next 92 = .ok (.return_, 1) := by decide +kernel
theorem dX12_next_93 : decode cX12_next 93 = .ok (.aload_n 0, 1) := by decide +kernel
theorem dX12_next_94 : decode cX12_next 94 = .ok (.getfield 41, 3) := by decide +kernel
theorem dX12_next_97 : decode cX12_next 97 = .ok (.aload_n 0, 1) := by decide +kernel
theorem dX12_next_98 : decode cX12_next 98 = .ok (.getfield 153, 3) := by decide +kernel
theorem dX12_next_101 : decode cX12_next 101 = .ok (.baload, 1) := by decide +kernel
theorem dX12_next_102 : decode cX12_next 102 = .ok (.istore_n 1, 1) := by decide +kernel
theorem dX12_next_103 : decode cX12_next 103 = .ok (.iload_n 1, 1) := by decide +kernel
theorem dX12_next_104 : decode cX12_next 104 = .ok (.invokestatic 162, 3) := by decide +kernel
theorem dX12_next_107 : decode cX12_next 107 = .ok (.ifCond .eq 69, 3) := by decide +kernel
theorem dX12_next_110 : decode cX12_next 110 = .ok (.aload_n 0, 1) := by decide +kernel
theorem dX12_next_111 : decode cX12_next 111 = .ok (.getfield 156, 3) := by decide +kernel
theorem dX12_next_114 : decode cX12_next 114 = .ok (.aload_n 0, 1) := by decide +kernel
theorem dX12_next_115 : decode cX12_next 115 = .ok (.getfield 150, 3) := by decide +kernel
theorem dX12_next_118 : decode cX12_next 118 = .ok (.if_icmp .ge 31, 3) := by decide +kernel
theorem dX12_next_121 : decode cX12_next 121 = .ok (.aload_n 0, 1) := by decide +kernel
theorem dX12_next_122 : decode cX12_next 122 = .ok (.getfield 41, 3) := by decide +kernel
theorem dX12_next_125 : decode cX12_next 125 = .ok (.aload_n 0, 1) := by decide +kernel
theorem dX12_next_126 : decode cX12_next 126 = .ok (.getfield 156, 3) := by decide +kernel
theorem dX12_next_129 : decode cX12_next 129 = .ok (.baload, 1) := by decide +kernel
theorem dX12_next_130 : decode cX12_next 130 = .ok (.invokestatic 162, 3) := by decide +kernel
theorem dX12_next_133 : decode cX12_next 133 = .ok (.ifCond .eq 16, 3) := by decide +kernel
theorem dX12_next_136 : decode cX12_next 136 = .ok (.aload_n 0, 1) := by decide +kernel
theorem dX12_next_137 : decode cX12_next 137 = .ok (.dup, 1) := by decide +kernel
theorem dX12_next_138 : decode cX12_next 138 = .ok (.getfield 156, 3) := by decide +kernel
theorem dX12_next_141 : decode cX12_next 141 = .ok (.iconst 1, 1) := by decide +kernel
theorem dX12_next_142 : decode cX12_next 142 = .ok (.iadd, 1) := by decide +kernel
theorem dX12_next_143 : decode cX12_next 143 = .ok (.putfield 156, 3) := by decide +kernel
theorem dX12_next_146 : decode cX12_next 146 = .ok (.goto (-36), 3) := by decide +kernel
theorem dX12_next_149 : decode cX12_next 149 = .ok (.aload_n 0, 1) := by decide +kernel
theorem dX12_next_150 : decode cX12_next 150 = .ok (.aload_n 0, 1) := by decide +kernel
theorem dX12_next_151 : decode cX12_next 151 = .ok (.invokevirtual 165, 3) := by decide +kernel
theorem dX12_next_154 : decode cX12_next 154 = .ok (.putfield 169, 3) := by decide +kernel
theorem dX12_next_157 : decode cX12_next 157 = .ok (.aload_n 0, 1) := by decide +kernel
theorem dX12_next_158 : decode cX12_next 158 = .ok (.aload_n 0, 1) := by decide +kernel
theorem dX12_next_159 : decode cX12_next 159 = .ok (.getfield 169, 3) := by decide +kernel
theorem dX12_next_162 : decode cX12_next 162 = .ok (.ifCond .ge 7, 3) := by decide +kernel
theorem dX12_next_165 : decode cX12_next 165 = .ok (.iconst 5, 1) := by decide +kernel
theorem dX12_next_166 : decode cX12_next 166 = .ok (.goto 4, 3) := by decide +kernel
theorem dX12_next_169 : decode cX12_next 169 = .ok (.iconst 1, 1) := by decide +kernel
theorem dX12_next_170 : decode cX12_next 170 = .ok (.putfield 159, 3) := by decide +kernel
theorem dX12_next_173 : decode cX12_next 173 = .ok (.goto 188, 3) := by decide +kernel
theorem dX12_next_176 : decode cX12_next 176 = .ok (.iload_n 1, 1) := by decide +kernel
theorem dX12_next_177 : decode cX12_next 177 = .ok (.invokestatic 172, 3) := by decide +kernel
theorem dX12_next_180 : decode cX12_next 180 = .ok (.ifCond .eq 109, 3) := by decide +kernel
theorem dX12_next_183 : decode cX12_next 183 = .ok (.aload_n 0, 1) := by decide +kernel
theorem dX12_next_184 : decode cX12_next 184 = .ok (.iconst 0, 1) := by decide +kernel
theorem dX12_next_185 : decode cX12_next 185 = .ok (.putfield 169, 3) := by decide +kernel
theorem dX12_next_188 : decode cX12_next 188 = .ok (.aload_n 0, 1) := by decide +kernel
theorem dX12_next_189 : decode cX12_next 189 = .ok (.getfield 156, 3) := by decide +kernel
theorem dX12_next_192 : decode cX12_next 192 = .ok (.aload_n 0, 1) := by decide +kernel
theorem dX12_next_193 : decode cX12_next 193 = .ok (.getfield 150, 3) := by decide +kernel
theorem dX12_next_196 : decode cX12_next 196 = .ok (.if_icmp .ge 68, 3) := by decide +kernel
theorem dX12_next_199 : decode cX12_next 199 = .ok (.aload_n 0, 1) := by decide +kernel
theorem dX12_next_200 : decode cX12_next 200 = .ok (.getfield 41, 3) := by decide +kernel
theorem dX12_next_203 : decode cX12_next 203 = .ok (.aload_n 0, 1) := by decide +kernel
theorem dX12_next_204 : decode cX12_next 204 = .ok (.getfield 156, 3) := by decide +kernel
theorem dX12_next_207 : decode cX12_next 207 = .ok (.baload, 1) := by decide +kernel
theorem dX12_next_208 : decode cX12_next 208 = .ok (.invokestatic 172, 3) := by decide +kernel
theorem dX12_next_211 : decode cX12_next 211 = .ok (.ifCond .eq 53, 3) := by decide +kernel
theorem dX12_next_214 : decode cX12_next 214 = .ok (.aload_n 0, 1) := by decide +kernel
theorem dX12_next_215 : decode cX12_next 215 = .ok (.getfield 156, 3) := by decide +kernel
theorem dX12_next_218 : decode cX12_next 218 = .ok (.aload_n 0, 1) := by decide +kernel
theorem dX12_next_219 : decode cX12_next 219 = .ok (.getfield 153, 3) := by decide +kernel
theorem dX12_next_222 : decode cX12_next 222 = .ok (.isub, 1) := by decide +kernel
theorem dX12_next_223 : decode cX12_next 223 = .ok (.iconst 4, 1) := by decide +kernel
theorem dX12_next_224 : decode cX12_next 224 = .ok (.if_icmp .ge 27, 3) := by decide +kernel
theorem dX12_next_227 : decode cX12_next 227 = .ok (.aload_n 0, 1) := by decide +kernel
theorem dX12_next_228 : decode cX12_next 228 = .ok (.bipush 10, 2) := by decide +kernel
theorem dX12_next_230 : decode cX12_next 230 = .ok (.aload_n 0, 1) := by decide +kernel
theorem dX12_next_231 : decode cX12_next 231 = .ok (.getfield 169, 3) := by decide +kernel
theorem dX12_next_234 : decode cX12_next 234 = .ok (.imul, 1) := by decide +kernel
theorem dX12_next_235 : decode cX12_next 235 = .ok (.aload_n 0, 1) := by decide +kernel
theorem dX12_next_236 : decode cX12_next 236 = .ok (.getfield 41, 3) := by decide +kernel
theorem dX12_next_239 : decode cX12_next 239 = .ok (.aload_n 0, 1) := by decide +kernel
theorem dX12_next_240 : decode cX12_next 240 = .ok (.getfield 156, 3) := by decide +kernel
theorem dX12_next_243 : decode cX12_next 243 = .ok (.baload, 1) := by decide +kernel
theorem dX12_next_244 : decode cX12_next 244 = .ok (.iadd, 1) := by decide +kernel
theorem dX12_next_245 : decode cX12_next 245 = .ok (.bipush 48, 2) := by decide +kernel
theorem dX12_next_247 : decode cX12_next 247 = .ok (.isub, 1) := by decide +kernel
theorem dX12_next_248 : decode cX12_next 248 = .ok (.putfield 169, 3) := by decide +kernel
theorem dX12_next_251 : decode cX12_next 251 = .ok (.aload_n 0, 1) := by decide +kernel
theorem dX12_next_252 : decode cX12_next 252 = .ok (.dup, 1) := by decide +kernel
theorem dX12_next_253 : decode cX12_next 253 = .ok (.getfield 156, 3) := by decide +kernel
theorem dX12_next_256 : decode cX12_next 256 = .ok (.iconst 1, 1) := by decide +kernel
theorem dX12_next_257 : decode cX12_next 257 = .ok (.iadd, 1) := by decide +kernel
theorem dX12_next_258 : decode cX12_next 258 = .ok (.putfield 156, 3) := by decide +kernel
theorem dX12_next_261 : decode cX12_next 261 = .ok (.goto (-73), 3) := by decide +kernel
theorem dX12_next_264 : decode cX12_next 264 = .ok (.aload_n 0, 1) := by decide +kernel
theorem dX12_next_265 : decode cX12_next 265 = .ok (.aload_n 0, 1) := by decide +kernel
theorem dX12_next_266 : decode cX12_next 266 = .ok (.getfield 156, 3) := by decide +kernel
theorem dX12_next_269 : decode cX12_next 269 = .ok (.aload_n 0, 1) := by decide +kernel
theorem dX12_next_270 : decode cX12_next 270 = .ok (.getfield 153, 3) := by decide +kernel
theorem dX12_next_273 : decode cX12_next 273 = .ok (.isub, 1) := by decide +kernel
theorem dX12_next_274 : decode cX12_next 274 = .ok (.iconst 4, 1) := by decide +kernel
theorem dX12_next_275 : decode cX12_next 275 = .ok (.if_icmp .le 7, 3) := by decide +kernel
theorem dX12_next_278 : decode cX12_next 278 = .ok (.iconst 5, 1) := by decide +kernel
theorem dX12_next_279 : decode cX12_next 279 = .ok (.goto 4, 3) := by decide +kernel
theorem dX12_next_282 : decode cX12_next 282 = .ok (.iconst 2, 1) := by decide +kernel
theorem dX12_next_283 : decode cX12_next 283 = .ok (.putfield 159, 3) := by decide +kernel
theorem dX12_next_286 : decode cX12_next 286 = .ok (.goto 75, 3) := by decide +kernel
theorem dX12_next_289 : decode cX12_next 289 = .ok (.aload_n 0, 1) := by decide +kernel
theorem dX12_next_290 : decode cX12_next 290 = .ok (.dup, 1) := by decide +kernel
theorem dX12_next_291 : decode cX12_next 291 = .ok (.getfield 156, 3) := by decide +kernel
theorem dX12_next_294 : decode cX12_next 294 = .ok (.iconst 1, 1) := by decide +kernel
theorem dX12_next_295 : decode cX12_next 295 = .ok (.iadd, 1) := by decide +kernel
theorem dX12_next_296 : decode cX12_next 296 = .ok (.putfield 156, 3) := by decide +kernel
theorem dX12_next_299 : decode cX12_next 299 = .ok (.aload_n 0, 1) := by decide +kernel
theorem dX12_next_300 : decode cX12_next 300 = .ok (.iload_n 1, 1) := by decide +kernel
theorem dX12_next_301 : decode cX12_next 301 = .ok (.putfield 169, 3) := by decide +kernel
theorem dX12_next_304 : decode cX12_next 304 = .ok (.aload_n 0, 1) := by decide +kernel
theorem dX12_next_305 : decode cX12_next 305 = .ok (.iload_n 1, 1) := by decide +kernel
theorem dX12_next_306 : decode cX12_next 306 = .ok (.bipush 40, 2) := by decide +kernel
theorem dX12_next_308 : decode cX12_next 308 = .ok (.if_icmp .eq 45, 3) := by decide +kernel
theorem dX12_next_311 : decode cX12_next 311 = .ok (.iload_n 1, 1) := by decide +kernel
theorem dX12_next_312 : decode cX12_next 312 = .ok (.bipush 41, 2) := by decide +kernel
theorem dX12_next_314 : decode cX12_next 314 = .ok (.if_icmp .eq 39, 3) := by decide +kernel
theorem dX12_next_317 : decode cX12_next 317 = .ok (.iload_n 1, 1) := by decide +kernel
theorem dX12_next_318 : decode cX12_next 318 = .ok (.bipush 59, 2) := by decide +kernel
theorem dX12_next_320 : decode cX12_next 320 = .ok (.if_icmp .eq 33, 3) := by decide +kernel
theorem dX12_next_323 : decode cX12_next 323 = .ok (.iload_n 1, 1) := by decide +kernel
theorem dX12_next_324 : decode cX12_next 324 = .ok (.bipush 43, 2) := by decide +kernel
theorem dX12_next_326 : decode cX12_next 326 = .ok (.if_icmp .eq 27, 3) := by decide +kernel
theorem dX12_next_329 : decode cX12_next 329 = .ok (.iload_n 1, 1) := by decide +kernel
theorem dX12_next_330 : decode cX12_next 330 = .ok (.bipush 45, 2) := by decide +kernel
theorem dX12_next_332 : decode cX12_next 332 = .ok (.if_icmp .eq 21, 3) := by decide +kernel
theorem dX12_next_335 : decode cX12_next 335 = .ok (.iload_n 1, 1) := by decide +kernel
theorem dX12_next_336 : decode cX12_next 336 = .ok (.bipush 42, 2) := by decide +kernel
theorem dX12_next_338 : decode cX12_next 338 = .ok (.if_icmp .eq 15, 3) := by decide +kernel
theorem dX12_next_341 : decode cX12_next 341 = .ok (.iload_n 1, 1) := by decide +kernel
theorem dX12_next_342 : decode cX12_next 342 = .ok (.bipush 60, 2) := by decide +kernel
theorem dX12_next_344 : decode cX12_next 344 = .ok (.if_icmp .eq 9, 3) := by decide +kernel
theorem dX12_next_347 : decode cX12_next 347 = .ok (.iload_n 1, 1) := by decide +kernel
theorem dX12_next_348 : decode cX12_next 348 = .ok (.bipush 61, 2) := by decide +kernel
theorem dX12_next_350 : decode cX12_next 350 = .ok (.if_icmp .ne 7, 3) := by decide +kernel
theorem dX12_next_353 : decode cX12_next 353 = .ok (.iconst 3, 1) := by decide +kernel
theorem dX12_next_354 : decode cX12_next 354 = .ok (.goto 4, 3) := by decide +kernel
theorem dX12_next_357 : decode cX12_next 357 = .ok (.iconst 5, 1) := by decide +kernel
theorem dX12_next_358 : decode cX12_next 358 = .ok (.putfield 159, 3) := by decide +kernel
theorem dX12_next_361 : decode cX12_next 361 = .ok (.return_, 1) := by decide +kernel
theorem dX12_faulty_0 : decode cX12_faulty 0 = .ok (.aload_n 0, 1) := by decide +kernel
theorem dX12_faulty_1 : decode cX12_faulty 1 = .ok (.getfield 175, 3) := by decide +kernel
theorem dX12_faulty_4 : decode cX12_faulty 4 = .ok (.ifCond .ge 11, 3) := by decide +kernel
theorem dX12_faulty_7 : decode cX12_faulty 7 = .ok (.aload_n 0, 1) := by decide +kernel
theorem dX12_faulty_8 : decode cX12_faulty 8 = .ok (.aload_n 0, 1) := by decide +kernel
theorem dX12_faulty_9 : decode cX12_faulty 9 = .ok (.getfield 153, 3) := by decide +kernel
theorem dX12_faulty_12 : decode cX12_faulty 12 = .ok (.putfield 175, 3) := by decide +kernel
theorem dX12_faulty_15 : decode cX12_faulty 15 = .ok (.return_, 1) := by decide +kernel
theorem dX12_isSign_0 : decode cX12_isSign 0 = .ok (.aload_n 0, 1) := by decide +kernel
theorem dX12_isSign_1 : decode cX12_isSign 1 = .ok (.getfield 175, 3) := by decide +kernel
theorem dX12_isSign_4 : decode cX12_isSign 4 = .ok (.ifCond .ge 23, 3) := by decide +kernel
theorem dX12_isSign_7 : decode cX12_isSign 7 = .ok (.aload_n 0, 1) := by decide +kernel
theorem dX12_isSign_8 : decode cX12_isSign 8 = .ok (.getfield 159, 3) := by decide +kernel
theorem dX12_isSign_11 : decode cX12_isSign 11 = .ok (.iconst 3, 1) := by decide +kernel
theorem dX12_isSign_12 : decode cX12_isSign 12 = .ok (.if_icmp .ne 15, 3) := by decide +kernel
theorem dX12_isSign_15 : decode cX12_isSign 15 = .ok (.aload_n 0, 1) := by decide +kernel
theorem dX12_isSign_16 : decode cX12_isSign 16 = .ok (.getfield 169, 3) := by decide +kernel
theorem dX12_isSign_19 : decode cX12_isSign 19 = .ok (.iload_n 1, 1) := by decide +kernel
theorem dX12_isSign_20 : decode cX12_isSign 20 = .ok (.if_icmp .ne 7, 3) := by decide +kernel
theorem dX12_isSign_23 : decode cX12_isSign 23 = .ok (.iconst 1, 1) := by decide +kernel
theorem dX12_isSign_24 : decode cX12_isSign 24 = .ok (.goto 4, 3) := by decide +kernel
theorem dX12_isSign_27 : decode cX12_isSign 27 = .ok (.iconst 0, 1) := by decide +kernel
theorem dX12_isSign_28 : decode cX12_isSign 28 = .ok (.ireturn, 1) := by decide +kernel
theorem dX12_isKey_0 : decode cX12_isKey 0 = .ok (.aload_n 0, 1) := by decide +kernel
theorem dX12_isKey_1 : decode cX12_isKey 1 = .ok (.getfield 175, 3) := by decide +kernel
theorem dX12_isKey_4 : decode cX12_isKey 4 = .ok (.ifCond .ge 23, 3) := by decide +kernel
theorem dX12_isKey_7 : decode cX12_isKey 7 = .ok (.aload_n 0, 1) := by decide +kernel
theorem dX12_isKey_8 : decode cX12_isKey 8 = .ok (.getfield 159, 3) := by decide +kernel
theorem dX12_isKey_11 : decode cX12_isKey 11 = .ok (.iconst 1, 1) := by decide +kernel
theorem dX12_isKey_12 : decode cX12_isKey 12 = .ok (.if_icmp .ne 15, 3) := by decide +kernel
theorem dX12_isKey_15 : decode cX12_isKey 15 = .ok (.aload_n 0, 1) := by decide +kernel
theorem dX12_isKey_16 : decode cX12_isKey 16 = .ok (.getfield 169, 3) := by decide +kernel
theorem dX12_isKey_19 : decode cX12_isKey 19 = .ok (.iload_n 1, 1) := by decide +kernel
theorem dX12_isKey_20 : decode cX12_isKey 20 = .ok (.if_icmp .ne 7, 3) := by decide +kernel
theorem dX12_isKey_23 : decode cX12_isKey 23 = .ok (.iconst 1, 1) := by decide +kernel
theorem dX12_isKey_24 : decode cX12_isKey 24 = .ok (.goto 4, 3) := by decide +kernel
theorem dX12_isKey_27 : decode cX12_isKey 27 = .ok (.iconst 0, 1) := by decide +kernel
theorem dX12_isKey_28 : decode cX12_isKey 28 = .ok (.ireturn, 1) := by decide +kernel
theorem dX12_addStep_0 : decode cX12_addStep 0 = .ok (.aload_n 0, 1) := by decide +kernel
theorem dX12_addStep_1 : decode cX12_addStep 1 = .ok (.getfield 48, 3) := by decide +kernel
theorem dX12_addStep_4 : decode cX12_addStep 4 = .ok (.sipush 1020, 3) := by decide +kernel
theorem dX12_addStep_7 : decode cX12_addStep 7 = .ok (.aload_n 0, 1) := by decide +kernel
theorem dX12_addStep_8 : decode cX12_addStep 8 = .ok (.getfield 178, 3) := by decide +kernel
theorem dX12_addStep_11 : decode cX12_addStep 11 = .ok (.iadd, 1) := by decide +kernel
theorem dX12_addStep_12 : decode cX12_addStep 12 = .ok (.iload_n 1, 1) := by decide +kernel
theorem dX12_addStep_13 : decode cX12_addStep 13 = .ok (.iastore, 1) := by decide +kernel
theorem dX12_addStep_14 : decode cX12_addStep 14 = .ok (.aload_n 0, 1) := by decide +kernel
theorem dX12_addStep_15 : decode cX12_addStep 15 = .ok (.getfield 51, 3) := by decide +kernel
theorem dX12_addStep_18 : decode cX12_addStep 18 = .ok (.sipush 1020, 3) := by decide +kernel
theorem dX12_addStep_21 : decode cX12_addStep 21 = .ok (.aload_n 0, 1) := by decide +kernel
theorem dX12_addStep_22 : decode cX12_addStep 22 = .ok (.getfield 178, 3) := by decide +kernel
theorem dX12_addStep_25 : decode cX12_addStep 25 = .ok (.iadd, 1) := by decide +kernel
theorem dX12_addStep_26 : decode cX12_addStep 26 = .ok (.iload_n 2, 1) := by decide +kernel
theorem dX12_addStep_27 : decode cX12_addStep 27 = .ok (.iastore, 1) := by decide +kernel
theorem dX12_addStep_28 : decode cX12_addStep 28 = .ok (.aload_n 0, 1) := by decide +kernel
theorem dX12_addStep_29 : decode cX12_addStep 29 = .ok (.dup, 1) := by decide +kernel
theorem dX12_addStep_30 : decode cX12_addStep 30 = .ok (.getfield 178, 3) := by decide +kernel
theorem dX12_addStep_33 : decode cX12_addStep 33 = .ok (.iconst 1, 1) := by decide +kernel
theorem dX12_addStep_34 : decode cX12_addStep 34 = .ok (.iadd, 1) := by decide +kernel
theorem dX12_addStep_35 : decode cX12_addStep 35 = .ok (.putfield 178, 3) := by decide +kernel
theorem dX12_addStep_38 : decode cX12_addStep 38 = .ok (.return_, 1) := by decide +kernel
theorem dX12_opens_0 : decode cX12_opens 0 = .ok (.aload_n 0, 1) := by decide +kernel
theorem dX12_opens_1 : decode cX12_opens 1 = .ok (.getfield 181, 3) := by decide +kernel
theorem dX12_opens_4 : decode cX12_opens 4 = .ok (.iconst 5, 1) := by decide +kernel
theorem dX12_opens_5 : decode cX12_opens 5 = .ok (.if_icmp .ne 9, 3) := by decide +kernel
theorem dX12_opens_8 : decode cX12_opens 8 = .ok (.aload_n 0, 1) := by decide +kernel
theorem dX12_opens_9 : decode cX12_opens 9 = .ok (.invokevirtual 184, 3) := by decide +kernel
theorem dX12_opens_12 : decode cX12_opens 12 = .ok (.iconst 0, 1) := by decide +kernel
theorem dX12_opens_13 : decode cX12_opens 13 = .ok (.ireturn, 1) := by decide +kernel
theorem dX12_opens_14 : decode cX12_opens 14 = .ok (.aload_n 0, 1) := by decide +kernel
theorem dX12_opens_15 : decode cX12_opens 15 = .ok (.dup, 1) := by decide +kernel
theorem dX12_opens_16 : decode cX12_opens 16 = .ok (.getfield 181, 3) := by decide +kernel
theorem dX12_opens_19 : decode cX12_opens 19 = .ok (.iconst 1, 1) := by decide +kernel
theorem dX12_opens_20 : decode cX12_opens 20 = .ok (.iadd, 1) := by decide +kernel
theorem dX12_opens_21 : decode cX12_opens 21 = .ok (.putfield 181, 3) := by decide +kernel
theorem dX12_opens_24 : decode cX12_opens 24 = .ok (.aload_n 0, 1) := by decide +kernel
theorem dX12_opens_25 : decode cX12_opens 25 = .ok (.invokevirtual 187, 3) := by decide +kernel
theorem dX12_opens_28 : decode cX12_opens 28 = .ok (.iconst 1, 1) := by decide +kernel
theorem dX12_opens_29 : decode cX12_opens 29 = .ok (.ireturn, 1) := by decide +kernel
theorem dX12_either_0 : decode cX12_either 0 = .ok (.aload_n 0, 1) := by decide +kernel
theorem dX12_either_1 : decode cX12_either 1 = .ok (.invokevirtual 190, 3) := by decide +kernel
theorem dX12_either_4 : decode cX12_either 4 = .ok (.aload_n 0, 1) := by decide +kernel
theorem dX12_either_5 : decode cX12_either 5 = .ok (.bipush 13, 2) := by decide +kernel
theorem dX12_either_7 : decode cX12_either 7 = .ok (.invokevirtual 193, 3) := by decide +kernel
theorem dX12_either_10 : decode cX12_either 10 = .ok (.ifCond .eq 20, 3) := by decide +kernel
theorem dX12_either_13 : decode cX12_either 13 = .ok (.aload_n 0, 1) := by decide +kernel
theorem dX12_either_14 : decode cX12_either 14 = .ok (.invokevirtual 187, 3) := by decide +kernel
theorem dX12_either_17 : decode cX12_either 17 = .ok (.aload_n 0, 1) := by decide +kernel
theorem dX12_either_18 : decode cX12_either 18 = .ok (.invokevirtual 190, 3) := by decide +kernel
theorem dX12_either_21 : decode cX12_either 21 = .ok (.aload_n 0, 1) := by decide +kernel
theorem dX12_either_22 : decode cX12_either 22 = .ok (.iconst 5, 1) := by decide +kernel
theorem dX12_either_23 : decode cX12_either 23 = .ok (.iconst 0, 1) := by decide +kernel
theorem dX12_either_24 : decode cX12_either 24 = .ok (.invokevirtual 196, 3) := by decide +kernel
theorem dX12_either_27 : decode cX12_either 27 = .ok (.goto (-23), 3) := by decide +kernel
theorem dX12_either_30 : decode cX12_either 30 = .ok (.return_, 1) := by decide +kernel
theorem dX12_all_0 : decode cX12_all 0 = .ok (.aload_n 0, 1) := by decide +kernel
theorem dX12_all_1 : decode cX12_all 1 = .ok (.invokevirtual 200, 3) := by decide +kernel
theorem dX12_all_4 : decode cX12_all 4 = .ok (.aload_n 0, 1) := by decide +kernel
theorem dX12_all_5 : decode cX12_all 5 = .ok (.bipush 14, 2) := by decide +kernel
theorem dX12_all_7 : decode cX12_all 7 = .ok (.invokevirtual 193, 3) := by decide +kernel
theorem dX12_all_10 : decode cX12_all 10 = .ok (.ifCond .eq 21, 3) := by decide +kernel
theorem dX12_all_13 : decode cX12_all 13 = .ok (.aload_n 0, 1) := by decide +kernel
theorem dX12_all_14 : decode cX12_all 14 = .ok (.invokevirtual 187, 3) := by decide +kernel
theorem dX12_all_17 : decode cX12_all 17 = .ok (.aload_n 0, 1) := by decide +kernel
theorem dX12_all_18 : decode cX12_all 18 = .ok (.invokevirtual 200, 3) := by decide +kernel
theorem dX12_all_21 : decode cX12_all 21 = .ok (.aload_n 0, 1) := by decide +kernel
theorem dX12_all_22 : decode cX12_all 22 = .ok (.bipush 6, 2) := by decide +kernel
theorem dX12_all_24 : decode cX12_all 24 = .ok (.iconst 0, 1) := by decide +kernel
theorem dX12_all_25 : decode cX12_all 25 = .ok (.invokevirtual 196, 3) := by decide +kernel
theorem dX12_all_28 : decode cX12_all 28 = .ok (.goto (-24), 3) := by decide +kernel
theorem dX12_all_31 : decode cX12_all 31 = .ok (.return_, 1) := by decide +kernel
theorem dX12_denied_0 : decode cX12_denied 0 = .ok (.aload_n 0, 1) := by decide +kernel
theorem dX12_denied_1 : decode cX12_denied 1 = .ok (.bipush 15, 2) := by decide +kernel
theorem dX12_denied_3 : decode cX12_denied 3 = .ok (.invokevirtual 193, 3) := by decide +kernel
theorem dX12_denied_6 : decode cX12_denied 6 = .ok (.ifCond .eq 32, 3) := by decide +kernel
theorem dX12_denied_9 : decode cX12_denied 9 = .ok (.aload_n 0, 1) := by decide +kernel
theorem dX12_denied_10 : decode cX12_denied 10 = .ok (.invokevirtual 203, 3) := by decide +kernel
theorem dX12_denied_13 : decode cX12_denied 13 = .ok (.ifCond .ne 4, 3) := by decide +kernel
theorem dX12_denied_16 : decode cX12_denied 16 = .ok (.return_, 1) := by decide +kernel
theorem dX12_denied_17 : decode cX12_denied 17 = .ok (.aload_n 0, 1) := by decide +kernel
theorem dX12_denied_18 : decode cX12_denied 18 = .ok (.invokevirtual 200, 3) := by decide +kernel
theorem dX12_denied_21 : decode cX12_denied 21 = .ok (.aload_n 0, 1) := by decide +kernel
theorem dX12_denied_22 : decode cX12_denied 22 = .ok (.dup, 1) := by decide +kernel
theorem dX12_denied_23 : decode cX12_denied 23 = .ok (.getfield 181, 3) := by decide +kernel
theorem dX12_denied_26 : decode cX12_denied 26 = .ok (.iconst 1, 1) := by decide +kernel
theorem dX12_denied_27 : decode cX12_denied 27 = .ok (.isub, 1) := by decide +kernel
theorem dX12_denied_28 : decode cX12_denied 28 = .ok (.putfield 181, 3) := by decide +kernel
theorem dX12_denied_31 : decode cX12_denied 31 = .ok (.aload_n 0, 1) := by decide +kernel
theorem dX12_denied_32 : decode cX12_denied 32 = .ok (.iconst 3, 1) := by decide +kernel
theorem dX12_denied_33 : decode cX12_denied 33 = .ok (.iconst 0, 1) := by decide +kernel
theorem dX12_denied_34 : decode cX12_denied 34 = .ok (.invokevirtual 196, 3) := by decide +kernel
theorem dX12_denied_37 : decode cX12_denied 37 = .ok (.return_, 1) := by decide +kernel
theorem dX12_denied_38 : decode cX12_denied 38 = .ok (.aload_n 0, 1) := by decide +kernel
theorem dX12_denied_39 : decode cX12_denied 39 = .ok (.invokevirtual 207, 3) := by decide +kernel
theorem dX12_denied_42 : decode cX12_denied 42 = .ok (.aload_n 0, 1) := by decide +kernel
theorem dX12_denied_43 : decode cX12_denied 43 = .ok (.bipush 60, 2) := by decide +kernel
theorem dX12_denied_45 : decode cX12_denied 45 = .ok (.invokevirtual 210, 3) := by decide +kernel
theorem dX12_denied_48 : decode cX12_denied 48 = .ok (.ifCond .ne 13, 3) := by decide +kernel
theorem dX12_denied_51 : decode cX12_denied 51 = .ok (.aload_n 0, 1) := by decide +kernel
theorem dX12_denied_52 : decode cX12_denied 52 = .ok (.bipush 61, 2) := by decide +kernel
theorem dX12_denied_54 : decode cX12_denied 54 = .ok (.invokevirtual 210, 3) := by decide +kernel
theorem dX12_denied_57 : decode cX12_denied 57 = .ok (.ifCond .ne 4, 3) := by decide +kernel
theorem dX12_denied_60 : decode cX12_denied 60 = .ok (.return_, 1) := by decide +kernel
theorem dX12_denied_61 : decode cX12_denied 61 = .ok (.aload_n 0, 1) := by decide +kernel
theorem dX12_denied_62 : decode cX12_denied 62 = .ok (.getfield 169, 3) := by decide +kernel
theorem dX12_denied_65 : decode cX12_denied 65 = .ok (.istore_n 1, 1) := by decide +kernel
theorem dX12_denied_66 : decode cX12_denied 66 = .ok (.aload_n 0, 1) := by decide +kernel
theorem dX12_denied_67 : decode cX12_denied 67 = .ok (.invokevirtual 187, 3) := by decide +kernel
theorem dX12_denied_70 : decode cX12_denied 70 = .ok (.aload_n 0, 1) := by decide +kernel
theorem dX12_denied_71 : decode cX12_denied 71 = .ok (.invokevirtual 207, 3) := by decide +kernel
theorem dX12_denied_74 : decode cX12_denied 74 = .ok (.aload_n 0, 1) := by decide +kernel
theorem dX12_denied_75 : decode cX12_denied 75 = .ok (.iload_n 1, 1) := by decide +kernel
theorem dX12_denied_76 : decode cX12_denied 76 = .ok (.iconst 0, 1) := by decide +kernel
theorem dX12_denied_77 : decode cX12_denied 77 = .ok (.invokevirtual 196, 3) := by decide +kernel
theorem dX12_denied_80 : decode cX12_denied 80 = .ok (.return_, 1) := by decide +kernel
theorem dX12_sum_0 : decode cX12_sum 0 = .ok (.aload_n 0, 1) := by decide +kernel
theorem dX12_sum_1 : decode cX12_sum 1 = .ok (.invokevirtual 213, 3) := by decide +kernel
theorem dX12_sum_4 : decode cX12_sum 4 = .ok (.aload_n 0, 1) := by decide +kernel
theorem dX12_sum_5 : decode cX12_sum 5 = .ok (.bipush 43, 2) := by decide +kernel
theorem dX12_sum_7 : decode cX12_sum 7 = .ok (.invokevirtual 210, 3) := by decide +kernel
theorem dX12_sum_10 : decode cX12_sum 10 = .ok (.ifCond .ne 12, 3) := by decide +kernel
theorem dX12_sum_13 : decode cX12_sum 13 = .ok (.aload_n 0, 1) := by decide +kernel
theorem dX12_sum_14 : decode cX12_sum 14 = .ok (.bipush 45, 2) := by decide +kernel
theorem dX12_sum_16 : decode cX12_sum 16 = .ok (.invokevirtual 210, 3) := by decide +kernel
theorem dX12_sum_19 : decode cX12_sum 19 = .ok (.ifCond .eq 25, 3) := by decide +kernel
theorem dX12_sum_22 : decode cX12_sum 22 = .ok (.aload_n 0, 1) := by decide +kernel
theorem dX12_sum_23 : decode cX12_sum 23 = .ok (.getfield 169, 3) := by decide +kernel
theorem dX12_sum_26 : decode cX12_sum 26 = .ok (.istore_n 1, 1) := by decide +kernel
theorem dX12_sum_27 : decode cX12_sum 27 = .ok (.aload_n 0, 1) := by decide +kernel
theorem dX12_sum_28 : decode cX12_sum 28 = .ok (.invokevirtual 187, 3) := by decide +kernel
theorem dX12_sum_31 : decode cX12_sum 31 = .ok (.aload_n 0, 1) := by decide +kernel
theorem dX12_sum_32 : decode cX12_sum 32 = .ok (.invokevirtual 213, 3) := by decide +kernel
theorem dX12_sum_35 : decode cX12_sum 35 = .ok (.aload_n 0, 1) := by decide +kernel
theorem dX12_sum_36 : decode cX12_sum 36 = .ok (.iload_n 1, 1) := by decide +kernel
theorem dX12_sum_37 : decode cX12_sum 37 = .ok (.iconst 0, 1) := by decide +kernel
theorem dX12_sum_38 : decode cX12_sum 38 = .ok (.invokevirtual 196, 3) := by decide +kernel
theorem dX12_sum_41 : decode cX12_sum 41 = .ok (.goto (-37), 3) := by decide +kernel
theorem dX12_sum_44 : decode cX12_sum 44 = .ok (.return_, 1) := by decide +kernel
theorem dX12_term_0 : decode cX12_term 0 = .ok (.aload_n 0, 1) := by decide +kernel
theorem dX12_term_1 : decode cX12_term 1 = .ok (.invokevirtual 216, 3) := by decide +kernel
theorem dX12_term_4 : decode cX12_term 4 = .ok (.aload_n 0, 1) := by decide +kernel
theorem dX12_term_5 : decode cX12_term 5 = .ok (.bipush 42, 2) := by decide +kernel
theorem dX12_term_7 : decode cX12_term 7 = .ok (.invokevirtual 210, 3) := by decide +kernel
theorem dX12_term_10 : decode cX12_term 10 = .ok (.ifCond .eq 21, 3) := by decide +kernel
theorem dX12_term_13 : decode cX12_term 13 = .ok (.aload_n 0, 1) := by decide +kernel
theorem dX12_term_14 : decode cX12_term 14 = .ok (.invokevirtual 187, 3) := by decide +kernel
theorem dX12_term_17 : decode cX12_term 17 = .ok (.aload_n 0, 1) := by decide +kernel
theorem dX12_term_18 : decode cX12_term 18 = .ok (.invokevirtual 216, 3) := by decide +kernel
theorem dX12_term_21 : decode cX12_term 21 = .ok (.aload_n 0, 1) := by decide +kernel
theorem dX12_term_22 : decode cX12_term 22 = .ok (.bipush 42, 2) := by decide +kernel
theorem dX12_term_24 : decode cX12_term 24 = .ok (.iconst 0, 1) := by decide +kernel
theorem dX12_term_25 : decode cX12_term 25 = .ok (.invokevirtual 196, 3) := by decide +kernel
theorem dX12_term_28 : decode cX12_term 28 = .ok (.goto (-24), 3) := by decide +kernel
theorem dX12_term_31 : decode cX12_term 31 = .ok (.return_, 1) := by decide +kernel
theorem dX12_one_0 : decode cX12_one 0 = .ok (.aload_n 0, 1) := by decide +kernel
theorem dX12_one_1 : decode cX12_one 1 = .ok (.getfield 175, 3) := by decide +kernel
theorem dX12_one_4 : decode cX12_one 4 = .ok (.ifCond .lt 4, 3) := by decide +kernel
theorem dX12_one_7 : decode cX12_one 7 = .ok (.return_, 1) := by decide +kernel
theorem dX12_one_8 : decode cX12_one 8 = .ok (.aload_n 0, 1) := by decide +kernel
theorem dX12_one_9 : decode cX12_one 9 = .ok (.getfield 159, 3) := by decide +kernel
theorem dX12_one_12 : decode cX12_one 12 = .ok (.iconst 2, 1) := by decide +kernel
theorem dX12_one_13 : decode cX12_one 13 = .ok (.if_icmp .ne 19, 3) := by decide +kernel
theorem dX12_one_16 : decode cX12_one 16 = .ok (.aload_n 0, 1) := by decide +kernel
theorem dX12_one_17 : decode cX12_one 17 = .ok (.iconst 1, 1) := by decide +kernel
theorem dX12_one_18 : decode cX12_one 18 = .ok (.aload_n 0, 1) := by decide +kernel
theorem dX12_one_19 : decode cX12_one 19 = .ok (.getfield 169, 3) := by decide +kernel
theorem dX12_one_22 : decode cX12_one 22 = .ok (.invokevirtual 196, 3) := by decide +kernel
theorem dX12_one_25 : decode cX12_one 25 = .ok (.aload_n 0, 1) := by decide +kernel
theorem dX12_one_26 : decode cX12_one 26 = .ok (.invokevirtual 187, 3) := by decide +kernel
theorem dX12_one_29 : decode cX12_one 29 = .ok (.goto 132, 3) := by decide +kernel
theorem dX12_one_32 : decode cX12_one 32 = .ok (.aload_n 0, 1) := by decide +kernel
theorem dX12_one_33 : decode cX12_one 33 = .ok (.getfield 159, 3) := by decide +kernel
theorem dX12_one_36 : decode cX12_one 36 = .ok (.iconst 1, 1) := by decide +kernel
theorem dX12_one_37 : decode cX12_one 37 = .ok (.if_icmp .ne 28, 3) := by decide +kernel
theorem dX12_one_40 : decode cX12_one 40 = .ok (.aload_n 0, 1) := by decide +kernel
theorem dX12_one_41 : decode cX12_one 41 = .ok (.getfield 169, 3) := by decide +kernel
theorem dX12_one_44 : decode cX12_one 44 = .ok (.bipush 6, 2) := by decide +kernel
theorem dX12_one_46 : decode cX12_one 46 = .ok (.if_icmp .ge 19, 3) := by decide +kernel
theorem dX12_one_49 : decode cX12_one 49 = .ok (.aload_n 0, 1) := by decide +kernel
theorem dX12_one_50 : decode cX12_one 50 = .ok (.iconst 2, 1) := by decide +kernel
theorem dX12_one_51 : decode cX12_one 51 = .ok (.aload_n 0, 1) := by decide +kernel
theorem dX12_one_52 : decode cX12_one 52 = .ok (.getfield 169, 3) := by decide +kernel
theorem dX12_one_55 : decode cX12_one 55 = .ok (.invokevirtual 196, 3) := by decide +kernel
theorem dX12_one_58 : decode cX12_one 58 = .ok (.aload_n 0, 1) := by decide +kernel
theorem dX12_one_59 : decode cX12_one 59 = .ok (.invokevirtual 187, 3) := by decide +kernel
theorem dX12_one_62 : decode cX12_one 62 = .ok (.goto 99, 3) := by decide +kernel
theorem dX12_one_65 : decode cX12_one 65 = .ok (.aload_n 0, 1) := by decide +kernel
theorem dX12_one_66 : decode cX12_one 66 = .ok (.bipush 45, 2) := by decide +kernel
theorem dX12_one_68 : decode cX12_one 68 = .ok (.invokevirtual 210, 3) := by decide +kernel
theorem dX12_one_71 : decode cX12_one 71 = .ok (.ifCond .eq 34, 3) := by decide +kernel
theorem dX12_one_74 : decode cX12_one 74 = .ok (.aload_n 0, 1) := by decide +kernel
theorem dX12_one_75 : decode cX12_one 75 = .ok (.invokevirtual 203, 3) := by decide +kernel
theorem dX12_one_78 : decode cX12_one 78 = .ok (.ifCond .ne 4, 3) := by decide +kernel
theorem dX12_one_81 : decode cX12_one 81 = .ok (.return_, 1) := by decide +kernel
theorem dX12_one_82 : decode cX12_one 82 = .ok (.aload_n 0, 1) := by decide +kernel
theorem dX12_one_83 : decode cX12_one 83 = .ok (.invokevirtual 216, 3) := by decide +kernel
theorem dX12_one_86 : decode cX12_one 86 = .ok (.aload_n 0, 1) := by decide +kernel
theorem dX12_one_87 : decode cX12_one 87 = .ok (.dup, 1) := by decide +kernel
theorem dX12_one_88 : decode cX12_one 88 = .ok (.getfield 181, 3) := by decide +kernel
theorem dX12_one_91 : decode cX12_one 91 = .ok (.iconst 1, 1) := by decide +kernel
theorem dX12_one_92 : decode cX12_one 92 = .ok (.isub, 1) := by decide +kernel
theorem dX12_one_93 : decode cX12_one 93 = .ok (.putfield 181, 3) := by decide +kernel
theorem dX12_one_96 : decode cX12_one 96 = .ok (.aload_n 0, 1) := by decide +kernel
theorem dX12_one_97 : decode cX12_one 97 = .ok (.iconst 4, 1) := by decide +kernel
theorem dX12_one_98 : decode cX12_one 98 = .ok (.iconst 0, 1) := by decide +kernel
theorem dX12_one_99 : decode cX12_one 99 = .ok (.invokevirtual 196, 3) := by decide +kernel
theorem dX12_one_102 : decode cX12_one 102 = .ok (.goto 59, 3) := by decide +kernel
theorem dX12_one_105 : decode cX12_one 105 = .ok (.aload_n 0, 1) := by decide +kernel
theorem dX12_one_106 : decode cX12_one 106 = .ok (.bipush 40, 2) := by decide +kernel
theorem dX12_one_108 : decode cX12_one 108 = .ok (.invokevirtual 210, 3) := by decide +kernel
theorem dX12_one_111 : decode cX12_one 111 = .ok (.ifCond .eq 46, 3) := by decide +kernel
theorem dX12_one_114 : decode cX12_one 114 = .ok (.aload_n 0, 1) := by decide +kernel
theorem dX12_one_115 : decode cX12_one 115 = .ok (.invokevirtual 203, 3) := by decide +kernel
theorem dX12_one_118 : decode cX12_one 118 = .ok (.ifCond .ne 4, 3) := by decide +kernel
theorem dX12_one_121 : decode cX12_one 121 = .ok (.return_, 1) := by decide +kernel
theorem dX12_one_122 : decode cX12_one 122 = .ok (.aload_n 0, 1) := by decide +kernel
theorem dX12_one_123 : decode cX12_one 123 = .ok (.invokevirtual 219, 3) := by decide +kernel
theorem dX12_one_126 : decode cX12_one 126 = .ok (.aload_n 0, 1) := by decide +kernel
theorem dX12_one_127 : decode cX12_one 127 = .ok (.bipush 41, 2) := by decide +kernel
theorem dX12_one_129 : decode cX12_one 129 = .ok (.invokevirtual 210, 3) := by decide +kernel
theorem dX12_one_132 : decode cX12_one 132 = .ok (.ifCond .ne 8, 3) := by decide +kernel
theorem dX12_one_135 : decode cX12_one 135 = .ok (.aload_n 0, 1) := by decide +kernel
theorem dX12_one_136 : decode cX12_one 136 = .ok (.invokevirtual 184, 3) := by decide +kernel
theorem dX12_one_139 : decode cX12_one 139 = .ok (.return_, 1) := by decide +kernel
theorem dX12_one_140 : decode cX12_one 140 = .ok (.aload_n 0, 1) := by decide +kernel
theorem dX12_one_141 : decode cX12_one 141 = .ok (.dup, 1) := by decide +kernel
theorem dX12_one_142 : decode cX12_one 142 = .ok (.getfield 181, 3) := by decide +kernel
theorem dX12_one_145 : decode cX12_one 145 = .ok (.iconst 1, 1) := by decide +kernel
theorem dX12_one_146 : decode cX12_one 146 = .ok (.isub, 1) := by decide +kernel
theorem dX12_one_147 : decode cX12_one 147 = .ok (.putfield 181, 3) := by decide +kernel
theorem dX12_one_150 : decode cX12_one 150 = .ok (.aload_n 0, 1) := by decide +kernel
theorem dX12_one_151 : decode cX12_one 151 = .ok (.invokevirtual 187, 3) := by decide +kernel
theorem dX12_one_154 : decode cX12_one 154 = .ok (.goto 7, 3) := by decide +kernel
theorem dX12_one_157 : decode cX12_one 157 = .ok (.aload_n 0, 1) := by decide +kernel
theorem dX12_one_158 : decode cX12_one 158 = .ok (.invokevirtual 184, 3) := by decide +kernel
theorem dX12_one_161 : decode cX12_one 161 = .ok (.return_, 1) := by decide +kernel
theorem dX12_rule_0 : decode cX12_rule 0 = .ok (.aload_n 0, 1) := by decide +kernel
theorem dX12_rule_1 : decode cX12_rule 1 = .ok (.bipush 10, 2) := by decide +kernel
theorem dX12_rule_3 : decode cX12_rule 3 = .ok (.iload_n 1, 1) := by decide +kernel
theorem dX12_rule_4 : decode cX12_rule 4 = .ok (.iadd, 1) := by decide +kernel
theorem dX12_rule_5 : decode cX12_rule 5 = .ok (.invokevirtual 193, 3) := by decide +kernel
theorem dX12_rule_8 : decode cX12_rule 8 = .ok (.ifCond .ne 8, 3) := by decide +kernel
theorem dX12_rule_11 : decode cX12_rule 11 = .ok (.aload_n 0, 1) := by decide +kernel
theorem dX12_rule_12 : decode cX12_rule 12 = .ok (.invokevirtual 184, 3) := by decide +kernel
theorem dX12_rule_15 : decode cX12_rule 15 = .ok (.return_, 1) := by decide +kernel
theorem dX12_rule_16 : decode cX12_rule 16 = .ok (.aload_n 0, 1) := by decide +kernel
theorem dX12_rule_17 : decode cX12_rule 17 = .ok (.invokevirtual 187, 3) := by decide +kernel
theorem dX12_rule_20 : decode cX12_rule 20 = .ok (.aload_n 0, 1) := by decide +kernel
theorem dX12_rule_21 : decode cX12_rule 21 = .ok (.invokevirtual 219, 3) := by decide +kernel
theorem dX12_rule_24 : decode cX12_rule 24 = .ok (.aload_n 0, 1) := by decide +kernel
theorem dX12_rule_25 : decode cX12_rule 25 = .ok (.bipush 59, 2) := by decide +kernel
theorem dX12_rule_27 : decode cX12_rule 27 = .ok (.invokevirtual 210, 3) := by decide +kernel
theorem dX12_rule_30 : decode cX12_rule 30 = .ok (.ifCond .ne 8, 3) := by decide +kernel
theorem dX12_rule_33 : decode cX12_rule 33 = .ok (.aload_n 0, 1) := by decide +kernel
theorem dX12_rule_34 : decode cX12_rule 34 = .ok (.invokevirtual 184, 3) := by decide +kernel
theorem dX12_rule_37 : decode cX12_rule 37 = .ok (.return_, 1) := by decide +kernel
theorem dX12_rule_38 : decode cX12_rule 38 = .ok (.aload_n 0, 1) := by decide +kernel
theorem dX12_rule_39 : decode cX12_rule 39 = .ok (.invokevirtual 187, 3) := by decide +kernel
theorem dX12_rule_42 : decode cX12_rule 42 = .ok (.aload_n 0, 1) := by decide +kernel
theorem dX12_rule_43 : decode cX12_rule 43 = .ok (.getfield 54, 3) := by decide +kernel
theorem dX12_rule_46 : decode cX12_rule 46 = .ok (.bipush 18, 2) := by decide +kernel
theorem dX12_rule_48 : decode cX12_rule 48 = .ok (.iload_n 1, 1) := by decide +kernel
theorem dX12_rule_49 : decode cX12_rule 49 = .ok (.iadd, 1) := by decide +kernel
theorem dX12_rule_50 : decode cX12_rule 50 = .ok (.aload_n 0, 1) := by decide +kernel
theorem dX12_rule_51 : decode cX12_rule 51 = .ok (.getfield 178, 3) := by decide +kernel
theorem dX12_rule_54 : decode cX12_rule 54 = .ok (.iastore, 1) := by decide +kernel
theorem dX12_rule_55 : decode cX12_rule 55 = .ok (.return_, 1) := by decide +kernel
theorem dX12_text_0 : decode cX12_text 0 = .ok (.aload_n 0, 1) := by decide +kernel
theorem dX12_text_1 : decode cX12_text 1 = .ok (.getfield 45, 3) := by decide +kernel
theorem dX12_text_4 : decode cX12_text 4 = .ok (.bipush 6, 2) := by decide +kernel
theorem dX12_text_6 : decode cX12_text 6 = .ok (.if_icmp .ne 6, 3) := by decide +kernel
theorem dX12_text_9 : decode cX12_text 9 = .ok (.bipush (-4), 2) := by decide +kernel
theorem dX12_text_11 : decode cX12_text 11 = .ok (.ireturn, 1) := by decide +kernel
theorem dX12_text_12 : decode cX12_text 12 = .ok (.aload_n 0, 1) := by decide +kernel
theorem dX12_text_13 : decode cX12_text 13 = .ok (.iconst 0, 1) := by decide +kernel
theorem dX12_text_14 : decode cX12_text 14 = .ok (.putfield 156, 3) := by decide +kernel
theorem dX12_text_17 : decode cX12_text 17 = .ok (.aload_n 0, 1) := by decide +kernel
theorem dX12_text_18 : decode cX12_text 18 = .ok (.iconst (-1), 1) := by decide +kernel
theorem dX12_text_19 : decode cX12_text 19 = .ok (.putfield 175, 3) := by decide +kernel
theorem dX12_text_22 : decode cX12_text 22 = .ok (.aload_n 0, 1) := by decide +kernel
theorem dX12_text_23 : decode cX12_text 23 = .ok (.iconst 0, 1) := by decide +kernel
theorem dX12_text_24 : decode cX12_text 24 = .ok (.putfield 181, 3) := by decide +kernel
theorem dX12_text_27 : decode cX12_text 27 = .ok (.aload_n 0, 1) := by decide +kernel
theorem dX12_text_28 : decode cX12_text 28 = .ok (.iconst 0, 1) := by decide +kernel
theorem dX12_text_29 : decode cX12_text 29 = .ok (.putfield 178, 3) := by decide +kernel
theorem dX12_text_32 : decode cX12_text 32 = .ok (.aload_n 0, 1) := by decide +kernel
theorem dX12_text_33 : decode cX12_text 33 = .ok (.invokevirtual 187, 3) := by decide +kernel
theorem dX12_text_36 : decode cX12_text 36 = .ok (.iconst 0, 1) := by decide +kernel
theorem dX12_text_37 : decode cX12_text 37 = .ok (.istore_n 1, 1) := by decide +kernel
theorem dX12_text_38 : decode cX12_text 38 = .ok (.iload_n 1, 1) := by decide +kernel
theorem dX12_text_39 : decode cX12_text 39 = .ok (.iconst 2, 1) := by decide +kernel
theorem dX12_text_40 : decode cX12_text 40 = .ok (.if_icmp .gt 21, 3) := by decide +kernel
theorem dX12_text_43 : decode cX12_text 43 = .ok (.aload_n 0, 1) := by decide +kernel
theorem dX12_text_44 : decode cX12_text 44 = .ok (.getfield 175, 3) := by decide +kernel
theorem dX12_text_47 : decode cX12_text 47 = .ok (.ifCond .ge 14, 3) := by decide +kernel
theorem dX12_text_50 : decode cX12_text 50 = .ok (.aload_n 0, 1) := by decide +kernel
theorem dX12_text_51 : decode cX12_text 51 = .ok (.iload_n 1, 1) := by decide +kernel
theorem dX12_text_52 : decode cX12_text 52 = .ok (.invokevirtual 222, 3) := by decide +kernel
theorem dX12_text_55 : decode cX12_text 55 = .ok (.iinc 1 1, 3) := by decide +kernel
theorem dX12_text_58 : decode cX12_text 58 = .ok (.goto (-20), 3) := by decide +kernel
theorem dX12_text_61 : decode cX12_text 61 = .ok (.aload_n 0, 1) := by decide +kernel
theorem dX12_text_62 : decode cX12_text 62 = .ok (.getfield 175, 3) := by decide +kernel
theorem dX12_text_65 : decode cX12_text 65 = .ok (.ifCond .ge 15, 3) := by decide +kernel
theorem dX12_text_68 : decode cX12_text 68 = .ok (.aload_n 0, 1) := by decide +kernel
theorem dX12_text_69 : decode cX12_text 69 = .ok (.getfield 159, 3) := by decide +kernel
theorem dX12_text_72 : decode cX12_text 72 = .ok (.iconst 4, 1) := by decide +kernel
theorem dX12_text_73 : decode cX12_text 73 = .ok (.if_icmp .eq 7, 3) := by decide +kernel
theorem dX12_text_76 : decode cX12_text 76 = .ok (.aload_n 0, 1) := by decide +kernel
theorem dX12_text_77 : decode cX12_text 77 = .ok (.invokevirtual 184, 3) := by decide +kernel
theorem dX12_text_80 : decode cX12_text 80 = .ok (.aload_n 0, 1) := by decide +kernel
theorem dX12_text_81 : decode cX12_text 81 = .ok (.iconst 0, 1) := by decide +kernel
theorem dX12_text_82 : decode cX12_text 82 = .ok (.putfield 150, 3) := by decide +kernel
theorem dX12_text_85 : decode cX12_text 85 = .ok (.aload_n 0, 1) := by decide +kernel
theorem dX12_text_86 : decode cX12_text 86 = .ok (.getfield 175, 3) := by decide +kernel
theorem dX12_text_89 : decode cX12_text 89 = .ok (.ifCond .lt 11, 3) := by decide +kernel
theorem dX12_text_92 : decode cX12_text 92 = .ok (.bipush (-100), 2) := by decide +kernel
theorem dX12_text_94 : decode cX12_text 94 = .ok (.aload_n 0, 1) := by decide +kernel
theorem dX12_text_95 : decode cX12_text 95 = .ok (.getfield 175, 3) := by decide +kernel
theorem dX12_text_98 : decode cX12_text 98 = .ok (.isub, 1) := by decide +kernel
theorem dX12_text_99 : decode cX12_text 99 = .ok (.ireturn, 1) := by decide +kernel
theorem dX12_text_100 : decode cX12_text 100 = .ok (.iconst 0, 1) := by decide +kernel
theorem dX12_text_101 : decode cX12_text 101 = .ok (.istore_n 1, 1) := by decide +kernel
theorem dX12_text_102 : decode cX12_text 102 = .ok (.iload_n 1, 1) := by decide +kernel
theorem dX12_text_103 : decode cX12_text 103 = .ok (.aload_n 0, 1) := by decide +kernel
theorem dX12_text_104 : decode cX12_text 104 = .ok (.getfield 178, 3) := by decide +kernel
theorem dX12_text_107 : decode cX12_text 107 = .ok (.if_icmp .ge 59, 3) := by decide +kernel
theorem dX12_text_110 : decode cX12_text 110 = .ok (.aload_n 0, 1) := by decide +kernel
theorem dX12_text_111 : decode cX12_text 111 = .ok (.getfield 48, 3) := by decide +kernel
theorem dX12_text_114 : decode cX12_text 114 = .ok (.sipush 170, 3) := by decide +kernel
theorem dX12_text_117 : decode cX12_text 117 = .ok (.aload_n 0, 1) := by decide +kernel
theorem dX12_text_118 : decode cX12_text 118 = .ok (.getfield 45, 3) := by decide +kernel
theorem dX12_text_121 : decode cX12_text 121 = .ok (.imul, 1) := by decide +kernel
theorem dX12_text_122 : decode cX12_text 122 = .ok (.iload_n 1, 1) := by decide +kernel
theorem dX12_text_123 : decode cX12_text 123 = .ok (.iadd, 1) := by decide +kernel
theorem dX12_text_124 : decode cX12_text 124 = .ok (.aload_n 0, 1) := by decide +kernel
theorem dX12_text_125 : decode cX12_text 125 = .ok (.getfield 48, 3) := by decide +kernel
theorem dX12_text_128 : decode cX12_text 128 = .ok (.sipush 1020, 3) := by decide +kernel
theorem dX12_text_131 : decode cX12_text 131 = .ok (.iload_n 1, 1) := by decide +kernel
theorem dX12_text_132 : decode cX12_text 132 = .ok (.iadd, 1) := by decide +kernel
theorem dX12_text_133 : decode cX12_text 133 = .ok (.iaload, 1) := by decide +kernel
theorem dX12_text_134 : decode cX12_text 134 = .ok (.iastore, 1) := by decide +kernel
theorem dX12_text_135 : decode cX12_text 135 = .ok (.aload_n 0, 1) := by decide +kernel
theorem dX12_text_136 : decode cX12_text 136 = .ok (.getfield 51, 3) := by decide +kernel
theorem dX12_text_139 : decode cX12_text 139 = .ok (.sipush 170, 3) := by decide +kernel
theorem dX12_text_142 : decode cX12_text 142 = .ok (.aload_n 0, 1) := by decide +kernel
theorem dX12_text_143 : decode cX12_text 143 = .ok (.getfield 45, 3) := by decide +kernel
theorem dX12_text_146 : decode cX12_text 146 = .ok (.imul, 1) := by decide +kernel
theorem dX12_text_147 : decode cX12_text 147 = .ok (.iload_n 1, 1) := by decide +kernel
theorem dX12_text_148 : decode cX12_text 148 = .ok (.iadd, 1) := by decide +kernel
theorem dX12_text_149 : decode cX12_text 149 = .ok (.aload_n 0, 1) := by decide +kernel
theorem dX12_text_150 : decode cX12_text 150 = .ok (.getfield 51, 3) := by decide +kernel
theorem dX12_text_153 : decode cX12_text 153 = .ok (.sipush 1020, 3) := by decide +kernel
theorem dX12_text_156 : decode cX12_text 156 = .ok (.iload_n 1, 1) := by decide +kernel
theorem dX12_text_157 : decode cX12_text 157 = .ok (.iadd, 1) := by decide +kernel
theorem dX12_text_158 : decode cX12_text 158 = .ok (.iaload, 1) := by decide +kernel
theorem dX12_text_159 : decode cX12_text 159 = .ok (.iastore, 1) := by decide +kernel
theorem dX12_text_160 : decode cX12_text 160 = .ok (.iinc 1 1, 3) := by decide +kernel
theorem dX12_text_163 : decode cX12_text 163 = .ok (.goto (-61), 3) := by decide +kernel
theorem dX12_text_166 : decode cX12_text 166 = .ok (.iconst 0, 1) := by decide +kernel
theorem dX12_text_167 : decode cX12_text 167 = .ok (.istore_n 1, 1) := by decide +kernel
theorem dX12_text_168 : decode cX12_text 168 = .ok (.iload_n 1, 1) := by decide +kernel
theorem dX12_text_169 : decode cX12_text 169 = .ok (.iconst 3, 1) := by decide +kernel
theorem dX12_text_170 : decode cX12_text 170 = .ok (.if_icmp .ge 31, 3) := by decide +kernel
theorem dX12_text_173 : decode cX12_text 173 = .ok (.aload_n 0, 1) := by decide +kernel
theorem dX12_text_174 : decode cX12_text 174 = .ok (.getfield 54, 3) := by decide +kernel
theorem dX12_text_177 : decode cX12_text 177 = .ok (.iconst 3, 1) := by decide +kernel
theorem dX12_text_178 : decode cX12_text 178 = .ok (.aload_n 0, 1) := by decide +kernel
theorem dX12_text_179 : decode cX12_text 179 = .ok (.getfield 45, 3) := by decide +kernel
theorem dX12_text_182 : decode cX12_text 182 = .ok (.imul, 1) := by decide +kernel
theorem dX12_text_183 : decode cX12_text 183 = .ok (.iload_n 1, 1) := by decide +kernel
theorem dX12_text_184 : decode cX12_text 184 = .ok (.iadd, 1) := by decide +kernel
theorem dX12_text_185 : decode cX12_text 185 = .ok (.aload_n 0, 1) := by decide +kernel
theorem dX12_text_186 : decode cX12_text 186 = .ok (.getfield 54, 3) := by decide +kernel
theorem dX12_text_189 : decode cX12_text 189 = .ok (.bipush 18, 2) := by decide +kernel
theorem dX12_text_191 : decode cX12_text 191 = .ok (.iload_n 1, 1) := by decide +kernel
theorem dX12_text_192 : decode cX12_text 192 = .ok (.iadd, 1) := by decide +kernel
theorem dX12_text_193 : decode cX12_text 193 = .ok (.iaload, 1) := by decide +kernel
theorem dX12_text_194 : decode cX12_text 194 = .ok (.iastore, 1) := by decide +kernel
theorem dX12_text_195 : decode cX12_text 195 = .ok (.iinc 1 1, 3) := by decide +kernel
theorem dX12_text_198 : decode cX12_text 198 = .ok (.goto (-30), 3) := by decide +kernel
theorem dX12_text_201 : decode cX12_text 201 = .ok (.aload_n 0, 1) := by decide +kernel
theorem dX12_text_202 : decode cX12_text 202 = .ok (.dup, 1) := by decide +kernel
theorem dX12_text_203 : decode cX12_text 203 = .ok (.getfield 45, 3) := by decide +kernel
theorem dX12_text_206 : decode cX12_text 206 = .ok (.iconst 1, 1) := by decide +kernel
theorem dX12_text_207 : decode cX12_text 207 = .ok (.iadd, 1) := by decide +kernel
theorem dX12_text_208 : decode cX12_text 208 = .ok (.putfield 45, 3) := by decide +kernel
theorem dX12_text_211 : decode cX12_text 211 = .ok (.aload_n 0, 1) := by decide +kernel
theorem dX12_text_212 : decode cX12_text 212 = .ok (.getfield 45, 3) := by decide +kernel
theorem dX12_text_215 : decode cX12_text 215 = .ok (.iconst 1, 1) := by decide +kernel
theorem dX12_text_216 : decode cX12_text 216 = .ok (.isub, 1) := by decide +kernel
theorem dX12_text_217 : decode cX12_text 217 = .ok (.ireturn, 1) := by decide +kernel
theorem dX12_force_0 : decode cX12_force 0 = .ok (.iload_n 1, 1) := by decide +kernel
theorem dX12_force_1 : decode cX12_force 1 = .ok (.iconst 0, 1) := by decide +kernel
theorem dX12_force_2 : decode cX12_force 2 = .ok (.aload_n 0, 1) := by decide +kernel
theorem dX12_force_3 : decode cX12_force 3 = .ok (.getfield 45, 3) := by decide +kernel
theorem dX12_force_6 : decode cX12_force 6 = .ok (.iconst 1, 1) := by decide +kernel
theorem dX12_force_7 : decode cX12_force 7 = .ok (.isub, 1) := by decide +kernel
theorem dX12_force_8 : decode cX12_force 8 = .ok (.invokestatic 127, 3) := by decide +kernel
theorem dX12_force_11 : decode cX12_force 11 = .ok (.ifCond .ne 6, 3) := by decide +kernel
theorem dX12_force_14 : decode cX12_force 14 = .ok (.bipush (-2), 2) := by decide +kernel
theorem dX12_force_16 : decode cX12_force 16 = .ok (.ireturn, 1) := by decide +kernel
theorem dX12_force_17 : decode cX12_force 17 = .ok (.aload_n 0, 1) := by decide +kernel
theorem dX12_force_18 : decode cX12_force 18 = .ok (.getfield 226, 3) := by decide +kernel
theorem dX12_force_21 : decode cX12_force 21 = .ok (.istore_n 2, 1) := by decide +kernel
theorem dX12_force_22 : decode cX12_force 22 = .ok (.aload_n 0, 1) := by decide +kernel
theorem dX12_force_23 : decode cX12_force 23 = .ok (.iload_n 1, 1) := by decide +kernel
theorem dX12_force_24 : decode cX12_force 24 = .ok (.putfield 226, 3) := by decide +kernel
theorem dX12_force_27 : decode cX12_force 27 = .ok (.iload_n 2, 1) := by decide +kernel
theorem dX12_force_28 : decode cX12_force 28 = .ok (.ireturn, 1) := by decide +kernel
theorem dX12_twoOf_0 : decode cX12_twoOf 0 = .ok (.iload_n 0, 1) := by decide +kernel
theorem dX12_twoOf_1 : decode cX12_twoOf 1 = .ok (.lookupswitch 117 #[(5, 59), (6, 73), (43, 109), (45, 113), (60, 87), (61, 98)], 59) := by decide +kernel
theorem dX12_twoOf_60 : decode cX12_twoOf 60 = .ok (.iload_n 1, 1) := by decide +kernel
theorem dX12_twoOf_61 : decode cX12_twoOf 61 = .ok (.ifCond .ne 7, 3) := by decide +kernel
theorem dX12_twoOf_64 : decode cX12_twoOf 64 = .ok (.iload_n 2, 1) := by decide +kernel
theorem dX12_twoOf_65 : decode cX12_twoOf 65 = .ok (.ifCond .eq 7, 3) := by decide +kernel
theorem dX12_twoOf_68 : decode cX12_twoOf 68 = .ok (.iconst 1, 1) := by decide +kernel
theorem dX12_twoOf_69 : decode cX12_twoOf 69 = .ok (.goto 4, 3) := by decide +kernel
theorem dX12_twoOf_72 : decode cX12_twoOf 72 = .ok (.iconst 0, 1) := by decide +kernel
theorem dX12_twoOf_73 : decode cX12_twoOf 73 = .ok (.ireturn, 1) := by decide +kernel
theorem dX12_twoOf_74 : decode cX12_twoOf 74 = .ok (.iload_n 1, 1) := by decide +kernel
theorem dX12_twoOf_75 : decode cX12_twoOf 75 = .ok (.ifCond .eq 11, 3) := by decide +kernel
theorem dX12_twoOf_78 : decode cX12_twoOf 78 = .ok (.iload_n 2, 1) := by decide +kernel
theorem dX12_twoOf_79 : decode cX12_twoOf 79 = .ok (.ifCond .eq 7, 3) := by decide +kernel
theorem dX12_twoOf_82 : decode cX12_twoOf 82 = .ok (.iconst 1, 1) := by decide +kernel
theorem dX12_twoOf_83 : decode cX12_twoOf 83 = .ok (.goto 4, 3) := by decide +kernel
theorem dX12_twoOf_86 : decode cX12_twoOf 86 = .ok (.iconst 0, 1) := by decide +kernel
theorem dX12_twoOf_87 : decode cX12_twoOf 87 = .ok (.ireturn, 1) := by decide +kernel
theorem dX12_twoOf_88 : decode cX12_twoOf 88 = .ok (.iload_n 1, 1) := by decide +kernel
theorem dX12_twoOf_89 : decode cX12_twoOf 89 = .ok (.iload_n 2, 1) := by decide +kernel
theorem dX12_twoOf_90 : decode cX12_twoOf 90 = .ok (.if_icmp .ge 7, 3) := by decide +kernel
theorem dX12_twoOf_93 : decode cX12_twoOf 93 = .ok (.iconst 1, 1) := by decide +kernel
theorem dX12_twoOf_94 : decode cX12_twoOf 94 = .ok (.goto 4, 3) := by decide +kernel
theorem dX12_twoOf_97 : decode cX12_twoOf 97 = .ok (.iconst 0, 1) := by decide +kernel
theorem dX12_twoOf_98 : decode cX12_twoOf 98 = .ok (.ireturn, 1) := by decide +kernel
theorem dX12_twoOf_99 : decode cX12_twoOf 99 = .ok (.iload_n 1, 1) := by decide +kernel
theorem dX12_twoOf_100 : decode cX12_twoOf 100 = .ok (.iload_n 2, 1) := by decide +kernel
theorem dX12_twoOf_101 : decode cX12_twoOf 101 = .ok (.if_icmp .ne 7, 3) := by decide +kernel
theorem dX12_twoOf_104 : decode cX12_twoOf 104 = .ok (.iconst 1, 1) := by decide +kernel
theorem dX12_twoOf_105 : decode cX12_twoOf 105 = .ok (.goto 4, 3) := by decide +kernel
theorem dX12_twoOf_108 : decode cX12_twoOf 108 = .ok (.iconst 0, 1) := by decide +kernel
theorem dX12_twoOf_109 : decode cX12_twoOf 109 = .ok (.ireturn, 1) := by decide +kernel
theorem dX12_twoOf_110 : decode cX12_twoOf 110 = .ok (.iload_n 1, 1) := by decide +kernel
theorem dX12_twoOf_111 : decode cX12_twoOf 111 = .ok (.iload_n 2, 1) := by decide +kernel
theorem dX12_twoOf_112 : decode cX12_twoOf 112 = .ok (.iadd, 1) := by decide +kernel
theorem dX12_twoOf_113 : decode cX12_twoOf 113 = .ok (.ireturn, 1) := by decide +kernel
theorem dX12_twoOf_114 : decode cX12_twoOf 114 = .ok (.iload_n 1, 1) := by decide +kernel
theorem dX12_twoOf_115 : decode cX12_twoOf 115 = .ok (.iload_n 2, 1) := by decide +kernel
theorem dX12_twoOf_116 : decode cX12_twoOf 116 = .ok (.isub, 1) := by decide +kernel
theorem dX12_twoOf_117 : decode cX12_twoOf 117 = .ok (.ireturn, 1) := by decide +kernel
theorem dX12_twoOf_118 : decode cX12_twoOf 118 = .ok (.iload_n 1, 1) := by decide +kernel
theorem dX12_twoOf_119 : decode cX12_twoOf 119 = .ok (.iload_n 2, 1) := by decide +kernel
theorem dX12_twoOf_120 : decode cX12_twoOf 120 = .ok (.imul, 1) := by decide +kernel
theorem dX12_twoOf_121 : decode cX12_twoOf 121 = .ok (.ireturn, 1) := by decide +kernel
theorem dX12_gives_0 : decode cX12_gives 0 = .ok (.aload_n 0, 1) := by decide +kernel
theorem dX12_gives_1 : decode cX12_gives 1 = .ok (.getfield 226, 3) := by decide +kernel
theorem dX12_gives_4 : decode cX12_gives 4 = .ok (.ifCond .ne 37, 3) := by decide +kernel
theorem dX12_gives_7 : decode cX12_gives 7 = .ok (.iload_n 1, 1) := by decide +kernel
theorem dX12_gives_8 : decode cX12_gives 8 = .ok (.ifCond .ne 7, 3) := by decide +kernel
theorem dX12_gives_11 : decode cX12_gives 11 = .ok (.iconst 0, 1) := by decide +kernel
theorem dX12_gives_12 : decode cX12_gives 12 = .ok (.goto 28, 3) := by decide +kernel
theorem dX12_gives_15 : decode cX12_gives 15 = .ok (.iload_n 1, 1) := by decide +kernel
theorem dX12_gives_16 : decode cX12_gives 16 = .ok (.iconst 2, 1) := by decide +kernel
theorem dX12_gives_17 : decode cX12_gives 17 = .ok (.if_icmp .ne 7, 3) := by decide +kernel
theorem dX12_gives_20 : decode cX12_gives 20 = .ok (.iconst 1, 1) := by decide +kernel
theorem dX12_gives_21 : decode cX12_gives 21 = .ok (.goto 19, 3) := by decide +kernel
theorem dX12_gives_24 : decode cX12_gives 24 = .ok (.bipush 8, 2) := by decide +kernel
theorem dX12_gives_26 : decode cX12_gives 26 = .ok (.aload_n 0, 1) := by decide +kernel
theorem dX12_gives_27 : decode cX12_gives 27 = .ok (.getfield 60, 3) := by decide +kernel
theorem dX12_gives_30 : decode cX12_gives 30 = .ok (.iconst 0, 1) := by decide +kernel
theorem dX12_gives_31 : decode cX12_gives 31 = .ok (.iaload, 1) := by decide +kernel
theorem dX12_gives_32 : decode cX12_gives 32 = .ok (.if_icmp .ge 7, 3) := by decide +kernel
theorem dX12_gives_35 : decode cX12_gives 35 = .ok (.iconst 1, 1) := by decide +kernel
theorem dX12_gives_36 : decode cX12_gives 36 = .ok (.goto 4, 3) := by decide +kernel
theorem dX12_gives_39 : decode cX12_gives 39 = .ok (.iconst 0, 1) := by decide +kernel
theorem dX12_gives_40 : decode cX12_gives 40 = .ok (.ireturn, 1) := by decide +kernel
theorem dX12_gives_41 : decode cX12_gives 41 = .ok (.iconst 0, 1) := by decide +kernel
theorem dX12_gives_42 : decode cX12_gives 42 = .ok (.istore_n 2, 1) := by decide +kernel
theorem dX12_gives_43 : decode cX12_gives 43 = .ok (.iload_n 1, 1) := by decide +kernel
theorem dX12_gives_44 : decode cX12_gives 44 = .ok (.ifCond .ne 7, 3) := by decide +kernel
theorem dX12_gives_47 : decode cX12_gives 47 = .ok (.iconst 0, 1) := by decide +kernel
theorem dX12_gives_48 : decode cX12_gives 48 = .ok (.goto 18, 3) := by decide +kernel
theorem dX12_gives_51 : decode cX12_gives 51 = .ok (.aload_n 0, 1) := by decide +kernel
theorem dX12_gives_52 : decode cX12_gives 52 = .ok (.getfield 54, 3) := by decide +kernel
theorem dX12_gives_55 : decode cX12_gives 55 = .ok (.iconst 3, 1) := by decide +kernel
theorem dX12_gives_56 : decode cX12_gives 56 = .ok (.aload_n 0, 1) := by decide +kernel
theorem dX12_gives_57 : decode cX12_gives 57 = .ok (.getfield 226, 3) := by decide +kernel
theorem dX12_gives_60 : decode cX12_gives 60 = .ok (.imul, 1) := by decide +kernel
theorem dX12_gives_61 : decode cX12_gives 61 = .ok (.iload_n 1, 1) := by decide +kernel
theorem dX12_gives_62 : decode cX12_gives 62 = .ok (.iadd, 1) := by decide +kernel
theorem dX12_gives_63 : decode cX12_gives 63 = .ok (.iconst 1, 1) := by decide +kernel
theorem dX12_gives_64 : decode cX12_gives 64 = .ok (.isub, 1) := by decide +kernel
theorem dX12_gives_65 : decode cX12_gives 65 = .ok (.iaload, 1) := by decide +kernel
theorem dX12_gives_66 : decode cX12_gives 66 = .ok (.istore_n 3, 1) := by decide +kernel
theorem dX12_gives_67 : decode cX12_gives 67 = .ok (.sipush 170, 3) := by decide +kernel
theorem dX12_gives_70 : decode cX12_gives 70 = .ok (.aload_n 0, 1) := by decide +kernel
theorem dX12_gives_71 : decode cX12_gives 71 = .ok (.getfield 226, 3) := by decide +kernel
theorem dX12_gives_74 : decode cX12_gives 74 = .ok (.imul, 1) := by decide +kernel
theorem dX12_gives_75 : decode cX12_gives 75 = .ok (.iload_n 3, 1) := by decide +kernel
theorem dX12_gives_76 : decode cX12_gives 76 = .ok (.iadd, 1) := by decide +kernel
theorem dX12_gives_77 : decode cX12_gives 77 = .ok (.istore 4, 2) := by decide +kernel
theorem dX12_gives_79 : decode cX12_gives 79 = .ok (.iload 4, 2) := by decide +kernel
theorem dX12_gives_81 : decode cX12_gives 81 = .ok (.sipush 170, 3) := by decide +kernel
theorem dX12_gives_84 : decode cX12_gives 84 = .ok (.aload_n 0, 1) := by decide +kernel
theorem dX12_gives_85 : decode cX12_gives 85 = .ok (.getfield 226, 3) := by decide +kernel
theorem dX12_gives_88 : decode cX12_gives 88 = .ok (.imul, 1) := by decide +kernel
theorem dX12_gives_89 : decode cX12_gives 89 = .ok (.aload_n 0, 1) := by decide +kernel
theorem dX12_gives_90 : decode cX12_gives 90 = .ok (.getfield 54, 3) := by decide +kernel
theorem dX12_gives_93 : decode cX12_gives 93 = .ok (.iconst 3, 1) := by decide +kernel
theorem dX12_gives_94 : decode cX12_gives 94 = .ok (.aload_n 0, 1) := by decide +kernel
theorem dX12_gives_95 : decode cX12_gives 95 = .ok (.getfield 226, 3) := by decide +kernel
theorem dX12_gives_98 : decode cX12_gives 98 = .ok (.imul, 1) := by decide +kernel
theorem dX12_gives_99 : decode cX12_gives 99 = .ok (.iload_n 1, 1) := by decide +kernel
theorem dX12_gives_100 : decode cX12_gives 100 = .ok (.iadd, 1) := by decide +kernel
theorem dX12_gives_101 : decode cX12_gives 101 = .ok (.iaload, 1) := by decide +kernel
theorem dX12_gives_102 : decode cX12_gives 102 = .ok (.iadd, 1) := by decide +kernel
theorem dX12_gives_103 : decode cX12_gives 103 = .ok (.if_icmp .ge 174, 3) := by decide +kernel
theorem dX12_gives_106 : decode cX12_gives 106 = .ok (.aload_n 0, 1) := by decide +kernel
theorem dX12_gives_107 : decode cX12_gives 107 = .ok (.getfield 48, 3) := by decide +kernel
theorem dX12_gives_110 : decode cX12_gives 110 = .ok (.iload 4, 2) := by decide +kernel
theorem dX12_gives_112 : decode cX12_gives 112 = .ok (.iaload, 1) := by decide +kernel
theorem dX12_gives_113 : decode cX12_gives 113 = .ok (.tableswitch 121 1 4 #[31, 50, 74, 101], 31) := by decide +kernel
theorem dX12_gives_144 : decode cX12_gives 144 = .ok (.aload_n 0, 1) := by decide +kernel
theorem dX12_gives_145 : decode cX12_gives 145 = .ok (.getfield 57, 3) := by decide +kernel
theorem dX12_gives_148 : decode cX12_gives 148 = .ok (.iload_n 2, 1) := by decide +kernel
theorem dX12_gives_149 : decode cX12_gives 149 = .ok (.aload_n 0, 1) := by decide +kernel
theorem dX12_gives_150 : decode cX12_gives 150 = .ok (.getfield 51, 3) := by decide +kernel
theorem dX12_gives_153 : decode cX12_gives 153 = .ok (.iload 4, 2) := by decide +kernel
theorem dX12_gives_155 : decode cX12_gives 155 = .ok (.iaload, 1) := by decide +kernel
theorem dX12_gives_156 : decode cX12_gives 156 = .ok (.iastore, 1) := by decide +kernel
theorem dX12_gives_157 : decode cX12_gives 157 = .ok (.iinc 2 1, 3) := by decide +kernel
theorem dX12_gives_160 : decode cX12_gives 160 = .ok (.goto 111, 3) := by decide +kernel
theorem dX12_gives_163 : decode cX12_gives 163 = .ok (.aload_n 0, 1) := by decide +kernel
theorem dX12_gives_164 : decode cX12_gives 164 = .ok (.getfield 57, 3) := by decide +kernel
theorem dX12_gives_167 : decode cX12_gives 167 = .ok (.iload_n 2, 1) := by decide +kernel
theorem dX12_gives_168 : decode cX12_gives 168 = .ok (.aload_n 0, 1) := by decide +kernel
theorem dX12_gives_169 : decode cX12_gives 169 = .ok (.getfield 60, 3) := by decide +kernel
theorem dX12_gives_172 : decode cX12_gives 172 = .ok (.aload_n 0, 1) := by decide +kernel
theorem dX12_gives_173 : decode cX12_gives 173 = .ok (.getfield 51, 3) := by decide +kernel
theorem dX12_gives_176 : decode cX12_gives 176 = .ok (.iload 4, 2) := by decide +kernel
theorem dX12_gives_178 : decode cX12_gives 178 = .ok (.iaload, 1) := by decide +kernel
theorem dX12_gives_179 : decode cX12_gives 179 = .ok (.iaload, 1) := by decide +kernel
theorem dX12_gives_180 : decode cX12_gives 180 = .ok (.iastore, 1) := by decide +kernel
theorem dX12_gives_181 : decode cX12_gives 181 = .ok (.iinc 2 1, 3) := by decide +kernel
theorem dX12_gives_184 : decode cX12_gives 184 = .ok (.goto 87, 3) := by decide +kernel
theorem dX12_gives_187 : decode cX12_gives 187 = .ok (.aload_n 0, 1) := by decide +kernel
theorem dX12_gives_188 : decode cX12_gives 188 = .ok (.getfield 57, 3) := by decide +kernel
theorem dX12_gives_191 : decode cX12_gives 191 = .ok (.iload_n 2, 1) := by decide +kernel
theorem dX12_gives_192 : decode cX12_gives 192 = .ok (.iconst 1, 1) := by decide +kernel
theorem dX12_gives_193 : decode cX12_gives 193 = .ok (.isub, 1) := by decide +kernel
theorem dX12_gives_194 : decode cX12_gives 194 = .ok (.aload_n 0, 1) := by decide +kernel
theorem dX12_gives_195 : decode cX12_gives 195 = .ok (.getfield 57, 3) := by decide +kernel
theorem dX12_gives_198 : decode cX12_gives 198 = .ok (.iload_n 2, 1) := by decide +kernel
theorem dX12_gives_199 : decode cX12_gives 199 = .ok (.iconst 1, 1) := by decide +kernel
theorem dX12_gives_200 : decode cX12_gives 200 = .ok (.isub, 1) := by decide +kernel
theorem dX12_gives_201 : decode cX12_gives 201 = .ok (.iaload, 1) := by decide +kernel
theorem dX12_gives_202 : decode cX12_gives 202 = .ok (.ifCond .ne 7, 3) := by decide +kernel
theorem dX12_gives_205 : decode cX12_gives 205 = .ok (.iconst 1, 1) := by decide +kernel
theorem dX12_gives_206 : decode cX12_gives 206 = .ok (.goto 4, 3) := by decide +kernel
theorem dX12_gives_209 : decode cX12_gives 209 = .ok (.iconst 0, 1) := by decide +kernel
theorem dX12_gives_210 : decode cX12_gives 210 = .ok (.iastore, 1) := by decide +kernel
theorem dX12_gives_211 : decode cX12_gives 211 = .ok (.goto 60, 3) := by decide +kernel
theorem dX12_gives_214 : decode cX12_gives 214 = .ok (.aload_n 0, 1) := by decide +kernel
theorem dX12_gives_215 : decode cX12_gives 215 = .ok (.getfield 57, 3) := by decide +kernel
theorem dX12_gives_218 : decode cX12_gives 218 = .ok (.iload_n 2, 1) := by decide +kernel
theorem dX12_gives_219 : decode cX12_gives 219 = .ok (.iconst 1, 1) := by decide +kernel
theorem dX12_gives_220 : decode cX12_gives 220 = .ok (.isub, 1) := by decide +kernel
theorem dX12_gives_221 : decode cX12_gives 221 = .ok (.aload_n 0, 1) := by decide +kernel
theorem dX12_gives_222 : decode cX12_gives 222 = .ok (.getfield 57, 3) := by decide +kernel
theorem dX12_gives_225 : decode cX12_gives 225 = .ok (.iload_n 2, 1) := by decide +kernel
theorem dX12_gives_226 : decode cX12_gives 226 = .ok (.iconst 1, 1) := by decide +kernel
theorem dX12_gives_227 : decode cX12_gives 227 = .ok (.isub, 1) := by decide +kernel
theorem dX12_gives_228 : decode cX12_gives 228 = .ok (.iaload, 1) := by decide +kernel
theorem dX12_gives_229 : decode cX12_gives 229 = .ok (.ineg, 1) := by decide +kernel
theorem dX12_gives_230 : decode cX12_gives 230 = .ok (.iastore, 1) := by decide +kernel
theorem dX12_gives_231 : decode cX12_gives 231 = .ok (.goto 40, 3) := by decide +kernel
theorem dX12_gives_234 : decode cX12_gives 234 = .ok (.aload_n 0, 1) := by decide +kernel
theorem dX12_gives_235 : decode cX12_gives 235 = .ok (.getfield 57, 3) := by decide +kernel
theorem dX12_gives_238 : decode cX12_gives 238 = .ok (.iload_n 2, 1) := by decide +kernel
theorem dX12_gives_239 : decode cX12_gives 239 = .ok (.iconst 2, 1) := by decide +kernel
theorem dX12_gives_240 : decode cX12_gives 240 = .ok (.isub, 1) := by decide +kernel
theorem dX12_gives_241 : decode cX12_gives 241 = .ok (.aload_n 0, 1) := by decide +kernel
theorem dX12_gives_242 : decode cX12_gives 242 = .ok (.getfield 48, 3) := by decide +kernel
theorem dX12_gives_245 : decode cX12_gives 245 = .ok (.iload 4, 2) := by decide +kernel
theorem dX12_gives_247 : decode cX12_gives 247 = .ok (.iaload, 1) := by decide +kernel
theorem dX12_gives_248 : decode cX12_gives 248 = .ok (.aload_n 0, 1) := by decide +kernel
theorem dX12_gives_249 : decode cX12_gives 249 = .ok (.getfield 57, 3) := by decide +kernel
theorem dX12_gives_252 : decode cX12_gives 252 = .ok (.iload_n 2, 1) := by decide +kernel
theorem dX12_gives_253 : decode cX12_gives 253 = .ok (.iconst 2, 1) := by decide +kernel
theorem dX12_gives_254 : decode cX12_gives 254 = .ok (.isub, 1) := by decide +kernel
theorem dX12_gives_255 : decode cX12_gives 255 = .ok (.iaload, 1) := by decide +kernel
theorem dX12_gives_256 : decode cX12_gives 256 = .ok (.aload_n 0, 1) := by decide +kernel
theorem dX12_gives_257 : decode cX12_gives 257 = .ok (.getfield 57, 3) := by decide +kernel
theorem dX12_gives_260 : decode cX12_gives 260 = .ok (.iload_n 2, 1) := by decide +kernel
theorem dX12_gives_261 : decode cX12_gives 261 = .ok (.iconst 1, 1) := by decide +kernel
theorem dX12_gives_262 : decode cX12_gives 262 = .ok (.isub, 1) := by decide +kernel
theorem dX12_gives_263 : decode cX12_gives 263 = .ok (.iaload, 1) := by decide +kernel
theorem dX12_gives_264 : decode cX12_gives 264 = .ok (.invokestatic 229, 3) := by decide +kernel
theorem dX12_gives_267 : decode cX12_gives 267 = .ok (.iastore, 1) := by decide +kernel
theorem dX12_gives_268 : decode cX12_gives 268 = .ok (.iinc 2 (-1), 3) := by decide +kernel
theorem dX12_gives_271 : decode cX12_gives 271 = .ok (.iinc 4 1, 3) := by decide +kernel
theorem dX12_gives_274 : decode cX12_gives 274 = .ok (.goto (-195), 3) := by decide +kernel
theorem dX12_gives_277 : decode cX12_gives 277 = .ok (.aload_n 0, 1) := by decide +kernel
theorem dX12_gives_278 : decode cX12_gives 278 = .ok (.getfield 57, 3) := by decide +kernel
theorem dX12_gives_281 : decode cX12_gives 281 = .ok (.iconst 0, 1) := by decide +kernel
theorem dX12_gives_282 : decode cX12_gives 282 = .ok (.iaload, 1) := by decide +kernel
theorem dX12_gives_283 : decode cX12_gives 283 = .ok (.ireturn, 1) := by decide +kernel
theorem dX12_isWay_0 : decode cX12_isWay 0 = .ok (.iload_n 1, 1) := by decide +kernel
theorem dX12_isWay_1 : decode cX12_isWay 1 = .ok (.iconst 0, 1) := by decide +kernel
theorem dX12_isWay_2 : decode cX12_isWay 2 = .ok (.bipush 6, 2) := by decide +kernel
theorem dX12_isWay_4 : decode cX12_isWay 4 = .ok (.invokestatic 127, 3) := by decide +kernel
theorem dX12_isWay_7 : decode cX12_isWay 7 = .ok (.ireturn, 1) := by decide +kernel
theorem dX12_isMissing_0 : decode cX12_isMissing 0 = .ok (.iload_n 1, 1) := by decide +kernel
theorem dX12_isMissing_1 : decode cX12_isMissing 1 = .ok (.iconst 2, 1) := by decide +kernel
theorem dX12_isMissing_2 : decode cX12_isMissing 2 = .ok (.iconst 5, 1) := by decide +kernel
theorem dX12_isMissing_3 : decode cX12_isMissing 3 = .ok (.invokestatic 127, 3) := by decide +kernel
theorem dX12_isMissing_6 : decode cX12_isMissing 6 = .ok (.ifCond .eq 18, 3) := by decide +kernel
theorem dX12_isMissing_9 : decode cX12_isMissing 9 = .ok (.aload_n 0, 1) := by decide +kernel
theorem dX12_isMissing_10 : decode cX12_isMissing 10 = .ok (.getfield 109, 3) := by decide +kernel
theorem dX12_isMissing_13 : decode cX12_isMissing 13 = .ok (.iload_n 1, 1) := by decide +kernel
theorem dX12_isMissing_14 : decode cX12_isMissing 14 = .ok (.iconst 2, 1) := by decide +kernel
theorem dX12_isMissing_15 : decode cX12_isMissing 15 = .ok (.isub, 1) := by decide +kernel
theorem dX12_isMissing_16 : decode cX12_isMissing 16 = .ok (.iaload, 1) := by decide +kernel
theorem dX12_isMissing_17 : decode cX12_isMissing 17 = .ok (.ifCond .ge 7, 3) := by decide +kernel
theorem dX12_isMissing_20 : decode cX12_isMissing 20 = .ok (.iconst 1, 1) := by decide +kernel
theorem dX12_isMissing_21 : decode cX12_isMissing 21 = .ok (.goto 4, 3) := by decide +kernel
theorem dX12_isMissing_24 : decode cX12_isMissing 24 = .ok (.iconst 0, 1) := by decide +kernel
theorem dX12_isMissing_25 : decode cX12_isMissing 25 = .ok (.ireturn, 1) := by decide +kernel
theorem dX12_loudAt_0 : decode cX12_loudAt 0 = .ok (.aload_n 0, 1) := by decide +kernel
theorem dX12_loudAt_1 : decode cX12_loudAt 1 = .ok (.getfield 232, 3) := by decide +kernel
theorem dX12_loudAt_4 : decode cX12_loudAt 4 = .ok (.ifCond .ge 12, 3) := by decide +kernel
theorem dX12_loudAt_7 : decode cX12_loudAt 7 = .ok (.aload_n 0, 1) := by decide +kernel
theorem dX12_loudAt_8 : decode cX12_loudAt 8 = .ok (.getfield 13, 3) := by decide +kernel
theorem dX12_loudAt_11 : decode cX12_loudAt 11 = .ok (.iload_n 1, 1) := by decide +kernel
theorem dX12_loudAt_12 : decode cX12_loudAt 12 = .ok (.iaload, 1) := by decide +kernel
theorem dX12_loudAt_13 : decode cX12_loudAt 13 = .ok (.goto 7, 3) := by decide +kernel
theorem dX12_loudAt_16 : decode cX12_loudAt 16 = .ok (.aload_n 0, 1) := by decide +kernel
theorem dX12_loudAt_17 : decode cX12_loudAt 17 = .ok (.getfield 232, 3) := by decide +kernel
theorem dX12_loudAt_20 : decode cX12_loudAt 20 = .ok (.ireturn, 1) := by decide +kernel
theorem dX12_begin_0 : decode cX12_begin 0 = .ok (.iconst 0, 1) := by decide +kernel
theorem dX12_begin_1 : decode cX12_begin 1 = .ok (.istore_n 1, 1) := by decide +kernel
theorem dX12_begin_2 : decode cX12_begin 2 = .ok (.iload_n 1, 1) := by decide +kernel
theorem dX12_begin_3 : decode cX12_begin 3 = .ok (.aload_n 0, 1) := by decide +kernel
theorem dX12_begin_4 : decode cX12_begin 4 = .ok (.getfield 124, 3) := by decide +kernel
theorem dX12_begin_7 : decode cX12_begin 7 = .ok (.if_icmp .ge 30, 3) := by decide +kernel
theorem dX12_begin_10 : decode cX12_begin 10 = .ok (.aload_n 0, 1) := by decide +kernel
theorem dX12_begin_11 : decode cX12_begin 11 = .ok (.getfield 69, 3) := by decide +kernel
theorem dX12_begin_14 : decode cX12_begin 14 = .ok (.iload_n 1, 1) := by decide +kernel
theorem dX12_begin_15 : decode cX12_begin 15 = .ok (.iconst 0, 1) := by decide +kernel
theorem dX12_begin_16 : decode cX12_begin 16 = .ok (.iastore, 1) := by decide +kernel
theorem dX12_begin_17 : decode cX12_begin 17 = .ok (.aload_n 0, 1) := by decide +kernel
theorem dX12_begin_18 : decode cX12_begin 18 = .ok (.getfield 72, 3) := by decide +kernel
theorem dX12_begin_21 : decode cX12_begin 21 = .ok (.iload_n 1, 1) := by decide +kernel
theorem dX12_begin_22 : decode cX12_begin 22 = .ok (.iconst 0, 1) := by decide +kernel
theorem dX12_begin_23 : decode cX12_begin 23 = .ok (.iastore, 1) := by decide +kernel
theorem dX12_begin_24 : decode cX12_begin 24 = .ok (.aload_n 0, 1) := by decide +kernel
theorem dX12_begin_25 : decode cX12_begin 25 = .ok (.getfield 75, 3) := by decide +kernel
theorem dX12_begin_28 : decode cX12_begin 28 = .ok (.iload_n 1, 1) := by decide +kernel
theorem dX12_begin_29 : decode cX12_begin 29 = .ok (.iconst 0, 1) := by decide +kernel
theorem dX12_begin_30 : decode cX12_begin 30 = .ok (.iastore, 1) := by decide +kernel
theorem dX12_begin_31 : decode cX12_begin 31 = .ok (.iinc 1 1, 3) := by decide +kernel
theorem dX12_begin_34 : decode cX12_begin 34 = .ok (.goto (-32), 3) := by decide +kernel
theorem dX12_begin_37 : decode cX12_begin 37 = .ok (.aload_n 0, 1) := by decide +kernel
theorem dX12_begin_38 : decode cX12_begin 38 = .ok (.iconst (-1), 1) := by decide +kernel
theorem dX12_begin_39 : decode cX12_begin 39 = .ok (.putfield 235, 3) := by decide +kernel
theorem dX12_begin_42 : decode cX12_begin 42 = .ok (.aload_n 0, 1) := by decide +kernel
theorem dX12_begin_43 : decode cX12_begin 43 = .ok (.iconst (-1), 1) := by decide +kernel
theorem dX12_begin_44 : decode cX12_begin 44 = .ok (.putfield 238, 3) := by decide +kernel
theorem dX12_begin_47 : decode cX12_begin 47 = .ok (.aload_n 0, 1) := by decide +kernel
theorem dX12_begin_48 : decode cX12_begin 48 = .ok (.iconst (-1), 1) := by decide +kernel
theorem dX12_begin_49 : decode cX12_begin 49 = .ok (.putfield 232, 3) := by decide +kernel
theorem dX12_begin_52 : decode cX12_begin 52 = .ok (.return_, 1) := by decide +kernel
theorem dX12_isPlanned_0 : decode cX12_isPlanned 0 = .ok (.iconst 0, 1) := by decide +kernel
theorem dX12_isPlanned_1 : decode cX12_isPlanned 1 = .ok (.istore 4, 2) := by decide +kernel
theorem dX12_isPlanned_3 : decode cX12_isPlanned 3 = .ok (.iload 4, 2) := by decide +kernel
theorem dX12_isPlanned_5 : decode cX12_isPlanned 5 = .ok (.iconst 1, 1) := by decide +kernel
theorem dX12_isPlanned_6 : decode cX12_isPlanned 6 = .ok (.iadd, 1) := by decide +kernel
theorem dX12_isPlanned_7 : decode cX12_isPlanned 7 = .ok (.aload_n 0, 1) := by decide +kernel
theorem dX12_isPlanned_8 : decode cX12_isPlanned 8 = .ok (.getfield 112, 3) := by decide +kernel
theorem dX12_isPlanned_11 : decode cX12_isPlanned 11 = .ok (.iload_n 1, 1) := by decide +kernel
theorem dX12_isPlanned_12 : decode cX12_isPlanned 12 = .ok (.iaload, 1) := by decide +kernel
theorem dX12_isPlanned_13 : decode cX12_isPlanned 13 = .ok (.if_icmp .ge 45, 3) := by decide +kernel
theorem dX12_isPlanned_16 : decode cX12_isPlanned 16 = .ok (.aload_n 0, 1) := by decide +kernel
theorem dX12_isPlanned_17 : decode cX12_isPlanned 17 = .ok (.getfield 115, 3) := by decide +kernel
theorem dX12_isPlanned_20 : decode cX12_isPlanned 20 = .ok (.bipush 40, 2) := by decide +kernel
theorem dX12_isPlanned_22 : decode cX12_isPlanned 22 = .ok (.iload_n 1, 1) := by decide +kernel
theorem dX12_isPlanned_23 : decode cX12_isPlanned 23 = .ok (.imul, 1) := by decide +kernel
theorem dX12_isPlanned_24 : decode cX12_isPlanned 24 = .ok (.iload 4, 2) := by decide +kernel
theorem dX12_isPlanned_26 : decode cX12_isPlanned 26 = .ok (.iadd, 1) := by decide +kernel
theorem dX12_isPlanned_27 : decode cX12_isPlanned 27 = .ok (.iaload, 1) := by decide +kernel
theorem dX12_isPlanned_28 : decode cX12_isPlanned 28 = .ok (.iload_n 2, 1) := by decide +kernel
theorem dX12_isPlanned_29 : decode cX12_isPlanned 29 = .ok (.if_icmp .ne 23, 3) := by decide +kernel
theorem dX12_isPlanned_32 : decode cX12_isPlanned 32 = .ok (.aload_n 0, 1) := by decide +kernel
theorem dX12_isPlanned_33 : decode cX12_isPlanned 33 = .ok (.getfield 115, 3) := by decide +kernel
theorem dX12_isPlanned_36 : decode cX12_isPlanned 36 = .ok (.bipush 40, 2) := by decide +kernel
theorem dX12_isPlanned_38 : decode cX12_isPlanned 38 = .ok (.iload_n 1, 1) := by decide +kernel
theorem dX12_isPlanned_39 : decode cX12_isPlanned 39 = .ok (.imul, 1) := by decide +kernel
theorem dX12_isPlanned_40 : decode cX12_isPlanned 40 = .ok (.iload 4, 2) := by decide +kernel
theorem dX12_isPlanned_42 : decode cX12_isPlanned 42 = .ok (.iadd, 1) := by decide +kernel
theorem dX12_isPlanned_43 : decode cX12_isPlanned 43 = .ok (.iconst 1, 1) := by decide +kernel
theorem dX12_isPlanned_44 : decode cX12_isPlanned 44 = .ok (.iadd, 1) := by decide +kernel
theorem dX12_isPlanned_45 : decode cX12_isPlanned 45 = .ok (.iaload, 1) := by decide +kernel
theorem dX12_isPlanned_46 : decode cX12_isPlanned 46 = .ok (.iload_n 3, 1) := by decide +kernel
theorem dX12_isPlanned_47 : decode cX12_isPlanned 47 = .ok (.if_icmp .ne 5, 3) := by decide +kernel
theorem dX12_isPlanned_50 : decode cX12_isPlanned 50 = .ok (.iconst 1, 1) := by decide +kernel
theorem dX12_isPlanned_51 : decode cX12_isPlanned 51 = .ok (.ireturn, 1) := by decide +kernel
theorem dX12_isPlanned_52 : decode cX12_isPlanned 52 = .ok (.iinc 4 2, 3) := by decide +kernel
theorem dX12_isPlanned_55 : decode cX12_isPlanned 55 = .ok (.goto (-52), 3) := by decide +kernel
theorem dX12_isPlanned_58 : decode cX12_isPlanned 58 = .ok (.aload_n 0, 1) := by decide +kernel
theorem dX12_isPlanned_59 : decode cX12_isPlanned 59 = .ok (.getfield 238, 3) := by decide +kernel
theorem dX12_isPlanned_62 : decode cX12_isPlanned 62 = .ok (.iload_n 2, 1) := by decide +kernel
theorem dX12_isPlanned_63 : decode cX12_isPlanned 63 = .ok (.if_icmp .ne 15, 3) := by decide +kernel
theorem dX12_isPlanned_66 : decode cX12_isPlanned 66 = .ok (.aload_n 0, 1) := by decide +kernel
theorem dX12_isPlanned_67 : decode cX12_isPlanned 67 = .ok (.getfield 241, 3) := by decide +kernel
theorem dX12_isPlanned_70 : decode cX12_isPlanned 70 = .ok (.iload_n 3, 1) := by decide +kernel
theorem dX12_isPlanned_71 : decode cX12_isPlanned 71 = .ok (.if_icmp .ne 7, 3) := by decide +kernel
theorem dX12_isPlanned_74 : decode cX12_isPlanned 74 = .ok (.iconst 1, 1) := by decide +kernel
theorem dX12_isPlanned_75 : decode cX12_isPlanned 75 = .ok (.goto 4, 3) := by decide +kernel
theorem dX12_isPlanned_78 : decode cX12_isPlanned 78 = .ok (.iconst 0, 1) := by decide +kernel
theorem dX12_isPlanned_79 : decode cX12_isPlanned 79 = .ok (.ireturn, 1) := by decide +kernel
theorem dX12_findFacts_0 : decode cX12_findFacts 0 = .ok (.aload_n 0, 1) := by decide +kernel
theorem dX12_findFacts_1 : decode cX12_findFacts 1 = .ok (.getfield 60, 3) := by decide +kernel
theorem dX12_findFacts_4 : decode cX12_findFacts 4 = .ok (.iconst 0, 1) := by decide +kernel
theorem dX12_findFacts_5 : decode cX12_findFacts 5 = .ok (.aload_n 0, 1) := by decide +kernel
theorem dX12_findFacts_6 : decode cX12_findFacts 6 = .ok (.getfield 69, 3) := by decide +kernel
theorem dX12_findFacts_9 : decode cX12_findFacts 9 = .ok (.iload_n 1, 1) := by decide +kernel
theorem dX12_findFacts_10 : decode cX12_findFacts 10 = .ok (.iaload, 1) := by decide +kernel
theorem dX12_findFacts_11 : decode cX12_findFacts 11 = .ok (.iastore, 1) := by decide +kernel
theorem dX12_findFacts_12 : decode cX12_findFacts 12 = .ok (.aload_n 0, 1) := by decide +kernel
theorem dX12_findFacts_13 : decode cX12_findFacts 13 = .ok (.getfield 60, 3) := by decide +kernel
theorem dX12_findFacts_16 : decode cX12_findFacts 16 = .ok (.iconst 1, 1) := by decide +kernel
theorem dX12_findFacts_17 : decode cX12_findFacts 17 = .ok (.aload_n 0, 1) := by decide +kernel
theorem dX12_findFacts_18 : decode cX12_findFacts 18 = .ok (.iload_n 2, 1) := by decide +kernel
theorem dX12_findFacts_19 : decode cX12_findFacts 19 = .ok (.invokevirtual 244, 3) := by decide +kernel
theorem dX12_findFacts_22 : decode cX12_findFacts 22 = .ok (.iastore, 1) := by decide +kernel
theorem dX12_findFacts_23 : decode cX12_findFacts 23 = .ok (.aload_n 0, 1) := by decide +kernel
theorem dX12_findFacts_24 : decode cX12_findFacts 24 = .ok (.getfield 60, 3) := by decide +kernel
theorem dX12_findFacts_27 : decode cX12_findFacts 27 = .ok (.iconst 2, 1) := by decide +kernel
theorem dX12_findFacts_28 : decode cX12_findFacts 28 = .ok (.iload_n 2, 1) := by decide +kernel
theorem dX12_findFacts_29 : decode cX12_findFacts 29 = .ok (.iastore, 1) := by decide +kernel
theorem dX12_findFacts_30 : decode cX12_findFacts 30 = .ok (.aload_n 0, 1) := by decide +kernel
theorem dX12_findFacts_31 : decode cX12_findFacts 31 = .ok (.getfield 60, 3) := by decide +kernel
theorem dX12_findFacts_34 : decode cX12_findFacts 34 = .ok (.iconst 3, 1) := by decide +kernel
theorem dX12_findFacts_35 : decode cX12_findFacts 35 = .ok (.iconst 0, 1) := by decide +kernel
theorem dX12_findFacts_36 : decode cX12_findFacts 36 = .ok (.iastore, 1) := by decide +kernel
theorem dX12_findFacts_37 : decode cX12_findFacts 37 = .ok (.aload_n 0, 1) := by decide +kernel
theorem dX12_findFacts_38 : decode cX12_findFacts 38 = .ok (.getfield 60, 3) := by decide +kernel
theorem dX12_findFacts_41 : decode cX12_findFacts 41 = .ok (.iconst 4, 1) := by decide +kernel
theorem dX12_findFacts_42 : decode cX12_findFacts 42 = .ok (.iconst 0, 1) := by decide +kernel
theorem dX12_findFacts_43 : decode cX12_findFacts 43 = .ok (.iastore, 1) := by decide +kernel
theorem dX12_findFacts_44 : decode cX12_findFacts 44 = .ok (.aload_n 0, 1) := by decide +kernel
theorem dX12_findFacts_45 : decode cX12_findFacts 45 = .ok (.getfield 60, 3) := by decide +kernel
theorem dX12_findFacts_48 : decode cX12_findFacts 48 = .ok (.iconst 5, 1) := by decide +kernel
theorem dX12_findFacts_49 : decode cX12_findFacts 49 = .ok (.aload_n 0, 1) := by decide +kernel
theorem dX12_findFacts_50 : decode cX12_findFacts 50 = .ok (.getfield 75, 3) := by decide +kernel
theorem dX12_findFacts_53 : decode cX12_findFacts 53 = .ok (.iload_n 1, 1) := by decide +kernel
theorem dX12_findFacts_54 : decode cX12_findFacts 54 = .ok (.iaload, 1) := by decide +kernel
theorem dX12_findFacts_55 : decode cX12_findFacts 55 = .ok (.iastore, 1) := by decide +kernel
theorem dX12_findFacts_56 : decode cX12_findFacts 56 = .ok (.iconst 0, 1) := by decide +kernel
theorem dX12_findFacts_57 : decode cX12_findFacts 57 = .ok (.istore_n 3, 1) := by decide +kernel
theorem dX12_findFacts_58 : decode cX12_findFacts 58 = .ok (.iload_n 3, 1) := by decide +kernel
theorem dX12_findFacts_59 : decode cX12_findFacts 59 = .ok (.aload_n 0, 1) := by decide +kernel
theorem dX12_findFacts_60 : decode cX12_findFacts 60 = .ok (.getfield 124, 3) := by decide +kernel
theorem dX12_findFacts_63 : decode cX12_findFacts 63 = .ok (.if_icmp .ge 92, 3) := by decide +kernel
theorem dX12_findFacts_66 : decode cX12_findFacts 66 = .ok (.iload_n 3, 1) := by decide +kernel
theorem dX12_findFacts_67 : decode cX12_findFacts 67 = .ok (.iload_n 1, 1) := by decide +kernel
theorem dX12_findFacts_68 : decode cX12_findFacts 68 = .ok (.if_icmp .ne 6, 3) := by decide +kernel
theorem dX12_findFacts_71 : decode cX12_findFacts 71 = .ok (.goto 78, 3) := by decide +kernel
theorem dX12_findFacts_74 : decode cX12_findFacts 74 = .ok (.aload_n 0, 1) := by decide +kernel
theorem dX12_findFacts_75 : decode cX12_findFacts 75 = .ok (.getfield 29, 3) := by decide +kernel
theorem dX12_findFacts_78 : decode cX12_findFacts 78 = .ok (.iload_n 3, 1) := by decide +kernel
theorem dX12_findFacts_79 : decode cX12_findFacts 79 = .ok (.iaload, 1) := by decide +kernel
theorem dX12_findFacts_80 : decode cX12_findFacts 80 = .ok (.aload_n 0, 1) := by decide +kernel
theorem dX12_findFacts_81 : decode cX12_findFacts 81 = .ok (.getfield 29, 3) := by decide +kernel
theorem dX12_findFacts_84 : decode cX12_findFacts 84 = .ok (.iload_n 1, 1) := by decide +kernel
theorem dX12_findFacts_85 : decode cX12_findFacts 85 = .ok (.iaload, 1) := by decide +kernel
theorem dX12_findFacts_86 : decode cX12_findFacts 86 = .ok (.if_icmp .ne 26, 3) := by decide +kernel
theorem dX12_findFacts_89 : decode cX12_findFacts 89 = .ok (.iload_n 2, 1) := by decide +kernel
theorem dX12_findFacts_90 : decode cX12_findFacts 90 = .ok (.ifCond .eq 12, 3) := by decide +kernel
theorem dX12_findFacts_93 : decode cX12_findFacts 93 = .ok (.aload_n 0, 1) := by decide +kernel
theorem dX12_findFacts_94 : decode cX12_findFacts 94 = .ok (.getfield 82, 3) := by decide +kernel
theorem dX12_findFacts_97 : decode cX12_findFacts 97 = .ok (.iload_n 3, 1) := by decide +kernel
theorem dX12_findFacts_98 : decode cX12_findFacts 98 = .ok (.baload, 1) := by decide +kernel
theorem dX12_findFacts_99 : decode cX12_findFacts 99 = .ok (.ifCond .eq 13, 3) := by decide +kernel
theorem dX12_findFacts_102 : decode cX12_findFacts 102 = .ok (.aload_n 0, 1) := by decide +kernel
theorem dX12_findFacts_103 : decode cX12_findFacts 103 = .ok (.getfield 60, 3) := by decide +kernel
theorem dX12_findFacts_106 : decode cX12_findFacts 106 = .ok (.iconst 3, 1) := by decide +kernel
theorem dX12_findFacts_107 : decode cX12_findFacts 107 = .ok (.dup2, 1) := by decide +kernel
theorem dX12_findFacts_108 : decode cX12_findFacts 108 = .ok (.iaload, 1) := by decide +kernel
theorem dX12_findFacts_109 : decode cX12_findFacts 109 = .ok (.iconst 1, 1) := by decide +kernel
theorem dX12_findFacts_110 : decode cX12_findFacts 110 = .ok (.iadd, 1) := by decide +kernel
theorem dX12_findFacts_111 : decode cX12_findFacts 111 = .ok (.iastore, 1) := by decide +kernel
theorem dX12_findFacts_112 : decode cX12_findFacts 112 = .ok (.iload_n 3, 1) := by decide +kernel
theorem dX12_findFacts_113 : decode cX12_findFacts 113 = .ok (.iload_n 1, 1) := by decide +kernel
theorem dX12_findFacts_114 : decode cX12_findFacts 114 = .ok (.iconst 1, 1) := by decide +kernel
theorem dX12_findFacts_115 : decode cX12_findFacts 115 = .ok (.isub, 1) := by decide +kernel
theorem dX12_findFacts_116 : decode cX12_findFacts 116 = .ok (.if_icmp .eq 10, 3) := by decide +kernel
theorem dX12_findFacts_119 : decode cX12_findFacts 119 = .ok (.iload_n 3, 1) := by decide +kernel
theorem dX12_findFacts_120 : decode cX12_findFacts 120 = .ok (.iload_n 1, 1) := by decide +kernel
theorem dX12_findFacts_121 : decode cX12_findFacts 121 = .ok (.iconst 1, 1) := by decide +kernel
theorem dX12_findFacts_122 : decode cX12_findFacts 122 = .ok (.iadd, 1) := by decide +kernel
theorem dX12_findFacts_123 : decode cX12_findFacts 123 = .ok (.if_icmp .ne 26, 3) := by decide +kernel
theorem dX12_findFacts_126 : decode cX12_findFacts 126 = .ok (.iload_n 2, 1) := by decide +kernel
theorem dX12_findFacts_127 : decode cX12_findFacts 127 = .ok (.ifCond .le 22, 3) := by decide +kernel
theorem dX12_findFacts_130 : decode cX12_findFacts 130 = .ok (.aload_n 0, 1) := by decide +kernel
theorem dX12_findFacts_131 : decode cX12_findFacts 131 = .ok (.getfield 82, 3) := by decide +kernel
theorem dX12_findFacts_134 : decode cX12_findFacts 134 = .ok (.iload_n 3, 1) := by decide +kernel
theorem dX12_findFacts_135 : decode cX12_findFacts 135 = .ok (.baload, 1) := by decide +kernel
theorem dX12_findFacts_136 : decode cX12_findFacts 136 = .ok (.ifCond .ne 13, 3) := by decide +kernel
theorem dX12_findFacts_139 : decode cX12_findFacts 139 = .ok (.aload_n 0, 1) := by decide +kernel
theorem dX12_findFacts_140 : decode cX12_findFacts 140 = .ok (.getfield 60, 3) := by decide +kernel
theorem dX12_findFacts_143 : decode cX12_findFacts 143 = .ok (.iconst 4, 1) := by decide +kernel
theorem dX12_findFacts_144 : decode cX12_findFacts 144 = .ok (.dup2, 1) := by decide +kernel
theorem dX12_findFacts_145 : decode cX12_findFacts 145 = .ok (.iaload, 1) := by decide +kernel
theorem dX12_findFacts_146 : decode cX12_findFacts 146 = .ok (.iconst 1, 1) := by decide +kernel
theorem dX12_findFacts_147 : decode cX12_findFacts 147 = .ok (.iadd, 1) := by decide +kernel
theorem dX12_findFacts_148 : decode cX12_findFacts 148 = .ok (.iastore, 1) := by decide +kernel
theorem dX12_findFacts_149 : decode cX12_findFacts 149 = .ok (.iinc 3 1, 3) := by decide +kernel
theorem dX12_findFacts_152 : decode cX12_findFacts 152 = .ok (.goto (-94), 3) := by decide +kernel
theorem dX12_findFacts_155 : decode cX12_findFacts 155 = .ok (.return_, 1) := by decide +kernel
theorem dX12_breathes_0 : decode cX12_breathes 0 = .ok (.iload_n 1, 1) := by decide +kernel
theorem dX12_breathes_1 : decode cX12_breathes 1 = .ok (.iconst 1, 1) := by decide +kernel
theorem dX12_breathes_2 : decode cX12_breathes 2 = .ok (.if_icmp .ne 19, 3) := by decide +kernel
theorem dX12_breathes_5 : decode cX12_breathes 5 = .ok (.aload_n 0, 1) := by decide +kernel
theorem dX12_breathes_6 : decode cX12_breathes 6 = .ok (.getfield 17, 3) := by decide +kernel
theorem dX12_breathes_9 : decode cX12_breathes 9 = .ok (.iload_n 3, 1) := by decide +kernel
theorem dX12_breathes_10 : decode cX12_breathes 10 = .ok (.iaload, 1) := by decide +kernel
theorem dX12_breathes_11 : decode cX12_breathes 11 = .ok (.iconst 1, 1) := by decide +kernel
theorem dX12_breathes_12 : decode cX12_breathes 12 = .ok (.if_icmp .ne 7, 3) := by decide +kernel
theorem dX12_breathes_15 : decode cX12_breathes 15 = .ok (.iconst 1, 1) := by decide +kernel
theorem dX12_breathes_16 : decode cX12_breathes 16 = .ok (.goto 4, 3) := by decide +kernel
theorem dX12_breathes_19 : decode cX12_breathes 19 = .ok (.iconst 0, 1) := by decide +kernel
theorem dX12_breathes_20 : decode cX12_breathes 20 = .ok (.ireturn, 1) := by decide +kernel
theorem dX12_breathes_21 : decode cX12_breathes 21 = .ok (.iload_n 1, 1) := by decide +kernel
theorem dX12_breathes_22 : decode cX12_breathes 22 = .ok (.iconst 2, 1) := by decide +kernel
theorem dX12_breathes_23 : decode cX12_breathes 23 = .ok (.iconst 5, 1) := by decide +kernel
theorem dX12_breathes_24 : decode cX12_breathes 24 = .ok (.invokestatic 127, 3) := by decide +kernel
theorem dX12_breathes_27 : decode cX12_breathes 27 = .ok (.ifCond .eq 13, 3) := by decide +kernel
theorem dX12_breathes_30 : decode cX12_breathes 30 = .ok (.aload_n 0, 1) := by decide +kernel
theorem dX12_breathes_31 : decode cX12_breathes 31 = .ok (.iload_n 1, 1) := by decide +kernel
theorem dX12_breathes_32 : decode cX12_breathes 32 = .ok (.iconst 2, 1) := by decide +kernel
theorem dX12_breathes_33 : decode cX12_breathes 33 = .ok (.isub, 1) := by decide +kernel
theorem dX12_breathes_34 : decode cX12_breathes 34 = .ok (.iload_n 2, 1) := by decide +kernel
theorem dX12_breathes_35 : decode cX12_breathes 35 = .ok (.iload_n 3, 1) := by decide +kernel
theorem dX12_breathes_36 : decode cX12_breathes 36 = .ok (.invokevirtual 248, 3) := by decide +kernel
theorem dX12_breathes_39 : decode cX12_breathes 39 = .ok (.ireturn, 1) := by decide +kernel
theorem dX12_breathes_40 : decode cX12_breathes 40 = .ok (.aload_n 0, 1) := by decide +kernel
theorem dX12_breathes_41 : decode cX12_breathes 41 = .ok (.getfield 69, 3) := by decide +kernel
theorem dX12_breathes_44 : decode cX12_breathes 44 = .ok (.iload_n 2, 1) := by decide +kernel
theorem dX12_breathes_45 : decode cX12_breathes 45 = .ok (.iaload, 1) := by decide +kernel
theorem dX12_breathes_46 : decode cX12_breathes 46 = .ok (.aload_n 0, 1) := by decide +kernel
theorem dX12_breathes_47 : decode cX12_breathes 47 = .ok (.iload_n 2, 1) := by decide +kernel
theorem dX12_breathes_48 : decode cX12_breathes 48 = .ok (.aload_n 0, 1) := by decide +kernel
theorem dX12_breathes_49 : decode cX12_breathes 49 = .ok (.getfield 75, 3) := by decide +kernel
theorem dX12_breathes_52 : decode cX12_breathes 52 = .ok (.iload_n 2, 1) := by decide +kernel
theorem dX12_breathes_53 : decode cX12_breathes 53 = .ok (.iaload, 1) := by decide +kernel
theorem dX12_breathes_54 : decode cX12_breathes 54 = .ok (.aload_n 0, 1) := by decide +kernel
theorem dX12_breathes_55 : decode cX12_breathes 55 = .ok (.iload_n 3, 1) := by decide +kernel
theorem dX12_breathes_56 : decode cX12_breathes 56 = .ok (.invokevirtual 244, 3) := by decide +kernel
theorem dX12_breathes_59 : decode cX12_breathes 59 = .ok (.invokevirtual 138, 3) := by decide +kernel
theorem dX12_breathes_62 : decode cX12_breathes 62 = .ok (.if_icmp .lt 5, 3) := by decide +kernel
theorem dX12_breathes_65 : decode cX12_breathes 65 = .ok (.iconst 1, 1) := by decide +kernel
theorem dX12_breathes_66 : decode cX12_breathes 66 = .ok (.ireturn, 1) := by decide +kernel
theorem dX12_breathes_67 : decode cX12_breathes 67 = .ok (.iload_n 1, 1) := by decide +kernel
theorem dX12_breathes_68 : decode cX12_breathes 68 = .ok (.bipush 6, 2) := by decide +kernel
theorem dX12_breathes_70 : decode cX12_breathes 70 = .ok (.if_icmp .ne 5, 3) := by decide +kernel
theorem dX12_breathes_73 : decode cX12_breathes 73 = .ok (.iconst 0, 1) := by decide +kernel
theorem dX12_breathes_74 : decode cX12_breathes 74 = .ok (.ireturn, 1) := by decide +kernel
theorem dX12_breathes_75 : decode cX12_breathes 75 = .ok (.aload_n 0, 1) := by decide +kernel
theorem dX12_breathes_76 : decode cX12_breathes 76 = .ok (.iload_n 2, 1) := by decide +kernel
theorem dX12_breathes_77 : decode cX12_breathes 77 = .ok (.iload_n 3, 1) := by decide +kernel
theorem dX12_breathes_78 : decode cX12_breathes 78 = .ok (.invokevirtual 251, 3) := by decide +kernel
theorem dX12_breathes_81 : decode cX12_breathes 81 = .ok (.aload_n 0, 1) := by decide +kernel
theorem dX12_breathes_82 : decode cX12_breathes 82 = .ok (.iconst 0, 1) := by decide +kernel
theorem dX12_breathes_83 : decode cX12_breathes 83 = .ok (.invokevirtual 254, 3) := by decide +kernel
theorem dX12_breathes_86 : decode cX12_breathes 86 = .ok (.ifCond .eq 5, 3) := by decide +kernel
theorem dX12_breathes_89 : decode cX12_breathes 89 = .ok (.iconst 1, 1) := by decide +kernel
theorem dX12_breathes_90 : decode cX12_breathes 90 = .ok (.ireturn, 1) := by decide +kernel
theorem dX12_breathes_91 : decode cX12_breathes 91 = .ok (.aload_n 0, 1) := by decide +kernel
theorem dX12_breathes_92 : decode cX12_breathes 92 = .ok (.iconst 1, 1) := by decide +kernel
theorem dX12_breathes_93 : decode cX12_breathes 93 = .ok (.invokevirtual 254, 3) := by decide +kernel
theorem dX12_breathes_96 : decode cX12_breathes 96 = .ok (.ifCond .eq 36, 3) := by decide +kernel
theorem dX12_breathes_99 : decode cX12_breathes 99 = .ok (.aload_n 0, 1) := by decide +kernel
theorem dX12_breathes_100 : decode cX12_breathes 100 = .ok (.getfield 60, 3) := by decide +kernel
theorem dX12_breathes_103 : decode cX12_breathes 103 = .ok (.iconst 3, 1) := by decide +kernel
theorem dX12_breathes_104 : decode cX12_breathes 104 = .ok (.iaload, 1) := by decide +kernel
theorem dX12_breathes_105 : decode cX12_breathes 105 = .ok (.aload_n 0, 1) := by decide +kernel
theorem dX12_breathes_106 : decode cX12_breathes 106 = .ok (.getfield 23, 3) := by decide +kernel
theorem dX12_breathes_109 : decode cX12_breathes 109 = .ok (.aload_n 0, 1) := by decide +kernel
theorem dX12_breathes_110 : decode cX12_breathes 110 = .ok (.getfield 29, 3) := by decide +kernel
theorem dX12_breathes_113 : decode cX12_breathes 113 = .ok (.iload_n 2, 1) := by decide +kernel
theorem dX12_breathes_114 : decode cX12_breathes 114 = .ok (.iaload, 1) := by decide +kernel
theorem dX12_breathes_115 : decode cX12_breathes 115 = .ok (.iaload, 1) := by decide +kernel
theorem dX12_breathes_116 : decode cX12_breathes 116 = .ok (.if_icmp .lt 16, 3) := by decide +kernel
theorem dX12_breathes_119 : decode cX12_breathes 119 = .ok (.aload_n 0, 1) := by decide +kernel
theorem dX12_breathes_120 : decode cX12_breathes 120 = .ok (.getfield 60, 3) := by decide +kernel
theorem dX12_breathes_123 : decode cX12_breathes 123 = .ok (.iconst 4, 1) := by decide +kernel
theorem dX12_breathes_124 : decode cX12_breathes 124 = .ok (.iaload, 1) := by decide +kernel
theorem dX12_breathes_125 : decode cX12_breathes 125 = .ok (.ifCond .ne 7, 3) := by decide +kernel
theorem dX12_breathes_128 : decode cX12_breathes 128 = .ok (.iconst 1, 1) := by decide +kernel
theorem dX12_breathes_129 : decode cX12_breathes 129 = .ok (.goto 4, 3) := by decide +kernel
theorem dX12_breathes_132 : decode cX12_breathes 132 = .ok (.iconst 0, 1) := by decide +kernel
theorem dX12_breathes_133 : decode cX12_breathes 133 = .ok (.ireturn, 1) := by decide +kernel
theorem dX12_go_0 : decode cX12_go 0 = .ok (.iconst 0, 1) := by decide +kernel
theorem dX12_go_1 : decode cX12_go 1 = .ok (.istore_n 3, 1) := by decide +kernel
theorem dX12_go_2 : decode cX12_go 2 = .ok (.iload_n 3, 1) := by decide +kernel
theorem dX12_go_3 : decode cX12_go 3 = .ok (.aload_n 0, 1) := by decide +kernel
theorem dX12_go_4 : decode cX12_go 4 = .ok (.getfield 124, 3) := by decide +kernel
theorem dX12_go_7 : decode cX12_go 7 = .ok (.if_icmp .ge 21, 3) := by decide +kernel
theorem dX12_go_10 : decode cX12_go 10 = .ok (.aload_n 0, 1) := by decide +kernel
theorem dX12_go_11 : decode cX12_go 11 = .ok (.getfield 82, 3) := by decide +kernel
theorem dX12_go_14 : decode cX12_go 14 = .ok (.iload_n 3, 1) := by decide +kernel
theorem dX12_go_15 : decode cX12_go 15 = .ok (.aload_n 0, 1) := by decide +kernel
theorem dX12_go_16 : decode cX12_go 16 = .ok (.getfield 78, 3) := by decide +kernel
theorem dX12_go_19 : decode cX12_go 19 = .ok (.iload_n 3, 1) := by decide +kernel
theorem dX12_go_20 : decode cX12_go 20 = .ok (.baload, 1) := by decide +kernel
theorem dX12_go_21 : decode cX12_go 21 = .ok (.bastore, 1) := by decide +kernel
theorem dX12_go_22 : decode cX12_go 22 = .ok (.iinc 3 1, 3) := by decide +kernel
theorem dX12_go_25 : decode cX12_go 25 = .ok (.goto (-23), 3) := by decide +kernel
theorem dX12_go_28 : decode cX12_go 28 = .ok (.iconst 0, 1) := by decide +kernel
theorem dX12_go_29 : decode cX12_go 29 = .ok (.istore_n 3, 1) := by decide +kernel
theorem dX12_go_30 : decode cX12_go 30 = .ok (.iload_n 3, 1) := by decide +kernel
theorem dX12_go_31 : decode cX12_go 31 = .ok (.aload_n 0, 1) := by decide +kernel
theorem dX12_go_32 : decode cX12_go 32 = .ok (.getfield 124, 3) := by decide +kernel
theorem dX12_go_35 : decode cX12_go 35 = .ok (.if_icmp .ge 154, 3) := by decide +kernel
theorem dX12_go_38 : decode cX12_go 38 = .ok (.iload_n 3, 1) := by decide +kernel
theorem dX12_go_39 : decode cX12_go 39 = .ok (.aload_n 0, 1) := by decide +kernel
theorem dX12_go_40 : decode cX12_go 40 = .ok (.getfield 235, 3) := by decide +kernel
theorem dX12_go_43 : decode cX12_go 43 = .ok (.if_icmp .ne 35, 3) := by decide +kernel
theorem dX12_go_46 : decode cX12_go 46 = .ok (.iload_n 2, 1) := by decide +kernel
theorem dX12_go_47 : decode cX12_go 47 = .ok (.aload_n 0, 1) := by decide +kernel
theorem dX12_go_48 : decode cX12_go 48 = .ok (.getfield 257, 3) := by decide +kernel
theorem dX12_go_51 : decode cX12_go 51 = .ok (.if_icmp .lt 27, 3) := by decide +kernel
theorem dX12_go_54 : decode cX12_go 54 = .ok (.aload_n 0, 1) := by decide +kernel
theorem dX12_go_55 : decode cX12_go 55 = .ok (.getfield 78, 3) := by decide +kernel
theorem dX12_go_58 : decode cX12_go 58 = .ok (.iload_n 3, 1) := by decide +kernel
theorem dX12_go_59 : decode cX12_go 59 = .ok (.iconst 0, 1) := by decide +kernel
theorem dX12_go_60 : decode cX12_go 60 = .ok (.bastore, 1) := by decide +kernel
theorem dX12_go_61 : decode cX12_go 61 = .ok (.aload_n 0, 1) := by decide +kernel
theorem dX12_go_62 : decode cX12_go 62 = .ok (.getfield 69, 3) := by decide +kernel
theorem dX12_go_65 : decode cX12_go 65 = .ok (.iload_n 3, 1) := by decide +kernel
theorem dX12_go_66 : decode cX12_go 66 = .ok (.iconst 0, 1) := by decide +kernel
theorem dX12_go_67 : decode cX12_go 67 = .ok (.iastore, 1) := by decide +kernel
theorem dX12_go_68 : decode cX12_go 68 = .ok (.aload_n 0, 1) := by decide +kernel
theorem dX12_go_69 : decode cX12_go 69 = .ok (.getfield 72, 3) := by decide +kernel
theorem dX12_go_72 : decode cX12_go 72 = .ok (.iload_n 3, 1) := by decide +kernel
theorem dX12_go_73 : decode cX12_go 73 = .ok (.iconst 0, 1) := by decide +kernel
theorem dX12_go_74 : decode cX12_go 74 = .ok (.iastore, 1) := by decide +kernel
theorem dX12_go_75 : decode cX12_go 75 = .ok (.goto 108, 3) := by decide +kernel
theorem dX12_go_78 : decode cX12_go 78 = .ok (.aload_n 0, 1) := by decide +kernel
theorem dX12_go_79 : decode cX12_go 79 = .ok (.getfield 72, 3) := by decide +kernel
theorem dX12_go_82 : decode cX12_go 82 = .ok (.iload_n 3, 1) := by decide +kernel
theorem dX12_go_83 : decode cX12_go 83 = .ok (.iaload, 1) := by decide +kernel
theorem dX12_go_84 : decode cX12_go 84 = .ok (.ifCond .ne 40, 3) := by decide +kernel
theorem dX12_go_87 : decode cX12_go 87 = .ok (.aload_n 0, 1) := by decide +kernel
theorem dX12_go_88 : decode cX12_go 88 = .ok (.iload_n 1, 1) := by decide +kernel
theorem dX12_go_89 : decode cX12_go 89 = .ok (.iload_n 3, 1) := by decide +kernel
theorem dX12_go_90 : decode cX12_go 90 = .ok (.iload_n 2, 1) := by decide +kernel
theorem dX12_go_91 : decode cX12_go 91 = .ok (.invokevirtual 260, 3) := by decide +kernel
theorem dX12_go_94 : decode cX12_go 94 = .ok (.ifCond .eq 30, 3) := by decide +kernel
theorem dX12_go_97 : decode cX12_go 97 = .ok (.aload_n 0, 1) := by decide +kernel
theorem dX12_go_98 : decode cX12_go 98 = .ok (.getfield 72, 3) := by decide +kernel
theorem dX12_go_101 : decode cX12_go 101 = .ok (.iload_n 3, 1) := by decide +kernel
theorem dX12_go_102 : decode cX12_go 102 = .ok (.aload_n 0, 1) := by decide +kernel
theorem dX12_go_103 : decode cX12_go 103 = .ok (.iload_n 3, 1) := by decide +kernel
theorem dX12_go_104 : decode cX12_go 104 = .ok (.aload_n 0, 1) := by decide +kernel
theorem dX12_go_105 : decode cX12_go 105 = .ok (.getfield 75, 3) := by decide +kernel
theorem dX12_go_108 : decode cX12_go 108 = .ok (.iload_n 3, 1) := by decide +kernel
theorem dX12_go_109 : decode cX12_go 109 = .ok (.iaload, 1) := by decide +kernel
theorem dX12_go_110 : decode cX12_go 110 = .ok (.invokevirtual 142, 3) := by decide +kernel
theorem dX12_go_113 : decode cX12_go 113 = .ok (.iastore, 1) := by decide +kernel
theorem dX12_go_114 : decode cX12_go 114 = .ok (.aload_n 0, 1) := by decide +kernel
theorem dX12_go_115 : decode cX12_go 115 = .ok (.getfield 75, 3) := by decide +kernel
theorem dX12_go_118 : decode cX12_go 118 = .ok (.iload_n 3, 1) := by decide +kernel
theorem dX12_go_119 : decode cX12_go 119 = .ok (.dup2, 1) := by decide +kernel
theorem dX12_go_120 : decode cX12_go 120 = .ok (.iaload, 1) := by decide +kernel
theorem dX12_go_121 : decode cX12_go 121 = .ok (.iconst 1, 1) := by decide +kernel
theorem dX12_go_122 : decode cX12_go 122 = .ok (.iadd, 1) := by decide +kernel
theorem dX12_go_123 : decode cX12_go 123 = .ok (.iastore, 1) := by decide +kernel
theorem dX12_go_124 : decode cX12_go 124 = .ok (.aload_n 0, 1) := by decide +kernel
theorem dX12_go_125 : decode cX12_go 125 = .ok (.getfield 78, 3) := by decide +kernel
theorem dX12_go_128 : decode cX12_go 128 = .ok (.iload_n 3, 1) := by decide +kernel
theorem dX12_go_129 : decode cX12_go 129 = .ok (.aload_n 0, 1) := by decide +kernel
theorem dX12_go_130 : decode cX12_go 130 = .ok (.getfield 72, 3) := by decide +kernel
theorem dX12_go_133 : decode cX12_go 133 = .ok (.iload_n 3, 1) := by decide +kernel
theorem dX12_go_134 : decode cX12_go 134 = .ok (.iaload, 1) := by decide +kernel
theorem dX12_go_135 : decode cX12_go 135 = .ok (.ifCond .ne 7, 3) := by decide +kernel
theorem dX12_go_138 : decode cX12_go 138 = .ok (.iconst 1, 1) := by decide +kernel
theorem dX12_go_139 : decode cX12_go 139 = .ok (.goto 4, 3) := by decide +kernel
theorem dX12_go_142 : decode cX12_go 142 = .ok (.iconst 0, 1) := by decide +kernel
theorem dX12_go_143 : decode cX12_go 143 = .ok (.bastore, 1) := by decide +kernel
theorem dX12_go_144 : decode cX12_go 144 = .ok (.aload_n 0, 1) := by decide +kernel
theorem dX12_go_145 : decode cX12_go 145 = .ok (.getfield 78, 3) := by decide +kernel
theorem dX12_go_148 : decode cX12_go 148 = .ok (.iload_n 3, 1) := by decide +kernel
theorem dX12_go_149 : decode cX12_go 149 = .ok (.baload, 1) := by decide +kernel
theorem dX12_go_150 : decode cX12_go 150 = .ok (.ifCond .eq 16, 3) := by decide +kernel
theorem dX12_go_153 : decode cX12_go 153 = .ok (.aload_n 0, 1) := by decide +kernel
theorem dX12_go_154 : decode cX12_go 154 = .ok (.getfield 69, 3) := by decide +kernel
theorem dX12_go_157 : decode cX12_go 157 = .ok (.iload_n 3, 1) := by decide +kernel
theorem dX12_go_158 : decode cX12_go 158 = .ok (.dup2, 1) := by decide +kernel
theorem dX12_go_159 : decode cX12_go 159 = .ok (.iaload, 1) := by decide +kernel
theorem dX12_go_160 : decode cX12_go 160 = .ok (.iconst 1, 1) := by decide +kernel
theorem dX12_go_161 : decode cX12_go 161 = .ok (.iadd, 1) := by decide +kernel
theorem dX12_go_162 : decode cX12_go 162 = .ok (.iastore, 1) := by decide +kernel
theorem dX12_go_163 : decode cX12_go 163 = .ok (.goto 20, 3) := by decide +kernel
theorem dX12_go_166 : decode cX12_go 166 = .ok (.aload_n 0, 1) := by decide +kernel
theorem dX12_go_167 : decode cX12_go 167 = .ok (.getfield 72, 3) := by decide +kernel
theorem dX12_go_170 : decode cX12_go 170 = .ok (.iload_n 3, 1) := by decide +kernel
theorem dX12_go_171 : decode cX12_go 171 = .ok (.dup2, 1) := by decide +kernel
theorem dX12_go_172 : decode cX12_go 172 = .ok (.iaload, 1) := by decide +kernel
theorem dX12_go_173 : decode cX12_go 173 = .ok (.iconst 1, 1) := by decide +kernel
theorem dX12_go_174 : decode cX12_go 174 = .ok (.isub, 1) := by decide +kernel
theorem dX12_go_175 : decode cX12_go 175 = .ok (.iastore, 1) := by decide +kernel
theorem dX12_go_176 : decode cX12_go 176 = .ok (.aload_n 0, 1) := by decide +kernel
theorem dX12_go_177 : decode cX12_go 177 = .ok (.getfield 69, 3) := by decide +kernel
theorem dX12_go_180 : decode cX12_go 180 = .ok (.iload_n 3, 1) := by decide +kernel
theorem dX12_go_181 : decode cX12_go 181 = .ok (.iconst 0, 1) := by decide +kernel
theorem dX12_go_182 : decode cX12_go 182 = .ok (.iastore, 1) := by decide +kernel
theorem dX12_go_183 : decode cX12_go 183 = .ok (.iinc 3 1, 3) := by decide +kernel
theorem dX12_go_186 : decode cX12_go 186 = .ok (.goto (-156), 3) := by decide +kernel
theorem dX12_go_189 : decode cX12_go 189 = .ok (.return_, 1) := by decide +kernel
theorem dX12_ofVoice_0 : decode cX12_ofVoice 0 = .ok (.iconst 0, 1) := by decide +kernel
theorem dX12_ofVoice_1 : decode cX12_ofVoice 1 = .ok (.istore_n 2, 1) := by decide +kernel
theorem dX12_ofVoice_2 : decode cX12_ofVoice 2 = .ok (.iconst 0, 1) := by decide +kernel
theorem dX12_ofVoice_3 : decode cX12_ofVoice 3 = .ok (.istore_n 3, 1) := by decide +kernel
theorem dX12_ofVoice_4 : decode cX12_ofVoice 4 = .ok (.iload_n 3, 1) := by decide +kernel
theorem dX12_ofVoice_5 : decode cX12_ofVoice 5 = .ok (.aload_n 0, 1) := by decide +kernel
theorem dX12_ofVoice_6 : decode cX12_ofVoice 6 = .ok (.getfield 124, 3) := by decide +kernel
theorem dX12_ofVoice_9 : decode cX12_ofVoice 9 = .ok (.if_icmp .ge 36, 3) := by decide +kernel
theorem dX12_ofVoice_12 : decode cX12_ofVoice 12 = .ok (.iload_n 2, 1) := by decide +kernel
theorem dX12_ofVoice_13 : decode cX12_ofVoice 13 = .ok (.aload_n 0, 1) := by decide +kernel
theorem dX12_ofVoice_14 : decode cX12_ofVoice 14 = .ok (.getfield 78, 3) := by decide +kernel
theorem dX12_ofVoice_17 : decode cX12_ofVoice 17 = .ok (.iload_n 3, 1) := by decide +kernel
theorem dX12_ofVoice_18 : decode cX12_ofVoice 18 = .ok (.baload, 1) := by decide +kernel
theorem dX12_ofVoice_19 : decode cX12_ofVoice 19 = .ok (.ifCond .eq 17, 3) := by decide +kernel
theorem dX12_ofVoice_22 : decode cX12_ofVoice 22 = .ok (.aload_n 0, 1) := by decide +kernel
theorem dX12_ofVoice_23 : decode cX12_ofVoice 23 = .ok (.getfield 29, 3) := by decide +kernel
theorem dX12_ofVoice_26 : decode cX12_ofVoice 26 = .ok (.iload_n 3, 1) := by decide +kernel
theorem dX12_ofVoice_27 : decode cX12_ofVoice 27 = .ok (.iaload, 1) := by decide +kernel
theorem dX12_ofVoice_28 : decode cX12_ofVoice 28 = .ok (.iload_n 1, 1) := by decide +kernel
theorem dX12_ofVoice_29 : decode cX12_ofVoice 29 = .ok (.if_icmp .ne 7, 3) := by decide +kernel
theorem dX12_ofVoice_32 : decode cX12_ofVoice 32 = .ok (.iconst 1, 1) := by decide +kernel
theorem dX12_ofVoice_33 : decode cX12_ofVoice 33 = .ok (.goto 4, 3) := by decide +kernel
theorem dX12_ofVoice_36 : decode cX12_ofVoice 36 = .ok (.iconst 0, 1) := by decide +kernel
theorem dX12_ofVoice_37 : decode cX12_ofVoice 37 = .ok (.iadd, 1) := by decide +kernel
theorem dX12_ofVoice_38 : decode cX12_ofVoice 38 = .ok (.istore_n 2, 1) := by decide +kernel
theorem dX12_ofVoice_39 : decode cX12_ofVoice 39 = .ok (.iinc 3 1, 3) := by decide +kernel
theorem dX12_ofVoice_42 : decode cX12_ofVoice 42 = .ok (.goto (-38), 3) := by decide +kernel
theorem dX12_ofVoice_45 : decode cX12_ofVoice 45 = .ok (.iload_n 2, 1) := by decide +kernel
theorem dX12_ofVoice_46 : decode cX12_ofVoice 46 = .ok (.ireturn, 1) := by decide +kernel
theorem dX12_sing_0 : decode cX12_sing 0 = .ok (.aload_n 0, 1) := by decide +kernel
theorem dX12_sing_1 : decode cX12_sing 1 = .ok (.iload_n 1, 1) := by decide +kernel
theorem dX12_sing_2 : decode cX12_sing 2 = .ok (.invokevirtual 263, 3) := by decide +kernel
theorem dX12_sing_5 : decode cX12_sing 5 = .ok (.ifCond .eq 11, 3) := by decide +kernel
theorem dX12_sing_8 : decode cX12_sing 8 = .ok (.aload_n 0, 1) := by decide +kernel
theorem dX12_sing_9 : decode cX12_sing 9 = .ok (.iload_n 2, 1) := by decide +kernel
theorem dX12_sing_10 : decode cX12_sing 10 = .ok (.invokevirtual 266, 3) := by decide +kernel
theorem dX12_sing_13 : decode cX12_sing 13 = .ok (.ifCond .ne 6, 3) := by decide +kernel
theorem dX12_sing_16 : decode cX12_sing 16 = .ok (.bipush (-2), 2) := by decide +kernel
theorem dX12_sing_18 : decode cX12_sing 18 = .ok (.ireturn, 1) := by decide +kernel
theorem dX12_sing_19 : decode cX12_sing 19 = .ok (.aload_n 0, 1) := by decide +kernel
theorem dX12_sing_20 : decode cX12_sing 20 = .ok (.iload_n 1, 1) := by decide +kernel
theorem dX12_sing_21 : decode cX12_sing 21 = .ok (.invokevirtual 269, 3) := by decide +kernel
theorem dX12_sing_24 : decode cX12_sing 24 = .ok (.ifCond .eq 6, 3) := by decide +kernel
theorem dX12_sing_27 : decode cX12_sing 27 = .ok (.bipush (-11), 2) := by decide +kernel
theorem dX12_sing_29 : decode cX12_sing 29 = .ok (.ireturn, 1) := by decide +kernel
theorem dX12_sing_30 : decode cX12_sing 30 = .ok (.aload_n 0, 1) := by decide +kernel
theorem dX12_sing_31 : decode cX12_sing 31 = .ok (.invokevirtual 272, 3) := by decide +kernel
theorem dX12_sing_34 : decode cX12_sing 34 = .ok (.iconst 0, 1) := by decide +kernel
theorem dX12_sing_35 : decode cX12_sing 35 = .ok (.istore_n 3, 1) := by decide +kernel
theorem dX12_sing_36 : decode cX12_sing 36 = .ok (.iload_n 3, 1) := by decide +kernel
theorem dX12_sing_37 : decode cX12_sing 37 = .ok (.iload_n 2, 1) := by decide +kernel
theorem dX12_sing_38 : decode cX12_sing 38 = .ok (.if_icmp .gt 15, 3) := by decide +kernel
theorem dX12_sing_41 : decode cX12_sing 41 = .ok (.aload_n 0, 1) := by decide +kernel
theorem dX12_sing_42 : decode cX12_sing 42 = .ok (.iload_n 1, 1) := by decide +kernel
theorem dX12_sing_43 : decode cX12_sing 43 = .ok (.iload_n 3, 1) := by decide +kernel
theorem dX12_sing_44 : decode cX12_sing 44 = .ok (.invokevirtual 275, 3) := by decide +kernel
theorem dX12_sing_47 : decode cX12_sing 47 = .ok (.iinc 3 1, 3) := by decide +kernel
theorem dX12_sing_50 : decode cX12_sing 50 = .ok (.goto (-14), 3) := by decide +kernel
theorem dX12_sing_53 : decode cX12_sing 53 = .ok (.iconst 0, 1) := by decide +kernel
theorem dX12_sing_54 : decode cX12_sing 54 = .ok (.istore_n 3, 1) := by decide +kernel
theorem dX12_sing_55 : decode cX12_sing 55 = .ok (.iconst 0, 1) := by decide +kernel
theorem dX12_sing_56 : decode cX12_sing 56 = .ok (.istore 4, 2) := by decide +kernel
theorem dX12_sing_58 : decode cX12_sing 58 = .ok (.iload 4, 2) := by decide +kernel
theorem dX12_sing_60 : decode cX12_sing 60 = .ok (.aload_n 0, 1) := by decide +kernel
theorem dX12_sing_61 : decode cX12_sing 61 = .ok (.getfield 124, 3) := by decide +kernel
theorem dX12_sing_64 : decode cX12_sing 64 = .ok (.if_icmp .ge 26, 3) := by decide +kernel
theorem dX12_sing_67 : decode cX12_sing 67 = .ok (.aload_n 0, 1) := by decide +kernel
theorem dX12_sing_68 : decode cX12_sing 68 = .ok (.getfield 78, 3) := by decide +kernel
theorem dX12_sing_71 : decode cX12_sing 71 = .ok (.iload 4, 2) := by decide +kernel
theorem dX12_sing_73 : decode cX12_sing 73 = .ok (.baload, 1) := by decide +kernel
theorem dX12_sing_74 : decode cX12_sing 74 = .ok (.ifCond .eq 10, 3) := by decide +kernel
theorem dX12_sing_77 : decode cX12_sing 77 = .ok (.iload_n 3, 1) := by decide +kernel
theorem dX12_sing_78 : decode cX12_sing 78 = .ok (.iconst 1, 1) := by decide +kernel
theorem dX12_sing_79 : decode cX12_sing 79 = .ok (.iload 4, 2) := by decide +kernel
theorem dX12_sing_81 : decode cX12_sing 81 = .ok (.ishl, 1) := by decide +kernel
theorem dX12_sing_82 : decode cX12_sing 82 = .ok (.ior, 1) := by decide +kernel
theorem dX12_sing_83 : decode cX12_sing 83 = .ok (.istore_n 3, 1) := by decide +kernel
theorem dX12_sing_84 : decode cX12_sing 84 = .ok (.iinc 4 1, 3) := by decide +kernel
theorem dX12_sing_87 : decode cX12_sing 87 = .ok (.goto (-29), 3) := by decide +kernel
theorem dX12_sing_90 : decode cX12_sing 90 = .ok (.iload_n 3, 1) := by decide +kernel
theorem dX12_sing_91 : decode cX12_sing 91 = .ok (.ireturn, 1) := by decide +kernel
theorem dX12_of_0 : decode cX12_of 0 = .ok (.aload_n 0, 1) := by decide +kernel
theorem dX12_of_1 : decode cX12_of 1 = .ok (.iload_n 1, 1) := by decide +kernel
theorem dX12_of_2 : decode cX12_of 2 = .ok (.invokevirtual 263, 3) := by decide +kernel
theorem dX12_of_5 : decode cX12_of 5 = .ok (.ifCond .eq 20, 3) := by decide +kernel
theorem dX12_of_8 : decode cX12_of 8 = .ok (.aload_n 0, 1) := by decide +kernel
theorem dX12_of_9 : decode cX12_of 9 = .ok (.iload_n 2, 1) := by decide +kernel
theorem dX12_of_10 : decode cX12_of 10 = .ok (.invokevirtual 266, 3) := by decide +kernel
theorem dX12_of_13 : decode cX12_of 13 = .ok (.ifCond .eq 12, 3) := by decide +kernel
theorem dX12_of_16 : decode cX12_of 16 = .ok (.iload_n 3, 1) := by decide +kernel
theorem dX12_of_17 : decode cX12_of 17 = .ok (.iconst 0, 1) := by decide +kernel
theorem dX12_of_18 : decode cX12_of 18 = .ok (.iconst 3, 1) := by decide +kernel
theorem dX12_of_19 : decode cX12_of 19 = .ok (.invokestatic 127, 3) := by decide +kernel
theorem dX12_of_22 : decode cX12_of 22 = .ok (.ifCond .ne 6, 3) := by decide +kernel
theorem dX12_of_25 : decode cX12_of 25 = .ok (.bipush (-2), 2) := by decide +kernel
theorem dX12_of_27 : decode cX12_of 27 = .ok (.ireturn, 1) := by decide +kernel
theorem dX12_of_28 : decode cX12_of 28 = .ok (.aload_n 0, 1) := by decide +kernel
theorem dX12_of_29 : decode cX12_of 29 = .ok (.iload_n 1, 1) := by decide +kernel
theorem dX12_of_30 : decode cX12_of 30 = .ok (.invokevirtual 269, 3) := by decide +kernel
theorem dX12_of_33 : decode cX12_of 33 = .ok (.ifCond .eq 6, 3) := by decide +kernel
theorem dX12_of_36 : decode cX12_of 36 = .ok (.bipush (-11), 2) := by decide +kernel
theorem dX12_of_38 : decode cX12_of 38 = .ok (.ireturn, 1) := by decide +kernel
theorem dX12_of_39 : decode cX12_of 39 = .ok (.aload_n 0, 1) := by decide +kernel
theorem dX12_of_40 : decode cX12_of 40 = .ok (.invokevirtual 272, 3) := by decide +kernel
theorem dX12_of_43 : decode cX12_of 43 = .ok (.iconst 0, 1) := by decide +kernel
theorem dX12_of_44 : decode cX12_of 44 = .ok (.istore 4, 2) := by decide +kernel
theorem dX12_of_46 : decode cX12_of 46 = .ok (.iload 4, 2) := by decide +kernel
theorem dX12_of_48 : decode cX12_of 48 = .ok (.iload_n 2, 1) := by decide +kernel
theorem dX12_of_49 : decode cX12_of 49 = .ok (.if_icmp .gt 16, 3) := by decide +kernel
theorem dX12_of_52 : decode cX12_of 52 = .ok (.aload_n 0, 1) := by decide +kernel
theorem dX12_of_53 : decode cX12_of 53 = .ok (.iload_n 1, 1) := by decide +kernel
theorem dX12_of_54 : decode cX12_of 54 = .ok (.iload 4, 2) := by decide +kernel
theorem dX12_of_56 : decode cX12_of 56 = .ok (.invokevirtual 275, 3) := by decide +kernel
theorem dX12_of_59 : decode cX12_of 59 = .ok (.iinc 4 1, 3) := by decide +kernel
theorem dX12_of_62 : decode cX12_of 62 = .ok (.goto (-16), 3) := by decide +kernel
theorem dX12_of_65 : decode cX12_of 65 = .ok (.aload_n 0, 1) := by decide +kernel
theorem dX12_of_66 : decode cX12_of 66 = .ok (.iload_n 3, 1) := by decide +kernel
theorem dX12_of_67 : decode cX12_of 67 = .ok (.invokevirtual 278, 3) := by decide +kernel
theorem dX12_of_70 : decode cX12_of 70 = .ok (.ireturn, 1) := by decide +kernel
theorem dX12_lookThin_0 : decode cX12_lookThin 0 = .ok (.iconst 0, 1) := by decide +kernel
theorem dX12_lookThin_1 : decode cX12_lookThin 1 = .ok (.istore_n 1, 1) := by decide +kernel
theorem dX12_lookThin_2 : decode cX12_lookThin 2 = .ok (.iload_n 1, 1) := by decide +kernel
theorem dX12_lookThin_3 : decode cX12_lookThin 3 = .ok (.iconst 4, 1) := by decide +kernel
theorem dX12_lookThin_4 : decode cX12_lookThin 4 = .ok (.if_icmp .ge 41, 3) := by decide +kernel
theorem dX12_lookThin_7 : decode cX12_lookThin 7 = .ok (.aload_n 0, 1) := by decide +kernel
theorem dX12_lookThin_8 : decode cX12_lookThin 8 = .ok (.getfield 85, 3) := by decide +kernel
theorem dX12_lookThin_11 : decode cX12_lookThin 11 = .ok (.iload_n 1, 1) := by decide +kernel
theorem dX12_lookThin_12 : decode cX12_lookThin 12 = .ok (.aload_n 0, 1) := by decide +kernel
theorem dX12_lookThin_13 : decode cX12_lookThin 13 = .ok (.iload_n 1, 1) := by decide +kernel
theorem dX12_lookThin_14 : decode cX12_lookThin 14 = .ok (.invokevirtual 278, 3) := by decide +kernel
theorem dX12_lookThin_17 : decode cX12_lookThin 17 = .ok (.aload_n 0, 1) := by decide +kernel
theorem dX12_lookThin_18 : decode cX12_lookThin 18 = .ok (.getfield 23, 3) := by decide +kernel
theorem dX12_lookThin_21 : decode cX12_lookThin 21 = .ok (.iload_n 1, 1) := by decide +kernel
theorem dX12_lookThin_22 : decode cX12_lookThin 22 = .ok (.iaload, 1) := by decide +kernel
theorem dX12_lookThin_23 : decode cX12_lookThin 23 = .ok (.if_icmp .ge 14, 3) := by decide +kernel
theorem dX12_lookThin_26 : decode cX12_lookThin 26 = .ok (.aload_n 0, 1) := by decide +kernel
theorem dX12_lookThin_27 : decode cX12_lookThin 27 = .ok (.getfield 85, 3) := by decide +kernel
theorem dX12_lookThin_30 : decode cX12_lookThin 30 = .ok (.iload_n 1, 1) := by decide +kernel
theorem dX12_lookThin_31 : decode cX12_lookThin 31 = .ok (.iaload, 1) := by decide +kernel
theorem dX12_lookThin_32 : decode cX12_lookThin 32 = .ok (.iconst 1, 1) := by decide +kernel
theorem dX12_lookThin_33 : decode cX12_lookThin 33 = .ok (.iadd, 1) := by decide +kernel
theorem dX12_lookThin_34 : decode cX12_lookThin 34 = .ok (.goto 4, 3) := by decide +kernel
theorem dX12_lookThin_37 : decode cX12_lookThin 37 = .ok (.iconst 0, 1) := by decide +kernel
theorem dX12_lookThin_38 : decode cX12_lookThin 38 = .ok (.iastore, 1) := by decide +kernel
theorem dX12_lookThin_39 : decode cX12_lookThin 39 = .ok (.iinc 1 1, 3) := by decide +kernel
theorem dX12_lookThin_42 : decode cX12_lookThin 42 = .ok (.goto (-40), 3) := by decide +kernel
theorem dX12_lookThin_45 : decode cX12_lookThin 45 = .ok (.return_, 1) := by decide +kernel
theorem dX12_beginThin_0 : decode cX12_beginThin 0 = .ok (.iconst 0, 1) := by decide +kernel
theorem dX12_beginThin_1 : decode cX12_beginThin 1 = .ok (.istore_n 1, 1) := by decide +kernel
theorem dX12_beginThin_2 : decode cX12_beginThin 2 = .ok (.iload_n 1, 1) := by decide +kernel
theorem dX12_beginThin_3 : decode cX12_beginThin 3 = .ok (.iconst 4, 1) := by decide +kernel
theorem dX12_beginThin_4 : decode cX12_beginThin 4 = .ok (.if_icmp .ge 16, 3) := by decide +kernel
theorem dX12_beginThin_7 : decode cX12_beginThin 7 = .ok (.aload_n 0, 1) := by decide +kernel
