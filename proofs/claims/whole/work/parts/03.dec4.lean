theorem dX12_feed_81 : decode cX12_feed 81 = .ok (.goto (-39), 3) := by decide +kernel
theorem dX12_feed_84 : decode cX12_feed 84 = .ok (.aload_n 0, 1) := by decide +kernel
theorem dX12_feed_85 : decode cX12_feed 85 = .ok (.getfield 136, 3) := by decide +kernel
theorem dX12_feed_88 : decode cX12_feed 88 = .ok (.i2l, 1) := by decide +kernel
theorem dX12_feed_89 : decode cX12_feed 89 = .ok (.lreturn, 1) := by decide +kernel
theorem dX12_byteAt_0 : decode cX12_byteAt 0 = .ok (.iload_n 1, 1) := by decide +kernel
theorem dX12_byteAt_1 : decode cX12_byteAt 1 = .ok (.aload_n 0, 1) := by decide +kernel
theorem dX12_byteAt_2 : decode cX12_byteAt 2 = .ok (.getfield 143, 3) := by decide +kernel
theorem dX12_byteAt_5 : decode cX12_byteAt 5 = .ok (.if_icmp .ge 12, 3) := by decide +kernel
theorem dX12_byteAt_8 : decode cX12_byteAt 8 = .ok (.aload_n 0, 1) := by decide +kernel
theorem dX12_byteAt_9 : decode cX12_byteAt 9 = .ok (.getfield 31, 3) := by decide +kernel
theorem dX12_byteAt_12 : decode cX12_byteAt 12 = .ok (.iload_n 1, 1) := by decide +kernel
theorem dX12_byteAt_13 : decode cX12_byteAt 13 = .ok (.iaload, 1) := by decide +kernel
theorem dX12_byteAt_14 : decode cX12_byteAt 14 = .ok (.goto 5, 3) := by decide +kernel
theorem dX12_byteAt_17 : decode cX12_byteAt 17 = .ok (.ldc 146, 2) := by decide +kernel
theorem dX12_byteAt_19 : decode cX12_byteAt 19 = .ok (.ireturn, 1) := by decide +kernel
theorem dX12_isLetter_0 : decode cX12_isLetter 0 = .ok (.iload_n 0, 1) := by decide +kernel
theorem dX12_isLetter_1 : decode cX12_isLetter 1 = .ok (.bipush 97, 2) := by decide +kernel
theorem dX12_isLetter_3 : decode cX12_isLetter 3 = .ok (.if_icmp .lt 13, 3) := by decide +kernel
theorem dX12_isLetter_6 : decode cX12_isLetter 6 = .ok (.iload_n 0, 1) := by decide +kernel
theorem dX12_isLetter_7 : decode cX12_isLetter 7 = .ok (.bipush 122, 2) := by decide +kernel
theorem dX12_isLetter_9 : decode cX12_isLetter 9 = .ok (.if_icmp .gt 7, 3) := by decide +kernel
theorem dX12_isLetter_12 : decode cX12_isLetter 12 = .ok (.iconst 1, 1) := by decide +kernel
theorem dX12_isLetter_13 : decode cX12_isLetter 13 = .ok (.goto 4, 3) := by decide +kernel
theorem dX12_isLetter_16 : decode cX12_isLetter 16 = .ok (.iconst 0, 1) := by decide +kernel
theorem dX12_isLetter_17 : decode cX12_isLetter 17 = .ok (.ireturn, 1) := by decide +kernel
theorem dX12_isFigure_0 : decode cX12_isFigure 0 = .ok (.iload_n 0, 1) := by decide +kernel
theorem dX12_isFigure_1 : decode cX12_isFigure 1 = .ok (.bipush 48, 2) := by decide +kernel
theorem dX12_isFigure_3 : decode cX12_isFigure 3 = .ok (.if_icmp .lt 13, 3) := by decide +kernel
theorem dX12_isFigure_6 : decode cX12_isFigure 6 = .ok (.iload_n 0, 1) := by decide +kernel
theorem dX12_isFigure_7 : decode cX12_isFigure 7 = .ok (.bipush 57, 2) := by decide +kernel
theorem dX12_isFigure_9 : decode cX12_isFigure 9 = .ok (.if_icmp .gt 7, 3) := by decide +kernel
theorem dX12_isFigure_12 : decode cX12_isFigure 12 = .ok (.iconst 1, 1) := by decide +kernel
theorem dX12_isFigure_13 : decode cX12_isFigure 13 = .ok (.goto 4, 3) := by decide +kernel
theorem dX12_isFigure_16 : decode cX12_isFigure 16 = .ok (.iconst 0, 1) := by decide +kernel
theorem dX12_isFigure_17 : decode cX12_isFigure 17 = .ok (.ireturn, 1) := by decide +kernel
theorem dX12_next_0 : decode cX12_next 0 = .ok (.aload_n 0, 1) := by decide +kernel
theorem dX12_next_1 : decode cX12_next 1 = .ok (.aload_n 0, 1) := by decide +kernel
theorem dX12_next_2 : decode cX12_next 2 = .ok (.getfield 147, 3) := by decide +kernel
theorem dX12_next_5 : decode cX12_next 5 = .ok (.invokevirtual 150, 3) := by decide +kernel
theorem dX12_next_8 : decode cX12_next 8 = .ok (.bipush 32, 2) := by decide +kernel
theorem dX12_next_10 : decode cX12_next 10 = .ok (.if_icmp .eq 16, 3) := by decide +kernel
theorem dX12_next_13 : decode cX12_next 13 = .ok (.aload_n 0, 1) := by decide +kernel
theorem dX12_next_14 : decode cX12_next 14 = .ok (.aload_n 0, 1) := by decide +kernel
theorem dX12_next_15 : decode cX12_next 15 = .ok (.getfield 147, 3) := by decide +kernel
theorem dX12_next_18 : decode cX12_next 18 = .ok (.invokevirtual 150, 3) := by decide +kernel
theorem dX12_next_21 : decode cX12_next 21 = .ok (.bipush 10, 2) := by decide +kernel
theorem dX12_next_23 : decode cX12_next 23 = .ok (.if_icmp .ne 16, 3) := by decide +kernel
theorem dX12_next_26 : decode cX12_next 26 = .ok (.aload_n 0, 1) := by decide +kernel
theorem dX12_next_27 : decode cX12_next 27 = .ok (.dup, 1) := by decide +kernel
theorem dX12_next_28 : decode cX12_next 28 = .ok (.getfield 147, 3) := by decide +kernel
theorem dX12_next_31 : decode cX12_next 31 = .ok (.iconst 1, 1) := by decide +kernel
theorem dX12_next_32 : decode cX12_next 32 = .ok (.iadd, 1) := by decide +kernel
theorem dX12_next_33 : decode cX12_next 33 = .ok (.putfield 147, 3) := by decide +kernel
theorem dX12_next_36 : decode cX12_next 36 = .ok (.goto (-36), 3) := by decide +kernel
theorem dX12_next_39 : decode cX12_next 39 = .ok (.aload_n 0, 1) := by decide +kernel
theorem dX12_next_40 : decode cX12_next 40 = .ok (.aload_n 0, 1) := by decide +kernel
theorem dX12_next_41 : decode cX12_next 41 = .ok (.getfield 147, 3) := by decide +kernel
theorem dX12_next_44 : decode cX12_next 44 = .ok (.putfield 154, 3) := by decide +kernel
theorem dX12_next_47 : decode cX12_next 47 = .ok (.aload_n 0, 1) := by decide +kernel
theorem dX12_next_48 : decode cX12_next 48 = .ok (.aload_n 0, 1) := by decide +kernel
theorem dX12_next_49 : decode cX12_next 49 = .ok (.getfield 147, 3) := by decide +kernel
theorem dX12_next_52 : decode cX12_next 52 = .ok (.invokevirtual 150, 3) := by decide +kernel
theorem dX12_next_55 : decode cX12_next 55 = .ok (.istore_n 1, 1) := by decide +kernel
theorem dX12_next_56 : decode cX12_next 56 = .ok (.iload_n 1, 1) := by decide +kernel
theorem dX12_next_57 : decode cX12_next 57 = .ok (.ldc 146, 2) := by decide +kernel
theorem dX12_next_59 : decode cX12_next 59 = .ok (.if_icmp .ne 11, 3) := by decide +kernel
theorem dX12_next_62 : decode cX12_next 62 = .ok (.aload_n 0, 1) := by decide +kernel
theorem dX12_next_63 : decode cX12_next 63 = .ok (.iconst 1, 1) := by decide +kernel
theorem dX12_next_64 : decode cX12_next 64 = .ok (.putfield 157, 3) := by decide +kernel
theorem dX12_next_67 : decode cX12_next 67 = .ok (.goto 129, 3) := by decide +kernel
theorem dX12_next_70 : decode cX12_next 70 = .ok (.iload_n 1, 1) := by decide +kernel
theorem dX12_next_71 : decode cX12_next 71 = .ok (.invokestatic 160, 3) := by decide +kernel
theorem dX12_next_74 : decode cX12_next 74 = .ok (.ifCond .eq 38, 3) := by decide +kernel
theorem dX12_next_77 : decode cX12_next 77 = .ok (.aload_n 0, 1) := by decide +kernel
theorem dX12_next_78 : decode cX12_next 78 = .ok (.aload_n 0, 1) := by decide +kernel
theorem dX12_next_79 : decode cX12_next 79 = .ok (.getfield 147, 3) := by decide +kernel
theorem dX12_next_82 : decode cX12_next 82 = .ok (.invokevirtual 150, 3) := by decide +kernel
theorem dX12_next_85 : decode cX12_next 85 = .ok (.invokestatic 160, 3) := by decide +kernel
theorem dX12_next_88 : decode cX12_next 88 = .ok (.ifCond .eq 16, 3) := by decide +kernel
theorem dX12_next_91 : decode cX12_next 91 = .ok (.aload_n 0, 1) := by decide +kernel
theorem dX12_next_92 : decode cX12_next 92 = .ok (.dup, 1) := by decide +kernel
theorem dX12_next_93 : decode cX12_next 93 = .ok (.getfield 147, 3) := by decide +kernel
theorem dX12_next_96 : decode cX12_next 96 = .ok (.iconst 1, 1) := by decide +kernel
theorem dX12_next_97 : decode cX12_next 97 = .ok (.iadd, 1) := by decide +kernel
theorem dX12_next_98 : decode cX12_next 98 = .ok (.putfield 147, 3) := by decide +kernel
theorem dX12_next_101 : decode cX12_next 101 = .ok (.goto (-24), 3) := by decide +kernel
theorem dX12_next_104 : decode cX12_next 104 = .ok (.aload_n 0, 1) := by decide +kernel
theorem dX12_next_105 : decode cX12_next 105 = .ok (.iconst 2, 1) := by decide +kernel
theorem dX12_next_106 : decode cX12_next 106 = .ok (.putfield 157, 3) := by decide +kernel
theorem dX12_next_109 : decode cX12_next 109 = .ok (.goto 87, 3) := by decide +kernel
theorem dX12_next_112 : decode cX12_next 112 = .ok (.iload_n 1, 1) := by decide +kernel
theorem dX12_next_113 : decode cX12_next 113 = .ok (.invokestatic 163, 3) := by decide +kernel
theorem dX12_next_116 : decode cX12_next 116 = .ok (.ifCond .eq 55, 3) := by decide +kernel
theorem dX12_next_119 : decode cX12_next 119 = .ok (.aload_n 0, 1) := by decide +kernel
theorem dX12_next_120 : decode cX12_next 120 = .ok (.aload_n 0, 1) := by decide +kernel
theorem dX12_next_121 : decode cX12_next 121 = .ok (.getfield 147, 3) := by decide +kernel
theorem dX12_next_124 : decode cX12_next 124 = .ok (.invokevirtual 150, 3) := by decide +kernel
theorem dX12_next_127 : decode cX12_next 127 = .ok (.invokestatic 163, 3) := by decide +kernel
theorem dX12_next_130 : decode cX12_next 130 = .ok (.ifCond .eq 16, 3) := by decide +kernel
theorem dX12_next_133 : decode cX12_next 133 = .ok (.aload_n 0, 1) := by decide +kernel
theorem dX12_next_134 : decode cX12_next 134 = .ok (.dup, 1) := by decide +kernel
theorem dX12_next_135 : decode cX12_next 135 = .ok (.getfield 147, 3) := by decide +kernel
theorem dX12_next_138 : decode cX12_next 138 = .ok (.iconst 1, 1) := by decide +kernel
theorem dX12_next_139 : decode cX12_next 139 = .ok (.iadd, 1) := by decide +kernel
theorem dX12_next_140 : decode cX12_next 140 = .ok (.putfield 147, 3) := by decide +kernel
theorem dX12_next_143 : decode cX12_next 143 = .ok (.goto (-24), 3) := by decide +kernel
theorem dX12_next_146 : decode cX12_next 146 = .ok (.aload_n 0, 1) := by decide +kernel
theorem dX12_next_147 : decode cX12_next 147 = .ok (.aload_n 0, 1) := by decide +kernel
theorem dX12_next_148 : decode cX12_next 148 = .ok (.getfield 147, 3) := by decide +kernel
theorem dX12_next_151 : decode cX12_next 151 = .ok (.aload_n 0, 1) := by decide +kernel
theorem dX12_next_152 : decode cX12_next 152 = .ok (.getfield 154, 3) := by decide +kernel
theorem dX12_next_155 : decode cX12_next 155 = .ok (.isub, 1) := by decide +kernel
theorem dX12_next_156 : decode cX12_next 156 = .ok (.iconst 3, 1) := by decide +kernel
theorem dX12_next_157 : decode cX12_next 157 = .ok (.if_icmp .le 7, 3) := by decide +kernel
theorem dX12_next_160 : decode cX12_next 160 = .ok (.iconst 0, 1) := by decide +kernel
theorem dX12_next_161 : decode cX12_next 161 = .ok (.goto 4, 3) := by decide +kernel
theorem dX12_next_164 : decode cX12_next 164 = .ok (.iconst 3, 1) := by decide +kernel
theorem dX12_next_165 : decode cX12_next 165 = .ok (.putfield 157, 3) := by decide +kernel
theorem dX12_next_168 : decode cX12_next 168 = .ok (.goto 28, 3) := by decide +kernel
theorem dX12_next_171 : decode cX12_next 171 = .ok (.aload_n 0, 1) := by decide +kernel
theorem dX12_next_172 : decode cX12_next 172 = .ok (.dup, 1) := by decide +kernel
theorem dX12_next_173 : decode cX12_next 173 = .ok (.getfield 147, 3) := by decide +kernel
theorem dX12_next_176 : decode cX12_next 176 = .ok (.iconst 1, 1) := by decide +kernel
theorem dX12_next_177 : decode cX12_next 177 = .ok (.iadd, 1) := by decide +kernel
theorem dX12_next_178 : decode cX12_next 178 = .ok (.putfield 147, 3) := by decide +kernel
theorem dX12_next_181 : decode cX12_next 181 = .ok (.aload_n 0, 1) := by decide +kernel
theorem dX12_next_182 : decode cX12_next 182 = .ok (.iload_n 1, 1) := by decide +kernel
theorem dX12_next_183 : decode cX12_next 183 = .ok (.bipush 59, 2) := by decide +kernel
theorem dX12_next_185 : decode cX12_next 185 = .ok (.if_icmp .ne 7, 3) := by decide +kernel
theorem dX12_next_188 : decode cX12_next 188 = .ok (.iconst 4, 1) := by decide +kernel
theorem dX12_next_189 : decode cX12_next 189 = .ok (.goto 4, 3) := by decide +kernel
theorem dX12_next_192 : decode cX12_next 192 = .ok (.iconst 0, 1) := by decide +kernel
theorem dX12_next_193 : decode cX12_next 193 = .ok (.putfield 157, 3) := by decide +kernel
theorem dX12_next_196 : decode cX12_next 196 = .ok (.aload_n 0, 1) := by decide +kernel
theorem dX12_next_197 : decode cX12_next 197 = .ok (.aload_n 0, 1) := by decide +kernel
theorem dX12_next_198 : decode cX12_next 198 = .ok (.getfield 147, 3) := by decide +kernel
theorem dX12_next_201 : decode cX12_next 201 = .ok (.putfield 166, 3) := by decide +kernel
theorem dX12_next_204 : decode cX12_next 204 = .ok (.return_, 1) := by decide +kernel
theorem dX12_bad_0 : decode cX12_bad 0 = .ok (.aload_n 0, 1) := by decide +kernel
theorem dX12_bad_1 : decode cX12_bad 1 = .ok (.getfield 169, 3) := by decide +kernel
theorem dX12_bad_4 : decode cX12_bad 4 = .ok (.ifCond .ne 16, 3) := by decide +kernel
theorem dX12_bad_7 : decode cX12_bad 7 = .ok (.aload_n 0, 1) := by decide +kernel
theorem dX12_bad_8 : decode cX12_bad 8 = .ok (.iload_n 1, 1) := by decide +kernel
theorem dX12_bad_9 : decode cX12_bad 9 = .ok (.putfield 169, 3) := by decide +kernel
theorem dX12_bad_12 : decode cX12_bad 12 = .ok (.aload_n 0, 1) := by decide +kernel
theorem dX12_bad_13 : decode cX12_bad 13 = .ok (.aload_n 0, 1) := by decide +kernel
theorem dX12_bad_14 : decode cX12_bad 14 = .ok (.getfield 154, 3) := by decide +kernel
theorem dX12_bad_17 : decode cX12_bad 17 = .ok (.putfield 172, 3) := by decide +kernel
theorem dX12_bad_20 : decode cX12_bad 20 = .ok (.return_, 1) := by decide +kernel
theorem dX12_must_0 : decode cX12_must 0 = .ok (.iload_n 1, 1) := by decide +kernel
theorem dX12_must_1 : decode cX12_must 1 = .ok (.ifCond .ne 8, 3) := by decide +kernel
theorem dX12_must_4 : decode cX12_must 4 = .ok (.aload_n 0, 1) := by decide +kernel
theorem dX12_must_5 : decode cX12_must 5 = .ok (.iconst 1, 1) := by decide +kernel
theorem dX12_must_6 : decode cX12_must 6 = .ok (.invokevirtual 175, 3) := by decide +kernel
theorem dX12_must_9 : decode cX12_must 9 = .ok (.aload_n 0, 1) := by decide +kernel
theorem dX12_must_10 : decode cX12_must 10 = .ok (.getfield 169, 3) := by decide +kernel
theorem dX12_must_13 : decode cX12_must 13 = .ok (.ifCond .ne 7, 3) := by decide +kernel
theorem dX12_must_16 : decode cX12_must 16 = .ok (.aload_n 0, 1) := by decide +kernel
theorem dX12_must_17 : decode cX12_must 17 = .ok (.invokevirtual 179, 3) := by decide +kernel
theorem dX12_must_20 : decode cX12_must 20 = .ok (.return_, 1) := by decide +kernel
theorem dX12_word_0 : decode cX12_word 0 = .ok (.lconst 0, 1) := by decide +kernel
theorem dX12_word_1 : decode cX12_word 1 = .ok (.lstore_n 1, 1) := by decide +kernel
theorem dX12_word_2 : decode cX12_word 2 = .ok (.aload_n 0, 1) := by decide +kernel
theorem dX12_word_3 : decode cX12_word 3 = .ok (.getfield 154, 3) := by decide +kernel
theorem dX12_word_6 : decode cX12_word 6 = .ok (.istore_n 3, 1) := by decide +kernel
theorem dX12_word_7 : decode cX12_word 7 = .ok (.iload_n 3, 1) := by decide +kernel
theorem dX12_word_8 : decode cX12_word 8 = .ok (.aload_n 0, 1) := by decide +kernel
theorem dX12_word_9 : decode cX12_word 9 = .ok (.getfield 166, 3) := by decide +kernel
theorem dX12_word_12 : decode cX12_word 12 = .ok (.if_icmp .ge 44, 3) := by decide +kernel
theorem dX12_word_15 : decode cX12_word 15 = .ok (.aload_n 0, 1) := by decide +kernel
theorem dX12_word_16 : decode cX12_word 16 = .ok (.getfield 157, 3) := by decide +kernel
theorem dX12_word_19 : decode cX12_word 19 = .ok (.iconst 2, 1) := by decide +kernel
theorem dX12_word_20 : decode cX12_word 20 = .ok (.if_icmp .ne 36, 3) := by decide +kernel
theorem dX12_word_23 : decode cX12_word 23 = .ok (.aload_n 0, 1) := by decide +kernel
theorem dX12_word_24 : decode cX12_word 24 = .ok (.getfield 166, 3) := by decide +kernel
theorem dX12_word_27 : decode cX12_word 27 = .ok (.aload_n 0, 1) := by decide +kernel
theorem dX12_word_28 : decode cX12_word 28 = .ok (.getfield 154, 3) := by decide +kernel
theorem dX12_word_31 : decode cX12_word 31 = .ok (.isub, 1) := by decide +kernel
theorem dX12_word_32 : decode cX12_word 32 = .ok (.bipush 8, 2) := by decide +kernel
theorem dX12_word_34 : decode cX12_word 34 = .ok (.if_icmp .ge 22, 3) := by decide +kernel
theorem dX12_word_37 : decode cX12_word 37 = .ok (.lload_n 1, 1) := by decide +kernel
theorem dX12_word_38 : decode cX12_word 38 = .ok (.bipush 8, 2) := by decide +kernel
theorem dX12_word_40 : decode cX12_word 40 = .ok (.lshl, 1) := by decide +kernel
theorem dX12_word_41 : decode cX12_word 41 = .ok (.aload_n 0, 1) := by decide +kernel
theorem dX12_word_42 : decode cX12_word 42 = .ok (.getfield 31, 3) := by decide +kernel
theorem dX12_word_45 : decode cX12_word 45 = .ok (.iload_n 3, 1) := by decide +kernel
theorem dX12_word_46 : decode cX12_word 46 = .ok (.iaload, 1) := by decide +kernel
theorem dX12_word_47 : decode cX12_word 47 = .ok (.i2l, 1) := by decide +kernel
theorem dX12_word_48 : decode cX12_word 48 = .ok (.lor, 1) := by decide +kernel
theorem dX12_word_49 : decode cX12_word 49 = .ok (.lstore_n 1, 1) := by decide +kernel
theorem dX12_word_50 : decode cX12_word 50 = .ok (.iinc 3 1, 3) := by decide +kernel
theorem dX12_word_53 : decode cX12_word 53 = .ok (.goto (-46), 3) := by decide +kernel
theorem dX12_word_56 : decode cX12_word 56 = .ok (.aload_n 0, 1) := by decide +kernel
theorem dX12_word_57 : decode cX12_word 57 = .ok (.getfield 169, 3) := by decide +kernel
theorem dX12_word_60 : decode cX12_word 60 = .ok (.ifCond .ne 7, 3) := by decide +kernel
theorem dX12_word_63 : decode cX12_word 63 = .ok (.lload_n 1, 1) := by decide +kernel
theorem dX12_word_64 : decode cX12_word 64 = .ok (.goto 4, 3) := by decide +kernel
theorem dX12_word_67 : decode cX12_word 67 = .ok (.lconst 0, 1) := by decide +kernel
theorem dX12_word_68 : decode cX12_word 68 = .ok (.lreturn, 1) := by decide +kernel
theorem dX12_numberIn_0 : decode cX12_numberIn 0 = .ok (.aload_n 0, 1) := by decide +kernel
theorem dX12_numberIn_1 : decode cX12_numberIn 1 = .ok (.getfield 169, 3) := by decide +kernel
theorem dX12_numberIn_4 : decode cX12_numberIn 4 = .ok (.ifCond .le 5, 3) := by decide +kernel
theorem dX12_numberIn_7 : decode cX12_numberIn 7 = .ok (.iconst 0, 1) := by decide +kernel
theorem dX12_numberIn_8 : decode cX12_numberIn 8 = .ok (.ireturn, 1) := by decide +kernel
theorem dX12_numberIn_9 : decode cX12_numberIn 9 = .ok (.iconst 0, 1) := by decide +kernel
theorem dX12_numberIn_10 : decode cX12_numberIn 10 = .ok (.istore_n 3, 1) := by decide +kernel
theorem dX12_numberIn_11 : decode cX12_numberIn 11 = .ok (.aload_n 0, 1) := by decide +kernel
theorem dX12_numberIn_12 : decode cX12_numberIn 12 = .ok (.getfield 154, 3) := by decide +kernel
theorem dX12_numberIn_15 : decode cX12_numberIn 15 = .ok (.istore 4, 2) := by decide +kernel
theorem dX12_numberIn_17 : decode cX12_numberIn 17 = .ok (.iload 4, 2) := by decide +kernel
theorem dX12_numberIn_19 : decode cX12_numberIn 19 = .ok (.aload_n 0, 1) := by decide +kernel
theorem dX12_numberIn_20 : decode cX12_numberIn 20 = .ok (.getfield 166, 3) := by decide +kernel
theorem dX12_numberIn_23 : decode cX12_numberIn 23 = .ok (.if_icmp .ge 33, 3) := by decide +kernel
theorem dX12_numberIn_26 : decode cX12_numberIn 26 = .ok (.aload_n 0, 1) := by decide +kernel
theorem dX12_numberIn_27 : decode cX12_numberIn 27 = .ok (.getfield 157, 3) := by decide +kernel
theorem dX12_numberIn_30 : decode cX12_numberIn 30 = .ok (.iconst 3, 1) := by decide +kernel
theorem dX12_numberIn_31 : decode cX12_numberIn 31 = .ok (.if_icmp .ne 25, 3) := by decide +kernel
theorem dX12_numberIn_34 : decode cX12_numberIn 34 = .ok (.bipush 10, 2) := by decide +kernel
theorem dX12_numberIn_36 : decode cX12_numberIn 36 = .ok (.iload_n 3, 1) := by decide +kernel
theorem dX12_numberIn_37 : decode cX12_numberIn 37 = .ok (.imul, 1) := by decide +kernel
theorem dX12_numberIn_38 : decode cX12_numberIn 38 = .ok (.aload_n 0, 1) := by decide +kernel
theorem dX12_numberIn_39 : decode cX12_numberIn 39 = .ok (.getfield 31, 3) := by decide +kernel
theorem dX12_numberIn_42 : decode cX12_numberIn 42 = .ok (.iload 4, 2) := by decide +kernel
theorem dX12_numberIn_44 : decode cX12_numberIn 44 = .ok (.iaload, 1) := by decide +kernel
theorem dX12_numberIn_45 : decode cX12_numberIn 45 = .ok (.iadd, 1) := by decide +kernel
theorem dX12_numberIn_46 : decode cX12_numberIn 46 = .ok (.bipush 48, 2) := by decide +kernel
theorem dX12_numberIn_48 : decode cX12_numberIn 48 = .ok (.isub, 1) := by decide +kernel
theorem dX12_numberIn_49 : decode cX12_numberIn 49 = .ok (.istore_n 3, 1) := by decide +kernel
theorem dX12_numberIn_50 : decode cX12_numberIn 50 = .ok (.iinc 4 1, 3) := by decide +kernel
theorem dX12_numberIn_53 : decode cX12_numberIn 53 = .ok (.goto (-36), 3) := by decide +kernel
theorem dX12_numberIn_56 : decode cX12_numberIn 56 = .ok (.aload_n 0, 1) := by decide +kernel
theorem dX12_numberIn_57 : decode cX12_numberIn 57 = .ok (.getfield 157, 3) := by decide +kernel
theorem dX12_numberIn_60 : decode cX12_numberIn 60 = .ok (.iconst 3, 1) := by decide +kernel
theorem dX12_numberIn_61 : decode cX12_numberIn 61 = .ok (.if_icmp .ne 20, 3) := by decide +kernel
theorem dX12_numberIn_64 : decode cX12_numberIn 64 = .ok (.iload_n 3, 1) := by decide +kernel
theorem dX12_numberIn_65 : decode cX12_numberIn 65 = .ok (.i2l, 1) := by decide +kernel
theorem dX12_numberIn_66 : decode cX12_numberIn 66 = .ok (.iload_n 1, 1) := by decide +kernel
theorem dX12_numberIn_67 : decode cX12_numberIn 67 = .ok (.i2l, 1) := by decide +kernel
theorem dX12_numberIn_68 : decode cX12_numberIn 68 = .ok (.iload_n 2, 1) := by decide +kernel
theorem dX12_numberIn_69 : decode cX12_numberIn 69 = .ok (.i2l, 1) := by decide +kernel
theorem dX12_numberIn_70 : decode cX12_numberIn 70 = .ok (.invokestatic 118, 3) := by decide +kernel
theorem dX12_numberIn_73 : decode cX12_numberIn 73 = .ok (.ifCond .ne 8, 3) := by decide +kernel
theorem dX12_numberIn_76 : decode cX12_numberIn 76 = .ok (.aload_n 0, 1) := by decide +kernel
theorem dX12_numberIn_77 : decode cX12_numberIn 77 = .ok (.iconst 2, 1) := by decide +kernel
theorem dX12_numberIn_78 : decode cX12_numberIn 78 = .ok (.invokevirtual 175, 3) := by decide +kernel
theorem dX12_numberIn_81 : decode cX12_numberIn 81 = .ok (.aload_n 0, 1) := by decide +kernel
theorem dX12_numberIn_82 : decode cX12_numberIn 82 = .ok (.aload_n 0, 1) := by decide +kernel
theorem dX12_numberIn_83 : decode cX12_numberIn 83 = .ok (.getfield 157, 3) := by decide +kernel
theorem dX12_numberIn_86 : decode cX12_numberIn 86 = .ok (.iconst 3, 1) := by decide +kernel
theorem dX12_numberIn_87 : decode cX12_numberIn 87 = .ok (.if_icmp .ne 7, 3) := by decide +kernel
theorem dX12_numberIn_90 : decode cX12_numberIn 90 = .ok (.iconst 1, 1) := by decide +kernel
theorem dX12_numberIn_91 : decode cX12_numberIn 91 = .ok (.goto 4, 3) := by decide +kernel
theorem dX12_numberIn_94 : decode cX12_numberIn 94 = .ok (.iconst 0, 1) := by decide +kernel
theorem dX12_numberIn_95 : decode cX12_numberIn 95 = .ok (.invokevirtual 182, 3) := by decide +kernel
theorem dX12_numberIn_98 : decode cX12_numberIn 98 = .ok (.iload_n 3, 1) := by decide +kernel
theorem dX12_numberIn_99 : decode cX12_numberIn 99 = .ok (.ireturn, 1) := by decide +kernel
theorem dX12_oneOf_0 : decode cX12_oneOf 0 = .ok (.aload_n 0, 1) := by decide +kernel
theorem dX12_oneOf_1 : decode cX12_oneOf 1 = .ok (.invokevirtual 186, 3) := by decide +kernel
theorem dX12_oneOf_4 : decode cX12_oneOf 4 = .ok (.lstore 11, 2) := by decide +kernel
theorem dX12_oneOf_6 : decode cX12_oneOf 6 = .ok (.lload 11, 2) := by decide +kernel
theorem dX12_oneOf_8 : decode cX12_oneOf 8 = .ok (.lconst 0, 1) := by decide +kernel
theorem dX12_oneOf_9 : decode cX12_oneOf 9 = .ok (.lcmp, 1) := by decide +kernel
theorem dX12_oneOf_10 : decode cX12_oneOf 10 = .ok (.ifCond .ne 8, 3) := by decide +kernel
theorem dX12_oneOf_13 : decode cX12_oneOf 13 = .ok (.ldc 146, 2) := by decide +kernel
theorem dX12_oneOf_15 : decode cX12_oneOf 15 = .ok (.goto 63, 3) := by decide +kernel
theorem dX12_oneOf_18 : decode cX12_oneOf 18 = .ok (.lload 11, 2) := by decide +kernel
theorem dX12_oneOf_20 : decode cX12_oneOf 20 = .ok (.lload_n 1, 1) := by decide +kernel
theorem dX12_oneOf_21 : decode cX12_oneOf 21 = .ok (.lcmp, 1) := by decide +kernel
theorem dX12_oneOf_22 : decode cX12_oneOf 22 = .ok (.ifCond .ne 7, 3) := by decide +kernel
theorem dX12_oneOf_25 : decode cX12_oneOf 25 = .ok (.iconst 0, 1) := by decide +kernel
theorem dX12_oneOf_26 : decode cX12_oneOf 26 = .ok (.goto 52, 3) := by decide +kernel
theorem dX12_oneOf_29 : decode cX12_oneOf 29 = .ok (.lload 11, 2) := by decide +kernel
theorem dX12_oneOf_31 : decode cX12_oneOf 31 = .ok (.lload_n 3, 1) := by decide +kernel
theorem dX12_oneOf_32 : decode cX12_oneOf 32 = .ok (.lcmp, 1) := by decide +kernel
theorem dX12_oneOf_33 : decode cX12_oneOf 33 = .ok (.ifCond .ne 7, 3) := by decide +kernel
theorem dX12_oneOf_36 : decode cX12_oneOf 36 = .ok (.iconst 1, 1) := by decide +kernel
theorem dX12_oneOf_37 : decode cX12_oneOf 37 = .ok (.goto 41, 3) := by decide +kernel
theorem dX12_oneOf_40 : decode cX12_oneOf 40 = .ok (.lload 11, 2) := by decide +kernel
theorem dX12_oneOf_42 : decode cX12_oneOf 42 = .ok (.lload 5, 2) := by decide +kernel
theorem dX12_oneOf_44 : decode cX12_oneOf 44 = .ok (.lcmp, 1) := by decide +kernel
theorem dX12_oneOf_45 : decode cX12_oneOf 45 = .ok (.ifCond .ne 7, 3) := by decide +kernel
theorem dX12_oneOf_48 : decode cX12_oneOf 48 = .ok (.iconst 2, 1) := by decide +kernel
theorem dX12_oneOf_49 : decode cX12_oneOf 49 = .ok (.goto 29, 3) := by decide +kernel
theorem dX12_oneOf_52 : decode cX12_oneOf 52 = .ok (.lload 11, 2) := by decide +kernel
theorem dX12_oneOf_54 : decode cX12_oneOf 54 = .ok (.lload 7, 2) := by decide +kernel
theorem dX12_oneOf_56 : decode cX12_oneOf 56 = .ok (.lcmp, 1) := by decide +kernel
theorem dX12_oneOf_57 : decode cX12_oneOf 57 = .ok (.ifCond .ne 7, 3) := by decide +kernel
theorem dX12_oneOf_60 : decode cX12_oneOf 60 = .ok (.iconst 3, 1) := by decide +kernel
theorem dX12_oneOf_61 : decode cX12_oneOf 61 = .ok (.goto 17, 3) := by decide +kernel
theorem dX12_oneOf_64 : decode cX12_oneOf 64 = .ok (.lload 11, 2) := by decide +kernel
theorem dX12_oneOf_66 : decode cX12_oneOf 66 = .ok (.lload 9, 2) := by decide +kernel
theorem dX12_oneOf_68 : decode cX12_oneOf 68 = .ok (.lcmp, 1) := by decide +kernel
theorem dX12_oneOf_69 : decode cX12_oneOf 69 = .ok (.ifCond .ne 7, 3) := by decide +kernel
theorem dX12_oneOf_72 : decode cX12_oneOf 72 = .ok (.iconst 4, 1) := by decide +kernel
theorem dX12_oneOf_73 : decode cX12_oneOf 73 = .ok (.goto 5, 3) := by decide +kernel
theorem dX12_oneOf_76 : decode cX12_oneOf 76 = .ok (.ldc 146, 2) := by decide +kernel
theorem dX12_oneOf_78 : decode cX12_oneOf 78 = .ok (.istore 13, 2) := by decide +kernel
theorem dX12_oneOf_80 : decode cX12_oneOf 80 = .ok (.aload_n 0, 1) := by decide +kernel
theorem dX12_oneOf_81 : decode cX12_oneOf 81 = .ok (.getfield 169, 3) := by decide +kernel
theorem dX12_oneOf_84 : decode cX12_oneOf 84 = .ok (.ifCond .ne 19, 3) := by decide +kernel
theorem dX12_oneOf_87 : decode cX12_oneOf 87 = .ok (.aload_n 0, 1) := by decide +kernel
theorem dX12_oneOf_88 : decode cX12_oneOf 88 = .ok (.iload 13, 2) := by decide +kernel
theorem dX12_oneOf_90 : decode cX12_oneOf 90 = .ok (.ldc 146, 2) := by decide +kernel
theorem dX12_oneOf_92 : decode cX12_oneOf 92 = .ok (.if_icmp .eq 7, 3) := by decide +kernel
theorem dX12_oneOf_95 : decode cX12_oneOf 95 = .ok (.iconst 1, 1) := by decide +kernel
theorem dX12_oneOf_96 : decode cX12_oneOf 96 = .ok (.goto 4, 3) := by decide +kernel
theorem dX12_oneOf_99 : decode cX12_oneOf 99 = .ok (.iconst 0, 1) := by decide +kernel
theorem dX12_oneOf_100 : decode cX12_oneOf 100 = .ok (.invokevirtual 182, 3) := by decide +kernel
theorem dX12_oneOf_103 : decode cX12_oneOf 103 = .ok (.iload 13, 2) := by decide +kernel
theorem dX12_oneOf_105 : decode cX12_oneOf 105 = .ok (.ireturn, 1) := by decide +kernel
theorem dX12_mustEnd_0 : decode cX12_mustEnd 0 = .ok (.aload_n 0, 1) := by decide +kernel
theorem dX12_mustEnd_1 : decode cX12_mustEnd 1 = .ok (.getfield 169, 3) := by decide +kernel
theorem dX12_mustEnd_4 : decode cX12_mustEnd 4 = .ok (.ifCond .ne 20, 3) := by decide +kernel
theorem dX12_mustEnd_7 : decode cX12_mustEnd 7 = .ok (.aload_n 0, 1) := by decide +kernel
theorem dX12_mustEnd_8 : decode cX12_mustEnd 8 = .ok (.aload_n 0, 1) := by decide +kernel
theorem dX12_mustEnd_9 : decode cX12_mustEnd 9 = .ok (.getfield 157, 3) := by decide +kernel
theorem dX12_mustEnd_12 : decode cX12_mustEnd 12 = .ok (.iconst 4, 1) := by decide +kernel
theorem dX12_mustEnd_13 : decode cX12_mustEnd 13 = .ok (.if_icmp .ne 7, 3) := by decide +kernel
theorem dX12_mustEnd_16 : decode cX12_mustEnd 16 = .ok (.iconst 1, 1) := by decide +kernel
theorem dX12_mustEnd_17 : decode cX12_mustEnd 17 = .ok (.goto 4, 3) := by decide +kernel
theorem dX12_mustEnd_20 : decode cX12_mustEnd 20 = .ok (.iconst 0, 1) := by decide +kernel
theorem dX12_mustEnd_21 : decode cX12_mustEnd 21 = .ok (.invokevirtual 182, 3) := by decide +kernel
theorem dX12_mustEnd_24 : decode cX12_mustEnd 24 = .ok (.return_, 1) := by decide +kernel
theorem dX12_readLaw_0 : decode cX12_readLaw 0 = .ok (.aload_n 0, 1) := by decide +kernel
theorem dX12_readLaw_1 : decode cX12_readLaw 1 = .ok (.invokevirtual 186, 3) := by decide +kernel
theorem dX12_readLaw_4 : decode cX12_readLaw 4 = .ok (.ldc2_w 190, 3) := by decide +kernel
theorem dX12_readLaw_7 : decode cX12_readLaw 7 = .ok (.lcmp, 1) := by decide +kernel
theorem dX12_readLaw_8 : decode cX12_readLaw 8 = .ok (.ifCond .ne 16, 3) := by decide +kernel
theorem dX12_readLaw_11 : decode cX12_readLaw 11 = .ok (.aload_n 0, 1) := by decide +kernel
theorem dX12_readLaw_12 : decode cX12_readLaw 12 = .ok (.getfield 192, 3) := by decide +kernel
theorem dX12_readLaw_15 : decode cX12_readLaw 15 = .ok (.iconst 4, 1) := by decide +kernel
theorem dX12_readLaw_16 : decode cX12_readLaw 16 = .ok (.if_icmp .ne 8, 3) := by decide +kernel
theorem dX12_readLaw_19 : decode cX12_readLaw 19 = .ok (.aload_n 0, 1) := by decide +kernel
theorem dX12_readLaw_20 : decode cX12_readLaw 20 = .ok (.iconst 3, 1) := by decide +kernel
theorem dX12_readLaw_21 : decode cX12_readLaw 21 = .ok (.invokevirtual 175, 3) := by decide +kernel
theorem dX12_readLaw_24 : decode cX12_readLaw 24 = .ok (.aload_n 0, 1) := by decide +kernel
theorem dX12_readLaw_25 : decode cX12_readLaw 25 = .ok (.aload_n 0, 1) := by decide +kernel
theorem dX12_readLaw_26 : decode cX12_readLaw 26 = .ok (.invokevirtual 186, 3) := by decide +kernel
theorem dX12_readLaw_29 : decode cX12_readLaw 29 = .ok (.ldc2_w 190, 3) := by decide +kernel
theorem dX12_readLaw_32 : decode cX12_readLaw 32 = .ok (.lcmp, 1) := by decide +kernel
theorem dX12_readLaw_33 : decode cX12_readLaw 33 = .ok (.ifCond .ne 7, 3) := by decide +kernel
theorem dX12_readLaw_36 : decode cX12_readLaw 36 = .ok (.iconst 1, 1) := by decide +kernel
theorem dX12_readLaw_37 : decode cX12_readLaw 37 = .ok (.goto 4, 3) := by decide +kernel
theorem dX12_readLaw_40 : decode cX12_readLaw 40 = .ok (.iconst 0, 1) := by decide +kernel
theorem dX12_readLaw_41 : decode cX12_readLaw 41 = .ok (.invokevirtual 182, 3) := by decide +kernel
theorem dX12_readLaw_44 : decode cX12_readLaw 44 = .ok (.bipush 8, 2) := by decide +kernel
theorem dX12_readLaw_46 : decode cX12_readLaw 46 = .ok (.aload_n 0, 1) := by decide +kernel
theorem dX12_readLaw_47 : decode cX12_readLaw 47 = .ok (.getfield 192, 3) := by decide +kernel
theorem dX12_readLaw_50 : decode cX12_readLaw 50 = .ok (.iconst 4, 1) := by decide +kernel
theorem dX12_readLaw_51 : decode cX12_readLaw 51 = .ok (.irem, 1) := by decide +kernel
theorem dX12_readLaw_52 : decode cX12_readLaw 52 = .ok (.imul, 1) := by decide +kernel
theorem dX12_readLaw_53 : decode cX12_readLaw 53 = .ok (.istore_n 1, 1) := by decide +kernel
theorem dX12_readLaw_54 : decode cX12_readLaw 54 = .ok (.iconst 0, 1) := by decide +kernel
theorem dX12_readLaw_55 : decode cX12_readLaw 55 = .ok (.istore_n 2, 1) := by decide +kernel
theorem dX12_readLaw_56 : decode cX12_readLaw 56 = .ok (.iload_n 2, 1) := by decide +kernel
theorem dX12_readLaw_57 : decode cX12_readLaw 57 = .ok (.iconst 4, 1) := by decide +kernel
theorem dX12_readLaw_58 : decode cX12_readLaw 58 = .ok (.if_icmp .ge 36, 3) := by decide +kernel
theorem dX12_readLaw_61 : decode cX12_readLaw 61 = .ok (.aload_n 0, 1) := by decide +kernel
theorem dX12_readLaw_62 : decode cX12_readLaw 62 = .ok (.getfield 25, 3) := by decide +kernel
theorem dX12_readLaw_65 : decode cX12_readLaw 65 = .ok (.iload_n 1, 1) := by decide +kernel
theorem dX12_readLaw_66 : decode cX12_readLaw 66 = .ok (.iload_n 2, 1) := by decide +kernel
theorem dX12_readLaw_67 : decode cX12_readLaw 67 = .ok (.iadd, 1) := by decide +kernel
theorem dX12_readLaw_68 : decode cX12_readLaw 68 = .ok (.aload_n 0, 1) := by decide +kernel
theorem dX12_readLaw_69 : decode cX12_readLaw 69 = .ok (.ldc2_w 195, 3) := by decide +kernel
theorem dX12_readLaw_72 : decode cX12_readLaw 72 = .ok (.ldc2_w 197, 3) := by decide +kernel
theorem dX12_readLaw_75 : decode cX12_readLaw 75 = .ok (.ldc2_w 199, 3) := by decide +kernel
theorem dX12_readLaw_78 : decode cX12_readLaw 78 = .ok (.ldc2_w 199, 3) := by decide +kernel
theorem dX12_readLaw_81 : decode cX12_readLaw 81 = .ok (.ldc2_w 199, 3) := by decide +kernel
theorem dX12_readLaw_84 : decode cX12_readLaw 84 = .ok (.invokevirtual 201, 3) := by decide +kernel
theorem dX12_readLaw_87 : decode cX12_readLaw 87 = .ok (.iastore, 1) := by decide +kernel
theorem dX12_readLaw_88 : decode cX12_readLaw 88 = .ok (.iinc 2 1, 3) := by decide +kernel
theorem dX12_readLaw_91 : decode cX12_readLaw 91 = .ok (.goto (-35), 3) := by decide +kernel
theorem dX12_readLaw_94 : decode cX12_readLaw 94 = .ok (.aload_n 0, 1) := by decide +kernel
theorem dX12_readLaw_95 : decode cX12_readLaw 95 = .ok (.getfield 25, 3) := by decide +kernel
theorem dX12_readLaw_98 : decode cX12_readLaw 98 = .ok (.iload_n 1, 1) := by decide +kernel
theorem dX12_readLaw_99 : decode cX12_readLaw 99 = .ok (.iconst 4, 1) := by decide +kernel
theorem dX12_readLaw_100 : decode cX12_readLaw 100 = .ok (.iadd, 1) := by decide +kernel
theorem dX12_readLaw_101 : decode cX12_readLaw 101 = .ok (.aload_n 0, 1) := by decide +kernel
theorem dX12_readLaw_102 : decode cX12_readLaw 102 = .ok (.ldc2_w 205, 3) := by decide +kernel
theorem dX12_readLaw_105 : decode cX12_readLaw 105 = .ok (.ldc2_w 197, 3) := by decide +kernel
theorem dX12_readLaw_108 : decode cX12_readLaw 108 = .ok (.ldc2_w 199, 3) := by decide +kernel
theorem dX12_readLaw_111 : decode cX12_readLaw 111 = .ok (.ldc2_w 199, 3) := by decide +kernel
theorem dX12_readLaw_114 : decode cX12_readLaw 114 = .ok (.ldc2_w 199, 3) := by decide +kernel
theorem dX12_readLaw_117 : decode cX12_readLaw 117 = .ok (.invokevirtual 201, 3) := by decide +kernel
theorem dX12_readLaw_120 : decode cX12_readLaw 120 = .ok (.iastore, 1) := by decide +kernel
theorem dX12_readLaw_121 : decode cX12_readLaw 121 = .ok (.aload_n 0, 1) := by decide +kernel
theorem dX12_readLaw_122 : decode cX12_readLaw 122 = .ok (.getfield 25, 3) := by decide +kernel
theorem dX12_readLaw_125 : decode cX12_readLaw 125 = .ok (.iload_n 1, 1) := by decide +kernel
theorem dX12_readLaw_126 : decode cX12_readLaw 126 = .ok (.iconst 5, 1) := by decide +kernel
theorem dX12_readLaw_127 : decode cX12_readLaw 127 = .ok (.iadd, 1) := by decide +kernel
theorem dX12_readLaw_128 : decode cX12_readLaw 128 = .ok (.aload_n 0, 1) := by decide +kernel
theorem dX12_readLaw_129 : decode cX12_readLaw 129 = .ok (.ldc2_w 207, 3) := by decide +kernel
theorem dX12_readLaw_132 : decode cX12_readLaw 132 = .ok (.ldc2_w 209, 3) := by decide +kernel
theorem dX12_readLaw_135 : decode cX12_readLaw 135 = .ok (.ldc2_w 211, 3) := by decide +kernel
theorem dX12_readLaw_138 : decode cX12_readLaw 138 = .ok (.ldc2_w 213, 3) := by decide +kernel
theorem dX12_readLaw_141 : decode cX12_readLaw 141 = .ok (.ldc2_w 215, 3) := by decide +kernel
theorem dX12_readLaw_144 : decode cX12_readLaw 144 = .ok (.invokevirtual 201, 3) := by decide +kernel
theorem dX12_readLaw_147 : decode cX12_readLaw 147 = .ok (.iastore, 1) := by decide +kernel
theorem dX12_readLaw_148 : decode cX12_readLaw 148 = .ok (.aload_n 0, 1) := by decide +kernel
theorem dX12_readLaw_149 : decode cX12_readLaw 149 = .ok (.getfield 25, 3) := by decide +kernel
theorem dX12_readLaw_152 : decode cX12_readLaw 152 = .ok (.iload_n 1, 1) := by decide +kernel
theorem dX12_readLaw_153 : decode cX12_readLaw 153 = .ok (.bipush 6, 2) := by decide +kernel
theorem dX12_readLaw_155 : decode cX12_readLaw 155 = .ok (.iadd, 1) := by decide +kernel
theorem dX12_readLaw_156 : decode cX12_readLaw 156 = .ok (.aload_n 0, 1) := by decide +kernel
theorem dX12_readLaw_157 : decode cX12_readLaw 157 = .ok (.ldc2_w 217, 3) := by decide +kernel
theorem dX12_readLaw_160 : decode cX12_readLaw 160 = .ok (.ldc2_w 219, 3) := by decide +kernel
theorem dX12_readLaw_163 : decode cX12_readLaw 163 = .ok (.ldc2_w 199, 3) := by decide +kernel
theorem dX12_readLaw_166 : decode cX12_readLaw 166 = .ok (.ldc2_w 199, 3) := by decide +kernel
theorem dX12_readLaw_169 : decode cX12_readLaw 169 = .ok (.ldc2_w 199, 3) := by decide +kernel
theorem dX12_readLaw_172 : decode cX12_readLaw 172 = .ok (.invokevirtual 201, 3) := by decide +kernel
theorem dX12_readLaw_175 : decode cX12_readLaw 175 = .ok (.iastore, 1) := by decide +kernel
theorem dX12_readLaw_176 : decode cX12_readLaw 176 = .ok (.aload_n 0, 1) := by decide +kernel
theorem dX12_readLaw_177 : decode cX12_readLaw 177 = .ok (.getfield 25, 3) := by decide +kernel
theorem dX12_readLaw_180 : decode cX12_readLaw 180 = .ok (.iload_n 1, 1) := by decide +kernel
theorem dX12_readLaw_181 : decode cX12_readLaw 181 = .ok (.bipush 7, 2) := by decide +kernel
theorem dX12_readLaw_183 : decode cX12_readLaw 183 = .ok (.iadd, 1) := by decide +kernel
theorem dX12_readLaw_184 : decode cX12_readLaw 184 = .ok (.aload_n 0, 1) := by decide +kernel
theorem dX12_readLaw_185 : decode cX12_readLaw 185 = .ok (.iconst 0, 1) := by decide +kernel
theorem dX12_readLaw_186 : decode cX12_readLaw 186 = .ok (.bipush 100, 2) := by decide +kernel
theorem dX12_readLaw_188 : decode cX12_readLaw 188 = .ok (.invokevirtual 221, 3) := by decide +kernel
theorem dX12_readLaw_191 : decode cX12_readLaw 191 = .ok (.iastore, 1) := by decide +kernel
theorem dX12_readLaw_192 : decode cX12_readLaw 192 = .ok (.aload_n 0, 1) := by decide +kernel
theorem dX12_readLaw_193 : decode cX12_readLaw 193 = .ok (.invokevirtual 225, 3) := by decide +kernel
theorem dX12_readLaw_196 : decode cX12_readLaw 196 = .ok (.aload_n 0, 1) := by decide +kernel
theorem dX12_readLaw_197 : decode cX12_readLaw 197 = .ok (.dup, 1) := by decide +kernel
theorem dX12_readLaw_198 : decode cX12_readLaw 198 = .ok (.getfield 192, 3) := by decide +kernel
theorem dX12_readLaw_201 : decode cX12_readLaw 201 = .ok (.iconst 1, 1) := by decide +kernel
theorem dX12_readLaw_202 : decode cX12_readLaw 202 = .ok (.iadd, 1) := by decide +kernel
theorem dX12_readLaw_203 : decode cX12_readLaw 203 = .ok (.putfield 192, 3) := by decide +kernel
theorem dX12_readLaw_206 : decode cX12_readLaw 206 = .ok (.return_, 1) := by decide +kernel
theorem dX12_kindOfWord_0 : decode cX12_kindOfWord 0 = .ok (.aload_n 0, 1) := by decide +kernel
theorem dX12_kindOfWord_1 : decode cX12_kindOfWord 1 = .ok (.invokevirtual 186, 3) := by decide +kernel
theorem dX12_kindOfWord_4 : decode cX12_kindOfWord 4 = .ok (.lstore_n 1, 1) := by decide +kernel
theorem dX12_kindOfWord_5 : decode cX12_kindOfWord 5 = .ok (.lload_n 1, 1) := by decide +kernel
theorem dX12_kindOfWord_6 : decode cX12_kindOfWord 6 = .ok (.ldc2_w 228, 3) := by decide +kernel
theorem dX12_kindOfWord_9 : decode cX12_kindOfWord 9 = .ok (.lcmp, 1) := by decide +kernel
theorem dX12_kindOfWord_10 : decode cX12_kindOfWord 10 = .ok (.ifCond .ne 7, 3) := by decide +kernel
theorem dX12_kindOfWord_13 : decode cX12_kindOfWord 13 = .ok (.iconst 0, 1) := by decide +kernel
theorem dX12_kindOfWord_14 : decode cX12_kindOfWord 14 = .ok (.goto 78, 3) := by decide +kernel
theorem dX12_kindOfWord_17 : decode cX12_kindOfWord 17 = .ok (.lload_n 1, 1) := by decide +kernel
theorem dX12_kindOfWord_18 : decode cX12_kindOfWord 18 = .ok (.ldc2_w 230, 3) := by decide +kernel
theorem dX12_kindOfWord_21 : decode cX12_kindOfWord 21 = .ok (.lcmp, 1) := by decide +kernel
theorem dX12_kindOfWord_22 : decode cX12_kindOfWord 22 = .ok (.ifCond .ne 7, 3) := by decide +kernel
theorem dX12_kindOfWord_25 : decode cX12_kindOfWord 25 = .ok (.iconst 1, 1) := by decide +kernel
theorem dX12_kindOfWord_26 : decode cX12_kindOfWord 26 = .ok (.goto 66, 3) := by decide +kernel
theorem dX12_kindOfWord_29 : decode cX12_kindOfWord 29 = .ok (.lload_n 1, 1) := by decide +kernel
theorem dX12_kindOfWord_30 : decode cX12_kindOfWord 30 = .ok (.ldc2_w 232, 3) := by decide +kernel
theorem dX12_kindOfWord_33 : decode cX12_kindOfWord 33 = .ok (.lcmp, 1) := by decide +kernel
theorem dX12_kindOfWord_34 : decode cX12_kindOfWord 34 = .ok (.ifCond .ne 7, 3) := by decide +kernel
theorem dX12_kindOfWord_37 : decode cX12_kindOfWord 37 = .ok (.iconst 2, 1) := by decide +kernel
theorem dX12_kindOfWord_38 : decode cX12_kindOfWord 38 = .ok (.goto 54, 3) := by decide +kernel
theorem dX12_kindOfWord_41 : decode cX12_kindOfWord 41 = .ok (.lload_n 1, 1) := by decide +kernel
theorem dX12_kindOfWord_42 : decode cX12_kindOfWord 42 = .ok (.ldc2_w 234, 3) := by decide +kernel
theorem dX12_kindOfWord_45 : decode cX12_kindOfWord 45 = .ok (.lcmp, 1) := by decide +kernel
theorem dX12_kindOfWord_46 : decode cX12_kindOfWord 46 = .ok (.ifCond .ne 7, 3) := by decide +kernel
theorem dX12_kindOfWord_49 : decode cX12_kindOfWord 49 = .ok (.iconst 3, 1) := by decide +kernel
theorem dX12_kindOfWord_50 : decode cX12_kindOfWord 50 = .ok (.goto 42, 3) := by decide +kernel
theorem dX12_kindOfWord_53 : decode cX12_kindOfWord 53 = .ok (.lload_n 1, 1) := by decide +kernel
theorem dX12_kindOfWord_54 : decode cX12_kindOfWord 54 = .ok (.ldc2_w 236, 3) := by decide +kernel
theorem dX12_kindOfWord_57 : decode cX12_kindOfWord 57 = .ok (.lcmp, 1) := by decide +kernel
theorem dX12_kindOfWord_58 : decode cX12_kindOfWord 58 = .ok (.ifCond .ne 7, 3) := by decide +kernel
theorem dX12_kindOfWord_61 : decode cX12_kindOfWord 61 = .ok (.iconst 4, 1) := by decide +kernel
theorem dX12_kindOfWord_62 : decode cX12_kindOfWord 62 = .ok (.goto 30, 3) := by decide +kernel
theorem dX12_kindOfWord_65 : decode cX12_kindOfWord 65 = .ok (.lload_n 1, 1) := by decide +kernel
theorem dX12_kindOfWord_66 : decode cX12_kindOfWord 66 = .ok (.ldc2_w 238, 3) := by decide +kernel
theorem dX12_kindOfWord_69 : decode cX12_kindOfWord 69 = .ok (.lcmp, 1) := by decide +kernel
theorem dX12_kindOfWord_70 : decode cX12_kindOfWord 70 = .ok (.ifCond .ne 7, 3) := by decide +kernel
theorem dX12_kindOfWord_73 : decode cX12_kindOfWord 73 = .ok (.iconst 5, 1) := by decide +kernel
theorem dX12_kindOfWord_74 : decode cX12_kindOfWord 74 = .ok (.goto 18, 3) := by decide +kernel
theorem dX12_kindOfWord_77 : decode cX12_kindOfWord 77 = .ok (.lload_n 1, 1) := by decide +kernel
theorem dX12_kindOfWord_78 : decode cX12_kindOfWord 78 = .ok (.ldc2_w 240, 3) := by decide +kernel
theorem dX12_kindOfWord_81 : decode cX12_kindOfWord 81 = .ok (.lcmp, 1) := by decide +kernel
theorem dX12_kindOfWord_82 : decode cX12_kindOfWord 82 = .ok (.ifCond .ne 8, 3) := by decide +kernel
theorem dX12_kindOfWord_85 : decode cX12_kindOfWord 85 = .ok (.bipush 6, 2) := by decide +kernel
theorem dX12_kindOfWord_87 : decode cX12_kindOfWord 87 = .ok (.goto 5, 3) := by decide +kernel
theorem dX12_kindOfWord_90 : decode cX12_kindOfWord 90 = .ok (.ldc 146, 2) := by decide +kernel
theorem dX12_kindOfWord_92 : decode cX12_kindOfWord 92 = .ok (.ireturn, 1) := by decide +kernel
theorem dX12_readNumbers_0 : decode cX12_readNumbers 0 = .ok (.iload_n 1, 1) := by decide +kernel
theorem dX12_readNumbers_1 : decode cX12_readNumbers 1 = .ok (.ifCond .ne 62, 3) := by decide +kernel
theorem dX12_readNumbers_4 : decode cX12_readNumbers 4 = .ok (.aload_n 0, 1) := by decide +kernel
theorem dX12_readNumbers_5 : decode cX12_readNumbers 5 = .ok (.getfield 28, 3) := by decide +kernel
theorem dX12_readNumbers_8 : decode cX12_readNumbers 8 = .ok (.iload_n 2, 1) := by decide +kernel
theorem dX12_readNumbers_9 : decode cX12_readNumbers 9 = .ok (.iconst 2, 1) := by decide +kernel
theorem dX12_readNumbers_10 : decode cX12_readNumbers 10 = .ok (.iadd, 1) := by decide +kernel
theorem dX12_readNumbers_11 : decode cX12_readNumbers 11 = .ok (.aload_n 0, 1) := by decide +kernel
theorem dX12_readNumbers_12 : decode cX12_readNumbers 12 = .ok (.ldc2_w 242, 3) := by decide +kernel
theorem dX12_readNumbers_15 : decode cX12_readNumbers 15 = .ok (.ldc2_w 244, 3) := by decide +kernel
theorem dX12_readNumbers_18 : decode cX12_readNumbers 18 = .ok (.ldc2_w 246, 3) := by decide +kernel
theorem dX12_readNumbers_21 : decode cX12_readNumbers 21 = .ok (.ldc2_w 248, 3) := by decide +kernel
theorem dX12_readNumbers_24 : decode cX12_readNumbers 24 = .ok (.ldc2_w 199, 3) := by decide +kernel
theorem dX12_readNumbers_27 : decode cX12_readNumbers 27 = .ok (.invokevirtual 201, 3) := by decide +kernel
theorem dX12_readNumbers_30 : decode cX12_readNumbers 30 = .ok (.iastore, 1) := by decide +kernel
theorem dX12_readNumbers_31 : decode cX12_readNumbers 31 = .ok (.aload_n 0, 1) := by decide +kernel
theorem dX12_readNumbers_32 : decode cX12_readNumbers 32 = .ok (.getfield 28, 3) := by decide +kernel
theorem dX12_readNumbers_35 : decode cX12_readNumbers 35 = .ok (.iload_n 2, 1) := by decide +kernel
theorem dX12_readNumbers_36 : decode cX12_readNumbers 36 = .ok (.iconst 3, 1) := by decide +kernel
theorem dX12_readNumbers_37 : decode cX12_readNumbers 37 = .ok (.iadd, 1) := by decide +kernel
theorem dX12_readNumbers_38 : decode cX12_readNumbers 38 = .ok (.aload_n 0, 1) := by decide +kernel
theorem dX12_readNumbers_39 : decode cX12_readNumbers 39 = .ok (.iconst 0, 1) := by decide +kernel
theorem dX12_readNumbers_40 : decode cX12_readNumbers 40 = .ok (.iconst 1, 1) := by decide +kernel
theorem dX12_readNumbers_41 : decode cX12_readNumbers 41 = .ok (.invokevirtual 221, 3) := by decide +kernel
theorem dX12_readNumbers_44 : decode cX12_readNumbers 44 = .ok (.iastore, 1) := by decide +kernel
theorem dX12_readNumbers_45 : decode cX12_readNumbers 45 = .ok (.aload_n 0, 1) := by decide +kernel
theorem dX12_readNumbers_46 : decode cX12_readNumbers 46 = .ok (.getfield 28, 3) := by decide +kernel
theorem dX12_readNumbers_49 : decode cX12_readNumbers 49 = .ok (.iload_n 2, 1) := by decide +kernel
theorem dX12_readNumbers_50 : decode cX12_readNumbers 50 = .ok (.iconst 4, 1) := by decide +kernel
theorem dX12_readNumbers_51 : decode cX12_readNumbers 51 = .ok (.iadd, 1) := by decide +kernel
theorem dX12_readNumbers_52 : decode cX12_readNumbers 52 = .ok (.aload_n 0, 1) := by decide +kernel
theorem dX12_readNumbers_53 : decode cX12_readNumbers 53 = .ok (.iconst 1, 1) := by decide +kernel
theorem dX12_readNumbers_54 : decode cX12_readNumbers 54 = .ok (.bipush 99, 2) := by decide +kernel
theorem dX12_readNumbers_56 : decode cX12_readNumbers 56 = .ok (.invokevirtual 221, 3) := by decide +kernel
theorem dX12_readNumbers_59 : decode cX12_readNumbers 59 = .ok (.iastore, 1) := by decide +kernel
theorem dX12_readNumbers_60 : decode cX12_readNumbers 60 = .ok (.goto 254, 3) := by decide +kernel
theorem dX12_readNumbers_63 : decode cX12_readNumbers 63 = .ok (.iload_n 1, 1) := by decide +kernel
theorem dX12_readNumbers_64 : decode cX12_readNumbers 64 = .ok (.iconst 1, 1) := by decide +kernel
theorem dX12_readNumbers_65 : decode cX12_readNumbers 65 = .ok (.if_icmp .ne 75, 3) := by decide +kernel
theorem dX12_readNumbers_68 : decode cX12_readNumbers 68 = .ok (.aload_n 0, 1) := by decide +kernel
theorem dX12_readNumbers_69 : decode cX12_readNumbers 69 = .ok (.getfield 28, 3) := by decide +kernel
theorem dX12_readNumbers_72 : decode cX12_readNumbers 72 = .ok (.iload_n 2, 1) := by decide +kernel
theorem dX12_readNumbers_73 : decode cX12_readNumbers 73 = .ok (.iconst 2, 1) := by decide +kernel
theorem dX12_readNumbers_74 : decode cX12_readNumbers 74 = .ok (.iadd, 1) := by decide +kernel
theorem dX12_readNumbers_75 : decode cX12_readNumbers 75 = .ok (.aload_n 0, 1) := by decide +kernel
theorem dX12_readNumbers_76 : decode cX12_readNumbers 76 = .ok (.iconst 0, 1) := by decide +kernel
theorem dX12_readNumbers_77 : decode cX12_readNumbers 77 = .ok (.bipush 99, 2) := by decide +kernel
theorem dX12_readNumbers_79 : decode cX12_readNumbers 79 = .ok (.invokevirtual 221, 3) := by decide +kernel
theorem dX12_readNumbers_82 : decode cX12_readNumbers 82 = .ok (.iastore, 1) := by decide +kernel
theorem dX12_readNumbers_83 : decode cX12_readNumbers 83 = .ok (.aload_n 0, 1) := by decide +kernel
theorem dX12_readNumbers_84 : decode cX12_readNumbers 84 = .ok (.getfield 28, 3) := by decide +kernel
theorem dX12_readNumbers_87 : decode cX12_readNumbers 87 = .ok (.iload_n 2, 1) := by decide +kernel
theorem dX12_readNumbers_88 : decode cX12_readNumbers 88 = .ok (.iconst 3, 1) := by decide +kernel
theorem dX12_readNumbers_89 : decode cX12_readNumbers 89 = .ok (.iadd, 1) := by decide +kernel
theorem dX12_readNumbers_90 : decode cX12_readNumbers 90 = .ok (.aload_n 0, 1) := by decide +kernel
theorem dX12_readNumbers_91 : decode cX12_readNumbers 91 = .ok (.iconst 0, 1) := by decide +kernel
theorem dX12_readNumbers_92 : decode cX12_readNumbers 92 = .ok (.bipush 99, 2) := by decide +kernel
theorem dX12_readNumbers_94 : decode cX12_readNumbers 94 = .ok (.invokevirtual 221, 3) := by decide +kernel
theorem dX12_readNumbers_97 : decode cX12_readNumbers 97 = .ok (.iastore, 1) := by decide +kernel
theorem dX12_readNumbers_98 : decode cX12_readNumbers 98 = .ok (.aload_n 0, 1) := by decide +kernel
theorem dX12_readNumbers_99 : decode cX12_readNumbers 99 = .ok (.getfield 28, 3) := by decide +kernel
theorem dX12_readNumbers_102 : decode cX12_readNumbers 102 = .ok (.iload_n 2, 1) := by decide +kernel
theorem dX12_readNumbers_103 : decode cX12_readNumbers 103 = .ok (.iconst 4, 1) := by decide +kernel
theorem dX12_readNumbers_104 : decode cX12_readNumbers 104 = .ok (.iadd, 1) := by decide +kernel
theorem dX12_readNumbers_105 : decode cX12_readNumbers 105 = .ok (.aload_n 0, 1) := by decide +kernel
theorem dX12_readNumbers_106 : decode cX12_readNumbers 106 = .ok (.aload_n 0, 1) := by decide +kernel
theorem dX12_readNumbers_107 : decode cX12_readNumbers 107 = .ok (.getfield 28, 3) := by decide +kernel
theorem dX12_readNumbers_110 : decode cX12_readNumbers 110 = .ok (.iload_n 2, 1) := by decide +kernel
theorem dX12_readNumbers_111 : decode cX12_readNumbers 111 = .ok (.iconst 2, 1) := by decide +kernel
theorem dX12_readNumbers_112 : decode cX12_readNumbers 112 = .ok (.iadd, 1) := by decide +kernel
theorem dX12_readNumbers_113 : decode cX12_readNumbers 113 = .ok (.iaload, 1) := by decide +kernel
theorem dX12_readNumbers_114 : decode cX12_readNumbers 114 = .ok (.aload_n 0, 1) := by decide +kernel
theorem dX12_readNumbers_115 : decode cX12_readNumbers 115 = .ok (.getfield 28, 3) := by decide +kernel
theorem dX12_readNumbers_118 : decode cX12_readNumbers 118 = .ok (.iload_n 2, 1) := by decide +kernel
theorem dX12_readNumbers_119 : decode cX12_readNumbers 119 = .ok (.iconst 3, 1) := by decide +kernel
theorem dX12_readNumbers_120 : decode cX12_readNumbers 120 = .ok (.iadd, 1) := by decide +kernel
theorem dX12_readNumbers_121 : decode cX12_readNumbers 121 = .ok (.iaload, 1) := by decide +kernel
theorem dX12_readNumbers_122 : decode cX12_readNumbers 122 = .ok (.iadd, 1) := by decide +kernel
theorem dX12_readNumbers_123 : decode cX12_readNumbers 123 = .ok (.ifCond .le 7, 3) := by decide +kernel
theorem dX12_readNumbers_126 : decode cX12_readNumbers 126 = .ok (.iconst 0, 1) := by decide +kernel
theorem dX12_readNumbers_127 : decode cX12_readNumbers 127 = .ok (.goto 4, 3) := by decide +kernel
theorem dX12_readNumbers_130 : decode cX12_readNumbers 130 = .ok (.iconst 1, 1) := by decide +kernel
theorem dX12_readNumbers_131 : decode cX12_readNumbers 131 = .ok (.bipush 99, 2) := by decide +kernel
theorem dX12_readNumbers_133 : decode cX12_readNumbers 133 = .ok (.invokevirtual 221, 3) := by decide +kernel
theorem dX12_readNumbers_136 : decode cX12_readNumbers 136 = .ok (.iastore, 1) := by decide +kernel
theorem dX12_readNumbers_137 : decode cX12_readNumbers 137 = .ok (.goto 177, 3) := by decide +kernel
theorem dX12_readNumbers_140 : decode cX12_readNumbers 140 = .ok (.iload_n 1, 1) := by decide +kernel
theorem dX12_readNumbers_141 : decode cX12_readNumbers 141 = .ok (.iconst 2, 1) := by decide +kernel
theorem dX12_readNumbers_142 : decode cX12_readNumbers 142 = .ok (.if_icmp .eq 8, 3) := by decide +kernel
theorem dX12_readNumbers_145 : decode cX12_readNumbers 145 = .ok (.iload_n 1, 1) := by decide +kernel
theorem dX12_readNumbers_146 : decode cX12_readNumbers 146 = .ok (.iconst 3, 1) := by decide +kernel
theorem dX12_readNumbers_147 : decode cX12_readNumbers 147 = .ok (.if_icmp .ne 78, 3) := by decide +kernel
theorem dX12_readNumbers_150 : decode cX12_readNumbers 150 = .ok (.aload_n 0, 1) := by decide +kernel
theorem dX12_readNumbers_151 : decode cX12_readNumbers 151 = .ok (.getfield 28, 3) := by decide +kernel
theorem dX12_readNumbers_154 : decode cX12_readNumbers 154 = .ok (.iload_n 2, 1) := by decide +kernel
theorem dX12_readNumbers_155 : decode cX12_readNumbers 155 = .ok (.iconst 2, 1) := by decide +kernel
theorem dX12_readNumbers_156 : decode cX12_readNumbers 156 = .ok (.iadd, 1) := by decide +kernel
theorem dX12_readNumbers_157 : decode cX12_readNumbers 157 = .ok (.aload_n 0, 1) := by decide +kernel
theorem dX12_readNumbers_158 : decode cX12_readNumbers 158 = .ok (.iconst 0, 1) := by decide +kernel
theorem dX12_readNumbers_159 : decode cX12_readNumbers 159 = .ok (.aload_n 0, 1) := by decide +kernel
theorem dX12_readNumbers_160 : decode cX12_readNumbers 160 = .ok (.getfield 250, 3) := by decide +kernel
theorem dX12_readNumbers_163 : decode cX12_readNumbers 163 = .ok (.iconst 1, 1) := by decide +kernel
theorem dX12_readNumbers_164 : decode cX12_readNumbers 164 = .ok (.isub, 1) := by decide +kernel
theorem dX12_readNumbers_165 : decode cX12_readNumbers 165 = .ok (.invokevirtual 221, 3) := by decide +kernel
theorem dX12_readNumbers_168 : decode cX12_readNumbers 168 = .ok (.iastore, 1) := by decide +kernel
theorem dX12_readNumbers_169 : decode cX12_readNumbers 169 = .ok (.aload_n 0, 1) := by decide +kernel
theorem dX12_readNumbers_170 : decode cX12_readNumbers 170 = .ok (.getfield 28, 3) := by decide +kernel
theorem dX12_readNumbers_173 : decode cX12_readNumbers 173 = .ok (.iload_n 2, 1) := by decide +kernel
theorem dX12_readNumbers_174 : decode cX12_readNumbers 174 = .ok (.iconst 3, 1) := by decide +kernel
theorem dX12_readNumbers_175 : decode cX12_readNumbers 175 = .ok (.iadd, 1) := by decide +kernel
theorem dX12_readNumbers_176 : decode cX12_readNumbers 176 = .ok (.iload_n 1, 1) := by decide +kernel
theorem dX12_readNumbers_177 : decode cX12_readNumbers 177 = .ok (.iconst 2, 1) := by decide +kernel
theorem dX12_readNumbers_178 : decode cX12_readNumbers 178 = .ok (.if_icmp .ne 12, 3) := by decide +kernel
theorem dX12_readNumbers_181 : decode cX12_readNumbers 181 = .ok (.aload_n 0, 1) := by decide +kernel
theorem dX12_readNumbers_182 : decode cX12_readNumbers 182 = .ok (.iconst 0, 1) := by decide +kernel
theorem dX12_readNumbers_183 : decode cX12_readNumbers 183 = .ok (.iconst 2, 1) := by decide +kernel
theorem dX12_readNumbers_184 : decode cX12_readNumbers 184 = .ok (.invokevirtual 221, 3) := by decide +kernel
theorem dX12_readNumbers_187 : decode cX12_readNumbers 187 = .ok (.goto 10, 3) := by decide +kernel
theorem dX12_readNumbers_190 : decode cX12_readNumbers 190 = .ok (.aload_n 0, 1) := by decide +kernel
theorem dX12_readNumbers_191 : decode cX12_readNumbers 191 = .ok (.iconst 0, 1) := by decide +kernel
theorem dX12_readNumbers_192 : decode cX12_readNumbers 192 = .ok (.bipush 99, 2) := by decide +kernel
theorem dX12_readNumbers_194 : decode cX12_readNumbers 194 = .ok (.invokevirtual 221, 3) := by decide +kernel
theorem dX12_readNumbers_197 : decode cX12_readNumbers 197 = .ok (.iastore, 1) := by decide +kernel
theorem dX12_readNumbers_198 : decode cX12_readNumbers 198 = .ok (.aload_n 0, 1) := by decide +kernel
theorem dX12_readNumbers_199 : decode cX12_readNumbers 199 = .ok (.getfield 28, 3) := by decide +kernel
theorem dX12_readNumbers_202 : decode cX12_readNumbers 202 = .ok (.iload_n 2, 1) := by decide +kernel
theorem dX12_readNumbers_203 : decode cX12_readNumbers 203 = .ok (.iconst 4, 1) := by decide +kernel
theorem dX12_readNumbers_204 : decode cX12_readNumbers 204 = .ok (.iadd, 1) := by decide +kernel
theorem dX12_readNumbers_205 : decode cX12_readNumbers 205 = .ok (.iload_n 1, 1) := by decide +kernel
theorem dX12_readNumbers_206 : decode cX12_readNumbers 206 = .ok (.iconst 2, 1) := by decide +kernel
theorem dX12_readNumbers_207 : decode cX12_readNumbers 207 = .ok (.if_icmp .ne 13, 3) := by decide +kernel
theorem dX12_readNumbers_210 : decode cX12_readNumbers 210 = .ok (.aload_n 0, 1) := by decide +kernel
theorem dX12_readNumbers_211 : decode cX12_readNumbers 211 = .ok (.iconst 1, 1) := by decide +kernel
theorem dX12_readNumbers_212 : decode cX12_readNumbers 212 = .ok (.bipush 99, 2) := by decide +kernel
theorem dX12_readNumbers_214 : decode cX12_readNumbers 214 = .ok (.invokevirtual 221, 3) := by decide +kernel
theorem dX12_readNumbers_217 : decode cX12_readNumbers 217 = .ok (.goto 4, 3) := by decide +kernel
theorem dX12_readNumbers_220 : decode cX12_readNumbers 220 = .ok (.iconst 0, 1) := by decide +kernel
theorem dX12_readNumbers_221 : decode cX12_readNumbers 221 = .ok (.iastore, 1) := by decide +kernel
theorem dX12_readNumbers_222 : decode cX12_readNumbers 222 = .ok (.goto 92, 3) := by decide +kernel
theorem dX12_readNumbers_225 : decode cX12_readNumbers 225 = .ok (.iload_n 1, 1) := by decide +kernel
theorem dX12_readNumbers_226 : decode cX12_readNumbers 226 = .ok (.iconst 4, 1) := by decide +kernel
theorem dX12_readNumbers_227 : decode cX12_readNumbers 227 = .ok (.if_icmp .ne 35, 3) := by decide +kernel
theorem dX12_readNumbers_230 : decode cX12_readNumbers 230 = .ok (.aload_n 0, 1) := by decide +kernel
theorem dX12_readNumbers_231 : decode cX12_readNumbers 231 = .ok (.getfield 28, 3) := by decide +kernel
theorem dX12_readNumbers_234 : decode cX12_readNumbers 234 = .ok (.iload_n 2, 1) := by decide +kernel
theorem dX12_readNumbers_235 : decode cX12_readNumbers 235 = .ok (.iconst 2, 1) := by decide +kernel
theorem dX12_readNumbers_236 : decode cX12_readNumbers 236 = .ok (.iadd, 1) := by decide +kernel
theorem dX12_readNumbers_237 : decode cX12_readNumbers 237 = .ok (.aload_n 0, 1) := by decide +kernel
theorem dX12_readNumbers_238 : decode cX12_readNumbers 238 = .ok (.iconst 0, 1) := by decide +kernel
theorem dX12_readNumbers_239 : decode cX12_readNumbers 239 = .ok (.iconst 2, 1) := by decide +kernel
theorem dX12_readNumbers_240 : decode cX12_readNumbers 240 = .ok (.invokevirtual 221, 3) := by decide +kernel
theorem dX12_readNumbers_243 : decode cX12_readNumbers 243 = .ok (.iastore, 1) := by decide +kernel
theorem dX12_readNumbers_244 : decode cX12_readNumbers 244 = .ok (.aload_n 0, 1) := by decide +kernel
theorem dX12_readNumbers_245 : decode cX12_readNumbers 245 = .ok (.getfield 28, 3) := by decide +kernel
theorem dX12_readNumbers_248 : decode cX12_readNumbers 248 = .ok (.iload_n 2, 1) := by decide +kernel
theorem dX12_readNumbers_249 : decode cX12_readNumbers 249 = .ok (.iconst 3, 1) := by decide +kernel
theorem dX12_readNumbers_250 : decode cX12_readNumbers 250 = .ok (.iadd, 1) := by decide +kernel
theorem dX12_readNumbers_251 : decode cX12_readNumbers 251 = .ok (.aload_n 0, 1) := by decide +kernel
theorem dX12_readNumbers_252 : decode cX12_readNumbers 252 = .ok (.iconst 1, 1) := by decide +kernel
theorem dX12_readNumbers_253 : decode cX12_readNumbers 253 = .ok (.bipush 99, 2) := by decide +kernel
theorem dX12_readNumbers_255 : decode cX12_readNumbers 255 = .ok (.invokevirtual 221, 3) := by decide +kernel
theorem dX12_readNumbers_258 : decode cX12_readNumbers 258 = .ok (.iastore, 1) := by decide +kernel
theorem dX12_readNumbers_259 : decode cX12_readNumbers 259 = .ok (.goto 55, 3) := by decide +kernel
theorem dX12_readNumbers_262 : decode cX12_readNumbers 262 = .ok (.aload_n 0, 1) := by decide +kernel
theorem dX12_readNumbers_263 : decode cX12_readNumbers 263 = .ok (.getfield 28, 3) := by decide +kernel
theorem dX12_readNumbers_266 : decode cX12_readNumbers 266 = .ok (.iload_n 2, 1) := by decide +kernel
theorem dX12_readNumbers_267 : decode cX12_readNumbers 267 = .ok (.iconst 2, 1) := by decide +kernel
theorem dX12_readNumbers_268 : decode cX12_readNumbers 268 = .ok (.iadd, 1) := by decide +kernel
theorem dX12_readNumbers_269 : decode cX12_readNumbers 269 = .ok (.aload_n 0, 1) := by decide +kernel
theorem dX12_readNumbers_270 : decode cX12_readNumbers 270 = .ok (.iconst 0, 1) := by decide +kernel
theorem dX12_readNumbers_271 : decode cX12_readNumbers 271 = .ok (.iload_n 1, 1) := by decide +kernel
theorem dX12_readNumbers_272 : decode cX12_readNumbers 272 = .ok (.iconst 5, 1) := by decide +kernel
theorem dX12_readNumbers_273 : decode cX12_readNumbers 273 = .ok (.if_icmp .ne 12, 3) := by decide +kernel
theorem dX12_readNumbers_276 : decode cX12_readNumbers 276 = .ok (.aload_n 0, 1) := by decide +kernel
theorem dX12_readNumbers_277 : decode cX12_readNumbers 277 = .ok (.getfield 192, 3) := by decide +kernel
theorem dX12_readNumbers_280 : decode cX12_readNumbers 280 = .ok (.iconst 1, 1) := by decide +kernel
theorem dX12_readNumbers_281 : decode cX12_readNumbers 281 = .ok (.isub, 1) := by decide +kernel
theorem dX12_readNumbers_282 : decode cX12_readNumbers 282 = .ok (.goto 4, 3) := by decide +kernel
theorem dX12_readNumbers_285 : decode cX12_readNumbers 285 = .ok (.iconst 4, 1) := by decide +kernel
theorem dX12_readNumbers_286 : decode cX12_readNumbers 286 = .ok (.invokevirtual 221, 3) := by decide +kernel
theorem dX12_readNumbers_289 : decode cX12_readNumbers 289 = .ok (.iastore, 1) := by decide +kernel
theorem dX12_readNumbers_290 : decode cX12_readNumbers 290 = .ok (.aload_n 0, 1) := by decide +kernel
theorem dX12_readNumbers_291 : decode cX12_readNumbers 291 = .ok (.getfield 28, 3) := by decide +kernel
theorem dX12_readNumbers_294 : decode cX12_readNumbers 294 = .ok (.iload_n 2, 1) := by decide +kernel
theorem dX12_readNumbers_295 : decode cX12_readNumbers 295 = .ok (.iconst 3, 1) := by decide +kernel
theorem dX12_readNumbers_296 : decode cX12_readNumbers 296 = .ok (.iadd, 1) := by decide +kernel
theorem dX12_readNumbers_297 : decode cX12_readNumbers 297 = .ok (.iload_n 1, 1) := by decide +kernel
theorem dX12_readNumbers_298 : decode cX12_readNumbers 298 = .ok (.bipush 6, 2) := by decide +kernel
theorem dX12_readNumbers_300 : decode cX12_readNumbers 300 = .ok (.if_icmp .ne 12, 3) := by decide +kernel
theorem dX12_readNumbers_303 : decode cX12_readNumbers 303 = .ok (.aload_n 0, 1) := by decide +kernel
theorem dX12_readNumbers_304 : decode cX12_readNumbers 304 = .ok (.iconst 0, 1) := by decide +kernel
theorem dX12_readNumbers_305 : decode cX12_readNumbers 305 = .ok (.iconst 2, 1) := by decide +kernel
theorem dX12_readNumbers_306 : decode cX12_readNumbers 306 = .ok (.invokevirtual 221, 3) := by decide +kernel
theorem dX12_readNumbers_309 : decode cX12_readNumbers 309 = .ok (.goto 4, 3) := by decide +kernel
theorem dX12_readNumbers_312 : decode cX12_readNumbers 312 = .ok (.iconst 0, 1) := by decide +kernel
theorem dX12_readNumbers_313 : decode cX12_readNumbers 313 = .ok (.iastore, 1) := by decide +kernel
theorem dX12_readNumbers_314 : decode cX12_readNumbers 314 = .ok (.return_, 1) := by decide +kernel
theorem dX12_readEvent_0 : decode cX12_readEvent 0 = .ok (.aload_n 0, 1) := by decide +kernel
theorem dX12_readEvent_1 : decode cX12_readEvent 1 = .ok (.invokevirtual 253, 3) := by decide +kernel
theorem dX12_readEvent_4 : decode cX12_readEvent 4 = .ok (.istore_n 2, 1) := by decide +kernel
theorem dX12_readEvent_5 : decode cX12_readEvent 5 = .ok (.iload_n 2, 1) := by decide +kernel
theorem dX12_readEvent_6 : decode cX12_readEvent 6 = .ok (.ifCond .eq 8, 3) := by decide +kernel
theorem dX12_readEvent_9 : decode cX12_readEvent 9 = .ok (.iload_n 2, 1) := by decide +kernel
theorem dX12_readEvent_10 : decode cX12_readEvent 10 = .ok (.iconst 1, 1) := by decide +kernel
theorem dX12_readEvent_11 : decode cX12_readEvent 11 = .ok (.if_icmp .ne 7, 3) := by decide +kernel
theorem dX12_readEvent_14 : decode cX12_readEvent 14 = .ok (.iconst 1, 1) := by decide +kernel
theorem dX12_readEvent_15 : decode cX12_readEvent 15 = .ok (.goto 4, 3) := by decide +kernel
theorem dX12_readEvent_18 : decode cX12_readEvent 18 = .ok (.iconst 0, 1) := by decide +kernel
theorem dX12_readEvent_19 : decode cX12_readEvent 19 = .ok (.istore_n 3, 1) := by decide +kernel
theorem dX12_readEvent_20 : decode cX12_readEvent 20 = .ok (.iload_n 2, 1) := by decide +kernel
theorem dX12_readEvent_21 : decode cX12_readEvent 21 = .ok (.ldc 146, 2) := by decide +kernel
theorem dX12_readEvent_23 : decode cX12_readEvent 23 = .ok (.if_icmp .eq 12, 3) := by decide +kernel
theorem dX12_readEvent_26 : decode cX12_readEvent 26 = .ok (.aload_n 0, 1) := by decide +kernel
theorem dX12_readEvent_27 : decode cX12_readEvent 27 = .ok (.getfield 257, 3) := by decide +kernel
theorem dX12_readEvent_30 : decode cX12_readEvent 30 = .ok (.bipush 30, 2) := by decide +kernel
theorem dX12_readEvent_32 : decode cX12_readEvent 32 = .ok (.if_icmp .eq 16, 3) := by decide +kernel
theorem dX12_readEvent_35 : decode cX12_readEvent 35 = .ok (.iload_n 3, 1) := by decide +kernel
theorem dX12_readEvent_36 : decode cX12_readEvent 36 = .ok (.ifCond .eq 17, 3) := by decide +kernel
theorem dX12_readEvent_39 : decode cX12_readEvent 39 = .ok (.aload_n 0, 1) := by decide +kernel
theorem dX12_readEvent_40 : decode cX12_readEvent 40 = .ok (.getfield 250, 3) := by decide +kernel
theorem dX12_readEvent_43 : decode cX12_readEvent 43 = .ok (.bipush 10, 2) := by decide +kernel
theorem dX12_readEvent_45 : decode cX12_readEvent 45 = .ok (.if_icmp .ne 8, 3) := by decide +kernel
theorem dX12_readEvent_48 : decode cX12_readEvent 48 = .ok (.aload_n 0, 1) := by decide +kernel
theorem dX12_readEvent_49 : decode cX12_readEvent 49 = .ok (.iconst 3, 1) := by decide +kernel
theorem dX12_readEvent_50 : decode cX12_readEvent 50 = .ok (.invokevirtual 175, 3) := by decide +kernel
theorem dX12_readEvent_53 : decode cX12_readEvent 53 = .ok (.aload_n 0, 1) := by decide +kernel
theorem dX12_readEvent_54 : decode cX12_readEvent 54 = .ok (.iload_n 2, 1) := by decide +kernel
theorem dX12_readEvent_55 : decode cX12_readEvent 55 = .ok (.ldc 146, 2) := by decide +kernel
theorem dX12_readEvent_57 : decode cX12_readEvent 57 = .ok (.if_icmp .eq 7, 3) := by decide +kernel
theorem dX12_readEvent_60 : decode cX12_readEvent 60 = .ok (.iconst 1, 1) := by decide +kernel
theorem dX12_readEvent_61 : decode cX12_readEvent 61 = .ok (.goto 4, 3) := by decide +kernel
theorem dX12_readEvent_64 : decode cX12_readEvent 64 = .ok (.iconst 0, 1) := by decide +kernel
theorem dX12_readEvent_65 : decode cX12_readEvent 65 = .ok (.invokevirtual 182, 3) := by decide +kernel
theorem dX12_readEvent_68 : decode cX12_readEvent 68 = .ok (.aload_n 0, 1) := by decide +kernel
theorem dX12_readEvent_69 : decode cX12_readEvent 69 = .ok (.getfield 169, 3) := by decide +kernel
theorem dX12_readEvent_72 : decode cX12_readEvent 72 = .ok (.ifCond .le 4, 3) := by decide +kernel
theorem dX12_readEvent_75 : decode cX12_readEvent 75 = .ok (.return_, 1) := by decide +kernel
theorem dX12_readEvent_76 : decode cX12_readEvent 76 = .ok (.bipush 6, 2) := by decide +kernel
theorem dX12_readEvent_78 : decode cX12_readEvent 78 = .ok (.aload_n 0, 1) := by decide +kernel
theorem dX12_readEvent_79 : decode cX12_readEvent 79 = .ok (.getfield 257, 3) := by decide +kernel
theorem dX12_readEvent_82 : decode cX12_readEvent 82 = .ok (.imul, 1) := by decide +kernel
theorem dX12_readEvent_83 : decode cX12_readEvent 83 = .ok (.istore 4, 2) := by decide +kernel
theorem dX12_readEvent_85 : decode cX12_readEvent 85 = .ok (.aload_n 0, 1) := by decide +kernel
theorem dX12_readEvent_86 : decode cX12_readEvent 86 = .ok (.getfield 28, 3) := by decide +kernel
theorem dX12_readEvent_89 : decode cX12_readEvent 89 = .ok (.iload 4, 2) := by decide +kernel
theorem dX12_readEvent_91 : decode cX12_readEvent 91 = .ok (.iload_n 2, 1) := by decide +kernel
theorem dX12_readEvent_92 : decode cX12_readEvent 92 = .ok (.iastore, 1) := by decide +kernel
theorem dX12_readEvent_93 : decode cX12_readEvent 93 = .ok (.aload_n 0, 1) := by decide +kernel
theorem dX12_readEvent_94 : decode cX12_readEvent 94 = .ok (.getfield 28, 3) := by decide +kernel
theorem dX12_readEvent_97 : decode cX12_readEvent 97 = .ok (.iload 4, 2) := by decide +kernel
theorem dX12_readEvent_99 : decode cX12_readEvent 99 = .ok (.iconst 1, 1) := by decide +kernel
theorem dX12_readEvent_100 : decode cX12_readEvent 100 = .ok (.iadd, 1) := by decide +kernel
theorem dX12_readEvent_101 : decode cX12_readEvent 101 = .ok (.aload_n 0, 1) := by decide +kernel
theorem dX12_readEvent_102 : decode cX12_readEvent 102 = .ok (.iload_n 1, 1) := by decide +kernel
theorem dX12_readEvent_103 : decode cX12_readEvent 103 = .ok (.sipush 999, 3) := by decide +kernel
theorem dX12_readEvent_106 : decode cX12_readEvent 106 = .ok (.invokevirtual 221, 3) := by decide +kernel
theorem dX12_readEvent_109 : decode cX12_readEvent 109 = .ok (.iastore, 1) := by decide +kernel
theorem dX12_readEvent_110 : decode cX12_readEvent 110 = .ok (.aload_n 0, 1) := by decide +kernel
theorem dX12_readEvent_111 : decode cX12_readEvent 111 = .ok (.iload_n 2, 1) := by decide +kernel
theorem dX12_readEvent_112 : decode cX12_readEvent 112 = .ok (.iload 4, 2) := by decide +kernel
theorem dX12_readEvent_114 : decode cX12_readEvent 114 = .ok (.invokevirtual 260, 3) := by decide +kernel
theorem dX12_readEvent_117 : decode cX12_readEvent 117 = .ok (.aload_n 0, 1) := by decide +kernel
theorem dX12_readEvent_118 : decode cX12_readEvent 118 = .ok (.invokevirtual 225, 3) := by decide +kernel
theorem dX12_readEvent_121 : decode cX12_readEvent 121 = .ok (.aload_n 0, 1) := by decide +kernel
theorem dX12_readEvent_122 : decode cX12_readEvent 122 = .ok (.dup, 1) := by decide +kernel
theorem dX12_readEvent_123 : decode cX12_readEvent 123 = .ok (.getfield 257, 3) := by decide +kernel
theorem dX12_readEvent_126 : decode cX12_readEvent 126 = .ok (.iconst 1, 1) := by decide +kernel
theorem dX12_readEvent_127 : decode cX12_readEvent 127 = .ok (.iadd, 1) := by decide +kernel
theorem dX12_readEvent_128 : decode cX12_readEvent 128 = .ok (.putfield 257, 3) := by decide +kernel
theorem dX12_readEvent_131 : decode cX12_readEvent 131 = .ok (.aload_n 0, 1) := by decide +kernel
theorem dX12_readEvent_132 : decode cX12_readEvent 132 = .ok (.dup, 1) := by decide +kernel
theorem dX12_readEvent_133 : decode cX12_readEvent 133 = .ok (.getfield 250, 3) := by decide +kernel
theorem dX12_readEvent_136 : decode cX12_readEvent 136 = .ok (.iload_n 3, 1) := by decide +kernel
theorem dX12_readEvent_137 : decode cX12_readEvent 137 = .ok (.ifCond .eq 7, 3) := by decide +kernel
theorem dX12_readEvent_140 : decode cX12_readEvent 140 = .ok (.iconst 1, 1) := by decide +kernel
theorem dX12_readEvent_141 : decode cX12_readEvent 141 = .ok (.goto 4, 3) := by decide +kernel
theorem dX12_readEvent_144 : decode cX12_readEvent 144 = .ok (.iconst 0, 1) := by decide +kernel
theorem dX12_readEvent_145 : decode cX12_readEvent 145 = .ok (.iadd, 1) := by decide +kernel
theorem dX12_readEvent_146 : decode cX12_readEvent 146 = .ok (.putfield 250, 3) := by decide +kernel
theorem dX12_readEvent_149 : decode cX12_readEvent 149 = .ok (.return_, 1) := by decide +kernel
theorem dX12_life_0 : decode cX12_life 0 = .ok (.aload_n 0, 1) := by decide +kernel
theorem dX12_life_1 : decode cX12_life 1 = .ok (.iconst 0, 1) := by decide +kernel
theorem dX12_life_2 : decode cX12_life 2 = .ok (.putfield 107, 3) := by decide +kernel
theorem dX12_life_5 : decode cX12_life 5 = .ok (.aload_n 0, 1) := by decide +kernel
theorem dX12_life_6 : decode cX12_life 6 = .ok (.aload_n 0, 1) := by decide +kernel
theorem dX12_life_7 : decode cX12_life 7 = .ok (.getfield 136, 3) := by decide +kernel
theorem dX12_life_10 : decode cX12_life 10 = .ok (.putfield 143, 3) := by decide +kernel
theorem dX12_life_13 : decode cX12_life 13 = .ok (.aload_n 0, 1) := by decide +kernel
theorem dX12_life_14 : decode cX12_life 14 = .ok (.iconst 0, 1) := by decide +kernel
theorem dX12_life_15 : decode cX12_life 15 = .ok (.putfield 136, 3) := by decide +kernel
theorem dX12_life_18 : decode cX12_life 18 = .ok (.aload_n 0, 1) := by decide +kernel
theorem dX12_life_19 : decode cX12_life 19 = .ok (.iconst 0, 1) := by decide +kernel
theorem dX12_life_20 : decode cX12_life 20 = .ok (.putfield 147, 3) := by decide +kernel
theorem dX12_life_23 : decode cX12_life 23 = .ok (.aload_n 0, 1) := by decide +kernel
theorem dX12_life_24 : decode cX12_life 24 = .ok (.iconst 0, 1) := by decide +kernel
theorem dX12_life_25 : decode cX12_life 25 = .ok (.putfield 169, 3) := by decide +kernel
theorem dX12_life_28 : decode cX12_life 28 = .ok (.aload_n 0, 1) := by decide +kernel
theorem dX12_life_29 : decode cX12_life 29 = .ok (.iconst 0, 1) := by decide +kernel
theorem dX12_life_30 : decode cX12_life 30 = .ok (.putfield 192, 3) := by decide +kernel
theorem dX12_life_33 : decode cX12_life 33 = .ok (.aload_n 0, 1) := by decide +kernel
theorem dX12_life_34 : decode cX12_life 34 = .ok (.iconst 0, 1) := by decide +kernel
theorem dX12_life_35 : decode cX12_life 35 = .ok (.putfield 257, 3) := by decide +kernel
theorem dX12_life_38 : decode cX12_life 38 = .ok (.aload_n 0, 1) := by decide +kernel
theorem dX12_life_39 : decode cX12_life 39 = .ok (.iconst 0, 1) := by decide +kernel
theorem dX12_life_40 : decode cX12_life 40 = .ok (.putfield 250, 3) := by decide +kernel
theorem dX12_life_43 : decode cX12_life 43 = .ok (.aload_n 0, 1) := by decide +kernel
theorem dX12_life_44 : decode cX12_life 44 = .ok (.invokevirtual 179, 3) := by decide +kernel
theorem dX12_life_47 : decode cX12_life 47 = .ok (.aload_n 0, 1) := by decide +kernel
theorem dX12_life_48 : decode cX12_life 48 = .ok (.invokevirtual 264, 3) := by decide +kernel
theorem dX12_life_51 : decode cX12_life 51 = .ok (.aload_n 0, 1) := by decide +kernel
theorem dX12_life_52 : decode cX12_life 52 = .ok (.invokevirtual 186, 3) := by decide +kernel
theorem dX12_life_55 : decode cX12_life 55 = .ok (.ldc2_w 190, 3) := by decide +kernel
theorem dX12_life_58 : decode cX12_life 58 = .ok (.lcmp, 1) := by decide +kernel
theorem dX12_life_59 : decode cX12_life 59 = .ok (.ifCond .ne 10, 3) := by decide +kernel
theorem dX12_life_62 : decode cX12_life 62 = .ok (.aload_n 0, 1) := by decide +kernel
theorem dX12_life_63 : decode cX12_life 63 = .ok (.invokevirtual 264, 3) := by decide +kernel
theorem dX12_life_66 : decode cX12_life 66 = .ok (.goto (-15), 3) := by decide +kernel
theorem dX12_life_69 : decode cX12_life 69 = .ok (.aload_n 0, 1) := by decide +kernel
theorem dX12_life_70 : decode cX12_life 70 = .ok (.getfield 169, 3) := by decide +kernel
theorem dX12_life_73 : decode cX12_life 73 = .ok (.ifCond .ne 43, 3) := by decide +kernel
theorem dX12_life_76 : decode cX12_life 76 = .ok (.aload_n 0, 1) := by decide +kernel
theorem dX12_life_77 : decode cX12_life 77 = .ok (.getfield 157, 3) := by decide +kernel
theorem dX12_life_80 : decode cX12_life 80 = .ok (.iconst 1, 1) := by decide +kernel
theorem dX12_life_81 : decode cX12_life 81 = .ok (.if_icmp .eq 35, 3) := by decide +kernel
theorem dX12_life_84 : decode cX12_life 84 = .ok (.aload_n 0, 1) := by decide +kernel
theorem dX12_life_85 : decode cX12_life 85 = .ok (.aload_n 0, 1) := by decide +kernel
theorem dX12_life_86 : decode cX12_life 86 = .ok (.getfield 257, 3) := by decide +kernel
theorem dX12_life_89 : decode cX12_life 89 = .ok (.ifCond .ne 7, 3) := by decide +kernel
theorem dX12_life_92 : decode cX12_life 92 = .ok (.iconst 0, 1) := by decide +kernel
theorem dX12_life_93 : decode cX12_life 93 = .ok (.goto 17, 3) := by decide +kernel
theorem dX12_life_96 : decode cX12_life 96 = .ok (.aload_n 0, 1) := by decide +kernel
theorem dX12_life_97 : decode cX12_life 97 = .ok (.getfield 28, 3) := by decide +kernel
theorem dX12_life_100 : decode cX12_life 100 = .ok (.bipush 6, 2) := by decide +kernel
theorem dX12_life_102 : decode cX12_life 102 = .ok (.aload_n 0, 1) := by decide +kernel
theorem dX12_life_103 : decode cX12_life 103 = .ok (.getfield 257, 3) := by decide +kernel
theorem dX12_life_106 : decode cX12_life 106 = .ok (.imul, 1) := by decide +kernel
theorem dX12_life_107 : decode cX12_life 107 = .ok (.iconst 5, 1) := by decide +kernel
theorem dX12_life_108 : decode cX12_life 108 = .ok (.isub, 1) := by decide +kernel
theorem dX12_life_109 : decode cX12_life 109 = .ok (.iaload, 1) := by decide +kernel
theorem dX12_life_110 : decode cX12_life 110 = .ok (.invokevirtual 267, 3) := by decide +kernel
theorem dX12_life_113 : decode cX12_life 113 = .ok (.goto (-44), 3) := by decide +kernel
theorem dX12_life_116 : decode cX12_life 116 = .ok (.aload_n 0, 1) := by decide +kernel
theorem dX12_life_117 : decode cX12_life 117 = .ok (.getfield 169, 3) := by decide +kernel
theorem dX12_life_120 : decode cX12_life 120 = .ok (.ifCond .le 21, 3) := by decide +kernel
theorem dX12_life_123 : decode cX12_life 123 = .ok (.aload_n 0, 1) := by decide +kernel
theorem dX12_life_124 : decode cX12_life 124 = .ok (.aload_n 0, 1) := by decide +kernel
theorem dX12_life_125 : decode cX12_life 125 = .ok (.getfield 169, 3) := by decide +kernel
theorem dX12_life_128 : decode cX12_life 128 = .ok (.putfield 270, 3) := by decide +kernel
theorem dX12_life_131 : decode cX12_life 131 = .ok (.ldc2_w 273, 3) := by decide +kernel
theorem dX12_life_134 : decode cX12_life 134 = .ok (.aload_n 0, 1) := by decide +kernel
theorem dX12_life_135 : decode cX12_life 135 = .ok (.getfield 172, 3) := by decide +kernel
theorem dX12_life_138 : decode cX12_life 138 = .ok (.i2l, 1) := by decide +kernel
theorem dX12_life_139 : decode cX12_life 139 = .ok (.lsub, 1) := by decide +kernel
theorem dX12_life_140 : decode cX12_life 140 = .ok (.lreturn, 1) := by decide +kernel
theorem dX12_life_141 : decode cX12_life 141 = .ok (.aload_n 0, 1) := by decide +kernel
theorem dX12_life_142 : decode cX12_life 142 = .ok (.iconst 1, 1) := by decide +kernel
theorem dX12_life_143 : decode cX12_life 143 = .ok (.putfield 275, 3) := by decide +kernel
theorem dX12_life_146 : decode cX12_life 146 = .ok (.aload_n 0, 1) := by decide +kernel
theorem dX12_life_147 : decode cX12_life 147 = .ok (.aload_n 0, 1) := by decide +kernel
theorem dX12_life_148 : decode cX12_life 148 = .ok (.getfield 192, 3) := by decide +kernel
theorem dX12_life_151 : decode cX12_life 151 = .ok (.putfield 279, 3) := by decide +kernel
theorem dX12_life_154 : decode cX12_life 154 = .ok (.aload_n 0, 1) := by decide +kernel
theorem dX12_life_155 : decode cX12_life 155 = .ok (.aload_n 0, 1) := by decide +kernel
theorem dX12_life_156 : decode cX12_life 156 = .ok (.getfield 257, 3) := by decide +kernel
theorem dX12_life_159 : decode cX12_life 159 = .ok (.putfield 282, 3) := by decide +kernel
theorem dX12_life_162 : decode cX12_life 162 = .ok (.aload_n 0, 1) := by decide +kernel
theorem dX12_life_163 : decode cX12_life 163 = .ok (.aload_n 0, 1) := by decide +kernel
theorem dX12_life_164 : decode cX12_life 164 = .ok (.getfield 250, 3) := by decide +kernel
theorem dX12_life_167 : decode cX12_life 167 = .ok (.putfield 285, 3) := by decide +kernel
theorem dX12_life_170 : decode cX12_life 170 = .ok (.iconst 0, 1) := by decide +kernel
theorem dX12_life_171 : decode cX12_life 171 = .ok (.istore_n 1, 1) := by decide +kernel
theorem dX12_life_172 : decode cX12_life 172 = .ok (.iload_n 1, 1) := by decide +kernel
theorem dX12_life_173 : decode cX12_life 173 = .ok (.sipush 180, 3) := by decide +kernel
theorem dX12_life_176 : decode cX12_life 176 = .ok (.if_icmp .ge 21, 3) := by decide +kernel
theorem dX12_life_179 : decode cX12_life 179 = .ok (.aload_n 0, 1) := by decide +kernel
theorem dX12_life_180 : decode cX12_life 180 = .ok (.getfield 22, 3) := by decide +kernel
theorem dX12_life_183 : decode cX12_life 183 = .ok (.iload_n 1, 1) := by decide +kernel
theorem dX12_life_184 : decode cX12_life 184 = .ok (.aload_n 0, 1) := by decide +kernel
theorem dX12_life_185 : decode cX12_life 185 = .ok (.getfield 28, 3) := by decide +kernel
theorem dX12_life_188 : decode cX12_life 188 = .ok (.iload_n 1, 1) := by decide +kernel
theorem dX12_life_189 : decode cX12_life 189 = .ok (.iaload, 1) := by decide +kernel
theorem dX12_life_190 : decode cX12_life 190 = .ok (.iastore, 1) := by decide +kernel
theorem dX12_life_191 : decode cX12_life 191 = .ok (.iinc 1 1, 3) := by decide +kernel
theorem dX12_life_194 : decode cX12_life 194 = .ok (.goto (-22), 3) := by decide +kernel
theorem dX12_life_197 : decode cX12_life 197 = .ok (.iconst 0, 1) := by decide +kernel
theorem dX12_life_198 : decode cX12_life 198 = .ok (.istore_n 1, 1) := by decide +kernel
theorem dX12_life_199 : decode cX12_life 199 = .ok (.iload_n 1, 1) := by decide +kernel
theorem dX12_life_200 : decode cX12_life 200 = .ok (.bipush 32, 2) := by decide +kernel
theorem dX12_life_202 : decode cX12_life 202 = .ok (.if_icmp .ge 21, 3) := by decide +kernel
theorem dX12_life_205 : decode cX12_life 205 = .ok (.aload_n 0, 1) := by decide +kernel
theorem dX12_life_206 : decode cX12_life 206 = .ok (.getfield 19, 3) := by decide +kernel
theorem dX12_life_209 : decode cX12_life 209 = .ok (.iload_n 1, 1) := by decide +kernel
theorem dX12_life_210 : decode cX12_life 210 = .ok (.aload_n 0, 1) := by decide +kernel
theorem dX12_life_211 : decode cX12_life 211 = .ok (.getfield 25, 3) := by decide +kernel
theorem dX12_life_214 : decode cX12_life 214 = .ok (.iload_n 1, 1) := by decide +kernel
theorem dX12_life_215 : decode cX12_life 215 = .ok (.iaload, 1) := by decide +kernel
theorem dX12_life_216 : decode cX12_life 216 = .ok (.iastore, 1) := by decide +kernel
theorem dX12_life_217 : decode cX12_life 217 = .ok (.iinc 1 1, 3) := by decide +kernel
theorem dX12_life_220 : decode cX12_life 220 = .ok (.goto (-21), 3) := by decide +kernel
theorem dX12_life_223 : decode cX12_life 223 = .ok (.aload_n 0, 1) := by decide +kernel
theorem dX12_life_224 : decode cX12_life 224 = .ok (.getfield 282, 3) := by decide +kernel
theorem dX12_life_227 : decode cX12_life 227 = .ok (.i2l, 1) := by decide +kernel
theorem dX12_life_228 : decode cX12_life 228 = .ok (.lreturn, 1) := by decide +kernel
theorem dX12_fault_0 : decode cX12_fault 0 = .ok (.aload_n 0, 1) := by decide +kernel
theorem dX12_fault_1 : decode cX12_fault 1 = .ok (.iconst 0, 1) := by decide +kernel
theorem dX12_fault_2 : decode cX12_fault 2 = .ok (.putfield 107, 3) := by decide +kernel
theorem dX12_fault_5 : decode cX12_fault 5 = .ok (.aload_n 0, 1) := by decide +kernel
theorem dX12_fault_6 : decode cX12_fault 6 = .ok (.getfield 270, 3) := by decide +kernel
theorem dX12_fault_9 : decode cX12_fault 9 = .ok (.ireturn, 1) := by decide +kernel
theorem dX12_byLaw_0 : decode cX12_byLaw 0 = .ok (.bipush 8, 2) := by decide +kernel
theorem dX12_byLaw_2 : decode cX12_byLaw 2 = .ok (.aload_n 0, 1) := by decide +kernel
theorem dX12_byLaw_3 : decode cX12_byLaw 3 = .ok (.getfield 288, 3) := by decide +kernel
theorem dX12_byLaw_6 : decode cX12_byLaw 6 = .ok (.imul, 1) := by decide +kernel
theorem dX12_byLaw_7 : decode cX12_byLaw 7 = .ok (.istore_n 2, 1) := by decide +kernel
theorem dX12_byLaw_8 : decode cX12_byLaw 8 = .ok (.aload_n 0, 1) := by decide +kernel
theorem dX12_byLaw_9 : decode cX12_byLaw 9 = .ok (.getfield 61, 3) := by decide +kernel
theorem dX12_byLaw_12 : decode cX12_byLaw 12 = .ok (.iload_n 1, 1) := by decide +kernel
theorem dX12_byLaw_13 : decode cX12_byLaw 13 = .ok (.iaload, 1) := by decide +kernel
theorem dX12_byLaw_14 : decode cX12_byLaw 14 = .ok (.iconst 4, 1) := by decide +kernel
theorem dX12_byLaw_15 : decode cX12_byLaw 15 = .ok (.if_icmp .ge 30, 3) := by decide +kernel
theorem dX12_byLaw_18 : decode cX12_byLaw 18 = .ok (.aload_n 0, 1) := by decide +kernel
theorem dX12_byLaw_19 : decode cX12_byLaw 19 = .ok (.getfield 19, 3) := by decide +kernel
theorem dX12_byLaw_22 : decode cX12_byLaw 22 = .ok (.iload_n 2, 1) := by decide +kernel
theorem dX12_byLaw_23 : decode cX12_byLaw 23 = .ok (.aload_n 0, 1) := by decide +kernel
theorem dX12_byLaw_24 : decode cX12_byLaw 24 = .ok (.getfield 61, 3) := by decide +kernel
theorem dX12_byLaw_27 : decode cX12_byLaw 27 = .ok (.iload_n 1, 1) := by decide +kernel
theorem dX12_byLaw_28 : decode cX12_byLaw 28 = .ok (.iaload, 1) := by decide +kernel
theorem dX12_byLaw_29 : decode cX12_byLaw 29 = .ok (.iadd, 1) := by decide +kernel
theorem dX12_byLaw_30 : decode cX12_byLaw 30 = .ok (.iaload, 1) := by decide +kernel
theorem dX12_byLaw_31 : decode cX12_byLaw 31 = .ok (.ifCond .ne 12, 3) := by decide +kernel
theorem dX12_byLaw_34 : decode cX12_byLaw 34 = .ok (.aload_n 0, 1) := by decide +kernel
theorem dX12_byLaw_35 : decode cX12_byLaw 35 = .ok (.getfield 58, 3) := by decide +kernel
theorem dX12_byLaw_38 : decode cX12_byLaw 38 = .ok (.iload_n 1, 1) := by decide +kernel
theorem dX12_byLaw_39 : decode cX12_byLaw 39 = .ok (.iaload, 1) := by decide +kernel
theorem dX12_byLaw_40 : decode cX12_byLaw 40 = .ok (.goto 4, 3) := by decide +kernel
theorem dX12_byLaw_43 : decode cX12_byLaw 43 = .ok (.iconst 2, 1) := by decide +kernel
theorem dX12_byLaw_44 : decode cX12_byLaw 44 = .ok (.ireturn, 1) := by decide +kernel
theorem dX12_byLaw_45 : decode cX12_byLaw 45 = .ok (.iconst 0, 1) := by decide +kernel
theorem dX12_byLaw_46 : decode cX12_byLaw 46 = .ok (.istore_n 3, 1) := by decide +kernel
theorem dX12_byLaw_47 : decode cX12_byLaw 47 = .ok (.iconst 0, 1) := by decide +kernel
theorem dX12_byLaw_48 : decode cX12_byLaw 48 = .ok (.istore 4, 2) := by decide +kernel
theorem dX12_byLaw_50 : decode cX12_byLaw 50 = .ok (.iconst 0, 1) := by decide +kernel
theorem dX12_byLaw_51 : decode cX12_byLaw 51 = .ok (.istore 5, 2) := by decide +kernel
theorem dX12_byLaw_53 : decode cX12_byLaw 53 = .ok (.iload 5, 2) := by decide +kernel
theorem dX12_byLaw_55 : decode cX12_byLaw 55 = .ok (.iconst 3, 1) := by decide +kernel
theorem dX12_byLaw_56 : decode cX12_byLaw 56 = .ok (.if_icmp .ge 64, 3) := by decide +kernel
theorem dX12_byLaw_59 : decode cX12_byLaw 59 = .ok (.aload_n 0, 1) := by decide +kernel
theorem dX12_byLaw_60 : decode cX12_byLaw 60 = .ok (.getfield 64, 3) := by decide +kernel
theorem dX12_byLaw_63 : decode cX12_byLaw 63 = .ok (.iconst 3, 1) := by decide +kernel
theorem dX12_byLaw_64 : decode cX12_byLaw 64 = .ok (.iload_n 1, 1) := by decide +kernel
theorem dX12_byLaw_65 : decode cX12_byLaw 65 = .ok (.imul, 1) := by decide +kernel
theorem dX12_byLaw_66 : decode cX12_byLaw 66 = .ok (.iload 5, 2) := by decide +kernel
theorem dX12_byLaw_68 : decode cX12_byLaw 68 = .ok (.iadd, 1) := by decide +kernel
theorem dX12_byLaw_69 : decode cX12_byLaw 69 = .ok (.iaload, 1) := by decide +kernel
theorem dX12_byLaw_70 : decode cX12_byLaw 70 = .ok (.aload_n 0, 1) := by decide +kernel
theorem dX12_byLaw_71 : decode cX12_byLaw 71 = .ok (.getfield 64, 3) := by decide +kernel
theorem dX12_byLaw_74 : decode cX12_byLaw 74 = .ok (.iconst 3, 1) := by decide +kernel
theorem dX12_byLaw_75 : decode cX12_byLaw 75 = .ok (.iload_n 1, 1) := by decide +kernel
theorem dX12_byLaw_76 : decode cX12_byLaw 76 = .ok (.imul, 1) := by decide +kernel
theorem dX12_byLaw_77 : decode cX12_byLaw 77 = .ok (.iload_n 3, 1) := by decide +kernel
theorem dX12_byLaw_78 : decode cX12_byLaw 78 = .ok (.iadd, 1) := by decide +kernel
theorem dX12_byLaw_79 : decode cX12_byLaw 79 = .ok (.iaload, 1) := by decide +kernel
theorem dX12_byLaw_80 : decode cX12_byLaw 80 = .ok (.if_icmp .le 8, 3) := by decide +kernel
theorem dX12_byLaw_83 : decode cX12_byLaw 83 = .ok (.iload 5, 2) := by decide +kernel
theorem dX12_byLaw_85 : decode cX12_byLaw 85 = .ok (.goto 4, 3) := by decide +kernel
theorem dX12_byLaw_88 : decode cX12_byLaw 88 = .ok (.iload_n 3, 1) := by decide +kernel
theorem dX12_byLaw_89 : decode cX12_byLaw 89 = .ok (.istore_n 3, 1) := by decide +kernel
theorem dX12_byLaw_90 : decode cX12_byLaw 90 = .ok (.iload 4, 2) := by decide +kernel
theorem dX12_byLaw_92 : decode cX12_byLaw 92 = .ok (.aload_n 0, 1) := by decide +kernel
theorem dX12_byLaw_93 : decode cX12_byLaw 93 = .ok (.getfield 64, 3) := by decide +kernel
theorem dX12_byLaw_96 : decode cX12_byLaw 96 = .ok (.iconst 3, 1) := by decide +kernel
theorem dX12_byLaw_97 : decode cX12_byLaw 97 = .ok (.iload_n 1, 1) := by decide +kernel
theorem dX12_byLaw_98 : decode cX12_byLaw 98 = .ok (.imul, 1) := by decide +kernel
theorem dX12_byLaw_99 : decode cX12_byLaw 99 = .ok (.iload 5, 2) := by decide +kernel
theorem dX12_byLaw_101 : decode cX12_byLaw 101 = .ok (.iadd, 1) := by decide +kernel
theorem dX12_byLaw_102 : decode cX12_byLaw 102 = .ok (.iaload, 1) := by decide +kernel
theorem dX12_byLaw_103 : decode cX12_byLaw 103 = .ok (.ifCond .le 7, 3) := by decide +kernel
theorem dX12_byLaw_106 : decode cX12_byLaw 106 = .ok (.iconst 1, 1) := by decide +kernel
theorem dX12_byLaw_107 : decode cX12_byLaw 107 = .ok (.goto 4, 3) := by decide +kernel
theorem dX12_byLaw_110 : decode cX12_byLaw 110 = .ok (.iconst 0, 1) := by decide +kernel
theorem dX12_byLaw_111 : decode cX12_byLaw 111 = .ok (.iadd, 1) := by decide +kernel
theorem dX12_byLaw_112 : decode cX12_byLaw 112 = .ok (.istore 4, 2) := by decide +kernel
theorem dX12_byLaw_114 : decode cX12_byLaw 114 = .ok (.iinc 5 1, 3) := by decide +kernel
theorem dX12_byLaw_117 : decode cX12_byLaw 117 = .ok (.goto (-64), 3) := by decide +kernel
theorem dX12_byLaw_120 : decode cX12_byLaw 120 = .ok (.aload_n 0, 1) := by decide +kernel
theorem dX12_byLaw_121 : decode cX12_byLaw 121 = .ok (.getfield 19, 3) := by decide +kernel
theorem dX12_byLaw_124 : decode cX12_byLaw 124 = .ok (.iload_n 2, 1) := by decide +kernel
theorem dX12_byLaw_125 : decode cX12_byLaw 125 = .ok (.iconst 4, 1) := by decide +kernel
theorem dX12_byLaw_126 : decode cX12_byLaw 126 = .ok (.iadd, 1) := by decide +kernel
theorem dX12_byLaw_127 : decode cX12_byLaw 127 = .ok (.iaload, 1) := by decide +kernel
theorem dX12_byLaw_128 : decode cX12_byLaw 128 = .ok (.iconst 1, 1) := by decide +kernel
theorem dX12_byLaw_129 : decode cX12_byLaw 129 = .ok (.if_icmp .ne 13, 3) := by decide +kernel
theorem dX12_byLaw_132 : decode cX12_byLaw 132 = .ok (.iload 4, 2) := by decide +kernel
theorem dX12_byLaw_134 : decode cX12_byLaw 134 = .ok (.iconst 1, 1) := by decide +kernel
theorem dX12_byLaw_135 : decode cX12_byLaw 135 = .ok (.if_icmp .le 7, 3) := by decide +kernel
theorem dX12_byLaw_138 : decode cX12_byLaw 138 = .ok (.iconst 2, 1) := by decide +kernel
theorem dX12_byLaw_139 : decode cX12_byLaw 139 = .ok (.goto 4, 3) := by decide +kernel
theorem dX12_byLaw_142 : decode cX12_byLaw 142 = .ok (.iload_n 3, 1) := by decide +kernel
theorem dX12_byLaw_143 : decode cX12_byLaw 143 = .ok (.ireturn, 1) := by decide +kernel
theorem dX12_fall_0 : decode cX12_fall 0 = .ok (.aload_n 0, 1) := by decide +kernel
theorem dX12_fall_1 : decode cX12_fall 1 = .ok (.getfield 34, 3) := by decide +kernel
theorem dX12_fall_4 : decode cX12_fall 4 = .ok (.aload_n 0, 1) := by decide +kernel
theorem dX12_fall_5 : decode cX12_fall 5 = .ok (.getfield 61, 3) := by decide +kernel
theorem dX12_fall_8 : decode cX12_fall 8 = .ok (.iload_n 1, 1) := by decide +kernel
theorem dX12_fall_9 : decode cX12_fall 9 = .ok (.iaload, 1) := by decide +kernel
theorem dX12_fall_10 : decode cX12_fall 10 = .ok (.iaload, 1) := by decide +kernel
theorem dX12_fall_11 : decode cX12_fall 11 = .ok (.ldc 146, 2) := by decide +kernel
theorem dX12_fall_13 : decode cX12_fall 13 = .ok (.if_icmp .eq 7, 3) := by decide +kernel
theorem dX12_fall_16 : decode cX12_fall 16 = .ok (.iconst 1, 1) := by decide +kernel
theorem dX12_fall_17 : decode cX12_fall 17 = .ok (.goto 4, 3) := by decide +kernel
theorem dX12_fall_20 : decode cX12_fall 20 = .ok (.iconst 0, 1) := by decide +kernel
theorem dX12_fall_21 : decode cX12_fall 21 = .ok (.istore 4, 2) := by decide +kernel
theorem dX12_fall_23 : decode cX12_fall 23 = .ok (.aload_n 0, 1) := by decide +kernel
theorem dX12_fall_24 : decode cX12_fall 24 = .ok (.getfield 37, 3) := by decide +kernel
theorem dX12_fall_27 : decode cX12_fall 27 = .ok (.iload_n 1, 1) := by decide +kernel
theorem dX12_fall_28 : decode cX12_fall 28 = .ok (.iload 4, 2) := by decide +kernel
theorem dX12_fall_30 : decode cX12_fall 30 = .ok (.ifCond .eq 17, 3) := by decide +kernel
theorem dX12_fall_33 : decode cX12_fall 33 = .ok (.aload_n 0, 1) := by decide +kernel
theorem dX12_fall_34 : decode cX12_fall 34 = .ok (.getfield 34, 3) := by decide +kernel
theorem dX12_fall_37 : decode cX12_fall 37 = .ok (.aload_n 0, 1) := by decide +kernel
theorem dX12_fall_38 : decode cX12_fall 38 = .ok (.getfield 61, 3) := by decide +kernel
theorem dX12_fall_41 : decode cX12_fall 41 = .ok (.iload_n 1, 1) := by decide +kernel
theorem dX12_fall_42 : decode cX12_fall 42 = .ok (.iaload, 1) := by decide +kernel
theorem dX12_fall_43 : decode cX12_fall 43 = .ok (.iaload, 1) := by decide +kernel
theorem dX12_fall_44 : decode cX12_fall 44 = .ok (.goto 8, 3) := by decide +kernel
theorem dX12_fall_47 : decode cX12_fall 47 = .ok (.aload_n 0, 1) := by decide +kernel
theorem dX12_fall_48 : decode cX12_fall 48 = .ok (.iload_n 1, 1) := by decide +kernel
theorem dX12_fall_49 : decode cX12_fall 49 = .ok (.invokevirtual 291, 3) := by decide +kernel
theorem dX12_fall_52 : decode cX12_fall 52 = .ok (.iastore, 1) := by decide +kernel
theorem dX12_fall_53 : decode cX12_fall 53 = .ok (.aload_n 0, 1) := by decide +kernel
theorem dX12_fall_54 : decode cX12_fall 54 = .ok (.getfield 43, 3) := by decide +kernel
theorem dX12_fall_57 : decode cX12_fall 57 = .ok (.iload_n 1, 1) := by decide +kernel
theorem dX12_fall_58 : decode cX12_fall 58 = .ok (.iload 4, 2) := by decide +kernel
theorem dX12_fall_60 : decode cX12_fall 60 = .ok (.ifCond .eq 7, 3) := by decide +kernel
theorem dX12_fall_63 : decode cX12_fall 63 = .ok (.iconst 1, 1) := by decide +kernel
theorem dX12_fall_64 : decode cX12_fall 64 = .ok (.goto 4, 3) := by decide +kernel
theorem dX12_fall_67 : decode cX12_fall 67 = .ok (.iload_n 3, 1) := by decide +kernel
theorem dX12_fall_68 : decode cX12_fall 68 = .ok (.iastore, 1) := by decide +kernel
theorem dX12_fall_69 : decode cX12_fall 69 = .ok (.aload_n 0, 1) := by decide +kernel
theorem dX12_fall_70 : decode cX12_fall 70 = .ok (.getfield 49, 3) := by decide +kernel
theorem dX12_fall_73 : decode cX12_fall 73 = .ok (.iload_n 1, 1) := by decide +kernel
theorem dX12_fall_74 : decode cX12_fall 74 = .ok (.iload_n 2, 1) := by decide +kernel
theorem dX12_fall_75 : decode cX12_fall 75 = .ok (.iastore, 1) := by decide +kernel
theorem dX12_fall_76 : decode cX12_fall 76 = .ok (.return_, 1) := by decide +kernel
theorem dX12_putIn_0 : decode cX12_putIn 0 = .ok (.aload_n 0, 1) := by decide +kernel
theorem dX12_putIn_1 : decode cX12_putIn 1 = .ok (.getfield 70, 3) := by decide +kernel
theorem dX12_putIn_4 : decode cX12_putIn 4 = .ok (.aload_n 0, 1) := by decide +kernel
theorem dX12_putIn_5 : decode cX12_putIn 5 = .ok (.getfield 294, 3) := by decide +kernel
theorem dX12_putIn_8 : decode cX12_putIn 8 = .ok (.iload_n 1, 1) := by decide +kernel
theorem dX12_putIn_9 : decode cX12_putIn 9 = .ok (.iastore, 1) := by decide +kernel
theorem dX12_putIn_10 : decode cX12_putIn 10 = .ok (.aload_n 0, 1) := by decide +kernel
theorem dX12_putIn_11 : decode cX12_putIn 11 = .ok (.getfield 73, 3) := by decide +kernel
theorem dX12_putIn_14 : decode cX12_putIn 14 = .ok (.aload_n 0, 1) := by decide +kernel
theorem dX12_putIn_15 : decode cX12_putIn 15 = .ok (.getfield 294, 3) := by decide +kernel
theorem dX12_putIn_18 : decode cX12_putIn 18 = .ok (.iload_n 2, 1) := by decide +kernel
theorem dX12_putIn_19 : decode cX12_putIn 19 = .ok (.iastore, 1) := by decide +kernel
theorem dX12_putIn_20 : decode cX12_putIn 20 = .ok (.aload_n 0, 1) := by decide +kernel
theorem dX12_putIn_21 : decode cX12_putIn 21 = .ok (.getfield 76, 3) := by decide +kernel
theorem dX12_putIn_24 : decode cX12_putIn 24 = .ok (.aload_n 0, 1) := by decide +kernel
theorem dX12_putIn_25 : decode cX12_putIn 25 = .ok (.getfield 294, 3) := by decide +kernel
theorem dX12_putIn_28 : decode cX12_putIn 28 = .ok (.iload_n 3, 1) := by decide +kernel
theorem dX12_putIn_29 : decode cX12_putIn 29 = .ok (.iastore, 1) := by decide +kernel
theorem dX12_putIn_30 : decode cX12_putIn 30 = .ok (.aload_n 0, 1) := by decide +kernel
theorem dX12_putIn_31 : decode cX12_putIn 31 = .ok (.getfield 79, 3) := by decide +kernel
theorem dX12_putIn_34 : decode cX12_putIn 34 = .ok (.aload_n 0, 1) := by decide +kernel
theorem dX12_putIn_35 : decode cX12_putIn 35 = .ok (.getfield 294, 3) := by decide +kernel
theorem dX12_putIn_38 : decode cX12_putIn 38 = .ok (.aload_n 0, 1) := by decide +kernel
theorem dX12_putIn_39 : decode cX12_putIn 39 = .ok (.getfield 52, 3) := by decide +kernel
theorem dX12_putIn_42 : decode cX12_putIn 42 = .ok (.iload_n 1, 1) := by decide +kernel
theorem dX12_putIn_43 : decode cX12_putIn 43 = .ok (.iaload, 1) := by decide +kernel
theorem dX12_putIn_44 : decode cX12_putIn 44 = .ok (.iastore, 1) := by decide +kernel
theorem dX12_putIn_45 : decode cX12_putIn 45 = .ok (.aload_n 0, 1) := by decide +kernel
theorem dX12_putIn_46 : decode cX12_putIn 46 = .ok (.dup, 1) := by decide +kernel
theorem dX12_putIn_47 : decode cX12_putIn 47 = .ok (.getfield 294, 3) := by decide +kernel
theorem dX12_putIn_50 : decode cX12_putIn 50 = .ok (.iconst 1, 1) := by decide +kernel
theorem dX12_putIn_51 : decode cX12_putIn 51 = .ok (.iadd, 1) := by decide +kernel
theorem dX12_putIn_52 : decode cX12_putIn 52 = .ok (.putfield 294, 3) := by decide +kernel
theorem dX12_putIn_55 : decode cX12_putIn 55 = .ok (.return_, 1) := by decide +kernel
theorem dX12_bring_0 : decode cX12_bring 0 = .ok (.aload_n 0, 1) := by decide +kernel
theorem dX12_bring_1 : decode cX12_bring 1 = .ok (.getfield 297, 3) := by decide +kernel
theorem dX12_bring_4 : decode cX12_bring 4 = .ok (.istore_n 3, 1) := by decide +kernel
theorem dX12_bring_5 : decode cX12_bring 5 = .ok (.aload_n 0, 1) := by decide +kernel
theorem dX12_bring_6 : decode cX12_bring 6 = .ok (.dup, 1) := by decide +kernel
theorem dX12_bring_7 : decode cX12_bring 7 = .ok (.getfield 297, 3) := by decide +kernel
theorem dX12_bring_10 : decode cX12_bring 10 = .ok (.iconst 1, 1) := by decide +kernel
theorem dX12_bring_11 : decode cX12_bring 11 = .ok (.iadd, 1) := by decide +kernel
theorem dX12_bring_12 : decode cX12_bring 12 = .ok (.putfield 297, 3) := by decide +kernel
theorem dX12_bring_15 : decode cX12_bring 15 = .ok (.aload_n 0, 1) := by decide +kernel
theorem dX12_bring_16 : decode cX12_bring 16 = .ok (.getfield 22, 3) := by decide +kernel
theorem dX12_bring_19 : decode cX12_bring 19 = .ok (.iload_n 2, 1) := by decide +kernel
theorem dX12_bring_20 : decode cX12_bring 20 = .ok (.iaload, 1) := by decide +kernel
theorem dX12_bring_21 : decode cX12_bring 21 = .ok (.iconst 1, 1) := by decide +kernel
theorem dX12_bring_22 : decode cX12_bring 22 = .ok (.if_icmp .ne 7, 3) := by decide +kernel
theorem dX12_bring_25 : decode cX12_bring 25 = .ok (.iconst 1, 1) := by decide +kernel
theorem dX12_bring_26 : decode cX12_bring 26 = .ok (.goto 4, 3) := by decide +kernel
theorem dX12_bring_29 : decode cX12_bring 29 = .ok (.iconst 0, 1) := by decide +kernel
theorem dX12_bring_30 : decode cX12_bring 30 = .ok (.istore 4, 2) := by decide +kernel
theorem dX12_bring_32 : decode cX12_bring 32 = .ok (.iconst 0, 1) := by decide +kernel
theorem dX12_bring_33 : decode cX12_bring 33 = .ok (.istore 5, 2) := by decide +kernel
theorem dX12_bring_35 : decode cX12_bring 35 = .ok (.iconst 0, 1) := by decide +kernel
theorem dX12_bring_36 : decode cX12_bring 36 = .ok (.istore 6, 2) := by decide +kernel
theorem dX12_bring_38 : decode cX12_bring 38 = .ok (.iload 6, 2) := by decide +kernel
theorem dX12_bring_40 : decode cX12_bring 40 = .ok (.iconst 3, 1) := by decide +kernel
theorem dX12_bring_41 : decode cX12_bring 41 = .ok (.if_icmp .ge 56, 3) := by decide +kernel
theorem dX12_bring_44 : decode cX12_bring 44 = .ok (.aload_n 0, 1) := by decide +kernel
theorem dX12_bring_45 : decode cX12_bring 45 = .ok (.getfield 64, 3) := by decide +kernel
theorem dX12_bring_48 : decode cX12_bring 48 = .ok (.iconst 3, 1) := by decide +kernel
theorem dX12_bring_49 : decode cX12_bring 49 = .ok (.iload_n 3, 1) := by decide +kernel
theorem dX12_bring_50 : decode cX12_bring 50 = .ok (.imul, 1) := by decide +kernel
theorem dX12_bring_51 : decode cX12_bring 51 = .ok (.iload 6, 2) := by decide +kernel
theorem dX12_bring_53 : decode cX12_bring 53 = .ok (.iadd, 1) := by decide +kernel
theorem dX12_bring_54 : decode cX12_bring 54 = .ok (.iload 4, 2) := by decide +kernel
theorem dX12_bring_56 : decode cX12_bring 56 = .ok (.ifCond .eq 17, 3) := by decide +kernel
theorem dX12_bring_59 : decode cX12_bring 59 = .ok (.aload_n 0, 1) := by decide +kernel
theorem dX12_bring_60 : decode cX12_bring 60 = .ok (.getfield 22, 3) := by decide +kernel
theorem dX12_bring_63 : decode cX12_bring 63 = .ok (.iload_n 2, 1) := by decide +kernel
theorem dX12_bring_64 : decode cX12_bring 64 = .ok (.iconst 2, 1) := by decide +kernel
theorem dX12_bring_65 : decode cX12_bring 65 = .ok (.iadd, 1) := by decide +kernel
theorem dX12_bring_66 : decode cX12_bring 66 = .ok (.iload 6, 2) := by decide +kernel
theorem dX12_bring_68 : decode cX12_bring 68 = .ok (.iadd, 1) := by decide +kernel
theorem dX12_bring_69 : decode cX12_bring 69 = .ok (.iaload, 1) := by decide +kernel
theorem dX12_bring_70 : decode cX12_bring 70 = .ok (.goto 4, 3) := by decide +kernel
theorem dX12_bring_73 : decode cX12_bring 73 = .ok (.iconst 0, 1) := by decide +kernel
theorem dX12_bring_74 : decode cX12_bring 74 = .ok (.iastore, 1) := by decide +kernel
theorem dX12_bring_75 : decode cX12_bring 75 = .ok (.iload 5, 2) := by decide +kernel
theorem dX12_bring_77 : decode cX12_bring 77 = .ok (.aload_n 0, 1) := by decide +kernel
theorem dX12_bring_78 : decode cX12_bring 78 = .ok (.getfield 64, 3) := by decide +kernel
theorem dX12_bring_81 : decode cX12_bring 81 = .ok (.iconst 3, 1) := by decide +kernel
theorem dX12_bring_82 : decode cX12_bring 82 = .ok (.iload_n 3, 1) := by decide +kernel
theorem dX12_bring_83 : decode cX12_bring 83 = .ok (.imul, 1) := by decide +kernel
theorem dX12_bring_84 : decode cX12_bring 84 = .ok (.iload 6, 2) := by decide +kernel
theorem dX12_bring_86 : decode cX12_bring 86 = .ok (.iadd, 1) := by decide +kernel
theorem dX12_bring_87 : decode cX12_bring 87 = .ok (.iaload, 1) := by decide +kernel
theorem dX12_bring_88 : decode cX12_bring 88 = .ok (.iadd, 1) := by decide +kernel
theorem dX12_bring_89 : decode cX12_bring 89 = .ok (.istore 5, 2) := by decide +kernel
theorem dX12_bring_91 : decode cX12_bring 91 = .ok (.iinc 6 1, 3) := by decide +kernel
theorem dX12_bring_94 : decode cX12_bring 94 = .ok (.goto (-56), 3) := by decide +kernel
theorem dX12_bring_97 : decode cX12_bring 97 = .ok (.aload_n 0, 1) := by decide +kernel
theorem dX12_bring_98 : decode cX12_bring 98 = .ok (.getfield 61, 3) := by decide +kernel
theorem dX12_bring_101 : decode cX12_bring 101 = .ok (.iload_n 3, 1) := by decide +kernel
theorem dX12_bring_102 : decode cX12_bring 102 = .ok (.iload 4, 2) := by decide +kernel
theorem dX12_bring_104 : decode cX12_bring 104 = .ok (.ifCond .eq 7, 3) := by decide +kernel
theorem dX12_bring_107 : decode cX12_bring 107 = .ok (.iconst 4, 1) := by decide +kernel
theorem dX12_bring_108 : decode cX12_bring 108 = .ok (.goto 11, 3) := by decide +kernel
theorem dX12_bring_111 : decode cX12_bring 111 = .ok (.aload_n 0, 1) := by decide +kernel
theorem dX12_bring_112 : decode cX12_bring 112 = .ok (.getfield 22, 3) := by decide +kernel
theorem dX12_bring_115 : decode cX12_bring 115 = .ok (.iload_n 2, 1) := by decide +kernel
theorem dX12_bring_116 : decode cX12_bring 116 = .ok (.iconst 2, 1) := by decide +kernel
theorem dX12_bring_117 : decode cX12_bring 117 = .ok (.iadd, 1) := by decide +kernel
theorem dX12_bring_118 : decode cX12_bring 118 = .ok (.iaload, 1) := by decide +kernel
theorem dX12_bring_119 : decode cX12_bring 119 = .ok (.iastore, 1) := by decide +kernel
theorem dX12_bring_120 : decode cX12_bring 120 = .ok (.aload_n 0, 1) := by decide +kernel
theorem dX12_bring_121 : decode cX12_bring 121 = .ok (.getfield 58, 3) := by decide +kernel
theorem dX12_bring_124 : decode cX12_bring 124 = .ok (.iload_n 3, 1) := by decide +kernel
theorem dX12_bring_125 : decode cX12_bring 125 = .ok (.iload 4, 2) := by decide +kernel
theorem dX12_bring_127 : decode cX12_bring 127 = .ok (.ifCond .eq 7, 3) := by decide +kernel
theorem dX12_bring_130 : decode cX12_bring 130 = .ok (.iconst 0, 1) := by decide +kernel
theorem dX12_bring_131 : decode cX12_bring 131 = .ok (.goto 11, 3) := by decide +kernel
theorem dX12_bring_134 : decode cX12_bring 134 = .ok (.aload_n 0, 1) := by decide +kernel
theorem dX12_bring_135 : decode cX12_bring 135 = .ok (.getfield 22, 3) := by decide +kernel
theorem dX12_bring_138 : decode cX12_bring 138 = .ok (.iload_n 2, 1) := by decide +kernel
theorem dX12_bring_139 : decode cX12_bring 139 = .ok (.iconst 3, 1) := by decide +kernel
theorem dX12_bring_140 : decode cX12_bring 140 = .ok (.iadd, 1) := by decide +kernel
theorem dX12_bring_141 : decode cX12_bring 141 = .ok (.iaload, 1) := by decide +kernel
theorem dX12_bring_142 : decode cX12_bring 142 = .ok (.iastore, 1) := by decide +kernel
theorem dX12_bring_143 : decode cX12_bring 143 = .ok (.aload_n 0, 1) := by decide +kernel
theorem dX12_bring_144 : decode cX12_bring 144 = .ok (.getfield 55, 3) := by decide +kernel
theorem dX12_bring_147 : decode cX12_bring 147 = .ok (.iload_n 3, 1) := by decide +kernel
theorem dX12_bring_148 : decode cX12_bring 148 = .ok (.iload 4, 2) := by decide +kernel
theorem dX12_bring_150 : decode cX12_bring 150 = .ok (.ifCond .eq 7, 3) := by decide +kernel
theorem dX12_bring_153 : decode cX12_bring 153 = .ok (.iconst 0, 1) := by decide +kernel
theorem dX12_bring_154 : decode cX12_bring 154 = .ok (.goto 11, 3) := by decide +kernel
theorem dX12_bring_157 : decode cX12_bring 157 = .ok (.aload_n 0, 1) := by decide +kernel
theorem dX12_bring_158 : decode cX12_bring 158 = .ok (.getfield 22, 3) := by decide +kernel
theorem dX12_bring_161 : decode cX12_bring 161 = .ok (.iload_n 2, 1) := by decide +kernel
theorem dX12_bring_162 : decode cX12_bring 162 = .ok (.iconst 4, 1) := by decide +kernel
theorem dX12_bring_163 : decode cX12_bring 163 = .ok (.iadd, 1) := by decide +kernel
theorem dX12_bring_164 : decode cX12_bring 164 = .ok (.iaload, 1) := by decide +kernel
theorem dX12_bring_165 : decode cX12_bring 165 = .ok (.iastore, 1) := by decide +kernel
theorem dX12_bring_166 : decode cX12_bring 166 = .ok (.aload_n 0, 1) := by decide +kernel
theorem dX12_bring_167 : decode cX12_bring 167 = .ok (.getfield 52, 3) := by decide +kernel
theorem dX12_bring_170 : decode cX12_bring 170 = .ok (.iload_n 3, 1) := by decide +kernel
theorem dX12_bring_171 : decode cX12_bring 171 = .ok (.iload 4, 2) := by decide +kernel
theorem dX12_bring_173 : decode cX12_bring 173 = .ok (.ifCond .eq 8, 3) := by decide +kernel
theorem dX12_bring_176 : decode cX12_bring 176 = .ok (.iload 5, 2) := by decide +kernel
theorem dX12_bring_178 : decode cX12_bring 178 = .ok (.goto 9, 3) := by decide +kernel
theorem dX12_bring_181 : decode cX12_bring 181 = .ok (.aload_n 0, 1) := by decide +kernel
theorem dX12_bring_182 : decode cX12_bring 182 = .ok (.getfield 55, 3) := by decide +kernel
theorem dX12_bring_185 : decode cX12_bring 185 = .ok (.iload_n 3, 1) := by decide +kernel
theorem dX12_bring_186 : decode cX12_bring 186 = .ok (.iaload, 1) := by decide +kernel
theorem dX12_bring_187 : decode cX12_bring 187 = .ok (.iastore, 1) := by decide +kernel
theorem dX12_bring_188 : decode cX12_bring 188 = .ok (.aload_n 0, 1) := by decide +kernel
theorem dX12_bring_189 : decode cX12_bring 189 = .ok (.getfield 46, 3) := by decide +kernel
theorem dX12_bring_192 : decode cX12_bring 192 = .ok (.iload_n 3, 1) := by decide +kernel
theorem dX12_bring_193 : decode cX12_bring 193 = .ok (.iload_n 1, 1) := by decide +kernel
theorem dX12_bring_194 : decode cX12_bring 194 = .ok (.iastore, 1) := by decide +kernel
theorem dX12_bring_195 : decode cX12_bring 195 = .ok (.iconst 0, 1) := by decide +kernel
theorem dX12_bring_196 : decode cX12_bring 196 = .ok (.istore 6, 2) := by decide +kernel
theorem dX12_bring_198 : decode cX12_bring 198 = .ok (.iload 6, 2) := by decide +kernel
theorem dX12_bring_200 : decode cX12_bring 200 = .ok (.iconst 3, 1) := by decide +kernel
theorem dX12_bring_201 : decode cX12_bring 201 = .ok (.if_icmp .ge 41, 3) := by decide +kernel
theorem dX12_bring_204 : decode cX12_bring 204 = .ok (.aload_n 0, 1) := by decide +kernel
theorem dX12_bring_205 : decode cX12_bring 205 = .ok (.getfield 64, 3) := by decide +kernel
theorem dX12_bring_208 : decode cX12_bring 208 = .ok (.iconst 3, 1) := by decide +kernel
theorem dX12_bring_209 : decode cX12_bring 209 = .ok (.iload_n 3, 1) := by decide +kernel
theorem dX12_bring_210 : decode cX12_bring 210 = .ok (.imul, 1) := by decide +kernel
theorem dX12_bring_211 : decode cX12_bring 211 = .ok (.iload 6, 2) := by decide +kernel
theorem dX12_bring_213 : decode cX12_bring 213 = .ok (.iadd, 1) := by decide +kernel
theorem dX12_bring_214 : decode cX12_bring 214 = .ok (.iaload, 1) := by decide +kernel
theorem dX12_bring_215 : decode cX12_bring 215 = .ok (.ifCond .le 21, 3) := by decide +kernel
theorem dX12_bring_218 : decode cX12_bring 218 = .ok (.aload_n 0, 1) := by decide +kernel
theorem dX12_bring_219 : decode cX12_bring 219 = .ok (.iload_n 3, 1) := by decide +kernel
theorem dX12_bring_220 : decode cX12_bring 220 = .ok (.iload 6, 2) := by decide +kernel
theorem dX12_bring_222 : decode cX12_bring 222 = .ok (.aload_n 0, 1) := by decide +kernel
theorem dX12_bring_223 : decode cX12_bring 223 = .ok (.getfield 64, 3) := by decide +kernel
theorem dX12_bring_226 : decode cX12_bring 226 = .ok (.iconst 3, 1) := by decide +kernel
theorem dX12_bring_227 : decode cX12_bring 227 = .ok (.iload_n 3, 1) := by decide +kernel
theorem dX12_bring_228 : decode cX12_bring 228 = .ok (.imul, 1) := by decide +kernel
theorem dX12_bring_229 : decode cX12_bring 229 = .ok (.iload 6, 2) := by decide +kernel
theorem dX12_bring_231 : decode cX12_bring 231 = .ok (.iadd, 1) := by decide +kernel
theorem dX12_bring_232 : decode cX12_bring 232 = .ok (.iaload, 1) := by decide +kernel
theorem dX12_bring_233 : decode cX12_bring 233 = .ok (.invokevirtual 300, 3) := by decide +kernel
theorem dX12_bring_236 : decode cX12_bring 236 = .ok (.iinc 6 1, 3) := by decide +kernel
theorem dX12_bring_239 : decode cX12_bring 239 = .ok (.goto (-41), 3) := by decide +kernel
theorem dX12_bring_242 : decode cX12_bring 242 = .ok (.aload_n 0, 1) := by decide +kernel
theorem dX12_bring_243 : decode cX12_bring 243 = .ok (.iload_n 3, 1) := by decide +kernel
theorem dX12_bring_244 : decode cX12_bring 244 = .ok (.iload_n 1, 1) := by decide +kernel
theorem dX12_bring_245 : decode cX12_bring 245 = .ok (.iconst 0, 1) := by decide +kernel
theorem dX12_bring_246 : decode cX12_bring 246 = .ok (.invokevirtual 304, 3) := by decide +kernel
theorem dX12_bring_249 : decode cX12_bring 249 = .ok (.aload_n 0, 1) := by decide +kernel
theorem dX12_bring_250 : decode cX12_bring 250 = .ok (.getfield 40, 3) := by decide +kernel
theorem dX12_bring_253 : decode cX12_bring 253 = .ok (.iload_n 3, 1) := by decide +kernel
theorem dX12_bring_254 : decode cX12_bring 254 = .ok (.aload_n 0, 1) := by decide +kernel
theorem dX12_bring_255 : decode cX12_bring 255 = .ok (.getfield 37, 3) := by decide +kernel
theorem dX12_bring_258 : decode cX12_bring 258 = .ok (.iload_n 3, 1) := by decide +kernel
theorem dX12_bring_259 : decode cX12_bring 259 = .ok (.iaload, 1) := by decide +kernel
theorem dX12_bring_260 : decode cX12_bring 260 = .ok (.iastore, 1) := by decide +kernel
theorem dX12_bring_261 : decode cX12_bring 261 = .ok (.return_, 1) := by decide +kernel
theorem dX12_move_0 : decode cX12_move 0 = .ok (.aload_n 0, 1) := by decide +kernel
theorem dX12_move_1 : decode cX12_move 1 = .ok (.iload_n 1, 1) := by decide +kernel
theorem dX12_move_2 : decode cX12_move 2 = .ok (.putfield 288, 3) := by decide +kernel
theorem dX12_move_5 : decode cX12_move 5 = .ok (.iconst 0, 1) := by decide +kernel
theorem dX12_move_6 : decode cX12_move 6 = .ok (.istore_n 3, 1) := by decide +kernel
theorem dX12_move_7 : decode cX12_move 7 = .ok (.iload_n 3, 1) := by decide +kernel
theorem dX12_move_8 : decode cX12_move 8 = .ok (.aload_n 0, 1) := by decide +kernel
theorem dX12_move_9 : decode cX12_move 9 = .ok (.getfield 297, 3) := by decide +kernel
theorem dX12_move_12 : decode cX12_move 12 = .ok (.if_icmp .ge 32, 3) := by decide +kernel
theorem dX12_move_15 : decode cX12_move 15 = .ok (.aload_n 0, 1) := by decide +kernel
theorem dX12_move_16 : decode cX12_move 16 = .ok (.getfield 19, 3) := by decide +kernel
theorem dX12_move_19 : decode cX12_move 19 = .ok (.bipush 8, 2) := by decide +kernel
theorem dX12_move_21 : decode cX12_move 21 = .ok (.iload_n 1, 1) := by decide +kernel
theorem dX12_move_22 : decode cX12_move 22 = .ok (.imul, 1) := by decide +kernel
theorem dX12_move_23 : decode cX12_move 23 = .ok (.bipush 6, 2) := by decide +kernel
theorem dX12_move_25 : decode cX12_move 25 = .ok (.iadd, 1) := by decide +kernel
theorem dX12_move_26 : decode cX12_move 26 = .ok (.iaload, 1) := by decide +kernel
theorem dX12_move_27 : decode cX12_move 27 = .ok (.iconst 1, 1) := by decide +kernel
theorem dX12_move_28 : decode cX12_move 28 = .ok (.if_icmp .ne 16, 3) := by decide +kernel
theorem dX12_move_31 : decode cX12_move 31 = .ok (.aload_n 0, 1) := by decide +kernel
theorem dX12_move_32 : decode cX12_move 32 = .ok (.iload_n 3, 1) := by decide +kernel
theorem dX12_move_33 : decode cX12_move 33 = .ok (.iload_n 2, 1) := by decide +kernel
theorem dX12_move_34 : decode cX12_move 34 = .ok (.iconst 2, 1) := by decide +kernel
theorem dX12_move_35 : decode cX12_move 35 = .ok (.invokevirtual 304, 3) := by decide +kernel
theorem dX12_move_38 : decode cX12_move 38 = .ok (.iinc 3 1, 3) := by decide +kernel
theorem dX12_move_41 : decode cX12_move 41 = .ok (.goto (-34), 3) := by decide +kernel
theorem dX12_move_44 : decode cX12_move 44 = .ok (.return_, 1) := by decide +kernel
theorem dX12_happen_0 : decode cX12_happen 0 = .ok (.bipush 6, 2) := by decide +kernel
theorem dX12_happen_2 : decode cX12_happen 2 = .ok (.iload_n 1, 1) := by decide +kernel
theorem dX12_happen_3 : decode cX12_happen 3 = .ok (.imul, 1) := by decide +kernel
theorem dX12_happen_4 : decode cX12_happen 4 = .ok (.istore_n 2, 1) := by decide +kernel
theorem dX12_happen_5 : decode cX12_happen 5 = .ok (.aload_n 0, 1) := by decide +kernel
theorem dX12_happen_6 : decode cX12_happen 6 = .ok (.getfield 22, 3) := by decide +kernel
theorem dX12_happen_9 : decode cX12_happen 9 = .ok (.iload_n 2, 1) := by decide +kernel
theorem dX12_happen_10 : decode cX12_happen 10 = .ok (.iconst 2, 1) := by decide +kernel
theorem dX12_happen_11 : decode cX12_happen 11 = .ok (.iadd, 1) := by decide +kernel
theorem dX12_happen_12 : decode cX12_happen 12 = .ok (.iaload, 1) := by decide +kernel
theorem dX12_happen_13 : decode cX12_happen 13 = .ok (.istore_n 3, 1) := by decide +kernel
theorem dX12_happen_14 : decode cX12_happen 14 = .ok (.aload_n 0, 1) := by decide +kernel
theorem dX12_happen_15 : decode cX12_happen 15 = .ok (.getfield 22, 3) := by decide +kernel
theorem dX12_happen_18 : decode cX12_happen 18 = .ok (.iload_n 2, 1) := by decide +kernel
theorem dX12_happen_19 : decode cX12_happen 19 = .ok (.iconst 3, 1) := by decide +kernel
theorem dX12_happen_20 : decode cX12_happen 20 = .ok (.iadd, 1) := by decide +kernel
theorem dX12_happen_21 : decode cX12_happen 21 = .ok (.iaload, 1) := by decide +kernel
theorem dX12_happen_22 : decode cX12_happen 22 = .ok (.istore 4, 2) := by decide +kernel
theorem dX12_happen_24 : decode cX12_happen 24 = .ok (.aload_n 0, 1) := by decide +kernel
theorem dX12_happen_25 : decode cX12_happen 25 = .ok (.getfield 22, 3) := by decide +kernel
theorem dX12_happen_28 : decode cX12_happen 28 = .ok (.iload_n 2, 1) := by decide +kernel
theorem dX12_happen_29 : decode cX12_happen 29 = .ok (.iaload, 1) := by decide +kernel
theorem dX12_happen_30 : decode cX12_happen 30 = .ok (.tableswitch 114 2 6 #[34, 69, 80, 94, 103], 34) := by decide +kernel
theorem dX12_happen_64 : decode cX12_happen 64 = .ok (.aload_n 0, 1) := by decide +kernel
theorem dX12_happen_65 : decode cX12_happen 65 = .ok (.getfield 52, 3) := by decide +kernel
theorem dX12_happen_68 : decode cX12_happen 68 = .ok (.iload_n 3, 1) := by decide +kernel
theorem dX12_happen_69 : decode cX12_happen 69 = .ok (.dup2, 1) := by decide +kernel
theorem dX12_happen_70 : decode cX12_happen 70 = .ok (.iaload, 1) := by decide +kernel
theorem dX12_happen_71 : decode cX12_happen 71 = .ok (.aload_n 0, 1) := by decide +kernel
theorem dX12_happen_72 : decode cX12_happen 72 = .ok (.getfield 22, 3) := by decide +kernel
theorem dX12_happen_75 : decode cX12_happen 75 = .ok (.iload_n 2, 1) := by decide +kernel
theorem dX12_happen_76 : decode cX12_happen 76 = .ok (.iconst 4, 1) := by decide +kernel
theorem dX12_happen_77 : decode cX12_happen 77 = .ok (.iadd, 1) := by decide +kernel
theorem dX12_happen_78 : decode cX12_happen 78 = .ok (.iaload, 1) := by decide +kernel
theorem dX12_happen_79 : decode cX12_happen 79 = .ok (.iadd, 1) := by decide +kernel
theorem dX12_happen_80 : decode cX12_happen 80 = .ok (.iastore, 1) := by decide +kernel
theorem dX12_happen_81 : decode cX12_happen 81 = .ok (.aload_n 0, 1) := by decide +kernel
theorem dX12_happen_82 : decode cX12_happen 82 = .ok (.iload_n 3, 1) := by decide +kernel
theorem dX12_happen_83 : decode cX12_happen 83 = .ok (.iload 4, 2) := by decide +kernel
theorem dX12_happen_85 : decode cX12_happen 85 = .ok (.aload_n 0, 1) := by decide +kernel
theorem dX12_happen_86 : decode cX12_happen 86 = .ok (.getfield 22, 3) := by decide +kernel
theorem dX12_happen_89 : decode cX12_happen 89 = .ok (.iload_n 2, 1) := by decide +kernel
theorem dX12_happen_90 : decode cX12_happen 90 = .ok (.iconst 4, 1) := by decide +kernel
theorem dX12_happen_91 : decode cX12_happen 91 = .ok (.iadd, 1) := by decide +kernel
theorem dX12_happen_92 : decode cX12_happen 92 = .ok (.iaload, 1) := by decide +kernel
theorem dX12_happen_93 : decode cX12_happen 93 = .ok (.invokevirtual 300, 3) := by decide +kernel
theorem dX12_happen_96 : decode cX12_happen 96 = .ok (.goto 54, 3) := by decide +kernel
theorem dX12_happen_99 : decode cX12_happen 99 = .ok (.aload_n 0, 1) := by decide +kernel
theorem dX12_happen_100 : decode cX12_happen 100 = .ok (.getfield 52, 3) := by decide +kernel
theorem dX12_happen_103 : decode cX12_happen 103 = .ok (.iload_n 3, 1) := by decide +kernel
theorem dX12_happen_104 : decode cX12_happen 104 = .ok (.iload 4, 2) := by decide +kernel
theorem dX12_happen_106 : decode cX12_happen 106 = .ok (.iastore, 1) := by decide +kernel
theorem dX12_happen_107 : decode cX12_happen 107 = .ok (.goto 43, 3) := by decide +kernel
theorem dX12_happen_110 : decode cX12_happen 110 = .ok (.aload_n 0, 1) := by decide +kernel
theorem dX12_happen_111 : decode cX12_happen 111 = .ok (.getfield 67, 3) := by decide +kernel
theorem dX12_happen_114 : decode cX12_happen 114 = .ok (.iload_n 3, 1) := by decide +kernel
theorem dX12_happen_115 : decode cX12_happen 115 = .ok (.dup2, 1) := by decide +kernel
