theorem dX12_happen_116 : decode cX12_happen 116 = .ok (.iaload, 1) := by decide +kernel
theorem dX12_happen_117 : decode cX12_happen 117 = .ok (.iload 4, 2) := by decide +kernel
theorem dX12_happen_119 : decode cX12_happen 119 = .ok (.iadd, 1) := by decide +kernel
theorem dX12_happen_120 : decode cX12_happen 120 = .ok (.iastore, 1) := by decide +kernel
theorem dX12_happen_121 : decode cX12_happen 121 = .ok (.goto 29, 3) := by decide +kernel
theorem dX12_happen_124 : decode cX12_happen 124 = .ok (.aload_n 0, 1) := by decide +kernel
theorem dX12_happen_125 : decode cX12_happen 125 = .ok (.iload_n 3, 1) := by decide +kernel
theorem dX12_happen_126 : decode cX12_happen 126 = .ok (.iload_n 1, 1) := by decide +kernel
theorem dX12_happen_127 : decode cX12_happen 127 = .ok (.invokevirtual 307, 3) := by decide +kernel
theorem dX12_happen_130 : decode cX12_happen 130 = .ok (.goto 20, 3) := by decide +kernel
theorem dX12_happen_133 : decode cX12_happen 133 = .ok (.aload_n 0, 1) := by decide +kernel
theorem dX12_happen_134 : decode cX12_happen 134 = .ok (.getfield 34, 3) := by decide +kernel
theorem dX12_happen_137 : decode cX12_happen 137 = .ok (.iload_n 3, 1) := by decide +kernel
theorem dX12_happen_138 : decode cX12_happen 138 = .ok (.iload 4, 2) := by decide +kernel
theorem dX12_happen_140 : decode cX12_happen 140 = .ok (.iastore, 1) := by decide +kernel
theorem dX12_happen_141 : decode cX12_happen 141 = .ok (.goto 9, 3) := by decide +kernel
theorem dX12_happen_144 : decode cX12_happen 144 = .ok (.aload_n 0, 1) := by decide +kernel
theorem dX12_happen_145 : decode cX12_happen 145 = .ok (.iload_n 1, 1) := by decide +kernel
theorem dX12_happen_146 : decode cX12_happen 146 = .ok (.iload_n 2, 1) := by decide +kernel
theorem dX12_happen_147 : decode cX12_happen 147 = .ok (.invokevirtual 310, 3) := by decide +kernel
theorem dX12_happen_150 : decode cX12_happen 150 = .ok (.return_, 1) := by decide +kernel
theorem dX12_goThrough_0 : decode cX12_goThrough 0 = .ok (.aload_n 0, 1) := by decide +kernel
theorem dX12_goThrough_1 : decode cX12_goThrough 1 = .ok (.iconst 0, 1) := by decide +kernel
theorem dX12_goThrough_2 : decode cX12_goThrough 2 = .ok (.putfield 288, 3) := by decide +kernel
theorem dX12_goThrough_5 : decode cX12_goThrough 5 = .ok (.aload_n 0, 1) := by decide +kernel
theorem dX12_goThrough_6 : decode cX12_goThrough 6 = .ok (.iconst 0, 1) := by decide +kernel
theorem dX12_goThrough_7 : decode cX12_goThrough 7 = .ok (.putfield 297, 3) := by decide +kernel
theorem dX12_goThrough_10 : decode cX12_goThrough 10 = .ok (.aload_n 0, 1) := by decide +kernel
theorem dX12_goThrough_11 : decode cX12_goThrough 11 = .ok (.iconst 0, 1) := by decide +kernel
theorem dX12_goThrough_12 : decode cX12_goThrough 12 = .ok (.putfield 294, 3) := by decide +kernel
theorem dX12_goThrough_15 : decode cX12_goThrough 15 = .ok (.iconst 0, 1) := by decide +kernel
theorem dX12_goThrough_16 : decode cX12_goThrough 16 = .ok (.istore 7, 2) := by decide +kernel
theorem dX12_goThrough_18 : decode cX12_goThrough 18 = .ok (.iload 7, 2) := by decide +kernel
theorem dX12_goThrough_20 : decode cX12_goThrough 20 = .ok (.iconst 5, 1) := by decide +kernel
theorem dX12_goThrough_21 : decode cX12_goThrough 21 = .ok (.if_icmp .ge 30, 3) := by decide +kernel
theorem dX12_goThrough_24 : decode cX12_goThrough 24 = .ok (.aload_n 0, 1) := by decide +kernel
theorem dX12_goThrough_25 : decode cX12_goThrough 25 = .ok (.getfield 34, 3) := by decide +kernel
theorem dX12_goThrough_28 : decode cX12_goThrough 28 = .ok (.iload 7, 2) := by decide +kernel
theorem dX12_goThrough_30 : decode cX12_goThrough 30 = .ok (.iload 7, 2) := by decide +kernel
theorem dX12_goThrough_32 : decode cX12_goThrough 32 = .ok (.iload 5, 2) := by decide +kernel
theorem dX12_goThrough_34 : decode cX12_goThrough 34 = .ok (.if_icmp .ne 8, 3) := by decide +kernel
theorem dX12_goThrough_37 : decode cX12_goThrough 37 = .ok (.iload 6, 2) := by decide +kernel
theorem dX12_goThrough_39 : decode cX12_goThrough 39 = .ok (.goto 5, 3) := by decide +kernel
theorem dX12_goThrough_42 : decode cX12_goThrough 42 = .ok (.ldc 146, 2) := by decide +kernel
theorem dX12_goThrough_44 : decode cX12_goThrough 44 = .ok (.iastore, 1) := by decide +kernel
theorem dX12_goThrough_45 : decode cX12_goThrough 45 = .ok (.iinc 7 1, 3) := by decide +kernel
theorem dX12_goThrough_48 : decode cX12_goThrough 48 = .ok (.goto (-30), 3) := by decide +kernel
theorem dX12_goThrough_51 : decode cX12_goThrough 51 = .ok (.iconst 0, 1) := by decide +kernel
theorem dX12_goThrough_52 : decode cX12_goThrough 52 = .ok (.istore 7, 2) := by decide +kernel
theorem dX12_goThrough_54 : decode cX12_goThrough 54 = .ok (.iload 7, 2) := by decide +kernel
theorem dX12_goThrough_56 : decode cX12_goThrough 56 = .ok (.iconst 3, 1) := by decide +kernel
theorem dX12_goThrough_57 : decode cX12_goThrough 57 = .ok (.if_icmp .ge 17, 3) := by decide +kernel
theorem dX12_goThrough_60 : decode cX12_goThrough 60 = .ok (.aload_n 0, 1) := by decide +kernel
theorem dX12_goThrough_61 : decode cX12_goThrough 61 = .ok (.getfield 67, 3) := by decide +kernel
theorem dX12_goThrough_64 : decode cX12_goThrough 64 = .ok (.iload 7, 2) := by decide +kernel
theorem dX12_goThrough_66 : decode cX12_goThrough 66 = .ok (.iconst 0, 1) := by decide +kernel
theorem dX12_goThrough_67 : decode cX12_goThrough 67 = .ok (.iastore, 1) := by decide +kernel
theorem dX12_goThrough_68 : decode cX12_goThrough 68 = .ok (.iinc 7 1, 3) := by decide +kernel
theorem dX12_goThrough_71 : decode cX12_goThrough 71 = .ok (.goto (-17), 3) := by decide +kernel
theorem dX12_goThrough_74 : decode cX12_goThrough 74 = .ok (.iload 4, 2) := by decide +kernel
theorem dX12_goThrough_76 : decode cX12_goThrough 76 = .ok (.ifCond .ge 7, 3) := by decide +kernel
theorem dX12_goThrough_79 : decode cX12_goThrough 79 = .ok (.iconst 1, 1) := by decide +kernel
theorem dX12_goThrough_80 : decode cX12_goThrough 80 = .ok (.goto 4, 3) := by decide +kernel
theorem dX12_goThrough_83 : decode cX12_goThrough 83 = .ok (.iconst 0, 1) := by decide +kernel
theorem dX12_goThrough_84 : decode cX12_goThrough 84 = .ok (.istore 7, 2) := by decide +kernel
theorem dX12_goThrough_86 : decode cX12_goThrough 86 = .ok (.iconst 0, 1) := by decide +kernel
theorem dX12_goThrough_87 : decode cX12_goThrough 87 = .ok (.istore 8, 2) := by decide +kernel
theorem dX12_goThrough_89 : decode cX12_goThrough 89 = .ok (.iload 8, 2) := by decide +kernel
theorem dX12_goThrough_91 : decode cX12_goThrough 91 = .ok (.aload_n 0, 1) := by decide +kernel
theorem dX12_goThrough_92 : decode cX12_goThrough 92 = .ok (.getfield 282, 3) := by decide +kernel
theorem dX12_goThrough_95 : decode cX12_goThrough 95 = .ok (.if_icmp .ge 63, 3) := by decide +kernel
theorem dX12_goThrough_98 : decode cX12_goThrough 98 = .ok (.aload_n 0, 1) := by decide +kernel
theorem dX12_goThrough_99 : decode cX12_goThrough 99 = .ok (.getfield 22, 3) := by decide +kernel
theorem dX12_goThrough_102 : decode cX12_goThrough 102 = .ok (.bipush 6, 2) := by decide +kernel
theorem dX12_goThrough_104 : decode cX12_goThrough 104 = .ok (.iload 8, 2) := by decide +kernel
theorem dX12_goThrough_106 : decode cX12_goThrough 106 = .ok (.imul, 1) := by decide +kernel
theorem dX12_goThrough_107 : decode cX12_goThrough 107 = .ok (.iconst 1, 1) := by decide +kernel
theorem dX12_goThrough_108 : decode cX12_goThrough 108 = .ok (.iadd, 1) := by decide +kernel
theorem dX12_goThrough_109 : decode cX12_goThrough 109 = .ok (.iaload, 1) := by decide +kernel
theorem dX12_goThrough_110 : decode cX12_goThrough 110 = .ok (.istore 9, 2) := by decide +kernel
theorem dX12_goThrough_112 : decode cX12_goThrough 112 = .ok (.iload 7, 2) := by decide +kernel
theorem dX12_goThrough_114 : decode cX12_goThrough 114 = .ok (.ifCond .ne 20, 3) := by decide +kernel
theorem dX12_goThrough_117 : decode cX12_goThrough 117 = .ok (.iload 9, 2) := by decide +kernel
theorem dX12_goThrough_119 : decode cX12_goThrough 119 = .ok (.iload_n 3, 1) := by decide +kernel
theorem dX12_goThrough_120 : decode cX12_goThrough 120 = .ok (.if_icmp .lt 14, 3) := by decide +kernel
theorem dX12_goThrough_123 : decode cX12_goThrough 123 = .ok (.aload_n 0, 1) := by decide +kernel
theorem dX12_goThrough_124 : decode cX12_goThrough 124 = .ok (.iload 4, 2) := by decide +kernel
theorem dX12_goThrough_126 : decode cX12_goThrough 126 = .ok (.iload 8, 2) := by decide +kernel
theorem dX12_goThrough_128 : decode cX12_goThrough 128 = .ok (.invokevirtual 307, 3) := by decide +kernel
theorem dX12_goThrough_131 : decode cX12_goThrough 131 = .ok (.iconst 1, 1) := by decide +kernel
theorem dX12_goThrough_132 : decode cX12_goThrough 132 = .ok (.istore 7, 2) := by decide +kernel
theorem dX12_goThrough_134 : decode cX12_goThrough 134 = .ok (.iload 9, 2) := by decide +kernel
theorem dX12_goThrough_136 : decode cX12_goThrough 136 = .ok (.iload_n 1, 1) := by decide +kernel
theorem dX12_goThrough_137 : decode cX12_goThrough 137 = .ok (.if_icmp .gt 15, 3) := by decide +kernel
theorem dX12_goThrough_140 : decode cX12_goThrough 140 = .ok (.iload 8, 2) := by decide +kernel
theorem dX12_goThrough_142 : decode cX12_goThrough 142 = .ok (.iload_n 2, 1) := by decide +kernel
theorem dX12_goThrough_143 : decode cX12_goThrough 143 = .ok (.if_icmp .eq 9, 3) := by decide +kernel
theorem dX12_goThrough_146 : decode cX12_goThrough 146 = .ok (.aload_n 0, 1) := by decide +kernel
theorem dX12_goThrough_147 : decode cX12_goThrough 147 = .ok (.iload 8, 2) := by decide +kernel
theorem dX12_goThrough_149 : decode cX12_goThrough 149 = .ok (.invokevirtual 313, 3) := by decide +kernel
theorem dX12_goThrough_152 : decode cX12_goThrough 152 = .ok (.iinc 8 1, 3) := by decide +kernel
theorem dX12_goThrough_155 : decode cX12_goThrough 155 = .ok (.goto (-66), 3) := by decide +kernel
theorem dX12_goThrough_158 : decode cX12_goThrough 158 = .ok (.iload 7, 2) := by decide +kernel
theorem dX12_goThrough_160 : decode cX12_goThrough 160 = .ok (.ifCond .ne 13, 3) := by decide +kernel
theorem dX12_goThrough_163 : decode cX12_goThrough 163 = .ok (.aload_n 0, 1) := by decide +kernel
theorem dX12_goThrough_164 : decode cX12_goThrough 164 = .ok (.iload 4, 2) := by decide +kernel
theorem dX12_goThrough_166 : decode cX12_goThrough 166 = .ok (.aload_n 0, 1) := by decide +kernel
theorem dX12_goThrough_167 : decode cX12_goThrough 167 = .ok (.getfield 282, 3) := by decide +kernel
theorem dX12_goThrough_170 : decode cX12_goThrough 170 = .ok (.invokevirtual 307, 3) := by decide +kernel
theorem dX12_goThrough_173 : decode cX12_goThrough 173 = .ok (.return_, 1) := by decide +kernel
theorem dX12_goAll_0 : decode cX12_goAll 0 = .ok (.aload_n 0, 1) := by decide +kernel
theorem dX12_goAll_1 : decode cX12_goAll 1 = .ok (.sipush 999, 3) := by decide +kernel
theorem dX12_goAll_4 : decode cX12_goAll 4 = .ok (.iconst (-1), 1) := by decide +kernel
theorem dX12_goAll_5 : decode cX12_goAll 5 = .ok (.iconst (-1), 1) := by decide +kernel
theorem dX12_goAll_6 : decode cX12_goAll 6 = .ok (.iconst (-1), 1) := by decide +kernel
theorem dX12_goAll_7 : decode cX12_goAll 7 = .ok (.iconst (-1), 1) := by decide +kernel
theorem dX12_goAll_8 : decode cX12_goAll 8 = .ok (.iconst (-1), 1) := by decide +kernel
theorem dX12_goAll_9 : decode cX12_goAll 9 = .ok (.invokevirtual 316, 3) := by decide +kernel
theorem dX12_goAll_12 : decode cX12_goAll 12 = .ok (.return_, 1) := by decide +kernel
theorem dX12_isThing_0 : decode cX12_isThing 0 = .ok (.iload_n 1, 1) := by decide +kernel
theorem dX12_isThing_1 : decode cX12_isThing 1 = .ok (.i2l, 1) := by decide +kernel
theorem dX12_isThing_2 : decode cX12_isThing 2 = .ok (.lconst 0, 1) := by decide +kernel
theorem dX12_isThing_3 : decode cX12_isThing 3 = .ok (.aload_n 0, 1) := by decide +kernel
theorem dX12_isThing_4 : decode cX12_isThing 4 = .ok (.getfield 285, 3) := by decide +kernel
theorem dX12_isThing_7 : decode cX12_isThing 7 = .ok (.iconst 1, 1) := by decide +kernel
theorem dX12_isThing_8 : decode cX12_isThing 8 = .ok (.isub, 1) := by decide +kernel
theorem dX12_isThing_9 : decode cX12_isThing 9 = .ok (.i2l, 1) := by decide +kernel
theorem dX12_isThing_10 : decode cX12_isThing 10 = .ok (.invokestatic 118, 3) := by decide +kernel
theorem dX12_isThing_13 : decode cX12_isThing 13 = .ok (.ireturn, 1) := by decide +kernel
theorem dX12_whose_0 : decode cX12_whose 0 = .ok (.aload_n 0, 1) := by decide +kernel
theorem dX12_whose_1 : decode cX12_whose 1 = .ok (.iconst 0, 1) := by decide +kernel
theorem dX12_whose_2 : decode cX12_whose 2 = .ok (.putfield 107, 3) := by decide +kernel
theorem dX12_whose_5 : decode cX12_whose 5 = .ok (.aload_n 0, 1) := by decide +kernel
theorem dX12_whose_6 : decode cX12_whose 6 = .ok (.iload_n 1, 1) := by decide +kernel
theorem dX12_whose_7 : decode cX12_whose 7 = .ok (.invokevirtual 320, 3) := by decide +kernel
theorem dX12_whose_10 : decode cX12_whose 10 = .ok (.ifCond .eq 15, 3) := by decide +kernel
theorem dX12_whose_13 : decode cX12_whose 13 = .ok (.iload_n 2, 1) := by decide +kernel
theorem dX12_whose_14 : decode cX12_whose 14 = .ok (.i2l, 1) := by decide +kernel
theorem dX12_whose_15 : decode cX12_whose 15 = .ok (.lconst 0, 1) := by decide +kernel
theorem dX12_whose_16 : decode cX12_whose 16 = .ok (.ldc2_w 323, 3) := by decide +kernel
theorem dX12_whose_19 : decode cX12_whose 19 = .ok (.invokestatic 118, 3) := by decide +kernel
theorem dX12_whose_22 : decode cX12_whose 22 = .ok (.ifCond .ne 7, 3) := by decide +kernel
theorem dX12_whose_25 : decode cX12_whose 25 = .ok (.ldc2_w 128, 3) := by decide +kernel
theorem dX12_whose_28 : decode cX12_whose 28 = .ok (.lreturn, 1) := by decide +kernel
theorem dX12_whose_29 : decode cX12_whose 29 = .ok (.aload_n 0, 1) := by decide +kernel
theorem dX12_whose_30 : decode cX12_whose 30 = .ok (.iload_n 2, 1) := by decide +kernel
theorem dX12_whose_31 : decode cX12_whose 31 = .ok (.iconst (-1), 1) := by decide +kernel
theorem dX12_whose_32 : decode cX12_whose 32 = .ok (.iconst (-1), 1) := by decide +kernel
theorem dX12_whose_33 : decode cX12_whose 33 = .ok (.iconst (-1), 1) := by decide +kernel
theorem dX12_whose_34 : decode cX12_whose 34 = .ok (.iconst (-1), 1) := by decide +kernel
theorem dX12_whose_35 : decode cX12_whose 35 = .ok (.iconst (-1), 1) := by decide +kernel
theorem dX12_whose_36 : decode cX12_whose 36 = .ok (.invokevirtual 316, 3) := by decide +kernel
theorem dX12_whose_39 : decode cX12_whose 39 = .ok (.iload_n 1, 1) := by decide +kernel
theorem dX12_whose_40 : decode cX12_whose 40 = .ok (.aload_n 0, 1) := by decide +kernel
theorem dX12_whose_41 : decode cX12_whose 41 = .ok (.getfield 297, 3) := by decide +kernel
theorem dX12_whose_44 : decode cX12_whose 44 = .ok (.if_icmp .ge 13, 3) := by decide +kernel
theorem dX12_whose_47 : decode cX12_whose 47 = .ok (.aload_n 0, 1) := by decide +kernel
theorem dX12_whose_48 : decode cX12_whose 48 = .ok (.getfield 37, 3) := by decide +kernel
theorem dX12_whose_51 : decode cX12_whose 51 = .ok (.iload_n 1, 1) := by decide +kernel
theorem dX12_whose_52 : decode cX12_whose 52 = .ok (.iaload, 1) := by decide +kernel
theorem dX12_whose_53 : decode cX12_whose 53 = .ok (.i2l, 1) := by decide +kernel
theorem dX12_whose_54 : decode cX12_whose 54 = .ok (.goto 6, 3) := by decide +kernel
theorem dX12_whose_57 : decode cX12_whose 57 = .ok (.ldc2_w 325, 3) := by decide +kernel
theorem dX12_whose_60 : decode cX12_whose 60 = .ok (.lreturn, 1) := by decide +kernel
theorem dX12_putsInto_0 : decode cX12_putsInto 0 = .ok (.iconst 0, 1) := by decide +kernel
theorem dX12_putsInto_1 : decode cX12_putsInto 1 = .ok (.istore_n 2, 1) := by decide +kernel
theorem dX12_putsInto_2 : decode cX12_putsInto 2 = .ok (.iconst 0, 1) := by decide +kernel
theorem dX12_putsInto_3 : decode cX12_putsInto 3 = .ok (.istore_n 3, 1) := by decide +kernel
theorem dX12_putsInto_4 : decode cX12_putsInto 4 = .ok (.iload_n 3, 1) := by decide +kernel
theorem dX12_putsInto_5 : decode cX12_putsInto 5 = .ok (.aload_n 0, 1) := by decide +kernel
theorem dX12_putsInto_6 : decode cX12_putsInto 6 = .ok (.getfield 294, 3) := by decide +kernel
theorem dX12_putsInto_9 : decode cX12_putsInto 9 = .ok (.if_icmp .ge 27, 3) := by decide +kernel
theorem dX12_putsInto_12 : decode cX12_putsInto 12 = .ok (.iload_n 2, 1) := by decide +kernel
theorem dX12_putsInto_13 : decode cX12_putsInto 13 = .ok (.aload_n 0, 1) := by decide +kernel
theorem dX12_putsInto_14 : decode cX12_putsInto 14 = .ok (.getfield 70, 3) := by decide +kernel
theorem dX12_putsInto_17 : decode cX12_putsInto 17 = .ok (.iload_n 3, 1) := by decide +kernel
theorem dX12_putsInto_18 : decode cX12_putsInto 18 = .ok (.iaload, 1) := by decide +kernel
theorem dX12_putsInto_19 : decode cX12_putsInto 19 = .ok (.iload_n 1, 1) := by decide +kernel
theorem dX12_putsInto_20 : decode cX12_putsInto 20 = .ok (.if_icmp .ne 7, 3) := by decide +kernel
theorem dX12_putsInto_23 : decode cX12_putsInto 23 = .ok (.iconst 1, 1) := by decide +kernel
theorem dX12_putsInto_24 : decode cX12_putsInto 24 = .ok (.goto 4, 3) := by decide +kernel
theorem dX12_putsInto_27 : decode cX12_putsInto 27 = .ok (.iconst 0, 1) := by decide +kernel
theorem dX12_putsInto_28 : decode cX12_putsInto 28 = .ok (.iadd, 1) := by decide +kernel
theorem dX12_putsInto_29 : decode cX12_putsInto 29 = .ok (.istore_n 2, 1) := by decide +kernel
theorem dX12_putsInto_30 : decode cX12_putsInto 30 = .ok (.iinc 3 1, 3) := by decide +kernel
theorem dX12_putsInto_33 : decode cX12_putsInto 33 = .ok (.goto (-29), 3) := by decide +kernel
theorem dX12_putsInto_36 : decode cX12_putsInto 36 = .ok (.iload_n 2, 1) := by decide +kernel
theorem dX12_putsInto_37 : decode cX12_putsInto 37 = .ok (.ireturn, 1) := by decide +kernel
theorem dX12_thing_0 : decode cX12_thing 0 = .ok (.aload_n 0, 1) := by decide +kernel
theorem dX12_thing_1 : decode cX12_thing 1 = .ok (.iconst 0, 1) := by decide +kernel
theorem dX12_thing_2 : decode cX12_thing 2 = .ok (.putfield 107, 3) := by decide +kernel
theorem dX12_thing_5 : decode cX12_thing 5 = .ok (.aload_n 0, 1) := by decide +kernel
theorem dX12_thing_6 : decode cX12_thing 6 = .ok (.iload_n 1, 1) := by decide +kernel
theorem dX12_thing_7 : decode cX12_thing 7 = .ok (.invokevirtual 320, 3) := by decide +kernel
theorem dX12_thing_10 : decode cX12_thing 10 = .ok (.ifCond .eq 15, 3) := by decide +kernel
theorem dX12_thing_13 : decode cX12_thing 13 = .ok (.iload_n 2, 1) := by decide +kernel
theorem dX12_thing_14 : decode cX12_thing 14 = .ok (.i2l, 1) := by decide +kernel
theorem dX12_thing_15 : decode cX12_thing 15 = .ok (.lconst 0, 1) := by decide +kernel
theorem dX12_thing_16 : decode cX12_thing 16 = .ok (.ldc2_w 327, 3) := by decide +kernel
theorem dX12_thing_19 : decode cX12_thing 19 = .ok (.invokestatic 118, 3) := by decide +kernel
theorem dX12_thing_22 : decode cX12_thing 22 = .ok (.ifCond .ne 7, 3) := by decide +kernel
theorem dX12_thing_25 : decode cX12_thing 25 = .ok (.ldc2_w 128, 3) := by decide +kernel
theorem dX12_thing_28 : decode cX12_thing 28 = .ok (.lreturn, 1) := by decide +kernel
theorem dX12_thing_29 : decode cX12_thing 29 = .ok (.aload_n 0, 1) := by decide +kernel
theorem dX12_thing_30 : decode cX12_thing 30 = .ok (.invokevirtual 329, 3) := by decide +kernel
theorem dX12_thing_33 : decode cX12_thing 33 = .ok (.iload_n 2, 1) := by decide +kernel
theorem dX12_thing_34 : decode cX12_thing 34 = .ok (.tableswitch 85 0 5 #[38, 46, 54, 62, 70, 78], 38) := by decide +kernel
theorem dX12_thing_72 : decode cX12_thing 72 = .ok (.aload_n 0, 1) := by decide +kernel
theorem dX12_thing_73 : decode cX12_thing 73 = .ok (.getfield 37, 3) := by decide +kernel
theorem dX12_thing_76 : decode cX12_thing 76 = .ok (.iload_n 1, 1) := by decide +kernel
theorem dX12_thing_77 : decode cX12_thing 77 = .ok (.iaload, 1) := by decide +kernel
theorem dX12_thing_78 : decode cX12_thing 78 = .ok (.i2l, 1) := by decide +kernel
theorem dX12_thing_79 : decode cX12_thing 79 = .ok (.lreturn, 1) := by decide +kernel
theorem dX12_thing_80 : decode cX12_thing 80 = .ok (.aload_n 0, 1) := by decide +kernel
theorem dX12_thing_81 : decode cX12_thing 81 = .ok (.getfield 43, 3) := by decide +kernel
theorem dX12_thing_84 : decode cX12_thing 84 = .ok (.iload_n 1, 1) := by decide +kernel
theorem dX12_thing_85 : decode cX12_thing 85 = .ok (.iaload, 1) := by decide +kernel
theorem dX12_thing_86 : decode cX12_thing 86 = .ok (.i2l, 1) := by decide +kernel
theorem dX12_thing_87 : decode cX12_thing 87 = .ok (.lreturn, 1) := by decide +kernel
theorem dX12_thing_88 : decode cX12_thing 88 = .ok (.aload_n 0, 1) := by decide +kernel
theorem dX12_thing_89 : decode cX12_thing 89 = .ok (.getfield 46, 3) := by decide +kernel
theorem dX12_thing_92 : decode cX12_thing 92 = .ok (.iload_n 1, 1) := by decide +kernel
theorem dX12_thing_93 : decode cX12_thing 93 = .ok (.iaload, 1) := by decide +kernel
theorem dX12_thing_94 : decode cX12_thing 94 = .ok (.i2l, 1) := by decide +kernel
theorem dX12_thing_95 : decode cX12_thing 95 = .ok (.lreturn, 1) := by decide +kernel
theorem dX12_thing_96 : decode cX12_thing 96 = .ok (.aload_n 0, 1) := by decide +kernel
theorem dX12_thing_97 : decode cX12_thing 97 = .ok (.getfield 49, 3) := by decide +kernel
theorem dX12_thing_100 : decode cX12_thing 100 = .ok (.iload_n 1, 1) := by decide +kernel
theorem dX12_thing_101 : decode cX12_thing 101 = .ok (.iaload, 1) := by decide +kernel
theorem dX12_thing_102 : decode cX12_thing 102 = .ok (.i2l, 1) := by decide +kernel
theorem dX12_thing_103 : decode cX12_thing 103 = .ok (.lreturn, 1) := by decide +kernel
theorem dX12_thing_104 : decode cX12_thing 104 = .ok (.aload_n 0, 1) := by decide +kernel
theorem dX12_thing_105 : decode cX12_thing 105 = .ok (.getfield 52, 3) := by decide +kernel
theorem dX12_thing_108 : decode cX12_thing 108 = .ok (.iload_n 1, 1) := by decide +kernel
theorem dX12_thing_109 : decode cX12_thing 109 = .ok (.iaload, 1) := by decide +kernel
theorem dX12_thing_110 : decode cX12_thing 110 = .ok (.i2l, 1) := by decide +kernel
theorem dX12_thing_111 : decode cX12_thing 111 = .ok (.lreturn, 1) := by decide +kernel
theorem dX12_thing_112 : decode cX12_thing 112 = .ok (.aload_n 0, 1) := by decide +kernel
theorem dX12_thing_113 : decode cX12_thing 113 = .ok (.iload_n 1, 1) := by decide +kernel
theorem dX12_thing_114 : decode cX12_thing 114 = .ok (.invokevirtual 332, 3) := by decide +kernel
theorem dX12_thing_117 : decode cX12_thing 117 = .ok (.i2l, 1) := by decide +kernel
theorem dX12_thing_118 : decode cX12_thing 118 = .ok (.lreturn, 1) := by decide +kernel
theorem dX12_thing_119 : decode cX12_thing 119 = .ok (.aload_n 0, 1) := by decide +kernel
theorem dX12_thing_120 : decode cX12_thing 120 = .ok (.getfield 61, 3) := by decide +kernel
theorem dX12_thing_123 : decode cX12_thing 123 = .ok (.iload_n 1, 1) := by decide +kernel
theorem dX12_thing_124 : decode cX12_thing 124 = .ok (.iaload, 1) := by decide +kernel
theorem dX12_thing_125 : decode cX12_thing 125 = .ok (.i2l, 1) := by decide +kernel
theorem dX12_thing_126 : decode cX12_thing 126 = .ok (.lreturn, 1) := by decide +kernel
theorem dX12_judge_0 : decode cX12_judge 0 = .ok (.aload_n 0, 1) := by decide +kernel
theorem dX12_judge_1 : decode cX12_judge 1 = .ok (.iconst 0, 1) := by decide +kernel
theorem dX12_judge_2 : decode cX12_judge 2 = .ok (.putfield 107, 3) := by decide +kernel
theorem dX12_judge_5 : decode cX12_judge 5 = .ok (.iload_n 1, 1) := by decide +kernel
theorem dX12_judge_6 : decode cX12_judge 6 = .ok (.invokestatic 122, 3) := by decide +kernel
theorem dX12_judge_9 : decode cX12_judge 9 = .ok (.ifCond .ne 7, 3) := by decide +kernel
theorem dX12_judge_12 : decode cX12_judge 12 = .ok (.ldc2_w 128, 3) := by decide +kernel
theorem dX12_judge_15 : decode cX12_judge 15 = .ok (.lreturn, 1) := by decide +kernel
theorem dX12_judge_16 : decode cX12_judge 16 = .ok (.aload_n 0, 1) := by decide +kernel
theorem dX12_judge_17 : decode cX12_judge 17 = .ok (.getfield 275, 3) := by decide +kernel
theorem dX12_judge_20 : decode cX12_judge 20 = .ok (.ifCond .ne 7, 3) := by decide +kernel
theorem dX12_judge_23 : decode cX12_judge 23 = .ok (.ldc2_w 335, 3) := by decide +kernel
theorem dX12_judge_26 : decode cX12_judge 26 = .ok (.lreturn, 1) := by decide +kernel
theorem dX12_judge_27 : decode cX12_judge 27 = .ok (.aload_n 0, 1) := by decide +kernel
theorem dX12_judge_28 : decode cX12_judge 28 = .ok (.getfield 9, 3) := by decide +kernel
theorem dX12_judge_31 : decode cX12_judge 31 = .ok (.iload_n 1, 1) := by decide +kernel
theorem dX12_judge_32 : decode cX12_judge 32 = .ok (.iaload, 1) := by decide +kernel
theorem dX12_judge_33 : decode cX12_judge 33 = .ok (.ifCond .ge 9, 3) := by decide +kernel
theorem dX12_judge_36 : decode cX12_judge 36 = .ok (.aload_n 0, 1) := by decide +kernel
theorem dX12_judge_37 : decode cX12_judge 37 = .ok (.iconst 1, 1) := by decide +kernel
theorem dX12_judge_38 : decode cX12_judge 38 = .ok (.invokevirtual 130, 3) := by decide +kernel
theorem dX12_judge_41 : decode cX12_judge 41 = .ok (.lreturn, 1) := by decide +kernel
theorem dX12_judge_42 : decode cX12_judge 42 = .ok (.iload_n 2, 1) := by decide +kernel
theorem dX12_judge_43 : decode cX12_judge 43 = .ok (.ifCond .lt 22, 3) := by decide +kernel
theorem dX12_judge_46 : decode cX12_judge 46 = .ok (.iload_n 2, 1) := by decide +kernel
theorem dX12_judge_47 : decode cX12_judge 47 = .ok (.i2l, 1) := by decide +kernel
theorem dX12_judge_48 : decode cX12_judge 48 = .ok (.aload_n 0, 1) := by decide +kernel
theorem dX12_judge_49 : decode cX12_judge 49 = .ok (.getfield 285, 3) := by decide +kernel
theorem dX12_judge_52 : decode cX12_judge 52 = .ok (.i2l, 1) := by decide +kernel
theorem dX12_judge_53 : decode cX12_judge 53 = .ok (.ladd, 1) := by decide +kernel
theorem dX12_judge_54 : decode cX12_judge 54 = .ok (.aload_n 0, 1) := by decide +kernel
theorem dX12_judge_55 : decode cX12_judge 55 = .ok (.getfield 13, 3) := by decide +kernel
theorem dX12_judge_58 : decode cX12_judge 58 = .ok (.iload_n 1, 1) := by decide +kernel
theorem dX12_judge_59 : decode cX12_judge 59 = .ok (.iaload, 1) := by decide +kernel
theorem dX12_judge_60 : decode cX12_judge 60 = .ok (.i2l, 1) := by decide +kernel
theorem dX12_judge_61 : decode cX12_judge 61 = .ok (.lcmp, 1) := by decide +kernel
theorem dX12_judge_62 : decode cX12_judge 62 = .ok (.ifCond .le 9, 3) := by decide +kernel
theorem dX12_judge_65 : decode cX12_judge 65 = .ok (.aload_n 0, 1) := by decide +kernel
theorem dX12_judge_66 : decode cX12_judge 66 = .ok (.iconst 2, 1) := by decide +kernel
theorem dX12_judge_67 : decode cX12_judge 67 = .ok (.invokevirtual 130, 3) := by decide +kernel
theorem dX12_judge_70 : decode cX12_judge 70 = .ok (.lreturn, 1) := by decide +kernel
theorem dX12_judge_71 : decode cX12_judge 71 = .ok (.iconst 0, 1) := by decide +kernel
theorem dX12_judge_72 : decode cX12_judge 72 = .ok (.istore_n 3, 1) := by decide +kernel
theorem dX12_judge_73 : decode cX12_judge 73 = .ok (.iload_n 3, 1) := by decide +kernel
theorem dX12_judge_74 : decode cX12_judge 74 = .ok (.aload_n 0, 1) := by decide +kernel
theorem dX12_judge_75 : decode cX12_judge 75 = .ok (.getfield 285, 3) := by decide +kernel
theorem dX12_judge_78 : decode cX12_judge 78 = .ok (.if_icmp .ge 37, 3) := by decide +kernel
theorem dX12_judge_81 : decode cX12_judge 81 = .ok (.aload_n 0, 1) := by decide +kernel
theorem dX12_judge_82 : decode cX12_judge 82 = .ok (.getfield 16, 3) := by decide +kernel
theorem dX12_judge_85 : decode cX12_judge 85 = .ok (.bipush 40, 2) := by decide +kernel
theorem dX12_judge_87 : decode cX12_judge 87 = .ok (.iload_n 1, 1) := by decide +kernel
theorem dX12_judge_88 : decode cX12_judge 88 = .ok (.imul, 1) := by decide +kernel
theorem dX12_judge_89 : decode cX12_judge 89 = .ok (.iload_n 2, 1) := by decide +kernel
theorem dX12_judge_90 : decode cX12_judge 90 = .ok (.iadd, 1) := by decide +kernel
theorem dX12_judge_91 : decode cX12_judge 91 = .ok (.iload_n 3, 1) := by decide +kernel
theorem dX12_judge_92 : decode cX12_judge 92 = .ok (.iadd, 1) := by decide +kernel
theorem dX12_judge_93 : decode cX12_judge 93 = .ok (.iaload, 1) := by decide +kernel
theorem dX12_judge_94 : decode cX12_judge 94 = .ok (.i2l, 1) := by decide +kernel
theorem dX12_judge_95 : decode cX12_judge 95 = .ok (.lconst 0, 1) := by decide +kernel
theorem dX12_judge_96 : decode cX12_judge 96 = .ok (.ldc2_w 126, 3) := by decide +kernel
theorem dX12_judge_99 : decode cX12_judge 99 = .ok (.invokestatic 118, 3) := by decide +kernel
theorem dX12_judge_102 : decode cX12_judge 102 = .ok (.ifCond .ne 7, 3) := by decide +kernel
theorem dX12_judge_105 : decode cX12_judge 105 = .ok (.ldc2_w 128, 3) := by decide +kernel
theorem dX12_judge_108 : decode cX12_judge 108 = .ok (.lreturn, 1) := by decide +kernel
theorem dX12_judge_109 : decode cX12_judge 109 = .ok (.iinc 3 1, 3) := by decide +kernel
theorem dX12_judge_112 : decode cX12_judge 112 = .ok (.goto (-39), 3) := by decide +kernel
theorem dX12_judge_115 : decode cX12_judge 115 = .ok (.aload_n 0, 1) := by decide +kernel
theorem dX12_judge_116 : decode cX12_judge 116 = .ok (.iconst 0, 1) := by decide +kernel
theorem dX12_judge_117 : decode cX12_judge 117 = .ok (.putfield 111, 3) := by decide +kernel
theorem dX12_judge_120 : decode cX12_judge 120 = .ok (.aload_n 0, 1) := by decide +kernel
theorem dX12_judge_121 : decode cX12_judge 121 = .ok (.invokevirtual 329, 3) := by decide +kernel
theorem dX12_judge_124 : decode cX12_judge 124 = .ok (.iconst 0, 1) := by decide +kernel
theorem dX12_judge_125 : decode cX12_judge 125 = .ok (.istore_n 3, 1) := by decide +kernel
theorem dX12_judge_126 : decode cX12_judge 126 = .ok (.iload_n 3, 1) := by decide +kernel
theorem dX12_judge_127 : decode cX12_judge 127 = .ok (.aload_n 0, 1) := by decide +kernel
theorem dX12_judge_128 : decode cX12_judge 128 = .ok (.getfield 285, 3) := by decide +kernel
theorem dX12_judge_131 : decode cX12_judge 131 = .ok (.if_icmp .ge 34, 3) := by decide +kernel
theorem dX12_judge_134 : decode cX12_judge 134 = .ok (.aload_n 0, 1) := by decide +kernel
theorem dX12_judge_135 : decode cX12_judge 135 = .ok (.getfield 37, 3) := by decide +kernel
theorem dX12_judge_138 : decode cX12_judge 138 = .ok (.iload_n 3, 1) := by decide +kernel
theorem dX12_judge_139 : decode cX12_judge 139 = .ok (.iaload, 1) := by decide +kernel
theorem dX12_judge_140 : decode cX12_judge 140 = .ok (.aload_n 0, 1) := by decide +kernel
theorem dX12_judge_141 : decode cX12_judge 141 = .ok (.getfield 16, 3) := by decide +kernel
theorem dX12_judge_144 : decode cX12_judge 144 = .ok (.bipush 40, 2) := by decide +kernel
theorem dX12_judge_146 : decode cX12_judge 146 = .ok (.iload_n 1, 1) := by decide +kernel
theorem dX12_judge_147 : decode cX12_judge 147 = .ok (.imul, 1) := by decide +kernel
theorem dX12_judge_148 : decode cX12_judge 148 = .ok (.iload_n 2, 1) := by decide +kernel
theorem dX12_judge_149 : decode cX12_judge 149 = .ok (.iadd, 1) := by decide +kernel
theorem dX12_judge_150 : decode cX12_judge 150 = .ok (.iload_n 3, 1) := by decide +kernel
theorem dX12_judge_151 : decode cX12_judge 151 = .ok (.iadd, 1) := by decide +kernel
theorem dX12_judge_152 : decode cX12_judge 152 = .ok (.iaload, 1) := by decide +kernel
theorem dX12_judge_153 : decode cX12_judge 153 = .ok (.if_icmp .eq 6, 3) := by decide +kernel
theorem dX12_judge_156 : decode cX12_judge 156 = .ok (.iload_n 3, 1) := by decide +kernel
theorem dX12_judge_157 : decode cX12_judge 157 = .ok (.i2l, 1) := by decide +kernel
theorem dX12_judge_158 : decode cX12_judge 158 = .ok (.lreturn, 1) := by decide +kernel
theorem dX12_judge_159 : decode cX12_judge 159 = .ok (.iinc 3 1, 3) := by decide +kernel
theorem dX12_judge_162 : decode cX12_judge 162 = .ok (.goto (-36), 3) := by decide +kernel
theorem dX12_judge_165 : decode cX12_judge 165 = .ok (.ldc2_w 325, 3) := by decide +kernel
theorem dX12_judge_168 : decode cX12_judge 168 = .ok (.lreturn, 1) := by decide +kernel
theorem dX12_laySums_0 : decode cX12_laySums 0 = .ok (.iconst 0, 1) := by decide +kernel
theorem dX12_laySums_1 : decode cX12_laySums 1 = .ok (.istore_n 1, 1) := by decide +kernel
theorem dX12_laySums_2 : decode cX12_laySums 2 = .ok (.iload_n 1, 1) := by decide +kernel
theorem dX12_laySums_3 : decode cX12_laySums 3 = .ok (.bipush 9, 2) := by decide +kernel
theorem dX12_laySums_5 : decode cX12_laySums 5 = .ok (.if_icmp .ge 23, 3) := by decide +kernel
theorem dX12_laySums_8 : decode cX12_laySums 8 = .ok (.aload_n 0, 1) := by decide +kernel
theorem dX12_laySums_9 : decode cX12_laySums 9 = .ok (.getfield 89, 3) := by decide +kernel
theorem dX12_laySums_12 : decode cX12_laySums 12 = .ok (.iload_n 1, 1) := by decide +kernel
theorem dX12_laySums_13 : decode cX12_laySums 13 = .ok (.lconst 0, 1) := by decide +kernel
theorem dX12_laySums_14 : decode cX12_laySums 14 = .ok (.lastore, 1) := by decide +kernel
theorem dX12_laySums_15 : decode cX12_laySums 15 = .ok (.aload_n 0, 1) := by decide +kernel
theorem dX12_laySums_16 : decode cX12_laySums 16 = .ok (.getfield 92, 3) := by decide +kernel
theorem dX12_laySums_19 : decode cX12_laySums 19 = .ok (.iload_n 1, 1) := by decide +kernel
theorem dX12_laySums_20 : decode cX12_laySums 20 = .ok (.lconst 0, 1) := by decide +kernel
theorem dX12_laySums_21 : decode cX12_laySums 21 = .ok (.lastore, 1) := by decide +kernel
theorem dX12_laySums_22 : decode cX12_laySums 22 = .ok (.iinc 1 1, 3) := by decide +kernel
theorem dX12_laySums_25 : decode cX12_laySums 25 = .ok (.goto (-23), 3) := by decide +kernel
theorem dX12_laySums_28 : decode cX12_laySums 28 = .ok (.iconst 0, 1) := by decide +kernel
theorem dX12_laySums_29 : decode cX12_laySums 29 = .ok (.istore_n 1, 1) := by decide +kernel
theorem dX12_laySums_30 : decode cX12_laySums 30 = .ok (.iload_n 1, 1) := by decide +kernel
theorem dX12_laySums_31 : decode cX12_laySums 31 = .ok (.iconst 3, 1) := by decide +kernel
theorem dX12_laySums_32 : decode cX12_laySums 32 = .ok (.if_icmp .ge 30, 3) := by decide +kernel
theorem dX12_laySums_35 : decode cX12_laySums 35 = .ok (.aload_n 0, 1) := by decide +kernel
theorem dX12_laySums_36 : decode cX12_laySums 36 = .ok (.getfield 82, 3) := by decide +kernel
theorem dX12_laySums_39 : decode cX12_laySums 39 = .ok (.iload_n 1, 1) := by decide +kernel
theorem dX12_laySums_40 : decode cX12_laySums 40 = .ok (.aload_n 0, 1) := by decide +kernel
theorem dX12_laySums_41 : decode cX12_laySums 41 = .ok (.getfield 67, 3) := by decide +kernel
theorem dX12_laySums_44 : decode cX12_laySums 44 = .ok (.iload_n 1, 1) := by decide +kernel
theorem dX12_laySums_45 : decode cX12_laySums 45 = .ok (.iaload, 1) := by decide +kernel
theorem dX12_laySums_46 : decode cX12_laySums 46 = .ok (.ineg, 1) := by decide +kernel
theorem dX12_laySums_47 : decode cX12_laySums 47 = .ok (.i2l, 1) := by decide +kernel
theorem dX12_laySums_48 : decode cX12_laySums 48 = .ok (.lastore, 1) := by decide +kernel
theorem dX12_laySums_49 : decode cX12_laySums 49 = .ok (.aload_n 0, 1) := by decide +kernel
theorem dX12_laySums_50 : decode cX12_laySums 50 = .ok (.getfield 86, 3) := by decide +kernel
theorem dX12_laySums_53 : decode cX12_laySums 53 = .ok (.iload_n 1, 1) := by decide +kernel
theorem dX12_laySums_54 : decode cX12_laySums 54 = .ok (.lconst 0, 1) := by decide +kernel
theorem dX12_laySums_55 : decode cX12_laySums 55 = .ok (.lastore, 1) := by decide +kernel
theorem dX12_laySums_56 : decode cX12_laySums 56 = .ok (.iinc 1 1, 3) := by decide +kernel
theorem dX12_laySums_59 : decode cX12_laySums 59 = .ok (.goto (-29), 3) := by decide +kernel
theorem dX12_laySums_62 : decode cX12_laySums 62 = .ok (.iconst 0, 1) := by decide +kernel
theorem dX12_laySums_63 : decode cX12_laySums 63 = .ok (.istore_n 1, 1) := by decide +kernel
theorem dX12_laySums_64 : decode cX12_laySums 64 = .ok (.iload_n 1, 1) := by decide +kernel
theorem dX12_laySums_65 : decode cX12_laySums 65 = .ok (.aload_n 0, 1) := by decide +kernel
theorem dX12_laySums_66 : decode cX12_laySums 66 = .ok (.getfield 297, 3) := by decide +kernel
theorem dX12_laySums_69 : decode cX12_laySums 69 = .ok (.if_icmp .ge 51, 3) := by decide +kernel
theorem dX12_laySums_72 : decode cX12_laySums 72 = .ok (.aload_n 0, 1) := by decide +kernel
theorem dX12_laySums_73 : decode cX12_laySums 73 = .ok (.getfield 82, 3) := by decide +kernel
theorem dX12_laySums_76 : decode cX12_laySums 76 = .ok (.aload_n 0, 1) := by decide +kernel
theorem dX12_laySums_77 : decode cX12_laySums 77 = .ok (.getfield 37, 3) := by decide +kernel
theorem dX12_laySums_80 : decode cX12_laySums 80 = .ok (.iload_n 1, 1) := by decide +kernel
theorem dX12_laySums_81 : decode cX12_laySums 81 = .ok (.iaload, 1) := by decide +kernel
theorem dX12_laySums_82 : decode cX12_laySums 82 = .ok (.dup2, 1) := by decide +kernel
theorem dX12_laySums_83 : decode cX12_laySums 83 = .ok (.laload, 1) := by decide +kernel
theorem dX12_laySums_84 : decode cX12_laySums 84 = .ok (.aload_n 0, 1) := by decide +kernel
theorem dX12_laySums_85 : decode cX12_laySums 85 = .ok (.getfield 52, 3) := by decide +kernel
theorem dX12_laySums_88 : decode cX12_laySums 88 = .ok (.iload_n 1, 1) := by decide +kernel
theorem dX12_laySums_89 : decode cX12_laySums 89 = .ok (.iaload, 1) := by decide +kernel
theorem dX12_laySums_90 : decode cX12_laySums 90 = .ok (.i2l, 1) := by decide +kernel
theorem dX12_laySums_91 : decode cX12_laySums 91 = .ok (.ladd, 1) := by decide +kernel
theorem dX12_laySums_92 : decode cX12_laySums 92 = .ok (.lastore, 1) := by decide +kernel
theorem dX12_laySums_93 : decode cX12_laySums 93 = .ok (.aload_n 0, 1) := by decide +kernel
theorem dX12_laySums_94 : decode cX12_laySums 94 = .ok (.getfield 86, 3) := by decide +kernel
theorem dX12_laySums_97 : decode cX12_laySums 97 = .ok (.aload_n 0, 1) := by decide +kernel
theorem dX12_laySums_98 : decode cX12_laySums 98 = .ok (.getfield 37, 3) := by decide +kernel
theorem dX12_laySums_101 : decode cX12_laySums 101 = .ok (.iload_n 1, 1) := by decide +kernel
theorem dX12_laySums_102 : decode cX12_laySums 102 = .ok (.iaload, 1) := by decide +kernel
theorem dX12_laySums_103 : decode cX12_laySums 103 = .ok (.dup2, 1) := by decide +kernel
theorem dX12_laySums_104 : decode cX12_laySums 104 = .ok (.laload, 1) := by decide +kernel
theorem dX12_laySums_105 : decode cX12_laySums 105 = .ok (.aload_n 0, 1) := by decide +kernel
theorem dX12_laySums_106 : decode cX12_laySums 106 = .ok (.getfield 55, 3) := by decide +kernel
theorem dX12_laySums_109 : decode cX12_laySums 109 = .ok (.iload_n 1, 1) := by decide +kernel
theorem dX12_laySums_110 : decode cX12_laySums 110 = .ok (.iaload, 1) := by decide +kernel
theorem dX12_laySums_111 : decode cX12_laySums 111 = .ok (.i2l, 1) := by decide +kernel
theorem dX12_laySums_112 : decode cX12_laySums 112 = .ok (.ladd, 1) := by decide +kernel
theorem dX12_laySums_113 : decode cX12_laySums 113 = .ok (.lastore, 1) := by decide +kernel
theorem dX12_laySums_114 : decode cX12_laySums 114 = .ok (.iinc 1 1, 3) := by decide +kernel
theorem dX12_laySums_117 : decode cX12_laySums 117 = .ok (.goto (-53), 3) := by decide +kernel
theorem dX12_laySums_120 : decode cX12_laySums 120 = .ok (.aload_n 0, 1) := by decide +kernel
theorem dX12_laySums_121 : decode cX12_laySums 121 = .ok (.getfield 19, 3) := by decide +kernel
theorem dX12_laySums_124 : decode cX12_laySums 124 = .ok (.bipush 8, 2) := by decide +kernel
theorem dX12_laySums_126 : decode cX12_laySums 126 = .ok (.aload_n 0, 1) := by decide +kernel
theorem dX12_laySums_127 : decode cX12_laySums 127 = .ok (.getfield 288, 3) := by decide +kernel
theorem dX12_laySums_130 : decode cX12_laySums 130 = .ok (.imul, 1) := by decide +kernel
theorem dX12_laySums_131 : decode cX12_laySums 131 = .ok (.iconst 5, 1) := by decide +kernel
theorem dX12_laySums_132 : decode cX12_laySums 132 = .ok (.iadd, 1) := by decide +kernel
theorem dX12_laySums_133 : decode cX12_laySums 133 = .ok (.iaload, 1) := by decide +kernel
theorem dX12_laySums_134 : decode cX12_laySums 134 = .ok (.istore_n 1, 1) := by decide +kernel
theorem dX12_laySums_135 : decode cX12_laySums 135 = .ok (.iconst 0, 1) := by decide +kernel
theorem dX12_laySums_136 : decode cX12_laySums 136 = .ok (.istore_n 2, 1) := by decide +kernel
theorem dX12_laySums_137 : decode cX12_laySums 137 = .ok (.iload_n 2, 1) := by decide +kernel
theorem dX12_laySums_138 : decode cX12_laySums 138 = .ok (.aload_n 0, 1) := by decide +kernel
theorem dX12_laySums_139 : decode cX12_laySums 139 = .ok (.getfield 294, 3) := by decide +kernel
theorem dX12_laySums_142 : decode cX12_laySums 142 = .ok (.if_icmp .ge 164, 3) := by decide +kernel
theorem dX12_laySums_145 : decode cX12_laySums 145 = .ok (.aload_n 0, 1) := by decide +kernel
theorem dX12_laySums_146 : decode cX12_laySums 146 = .ok (.getfield 37, 3) := by decide +kernel
theorem dX12_laySums_149 : decode cX12_laySums 149 = .ok (.aload_n 0, 1) := by decide +kernel
theorem dX12_laySums_150 : decode cX12_laySums 150 = .ok (.getfield 70, 3) := by decide +kernel
theorem dX12_laySums_153 : decode cX12_laySums 153 = .ok (.iload_n 2, 1) := by decide +kernel
theorem dX12_laySums_154 : decode cX12_laySums 154 = .ok (.iaload, 1) := by decide +kernel
theorem dX12_laySums_155 : decode cX12_laySums 155 = .ok (.iaload, 1) := by decide +kernel
theorem dX12_laySums_156 : decode cX12_laySums 156 = .ok (.istore_n 3, 1) := by decide +kernel
theorem dX12_laySums_157 : decode cX12_laySums 157 = .ok (.iconst 3, 1) := by decide +kernel
theorem dX12_laySums_158 : decode cX12_laySums 158 = .ok (.aload_n 0, 1) := by decide +kernel
theorem dX12_laySums_159 : decode cX12_laySums 159 = .ok (.getfield 73, 3) := by decide +kernel
theorem dX12_laySums_162 : decode cX12_laySums 162 = .ok (.iload_n 2, 1) := by decide +kernel
theorem dX12_laySums_163 : decode cX12_laySums 163 = .ok (.iaload, 1) := by decide +kernel
theorem dX12_laySums_164 : decode cX12_laySums 164 = .ok (.imul, 1) := by decide +kernel
theorem dX12_laySums_165 : decode cX12_laySums 165 = .ok (.iload_n 3, 1) := by decide +kernel
theorem dX12_laySums_166 : decode cX12_laySums 166 = .ok (.iadd, 1) := by decide +kernel
theorem dX12_laySums_167 : decode cX12_laySums 167 = .ok (.istore 4, 2) := by decide +kernel
theorem dX12_laySums_169 : decode cX12_laySums 169 = .ok (.aload_n 0, 1) := by decide +kernel
theorem dX12_laySums_170 : decode cX12_laySums 170 = .ok (.getfield 76, 3) := by decide +kernel
theorem dX12_laySums_173 : decode cX12_laySums 173 = .ok (.iload_n 2, 1) := by decide +kernel
theorem dX12_laySums_174 : decode cX12_laySums 174 = .ok (.iaload, 1) := by decide +kernel
theorem dX12_laySums_175 : decode cX12_laySums 175 = .ok (.aload_n 0, 1) := by decide +kernel
theorem dX12_laySums_176 : decode cX12_laySums 176 = .ok (.getfield 52, 3) := by decide +kernel
theorem dX12_laySums_179 : decode cX12_laySums 179 = .ok (.aload_n 0, 1) := by decide +kernel
theorem dX12_laySums_180 : decode cX12_laySums 180 = .ok (.getfield 70, 3) := by decide +kernel
theorem dX12_laySums_183 : decode cX12_laySums 183 = .ok (.iload_n 2, 1) := by decide +kernel
theorem dX12_laySums_184 : decode cX12_laySums 184 = .ok (.iaload, 1) := by decide +kernel
theorem dX12_laySums_185 : decode cX12_laySums 185 = .ok (.iaload, 1) := by decide +kernel
theorem dX12_laySums_186 : decode cX12_laySums 186 = .ok (.imul, 1) := by decide +kernel
theorem dX12_laySums_187 : decode cX12_laySums 187 = .ok (.aload_n 0, 1) := by decide +kernel
theorem dX12_laySums_188 : decode cX12_laySums 188 = .ok (.getfield 79, 3) := by decide +kernel
theorem dX12_laySums_191 : decode cX12_laySums 191 = .ok (.iload_n 2, 1) := by decide +kernel
theorem dX12_laySums_192 : decode cX12_laySums 192 = .ok (.iaload, 1) := by decide +kernel
theorem dX12_laySums_193 : decode cX12_laySums 193 = .ok (.idiv, 1) := by decide +kernel
theorem dX12_laySums_194 : decode cX12_laySums 194 = .ok (.istore 5, 2) := by decide +kernel
theorem dX12_laySums_196 : decode cX12_laySums 196 = .ok (.iload_n 1, 1) := by decide +kernel
theorem dX12_laySums_197 : decode cX12_laySums 197 = .ok (.ifCond .eq 35, 3) := by decide +kernel
theorem dX12_laySums_200 : decode cX12_laySums 200 = .ok (.iload_n 1, 1) := by decide +kernel
theorem dX12_laySums_201 : decode cX12_laySums 201 = .ok (.iconst 3, 1) := by decide +kernel
theorem dX12_laySums_202 : decode cX12_laySums 202 = .ok (.if_icmp .ne 14, 3) := by decide +kernel
theorem dX12_laySums_205 : decode cX12_laySums 205 = .ok (.aload_n 0, 1) := by decide +kernel
theorem dX12_laySums_206 : decode cX12_laySums 206 = .ok (.getfield 76, 3) := by decide +kernel
theorem dX12_laySums_209 : decode cX12_laySums 209 = .ok (.iload_n 2, 1) := by decide +kernel
theorem dX12_laySums_210 : decode cX12_laySums 210 = .ok (.iaload, 1) := by decide +kernel
theorem dX12_laySums_211 : decode cX12_laySums 211 = .ok (.iload 5, 2) := by decide +kernel
theorem dX12_laySums_213 : decode cX12_laySums 213 = .ok (.if_icmp .lt 19, 3) := by decide +kernel
theorem dX12_laySums_216 : decode cX12_laySums 216 = .ok (.iload_n 1, 1) := by decide +kernel
theorem dX12_laySums_217 : decode cX12_laySums 217 = .ok (.iconst 4, 1) := by decide +kernel
theorem dX12_laySums_218 : decode cX12_laySums 218 = .ok (.if_icmp .ne 18, 3) := by decide +kernel
theorem dX12_laySums_221 : decode cX12_laySums 221 = .ok (.aload_n 0, 1) := by decide +kernel
theorem dX12_laySums_222 : decode cX12_laySums 222 = .ok (.getfield 76, 3) := by decide +kernel
theorem dX12_laySums_225 : decode cX12_laySums 225 = .ok (.iload_n 2, 1) := by decide +kernel
theorem dX12_laySums_226 : decode cX12_laySums 226 = .ok (.iaload, 1) := by decide +kernel
theorem dX12_laySums_227 : decode cX12_laySums 227 = .ok (.iload 5, 2) := by decide +kernel
theorem dX12_laySums_229 : decode cX12_laySums 229 = .ok (.if_icmp .le 7, 3) := by decide +kernel
theorem dX12_laySums_232 : decode cX12_laySums 232 = .ok (.iconst 1, 1) := by decide +kernel
theorem dX12_laySums_233 : decode cX12_laySums 233 = .ok (.goto 4, 3) := by decide +kernel
theorem dX12_laySums_236 : decode cX12_laySums 236 = .ok (.iconst 0, 1) := by decide +kernel
theorem dX12_laySums_237 : decode cX12_laySums 237 = .ok (.istore 6, 2) := by decide +kernel
theorem dX12_laySums_239 : decode cX12_laySums 239 = .ok (.aload_n 0, 1) := by decide +kernel
theorem dX12_laySums_240 : decode cX12_laySums 240 = .ok (.getfield 86, 3) := by decide +kernel
theorem dX12_laySums_243 : decode cX12_laySums 243 = .ok (.iload_n 3, 1) := by decide +kernel
theorem dX12_laySums_244 : decode cX12_laySums 244 = .ok (.dup2, 1) := by decide +kernel
theorem dX12_laySums_245 : decode cX12_laySums 245 = .ok (.laload, 1) := by decide +kernel
theorem dX12_laySums_246 : decode cX12_laySums 246 = .ok (.aload_n 0, 1) := by decide +kernel
theorem dX12_laySums_247 : decode cX12_laySums 247 = .ok (.getfield 76, 3) := by decide +kernel
theorem dX12_laySums_250 : decode cX12_laySums 250 = .ok (.iload_n 2, 1) := by decide +kernel
theorem dX12_laySums_251 : decode cX12_laySums 251 = .ok (.iaload, 1) := by decide +kernel
theorem dX12_laySums_252 : decode cX12_laySums 252 = .ok (.i2l, 1) := by decide +kernel
theorem dX12_laySums_253 : decode cX12_laySums 253 = .ok (.ladd, 1) := by decide +kernel
theorem dX12_laySums_254 : decode cX12_laySums 254 = .ok (.lastore, 1) := by decide +kernel
theorem dX12_laySums_255 : decode cX12_laySums 255 = .ok (.aload_n 0, 1) := by decide +kernel
theorem dX12_laySums_256 : decode cX12_laySums 256 = .ok (.getfield 89, 3) := by decide +kernel
theorem dX12_laySums_259 : decode cX12_laySums 259 = .ok (.iload 4, 2) := by decide +kernel
theorem dX12_laySums_261 : decode cX12_laySums 261 = .ok (.dup2, 1) := by decide +kernel
theorem dX12_laySums_262 : decode cX12_laySums 262 = .ok (.laload, 1) := by decide +kernel
theorem dX12_laySums_263 : decode cX12_laySums 263 = .ok (.aload_n 0, 1) := by decide +kernel
theorem dX12_laySums_264 : decode cX12_laySums 264 = .ok (.getfield 76, 3) := by decide +kernel
theorem dX12_laySums_267 : decode cX12_laySums 267 = .ok (.iload_n 2, 1) := by decide +kernel
theorem dX12_laySums_268 : decode cX12_laySums 268 = .ok (.iaload, 1) := by decide +kernel
theorem dX12_laySums_269 : decode cX12_laySums 269 = .ok (.i2l, 1) := by decide +kernel
theorem dX12_laySums_270 : decode cX12_laySums 270 = .ok (.ladd, 1) := by decide +kernel
theorem dX12_laySums_271 : decode cX12_laySums 271 = .ok (.lastore, 1) := by decide +kernel
theorem dX12_laySums_272 : decode cX12_laySums 272 = .ok (.aload_n 0, 1) := by decide +kernel
theorem dX12_laySums_273 : decode cX12_laySums 273 = .ok (.getfield 92, 3) := by decide +kernel
theorem dX12_laySums_276 : decode cX12_laySums 276 = .ok (.iload 4, 2) := by decide +kernel
theorem dX12_laySums_278 : decode cX12_laySums 278 = .ok (.dup2, 1) := by decide +kernel
theorem dX12_laySums_279 : decode cX12_laySums 279 = .ok (.laload, 1) := by decide +kernel
theorem dX12_laySums_280 : decode cX12_laySums 280 = .ok (.iload 6, 2) := by decide +kernel
theorem dX12_laySums_282 : decode cX12_laySums 282 = .ok (.ifCond .eq 13, 3) := by decide +kernel
theorem dX12_laySums_285 : decode cX12_laySums 285 = .ok (.aload_n 0, 1) := by decide +kernel
theorem dX12_laySums_286 : decode cX12_laySums 286 = .ok (.getfield 76, 3) := by decide +kernel
theorem dX12_laySums_289 : decode cX12_laySums 289 = .ok (.iload_n 2, 1) := by decide +kernel
theorem dX12_laySums_290 : decode cX12_laySums 290 = .ok (.iaload, 1) := by decide +kernel
theorem dX12_laySums_291 : decode cX12_laySums 291 = .ok (.i2l, 1) := by decide +kernel
theorem dX12_laySums_292 : decode cX12_laySums 292 = .ok (.goto 6, 3) := by decide +kernel
theorem dX12_laySums_295 : decode cX12_laySums 295 = .ok (.iload 5, 2) := by decide +kernel
theorem dX12_laySums_297 : decode cX12_laySums 297 = .ok (.i2l, 1) := by decide +kernel
theorem dX12_laySums_298 : decode cX12_laySums 298 = .ok (.ladd, 1) := by decide +kernel
theorem dX12_laySums_299 : decode cX12_laySums 299 = .ok (.lastore, 1) := by decide +kernel
theorem dX12_laySums_300 : decode cX12_laySums 300 = .ok (.iinc 2 1, 3) := by decide +kernel
theorem dX12_laySums_303 : decode cX12_laySums 303 = .ok (.goto (-166), 3) := by decide +kernel
theorem dX12_laySums_306 : decode cX12_laySums 306 = .ok (.return_, 1) := by decide +kernel
theorem dX12_isPurse_0 : decode cX12_isPurse 0 = .ok (.iload_n 1, 1) := by decide +kernel
theorem dX12_isPurse_1 : decode cX12_isPurse 1 = .ok (.i2l, 1) := by decide +kernel
theorem dX12_isPurse_2 : decode cX12_isPurse 2 = .ok (.lconst 0, 1) := by decide +kernel
theorem dX12_isPurse_3 : decode cX12_isPurse 3 = .ok (.ldc2_w 126, 3) := by decide +kernel
theorem dX12_isPurse_6 : decode cX12_isPurse 6 = .ok (.invokestatic 118, 3) := by decide +kernel
theorem dX12_isPurse_9 : decode cX12_isPurse 9 = .ok (.ireturn, 1) := by decide +kernel
theorem dX12_purse_0 : decode cX12_purse 0 = .ok (.aload_n 0, 1) := by decide +kernel
theorem dX12_purse_1 : decode cX12_purse 1 = .ok (.iconst 0, 1) := by decide +kernel
theorem dX12_purse_2 : decode cX12_purse 2 = .ok (.putfield 107, 3) := by decide +kernel
theorem dX12_purse_5 : decode cX12_purse 5 = .ok (.aload_n 0, 1) := by decide +kernel
theorem dX12_purse_6 : decode cX12_purse 6 = .ok (.iload_n 1, 1) := by decide +kernel
theorem dX12_purse_7 : decode cX12_purse 7 = .ok (.invokevirtual 337, 3) := by decide +kernel
theorem dX12_purse_10 : decode cX12_purse 10 = .ok (.ifCond .eq 15, 3) := by decide +kernel
theorem dX12_purse_13 : decode cX12_purse 13 = .ok (.iload_n 2, 1) := by decide +kernel
theorem dX12_purse_14 : decode cX12_purse 14 = .ok (.i2l, 1) := by decide +kernel
theorem dX12_purse_15 : decode cX12_purse 15 = .ok (.lconst 0, 1) := by decide +kernel
theorem dX12_purse_16 : decode cX12_purse 16 = .ok (.ldc2_w 340, 3) := by decide +kernel
theorem dX12_purse_19 : decode cX12_purse 19 = .ok (.invokestatic 118, 3) := by decide +kernel
theorem dX12_purse_22 : decode cX12_purse 22 = .ok (.ifCond .ne 7, 3) := by decide +kernel
theorem dX12_purse_25 : decode cX12_purse 25 = .ok (.ldc2_w 128, 3) := by decide +kernel
theorem dX12_purse_28 : decode cX12_purse 28 = .ok (.lreturn, 1) := by decide +kernel
theorem dX12_purse_29 : decode cX12_purse 29 = .ok (.aload_n 0, 1) := by decide +kernel
theorem dX12_purse_30 : decode cX12_purse 30 = .ok (.invokevirtual 329, 3) := by decide +kernel
theorem dX12_purse_33 : decode cX12_purse 33 = .ok (.aload_n 0, 1) := by decide +kernel
theorem dX12_purse_34 : decode cX12_purse 34 = .ok (.invokevirtual 342, 3) := by decide +kernel
theorem dX12_purse_37 : decode cX12_purse 37 = .ok (.iconst 0, 1) := by decide +kernel
theorem dX12_purse_38 : decode cX12_purse 38 = .ok (.istore_n 3, 1) := by decide +kernel
theorem dX12_purse_39 : decode cX12_purse 39 = .ok (.iconst 0, 1) := by decide +kernel
theorem dX12_purse_40 : decode cX12_purse 40 = .ok (.istore 4, 2) := by decide +kernel
theorem dX12_purse_42 : decode cX12_purse 42 = .ok (.iload 4, 2) := by decide +kernel
theorem dX12_purse_44 : decode cX12_purse 44 = .ok (.aload_n 0, 1) := by decide +kernel
theorem dX12_purse_45 : decode cX12_purse 45 = .ok (.getfield 297, 3) := by decide +kernel
theorem dX12_purse_48 : decode cX12_purse 48 = .ok (.if_icmp .ge 28, 3) := by decide +kernel
theorem dX12_purse_51 : decode cX12_purse 51 = .ok (.iload_n 3, 1) := by decide +kernel
theorem dX12_purse_52 : decode cX12_purse 52 = .ok (.aload_n 0, 1) := by decide +kernel
theorem dX12_purse_53 : decode cX12_purse 53 = .ok (.getfield 37, 3) := by decide +kernel
theorem dX12_purse_56 : decode cX12_purse 56 = .ok (.iload 4, 2) := by decide +kernel
theorem dX12_purse_58 : decode cX12_purse 58 = .ok (.iaload, 1) := by decide +kernel
theorem dX12_purse_59 : decode cX12_purse 59 = .ok (.iload_n 1, 1) := by decide +kernel
theorem dX12_purse_60 : decode cX12_purse 60 = .ok (.if_icmp .ne 7, 3) := by decide +kernel
theorem dX12_purse_63 : decode cX12_purse 63 = .ok (.iconst 1, 1) := by decide +kernel
theorem dX12_purse_64 : decode cX12_purse 64 = .ok (.goto 4, 3) := by decide +kernel
theorem dX12_purse_67 : decode cX12_purse 67 = .ok (.iconst 0, 1) := by decide +kernel
theorem dX12_purse_68 : decode cX12_purse 68 = .ok (.iadd, 1) := by decide +kernel
theorem dX12_purse_69 : decode cX12_purse 69 = .ok (.istore_n 3, 1) := by decide +kernel
theorem dX12_purse_70 : decode cX12_purse 70 = .ok (.iinc 4 1, 3) := by decide +kernel
theorem dX12_purse_73 : decode cX12_purse 73 = .ok (.goto (-31), 3) := by decide +kernel
theorem dX12_purse_76 : decode cX12_purse 76 = .ok (.iload_n 2, 1) := by decide +kernel
theorem dX12_purse_77 : decode cX12_purse 77 = .ok (.ifCond .ne 12, 3) := by decide +kernel
theorem dX12_purse_80 : decode cX12_purse 80 = .ok (.aload_n 0, 1) := by decide +kernel
theorem dX12_purse_81 : decode cX12_purse 81 = .ok (.getfield 82, 3) := by decide +kernel
theorem dX12_purse_84 : decode cX12_purse 84 = .ok (.iload_n 1, 1) := by decide +kernel
theorem dX12_purse_85 : decode cX12_purse 85 = .ok (.laload, 1) := by decide +kernel
theorem dX12_purse_86 : decode cX12_purse 86 = .ok (.goto 34, 3) := by decide +kernel
theorem dX12_purse_89 : decode cX12_purse 89 = .ok (.iload_n 2, 1) := by decide +kernel
theorem dX12_purse_90 : decode cX12_purse 90 = .ok (.iconst 1, 1) := by decide +kernel
theorem dX12_purse_91 : decode cX12_purse 91 = .ok (.if_icmp .ne 12, 3) := by decide +kernel
theorem dX12_purse_94 : decode cX12_purse 94 = .ok (.aload_n 0, 1) := by decide +kernel
theorem dX12_purse_95 : decode cX12_purse 95 = .ok (.getfield 86, 3) := by decide +kernel
theorem dX12_purse_98 : decode cX12_purse 98 = .ok (.iload_n 1, 1) := by decide +kernel
theorem dX12_purse_99 : decode cX12_purse 99 = .ok (.laload, 1) := by decide +kernel
theorem dX12_purse_100 : decode cX12_purse 100 = .ok (.goto 20, 3) := by decide +kernel
theorem dX12_purse_103 : decode cX12_purse 103 = .ok (.iload_n 2, 1) := by decide +kernel
theorem dX12_purse_104 : decode cX12_purse 104 = .ok (.iconst 2, 1) := by decide +kernel
theorem dX12_purse_105 : decode cX12_purse 105 = .ok (.if_icmp .ne 13, 3) := by decide +kernel
theorem dX12_purse_108 : decode cX12_purse 108 = .ok (.aload_n 0, 1) := by decide +kernel
theorem dX12_purse_109 : decode cX12_purse 109 = .ok (.getfield 67, 3) := by decide +kernel
theorem dX12_purse_112 : decode cX12_purse 112 = .ok (.iload_n 1, 1) := by decide +kernel
theorem dX12_purse_113 : decode cX12_purse 113 = .ok (.iaload, 1) := by decide +kernel
theorem dX12_purse_114 : decode cX12_purse 114 = .ok (.i2l, 1) := by decide +kernel
theorem dX12_purse_115 : decode cX12_purse 115 = .ok (.goto 5, 3) := by decide +kernel
theorem dX12_purse_118 : decode cX12_purse 118 = .ok (.iload_n 3, 1) := by decide +kernel
theorem dX12_purse_119 : decode cX12_purse 119 = .ok (.i2l, 1) := by decide +kernel
theorem dX12_purse_120 : decode cX12_purse 120 = .ok (.lreturn, 1) := by decide +kernel
theorem dX12_fed_0 : decode cX12_fed 0 = .ok (.aload_n 0, 1) := by decide +kernel
theorem dX12_fed_1 : decode cX12_fed 1 = .ok (.iconst 0, 1) := by decide +kernel
theorem dX12_fed_2 : decode cX12_fed 2 = .ok (.putfield 107, 3) := by decide +kernel
theorem dX12_fed_5 : decode cX12_fed 5 = .ok (.aload_n 0, 1) := by decide +kernel
theorem dX12_fed_6 : decode cX12_fed 6 = .ok (.iload_n 1, 1) := by decide +kernel
theorem dX12_fed_7 : decode cX12_fed 7 = .ok (.invokevirtual 337, 3) := by decide +kernel
theorem dX12_fed_10 : decode cX12_fed 10 = .ok (.ifCond .eq 16, 3) := by decide +kernel
theorem dX12_fed_13 : decode cX12_fed 13 = .ok (.aload_n 0, 1) := by decide +kernel
theorem dX12_fed_14 : decode cX12_fed 14 = .ok (.iload_n 2, 1) := by decide +kernel
theorem dX12_fed_15 : decode cX12_fed 15 = .ok (.invokevirtual 337, 3) := by decide +kernel
theorem dX12_fed_18 : decode cX12_fed 18 = .ok (.ifCond .eq 8, 3) := by decide +kernel
theorem dX12_fed_21 : decode cX12_fed 21 = .ok (.iload_n 1, 1) := by decide +kernel
theorem dX12_fed_22 : decode cX12_fed 22 = .ok (.iload_n 2, 1) := by decide +kernel
theorem dX12_fed_23 : decode cX12_fed 23 = .ok (.if_icmp .ne 7, 3) := by decide +kernel
theorem dX12_fed_26 : decode cX12_fed 26 = .ok (.ldc2_w 128, 3) := by decide +kernel
theorem dX12_fed_29 : decode cX12_fed 29 = .ok (.lreturn, 1) := by decide +kernel
theorem dX12_fed_30 : decode cX12_fed 30 = .ok (.aload_n 0, 1) := by decide +kernel
theorem dX12_fed_31 : decode cX12_fed 31 = .ok (.invokevirtual 329, 3) := by decide +kernel
theorem dX12_fed_34 : decode cX12_fed 34 = .ok (.aload_n 0, 1) := by decide +kernel
theorem dX12_fed_35 : decode cX12_fed 35 = .ok (.invokevirtual 342, 3) := by decide +kernel
theorem dX12_fed_38 : decode cX12_fed 38 = .ok (.aload_n 0, 1) := by decide +kernel
theorem dX12_fed_39 : decode cX12_fed 39 = .ok (.getfield 89, 3) := by decide +kernel
theorem dX12_fed_42 : decode cX12_fed 42 = .ok (.iconst 3, 1) := by decide +kernel
theorem dX12_fed_43 : decode cX12_fed 43 = .ok (.iload_n 1, 1) := by decide +kernel
theorem dX12_fed_44 : decode cX12_fed 44 = .ok (.imul, 1) := by decide +kernel
theorem dX12_fed_45 : decode cX12_fed 45 = .ok (.iload_n 2, 1) := by decide +kernel
theorem dX12_fed_46 : decode cX12_fed 46 = .ok (.iadd, 1) := by decide +kernel
theorem dX12_fed_47 : decode cX12_fed 47 = .ok (.laload, 1) := by decide +kernel
theorem dX12_fed_48 : decode cX12_fed 48 = .ok (.lreturn, 1) := by decide +kernel
theorem dX12_minor_0 : decode cX12_minor 0 = .ok (.aload_n 0, 1) := by decide +kernel
theorem dX12_minor_1 : decode cX12_minor 1 = .ok (.getfield 101, 3) := by decide +kernel
theorem dX12_minor_4 : decode cX12_minor 4 = .ok (.iconst 3, 1) := by decide +kernel
theorem dX12_minor_5 : decode cX12_minor 5 = .ok (.iload_n 1, 1) := by decide +kernel
theorem dX12_minor_6 : decode cX12_minor 6 = .ok (.imul, 1) := by decide +kernel
theorem dX12_minor_7 : decode cX12_minor 7 = .ok (.iload_n 3, 1) := by decide +kernel
theorem dX12_minor_8 : decode cX12_minor 8 = .ok (.iadd, 1) := by decide +kernel
theorem dX12_minor_9 : decode cX12_minor 9 = .ok (.laload, 1) := by decide +kernel
theorem dX12_minor_10 : decode cX12_minor 10 = .ok (.aload_n 0, 1) := by decide +kernel
theorem dX12_minor_11 : decode cX12_minor 11 = .ok (.getfield 101, 3) := by decide +kernel
theorem dX12_minor_14 : decode cX12_minor 14 = .ok (.iconst 3, 1) := by decide +kernel
theorem dX12_minor_15 : decode cX12_minor 15 = .ok (.iload_n 2, 1) := by decide +kernel
theorem dX12_minor_16 : decode cX12_minor 16 = .ok (.imul, 1) := by decide +kernel
theorem dX12_minor_17 : decode cX12_minor 17 = .ok (.iload 4, 2) := by decide +kernel
theorem dX12_minor_19 : decode cX12_minor 19 = .ok (.iadd, 1) := by decide +kernel
theorem dX12_minor_20 : decode cX12_minor 20 = .ok (.laload, 1) := by decide +kernel
theorem dX12_minor_21 : decode cX12_minor 21 = .ok (.lmul, 1) := by decide +kernel
theorem dX12_minor_22 : decode cX12_minor 22 = .ok (.aload_n 0, 1) := by decide +kernel
theorem dX12_minor_23 : decode cX12_minor 23 = .ok (.getfield 101, 3) := by decide +kernel
theorem dX12_minor_26 : decode cX12_minor 26 = .ok (.iconst 3, 1) := by decide +kernel
theorem dX12_minor_27 : decode cX12_minor 27 = .ok (.iload_n 1, 1) := by decide +kernel
theorem dX12_minor_28 : decode cX12_minor 28 = .ok (.imul, 1) := by decide +kernel
theorem dX12_minor_29 : decode cX12_minor 29 = .ok (.iload 4, 2) := by decide +kernel
theorem dX12_minor_31 : decode cX12_minor 31 = .ok (.iadd, 1) := by decide +kernel
theorem dX12_minor_32 : decode cX12_minor 32 = .ok (.laload, 1) := by decide +kernel
theorem dX12_minor_33 : decode cX12_minor 33 = .ok (.aload_n 0, 1) := by decide +kernel
theorem dX12_minor_34 : decode cX12_minor 34 = .ok (.getfield 101, 3) := by decide +kernel
theorem dX12_minor_37 : decode cX12_minor 37 = .ok (.iconst 3, 1) := by decide +kernel
theorem dX12_minor_38 : decode cX12_minor 38 = .ok (.iload_n 2, 1) := by decide +kernel
theorem dX12_minor_39 : decode cX12_minor 39 = .ok (.imul, 1) := by decide +kernel
theorem dX12_minor_40 : decode cX12_minor 40 = .ok (.iload_n 3, 1) := by decide +kernel
theorem dX12_minor_41 : decode cX12_minor 41 = .ok (.iadd, 1) := by decide +kernel
theorem dX12_minor_42 : decode cX12_minor 42 = .ok (.laload, 1) := by decide +kernel
theorem dX12_minor_43 : decode cX12_minor 43 = .ok (.lmul, 1) := by decide +kernel
theorem dX12_minor_44 : decode cX12_minor 44 = .ok (.lsub, 1) := by decide +kernel
theorem dX12_minor_45 : decode cX12_minor 45 = .ok (.lreturn, 1) := by decide +kernel
theorem dX12_determinant_0 : decode cX12_determinant 0 = .ok (.aload_n 0, 1) := by decide +kernel
theorem dX12_determinant_1 : decode cX12_determinant 1 = .ok (.getfield 101, 3) := by decide +kernel
theorem dX12_determinant_4 : decode cX12_determinant 4 = .ok (.iconst 0, 1) := by decide +kernel
theorem dX12_determinant_5 : decode cX12_determinant 5 = .ok (.laload, 1) := by decide +kernel
theorem dX12_determinant_6 : decode cX12_determinant 6 = .ok (.aload_n 0, 1) := by decide +kernel
theorem dX12_determinant_7 : decode cX12_determinant 7 = .ok (.iconst 1, 1) := by decide +kernel
theorem dX12_determinant_8 : decode cX12_determinant 8 = .ok (.iconst 2, 1) := by decide +kernel
theorem dX12_determinant_9 : decode cX12_determinant 9 = .ok (.iconst 1, 1) := by decide +kernel
theorem dX12_determinant_10 : decode cX12_determinant 10 = .ok (.iconst 2, 1) := by decide +kernel
theorem dX12_determinant_11 : decode cX12_determinant 11 = .ok (.invokevirtual 345, 3) := by decide +kernel
theorem dX12_determinant_14 : decode cX12_determinant 14 = .ok (.lmul, 1) := by decide +kernel
theorem dX12_determinant_15 : decode cX12_determinant 15 = .ok (.aload_n 0, 1) := by decide +kernel
theorem dX12_determinant_16 : decode cX12_determinant 16 = .ok (.getfield 101, 3) := by decide +kernel
theorem dX12_determinant_19 : decode cX12_determinant 19 = .ok (.iconst 1, 1) := by decide +kernel
theorem dX12_determinant_20 : decode cX12_determinant 20 = .ok (.laload, 1) := by decide +kernel
theorem dX12_determinant_21 : decode cX12_determinant 21 = .ok (.aload_n 0, 1) := by decide +kernel
theorem dX12_determinant_22 : decode cX12_determinant 22 = .ok (.iconst 1, 1) := by decide +kernel
theorem dX12_determinant_23 : decode cX12_determinant 23 = .ok (.iconst 2, 1) := by decide +kernel
theorem dX12_determinant_24 : decode cX12_determinant 24 = .ok (.iconst 0, 1) := by decide +kernel
theorem dX12_determinant_25 : decode cX12_determinant 25 = .ok (.iconst 2, 1) := by decide +kernel
theorem dX12_determinant_26 : decode cX12_determinant 26 = .ok (.invokevirtual 345, 3) := by decide +kernel
theorem dX12_determinant_29 : decode cX12_determinant 29 = .ok (.lmul, 1) := by decide +kernel
theorem dX12_determinant_30 : decode cX12_determinant 30 = .ok (.lsub, 1) := by decide +kernel
theorem dX12_determinant_31 : decode cX12_determinant 31 = .ok (.aload_n 0, 1) := by decide +kernel
theorem dX12_determinant_32 : decode cX12_determinant 32 = .ok (.getfield 101, 3) := by decide +kernel
theorem dX12_determinant_35 : decode cX12_determinant 35 = .ok (.iconst 2, 1) := by decide +kernel
theorem dX12_determinant_36 : decode cX12_determinant 36 = .ok (.laload, 1) := by decide +kernel
theorem dX12_determinant_37 : decode cX12_determinant 37 = .ok (.aload_n 0, 1) := by decide +kernel
theorem dX12_determinant_38 : decode cX12_determinant 38 = .ok (.iconst 1, 1) := by decide +kernel
theorem dX12_determinant_39 : decode cX12_determinant 39 = .ok (.iconst 2, 1) := by decide +kernel
theorem dX12_determinant_40 : decode cX12_determinant 40 = .ok (.iconst 0, 1) := by decide +kernel
theorem dX12_determinant_41 : decode cX12_determinant 41 = .ok (.iconst 1, 1) := by decide +kernel
theorem dX12_determinant_42 : decode cX12_determinant 42 = .ok (.invokevirtual 345, 3) := by decide +kernel
theorem dX12_determinant_45 : decode cX12_determinant 45 = .ok (.lmul, 1) := by decide +kernel
theorem dX12_determinant_46 : decode cX12_determinant 46 = .ok (.ladd, 1) := by decide +kernel
theorem dX12_determinant_47 : decode cX12_determinant 47 = .ok (.lreturn, 1) := by decide +kernel
theorem dX12_laySides_0 : decode cX12_laySides 0 = .ok (.iconst 0, 1) := by decide +kernel
theorem dX12_laySides_1 : decode cX12_laySides 1 = .ok (.istore_n 1, 1) := by decide +kernel
theorem dX12_laySides_2 : decode cX12_laySides 2 = .ok (.iload_n 1, 1) := by decide +kernel
theorem dX12_laySides_3 : decode cX12_laySides 3 = .ok (.iconst 3, 1) := by decide +kernel
theorem dX12_laySides_4 : decode cX12_laySides 4 = .ok (.if_icmp .ge 72, 3) := by decide +kernel
theorem dX12_laySides_7 : decode cX12_laySides 7 = .ok (.iconst 0, 1) := by decide +kernel
theorem dX12_laySides_8 : decode cX12_laySides 8 = .ok (.istore_n 2, 1) := by decide +kernel
theorem dX12_laySides_9 : decode cX12_laySides 9 = .ok (.iload_n 2, 1) := by decide +kernel
theorem dX12_laySides_10 : decode cX12_laySides 10 = .ok (.iconst 3, 1) := by decide +kernel
theorem dX12_laySides_11 : decode cX12_laySides 11 = .ok (.if_icmp .ge 59, 3) := by decide +kernel
theorem dX12_laySides_14 : decode cX12_laySides 14 = .ok (.aload_n 0, 1) := by decide +kernel
theorem dX12_laySides_15 : decode cX12_laySides 15 = .ok (.getfield 101, 3) := by decide +kernel
theorem dX12_laySides_18 : decode cX12_laySides 18 = .ok (.iconst 3, 1) := by decide +kernel
theorem dX12_laySides_19 : decode cX12_laySides 19 = .ok (.iload_n 1, 1) := by decide +kernel
theorem dX12_laySides_20 : decode cX12_laySides 20 = .ok (.imul, 1) := by decide +kernel
theorem dX12_laySides_21 : decode cX12_laySides 21 = .ok (.iload_n 2, 1) := by decide +kernel
theorem dX12_laySides_22 : decode cX12_laySides 22 = .ok (.iadd, 1) := by decide +kernel
theorem dX12_laySides_23 : decode cX12_laySides 23 = .ok (.iload_n 1, 1) := by decide +kernel
theorem dX12_laySides_24 : decode cX12_laySides 24 = .ok (.iload_n 2, 1) := by decide +kernel
theorem dX12_laySides_25 : decode cX12_laySides 25 = .ok (.if_icmp .ne 27, 3) := by decide +kernel
theorem dX12_laySides_28 : decode cX12_laySides 28 = .ok (.aload_n 0, 1) := by decide +kernel
theorem dX12_laySides_29 : decode cX12_laySides 29 = .ok (.getfield 86, 3) := by decide +kernel
theorem dX12_laySides_32 : decode cX12_laySides 32 = .ok (.iload_n 1, 1) := by decide +kernel
theorem dX12_laySides_33 : decode cX12_laySides 33 = .ok (.laload, 1) := by decide +kernel
theorem dX12_laySides_34 : decode cX12_laySides 34 = .ok (.lconst 0, 1) := by decide +kernel
theorem dX12_laySides_35 : decode cX12_laySides 35 = .ok (.lcmp, 1) := by decide +kernel
theorem dX12_laySides_36 : decode cX12_laySides 36 = .ok (.ifCond .ne 7, 3) := by decide +kernel
theorem dX12_laySides_39 : decode cX12_laySides 39 = .ok (.lconst 1, 1) := by decide +kernel
theorem dX12_laySides_40 : decode cX12_laySides 40 = .ok (.goto 23, 3) := by decide +kernel
theorem dX12_laySides_43 : decode cX12_laySides 43 = .ok (.aload_n 0, 1) := by decide +kernel
theorem dX12_laySides_44 : decode cX12_laySides 44 = .ok (.getfield 86, 3) := by decide +kernel
theorem dX12_laySides_47 : decode cX12_laySides 47 = .ok (.iload_n 1, 1) := by decide +kernel
theorem dX12_laySides_48 : decode cX12_laySides 48 = .ok (.laload, 1) := by decide +kernel
theorem dX12_laySides_49 : decode cX12_laySides 49 = .ok (.goto 14, 3) := by decide +kernel
theorem dX12_laySides_52 : decode cX12_laySides 52 = .ok (.aload_n 0, 1) := by decide +kernel
theorem dX12_laySides_53 : decode cX12_laySides 53 = .ok (.getfield 89, 3) := by decide +kernel
theorem dX12_laySides_56 : decode cX12_laySides 56 = .ok (.iconst 3, 1) := by decide +kernel
theorem dX12_laySides_57 : decode cX12_laySides 57 = .ok (.iload_n 1, 1) := by decide +kernel
theorem dX12_laySides_58 : decode cX12_laySides 58 = .ok (.imul, 1) := by decide +kernel
theorem dX12_laySides_59 : decode cX12_laySides 59 = .ok (.iload_n 2, 1) := by decide +kernel
theorem dX12_laySides_60 : decode cX12_laySides 60 = .ok (.iadd, 1) := by decide +kernel
theorem dX12_laySides_61 : decode cX12_laySides 61 = .ok (.laload, 1) := by decide +kernel
theorem dX12_laySides_62 : decode cX12_laySides 62 = .ok (.lneg, 1) := by decide +kernel
theorem dX12_laySides_63 : decode cX12_laySides 63 = .ok (.lastore, 1) := by decide +kernel
theorem dX12_laySides_64 : decode cX12_laySides 64 = .ok (.iinc 2 1, 3) := by decide +kernel
theorem dX12_laySides_67 : decode cX12_laySides 67 = .ok (.goto (-58), 3) := by decide +kernel
theorem dX12_laySides_70 : decode cX12_laySides 70 = .ok (.iinc 1 1, 3) := by decide +kernel
theorem dX12_laySides_73 : decode cX12_laySides 73 = .ok (.goto (-71), 3) := by decide +kernel
theorem dX12_laySides_76 : decode cX12_laySides 76 = .ok (.iconst 0, 1) := by decide +kernel
theorem dX12_laySides_77 : decode cX12_laySides 77 = .ok (.istore_n 1, 1) := by decide +kernel
theorem dX12_laySides_78 : decode cX12_laySides 78 = .ok (.iload_n 1, 1) := by decide +kernel
theorem dX12_laySides_79 : decode cX12_laySides 79 = .ok (.iconst 3, 1) := by decide +kernel
theorem dX12_laySides_80 : decode cX12_laySides 80 = .ok (.if_icmp .ge 52, 3) := by decide +kernel
theorem dX12_laySides_83 : decode cX12_laySides 83 = .ok (.iconst 0, 1) := by decide +kernel
theorem dX12_laySides_84 : decode cX12_laySides 84 = .ok (.istore_n 2, 1) := by decide +kernel
theorem dX12_laySides_85 : decode cX12_laySides 85 = .ok (.iload_n 2, 1) := by decide +kernel
theorem dX12_laySides_86 : decode cX12_laySides 86 = .ok (.iconst 3, 1) := by decide +kernel
theorem dX12_laySides_87 : decode cX12_laySides 87 = .ok (.if_icmp .ge 39, 3) := by decide +kernel
theorem dX12_laySides_90 : decode cX12_laySides 90 = .ok (.aload_n 0, 1) := by decide +kernel
theorem dX12_laySides_91 : decode cX12_laySides 91 = .ok (.getfield 101, 3) := by decide +kernel
theorem dX12_laySides_94 : decode cX12_laySides 94 = .ok (.iconst 4, 1) := by decide +kernel
theorem dX12_laySides_95 : decode cX12_laySides 95 = .ok (.iload_n 1, 1) := by decide +kernel
theorem dX12_laySides_96 : decode cX12_laySides 96 = .ok (.imul, 1) := by decide +kernel
theorem dX12_laySides_97 : decode cX12_laySides 97 = .ok (.dup2, 1) := by decide +kernel
theorem dX12_laySides_98 : decode cX12_laySides 98 = .ok (.laload, 1) := by decide +kernel
theorem dX12_laySides_99 : decode cX12_laySides 99 = .ok (.iload_n 1, 1) := by decide +kernel
theorem dX12_laySides_100 : decode cX12_laySides 100 = .ok (.iload_n 2, 1) := by decide +kernel
theorem dX12_laySides_101 : decode cX12_laySides 101 = .ok (.if_icmp .ne 7, 3) := by decide +kernel
theorem dX12_laySides_104 : decode cX12_laySides 104 = .ok (.lconst 0, 1) := by decide +kernel
theorem dX12_laySides_105 : decode cX12_laySides 105 = .ok (.goto 13, 3) := by decide +kernel
theorem dX12_laySides_108 : decode cX12_laySides 108 = .ok (.aload_n 0, 1) := by decide +kernel
theorem dX12_laySides_109 : decode cX12_laySides 109 = .ok (.getfield 89, 3) := by decide +kernel
theorem dX12_laySides_112 : decode cX12_laySides 112 = .ok (.iconst 3, 1) := by decide +kernel
theorem dX12_laySides_113 : decode cX12_laySides 113 = .ok (.iload_n 2, 1) := by decide +kernel
theorem dX12_laySides_114 : decode cX12_laySides 114 = .ok (.imul, 1) := by decide +kernel
theorem dX12_laySides_115 : decode cX12_laySides 115 = .ok (.iload_n 1, 1) := by decide +kernel
theorem dX12_laySides_116 : decode cX12_laySides 116 = .ok (.iadd, 1) := by decide +kernel
theorem dX12_laySides_117 : decode cX12_laySides 117 = .ok (.laload, 1) := by decide +kernel
theorem dX12_laySides_118 : decode cX12_laySides 118 = .ok (.ladd, 1) := by decide +kernel
theorem dX12_laySides_119 : decode cX12_laySides 119 = .ok (.lastore, 1) := by decide +kernel
theorem dX12_laySides_120 : decode cX12_laySides 120 = .ok (.iinc 2 1, 3) := by decide +kernel
theorem dX12_laySides_123 : decode cX12_laySides 123 = .ok (.goto (-38), 3) := by decide +kernel
theorem dX12_laySides_126 : decode cX12_laySides 126 = .ok (.iinc 1 1, 3) := by decide +kernel
theorem dX12_laySides_129 : decode cX12_laySides 129 = .ok (.goto (-51), 3) := by decide +kernel
theorem dX12_laySides_132 : decode cX12_laySides 132 = .ok (.return_, 1) := by decide +kernel
theorem dX12_layNets_0 : decode cX12_layNets 0 = .ok (.aload_n 0, 1) := by decide +kernel
theorem dX12_layNets_1 : decode cX12_layNets 1 = .ok (.invokevirtual 342, 3) := by decide +kernel
theorem dX12_layNets_4 : decode cX12_layNets 4 = .ok (.aload_n 0, 1) := by decide +kernel
theorem dX12_layNets_5 : decode cX12_layNets 5 = .ok (.getfield 19, 3) := by decide +kernel
theorem dX12_layNets_8 : decode cX12_layNets 8 = .ok (.bipush 8, 2) := by decide +kernel
theorem dX12_layNets_10 : decode cX12_layNets 10 = .ok (.aload_n 0, 1) := by decide +kernel
theorem dX12_layNets_11 : decode cX12_layNets 11 = .ok (.getfield 288, 3) := by decide +kernel
theorem dX12_layNets_14 : decode cX12_layNets 14 = .ok (.imul, 1) := by decide +kernel
theorem dX12_layNets_15 : decode cX12_layNets 15 = .ok (.iconst 5, 1) := by decide +kernel
theorem dX12_layNets_16 : decode cX12_layNets 16 = .ok (.iadd, 1) := by decide +kernel
theorem dX12_layNets_17 : decode cX12_layNets 17 = .ok (.iaload, 1) := by decide +kernel
theorem dX12_layNets_18 : decode cX12_layNets 18 = .ok (.iconst 1, 1) := by decide +kernel
theorem dX12_layNets_19 : decode cX12_layNets 19 = .ok (.if_icmp .eq 86, 3) := by decide +kernel
theorem dX12_layNets_22 : decode cX12_layNets 22 = .ok (.aload_n 0, 1) := by decide +kernel
theorem dX12_layNets_23 : decode cX12_layNets 23 = .ok (.lconst 1, 1) := by decide +kernel
theorem dX12_layNets_24 : decode cX12_layNets 24 = .ok (.putfield 349, 3) := by decide +kernel
theorem dX12_layNets_27 : decode cX12_layNets 27 = .ok (.iconst 0, 1) := by decide +kernel
theorem dX12_layNets_28 : decode cX12_layNets 28 = .ok (.istore_n 1, 1) := by decide +kernel
theorem dX12_layNets_29 : decode cX12_layNets 29 = .ok (.iload_n 1, 1) := by decide +kernel
theorem dX12_layNets_30 : decode cX12_layNets 30 = .ok (.iconst 3, 1) := by decide +kernel
theorem dX12_layNets_31 : decode cX12_layNets 31 = .ok (.if_icmp .ge 73, 3) := by decide +kernel
theorem dX12_layNets_34 : decode cX12_layNets 34 = .ok (.aload_n 0, 1) := by decide +kernel
theorem dX12_layNets_35 : decode cX12_layNets 35 = .ok (.getfield 95, 3) := by decide +kernel
theorem dX12_layNets_38 : decode cX12_layNets 38 = .ok (.iload_n 1, 1) := by decide +kernel
theorem dX12_layNets_39 : decode cX12_layNets 39 = .ok (.aload_n 0, 1) := by decide +kernel
theorem dX12_layNets_40 : decode cX12_layNets 40 = .ok (.getfield 82, 3) := by decide +kernel
theorem dX12_layNets_43 : decode cX12_layNets 43 = .ok (.iload_n 1, 1) := by decide +kernel
theorem dX12_layNets_44 : decode cX12_layNets 44 = .ok (.laload, 1) := by decide +kernel
theorem dX12_layNets_45 : decode cX12_layNets 45 = .ok (.lastore, 1) := by decide +kernel
theorem dX12_layNets_46 : decode cX12_layNets 46 = .ok (.iconst 0, 1) := by decide +kernel
theorem dX12_layNets_47 : decode cX12_layNets 47 = .ok (.istore_n 2, 1) := by decide +kernel
theorem dX12_layNets_48 : decode cX12_layNets 48 = .ok (.iload_n 2, 1) := by decide +kernel
theorem dX12_layNets_49 : decode cX12_layNets 49 = .ok (.iconst 3, 1) := by decide +kernel
theorem dX12_layNets_50 : decode cX12_layNets 50 = .ok (.if_icmp .ge 48, 3) := by decide +kernel
theorem dX12_layNets_53 : decode cX12_layNets 53 = .ok (.aload_n 0, 1) := by decide +kernel
theorem dX12_layNets_54 : decode cX12_layNets 54 = .ok (.getfield 95, 3) := by decide +kernel
theorem dX12_layNets_57 : decode cX12_layNets 57 = .ok (.iload_n 1, 1) := by decide +kernel
theorem dX12_layNets_58 : decode cX12_layNets 58 = .ok (.dup2, 1) := by decide +kernel
theorem dX12_layNets_59 : decode cX12_layNets 59 = .ok (.laload, 1) := by decide +kernel
theorem dX12_layNets_60 : decode cX12_layNets 60 = .ok (.iload_n 1, 1) := by decide +kernel
theorem dX12_layNets_61 : decode cX12_layNets 61 = .ok (.iload_n 2, 1) := by decide +kernel
theorem dX12_layNets_62 : decode cX12_layNets 62 = .ok (.if_icmp .ne 7, 3) := by decide +kernel
theorem dX12_layNets_65 : decode cX12_layNets 65 = .ok (.lconst 0, 1) := by decide +kernel
theorem dX12_layNets_66 : decode cX12_layNets 66 = .ok (.goto 24, 3) := by decide +kernel
theorem dX12_layNets_69 : decode cX12_layNets 69 = .ok (.aload_n 0, 1) := by decide +kernel
theorem dX12_layNets_70 : decode cX12_layNets 70 = .ok (.getfield 92, 3) := by decide +kernel
theorem dX12_layNets_73 : decode cX12_layNets 73 = .ok (.iconst 3, 1) := by decide +kernel
theorem dX12_layNets_74 : decode cX12_layNets 74 = .ok (.iload_n 1, 1) := by decide +kernel
theorem dX12_layNets_75 : decode cX12_layNets 75 = .ok (.imul, 1) := by decide +kernel
theorem dX12_layNets_76 : decode cX12_layNets 76 = .ok (.iload_n 2, 1) := by decide +kernel
theorem dX12_layNets_77 : decode cX12_layNets 77 = .ok (.iadd, 1) := by decide +kernel
theorem dX12_layNets_78 : decode cX12_layNets 78 = .ok (.laload, 1) := by decide +kernel
theorem dX12_layNets_79 : decode cX12_layNets 79 = .ok (.aload_n 0, 1) := by decide +kernel
theorem dX12_layNets_80 : decode cX12_layNets 80 = .ok (.getfield 92, 3) := by decide +kernel
theorem dX12_layNets_83 : decode cX12_layNets 83 = .ok (.iconst 3, 1) := by decide +kernel
theorem dX12_layNets_84 : decode cX12_layNets 84 = .ok (.iload_n 2, 1) := by decide +kernel
theorem dX12_layNets_85 : decode cX12_layNets 85 = .ok (.imul, 1) := by decide +kernel
theorem dX12_layNets_86 : decode cX12_layNets 86 = .ok (.iload_n 1, 1) := by decide +kernel
theorem dX12_layNets_87 : decode cX12_layNets 87 = .ok (.iadd, 1) := by decide +kernel
theorem dX12_layNets_88 : decode cX12_layNets 88 = .ok (.laload, 1) := by decide +kernel
theorem dX12_layNets_89 : decode cX12_layNets 89 = .ok (.lsub, 1) := by decide +kernel
theorem dX12_layNets_90 : decode cX12_layNets 90 = .ok (.ladd, 1) := by decide +kernel
theorem dX12_layNets_91 : decode cX12_layNets 91 = .ok (.lastore, 1) := by decide +kernel
theorem dX12_layNets_92 : decode cX12_layNets 92 = .ok (.iinc 2 1, 3) := by decide +kernel
theorem dX12_layNets_95 : decode cX12_layNets 95 = .ok (.goto (-47), 3) := by decide +kernel
theorem dX12_layNets_98 : decode cX12_layNets 98 = .ok (.iinc 1 1, 3) := by decide +kernel
theorem dX12_layNets_101 : decode cX12_layNets 101 = .ok (.goto (-72), 3) := by decide +kernel
theorem dX12_layNets_104 : decode cX12_layNets 104 = .ok (.return_, 1) := by decide +kernel
theorem dX12_layNets_105 : decode cX12_layNets 105 = .ok (.aload_n 0, 1) := by decide +kernel
theorem dX12_layNets_106 : decode cX12_layNets 106 = .ok (.invokevirtual 353, 3) := by decide +kernel
theorem dX12_layNets_109 : decode cX12_layNets 109 = .ok (.aload_n 0, 1) := by decide +kernel
theorem dX12_layNets_110 : decode cX12_layNets 110 = .ok (.aload_n 0, 1) := by decide +kernel
theorem dX12_layNets_111 : decode cX12_layNets 111 = .ok (.invokevirtual 356, 3) := by decide +kernel
theorem dX12_layNets_114 : decode cX12_layNets 114 = .ok (.putfield 349, 3) := by decide +kernel
theorem dX12_layNets_117 : decode cX12_layNets 117 = .ok (.iconst 0, 1) := by decide +kernel
theorem dX12_layNets_118 : decode cX12_layNets 118 = .ok (.istore_n 1, 1) := by decide +kernel
theorem dX12_layNets_119 : decode cX12_layNets 119 = .ok (.iload_n 1, 1) := by decide +kernel
theorem dX12_layNets_120 : decode cX12_layNets 120 = .ok (.iconst 3, 1) := by decide +kernel
theorem dX12_layNets_121 : decode cX12_layNets 121 = .ok (.if_icmp .ge 86, 3) := by decide +kernel
theorem dX12_layNets_124 : decode cX12_layNets 124 = .ok (.aload_n 0, 1) := by decide +kernel
theorem dX12_layNets_125 : decode cX12_layNets 125 = .ok (.invokevirtual 353, 3) := by decide +kernel
theorem dX12_layNets_128 : decode cX12_layNets 128 = .ok (.iconst 0, 1) := by decide +kernel
theorem dX12_layNets_129 : decode cX12_layNets 129 = .ok (.istore_n 2, 1) := by decide +kernel
theorem dX12_layNets_130 : decode cX12_layNets 130 = .ok (.iload_n 2, 1) := by decide +kernel
theorem dX12_layNets_131 : decode cX12_layNets 131 = .ok (.iconst 3, 1) := by decide +kernel
theorem dX12_layNets_132 : decode cX12_layNets 132 = .ok (.if_icmp .ge 25, 3) := by decide +kernel
theorem dX12_layNets_135 : decode cX12_layNets 135 = .ok (.aload_n 0, 1) := by decide +kernel
theorem dX12_layNets_136 : decode cX12_layNets 136 = .ok (.getfield 101, 3) := by decide +kernel
theorem dX12_layNets_139 : decode cX12_layNets 139 = .ok (.iconst 3, 1) := by decide +kernel
theorem dX12_layNets_140 : decode cX12_layNets 140 = .ok (.iload_n 2, 1) := by decide +kernel
theorem dX12_layNets_141 : decode cX12_layNets 141 = .ok (.imul, 1) := by decide +kernel
theorem dX12_layNets_142 : decode cX12_layNets 142 = .ok (.iload_n 1, 1) := by decide +kernel
theorem dX12_layNets_143 : decode cX12_layNets 143 = .ok (.iadd, 1) := by decide +kernel
theorem dX12_layNets_144 : decode cX12_layNets 144 = .ok (.aload_n 0, 1) := by decide +kernel
theorem dX12_layNets_145 : decode cX12_layNets 145 = .ok (.getfield 82, 3) := by decide +kernel
theorem dX12_layNets_148 : decode cX12_layNets 148 = .ok (.iload_n 2, 1) := by decide +kernel
theorem dX12_layNets_149 : decode cX12_layNets 149 = .ok (.laload, 1) := by decide +kernel
theorem dX12_layNets_150 : decode cX12_layNets 150 = .ok (.lastore, 1) := by decide +kernel
theorem dX12_layNets_151 : decode cX12_layNets 151 = .ok (.iinc 2 1, 3) := by decide +kernel
theorem dX12_layNets_154 : decode cX12_layNets 154 = .ok (.goto (-24), 3) := by decide +kernel
theorem dX12_layNets_157 : decode cX12_layNets 157 = .ok (.aload_n 0, 1) := by decide +kernel
theorem dX12_layNets_158 : decode cX12_layNets 158 = .ok (.getfield 98, 3) := by decide +kernel
theorem dX12_layNets_161 : decode cX12_layNets 161 = .ok (.iload_n 1, 1) := by decide +kernel
theorem dX12_layNets_162 : decode cX12_layNets 162 = .ok (.aload_n 0, 1) := by decide +kernel
theorem dX12_layNets_163 : decode cX12_layNets 163 = .ok (.invokevirtual 356, 3) := by decide +kernel
theorem dX12_layNets_166 : decode cX12_layNets 166 = .ok (.lastore, 1) := by decide +kernel
theorem dX12_layNets_167 : decode cX12_layNets 167 = .ok (.aload_n 0, 1) := by decide +kernel
theorem dX12_layNets_168 : decode cX12_layNets 168 = .ok (.getfield 95, 3) := by decide +kernel
theorem dX12_layNets_171 : decode cX12_layNets 171 = .ok (.iload_n 1, 1) := by decide +kernel
theorem dX12_layNets_172 : decode cX12_layNets 172 = .ok (.aload_n 0, 1) := by decide +kernel
theorem dX12_layNets_173 : decode cX12_layNets 173 = .ok (.getfield 86, 3) := by decide +kernel
theorem dX12_layNets_176 : decode cX12_layNets 176 = .ok (.iload_n 1, 1) := by decide +kernel
theorem dX12_layNets_177 : decode cX12_layNets 177 = .ok (.laload, 1) := by decide +kernel
theorem dX12_layNets_178 : decode cX12_layNets 178 = .ok (.lconst 0, 1) := by decide +kernel
theorem dX12_layNets_179 : decode cX12_layNets 179 = .ok (.lcmp, 1) := by decide +kernel
theorem dX12_layNets_180 : decode cX12_layNets 180 = .ok (.ifCond .ne 7, 3) := by decide +kernel
theorem dX12_layNets_183 : decode cX12_layNets 183 = .ok (.lconst 1, 1) := by decide +kernel
theorem dX12_layNets_184 : decode cX12_layNets 184 = .ok (.goto 9, 3) := by decide +kernel
theorem dX12_layNets_187 : decode cX12_layNets 187 = .ok (.aload_n 0, 1) := by decide +kernel
theorem dX12_layNets_188 : decode cX12_layNets 188 = .ok (.getfield 86, 3) := by decide +kernel
theorem dX12_layNets_191 : decode cX12_layNets 191 = .ok (.iload_n 1, 1) := by decide +kernel
theorem dX12_layNets_192 : decode cX12_layNets 192 = .ok (.laload, 1) := by decide +kernel
theorem dX12_layNets_193 : decode cX12_layNets 193 = .ok (.aload_n 0, 1) := by decide +kernel
theorem dX12_layNets_194 : decode cX12_layNets 194 = .ok (.getfield 98, 3) := by decide +kernel
theorem dX12_layNets_197 : decode cX12_layNets 197 = .ok (.iload_n 1, 1) := by decide +kernel
theorem dX12_layNets_198 : decode cX12_layNets 198 = .ok (.laload, 1) := by decide +kernel
theorem dX12_layNets_199 : decode cX12_layNets 199 = .ok (.lmul, 1) := by decide +kernel
theorem dX12_layNets_200 : decode cX12_layNets 200 = .ok (.lastore, 1) := by decide +kernel
theorem dX12_layNets_201 : decode cX12_layNets 201 = .ok (.iinc 1 1, 3) := by decide +kernel
theorem dX12_layNets_204 : decode cX12_layNets 204 = .ok (.goto (-85), 3) := by decide +kernel
theorem dX12_layNets_207 : decode cX12_layNets 207 = .ok (.return_, 1) := by decide +kernel
theorem dX12_partOf_0 : decode cX12_partOf 0 = .ok (.lload_n 0, 1) := by decide +kernel
theorem dX12_partOf_1 : decode cX12_partOf 1 = .ok (.lconst 0, 1) := by decide +kernel
theorem dX12_partOf_2 : decode cX12_partOf 2 = .ok (.lcmp, 1) := by decide +kernel
theorem dX12_partOf_3 : decode cX12_partOf 3 = .ok (.ifCond .ge 8, 3) := by decide +kernel
theorem dX12_partOf_6 : decode cX12_partOf 6 = .ok (.lload_n 0, 1) := by decide +kernel
theorem dX12_partOf_7 : decode cX12_partOf 7 = .ok (.lneg, 1) := by decide +kernel
theorem dX12_partOf_8 : decode cX12_partOf 8 = .ok (.goto 4, 3) := by decide +kernel
theorem dX12_partOf_11 : decode cX12_partOf 11 = .ok (.lload_n 0, 1) := by decide +kernel
theorem dX12_partOf_12 : decode cX12_partOf 12 = .ok (.lstore 5, 2) := by decide +kernel
theorem dX12_partOf_14 : decode cX12_partOf 14 = .ok (.lload_n 2, 1) := by decide +kernel
theorem dX12_partOf_15 : decode cX12_partOf 15 = .ok (.lstore 7, 2) := by decide +kernel
theorem dX12_partOf_17 : decode cX12_partOf 17 = .ok (.lload 7, 2) := by decide +kernel
theorem dX12_partOf_19 : decode cX12_partOf 19 = .ok (.lconst 0, 1) := by decide +kernel
theorem dX12_partOf_20 : decode cX12_partOf 20 = .ok (.lcmp, 1) := by decide +kernel
theorem dX12_partOf_21 : decode cX12_partOf 21 = .ok (.ifCond .eq 21, 3) := by decide +kernel
theorem dX12_partOf_24 : decode cX12_partOf 24 = .ok (.lload 5, 2) := by decide +kernel
theorem dX12_partOf_26 : decode cX12_partOf 26 = .ok (.lload 7, 2) := by decide +kernel
theorem dX12_partOf_28 : decode cX12_partOf 28 = .ok (.lrem, 1) := by decide +kernel
theorem dX12_partOf_29 : decode cX12_partOf 29 = .ok (.lstore 9, 2) := by decide +kernel
theorem dX12_partOf_31 : decode cX12_partOf 31 = .ok (.lload 7, 2) := by decide +kernel
theorem dX12_partOf_33 : decode cX12_partOf 33 = .ok (.lstore 5, 2) := by decide +kernel
theorem dX12_partOf_35 : decode cX12_partOf 35 = .ok (.lload 9, 2) := by decide +kernel
theorem dX12_partOf_37 : decode cX12_partOf 37 = .ok (.lstore 7, 2) := by decide +kernel
theorem dX12_partOf_39 : decode cX12_partOf 39 = .ok (.goto (-22), 3) := by decide +kernel
theorem dX12_partOf_42 : decode cX12_partOf 42 = .ok (.iload 4, 2) := by decide +kernel
theorem dX12_partOf_44 : decode cX12_partOf 44 = .ok (.ifCond .ne 7, 3) := by decide +kernel
theorem dX12_partOf_47 : decode cX12_partOf 47 = .ok (.lload_n 0, 1) := by decide +kernel
theorem dX12_partOf_48 : decode cX12_partOf 48 = .ok (.goto 4, 3) := by decide +kernel
theorem dX12_partOf_51 : decode cX12_partOf 51 = .ok (.lload_n 2, 1) := by decide +kernel
theorem dX12_partOf_52 : decode cX12_partOf 52 = .ok (.lload 5, 2) := by decide +kernel
theorem dX12_partOf_54 : decode cX12_partOf 54 = .ok (.ldiv, 1) := by decide +kernel
theorem dX12_partOf_55 : decode cX12_partOf 55 = .ok (.lreturn, 1) := by decide +kernel
theorem dX12_owed_0 : decode cX12_owed 0 = .ok (.aload_n 0, 1) := by decide +kernel
theorem dX12_owed_1 : decode cX12_owed 1 = .ok (.iconst 0, 1) := by decide +kernel
theorem dX12_owed_2 : decode cX12_owed 2 = .ok (.putfield 107, 3) := by decide +kernel
theorem dX12_owed_5 : decode cX12_owed 5 = .ok (.aload_n 0, 1) := by decide +kernel
theorem dX12_owed_6 : decode cX12_owed 6 = .ok (.iload_n 1, 1) := by decide +kernel
theorem dX12_owed_7 : decode cX12_owed 7 = .ok (.invokevirtual 337, 3) := by decide +kernel
theorem dX12_owed_10 : decode cX12_owed 10 = .ok (.ifCond .eq 26, 3) := by decide +kernel
theorem dX12_owed_13 : decode cX12_owed 13 = .ok (.aload_n 0, 1) := by decide +kernel
theorem dX12_owed_14 : decode cX12_owed 14 = .ok (.iload_n 2, 1) := by decide +kernel
theorem dX12_owed_15 : decode cX12_owed 15 = .ok (.invokevirtual 337, 3) := by decide +kernel
theorem dX12_owed_18 : decode cX12_owed 18 = .ok (.ifCond .eq 18, 3) := by decide +kernel
theorem dX12_owed_21 : decode cX12_owed 21 = .ok (.iload_n 1, 1) := by decide +kernel
theorem dX12_owed_22 : decode cX12_owed 22 = .ok (.iload_n 2, 1) := by decide +kernel
theorem dX12_owed_23 : decode cX12_owed 23 = .ok (.if_icmp .eq 13, 3) := by decide +kernel
theorem dX12_owed_26 : decode cX12_owed 26 = .ok (.iload_n 3, 1) := by decide +kernel
theorem dX12_owed_27 : decode cX12_owed 27 = .ok (.i2l, 1) := by decide +kernel
theorem dX12_owed_28 : decode cX12_owed 28 = .ok (.lconst 0, 1) := by decide +kernel
theorem dX12_owed_29 : decode cX12_owed 29 = .ok (.lconst 1, 1) := by decide +kernel
theorem dX12_owed_30 : decode cX12_owed 30 = .ok (.invokestatic 118, 3) := by decide +kernel
theorem dX12_owed_33 : decode cX12_owed 33 = .ok (.ifCond .ne 7, 3) := by decide +kernel
theorem dX12_owed_36 : decode cX12_owed 36 = .ok (.ldc2_w 128, 3) := by decide +kernel
theorem dX12_owed_39 : decode cX12_owed 39 = .ok (.lreturn, 1) := by decide +kernel
theorem dX12_owed_40 : decode cX12_owed 40 = .ok (.aload_n 0, 1) := by decide +kernel
theorem dX12_owed_41 : decode cX12_owed 41 = .ok (.getfield 275, 3) := by decide +kernel
theorem dX12_owed_44 : decode cX12_owed 44 = .ok (.ifCond .ne 7, 3) := by decide +kernel
theorem dX12_owed_47 : decode cX12_owed 47 = .ok (.ldc2_w 335, 3) := by decide +kernel
theorem dX12_owed_50 : decode cX12_owed 50 = .ok (.lreturn, 1) := by decide +kernel
theorem dX12_owed_51 : decode cX12_owed 51 = .ok (.aload_n 0, 1) := by decide +kernel
theorem dX12_owed_52 : decode cX12_owed 52 = .ok (.invokevirtual 329, 3) := by decide +kernel
theorem dX12_owed_55 : decode cX12_owed 55 = .ok (.aload_n 0, 1) := by decide +kernel
theorem dX12_owed_56 : decode cX12_owed 56 = .ok (.invokevirtual 359, 3) := by decide +kernel
theorem dX12_owed_59 : decode cX12_owed 59 = .ok (.aload_n 0, 1) := by decide +kernel
theorem dX12_owed_60 : decode cX12_owed 60 = .ok (.getfield 19, 3) := by decide +kernel
theorem dX12_owed_63 : decode cX12_owed 63 = .ok (.bipush 8, 2) := by decide +kernel
theorem dX12_owed_65 : decode cX12_owed 65 = .ok (.aload_n 0, 1) := by decide +kernel
theorem dX12_owed_66 : decode cX12_owed 66 = .ok (.getfield 288, 3) := by decide +kernel
theorem dX12_owed_69 : decode cX12_owed 69 = .ok (.imul, 1) := by decide +kernel
theorem dX12_owed_70 : decode cX12_owed 70 = .ok (.iconst 5, 1) := by decide +kernel
theorem dX12_owed_71 : decode cX12_owed 71 = .ok (.iadd, 1) := by decide +kernel
theorem dX12_owed_72 : decode cX12_owed 72 = .ok (.iaload, 1) := by decide +kernel
theorem dX12_owed_73 : decode cX12_owed 73 = .ok (.iconst 1, 1) := by decide +kernel
theorem dX12_owed_74 : decode cX12_owed 74 = .ok (.if_icmp .ne 29, 3) := by decide +kernel
theorem dX12_owed_77 : decode cX12_owed 77 = .ok (.aload_n 0, 1) := by decide +kernel
theorem dX12_owed_78 : decode cX12_owed 78 = .ok (.getfield 89, 3) := by decide +kernel
theorem dX12_owed_81 : decode cX12_owed 81 = .ok (.iconst 3, 1) := by decide +kernel
theorem dX12_owed_82 : decode cX12_owed 82 = .ok (.iload_n 1, 1) := by decide +kernel
theorem dX12_owed_83 : decode cX12_owed 83 = .ok (.imul, 1) := by decide +kernel
theorem dX12_owed_84 : decode cX12_owed 84 = .ok (.iload_n 2, 1) := by decide +kernel
theorem dX12_owed_85 : decode cX12_owed 85 = .ok (.iadd, 1) := by decide +kernel
theorem dX12_owed_86 : decode cX12_owed 86 = .ok (.laload, 1) := by decide +kernel
theorem dX12_owed_87 : decode cX12_owed 87 = .ok (.aload_n 0, 1) := by decide +kernel
theorem dX12_owed_88 : decode cX12_owed 88 = .ok (.getfield 98, 3) := by decide +kernel
theorem dX12_owed_91 : decode cX12_owed 91 = .ok (.iload_n 2, 1) := by decide +kernel
theorem dX12_owed_92 : decode cX12_owed 92 = .ok (.laload, 1) := by decide +kernel
theorem dX12_owed_93 : decode cX12_owed 93 = .ok (.lmul, 1) := by decide +kernel
theorem dX12_owed_94 : decode cX12_owed 94 = .ok (.aload_n 0, 1) := by decide +kernel
theorem dX12_owed_95 : decode cX12_owed 95 = .ok (.getfield 349, 3) := by decide +kernel
theorem dX12_owed_98 : decode cX12_owed 98 = .ok (.iload_n 3, 1) := by decide +kernel
theorem dX12_owed_99 : decode cX12_owed 99 = .ok (.invokestatic 362, 3) := by decide +kernel
theorem dX12_owed_102 : decode cX12_owed 102 = .ok (.lreturn, 1) := by decide +kernel
theorem dX12_owed_103 : decode cX12_owed 103 = .ok (.iload_n 3, 1) := by decide +kernel
theorem dX12_owed_104 : decode cX12_owed 104 = .ok (.ifCond .ne 16, 3) := by decide +kernel
theorem dX12_owed_107 : decode cX12_owed 107 = .ok (.aload_n 0, 1) := by decide +kernel
theorem dX12_owed_108 : decode cX12_owed 108 = .ok (.getfield 92, 3) := by decide +kernel
theorem dX12_owed_111 : decode cX12_owed 111 = .ok (.iconst 3, 1) := by decide +kernel
theorem dX12_owed_112 : decode cX12_owed 112 = .ok (.iload_n 1, 1) := by decide +kernel
theorem dX12_owed_113 : decode cX12_owed 113 = .ok (.imul, 1) := by decide +kernel
theorem dX12_owed_114 : decode cX12_owed 114 = .ok (.iload_n 2, 1) := by decide +kernel
theorem dX12_owed_115 : decode cX12_owed 115 = .ok (.iadd, 1) := by decide +kernel
theorem dX12_owed_116 : decode cX12_owed 116 = .ok (.laload, 1) := by decide +kernel
theorem dX12_owed_117 : decode cX12_owed 117 = .ok (.goto 4, 3) := by decide +kernel
theorem dX12_owed_120 : decode cX12_owed 120 = .ok (.lconst 1, 1) := by decide +kernel
theorem dX12_owed_121 : decode cX12_owed 121 = .ok (.lreturn, 1) := by decide +kernel
theorem dX12_net_0 : decode cX12_net 0 = .ok (.aload_n 0, 1) := by decide +kernel
theorem dX12_net_1 : decode cX12_net 1 = .ok (.iconst 0, 1) := by decide +kernel
theorem dX12_net_2 : decode cX12_net 2 = .ok (.putfield 107, 3) := by decide +kernel
theorem dX12_net_5 : decode cX12_net 5 = .ok (.aload_n 0, 1) := by decide +kernel
theorem dX12_net_6 : decode cX12_net 6 = .ok (.iload_n 1, 1) := by decide +kernel
theorem dX12_net_7 : decode cX12_net 7 = .ok (.invokevirtual 337, 3) := by decide +kernel
theorem dX12_net_10 : decode cX12_net 10 = .ok (.ifCond .eq 13, 3) := by decide +kernel
theorem dX12_net_13 : decode cX12_net 13 = .ok (.iload_n 2, 1) := by decide +kernel
theorem dX12_net_14 : decode cX12_net 14 = .ok (.i2l, 1) := by decide +kernel
theorem dX12_net_15 : decode cX12_net 15 = .ok (.lconst 0, 1) := by decide +kernel
theorem dX12_net_16 : decode cX12_net 16 = .ok (.lconst 1, 1) := by decide +kernel
theorem dX12_net_17 : decode cX12_net 17 = .ok (.invokestatic 118, 3) := by decide +kernel
theorem dX12_net_20 : decode cX12_net 20 = .ok (.ifCond .ne 7, 3) := by decide +kernel
theorem dX12_net_23 : decode cX12_net 23 = .ok (.ldc2_w 128, 3) := by decide +kernel
theorem dX12_net_26 : decode cX12_net 26 = .ok (.lreturn, 1) := by decide +kernel
theorem dX12_net_27 : decode cX12_net 27 = .ok (.aload_n 0, 1) := by decide +kernel
theorem dX12_net_28 : decode cX12_net 28 = .ok (.getfield 275, 3) := by decide +kernel
theorem dX12_net_31 : decode cX12_net 31 = .ok (.ifCond .ne 7, 3) := by decide +kernel
theorem dX12_net_34 : decode cX12_net 34 = .ok (.ldc2_w 335, 3) := by decide +kernel
theorem dX12_net_37 : decode cX12_net 37 = .ok (.lreturn, 1) := by decide +kernel
theorem dX12_net_38 : decode cX12_net 38 = .ok (.aload_n 0, 1) := by decide +kernel
theorem dX12_net_39 : decode cX12_net 39 = .ok (.invokevirtual 329, 3) := by decide +kernel
theorem dX12_net_42 : decode cX12_net 42 = .ok (.aload_n 0, 1) := by decide +kernel
theorem dX12_net_43 : decode cX12_net 43 = .ok (.invokevirtual 359, 3) := by decide +kernel
theorem dX12_net_46 : decode cX12_net 46 = .ok (.aload_n 0, 1) := by decide +kernel
theorem dX12_net_47 : decode cX12_net 47 = .ok (.getfield 95, 3) := by decide +kernel
theorem dX12_net_50 : decode cX12_net 50 = .ok (.iload_n 1, 1) := by decide +kernel
theorem dX12_net_51 : decode cX12_net 51 = .ok (.laload, 1) := by decide +kernel
theorem dX12_net_52 : decode cX12_net 52 = .ok (.aload_n 0, 1) := by decide +kernel
theorem dX12_net_53 : decode cX12_net 53 = .ok (.getfield 349, 3) := by decide +kernel
theorem dX12_net_56 : decode cX12_net 56 = .ok (.iload_n 2, 1) := by decide +kernel
theorem dX12_net_57 : decode cX12_net 57 = .ok (.invokestatic 362, 3) := by decide +kernel
theorem dX12_net_60 : decode cX12_net 60 = .ok (.lreturn, 1) := by decide +kernel
theorem dX12_endOf_0 : decode cX12_endOf 0 = .ok (.aload_n 0, 1) := by decide +kernel
theorem dX12_endOf_1 : decode cX12_endOf 1 = .ok (.getfield 19, 3) := by decide +kernel
theorem dX12_endOf_4 : decode cX12_endOf 4 = .ok (.bipush 8, 2) := by decide +kernel
theorem dX12_endOf_6 : decode cX12_endOf 6 = .ok (.aload_n 0, 1) := by decide +kernel
theorem dX12_endOf_7 : decode cX12_endOf 7 = .ok (.getfield 288, 3) := by decide +kernel
theorem dX12_endOf_10 : decode cX12_endOf 10 = .ok (.imul, 1) := by decide +kernel
theorem dX12_endOf_11 : decode cX12_endOf 11 = .ok (.bipush 7, 2) := by decide +kernel
theorem dX12_endOf_13 : decode cX12_endOf 13 = .ok (.iadd, 1) := by decide +kernel
theorem dX12_endOf_14 : decode cX12_endOf 14 = .ok (.iaload, 1) := by decide +kernel
theorem dX12_endOf_15 : decode cX12_endOf 15 = .ok (.i2l, 1) := by decide +kernel
theorem dX12_endOf_16 : decode cX12_endOf 16 = .ok (.lstore_n 2, 1) := by decide +kernel
theorem dX12_endOf_17 : decode cX12_endOf 17 = .ok (.ldc2_w 366, 3) := by decide +kernel
theorem dX12_endOf_20 : decode cX12_endOf 20 = .ok (.aload_n 0, 1) := by decide +kernel
theorem dX12_endOf_21 : decode cX12_endOf 21 = .ok (.getfield 95, 3) := by decide +kernel
theorem dX12_endOf_24 : decode cX12_endOf 24 = .ok (.iload_n 1, 1) := by decide +kernel
theorem dX12_endOf_25 : decode cX12_endOf 25 = .ok (.laload, 1) := by decide +kernel
theorem dX12_endOf_26 : decode cX12_endOf 26 = .ok (.lmul, 1) := by decide +kernel
theorem dX12_endOf_27 : decode cX12_endOf 27 = .ok (.iload_n 1, 1) := by decide +kernel
theorem dX12_endOf_28 : decode cX12_endOf 28 = .ok (.ifCond .ne 7, 3) := by decide +kernel
theorem dX12_endOf_31 : decode cX12_endOf 31 = .ok (.lload_n 2, 1) := by decide +kernel
theorem dX12_endOf_32 : decode cX12_endOf 32 = .ok (.goto 8, 3) := by decide +kernel
theorem dX12_endOf_35 : decode cX12_endOf 35 = .ok (.ldc2_w 366, 3) := by decide +kernel
theorem dX12_endOf_38 : decode cX12_endOf 38 = .ok (.lload_n 2, 1) := by decide +kernel
theorem dX12_endOf_39 : decode cX12_endOf 39 = .ok (.lsub, 1) := by decide +kernel
theorem dX12_endOf_40 : decode cX12_endOf 40 = .ok (.aload_n 0, 1) := by decide +kernel
theorem dX12_endOf_41 : decode cX12_endOf 41 = .ok (.getfield 95, 3) := by decide +kernel
theorem dX12_endOf_44 : decode cX12_endOf 44 = .ok (.iconst 2, 1) := by decide +kernel
theorem dX12_endOf_45 : decode cX12_endOf 45 = .ok (.laload, 1) := by decide +kernel
theorem dX12_endOf_46 : decode cX12_endOf 46 = .ok (.lmul, 1) := by decide +kernel
theorem dX12_endOf_47 : decode cX12_endOf 47 = .ok (.ladd, 1) := by decide +kernel
theorem dX12_endOf_48 : decode cX12_endOf 48 = .ok (.lreturn, 1) := by decide +kernel
theorem dX12_end_0 : decode cX12_end 0 = .ok (.aload_n 0, 1) := by decide +kernel
theorem dX12_end_1 : decode cX12_end 1 = .ok (.iconst 0, 1) := by decide +kernel
theorem dX12_end_2 : decode cX12_end 2 = .ok (.putfield 107, 3) := by decide +kernel
theorem dX12_end_5 : decode cX12_end 5 = .ok (.iload_n 1, 1) := by decide +kernel
theorem dX12_end_6 : decode cX12_end 6 = .ok (.i2l, 1) := by decide +kernel
theorem dX12_end_7 : decode cX12_end 7 = .ok (.lconst 0, 1) := by decide +kernel
theorem dX12_end_8 : decode cX12_end 8 = .ok (.lconst 1, 1) := by decide +kernel
theorem dX12_end_9 : decode cX12_end 9 = .ok (.invokestatic 118, 3) := by decide +kernel
theorem dX12_end_12 : decode cX12_end 12 = .ok (.ifCond .eq 13, 3) := by decide +kernel
theorem dX12_end_15 : decode cX12_end 15 = .ok (.iload_n 2, 1) := by decide +kernel
theorem dX12_end_16 : decode cX12_end 16 = .ok (.i2l, 1) := by decide +kernel
theorem dX12_end_17 : decode cX12_end 17 = .ok (.lconst 0, 1) := by decide +kernel
theorem dX12_end_18 : decode cX12_end 18 = .ok (.lconst 1, 1) := by decide +kernel
theorem dX12_end_19 : decode cX12_end 19 = .ok (.invokestatic 118, 3) := by decide +kernel
theorem dX12_end_22 : decode cX12_end 22 = .ok (.ifCond .ne 7, 3) := by decide +kernel
theorem dX12_end_25 : decode cX12_end 25 = .ok (.ldc2_w 128, 3) := by decide +kernel
theorem dX12_end_28 : decode cX12_end 28 = .ok (.lreturn, 1) := by decide +kernel
theorem dX12_end_29 : decode cX12_end 29 = .ok (.aload_n 0, 1) := by decide +kernel
theorem dX12_end_30 : decode cX12_end 30 = .ok (.getfield 275, 3) := by decide +kernel
theorem dX12_end_33 : decode cX12_end 33 = .ok (.ifCond .ne 7, 3) := by decide +kernel
theorem dX12_end_36 : decode cX12_end 36 = .ok (.ldc2_w 335, 3) := by decide +kernel
theorem dX12_end_39 : decode cX12_end 39 = .ok (.lreturn, 1) := by decide +kernel
theorem dX12_end_40 : decode cX12_end 40 = .ok (.aload_n 0, 1) := by decide +kernel
theorem dX12_end_41 : decode cX12_end 41 = .ok (.invokevirtual 329, 3) := by decide +kernel
theorem dX12_end_44 : decode cX12_end 44 = .ok (.aload_n 0, 1) := by decide +kernel
theorem dX12_end_45 : decode cX12_end 45 = .ok (.invokevirtual 359, 3) := by decide +kernel
theorem dX12_end_48 : decode cX12_end 48 = .ok (.aload_n 0, 1) := by decide +kernel
theorem dX12_end_49 : decode cX12_end 49 = .ok (.iload_n 1, 1) := by decide +kernel
theorem dX12_end_50 : decode cX12_end 50 = .ok (.invokevirtual 368, 3) := by decide +kernel
theorem dX12_end_53 : decode cX12_end 53 = .ok (.ldc2_w 366, 3) := by decide +kernel
theorem dX12_end_56 : decode cX12_end 56 = .ok (.aload_n 0, 1) := by decide +kernel
theorem dX12_end_57 : decode cX12_end 57 = .ok (.getfield 349, 3) := by decide +kernel
theorem dX12_end_60 : decode cX12_end 60 = .ok (.lmul, 1) := by decide +kernel
theorem dX12_end_61 : decode cX12_end 61 = .ok (.iload_n 2, 1) := by decide +kernel
theorem dX12_end_62 : decode cX12_end 62 = .ok (.invokestatic 362, 3) := by decide +kernel
theorem dX12_end_65 : decode cX12_end 65 = .ok (.lreturn, 1) := by decide +kernel
theorem dX12_beside_0 : decode cX12_beside 0 = .ok (.aload_n 0, 1) := by decide +kernel
theorem dX12_beside_1 : decode cX12_beside 1 = .ok (.iconst 0, 1) := by decide +kernel
theorem dX12_beside_2 : decode cX12_beside 2 = .ok (.putfield 107, 3) := by decide +kernel
theorem dX12_beside_5 : decode cX12_beside 5 = .ok (.aload_n 0, 1) := by decide +kernel
theorem dX12_beside_6 : decode cX12_beside 6 = .ok (.getfield 275, 3) := by decide +kernel
theorem dX12_beside_9 : decode cX12_beside 9 = .ok (.ifCond .ne 7, 3) := by decide +kernel
theorem dX12_beside_12 : decode cX12_beside 12 = .ok (.ldc2_w 335, 3) := by decide +kernel
theorem dX12_beside_15 : decode cX12_beside 15 = .ok (.lreturn, 1) := by decide +kernel
theorem dX12_beside_16 : decode cX12_beside 16 = .ok (.iload_n 1, 1) := by decide +kernel
theorem dX12_beside_17 : decode cX12_beside 17 = .ok (.i2l, 1) := by decide +kernel
theorem dX12_beside_18 : decode cX12_beside 18 = .ok (.lconst 0, 1) := by decide +kernel
theorem dX12_beside_19 : decode cX12_beside 19 = .ok (.aload_n 0, 1) := by decide +kernel
theorem dX12_beside_20 : decode cX12_beside 20 = .ok (.getfield 279, 3) := by decide +kernel
theorem dX12_beside_23 : decode cX12_beside 23 = .ok (.iconst 1, 1) := by decide +kernel
theorem dX12_beside_24 : decode cX12_beside 24 = .ok (.isub, 1) := by decide +kernel
theorem dX12_beside_25 : decode cX12_beside 25 = .ok (.i2l, 1) := by decide +kernel
theorem dX12_beside_26 : decode cX12_beside 26 = .ok (.invokestatic 118, 3) := by decide +kernel
theorem dX12_beside_29 : decode cX12_beside 29 = .ok (.ifCond .eq 25, 3) := by decide +kernel
theorem dX12_beside_32 : decode cX12_beside 32 = .ok (.iload_n 2, 1) := by decide +kernel
theorem dX12_beside_33 : decode cX12_beside 33 = .ok (.i2l, 1) := by decide +kernel
theorem dX12_beside_34 : decode cX12_beside 34 = .ok (.lconst 0, 1) := by decide +kernel
theorem dX12_beside_35 : decode cX12_beside 35 = .ok (.ldc2_w 323, 3) := by decide +kernel
theorem dX12_beside_38 : decode cX12_beside 38 = .ok (.invokestatic 118, 3) := by decide +kernel
theorem dX12_beside_41 : decode cX12_beside 41 = .ok (.ifCond .eq 13, 3) := by decide +kernel
theorem dX12_beside_44 : decode cX12_beside 44 = .ok (.iload_n 3, 1) := by decide +kernel
theorem dX12_beside_45 : decode cX12_beside 45 = .ok (.i2l, 1) := by decide +kernel
theorem dX12_beside_46 : decode cX12_beside 46 = .ok (.lconst 0, 1) := by decide +kernel
theorem dX12_beside_47 : decode cX12_beside 47 = .ok (.lconst 1, 1) := by decide +kernel
theorem dX12_beside_48 : decode cX12_beside 48 = .ok (.invokestatic 118, 3) := by decide +kernel
theorem dX12_beside_51 : decode cX12_beside 51 = .ok (.ifCond .ne 7, 3) := by decide +kernel
theorem dX12_beside_54 : decode cX12_beside 54 = .ok (.ldc2_w 128, 3) := by decide +kernel
theorem dX12_beside_57 : decode cX12_beside 57 = .ok (.lreturn, 1) := by decide +kernel
theorem dX12_beside_58 : decode cX12_beside 58 = .ok (.aload_n 0, 1) := by decide +kernel
theorem dX12_beside_59 : decode cX12_beside 59 = .ok (.sipush 999, 3) := by decide +kernel
theorem dX12_beside_62 : decode cX12_beside 62 = .ok (.iconst (-1), 1) := by decide +kernel
theorem dX12_beside_63 : decode cX12_beside 63 = .ok (.iload_n 2, 1) := by decide +kernel
theorem dX12_beside_64 : decode cX12_beside 64 = .ok (.iload_n 1, 1) := by decide +kernel
theorem dX12_beside_65 : decode cX12_beside 65 = .ok (.iconst (-1), 1) := by decide +kernel
theorem dX12_beside_66 : decode cX12_beside 66 = .ok (.iconst (-1), 1) := by decide +kernel
theorem dX12_beside_67 : decode cX12_beside 67 = .ok (.invokevirtual 316, 3) := by decide +kernel
theorem dX12_beside_70 : decode cX12_beside 70 = .ok (.aload_n 0, 1) := by decide +kernel
theorem dX12_beside_71 : decode cX12_beside 71 = .ok (.invokevirtual 359, 3) := by decide +kernel
theorem dX12_beside_74 : decode cX12_beside 74 = .ok (.aload_n 0, 1) := by decide +kernel
theorem dX12_beside_75 : decode cX12_beside 75 = .ok (.iconst 0, 1) := by decide +kernel
theorem dX12_beside_76 : decode cX12_beside 76 = .ok (.invokevirtual 368, 3) := by decide +kernel
theorem dX12_beside_79 : decode cX12_beside 79 = .ok (.ldc2_w 366, 3) := by decide +kernel
theorem dX12_beside_82 : decode cX12_beside 82 = .ok (.aload_n 0, 1) := by decide +kernel
theorem dX12_beside_83 : decode cX12_beside 83 = .ok (.getfield 349, 3) := by decide +kernel
theorem dX12_beside_86 : decode cX12_beside 86 = .ok (.lmul, 1) := by decide +kernel
theorem dX12_beside_87 : decode cX12_beside 87 = .ok (.iload_n 3, 1) := by decide +kernel
theorem dX12_beside_88 : decode cX12_beside 88 = .ok (.invokestatic 362, 3) := by decide +kernel
theorem dX12_beside_91 : decode cX12_beside 91 = .ok (.lreturn, 1) := by decide +kernel
theorem dX12_hangs_0 : decode cX12_hangs 0 = .ok (.aload_n 0, 1) := by decide +kernel
theorem dX12_hangs_1 : decode cX12_hangs 1 = .ok (.iconst 0, 1) := by decide +kernel
theorem dX12_hangs_2 : decode cX12_hangs 2 = .ok (.putfield 107, 3) := by decide +kernel
theorem dX12_hangs_5 : decode cX12_hangs 5 = .ok (.aload_n 0, 1) := by decide +kernel
theorem dX12_hangs_6 : decode cX12_hangs 6 = .ok (.getfield 275, 3) := by decide +kernel
theorem dX12_hangs_9 : decode cX12_hangs 9 = .ok (.ifCond .ne 7, 3) := by decide +kernel
theorem dX12_hangs_12 : decode cX12_hangs 12 = .ok (.ldc2_w 335, 3) := by decide +kernel
theorem dX12_hangs_15 : decode cX12_hangs 15 = .ok (.lreturn, 1) := by decide +kernel
theorem dX12_hangs_16 : decode cX12_hangs 16 = .ok (.aload_n 0, 1) := by decide +kernel
theorem dX12_hangs_17 : decode cX12_hangs 17 = .ok (.invokevirtual 329, 3) := by decide +kernel
theorem dX12_hangs_20 : decode cX12_hangs 20 = .ok (.aload_n 0, 1) := by decide +kernel
theorem dX12_hangs_21 : decode cX12_hangs 21 = .ok (.invokevirtual 359, 3) := by decide +kernel
theorem dX12_hangs_24 : decode cX12_hangs 24 = .ok (.aload_n 0, 1) := by decide +kernel
theorem dX12_hangs_25 : decode cX12_hangs 25 = .ok (.iconst 0, 1) := by decide +kernel
theorem dX12_hangs_26 : decode cX12_hangs 26 = .ok (.invokevirtual 368, 3) := by decide +kernel
theorem dX12_hangs_29 : decode cX12_hangs 29 = .ok (.ldc2_w 366, 3) := by decide +kernel
theorem dX12_hangs_32 : decode cX12_hangs 32 = .ok (.aload_n 0, 1) := by decide +kernel
theorem dX12_hangs_33 : decode cX12_hangs 33 = .ok (.getfield 349, 3) := by decide +kernel
theorem dX12_hangs_36 : decode cX12_hangs 36 = .ok (.lmul, 1) := by decide +kernel
theorem dX12_hangs_37 : decode cX12_hangs 37 = .ok (.ldiv, 1) := by decide +kernel
theorem dX12_hangs_38 : decode cX12_hangs 38 = .ok (.lstore_n 1, 1) := by decide +kernel
theorem dX12_hangs_39 : decode cX12_hangs 39 = .ok (.ldc 146, 2) := by decide +kernel
theorem dX12_hangs_41 : decode cX12_hangs 41 = .ok (.istore_n 3, 1) := by decide +kernel
theorem dX12_hangs_42 : decode cX12_hangs 42 = .ok (.ldc2_w 199, 3) := by decide +kernel
theorem dX12_hangs_45 : decode cX12_hangs 45 = .ok (.lstore 4, 2) := by decide +kernel
theorem dX12_hangs_47 : decode cX12_hangs 47 = .ok (.iconst 0, 1) := by decide +kernel
theorem dX12_hangs_48 : decode cX12_hangs 48 = .ok (.istore 6, 2) := by decide +kernel
theorem dX12_hangs_50 : decode cX12_hangs 50 = .ok (.iload 6, 2) := by decide +kernel
theorem dX12_hangs_52 : decode cX12_hangs 52 = .ok (.aload_n 0, 1) := by decide +kernel
theorem dX12_hangs_53 : decode cX12_hangs 53 = .ok (.getfield 282, 3) := by decide +kernel
theorem dX12_hangs_56 : decode cX12_hangs 56 = .ok (.if_icmp .ge 122, 3) := by decide +kernel
theorem dX12_hangs_59 : decode cX12_hangs 59 = .ok (.aload_n 0, 1) := by decide +kernel
theorem dX12_hangs_60 : decode cX12_hangs 60 = .ok (.getfield 22, 3) := by decide +kernel
theorem dX12_hangs_63 : decode cX12_hangs 63 = .ok (.bipush 6, 2) := by decide +kernel
theorem dX12_hangs_65 : decode cX12_hangs 65 = .ok (.iload 6, 2) := by decide +kernel
theorem dX12_hangs_67 : decode cX12_hangs 67 = .ok (.imul, 1) := by decide +kernel
theorem dX12_hangs_68 : decode cX12_hangs 68 = .ok (.iaload, 1) := by decide +kernel
theorem dX12_hangs_69 : decode cX12_hangs 69 = .ok (.istore 7, 2) := by decide +kernel
theorem dX12_hangs_71 : decode cX12_hangs 71 = .ok (.iload 7, 2) := by decide +kernel
theorem dX12_hangs_73 : decode cX12_hangs 73 = .ok (.ifCond .eq 99, 3) := by decide +kernel
theorem dX12_hangs_76 : decode cX12_hangs 76 = .ok (.iload 7, 2) := by decide +kernel
theorem dX12_hangs_78 : decode cX12_hangs 78 = .ok (.iconst 1, 1) := by decide +kernel
theorem dX12_hangs_79 : decode cX12_hangs 79 = .ok (.if_icmp .eq 93, 3) := by decide +kernel
theorem dX12_hangs_82 : decode cX12_hangs 82 = .ok (.iload 7, 2) := by decide +kernel
theorem dX12_hangs_84 : decode cX12_hangs 84 = .ok (.iconst 5, 1) := by decide +kernel
theorem dX12_hangs_85 : decode cX12_hangs 85 = .ok (.if_icmp .eq 87, 3) := by decide +kernel
theorem dX12_hangs_88 : decode cX12_hangs 88 = .ok (.aload_n 0, 1) := by decide +kernel
theorem dX12_hangs_89 : decode cX12_hangs 89 = .ok (.sipush 999, 3) := by decide +kernel
theorem dX12_hangs_92 : decode cX12_hangs 92 = .ok (.iload 6, 2) := by decide +kernel
theorem dX12_hangs_94 : decode cX12_hangs 94 = .ok (.iconst (-1), 1) := by decide +kernel
theorem dX12_hangs_95 : decode cX12_hangs 95 = .ok (.iconst (-1), 1) := by decide +kernel
theorem dX12_hangs_96 : decode cX12_hangs 96 = .ok (.iconst (-1), 1) := by decide +kernel
theorem dX12_hangs_97 : decode cX12_hangs 97 = .ok (.iconst (-1), 1) := by decide +kernel
theorem dX12_hangs_98 : decode cX12_hangs 98 = .ok (.invokevirtual 316, 3) := by decide +kernel
theorem dX12_hangs_101 : decode cX12_hangs 101 = .ok (.aload_n 0, 1) := by decide +kernel
theorem dX12_hangs_102 : decode cX12_hangs 102 = .ok (.invokevirtual 359, 3) := by decide +kernel
theorem dX12_hangs_105 : decode cX12_hangs 105 = .ok (.aload_n 0, 1) := by decide +kernel
theorem dX12_hangs_106 : decode cX12_hangs 106 = .ok (.iconst 0, 1) := by decide +kernel
theorem dX12_hangs_107 : decode cX12_hangs 107 = .ok (.invokevirtual 368, 3) := by decide +kernel
theorem dX12_hangs_110 : decode cX12_hangs 110 = .ok (.ldc2_w 366, 3) := by decide +kernel
theorem dX12_hangs_113 : decode cX12_hangs 113 = .ok (.aload_n 0, 1) := by decide +kernel
theorem dX12_hangs_114 : decode cX12_hangs 114 = .ok (.getfield 349, 3) := by decide +kernel
theorem dX12_hangs_117 : decode cX12_hangs 117 = .ok (.lmul, 1) := by decide +kernel
theorem dX12_hangs_118 : decode cX12_hangs 118 = .ok (.ldiv, 1) := by decide +kernel
theorem dX12_hangs_119 : decode cX12_hangs 119 = .ok (.lload_n 1, 1) := by decide +kernel
theorem dX12_hangs_120 : decode cX12_hangs 120 = .ok (.lsub, 1) := by decide +kernel
theorem dX12_hangs_121 : decode cX12_hangs 121 = .ok (.lstore 8, 2) := by decide +kernel
theorem dX12_hangs_123 : decode cX12_hangs 123 = .ok (.lload 8, 2) := by decide +kernel
theorem dX12_hangs_125 : decode cX12_hangs 125 = .ok (.lconst 0, 1) := by decide +kernel
theorem dX12_hangs_126 : decode cX12_hangs 126 = .ok (.lcmp, 1) := by decide +kernel
theorem dX12_hangs_127 : decode cX12_hangs 127 = .ok (.ifCond .ge 9, 3) := by decide +kernel
theorem dX12_hangs_130 : decode cX12_hangs 130 = .ok (.lload 8, 2) := by decide +kernel
theorem dX12_hangs_132 : decode cX12_hangs 132 = .ok (.lneg, 1) := by decide +kernel
theorem dX12_hangs_133 : decode cX12_hangs 133 = .ok (.goto 5, 3) := by decide +kernel
theorem dX12_hangs_136 : decode cX12_hangs 136 = .ok (.lload 8, 2) := by decide +kernel
theorem dX12_hangs_138 : decode cX12_hangs 138 = .ok (.lstore 8, 2) := by decide +kernel
theorem dX12_hangs_140 : decode cX12_hangs 140 = .ok (.lload 8, 2) := by decide +kernel
theorem dX12_hangs_142 : decode cX12_hangs 142 = .ok (.lload 4, 2) := by decide +kernel
theorem dX12_hangs_144 : decode cX12_hangs 144 = .ok (.lcmp, 1) := by decide +kernel
theorem dX12_hangs_145 : decode cX12_hangs 145 = .ok (.ifCond .le 8, 3) := by decide +kernel
theorem dX12_hangs_148 : decode cX12_hangs 148 = .ok (.iload 6, 2) := by decide +kernel
theorem dX12_hangs_150 : decode cX12_hangs 150 = .ok (.goto 4, 3) := by decide +kernel
theorem dX12_hangs_153 : decode cX12_hangs 153 = .ok (.iload_n 3, 1) := by decide +kernel
theorem dX12_hangs_154 : decode cX12_hangs 154 = .ok (.istore_n 3, 1) := by decide +kernel
theorem dX12_hangs_155 : decode cX12_hangs 155 = .ok (.lload 8, 2) := by decide +kernel
theorem dX12_hangs_157 : decode cX12_hangs 157 = .ok (.lload 4, 2) := by decide +kernel
theorem dX12_hangs_159 : decode cX12_hangs 159 = .ok (.lcmp, 1) := by decide +kernel
theorem dX12_hangs_160 : decode cX12_hangs 160 = .ok (.ifCond .le 8, 3) := by decide +kernel
theorem dX12_hangs_163 : decode cX12_hangs 163 = .ok (.lload 8, 2) := by decide +kernel
theorem dX12_hangs_165 : decode cX12_hangs 165 = .ok (.goto 5, 3) := by decide +kernel
theorem dX12_hangs_168 : decode cX12_hangs 168 = .ok (.lload 4, 2) := by decide +kernel
theorem dX12_hangs_170 : decode cX12_hangs 170 = .ok (.lstore 4, 2) := by decide +kernel
theorem dX12_hangs_172 : decode cX12_hangs 172 = .ok (.iinc 6 1, 3) := by decide +kernel
theorem dX12_hangs_175 : decode cX12_hangs 175 = .ok (.goto (-125), 3) := by decide +kernel
theorem dX12_hangs_178 : decode cX12_hangs 178 = .ok (.iload_n 3, 1) := by decide +kernel
theorem dX12_hangs_179 : decode cX12_hangs 179 = .ok (.i2l, 1) := by decide +kernel
theorem dX12_hangs_180 : decode cX12_hangs 180 = .ok (.lreturn, 1) := by decide +kernel
theorem dX12_isWished_0 : decode cX12_isWished 0 = .ok (.aload_n 0, 1) := by decide +kernel
theorem dX12_isWished_1 : decode cX12_isWished 1 = .ok (.sipush 999, 3) := by decide +kernel
theorem dX12_isWished_4 : decode cX12_isWished 4 = .ok (.iconst (-1), 1) := by decide +kernel
theorem dX12_isWished_5 : decode cX12_isWished 5 = .ok (.iconst (-1), 1) := by decide +kernel
theorem dX12_isWished_6 : decode cX12_isWished 6 = .ok (.iconst (-1), 1) := by decide +kernel
theorem dX12_isWished_7 : decode cX12_isWished 7 = .ok (.iload_n 1, 1) := by decide +kernel
theorem dX12_isWished_8 : decode cX12_isWished 8 = .ok (.iload_n 2, 1) := by decide +kernel
theorem dX12_isWished_9 : decode cX12_isWished 9 = .ok (.invokevirtual 316, 3) := by decide +kernel
theorem dX12_isWished_12 : decode cX12_isWished 12 = .ok (.aload_n 0, 1) := by decide +kernel
theorem dX12_isWished_13 : decode cX12_isWished 13 = .ok (.invokevirtual 359, 3) := by decide +kernel
theorem dX12_isWished_16 : decode cX12_isWished 16 = .ok (.aload_n 0, 1) := by decide +kernel
theorem dX12_isWished_17 : decode cX12_isWished 17 = .ok (.iconst 0, 1) := by decide +kernel
