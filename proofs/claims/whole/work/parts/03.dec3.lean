theorem dX11_judge_15 : decode cX11_judge 15 = .ok (.ifCond .ne 7, 3) := by decide +kernel
theorem dX11_judge_18 : decode cX11_judge 18 = .ok (.ldc2_w 184, 3) := by decide +kernel
theorem dX11_judge_21 : decode cX11_judge 21 = .ok (.lreturn, 1) := by decide +kernel
theorem dX11_judge_22 : decode cX11_judge 22 = .ok (.aload_n 0, 1) := by decide +kernel
theorem dX11_judge_23 : decode cX11_judge 23 = .ok (.iload_n 1, 1) := by decide +kernel
theorem dX11_judge_24 : decode cX11_judge 24 = .ok (.invokevirtual 83, 3) := by decide +kernel
theorem dX11_judge_27 : decode cX11_judge 27 = .ok (.ifCond .eq 9, 3) := by decide +kernel
theorem dX11_judge_30 : decode cX11_judge 30 = .ok (.aload_n 0, 1) := by decide +kernel
theorem dX11_judge_31 : decode cX11_judge 31 = .ok (.iconst 1, 1) := by decide +kernel
theorem dX11_judge_32 : decode cX11_judge 32 = .ok (.invokevirtual 75, 3) := by decide +kernel
theorem dX11_judge_35 : decode cX11_judge 35 = .ok (.lreturn, 1) := by decide +kernel
theorem dX11_judge_36 : decode cX11_judge 36 = .ok (.aload_n 0, 1) := by decide +kernel
theorem dX11_judge_37 : decode cX11_judge 37 = .ok (.iload_n 1, 1) := by decide +kernel
theorem dX11_judge_38 : decode cX11_judge 38 = .ok (.iload_n 2, 1) := by decide +kernel
theorem dX11_judge_39 : decode cX11_judge 39 = .ok (.aload_n 0, 1) := by decide +kernel
theorem dX11_judge_40 : decode cX11_judge 40 = .ok (.getfield 39, 3) := by decide +kernel
theorem dX11_judge_43 : decode cX11_judge 43 = .ok (.getfield 158, 3) := by decide +kernel
theorem dX11_judge_46 : decode cX11_judge 46 = .ok (.invokevirtual 90, 3) := by decide +kernel
theorem dX11_judge_49 : decode cX11_judge 49 = .ok (.ifCond .eq 9, 3) := by decide +kernel
theorem dX11_judge_52 : decode cX11_judge 52 = .ok (.aload_n 0, 1) := by decide +kernel
theorem dX11_judge_53 : decode cX11_judge 53 = .ok (.iconst 2, 1) := by decide +kernel
theorem dX11_judge_54 : decode cX11_judge 54 = .ok (.invokevirtual 75, 3) := by decide +kernel
theorem dX11_judge_57 : decode cX11_judge 57 = .ok (.lreturn, 1) := by decide +kernel
theorem dX11_judge_58 : decode cX11_judge 58 = .ok (.iload_n 1, 1) := by decide +kernel
theorem dX11_judge_59 : decode cX11_judge 59 = .ok (.bipush 40, 2) := by decide +kernel
theorem dX11_judge_61 : decode cX11_judge 61 = .ok (.imul, 1) := by decide +kernel
theorem dX11_judge_62 : decode cX11_judge 62 = .ok (.iload_n 2, 1) := by decide +kernel
theorem dX11_judge_63 : decode cX11_judge 63 = .ok (.iadd, 1) := by decide +kernel
theorem dX11_judge_64 : decode cX11_judge 64 = .ok (.istore_n 3, 1) := by decide +kernel
theorem dX11_judge_65 : decode cX11_judge 65 = .ok (.iconst 0, 1) := by decide +kernel
theorem dX11_judge_66 : decode cX11_judge 66 = .ok (.istore 4, 2) := by decide +kernel
theorem dX11_judge_68 : decode cX11_judge 68 = .ok (.iload 4, 2) := by decide +kernel
theorem dX11_judge_70 : decode cX11_judge 70 = .ok (.aload_n 0, 1) := by decide +kernel
theorem dX11_judge_71 : decode cX11_judge 71 = .ok (.getfield 39, 3) := by decide +kernel
theorem dX11_judge_74 : decode cX11_judge 74 = .ok (.getfield 158, 3) := by decide +kernel
theorem dX11_judge_77 : decode cX11_judge 77 = .ok (.if_icmp .ge 28, 3) := by decide +kernel
theorem dX11_judge_80 : decode cX11_judge 80 = .ok (.aload_n 0, 1) := by decide +kernel
theorem dX11_judge_81 : decode cX11_judge 81 = .ok (.getfield 16, 3) := by decide +kernel
theorem dX11_judge_84 : decode cX11_judge 84 = .ok (.iload_n 3, 1) := by decide +kernel
theorem dX11_judge_85 : decode cX11_judge 85 = .ok (.iload 4, 2) := by decide +kernel
theorem dX11_judge_87 : decode cX11_judge 87 = .ok (.iadd, 1) := by decide +kernel
theorem dX11_judge_88 : decode cX11_judge 88 = .ok (.iaload, 1) := by decide +kernel
theorem dX11_judge_89 : decode cX11_judge 89 = .ok (.invokestatic 186, 3) := by decide +kernel
theorem dX11_judge_92 : decode cX11_judge 92 = .ok (.ifCond .eq 7, 3) := by decide +kernel
theorem dX11_judge_95 : decode cX11_judge 95 = .ok (.ldc2_w 73, 3) := by decide +kernel
theorem dX11_judge_98 : decode cX11_judge 98 = .ok (.lreturn, 1) := by decide +kernel
theorem dX11_judge_99 : decode cX11_judge 99 = .ok (.iinc 4 1, 3) := by decide +kernel
theorem dX11_judge_102 : decode cX11_judge 102 = .ok (.goto (-34), 3) := by decide +kernel
theorem dX11_judge_105 : decode cX11_judge 105 = .ok (.iconst 0, 1) := by decide +kernel
theorem dX11_judge_106 : decode cX11_judge 106 = .ok (.istore 4, 2) := by decide +kernel
theorem dX11_judge_108 : decode cX11_judge 108 = .ok (.iload 4, 2) := by decide +kernel
theorem dX11_judge_110 : decode cX11_judge 110 = .ok (.aload_n 0, 1) := by decide +kernel
theorem dX11_judge_111 : decode cX11_judge 111 = .ok (.getfield 39, 3) := by decide +kernel
theorem dX11_judge_114 : decode cX11_judge 114 = .ok (.getfield 158, 3) := by decide +kernel
theorem dX11_judge_117 : decode cX11_judge 117 = .ok (.if_icmp .ge 39, 3) := by decide +kernel
theorem dX11_judge_120 : decode cX11_judge 120 = .ok (.aload_n 0, 1) := by decide +kernel
theorem dX11_judge_121 : decode cX11_judge 121 = .ok (.getfield 16, 3) := by decide +kernel
theorem dX11_judge_124 : decode cX11_judge 124 = .ok (.iload_n 3, 1) := by decide +kernel
theorem dX11_judge_125 : decode cX11_judge 125 = .ok (.iload 4, 2) := by decide +kernel
theorem dX11_judge_127 : decode cX11_judge 127 = .ok (.iadd, 1) := by decide +kernel
theorem dX11_judge_128 : decode cX11_judge 128 = .ok (.iaload, 1) := by decide +kernel
theorem dX11_judge_129 : decode cX11_judge 129 = .ok (.aload_n 0, 1) := by decide +kernel
theorem dX11_judge_130 : decode cX11_judge 130 = .ok (.getfield 39, 3) := by decide +kernel
theorem dX11_judge_133 : decode cX11_judge 133 = .ok (.getfield 161, 3) := by decide +kernel
theorem dX11_judge_136 : decode cX11_judge 136 = .ok (.iload 4, 2) := by decide +kernel
theorem dX11_judge_138 : decode cX11_judge 138 = .ok (.iaload, 1) := by decide +kernel
theorem dX11_judge_139 : decode cX11_judge 139 = .ok (.if_icmp .eq 11, 3) := by decide +kernel
theorem dX11_judge_142 : decode cX11_judge 142 = .ok (.aload_n 0, 1) := by decide +kernel
theorem dX11_judge_143 : decode cX11_judge 143 = .ok (.iload 4, 2) := by decide +kernel
theorem dX11_judge_145 : decode cX11_judge 145 = .ok (.i2l, 1) := by decide +kernel
theorem dX11_judge_146 : decode cX11_judge 146 = .ok (.invokevirtual 79, 3) := by decide +kernel
theorem dX11_judge_149 : decode cX11_judge 149 = .ok (.lreturn, 1) := by decide +kernel
theorem dX11_judge_150 : decode cX11_judge 150 = .ok (.iinc 4 1, 3) := by decide +kernel
theorem dX11_judge_153 : decode cX11_judge 153 = .ok (.goto (-45), 3) := by decide +kernel
theorem dX11_judge_156 : decode cX11_judge 156 = .ok (.aload_n 0, 1) := by decide +kernel
theorem dX11_judge_157 : decode cX11_judge 157 = .ok (.ldc2_w 164, 3) := by decide +kernel
theorem dX11_judge_160 : decode cX11_judge 160 = .ok (.invokevirtual 79, 3) := by decide +kernel
theorem dX11_judge_163 : decode cX11_judge 163 = .ok (.lreturn, 1) := by decide +kernel
theorem dX11_isNoThing_0 : decode cX11_isNoThing 0 = .ok (.iload_n 1, 1) := by decide +kernel
theorem dX11_isNoThing_1 : decode cX11_isNoThing 1 = .ok (.ifCond .lt 14, 3) := by decide +kernel
theorem dX11_isNoThing_4 : decode cX11_isNoThing 4 = .ok (.iload_n 1, 1) := by decide +kernel
theorem dX11_isNoThing_5 : decode cX11_isNoThing 5 = .ok (.aload_n 0, 1) := by decide +kernel
theorem dX11_isNoThing_6 : decode cX11_isNoThing 6 = .ok (.getfield 39, 3) := by decide +kernel
theorem dX11_isNoThing_9 : decode cX11_isNoThing 9 = .ok (.getfield 158, 3) := by decide +kernel
theorem dX11_isNoThing_12 : decode cX11_isNoThing 12 = .ok (.if_icmp .lt 7, 3) := by decide +kernel
theorem dX11_isNoThing_15 : decode cX11_isNoThing 15 = .ok (.iconst 1, 1) := by decide +kernel
theorem dX11_isNoThing_16 : decode cX11_isNoThing 16 = .ok (.goto 4, 3) := by decide +kernel
theorem dX11_isNoThing_19 : decode cX11_isNoThing 19 = .ok (.iconst 0, 1) := by decide +kernel
theorem dX11_isNoThing_20 : decode cX11_isNoThing 20 = .ok (.ireturn, 1) := by decide +kernel
theorem dX11_isNoDay_0 : decode cX11_isNoDay 0 = .ok (.iload_n 0, 1) := by decide +kernel
theorem dX11_isNoDay_1 : decode cX11_isNoDay 1 = .ok (.ifCond .lt 10, 3) := by decide +kernel
theorem dX11_isNoDay_4 : decode cX11_isNoDay 4 = .ok (.iload_n 0, 1) := by decide +kernel
theorem dX11_isNoDay_5 : decode cX11_isNoDay 5 = .ok (.sipush 999, 3) := by decide +kernel
theorem dX11_isNoDay_8 : decode cX11_isNoDay 8 = .ok (.if_icmp .le 7, 3) := by decide +kernel
theorem dX11_isNoDay_11 : decode cX11_isNoDay 11 = .ok (.iconst 1, 1) := by decide +kernel
theorem dX11_isNoDay_12 : decode cX11_isNoDay 12 = .ok (.goto 4, 3) := by decide +kernel
theorem dX11_isNoDay_15 : decode cX11_isNoDay 15 = .ok (.iconst 0, 1) := by decide +kernel
theorem dX11_isNoDay_16 : decode cX11_isNoDay 16 = .ok (.ireturn, 1) := by decide +kernel
theorem dX11_isNoPurse_0 : decode cX11_isNoPurse 0 = .ok (.iload_n 0, 1) := by decide +kernel
theorem dX11_isNoPurse_1 : decode cX11_isNoPurse 1 = .ok (.ifCond .lt 8, 3) := by decide +kernel
theorem dX11_isNoPurse_4 : decode cX11_isNoPurse 4 = .ok (.iload_n 0, 1) := by decide +kernel
theorem dX11_isNoPurse_5 : decode cX11_isNoPurse 5 = .ok (.iconst 3, 1) := by decide +kernel
theorem dX11_isNoPurse_6 : decode cX11_isNoPurse 6 = .ok (.if_icmp .lt 7, 3) := by decide +kernel
theorem dX11_isNoPurse_9 : decode cX11_isNoPurse 9 = .ok (.iconst 1, 1) := by decide +kernel
theorem dX11_isNoPurse_10 : decode cX11_isNoPurse 10 = .ok (.goto 4, 3) := by decide +kernel
theorem dX11_isNoPurse_13 : decode cX11_isNoPurse 13 = .ok (.iconst 0, 1) := by decide +kernel
theorem dX11_isNoPurse_14 : decode cX11_isNoPurse 14 = .ok (.ireturn, 1) := by decide +kernel
theorem dX11_purse_0 : decode cX11_purse 0 = .ok (.iload_n 1, 1) := by decide +kernel
theorem dX11_purse_1 : decode cX11_purse 1 = .ok (.invokestatic 186, 3) := by decide +kernel
theorem dX11_purse_4 : decode cX11_purse 4 = .ok (.ifCond .eq 7, 3) := by decide +kernel
theorem dX11_purse_7 : decode cX11_purse 7 = .ok (.ldc2_w 73, 3) := by decide +kernel
theorem dX11_purse_10 : decode cX11_purse 10 = .ok (.lreturn, 1) := by decide +kernel
theorem dX11_purse_11 : decode cX11_purse 11 = .ok (.iload_n 2, 1) := by decide +kernel
theorem dX11_purse_12 : decode cX11_purse 12 = .ok (.tableswitch 74 0 3 #[32, 42, 52, 63], 32) := by decide +kernel
theorem dX11_purse_44 : decode cX11_purse 44 = .ok (.aload_n 0, 1) := by decide +kernel
theorem dX11_purse_45 : decode cX11_purse 45 = .ok (.getfield 46, 3) := by decide +kernel
theorem dX11_purse_48 : decode cX11_purse 48 = .ok (.getfield 189, 3) := by decide +kernel
theorem dX11_purse_51 : decode cX11_purse 51 = .ok (.iload_n 1, 1) := by decide +kernel
theorem dX11_purse_52 : decode cX11_purse 52 = .ok (.laload, 1) := by decide +kernel
theorem dX11_purse_53 : decode cX11_purse 53 = .ok (.lreturn, 1) := by decide +kernel
theorem dX11_purse_54 : decode cX11_purse 54 = .ok (.aload_n 0, 1) := by decide +kernel
theorem dX11_purse_55 : decode cX11_purse 55 = .ok (.getfield 46, 3) := by decide +kernel
theorem dX11_purse_58 : decode cX11_purse 58 = .ok (.getfield 193, 3) := by decide +kernel
theorem dX11_purse_61 : decode cX11_purse 61 = .ok (.iload_n 1, 1) := by decide +kernel
theorem dX11_purse_62 : decode cX11_purse 62 = .ok (.laload, 1) := by decide +kernel
theorem dX11_purse_63 : decode cX11_purse 63 = .ok (.lreturn, 1) := by decide +kernel
theorem dX11_purse_64 : decode cX11_purse 64 = .ok (.aload_n 0, 1) := by decide +kernel
theorem dX11_purse_65 : decode cX11_purse 65 = .ok (.getfield 39, 3) := by decide +kernel
theorem dX11_purse_68 : decode cX11_purse 68 = .ok (.getfield 196, 3) := by decide +kernel
theorem dX11_purse_71 : decode cX11_purse 71 = .ok (.iload_n 1, 1) := by decide +kernel
theorem dX11_purse_72 : decode cX11_purse 72 = .ok (.iaload, 1) := by decide +kernel
theorem dX11_purse_73 : decode cX11_purse 73 = .ok (.i2l, 1) := by decide +kernel
theorem dX11_purse_74 : decode cX11_purse 74 = .ok (.lreturn, 1) := by decide +kernel
theorem dX11_purse_75 : decode cX11_purse 75 = .ok (.aload_n 0, 1) := by decide +kernel
theorem dX11_purse_76 : decode cX11_purse 76 = .ok (.getfield 46, 3) := by decide +kernel
theorem dX11_purse_79 : decode cX11_purse 79 = .ok (.getfield 199, 3) := by decide +kernel
theorem dX11_purse_82 : decode cX11_purse 82 = .ok (.iload_n 1, 1) := by decide +kernel
theorem dX11_purse_83 : decode cX11_purse 83 = .ok (.iaload, 1) := by decide +kernel
theorem dX11_purse_84 : decode cX11_purse 84 = .ok (.i2l, 1) := by decide +kernel
theorem dX11_purse_85 : decode cX11_purse 85 = .ok (.lreturn, 1) := by decide +kernel
theorem dX11_purse_86 : decode cX11_purse 86 = .ok (.ldc2_w 73, 3) := by decide +kernel
theorem dX11_purse_89 : decode cX11_purse 89 = .ok (.lreturn, 1) := by decide +kernel
theorem dX11_fed_0 : decode cX11_fed 0 = .ok (.iload_n 1, 1) := by decide +kernel
theorem dX11_fed_1 : decode cX11_fed 1 = .ok (.iload_n 2, 1) := by decide +kernel
theorem dX11_fed_2 : decode cX11_fed 2 = .ok (.invokestatic 202, 3) := by decide +kernel
theorem dX11_fed_5 : decode cX11_fed 5 = .ok (.ifCond .eq 7, 3) := by decide +kernel
theorem dX11_fed_8 : decode cX11_fed 8 = .ok (.ldc2_w 73, 3) := by decide +kernel
theorem dX11_fed_11 : decode cX11_fed 11 = .ok (.lreturn, 1) := by decide +kernel
theorem dX11_fed_12 : decode cX11_fed 12 = .ok (.aload_n 0, 1) := by decide +kernel
theorem dX11_fed_13 : decode cX11_fed 13 = .ok (.getfield 46, 3) := by decide +kernel
theorem dX11_fed_16 : decode cX11_fed 16 = .ok (.getfield 206, 3) := by decide +kernel
theorem dX11_fed_19 : decode cX11_fed 19 = .ok (.iload_n 1, 1) := by decide +kernel
theorem dX11_fed_20 : decode cX11_fed 20 = .ok (.iconst 3, 1) := by decide +kernel
theorem dX11_fed_21 : decode cX11_fed 21 = .ok (.imul, 1) := by decide +kernel
theorem dX11_fed_22 : decode cX11_fed 22 = .ok (.iload_n 2, 1) := by decide +kernel
theorem dX11_fed_23 : decode cX11_fed 23 = .ok (.iadd, 1) := by decide +kernel
theorem dX11_fed_24 : decode cX11_fed 24 = .ok (.laload, 1) := by decide +kernel
theorem dX11_fed_25 : decode cX11_fed 25 = .ok (.lreturn, 1) := by decide +kernel
theorem dX11_owed_0 : decode cX11_owed 0 = .ok (.iload_n 1, 1) := by decide +kernel
theorem dX11_owed_1 : decode cX11_owed 1 = .ok (.iload_n 2, 1) := by decide +kernel
theorem dX11_owed_2 : decode cX11_owed 2 = .ok (.invokestatic 202, 3) := by decide +kernel
theorem dX11_owed_5 : decode cX11_owed 5 = .ok (.ifCond .ne 10, 3) := by decide +kernel
theorem dX11_owed_8 : decode cX11_owed 8 = .ok (.iload_n 3, 1) := by decide +kernel
theorem dX11_owed_9 : decode cX11_owed 9 = .ok (.invokestatic 209, 3) := by decide +kernel
theorem dX11_owed_12 : decode cX11_owed 12 = .ok (.ifCond .eq 7, 3) := by decide +kernel
theorem dX11_owed_15 : decode cX11_owed 15 = .ok (.ldc2_w 73, 3) := by decide +kernel
theorem dX11_owed_18 : decode cX11_owed 18 = .ok (.lreturn, 1) := by decide +kernel
theorem dX11_owed_19 : decode cX11_owed 19 = .ok (.aload_n 0, 1) := by decide +kernel
theorem dX11_owed_20 : decode cX11_owed 20 = .ok (.getfield 130, 3) := by decide +kernel
theorem dX11_owed_23 : decode cX11_owed 23 = .ok (.ifCond .ne 7, 3) := by decide +kernel
theorem dX11_owed_26 : decode cX11_owed 26 = .ok (.ldc2_w 184, 3) := by decide +kernel
theorem dX11_owed_29 : decode cX11_owed 29 = .ok (.lreturn, 1) := by decide +kernel
theorem dX11_owed_30 : decode cX11_owed 30 = .ok (.aload_n 0, 1) := by decide +kernel
theorem dX11_owed_31 : decode cX11_owed 31 = .ok (.getfield 46, 3) := by decide +kernel
theorem dX11_owed_34 : decode cX11_owed 34 = .ok (.getfield 212, 3) := by decide +kernel
theorem dX11_owed_37 : decode cX11_owed 37 = .ok (.iload_n 1, 1) := by decide +kernel
theorem dX11_owed_38 : decode cX11_owed 38 = .ok (.iconst 3, 1) := by decide +kernel
theorem dX11_owed_39 : decode cX11_owed 39 = .ok (.imul, 1) := by decide +kernel
theorem dX11_owed_40 : decode cX11_owed 40 = .ok (.iload_n 2, 1) := by decide +kernel
theorem dX11_owed_41 : decode cX11_owed 41 = .ok (.iadd, 1) := by decide +kernel
theorem dX11_owed_42 : decode cX11_owed 42 = .ok (.laload, 1) := by decide +kernel
theorem dX11_owed_43 : decode cX11_owed 43 = .ok (.aload_n 0, 1) := by decide +kernel
theorem dX11_owed_44 : decode cX11_owed 44 = .ok (.getfield 46, 3) := by decide +kernel
theorem dX11_owed_47 : decode cX11_owed 47 = .ok (.getfield 215, 3) := by decide +kernel
theorem dX11_owed_50 : decode cX11_owed 50 = .ok (.iload_n 3, 1) := by decide +kernel
theorem dX11_owed_51 : decode cX11_owed 51 = .ok (.invokestatic 219, 3) := by decide +kernel
theorem dX11_owed_54 : decode cX11_owed 54 = .ok (.lreturn, 1) := by decide +kernel
theorem dX11_net_0 : decode cX11_net 0 = .ok (.iload_n 1, 1) := by decide +kernel
theorem dX11_net_1 : decode cX11_net 1 = .ok (.invokestatic 186, 3) := by decide +kernel
theorem dX11_net_4 : decode cX11_net 4 = .ok (.ifCond .ne 10, 3) := by decide +kernel
theorem dX11_net_7 : decode cX11_net 7 = .ok (.iload_n 2, 1) := by decide +kernel
theorem dX11_net_8 : decode cX11_net 8 = .ok (.invokestatic 209, 3) := by decide +kernel
theorem dX11_net_11 : decode cX11_net 11 = .ok (.ifCond .eq 7, 3) := by decide +kernel
theorem dX11_net_14 : decode cX11_net 14 = .ok (.ldc2_w 73, 3) := by decide +kernel
theorem dX11_net_17 : decode cX11_net 17 = .ok (.lreturn, 1) := by decide +kernel
theorem dX11_net_18 : decode cX11_net 18 = .ok (.aload_n 0, 1) := by decide +kernel
theorem dX11_net_19 : decode cX11_net 19 = .ok (.getfield 130, 3) := by decide +kernel
theorem dX11_net_22 : decode cX11_net 22 = .ok (.ifCond .ne 7, 3) := by decide +kernel
theorem dX11_net_25 : decode cX11_net 25 = .ok (.ldc2_w 184, 3) := by decide +kernel
theorem dX11_net_28 : decode cX11_net 28 = .ok (.lreturn, 1) := by decide +kernel
theorem dX11_net_29 : decode cX11_net 29 = .ok (.aload_n 0, 1) := by decide +kernel
theorem dX11_net_30 : decode cX11_net 30 = .ok (.getfield 46, 3) := by decide +kernel
theorem dX11_net_33 : decode cX11_net 33 = .ok (.getfield 223, 3) := by decide +kernel
theorem dX11_net_36 : decode cX11_net 36 = .ok (.iload_n 1, 1) := by decide +kernel
theorem dX11_net_37 : decode cX11_net 37 = .ok (.laload, 1) := by decide +kernel
theorem dX11_net_38 : decode cX11_net 38 = .ok (.aload_n 0, 1) := by decide +kernel
theorem dX11_net_39 : decode cX11_net 39 = .ok (.getfield 46, 3) := by decide +kernel
theorem dX11_net_42 : decode cX11_net 42 = .ok (.getfield 215, 3) := by decide +kernel
theorem dX11_net_45 : decode cX11_net 45 = .ok (.iload_n 2, 1) := by decide +kernel
theorem dX11_net_46 : decode cX11_net 46 = .ok (.invokestatic 219, 3) := by decide +kernel
theorem dX11_net_49 : decode cX11_net 49 = .ok (.lreturn, 1) := by decide +kernel
theorem dX11_end_0 : decode cX11_end 0 = .ok (.iload_n 1, 1) := by decide +kernel
theorem dX11_end_1 : decode cX11_end 1 = .ok (.ifCond .lt 15, 3) := by decide +kernel
theorem dX11_end_4 : decode cX11_end 4 = .ok (.iload_n 1, 1) := by decide +kernel
theorem dX11_end_5 : decode cX11_end 5 = .ok (.iconst 1, 1) := by decide +kernel
theorem dX11_end_6 : decode cX11_end 6 = .ok (.if_icmp .gt 10, 3) := by decide +kernel
theorem dX11_end_9 : decode cX11_end 9 = .ok (.iload_n 2, 1) := by decide +kernel
theorem dX11_end_10 : decode cX11_end 10 = .ok (.invokestatic 209, 3) := by decide +kernel
theorem dX11_end_13 : decode cX11_end 13 = .ok (.ifCond .eq 7, 3) := by decide +kernel
theorem dX11_end_16 : decode cX11_end 16 = .ok (.ldc2_w 73, 3) := by decide +kernel
theorem dX11_end_19 : decode cX11_end 19 = .ok (.lreturn, 1) := by decide +kernel
theorem dX11_end_20 : decode cX11_end 20 = .ok (.aload_n 0, 1) := by decide +kernel
theorem dX11_end_21 : decode cX11_end 21 = .ok (.getfield 130, 3) := by decide +kernel
theorem dX11_end_24 : decode cX11_end 24 = .ok (.ifCond .ne 7, 3) := by decide +kernel
theorem dX11_end_27 : decode cX11_end 27 = .ok (.ldc2_w 184, 3) := by decide +kernel
theorem dX11_end_30 : decode cX11_end 30 = .ok (.lreturn, 1) := by decide +kernel
theorem dX11_end_31 : decode cX11_end 31 = .ok (.aload_n 0, 1) := by decide +kernel
theorem dX11_end_32 : decode cX11_end 32 = .ok (.getfield 46, 3) := by decide +kernel
theorem dX11_end_35 : decode cX11_end 35 = .ok (.getfield 226, 3) := by decide +kernel
theorem dX11_end_38 : decode cX11_end 38 = .ok (.iload_n 1, 1) := by decide +kernel
theorem dX11_end_39 : decode cX11_end 39 = .ok (.laload, 1) := by decide +kernel
theorem dX11_end_40 : decode cX11_end 40 = .ok (.aload_n 0, 1) := by decide +kernel
theorem dX11_end_41 : decode cX11_end 41 = .ok (.getfield 46, 3) := by decide +kernel
theorem dX11_end_44 : decode cX11_end 44 = .ok (.invokevirtual 229, 3) := by decide +kernel
theorem dX11_end_47 : decode cX11_end 47 = .ok (.iload_n 2, 1) := by decide +kernel
theorem dX11_end_48 : decode cX11_end 48 = .ok (.invokestatic 219, 3) := by decide +kernel
theorem dX11_end_51 : decode cX11_end 51 = .ok (.lreturn, 1) := by decide +kernel
theorem dX11_areNoPair_0 : decode cX11_areNoPair 0 = .ok (.iload_n 0, 1) := by decide +kernel
theorem dX11_areNoPair_1 : decode cX11_areNoPair 1 = .ok (.invokestatic 186, 3) := by decide +kernel
theorem dX11_areNoPair_4 : decode cX11_areNoPair 4 = .ok (.ifCond .ne 15, 3) := by decide +kernel
theorem dX11_areNoPair_7 : decode cX11_areNoPair 7 = .ok (.iload_n 1, 1) := by decide +kernel
theorem dX11_areNoPair_8 : decode cX11_areNoPair 8 = .ok (.invokestatic 186, 3) := by decide +kernel
theorem dX11_areNoPair_11 : decode cX11_areNoPair 11 = .ok (.ifCond .ne 8, 3) := by decide +kernel
theorem dX11_areNoPair_14 : decode cX11_areNoPair 14 = .ok (.iload_n 0, 1) := by decide +kernel
theorem dX11_areNoPair_15 : decode cX11_areNoPair 15 = .ok (.iload_n 1, 1) := by decide +kernel
theorem dX11_areNoPair_16 : decode cX11_areNoPair 16 = .ok (.if_icmp .ne 7, 3) := by decide +kernel
theorem dX11_areNoPair_19 : decode cX11_areNoPair 19 = .ok (.iconst 1, 1) := by decide +kernel
theorem dX11_areNoPair_20 : decode cX11_areNoPair 20 = .ok (.goto 4, 3) := by decide +kernel
theorem dX11_areNoPair_23 : decode cX11_areNoPair 23 = .ok (.iconst 0, 1) := by decide +kernel
theorem dX11_areNoPair_24 : decode cX11_areNoPair 24 = .ok (.ireturn, 1) := by decide +kernel
theorem dX11_isNoPart_0 : decode cX11_isNoPart 0 = .ok (.iload_n 0, 1) := by decide +kernel
theorem dX11_isNoPart_1 : decode cX11_isNoPart 1 = .ok (.ifCond .lt 8, 3) := by decide +kernel
theorem dX11_isNoPart_4 : decode cX11_isNoPart 4 = .ok (.iload_n 0, 1) := by decide +kernel
theorem dX11_isNoPart_5 : decode cX11_isNoPart 5 = .ok (.iconst 1, 1) := by decide +kernel
theorem dX11_isNoPart_6 : decode cX11_isNoPart 6 = .ok (.if_icmp .le 7, 3) := by decide +kernel
theorem dX11_isNoPart_9 : decode cX11_isNoPart 9 = .ok (.iconst 1, 1) := by decide +kernel
theorem dX11_isNoPart_10 : decode cX11_isNoPart 10 = .ok (.goto 4, 3) := by decide +kernel
theorem dX11_isNoPart_13 : decode cX11_isNoPart 13 = .ok (.iconst 0, 1) := by decide +kernel
theorem dX11_isNoPart_14 : decode cX11_isNoPart 14 = .ok (.ireturn, 1) := by decide +kernel
theorem dX11_partOf_0 : decode cX11_partOf 0 = .ok (.lload_n 0, 1) := by decide +kernel
theorem dX11_partOf_1 : decode cX11_partOf 1 = .ok (.invokestatic 233, 3) := by decide +kernel
theorem dX11_partOf_4 : decode cX11_partOf 4 = .ok (.lload_n 2, 1) := by decide +kernel
theorem dX11_partOf_5 : decode cX11_partOf 5 = .ok (.invokestatic 238, 3) := by decide +kernel
theorem dX11_partOf_8 : decode cX11_partOf 8 = .ok (.lstore 5, 2) := by decide +kernel
theorem dX11_partOf_10 : decode cX11_partOf 10 = .ok (.lload 5, 2) := by decide +kernel
theorem dX11_partOf_12 : decode cX11_partOf 12 = .ok (.lconst 0, 1) := by decide +kernel
theorem dX11_partOf_13 : decode cX11_partOf 13 = .ok (.lcmp, 1) := by decide +kernel
theorem dX11_partOf_14 : decode cX11_partOf 14 = .ok (.ifCond .gt 7, 3) := by decide +kernel
theorem dX11_partOf_17 : decode cX11_partOf 17 = .ok (.iload 4, 2) := by decide +kernel
theorem dX11_partOf_19 : decode cX11_partOf 19 = .ok (.i2l, 1) := by decide +kernel
theorem dX11_partOf_20 : decode cX11_partOf 20 = .ok (.lreturn, 1) := by decide +kernel
theorem dX11_partOf_21 : decode cX11_partOf 21 = .ok (.iload 4, 2) := by decide +kernel
theorem dX11_partOf_23 : decode cX11_partOf 23 = .ok (.ifCond .ne 7, 3) := by decide +kernel
theorem dX11_partOf_26 : decode cX11_partOf 26 = .ok (.lload_n 0, 1) := by decide +kernel
theorem dX11_partOf_27 : decode cX11_partOf 27 = .ok (.goto 4, 3) := by decide +kernel
theorem dX11_partOf_30 : decode cX11_partOf 30 = .ok (.lload_n 2, 1) := by decide +kernel
theorem dX11_partOf_31 : decode cX11_partOf 31 = .ok (.lload 5, 2) := by decide +kernel
theorem dX11_partOf_33 : decode cX11_partOf 33 = .ok (.ldiv, 1) := by decide +kernel
theorem dX11_partOf_34 : decode cX11_partOf 34 = .ok (.lreturn, 1) := by decide +kernel
theorem dX11_commonDivisor_0 : decode cX11_commonDivisor 0 = .ok (.lload_n 0, 1) := by decide +kernel
theorem dX11_commonDivisor_1 : decode cX11_commonDivisor 1 = .ok (.lstore 4, 2) := by decide +kernel
theorem dX11_commonDivisor_3 : decode cX11_commonDivisor 3 = .ok (.lload_n 2, 1) := by decide +kernel
theorem dX11_commonDivisor_4 : decode cX11_commonDivisor 4 = .ok (.lstore 6, 2) := by decide +kernel
theorem dX11_commonDivisor_6 : decode cX11_commonDivisor 6 = .ok (.iconst 0, 1) := by decide +kernel
theorem dX11_commonDivisor_7 : decode cX11_commonDivisor 7 = .ok (.istore 8, 2) := by decide +kernel
theorem dX11_commonDivisor_9 : decode cX11_commonDivisor 9 = .ok (.iload 8, 2) := by decide +kernel
theorem dX11_commonDivisor_11 : decode cX11_commonDivisor 11 = .ok (.sipush 128, 3) := by decide +kernel
theorem dX11_commonDivisor_14 : decode cX11_commonDivisor 14 = .ok (.if_icmp .ge 31, 3) := by decide +kernel
theorem dX11_commonDivisor_17 : decode cX11_commonDivisor 17 = .ok (.lload 6, 2) := by decide +kernel
theorem dX11_commonDivisor_19 : decode cX11_commonDivisor 19 = .ok (.lconst 0, 1) := by decide +kernel
theorem dX11_commonDivisor_20 : decode cX11_commonDivisor 20 = .ok (.lcmp, 1) := by decide +kernel
theorem dX11_commonDivisor_21 : decode cX11_commonDivisor 21 = .ok (.ifCond .eq 24, 3) := by decide +kernel
theorem dX11_commonDivisor_24 : decode cX11_commonDivisor 24 = .ok (.lload 4, 2) := by decide +kernel
theorem dX11_commonDivisor_26 : decode cX11_commonDivisor 26 = .ok (.lload 6, 2) := by decide +kernel
theorem dX11_commonDivisor_28 : decode cX11_commonDivisor 28 = .ok (.lrem, 1) := by decide +kernel
theorem dX11_commonDivisor_29 : decode cX11_commonDivisor 29 = .ok (.lstore 9, 2) := by decide +kernel
theorem dX11_commonDivisor_31 : decode cX11_commonDivisor 31 = .ok (.lload 6, 2) := by decide +kernel
theorem dX11_commonDivisor_33 : decode cX11_commonDivisor 33 = .ok (.lstore 4, 2) := by decide +kernel
theorem dX11_commonDivisor_35 : decode cX11_commonDivisor 35 = .ok (.lload 9, 2) := by decide +kernel
theorem dX11_commonDivisor_37 : decode cX11_commonDivisor 37 = .ok (.lstore 6, 2) := by decide +kernel
theorem dX11_commonDivisor_39 : decode cX11_commonDivisor 39 = .ok (.iinc 8 1, 3) := by decide +kernel
theorem dX11_commonDivisor_42 : decode cX11_commonDivisor 42 = .ok (.goto (-33), 3) := by decide +kernel
theorem dX11_commonDivisor_45 : decode cX11_commonDivisor 45 = .ok (.lload 4, 2) := by decide +kernel
theorem dX11_commonDivisor_47 : decode cX11_commonDivisor 47 = .ok (.lreturn, 1) := by decide +kernel
theorem dX11_beside_0 : decode cX11_beside 0 = .ok (.aload_n 0, 1) := by decide +kernel
theorem dX11_beside_1 : decode cX11_beside 1 = .ok (.getfield 130, 3) := by decide +kernel
theorem dX11_beside_4 : decode cX11_beside 4 = .ok (.ifCond .ne 7, 3) := by decide +kernel
theorem dX11_beside_7 : decode cX11_beside 7 = .ok (.ldc2_w 184, 3) := by decide +kernel
theorem dX11_beside_10 : decode cX11_beside 10 = .ok (.lreturn, 1) := by decide +kernel
theorem dX11_beside_11 : decode cX11_beside 11 = .ok (.iload_n 1, 1) := by decide +kernel
theorem dX11_beside_12 : decode cX11_beside 12 = .ok (.ifCond .lt 28, 3) := by decide +kernel
theorem dX11_beside_15 : decode cX11_beside 15 = .ok (.iload_n 1, 1) := by decide +kernel
theorem dX11_beside_16 : decode cX11_beside 16 = .ok (.aload_n 0, 1) := by decide +kernel
theorem dX11_beside_17 : decode cX11_beside 17 = .ok (.getfield 29, 3) := by decide +kernel
theorem dX11_beside_20 : decode cX11_beside 20 = .ok (.getfield 242, 3) := by decide +kernel
theorem dX11_beside_23 : decode cX11_beside 23 = .ok (.if_icmp .ge 17, 3) := by decide +kernel
theorem dX11_beside_26 : decode cX11_beside 26 = .ok (.iload_n 2, 1) := by decide +kernel
theorem dX11_beside_27 : decode cX11_beside 27 = .ok (.invokestatic 151, 3) := by decide +kernel
theorem dX11_beside_30 : decode cX11_beside 30 = .ok (.ifCond .ne 10, 3) := by decide +kernel
theorem dX11_beside_33 : decode cX11_beside 33 = .ok (.iload_n 3, 1) := by decide +kernel
theorem dX11_beside_34 : decode cX11_beside 34 = .ok (.invokestatic 209, 3) := by decide +kernel
theorem dX11_beside_37 : decode cX11_beside 37 = .ok (.ifCond .eq 7, 3) := by decide +kernel
theorem dX11_beside_40 : decode cX11_beside 40 = .ok (.ldc2_w 73, 3) := by decide +kernel
theorem dX11_beside_43 : decode cX11_beside 43 = .ok (.lreturn, 1) := by decide +kernel
theorem dX11_beside_44 : decode cX11_beside 44 = .ok (.aload_n 0, 1) := by decide +kernel
theorem dX11_beside_45 : decode cX11_beside 45 = .ok (.getfield 29, 3) := by decide +kernel
theorem dX11_beside_48 : decode cX11_beside 48 = .ok (.iload_n 2, 1) := by decide +kernel
theorem dX11_beside_49 : decode cX11_beside 49 = .ok (.invokevirtual 154, 3) := by decide +kernel
theorem dX11_beside_52 : decode cX11_beside 52 = .ok (.istore 4, 2) := by decide +kernel
theorem dX11_beside_54 : decode cX11_beside 54 = .ok (.aload_n 0, 1) := by decide +kernel
theorem dX11_beside_55 : decode cX11_beside 55 = .ok (.getfield 50, 3) := by decide +kernel
theorem dX11_beside_58 : decode cX11_beside 58 = .ok (.aload_n 0, 1) := by decide +kernel
theorem dX11_beside_59 : decode cX11_beside 59 = .ok (.getfield 29, 3) := by decide +kernel
theorem dX11_beside_62 : decode cX11_beside 62 = .ok (.invokevirtual 134, 3) := by decide +kernel
theorem dX11_beside_65 : decode cX11_beside 65 = .ok (.aload_n 0, 1) := by decide +kernel
theorem dX11_beside_66 : decode cX11_beside 66 = .ok (.getfield 50, 3) := by decide +kernel
theorem dX11_beside_69 : decode cX11_beside 69 = .ok (.iconst 0, 1) := by decide +kernel
theorem dX11_beside_70 : decode cX11_beside 70 = .ok (.iload 4, 2) := by decide +kernel
theorem dX11_beside_72 : decode cX11_beside 72 = .ok (.invokevirtual 140, 3) := by decide +kernel
theorem dX11_beside_75 : decode cX11_beside 75 = .ok (.aload_n 0, 1) := by decide +kernel
theorem dX11_beside_76 : decode cX11_beside 76 = .ok (.getfield 50, 3) := by decide +kernel
theorem dX11_beside_79 : decode cX11_beside 79 = .ok (.iload_n 1, 1) := by decide +kernel
theorem dX11_beside_80 : decode cX11_beside 80 = .ok (.ldc 245, 2) := by decide +kernel
theorem dX11_beside_82 : decode cX11_beside 82 = .ok (.invokevirtual 246, 3) := by decide +kernel
theorem dX11_beside_85 : decode cX11_beside 85 = .ok (.aload_n 0, 1) := by decide +kernel
theorem dX11_beside_86 : decode cX11_beside 86 = .ok (.getfield 50, 3) := by decide +kernel
theorem dX11_beside_89 : decode cX11_beside 89 = .ok (.iload 4, 2) := by decide +kernel
theorem dX11_beside_91 : decode cX11_beside 91 = .ok (.aload_n 0, 1) := by decide +kernel
theorem dX11_beside_92 : decode cX11_beside 92 = .ok (.getfield 29, 3) := by decide +kernel
theorem dX11_beside_95 : decode cX11_beside 95 = .ok (.getfield 137, 3) := by decide +kernel
theorem dX11_beside_98 : decode cX11_beside 98 = .ok (.invokevirtual 140, 3) := by decide +kernel
theorem dX11_beside_101 : decode cX11_beside 101 = .ok (.aload_n 0, 1) := by decide +kernel
theorem dX11_beside_102 : decode cX11_beside 102 = .ok (.getfield 53, 3) := by decide +kernel
theorem dX11_beside_105 : decode cX11_beside 105 = .ok (.aload_n 0, 1) := by decide +kernel
theorem dX11_beside_106 : decode cX11_beside 106 = .ok (.getfield 50, 3) := by decide +kernel
theorem dX11_beside_109 : decode cX11_beside 109 = .ok (.invokevirtual 144, 3) := by decide +kernel
theorem dX11_beside_112 : decode cX11_beside 112 = .ok (.aload_n 0, 1) := by decide +kernel
theorem dX11_beside_113 : decode cX11_beside 113 = .ok (.getfield 53, 3) := by decide +kernel
theorem dX11_beside_116 : decode cX11_beside 116 = .ok (.getfield 226, 3) := by decide +kernel
theorem dX11_beside_119 : decode cX11_beside 119 = .ok (.iconst 0, 1) := by decide +kernel
theorem dX11_beside_120 : decode cX11_beside 120 = .ok (.laload, 1) := by decide +kernel
theorem dX11_beside_121 : decode cX11_beside 121 = .ok (.aload_n 0, 1) := by decide +kernel
theorem dX11_beside_122 : decode cX11_beside 122 = .ok (.getfield 53, 3) := by decide +kernel
theorem dX11_beside_125 : decode cX11_beside 125 = .ok (.invokevirtual 229, 3) := by decide +kernel
theorem dX11_beside_128 : decode cX11_beside 128 = .ok (.iload_n 3, 1) := by decide +kernel
theorem dX11_beside_129 : decode cX11_beside 129 = .ok (.invokestatic 219, 3) := by decide +kernel
theorem dX11_beside_132 : decode cX11_beside 132 = .ok (.lreturn, 1) := by decide +kernel
theorem dX11_hangs_0 : decode cX11_hangs 0 = .ok (.aload_n 0, 1) := by decide +kernel
theorem dX11_hangs_1 : decode cX11_hangs 1 = .ok (.getfield 130, 3) := by decide +kernel
theorem dX11_hangs_4 : decode cX11_hangs 4 = .ok (.ifCond .ne 7, 3) := by decide +kernel
theorem dX11_hangs_7 : decode cX11_hangs 7 = .ok (.ldc2_w 184, 3) := by decide +kernel
theorem dX11_hangs_10 : decode cX11_hangs 10 = .ok (.lreturn, 1) := by decide +kernel
theorem dX11_hangs_11 : decode cX11_hangs 11 = .ok (.aload_n 0, 1) := by decide +kernel
theorem dX11_hangs_12 : decode cX11_hangs 12 = .ok (.getfield 46, 3) := by decide +kernel
theorem dX11_hangs_15 : decode cX11_hangs 15 = .ok (.invokevirtual 249, 3) := by decide +kernel
theorem dX11_hangs_18 : decode cX11_hangs 18 = .ok (.lstore_n 1, 1) := by decide +kernel
theorem dX11_hangs_19 : decode cX11_hangs 19 = .ok (.ldc2_w 252, 3) := by decide +kernel
theorem dX11_hangs_22 : decode cX11_hangs 22 = .ok (.lstore_n 3, 1) := by decide +kernel
theorem dX11_hangs_23 : decode cX11_hangs 23 = .ok (.ldc 245, 2) := by decide +kernel
theorem dX11_hangs_25 : decode cX11_hangs 25 = .ok (.istore 5, 2) := by decide +kernel
theorem dX11_hangs_27 : decode cX11_hangs 27 = .ok (.iconst 0, 1) := by decide +kernel
theorem dX11_hangs_28 : decode cX11_hangs 28 = .ok (.istore 6, 2) := by decide +kernel
theorem dX11_hangs_30 : decode cX11_hangs 30 = .ok (.iload 6, 2) := by decide +kernel
theorem dX11_hangs_32 : decode cX11_hangs 32 = .ok (.aload_n 0, 1) := by decide +kernel
theorem dX11_hangs_33 : decode cX11_hangs 33 = .ok (.getfield 29, 3) := by decide +kernel
theorem dX11_hangs_36 : decode cX11_hangs 36 = .ok (.getfield 137, 3) := by decide +kernel
theorem dX11_hangs_39 : decode cX11_hangs 39 = .ok (.if_icmp .ge 48, 3) := by decide +kernel
theorem dX11_hangs_42 : decode cX11_hangs 42 = .ok (.aload_n 0, 1) := by decide +kernel
theorem dX11_hangs_43 : decode cX11_hangs 43 = .ok (.getfield 29, 3) := by decide +kernel
theorem dX11_hangs_46 : decode cX11_hangs 46 = .ok (.iload 6, 2) := by decide +kernel
theorem dX11_hangs_48 : decode cX11_hangs 48 = .ok (.invokevirtual 254, 3) := by decide +kernel
theorem dX11_hangs_51 : decode cX11_hangs 51 = .ok (.ifCond .eq 30, 3) := by decide +kernel
theorem dX11_hangs_54 : decode cX11_hangs 54 = .ok (.aload_n 0, 1) := by decide +kernel
theorem dX11_hangs_55 : decode cX11_hangs 55 = .ok (.iload 6, 2) := by decide +kernel
theorem dX11_hangs_57 : decode cX11_hangs 57 = .ok (.invokevirtual 257, 3) := by decide +kernel
theorem dX11_hangs_60 : decode cX11_hangs 60 = .ok (.lload_n 1, 1) := by decide +kernel
theorem dX11_hangs_61 : decode cX11_hangs 61 = .ok (.lsub, 1) := by decide +kernel
theorem dX11_hangs_62 : decode cX11_hangs 62 = .ok (.invokestatic 233, 3) := by decide +kernel
theorem dX11_hangs_65 : decode cX11_hangs 65 = .ok (.lstore 7, 2) := by decide +kernel
theorem dX11_hangs_67 : decode cX11_hangs 67 = .ok (.lload 7, 2) := by decide +kernel
theorem dX11_hangs_69 : decode cX11_hangs 69 = .ok (.lload_n 3, 1) := by decide +kernel
theorem dX11_hangs_70 : decode cX11_hangs 70 = .ok (.lcmp, 1) := by decide +kernel
theorem dX11_hangs_71 : decode cX11_hangs 71 = .ok (.ifCond .le 10, 3) := by decide +kernel
theorem dX11_hangs_74 : decode cX11_hangs 74 = .ok (.lload 7, 2) := by decide +kernel
theorem dX11_hangs_76 : decode cX11_hangs 76 = .ok (.lstore_n 3, 1) := by decide +kernel
theorem dX11_hangs_77 : decode cX11_hangs 77 = .ok (.iload 6, 2) := by decide +kernel
theorem dX11_hangs_79 : decode cX11_hangs 79 = .ok (.istore 5, 2) := by decide +kernel
theorem dX11_hangs_81 : decode cX11_hangs 81 = .ok (.iinc 6 1, 3) := by decide +kernel
theorem dX11_hangs_84 : decode cX11_hangs 84 = .ok (.goto (-54), 3) := by decide +kernel
theorem dX11_hangs_87 : decode cX11_hangs 87 = .ok (.iload 5, 2) := by decide +kernel
theorem dX11_hangs_89 : decode cX11_hangs 89 = .ok (.i2l, 1) := by decide +kernel
theorem dX11_hangs_90 : decode cX11_hangs 90 = .ok (.lreturn, 1) := by decide +kernel
theorem dX11_herEndWithout_0 : decode cX11_herEndWithout 0 = .ok (.aload_n 0, 1) := by decide +kernel
theorem dX11_herEndWithout_1 : decode cX11_herEndWithout 1 = .ok (.getfield 50, 3) := by decide +kernel
theorem dX11_herEndWithout_4 : decode cX11_herEndWithout 4 = .ok (.aload_n 0, 1) := by decide +kernel
theorem dX11_herEndWithout_5 : decode cX11_herEndWithout 5 = .ok (.getfield 29, 3) := by decide +kernel
theorem dX11_herEndWithout_8 : decode cX11_herEndWithout 8 = .ok (.invokevirtual 134, 3) := by decide +kernel
theorem dX11_herEndWithout_11 : decode cX11_herEndWithout 11 = .ok (.aload_n 0, 1) := by decide +kernel
theorem dX11_herEndWithout_12 : decode cX11_herEndWithout 12 = .ok (.getfield 50, 3) := by decide +kernel
theorem dX11_herEndWithout_15 : decode cX11_herEndWithout 15 = .ok (.iconst 0, 1) := by decide +kernel
theorem dX11_herEndWithout_16 : decode cX11_herEndWithout 16 = .ok (.iload_n 1, 1) := by decide +kernel
theorem dX11_herEndWithout_17 : decode cX11_herEndWithout 17 = .ok (.invokevirtual 140, 3) := by decide +kernel
theorem dX11_herEndWithout_20 : decode cX11_herEndWithout 20 = .ok (.aload_n 0, 1) := by decide +kernel
theorem dX11_herEndWithout_21 : decode cX11_herEndWithout 21 = .ok (.getfield 50, 3) := by decide +kernel
theorem dX11_herEndWithout_24 : decode cX11_herEndWithout 24 = .ok (.iload_n 1, 1) := by decide +kernel
theorem dX11_herEndWithout_25 : decode cX11_herEndWithout 25 = .ok (.iconst 1, 1) := by decide +kernel
theorem dX11_herEndWithout_26 : decode cX11_herEndWithout 26 = .ok (.iadd, 1) := by decide +kernel
theorem dX11_herEndWithout_27 : decode cX11_herEndWithout 27 = .ok (.aload_n 0, 1) := by decide +kernel
theorem dX11_herEndWithout_28 : decode cX11_herEndWithout 28 = .ok (.getfield 29, 3) := by decide +kernel
theorem dX11_herEndWithout_31 : decode cX11_herEndWithout 31 = .ok (.getfield 137, 3) := by decide +kernel
theorem dX11_herEndWithout_34 : decode cX11_herEndWithout 34 = .ok (.invokevirtual 140, 3) := by decide +kernel
theorem dX11_herEndWithout_37 : decode cX11_herEndWithout 37 = .ok (.aload_n 0, 1) := by decide +kernel
theorem dX11_herEndWithout_38 : decode cX11_herEndWithout 38 = .ok (.getfield 53, 3) := by decide +kernel
theorem dX11_herEndWithout_41 : decode cX11_herEndWithout 41 = .ok (.aload_n 0, 1) := by decide +kernel
theorem dX11_herEndWithout_42 : decode cX11_herEndWithout 42 = .ok (.getfield 50, 3) := by decide +kernel
theorem dX11_herEndWithout_45 : decode cX11_herEndWithout 45 = .ok (.invokevirtual 144, 3) := by decide +kernel
theorem dX11_herEndWithout_48 : decode cX11_herEndWithout 48 = .ok (.aload_n 0, 1) := by decide +kernel
theorem dX11_herEndWithout_49 : decode cX11_herEndWithout 49 = .ok (.getfield 53, 3) := by decide +kernel
theorem dX11_herEndWithout_52 : decode cX11_herEndWithout 52 = .ok (.invokevirtual 249, 3) := by decide +kernel
theorem dX11_herEndWithout_55 : decode cX11_herEndWithout 55 = .ok (.lreturn, 1) := by decide +kernel
theorem dX11_beforehand_0 : decode cX11_beforehand 0 = .ok (.iload_n 1, 1) := by decide +kernel
theorem dX11_beforehand_1 : decode cX11_beforehand 1 = .ok (.invokestatic 260, 3) := by decide +kernel
theorem dX11_beforehand_4 : decode cX11_beforehand 4 = .ok (.ifCond .ne 10, 3) := by decide +kernel
theorem dX11_beforehand_7 : decode cX11_beforehand 7 = .ok (.iload_n 2, 1) := by decide +kernel
theorem dX11_beforehand_8 : decode cX11_beforehand 8 = .ok (.invokestatic 260, 3) := by decide +kernel
theorem dX11_beforehand_11 : decode cX11_beforehand 11 = .ok (.ifCond .eq 7, 3) := by decide +kernel
theorem dX11_beforehand_14 : decode cX11_beforehand 14 = .ok (.ldc2_w 73, 3) := by decide +kernel
theorem dX11_beforehand_17 : decode cX11_beforehand 17 = .ok (.lreturn, 1) := by decide +kernel
theorem dX11_beforehand_18 : decode cX11_beforehand 18 = .ok (.aload_n 0, 1) := by decide +kernel
theorem dX11_beforehand_19 : decode cX11_beforehand 19 = .ok (.getfield 130, 3) := by decide +kernel
theorem dX11_beforehand_22 : decode cX11_beforehand 22 = .ok (.ifCond .ne 7, 3) := by decide +kernel
theorem dX11_beforehand_25 : decode cX11_beforehand 25 = .ok (.ldc2_w 184, 3) := by decide +kernel
theorem dX11_beforehand_28 : decode cX11_beforehand 28 = .ok (.lreturn, 1) := by decide +kernel
theorem dX11_beforehand_29 : decode cX11_beforehand 29 = .ok (.aload_n 0, 1) := by decide +kernel
theorem dX11_beforehand_30 : decode cX11_beforehand 30 = .ok (.getfield 46, 3) := by decide +kernel
theorem dX11_beforehand_33 : decode cX11_beforehand 33 = .ok (.iload_n 1, 1) := by decide +kernel
theorem dX11_beforehand_34 : decode cX11_beforehand 34 = .ok (.iload_n 2, 1) := by decide +kernel
theorem dX11_beforehand_35 : decode cX11_beforehand 35 = .ok (.invokevirtual 263, 3) := by decide +kernel
theorem dX11_beforehand_38 : decode cX11_beforehand 38 = .ok (.ifCond .eq 7, 3) := by decide +kernel
theorem dX11_beforehand_41 : decode cX11_beforehand 41 = .ok (.ldc2_w 266, 3) := by decide +kernel
theorem dX11_beforehand_44 : decode cX11_beforehand 44 = .ok (.lreturn, 1) := by decide +kernel
theorem dX11_beforehand_45 : decode cX11_beforehand 45 = .ok (.iconst 0, 1) := by decide +kernel
theorem dX11_beforehand_46 : decode cX11_beforehand 46 = .ok (.istore_n 3, 1) := by decide +kernel
theorem dX11_beforehand_47 : decode cX11_beforehand 47 = .ok (.iload_n 3, 1) := by decide +kernel
theorem dX11_beforehand_48 : decode cX11_beforehand 48 = .ok (.iconst 5, 1) := by decide +kernel
theorem dX11_beforehand_49 : decode cX11_beforehand 49 = .ok (.if_icmp .ge 92, 3) := by decide +kernel
theorem dX11_beforehand_52 : decode cX11_beforehand 52 = .ok (.iconst 0, 1) := by decide +kernel
theorem dX11_beforehand_53 : decode cX11_beforehand 53 = .ok (.istore 4, 2) := by decide +kernel
theorem dX11_beforehand_55 : decode cX11_beforehand 55 = .ok (.iload 4, 2) := by decide +kernel
theorem dX11_beforehand_57 : decode cX11_beforehand 57 = .ok (.iconst 3, 1) := by decide +kernel
theorem dX11_beforehand_58 : decode cX11_beforehand 58 = .ok (.if_icmp .ge 77, 3) := by decide +kernel
theorem dX11_beforehand_61 : decode cX11_beforehand 61 = .ok (.aload_n 0, 1) := by decide +kernel
theorem dX11_beforehand_62 : decode cX11_beforehand 62 = .ok (.getfield 50, 3) := by decide +kernel
theorem dX11_beforehand_65 : decode cX11_beforehand 65 = .ok (.aload_n 0, 1) := by decide +kernel
theorem dX11_beforehand_66 : decode cX11_beforehand 66 = .ok (.getfield 29, 3) := by decide +kernel
theorem dX11_beforehand_69 : decode cX11_beforehand 69 = .ok (.invokevirtual 134, 3) := by decide +kernel
theorem dX11_beforehand_72 : decode cX11_beforehand 72 = .ok (.aload_n 0, 1) := by decide +kernel
theorem dX11_beforehand_73 : decode cX11_beforehand 73 = .ok (.getfield 50, 3) := by decide +kernel
theorem dX11_beforehand_76 : decode cX11_beforehand 76 = .ok (.getfield 268, 3) := by decide +kernel
theorem dX11_beforehand_79 : decode cX11_beforehand 79 = .ok (.iload_n 3, 1) := by decide +kernel
theorem dX11_beforehand_80 : decode cX11_beforehand 80 = .ok (.iload 4, 2) := by decide +kernel
theorem dX11_beforehand_82 : decode cX11_beforehand 82 = .ok (.iastore, 1) := by decide +kernel
theorem dX11_beforehand_83 : decode cX11_beforehand 83 = .ok (.aload_n 0, 1) := by decide +kernel
theorem dX11_beforehand_84 : decode cX11_beforehand 84 = .ok (.getfield 50, 3) := by decide +kernel
theorem dX11_beforehand_87 : decode cX11_beforehand 87 = .ok (.iconst 0, 1) := by decide +kernel
theorem dX11_beforehand_88 : decode cX11_beforehand 88 = .ok (.aload_n 0, 1) := by decide +kernel
theorem dX11_beforehand_89 : decode cX11_beforehand 89 = .ok (.getfield 29, 3) := by decide +kernel
theorem dX11_beforehand_92 : decode cX11_beforehand 92 = .ok (.getfield 137, 3) := by decide +kernel
theorem dX11_beforehand_95 : decode cX11_beforehand 95 = .ok (.invokevirtual 140, 3) := by decide +kernel
theorem dX11_beforehand_98 : decode cX11_beforehand 98 = .ok (.aload_n 0, 1) := by decide +kernel
theorem dX11_beforehand_99 : decode cX11_beforehand 99 = .ok (.getfield 53, 3) := by decide +kernel
theorem dX11_beforehand_102 : decode cX11_beforehand 102 = .ok (.aload_n 0, 1) := by decide +kernel
theorem dX11_beforehand_103 : decode cX11_beforehand 103 = .ok (.getfield 50, 3) := by decide +kernel
theorem dX11_beforehand_106 : decode cX11_beforehand 106 = .ok (.invokevirtual 144, 3) := by decide +kernel
theorem dX11_beforehand_109 : decode cX11_beforehand 109 = .ok (.aload_n 0, 1) := by decide +kernel
theorem dX11_beforehand_110 : decode cX11_beforehand 110 = .ok (.getfield 53, 3) := by decide +kernel
theorem dX11_beforehand_113 : decode cX11_beforehand 113 = .ok (.iload_n 1, 1) := by decide +kernel
theorem dX11_beforehand_114 : decode cX11_beforehand 114 = .ok (.iload_n 2, 1) := by decide +kernel
theorem dX11_beforehand_115 : decode cX11_beforehand 115 = .ok (.invokevirtual 263, 3) := by decide +kernel
theorem dX11_beforehand_118 : decode cX11_beforehand 118 = .ok (.ifCond .eq 11, 3) := by decide +kernel
theorem dX11_beforehand_121 : decode cX11_beforehand 121 = .ok (.iload_n 3, 1) := by decide +kernel
theorem dX11_beforehand_122 : decode cX11_beforehand 122 = .ok (.iconst 3, 1) := by decide +kernel
theorem dX11_beforehand_123 : decode cX11_beforehand 123 = .ok (.imul, 1) := by decide +kernel
theorem dX11_beforehand_124 : decode cX11_beforehand 124 = .ok (.iload 4, 2) := by decide +kernel
theorem dX11_beforehand_126 : decode cX11_beforehand 126 = .ok (.iadd, 1) := by decide +kernel
theorem dX11_beforehand_127 : decode cX11_beforehand 127 = .ok (.i2l, 1) := by decide +kernel
theorem dX11_beforehand_128 : decode cX11_beforehand 128 = .ok (.lreturn, 1) := by decide +kernel
theorem dX11_beforehand_129 : decode cX11_beforehand 129 = .ok (.iinc 4 1, 3) := by decide +kernel
theorem dX11_beforehand_132 : decode cX11_beforehand 132 = .ok (.goto (-77), 3) := by decide +kernel
theorem dX11_beforehand_135 : decode cX11_beforehand 135 = .ok (.iinc 3 1, 3) := by decide +kernel
theorem dX11_beforehand_138 : decode cX11_beforehand 138 = .ok (.goto (-91), 3) := by decide +kernel
theorem dX11_beforehand_141 : decode cX11_beforehand 141 = .ok (.ldc2_w 164, 3) := by decide +kernel
theorem dX11_beforehand_144 : decode cX11_beforehand 144 = .ok (.lreturn, 1) := by decide +kernel
theorem dX11_isNoWish_0 : decode cX11_isNoWish 0 = .ok (.iload_n 0, 1) := by decide +kernel
theorem dX11_isNoWish_1 : decode cX11_isNoWish 1 = .ok (.sipush (-9999), 3) := by decide +kernel
theorem dX11_isNoWish_4 : decode cX11_isNoWish 4 = .ok (.if_icmp .lt 10, 3) := by decide +kernel
theorem dX11_isNoWish_7 : decode cX11_isNoWish 7 = .ok (.iload_n 0, 1) := by decide +kernel
theorem dX11_isNoWish_8 : decode cX11_isNoWish 8 = .ok (.sipush 9999, 3) := by decide +kernel
theorem dX11_isNoWish_11 : decode cX11_isNoWish 11 = .ok (.if_icmp .le 7, 3) := by decide +kernel
theorem dX11_isNoWish_14 : decode cX11_isNoWish 14 = .ok (.iconst 1, 1) := by decide +kernel
theorem dX11_isNoWish_15 : decode cX11_isNoWish 15 = .ok (.goto 4, 3) := by decide +kernel
theorem dX11_isNoWish_18 : decode cX11_isNoWish 18 = .ok (.iconst 0, 1) := by decide +kernel
theorem dX11_isNoWish_19 : decode cX11_isNoWish 19 = .ok (.ireturn, 1) := by decide +kernel
theorem dX11_kind_0 : decode cX11_kind 0 = .ok (.aload_n 0, 1) := by decide +kernel
theorem dX11_kind_1 : decode cX11_kind 1 = .ok (.iload_n 1, 1) := by decide +kernel
theorem dX11_kind_2 : decode cX11_kind 2 = .ok (.invokevirtual 148, 3) := by decide +kernel
theorem dX11_kind_5 : decode cX11_kind 5 = .ok (.ifCond .eq 7, 3) := by decide +kernel
theorem dX11_kind_8 : decode cX11_kind 8 = .ok (.ldc2_w 73, 3) := by decide +kernel
theorem dX11_kind_11 : decode cX11_kind 11 = .ok (.lreturn, 1) := by decide +kernel
theorem dX11_kind_12 : decode cX11_kind 12 = .ok (.aload_n 0, 1) := by decide +kernel
theorem dX11_kind_13 : decode cX11_kind 13 = .ok (.iload_n 1, 1) := by decide +kernel
theorem dX11_kind_14 : decode cX11_kind 14 = .ok (.invokevirtual 271, 3) := by decide +kernel
theorem dX11_kind_17 : decode cX11_kind 17 = .ok (.astore_n 2, 1) := by decide +kernel
theorem dX11_kind_18 : decode cX11_kind 18 = .ok (.iconst 5, 1) := by decide +kernel
theorem dX11_kind_19 : decode cX11_kind 19 = .ok (.istore_n 3, 1) := by decide +kernel
theorem dX11_kind_20 : decode cX11_kind 20 = .ok (.iload_n 3, 1) := by decide +kernel
theorem dX11_kind_21 : decode cX11_kind 21 = .ok (.ifCond .le 20, 3) := by decide +kernel
theorem dX11_kind_24 : decode cX11_kind 24 = .ok (.aload_n 2, 1) := by decide +kernel
theorem dX11_kind_25 : decode cX11_kind 25 = .ok (.iload_n 3, 1) := by decide +kernel
theorem dX11_kind_26 : decode cX11_kind 26 = .ok (.invokestatic 275, 3) := by decide +kernel
theorem dX11_kind_29 : decode cX11_kind 29 = .ok (.ifCond .eq 6, 3) := by decide +kernel
theorem dX11_kind_32 : decode cX11_kind 32 = .ok (.iload_n 3, 1) := by decide +kernel
theorem dX11_kind_33 : decode cX11_kind 33 = .ok (.i2l, 1) := by decide +kernel
theorem dX11_kind_34 : decode cX11_kind 34 = .ok (.lreturn, 1) := by decide +kernel
theorem dX11_kind_35 : decode cX11_kind 35 = .ok (.iinc 3 (-1), 3) := by decide +kernel
theorem dX11_kind_38 : decode cX11_kind 38 = .ok (.goto (-18), 3) := by decide +kernel
theorem dX11_kind_41 : decode cX11_kind 41 = .ok (.lconst 0, 1) := by decide +kernel
theorem dX11_kind_42 : decode cX11_kind 42 = .ok (.lreturn, 1) := by decide +kernel
theorem dX11_as_0 : decode cX11_as 0 = .ok (.aload_n 0, 1) := by decide +kernel
theorem dX11_as_1 : decode cX11_as 1 = .ok (.iload_n 1, 1) := by decide +kernel
theorem dX11_as_2 : decode cX11_as 2 = .ok (.invokevirtual 148, 3) := by decide +kernel
theorem dX11_as_5 : decode cX11_as 5 = .ok (.ifCond .ne 13, 3) := by decide +kernel
theorem dX11_as_8 : decode cX11_as 8 = .ok (.iload_n 2, 1) := by decide +kernel
theorem dX11_as_9 : decode cX11_as 9 = .ok (.ifCond .lt 9, 3) := by decide +kernel
theorem dX11_as_12 : decode cX11_as 12 = .ok (.iload_n 2, 1) := by decide +kernel
theorem dX11_as_13 : decode cX11_as 13 = .ok (.bipush 6, 2) := by decide +kernel
theorem dX11_as_15 : decode cX11_as 15 = .ok (.if_icmp .lt 7, 3) := by decide +kernel
theorem dX11_as_18 : decode cX11_as 18 = .ok (.ldc2_w 73, 3) := by decide +kernel
theorem dX11_as_21 : decode cX11_as 21 = .ok (.lreturn, 1) := by decide +kernel
theorem dX11_as_22 : decode cX11_as 22 = .ok (.aload_n 0, 1) := by decide +kernel
theorem dX11_as_23 : decode cX11_as 23 = .ok (.iload_n 1, 1) := by decide +kernel
theorem dX11_as_24 : decode cX11_as 24 = .ok (.invokevirtual 271, 3) := by decide +kernel
theorem dX11_as_27 : decode cX11_as 27 = .ok (.iload_n 2, 1) := by decide +kernel
theorem dX11_as_28 : decode cX11_as 28 = .ok (.invokestatic 275, 3) := by decide +kernel
theorem dX11_as_31 : decode cX11_as 31 = .ok (.ifCond .eq 12, 3) := by decide +kernel
theorem dX11_as_34 : decode cX11_as 34 = .ok (.aload_n 0, 1) := by decide +kernel
theorem dX11_as_35 : decode cX11_as 35 = .ok (.iload_n 1, 1) := by decide +kernel
theorem dX11_as_36 : decode cX11_as 36 = .ok (.i2l, 1) := by decide +kernel
theorem dX11_as_37 : decode cX11_as 37 = .ok (.invokevirtual 79, 3) := by decide +kernel
theorem dX11_as_40 : decode cX11_as 40 = .ok (.goto 8, 3) := by decide +kernel
theorem dX11_as_43 : decode cX11_as 43 = .ok (.aload_n 0, 1) := by decide +kernel
theorem dX11_as_44 : decode cX11_as 44 = .ok (.iconst 3, 1) := by decide +kernel
theorem dX11_as_45 : decode cX11_as 45 = .ok (.invokevirtual 75, 3) := by decide +kernel
theorem dX11_as_48 : decode cX11_as 48 = .ok (.lreturn, 1) := by decide +kernel
theorem dX11_ask_0 : decode cX11_ask 0 = .ok (.aload_n 0, 1) := by decide +kernel
theorem dX11_ask_1 : decode cX11_ask 1 = .ok (.iload_n 1, 1) := by decide +kernel
theorem dX11_ask_2 : decode cX11_ask 2 = .ok (.invokevirtual 148, 3) := by decide +kernel
theorem dX11_ask_5 : decode cX11_ask 5 = .ok (.ifCond .ne 12, 3) := by decide +kernel
theorem dX11_ask_8 : decode cX11_ask 8 = .ok (.iload_n 2, 1) := by decide +kernel
theorem dX11_ask_9 : decode cX11_ask 9 = .ok (.ifCond .lt 8, 3) := by decide +kernel
theorem dX11_ask_12 : decode cX11_ask 12 = .ok (.iload_n 2, 1) := by decide +kernel
theorem dX11_ask_13 : decode cX11_ask 13 = .ok (.iconst 1, 1) := by decide +kernel
theorem dX11_ask_14 : decode cX11_ask 14 = .ok (.if_icmp .le 7, 3) := by decide +kernel
theorem dX11_ask_17 : decode cX11_ask 17 = .ok (.ldc2_w 73, 3) := by decide +kernel
theorem dX11_ask_20 : decode cX11_ask 20 = .ok (.lreturn, 1) := by decide +kernel
theorem dX11_ask_21 : decode cX11_ask 21 = .ok (.aload_n 0, 1) := by decide +kernel
theorem dX11_ask_22 : decode cX11_ask 22 = .ok (.getfield 59, 3) := by decide +kernel
theorem dX11_ask_25 : decode cX11_ask 25 = .ok (.invokevirtual 279, 3) := by decide +kernel
theorem dX11_ask_28 : decode cX11_ask 28 = .ok (.aload_n 0, 1) := by decide +kernel
theorem dX11_ask_29 : decode cX11_ask 29 = .ok (.iload_n 1, 1) := by decide +kernel
theorem dX11_ask_30 : decode cX11_ask 30 = .ok (.invokevirtual 271, 3) := by decide +kernel
theorem dX11_ask_33 : decode cX11_ask 33 = .ok (.astore_n 3, 1) := by decide +kernel
theorem dX11_ask_34 : decode cX11_ask 34 = .ok (.iload_n 2, 1) := by decide +kernel
theorem dX11_ask_35 : decode cX11_ask 35 = .ok (.ifCond .ne 10, 3) := by decide +kernel
theorem dX11_ask_38 : decode cX11_ask 38 = .ok (.aload_n 3, 1) := by decide +kernel
theorem dX11_ask_39 : decode cX11_ask 39 = .ok (.invokevirtual 282, 3) := by decide +kernel
theorem dX11_ask_42 : decode cX11_ask 42 = .ok (.goto 7, 3) := by decide +kernel
theorem dX11_ask_45 : decode cX11_ask 45 = .ok (.aload_n 3, 1) := by decide +kernel
theorem dX11_ask_46 : decode cX11_ask 46 = .ok (.invokevirtual 287, 3) := by decide +kernel
theorem dX11_ask_49 : decode cX11_ask 49 = .ok (.lreturn, 1) := by decide +kernel
theorem dX11_trace_0 : decode cX11_trace 0 = .ok (.iload_n 1, 1) := by decide +kernel
theorem dX11_trace_1 : decode cX11_trace 1 = .ok (.ifCond .lt 26, 3) := by decide +kernel
theorem dX11_trace_4 : decode cX11_trace 4 = .ok (.iload_n 1, 1) := by decide +kernel
theorem dX11_trace_5 : decode cX11_trace 5 = .ok (.aload_n 0, 1) := by decide +kernel
theorem dX11_trace_6 : decode cX11_trace 6 = .ok (.getfield 59, 3) := by decide +kernel
theorem dX11_trace_9 : decode cX11_trace 9 = .ok (.getfield 290, 3) := by decide +kernel
theorem dX11_trace_12 : decode cX11_trace 12 = .ok (.if_icmp .ge 15, 3) := by decide +kernel
theorem dX11_trace_15 : decode cX11_trace 15 = .ok (.aload_n 0, 1) := by decide +kernel
theorem dX11_trace_16 : decode cX11_trace 16 = .ok (.getfield 59, 3) := by decide +kernel
theorem dX11_trace_19 : decode cX11_trace 19 = .ok (.getfield 291, 3) := by decide +kernel
theorem dX11_trace_22 : decode cX11_trace 22 = .ok (.iload_n 1, 1) := by decide +kernel
theorem dX11_trace_23 : decode cX11_trace 23 = .ok (.iaload, 1) := by decide +kernel
theorem dX11_trace_24 : decode cX11_trace 24 = .ok (.goto 5, 3) := by decide +kernel
theorem dX11_trace_27 : decode cX11_trace 27 = .ok (.ldc 245, 2) := by decide +kernel
theorem dX11_trace_29 : decode cX11_trace 29 = .ok (.ireturn, 1) := by decide +kernel
theorem dX11_count_0 : decode cX11_count 0 = .ok (.iload_n 1, 1) := by decide +kernel
theorem dX11_count_1 : decode cX11_count 1 = .ok (.tableswitch 116 0 6 #[43, 49, 58, 67, 76, 85, 94], 43) := by decide +kernel
theorem dX11_count_44 : decode cX11_count 44 = .ok (.aload_n 0, 1) := by decide +kernel
theorem dX11_count_45 : decode cX11_count 45 = .ok (.invokevirtual 294, 3) := by decide +kernel
theorem dX11_count_48 : decode cX11_count 48 = .ok (.i2l, 1) := by decide +kernel
theorem dX11_count_49 : decode cX11_count 49 = .ok (.lreturn, 1) := by decide +kernel
theorem dX11_count_50 : decode cX11_count 50 = .ok (.aload_n 0, 1) := by decide +kernel
theorem dX11_count_51 : decode cX11_count 51 = .ok (.getfield 29, 3) := by decide +kernel
theorem dX11_count_54 : decode cX11_count 54 = .ok (.getfield 242, 3) := by decide +kernel
theorem dX11_count_57 : decode cX11_count 57 = .ok (.i2l, 1) := by decide +kernel
theorem dX11_count_58 : decode cX11_count 58 = .ok (.lreturn, 1) := by decide +kernel
theorem dX11_count_59 : decode cX11_count 59 = .ok (.aload_n 0, 1) := by decide +kernel
theorem dX11_count_60 : decode cX11_count 60 = .ok (.getfield 29, 3) := by decide +kernel
theorem dX11_count_63 : decode cX11_count 63 = .ok (.getfield 137, 3) := by decide +kernel
theorem dX11_count_66 : decode cX11_count 66 = .ok (.i2l, 1) := by decide +kernel
theorem dX11_count_67 : decode cX11_count 67 = .ok (.lreturn, 1) := by decide +kernel
theorem dX11_count_68 : decode cX11_count 68 = .ok (.aload_n 0, 1) := by decide +kernel
theorem dX11_count_69 : decode cX11_count 69 = .ok (.getfield 39, 3) := by decide +kernel
theorem dX11_count_72 : decode cX11_count 72 = .ok (.getfield 158, 3) := by decide +kernel
theorem dX11_count_75 : decode cX11_count 75 = .ok (.i2l, 1) := by decide +kernel
theorem dX11_count_76 : decode cX11_count 76 = .ok (.lreturn, 1) := by decide +kernel
theorem dX11_count_77 : decode cX11_count 77 = .ok (.aload_n 0, 1) := by decide +kernel
theorem dX11_count_78 : decode cX11_count 78 = .ok (.getfield 39, 3) := by decide +kernel
theorem dX11_count_81 : decode cX11_count 81 = .ok (.getfield 298, 3) := by decide +kernel
theorem dX11_count_84 : decode cX11_count 84 = .ok (.i2l, 1) := by decide +kernel
theorem dX11_count_85 : decode cX11_count 85 = .ok (.lreturn, 1) := by decide +kernel
theorem dX11_count_86 : decode cX11_count 86 = .ok (.aload_n 0, 1) := by decide +kernel
theorem dX11_count_87 : decode cX11_count 87 = .ok (.getfield 22, 3) := by decide +kernel
theorem dX11_count_90 : decode cX11_count 90 = .ok (.getfield 106, 3) := by decide +kernel
theorem dX11_count_93 : decode cX11_count 93 = .ok (.i2l, 1) := by decide +kernel
theorem dX11_count_94 : decode cX11_count 94 = .ok (.lreturn, 1) := by decide +kernel
theorem dX11_count_95 : decode cX11_count 95 = .ok (.aload_n 0, 1) := by decide +kernel
theorem dX11_count_96 : decode cX11_count 96 = .ok (.getfield 130, 3) := by decide +kernel
theorem dX11_count_99 : decode cX11_count 99 = .ok (.ifCond .eq 14, 3) := by decide +kernel
theorem dX11_count_102 : decode cX11_count 102 = .ok (.aload_n 0, 1) := by decide +kernel
theorem dX11_count_103 : decode cX11_count 103 = .ok (.getfield 39, 3) := by decide +kernel
theorem dX11_count_106 : decode cX11_count 106 = .ok (.getfield 301, 3) := by decide +kernel
theorem dX11_count_109 : decode cX11_count 109 = .ok (.i2l, 1) := by decide +kernel
theorem dX11_count_110 : decode cX11_count 110 = .ok (.goto 6, 3) := by decide +kernel
theorem dX11_count_113 : decode cX11_count 113 = .ok (.ldc2_w 164, 3) := by decide +kernel
theorem dX11_count_116 : decode cX11_count 116 = .ok (.lreturn, 1) := by decide +kernel
theorem dX11_count_117 : decode cX11_count 117 = .ok (.ldc2_w 73, 3) := by decide +kernel
theorem dX11_count_120 : decode cX11_count 120 = .ok (.lreturn, 1) := by decide +kernel
theorem dX11_status_0 : decode cX11_status 0 = .ok (.aload_n 0, 1) := by decide +kernel
theorem dX11_status_1 : decode cX11_status 1 = .ok (.getfield 100, 3) := by decide +kernel
theorem dX11_status_4 : decode cX11_status 4 = .ok (.ireturn, 1) := by decide +kernel
theorem dX11_rowsThatAre_0 : decode cX11_rowsThatAre 0 = .ok (.iconst 0, 1) := by decide +kernel
theorem dX11_rowsThatAre_1 : decode cX11_rowsThatAre 1 = .ok (.istore_n 1, 1) := by decide +kernel
theorem dX11_rowsThatAre_2 : decode cX11_rowsThatAre 2 = .ok (.iconst 0, 1) := by decide +kernel
theorem dX11_rowsThatAre_3 : decode cX11_rowsThatAre 3 = .ok (.istore_n 2, 1) := by decide +kernel
theorem dX11_rowsThatAre_4 : decode cX11_rowsThatAre 4 = .ok (.iload_n 2, 1) := by decide +kernel
theorem dX11_rowsThatAre_5 : decode cX11_rowsThatAre 5 = .ok (.bipush 8, 2) := by decide +kernel
theorem dX11_rowsThatAre_7 : decode cX11_rowsThatAre 7 = .ok (.if_icmp .ge 20, 3) := by decide +kernel
theorem dX11_rowsThatAre_10 : decode cX11_rowsThatAre 10 = .ok (.aload_n 0, 1) := by decide +kernel
theorem dX11_rowsThatAre_11 : decode cX11_rowsThatAre 11 = .ok (.iload_n 2, 1) := by decide +kernel
theorem dX11_rowsThatAre_12 : decode cX11_rowsThatAre 12 = .ok (.invokevirtual 83, 3) := by decide +kernel
theorem dX11_rowsThatAre_15 : decode cX11_rowsThatAre 15 = .ok (.ifCond .ne 6, 3) := by decide +kernel
theorem dX11_rowsThatAre_18 : decode cX11_rowsThatAre 18 = .ok (.iinc 1 1, 3) := by decide +kernel
theorem dX11_rowsThatAre_21 : decode cX11_rowsThatAre 21 = .ok (.iinc 2 1, 3) := by decide +kernel
theorem dX11_rowsThatAre_24 : decode cX11_rowsThatAre 24 = .ok (.goto (-20), 3) := by decide +kernel
theorem dX11_rowsThatAre_27 : decode cX11_rowsThatAre 27 = .ok (.iload_n 1, 1) := by decide +kernel
theorem dX11_rowsThatAre_28 : decode cX11_rowsThatAre 28 = .ok (.ireturn, 1) := by decide +kernel
theorem dX11_toldThing_0 : decode cX11_toldThing 0 = .ok (.aload_n 0, 1) := by decide +kernel
theorem dX11_toldThing_1 : decode cX11_toldThing 1 = .ok (.getfield 39, 3) := by decide +kernel
theorem dX11_toldThing_4 : decode cX11_toldThing 4 = .ok (.getfield 161, 3) := by decide +kernel
theorem dX11_toldThing_7 : decode cX11_toldThing 7 = .ok (.iload_n 1, 1) := by decide +kernel
theorem dX11_toldThing_8 : decode cX11_toldThing 8 = .ok (.iaload, 1) := by decide +kernel
theorem dX11_toldThing_9 : decode cX11_toldThing 9 = .ok (.istore_n 2, 1) := by decide +kernel
theorem dX11_toldThing_10 : decode cX11_toldThing 10 = .ok (.iload_n 2, 1) := by decide +kernel
theorem dX11_toldThing_11 : decode cX11_toldThing 11 = .ok (.iconst 2, 1) := by decide +kernel
theorem dX11_toldThing_12 : decode cX11_toldThing 12 = .ok (.if_icmp .ne 69, 3) := by decide +kernel
theorem dX11_toldThing_15 : decode cX11_toldThing 15 = .ok (.aload_n 0, 1) := by decide +kernel
theorem dX11_toldThing_16 : decode cX11_toldThing 16 = .ok (.getfield 29, 3) := by decide +kernel
theorem dX11_toldThing_19 : decode cX11_toldThing 19 = .ok (.aload_n 0, 1) := by decide +kernel
theorem dX11_toldThing_20 : decode cX11_toldThing 20 = .ok (.getfield 39, 3) := by decide +kernel
theorem dX11_toldThing_23 : decode cX11_toldThing 23 = .ok (.getfield 169, 3) := by decide +kernel
theorem dX11_toldThing_26 : decode cX11_toldThing 26 = .ok (.iload_n 1, 1) := by decide +kernel
theorem dX11_toldThing_27 : decode cX11_toldThing 27 = .ok (.iaload, 1) := by decide +kernel
theorem dX11_toldThing_28 : decode cX11_toldThing 28 = .ok (.invokevirtual 181, 3) := by decide +kernel
theorem dX11_toldThing_31 : decode cX11_toldThing 31 = .ok (.iconst 4, 1) := by decide +kernel
theorem dX11_toldThing_32 : decode cX11_toldThing 32 = .ok (.if_icmp .ne 7, 3) := by decide +kernel
theorem dX11_toldThing_35 : decode cX11_toldThing 35 = .ok (.iconst 1, 1) := by decide +kernel
theorem dX11_toldThing_36 : decode cX11_toldThing 36 = .ok (.goto 4, 3) := by decide +kernel
theorem dX11_toldThing_39 : decode cX11_toldThing 39 = .ok (.iconst 0, 1) := by decide +kernel
theorem dX11_toldThing_40 : decode cX11_toldThing 40 = .ok (.istore_n 3, 1) := by decide +kernel
theorem dX11_toldThing_41 : decode cX11_toldThing 41 = .ok (.iload_n 3, 1) := by decide +kernel
theorem dX11_toldThing_42 : decode cX11_toldThing 42 = .ok (.ifCond .eq 22, 3) := by decide +kernel
theorem dX11_toldThing_45 : decode cX11_toldThing 45 = .ok (.new 304, 3) := by decide +kernel
theorem dX11_toldThing_48 : decode cX11_toldThing 48 = .ok (.dup, 1) := by decide +kernel
theorem dX11_toldThing_49 : decode cX11_toldThing 49 = .ok (.iload_n 1, 1) := by decide +kernel
theorem dX11_toldThing_50 : decode cX11_toldThing 50 = .ok (.aload_n 0, 1) := by decide +kernel
theorem dX11_toldThing_51 : decode cX11_toldThing 51 = .ok (.getfield 39, 3) := by decide +kernel
theorem dX11_toldThing_54 : decode cX11_toldThing 54 = .ok (.aload_n 0, 1) := by decide +kernel
theorem dX11_toldThing_55 : decode cX11_toldThing 55 = .ok (.getfield 59, 3) := by decide +kernel
theorem dX11_toldThing_58 : decode cX11_toldThing 58 = .ok (.invokespecial 306, 3) := by decide +kernel
theorem dX11_toldThing_61 : decode cX11_toldThing 61 = .ok (.goto 19, 3) := by decide +kernel
theorem dX11_toldThing_64 : decode cX11_toldThing 64 = .ok (.new 309, 3) := by decide +kernel
theorem dX11_toldThing_67 : decode cX11_toldThing 67 = .ok (.dup, 1) := by decide +kernel
theorem dX11_toldThing_68 : decode cX11_toldThing 68 = .ok (.iload_n 1, 1) := by decide +kernel
theorem dX11_toldThing_69 : decode cX11_toldThing 69 = .ok (.aload_n 0, 1) := by decide +kernel
theorem dX11_toldThing_70 : decode cX11_toldThing 70 = .ok (.getfield 39, 3) := by decide +kernel
theorem dX11_toldThing_73 : decode cX11_toldThing 73 = .ok (.aload_n 0, 1) := by decide +kernel
theorem dX11_toldThing_74 : decode cX11_toldThing 74 = .ok (.getfield 59, 3) := by decide +kernel
theorem dX11_toldThing_77 : decode cX11_toldThing 77 = .ok (.invokespecial 311, 3) := by decide +kernel
theorem dX11_toldThing_80 : decode cX11_toldThing 80 = .ok (.areturn, 1) := by decide +kernel
theorem dX11_toldThing_81 : decode cX11_toldThing 81 = .ok (.aload_n 0, 1) := by decide +kernel
theorem dX11_toldThing_82 : decode cX11_toldThing 82 = .ok (.getfield 39, 3) := by decide +kernel
theorem dX11_toldThing_85 : decode cX11_toldThing 85 = .ok (.iload_n 1, 1) := by decide +kernel
theorem dX11_toldThing_86 : decode cX11_toldThing 86 = .ok (.invokevirtual 312, 3) := by decide +kernel
theorem dX11_toldThing_89 : decode cX11_toldThing 89 = .ok (.ifCond .ne 20, 3) := by decide +kernel
theorem dX11_toldThing_92 : decode cX11_toldThing 92 = .ok (.new 315, 3) := by decide +kernel
theorem dX11_toldThing_95 : decode cX11_toldThing 95 = .ok (.dup, 1) := by decide +kernel
theorem dX11_toldThing_96 : decode cX11_toldThing 96 = .ok (.iload_n 1, 1) := by decide +kernel
theorem dX11_toldThing_97 : decode cX11_toldThing 97 = .ok (.aload_n 0, 1) := by decide +kernel
theorem dX11_toldThing_98 : decode cX11_toldThing 98 = .ok (.getfield 39, 3) := by decide +kernel
theorem dX11_toldThing_101 : decode cX11_toldThing 101 = .ok (.aload_n 0, 1) := by decide +kernel
theorem dX11_toldThing_102 : decode cX11_toldThing 102 = .ok (.getfield 59, 3) := by decide +kernel
theorem dX11_toldThing_105 : decode cX11_toldThing 105 = .ok (.invokespecial 317, 3) := by decide +kernel
theorem dX11_toldThing_108 : decode cX11_toldThing 108 = .ok (.areturn, 1) := by decide +kernel
theorem dX11_toldThing_109 : decode cX11_toldThing 109 = .ok (.aload_n 0, 1) := by decide +kernel
theorem dX11_toldThing_110 : decode cX11_toldThing 110 = .ok (.getfield 39, 3) := by decide +kernel
theorem dX11_toldThing_113 : decode cX11_toldThing 113 = .ok (.getfield 318, 3) := by decide +kernel
theorem dX11_toldThing_116 : decode cX11_toldThing 116 = .ok (.iload_n 1, 1) := by decide +kernel
theorem dX11_toldThing_117 : decode cX11_toldThing 117 = .ok (.iaload, 1) := by decide +kernel
theorem dX11_toldThing_118 : decode cX11_toldThing 118 = .ok (.iload_n 2, 1) := by decide +kernel
theorem dX11_toldThing_119 : decode cX11_toldThing 119 = .ok (.if_icmp .eq 7, 3) := by decide +kernel
theorem dX11_toldThing_122 : decode cX11_toldThing 122 = .ok (.iconst 1, 1) := by decide +kernel
theorem dX11_toldThing_123 : decode cX11_toldThing 123 = .ok (.goto 4, 3) := by decide +kernel
theorem dX11_toldThing_126 : decode cX11_toldThing 126 = .ok (.iconst 0, 1) := by decide +kernel
theorem dX11_toldThing_127 : decode cX11_toldThing 127 = .ok (.istore_n 3, 1) := by decide +kernel
theorem dX11_toldThing_128 : decode cX11_toldThing 128 = .ok (.iload_n 3, 1) := by decide +kernel
theorem dX11_toldThing_129 : decode cX11_toldThing 129 = .ok (.ifCond .eq 22, 3) := by decide +kernel
theorem dX11_toldThing_132 : decode cX11_toldThing 132 = .ok (.new 321, 3) := by decide +kernel
theorem dX11_toldThing_135 : decode cX11_toldThing 135 = .ok (.dup, 1) := by decide +kernel
theorem dX11_toldThing_136 : decode cX11_toldThing 136 = .ok (.iload_n 1, 1) := by decide +kernel
theorem dX11_toldThing_137 : decode cX11_toldThing 137 = .ok (.aload_n 0, 1) := by decide +kernel
theorem dX11_toldThing_138 : decode cX11_toldThing 138 = .ok (.getfield 39, 3) := by decide +kernel
theorem dX11_toldThing_141 : decode cX11_toldThing 141 = .ok (.aload_n 0, 1) := by decide +kernel
theorem dX11_toldThing_142 : decode cX11_toldThing 142 = .ok (.getfield 59, 3) := by decide +kernel
theorem dX11_toldThing_145 : decode cX11_toldThing 145 = .ok (.invokespecial 323, 3) := by decide +kernel
theorem dX11_toldThing_148 : decode cX11_toldThing 148 = .ok (.goto 19, 3) := by decide +kernel
theorem dX11_toldThing_151 : decode cX11_toldThing 151 = .ok (.new 324, 3) := by decide +kernel
theorem dX11_toldThing_154 : decode cX11_toldThing 154 = .ok (.dup, 1) := by decide +kernel
theorem dX11_toldThing_155 : decode cX11_toldThing 155 = .ok (.iload_n 1, 1) := by decide +kernel
theorem dX11_toldThing_156 : decode cX11_toldThing 156 = .ok (.aload_n 0, 1) := by decide +kernel
theorem dX11_toldThing_157 : decode cX11_toldThing 157 = .ok (.getfield 39, 3) := by decide +kernel
theorem dX11_toldThing_160 : decode cX11_toldThing 160 = .ok (.aload_n 0, 1) := by decide +kernel
theorem dX11_toldThing_161 : decode cX11_toldThing 161 = .ok (.getfield 59, 3) := by decide +kernel
theorem dX11_toldThing_164 : decode cX11_toldThing 164 = .ok (.invokespecial 326, 3) := by decide +kernel
theorem dX11_toldThing_167 : decode cX11_toldThing 167 = .ok (.areturn, 1) := by decide +kernel
theorem dX11_isOfKind_0 : decode cX11_isOfKind 0 = .ok (.iload_n 1, 1) := by decide +kernel
theorem dX11_isOfKind_1 : decode cX11_isOfKind 1 = .ok (.tableswitch 66 0 5 #[39, 41, 46, 51, 56, 61], 39) := by decide +kernel
theorem dX11_isOfKind_40 : decode cX11_isOfKind 40 = .ok (.iconst 1, 1) := by decide +kernel
theorem dX11_isOfKind_41 : decode cX11_isOfKind 41 = .ok (.ireturn, 1) := by decide +kernel
theorem dX11_isOfKind_42 : decode cX11_isOfKind 42 = .ok (.aload_n 0, 1) := by decide +kernel
theorem dX11_isOfKind_43 : decode cX11_isOfKind 43 = .ok (.instanceof 315, 3) := by decide +kernel
theorem dX11_isOfKind_46 : decode cX11_isOfKind 46 = .ok (.ireturn, 1) := by decide +kernel
theorem dX11_isOfKind_47 : decode cX11_isOfKind 47 = .ok (.aload_n 0, 1) := by decide +kernel
theorem dX11_isOfKind_48 : decode cX11_isOfKind 48 = .ok (.instanceof 309, 3) := by decide +kernel
theorem dX11_isOfKind_51 : decode cX11_isOfKind 51 = .ok (.ireturn, 1) := by decide +kernel
theorem dX11_isOfKind_52 : decode cX11_isOfKind 52 = .ok (.aload_n 0, 1) := by decide +kernel
theorem dX11_isOfKind_53 : decode cX11_isOfKind 53 = .ok (.instanceof 324, 3) := by decide +kernel
theorem dX11_isOfKind_56 : decode cX11_isOfKind 56 = .ok (.ireturn, 1) := by decide +kernel
theorem dX11_isOfKind_57 : decode cX11_isOfKind 57 = .ok (.aload_n 0, 1) := by decide +kernel
theorem dX11_isOfKind_58 : decode cX11_isOfKind 58 = .ok (.instanceof 321, 3) := by decide +kernel
theorem dX11_isOfKind_61 : decode cX11_isOfKind 61 = .ok (.ireturn, 1) := by decide +kernel
theorem dX11_isOfKind_62 : decode cX11_isOfKind 62 = .ok (.aload_n 0, 1) := by decide +kernel
theorem dX11_isOfKind_63 : decode cX11_isOfKind 63 = .ok (.instanceof 304, 3) := by decide +kernel
theorem dX11_isOfKind_66 : decode cX11_isOfKind 66 = .ok (.ireturn, 1) := by decide +kernel
theorem dX11_isOfKind_67 : decode cX11_isOfKind 67 = .ok (.iconst 0, 1) := by decide +kernel
theorem dX11_isOfKind_68 : decode cX11_isOfKind 68 = .ok (.ireturn, 1) := by decide +kernel
theorem dX12_init_0 : decode cX12_init 0 = .ok (.aload_n 0, 1) := by decide +kernel
theorem dX12_init_1 : decode cX12_init 1 = .ok (.invokespecial 3, 3) := by decide +kernel
theorem dX12_init_4 : decode cX12_init 4 = .ok (.aload_n 0, 1) := by decide +kernel
theorem dX12_init_5 : decode cX12_init 5 = .ok (.bipush 8, 2) := by decide +kernel
theorem dX12_init_7 : decode cX12_init 7 = .ok (.newarray .int, 2) := by decide +kernel
theorem dX12_init_9 : decode cX12_init 9 = .ok (.dup, 1) := by decide +kernel
theorem dX12_init_10 : decode cX12_init 10 = .ok (.iconst 0, 1) := by decide +kernel
theorem dX12_init_11 : decode cX12_init 11 = .ok (.iconst (-1), 1) := by decide +kernel
theorem dX12_init_12 : decode cX12_init 12 = .ok (.iastore, 1) := by decide +kernel
theorem dX12_init_13 : decode cX12_init 13 = .ok (.dup, 1) := by decide +kernel
theorem dX12_init_14 : decode cX12_init 14 = .ok (.iconst 1, 1) := by decide +kernel
theorem dX12_init_15 : decode cX12_init 15 = .ok (.iconst (-1), 1) := by decide +kernel
theorem dX12_init_16 : decode cX12_init 16 = .ok (.iastore, 1) := by decide +kernel
theorem dX12_init_17 : decode cX12_init 17 = .ok (.dup, 1) := by decide +kernel
theorem dX12_init_18 : decode cX12_init 18 = .ok (.iconst 2, 1) := by decide +kernel
theorem dX12_init_19 : decode cX12_init 19 = .ok (.iconst (-1), 1) := by decide +kernel
theorem dX12_init_20 : decode cX12_init 20 = .ok (.iastore, 1) := by decide +kernel
theorem dX12_init_21 : decode cX12_init 21 = .ok (.dup, 1) := by decide +kernel
theorem dX12_init_22 : decode cX12_init 22 = .ok (.iconst 3, 1) := by decide +kernel
theorem dX12_init_23 : decode cX12_init 23 = .ok (.iconst (-1), 1) := by decide +kernel
theorem dX12_init_24 : decode cX12_init 24 = .ok (.iastore, 1) := by decide +kernel
theorem dX12_init_25 : decode cX12_init 25 = .ok (.dup, 1) := by decide +kernel
theorem dX12_init_26 : decode cX12_init 26 = .ok (.iconst 4, 1) := by decide +kernel
theorem dX12_init_27 : decode cX12_init 27 = .ok (.iconst (-1), 1) := by decide +kernel
theorem dX12_init_28 : decode cX12_init 28 = .ok (.iastore, 1) := by decide +kernel
theorem dX12_init_29 : decode cX12_init 29 = .ok (.dup, 1) := by decide +kernel
theorem dX12_init_30 : decode cX12_init 30 = .ok (.iconst 5, 1) := by decide +kernel
theorem dX12_init_31 : decode cX12_init 31 = .ok (.iconst (-1), 1) := by decide +kernel
theorem dX12_init_32 : decode cX12_init 32 = .ok (.iastore, 1) := by decide +kernel
theorem dX12_init_33 : decode cX12_init 33 = .ok (.dup, 1) := by decide +kernel
theorem dX12_init_34 : decode cX12_init 34 = .ok (.bipush 6, 2) := by decide +kernel
theorem dX12_init_36 : decode cX12_init 36 = .ok (.iconst (-1), 1) := by decide +kernel
theorem dX12_init_37 : decode cX12_init 37 = .ok (.iastore, 1) := by decide +kernel
theorem dX12_init_38 : decode cX12_init 38 = .ok (.dup, 1) := by decide +kernel
theorem dX12_init_39 : decode cX12_init 39 = .ok (.bipush 7, 2) := by decide +kernel
theorem dX12_init_41 : decode cX12_init 41 = .ok (.iconst (-1), 1) := by decide +kernel
theorem dX12_init_42 : decode cX12_init 42 = .ok (.iastore, 1) := by decide +kernel
theorem dX12_init_43 : decode cX12_init 43 = .ok (.putfield 9, 3) := by decide +kernel
theorem dX12_init_46 : decode cX12_init 46 = .ok (.aload_n 0, 1) := by decide +kernel
theorem dX12_init_47 : decode cX12_init 47 = .ok (.bipush 8, 2) := by decide +kernel
theorem dX12_init_49 : decode cX12_init 49 = .ok (.newarray .int, 2) := by decide +kernel
theorem dX12_init_51 : decode cX12_init 51 = .ok (.putfield 13, 3) := by decide +kernel
theorem dX12_init_54 : decode cX12_init 54 = .ok (.aload_n 0, 1) := by decide +kernel
theorem dX12_init_55 : decode cX12_init 55 = .ok (.sipush 320, 3) := by decide +kernel
theorem dX12_init_58 : decode cX12_init 58 = .ok (.newarray .int, 2) := by decide +kernel
theorem dX12_init_60 : decode cX12_init 60 = .ok (.putfield 16, 3) := by decide +kernel
theorem dX12_init_63 : decode cX12_init 63 = .ok (.aload_n 0, 1) := by decide +kernel
theorem dX12_init_64 : decode cX12_init 64 = .ok (.bipush 32, 2) := by decide +kernel
theorem dX12_init_66 : decode cX12_init 66 = .ok (.newarray .int, 2) := by decide +kernel
theorem dX12_init_68 : decode cX12_init 68 = .ok (.putfield 19, 3) := by decide +kernel
theorem dX12_init_71 : decode cX12_init 71 = .ok (.aload_n 0, 1) := by decide +kernel
theorem dX12_init_72 : decode cX12_init 72 = .ok (.sipush 180, 3) := by decide +kernel
theorem dX12_init_75 : decode cX12_init 75 = .ok (.newarray .int, 2) := by decide +kernel
theorem dX12_init_77 : decode cX12_init 77 = .ok (.putfield 22, 3) := by decide +kernel
theorem dX12_init_80 : decode cX12_init 80 = .ok (.aload_n 0, 1) := by decide +kernel
theorem dX12_init_81 : decode cX12_init 81 = .ok (.bipush 32, 2) := by decide +kernel
theorem dX12_init_83 : decode cX12_init 83 = .ok (.newarray .int, 2) := by decide +kernel
theorem dX12_init_85 : decode cX12_init 85 = .ok (.putfield 25, 3) := by decide +kernel
theorem dX12_init_88 : decode cX12_init 88 = .ok (.aload_n 0, 1) := by decide +kernel
theorem dX12_init_89 : decode cX12_init 89 = .ok (.sipush 180, 3) := by decide +kernel
theorem dX12_init_92 : decode cX12_init 92 = .ok (.newarray .int, 2) := by decide +kernel
theorem dX12_init_94 : decode cX12_init 94 = .ok (.putfield 28, 3) := by decide +kernel
theorem dX12_init_97 : decode cX12_init 97 = .ok (.aload_n 0, 1) := by decide +kernel
theorem dX12_init_98 : decode cX12_init 98 = .ok (.sipush 500, 3) := by decide +kernel
theorem dX12_init_101 : decode cX12_init 101 = .ok (.newarray .int, 2) := by decide +kernel
theorem dX12_init_103 : decode cX12_init 103 = .ok (.putfield 31, 3) := by decide +kernel
theorem dX12_init_106 : decode cX12_init 106 = .ok (.aload_n 0, 1) := by decide +kernel
theorem dX12_init_107 : decode cX12_init 107 = .ok (.iconst 5, 1) := by decide +kernel
theorem dX12_init_108 : decode cX12_init 108 = .ok (.newarray .int, 2) := by decide +kernel
theorem dX12_init_110 : decode cX12_init 110 = .ok (.putfield 34, 3) := by decide +kernel
theorem dX12_init_113 : decode cX12_init 113 = .ok (.aload_n 0, 1) := by decide +kernel
theorem dX12_init_114 : decode cX12_init 114 = .ok (.bipush 10, 2) := by decide +kernel
theorem dX12_init_116 : decode cX12_init 116 = .ok (.newarray .int, 2) := by decide +kernel
theorem dX12_init_118 : decode cX12_init 118 = .ok (.putfield 37, 3) := by decide +kernel
theorem dX12_init_121 : decode cX12_init 121 = .ok (.aload_n 0, 1) := by decide +kernel
theorem dX12_init_122 : decode cX12_init 122 = .ok (.bipush 10, 2) := by decide +kernel
theorem dX12_init_124 : decode cX12_init 124 = .ok (.newarray .int, 2) := by decide +kernel
theorem dX12_init_126 : decode cX12_init 126 = .ok (.putfield 40, 3) := by decide +kernel
theorem dX12_init_129 : decode cX12_init 129 = .ok (.aload_n 0, 1) := by decide +kernel
theorem dX12_init_130 : decode cX12_init 130 = .ok (.bipush 10, 2) := by decide +kernel
theorem dX12_init_132 : decode cX12_init 132 = .ok (.newarray .int, 2) := by decide +kernel
theorem dX12_init_134 : decode cX12_init 134 = .ok (.putfield 43, 3) := by decide +kernel
theorem dX12_init_137 : decode cX12_init 137 = .ok (.aload_n 0, 1) := by decide +kernel
theorem dX12_init_138 : decode cX12_init 138 = .ok (.bipush 10, 2) := by decide +kernel
theorem dX12_init_140 : decode cX12_init 140 = .ok (.newarray .int, 2) := by decide +kernel
theorem dX12_init_142 : decode cX12_init 142 = .ok (.putfield 46, 3) := by decide +kernel
theorem dX12_init_145 : decode cX12_init 145 = .ok (.aload_n 0, 1) := by decide +kernel
theorem dX12_init_146 : decode cX12_init 146 = .ok (.bipush 10, 2) := by decide +kernel
theorem dX12_init_148 : decode cX12_init 148 = .ok (.newarray .int, 2) := by decide +kernel
theorem dX12_init_150 : decode cX12_init 150 = .ok (.putfield 49, 3) := by decide +kernel
theorem dX12_init_153 : decode cX12_init 153 = .ok (.aload_n 0, 1) := by decide +kernel
theorem dX12_init_154 : decode cX12_init 154 = .ok (.bipush 10, 2) := by decide +kernel
theorem dX12_init_156 : decode cX12_init 156 = .ok (.newarray .int, 2) := by decide +kernel
theorem dX12_init_158 : decode cX12_init 158 = .ok (.putfield 52, 3) := by decide +kernel
theorem dX12_init_161 : decode cX12_init 161 = .ok (.aload_n 0, 1) := by decide +kernel
theorem dX12_init_162 : decode cX12_init 162 = .ok (.bipush 10, 2) := by decide +kernel
theorem dX12_init_164 : decode cX12_init 164 = .ok (.newarray .int, 2) := by decide +kernel
theorem dX12_init_166 : decode cX12_init 166 = .ok (.putfield 55, 3) := by decide +kernel
theorem dX12_init_169 : decode cX12_init 169 = .ok (.aload_n 0, 1) := by decide +kernel
theorem dX12_init_170 : decode cX12_init 170 = .ok (.bipush 10, 2) := by decide +kernel
theorem dX12_init_172 : decode cX12_init 172 = .ok (.newarray .int, 2) := by decide +kernel
theorem dX12_init_174 : decode cX12_init 174 = .ok (.putfield 58, 3) := by decide +kernel
theorem dX12_init_177 : decode cX12_init 177 = .ok (.aload_n 0, 1) := by decide +kernel
theorem dX12_init_178 : decode cX12_init 178 = .ok (.bipush 10, 2) := by decide +kernel
theorem dX12_init_180 : decode cX12_init 180 = .ok (.newarray .int, 2) := by decide +kernel
theorem dX12_init_182 : decode cX12_init 182 = .ok (.putfield 61, 3) := by decide +kernel
theorem dX12_init_185 : decode cX12_init 185 = .ok (.aload_n 0, 1) := by decide +kernel
theorem dX12_init_186 : decode cX12_init 186 = .ok (.bipush 30, 2) := by decide +kernel
theorem dX12_init_188 : decode cX12_init 188 = .ok (.newarray .int, 2) := by decide +kernel
theorem dX12_init_190 : decode cX12_init 190 = .ok (.putfield 64, 3) := by decide +kernel
theorem dX12_init_193 : decode cX12_init 193 = .ok (.aload_n 0, 1) := by decide +kernel
theorem dX12_init_194 : decode cX12_init 194 = .ok (.iconst 3, 1) := by decide +kernel
theorem dX12_init_195 : decode cX12_init 195 = .ok (.newarray .int, 2) := by decide +kernel
theorem dX12_init_197 : decode cX12_init 197 = .ok (.putfield 67, 3) := by decide +kernel
theorem dX12_init_200 : decode cX12_init 200 = .ok (.aload_n 0, 1) := by decide +kernel
theorem dX12_init_201 : decode cX12_init 201 = .ok (.bipush 90, 2) := by decide +kernel
theorem dX12_init_203 : decode cX12_init 203 = .ok (.newarray .int, 2) := by decide +kernel
theorem dX12_init_205 : decode cX12_init 205 = .ok (.putfield 70, 3) := by decide +kernel
theorem dX12_init_208 : decode cX12_init 208 = .ok (.aload_n 0, 1) := by decide +kernel
theorem dX12_init_209 : decode cX12_init 209 = .ok (.bipush 90, 2) := by decide +kernel
theorem dX12_init_211 : decode cX12_init 211 = .ok (.newarray .int, 2) := by decide +kernel
theorem dX12_init_213 : decode cX12_init 213 = .ok (.putfield 73, 3) := by decide +kernel
theorem dX12_init_216 : decode cX12_init 216 = .ok (.aload_n 0, 1) := by decide +kernel
theorem dX12_init_217 : decode cX12_init 217 = .ok (.bipush 90, 2) := by decide +kernel
theorem dX12_init_219 : decode cX12_init 219 = .ok (.newarray .int, 2) := by decide +kernel
theorem dX12_init_221 : decode cX12_init 221 = .ok (.putfield 76, 3) := by decide +kernel
theorem dX12_init_224 : decode cX12_init 224 = .ok (.aload_n 0, 1) := by decide +kernel
theorem dX12_init_225 : decode cX12_init 225 = .ok (.bipush 90, 2) := by decide +kernel
theorem dX12_init_227 : decode cX12_init 227 = .ok (.newarray .int, 2) := by decide +kernel
theorem dX12_init_229 : decode cX12_init 229 = .ok (.putfield 79, 3) := by decide +kernel
theorem dX12_init_232 : decode cX12_init 232 = .ok (.aload_n 0, 1) := by decide +kernel
theorem dX12_init_233 : decode cX12_init 233 = .ok (.iconst 3, 1) := by decide +kernel
theorem dX12_init_234 : decode cX12_init 234 = .ok (.newarray .long, 2) := by decide +kernel
theorem dX12_init_236 : decode cX12_init 236 = .ok (.putfield 82, 3) := by decide +kernel
theorem dX12_init_239 : decode cX12_init 239 = .ok (.aload_n 0, 1) := by decide +kernel
theorem dX12_init_240 : decode cX12_init 240 = .ok (.iconst 3, 1) := by decide +kernel
theorem dX12_init_241 : decode cX12_init 241 = .ok (.newarray .long, 2) := by decide +kernel
theorem dX12_init_243 : decode cX12_init 243 = .ok (.putfield 86, 3) := by decide +kernel
theorem dX12_init_246 : decode cX12_init 246 = .ok (.aload_n 0, 1) := by decide +kernel
theorem dX12_init_247 : decode cX12_init 247 = .ok (.bipush 9, 2) := by decide +kernel
theorem dX12_init_249 : decode cX12_init 249 = .ok (.newarray .long, 2) := by decide +kernel
theorem dX12_init_251 : decode cX12_init 251 = .ok (.putfield 89, 3) := by decide +kernel
theorem dX12_init_254 : decode cX12_init 254 = .ok (.aload_n 0, 1) := by decide +kernel
theorem dX12_init_255 : decode cX12_init 255 = .ok (.bipush 9, 2) := by decide +kernel
theorem dX12_init_257 : decode cX12_init 257 = .ok (.newarray .long, 2) := by decide +kernel
theorem dX12_init_259 : decode cX12_init 259 = .ok (.putfield 92, 3) := by decide +kernel
theorem dX12_init_262 : decode cX12_init 262 = .ok (.aload_n 0, 1) := by decide +kernel
theorem dX12_init_263 : decode cX12_init 263 = .ok (.iconst 3, 1) := by decide +kernel
theorem dX12_init_264 : decode cX12_init 264 = .ok (.newarray .long, 2) := by decide +kernel
theorem dX12_init_266 : decode cX12_init 266 = .ok (.putfield 95, 3) := by decide +kernel
theorem dX12_init_269 : decode cX12_init 269 = .ok (.aload_n 0, 1) := by decide +kernel
theorem dX12_init_270 : decode cX12_init 270 = .ok (.iconst 3, 1) := by decide +kernel
theorem dX12_init_271 : decode cX12_init 271 = .ok (.newarray .long, 2) := by decide +kernel
theorem dX12_init_273 : decode cX12_init 273 = .ok (.putfield 98, 3) := by decide +kernel
theorem dX12_init_276 : decode cX12_init 276 = .ok (.aload_n 0, 1) := by decide +kernel
theorem dX12_init_277 : decode cX12_init 277 = .ok (.bipush 9, 2) := by decide +kernel
theorem dX12_init_279 : decode cX12_init 279 = .ok (.newarray .long, 2) := by decide +kernel
theorem dX12_init_281 : decode cX12_init 281 = .ok (.putfield 101, 3) := by decide +kernel
theorem dX12_init_284 : decode cX12_init 284 = .ok (.aload_n 0, 1) := by decide +kernel
theorem dX12_init_285 : decode cX12_init 285 = .ok (.bipush 16, 2) := by decide +kernel
theorem dX12_init_287 : decode cX12_init 287 = .ok (.newarray .int, 2) := by decide +kernel
theorem dX12_init_289 : decode cX12_init 289 = .ok (.putfield 104, 3) := by decide +kernel
theorem dX12_init_292 : decode cX12_init 292 = .ok (.return_, 1) := by decide +kernel
theorem dX12_in_0 : decode cX12_in 0 = .ok (.lload_n 0, 1) := by decide +kernel
theorem dX12_in_1 : decode cX12_in 1 = .ok (.lload_n 2, 1) := by decide +kernel
theorem dX12_in_2 : decode cX12_in 2 = .ok (.lcmp, 1) := by decide +kernel
theorem dX12_in_3 : decode cX12_in 3 = .ok (.ifCond .lt 14, 3) := by decide +kernel
theorem dX12_in_6 : decode cX12_in 6 = .ok (.lload_n 0, 1) := by decide +kernel
theorem dX12_in_7 : decode cX12_in 7 = .ok (.lload 4, 2) := by decide +kernel
theorem dX12_in_9 : decode cX12_in 9 = .ok (.lcmp, 1) := by decide +kernel
theorem dX12_in_10 : decode cX12_in 10 = .ok (.ifCond .gt 7, 3) := by decide +kernel
theorem dX12_in_13 : decode cX12_in 13 = .ok (.iconst 1, 1) := by decide +kernel
theorem dX12_in_14 : decode cX12_in 14 = .ok (.goto 4, 3) := by decide +kernel
theorem dX12_in_17 : decode cX12_in 17 = .ok (.iconst 0, 1) := by decide +kernel
theorem dX12_in_18 : decode cX12_in 18 = .ok (.ireturn, 1) := by decide +kernel
theorem dX12_finding_0 : decode cX12_finding 0 = .ok (.aload_n 0, 1) := by decide +kernel
theorem dX12_finding_1 : decode cX12_finding 1 = .ok (.iload_n 1, 1) := by decide +kernel
theorem dX12_finding_2 : decode cX12_finding 2 = .ok (.putfield 111, 3) := by decide +kernel
theorem dX12_finding_5 : decode cX12_finding 5 = .ok (.ldc2_w 114, 3) := by decide +kernel
theorem dX12_finding_8 : decode cX12_finding 8 = .ok (.iload_n 1, 1) := by decide +kernel
theorem dX12_finding_9 : decode cX12_finding 9 = .ok (.i2l, 1) := by decide +kernel
theorem dX12_finding_10 : decode cX12_finding 10 = .ok (.lsub, 1) := by decide +kernel
theorem dX12_finding_11 : decode cX12_finding 11 = .ok (.lreturn, 1) := by decide +kernel
theorem dX12_isRow_0 : decode cX12_isRow 0 = .ok (.iload_n 0, 1) := by decide +kernel
theorem dX12_isRow_1 : decode cX12_isRow 1 = .ok (.i2l, 1) := by decide +kernel
theorem dX12_isRow_2 : decode cX12_isRow 2 = .ok (.lconst 0, 1) := by decide +kernel
theorem dX12_isRow_3 : decode cX12_isRow 3 = .ok (.ldc2_w 116, 3) := by decide +kernel
theorem dX12_isRow_6 : decode cX12_isRow 6 = .ok (.invokestatic 118, 3) := by decide +kernel
theorem dX12_isRow_9 : decode cX12_isRow 9 = .ok (.ireturn, 1) := by decide +kernel
theorem dX12_row_0 : decode cX12_row 0 = .ok (.aload_n 0, 1) := by decide +kernel
theorem dX12_row_1 : decode cX12_row 1 = .ok (.iconst 0, 1) := by decide +kernel
theorem dX12_row_2 : decode cX12_row 2 = .ok (.putfield 107, 3) := by decide +kernel
theorem dX12_row_5 : decode cX12_row 5 = .ok (.iload_n 1, 1) := by decide +kernel
theorem dX12_row_6 : decode cX12_row 6 = .ok (.invokestatic 122, 3) := by decide +kernel
theorem dX12_row_9 : decode cX12_row 9 = .ok (.ifCond .eq 21, 3) := by decide +kernel
theorem dX12_row_12 : decode cX12_row 12 = .ok (.iload_n 2, 1) := by decide +kernel
theorem dX12_row_13 : decode cX12_row 13 = .ok (.i2l, 1) := by decide +kernel
theorem dX12_row_14 : decode cX12_row 14 = .ok (.lconst 0, 1) := by decide +kernel
theorem dX12_row_15 : decode cX12_row 15 = .ok (.ldc2_w 126, 3) := by decide +kernel
theorem dX12_row_18 : decode cX12_row 18 = .ok (.invokestatic 118, 3) := by decide +kernel
theorem dX12_row_21 : decode cX12_row 21 = .ok (.ifCond .eq 9, 3) := by decide +kernel
theorem dX12_row_24 : decode cX12_row 24 = .ok (.iload_n 3, 1) := by decide +kernel
theorem dX12_row_25 : decode cX12_row 25 = .ok (.bipush 40, 2) := by decide +kernel
theorem dX12_row_27 : decode cX12_row 27 = .ok (.if_icmp .le 7, 3) := by decide +kernel
theorem dX12_row_30 : decode cX12_row 30 = .ok (.ldc2_w 128, 3) := by decide +kernel
theorem dX12_row_33 : decode cX12_row 33 = .ok (.lreturn, 1) := by decide +kernel
theorem dX12_row_34 : decode cX12_row 34 = .ok (.aload_n 0, 1) := by decide +kernel
theorem dX12_row_35 : decode cX12_row 35 = .ok (.iconst 0, 1) := by decide +kernel
theorem dX12_row_36 : decode cX12_row 36 = .ok (.putfield 111, 3) := by decide +kernel
theorem dX12_row_39 : decode cX12_row 39 = .ok (.iload_n 3, 1) := by decide +kernel
theorem dX12_row_40 : decode cX12_row 40 = .ok (.ifCond .ge 9, 3) := by decide +kernel
theorem dX12_row_43 : decode cX12_row 43 = .ok (.aload_n 0, 1) := by decide +kernel
theorem dX12_row_44 : decode cX12_row 44 = .ok (.iconst 4, 1) := by decide +kernel
theorem dX12_row_45 : decode cX12_row 45 = .ok (.invokevirtual 130, 3) := by decide +kernel
theorem dX12_row_48 : decode cX12_row 48 = .ok (.lreturn, 1) := by decide +kernel
theorem dX12_row_49 : decode cX12_row 49 = .ok (.aload_n 0, 1) := by decide +kernel
theorem dX12_row_50 : decode cX12_row 50 = .ok (.getfield 9, 3) := by decide +kernel
theorem dX12_row_53 : decode cX12_row 53 = .ok (.iload_n 1, 1) := by decide +kernel
theorem dX12_row_54 : decode cX12_row 54 = .ok (.iload_n 2, 1) := by decide +kernel
theorem dX12_row_55 : decode cX12_row 55 = .ok (.iastore, 1) := by decide +kernel
theorem dX12_row_56 : decode cX12_row 56 = .ok (.aload_n 0, 1) := by decide +kernel
theorem dX12_row_57 : decode cX12_row 57 = .ok (.getfield 13, 3) := by decide +kernel
theorem dX12_row_60 : decode cX12_row 60 = .ok (.iload_n 1, 1) := by decide +kernel
theorem dX12_row_61 : decode cX12_row 61 = .ok (.iload_n 3, 1) := by decide +kernel
theorem dX12_row_62 : decode cX12_row 62 = .ok (.iastore, 1) := by decide +kernel
theorem dX12_row_63 : decode cX12_row 63 = .ok (.iconst 0, 1) := by decide +kernel
theorem dX12_row_64 : decode cX12_row 64 = .ok (.istore 4, 2) := by decide +kernel
theorem dX12_row_66 : decode cX12_row 66 = .ok (.iload 4, 2) := by decide +kernel
theorem dX12_row_68 : decode cX12_row 68 = .ok (.bipush 40, 2) := by decide +kernel
theorem dX12_row_70 : decode cX12_row 70 = .ok (.if_icmp .ge 22, 3) := by decide +kernel
theorem dX12_row_73 : decode cX12_row 73 = .ok (.aload_n 0, 1) := by decide +kernel
theorem dX12_row_74 : decode cX12_row 74 = .ok (.getfield 16, 3) := by decide +kernel
theorem dX12_row_77 : decode cX12_row 77 = .ok (.bipush 40, 2) := by decide +kernel
theorem dX12_row_79 : decode cX12_row 79 = .ok (.iload_n 1, 1) := by decide +kernel
theorem dX12_row_80 : decode cX12_row 80 = .ok (.imul, 1) := by decide +kernel
theorem dX12_row_81 : decode cX12_row 81 = .ok (.iload 4, 2) := by decide +kernel
theorem dX12_row_83 : decode cX12_row 83 = .ok (.iadd, 1) := by decide +kernel
theorem dX12_row_84 : decode cX12_row 84 = .ok (.iconst 0, 1) := by decide +kernel
theorem dX12_row_85 : decode cX12_row 85 = .ok (.iastore, 1) := by decide +kernel
theorem dX12_row_86 : decode cX12_row 86 = .ok (.iinc 4 1, 3) := by decide +kernel
theorem dX12_row_89 : decode cX12_row 89 = .ok (.goto (-23), 3) := by decide +kernel
theorem dX12_row_92 : decode cX12_row 92 = .ok (.iload_n 3, 1) := by decide +kernel
theorem dX12_row_93 : decode cX12_row 93 = .ok (.i2l, 1) := by decide +kernel
theorem dX12_row_94 : decode cX12_row 94 = .ok (.lreturn, 1) := by decide +kernel
theorem dX12_set_0 : decode cX12_set 0 = .ok (.aload_n 0, 1) := by decide +kernel
theorem dX12_set_1 : decode cX12_set 1 = .ok (.iconst 0, 1) := by decide +kernel
theorem dX12_set_2 : decode cX12_set 2 = .ok (.putfield 107, 3) := by decide +kernel
theorem dX12_set_5 : decode cX12_set 5 = .ok (.iload_n 1, 1) := by decide +kernel
theorem dX12_set_6 : decode cX12_set 6 = .ok (.invokestatic 122, 3) := by decide +kernel
theorem dX12_set_9 : decode cX12_set 9 = .ok (.ifCond .ne 7, 3) := by decide +kernel
theorem dX12_set_12 : decode cX12_set 12 = .ok (.ldc2_w 128, 3) := by decide +kernel
theorem dX12_set_15 : decode cX12_set 15 = .ok (.lreturn, 1) := by decide +kernel
theorem dX12_set_16 : decode cX12_set 16 = .ok (.aload_n 0, 1) := by decide +kernel
theorem dX12_set_17 : decode cX12_set 17 = .ok (.iconst 0, 1) := by decide +kernel
theorem dX12_set_18 : decode cX12_set 18 = .ok (.putfield 111, 3) := by decide +kernel
theorem dX12_set_21 : decode cX12_set 21 = .ok (.aload_n 0, 1) := by decide +kernel
theorem dX12_set_22 : decode cX12_set 22 = .ok (.getfield 9, 3) := by decide +kernel
theorem dX12_set_25 : decode cX12_set 25 = .ok (.iload_n 1, 1) := by decide +kernel
theorem dX12_set_26 : decode cX12_set 26 = .ok (.iaload, 1) := by decide +kernel
theorem dX12_set_27 : decode cX12_set 27 = .ok (.ifCond .ge 9, 3) := by decide +kernel
theorem dX12_set_30 : decode cX12_set 30 = .ok (.aload_n 0, 1) := by decide +kernel
theorem dX12_set_31 : decode cX12_set 31 = .ok (.iconst 1, 1) := by decide +kernel
theorem dX12_set_32 : decode cX12_set 32 = .ok (.invokevirtual 130, 3) := by decide +kernel
theorem dX12_set_35 : decode cX12_set 35 = .ok (.lreturn, 1) := by decide +kernel
theorem dX12_set_36 : decode cX12_set 36 = .ok (.iload_n 2, 1) := by decide +kernel
theorem dX12_set_37 : decode cX12_set 37 = .ok (.i2l, 1) := by decide +kernel
theorem dX12_set_38 : decode cX12_set 38 = .ok (.lconst 0, 1) := by decide +kernel
theorem dX12_set_39 : decode cX12_set 39 = .ok (.aload_n 0, 1) := by decide +kernel
theorem dX12_set_40 : decode cX12_set 40 = .ok (.getfield 13, 3) := by decide +kernel
theorem dX12_set_43 : decode cX12_set 43 = .ok (.iload_n 1, 1) := by decide +kernel
theorem dX12_set_44 : decode cX12_set 44 = .ok (.iaload, 1) := by decide +kernel
theorem dX12_set_45 : decode cX12_set 45 = .ok (.iconst 1, 1) := by decide +kernel
theorem dX12_set_46 : decode cX12_set 46 = .ok (.isub, 1) := by decide +kernel
theorem dX12_set_47 : decode cX12_set 47 = .ok (.i2l, 1) := by decide +kernel
theorem dX12_set_48 : decode cX12_set 48 = .ok (.invokestatic 118, 3) := by decide +kernel
theorem dX12_set_51 : decode cX12_set 51 = .ok (.ifCond .ne 9, 3) := by decide +kernel
theorem dX12_set_54 : decode cX12_set 54 = .ok (.aload_n 0, 1) := by decide +kernel
theorem dX12_set_55 : decode cX12_set 55 = .ok (.iconst 2, 1) := by decide +kernel
theorem dX12_set_56 : decode cX12_set 56 = .ok (.invokevirtual 130, 3) := by decide +kernel
theorem dX12_set_59 : decode cX12_set 59 = .ok (.lreturn, 1) := by decide +kernel
theorem dX12_set_60 : decode cX12_set 60 = .ok (.aload_n 0, 1) := by decide +kernel
theorem dX12_set_61 : decode cX12_set 61 = .ok (.getfield 16, 3) := by decide +kernel
theorem dX12_set_64 : decode cX12_set 64 = .ok (.bipush 40, 2) := by decide +kernel
theorem dX12_set_66 : decode cX12_set 66 = .ok (.iload_n 1, 1) := by decide +kernel
theorem dX12_set_67 : decode cX12_set 67 = .ok (.imul, 1) := by decide +kernel
theorem dX12_set_68 : decode cX12_set 68 = .ok (.iload_n 2, 1) := by decide +kernel
theorem dX12_set_69 : decode cX12_set 69 = .ok (.iadd, 1) := by decide +kernel
theorem dX12_set_70 : decode cX12_set 70 = .ok (.aload_n 0, 1) := by decide +kernel
theorem dX12_set_71 : decode cX12_set 71 = .ok (.getfield 9, 3) := by decide +kernel
theorem dX12_set_74 : decode cX12_set 74 = .ok (.iload_n 1, 1) := by decide +kernel
theorem dX12_set_75 : decode cX12_set 75 = .ok (.iaload, 1) := by decide +kernel
theorem dX12_set_76 : decode cX12_set 76 = .ok (.ifCond .ne 8, 3) := by decide +kernel
theorem dX12_set_79 : decode cX12_set 79 = .ok (.iload_n 3, 1) := by decide +kernel
theorem dX12_set_80 : decode cX12_set 80 = .ok (.i2b, 1) := by decide +kernel
theorem dX12_set_81 : decode cX12_set 81 = .ok (.goto 19, 3) := by decide +kernel
theorem dX12_set_84 : decode cX12_set 84 = .ok (.aload_n 0, 1) := by decide +kernel
theorem dX12_set_85 : decode cX12_set 85 = .ok (.getfield 9, 3) := by decide +kernel
theorem dX12_set_88 : decode cX12_set 88 = .ok (.iload_n 1, 1) := by decide +kernel
theorem dX12_set_89 : decode cX12_set 89 = .ok (.iaload, 1) := by decide +kernel
theorem dX12_set_90 : decode cX12_set 90 = .ok (.iconst 1, 1) := by decide +kernel
theorem dX12_set_91 : decode cX12_set 91 = .ok (.if_icmp .ne 8, 3) := by decide +kernel
theorem dX12_set_94 : decode cX12_set 94 = .ok (.iload_n 3, 1) := by decide +kernel
theorem dX12_set_95 : decode cX12_set 95 = .ok (.i2s, 1) := by decide +kernel
theorem dX12_set_96 : decode cX12_set 96 = .ok (.goto 4, 3) := by decide +kernel
theorem dX12_set_99 : decode cX12_set 99 = .ok (.iload_n 3, 1) := by decide +kernel
theorem dX12_set_100 : decode cX12_set 100 = .ok (.iastore, 1) := by decide +kernel
theorem dX12_set_101 : decode cX12_set 101 = .ok (.aload_n 0, 1) := by decide +kernel
theorem dX12_set_102 : decode cX12_set 102 = .ok (.getfield 16, 3) := by decide +kernel
theorem dX12_set_105 : decode cX12_set 105 = .ok (.bipush 40, 2) := by decide +kernel
theorem dX12_set_107 : decode cX12_set 107 = .ok (.iload_n 1, 1) := by decide +kernel
theorem dX12_set_108 : decode cX12_set 108 = .ok (.imul, 1) := by decide +kernel
theorem dX12_set_109 : decode cX12_set 109 = .ok (.iload_n 2, 1) := by decide +kernel
theorem dX12_set_110 : decode cX12_set 110 = .ok (.iadd, 1) := by decide +kernel
theorem dX12_set_111 : decode cX12_set 111 = .ok (.iaload, 1) := by decide +kernel
theorem dX12_set_112 : decode cX12_set 112 = .ok (.i2l, 1) := by decide +kernel
theorem dX12_set_113 : decode cX12_set 113 = .ok (.lreturn, 1) := by decide +kernel
theorem dX12_copy_0 : decode cX12_copy 0 = .ok (.aload_n 0, 1) := by decide +kernel
theorem dX12_copy_1 : decode cX12_copy 1 = .ok (.iconst 0, 1) := by decide +kernel
theorem dX12_copy_2 : decode cX12_copy 2 = .ok (.putfield 107, 3) := by decide +kernel
theorem dX12_copy_5 : decode cX12_copy 5 = .ok (.iload_n 1, 1) := by decide +kernel
theorem dX12_copy_6 : decode cX12_copy 6 = .ok (.invokestatic 122, 3) := by decide +kernel
theorem dX12_copy_9 : decode cX12_copy 9 = .ok (.ifCond .eq 10, 3) := by decide +kernel
theorem dX12_copy_12 : decode cX12_copy 12 = .ok (.iload_n 3, 1) := by decide +kernel
theorem dX12_copy_13 : decode cX12_copy 13 = .ok (.invokestatic 122, 3) := by decide +kernel
theorem dX12_copy_16 : decode cX12_copy 16 = .ok (.ifCond .ne 7, 3) := by decide +kernel
theorem dX12_copy_19 : decode cX12_copy 19 = .ok (.ldc2_w 128, 3) := by decide +kernel
theorem dX12_copy_22 : decode cX12_copy 22 = .ok (.lreturn, 1) := by decide +kernel
theorem dX12_copy_23 : decode cX12_copy 23 = .ok (.aload_n 0, 1) := by decide +kernel
theorem dX12_copy_24 : decode cX12_copy 24 = .ok (.iconst 0, 1) := by decide +kernel
theorem dX12_copy_25 : decode cX12_copy 25 = .ok (.putfield 111, 3) := by decide +kernel
theorem dX12_copy_28 : decode cX12_copy 28 = .ok (.aload_n 0, 1) := by decide +kernel
theorem dX12_copy_29 : decode cX12_copy 29 = .ok (.getfield 9, 3) := by decide +kernel
theorem dX12_copy_32 : decode cX12_copy 32 = .ok (.iload_n 1, 1) := by decide +kernel
theorem dX12_copy_33 : decode cX12_copy 33 = .ok (.iaload, 1) := by decide +kernel
theorem dX12_copy_34 : decode cX12_copy 34 = .ok (.ifCond .lt 12, 3) := by decide +kernel
theorem dX12_copy_37 : decode cX12_copy 37 = .ok (.aload_n 0, 1) := by decide +kernel
theorem dX12_copy_38 : decode cX12_copy 38 = .ok (.getfield 9, 3) := by decide +kernel
theorem dX12_copy_41 : decode cX12_copy 41 = .ok (.iload_n 3, 1) := by decide +kernel
theorem dX12_copy_42 : decode cX12_copy 42 = .ok (.iaload, 1) := by decide +kernel
theorem dX12_copy_43 : decode cX12_copy 43 = .ok (.ifCond .ge 9, 3) := by decide +kernel
theorem dX12_copy_46 : decode cX12_copy 46 = .ok (.aload_n 0, 1) := by decide +kernel
theorem dX12_copy_47 : decode cX12_copy 47 = .ok (.iconst 1, 1) := by decide +kernel
theorem dX12_copy_48 : decode cX12_copy 48 = .ok (.invokevirtual 130, 3) := by decide +kernel
theorem dX12_copy_51 : decode cX12_copy 51 = .ok (.lreturn, 1) := by decide +kernel
theorem dX12_copy_52 : decode cX12_copy 52 = .ok (.aload_n 0, 1) := by decide +kernel
theorem dX12_copy_53 : decode cX12_copy 53 = .ok (.getfield 9, 3) := by decide +kernel
theorem dX12_copy_56 : decode cX12_copy 56 = .ok (.iload_n 1, 1) := by decide +kernel
theorem dX12_copy_57 : decode cX12_copy 57 = .ok (.iaload, 1) := by decide +kernel
theorem dX12_copy_58 : decode cX12_copy 58 = .ok (.aload_n 0, 1) := by decide +kernel
theorem dX12_copy_59 : decode cX12_copy 59 = .ok (.getfield 9, 3) := by decide +kernel
theorem dX12_copy_62 : decode cX12_copy 62 = .ok (.iload_n 3, 1) := by decide +kernel
theorem dX12_copy_63 : decode cX12_copy 63 = .ok (.iaload, 1) := by decide +kernel
theorem dX12_copy_64 : decode cX12_copy 64 = .ok (.if_icmp .eq 9, 3) := by decide +kernel
theorem dX12_copy_67 : decode cX12_copy 67 = .ok (.aload_n 0, 1) := by decide +kernel
theorem dX12_copy_68 : decode cX12_copy 68 = .ok (.iconst 5, 1) := by decide +kernel
theorem dX12_copy_69 : decode cX12_copy 69 = .ok (.invokevirtual 130, 3) := by decide +kernel
theorem dX12_copy_72 : decode cX12_copy 72 = .ok (.lreturn, 1) := by decide +kernel
theorem dX12_copy_73 : decode cX12_copy 73 = .ok (.iload_n 2, 1) := by decide +kernel
theorem dX12_copy_74 : decode cX12_copy 74 = .ok (.ifCond .lt 48, 3) := by decide +kernel
theorem dX12_copy_77 : decode cX12_copy 77 = .ok (.iload 4, 2) := by decide +kernel
theorem dX12_copy_79 : decode cX12_copy 79 = .ok (.ifCond .lt 43, 3) := by decide +kernel
theorem dX12_copy_82 : decode cX12_copy 82 = .ok (.iload 5, 2) := by decide +kernel
theorem dX12_copy_84 : decode cX12_copy 84 = .ok (.ifCond .lt 38, 3) := by decide +kernel
theorem dX12_copy_87 : decode cX12_copy 87 = .ok (.iload_n 2, 1) := by decide +kernel
theorem dX12_copy_88 : decode cX12_copy 88 = .ok (.i2l, 1) := by decide +kernel
theorem dX12_copy_89 : decode cX12_copy 89 = .ok (.iload 5, 2) := by decide +kernel
theorem dX12_copy_91 : decode cX12_copy 91 = .ok (.i2l, 1) := by decide +kernel
theorem dX12_copy_92 : decode cX12_copy 92 = .ok (.ladd, 1) := by decide +kernel
theorem dX12_copy_93 : decode cX12_copy 93 = .ok (.aload_n 0, 1) := by decide +kernel
theorem dX12_copy_94 : decode cX12_copy 94 = .ok (.getfield 13, 3) := by decide +kernel
theorem dX12_copy_97 : decode cX12_copy 97 = .ok (.iload_n 1, 1) := by decide +kernel
theorem dX12_copy_98 : decode cX12_copy 98 = .ok (.iaload, 1) := by decide +kernel
theorem dX12_copy_99 : decode cX12_copy 99 = .ok (.i2l, 1) := by decide +kernel
theorem dX12_copy_100 : decode cX12_copy 100 = .ok (.lcmp, 1) := by decide +kernel
theorem dX12_copy_101 : decode cX12_copy 101 = .ok (.ifCond .gt 21, 3) := by decide +kernel
theorem dX12_copy_104 : decode cX12_copy 104 = .ok (.iload 4, 2) := by decide +kernel
theorem dX12_copy_106 : decode cX12_copy 106 = .ok (.i2l, 1) := by decide +kernel
theorem dX12_copy_107 : decode cX12_copy 107 = .ok (.iload 5, 2) := by decide +kernel
theorem dX12_copy_109 : decode cX12_copy 109 = .ok (.i2l, 1) := by decide +kernel
theorem dX12_copy_110 : decode cX12_copy 110 = .ok (.ladd, 1) := by decide +kernel
theorem dX12_copy_111 : decode cX12_copy 111 = .ok (.aload_n 0, 1) := by decide +kernel
theorem dX12_copy_112 : decode cX12_copy 112 = .ok (.getfield 13, 3) := by decide +kernel
theorem dX12_copy_115 : decode cX12_copy 115 = .ok (.iload_n 3, 1) := by decide +kernel
theorem dX12_copy_116 : decode cX12_copy 116 = .ok (.iaload, 1) := by decide +kernel
theorem dX12_copy_117 : decode cX12_copy 117 = .ok (.i2l, 1) := by decide +kernel
theorem dX12_copy_118 : decode cX12_copy 118 = .ok (.lcmp, 1) := by decide +kernel
theorem dX12_copy_119 : decode cX12_copy 119 = .ok (.ifCond .le 9, 3) := by decide +kernel
theorem dX12_copy_122 : decode cX12_copy 122 = .ok (.aload_n 0, 1) := by decide +kernel
theorem dX12_copy_123 : decode cX12_copy 123 = .ok (.iconst 2, 1) := by decide +kernel
theorem dX12_copy_124 : decode cX12_copy 124 = .ok (.invokevirtual 130, 3) := by decide +kernel
theorem dX12_copy_127 : decode cX12_copy 127 = .ok (.lreturn, 1) := by decide +kernel
theorem dX12_copy_128 : decode cX12_copy 128 = .ok (.iload_n 2, 1) := by decide +kernel
theorem dX12_copy_129 : decode cX12_copy 129 = .ok (.iload 4, 2) := by decide +kernel
theorem dX12_copy_131 : decode cX12_copy 131 = .ok (.if_icmp .lt 7, 3) := by decide +kernel
theorem dX12_copy_134 : decode cX12_copy 134 = .ok (.iconst 1, 1) := by decide +kernel
theorem dX12_copy_135 : decode cX12_copy 135 = .ok (.goto 4, 3) := by decide +kernel
theorem dX12_copy_138 : decode cX12_copy 138 = .ok (.iconst 0, 1) := by decide +kernel
theorem dX12_copy_139 : decode cX12_copy 139 = .ok (.istore 6, 2) := by decide +kernel
theorem dX12_copy_141 : decode cX12_copy 141 = .ok (.iconst 0, 1) := by decide +kernel
theorem dX12_copy_142 : decode cX12_copy 142 = .ok (.istore 7, 2) := by decide +kernel
theorem dX12_copy_144 : decode cX12_copy 144 = .ok (.iload 7, 2) := by decide +kernel
theorem dX12_copy_146 : decode cX12_copy 146 = .ok (.iload 5, 2) := by decide +kernel
theorem dX12_copy_148 : decode cX12_copy 148 = .ok (.if_icmp .ge 57, 3) := by decide +kernel
theorem dX12_copy_151 : decode cX12_copy 151 = .ok (.iload 6, 2) := by decide +kernel
theorem dX12_copy_153 : decode cX12_copy 153 = .ok (.ifCond .eq 8, 3) := by decide +kernel
theorem dX12_copy_156 : decode cX12_copy 156 = .ok (.iload 7, 2) := by decide +kernel
theorem dX12_copy_158 : decode cX12_copy 158 = .ok (.goto 10, 3) := by decide +kernel
theorem dX12_copy_161 : decode cX12_copy 161 = .ok (.iload 5, 2) := by decide +kernel
theorem dX12_copy_163 : decode cX12_copy 163 = .ok (.iconst 1, 1) := by decide +kernel
theorem dX12_copy_164 : decode cX12_copy 164 = .ok (.isub, 1) := by decide +kernel
theorem dX12_copy_165 : decode cX12_copy 165 = .ok (.iload 7, 2) := by decide +kernel
theorem dX12_copy_167 : decode cX12_copy 167 = .ok (.isub, 1) := by decide +kernel
theorem dX12_copy_168 : decode cX12_copy 168 = .ok (.istore 8, 2) := by decide +kernel
theorem dX12_copy_170 : decode cX12_copy 170 = .ok (.aload_n 0, 1) := by decide +kernel
theorem dX12_copy_171 : decode cX12_copy 171 = .ok (.getfield 16, 3) := by decide +kernel
theorem dX12_copy_174 : decode cX12_copy 174 = .ok (.bipush 40, 2) := by decide +kernel
theorem dX12_copy_176 : decode cX12_copy 176 = .ok (.iload_n 3, 1) := by decide +kernel
theorem dX12_copy_177 : decode cX12_copy 177 = .ok (.imul, 1) := by decide +kernel
theorem dX12_copy_178 : decode cX12_copy 178 = .ok (.iload 4, 2) := by decide +kernel
theorem dX12_copy_180 : decode cX12_copy 180 = .ok (.iadd, 1) := by decide +kernel
theorem dX12_copy_181 : decode cX12_copy 181 = .ok (.iload 8, 2) := by decide +kernel
theorem dX12_copy_183 : decode cX12_copy 183 = .ok (.iadd, 1) := by decide +kernel
theorem dX12_copy_184 : decode cX12_copy 184 = .ok (.aload_n 0, 1) := by decide +kernel
theorem dX12_copy_185 : decode cX12_copy 185 = .ok (.getfield 16, 3) := by decide +kernel
theorem dX12_copy_188 : decode cX12_copy 188 = .ok (.bipush 40, 2) := by decide +kernel
theorem dX12_copy_190 : decode cX12_copy 190 = .ok (.iload_n 1, 1) := by decide +kernel
theorem dX12_copy_191 : decode cX12_copy 191 = .ok (.imul, 1) := by decide +kernel
theorem dX12_copy_192 : decode cX12_copy 192 = .ok (.iload_n 2, 1) := by decide +kernel
theorem dX12_copy_193 : decode cX12_copy 193 = .ok (.iadd, 1) := by decide +kernel
theorem dX12_copy_194 : decode cX12_copy 194 = .ok (.iload 8, 2) := by decide +kernel
theorem dX12_copy_196 : decode cX12_copy 196 = .ok (.iadd, 1) := by decide +kernel
theorem dX12_copy_197 : decode cX12_copy 197 = .ok (.iaload, 1) := by decide +kernel
theorem dX12_copy_198 : decode cX12_copy 198 = .ok (.iastore, 1) := by decide +kernel
theorem dX12_copy_199 : decode cX12_copy 199 = .ok (.iinc 7 1, 3) := by decide +kernel
theorem dX12_copy_202 : decode cX12_copy 202 = .ok (.goto (-58), 3) := by decide +kernel
theorem dX12_copy_205 : decode cX12_copy 205 = .ok (.iload 5, 2) := by decide +kernel
theorem dX12_copy_207 : decode cX12_copy 207 = .ok (.i2l, 1) := by decide +kernel
theorem dX12_copy_208 : decode cX12_copy 208 = .ok (.lreturn, 1) := by decide +kernel
theorem dX12_drop_0 : decode cX12_drop 0 = .ok (.aload_n 0, 1) := by decide +kernel
theorem dX12_drop_1 : decode cX12_drop 1 = .ok (.iconst 0, 1) := by decide +kernel
theorem dX12_drop_2 : decode cX12_drop 2 = .ok (.putfield 107, 3) := by decide +kernel
theorem dX12_drop_5 : decode cX12_drop 5 = .ok (.iload_n 1, 1) := by decide +kernel
theorem dX12_drop_6 : decode cX12_drop 6 = .ok (.invokestatic 122, 3) := by decide +kernel
theorem dX12_drop_9 : decode cX12_drop 9 = .ok (.ifCond .ne 7, 3) := by decide +kernel
theorem dX12_drop_12 : decode cX12_drop 12 = .ok (.ldc2_w 128, 3) := by decide +kernel
theorem dX12_drop_15 : decode cX12_drop 15 = .ok (.lreturn, 1) := by decide +kernel
theorem dX12_drop_16 : decode cX12_drop 16 = .ok (.aload_n 0, 1) := by decide +kernel
theorem dX12_drop_17 : decode cX12_drop 17 = .ok (.iconst 0, 1) := by decide +kernel
theorem dX12_drop_18 : decode cX12_drop 18 = .ok (.putfield 111, 3) := by decide +kernel
theorem dX12_drop_21 : decode cX12_drop 21 = .ok (.aload_n 0, 1) := by decide +kernel
theorem dX12_drop_22 : decode cX12_drop 22 = .ok (.getfield 9, 3) := by decide +kernel
theorem dX12_drop_25 : decode cX12_drop 25 = .ok (.iload_n 1, 1) := by decide +kernel
theorem dX12_drop_26 : decode cX12_drop 26 = .ok (.iaload, 1) := by decide +kernel
theorem dX12_drop_27 : decode cX12_drop 27 = .ok (.ifCond .ge 9, 3) := by decide +kernel
theorem dX12_drop_30 : decode cX12_drop 30 = .ok (.aload_n 0, 1) := by decide +kernel
theorem dX12_drop_31 : decode cX12_drop 31 = .ok (.iconst 1, 1) := by decide +kernel
theorem dX12_drop_32 : decode cX12_drop 32 = .ok (.invokevirtual 130, 3) := by decide +kernel
theorem dX12_drop_35 : decode cX12_drop 35 = .ok (.lreturn, 1) := by decide +kernel
theorem dX12_drop_36 : decode cX12_drop 36 = .ok (.aload_n 0, 1) := by decide +kernel
theorem dX12_drop_37 : decode cX12_drop 37 = .ok (.getfield 9, 3) := by decide +kernel
theorem dX12_drop_40 : decode cX12_drop 40 = .ok (.iload_n 1, 1) := by decide +kernel
theorem dX12_drop_41 : decode cX12_drop 41 = .ok (.iconst (-1), 1) := by decide +kernel
theorem dX12_drop_42 : decode cX12_drop 42 = .ok (.iastore, 1) := by decide +kernel
theorem dX12_drop_43 : decode cX12_drop 43 = .ok (.aload_n 0, 1) := by decide +kernel
theorem dX12_drop_44 : decode cX12_drop 44 = .ok (.getfield 13, 3) := by decide +kernel
theorem dX12_drop_47 : decode cX12_drop 47 = .ok (.iload_n 1, 1) := by decide +kernel
theorem dX12_drop_48 : decode cX12_drop 48 = .ok (.iaload, 1) := by decide +kernel
theorem dX12_drop_49 : decode cX12_drop 49 = .ok (.i2l, 1) := by decide +kernel
theorem dX12_drop_50 : decode cX12_drop 50 = .ok (.lreturn, 1) := by decide +kernel
theorem dX12_feed_0 : decode cX12_feed 0 = .ok (.aload_n 0, 1) := by decide +kernel
theorem dX12_feed_1 : decode cX12_feed 1 = .ok (.iconst 0, 1) := by decide +kernel
theorem dX12_feed_2 : decode cX12_feed 2 = .ok (.putfield 107, 3) := by decide +kernel
theorem dX12_feed_5 : decode cX12_feed 5 = .ok (.iload_n 3, 1) := by decide +kernel
theorem dX12_feed_6 : decode cX12_feed 6 = .ok (.i2l, 1) := by decide +kernel
theorem dX12_feed_7 : decode cX12_feed 7 = .ok (.lconst 1, 1) := by decide +kernel
theorem dX12_feed_8 : decode cX12_feed 8 = .ok (.ldc2_w 134, 3) := by decide +kernel
theorem dX12_feed_11 : decode cX12_feed 11 = .ok (.invokestatic 118, 3) := by decide +kernel
theorem dX12_feed_14 : decode cX12_feed 14 = .ok (.ifCond .ne 7, 3) := by decide +kernel
theorem dX12_feed_17 : decode cX12_feed 17 = .ok (.ldc2_w 128, 3) := by decide +kernel
theorem dX12_feed_20 : decode cX12_feed 20 = .ok (.lreturn, 1) := by decide +kernel
theorem dX12_feed_21 : decode cX12_feed 21 = .ok (.aload_n 0, 1) := by decide +kernel
theorem dX12_feed_22 : decode cX12_feed 22 = .ok (.getfield 136, 3) := by decide +kernel
theorem dX12_feed_25 : decode cX12_feed 25 = .ok (.iload_n 3, 1) := by decide +kernel
theorem dX12_feed_26 : decode cX12_feed 26 = .ok (.iadd, 1) := by decide +kernel
theorem dX12_feed_27 : decode cX12_feed 27 = .ok (.sipush 500, 3) := by decide +kernel
theorem dX12_feed_30 : decode cX12_feed 30 = .ok (.if_icmp .le 7, 3) := by decide +kernel
theorem dX12_feed_33 : decode cX12_feed 33 = .ok (.ldc2_w 139, 3) := by decide +kernel
theorem dX12_feed_36 : decode cX12_feed 36 = .ok (.lreturn, 1) := by decide +kernel
theorem dX12_feed_37 : decode cX12_feed 37 = .ok (.iload_n 3, 1) := by decide +kernel
theorem dX12_feed_38 : decode cX12_feed 38 = .ok (.iconst 1, 1) := by decide +kernel
theorem dX12_feed_39 : decode cX12_feed 39 = .ok (.isub, 1) := by decide +kernel
theorem dX12_feed_40 : decode cX12_feed 40 = .ok (.istore 4, 2) := by decide +kernel
theorem dX12_feed_42 : decode cX12_feed 42 = .ok (.iload 4, 2) := by decide +kernel
theorem dX12_feed_44 : decode cX12_feed 44 = .ok (.ifCond .lt 40, 3) := by decide +kernel
theorem dX12_feed_47 : decode cX12_feed 47 = .ok (.aload_n 0, 1) := by decide +kernel
theorem dX12_feed_48 : decode cX12_feed 48 = .ok (.getfield 31, 3) := by decide +kernel
theorem dX12_feed_51 : decode cX12_feed 51 = .ok (.aload_n 0, 1) := by decide +kernel
theorem dX12_feed_52 : decode cX12_feed 52 = .ok (.getfield 136, 3) := by decide +kernel
theorem dX12_feed_55 : decode cX12_feed 55 = .ok (.lload_n 1, 1) := by decide +kernel
theorem dX12_feed_56 : decode cX12_feed 56 = .ok (.bipush 8, 2) := by decide +kernel
theorem dX12_feed_58 : decode cX12_feed 58 = .ok (.iload 4, 2) := by decide +kernel
theorem dX12_feed_60 : decode cX12_feed 60 = .ok (.imul, 1) := by decide +kernel
theorem dX12_feed_61 : decode cX12_feed 61 = .ok (.lshr, 1) := by decide +kernel
theorem dX12_feed_62 : decode cX12_feed 62 = .ok (.ldc2_w 141, 3) := by decide +kernel
theorem dX12_feed_65 : decode cX12_feed 65 = .ok (.land, 1) := by decide +kernel
theorem dX12_feed_66 : decode cX12_feed 66 = .ok (.l2i, 1) := by decide +kernel
theorem dX12_feed_67 : decode cX12_feed 67 = .ok (.iastore, 1) := by decide +kernel
theorem dX12_feed_68 : decode cX12_feed 68 = .ok (.aload_n 0, 1) := by decide +kernel
theorem dX12_feed_69 : decode cX12_feed 69 = .ok (.dup, 1) := by decide +kernel
theorem dX12_feed_70 : decode cX12_feed 70 = .ok (.getfield 136, 3) := by decide +kernel
theorem dX12_feed_73 : decode cX12_feed 73 = .ok (.iconst 1, 1) := by decide +kernel
theorem dX12_feed_74 : decode cX12_feed 74 = .ok (.iadd, 1) := by decide +kernel
theorem dX12_feed_75 : decode cX12_feed 75 = .ok (.putfield 136, 3) := by decide +kernel
theorem dX12_feed_78 : decode cX12_feed 78 = .ok (.iinc 4 (-1), 3) := by decide +kernel
