theorem dX7_firstEventFrom_26 : decode cX7_firstEventFrom 26 = .ok (.iload_n 2, 1) := by decide +kernel
theorem dX7_firstEventFrom_27 : decode cX7_firstEventFrom 27 = .ok (.ireturn, 1) := by decide +kernel
theorem dX7_canBeLeftOut_0 : decode cX7_canBeLeftOut 0 = .ok (.aload_n 0, 1) := by decide +kernel
theorem dX7_canBeLeftOut_1 : decode cX7_canBeLeftOut 1 = .ok (.getfield 27, 3) := by decide +kernel
theorem dX7_canBeLeftOut_4 : decode cX7_canBeLeftOut 4 = .ok (.iload_n 1, 1) := by decide +kernel
theorem dX7_canBeLeftOut_5 : decode cX7_canBeLeftOut 5 = .ok (.iaload, 1) := by decide +kernel
theorem dX7_canBeLeftOut_6 : decode cX7_canBeLeftOut 6 = .ok (.istore_n 2, 1) := by decide +kernel
theorem dX7_canBeLeftOut_7 : decode cX7_canBeLeftOut 7 = .ok (.iload_n 2, 1) := by decide +kernel
theorem dX7_canBeLeftOut_8 : decode cX7_canBeLeftOut 8 = .ok (.iconst 2, 1) := by decide +kernel
theorem dX7_canBeLeftOut_9 : decode cX7_canBeLeftOut 9 = .ok (.if_icmp .eq 19, 3) := by decide +kernel
theorem dX7_canBeLeftOut_12 : decode cX7_canBeLeftOut 12 = .ok (.iload_n 2, 1) := by decide +kernel
theorem dX7_canBeLeftOut_13 : decode cX7_canBeLeftOut 13 = .ok (.iconst 3, 1) := by decide +kernel
theorem dX7_canBeLeftOut_14 : decode cX7_canBeLeftOut 14 = .ok (.if_icmp .eq 14, 3) := by decide +kernel
theorem dX7_canBeLeftOut_17 : decode cX7_canBeLeftOut 17 = .ok (.iload_n 2, 1) := by decide +kernel
theorem dX7_canBeLeftOut_18 : decode cX7_canBeLeftOut 18 = .ok (.iconst 4, 1) := by decide +kernel
theorem dX7_canBeLeftOut_19 : decode cX7_canBeLeftOut 19 = .ok (.if_icmp .eq 9, 3) := by decide +kernel
theorem dX7_canBeLeftOut_22 : decode cX7_canBeLeftOut 22 = .ok (.iload_n 2, 1) := by decide +kernel
theorem dX7_canBeLeftOut_23 : decode cX7_canBeLeftOut 23 = .ok (.bipush 6, 2) := by decide +kernel
theorem dX7_canBeLeftOut_25 : decode cX7_canBeLeftOut 25 = .ok (.if_icmp .ne 7, 3) := by decide +kernel
theorem dX7_canBeLeftOut_28 : decode cX7_canBeLeftOut 28 = .ok (.iconst 1, 1) := by decide +kernel
theorem dX7_canBeLeftOut_29 : decode cX7_canBeLeftOut 29 = .ok (.goto 4, 3) := by decide +kernel
theorem dX7_canBeLeftOut_32 : decode cX7_canBeLeftOut 32 = .ok (.iconst 0, 1) := by decide +kernel
theorem dX7_canBeLeftOut_33 : decode cX7_canBeLeftOut 33 = .ok (.ireturn, 1) := by decide +kernel
theorem dX7_movesAll_0 : decode cX7_movesAll 0 = .ok (.aload_n 0, 1) := by decide +kernel
theorem dX7_movesAll_1 : decode cX7_movesAll 1 = .ok (.getfield 21, 3) := by decide +kernel
theorem dX7_movesAll_4 : decode cX7_movesAll 4 = .ok (.iload_n 1, 1) := by decide +kernel
theorem dX7_movesAll_5 : decode cX7_movesAll 5 = .ok (.iaload, 1) := by decide +kernel
theorem dX7_movesAll_6 : decode cX7_movesAll 6 = .ok (.iconst 1, 1) := by decide +kernel
theorem dX7_movesAll_7 : decode cX7_movesAll 7 = .ok (.if_icmp .ne 7, 3) := by decide +kernel
theorem dX7_movesAll_10 : decode cX7_movesAll 10 = .ok (.iconst 1, 1) := by decide +kernel
theorem dX7_movesAll_11 : decode cX7_movesAll 11 = .ok (.goto 4, 3) := by decide +kernel
theorem dX7_movesAll_14 : decode cX7_movesAll 14 = .ok (.iconst 0, 1) := by decide +kernel
theorem dX7_movesAll_15 : decode cX7_movesAll 15 = .ok (.ireturn, 1) := by decide +kernel
theorem dX7_way_0 : decode cX7_way 0 = .ok (.aload_n 0, 1) := by decide +kernel
theorem dX7_way_1 : decode cX7_way 1 = .ok (.getfield 27, 3) := by decide +kernel
theorem dX7_way_4 : decode cX7_way 4 = .ok (.iload_n 1, 1) := by decide +kernel
theorem dX7_way_5 : decode cX7_way 5 = .ok (.iaload, 1) := by decide +kernel
theorem dX7_way_6 : decode cX7_way 6 = .ok (.ifCond .ne 12, 3) := by decide +kernel
theorem dX7_way_9 : decode cX7_way 9 = .ok (.aload_n 0, 1) := by decide +kernel
theorem dX7_way_10 : decode cX7_way 10 = .ok (.getfield 33, 3) := by decide +kernel
theorem dX7_way_13 : decode cX7_way 13 = .ok (.iload_n 1, 1) := by decide +kernel
theorem dX7_way_14 : decode cX7_way 14 = .ok (.iaload, 1) := by decide +kernel
theorem dX7_way_15 : decode cX7_way 15 = .ok (.goto 4, 3) := by decide +kernel
theorem dX7_way_18 : decode cX7_way 18 = .ok (.iconst 4, 1) := by decide +kernel
theorem dX7_way_19 : decode cX7_way 19 = .ok (.ireturn, 1) := by decide +kernel
theorem dX7_purseOfComer_0 : decode cX7_purseOfComer 0 = .ok (.aload_n 0, 1) := by decide +kernel
theorem dX7_purseOfComer_1 : decode cX7_purseOfComer 1 = .ok (.getfield 11, 3) := by decide +kernel
theorem dX7_purseOfComer_4 : decode cX7_purseOfComer 4 = .ok (.iload_n 1, 1) := by decide +kernel
theorem dX7_purseOfComer_5 : decode cX7_purseOfComer 5 = .ok (.iconst 4, 1) := by decide +kernel
theorem dX7_purseOfComer_6 : decode cX7_purseOfComer 6 = .ok (.imul, 1) := by decide +kernel
theorem dX7_purseOfComer_7 : decode cX7_purseOfComer 7 = .ok (.aload_n 0, 1) := by decide +kernel
theorem dX7_purseOfComer_8 : decode cX7_purseOfComer 8 = .ok (.getfield 33, 3) := by decide +kernel
theorem dX7_purseOfComer_11 : decode cX7_purseOfComer 11 = .ok (.iload_n 2, 1) := by decide +kernel
theorem dX7_purseOfComer_12 : decode cX7_purseOfComer 12 = .ok (.iaload, 1) := by decide +kernel
theorem dX7_purseOfComer_13 : decode cX7_purseOfComer 13 = .ok (.iadd, 1) := by decide +kernel
theorem dX7_purseOfComer_14 : decode cX7_purseOfComer 14 = .ok (.iaload, 1) := by decide +kernel
theorem dX7_purseOfComer_15 : decode cX7_purseOfComer 15 = .ok (.ifCond .ne 7, 3) := by decide +kernel
theorem dX7_purseOfComer_18 : decode cX7_purseOfComer 18 = .ok (.iconst 1, 1) := by decide +kernel
theorem dX7_purseOfComer_19 : decode cX7_purseOfComer 19 = .ok (.goto 4, 3) := by decide +kernel
theorem dX7_purseOfComer_22 : decode cX7_purseOfComer 22 = .ok (.iconst 0, 1) := by decide +kernel
theorem dX7_purseOfComer_23 : decode cX7_purseOfComer 23 = .ok (.istore_n 3, 1) := by decide +kernel
theorem dX7_purseOfComer_24 : decode cX7_purseOfComer 24 = .ok (.iload_n 3, 1) := by decide +kernel
theorem dX7_purseOfComer_25 : decode cX7_purseOfComer 25 = .ok (.ifCond .eq 12, 3) := by decide +kernel
theorem dX7_purseOfComer_28 : decode cX7_purseOfComer 28 = .ok (.aload_n 0, 1) := by decide +kernel
theorem dX7_purseOfComer_29 : decode cX7_purseOfComer 29 = .ok (.getfield 36, 3) := by decide +kernel
theorem dX7_purseOfComer_32 : decode cX7_purseOfComer 32 = .ok (.iload_n 2, 1) := by decide +kernel
theorem dX7_purseOfComer_33 : decode cX7_purseOfComer 33 = .ok (.iaload, 1) := by decide +kernel
theorem dX7_purseOfComer_34 : decode cX7_purseOfComer 34 = .ok (.goto 4, 3) := by decide +kernel
theorem dX7_purseOfComer_37 : decode cX7_purseOfComer 37 = .ok (.iconst 2, 1) := by decide +kernel
theorem dX7_purseOfComer_38 : decode cX7_purseOfComer 38 = .ok (.ireturn, 1) := by decide +kernel
theorem dX7_purseOfPayers_0 : decode cX7_purseOfPayers 0 = .ok (.aload_n 0, 1) := by decide +kernel
theorem dX7_purseOfPayers_1 : decode cX7_purseOfPayers 1 = .ok (.getfield 33, 3) := by decide +kernel
theorem dX7_purseOfPayers_4 : decode cX7_purseOfPayers 4 = .ok (.iload_n 2, 1) := by decide +kernel
theorem dX7_purseOfPayers_5 : decode cX7_purseOfPayers 5 = .ok (.iaload, 1) := by decide +kernel
theorem dX7_purseOfPayers_6 : decode cX7_purseOfPayers 6 = .ok (.istore_n 3, 1) := by decide +kernel
theorem dX7_purseOfPayers_7 : decode cX7_purseOfPayers 7 = .ok (.aload_n 0, 1) := by decide +kernel
theorem dX7_purseOfPayers_8 : decode cX7_purseOfPayers 8 = .ok (.getfield 36, 3) := by decide +kernel
theorem dX7_purseOfPayers_11 : decode cX7_purseOfPayers 11 = .ok (.iload_n 2, 1) := by decide +kernel
theorem dX7_purseOfPayers_12 : decode cX7_purseOfPayers 12 = .ok (.iaload, 1) := by decide +kernel
theorem dX7_purseOfPayers_13 : decode cX7_purseOfPayers 13 = .ok (.istore 4, 2) := by decide +kernel
theorem dX7_purseOfPayers_15 : decode cX7_purseOfPayers 15 = .ok (.aload_n 0, 1) := by decide +kernel
theorem dX7_purseOfPayers_16 : decode cX7_purseOfPayers 16 = .ok (.getfield 39, 3) := by decide +kernel
theorem dX7_purseOfPayers_19 : decode cX7_purseOfPayers 19 = .ok (.iload_n 2, 1) := by decide +kernel
theorem dX7_purseOfPayers_20 : decode cX7_purseOfPayers 20 = .ok (.iaload, 1) := by decide +kernel
theorem dX7_purseOfPayers_21 : decode cX7_purseOfPayers 21 = .ok (.istore 5, 2) := by decide +kernel
theorem dX7_purseOfPayers_23 : decode cX7_purseOfPayers 23 = .ok (.iload_n 3, 1) := by decide +kernel
theorem dX7_purseOfPayers_24 : decode cX7_purseOfPayers 24 = .ok (.iload 4, 2) := by decide +kernel
theorem dX7_purseOfPayers_26 : decode cX7_purseOfPayers 26 = .ok (.if_icmp .lt 7, 3) := by decide +kernel
theorem dX7_purseOfPayers_29 : decode cX7_purseOfPayers 29 = .ok (.iconst 0, 1) := by decide +kernel
theorem dX7_purseOfPayers_30 : decode cX7_purseOfPayers 30 = .ok (.goto 4, 3) := by decide +kernel
theorem dX7_purseOfPayers_33 : decode cX7_purseOfPayers 33 = .ok (.iconst 1, 1) := by decide +kernel
theorem dX7_purseOfPayers_34 : decode cX7_purseOfPayers 34 = .ok (.istore 6, 2) := by decide +kernel
theorem dX7_purseOfPayers_36 : decode cX7_purseOfPayers 36 = .ok (.iload 5, 2) := by decide +kernel
theorem dX7_purseOfPayers_38 : decode cX7_purseOfPayers 38 = .ok (.iload_n 3, 1) := by decide +kernel
theorem dX7_purseOfPayers_39 : decode cX7_purseOfPayers 39 = .ok (.iload 4, 2) := by decide +kernel
theorem dX7_purseOfPayers_41 : decode cX7_purseOfPayers 41 = .ok (.invokestatic 52, 3) := by decide +kernel
theorem dX7_purseOfPayers_44 : decode cX7_purseOfPayers 44 = .ok (.if_icmp .le 6, 3) := by decide +kernel
theorem dX7_purseOfPayers_47 : decode cX7_purseOfPayers 47 = .ok (.iconst 2, 1) := by decide +kernel
theorem dX7_purseOfPayers_48 : decode cX7_purseOfPayers 48 = .ok (.istore 6, 2) := by decide +kernel
theorem dX7_purseOfPayers_50 : decode cX7_purseOfPayers 50 = .ok (.aload_n 0, 1) := by decide +kernel
theorem dX7_purseOfPayers_51 : decode cX7_purseOfPayers 51 = .ok (.getfield 15, 3) := by decide +kernel
theorem dX7_purseOfPayers_54 : decode cX7_purseOfPayers 54 = .ok (.iload_n 1, 1) := by decide +kernel
theorem dX7_purseOfPayers_55 : decode cX7_purseOfPayers 55 = .ok (.iaload, 1) := by decide +kernel
theorem dX7_purseOfPayers_56 : decode cX7_purseOfPayers 56 = .ok (.ifCond .ne 6, 3) := by decide +kernel
theorem dX7_purseOfPayers_59 : decode cX7_purseOfPayers 59 = .ok (.iload 6, 2) := by decide +kernel
theorem dX7_purseOfPayers_61 : decode cX7_purseOfPayers 61 = .ok (.ireturn, 1) := by decide +kernel
theorem dX7_purseOfPayers_62 : decode cX7_purseOfPayers 62 = .ok (.iload_n 3, 1) := by decide +kernel
theorem dX7_purseOfPayers_63 : decode cX7_purseOfPayers 63 = .ok (.iload 4, 2) := by decide +kernel
theorem dX7_purseOfPayers_65 : decode cX7_purseOfPayers 65 = .ok (.invokestatic 52, 3) := by decide +kernel
theorem dX7_purseOfPayers_68 : decode cX7_purseOfPayers 68 = .ok (.iload 5, 2) := by decide +kernel
theorem dX7_purseOfPayers_70 : decode cX7_purseOfPayers 70 = .ok (.invokestatic 52, 3) := by decide +kernel
theorem dX7_purseOfPayers_73 : decode cX7_purseOfPayers 73 = .ok (.iload_n 3, 1) := by decide +kernel
theorem dX7_purseOfPayers_74 : decode cX7_purseOfPayers 74 = .ok (.iload 4, 2) := by decide +kernel
theorem dX7_purseOfPayers_76 : decode cX7_purseOfPayers 76 = .ok (.iadd, 1) := by decide +kernel
theorem dX7_purseOfPayers_77 : decode cX7_purseOfPayers 77 = .ok (.iload 5, 2) := by decide +kernel
theorem dX7_purseOfPayers_79 : decode cX7_purseOfPayers 79 = .ok (.iadd, 1) := by decide +kernel
theorem dX7_purseOfPayers_80 : decode cX7_purseOfPayers 80 = .ok (.if_icmp .ne 7, 3) := by decide +kernel
theorem dX7_purseOfPayers_83 : decode cX7_purseOfPayers 83 = .ok (.iconst 1, 1) := by decide +kernel
theorem dX7_purseOfPayers_84 : decode cX7_purseOfPayers 84 = .ok (.goto 4, 3) := by decide +kernel
theorem dX7_purseOfPayers_87 : decode cX7_purseOfPayers 87 = .ok (.iconst 0, 1) := by decide +kernel
theorem dX7_purseOfPayers_88 : decode cX7_purseOfPayers 88 = .ok (.istore 7, 2) := by decide +kernel
theorem dX7_purseOfPayers_90 : decode cX7_purseOfPayers 90 = .ok (.iload 7, 2) := by decide +kernel
theorem dX7_purseOfPayers_92 : decode cX7_purseOfPayers 92 = .ok (.ifCond .eq 8, 3) := by decide +kernel
theorem dX7_purseOfPayers_95 : decode cX7_purseOfPayers 95 = .ok (.iload 6, 2) := by decide +kernel
theorem dX7_purseOfPayers_97 : decode cX7_purseOfPayers 97 = .ok (.goto 4, 3) := by decide +kernel
theorem dX7_purseOfPayers_100 : decode cX7_purseOfPayers 100 = .ok (.iconst 2, 1) := by decide +kernel
theorem dX7_purseOfPayers_101 : decode cX7_purseOfPayers 101 = .ok (.ireturn, 1) := by decide +kernel
theorem dX8_init_0 : decode cX8_init 0 = .ok (.aload_n 0, 1) := by decide +kernel
theorem dX8_init_1 : decode cX8_init 1 = .ok (.invokespecial 3, 3) := by decide +kernel
theorem dX8_init_4 : decode cX8_init 4 = .ok (.aload_n 0, 1) := by decide +kernel
theorem dX8_init_5 : decode cX8_init 5 = .ok (.iconst 3, 1) := by decide +kernel
theorem dX8_init_6 : decode cX8_init 6 = .ok (.newarray .long, 2) := by decide +kernel
theorem dX8_init_8 : decode cX8_init 8 = .ok (.putfield 9, 3) := by decide +kernel
theorem dX8_init_11 : decode cX8_init 11 = .ok (.aload_n 0, 1) := by decide +kernel
theorem dX8_init_12 : decode cX8_init 12 = .ok (.iconst 3, 1) := by decide +kernel
theorem dX8_init_13 : decode cX8_init 13 = .ok (.newarray .long, 2) := by decide +kernel
theorem dX8_init_15 : decode cX8_init 15 = .ok (.putfield 15, 3) := by decide +kernel
theorem dX8_init_18 : decode cX8_init 18 = .ok (.aload_n 0, 1) := by decide +kernel
theorem dX8_init_19 : decode cX8_init 19 = .ok (.iconst 3, 1) := by decide +kernel
theorem dX8_init_20 : decode cX8_init 20 = .ok (.newarray .int, 2) := by decide +kernel
theorem dX8_init_22 : decode cX8_init 22 = .ok (.putfield 18, 3) := by decide +kernel
theorem dX8_init_25 : decode cX8_init 25 = .ok (.aload_n 0, 1) := by decide +kernel
theorem dX8_init_26 : decode cX8_init 26 = .ok (.bipush 9, 2) := by decide +kernel
theorem dX8_init_28 : decode cX8_init 28 = .ok (.newarray .long, 2) := by decide +kernel
theorem dX8_init_30 : decode cX8_init 30 = .ok (.putfield 22, 3) := by decide +kernel
theorem dX8_init_33 : decode cX8_init 33 = .ok (.aload_n 0, 1) := by decide +kernel
theorem dX8_init_34 : decode cX8_init 34 = .ok (.bipush 9, 2) := by decide +kernel
theorem dX8_init_36 : decode cX8_init 36 = .ok (.newarray .long, 2) := by decide +kernel
theorem dX8_init_38 : decode cX8_init 38 = .ok (.putfield 25, 3) := by decide +kernel
theorem dX8_init_41 : decode cX8_init 41 = .ok (.aload_n 0, 1) := by decide +kernel
theorem dX8_init_42 : decode cX8_init 42 = .ok (.iconst 3, 1) := by decide +kernel
theorem dX8_init_43 : decode cX8_init 43 = .ok (.newarray .long, 2) := by decide +kernel
theorem dX8_init_45 : decode cX8_init 45 = .ok (.putfield 28, 3) := by decide +kernel
theorem dX8_init_48 : decode cX8_init 48 = .ok (.aload_n 0, 1) := by decide +kernel
theorem dX8_init_49 : decode cX8_init 49 = .ok (.iconst 2, 1) := by decide +kernel
theorem dX8_init_50 : decode cX8_init 50 = .ok (.newarray .long, 2) := by decide +kernel
theorem dX8_init_52 : decode cX8_init 52 = .ok (.putfield 31, 3) := by decide +kernel
theorem dX8_init_55 : decode cX8_init 55 = .ok (.aload_n 0, 1) := by decide +kernel
theorem dX8_init_56 : decode cX8_init 56 = .ok (.lconst 1, 1) := by decide +kernel
theorem dX8_init_57 : decode cX8_init 57 = .ok (.putfield 34, 3) := by decide +kernel
theorem dX8_init_60 : decode cX8_init 60 = .ok (.aload_n 0, 1) := by decide +kernel
theorem dX8_init_61 : decode cX8_init 61 = .ok (.bipush 9, 2) := by decide +kernel
theorem dX8_init_63 : decode cX8_init 63 = .ok (.newarray .long, 2) := by decide +kernel
theorem dX8_init_65 : decode cX8_init 65 = .ok (.putfield 38, 3) := by decide +kernel
theorem dX8_init_68 : decode cX8_init 68 = .ok (.return_, 1) := by decide +kernel
theorem dX8_reckon_0 : decode cX8_reckon 0 = .ok (.aload_n 1, 1) := by decide +kernel
theorem dX8_reckon_1 : decode cX8_reckon 1 = .ok (.getfield 41, 3) := by decide +kernel
theorem dX8_reckon_4 : decode cX8_reckon 4 = .ok (.astore_n 2, 1) := by decide +kernel
theorem dX8_reckon_5 : decode cX8_reckon 5 = .ok (.aload_n 2, 1) := by decide +kernel
theorem dX8_reckon_6 : decode cX8_reckon 6 = .ok (.getfield 47, 3) := by decide +kernel
theorem dX8_reckon_9 : decode cX8_reckon 9 = .ok (.aload_n 1, 1) := by decide +kernel
theorem dX8_reckon_10 : decode cX8_reckon 10 = .ok (.getfield 52, 3) := by decide +kernel
theorem dX8_reckon_13 : decode cX8_reckon 13 = .ok (.iaload, 1) := by decide +kernel
theorem dX8_reckon_14 : decode cX8_reckon 14 = .ok (.istore_n 3, 1) := by decide +kernel
theorem dX8_reckon_15 : decode cX8_reckon 15 = .ok (.aload_n 0, 1) := by decide +kernel
theorem dX8_reckon_16 : decode cX8_reckon 16 = .ok (.aload_n 1, 1) := by decide +kernel
theorem dX8_reckon_17 : decode cX8_reckon 17 = .ok (.invokevirtual 56, 3) := by decide +kernel
theorem dX8_reckon_20 : decode cX8_reckon 20 = .ok (.aload_n 0, 1) := by decide +kernel
theorem dX8_reckon_21 : decode cX8_reckon 21 = .ok (.aload_n 1, 1) := by decide +kernel
theorem dX8_reckon_22 : decode cX8_reckon 22 = .ok (.iload_n 3, 1) := by decide +kernel
theorem dX8_reckon_23 : decode cX8_reckon 23 = .ok (.invokevirtual 60, 3) := by decide +kernel
theorem dX8_reckon_26 : decode cX8_reckon 26 = .ok (.aload_n 0, 1) := by decide +kernel
theorem dX8_reckon_27 : decode cX8_reckon 27 = .ok (.lconst 1, 1) := by decide +kernel
theorem dX8_reckon_28 : decode cX8_reckon 28 = .ok (.putfield 34, 3) := by decide +kernel
theorem dX8_reckon_31 : decode cX8_reckon 31 = .ok (.iload_n 3, 1) := by decide +kernel
theorem dX8_reckon_32 : decode cX8_reckon 32 = .ok (.iconst 1, 1) := by decide +kernel
theorem dX8_reckon_33 : decode cX8_reckon 33 = .ok (.if_icmp .ne 10, 3) := by decide +kernel
theorem dX8_reckon_36 : decode cX8_reckon 36 = .ok (.aload_n 0, 1) := by decide +kernel
theorem dX8_reckon_37 : decode cX8_reckon 37 = .ok (.invokevirtual 64, 3) := by decide +kernel
theorem dX8_reckon_40 : decode cX8_reckon 40 = .ok (.goto 7, 3) := by decide +kernel
theorem dX8_reckon_43 : decode cX8_reckon 43 = .ok (.aload_n 0, 1) := by decide +kernel
theorem dX8_reckon_44 : decode cX8_reckon 44 = .ok (.invokevirtual 67, 3) := by decide +kernel
theorem dX8_reckon_47 : decode cX8_reckon 47 = .ok (.aload_n 2, 1) := by decide +kernel
theorem dX8_reckon_48 : decode cX8_reckon 48 = .ok (.getfield 70, 3) := by decide +kernel
theorem dX8_reckon_51 : decode cX8_reckon 51 = .ok (.aload_n 1, 1) := by decide +kernel
theorem dX8_reckon_52 : decode cX8_reckon 52 = .ok (.getfield 52, 3) := by decide +kernel
theorem dX8_reckon_55 : decode cX8_reckon 55 = .ok (.iaload, 1) := by decide +kernel
theorem dX8_reckon_56 : decode cX8_reckon 56 = .ok (.istore 4, 2) := by decide +kernel
theorem dX8_reckon_58 : decode cX8_reckon 58 = .ok (.aload_n 0, 1) := by decide +kernel
theorem dX8_reckon_59 : decode cX8_reckon 59 = .ok (.getfield 31, 3) := by decide +kernel
theorem dX8_reckon_62 : decode cX8_reckon 62 = .ok (.iconst 0, 1) := by decide +kernel
theorem dX8_reckon_63 : decode cX8_reckon 63 = .ok (.ldc2_w 73, 3) := by decide +kernel
theorem dX8_reckon_66 : decode cX8_reckon 66 = .ok (.aload_n 0, 1) := by decide +kernel
theorem dX8_reckon_67 : decode cX8_reckon 67 = .ok (.getfield 28, 3) := by decide +kernel
theorem dX8_reckon_70 : decode cX8_reckon 70 = .ok (.iconst 0, 1) := by decide +kernel
theorem dX8_reckon_71 : decode cX8_reckon 71 = .ok (.laload, 1) := by decide +kernel
theorem dX8_reckon_72 : decode cX8_reckon 72 = .ok (.lmul, 1) := by decide +kernel
theorem dX8_reckon_73 : decode cX8_reckon 73 = .ok (.iload 4, 2) := by decide +kernel
theorem dX8_reckon_75 : decode cX8_reckon 75 = .ok (.i2l, 1) := by decide +kernel
theorem dX8_reckon_76 : decode cX8_reckon 76 = .ok (.aload_n 0, 1) := by decide +kernel
theorem dX8_reckon_77 : decode cX8_reckon 77 = .ok (.getfield 28, 3) := by decide +kernel
theorem dX8_reckon_80 : decode cX8_reckon 80 = .ok (.iconst 2, 1) := by decide +kernel
theorem dX8_reckon_81 : decode cX8_reckon 81 = .ok (.laload, 1) := by decide +kernel
theorem dX8_reckon_82 : decode cX8_reckon 82 = .ok (.lmul, 1) := by decide +kernel
theorem dX8_reckon_83 : decode cX8_reckon 83 = .ok (.ladd, 1) := by decide +kernel
theorem dX8_reckon_84 : decode cX8_reckon 84 = .ok (.lastore, 1) := by decide +kernel
theorem dX8_reckon_85 : decode cX8_reckon 85 = .ok (.aload_n 0, 1) := by decide +kernel
theorem dX8_reckon_86 : decode cX8_reckon 86 = .ok (.getfield 31, 3) := by decide +kernel
theorem dX8_reckon_89 : decode cX8_reckon 89 = .ok (.iconst 1, 1) := by decide +kernel
theorem dX8_reckon_90 : decode cX8_reckon 90 = .ok (.ldc2_w 73, 3) := by decide +kernel
theorem dX8_reckon_93 : decode cX8_reckon 93 = .ok (.aload_n 0, 1) := by decide +kernel
theorem dX8_reckon_94 : decode cX8_reckon 94 = .ok (.getfield 28, 3) := by decide +kernel
theorem dX8_reckon_97 : decode cX8_reckon 97 = .ok (.iconst 1, 1) := by decide +kernel
theorem dX8_reckon_98 : decode cX8_reckon 98 = .ok (.laload, 1) := by decide +kernel
theorem dX8_reckon_99 : decode cX8_reckon 99 = .ok (.lmul, 1) := by decide +kernel
theorem dX8_reckon_100 : decode cX8_reckon 100 = .ok (.bipush 100, 2) := by decide +kernel
theorem dX8_reckon_102 : decode cX8_reckon 102 = .ok (.iload 4, 2) := by decide +kernel
theorem dX8_reckon_104 : decode cX8_reckon 104 = .ok (.isub, 1) := by decide +kernel
theorem dX8_reckon_105 : decode cX8_reckon 105 = .ok (.i2l, 1) := by decide +kernel
theorem dX8_reckon_106 : decode cX8_reckon 106 = .ok (.aload_n 0, 1) := by decide +kernel
theorem dX8_reckon_107 : decode cX8_reckon 107 = .ok (.getfield 28, 3) := by decide +kernel
theorem dX8_reckon_110 : decode cX8_reckon 110 = .ok (.iconst 2, 1) := by decide +kernel
theorem dX8_reckon_111 : decode cX8_reckon 111 = .ok (.laload, 1) := by decide +kernel
theorem dX8_reckon_112 : decode cX8_reckon 112 = .ok (.lmul, 1) := by decide +kernel
theorem dX8_reckon_113 : decode cX8_reckon 113 = .ok (.ladd, 1) := by decide +kernel
theorem dX8_reckon_114 : decode cX8_reckon 114 = .ok (.lastore, 1) := by decide +kernel
theorem dX8_reckon_115 : decode cX8_reckon 115 = .ok (.return_, 1) := by decide +kernel
theorem dX8_endBottom_0 : decode cX8_endBottom 0 = .ok (.ldc2_w 73, 3) := by decide +kernel
theorem dX8_endBottom_3 : decode cX8_endBottom 3 = .ok (.aload_n 0, 1) := by decide +kernel
theorem dX8_endBottom_4 : decode cX8_endBottom 4 = .ok (.getfield 34, 3) := by decide +kernel
theorem dX8_endBottom_7 : decode cX8_endBottom 7 = .ok (.lmul, 1) := by decide +kernel
theorem dX8_endBottom_8 : decode cX8_endBottom 8 = .ok (.lreturn, 1) := by decide +kernel
theorem dX8_herEndCut_0 : decode cX8_herEndCut 0 = .ok (.aload_n 0, 1) := by decide +kernel
theorem dX8_herEndCut_1 : decode cX8_herEndCut 1 = .ok (.invokevirtual 75, 3) := by decide +kernel
theorem dX8_herEndCut_4 : decode cX8_herEndCut 4 = .ok (.lconst 0, 1) := by decide +kernel
theorem dX8_herEndCut_5 : decode cX8_herEndCut 5 = .ok (.lcmp, 1) := by decide +kernel
theorem dX8_herEndCut_6 : decode cX8_herEndCut 6 = .ok (.ifCond .le 17, 3) := by decide +kernel
theorem dX8_herEndCut_9 : decode cX8_herEndCut 9 = .ok (.aload_n 0, 1) := by decide +kernel
theorem dX8_herEndCut_10 : decode cX8_herEndCut 10 = .ok (.getfield 31, 3) := by decide +kernel
theorem dX8_herEndCut_13 : decode cX8_herEndCut 13 = .ok (.iconst 0, 1) := by decide +kernel
theorem dX8_herEndCut_14 : decode cX8_herEndCut 14 = .ok (.laload, 1) := by decide +kernel
theorem dX8_herEndCut_15 : decode cX8_herEndCut 15 = .ok (.aload_n 0, 1) := by decide +kernel
theorem dX8_herEndCut_16 : decode cX8_herEndCut 16 = .ok (.invokevirtual 75, 3) := by decide +kernel
theorem dX8_herEndCut_19 : decode cX8_herEndCut 19 = .ok (.ldiv, 1) := by decide +kernel
theorem dX8_herEndCut_20 : decode cX8_herEndCut 20 = .ok (.goto 4, 3) := by decide +kernel
theorem dX8_herEndCut_23 : decode cX8_herEndCut 23 = .ok (.lconst 0, 1) := by decide +kernel
theorem dX8_herEndCut_24 : decode cX8_herEndCut 24 = .ok (.lreturn, 1) := by decide +kernel
theorem dX8_grants_0 : decode cX8_grants 0 = .ok (.aload_n 0, 1) := by decide +kernel
theorem dX8_grants_1 : decode cX8_grants 1 = .ok (.getfield 31, 3) := by decide +kernel
theorem dX8_grants_4 : decode cX8_grants 4 = .ok (.iconst 0, 1) := by decide +kernel
theorem dX8_grants_5 : decode cX8_grants 5 = .ok (.laload, 1) := by decide +kernel
theorem dX8_grants_6 : decode cX8_grants 6 = .ok (.iload_n 1, 1) := by decide +kernel
theorem dX8_grants_7 : decode cX8_grants 7 = .ok (.i2l, 1) := by decide +kernel
theorem dX8_grants_8 : decode cX8_grants 8 = .ok (.aload_n 0, 1) := by decide +kernel
theorem dX8_grants_9 : decode cX8_grants 9 = .ok (.invokevirtual 75, 3) := by decide +kernel
theorem dX8_grants_12 : decode cX8_grants 12 = .ok (.lmul, 1) := by decide +kernel
theorem dX8_grants_13 : decode cX8_grants 13 = .ok (.lcmp, 1) := by decide +kernel
theorem dX8_grants_14 : decode cX8_grants 14 = .ok (.ifCond .lt 24, 3) := by decide +kernel
theorem dX8_grants_17 : decode cX8_grants 17 = .ok (.aload_n 0, 1) := by decide +kernel
theorem dX8_grants_18 : decode cX8_grants 18 = .ok (.getfield 31, 3) := by decide +kernel
theorem dX8_grants_21 : decode cX8_grants 21 = .ok (.iconst 1, 1) := by decide +kernel
theorem dX8_grants_22 : decode cX8_grants 22 = .ok (.laload, 1) := by decide +kernel
theorem dX8_grants_23 : decode cX8_grants 23 = .ok (.iload_n 2, 1) := by decide +kernel
theorem dX8_grants_24 : decode cX8_grants 24 = .ok (.i2l, 1) := by decide +kernel
theorem dX8_grants_25 : decode cX8_grants 25 = .ok (.aload_n 0, 1) := by decide +kernel
theorem dX8_grants_26 : decode cX8_grants 26 = .ok (.invokevirtual 75, 3) := by decide +kernel
theorem dX8_grants_29 : decode cX8_grants 29 = .ok (.lmul, 1) := by decide +kernel
theorem dX8_grants_30 : decode cX8_grants 30 = .ok (.lcmp, 1) := by decide +kernel
theorem dX8_grants_31 : decode cX8_grants 31 = .ok (.ifCond .lt 7, 3) := by decide +kernel
theorem dX8_grants_34 : decode cX8_grants 34 = .ok (.iconst 1, 1) := by decide +kernel
theorem dX8_grants_35 : decode cX8_grants 35 = .ok (.goto 4, 3) := by decide +kernel
theorem dX8_grants_38 : decode cX8_grants 38 = .ok (.iconst 0, 1) := by decide +kernel
theorem dX8_grants_39 : decode cX8_grants 39 = .ok (.ireturn, 1) := by decide +kernel
theorem dX8_addThings_0 : decode cX8_addThings 0 = .ok (.iconst 0, 1) := by decide +kernel
theorem dX8_addThings_1 : decode cX8_addThings 1 = .ok (.istore_n 2, 1) := by decide +kernel
theorem dX8_addThings_2 : decode cX8_addThings 2 = .ok (.iload_n 2, 1) := by decide +kernel
theorem dX8_addThings_3 : decode cX8_addThings 3 = .ok (.iconst 3, 1) := by decide +kernel
theorem dX8_addThings_4 : decode cX8_addThings 4 = .ok (.if_icmp .ge 37, 3) := by decide +kernel
theorem dX8_addThings_7 : decode cX8_addThings 7 = .ok (.aload_n 0, 1) := by decide +kernel
theorem dX8_addThings_8 : decode cX8_addThings 8 = .ok (.getfield 9, 3) := by decide +kernel
theorem dX8_addThings_11 : decode cX8_addThings 11 = .ok (.iload_n 2, 1) := by decide +kernel
theorem dX8_addThings_12 : decode cX8_addThings 12 = .ok (.aload_n 1, 1) := by decide +kernel
theorem dX8_addThings_13 : decode cX8_addThings 13 = .ok (.getfield 79, 3) := by decide +kernel
theorem dX8_addThings_16 : decode cX8_addThings 16 = .ok (.iload_n 2, 1) := by decide +kernel
theorem dX8_addThings_17 : decode cX8_addThings 17 = .ok (.iaload, 1) := by decide +kernel
theorem dX8_addThings_18 : decode cX8_addThings 18 = .ok (.ineg, 1) := by decide +kernel
theorem dX8_addThings_19 : decode cX8_addThings 19 = .ok (.i2l, 1) := by decide +kernel
theorem dX8_addThings_20 : decode cX8_addThings 20 = .ok (.lastore, 1) := by decide +kernel
theorem dX8_addThings_21 : decode cX8_addThings 21 = .ok (.aload_n 0, 1) := by decide +kernel
theorem dX8_addThings_22 : decode cX8_addThings 22 = .ok (.getfield 15, 3) := by decide +kernel
theorem dX8_addThings_25 : decode cX8_addThings 25 = .ok (.iload_n 2, 1) := by decide +kernel
theorem dX8_addThings_26 : decode cX8_addThings 26 = .ok (.lconst 0, 1) := by decide +kernel
theorem dX8_addThings_27 : decode cX8_addThings 27 = .ok (.lastore, 1) := by decide +kernel
theorem dX8_addThings_28 : decode cX8_addThings 28 = .ok (.aload_n 0, 1) := by decide +kernel
theorem dX8_addThings_29 : decode cX8_addThings 29 = .ok (.getfield 18, 3) := by decide +kernel
theorem dX8_addThings_32 : decode cX8_addThings 32 = .ok (.iload_n 2, 1) := by decide +kernel
theorem dX8_addThings_33 : decode cX8_addThings 33 = .ok (.iconst 0, 1) := by decide +kernel
theorem dX8_addThings_34 : decode cX8_addThings 34 = .ok (.iastore, 1) := by decide +kernel
theorem dX8_addThings_35 : decode cX8_addThings 35 = .ok (.iinc 2 1, 3) := by decide +kernel
theorem dX8_addThings_38 : decode cX8_addThings 38 = .ok (.goto (-36), 3) := by decide +kernel
theorem dX8_addThings_41 : decode cX8_addThings 41 = .ok (.iconst 0, 1) := by decide +kernel
theorem dX8_addThings_42 : decode cX8_addThings 42 = .ok (.istore_n 2, 1) := by decide +kernel
theorem dX8_addThings_43 : decode cX8_addThings 43 = .ok (.iload_n 2, 1) := by decide +kernel
theorem dX8_addThings_44 : decode cX8_addThings 44 = .ok (.aload_n 1, 1) := by decide +kernel
theorem dX8_addThings_45 : decode cX8_addThings 45 = .ok (.getfield 82, 3) := by decide +kernel
theorem dX8_addThings_48 : decode cX8_addThings 48 = .ok (.if_icmp .ge 58, 3) := by decide +kernel
theorem dX8_addThings_51 : decode cX8_addThings 51 = .ok (.aload_n 1, 1) := by decide +kernel
theorem dX8_addThings_52 : decode cX8_addThings 52 = .ok (.getfield 85, 3) := by decide +kernel
theorem dX8_addThings_55 : decode cX8_addThings 55 = .ok (.iload_n 2, 1) := by decide +kernel
theorem dX8_addThings_56 : decode cX8_addThings 56 = .ok (.iaload, 1) := by decide +kernel
theorem dX8_addThings_57 : decode cX8_addThings 57 = .ok (.istore_n 3, 1) := by decide +kernel
theorem dX8_addThings_58 : decode cX8_addThings 58 = .ok (.aload_n 0, 1) := by decide +kernel
theorem dX8_addThings_59 : decode cX8_addThings 59 = .ok (.getfield 9, 3) := by decide +kernel
theorem dX8_addThings_62 : decode cX8_addThings 62 = .ok (.iload_n 3, 1) := by decide +kernel
theorem dX8_addThings_63 : decode cX8_addThings 63 = .ok (.dup2, 1) := by decide +kernel
theorem dX8_addThings_64 : decode cX8_addThings 64 = .ok (.laload, 1) := by decide +kernel
theorem dX8_addThings_65 : decode cX8_addThings 65 = .ok (.aload_n 1, 1) := by decide +kernel
theorem dX8_addThings_66 : decode cX8_addThings 66 = .ok (.getfield 88, 3) := by decide +kernel
theorem dX8_addThings_69 : decode cX8_addThings 69 = .ok (.iload_n 2, 1) := by decide +kernel
theorem dX8_addThings_70 : decode cX8_addThings 70 = .ok (.iaload, 1) := by decide +kernel
theorem dX8_addThings_71 : decode cX8_addThings 71 = .ok (.i2l, 1) := by decide +kernel
theorem dX8_addThings_72 : decode cX8_addThings 72 = .ok (.ladd, 1) := by decide +kernel
theorem dX8_addThings_73 : decode cX8_addThings 73 = .ok (.lastore, 1) := by decide +kernel
theorem dX8_addThings_74 : decode cX8_addThings 74 = .ok (.aload_n 0, 1) := by decide +kernel
theorem dX8_addThings_75 : decode cX8_addThings 75 = .ok (.getfield 15, 3) := by decide +kernel
theorem dX8_addThings_78 : decode cX8_addThings 78 = .ok (.iload_n 3, 1) := by decide +kernel
theorem dX8_addThings_79 : decode cX8_addThings 79 = .ok (.dup2, 1) := by decide +kernel
theorem dX8_addThings_80 : decode cX8_addThings 80 = .ok (.laload, 1) := by decide +kernel
theorem dX8_addThings_81 : decode cX8_addThings 81 = .ok (.aload_n 1, 1) := by decide +kernel
theorem dX8_addThings_82 : decode cX8_addThings 82 = .ok (.getfield 91, 3) := by decide +kernel
theorem dX8_addThings_85 : decode cX8_addThings 85 = .ok (.iload_n 2, 1) := by decide +kernel
theorem dX8_addThings_86 : decode cX8_addThings 86 = .ok (.iaload, 1) := by decide +kernel
theorem dX8_addThings_87 : decode cX8_addThings 87 = .ok (.i2l, 1) := by decide +kernel
theorem dX8_addThings_88 : decode cX8_addThings 88 = .ok (.ladd, 1) := by decide +kernel
theorem dX8_addThings_89 : decode cX8_addThings 89 = .ok (.lastore, 1) := by decide +kernel
theorem dX8_addThings_90 : decode cX8_addThings 90 = .ok (.aload_n 0, 1) := by decide +kernel
theorem dX8_addThings_91 : decode cX8_addThings 91 = .ok (.getfield 18, 3) := by decide +kernel
theorem dX8_addThings_94 : decode cX8_addThings 94 = .ok (.iload_n 3, 1) := by decide +kernel
theorem dX8_addThings_95 : decode cX8_addThings 95 = .ok (.dup2, 1) := by decide +kernel
theorem dX8_addThings_96 : decode cX8_addThings 96 = .ok (.iaload, 1) := by decide +kernel
theorem dX8_addThings_97 : decode cX8_addThings 97 = .ok (.iconst 1, 1) := by decide +kernel
theorem dX8_addThings_98 : decode cX8_addThings 98 = .ok (.iadd, 1) := by decide +kernel
theorem dX8_addThings_99 : decode cX8_addThings 99 = .ok (.iastore, 1) := by decide +kernel
theorem dX8_addThings_100 : decode cX8_addThings 100 = .ok (.iinc 2 1, 3) := by decide +kernel
theorem dX8_addThings_103 : decode cX8_addThings 103 = .ok (.goto (-60), 3) := by decide +kernel
theorem dX8_addThings_106 : decode cX8_addThings 106 = .ok (.return_, 1) := by decide +kernel
theorem dX8_addPuts_0 : decode cX8_addPuts 0 = .ok (.aload_n 0, 1) := by decide +kernel
theorem dX8_addPuts_1 : decode cX8_addPuts 1 = .ok (.getfield 22, 3) := by decide +kernel
theorem dX8_addPuts_4 : decode cX8_addPuts 4 = .ok (.lconst 0, 1) := by decide +kernel
theorem dX8_addPuts_5 : decode cX8_addPuts 5 = .ok (.invokestatic 94, 3) := by decide +kernel
theorem dX8_addPuts_8 : decode cX8_addPuts 8 = .ok (.aload_n 0, 1) := by decide +kernel
theorem dX8_addPuts_9 : decode cX8_addPuts 9 = .ok (.getfield 25, 3) := by decide +kernel
theorem dX8_addPuts_12 : decode cX8_addPuts 12 = .ok (.lconst 0, 1) := by decide +kernel
theorem dX8_addPuts_13 : decode cX8_addPuts 13 = .ok (.invokestatic 94, 3) := by decide +kernel
theorem dX8_addPuts_16 : decode cX8_addPuts 16 = .ok (.iconst 0, 1) := by decide +kernel
theorem dX8_addPuts_17 : decode cX8_addPuts 17 = .ok (.istore_n 3, 1) := by decide +kernel
theorem dX8_addPuts_18 : decode cX8_addPuts 18 = .ok (.iload_n 3, 1) := by decide +kernel
theorem dX8_addPuts_19 : decode cX8_addPuts 19 = .ok (.aload_n 1, 1) := by decide +kernel
theorem dX8_addPuts_20 : decode cX8_addPuts 20 = .ok (.getfield 100, 3) := by decide +kernel
theorem dX8_addPuts_23 : decode cX8_addPuts 23 = .ok (.if_icmp .ge 115, 3) := by decide +kernel
theorem dX8_addPuts_26 : decode cX8_addPuts 26 = .ok (.aload_n 1, 1) := by decide +kernel
theorem dX8_addPuts_27 : decode cX8_addPuts 27 = .ok (.getfield 103, 3) := by decide +kernel
theorem dX8_addPuts_30 : decode cX8_addPuts 30 = .ok (.iload_n 3, 1) := by decide +kernel
theorem dX8_addPuts_31 : decode cX8_addPuts 31 = .ok (.iaload, 1) := by decide +kernel
theorem dX8_addPuts_32 : decode cX8_addPuts 32 = .ok (.istore 4, 2) := by decide +kernel
theorem dX8_addPuts_34 : decode cX8_addPuts 34 = .ok (.aload_n 1, 1) := by decide +kernel
theorem dX8_addPuts_35 : decode cX8_addPuts 35 = .ok (.getfield 106, 3) := by decide +kernel
theorem dX8_addPuts_38 : decode cX8_addPuts 38 = .ok (.iload_n 3, 1) := by decide +kernel
theorem dX8_addPuts_39 : decode cX8_addPuts 39 = .ok (.iaload, 1) := by decide +kernel
theorem dX8_addPuts_40 : decode cX8_addPuts 40 = .ok (.istore 5, 2) := by decide +kernel
theorem dX8_addPuts_42 : decode cX8_addPuts 42 = .ok (.aload_n 1, 1) := by decide +kernel
theorem dX8_addPuts_43 : decode cX8_addPuts 43 = .ok (.getfield 109, 3) := by decide +kernel
theorem dX8_addPuts_46 : decode cX8_addPuts 46 = .ok (.iload_n 3, 1) := by decide +kernel
theorem dX8_addPuts_47 : decode cX8_addPuts 47 = .ok (.iaload, 1) := by decide +kernel
theorem dX8_addPuts_48 : decode cX8_addPuts 48 = .ok (.istore 6, 2) := by decide +kernel
theorem dX8_addPuts_50 : decode cX8_addPuts 50 = .ok (.aload_n 1, 1) := by decide +kernel
theorem dX8_addPuts_51 : decode cX8_addPuts 51 = .ok (.getfield 85, 3) := by decide +kernel
theorem dX8_addPuts_54 : decode cX8_addPuts 54 = .ok (.iload 5, 2) := by decide +kernel
theorem dX8_addPuts_56 : decode cX8_addPuts 56 = .ok (.iaload, 1) := by decide +kernel
theorem dX8_addPuts_57 : decode cX8_addPuts 57 = .ok (.istore 7, 2) := by decide +kernel
theorem dX8_addPuts_59 : decode cX8_addPuts 59 = .ok (.aload_n 0, 1) := by decide +kernel
theorem dX8_addPuts_60 : decode cX8_addPuts 60 = .ok (.getfield 15, 3) := by decide +kernel
theorem dX8_addPuts_63 : decode cX8_addPuts 63 = .ok (.iload 7, 2) := by decide +kernel
theorem dX8_addPuts_65 : decode cX8_addPuts 65 = .ok (.dup2, 1) := by decide +kernel
theorem dX8_addPuts_66 : decode cX8_addPuts 66 = .ok (.laload, 1) := by decide +kernel
theorem dX8_addPuts_67 : decode cX8_addPuts 67 = .ok (.iload 4, 2) := by decide +kernel
theorem dX8_addPuts_69 : decode cX8_addPuts 69 = .ok (.i2l, 1) := by decide +kernel
theorem dX8_addPuts_70 : decode cX8_addPuts 70 = .ok (.ladd, 1) := by decide +kernel
theorem dX8_addPuts_71 : decode cX8_addPuts 71 = .ok (.lastore, 1) := by decide +kernel
theorem dX8_addPuts_72 : decode cX8_addPuts 72 = .ok (.iload 6, 2) := by decide +kernel
theorem dX8_addPuts_74 : decode cX8_addPuts 74 = .ok (.iload 7, 2) := by decide +kernel
theorem dX8_addPuts_76 : decode cX8_addPuts 76 = .ok (.if_icmp .eq 56, 3) := by decide +kernel
theorem dX8_addPuts_79 : decode cX8_addPuts 79 = .ok (.aload_n 0, 1) := by decide +kernel
theorem dX8_addPuts_80 : decode cX8_addPuts 80 = .ok (.getfield 22, 3) := by decide +kernel
theorem dX8_addPuts_83 : decode cX8_addPuts 83 = .ok (.iload 6, 2) := by decide +kernel
theorem dX8_addPuts_85 : decode cX8_addPuts 85 = .ok (.iconst 3, 1) := by decide +kernel
theorem dX8_addPuts_86 : decode cX8_addPuts 86 = .ok (.imul, 1) := by decide +kernel
theorem dX8_addPuts_87 : decode cX8_addPuts 87 = .ok (.iload 7, 2) := by decide +kernel
theorem dX8_addPuts_89 : decode cX8_addPuts 89 = .ok (.iadd, 1) := by decide +kernel
theorem dX8_addPuts_90 : decode cX8_addPuts 90 = .ok (.dup2, 1) := by decide +kernel
theorem dX8_addPuts_91 : decode cX8_addPuts 91 = .ok (.laload, 1) := by decide +kernel
theorem dX8_addPuts_92 : decode cX8_addPuts 92 = .ok (.iload 4, 2) := by decide +kernel
theorem dX8_addPuts_94 : decode cX8_addPuts 94 = .ok (.i2l, 1) := by decide +kernel
theorem dX8_addPuts_95 : decode cX8_addPuts 95 = .ok (.ladd, 1) := by decide +kernel
theorem dX8_addPuts_96 : decode cX8_addPuts 96 = .ok (.lastore, 1) := by decide +kernel
theorem dX8_addPuts_97 : decode cX8_addPuts 97 = .ok (.aload_n 0, 1) := by decide +kernel
theorem dX8_addPuts_98 : decode cX8_addPuts 98 = .ok (.getfield 25, 3) := by decide +kernel
theorem dX8_addPuts_101 : decode cX8_addPuts 101 = .ok (.iload 6, 2) := by decide +kernel
theorem dX8_addPuts_103 : decode cX8_addPuts 103 = .ok (.iconst 3, 1) := by decide +kernel
theorem dX8_addPuts_104 : decode cX8_addPuts 104 = .ok (.imul, 1) := by decide +kernel
theorem dX8_addPuts_105 : decode cX8_addPuts 105 = .ok (.iload 7, 2) := by decide +kernel
theorem dX8_addPuts_107 : decode cX8_addPuts 107 = .ok (.iadd, 1) := by decide +kernel
theorem dX8_addPuts_108 : decode cX8_addPuts 108 = .ok (.dup2, 1) := by decide +kernel
theorem dX8_addPuts_109 : decode cX8_addPuts 109 = .ok (.laload, 1) := by decide +kernel
theorem dX8_addPuts_110 : decode cX8_addPuts 110 = .ok (.iload_n 2, 1) := by decide +kernel
theorem dX8_addPuts_111 : decode cX8_addPuts 111 = .ok (.iload 4, 2) := by decide +kernel
theorem dX8_addPuts_113 : decode cX8_addPuts 113 = .ok (.aload_n 1, 1) := by decide +kernel
theorem dX8_addPuts_114 : decode cX8_addPuts 114 = .ok (.getfield 88, 3) := by decide +kernel
theorem dX8_addPuts_117 : decode cX8_addPuts 117 = .ok (.iload 5, 2) := by decide +kernel
theorem dX8_addPuts_119 : decode cX8_addPuts 119 = .ok (.iaload, 1) := by decide +kernel
theorem dX8_addPuts_120 : decode cX8_addPuts 120 = .ok (.aload_n 1, 1) := by decide +kernel
theorem dX8_addPuts_121 : decode cX8_addPuts 121 = .ok (.getfield 112, 3) := by decide +kernel
theorem dX8_addPuts_124 : decode cX8_addPuts 124 = .ok (.iload_n 3, 1) := by decide +kernel
theorem dX8_addPuts_125 : decode cX8_addPuts 125 = .ok (.iaload, 1) := by decide +kernel
theorem dX8_addPuts_126 : decode cX8_addPuts 126 = .ok (.invokestatic 115, 3) := by decide +kernel
theorem dX8_addPuts_129 : decode cX8_addPuts 129 = .ok (.i2l, 1) := by decide +kernel
theorem dX8_addPuts_130 : decode cX8_addPuts 130 = .ok (.ladd, 1) := by decide +kernel
theorem dX8_addPuts_131 : decode cX8_addPuts 131 = .ok (.lastore, 1) := by decide +kernel
theorem dX8_addPuts_132 : decode cX8_addPuts 132 = .ok (.iinc 3 1, 3) := by decide +kernel
theorem dX8_addPuts_135 : decode cX8_addPuts 135 = .ok (.goto (-117), 3) := by decide +kernel
theorem dX8_addPuts_138 : decode cX8_addPuts 138 = .ok (.return_, 1) := by decide +kernel
theorem dX8_claim_0 : decode cX8_claim 0 = .ok (.iload_n 0, 1) := by decide +kernel
theorem dX8_claim_1 : decode cX8_claim 1 = .ok (.ifCond .eq 12, 3) := by decide +kernel
theorem dX8_claim_4 : decode cX8_claim 4 = .ok (.iload_n 0, 1) := by decide +kernel
theorem dX8_claim_5 : decode cX8_claim 5 = .ok (.iconst 1, 1) := by decide +kernel
theorem dX8_claim_6 : decode cX8_claim 6 = .ok (.if_icmp .eq 7, 3) := by decide +kernel
theorem dX8_claim_9 : decode cX8_claim 9 = .ok (.iload_n 3, 1) := by decide +kernel
theorem dX8_claim_10 : decode cX8_claim 10 = .ok (.ifCond .gt 5, 3) := by decide +kernel
theorem dX8_claim_13 : decode cX8_claim 13 = .ok (.iload_n 1, 1) := by decide +kernel
theorem dX8_claim_14 : decode cX8_claim 14 = .ok (.ireturn, 1) := by decide +kernel
theorem dX8_claim_15 : decode cX8_claim 15 = .ok (.iload_n 1, 1) := by decide +kernel
theorem dX8_claim_16 : decode cX8_claim 16 = .ok (.iload_n 2, 1) := by decide +kernel
theorem dX8_claim_17 : decode cX8_claim 17 = .ok (.imul, 1) := by decide +kernel
theorem dX8_claim_18 : decode cX8_claim 18 = .ok (.iload_n 3, 1) := by decide +kernel
theorem dX8_claim_19 : decode cX8_claim 19 = .ok (.idiv, 1) := by decide +kernel
theorem dX8_claim_20 : decode cX8_claim 20 = .ok (.istore 4, 2) := by decide +kernel
theorem dX8_claim_22 : decode cX8_claim 22 = .ok (.iload_n 0, 1) := by decide +kernel
theorem dX8_claim_23 : decode cX8_claim 23 = .ok (.iconst 2, 1) := by decide +kernel
theorem dX8_claim_24 : decode cX8_claim 24 = .ok (.if_icmp .ne 6, 3) := by decide +kernel
theorem dX8_claim_27 : decode cX8_claim 27 = .ok (.iload 4, 2) := by decide +kernel
theorem dX8_claim_29 : decode cX8_claim 29 = .ok (.ireturn, 1) := by decide +kernel
theorem dX8_claim_30 : decode cX8_claim 30 = .ok (.iload_n 0, 1) := by decide +kernel
theorem dX8_claim_31 : decode cX8_claim 31 = .ok (.iconst 3, 1) := by decide +kernel
theorem dX8_claim_32 : decode cX8_claim 32 = .ok (.if_icmp .ne 12, 3) := by decide +kernel
theorem dX8_claim_35 : decode cX8_claim 35 = .ok (.iload_n 1, 1) := by decide +kernel
theorem dX8_claim_36 : decode cX8_claim 36 = .ok (.iload 4, 2) := by decide +kernel
theorem dX8_claim_38 : decode cX8_claim 38 = .ok (.invokestatic 119, 3) := by decide +kernel
theorem dX8_claim_41 : decode cX8_claim 41 = .ok (.goto 9, 3) := by decide +kernel
theorem dX8_claim_44 : decode cX8_claim 44 = .ok (.iload_n 1, 1) := by decide +kernel
theorem dX8_claim_45 : decode cX8_claim 45 = .ok (.iload 4, 2) := by decide +kernel
theorem dX8_claim_47 : decode cX8_claim 47 = .ok (.invokestatic 125, 3) := by decide +kernel
theorem dX8_claim_50 : decode cX8_claim 50 = .ok (.ireturn, 1) := by decide +kernel
theorem dX8_addNets_0 : decode cX8_addNets 0 = .ok (.iconst 0, 1) := by decide +kernel
theorem dX8_addNets_1 : decode cX8_addNets 1 = .ok (.istore_n 1, 1) := by decide +kernel
theorem dX8_addNets_2 : decode cX8_addNets 2 = .ok (.iload_n 1, 1) := by decide +kernel
theorem dX8_addNets_3 : decode cX8_addNets 3 = .ok (.iconst 3, 1) := by decide +kernel
theorem dX8_addNets_4 : decode cX8_addNets 4 = .ok (.if_icmp .ge 64, 3) := by decide +kernel
theorem dX8_addNets_7 : decode cX8_addNets 7 = .ok (.aload_n 0, 1) := by decide +kernel
theorem dX8_addNets_8 : decode cX8_addNets 8 = .ok (.getfield 28, 3) := by decide +kernel
theorem dX8_addNets_11 : decode cX8_addNets 11 = .ok (.iload_n 1, 1) := by decide +kernel
theorem dX8_addNets_12 : decode cX8_addNets 12 = .ok (.aload_n 0, 1) := by decide +kernel
theorem dX8_addNets_13 : decode cX8_addNets 13 = .ok (.getfield 9, 3) := by decide +kernel
theorem dX8_addNets_16 : decode cX8_addNets 16 = .ok (.iload_n 1, 1) := by decide +kernel
theorem dX8_addNets_17 : decode cX8_addNets 17 = .ok (.laload, 1) := by decide +kernel
theorem dX8_addNets_18 : decode cX8_addNets 18 = .ok (.lastore, 1) := by decide +kernel
theorem dX8_addNets_19 : decode cX8_addNets 19 = .ok (.iconst 0, 1) := by decide +kernel
theorem dX8_addNets_20 : decode cX8_addNets 20 = .ok (.istore_n 2, 1) := by decide +kernel
theorem dX8_addNets_21 : decode cX8_addNets 21 = .ok (.iload_n 2, 1) := by decide +kernel
theorem dX8_addNets_22 : decode cX8_addNets 22 = .ok (.iconst 3, 1) := by decide +kernel
theorem dX8_addNets_23 : decode cX8_addNets 23 = .ok (.if_icmp .ge 39, 3) := by decide +kernel
theorem dX8_addNets_26 : decode cX8_addNets 26 = .ok (.aload_n 0, 1) := by decide +kernel
theorem dX8_addNets_27 : decode cX8_addNets 27 = .ok (.getfield 28, 3) := by decide +kernel
theorem dX8_addNets_30 : decode cX8_addNets 30 = .ok (.iload_n 1, 1) := by decide +kernel
theorem dX8_addNets_31 : decode cX8_addNets 31 = .ok (.dup2, 1) := by decide +kernel
theorem dX8_addNets_32 : decode cX8_addNets 32 = .ok (.laload, 1) := by decide +kernel
theorem dX8_addNets_33 : decode cX8_addNets 33 = .ok (.aload_n 0, 1) := by decide +kernel
theorem dX8_addNets_34 : decode cX8_addNets 34 = .ok (.getfield 25, 3) := by decide +kernel
theorem dX8_addNets_37 : decode cX8_addNets 37 = .ok (.iload_n 1, 1) := by decide +kernel
theorem dX8_addNets_38 : decode cX8_addNets 38 = .ok (.iconst 3, 1) := by decide +kernel
theorem dX8_addNets_39 : decode cX8_addNets 39 = .ok (.imul, 1) := by decide +kernel
theorem dX8_addNets_40 : decode cX8_addNets 40 = .ok (.iload_n 2, 1) := by decide +kernel
theorem dX8_addNets_41 : decode cX8_addNets 41 = .ok (.iadd, 1) := by decide +kernel
theorem dX8_addNets_42 : decode cX8_addNets 42 = .ok (.laload, 1) := by decide +kernel
theorem dX8_addNets_43 : decode cX8_addNets 43 = .ok (.aload_n 0, 1) := by decide +kernel
theorem dX8_addNets_44 : decode cX8_addNets 44 = .ok (.getfield 25, 3) := by decide +kernel
theorem dX8_addNets_47 : decode cX8_addNets 47 = .ok (.iload_n 2, 1) := by decide +kernel
theorem dX8_addNets_48 : decode cX8_addNets 48 = .ok (.iconst 3, 1) := by decide +kernel
theorem dX8_addNets_49 : decode cX8_addNets 49 = .ok (.imul, 1) := by decide +kernel
theorem dX8_addNets_50 : decode cX8_addNets 50 = .ok (.iload_n 1, 1) := by decide +kernel
theorem dX8_addNets_51 : decode cX8_addNets 51 = .ok (.iadd, 1) := by decide +kernel
theorem dX8_addNets_52 : decode cX8_addNets 52 = .ok (.laload, 1) := by decide +kernel
theorem dX8_addNets_53 : decode cX8_addNets 53 = .ok (.lsub, 1) := by decide +kernel
theorem dX8_addNets_54 : decode cX8_addNets 54 = .ok (.ladd, 1) := by decide +kernel
theorem dX8_addNets_55 : decode cX8_addNets 55 = .ok (.lastore, 1) := by decide +kernel
theorem dX8_addNets_56 : decode cX8_addNets 56 = .ok (.iinc 2 1, 3) := by decide +kernel
theorem dX8_addNets_59 : decode cX8_addNets 59 = .ok (.goto (-38), 3) := by decide +kernel
theorem dX8_addNets_62 : decode cX8_addNets 62 = .ok (.iinc 1 1, 3) := by decide +kernel
theorem dX8_addNets_65 : decode cX8_addNets 65 = .ok (.goto (-63), 3) := by decide +kernel
theorem dX8_addNets_68 : decode cX8_addNets 68 = .ok (.return_, 1) := by decide +kernel
theorem dX8_solveParts_0 : decode cX8_solveParts 0 = .ok (.iconst 0, 1) := by decide +kernel
theorem dX8_solveParts_1 : decode cX8_solveParts 1 = .ok (.istore_n 1, 1) := by decide +kernel
theorem dX8_solveParts_2 : decode cX8_solveParts 2 = .ok (.iload_n 1, 1) := by decide +kernel
theorem dX8_solveParts_3 : decode cX8_solveParts 3 = .ok (.iconst 3, 1) := by decide +kernel
theorem dX8_solveParts_4 : decode cX8_solveParts 4 = .ok (.if_icmp .ge 78, 3) := by decide +kernel
theorem dX8_solveParts_7 : decode cX8_solveParts 7 = .ok (.aload_n 0, 1) := by decide +kernel
theorem dX8_solveParts_8 : decode cX8_solveParts 8 = .ok (.iload_n 1, 1) := by decide +kernel
theorem dX8_solveParts_9 : decode cX8_solveParts 9 = .ok (.invokevirtual 128, 3) := by decide +kernel
theorem dX8_solveParts_12 : decode cX8_solveParts 12 = .ok (.lstore_n 2, 1) := by decide +kernel
theorem dX8_solveParts_13 : decode cX8_solveParts 13 = .ok (.iconst 0, 1) := by decide +kernel
theorem dX8_solveParts_14 : decode cX8_solveParts 14 = .ok (.istore 4, 2) := by decide +kernel
theorem dX8_solveParts_16 : decode cX8_solveParts 16 = .ok (.iload 4, 2) := by decide +kernel
theorem dX8_solveParts_18 : decode cX8_solveParts 18 = .ok (.iconst 3, 1) := by decide +kernel
theorem dX8_solveParts_19 : decode cX8_solveParts 19 = .ok (.if_icmp .ge 46, 3) := by decide +kernel
theorem dX8_solveParts_22 : decode cX8_solveParts 22 = .ok (.lload_n 2, 1) := by decide +kernel
theorem dX8_solveParts_23 : decode cX8_solveParts 23 = .ok (.aload_n 0, 1) := by decide +kernel
theorem dX8_solveParts_24 : decode cX8_solveParts 24 = .ok (.getfield 22, 3) := by decide +kernel
theorem dX8_solveParts_27 : decode cX8_solveParts 27 = .ok (.iload 4, 2) := by decide +kernel
theorem dX8_solveParts_29 : decode cX8_solveParts 29 = .ok (.iconst 3, 1) := by decide +kernel
theorem dX8_solveParts_30 : decode cX8_solveParts 30 = .ok (.imul, 1) := by decide +kernel
theorem dX8_solveParts_31 : decode cX8_solveParts 31 = .ok (.iload_n 1, 1) := by decide +kernel
theorem dX8_solveParts_32 : decode cX8_solveParts 32 = .ok (.iadd, 1) := by decide +kernel
theorem dX8_solveParts_33 : decode cX8_solveParts 33 = .ok (.laload, 1) := by decide +kernel
theorem dX8_solveParts_34 : decode cX8_solveParts 34 = .ok (.ladd, 1) := by decide +kernel
theorem dX8_solveParts_35 : decode cX8_solveParts 35 = .ok (.lstore_n 2, 1) := by decide +kernel
theorem dX8_solveParts_36 : decode cX8_solveParts 36 = .ok (.aload_n 0, 1) := by decide +kernel
theorem dX8_solveParts_37 : decode cX8_solveParts 37 = .ok (.getfield 38, 3) := by decide +kernel
theorem dX8_solveParts_40 : decode cX8_solveParts 40 = .ok (.iload_n 1, 1) := by decide +kernel
theorem dX8_solveParts_41 : decode cX8_solveParts 41 = .ok (.iconst 3, 1) := by decide +kernel
theorem dX8_solveParts_42 : decode cX8_solveParts 42 = .ok (.imul, 1) := by decide +kernel
theorem dX8_solveParts_43 : decode cX8_solveParts 43 = .ok (.iload 4, 2) := by decide +kernel
theorem dX8_solveParts_45 : decode cX8_solveParts 45 = .ok (.iadd, 1) := by decide +kernel
theorem dX8_solveParts_46 : decode cX8_solveParts 46 = .ok (.aload_n 0, 1) := by decide +kernel
theorem dX8_solveParts_47 : decode cX8_solveParts 47 = .ok (.getfield 22, 3) := by decide +kernel
theorem dX8_solveParts_50 : decode cX8_solveParts 50 = .ok (.iload_n 1, 1) := by decide +kernel
theorem dX8_solveParts_51 : decode cX8_solveParts 51 = .ok (.iconst 3, 1) := by decide +kernel
theorem dX8_solveParts_52 : decode cX8_solveParts 52 = .ok (.imul, 1) := by decide +kernel
theorem dX8_solveParts_53 : decode cX8_solveParts 53 = .ok (.iload 4, 2) := by decide +kernel
theorem dX8_solveParts_55 : decode cX8_solveParts 55 = .ok (.iadd, 1) := by decide +kernel
theorem dX8_solveParts_56 : decode cX8_solveParts 56 = .ok (.laload, 1) := by decide +kernel
theorem dX8_solveParts_57 : decode cX8_solveParts 57 = .ok (.lneg, 1) := by decide +kernel
theorem dX8_solveParts_58 : decode cX8_solveParts 58 = .ok (.lastore, 1) := by decide +kernel
theorem dX8_solveParts_59 : decode cX8_solveParts 59 = .ok (.iinc 4 1, 3) := by decide +kernel
theorem dX8_solveParts_62 : decode cX8_solveParts 62 = .ok (.goto (-46), 3) := by decide +kernel
theorem dX8_solveParts_65 : decode cX8_solveParts 65 = .ok (.aload_n 0, 1) := by decide +kernel
theorem dX8_solveParts_66 : decode cX8_solveParts 66 = .ok (.getfield 38, 3) := by decide +kernel
theorem dX8_solveParts_69 : decode cX8_solveParts 69 = .ok (.iload_n 1, 1) := by decide +kernel
theorem dX8_solveParts_70 : decode cX8_solveParts 70 = .ok (.iconst 3, 1) := by decide +kernel
theorem dX8_solveParts_71 : decode cX8_solveParts 71 = .ok (.imul, 1) := by decide +kernel
theorem dX8_solveParts_72 : decode cX8_solveParts 72 = .ok (.iload_n 1, 1) := by decide +kernel
theorem dX8_solveParts_73 : decode cX8_solveParts 73 = .ok (.iadd, 1) := by decide +kernel
theorem dX8_solveParts_74 : decode cX8_solveParts 74 = .ok (.lload_n 2, 1) := by decide +kernel
theorem dX8_solveParts_75 : decode cX8_solveParts 75 = .ok (.lastore, 1) := by decide +kernel
theorem dX8_solveParts_76 : decode cX8_solveParts 76 = .ok (.iinc 1 1, 3) := by decide +kernel
theorem dX8_solveParts_79 : decode cX8_solveParts 79 = .ok (.goto (-77), 3) := by decide +kernel
theorem dX8_solveParts_82 : decode cX8_solveParts 82 = .ok (.aload_n 0, 1) := by decide +kernel
theorem dX8_solveParts_83 : decode cX8_solveParts 83 = .ok (.aload_n 0, 1) := by decide +kernel
theorem dX8_solveParts_84 : decode cX8_solveParts 84 = .ok (.ldc 132, 2) := by decide +kernel
theorem dX8_solveParts_86 : decode cX8_solveParts 86 = .ok (.invokevirtual 133, 3) := by decide +kernel
theorem dX8_solveParts_89 : decode cX8_solveParts 89 = .ok (.putfield 34, 3) := by decide +kernel
theorem dX8_solveParts_92 : decode cX8_solveParts 92 = .ok (.iconst 0, 1) := by decide +kernel
theorem dX8_solveParts_93 : decode cX8_solveParts 93 = .ok (.istore_n 1, 1) := by decide +kernel
theorem dX8_solveParts_94 : decode cX8_solveParts 94 = .ok (.iload_n 1, 1) := by decide +kernel
theorem dX8_solveParts_95 : decode cX8_solveParts 95 = .ok (.iconst 3, 1) := by decide +kernel
theorem dX8_solveParts_96 : decode cX8_solveParts 96 = .ok (.if_icmp .ge 67, 3) := by decide +kernel
theorem dX8_solveParts_99 : decode cX8_solveParts 99 = .ok (.aload_n 0, 1) := by decide +kernel
theorem dX8_solveParts_100 : decode cX8_solveParts 100 = .ok (.iload_n 1, 1) := by decide +kernel
theorem dX8_solveParts_101 : decode cX8_solveParts 101 = .ok (.invokevirtual 133, 3) := by decide +kernel
theorem dX8_solveParts_104 : decode cX8_solveParts 104 = .ok (.lstore_n 2, 1) := by decide +kernel
theorem dX8_solveParts_105 : decode cX8_solveParts 105 = .ok (.aload_n 0, 1) := by decide +kernel
theorem dX8_solveParts_106 : decode cX8_solveParts 106 = .ok (.getfield 28, 3) := by decide +kernel
theorem dX8_solveParts_109 : decode cX8_solveParts 109 = .ok (.iload_n 1, 1) := by decide +kernel
theorem dX8_solveParts_110 : decode cX8_solveParts 110 = .ok (.aload_n 0, 1) := by decide +kernel
theorem dX8_solveParts_111 : decode cX8_solveParts 111 = .ok (.iload_n 1, 1) := by decide +kernel
theorem dX8_solveParts_112 : decode cX8_solveParts 112 = .ok (.invokevirtual 128, 3) := by decide +kernel
theorem dX8_solveParts_115 : decode cX8_solveParts 115 = .ok (.lload_n 2, 1) := by decide +kernel
theorem dX8_solveParts_116 : decode cX8_solveParts 116 = .ok (.lmul, 1) := by decide +kernel
theorem dX8_solveParts_117 : decode cX8_solveParts 117 = .ok (.lastore, 1) := by decide +kernel
theorem dX8_solveParts_118 : decode cX8_solveParts 118 = .ok (.iconst 0, 1) := by decide +kernel
theorem dX8_solveParts_119 : decode cX8_solveParts 119 = .ok (.istore 4, 2) := by decide +kernel
theorem dX8_solveParts_121 : decode cX8_solveParts 121 = .ok (.iload 4, 2) := by decide +kernel
theorem dX8_solveParts_123 : decode cX8_solveParts 123 = .ok (.iconst 3, 1) := by decide +kernel
theorem dX8_solveParts_124 : decode cX8_solveParts 124 = .ok (.if_icmp .ge 33, 3) := by decide +kernel
theorem dX8_solveParts_127 : decode cX8_solveParts 127 = .ok (.aload_n 0, 1) := by decide +kernel
theorem dX8_solveParts_128 : decode cX8_solveParts 128 = .ok (.getfield 25, 3) := by decide +kernel
theorem dX8_solveParts_131 : decode cX8_solveParts 131 = .ok (.iload 4, 2) := by decide +kernel
theorem dX8_solveParts_133 : decode cX8_solveParts 133 = .ok (.iconst 3, 1) := by decide +kernel
theorem dX8_solveParts_134 : decode cX8_solveParts 134 = .ok (.imul, 1) := by decide +kernel
theorem dX8_solveParts_135 : decode cX8_solveParts 135 = .ok (.iload_n 1, 1) := by decide +kernel
theorem dX8_solveParts_136 : decode cX8_solveParts 136 = .ok (.iadd, 1) := by decide +kernel
theorem dX8_solveParts_137 : decode cX8_solveParts 137 = .ok (.aload_n 0, 1) := by decide +kernel
theorem dX8_solveParts_138 : decode cX8_solveParts 138 = .ok (.getfield 22, 3) := by decide +kernel
theorem dX8_solveParts_141 : decode cX8_solveParts 141 = .ok (.iload 4, 2) := by decide +kernel
theorem dX8_solveParts_143 : decode cX8_solveParts 143 = .ok (.iconst 3, 1) := by decide +kernel
theorem dX8_solveParts_144 : decode cX8_solveParts 144 = .ok (.imul, 1) := by decide +kernel
theorem dX8_solveParts_145 : decode cX8_solveParts 145 = .ok (.iload_n 1, 1) := by decide +kernel
theorem dX8_solveParts_146 : decode cX8_solveParts 146 = .ok (.iadd, 1) := by decide +kernel
theorem dX8_solveParts_147 : decode cX8_solveParts 147 = .ok (.laload, 1) := by decide +kernel
theorem dX8_solveParts_148 : decode cX8_solveParts 148 = .ok (.lload_n 2, 1) := by decide +kernel
theorem dX8_solveParts_149 : decode cX8_solveParts 149 = .ok (.lmul, 1) := by decide +kernel
theorem dX8_solveParts_150 : decode cX8_solveParts 150 = .ok (.lastore, 1) := by decide +kernel
theorem dX8_solveParts_151 : decode cX8_solveParts 151 = .ok (.iinc 4 1, 3) := by decide +kernel
theorem dX8_solveParts_154 : decode cX8_solveParts 154 = .ok (.goto (-33), 3) := by decide +kernel
theorem dX8_solveParts_157 : decode cX8_solveParts 157 = .ok (.iinc 1 1, 3) := by decide +kernel
theorem dX8_solveParts_160 : decode cX8_solveParts 160 = .ok (.goto (-66), 3) := by decide +kernel
theorem dX8_solveParts_163 : decode cX8_solveParts 163 = .ok (.return_, 1) := by decide +kernel
theorem dX8_cameOrOne_0 : decode cX8_cameOrOne 0 = .ok (.aload_n 0, 1) := by decide +kernel
theorem dX8_cameOrOne_1 : decode cX8_cameOrOne 1 = .ok (.getfield 15, 3) := by decide +kernel
theorem dX8_cameOrOne_4 : decode cX8_cameOrOne 4 = .ok (.iload_n 1, 1) := by decide +kernel
theorem dX8_cameOrOne_5 : decode cX8_cameOrOne 5 = .ok (.laload, 1) := by decide +kernel
theorem dX8_cameOrOne_6 : decode cX8_cameOrOne 6 = .ok (.lconst 0, 1) := by decide +kernel
theorem dX8_cameOrOne_7 : decode cX8_cameOrOne 7 = .ok (.lcmp, 1) := by decide +kernel
theorem dX8_cameOrOne_8 : decode cX8_cameOrOne 8 = .ok (.ifCond .ne 7, 3) := by decide +kernel
theorem dX8_cameOrOne_11 : decode cX8_cameOrOne 11 = .ok (.lconst 1, 1) := by decide +kernel
theorem dX8_cameOrOne_12 : decode cX8_cameOrOne 12 = .ok (.goto 9, 3) := by decide +kernel
theorem dX8_cameOrOne_15 : decode cX8_cameOrOne 15 = .ok (.aload_n 0, 1) := by decide +kernel
theorem dX8_cameOrOne_16 : decode cX8_cameOrOne 16 = .ok (.getfield 15, 3) := by decide +kernel
theorem dX8_cameOrOne_19 : decode cX8_cameOrOne 19 = .ok (.iload_n 1, 1) := by decide +kernel
theorem dX8_cameOrOne_20 : decode cX8_cameOrOne 20 = .ok (.laload, 1) := by decide +kernel
theorem dX8_cameOrOne_21 : decode cX8_cameOrOne 21 = .ok (.lreturn, 1) := by decide +kernel
theorem dX8_determinant_0 : decode cX8_determinant 0 = .ok (.aload_n 0, 1) := by decide +kernel
theorem dX8_determinant_1 : decode cX8_determinant 1 = .ok (.iconst 0, 1) := by decide +kernel
theorem dX8_determinant_2 : decode cX8_determinant 2 = .ok (.iconst 0, 1) := by decide +kernel
theorem dX8_determinant_3 : decode cX8_determinant 3 = .ok (.iload_n 1, 1) := by decide +kernel
theorem dX8_determinant_4 : decode cX8_determinant 4 = .ok (.invokevirtual 136, 3) := by decide +kernel
theorem dX8_determinant_7 : decode cX8_determinant 7 = .ok (.aload_n 0, 1) := by decide +kernel
theorem dX8_determinant_8 : decode cX8_determinant 8 = .ok (.iconst 1, 1) := by decide +kernel
theorem dX8_determinant_9 : decode cX8_determinant 9 = .ok (.iconst 2, 1) := by decide +kernel
theorem dX8_determinant_10 : decode cX8_determinant 10 = .ok (.iload_n 1, 1) := by decide +kernel
theorem dX8_determinant_11 : decode cX8_determinant 11 = .ok (.invokevirtual 140, 3) := by decide +kernel
theorem dX8_determinant_14 : decode cX8_determinant 14 = .ok (.lmul, 1) := by decide +kernel
theorem dX8_determinant_15 : decode cX8_determinant 15 = .ok (.aload_n 0, 1) := by decide +kernel
theorem dX8_determinant_16 : decode cX8_determinant 16 = .ok (.iconst 0, 1) := by decide +kernel
theorem dX8_determinant_17 : decode cX8_determinant 17 = .ok (.iconst 1, 1) := by decide +kernel
theorem dX8_determinant_18 : decode cX8_determinant 18 = .ok (.iload_n 1, 1) := by decide +kernel
theorem dX8_determinant_19 : decode cX8_determinant 19 = .ok (.invokevirtual 136, 3) := by decide +kernel
theorem dX8_determinant_22 : decode cX8_determinant 22 = .ok (.aload_n 0, 1) := by decide +kernel
theorem dX8_determinant_23 : decode cX8_determinant 23 = .ok (.iconst 0, 1) := by decide +kernel
theorem dX8_determinant_24 : decode cX8_determinant 24 = .ok (.iconst 2, 1) := by decide +kernel
theorem dX8_determinant_25 : decode cX8_determinant 25 = .ok (.iload_n 1, 1) := by decide +kernel
theorem dX8_determinant_26 : decode cX8_determinant 26 = .ok (.invokevirtual 140, 3) := by decide +kernel
theorem dX8_determinant_29 : decode cX8_determinant 29 = .ok (.lmul, 1) := by decide +kernel
theorem dX8_determinant_30 : decode cX8_determinant 30 = .ok (.lsub, 1) := by decide +kernel
theorem dX8_determinant_31 : decode cX8_determinant 31 = .ok (.aload_n 0, 1) := by decide +kernel
theorem dX8_determinant_32 : decode cX8_determinant 32 = .ok (.iconst 0, 1) := by decide +kernel
theorem dX8_determinant_33 : decode cX8_determinant 33 = .ok (.iconst 2, 1) := by decide +kernel
theorem dX8_determinant_34 : decode cX8_determinant 34 = .ok (.iload_n 1, 1) := by decide +kernel
theorem dX8_determinant_35 : decode cX8_determinant 35 = .ok (.invokevirtual 136, 3) := by decide +kernel
theorem dX8_determinant_38 : decode cX8_determinant 38 = .ok (.aload_n 0, 1) := by decide +kernel
theorem dX8_determinant_39 : decode cX8_determinant 39 = .ok (.iconst 0, 1) := by decide +kernel
theorem dX8_determinant_40 : decode cX8_determinant 40 = .ok (.iconst 1, 1) := by decide +kernel
theorem dX8_determinant_41 : decode cX8_determinant 41 = .ok (.iload_n 1, 1) := by decide +kernel
theorem dX8_determinant_42 : decode cX8_determinant 42 = .ok (.invokevirtual 140, 3) := by decide +kernel
theorem dX8_determinant_45 : decode cX8_determinant 45 = .ok (.lmul, 1) := by decide +kernel
theorem dX8_determinant_46 : decode cX8_determinant 46 = .ok (.ladd, 1) := by decide +kernel
theorem dX8_determinant_47 : decode cX8_determinant 47 = .ok (.lreturn, 1) := by decide +kernel
theorem dX8_minor_0 : decode cX8_minor 0 = .ok (.aload_n 0, 1) := by decide +kernel
theorem dX8_minor_1 : decode cX8_minor 1 = .ok (.iconst 1, 1) := by decide +kernel
theorem dX8_minor_2 : decode cX8_minor 2 = .ok (.iload_n 1, 1) := by decide +kernel
theorem dX8_minor_3 : decode cX8_minor 3 = .ok (.iload_n 3, 1) := by decide +kernel
theorem dX8_minor_4 : decode cX8_minor 4 = .ok (.invokevirtual 136, 3) := by decide +kernel
theorem dX8_minor_7 : decode cX8_minor 7 = .ok (.aload_n 0, 1) := by decide +kernel
theorem dX8_minor_8 : decode cX8_minor 8 = .ok (.iconst 2, 1) := by decide +kernel
theorem dX8_minor_9 : decode cX8_minor 9 = .ok (.iload_n 2, 1) := by decide +kernel
theorem dX8_minor_10 : decode cX8_minor 10 = .ok (.iload_n 3, 1) := by decide +kernel
theorem dX8_minor_11 : decode cX8_minor 11 = .ok (.invokevirtual 136, 3) := by decide +kernel
theorem dX8_minor_14 : decode cX8_minor 14 = .ok (.lmul, 1) := by decide +kernel
theorem dX8_minor_15 : decode cX8_minor 15 = .ok (.aload_n 0, 1) := by decide +kernel
theorem dX8_minor_16 : decode cX8_minor 16 = .ok (.iconst 1, 1) := by decide +kernel
theorem dX8_minor_17 : decode cX8_minor 17 = .ok (.iload_n 2, 1) := by decide +kernel
theorem dX8_minor_18 : decode cX8_minor 18 = .ok (.iload_n 3, 1) := by decide +kernel
theorem dX8_minor_19 : decode cX8_minor 19 = .ok (.invokevirtual 136, 3) := by decide +kernel
theorem dX8_minor_22 : decode cX8_minor 22 = .ok (.aload_n 0, 1) := by decide +kernel
theorem dX8_minor_23 : decode cX8_minor 23 = .ok (.iconst 2, 1) := by decide +kernel
theorem dX8_minor_24 : decode cX8_minor 24 = .ok (.iload_n 1, 1) := by decide +kernel
theorem dX8_minor_25 : decode cX8_minor 25 = .ok (.iload_n 3, 1) := by decide +kernel
theorem dX8_minor_26 : decode cX8_minor 26 = .ok (.invokevirtual 136, 3) := by decide +kernel
theorem dX8_minor_29 : decode cX8_minor 29 = .ok (.lmul, 1) := by decide +kernel
theorem dX8_minor_30 : decode cX8_minor 30 = .ok (.lsub, 1) := by decide +kernel
theorem dX8_minor_31 : decode cX8_minor 31 = .ok (.lreturn, 1) := by decide +kernel
theorem dX8_cell_0 : decode cX8_cell 0 = .ok (.iload_n 2, 1) := by decide +kernel
theorem dX8_cell_1 : decode cX8_cell 1 = .ok (.iload_n 3, 1) := by decide +kernel
theorem dX8_cell_2 : decode cX8_cell 2 = .ok (.if_icmp .ne 12, 3) := by decide +kernel
theorem dX8_cell_5 : decode cX8_cell 5 = .ok (.aload_n 0, 1) := by decide +kernel
theorem dX8_cell_6 : decode cX8_cell 6 = .ok (.getfield 9, 3) := by decide +kernel
theorem dX8_cell_9 : decode cX8_cell 9 = .ok (.iload_n 1, 1) := by decide +kernel
theorem dX8_cell_10 : decode cX8_cell 10 = .ok (.laload, 1) := by decide +kernel
theorem dX8_cell_11 : decode cX8_cell 11 = .ok (.goto 13, 3) := by decide +kernel
theorem dX8_cell_14 : decode cX8_cell 14 = .ok (.aload_n 0, 1) := by decide +kernel
theorem dX8_cell_15 : decode cX8_cell 15 = .ok (.getfield 38, 3) := by decide +kernel
theorem dX8_cell_18 : decode cX8_cell 18 = .ok (.iload_n 1, 1) := by decide +kernel
theorem dX8_cell_19 : decode cX8_cell 19 = .ok (.iconst 3, 1) := by decide +kernel
theorem dX8_cell_20 : decode cX8_cell 20 = .ok (.imul, 1) := by decide +kernel
theorem dX8_cell_21 : decode cX8_cell 21 = .ok (.iload_n 2, 1) := by decide +kernel
theorem dX8_cell_22 : decode cX8_cell 22 = .ok (.iadd, 1) := by decide +kernel
theorem dX8_cell_23 : decode cX8_cell 23 = .ok (.laload, 1) := by decide +kernel
theorem dX8_cell_24 : decode cX8_cell 24 = .ok (.lreturn, 1) := by decide +kernel
theorem dX9_init_0 : decode cX9_init 0 = .ok (.aload_n 0, 1) := by decide +kernel
theorem dX9_init_1 : decode cX9_init 1 = .ok (.invokespecial 1, 3) := by decide +kernel
theorem dX9_init_4 : decode cX9_init 4 = .ok (.aload_n 0, 1) := by decide +kernel
theorem dX9_init_5 : decode cX9_init 5 = .ok (.iload_n 1, 1) := by decide +kernel
theorem dX9_init_6 : decode cX9_init 6 = .ok (.putfield 7, 3) := by decide +kernel
theorem dX9_init_9 : decode cX9_init 9 = .ok (.aload_n 0, 1) := by decide +kernel
theorem dX9_init_10 : decode cX9_init 10 = .ok (.aload_n 2, 1) := by decide +kernel
theorem dX9_init_11 : decode cX9_init 11 = .ok (.putfield 13, 3) := by decide +kernel
theorem dX9_init_14 : decode cX9_init 14 = .ok (.aload_n 0, 1) := by decide +kernel
theorem dX9_init_15 : decode cX9_init 15 = .ok (.aload_n 3, 1) := by decide +kernel
theorem dX9_init_16 : decode cX9_init 16 = .ok (.putfield 17, 3) := by decide +kernel
theorem dX9_init_19 : decode cX9_init 19 = .ok (.return_, 1) := by decide +kernel
theorem dX9_size_0 : decode cX9_size 0 = .ok (.aload_n 0, 1) := by decide +kernel
theorem dX9_size_1 : decode cX9_size 1 = .ok (.getfield 17, 3) := by decide +kernel
theorem dX9_size_4 : decode cX9_size 4 = .ok (.bipush 10, 2) := by decide +kernel
theorem dX9_size_6 : decode cX9_size 6 = .ok (.invokevirtual 21, 3) := by decide +kernel
theorem dX9_size_9 : decode cX9_size 9 = .ok (.aload_n 0, 1) := by decide +kernel
theorem dX9_size_10 : decode cX9_size 10 = .ok (.getfield 13, 3) := by decide +kernel
theorem dX9_size_13 : decode cX9_size 13 = .ok (.getfield 27, 3) := by decide +kernel
theorem dX9_size_16 : decode cX9_size 16 = .ok (.aload_n 0, 1) := by decide +kernel
theorem dX9_size_17 : decode cX9_size 17 = .ok (.getfield 7, 3) := by decide +kernel
theorem dX9_size_20 : decode cX9_size 20 = .ok (.iaload, 1) := by decide +kernel
theorem dX9_size_21 : decode cX9_size 21 = .ok (.i2l, 1) := by decide +kernel
theorem dX9_size_22 : decode cX9_size 22 = .ok (.lreturn, 1) := by decide +kernel
theorem dX9_mark_0 : decode cX9_mark 0 = .ok (.aload_n 0, 1) := by decide +kernel
theorem dX9_mark_1 : decode cX9_mark 1 = .ok (.getfield 17, 3) := by decide +kernel
theorem dX9_mark_4 : decode cX9_mark 4 = .ok (.bipush 20, 2) := by decide +kernel
theorem dX9_mark_6 : decode cX9_mark 6 = .ok (.invokevirtual 21, 3) := by decide +kernel
theorem dX9_mark_9 : decode cX9_mark 9 = .ok (.aload_n 0, 1) := by decide +kernel
theorem dX9_mark_10 : decode cX9_mark 10 = .ok (.getfield 7, 3) := by decide +kernel
theorem dX9_mark_13 : decode cX9_mark 13 = .ok (.i2l, 1) := by decide +kernel
theorem dX9_mark_14 : decode cX9_mark 14 = .ok (.lreturn, 1) := by decide +kernel
theorem dX10_init_0 : decode cX10_init 0 = .ok (.aload_n 0, 1) := by decide +kernel
theorem dX10_init_1 : decode cX10_init 1 = .ok (.invokespecial 1, 3) := by decide +kernel
theorem dX10_init_4 : decode cX10_init 4 = .ok (.aload_n 0, 1) := by decide +kernel
theorem dX10_init_5 : decode cX10_init 5 = .ok (.bipush 16, 2) := by decide +kernel
theorem dX10_init_7 : decode cX10_init 7 = .ok (.newarray .int, 2) := by decide +kernel
theorem dX10_init_9 : decode cX10_init 9 = .ok (.putfield 9, 3) := by decide +kernel
theorem dX10_init_12 : decode cX10_init 12 = .ok (.return_, 1) := by decide +kernel
theorem dX10_clear_0 : decode cX10_clear 0 = .ok (.aload_n 0, 1) := by decide +kernel
theorem dX10_clear_1 : decode cX10_clear 1 = .ok (.iconst 0, 1) := by decide +kernel
theorem dX10_clear_2 : decode cX10_clear 2 = .ok (.putfield 13, 3) := by decide +kernel
theorem dX10_clear_5 : decode cX10_clear 5 = .ok (.return_, 1) := by decide +kernel
theorem dX10_leave_0 : decode cX10_leave 0 = .ok (.aload_n 0, 1) := by decide +kernel
theorem dX10_leave_1 : decode cX10_leave 1 = .ok (.getfield 13, 3) := by decide +kernel
theorem dX10_leave_4 : decode cX10_leave 4 = .ok (.bipush 16, 2) := by decide +kernel
theorem dX10_leave_6 : decode cX10_leave 6 = .ok (.if_icmp .ge 23, 3) := by decide +kernel
theorem dX10_leave_9 : decode cX10_leave 9 = .ok (.aload_n 0, 1) := by decide +kernel
theorem dX10_leave_10 : decode cX10_leave 10 = .ok (.getfield 9, 3) := by decide +kernel
theorem dX10_leave_13 : decode cX10_leave 13 = .ok (.aload_n 0, 1) := by decide +kernel
theorem dX10_leave_14 : decode cX10_leave 14 = .ok (.getfield 13, 3) := by decide +kernel
theorem dX10_leave_17 : decode cX10_leave 17 = .ok (.iload_n 1, 1) := by decide +kernel
theorem dX10_leave_18 : decode cX10_leave 18 = .ok (.iastore, 1) := by decide +kernel
theorem dX10_leave_19 : decode cX10_leave 19 = .ok (.aload_n 0, 1) := by decide +kernel
theorem dX10_leave_20 : decode cX10_leave 20 = .ok (.dup, 1) := by decide +kernel
theorem dX10_leave_21 : decode cX10_leave 21 = .ok (.getfield 13, 3) := by decide +kernel
theorem dX10_leave_24 : decode cX10_leave 24 = .ok (.iconst 1, 1) := by decide +kernel
theorem dX10_leave_25 : decode cX10_leave 25 = .ok (.iadd, 1) := by decide +kernel
theorem dX10_leave_26 : decode cX10_leave 26 = .ok (.putfield 13, 3) := by decide +kernel
theorem dX10_leave_29 : decode cX10_leave 29 = .ok (.return_, 1) := by decide +kernel
theorem dX11_init_0 : decode cX11_init 0 = .ok (.aload_n 0, 1) := by decide +kernel
theorem dX11_init_1 : decode cX11_init 1 = .ok (.invokespecial 3, 3) := by decide +kernel
theorem dX11_init_4 : decode cX11_init 4 = .ok (.aload_n 0, 1) := by decide +kernel
theorem dX11_init_5 : decode cX11_init 5 = .ok (.bipush 8, 2) := by decide +kernel
theorem dX11_init_7 : decode cX11_init 7 = .ok (.newarray .int, 2) := by decide +kernel
theorem dX11_init_9 : decode cX11_init 9 = .ok (.putfield 9, 3) := by decide +kernel
theorem dX11_init_12 : decode cX11_init 12 = .ok (.aload_n 0, 1) := by decide +kernel
theorem dX11_init_13 : decode cX11_init 13 = .ok (.bipush 8, 2) := by decide +kernel
theorem dX11_init_15 : decode cX11_init 15 = .ok (.newarray .int, 2) := by decide +kernel
theorem dX11_init_17 : decode cX11_init 17 = .ok (.putfield 13, 3) := by decide +kernel
theorem dX11_init_20 : decode cX11_init 20 = .ok (.aload_n 0, 1) := by decide +kernel
theorem dX11_init_21 : decode cX11_init 21 = .ok (.sipush 320, 3) := by decide +kernel
theorem dX11_init_24 : decode cX11_init 24 = .ok (.newarray .int, 2) := by decide +kernel
theorem dX11_init_26 : decode cX11_init 26 = .ok (.putfield 16, 3) := by decide +kernel
theorem dX11_init_29 : decode cX11_init 29 = .ok (.aload_n 0, 1) := by decide +kernel
theorem dX11_init_30 : decode cX11_init 30 = .ok (.new 19, 3) := by decide +kernel
theorem dX11_init_33 : decode cX11_init 33 = .ok (.dup, 1) := by decide +kernel
theorem dX11_init_34 : decode cX11_init 34 = .ok (.invokespecial 21, 3) := by decide +kernel
theorem dX11_init_37 : decode cX11_init 37 = .ok (.putfield 22, 3) := by decide +kernel
theorem dX11_init_40 : decode cX11_init 40 = .ok (.aload_n 0, 1) := by decide +kernel
theorem dX11_init_41 : decode cX11_init 41 = .ok (.new 26, 3) := by decide +kernel
theorem dX11_init_44 : decode cX11_init 44 = .ok (.dup, 1) := by decide +kernel
theorem dX11_init_45 : decode cX11_init 45 = .ok (.invokespecial 28, 3) := by decide +kernel
theorem dX11_init_48 : decode cX11_init 48 = .ok (.putfield 29, 3) := by decide +kernel
theorem dX11_init_51 : decode cX11_init 51 = .ok (.aload_n 0, 1) := by decide +kernel
theorem dX11_init_52 : decode cX11_init 52 = .ok (.new 26, 3) := by decide +kernel
theorem dX11_init_55 : decode cX11_init 55 = .ok (.dup, 1) := by decide +kernel
theorem dX11_init_56 : decode cX11_init 56 = .ok (.invokespecial 28, 3) := by decide +kernel
theorem dX11_init_59 : decode cX11_init 59 = .ok (.putfield 33, 3) := by decide +kernel
theorem dX11_init_62 : decode cX11_init 62 = .ok (.aload_n 0, 1) := by decide +kernel
theorem dX11_init_63 : decode cX11_init 63 = .ok (.new 36, 3) := by decide +kernel
theorem dX11_init_66 : decode cX11_init 66 = .ok (.dup, 1) := by decide +kernel
theorem dX11_init_67 : decode cX11_init 67 = .ok (.invokespecial 38, 3) := by decide +kernel
theorem dX11_init_70 : decode cX11_init 70 = .ok (.putfield 39, 3) := by decide +kernel
theorem dX11_init_73 : decode cX11_init 73 = .ok (.aload_n 0, 1) := by decide +kernel
theorem dX11_init_74 : decode cX11_init 74 = .ok (.new 43, 3) := by decide +kernel
theorem dX11_init_77 : decode cX11_init 77 = .ok (.dup, 1) := by decide +kernel
theorem dX11_init_78 : decode cX11_init 78 = .ok (.invokespecial 45, 3) := by decide +kernel
theorem dX11_init_81 : decode cX11_init 81 = .ok (.putfield 46, 3) := by decide +kernel
theorem dX11_init_84 : decode cX11_init 84 = .ok (.aload_n 0, 1) := by decide +kernel
theorem dX11_init_85 : decode cX11_init 85 = .ok (.new 36, 3) := by decide +kernel
theorem dX11_init_88 : decode cX11_init 88 = .ok (.dup, 1) := by decide +kernel
theorem dX11_init_89 : decode cX11_init 89 = .ok (.invokespecial 38, 3) := by decide +kernel
theorem dX11_init_92 : decode cX11_init 92 = .ok (.putfield 50, 3) := by decide +kernel
theorem dX11_init_95 : decode cX11_init 95 = .ok (.aload_n 0, 1) := by decide +kernel
theorem dX11_init_96 : decode cX11_init 96 = .ok (.new 43, 3) := by decide +kernel
theorem dX11_init_99 : decode cX11_init 99 = .ok (.dup, 1) := by decide +kernel
theorem dX11_init_100 : decode cX11_init 100 = .ok (.invokespecial 45, 3) := by decide +kernel
theorem dX11_init_103 : decode cX11_init 103 = .ok (.putfield 53, 3) := by decide +kernel
theorem dX11_init_106 : decode cX11_init 106 = .ok (.aload_n 0, 1) := by decide +kernel
theorem dX11_init_107 : decode cX11_init 107 = .ok (.new 56, 3) := by decide +kernel
theorem dX11_init_110 : decode cX11_init 110 = .ok (.dup, 1) := by decide +kernel
theorem dX11_init_111 : decode cX11_init 111 = .ok (.invokespecial 58, 3) := by decide +kernel
theorem dX11_init_114 : decode cX11_init 114 = .ok (.putfield 59, 3) := by decide +kernel
theorem dX11_init_117 : decode cX11_init 117 = .ok (.aload_n 0, 1) := by decide +kernel
theorem dX11_init_118 : decode cX11_init 118 = .ok (.getfield 13, 3) := by decide +kernel
theorem dX11_init_121 : decode cX11_init 121 = .ok (.iconst (-1), 1) := by decide +kernel
theorem dX11_init_122 : decode cX11_init 122 = .ok (.invokestatic 63, 3) := by decide +kernel
theorem dX11_init_125 : decode cX11_init 125 = .ok (.return_, 1) := by decide +kernel
theorem dX11_row_0 : decode cX11_row 0 = .ok (.iload_n 1, 1) := by decide +kernel
theorem dX11_row_1 : decode cX11_row 1 = .ok (.invokestatic 69, 3) := by decide +kernel
theorem dX11_row_4 : decode cX11_row 4 = .ok (.ifCond .ne 18, 3) := by decide +kernel
theorem dX11_row_7 : decode cX11_row 7 = .ok (.iload_n 2, 1) := by decide +kernel
theorem dX11_row_8 : decode cX11_row 8 = .ok (.ifCond .lt 14, 3) := by decide +kernel
theorem dX11_row_11 : decode cX11_row 11 = .ok (.iload_n 2, 1) := by decide +kernel
theorem dX11_row_12 : decode cX11_row 12 = .ok (.iconst 3, 1) := by decide +kernel
theorem dX11_row_13 : decode cX11_row 13 = .ok (.if_icmp .ge 9, 3) := by decide +kernel
theorem dX11_row_16 : decode cX11_row 16 = .ok (.iload_n 3, 1) := by decide +kernel
theorem dX11_row_17 : decode cX11_row 17 = .ok (.bipush 40, 2) := by decide +kernel
theorem dX11_row_19 : decode cX11_row 19 = .ok (.if_icmp .le 7, 3) := by decide +kernel
theorem dX11_row_22 : decode cX11_row 22 = .ok (.ldc2_w 73, 3) := by decide +kernel
theorem dX11_row_25 : decode cX11_row 25 = .ok (.lreturn, 1) := by decide +kernel
theorem dX11_row_26 : decode cX11_row 26 = .ok (.iload_n 3, 1) := by decide +kernel
theorem dX11_row_27 : decode cX11_row 27 = .ok (.ifCond .ge 9, 3) := by decide +kernel
theorem dX11_row_30 : decode cX11_row 30 = .ok (.aload_n 0, 1) := by decide +kernel
theorem dX11_row_31 : decode cX11_row 31 = .ok (.iconst 4, 1) := by decide +kernel
theorem dX11_row_32 : decode cX11_row 32 = .ok (.invokevirtual 75, 3) := by decide +kernel
theorem dX11_row_35 : decode cX11_row 35 = .ok (.lreturn, 1) := by decide +kernel
theorem dX11_row_36 : decode cX11_row 36 = .ok (.aload_n 0, 1) := by decide +kernel
theorem dX11_row_37 : decode cX11_row 37 = .ok (.getfield 9, 3) := by decide +kernel
theorem dX11_row_40 : decode cX11_row 40 = .ok (.iload_n 1, 1) := by decide +kernel
theorem dX11_row_41 : decode cX11_row 41 = .ok (.iload_n 2, 1) := by decide +kernel
theorem dX11_row_42 : decode cX11_row 42 = .ok (.iastore, 1) := by decide +kernel
theorem dX11_row_43 : decode cX11_row 43 = .ok (.aload_n 0, 1) := by decide +kernel
theorem dX11_row_44 : decode cX11_row 44 = .ok (.getfield 13, 3) := by decide +kernel
theorem dX11_row_47 : decode cX11_row 47 = .ok (.iload_n 1, 1) := by decide +kernel
theorem dX11_row_48 : decode cX11_row 48 = .ok (.iload_n 3, 1) := by decide +kernel
theorem dX11_row_49 : decode cX11_row 49 = .ok (.iastore, 1) := by decide +kernel
theorem dX11_row_50 : decode cX11_row 50 = .ok (.iconst 0, 1) := by decide +kernel
theorem dX11_row_51 : decode cX11_row 51 = .ok (.istore 4, 2) := by decide +kernel
theorem dX11_row_53 : decode cX11_row 53 = .ok (.iload 4, 2) := by decide +kernel
theorem dX11_row_55 : decode cX11_row 55 = .ok (.iload_n 3, 1) := by decide +kernel
theorem dX11_row_56 : decode cX11_row 56 = .ok (.if_icmp .ge 22, 3) := by decide +kernel
theorem dX11_row_59 : decode cX11_row 59 = .ok (.aload_n 0, 1) := by decide +kernel
theorem dX11_row_60 : decode cX11_row 60 = .ok (.getfield 16, 3) := by decide +kernel
theorem dX11_row_63 : decode cX11_row 63 = .ok (.iload_n 1, 1) := by decide +kernel
theorem dX11_row_64 : decode cX11_row 64 = .ok (.bipush 40, 2) := by decide +kernel
theorem dX11_row_66 : decode cX11_row 66 = .ok (.imul, 1) := by decide +kernel
theorem dX11_row_67 : decode cX11_row 67 = .ok (.iload 4, 2) := by decide +kernel
theorem dX11_row_69 : decode cX11_row 69 = .ok (.iadd, 1) := by decide +kernel
theorem dX11_row_70 : decode cX11_row 70 = .ok (.iconst 0, 1) := by decide +kernel
theorem dX11_row_71 : decode cX11_row 71 = .ok (.iastore, 1) := by decide +kernel
theorem dX11_row_72 : decode cX11_row 72 = .ok (.iinc 4 1, 3) := by decide +kernel
theorem dX11_row_75 : decode cX11_row 75 = .ok (.goto (-22), 3) := by decide +kernel
theorem dX11_row_78 : decode cX11_row 78 = .ok (.aload_n 0, 1) := by decide +kernel
theorem dX11_row_79 : decode cX11_row 79 = .ok (.iload_n 3, 1) := by decide +kernel
theorem dX11_row_80 : decode cX11_row 80 = .ok (.i2l, 1) := by decide +kernel
theorem dX11_row_81 : decode cX11_row 81 = .ok (.invokevirtual 79, 3) := by decide +kernel
theorem dX11_row_84 : decode cX11_row 84 = .ok (.lreturn, 1) := by decide +kernel
theorem dX11_set_0 : decode cX11_set 0 = .ok (.iload_n 1, 1) := by decide +kernel
theorem dX11_set_1 : decode cX11_set 1 = .ok (.invokestatic 69, 3) := by decide +kernel
theorem dX11_set_4 : decode cX11_set 4 = .ok (.ifCond .eq 7, 3) := by decide +kernel
theorem dX11_set_7 : decode cX11_set 7 = .ok (.ldc2_w 73, 3) := by decide +kernel
theorem dX11_set_10 : decode cX11_set 10 = .ok (.lreturn, 1) := by decide +kernel
theorem dX11_set_11 : decode cX11_set 11 = .ok (.aload_n 0, 1) := by decide +kernel
theorem dX11_set_12 : decode cX11_set 12 = .ok (.iload_n 1, 1) := by decide +kernel
theorem dX11_set_13 : decode cX11_set 13 = .ok (.invokevirtual 83, 3) := by decide +kernel
theorem dX11_set_16 : decode cX11_set 16 = .ok (.ifCond .eq 9, 3) := by decide +kernel
theorem dX11_set_19 : decode cX11_set 19 = .ok (.aload_n 0, 1) := by decide +kernel
theorem dX11_set_20 : decode cX11_set 20 = .ok (.iconst 1, 1) := by decide +kernel
theorem dX11_set_21 : decode cX11_set 21 = .ok (.invokevirtual 75, 3) := by decide +kernel
theorem dX11_set_24 : decode cX11_set 24 = .ok (.lreturn, 1) := by decide +kernel
theorem dX11_set_25 : decode cX11_set 25 = .ok (.iload_n 2, 1) := by decide +kernel
theorem dX11_set_26 : decode cX11_set 26 = .ok (.ifCond .lt 13, 3) := by decide +kernel
theorem dX11_set_29 : decode cX11_set 29 = .ok (.iload_n 2, 1) := by decide +kernel
theorem dX11_set_30 : decode cX11_set 30 = .ok (.aload_n 0, 1) := by decide +kernel
theorem dX11_set_31 : decode cX11_set 31 = .ok (.getfield 13, 3) := by decide +kernel
theorem dX11_set_34 : decode cX11_set 34 = .ok (.iload_n 1, 1) := by decide +kernel
theorem dX11_set_35 : decode cX11_set 35 = .ok (.iaload, 1) := by decide +kernel
theorem dX11_set_36 : decode cX11_set 36 = .ok (.if_icmp .lt 9, 3) := by decide +kernel
theorem dX11_set_39 : decode cX11_set 39 = .ok (.aload_n 0, 1) := by decide +kernel
theorem dX11_set_40 : decode cX11_set 40 = .ok (.iconst 2, 1) := by decide +kernel
theorem dX11_set_41 : decode cX11_set 41 = .ok (.invokevirtual 75, 3) := by decide +kernel
theorem dX11_set_44 : decode cX11_set 44 = .ok (.lreturn, 1) := by decide +kernel
theorem dX11_set_45 : decode cX11_set 45 = .ok (.iload_n 3, 1) := by decide +kernel
theorem dX11_set_46 : decode cX11_set 46 = .ok (.aload_n 0, 1) := by decide +kernel
theorem dX11_set_47 : decode cX11_set 47 = .ok (.getfield 9, 3) := by decide +kernel
theorem dX11_set_50 : decode cX11_set 50 = .ok (.iload_n 1, 1) := by decide +kernel
theorem dX11_set_51 : decode cX11_set 51 = .ok (.iaload, 1) := by decide +kernel
theorem dX11_set_52 : decode cX11_set 52 = .ok (.invokestatic 86, 3) := by decide +kernel
theorem dX11_set_55 : decode cX11_set 55 = .ok (.istore 4, 2) := by decide +kernel
theorem dX11_set_57 : decode cX11_set 57 = .ok (.aload_n 0, 1) := by decide +kernel
theorem dX11_set_58 : decode cX11_set 58 = .ok (.getfield 16, 3) := by decide +kernel
theorem dX11_set_61 : decode cX11_set 61 = .ok (.iload_n 1, 1) := by decide +kernel
theorem dX11_set_62 : decode cX11_set 62 = .ok (.bipush 40, 2) := by decide +kernel
theorem dX11_set_64 : decode cX11_set 64 = .ok (.imul, 1) := by decide +kernel
theorem dX11_set_65 : decode cX11_set 65 = .ok (.iload_n 2, 1) := by decide +kernel
theorem dX11_set_66 : decode cX11_set 66 = .ok (.iadd, 1) := by decide +kernel
theorem dX11_set_67 : decode cX11_set 67 = .ok (.iload 4, 2) := by decide +kernel
theorem dX11_set_69 : decode cX11_set 69 = .ok (.iastore, 1) := by decide +kernel
theorem dX11_set_70 : decode cX11_set 70 = .ok (.aload_n 0, 1) := by decide +kernel
theorem dX11_set_71 : decode cX11_set 71 = .ok (.iload 4, 2) := by decide +kernel
theorem dX11_set_73 : decode cX11_set 73 = .ok (.i2l, 1) := by decide +kernel
theorem dX11_set_74 : decode cX11_set 74 = .ok (.invokevirtual 79, 3) := by decide +kernel
theorem dX11_set_77 : decode cX11_set 77 = .ok (.lreturn, 1) := by decide +kernel
theorem dX11_copy_0 : decode cX11_copy 0 = .ok (.iload_n 1, 1) := by decide +kernel
theorem dX11_copy_1 : decode cX11_copy 1 = .ok (.invokestatic 69, 3) := by decide +kernel
theorem dX11_copy_4 : decode cX11_copy 4 = .ok (.ifCond .ne 10, 3) := by decide +kernel
theorem dX11_copy_7 : decode cX11_copy 7 = .ok (.iload_n 3, 1) := by decide +kernel
theorem dX11_copy_8 : decode cX11_copy 8 = .ok (.invokestatic 69, 3) := by decide +kernel
theorem dX11_copy_11 : decode cX11_copy 11 = .ok (.ifCond .eq 7, 3) := by decide +kernel
theorem dX11_copy_14 : decode cX11_copy 14 = .ok (.ldc2_w 73, 3) := by decide +kernel
theorem dX11_copy_17 : decode cX11_copy 17 = .ok (.lreturn, 1) := by decide +kernel
theorem dX11_copy_18 : decode cX11_copy 18 = .ok (.aload_n 0, 1) := by decide +kernel
theorem dX11_copy_19 : decode cX11_copy 19 = .ok (.iload_n 1, 1) := by decide +kernel
theorem dX11_copy_20 : decode cX11_copy 20 = .ok (.invokevirtual 83, 3) := by decide +kernel
theorem dX11_copy_23 : decode cX11_copy 23 = .ok (.ifCond .ne 11, 3) := by decide +kernel
theorem dX11_copy_26 : decode cX11_copy 26 = .ok (.aload_n 0, 1) := by decide +kernel
theorem dX11_copy_27 : decode cX11_copy 27 = .ok (.iload_n 3, 1) := by decide +kernel
theorem dX11_copy_28 : decode cX11_copy 28 = .ok (.invokevirtual 83, 3) := by decide +kernel
theorem dX11_copy_31 : decode cX11_copy 31 = .ok (.ifCond .eq 9, 3) := by decide +kernel
theorem dX11_copy_34 : decode cX11_copy 34 = .ok (.aload_n 0, 1) := by decide +kernel
theorem dX11_copy_35 : decode cX11_copy 35 = .ok (.iconst 1, 1) := by decide +kernel
theorem dX11_copy_36 : decode cX11_copy 36 = .ok (.invokevirtual 75, 3) := by decide +kernel
theorem dX11_copy_39 : decode cX11_copy 39 = .ok (.lreturn, 1) := by decide +kernel
theorem dX11_copy_40 : decode cX11_copy 40 = .ok (.aload_n 0, 1) := by decide +kernel
theorem dX11_copy_41 : decode cX11_copy 41 = .ok (.getfield 9, 3) := by decide +kernel
theorem dX11_copy_44 : decode cX11_copy 44 = .ok (.iload_n 1, 1) := by decide +kernel
theorem dX11_copy_45 : decode cX11_copy 45 = .ok (.iaload, 1) := by decide +kernel
theorem dX11_copy_46 : decode cX11_copy 46 = .ok (.aload_n 0, 1) := by decide +kernel
theorem dX11_copy_47 : decode cX11_copy 47 = .ok (.getfield 9, 3) := by decide +kernel
theorem dX11_copy_50 : decode cX11_copy 50 = .ok (.iload_n 3, 1) := by decide +kernel
theorem dX11_copy_51 : decode cX11_copy 51 = .ok (.iaload, 1) := by decide +kernel
theorem dX11_copy_52 : decode cX11_copy 52 = .ok (.if_icmp .eq 9, 3) := by decide +kernel
theorem dX11_copy_55 : decode cX11_copy 55 = .ok (.aload_n 0, 1) := by decide +kernel
theorem dX11_copy_56 : decode cX11_copy 56 = .ok (.iconst 5, 1) := by decide +kernel
theorem dX11_copy_57 : decode cX11_copy 57 = .ok (.invokevirtual 75, 3) := by decide +kernel
theorem dX11_copy_60 : decode cX11_copy 60 = .ok (.lreturn, 1) := by decide +kernel
theorem dX11_copy_61 : decode cX11_copy 61 = .ok (.aload_n 0, 1) := by decide +kernel
theorem dX11_copy_62 : decode cX11_copy 62 = .ok (.iload_n 1, 1) := by decide +kernel
theorem dX11_copy_63 : decode cX11_copy 63 = .ok (.iload_n 2, 1) := by decide +kernel
theorem dX11_copy_64 : decode cX11_copy 64 = .ok (.iload 5, 2) := by decide +kernel
theorem dX11_copy_66 : decode cX11_copy 66 = .ok (.invokevirtual 90, 3) := by decide +kernel
theorem dX11_copy_69 : decode cX11_copy 69 = .ok (.ifCond .ne 15, 3) := by decide +kernel
theorem dX11_copy_72 : decode cX11_copy 72 = .ok (.aload_n 0, 1) := by decide +kernel
theorem dX11_copy_73 : decode cX11_copy 73 = .ok (.iload_n 3, 1) := by decide +kernel
theorem dX11_copy_74 : decode cX11_copy 74 = .ok (.iload 4, 2) := by decide +kernel
theorem dX11_copy_76 : decode cX11_copy 76 = .ok (.iload 5, 2) := by decide +kernel
theorem dX11_copy_78 : decode cX11_copy 78 = .ok (.invokevirtual 90, 3) := by decide +kernel
theorem dX11_copy_81 : decode cX11_copy 81 = .ok (.ifCond .eq 9, 3) := by decide +kernel
theorem dX11_copy_84 : decode cX11_copy 84 = .ok (.aload_n 0, 1) := by decide +kernel
theorem dX11_copy_85 : decode cX11_copy 85 = .ok (.iconst 2, 1) := by decide +kernel
theorem dX11_copy_86 : decode cX11_copy 86 = .ok (.invokevirtual 75, 3) := by decide +kernel
theorem dX11_copy_89 : decode cX11_copy 89 = .ok (.lreturn, 1) := by decide +kernel
theorem dX11_copy_90 : decode cX11_copy 90 = .ok (.aload_n 0, 1) := by decide +kernel
theorem dX11_copy_91 : decode cX11_copy 91 = .ok (.getfield 16, 3) := by decide +kernel
theorem dX11_copy_94 : decode cX11_copy 94 = .ok (.iload_n 1, 1) := by decide +kernel
theorem dX11_copy_95 : decode cX11_copy 95 = .ok (.bipush 40, 2) := by decide +kernel
theorem dX11_copy_97 : decode cX11_copy 97 = .ok (.imul, 1) := by decide +kernel
theorem dX11_copy_98 : decode cX11_copy 98 = .ok (.iload_n 2, 1) := by decide +kernel
theorem dX11_copy_99 : decode cX11_copy 99 = .ok (.iadd, 1) := by decide +kernel
theorem dX11_copy_100 : decode cX11_copy 100 = .ok (.aload_n 0, 1) := by decide +kernel
theorem dX11_copy_101 : decode cX11_copy 101 = .ok (.getfield 16, 3) := by decide +kernel
theorem dX11_copy_104 : decode cX11_copy 104 = .ok (.iload_n 3, 1) := by decide +kernel
theorem dX11_copy_105 : decode cX11_copy 105 = .ok (.bipush 40, 2) := by decide +kernel
theorem dX11_copy_107 : decode cX11_copy 107 = .ok (.imul, 1) := by decide +kernel
theorem dX11_copy_108 : decode cX11_copy 108 = .ok (.iload 4, 2) := by decide +kernel
theorem dX11_copy_110 : decode cX11_copy 110 = .ok (.iadd, 1) := by decide +kernel
theorem dX11_copy_111 : decode cX11_copy 111 = .ok (.iload 5, 2) := by decide +kernel
theorem dX11_copy_113 : decode cX11_copy 113 = .ok (.invokestatic 94, 3) := by decide +kernel
theorem dX11_copy_116 : decode cX11_copy 116 = .ok (.aload_n 0, 1) := by decide +kernel
theorem dX11_copy_117 : decode cX11_copy 117 = .ok (.iload 5, 2) := by decide +kernel
theorem dX11_copy_119 : decode cX11_copy 119 = .ok (.i2l, 1) := by decide +kernel
theorem dX11_copy_120 : decode cX11_copy 120 = .ok (.invokevirtual 79, 3) := by decide +kernel
theorem dX11_copy_123 : decode cX11_copy 123 = .ok (.lreturn, 1) := by decide +kernel
theorem dX11_drop_0 : decode cX11_drop 0 = .ok (.iload_n 1, 1) := by decide +kernel
theorem dX11_drop_1 : decode cX11_drop 1 = .ok (.invokestatic 69, 3) := by decide +kernel
theorem dX11_drop_4 : decode cX11_drop 4 = .ok (.ifCond .eq 7, 3) := by decide +kernel
theorem dX11_drop_7 : decode cX11_drop 7 = .ok (.ldc2_w 73, 3) := by decide +kernel
theorem dX11_drop_10 : decode cX11_drop 10 = .ok (.lreturn, 1) := by decide +kernel
theorem dX11_drop_11 : decode cX11_drop 11 = .ok (.aload_n 0, 1) := by decide +kernel
theorem dX11_drop_12 : decode cX11_drop 12 = .ok (.iload_n 1, 1) := by decide +kernel
theorem dX11_drop_13 : decode cX11_drop 13 = .ok (.invokevirtual 83, 3) := by decide +kernel
theorem dX11_drop_16 : decode cX11_drop 16 = .ok (.ifCond .eq 9, 3) := by decide +kernel
theorem dX11_drop_19 : decode cX11_drop 19 = .ok (.aload_n 0, 1) := by decide +kernel
theorem dX11_drop_20 : decode cX11_drop 20 = .ok (.iconst 1, 1) := by decide +kernel
theorem dX11_drop_21 : decode cX11_drop 21 = .ok (.invokevirtual 75, 3) := by decide +kernel
theorem dX11_drop_24 : decode cX11_drop 24 = .ok (.lreturn, 1) := by decide +kernel
theorem dX11_drop_25 : decode cX11_drop 25 = .ok (.aload_n 0, 1) := by decide +kernel
theorem dX11_drop_26 : decode cX11_drop 26 = .ok (.getfield 13, 3) := by decide +kernel
theorem dX11_drop_29 : decode cX11_drop 29 = .ok (.iload_n 1, 1) := by decide +kernel
theorem dX11_drop_30 : decode cX11_drop 30 = .ok (.iaload, 1) := by decide +kernel
theorem dX11_drop_31 : decode cX11_drop 31 = .ok (.istore_n 2, 1) := by decide +kernel
theorem dX11_drop_32 : decode cX11_drop 32 = .ok (.aload_n 0, 1) := by decide +kernel
theorem dX11_drop_33 : decode cX11_drop 33 = .ok (.getfield 13, 3) := by decide +kernel
theorem dX11_drop_36 : decode cX11_drop 36 = .ok (.iload_n 1, 1) := by decide +kernel
theorem dX11_drop_37 : decode cX11_drop 37 = .ok (.iconst (-1), 1) := by decide +kernel
theorem dX11_drop_38 : decode cX11_drop 38 = .ok (.iastore, 1) := by decide +kernel
theorem dX11_drop_39 : decode cX11_drop 39 = .ok (.aload_n 0, 1) := by decide +kernel
theorem dX11_drop_40 : decode cX11_drop 40 = .ok (.iload_n 2, 1) := by decide +kernel
theorem dX11_drop_41 : decode cX11_drop 41 = .ok (.i2l, 1) := by decide +kernel
theorem dX11_drop_42 : decode cX11_drop 42 = .ok (.invokevirtual 79, 3) := by decide +kernel
theorem dX11_drop_45 : decode cX11_drop 45 = .ok (.lreturn, 1) := by decide +kernel
theorem dX11_isNoRow_0 : decode cX11_isNoRow 0 = .ok (.iload_n 0, 1) := by decide +kernel
theorem dX11_isNoRow_1 : decode cX11_isNoRow 1 = .ok (.ifCond .lt 9, 3) := by decide +kernel
theorem dX11_isNoRow_4 : decode cX11_isNoRow 4 = .ok (.iload_n 0, 1) := by decide +kernel
theorem dX11_isNoRow_5 : decode cX11_isNoRow 5 = .ok (.bipush 8, 2) := by decide +kernel
theorem dX11_isNoRow_7 : decode cX11_isNoRow 7 = .ok (.if_icmp .lt 7, 3) := by decide +kernel
theorem dX11_isNoRow_10 : decode cX11_isNoRow 10 = .ok (.iconst 1, 1) := by decide +kernel
theorem dX11_isNoRow_11 : decode cX11_isNoRow 11 = .ok (.goto 4, 3) := by decide +kernel
theorem dX11_isNoRow_14 : decode cX11_isNoRow 14 = .ok (.iconst 0, 1) := by decide +kernel
theorem dX11_isNoRow_15 : decode cX11_isNoRow 15 = .ok (.ireturn, 1) := by decide +kernel
theorem dX11_isMissing_0 : decode cX11_isMissing 0 = .ok (.aload_n 0, 1) := by decide +kernel
theorem dX11_isMissing_1 : decode cX11_isMissing 1 = .ok (.getfield 13, 3) := by decide +kernel
theorem dX11_isMissing_4 : decode cX11_isMissing 4 = .ok (.iload_n 1, 1) := by decide +kernel
theorem dX11_isMissing_5 : decode cX11_isMissing 5 = .ok (.iaload, 1) := by decide +kernel
theorem dX11_isMissing_6 : decode cX11_isMissing 6 = .ok (.iconst (-1), 1) := by decide +kernel
theorem dX11_isMissing_7 : decode cX11_isMissing 7 = .ok (.if_icmp .ne 7, 3) := by decide +kernel
theorem dX11_isMissing_10 : decode cX11_isMissing 10 = .ok (.iconst 1, 1) := by decide +kernel
theorem dX11_isMissing_11 : decode cX11_isMissing 11 = .ok (.goto 4, 3) := by decide +kernel
theorem dX11_isMissing_14 : decode cX11_isMissing 14 = .ok (.iconst 0, 1) := by decide +kernel
theorem dX11_isMissing_15 : decode cX11_isMissing 15 = .ok (.ireturn, 1) := by decide +kernel
theorem dX11_lacksItems_0 : decode cX11_lacksItems 0 = .ok (.iload_n 2, 1) := by decide +kernel
theorem dX11_lacksItems_1 : decode cX11_lacksItems 1 = .ok (.ifCond .lt 23, 3) := by decide +kernel
theorem dX11_lacksItems_4 : decode cX11_lacksItems 4 = .ok (.iload_n 3, 1) := by decide +kernel
theorem dX11_lacksItems_5 : decode cX11_lacksItems 5 = .ok (.ifCond .lt 19, 3) := by decide +kernel
theorem dX11_lacksItems_8 : decode cX11_lacksItems 8 = .ok (.iload_n 2, 1) := by decide +kernel
theorem dX11_lacksItems_9 : decode cX11_lacksItems 9 = .ok (.i2l, 1) := by decide +kernel
theorem dX11_lacksItems_10 : decode cX11_lacksItems 10 = .ok (.iload_n 3, 1) := by decide +kernel
theorem dX11_lacksItems_11 : decode cX11_lacksItems 11 = .ok (.i2l, 1) := by decide +kernel
theorem dX11_lacksItems_12 : decode cX11_lacksItems 12 = .ok (.ladd, 1) := by decide +kernel
theorem dX11_lacksItems_13 : decode cX11_lacksItems 13 = .ok (.aload_n 0, 1) := by decide +kernel
theorem dX11_lacksItems_14 : decode cX11_lacksItems 14 = .ok (.getfield 13, 3) := by decide +kernel
theorem dX11_lacksItems_17 : decode cX11_lacksItems 17 = .ok (.iload_n 1, 1) := by decide +kernel
theorem dX11_lacksItems_18 : decode cX11_lacksItems 18 = .ok (.iaload, 1) := by decide +kernel
theorem dX11_lacksItems_19 : decode cX11_lacksItems 19 = .ok (.i2l, 1) := by decide +kernel
theorem dX11_lacksItems_20 : decode cX11_lacksItems 20 = .ok (.lcmp, 1) := by decide +kernel
theorem dX11_lacksItems_21 : decode cX11_lacksItems 21 = .ok (.ifCond .le 7, 3) := by decide +kernel
theorem dX11_lacksItems_24 : decode cX11_lacksItems 24 = .ok (.iconst 1, 1) := by decide +kernel
theorem dX11_lacksItems_25 : decode cX11_lacksItems 25 = .ok (.goto 4, 3) := by decide +kernel
theorem dX11_lacksItems_28 : decode cX11_lacksItems 28 = .ok (.iconst 0, 1) := by decide +kernel
theorem dX11_lacksItems_29 : decode cX11_lacksItems 29 = .ok (.ireturn, 1) := by decide +kernel
theorem dX11_lowestBits_0 : decode cX11_lowestBits 0 = .ok (.iload_n 1, 1) := by decide +kernel
theorem dX11_lowestBits_1 : decode cX11_lowestBits 1 = .ok (.ifCond .ne 6, 3) := by decide +kernel
theorem dX11_lowestBits_4 : decode cX11_lowestBits 4 = .ok (.iload_n 0, 1) := by decide +kernel
theorem dX11_lowestBits_5 : decode cX11_lowestBits 5 = .ok (.i2b, 1) := by decide +kernel
theorem dX11_lowestBits_6 : decode cX11_lowestBits 6 = .ok (.ireturn, 1) := by decide +kernel
theorem dX11_lowestBits_7 : decode cX11_lowestBits 7 = .ok (.iload_n 1, 1) := by decide +kernel
theorem dX11_lowestBits_8 : decode cX11_lowestBits 8 = .ok (.iconst 1, 1) := by decide +kernel
theorem dX11_lowestBits_9 : decode cX11_lowestBits 9 = .ok (.if_icmp .ne 8, 3) := by decide +kernel
theorem dX11_lowestBits_12 : decode cX11_lowestBits 12 = .ok (.iload_n 0, 1) := by decide +kernel
theorem dX11_lowestBits_13 : decode cX11_lowestBits 13 = .ok (.i2s, 1) := by decide +kernel
theorem dX11_lowestBits_14 : decode cX11_lowestBits 14 = .ok (.goto 4, 3) := by decide +kernel
theorem dX11_lowestBits_17 : decode cX11_lowestBits 17 = .ok (.iload_n 0, 1) := by decide +kernel
theorem dX11_lowestBits_18 : decode cX11_lowestBits 18 = .ok (.ireturn, 1) := by decide +kernel
theorem dX11_found_0 : decode cX11_found 0 = .ok (.aload_n 0, 1) := by decide +kernel
theorem dX11_found_1 : decode cX11_found 1 = .ok (.iload_n 1, 1) := by decide +kernel
theorem dX11_found_2 : decode cX11_found 2 = .ok (.putfield 100, 3) := by decide +kernel
theorem dX11_found_5 : decode cX11_found 5 = .ok (.ldc2_w 104, 3) := by decide +kernel
theorem dX11_found_8 : decode cX11_found 8 = .ok (.iload_n 1, 1) := by decide +kernel
theorem dX11_found_9 : decode cX11_found 9 = .ok (.i2l, 1) := by decide +kernel
theorem dX11_found_10 : decode cX11_found 10 = .ok (.lsub, 1) := by decide +kernel
theorem dX11_found_11 : decode cX11_found 11 = .ok (.lreturn, 1) := by decide +kernel
theorem dX11_fine_0 : decode cX11_fine 0 = .ok (.aload_n 0, 1) := by decide +kernel
theorem dX11_fine_1 : decode cX11_fine 1 = .ok (.iconst 0, 1) := by decide +kernel
theorem dX11_fine_2 : decode cX11_fine 2 = .ok (.putfield 100, 3) := by decide +kernel
theorem dX11_fine_5 : decode cX11_fine 5 = .ok (.lload_n 1, 1) := by decide +kernel
theorem dX11_fine_6 : decode cX11_fine 6 = .ok (.lreturn, 1) := by decide +kernel
theorem dX11_feed_0 : decode cX11_feed 0 = .ok (.iload_n 3, 1) := by decide +kernel
theorem dX11_feed_1 : decode cX11_feed 1 = .ok (.iconst 1, 1) := by decide +kernel
theorem dX11_feed_2 : decode cX11_feed 2 = .ok (.if_icmp .lt 9, 3) := by decide +kernel
theorem dX11_feed_5 : decode cX11_feed 5 = .ok (.iload_n 3, 1) := by decide +kernel
theorem dX11_feed_6 : decode cX11_feed 6 = .ok (.bipush 8, 2) := by decide +kernel
theorem dX11_feed_8 : decode cX11_feed 8 = .ok (.if_icmp .le 7, 3) := by decide +kernel
theorem dX11_feed_11 : decode cX11_feed 11 = .ok (.ldc2_w 73, 3) := by decide +kernel
theorem dX11_feed_14 : decode cX11_feed 14 = .ok (.lreturn, 1) := by decide +kernel
theorem dX11_feed_15 : decode cX11_feed 15 = .ok (.aload_n 0, 1) := by decide +kernel
theorem dX11_feed_16 : decode cX11_feed 16 = .ok (.getfield 22, 3) := by decide +kernel
theorem dX11_feed_19 : decode cX11_feed 19 = .ok (.getfield 106, 3) := by decide +kernel
theorem dX11_feed_22 : decode cX11_feed 22 = .ok (.iload_n 3, 1) := by decide +kernel
theorem dX11_feed_23 : decode cX11_feed 23 = .ok (.iadd, 1) := by decide +kernel
theorem dX11_feed_24 : decode cX11_feed 24 = .ok (.sipush 500, 3) := by decide +kernel
theorem dX11_feed_27 : decode cX11_feed 27 = .ok (.if_icmp .le 7, 3) := by decide +kernel
theorem dX11_feed_30 : decode cX11_feed 30 = .ok (.ldc2_w 109, 3) := by decide +kernel
theorem dX11_feed_33 : decode cX11_feed 33 = .ok (.lreturn, 1) := by decide +kernel
theorem dX11_feed_34 : decode cX11_feed 34 = .ok (.iload_n 3, 1) := by decide +kernel
theorem dX11_feed_35 : decode cX11_feed 35 = .ok (.iconst 1, 1) := by decide +kernel
theorem dX11_feed_36 : decode cX11_feed 36 = .ok (.isub, 1) := by decide +kernel
theorem dX11_feed_37 : decode cX11_feed 37 = .ok (.istore 4, 2) := by decide +kernel
theorem dX11_feed_39 : decode cX11_feed 39 = .ok (.iload 4, 2) := by decide +kernel
theorem dX11_feed_41 : decode cX11_feed 41 = .ok (.ifCond .lt 25, 3) := by decide +kernel
theorem dX11_feed_44 : decode cX11_feed 44 = .ok (.aload_n 0, 1) := by decide +kernel
theorem dX11_feed_45 : decode cX11_feed 45 = .ok (.getfield 22, 3) := by decide +kernel
theorem dX11_feed_48 : decode cX11_feed 48 = .ok (.lload_n 1, 1) := by decide +kernel
theorem dX11_feed_49 : decode cX11_feed 49 = .ok (.bipush 8, 2) := by decide +kernel
theorem dX11_feed_51 : decode cX11_feed 51 = .ok (.iload 4, 2) := by decide +kernel
theorem dX11_feed_53 : decode cX11_feed 53 = .ok (.imul, 1) := by decide +kernel
theorem dX11_feed_54 : decode cX11_feed 54 = .ok (.lushr, 1) := by decide +kernel
theorem dX11_feed_55 : decode cX11_feed 55 = .ok (.l2i, 1) := by decide +kernel
theorem dX11_feed_56 : decode cX11_feed 56 = .ok (.i2b, 1) := by decide +kernel
theorem dX11_feed_57 : decode cX11_feed 57 = .ok (.invokevirtual 111, 3) := by decide +kernel
theorem dX11_feed_60 : decode cX11_feed 60 = .ok (.iinc 4 (-1), 3) := by decide +kernel
theorem dX11_feed_63 : decode cX11_feed 63 = .ok (.goto (-24), 3) := by decide +kernel
theorem dX11_feed_66 : decode cX11_feed 66 = .ok (.aload_n 0, 1) := by decide +kernel
theorem dX11_feed_67 : decode cX11_feed 67 = .ok (.getfield 22, 3) := by decide +kernel
theorem dX11_feed_70 : decode cX11_feed 70 = .ok (.getfield 106, 3) := by decide +kernel
theorem dX11_feed_73 : decode cX11_feed 73 = .ok (.i2l, 1) := by decide +kernel
theorem dX11_feed_74 : decode cX11_feed 74 = .ok (.lreturn, 1) := by decide +kernel
theorem dX11_life_0 : decode cX11_life 0 = .ok (.aload_n 0, 1) := by decide +kernel
theorem dX11_life_1 : decode cX11_life 1 = .ok (.getfield 22, 3) := by decide +kernel
theorem dX11_life_4 : decode cX11_life 4 = .ok (.aload_n 0, 1) := by decide +kernel
theorem dX11_life_5 : decode cX11_life 5 = .ok (.getfield 33, 3) := by decide +kernel
theorem dX11_life_8 : decode cX11_life 8 = .ok (.invokevirtual 115, 3) := by decide +kernel
theorem dX11_life_11 : decode cX11_life 11 = .ok (.aload_n 0, 1) := by decide +kernel
theorem dX11_life_12 : decode cX11_life 12 = .ok (.getfield 22, 3) := by decide +kernel
theorem dX11_life_15 : decode cX11_life 15 = .ok (.getfield 119, 3) := by decide +kernel
theorem dX11_life_18 : decode cX11_life 18 = .ok (.ifCond .eq 27, 3) := by decide +kernel
theorem dX11_life_21 : decode cX11_life 21 = .ok (.aload_n 0, 1) := by decide +kernel
theorem dX11_life_22 : decode cX11_life 22 = .ok (.aload_n 0, 1) := by decide +kernel
theorem dX11_life_23 : decode cX11_life 23 = .ok (.getfield 22, 3) := by decide +kernel
theorem dX11_life_26 : decode cX11_life 26 = .ok (.getfield 119, 3) := by decide +kernel
theorem dX11_life_29 : decode cX11_life 29 = .ok (.putfield 122, 3) := by decide +kernel
theorem dX11_life_32 : decode cX11_life 32 = .ok (.ldc2_w 125, 3) := by decide +kernel
theorem dX11_life_35 : decode cX11_life 35 = .ok (.aload_n 0, 1) := by decide +kernel
theorem dX11_life_36 : decode cX11_life 36 = .ok (.getfield 22, 3) := by decide +kernel
theorem dX11_life_39 : decode cX11_life 39 = .ok (.getfield 127, 3) := by decide +kernel
theorem dX11_life_42 : decode cX11_life 42 = .ok (.i2l, 1) := by decide +kernel
theorem dX11_life_43 : decode cX11_life 43 = .ok (.lsub, 1) := by decide +kernel
theorem dX11_life_44 : decode cX11_life 44 = .ok (.lreturn, 1) := by decide +kernel
theorem dX11_life_45 : decode cX11_life 45 = .ok (.aload_n 0, 1) := by decide +kernel
theorem dX11_life_46 : decode cX11_life 46 = .ok (.getfield 29, 3) := by decide +kernel
theorem dX11_life_49 : decode cX11_life 49 = .ok (.astore_n 1, 1) := by decide +kernel
theorem dX11_life_50 : decode cX11_life 50 = .ok (.aload_n 0, 1) := by decide +kernel
theorem dX11_life_51 : decode cX11_life 51 = .ok (.aload_n 0, 1) := by decide +kernel
theorem dX11_life_52 : decode cX11_life 52 = .ok (.getfield 33, 3) := by decide +kernel
theorem dX11_life_55 : decode cX11_life 55 = .ok (.putfield 29, 3) := by decide +kernel
theorem dX11_life_58 : decode cX11_life 58 = .ok (.aload_n 0, 1) := by decide +kernel
theorem dX11_life_59 : decode cX11_life 59 = .ok (.aload_n 1, 1) := by decide +kernel
theorem dX11_life_60 : decode cX11_life 60 = .ok (.putfield 33, 3) := by decide +kernel
theorem dX11_life_63 : decode cX11_life 63 = .ok (.aload_n 0, 1) := by decide +kernel
theorem dX11_life_64 : decode cX11_life 64 = .ok (.iconst 1, 1) := by decide +kernel
theorem dX11_life_65 : decode cX11_life 65 = .ok (.putfield 130, 3) := by decide +kernel
theorem dX11_life_68 : decode cX11_life 68 = .ok (.aload_n 0, 1) := by decide +kernel
theorem dX11_life_69 : decode cX11_life 69 = .ok (.getfield 39, 3) := by decide +kernel
theorem dX11_life_72 : decode cX11_life 72 = .ok (.aload_n 0, 1) := by decide +kernel
theorem dX11_life_73 : decode cX11_life 73 = .ok (.getfield 29, 3) := by decide +kernel
theorem dX11_life_76 : decode cX11_life 76 = .ok (.invokevirtual 134, 3) := by decide +kernel
theorem dX11_life_79 : decode cX11_life 79 = .ok (.aload_n 0, 1) := by decide +kernel
theorem dX11_life_80 : decode cX11_life 80 = .ok (.getfield 39, 3) := by decide +kernel
theorem dX11_life_83 : decode cX11_life 83 = .ok (.iconst 0, 1) := by decide +kernel
theorem dX11_life_84 : decode cX11_life 84 = .ok (.aload_n 0, 1) := by decide +kernel
theorem dX11_life_85 : decode cX11_life 85 = .ok (.getfield 29, 3) := by decide +kernel
theorem dX11_life_88 : decode cX11_life 88 = .ok (.getfield 137, 3) := by decide +kernel
theorem dX11_life_91 : decode cX11_life 91 = .ok (.invokevirtual 140, 3) := by decide +kernel
theorem dX11_life_94 : decode cX11_life 94 = .ok (.aload_n 0, 1) := by decide +kernel
theorem dX11_life_95 : decode cX11_life 95 = .ok (.getfield 46, 3) := by decide +kernel
theorem dX11_life_98 : decode cX11_life 98 = .ok (.aload_n 0, 1) := by decide +kernel
theorem dX11_life_99 : decode cX11_life 99 = .ok (.getfield 39, 3) := by decide +kernel
theorem dX11_life_102 : decode cX11_life 102 = .ok (.invokevirtual 144, 3) := by decide +kernel
theorem dX11_life_105 : decode cX11_life 105 = .ok (.aload_n 0, 1) := by decide +kernel
theorem dX11_life_106 : decode cX11_life 106 = .ok (.getfield 29, 3) := by decide +kernel
theorem dX11_life_109 : decode cX11_life 109 = .ok (.getfield 137, 3) := by decide +kernel
theorem dX11_life_112 : decode cX11_life 112 = .ok (.i2l, 1) := by decide +kernel
theorem dX11_life_113 : decode cX11_life 113 = .ok (.lreturn, 1) := by decide +kernel
theorem dX11_fault_0 : decode cX11_fault 0 = .ok (.aload_n 0, 1) := by decide +kernel
theorem dX11_fault_1 : decode cX11_fault 1 = .ok (.getfield 122, 3) := by decide +kernel
theorem dX11_fault_4 : decode cX11_fault 4 = .ok (.ireturn, 1) := by decide +kernel
theorem dX11_whose_0 : decode cX11_whose 0 = .ok (.aload_n 0, 1) := by decide +kernel
theorem dX11_whose_1 : decode cX11_whose 1 = .ok (.iload_n 1, 1) := by decide +kernel
theorem dX11_whose_2 : decode cX11_whose 2 = .ok (.invokevirtual 148, 3) := by decide +kernel
theorem dX11_whose_5 : decode cX11_whose 5 = .ok (.ifCond .ne 10, 3) := by decide +kernel
theorem dX11_whose_8 : decode cX11_whose 8 = .ok (.iload_n 2, 1) := by decide +kernel
theorem dX11_whose_9 : decode cX11_whose 9 = .ok (.invokestatic 151, 3) := by decide +kernel
theorem dX11_whose_12 : decode cX11_whose 12 = .ok (.ifCond .eq 7, 3) := by decide +kernel
theorem dX11_whose_15 : decode cX11_whose 15 = .ok (.ldc2_w 73, 3) := by decide +kernel
theorem dX11_whose_18 : decode cX11_whose 18 = .ok (.lreturn, 1) := by decide +kernel
theorem dX11_whose_19 : decode cX11_whose 19 = .ok (.aload_n 0, 1) := by decide +kernel
theorem dX11_whose_20 : decode cX11_whose 20 = .ok (.getfield 50, 3) := by decide +kernel
theorem dX11_whose_23 : decode cX11_whose 23 = .ok (.aload_n 0, 1) := by decide +kernel
theorem dX11_whose_24 : decode cX11_whose 24 = .ok (.getfield 29, 3) := by decide +kernel
theorem dX11_whose_27 : decode cX11_whose 27 = .ok (.invokevirtual 134, 3) := by decide +kernel
theorem dX11_whose_30 : decode cX11_whose 30 = .ok (.aload_n 0, 1) := by decide +kernel
theorem dX11_whose_31 : decode cX11_whose 31 = .ok (.getfield 50, 3) := by decide +kernel
theorem dX11_whose_34 : decode cX11_whose 34 = .ok (.iconst 0, 1) := by decide +kernel
theorem dX11_whose_35 : decode cX11_whose 35 = .ok (.aload_n 0, 1) := by decide +kernel
theorem dX11_whose_36 : decode cX11_whose 36 = .ok (.getfield 29, 3) := by decide +kernel
theorem dX11_whose_39 : decode cX11_whose 39 = .ok (.iload_n 2, 1) := by decide +kernel
theorem dX11_whose_40 : decode cX11_whose 40 = .ok (.iconst 1, 1) := by decide +kernel
theorem dX11_whose_41 : decode cX11_whose 41 = .ok (.iadd, 1) := by decide +kernel
theorem dX11_whose_42 : decode cX11_whose 42 = .ok (.invokevirtual 154, 3) := by decide +kernel
theorem dX11_whose_45 : decode cX11_whose 45 = .ok (.invokevirtual 140, 3) := by decide +kernel
theorem dX11_whose_48 : decode cX11_whose 48 = .ok (.iload_n 1, 1) := by decide +kernel
theorem dX11_whose_49 : decode cX11_whose 49 = .ok (.aload_n 0, 1) := by decide +kernel
theorem dX11_whose_50 : decode cX11_whose 50 = .ok (.getfield 50, 3) := by decide +kernel
theorem dX11_whose_53 : decode cX11_whose 53 = .ok (.getfield 158, 3) := by decide +kernel
theorem dX11_whose_56 : decode cX11_whose 56 = .ok (.if_icmp .ge 16, 3) := by decide +kernel
theorem dX11_whose_59 : decode cX11_whose 59 = .ok (.aload_n 0, 1) := by decide +kernel
theorem dX11_whose_60 : decode cX11_whose 60 = .ok (.getfield 50, 3) := by decide +kernel
theorem dX11_whose_63 : decode cX11_whose 63 = .ok (.getfield 161, 3) := by decide +kernel
theorem dX11_whose_66 : decode cX11_whose 66 = .ok (.iload_n 1, 1) := by decide +kernel
theorem dX11_whose_67 : decode cX11_whose 67 = .ok (.iaload, 1) := by decide +kernel
theorem dX11_whose_68 : decode cX11_whose 68 = .ok (.i2l, 1) := by decide +kernel
theorem dX11_whose_69 : decode cX11_whose 69 = .ok (.goto 6, 3) := by decide +kernel
theorem dX11_whose_72 : decode cX11_whose 72 = .ok (.ldc2_w 164, 3) := by decide +kernel
theorem dX11_whose_75 : decode cX11_whose 75 = .ok (.lreturn, 1) := by decide +kernel
theorem dX11_thing_0 : decode cX11_thing 0 = .ok (.aload_n 0, 1) := by decide +kernel
theorem dX11_thing_1 : decode cX11_thing 1 = .ok (.iload_n 1, 1) := by decide +kernel
theorem dX11_thing_2 : decode cX11_thing 2 = .ok (.invokevirtual 148, 3) := by decide +kernel
theorem dX11_thing_5 : decode cX11_thing 5 = .ok (.ifCond .eq 7, 3) := by decide +kernel
theorem dX11_thing_8 : decode cX11_thing 8 = .ok (.ldc2_w 73, 3) := by decide +kernel
theorem dX11_thing_11 : decode cX11_thing 11 = .ok (.lreturn, 1) := by decide +kernel
theorem dX11_thing_12 : decode cX11_thing 12 = .ok (.iload_n 2, 1) := by decide +kernel
theorem dX11_thing_13 : decode cX11_thing 13 = .ok (.tableswitch 127 0 6 #[43, 54, 65, 76, 87, 98, 109], 43) := by decide +kernel
theorem dX11_thing_56 : decode cX11_thing 56 = .ok (.aload_n 0, 1) := by decide +kernel
theorem dX11_thing_57 : decode cX11_thing 57 = .ok (.getfield 39, 3) := by decide +kernel
theorem dX11_thing_60 : decode cX11_thing 60 = .ok (.getfield 161, 3) := by decide +kernel
theorem dX11_thing_63 : decode cX11_thing 63 = .ok (.iload_n 1, 1) := by decide +kernel
theorem dX11_thing_64 : decode cX11_thing 64 = .ok (.iaload, 1) := by decide +kernel
theorem dX11_thing_65 : decode cX11_thing 65 = .ok (.i2l, 1) := by decide +kernel
theorem dX11_thing_66 : decode cX11_thing 66 = .ok (.lreturn, 1) := by decide +kernel
theorem dX11_thing_67 : decode cX11_thing 67 = .ok (.aload_n 0, 1) := by decide +kernel
theorem dX11_thing_68 : decode cX11_thing 68 = .ok (.getfield 39, 3) := by decide +kernel
theorem dX11_thing_71 : decode cX11_thing 71 = .ok (.getfield 166, 3) := by decide +kernel
theorem dX11_thing_74 : decode cX11_thing 74 = .ok (.iload_n 1, 1) := by decide +kernel
theorem dX11_thing_75 : decode cX11_thing 75 = .ok (.iaload, 1) := by decide +kernel
theorem dX11_thing_76 : decode cX11_thing 76 = .ok (.i2l, 1) := by decide +kernel
theorem dX11_thing_77 : decode cX11_thing 77 = .ok (.lreturn, 1) := by decide +kernel
theorem dX11_thing_78 : decode cX11_thing 78 = .ok (.aload_n 0, 1) := by decide +kernel
theorem dX11_thing_79 : decode cX11_thing 79 = .ok (.getfield 39, 3) := by decide +kernel
theorem dX11_thing_82 : decode cX11_thing 82 = .ok (.getfield 169, 3) := by decide +kernel
theorem dX11_thing_85 : decode cX11_thing 85 = .ok (.iload_n 1, 1) := by decide +kernel
theorem dX11_thing_86 : decode cX11_thing 86 = .ok (.iaload, 1) := by decide +kernel
theorem dX11_thing_87 : decode cX11_thing 87 = .ok (.i2l, 1) := by decide +kernel
theorem dX11_thing_88 : decode cX11_thing 88 = .ok (.lreturn, 1) := by decide +kernel
theorem dX11_thing_89 : decode cX11_thing 89 = .ok (.aload_n 0, 1) := by decide +kernel
theorem dX11_thing_90 : decode cX11_thing 90 = .ok (.getfield 39, 3) := by decide +kernel
theorem dX11_thing_93 : decode cX11_thing 93 = .ok (.getfield 172, 3) := by decide +kernel
theorem dX11_thing_96 : decode cX11_thing 96 = .ok (.iload_n 1, 1) := by decide +kernel
theorem dX11_thing_97 : decode cX11_thing 97 = .ok (.iaload, 1) := by decide +kernel
theorem dX11_thing_98 : decode cX11_thing 98 = .ok (.i2l, 1) := by decide +kernel
theorem dX11_thing_99 : decode cX11_thing 99 = .ok (.lreturn, 1) := by decide +kernel
theorem dX11_thing_100 : decode cX11_thing 100 = .ok (.aload_n 0, 1) := by decide +kernel
theorem dX11_thing_101 : decode cX11_thing 101 = .ok (.getfield 39, 3) := by decide +kernel
theorem dX11_thing_104 : decode cX11_thing 104 = .ok (.getfield 175, 3) := by decide +kernel
theorem dX11_thing_107 : decode cX11_thing 107 = .ok (.iload_n 1, 1) := by decide +kernel
theorem dX11_thing_108 : decode cX11_thing 108 = .ok (.iaload, 1) := by decide +kernel
theorem dX11_thing_109 : decode cX11_thing 109 = .ok (.i2l, 1) := by decide +kernel
theorem dX11_thing_110 : decode cX11_thing 110 = .ok (.lreturn, 1) := by decide +kernel
theorem dX11_thing_111 : decode cX11_thing 111 = .ok (.aload_n 0, 1) := by decide +kernel
theorem dX11_thing_112 : decode cX11_thing 112 = .ok (.getfield 39, 3) := by decide +kernel
theorem dX11_thing_115 : decode cX11_thing 115 = .ok (.getfield 178, 3) := by decide +kernel
theorem dX11_thing_118 : decode cX11_thing 118 = .ok (.iload_n 1, 1) := by decide +kernel
theorem dX11_thing_119 : decode cX11_thing 119 = .ok (.iaload, 1) := by decide +kernel
theorem dX11_thing_120 : decode cX11_thing 120 = .ok (.i2l, 1) := by decide +kernel
theorem dX11_thing_121 : decode cX11_thing 121 = .ok (.lreturn, 1) := by decide +kernel
theorem dX11_thing_122 : decode cX11_thing 122 = .ok (.aload_n 0, 1) := by decide +kernel
theorem dX11_thing_123 : decode cX11_thing 123 = .ok (.getfield 29, 3) := by decide +kernel
theorem dX11_thing_126 : decode cX11_thing 126 = .ok (.aload_n 0, 1) := by decide +kernel
theorem dX11_thing_127 : decode cX11_thing 127 = .ok (.getfield 39, 3) := by decide +kernel
theorem dX11_thing_130 : decode cX11_thing 130 = .ok (.getfield 169, 3) := by decide +kernel
theorem dX11_thing_133 : decode cX11_thing 133 = .ok (.iload_n 1, 1) := by decide +kernel
theorem dX11_thing_134 : decode cX11_thing 134 = .ok (.iaload, 1) := by decide +kernel
theorem dX11_thing_135 : decode cX11_thing 135 = .ok (.invokevirtual 181, 3) := by decide +kernel
theorem dX11_thing_138 : decode cX11_thing 138 = .ok (.i2l, 1) := by decide +kernel
theorem dX11_thing_139 : decode cX11_thing 139 = .ok (.lreturn, 1) := by decide +kernel
theorem dX11_thing_140 : decode cX11_thing 140 = .ok (.ldc2_w 73, 3) := by decide +kernel
theorem dX11_thing_143 : decode cX11_thing 143 = .ok (.lreturn, 1) := by decide +kernel
theorem dX11_judge_0 : decode cX11_judge 0 = .ok (.iload_n 1, 1) := by decide +kernel
theorem dX11_judge_1 : decode cX11_judge 1 = .ok (.invokestatic 69, 3) := by decide +kernel
theorem dX11_judge_4 : decode cX11_judge 4 = .ok (.ifCond .eq 7, 3) := by decide +kernel
theorem dX11_judge_7 : decode cX11_judge 7 = .ok (.ldc2_w 73, 3) := by decide +kernel
theorem dX11_judge_10 : decode cX11_judge 10 = .ok (.lreturn, 1) := by decide +kernel
theorem dX11_judge_11 : decode cX11_judge 11 = .ok (.aload_n 0, 1) := by decide +kernel
theorem dX11_judge_12 : decode cX11_judge 12 = .ok (.getfield 130, 3) := by decide +kernel
