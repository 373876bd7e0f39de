theorem dX0_init_0 : decode cX0_init 0 = .ok (.aload_n 0, 1) := by decide +kernel
theorem dX0_init_1 : decode cX0_init 1 = .ok (.iload_n 1, 1) := by decide +kernel
theorem dX0_init_2 : decode cX0_init 2 = .ok (.aload_n 2, 1) := by decide +kernel
theorem dX0_init_3 : decode cX0_init 3 = .ok (.aload_n 3, 1) := by decide +kernel
theorem dX0_init_4 : decode cX0_init 4 = .ok (.invokespecial 1, 3) := by decide +kernel
theorem dX0_init_7 : decode cX0_init 7 = .ok (.return_, 1) := by decide +kernel
theorem dX0_size_0 : decode cX0_size 0 = .ok (.aload_n 0, 1) := by decide +kernel
theorem dX0_size_1 : decode cX0_size 1 = .ok (.getfield 7, 3) := by decide +kernel
theorem dX0_size_4 : decode cX0_size 4 = .ok (.bipush 13, 2) := by decide +kernel
theorem dX0_size_6 : decode cX0_size 6 = .ok (.invokevirtual 13, 3) := by decide +kernel
theorem dX0_size_9 : decode cX0_size 9 = .ok (.aload_n 0, 1) := by decide +kernel
theorem dX0_size_10 : decode cX0_size 10 = .ok (.invokespecial 19, 3) := by decide +kernel
theorem dX0_size_13 : decode cX0_size 13 = .ok (.ldc2_w 23, 3) := by decide +kernel
theorem dX0_size_16 : decode cX0_size 16 = .ok (.lmul, 1) := by decide +kernel
theorem dX0_size_17 : decode cX0_size 17 = .ok (.lreturn, 1) := by decide +kernel
theorem dX0_mark_0 : decode cX0_mark 0 = .ok (.aload_n 0, 1) := by decide +kernel
theorem dX0_mark_1 : decode cX0_mark 1 = .ok (.getfield 7, 3) := by decide +kernel
theorem dX0_mark_4 : decode cX0_mark 4 = .ok (.bipush 23, 2) := by decide +kernel
theorem dX0_mark_6 : decode cX0_mark 6 = .ok (.invokevirtual 13, 3) := by decide +kernel
theorem dX0_mark_9 : decode cX0_mark 9 = .ok (.aload_n 0, 1) := by decide +kernel
theorem dX0_mark_10 : decode cX0_mark 10 = .ok (.invokespecial 25, 3) := by decide +kernel
theorem dX0_mark_13 : decode cX0_mark 13 = .ok (.ldc2_w 28, 3) := by decide +kernel
theorem dX0_mark_16 : decode cX0_mark 16 = .ok (.ladd, 1) := by decide +kernel
theorem dX0_mark_17 : decode cX0_mark 17 = .ok (.lreturn, 1) := by decide +kernel
theorem dX1_init_0 : decode cX1_init 0 = .ok (.aload_n 0, 1) := by decide +kernel
theorem dX1_init_1 : decode cX1_init 1 = .ok (.iload_n 1, 1) := by decide +kernel
theorem dX1_init_2 : decode cX1_init 2 = .ok (.aload_n 2, 1) := by decide +kernel
theorem dX1_init_3 : decode cX1_init 3 = .ok (.aload_n 3, 1) := by decide +kernel
theorem dX1_init_4 : decode cX1_init 4 = .ok (.invokespecial 1, 3) := by decide +kernel
theorem dX1_init_7 : decode cX1_init 7 = .ok (.return_, 1) := by decide +kernel
theorem dX1_size_0 : decode cX1_size 0 = .ok (.aload_n 0, 1) := by decide +kernel
theorem dX1_size_1 : decode cX1_size 1 = .ok (.getfield 7, 3) := by decide +kernel
theorem dX1_size_4 : decode cX1_size 4 = .ok (.bipush 14, 2) := by decide +kernel
theorem dX1_size_6 : decode cX1_size 6 = .ok (.invokevirtual 13, 3) := by decide +kernel
theorem dX1_size_9 : decode cX1_size 9 = .ok (.aload_n 0, 1) := by decide +kernel
theorem dX1_size_10 : decode cX1_size 10 = .ok (.invokespecial 19, 3) := by decide +kernel
theorem dX1_size_13 : decode cX1_size 13 = .ok (.ldc2_w 23, 3) := by decide +kernel
theorem dX1_size_16 : decode cX1_size 16 = .ok (.lmul, 1) := by decide +kernel
theorem dX1_size_17 : decode cX1_size 17 = .ok (.lreturn, 1) := by decide +kernel
theorem dX2_init_0 : decode cX2_init 0 = .ok (.aload_n 0, 1) := by decide +kernel
theorem dX2_init_1 : decode cX2_init 1 = .ok (.invokespecial 3, 3) := by decide +kernel
theorem dX2_init_4 : decode cX2_init 4 = .ok (.aload_n 0, 1) := by decide +kernel
theorem dX2_init_5 : decode cX2_init 5 = .ok (.new 9, 3) := by decide +kernel
theorem dX2_init_8 : decode cX2_init 8 = .ok (.dup, 1) := by decide +kernel
theorem dX2_init_9 : decode cX2_init 9 = .ok (.invokespecial 11, 3) := by decide +kernel
theorem dX2_init_12 : decode cX2_init 12 = .ok (.putfield 12, 3) := by decide +kernel
theorem dX2_init_15 : decode cX2_init 15 = .ok (.aload_n 0, 1) := by decide +kernel
theorem dX2_init_16 : decode cX2_init 16 = .ok (.iconst 5, 1) := by decide +kernel
theorem dX2_init_17 : decode cX2_init 17 = .ok (.newarray .int, 2) := by decide +kernel
theorem dX2_init_19 : decode cX2_init 19 = .ok (.putfield 18, 3) := by decide +kernel
theorem dX2_init_22 : decode cX2_init 22 = .ok (.aload_n 0, 1) := by decide +kernel
theorem dX2_init_23 : decode cX2_init 23 = .ok (.iconst 3, 1) := by decide +kernel
theorem dX2_init_24 : decode cX2_init 24 = .ok (.newarray .int, 2) := by decide +kernel
theorem dX2_init_26 : decode cX2_init 26 = .ok (.putfield 22, 3) := by decide +kernel
theorem dX2_init_29 : decode cX2_init 29 = .ok (.aload_n 0, 1) := by decide +kernel
theorem dX2_init_30 : decode cX2_init 30 = .ok (.bipush 10, 2) := by decide +kernel
theorem dX2_init_32 : decode cX2_init 32 = .ok (.newarray .int, 2) := by decide +kernel
theorem dX2_init_34 : decode cX2_init 34 = .ok (.putfield 25, 3) := by decide +kernel
theorem dX2_init_37 : decode cX2_init 37 = .ok (.aload_n 0, 1) := by decide +kernel
theorem dX2_init_38 : decode cX2_init 38 = .ok (.bipush 10, 2) := by decide +kernel
theorem dX2_init_40 : decode cX2_init 40 = .ok (.newarray .int, 2) := by decide +kernel
theorem dX2_init_42 : decode cX2_init 42 = .ok (.putfield 28, 3) := by decide +kernel
theorem dX2_init_45 : decode cX2_init 45 = .ok (.aload_n 0, 1) := by decide +kernel
theorem dX2_init_46 : decode cX2_init 46 = .ok (.bipush 10, 2) := by decide +kernel
theorem dX2_init_48 : decode cX2_init 48 = .ok (.newarray .int, 2) := by decide +kernel
theorem dX2_init_50 : decode cX2_init 50 = .ok (.putfield 31, 3) := by decide +kernel
theorem dX2_init_53 : decode cX2_init 53 = .ok (.aload_n 0, 1) := by decide +kernel
theorem dX2_init_54 : decode cX2_init 54 = .ok (.bipush 10, 2) := by decide +kernel
theorem dX2_init_56 : decode cX2_init 56 = .ok (.newarray .int, 2) := by decide +kernel
theorem dX2_init_58 : decode cX2_init 58 = .ok (.putfield 34, 3) := by decide +kernel
theorem dX2_init_61 : decode cX2_init 61 = .ok (.aload_n 0, 1) := by decide +kernel
theorem dX2_init_62 : decode cX2_init 62 = .ok (.bipush 10, 2) := by decide +kernel
theorem dX2_init_64 : decode cX2_init 64 = .ok (.newarray .int, 2) := by decide +kernel
theorem dX2_init_66 : decode cX2_init 66 = .ok (.putfield 37, 3) := by decide +kernel
theorem dX2_init_69 : decode cX2_init 69 = .ok (.aload_n 0, 1) := by decide +kernel
theorem dX2_init_70 : decode cX2_init 70 = .ok (.bipush 10, 2) := by decide +kernel
theorem dX2_init_72 : decode cX2_init 72 = .ok (.newarray .int, 2) := by decide +kernel
theorem dX2_init_74 : decode cX2_init 74 = .ok (.putfield 40, 3) := by decide +kernel
theorem dX2_init_77 : decode cX2_init 77 = .ok (.aload_n 0, 1) := by decide +kernel
theorem dX2_init_78 : decode cX2_init 78 = .ok (.bipush 10, 2) := by decide +kernel
theorem dX2_init_80 : decode cX2_init 80 = .ok (.newarray .int, 2) := by decide +kernel
theorem dX2_init_82 : decode cX2_init 82 = .ok (.putfield 43, 3) := by decide +kernel
theorem dX2_init_85 : decode cX2_init 85 = .ok (.aload_n 0, 1) := by decide +kernel
theorem dX2_init_86 : decode cX2_init 86 = .ok (.bipush 10, 2) := by decide +kernel
theorem dX2_init_88 : decode cX2_init 88 = .ok (.newarray .int, 2) := by decide +kernel
theorem dX2_init_90 : decode cX2_init 90 = .ok (.putfield 46, 3) := by decide +kernel
theorem dX2_init_93 : decode cX2_init 93 = .ok (.aload_n 0, 1) := by decide +kernel
theorem dX2_init_94 : decode cX2_init 94 = .ok (.bipush 50, 2) := by decide +kernel
theorem dX2_init_96 : decode cX2_init 96 = .ok (.newarray .int, 2) := by decide +kernel
theorem dX2_init_98 : decode cX2_init 98 = .ok (.putfield 49, 3) := by decide +kernel
theorem dX2_init_101 : decode cX2_init 101 = .ok (.aload_n 0, 1) := by decide +kernel
theorem dX2_init_102 : decode cX2_init 102 = .ok (.bipush 50, 2) := by decide +kernel
theorem dX2_init_104 : decode cX2_init 104 = .ok (.newarray .int, 2) := by decide +kernel
theorem dX2_init_106 : decode cX2_init 106 = .ok (.putfield 52, 3) := by decide +kernel
theorem dX2_init_109 : decode cX2_init 109 = .ok (.aload_n 0, 1) := by decide +kernel
theorem dX2_init_110 : decode cX2_init 110 = .ok (.bipush 50, 2) := by decide +kernel
theorem dX2_init_112 : decode cX2_init 112 = .ok (.newarray .int, 2) := by decide +kernel
theorem dX2_init_114 : decode cX2_init 114 = .ok (.putfield 55, 3) := by decide +kernel
theorem dX2_init_117 : decode cX2_init 117 = .ok (.aload_n 0, 1) := by decide +kernel
theorem dX2_init_118 : decode cX2_init 118 = .ok (.bipush 50, 2) := by decide +kernel
theorem dX2_init_120 : decode cX2_init 120 = .ok (.newarray .int, 2) := by decide +kernel
theorem dX2_init_122 : decode cX2_init 122 = .ok (.putfield 58, 3) := by decide +kernel
theorem dX2_init_125 : decode cX2_init 125 = .ok (.return_, 1) := by decide +kernel
theorem dX2_begin_0 : decode cX2_begin 0 = .ok (.aload_n 0, 1) := by decide +kernel
theorem dX2_begin_1 : decode cX2_begin 1 = .ok (.aload_n 1, 1) := by decide +kernel
theorem dX2_begin_2 : decode cX2_begin 2 = .ok (.putfield 12, 3) := by decide +kernel
theorem dX2_begin_5 : decode cX2_begin 5 = .ok (.aload_n 0, 1) := by decide +kernel
theorem dX2_begin_6 : decode cX2_begin 6 = .ok (.iconst 0, 1) := by decide +kernel
theorem dX2_begin_7 : decode cX2_begin 7 = .ok (.putfield 61, 3) := by decide +kernel
theorem dX2_begin_10 : decode cX2_begin 10 = .ok (.aload_n 0, 1) := by decide +kernel
theorem dX2_begin_11 : decode cX2_begin 11 = .ok (.iconst 0, 1) := by decide +kernel
theorem dX2_begin_12 : decode cX2_begin 12 = .ok (.putfield 65, 3) := by decide +kernel
theorem dX2_begin_15 : decode cX2_begin 15 = .ok (.aload_n 0, 1) := by decide +kernel
theorem dX2_begin_16 : decode cX2_begin 16 = .ok (.iconst 0, 1) := by decide +kernel
theorem dX2_begin_17 : decode cX2_begin 17 = .ok (.putfield 68, 3) := by decide +kernel
theorem dX2_begin_20 : decode cX2_begin 20 = .ok (.aload_n 0, 1) := by decide +kernel
theorem dX2_begin_21 : decode cX2_begin 21 = .ok (.getfield 18, 3) := by decide +kernel
theorem dX2_begin_24 : decode cX2_begin 24 = .ok (.ldc 71, 2) := by decide +kernel
theorem dX2_begin_26 : decode cX2_begin 26 = .ok (.invokestatic 72, 3) := by decide +kernel
theorem dX2_begin_29 : decode cX2_begin 29 = .ok (.aload_n 0, 1) := by decide +kernel
theorem dX2_begin_30 : decode cX2_begin 30 = .ok (.getfield 22, 3) := by decide +kernel
theorem dX2_begin_33 : decode cX2_begin 33 = .ok (.iconst 0, 1) := by decide +kernel
theorem dX2_begin_34 : decode cX2_begin 34 = .ok (.invokestatic 72, 3) := by decide +kernel
theorem dX2_begin_37 : decode cX2_begin 37 = .ok (.return_, 1) := by decide +kernel
theorem dX2_goThrough_0 : decode cX2_goThrough 0 = .ok (.iload_n 1, 1) := by decide +kernel
theorem dX2_goThrough_1 : decode cX2_goThrough 1 = .ok (.istore_n 3, 1) := by decide +kernel
theorem dX2_goThrough_2 : decode cX2_goThrough 2 = .ok (.iload_n 3, 1) := by decide +kernel
theorem dX2_goThrough_3 : decode cX2_goThrough 3 = .ok (.iload_n 2, 1) := by decide +kernel
theorem dX2_goThrough_4 : decode cX2_goThrough 4 = .ok (.if_icmp .ge 41, 3) := by decide +kernel
theorem dX2_goThrough_7 : decode cX2_goThrough 7 = .ok (.aload_n 0, 1) := by decide +kernel
theorem dX2_goThrough_8 : decode cX2_goThrough 8 = .ok (.iload_n 3, 1) := by decide +kernel
theorem dX2_goThrough_9 : decode cX2_goThrough 9 = .ok (.aload_n 0, 1) := by decide +kernel
theorem dX2_goThrough_10 : decode cX2_goThrough 10 = .ok (.getfield 12, 3) := by decide +kernel
theorem dX2_goThrough_13 : decode cX2_goThrough 13 = .ok (.getfield 78, 3) := by decide +kernel
theorem dX2_goThrough_16 : decode cX2_goThrough 16 = .ok (.iload_n 3, 1) := by decide +kernel
theorem dX2_goThrough_17 : decode cX2_goThrough 17 = .ok (.iaload, 1) := by decide +kernel
theorem dX2_goThrough_18 : decode cX2_goThrough 18 = .ok (.aload_n 0, 1) := by decide +kernel
theorem dX2_goThrough_19 : decode cX2_goThrough 19 = .ok (.getfield 12, 3) := by decide +kernel
theorem dX2_goThrough_22 : decode cX2_goThrough 22 = .ok (.getfield 81, 3) := by decide +kernel
theorem dX2_goThrough_25 : decode cX2_goThrough 25 = .ok (.iload_n 3, 1) := by decide +kernel
theorem dX2_goThrough_26 : decode cX2_goThrough 26 = .ok (.iaload, 1) := by decide +kernel
theorem dX2_goThrough_27 : decode cX2_goThrough 27 = .ok (.aload_n 0, 1) := by decide +kernel
theorem dX2_goThrough_28 : decode cX2_goThrough 28 = .ok (.getfield 12, 3) := by decide +kernel
theorem dX2_goThrough_31 : decode cX2_goThrough 31 = .ok (.getfield 84, 3) := by decide +kernel
theorem dX2_goThrough_34 : decode cX2_goThrough 34 = .ok (.iload_n 3, 1) := by decide +kernel
theorem dX2_goThrough_35 : decode cX2_goThrough 35 = .ok (.iaload, 1) := by decide +kernel
theorem dX2_goThrough_36 : decode cX2_goThrough 36 = .ok (.invokevirtual 87, 3) := by decide +kernel
theorem dX2_goThrough_39 : decode cX2_goThrough 39 = .ok (.iinc 3 1, 3) := by decide +kernel
theorem dX2_goThrough_42 : decode cX2_goThrough 42 = .ok (.goto (-40), 3) := by decide +kernel
theorem dX2_goThrough_45 : decode cX2_goThrough 45 = .ok (.return_, 1) := by decide +kernel
theorem dX2_goOn_0 : decode cX2_goOn 0 = .ok (.aload_n 0, 1) := by decide +kernel
theorem dX2_goOn_1 : decode cX2_goOn 1 = .ok (.getfield 12, 3) := by decide +kernel
theorem dX2_goOn_4 : decode cX2_goOn 4 = .ok (.getfield 91, 3) := by decide +kernel
theorem dX2_goOn_7 : decode cX2_goOn 7 = .ok (.iload_n 1, 1) := by decide +kernel
theorem dX2_goOn_8 : decode cX2_goOn 8 = .ok (.iaload, 1) := by decide +kernel
theorem dX2_goOn_9 : decode cX2_goOn 9 = .ok (.tableswitch 157 0 5 #[39, 51, 103, 125, 135, 148], 39) := by decide +kernel
theorem dX2_goOn_48 : decode cX2_goOn 48 = .ok (.aload_n 0, 1) := by decide +kernel
theorem dX2_goOn_49 : decode cX2_goOn 49 = .ok (.iload_n 1, 1) := by decide +kernel
theorem dX2_goOn_50 : decode cX2_goOn 50 = .ok (.iload 4, 2) := by decide +kernel
theorem dX2_goOn_52 : decode cX2_goOn 52 = .ok (.iload 4, 2) := by decide +kernel
theorem dX2_goOn_54 : decode cX2_goOn 54 = .ok (.invokevirtual 94, 3) := by decide +kernel
theorem dX2_goOn_57 : decode cX2_goOn 57 = .ok (.goto 116, 3) := by decide +kernel
theorem dX2_goOn_60 : decode cX2_goOn 60 = .ok (.aload_n 0, 1) := by decide +kernel
theorem dX2_goOn_61 : decode cX2_goOn 61 = .ok (.iload_n 1, 1) := by decide +kernel
theorem dX2_goOn_62 : decode cX2_goOn 62 = .ok (.iconst 0, 1) := by decide +kernel
theorem dX2_goOn_63 : decode cX2_goOn 63 = .ok (.iload_n 2, 1) := by decide +kernel
theorem dX2_goOn_64 : decode cX2_goOn 64 = .ok (.iload_n 3, 1) := by decide +kernel
theorem dX2_goOn_65 : decode cX2_goOn 65 = .ok (.iadd, 1) := by decide +kernel
theorem dX2_goOn_66 : decode cX2_goOn 66 = .ok (.iload 4, 2) := by decide +kernel
theorem dX2_goOn_68 : decode cX2_goOn 68 = .ok (.iadd, 1) := by decide +kernel
theorem dX2_goOn_69 : decode cX2_goOn 69 = .ok (.invokevirtual 94, 3) := by decide +kernel
theorem dX2_goOn_72 : decode cX2_goOn 72 = .ok (.aload_n 0, 1) := by decide +kernel
theorem dX2_goOn_73 : decode cX2_goOn 73 = .ok (.aload_n 0, 1) := by decide +kernel
theorem dX2_goOn_74 : decode cX2_goOn 74 = .ok (.getfield 65, 3) := by decide +kernel
theorem dX2_goOn_77 : decode cX2_goOn 77 = .ok (.iconst 1, 1) := by decide +kernel
theorem dX2_goOn_78 : decode cX2_goOn 78 = .ok (.isub, 1) := by decide +kernel
theorem dX2_goOn_79 : decode cX2_goOn 79 = .ok (.iconst 0, 1) := by decide +kernel
theorem dX2_goOn_80 : decode cX2_goOn 80 = .ok (.iload_n 2, 1) := by decide +kernel
theorem dX2_goOn_81 : decode cX2_goOn 81 = .ok (.invokevirtual 98, 3) := by decide +kernel
theorem dX2_goOn_84 : decode cX2_goOn 84 = .ok (.aload_n 0, 1) := by decide +kernel
theorem dX2_goOn_85 : decode cX2_goOn 85 = .ok (.aload_n 0, 1) := by decide +kernel
theorem dX2_goOn_86 : decode cX2_goOn 86 = .ok (.getfield 65, 3) := by decide +kernel
theorem dX2_goOn_89 : decode cX2_goOn 89 = .ok (.iconst 1, 1) := by decide +kernel
theorem dX2_goOn_90 : decode cX2_goOn 90 = .ok (.isub, 1) := by decide +kernel
theorem dX2_goOn_91 : decode cX2_goOn 91 = .ok (.iconst 1, 1) := by decide +kernel
theorem dX2_goOn_92 : decode cX2_goOn 92 = .ok (.iload_n 3, 1) := by decide +kernel
theorem dX2_goOn_93 : decode cX2_goOn 93 = .ok (.invokevirtual 98, 3) := by decide +kernel
theorem dX2_goOn_96 : decode cX2_goOn 96 = .ok (.aload_n 0, 1) := by decide +kernel
theorem dX2_goOn_97 : decode cX2_goOn 97 = .ok (.aload_n 0, 1) := by decide +kernel
theorem dX2_goOn_98 : decode cX2_goOn 98 = .ok (.getfield 65, 3) := by decide +kernel
theorem dX2_goOn_101 : decode cX2_goOn 101 = .ok (.iconst 1, 1) := by decide +kernel
theorem dX2_goOn_102 : decode cX2_goOn 102 = .ok (.isub, 1) := by decide +kernel
theorem dX2_goOn_103 : decode cX2_goOn 103 = .ok (.iconst 2, 1) := by decide +kernel
theorem dX2_goOn_104 : decode cX2_goOn 104 = .ok (.iload 4, 2) := by decide +kernel
theorem dX2_goOn_106 : decode cX2_goOn 106 = .ok (.invokevirtual 98, 3) := by decide +kernel
theorem dX2_goOn_109 : decode cX2_goOn 109 = .ok (.goto 64, 3) := by decide +kernel
theorem dX2_goOn_112 : decode cX2_goOn 112 = .ok (.aload_n 0, 1) := by decide +kernel
theorem dX2_goOn_113 : decode cX2_goOn 113 = .ok (.getfield 43, 3) := by decide +kernel
theorem dX2_goOn_116 : decode cX2_goOn 116 = .ok (.iload_n 2, 1) := by decide +kernel
theorem dX2_goOn_117 : decode cX2_goOn 117 = .ok (.dup2, 1) := by decide +kernel
theorem dX2_goOn_118 : decode cX2_goOn 118 = .ok (.iaload, 1) := by decide +kernel
theorem dX2_goOn_119 : decode cX2_goOn 119 = .ok (.iload 4, 2) := by decide +kernel
theorem dX2_goOn_121 : decode cX2_goOn 121 = .ok (.iadd, 1) := by decide +kernel
theorem dX2_goOn_122 : decode cX2_goOn 122 = .ok (.iastore, 1) := by decide +kernel
theorem dX2_goOn_123 : decode cX2_goOn 123 = .ok (.aload_n 0, 1) := by decide +kernel
theorem dX2_goOn_124 : decode cX2_goOn 124 = .ok (.iload_n 2, 1) := by decide +kernel
theorem dX2_goOn_125 : decode cX2_goOn 125 = .ok (.iload_n 3, 1) := by decide +kernel
theorem dX2_goOn_126 : decode cX2_goOn 126 = .ok (.iload 4, 2) := by decide +kernel
theorem dX2_goOn_128 : decode cX2_goOn 128 = .ok (.invokevirtual 98, 3) := by decide +kernel
theorem dX2_goOn_131 : decode cX2_goOn 131 = .ok (.goto 42, 3) := by decide +kernel
theorem dX2_goOn_134 : decode cX2_goOn 134 = .ok (.aload_n 0, 1) := by decide +kernel
theorem dX2_goOn_135 : decode cX2_goOn 135 = .ok (.getfield 43, 3) := by decide +kernel
theorem dX2_goOn_138 : decode cX2_goOn 138 = .ok (.iload_n 2, 1) := by decide +kernel
theorem dX2_goOn_139 : decode cX2_goOn 139 = .ok (.iload_n 3, 1) := by decide +kernel
theorem dX2_goOn_140 : decode cX2_goOn 140 = .ok (.iastore, 1) := by decide +kernel
theorem dX2_goOn_141 : decode cX2_goOn 141 = .ok (.goto 32, 3) := by decide +kernel
theorem dX2_goOn_144 : decode cX2_goOn 144 = .ok (.aload_n 0, 1) := by decide +kernel
theorem dX2_goOn_145 : decode cX2_goOn 145 = .ok (.getfield 22, 3) := by decide +kernel
theorem dX2_goOn_148 : decode cX2_goOn 148 = .ok (.iload_n 2, 1) := by decide +kernel
theorem dX2_goOn_149 : decode cX2_goOn 149 = .ok (.dup2, 1) := by decide +kernel
theorem dX2_goOn_150 : decode cX2_goOn 150 = .ok (.iaload, 1) := by decide +kernel
theorem dX2_goOn_151 : decode cX2_goOn 151 = .ok (.iload_n 3, 1) := by decide +kernel
theorem dX2_goOn_152 : decode cX2_goOn 152 = .ok (.iadd, 1) := by decide +kernel
theorem dX2_goOn_153 : decode cX2_goOn 153 = .ok (.iastore, 1) := by decide +kernel
theorem dX2_goOn_154 : decode cX2_goOn 154 = .ok (.goto 19, 3) := by decide +kernel
theorem dX2_goOn_157 : decode cX2_goOn 157 = .ok (.aload_n 0, 1) := by decide +kernel
theorem dX2_goOn_158 : decode cX2_goOn 158 = .ok (.iload_n 2, 1) := by decide +kernel
theorem dX2_goOn_159 : decode cX2_goOn 159 = .ok (.iload_n 1, 1) := by decide +kernel
theorem dX2_goOn_160 : decode cX2_goOn 160 = .ok (.invokevirtual 101, 3) := by decide +kernel
theorem dX2_goOn_163 : decode cX2_goOn 163 = .ok (.goto 10, 3) := by decide +kernel
theorem dX2_goOn_166 : decode cX2_goOn 166 = .ok (.aload_n 0, 1) := by decide +kernel
theorem dX2_goOn_167 : decode cX2_goOn 167 = .ok (.getfield 18, 3) := by decide +kernel
theorem dX2_goOn_170 : decode cX2_goOn 170 = .ok (.iload_n 2, 1) := by decide +kernel
theorem dX2_goOn_171 : decode cX2_goOn 171 = .ok (.iload_n 3, 1) := by decide +kernel
theorem dX2_goOn_172 : decode cX2_goOn 172 = .ok (.iastore, 1) := by decide +kernel
theorem dX2_goOn_173 : decode cX2_goOn 173 = .ok (.return_, 1) := by decide +kernel
theorem dX2_moveTo_0 : decode cX2_moveTo 0 = .ok (.aload_n 0, 1) := by decide +kernel
theorem dX2_moveTo_1 : decode cX2_moveTo 1 = .ok (.iload_n 1, 1) := by decide +kernel
theorem dX2_moveTo_2 : decode cX2_moveTo 2 = .ok (.putfield 61, 3) := by decide +kernel
theorem dX2_moveTo_5 : decode cX2_moveTo 5 = .ok (.aload_n 0, 1) := by decide +kernel
theorem dX2_moveTo_6 : decode cX2_moveTo 6 = .ok (.getfield 12, 3) := by decide +kernel
theorem dX2_moveTo_9 : decode cX2_moveTo 9 = .ok (.iload_n 1, 1) := by decide +kernel
theorem dX2_moveTo_10 : decode cX2_moveTo 10 = .ok (.invokevirtual 105, 3) := by decide +kernel
theorem dX2_moveTo_13 : decode cX2_moveTo 13 = .ok (.ifCond .eq 26, 3) := by decide +kernel
theorem dX2_moveTo_16 : decode cX2_moveTo 16 = .ok (.iconst 0, 1) := by decide +kernel
theorem dX2_moveTo_17 : decode cX2_moveTo 17 = .ok (.istore_n 3, 1) := by decide +kernel
theorem dX2_moveTo_18 : decode cX2_moveTo 18 = .ok (.iload_n 3, 1) := by decide +kernel
theorem dX2_moveTo_19 : decode cX2_moveTo 19 = .ok (.aload_n 0, 1) := by decide +kernel
theorem dX2_moveTo_20 : decode cX2_moveTo 20 = .ok (.getfield 65, 3) := by decide +kernel
theorem dX2_moveTo_23 : decode cX2_moveTo 23 = .ok (.if_icmp .ge 16, 3) := by decide +kernel
theorem dX2_moveTo_26 : decode cX2_moveTo 26 = .ok (.aload_n 0, 1) := by decide +kernel
theorem dX2_moveTo_27 : decode cX2_moveTo 27 = .ok (.iload_n 3, 1) := by decide +kernel
theorem dX2_moveTo_28 : decode cX2_moveTo 28 = .ok (.iload_n 2, 1) := by decide +kernel
theorem dX2_moveTo_29 : decode cX2_moveTo 29 = .ok (.iconst 2, 1) := by decide +kernel
theorem dX2_moveTo_30 : decode cX2_moveTo 30 = .ok (.invokevirtual 109, 3) := by decide +kernel
theorem dX2_moveTo_33 : decode cX2_moveTo 33 = .ok (.iinc 3 1, 3) := by decide +kernel
theorem dX2_moveTo_36 : decode cX2_moveTo 36 = .ok (.goto (-18), 3) := by decide +kernel
theorem dX2_moveTo_39 : decode cX2_moveTo 39 = .ok (.return_, 1) := by decide +kernel
theorem dX2_takeIn_0 : decode cX2_takeIn 0 = .ok (.aload_n 0, 1) := by decide +kernel
theorem dX2_takeIn_1 : decode cX2_takeIn 1 = .ok (.getfield 65, 3) := by decide +kernel
theorem dX2_takeIn_4 : decode cX2_takeIn 4 = .ok (.bipush 10, 2) := by decide +kernel
theorem dX2_takeIn_6 : decode cX2_takeIn 6 = .ok (.if_icmp .lt 4, 3) := by decide +kernel
theorem dX2_takeIn_9 : decode cX2_takeIn 9 = .ok (.return_, 1) := by decide +kernel
theorem dX2_takeIn_10 : decode cX2_takeIn 10 = .ok (.aload_n 0, 1) := by decide +kernel
theorem dX2_takeIn_11 : decode cX2_takeIn 11 = .ok (.getfield 65, 3) := by decide +kernel
theorem dX2_takeIn_14 : decode cX2_takeIn 14 = .ok (.istore 4, 2) := by decide +kernel
theorem dX2_takeIn_16 : decode cX2_takeIn 16 = .ok (.aload_n 0, 1) := by decide +kernel
theorem dX2_takeIn_17 : decode cX2_takeIn 17 = .ok (.dup, 1) := by decide +kernel
theorem dX2_takeIn_18 : decode cX2_takeIn 18 = .ok (.getfield 65, 3) := by decide +kernel
theorem dX2_takeIn_21 : decode cX2_takeIn 21 = .ok (.iconst 1, 1) := by decide +kernel
theorem dX2_takeIn_22 : decode cX2_takeIn 22 = .ok (.iadd, 1) := by decide +kernel
theorem dX2_takeIn_23 : decode cX2_takeIn 23 = .ok (.putfield 65, 3) := by decide +kernel
theorem dX2_takeIn_26 : decode cX2_takeIn 26 = .ok (.aload_n 0, 1) := by decide +kernel
theorem dX2_takeIn_27 : decode cX2_takeIn 27 = .ok (.getfield 25, 3) := by decide +kernel
theorem dX2_takeIn_30 : decode cX2_takeIn 30 = .ok (.iload 4, 2) := by decide +kernel
theorem dX2_takeIn_32 : decode cX2_takeIn 32 = .ok (.iload_n 1, 1) := by decide +kernel
theorem dX2_takeIn_33 : decode cX2_takeIn 33 = .ok (.iastore, 1) := by decide +kernel
theorem dX2_takeIn_34 : decode cX2_takeIn 34 = .ok (.aload_n 0, 1) := by decide +kernel
theorem dX2_takeIn_35 : decode cX2_takeIn 35 = .ok (.getfield 28, 3) := by decide +kernel
theorem dX2_takeIn_38 : decode cX2_takeIn 38 = .ok (.iload 4, 2) := by decide +kernel
theorem dX2_takeIn_40 : decode cX2_takeIn 40 = .ok (.iload_n 2, 1) := by decide +kernel
theorem dX2_takeIn_41 : decode cX2_takeIn 41 = .ok (.iastore, 1) := by decide +kernel
theorem dX2_takeIn_42 : decode cX2_takeIn 42 = .ok (.aload_n 0, 1) := by decide +kernel
theorem dX2_takeIn_43 : decode cX2_takeIn 43 = .ok (.getfield 43, 3) := by decide +kernel
theorem dX2_takeIn_46 : decode cX2_takeIn 46 = .ok (.iload 4, 2) := by decide +kernel
theorem dX2_takeIn_48 : decode cX2_takeIn 48 = .ok (.iload_n 3, 1) := by decide +kernel
theorem dX2_takeIn_49 : decode cX2_takeIn 49 = .ok (.iastore, 1) := by decide +kernel
theorem dX2_takeIn_50 : decode cX2_takeIn 50 = .ok (.aload_n 0, 1) := by decide +kernel
theorem dX2_takeIn_51 : decode cX2_takeIn 51 = .ok (.getfield 46, 3) := by decide +kernel
theorem dX2_takeIn_54 : decode cX2_takeIn 54 = .ok (.iload 4, 2) := by decide +kernel
theorem dX2_takeIn_56 : decode cX2_takeIn 56 = .ok (.iconst 0, 1) := by decide +kernel
theorem dX2_takeIn_57 : decode cX2_takeIn 57 = .ok (.iastore, 1) := by decide +kernel
theorem dX2_takeIn_58 : decode cX2_takeIn 58 = .ok (.aload_n 0, 1) := by decide +kernel
theorem dX2_takeIn_59 : decode cX2_takeIn 59 = .ok (.iload 4, 2) := by decide +kernel
theorem dX2_takeIn_61 : decode cX2_takeIn 61 = .ok (.iload_n 1, 1) := by decide +kernel
theorem dX2_takeIn_62 : decode cX2_takeIn 62 = .ok (.iconst 0, 1) := by decide +kernel
theorem dX2_takeIn_63 : decode cX2_takeIn 63 = .ok (.invokevirtual 109, 3) := by decide +kernel
theorem dX2_takeIn_66 : decode cX2_takeIn 66 = .ok (.aload_n 0, 1) := by decide +kernel
theorem dX2_takeIn_67 : decode cX2_takeIn 67 = .ok (.getfield 31, 3) := by decide +kernel
theorem dX2_takeIn_70 : decode cX2_takeIn 70 = .ok (.iload 4, 2) := by decide +kernel
theorem dX2_takeIn_72 : decode cX2_takeIn 72 = .ok (.aload_n 0, 1) := by decide +kernel
theorem dX2_takeIn_73 : decode cX2_takeIn 73 = .ok (.getfield 34, 3) := by decide +kernel
theorem dX2_takeIn_76 : decode cX2_takeIn 76 = .ok (.iload 4, 2) := by decide +kernel
theorem dX2_takeIn_78 : decode cX2_takeIn 78 = .ok (.iaload, 1) := by decide +kernel
theorem dX2_takeIn_79 : decode cX2_takeIn 79 = .ok (.iastore, 1) := by decide +kernel
theorem dX2_takeIn_80 : decode cX2_takeIn 80 = .ok (.return_, 1) := by decide +kernel
theorem dX2_fall_0 : decode cX2_fall 0 = .ok (.aload_n 0, 1) := by decide +kernel
theorem dX2_fall_1 : decode cX2_fall 1 = .ok (.getfield 25, 3) := by decide +kernel
theorem dX2_fall_4 : decode cX2_fall 4 = .ok (.iload_n 1, 1) := by decide +kernel
theorem dX2_fall_5 : decode cX2_fall 5 = .ok (.iaload, 1) := by decide +kernel
theorem dX2_fall_6 : decode cX2_fall 6 = .ok (.istore 4, 2) := by decide +kernel
theorem dX2_fall_8 : decode cX2_fall 8 = .ok (.aload_n 0, 1) := by decide +kernel
theorem dX2_fall_9 : decode cX2_fall 9 = .ok (.getfield 12, 3) := by decide +kernel
theorem dX2_fall_12 : decode cX2_fall 12 = .ok (.iload 4, 2) := by decide +kernel
theorem dX2_fall_14 : decode cX2_fall 14 = .ok (.invokevirtual 112, 3) := by decide +kernel
theorem dX2_fall_17 : decode cX2_fall 17 = .ok (.istore 5, 2) := by decide +kernel
theorem dX2_fall_19 : decode cX2_fall 19 = .ok (.aload_n 0, 1) := by decide +kernel
theorem dX2_fall_20 : decode cX2_fall 20 = .ok (.getfield 40, 3) := by decide +kernel
theorem dX2_fall_23 : decode cX2_fall 23 = .ok (.iload_n 1, 1) := by decide +kernel
theorem dX2_fall_24 : decode cX2_fall 24 = .ok (.iload_n 2, 1) := by decide +kernel
theorem dX2_fall_25 : decode cX2_fall 25 = .ok (.iastore, 1) := by decide +kernel
theorem dX2_fall_26 : decode cX2_fall 26 = .ok (.aload_n 0, 1) := by decide +kernel
theorem dX2_fall_27 : decode cX2_fall 27 = .ok (.getfield 18, 3) := by decide +kernel
theorem dX2_fall_30 : decode cX2_fall 30 = .ok (.iload 5, 2) := by decide +kernel
theorem dX2_fall_32 : decode cX2_fall 32 = .ok (.iaload, 1) := by decide +kernel
theorem dX2_fall_33 : decode cX2_fall 33 = .ok (.ldc 71, 2) := by decide +kernel
theorem dX2_fall_35 : decode cX2_fall 35 = .ok (.if_icmp .eq 24, 3) := by decide +kernel
theorem dX2_fall_38 : decode cX2_fall 38 = .ok (.aload_n 0, 1) := by decide +kernel
theorem dX2_fall_39 : decode cX2_fall 39 = .ok (.getfield 34, 3) := by decide +kernel
theorem dX2_fall_42 : decode cX2_fall 42 = .ok (.iload_n 1, 1) := by decide +kernel
theorem dX2_fall_43 : decode cX2_fall 43 = .ok (.aload_n 0, 1) := by decide +kernel
theorem dX2_fall_44 : decode cX2_fall 44 = .ok (.getfield 18, 3) := by decide +kernel
theorem dX2_fall_47 : decode cX2_fall 47 = .ok (.iload 5, 2) := by decide +kernel
theorem dX2_fall_49 : decode cX2_fall 49 = .ok (.iaload, 1) := by decide +kernel
theorem dX2_fall_50 : decode cX2_fall 50 = .ok (.iastore, 1) := by decide +kernel
theorem dX2_fall_51 : decode cX2_fall 51 = .ok (.aload_n 0, 1) := by decide +kernel
theorem dX2_fall_52 : decode cX2_fall 52 = .ok (.getfield 37, 3) := by decide +kernel
theorem dX2_fall_55 : decode cX2_fall 55 = .ok (.iload_n 1, 1) := by decide +kernel
theorem dX2_fall_56 : decode cX2_fall 56 = .ok (.iconst 1, 1) := by decide +kernel
theorem dX2_fall_57 : decode cX2_fall 57 = .ok (.iastore, 1) := by decide +kernel
theorem dX2_fall_58 : decode cX2_fall 58 = .ok (.return_, 1) := by decide +kernel
theorem dX2_fall_59 : decode cX2_fall 59 = .ok (.aload_n 0, 1) := by decide +kernel
theorem dX2_fall_60 : decode cX2_fall 60 = .ok (.getfield 34, 3) := by decide +kernel
theorem dX2_fall_63 : decode cX2_fall 63 = .ok (.iload_n 1, 1) := by decide +kernel
theorem dX2_fall_64 : decode cX2_fall 64 = .ok (.iload 5, 2) := by decide +kernel
theorem dX2_fall_66 : decode cX2_fall 66 = .ok (.iconst 4, 1) := by decide +kernel
theorem dX2_fall_67 : decode cX2_fall 67 = .ok (.if_icmp .ne 19, 3) := by decide +kernel
theorem dX2_fall_70 : decode cX2_fall 70 = .ok (.aload_n 0, 1) := by decide +kernel
theorem dX2_fall_71 : decode cX2_fall 71 = .ok (.getfield 12, 3) := by decide +kernel
theorem dX2_fall_74 : decode cX2_fall 74 = .ok (.aload_n 0, 1) := by decide +kernel
theorem dX2_fall_75 : decode cX2_fall 75 = .ok (.getfield 61, 3) := by decide +kernel
theorem dX2_fall_78 : decode cX2_fall 78 = .ok (.iload 4, 2) := by decide +kernel
theorem dX2_fall_80 : decode cX2_fall 80 = .ok (.invokevirtual 116, 3) := by decide +kernel
theorem dX2_fall_83 : decode cX2_fall 83 = .ok (.goto 16, 3) := by decide +kernel
theorem dX2_fall_86 : decode cX2_fall 86 = .ok (.aload_n 0, 1) := by decide +kernel
theorem dX2_fall_87 : decode cX2_fall 87 = .ok (.getfield 12, 3) := by decide +kernel
theorem dX2_fall_90 : decode cX2_fall 90 = .ok (.aload_n 0, 1) := by decide +kernel
theorem dX2_fall_91 : decode cX2_fall 91 = .ok (.getfield 61, 3) := by decide +kernel
theorem dX2_fall_94 : decode cX2_fall 94 = .ok (.iload 4, 2) := by decide +kernel
theorem dX2_fall_96 : decode cX2_fall 96 = .ok (.invokevirtual 120, 3) := by decide +kernel
theorem dX2_fall_99 : decode cX2_fall 99 = .ok (.iastore, 1) := by decide +kernel
theorem dX2_fall_100 : decode cX2_fall 100 = .ok (.aload_n 0, 1) := by decide +kernel
theorem dX2_fall_101 : decode cX2_fall 101 = .ok (.getfield 37, 3) := by decide +kernel
theorem dX2_fall_104 : decode cX2_fall 104 = .ok (.iload_n 1, 1) := by decide +kernel
theorem dX2_fall_105 : decode cX2_fall 105 = .ok (.iload_n 3, 1) := by decide +kernel
theorem dX2_fall_106 : decode cX2_fall 106 = .ok (.iastore, 1) := by decide +kernel
theorem dX2_fall_107 : decode cX2_fall 107 = .ok (.return_, 1) := by decide +kernel
theorem dX2_notePut_0 : decode cX2_notePut 0 = .ok (.iload_n 3, 1) := by decide +kernel
theorem dX2_notePut_1 : decode cX2_notePut 1 = .ok (.ifCond .le 16, 3) := by decide +kernel
theorem dX2_notePut_4 : decode cX2_notePut 4 = .ok (.iload_n 1, 1) := by decide +kernel
theorem dX2_notePut_5 : decode cX2_notePut 5 = .ok (.ifCond .lt 12, 3) := by decide +kernel
theorem dX2_notePut_8 : decode cX2_notePut 8 = .ok (.aload_n 0, 1) := by decide +kernel
theorem dX2_notePut_9 : decode cX2_notePut 9 = .ok (.getfield 68, 3) := by decide +kernel
theorem dX2_notePut_12 : decode cX2_notePut 12 = .ok (.bipush 50, 2) := by decide +kernel
theorem dX2_notePut_14 : decode cX2_notePut 14 = .ok (.if_icmp .lt 4, 3) := by decide +kernel
theorem dX2_notePut_17 : decode cX2_notePut 17 = .ok (.return_, 1) := by decide +kernel
theorem dX2_notePut_18 : decode cX2_notePut 18 = .ok (.aload_n 0, 1) := by decide +kernel
theorem dX2_notePut_19 : decode cX2_notePut 19 = .ok (.getfield 49, 3) := by decide +kernel
theorem dX2_notePut_22 : decode cX2_notePut 22 = .ok (.aload_n 0, 1) := by decide +kernel
theorem dX2_notePut_23 : decode cX2_notePut 23 = .ok (.getfield 68, 3) := by decide +kernel
theorem dX2_notePut_26 : decode cX2_notePut 26 = .ok (.iload_n 1, 1) := by decide +kernel
theorem dX2_notePut_27 : decode cX2_notePut 27 = .ok (.iastore, 1) := by decide +kernel
theorem dX2_notePut_28 : decode cX2_notePut 28 = .ok (.aload_n 0, 1) := by decide +kernel
theorem dX2_notePut_29 : decode cX2_notePut 29 = .ok (.getfield 52, 3) := by decide +kernel
theorem dX2_notePut_32 : decode cX2_notePut 32 = .ok (.aload_n 0, 1) := by decide +kernel
theorem dX2_notePut_33 : decode cX2_notePut 33 = .ok (.getfield 68, 3) := by decide +kernel
theorem dX2_notePut_36 : decode cX2_notePut 36 = .ok (.iload_n 2, 1) := by decide +kernel
theorem dX2_notePut_37 : decode cX2_notePut 37 = .ok (.iastore, 1) := by decide +kernel
theorem dX2_notePut_38 : decode cX2_notePut 38 = .ok (.aload_n 0, 1) := by decide +kernel
theorem dX2_notePut_39 : decode cX2_notePut 39 = .ok (.getfield 55, 3) := by decide +kernel
theorem dX2_notePut_42 : decode cX2_notePut 42 = .ok (.aload_n 0, 1) := by decide +kernel
theorem dX2_notePut_43 : decode cX2_notePut 43 = .ok (.getfield 68, 3) := by decide +kernel
theorem dX2_notePut_46 : decode cX2_notePut 46 = .ok (.iload_n 3, 1) := by decide +kernel
theorem dX2_notePut_47 : decode cX2_notePut 47 = .ok (.iastore, 1) := by decide +kernel
theorem dX2_notePut_48 : decode cX2_notePut 48 = .ok (.aload_n 0, 1) := by decide +kernel
theorem dX2_notePut_49 : decode cX2_notePut 49 = .ok (.getfield 58, 3) := by decide +kernel
theorem dX2_notePut_52 : decode cX2_notePut 52 = .ok (.aload_n 0, 1) := by decide +kernel
theorem dX2_notePut_53 : decode cX2_notePut 53 = .ok (.getfield 68, 3) := by decide +kernel
theorem dX2_notePut_56 : decode cX2_notePut 56 = .ok (.aload_n 0, 1) := by decide +kernel
theorem dX2_notePut_57 : decode cX2_notePut 57 = .ok (.getfield 43, 3) := by decide +kernel
theorem dX2_notePut_60 : decode cX2_notePut 60 = .ok (.iload_n 1, 1) := by decide +kernel
theorem dX2_notePut_61 : decode cX2_notePut 61 = .ok (.iaload, 1) := by decide +kernel
theorem dX2_notePut_62 : decode cX2_notePut 62 = .ok (.iastore, 1) := by decide +kernel
theorem dX2_notePut_63 : decode cX2_notePut 63 = .ok (.aload_n 0, 1) := by decide +kernel
theorem dX2_notePut_64 : decode cX2_notePut 64 = .ok (.dup, 1) := by decide +kernel
theorem dX2_notePut_65 : decode cX2_notePut 65 = .ok (.getfield 68, 3) := by decide +kernel
theorem dX2_notePut_68 : decode cX2_notePut 68 = .ok (.iconst 1, 1) := by decide +kernel
theorem dX2_notePut_69 : decode cX2_notePut 69 = .ok (.iadd, 1) := by decide +kernel
theorem dX2_notePut_70 : decode cX2_notePut 70 = .ok (.putfield 68, 3) := by decide +kernel
theorem dX2_notePut_73 : decode cX2_notePut 73 = .ok (.aload_n 0, 1) := by decide +kernel
theorem dX2_notePut_74 : decode cX2_notePut 74 = .ok (.getfield 46, 3) := by decide +kernel
theorem dX2_notePut_77 : decode cX2_notePut 77 = .ok (.iload_n 1, 1) := by decide +kernel
theorem dX2_notePut_78 : decode cX2_notePut 78 = .ok (.dup2, 1) := by decide +kernel
theorem dX2_notePut_79 : decode cX2_notePut 79 = .ok (.iaload, 1) := by decide +kernel
theorem dX2_notePut_80 : decode cX2_notePut 80 = .ok (.iconst 1, 1) := by decide +kernel
theorem dX2_notePut_81 : decode cX2_notePut 81 = .ok (.iadd, 1) := by decide +kernel
theorem dX2_notePut_82 : decode cX2_notePut 82 = .ok (.iastore, 1) := by decide +kernel
theorem dX2_notePut_83 : decode cX2_notePut 83 = .ok (.return_, 1) := by decide +kernel
theorem dX2_isFedByAnother_0 : decode cX2_isFedByAnother 0 = .ok (.iconst 0, 1) := by decide +kernel
theorem dX2_isFedByAnother_1 : decode cX2_isFedByAnother 1 = .ok (.istore_n 2, 1) := by decide +kernel
theorem dX2_isFedByAnother_2 : decode cX2_isFedByAnother 2 = .ok (.iload_n 2, 1) := by decide +kernel
theorem dX2_isFedByAnother_3 : decode cX2_isFedByAnother 3 = .ok (.aload_n 0, 1) := by decide +kernel
theorem dX2_isFedByAnother_4 : decode cX2_isFedByAnother 4 = .ok (.getfield 68, 3) := by decide +kernel
theorem dX2_isFedByAnother_7 : decode cX2_isFedByAnother 7 = .ok (.if_icmp .ge 36, 3) := by decide +kernel
theorem dX2_isFedByAnother_10 : decode cX2_isFedByAnother 10 = .ok (.aload_n 0, 1) := by decide +kernel
theorem dX2_isFedByAnother_11 : decode cX2_isFedByAnother 11 = .ok (.getfield 49, 3) := by decide +kernel
theorem dX2_isFedByAnother_14 : decode cX2_isFedByAnother 14 = .ok (.iload_n 2, 1) := by decide +kernel
theorem dX2_isFedByAnother_15 : decode cX2_isFedByAnother 15 = .ok (.iaload, 1) := by decide +kernel
theorem dX2_isFedByAnother_16 : decode cX2_isFedByAnother 16 = .ok (.iload_n 1, 1) := by decide +kernel
theorem dX2_isFedByAnother_17 : decode cX2_isFedByAnother 17 = .ok (.if_icmp .ne 20, 3) := by decide +kernel
theorem dX2_isFedByAnother_20 : decode cX2_isFedByAnother 20 = .ok (.aload_n 0, 1) := by decide +kernel
theorem dX2_isFedByAnother_21 : decode cX2_isFedByAnother 21 = .ok (.getfield 52, 3) := by decide +kernel
theorem dX2_isFedByAnother_24 : decode cX2_isFedByAnother 24 = .ok (.iload_n 2, 1) := by decide +kernel
theorem dX2_isFedByAnother_25 : decode cX2_isFedByAnother 25 = .ok (.iaload, 1) := by decide +kernel
theorem dX2_isFedByAnother_26 : decode cX2_isFedByAnother 26 = .ok (.aload_n 0, 1) := by decide +kernel
theorem dX2_isFedByAnother_27 : decode cX2_isFedByAnother 27 = .ok (.getfield 34, 3) := by decide +kernel
theorem dX2_isFedByAnother_30 : decode cX2_isFedByAnother 30 = .ok (.iload_n 1, 1) := by decide +kernel
theorem dX2_isFedByAnother_31 : decode cX2_isFedByAnother 31 = .ok (.iaload, 1) := by decide +kernel
theorem dX2_isFedByAnother_32 : decode cX2_isFedByAnother 32 = .ok (.if_icmp .eq 5, 3) := by decide +kernel
theorem dX2_isFedByAnother_35 : decode cX2_isFedByAnother 35 = .ok (.iconst 1, 1) := by decide +kernel
theorem dX2_isFedByAnother_36 : decode cX2_isFedByAnother 36 = .ok (.ireturn, 1) := by decide +kernel
theorem dX2_isFedByAnother_37 : decode cX2_isFedByAnother 37 = .ok (.iinc 2 1, 3) := by decide +kernel
theorem dX2_isFedByAnother_40 : decode cX2_isFedByAnother 40 = .ok (.goto (-38), 3) := by decide +kernel
theorem dX2_isFedByAnother_43 : decode cX2_isFedByAnother 43 = .ok (.iconst 0, 1) := by decide +kernel
theorem dX2_isFedByAnother_44 : decode cX2_isFedByAnother 44 = .ok (.ireturn, 1) := by decide +kernel
theorem dX3_init_0 : decode cX3_init 0 = .ok (.aload_n 0, 1) := by decide +kernel
theorem dX3_init_1 : decode cX3_init 1 = .ok (.iload_n 1, 1) := by decide +kernel
theorem dX3_init_2 : decode cX3_init 2 = .ok (.aload_n 2, 1) := by decide +kernel
theorem dX3_init_3 : decode cX3_init 3 = .ok (.aload_n 3, 1) := by decide +kernel
theorem dX3_init_4 : decode cX3_init 4 = .ok (.invokespecial 1, 3) := by decide +kernel
theorem dX3_init_7 : decode cX3_init 7 = .ok (.return_, 1) := by decide +kernel
theorem dX3_size_0 : decode cX3_size 0 = .ok (.aload_n 0, 1) := by decide +kernel
theorem dX3_size_1 : decode cX3_size 1 = .ok (.getfield 7, 3) := by decide +kernel
theorem dX3_size_4 : decode cX3_size 4 = .ok (.bipush 12, 2) := by decide +kernel
theorem dX3_size_6 : decode cX3_size 6 = .ok (.invokevirtual 13, 3) := by decide +kernel
theorem dX3_size_9 : decode cX3_size 9 = .ok (.aload_n 0, 1) := by decide +kernel
theorem dX3_size_10 : decode cX3_size 10 = .ok (.invokespecial 19, 3) := by decide +kernel
theorem dX3_size_13 : decode cX3_size 13 = .ok (.aload_n 0, 1) := by decide +kernel
theorem dX3_size_14 : decode cX3_size 14 = .ok (.getfield 23, 3) := by decide +kernel
theorem dX3_size_17 : decode cX3_size 17 = .ok (.getfield 27, 3) := by decide +kernel
theorem dX3_size_20 : decode cX3_size 20 = .ok (.aload_n 0, 1) := by decide +kernel
theorem dX3_size_21 : decode cX3_size 21 = .ok (.getfield 33, 3) := by decide +kernel
theorem dX3_size_24 : decode cX3_size 24 = .ok (.iaload, 1) := by decide +kernel
theorem dX3_size_25 : decode cX3_size 25 = .ok (.i2l, 1) := by decide +kernel
theorem dX3_size_26 : decode cX3_size 26 = .ok (.lsub, 1) := by decide +kernel
theorem dX3_size_27 : decode cX3_size 27 = .ok (.lreturn, 1) := by decide +kernel
theorem dX4_init_0 : decode cX4_init 0 = .ok (.aload_n 0, 1) := by decide +kernel
theorem dX4_init_1 : decode cX4_init 1 = .ok (.iload_n 1, 1) := by decide +kernel
theorem dX4_init_2 : decode cX4_init 2 = .ok (.aload_n 2, 1) := by decide +kernel
theorem dX4_init_3 : decode cX4_init 3 = .ok (.aload_n 3, 1) := by decide +kernel
theorem dX4_init_4 : decode cX4_init 4 = .ok (.invokespecial 1, 3) := by decide +kernel
theorem dX4_init_7 : decode cX4_init 7 = .ok (.return_, 1) := by decide +kernel
theorem dX4_mark_0 : decode cX4_mark 0 = .ok (.aload_n 0, 1) := by decide +kernel
theorem dX4_mark_1 : decode cX4_mark 1 = .ok (.getfield 7, 3) := by decide +kernel
theorem dX4_mark_4 : decode cX4_mark 4 = .ok (.bipush 22, 2) := by decide +kernel
theorem dX4_mark_6 : decode cX4_mark 6 = .ok (.invokevirtual 13, 3) := by decide +kernel
theorem dX4_mark_9 : decode cX4_mark 9 = .ok (.aload_n 0, 1) := by decide +kernel
theorem dX4_mark_10 : decode cX4_mark 10 = .ok (.invokespecial 19, 3) := by decide +kernel
theorem dX4_mark_13 : decode cX4_mark 13 = .ok (.aload_n 0, 1) := by decide +kernel
theorem dX4_mark_14 : decode cX4_mark 14 = .ok (.invokevirtual 23, 3) := by decide +kernel
theorem dX4_mark_17 : decode cX4_mark 17 = .ok (.ladd, 1) := by decide +kernel
theorem dX4_mark_18 : decode cX4_mark 18 = .ok (.lreturn, 1) := by decide +kernel
theorem dX5_init_0 : decode cX5_init 0 = .ok (.aload_n 0, 1) := by decide +kernel
theorem dX5_init_1 : decode cX5_init 1 = .ok (.iload_n 1, 1) := by decide +kernel
theorem dX5_init_2 : decode cX5_init 2 = .ok (.aload_n 2, 1) := by decide +kernel
theorem dX5_init_3 : decode cX5_init 3 = .ok (.aload_n 3, 1) := by decide +kernel
theorem dX5_init_4 : decode cX5_init 4 = .ok (.invokespecial 1, 3) := by decide +kernel
theorem dX5_init_7 : decode cX5_init 7 = .ok (.return_, 1) := by decide +kernel
theorem dX5_size_0 : decode cX5_size 0 = .ok (.aload_n 0, 1) := by decide +kernel
theorem dX5_size_1 : decode cX5_size 1 = .ok (.getfield 7, 3) := by decide +kernel
theorem dX5_size_4 : decode cX5_size 4 = .ok (.bipush 11, 2) := by decide +kernel
theorem dX5_size_6 : decode cX5_size 6 = .ok (.invokevirtual 13, 3) := by decide +kernel
theorem dX5_size_9 : decode cX5_size 9 = .ok (.aload_n 0, 1) := by decide +kernel
theorem dX5_size_10 : decode cX5_size 10 = .ok (.invokespecial 19, 3) := by decide +kernel
theorem dX5_size_13 : decode cX5_size 13 = .ok (.aload_n 0, 1) := by decide +kernel
theorem dX5_size_14 : decode cX5_size 14 = .ok (.invokevirtual 23, 3) := by decide +kernel
theorem dX5_size_17 : decode cX5_size 17 = .ok (.ladd, 1) := by decide +kernel
theorem dX5_size_18 : decode cX5_size 18 = .ok (.lreturn, 1) := by decide +kernel
theorem dX5_mark_0 : decode cX5_mark 0 = .ok (.aload_n 0, 1) := by decide +kernel
theorem dX5_mark_1 : decode cX5_mark 1 = .ok (.getfield 7, 3) := by decide +kernel
theorem dX5_mark_4 : decode cX5_mark 4 = .ok (.bipush 21, 2) := by decide +kernel
theorem dX5_mark_6 : decode cX5_mark 6 = .ok (.invokevirtual 13, 3) := by decide +kernel
theorem dX5_mark_9 : decode cX5_mark 9 = .ok (.aload_n 0, 1) := by decide +kernel
theorem dX5_mark_10 : decode cX5_mark 10 = .ok (.invokespecial 26, 3) := by decide +kernel
theorem dX5_mark_13 : decode cX5_mark 13 = .ok (.bipush 10, 2) := by decide +kernel
theorem dX5_mark_15 : decode cX5_mark 15 = .ok (.aload_n 0, 1) := by decide +kernel
theorem dX5_mark_16 : decode cX5_mark 16 = .ok (.getfield 27, 3) := by decide +kernel
theorem dX5_mark_19 : decode cX5_mark 19 = .ok (.getfield 31, 3) := by decide +kernel
theorem dX5_mark_22 : decode cX5_mark 22 = .ok (.aload_n 0, 1) := by decide +kernel
theorem dX5_mark_23 : decode cX5_mark 23 = .ok (.getfield 37, 3) := by decide +kernel
theorem dX5_mark_26 : decode cX5_mark 26 = .ok (.iaload, 1) := by decide +kernel
theorem dX5_mark_27 : decode cX5_mark 27 = .ok (.imul, 1) := by decide +kernel
theorem dX5_mark_28 : decode cX5_mark 28 = .ok (.i2l, 1) := by decide +kernel
theorem dX5_mark_29 : decode cX5_mark 29 = .ok (.ladd, 1) := by decide +kernel
theorem dX5_mark_30 : decode cX5_mark 30 = .ok (.lreturn, 1) := by decide +kernel
theorem dX6_init_0 : decode cX6_init 0 = .ok (.aload_n 0, 1) := by decide +kernel
theorem dX6_init_1 : decode cX6_init 1 = .ok (.invokespecial 3, 3) := by decide +kernel
theorem dX6_init_4 : decode cX6_init 4 = .ok (.aload_n 0, 1) := by decide +kernel
theorem dX6_init_5 : decode cX6_init 5 = .ok (.sipush 500, 3) := by decide +kernel
theorem dX6_init_8 : decode cX6_init 8 = .ok (.newarray .byte, 2) := by decide +kernel
theorem dX6_init_10 : decode cX6_init 10 = .ok (.putfield 9, 3) := by decide +kernel
theorem dX6_init_13 : decode cX6_init 13 = .ok (.return_, 1) := by decide +kernel
theorem dX6_append_0 : decode cX6_append 0 = .ok (.aload_n 0, 1) := by decide +kernel
theorem dX6_append_1 : decode cX6_append 1 = .ok (.getfield 15, 3) := by decide +kernel
theorem dX6_append_4 : decode cX6_append 4 = .ok (.sipush 500, 3) := by decide +kernel
theorem dX6_append_7 : decode cX6_append 7 = .ok (.if_icmp .ge 23, 3) := by decide +kernel
theorem dX6_append_10 : decode cX6_append 10 = .ok (.aload_n 0, 1) := by decide +kernel
theorem dX6_append_11 : decode cX6_append 11 = .ok (.getfield 9, 3) := by decide +kernel
theorem dX6_append_14 : decode cX6_append 14 = .ok (.aload_n 0, 1) := by decide +kernel
theorem dX6_append_15 : decode cX6_append 15 = .ok (.getfield 15, 3) := by decide +kernel
theorem dX6_append_18 : decode cX6_append 18 = .ok (.iload_n 1, 1) := by decide +kernel
theorem dX6_append_19 : decode cX6_append 19 = .ok (.bastore, 1) := by decide +kernel
theorem dX6_append_20 : decode cX6_append 20 = .ok (.aload_n 0, 1) := by decide +kernel
theorem dX6_append_21 : decode cX6_append 21 = .ok (.dup, 1) := by decide +kernel
theorem dX6_append_22 : decode cX6_append 22 = .ok (.getfield 15, 3) := by decide +kernel
theorem dX6_append_25 : decode cX6_append 25 = .ok (.iconst 1, 1) := by decide +kernel
theorem dX6_append_26 : decode cX6_append 26 = .ok (.iadd, 1) := by decide +kernel
theorem dX6_append_27 : decode cX6_append 27 = .ok (.putfield 15, 3) := by decide +kernel
theorem dX6_append_30 : decode cX6_append 30 = .ok (.return_, 1) := by decide +kernel
theorem dX6_readInto_0 : decode cX6_readInto 0 = .ok (.aload_n 1, 1) := by decide +kernel
theorem dX6_readInto_1 : decode cX6_readInto 1 = .ok (.invokevirtual 19, 3) := by decide +kernel
theorem dX6_readInto_4 : decode cX6_readInto 4 = .ok (.aload_n 0, 1) := by decide +kernel
theorem dX6_readInto_5 : decode cX6_readInto 5 = .ok (.iconst 0, 1) := by decide +kernel
theorem dX6_readInto_6 : decode cX6_readInto 6 = .ok (.putfield 24, 3) := by decide +kernel
theorem dX6_readInto_9 : decode cX6_readInto 9 = .ok (.aload_n 0, 1) := by decide +kernel
theorem dX6_readInto_10 : decode cX6_readInto 10 = .ok (.iconst 0, 1) := by decide +kernel
theorem dX6_readInto_11 : decode cX6_readInto 11 = .ok (.putfield 27, 3) := by decide +kernel
theorem dX6_readInto_14 : decode cX6_readInto 14 = .ok (.aload_n 0, 1) := by decide +kernel
theorem dX6_readInto_15 : decode cX6_readInto 15 = .ok (.iconst 0, 1) := by decide +kernel
theorem dX6_readInto_16 : decode cX6_readInto 16 = .ok (.putfield 30, 3) := by decide +kernel
theorem dX6_readInto_19 : decode cX6_readInto 19 = .ok (.aload_n 0, 1) := by decide +kernel
theorem dX6_readInto_20 : decode cX6_readInto 20 = .ok (.invokevirtual 33, 3) := by decide +kernel
theorem dX6_readInto_23 : decode cX6_readInto 23 = .ok (.aload_n 0, 1) := by decide +kernel
theorem dX6_readInto_24 : decode cX6_readInto 24 = .ok (.aload_n 1, 1) := by decide +kernel
theorem dX6_readInto_25 : decode cX6_readInto 25 = .ok (.invokevirtual 36, 3) := by decide +kernel
theorem dX6_readInto_28 : decode cX6_readInto 28 = .ok (.aload_n 0, 1) := by decide +kernel
theorem dX6_readInto_29 : decode cX6_readInto 29 = .ok (.aload_n 1, 1) := by decide +kernel
theorem dX6_readInto_30 : decode cX6_readInto 30 = .ok (.invokevirtual 40, 3) := by decide +kernel
theorem dX6_readInto_33 : decode cX6_readInto 33 = .ok (.aload_n 0, 1) := by decide +kernel
theorem dX6_readInto_34 : decode cX6_readInto 34 = .ok (.iconst 0, 1) := by decide +kernel
theorem dX6_readInto_35 : decode cX6_readInto 35 = .ok (.putfield 15, 3) := by decide +kernel
theorem dX6_readInto_38 : decode cX6_readInto 38 = .ok (.return_, 1) := by decide +kernel
theorem dX6_readLaws_0 : decode cX6_readLaws 0 = .ok (.aload_n 0, 1) := by decide +kernel
theorem dX6_readLaws_1 : decode cX6_readLaws 1 = .ok (.ldc 43, 2) := by decide +kernel
theorem dX6_readLaws_3 : decode cX6_readLaws 3 = .ok (.invokevirtual 45, 3) := by decide +kernel
theorem dX6_readLaws_6 : decode cX6_readLaws 6 = .ok (.ifCond .ge 8, 3) := by decide +kernel
theorem dX6_readLaws_9 : decode cX6_readLaws 9 = .ok (.aload_n 0, 1) := by decide +kernel
theorem dX6_readLaws_10 : decode cX6_readLaws 10 = .ok (.iconst 1, 1) := by decide +kernel
theorem dX6_readLaws_11 : decode cX6_readLaws 11 = .ok (.invokevirtual 49, 3) := by decide +kernel
theorem dX6_readLaws_14 : decode cX6_readLaws 14 = .ok (.iconst 0, 1) := by decide +kernel
theorem dX6_readLaws_15 : decode cX6_readLaws 15 = .ok (.istore_n 2, 1) := by decide +kernel
theorem dX6_readLaws_16 : decode cX6_readLaws 16 = .ok (.iload_n 2, 1) := by decide +kernel
theorem dX6_readLaws_17 : decode cX6_readLaws 17 = .ok (.iconst 4, 1) := by decide +kernel
theorem dX6_readLaws_18 : decode cX6_readLaws 18 = .ok (.if_icmp .gt 60, 3) := by decide +kernel
theorem dX6_readLaws_21 : decode cX6_readLaws 21 = .ok (.aload_n 0, 1) := by decide +kernel
theorem dX6_readLaws_22 : decode cX6_readLaws 22 = .ok (.getfield 24, 3) := by decide +kernel
theorem dX6_readLaws_25 : decode cX6_readLaws 25 = .ok (.ifCond .ne 53, 3) := by decide +kernel
theorem dX6_readLaws_28 : decode cX6_readLaws 28 = .ok (.aload_n 0, 1) := by decide +kernel
theorem dX6_readLaws_29 : decode cX6_readLaws 29 = .ok (.ldc 43, 2) := by decide +kernel
theorem dX6_readLaws_31 : decode cX6_readLaws 31 = .ok (.invokevirtual 45, 3) := by decide +kernel
theorem dX6_readLaws_34 : decode cX6_readLaws 34 = .ok (.ifCond .ne 44, 3) := by decide +kernel
theorem dX6_readLaws_37 : decode cX6_readLaws 37 = .ok (.aload_n 1, 1) := by decide +kernel
theorem dX6_readLaws_38 : decode cX6_readLaws 38 = .ok (.getfield 53, 3) := by decide +kernel
theorem dX6_readLaws_41 : decode cX6_readLaws 41 = .ok (.iconst 4, 1) := by decide +kernel
theorem dX6_readLaws_42 : decode cX6_readLaws 42 = .ok (.if_icmp .lt 11, 3) := by decide +kernel
theorem dX6_readLaws_45 : decode cX6_readLaws 45 = .ok (.aload_n 0, 1) := by decide +kernel
theorem dX6_readLaws_46 : decode cX6_readLaws 46 = .ok (.iconst 3, 1) := by decide +kernel
theorem dX6_readLaws_47 : decode cX6_readLaws 47 = .ok (.invokevirtual 49, 3) := by decide +kernel
theorem dX6_readLaws_50 : decode cX6_readLaws 50 = .ok (.goto 22, 3) := by decide +kernel
theorem dX6_readLaws_53 : decode cX6_readLaws 53 = .ok (.aload_n 0, 1) := by decide +kernel
theorem dX6_readLaws_54 : decode cX6_readLaws 54 = .ok (.aload_n 1, 1) := by decide +kernel
theorem dX6_readLaws_55 : decode cX6_readLaws 55 = .ok (.aload_n 1, 1) := by decide +kernel
theorem dX6_readLaws_56 : decode cX6_readLaws 56 = .ok (.getfield 53, 3) := by decide +kernel
theorem dX6_readLaws_59 : decode cX6_readLaws 59 = .ok (.invokevirtual 56, 3) := by decide +kernel
theorem dX6_readLaws_62 : decode cX6_readLaws 62 = .ok (.aload_n 1, 1) := by decide +kernel
theorem dX6_readLaws_63 : decode cX6_readLaws 63 = .ok (.dup, 1) := by decide +kernel
theorem dX6_readLaws_64 : decode cX6_readLaws 64 = .ok (.getfield 53, 3) := by decide +kernel
theorem dX6_readLaws_67 : decode cX6_readLaws 67 = .ok (.iconst 1, 1) := by decide +kernel
theorem dX6_readLaws_68 : decode cX6_readLaws 68 = .ok (.iadd, 1) := by decide +kernel
theorem dX6_readLaws_69 : decode cX6_readLaws 69 = .ok (.putfield 53, 3) := by decide +kernel
theorem dX6_readLaws_72 : decode cX6_readLaws 72 = .ok (.iinc 2 1, 3) := by decide +kernel
theorem dX6_readLaws_75 : decode cX6_readLaws 75 = .ok (.goto (-59), 3) := by decide +kernel
theorem dX6_readLaws_78 : decode cX6_readLaws 78 = .ok (.return_, 1) := by decide +kernel
theorem dX6_readLaw_0 : decode cX6_readLaw 0 = .ok (.aload_n 0, 1) := by decide +kernel
theorem dX6_readLaw_1 : decode cX6_readLaw 1 = .ok (.invokevirtual 33, 3) := by decide +kernel
theorem dX6_readLaw_4 : decode cX6_readLaw 4 = .ok (.iconst 0, 1) := by decide +kernel
theorem dX6_readLaw_5 : decode cX6_readLaw 5 = .ok (.istore_n 3, 1) := by decide +kernel
theorem dX6_readLaw_6 : decode cX6_readLaw 6 = .ok (.iload_n 3, 1) := by decide +kernel
theorem dX6_readLaw_7 : decode cX6_readLaw 7 = .ok (.iconst 4, 1) := by decide +kernel
theorem dX6_readLaw_8 : decode cX6_readLaw 8 = .ok (.if_icmp .ge 25, 3) := by decide +kernel
theorem dX6_readLaw_11 : decode cX6_readLaw 11 = .ok (.aload_n 1, 1) := by decide +kernel
theorem dX6_readLaw_12 : decode cX6_readLaw 12 = .ok (.getfield 60, 3) := by decide +kernel
theorem dX6_readLaw_15 : decode cX6_readLaw 15 = .ok (.iload_n 2, 1) := by decide +kernel
theorem dX6_readLaw_16 : decode cX6_readLaw 16 = .ok (.iconst 4, 1) := by decide +kernel
theorem dX6_readLaw_17 : decode cX6_readLaw 17 = .ok (.imul, 1) := by decide +kernel
theorem dX6_readLaw_18 : decode cX6_readLaw 18 = .ok (.iload_n 3, 1) := by decide +kernel
theorem dX6_readLaw_19 : decode cX6_readLaw 19 = .ok (.iadd, 1) := by decide +kernel
theorem dX6_readLaw_20 : decode cX6_readLaw 20 = .ok (.aload_n 0, 1) := by decide +kernel
theorem dX6_readLaw_21 : decode cX6_readLaw 21 = .ok (.ldc 64, 2) := by decide +kernel
theorem dX6_readLaw_23 : decode cX6_readLaw 23 = .ok (.invokevirtual 66, 3) := by decide +kernel
theorem dX6_readLaw_26 : decode cX6_readLaw 26 = .ok (.iastore, 1) := by decide +kernel
theorem dX6_readLaw_27 : decode cX6_readLaw 27 = .ok (.iinc 3 1, 3) := by decide +kernel
theorem dX6_readLaw_30 : decode cX6_readLaw 30 = .ok (.goto (-24), 3) := by decide +kernel
theorem dX6_readLaw_33 : decode cX6_readLaw 33 = .ok (.aload_n 1, 1) := by decide +kernel
theorem dX6_readLaw_34 : decode cX6_readLaw 34 = .ok (.getfield 69, 3) := by decide +kernel
theorem dX6_readLaw_37 : decode cX6_readLaw 37 = .ok (.iload_n 2, 1) := by decide +kernel
theorem dX6_readLaw_38 : decode cX6_readLaw 38 = .ok (.aload_n 0, 1) := by decide +kernel
theorem dX6_readLaw_39 : decode cX6_readLaw 39 = .ok (.ldc 72, 2) := by decide +kernel
theorem dX6_readLaw_41 : decode cX6_readLaw 41 = .ok (.invokevirtual 66, 3) := by decide +kernel
theorem dX6_readLaw_44 : decode cX6_readLaw 44 = .ok (.iastore, 1) := by decide +kernel
theorem dX6_readLaw_45 : decode cX6_readLaw 45 = .ok (.aload_n 1, 1) := by decide +kernel
theorem dX6_readLaw_46 : decode cX6_readLaw 46 = .ok (.getfield 74, 3) := by decide +kernel
theorem dX6_readLaw_49 : decode cX6_readLaw 49 = .ok (.iload_n 2, 1) := by decide +kernel
theorem dX6_readLaw_50 : decode cX6_readLaw 50 = .ok (.aload_n 0, 1) := by decide +kernel
theorem dX6_readLaw_51 : decode cX6_readLaw 51 = .ok (.ldc 77, 2) := by decide +kernel
theorem dX6_readLaw_53 : decode cX6_readLaw 53 = .ok (.invokevirtual 66, 3) := by decide +kernel
theorem dX6_readLaw_56 : decode cX6_readLaw 56 = .ok (.iastore, 1) := by decide +kernel
theorem dX6_readLaw_57 : decode cX6_readLaw 57 = .ok (.aload_n 1, 1) := by decide +kernel
theorem dX6_readLaw_58 : decode cX6_readLaw 58 = .ok (.getfield 79, 3) := by decide +kernel
theorem dX6_readLaw_61 : decode cX6_readLaw 61 = .ok (.iload_n 2, 1) := by decide +kernel
theorem dX6_readLaw_62 : decode cX6_readLaw 62 = .ok (.aload_n 0, 1) := by decide +kernel
theorem dX6_readLaw_63 : decode cX6_readLaw 63 = .ok (.ldc 82, 2) := by decide +kernel
theorem dX6_readLaw_65 : decode cX6_readLaw 65 = .ok (.invokevirtual 66, 3) := by decide +kernel
theorem dX6_readLaw_68 : decode cX6_readLaw 68 = .ok (.iastore, 1) := by decide +kernel
theorem dX6_readLaw_69 : decode cX6_readLaw 69 = .ok (.aload_n 1, 1) := by decide +kernel
theorem dX6_readLaw_70 : decode cX6_readLaw 70 = .ok (.getfield 84, 3) := by decide +kernel
theorem dX6_readLaw_73 : decode cX6_readLaw 73 = .ok (.iload_n 2, 1) := by decide +kernel
theorem dX6_readLaw_74 : decode cX6_readLaw 74 = .ok (.aload_n 0, 1) := by decide +kernel
theorem dX6_readLaw_75 : decode cX6_readLaw 75 = .ok (.iconst 0, 1) := by decide +kernel
theorem dX6_readLaw_76 : decode cX6_readLaw 76 = .ok (.bipush 100, 2) := by decide +kernel
theorem dX6_readLaw_78 : decode cX6_readLaw 78 = .ok (.invokevirtual 87, 3) := by decide +kernel
theorem dX6_readLaw_81 : decode cX6_readLaw 81 = .ok (.iastore, 1) := by decide +kernel
theorem dX6_readLaw_82 : decode cX6_readLaw 82 = .ok (.aload_n 0, 1) := by decide +kernel
theorem dX6_readLaw_83 : decode cX6_readLaw 83 = .ok (.invokevirtual 91, 3) := by decide +kernel
theorem dX6_readLaw_86 : decode cX6_readLaw 86 = .ok (.return_, 1) := by decide +kernel
theorem dX6_readEvents_0 : decode cX6_readEvents 0 = .ok (.iconst 0, 1) := by decide +kernel
theorem dX6_readEvents_1 : decode cX6_readEvents 1 = .ok (.istore_n 2, 1) := by decide +kernel
theorem dX6_readEvents_2 : decode cX6_readEvents 2 = .ok (.iload_n 2, 1) := by decide +kernel
theorem dX6_readEvents_3 : decode cX6_readEvents 3 = .ok (.bipush 30, 2) := by decide +kernel
theorem dX6_readEvents_5 : decode cX6_readEvents 5 = .ok (.if_icmp .gt 128, 3) := by decide +kernel
theorem dX6_readEvents_8 : decode cX6_readEvents 8 = .ok (.aload_n 0, 1) := by decide +kernel
theorem dX6_readEvents_9 : decode cX6_readEvents 9 = .ok (.getfield 24, 3) := by decide +kernel
theorem dX6_readEvents_12 : decode cX6_readEvents 12 = .ok (.ifCond .ne 121, 3) := by decide +kernel
theorem dX6_readEvents_15 : decode cX6_readEvents 15 = .ok (.aload_n 0, 1) := by decide +kernel
theorem dX6_readEvents_16 : decode cX6_readEvents 16 = .ok (.getfield 94, 3) := by decide +kernel
theorem dX6_readEvents_19 : decode cX6_readEvents 19 = .ok (.ifCond .eq 114, 3) := by decide +kernel
theorem dX6_readEvents_22 : decode cX6_readEvents 22 = .ok (.aload_n 0, 1) := by decide +kernel
theorem dX6_readEvents_23 : decode cX6_readEvents 23 = .ok (.ldc 97, 2) := by decide +kernel
theorem dX6_readEvents_25 : decode cX6_readEvents 25 = .ok (.invokevirtual 45, 3) := by decide +kernel
theorem dX6_readEvents_28 : decode cX6_readEvents 28 = .ok (.istore_n 3, 1) := by decide +kernel
theorem dX6_readEvents_29 : decode cX6_readEvents 29 = .ok (.iload_n 3, 1) := by decide +kernel
theorem dX6_readEvents_30 : decode cX6_readEvents 30 = .ok (.ifCond .eq 8, 3) := by decide +kernel
theorem dX6_readEvents_33 : decode cX6_readEvents 33 = .ok (.iload_n 3, 1) := by decide +kernel
theorem dX6_readEvents_34 : decode cX6_readEvents 34 = .ok (.iconst 1, 1) := by decide +kernel
theorem dX6_readEvents_35 : decode cX6_readEvents 35 = .ok (.if_icmp .ne 7, 3) := by decide +kernel
theorem dX6_readEvents_38 : decode cX6_readEvents 38 = .ok (.iconst 1, 1) := by decide +kernel
theorem dX6_readEvents_39 : decode cX6_readEvents 39 = .ok (.goto 4, 3) := by decide +kernel
theorem dX6_readEvents_42 : decode cX6_readEvents 42 = .ok (.iconst 0, 1) := by decide +kernel
theorem dX6_readEvents_43 : decode cX6_readEvents 43 = .ok (.istore 4, 2) := by decide +kernel
theorem dX6_readEvents_45 : decode cX6_readEvents 45 = .ok (.iload_n 3, 1) := by decide +kernel
theorem dX6_readEvents_46 : decode cX6_readEvents 46 = .ok (.ifCond .ge 11, 3) := by decide +kernel
theorem dX6_readEvents_49 : decode cX6_readEvents 49 = .ok (.aload_n 0, 1) := by decide +kernel
theorem dX6_readEvents_50 : decode cX6_readEvents 50 = .ok (.iconst 1, 1) := by decide +kernel
theorem dX6_readEvents_51 : decode cX6_readEvents 51 = .ok (.invokevirtual 49, 3) := by decide +kernel
theorem dX6_readEvents_54 : decode cX6_readEvents 54 = .ok (.goto 73, 3) := by decide +kernel
theorem dX6_readEvents_57 : decode cX6_readEvents 57 = .ok (.aload_n 1, 1) := by decide +kernel
theorem dX6_readEvents_58 : decode cX6_readEvents 58 = .ok (.getfield 99, 3) := by decide +kernel
theorem dX6_readEvents_61 : decode cX6_readEvents 61 = .ok (.bipush 30, 2) := by decide +kernel
theorem dX6_readEvents_63 : decode cX6_readEvents 63 = .ok (.if_icmp .ge 17, 3) := by decide +kernel
theorem dX6_readEvents_66 : decode cX6_readEvents 66 = .ok (.iload 4, 2) := by decide +kernel
theorem dX6_readEvents_68 : decode cX6_readEvents 68 = .ok (.ifCond .eq 20, 3) := by decide +kernel
theorem dX6_readEvents_71 : decode cX6_readEvents 71 = .ok (.aload_n 1, 1) := by decide +kernel
theorem dX6_readEvents_72 : decode cX6_readEvents 72 = .ok (.getfield 102, 3) := by decide +kernel
theorem dX6_readEvents_75 : decode cX6_readEvents 75 = .ok (.bipush 10, 2) := by decide +kernel
theorem dX6_readEvents_77 : decode cX6_readEvents 77 = .ok (.if_icmp .lt 11, 3) := by decide +kernel
theorem dX6_readEvents_80 : decode cX6_readEvents 80 = .ok (.aload_n 0, 1) := by decide +kernel
theorem dX6_readEvents_81 : decode cX6_readEvents 81 = .ok (.iconst 3, 1) := by decide +kernel
theorem dX6_readEvents_82 : decode cX6_readEvents 82 = .ok (.invokevirtual 49, 3) := by decide +kernel
theorem dX6_readEvents_85 : decode cX6_readEvents 85 = .ok (.goto 42, 3) := by decide +kernel
theorem dX6_readEvents_88 : decode cX6_readEvents 88 = .ok (.aload_n 0, 1) := by decide +kernel
theorem dX6_readEvents_89 : decode cX6_readEvents 89 = .ok (.aload_n 1, 1) := by decide +kernel
theorem dX6_readEvents_90 : decode cX6_readEvents 90 = .ok (.aload_n 1, 1) := by decide +kernel
theorem dX6_readEvents_91 : decode cX6_readEvents 91 = .ok (.getfield 99, 3) := by decide +kernel
theorem dX6_readEvents_94 : decode cX6_readEvents 94 = .ok (.iload_n 3, 1) := by decide +kernel
theorem dX6_readEvents_95 : decode cX6_readEvents 95 = .ok (.invokevirtual 105, 3) := by decide +kernel
theorem dX6_readEvents_98 : decode cX6_readEvents 98 = .ok (.aload_n 1, 1) := by decide +kernel
theorem dX6_readEvents_99 : decode cX6_readEvents 99 = .ok (.dup, 1) := by decide +kernel
theorem dX6_readEvents_100 : decode cX6_readEvents 100 = .ok (.getfield 99, 3) := by decide +kernel
theorem dX6_readEvents_103 : decode cX6_readEvents 103 = .ok (.iconst 1, 1) := by decide +kernel
theorem dX6_readEvents_104 : decode cX6_readEvents 104 = .ok (.iadd, 1) := by decide +kernel
theorem dX6_readEvents_105 : decode cX6_readEvents 105 = .ok (.putfield 99, 3) := by decide +kernel
theorem dX6_readEvents_108 : decode cX6_readEvents 108 = .ok (.aload_n 1, 1) := by decide +kernel
theorem dX6_readEvents_109 : decode cX6_readEvents 109 = .ok (.dup, 1) := by decide +kernel
theorem dX6_readEvents_110 : decode cX6_readEvents 110 = .ok (.getfield 102, 3) := by decide +kernel
theorem dX6_readEvents_113 : decode cX6_readEvents 113 = .ok (.iload 4, 2) := by decide +kernel
theorem dX6_readEvents_115 : decode cX6_readEvents 115 = .ok (.ifCond .eq 7, 3) := by decide +kernel
theorem dX6_readEvents_118 : decode cX6_readEvents 118 = .ok (.iconst 1, 1) := by decide +kernel
theorem dX6_readEvents_119 : decode cX6_readEvents 119 = .ok (.goto 4, 3) := by decide +kernel
theorem dX6_readEvents_122 : decode cX6_readEvents 122 = .ok (.iconst 0, 1) := by decide +kernel
theorem dX6_readEvents_123 : decode cX6_readEvents 123 = .ok (.iadd, 1) := by decide +kernel
theorem dX6_readEvents_124 : decode cX6_readEvents 124 = .ok (.putfield 102, 3) := by decide +kernel
theorem dX6_readEvents_127 : decode cX6_readEvents 127 = .ok (.iinc 2 1, 3) := by decide +kernel
theorem dX6_readEvents_130 : decode cX6_readEvents 130 = .ok (.goto (-128), 3) := by decide +kernel
theorem dX6_readEvents_133 : decode cX6_readEvents 133 = .ok (.return_, 1) := by decide +kernel
theorem dX6_readEvent_0 : decode cX6_readEvent 0 = .ok (.aload_n 0, 1) := by decide +kernel
theorem dX6_readEvent_1 : decode cX6_readEvent 1 = .ok (.invokevirtual 33, 3) := by decide +kernel
theorem dX6_readEvent_4 : decode cX6_readEvent 4 = .ok (.aload_n 1, 1) := by decide +kernel
theorem dX6_readEvent_5 : decode cX6_readEvent 5 = .ok (.getfield 109, 3) := by decide +kernel
theorem dX6_readEvent_8 : decode cX6_readEvent 8 = .ok (.iload_n 2, 1) := by decide +kernel
theorem dX6_readEvent_9 : decode cX6_readEvent 9 = .ok (.iload_n 3, 1) := by decide +kernel
theorem dX6_readEvent_10 : decode cX6_readEvent 10 = .ok (.iastore, 1) := by decide +kernel
theorem dX6_readEvent_11 : decode cX6_readEvent 11 = .ok (.aload_n 1, 1) := by decide +kernel
theorem dX6_readEvent_12 : decode cX6_readEvent 12 = .ok (.getfield 112, 3) := by decide +kernel
theorem dX6_readEvent_15 : decode cX6_readEvent 15 = .ok (.iload_n 2, 1) := by decide +kernel
theorem dX6_readEvent_16 : decode cX6_readEvent 16 = .ok (.aload_n 0, 1) := by decide +kernel
theorem dX6_readEvent_17 : decode cX6_readEvent 17 = .ok (.iload_n 2, 1) := by decide +kernel
theorem dX6_readEvent_18 : decode cX6_readEvent 18 = .ok (.ifCond .ne 7, 3) := by decide +kernel
theorem dX6_readEvent_21 : decode cX6_readEvent 21 = .ok (.iconst 0, 1) := by decide +kernel
theorem dX6_readEvent_22 : decode cX6_readEvent 22 = .ok (.goto 11, 3) := by decide +kernel
theorem dX6_readEvent_25 : decode cX6_readEvent 25 = .ok (.aload_n 1, 1) := by decide +kernel
theorem dX6_readEvent_26 : decode cX6_readEvent 26 = .ok (.getfield 112, 3) := by decide +kernel
theorem dX6_readEvent_29 : decode cX6_readEvent 29 = .ok (.iload_n 2, 1) := by decide +kernel
theorem dX6_readEvent_30 : decode cX6_readEvent 30 = .ok (.iconst 1, 1) := by decide +kernel
theorem dX6_readEvent_31 : decode cX6_readEvent 31 = .ok (.isub, 1) := by decide +kernel
theorem dX6_readEvent_32 : decode cX6_readEvent 32 = .ok (.iaload, 1) := by decide +kernel
theorem dX6_readEvent_33 : decode cX6_readEvent 33 = .ok (.sipush 999, 3) := by decide +kernel
theorem dX6_readEvent_36 : decode cX6_readEvent 36 = .ok (.invokevirtual 87, 3) := by decide +kernel
theorem dX6_readEvent_39 : decode cX6_readEvent 39 = .ok (.iastore, 1) := by decide +kernel
theorem dX6_readEvent_40 : decode cX6_readEvent 40 = .ok (.iload_n 3, 1) := by decide +kernel
theorem dX6_readEvent_41 : decode cX6_readEvent 41 = .ok (.tableswitch 281 0 5 #[39, 79, 155, 200, 233, 261], 39) := by decide +kernel
theorem dX6_readEvent_80 : decode cX6_readEvent 80 = .ok (.aload_n 1, 1) := by decide +kernel
theorem dX6_readEvent_81 : decode cX6_readEvent 81 = .ok (.getfield 115, 3) := by decide +kernel
theorem dX6_readEvent_84 : decode cX6_readEvent 84 = .ok (.iload_n 2, 1) := by decide +kernel
theorem dX6_readEvent_85 : decode cX6_readEvent 85 = .ok (.aload_n 0, 1) := by decide +kernel
theorem dX6_readEvent_86 : decode cX6_readEvent 86 = .ok (.ldc 118, 2) := by decide +kernel
theorem dX6_readEvent_88 : decode cX6_readEvent 88 = .ok (.invokevirtual 66, 3) := by decide +kernel
theorem dX6_readEvent_91 : decode cX6_readEvent 91 = .ok (.iastore, 1) := by decide +kernel
theorem dX6_readEvent_92 : decode cX6_readEvent 92 = .ok (.aload_n 1, 1) := by decide +kernel
theorem dX6_readEvent_93 : decode cX6_readEvent 93 = .ok (.getfield 120, 3) := by decide +kernel
theorem dX6_readEvent_96 : decode cX6_readEvent 96 = .ok (.iload_n 2, 1) := by decide +kernel
theorem dX6_readEvent_97 : decode cX6_readEvent 97 = .ok (.aload_n 0, 1) := by decide +kernel
theorem dX6_readEvent_98 : decode cX6_readEvent 98 = .ok (.iconst 0, 1) := by decide +kernel
theorem dX6_readEvent_99 : decode cX6_readEvent 99 = .ok (.iconst 1, 1) := by decide +kernel
theorem dX6_readEvent_100 : decode cX6_readEvent 100 = .ok (.invokevirtual 87, 3) := by decide +kernel
theorem dX6_readEvent_103 : decode cX6_readEvent 103 = .ok (.iastore, 1) := by decide +kernel
theorem dX6_readEvent_104 : decode cX6_readEvent 104 = .ok (.aload_n 1, 1) := by decide +kernel
theorem dX6_readEvent_105 : decode cX6_readEvent 105 = .ok (.getfield 123, 3) := by decide +kernel
theorem dX6_readEvent_108 : decode cX6_readEvent 108 = .ok (.iload_n 2, 1) := by decide +kernel
theorem dX6_readEvent_109 : decode cX6_readEvent 109 = .ok (.aload_n 0, 1) := by decide +kernel
theorem dX6_readEvent_110 : decode cX6_readEvent 110 = .ok (.iconst 1, 1) := by decide +kernel
theorem dX6_readEvent_111 : decode cX6_readEvent 111 = .ok (.bipush 99, 2) := by decide +kernel
theorem dX6_readEvent_113 : decode cX6_readEvent 113 = .ok (.invokevirtual 87, 3) := by decide +kernel
theorem dX6_readEvent_116 : decode cX6_readEvent 116 = .ok (.iastore, 1) := by decide +kernel
theorem dX6_readEvent_117 : decode cX6_readEvent 117 = .ok (.goto 229, 3) := by decide +kernel
theorem dX6_readEvent_120 : decode cX6_readEvent 120 = .ok (.aload_n 1, 1) := by decide +kernel
theorem dX6_readEvent_121 : decode cX6_readEvent 121 = .ok (.getfield 115, 3) := by decide +kernel
theorem dX6_readEvent_124 : decode cX6_readEvent 124 = .ok (.iload_n 2, 1) := by decide +kernel
theorem dX6_readEvent_125 : decode cX6_readEvent 125 = .ok (.aload_n 0, 1) := by decide +kernel
theorem dX6_readEvent_126 : decode cX6_readEvent 126 = .ok (.iconst 0, 1) := by decide +kernel
theorem dX6_readEvent_127 : decode cX6_readEvent 127 = .ok (.bipush 99, 2) := by decide +kernel
theorem dX6_readEvent_129 : decode cX6_readEvent 129 = .ok (.invokevirtual 87, 3) := by decide +kernel
theorem dX6_readEvent_132 : decode cX6_readEvent 132 = .ok (.iastore, 1) := by decide +kernel
theorem dX6_readEvent_133 : decode cX6_readEvent 133 = .ok (.aload_n 1, 1) := by decide +kernel
theorem dX6_readEvent_134 : decode cX6_readEvent 134 = .ok (.getfield 120, 3) := by decide +kernel
theorem dX6_readEvent_137 : decode cX6_readEvent 137 = .ok (.iload_n 2, 1) := by decide +kernel
theorem dX6_readEvent_138 : decode cX6_readEvent 138 = .ok (.aload_n 0, 1) := by decide +kernel
theorem dX6_readEvent_139 : decode cX6_readEvent 139 = .ok (.iconst 0, 1) := by decide +kernel
theorem dX6_readEvent_140 : decode cX6_readEvent 140 = .ok (.bipush 99, 2) := by decide +kernel
theorem dX6_readEvent_142 : decode cX6_readEvent 142 = .ok (.invokevirtual 87, 3) := by decide +kernel
theorem dX6_readEvent_145 : decode cX6_readEvent 145 = .ok (.iastore, 1) := by decide +kernel
theorem dX6_readEvent_146 : decode cX6_readEvent 146 = .ok (.aload_n 1, 1) := by decide +kernel
theorem dX6_readEvent_147 : decode cX6_readEvent 147 = .ok (.getfield 115, 3) := by decide +kernel
theorem dX6_readEvent_150 : decode cX6_readEvent 150 = .ok (.iload_n 2, 1) := by decide +kernel
theorem dX6_readEvent_151 : decode cX6_readEvent 151 = .ok (.iaload, 1) := by decide +kernel
theorem dX6_readEvent_152 : decode cX6_readEvent 152 = .ok (.ifCond .ne 16, 3) := by decide +kernel
theorem dX6_readEvent_155 : decode cX6_readEvent 155 = .ok (.aload_n 1, 1) := by decide +kernel
theorem dX6_readEvent_156 : decode cX6_readEvent 156 = .ok (.getfield 120, 3) := by decide +kernel
theorem dX6_readEvent_159 : decode cX6_readEvent 159 = .ok (.iload_n 2, 1) := by decide +kernel
theorem dX6_readEvent_160 : decode cX6_readEvent 160 = .ok (.iaload, 1) := by decide +kernel
theorem dX6_readEvent_161 : decode cX6_readEvent 161 = .ok (.ifCond .ne 7, 3) := by decide +kernel
theorem dX6_readEvent_164 : decode cX6_readEvent 164 = .ok (.iconst 1, 1) := by decide +kernel
theorem dX6_readEvent_165 : decode cX6_readEvent 165 = .ok (.goto 4, 3) := by decide +kernel
theorem dX6_readEvent_168 : decode cX6_readEvent 168 = .ok (.iconst 0, 1) := by decide +kernel
theorem dX6_readEvent_169 : decode cX6_readEvent 169 = .ok (.istore 4, 2) := by decide +kernel
theorem dX6_readEvent_171 : decode cX6_readEvent 171 = .ok (.aload_n 1, 1) := by decide +kernel
theorem dX6_readEvent_172 : decode cX6_readEvent 172 = .ok (.getfield 123, 3) := by decide +kernel
theorem dX6_readEvent_175 : decode cX6_readEvent 175 = .ok (.iload_n 2, 1) := by decide +kernel
theorem dX6_readEvent_176 : decode cX6_readEvent 176 = .ok (.aload_n 0, 1) := by decide +kernel
theorem dX6_readEvent_177 : decode cX6_readEvent 177 = .ok (.iload 4, 2) := by decide +kernel
theorem dX6_readEvent_179 : decode cX6_readEvent 179 = .ok (.ifCond .eq 7, 3) := by decide +kernel
theorem dX6_readEvent_182 : decode cX6_readEvent 182 = .ok (.iconst 1, 1) := by decide +kernel
theorem dX6_readEvent_183 : decode cX6_readEvent 183 = .ok (.goto 4, 3) := by decide +kernel
theorem dX6_readEvent_186 : decode cX6_readEvent 186 = .ok (.iconst 0, 1) := by decide +kernel
theorem dX6_readEvent_187 : decode cX6_readEvent 187 = .ok (.bipush 99, 2) := by decide +kernel
theorem dX6_readEvent_189 : decode cX6_readEvent 189 = .ok (.invokevirtual 87, 3) := by decide +kernel
theorem dX6_readEvent_192 : decode cX6_readEvent 192 = .ok (.iastore, 1) := by decide +kernel
theorem dX6_readEvent_193 : decode cX6_readEvent 193 = .ok (.goto 153, 3) := by decide +kernel
theorem dX6_readEvent_196 : decode cX6_readEvent 196 = .ok (.aload_n 1, 1) := by decide +kernel
theorem dX6_readEvent_197 : decode cX6_readEvent 197 = .ok (.getfield 115, 3) := by decide +kernel
theorem dX6_readEvent_200 : decode cX6_readEvent 200 = .ok (.iload_n 2, 1) := by decide +kernel
theorem dX6_readEvent_201 : decode cX6_readEvent 201 = .ok (.aload_n 0, 1) := by decide +kernel
theorem dX6_readEvent_202 : decode cX6_readEvent 202 = .ok (.iconst 0, 1) := by decide +kernel
theorem dX6_readEvent_203 : decode cX6_readEvent 203 = .ok (.aload_n 1, 1) := by decide +kernel
theorem dX6_readEvent_204 : decode cX6_readEvent 204 = .ok (.getfield 102, 3) := by decide +kernel
theorem dX6_readEvent_207 : decode cX6_readEvent 207 = .ok (.iconst 1, 1) := by decide +kernel
theorem dX6_readEvent_208 : decode cX6_readEvent 208 = .ok (.isub, 1) := by decide +kernel
theorem dX6_readEvent_209 : decode cX6_readEvent 209 = .ok (.invokevirtual 87, 3) := by decide +kernel
theorem dX6_readEvent_212 : decode cX6_readEvent 212 = .ok (.iastore, 1) := by decide +kernel
theorem dX6_readEvent_213 : decode cX6_readEvent 213 = .ok (.aload_n 1, 1) := by decide +kernel
theorem dX6_readEvent_214 : decode cX6_readEvent 214 = .ok (.getfield 120, 3) := by decide +kernel
theorem dX6_readEvent_217 : decode cX6_readEvent 217 = .ok (.iload_n 2, 1) := by decide +kernel
theorem dX6_readEvent_218 : decode cX6_readEvent 218 = .ok (.aload_n 0, 1) := by decide +kernel
theorem dX6_readEvent_219 : decode cX6_readEvent 219 = .ok (.iconst 0, 1) := by decide +kernel
theorem dX6_readEvent_220 : decode cX6_readEvent 220 = .ok (.iconst 2, 1) := by decide +kernel
theorem dX6_readEvent_221 : decode cX6_readEvent 221 = .ok (.invokevirtual 87, 3) := by decide +kernel
theorem dX6_readEvent_224 : decode cX6_readEvent 224 = .ok (.iastore, 1) := by decide +kernel
theorem dX6_readEvent_225 : decode cX6_readEvent 225 = .ok (.aload_n 1, 1) := by decide +kernel
theorem dX6_readEvent_226 : decode cX6_readEvent 226 = .ok (.getfield 123, 3) := by decide +kernel
theorem dX6_readEvent_229 : decode cX6_readEvent 229 = .ok (.iload_n 2, 1) := by decide +kernel
theorem dX6_readEvent_230 : decode cX6_readEvent 230 = .ok (.aload_n 0, 1) := by decide +kernel
theorem dX6_readEvent_231 : decode cX6_readEvent 231 = .ok (.iconst 1, 1) := by decide +kernel
theorem dX6_readEvent_232 : decode cX6_readEvent 232 = .ok (.bipush 99, 2) := by decide +kernel
theorem dX6_readEvent_234 : decode cX6_readEvent 234 = .ok (.invokevirtual 87, 3) := by decide +kernel
theorem dX6_readEvent_237 : decode cX6_readEvent 237 = .ok (.iastore, 1) := by decide +kernel
theorem dX6_readEvent_238 : decode cX6_readEvent 238 = .ok (.goto 108, 3) := by decide +kernel
theorem dX6_readEvent_241 : decode cX6_readEvent 241 = .ok (.aload_n 1, 1) := by decide +kernel
theorem dX6_readEvent_242 : decode cX6_readEvent 242 = .ok (.getfield 115, 3) := by decide +kernel
theorem dX6_readEvent_245 : decode cX6_readEvent 245 = .ok (.iload_n 2, 1) := by decide +kernel
theorem dX6_readEvent_246 : decode cX6_readEvent 246 = .ok (.aload_n 0, 1) := by decide +kernel
theorem dX6_readEvent_247 : decode cX6_readEvent 247 = .ok (.iconst 0, 1) := by decide +kernel
theorem dX6_readEvent_248 : decode cX6_readEvent 248 = .ok (.aload_n 1, 1) := by decide +kernel
theorem dX6_readEvent_249 : decode cX6_readEvent 249 = .ok (.getfield 102, 3) := by decide +kernel
theorem dX6_readEvent_252 : decode cX6_readEvent 252 = .ok (.iconst 1, 1) := by decide +kernel
theorem dX6_readEvent_253 : decode cX6_readEvent 253 = .ok (.isub, 1) := by decide +kernel
theorem dX6_readEvent_254 : decode cX6_readEvent 254 = .ok (.invokevirtual 87, 3) := by decide +kernel
theorem dX6_readEvent_257 : decode cX6_readEvent 257 = .ok (.iastore, 1) := by decide +kernel
theorem dX6_readEvent_258 : decode cX6_readEvent 258 = .ok (.aload_n 1, 1) := by decide +kernel
theorem dX6_readEvent_259 : decode cX6_readEvent 259 = .ok (.getfield 120, 3) := by decide +kernel
theorem dX6_readEvent_262 : decode cX6_readEvent 262 = .ok (.iload_n 2, 1) := by decide +kernel
theorem dX6_readEvent_263 : decode cX6_readEvent 263 = .ok (.aload_n 0, 1) := by decide +kernel
theorem dX6_readEvent_264 : decode cX6_readEvent 264 = .ok (.iconst 0, 1) := by decide +kernel
theorem dX6_readEvent_265 : decode cX6_readEvent 265 = .ok (.bipush 99, 2) := by decide +kernel
theorem dX6_readEvent_267 : decode cX6_readEvent 267 = .ok (.invokevirtual 87, 3) := by decide +kernel
theorem dX6_readEvent_270 : decode cX6_readEvent 270 = .ok (.iastore, 1) := by decide +kernel
theorem dX6_readEvent_271 : decode cX6_readEvent 271 = .ok (.goto 75, 3) := by decide +kernel
theorem dX6_readEvent_274 : decode cX6_readEvent 274 = .ok (.aload_n 1, 1) := by decide +kernel
theorem dX6_readEvent_275 : decode cX6_readEvent 275 = .ok (.getfield 115, 3) := by decide +kernel
theorem dX6_readEvent_278 : decode cX6_readEvent 278 = .ok (.iload_n 2, 1) := by decide +kernel
theorem dX6_readEvent_279 : decode cX6_readEvent 279 = .ok (.aload_n 0, 1) := by decide +kernel
theorem dX6_readEvent_280 : decode cX6_readEvent 280 = .ok (.iconst 0, 1) := by decide +kernel
theorem dX6_readEvent_281 : decode cX6_readEvent 281 = .ok (.iconst 2, 1) := by decide +kernel
theorem dX6_readEvent_282 : decode cX6_readEvent 282 = .ok (.invokevirtual 87, 3) := by decide +kernel
theorem dX6_readEvent_285 : decode cX6_readEvent 285 = .ok (.iastore, 1) := by decide +kernel
theorem dX6_readEvent_286 : decode cX6_readEvent 286 = .ok (.aload_n 1, 1) := by decide +kernel
theorem dX6_readEvent_287 : decode cX6_readEvent 287 = .ok (.getfield 120, 3) := by decide +kernel
theorem dX6_readEvent_290 : decode cX6_readEvent 290 = .ok (.iload_n 2, 1) := by decide +kernel
theorem dX6_readEvent_291 : decode cX6_readEvent 291 = .ok (.aload_n 0, 1) := by decide +kernel
theorem dX6_readEvent_292 : decode cX6_readEvent 292 = .ok (.iconst 1, 1) := by decide +kernel
theorem dX6_readEvent_293 : decode cX6_readEvent 293 = .ok (.bipush 99, 2) := by decide +kernel
theorem dX6_readEvent_295 : decode cX6_readEvent 295 = .ok (.invokevirtual 87, 3) := by decide +kernel
theorem dX6_readEvent_298 : decode cX6_readEvent 298 = .ok (.iastore, 1) := by decide +kernel
theorem dX6_readEvent_299 : decode cX6_readEvent 299 = .ok (.goto 47, 3) := by decide +kernel
theorem dX6_readEvent_302 : decode cX6_readEvent 302 = .ok (.aload_n 1, 1) := by decide +kernel
theorem dX6_readEvent_303 : decode cX6_readEvent 303 = .ok (.getfield 115, 3) := by decide +kernel
theorem dX6_readEvent_306 : decode cX6_readEvent 306 = .ok (.iload_n 2, 1) := by decide +kernel
theorem dX6_readEvent_307 : decode cX6_readEvent 307 = .ok (.aload_n 0, 1) := by decide +kernel
theorem dX6_readEvent_308 : decode cX6_readEvent 308 = .ok (.iconst 0, 1) := by decide +kernel
theorem dX6_readEvent_309 : decode cX6_readEvent 309 = .ok (.aload_n 1, 1) := by decide +kernel
theorem dX6_readEvent_310 : decode cX6_readEvent 310 = .ok (.getfield 53, 3) := by decide +kernel
theorem dX6_readEvent_313 : decode cX6_readEvent 313 = .ok (.iconst 1, 1) := by decide +kernel
theorem dX6_readEvent_314 : decode cX6_readEvent 314 = .ok (.isub, 1) := by decide +kernel
theorem dX6_readEvent_315 : decode cX6_readEvent 315 = .ok (.invokevirtual 87, 3) := by decide +kernel
theorem dX6_readEvent_318 : decode cX6_readEvent 318 = .ok (.iastore, 1) := by decide +kernel
theorem dX6_readEvent_319 : decode cX6_readEvent 319 = .ok (.goto 27, 3) := by decide +kernel
theorem dX6_readEvent_322 : decode cX6_readEvent 322 = .ok (.aload_n 1, 1) := by decide +kernel
theorem dX6_readEvent_323 : decode cX6_readEvent 323 = .ok (.getfield 115, 3) := by decide +kernel
theorem dX6_readEvent_326 : decode cX6_readEvent 326 = .ok (.iload_n 2, 1) := by decide +kernel
theorem dX6_readEvent_327 : decode cX6_readEvent 327 = .ok (.aload_n 0, 1) := by decide +kernel
theorem dX6_readEvent_328 : decode cX6_readEvent 328 = .ok (.iconst 0, 1) := by decide +kernel
theorem dX6_readEvent_329 : decode cX6_readEvent 329 = .ok (.iconst 4, 1) := by decide +kernel
theorem dX6_readEvent_330 : decode cX6_readEvent 330 = .ok (.invokevirtual 87, 3) := by decide +kernel
theorem dX6_readEvent_333 : decode cX6_readEvent 333 = .ok (.iastore, 1) := by decide +kernel
theorem dX6_readEvent_334 : decode cX6_readEvent 334 = .ok (.aload_n 1, 1) := by decide +kernel
theorem dX6_readEvent_335 : decode cX6_readEvent 335 = .ok (.getfield 120, 3) := by decide +kernel
theorem dX6_readEvent_338 : decode cX6_readEvent 338 = .ok (.iload_n 2, 1) := by decide +kernel
theorem dX6_readEvent_339 : decode cX6_readEvent 339 = .ok (.aload_n 0, 1) := by decide +kernel
theorem dX6_readEvent_340 : decode cX6_readEvent 340 = .ok (.iconst 0, 1) := by decide +kernel
theorem dX6_readEvent_341 : decode cX6_readEvent 341 = .ok (.iconst 2, 1) := by decide +kernel
theorem dX6_readEvent_342 : decode cX6_readEvent 342 = .ok (.invokevirtual 87, 3) := by decide +kernel
theorem dX6_readEvent_345 : decode cX6_readEvent 345 = .ok (.iastore, 1) := by decide +kernel
theorem dX6_readEvent_346 : decode cX6_readEvent 346 = .ok (.aload_n 0, 1) := by decide +kernel
theorem dX6_readEvent_347 : decode cX6_readEvent 347 = .ok (.invokevirtual 91, 3) := by decide +kernel
theorem dX6_readEvent_350 : decode cX6_readEvent 350 = .ok (.return_, 1) := by decide +kernel
theorem dX6_word_0 : decode cX6_word 0 = .ok (.aload_n 0, 1) := by decide +kernel
theorem dX6_word_1 : decode cX6_word 1 = .ok (.aload_n 1, 1) := by decide +kernel
theorem dX6_word_2 : decode cX6_word 2 = .ok (.invokevirtual 45, 3) := by decide +kernel
theorem dX6_word_5 : decode cX6_word 5 = .ok (.istore_n 2, 1) := by decide +kernel
theorem dX6_word_6 : decode cX6_word 6 = .ok (.iload_n 2, 1) := by decide +kernel
theorem dX6_word_7 : decode cX6_word 7 = .ok (.ifCond .ge 10, 3) := by decide +kernel
theorem dX6_word_10 : decode cX6_word 10 = .ok (.aload_n 0, 1) := by decide +kernel
theorem dX6_word_11 : decode cX6_word 11 = .ok (.iconst 1, 1) := by decide +kernel
theorem dX6_word_12 : decode cX6_word 12 = .ok (.invokevirtual 49, 3) := by decide +kernel
theorem dX6_word_15 : decode cX6_word 15 = .ok (.iconst 0, 1) := by decide +kernel
theorem dX6_word_16 : decode cX6_word 16 = .ok (.ireturn, 1) := by decide +kernel
theorem dX6_word_17 : decode cX6_word 17 = .ok (.aload_n 0, 1) := by decide +kernel
theorem dX6_word_18 : decode cX6_word 18 = .ok (.invokevirtual 33, 3) := by decide +kernel
theorem dX6_word_21 : decode cX6_word 21 = .ok (.iload_n 2, 1) := by decide +kernel
theorem dX6_word_22 : decode cX6_word 22 = .ok (.ireturn, 1) := by decide +kernel
theorem dX6_number_0 : decode cX6_number 0 = .ok (.aload_n 0, 1) := by decide +kernel
theorem dX6_number_1 : decode cX6_number 1 = .ok (.getfield 126, 3) := by decide +kernel
theorem dX6_number_4 : decode cX6_number 4 = .ok (.istore_n 3, 1) := by decide +kernel
theorem dX6_number_5 : decode cX6_number 5 = .ok (.aload_n 0, 1) := by decide +kernel
theorem dX6_number_6 : decode cX6_number 6 = .ok (.getfield 94, 3) := by decide +kernel
theorem dX6_number_9 : decode cX6_number 9 = .ok (.iconst 2, 1) := by decide +kernel
theorem dX6_number_10 : decode cX6_number 10 = .ok (.if_icmp .eq 10, 3) := by decide +kernel
theorem dX6_number_13 : decode cX6_number 13 = .ok (.aload_n 0, 1) := by decide +kernel
theorem dX6_number_14 : decode cX6_number 14 = .ok (.iconst 1, 1) := by decide +kernel
theorem dX6_number_15 : decode cX6_number 15 = .ok (.invokevirtual 49, 3) := by decide +kernel
theorem dX6_number_18 : decode cX6_number 18 = .ok (.iconst 0, 1) := by decide +kernel
theorem dX6_number_19 : decode cX6_number 19 = .ok (.ireturn, 1) := by decide +kernel
theorem dX6_number_20 : decode cX6_number 20 = .ok (.iload_n 3, 1) := by decide +kernel
theorem dX6_number_21 : decode cX6_number 21 = .ok (.iload_n 1, 1) := by decide +kernel
theorem dX6_number_22 : decode cX6_number 22 = .ok (.if_icmp .lt 8, 3) := by decide +kernel
theorem dX6_number_25 : decode cX6_number 25 = .ok (.iload_n 3, 1) := by decide +kernel
theorem dX6_number_26 : decode cX6_number 26 = .ok (.iload_n 2, 1) := by decide +kernel
theorem dX6_number_27 : decode cX6_number 27 = .ok (.if_icmp .le 10, 3) := by decide +kernel
theorem dX6_number_30 : decode cX6_number 30 = .ok (.aload_n 0, 1) := by decide +kernel
theorem dX6_number_31 : decode cX6_number 31 = .ok (.iconst 2, 1) := by decide +kernel
theorem dX6_number_32 : decode cX6_number 32 = .ok (.invokevirtual 49, 3) := by decide +kernel
theorem dX6_number_35 : decode cX6_number 35 = .ok (.iconst 0, 1) := by decide +kernel
theorem dX6_number_36 : decode cX6_number 36 = .ok (.ireturn, 1) := by decide +kernel
theorem dX6_number_37 : decode cX6_number 37 = .ok (.aload_n 0, 1) := by decide +kernel
theorem dX6_number_38 : decode cX6_number 38 = .ok (.invokevirtual 33, 3) := by decide +kernel
theorem dX6_number_41 : decode cX6_number 41 = .ok (.iload_n 3, 1) := by decide +kernel
theorem dX6_number_42 : decode cX6_number 42 = .ok (.ireturn, 1) := by decide +kernel
theorem dX6_semicolon_0 : decode cX6_semicolon 0 = .ok (.aload_n 0, 1) := by decide +kernel
theorem dX6_semicolon_1 : decode cX6_semicolon 1 = .ok (.getfield 94, 3) := by decide +kernel
theorem dX6_semicolon_4 : decode cX6_semicolon 4 = .ok (.iconst 3, 1) := by decide +kernel
theorem dX6_semicolon_5 : decode cX6_semicolon 5 = .ok (.if_icmp .ne 10, 3) := by decide +kernel
theorem dX6_semicolon_8 : decode cX6_semicolon 8 = .ok (.aload_n 0, 1) := by decide +kernel
theorem dX6_semicolon_9 : decode cX6_semicolon 9 = .ok (.invokevirtual 33, 3) := by decide +kernel
theorem dX6_semicolon_12 : decode cX6_semicolon 12 = .ok (.goto 8, 3) := by decide +kernel
theorem dX6_semicolon_15 : decode cX6_semicolon 15 = .ok (.aload_n 0, 1) := by decide +kernel
theorem dX6_semicolon_16 : decode cX6_semicolon 16 = .ok (.iconst 1, 1) := by decide +kernel
theorem dX6_semicolon_17 : decode cX6_semicolon 17 = .ok (.invokevirtual 49, 3) := by decide +kernel
theorem dX6_semicolon_20 : decode cX6_semicolon 20 = .ok (.return_, 1) := by decide +kernel
theorem dX6_fail_0 : decode cX6_fail 0 = .ok (.aload_n 0, 1) := by decide +kernel
theorem dX6_fail_1 : decode cX6_fail 1 = .ok (.getfield 24, 3) := by decide +kernel
theorem dX6_fail_4 : decode cX6_fail 4 = .ok (.ifCond .ne 16, 3) := by decide +kernel
theorem dX6_fail_7 : decode cX6_fail 7 = .ok (.aload_n 0, 1) := by decide +kernel
theorem dX6_fail_8 : decode cX6_fail 8 = .ok (.iload_n 1, 1) := by decide +kernel
theorem dX6_fail_9 : decode cX6_fail 9 = .ok (.putfield 24, 3) := by decide +kernel
theorem dX6_fail_12 : decode cX6_fail 12 = .ok (.aload_n 0, 1) := by decide +kernel
theorem dX6_fail_13 : decode cX6_fail 13 = .ok (.aload_n 0, 1) := by decide +kernel
theorem dX6_fail_14 : decode cX6_fail 14 = .ok (.getfield 129, 3) := by decide +kernel
theorem dX6_fail_17 : decode cX6_fail 17 = .ok (.putfield 27, 3) := by decide +kernel
theorem dX6_fail_20 : decode cX6_fail 20 = .ok (.return_, 1) := by decide +kernel
theorem dX6_choice_0 : decode cX6_choice 0 = .ok (.aload_n 0, 1) := by decide +kernel
theorem dX6_choice_1 : decode cX6_choice 1 = .ok (.getfield 94, 3) := by decide +kernel
theorem dX6_choice_4 : decode cX6_choice 4 = .ok (.iconst 1, 1) := by decide +kernel
theorem dX6_choice_5 : decode cX6_choice 5 = .ok (.if_icmp .eq 5, 3) := by decide +kernel
theorem dX6_choice_8 : decode cX6_choice 8 = .ok (.iconst (-1), 1) := by decide +kernel
theorem dX6_choice_9 : decode cX6_choice 9 = .ok (.ireturn, 1) := by decide +kernel
theorem dX6_choice_10 : decode cX6_choice 10 = .ok (.iconst 0, 1) := by decide +kernel
theorem dX6_choice_11 : decode cX6_choice 11 = .ok (.istore_n 2, 1) := by decide +kernel
theorem dX6_choice_12 : decode cX6_choice 12 = .ok (.iconst 0, 1) := by decide +kernel
theorem dX6_choice_13 : decode cX6_choice 13 = .ok (.istore_n 3, 1) := by decide +kernel
theorem dX6_choice_14 : decode cX6_choice 14 = .ok (.iconst 0, 1) := by decide +kernel
theorem dX6_choice_15 : decode cX6_choice 15 = .ok (.istore 4, 2) := by decide +kernel
theorem dX6_choice_17 : decode cX6_choice 17 = .ok (.iload 4, 2) := by decide +kernel
theorem dX6_choice_19 : decode cX6_choice 19 = .ok (.aload_n 1, 1) := by decide +kernel
theorem dX6_choice_20 : decode cX6_choice 20 = .ok (.invokevirtual 132, 3) := by decide +kernel
theorem dX6_choice_23 : decode cX6_choice 23 = .ok (.if_icmp .gt 50, 3) := by decide +kernel
theorem dX6_choice_26 : decode cX6_choice 26 = .ok (.iload 4, 2) := by decide +kernel
theorem dX6_choice_28 : decode cX6_choice 28 = .ok (.aload_n 1, 1) := by decide +kernel
theorem dX6_choice_29 : decode cX6_choice 29 = .ok (.invokevirtual 132, 3) := by decide +kernel
theorem dX6_choice_32 : decode cX6_choice 32 = .ok (.if_icmp .eq 14, 3) := by decide +kernel
theorem dX6_choice_35 : decode cX6_choice 35 = .ok (.aload_n 1, 1) := by decide +kernel
theorem dX6_choice_36 : decode cX6_choice 36 = .ok (.iload 4, 2) := by decide +kernel
theorem dX6_choice_38 : decode cX6_choice 38 = .ok (.invokevirtual 137, 3) := by decide +kernel
theorem dX6_choice_41 : decode cX6_choice 41 = .ok (.bipush 32, 2) := by decide +kernel
theorem dX6_choice_43 : decode cX6_choice 43 = .ok (.if_icmp .ne 24, 3) := by decide +kernel
theorem dX6_choice_46 : decode cX6_choice 46 = .ok (.aload_n 0, 1) := by decide +kernel
theorem dX6_choice_47 : decode cX6_choice 47 = .ok (.aload_n 1, 1) := by decide +kernel
theorem dX6_choice_48 : decode cX6_choice 48 = .ok (.iload_n 3, 1) := by decide +kernel
theorem dX6_choice_49 : decode cX6_choice 49 = .ok (.iload 4, 2) := by decide +kernel
theorem dX6_choice_51 : decode cX6_choice 51 = .ok (.invokevirtual 141, 3) := by decide +kernel
theorem dX6_choice_54 : decode cX6_choice 54 = .ok (.ifCond .eq 5, 3) := by decide +kernel
theorem dX6_choice_57 : decode cX6_choice 57 = .ok (.iload_n 2, 1) := by decide +kernel
theorem dX6_choice_58 : decode cX6_choice 58 = .ok (.ireturn, 1) := by decide +kernel
theorem dX6_choice_59 : decode cX6_choice 59 = .ok (.iinc 2 1, 3) := by decide +kernel
theorem dX6_choice_62 : decode cX6_choice 62 = .ok (.iload 4, 2) := by decide +kernel
theorem dX6_choice_64 : decode cX6_choice 64 = .ok (.iconst 1, 1) := by decide +kernel
theorem dX6_choice_65 : decode cX6_choice 65 = .ok (.iadd, 1) := by decide +kernel
theorem dX6_choice_66 : decode cX6_choice 66 = .ok (.istore_n 3, 1) := by decide +kernel
theorem dX6_choice_67 : decode cX6_choice 67 = .ok (.iinc 4 1, 3) := by decide +kernel
theorem dX6_choice_70 : decode cX6_choice 70 = .ok (.goto (-53), 3) := by decide +kernel
theorem dX6_choice_73 : decode cX6_choice 73 = .ok (.iconst (-1), 1) := by decide +kernel
theorem dX6_choice_74 : decode cX6_choice 74 = .ok (.ireturn, 1) := by decide +kernel
theorem dX6_isWord_0 : decode cX6_isWord 0 = .ok (.iload_n 3, 1) := by decide +kernel
theorem dX6_isWord_1 : decode cX6_isWord 1 = .ok (.iload_n 2, 1) := by decide +kernel
theorem dX6_isWord_2 : decode cX6_isWord 2 = .ok (.isub, 1) := by decide +kernel
theorem dX6_isWord_3 : decode cX6_isWord 3 = .ok (.aload_n 0, 1) := by decide +kernel
theorem dX6_isWord_4 : decode cX6_isWord 4 = .ok (.getfield 30, 3) := by decide +kernel
theorem dX6_isWord_7 : decode cX6_isWord 7 = .ok (.aload_n 0, 1) := by decide +kernel
theorem dX6_isWord_8 : decode cX6_isWord 8 = .ok (.getfield 129, 3) := by decide +kernel
theorem dX6_isWord_11 : decode cX6_isWord 11 = .ok (.isub, 1) := by decide +kernel
theorem dX6_isWord_12 : decode cX6_isWord 12 = .ok (.if_icmp .eq 5, 3) := by decide +kernel
theorem dX6_isWord_15 : decode cX6_isWord 15 = .ok (.iconst 0, 1) := by decide +kernel
theorem dX6_isWord_16 : decode cX6_isWord 16 = .ok (.ireturn, 1) := by decide +kernel
theorem dX6_isWord_17 : decode cX6_isWord 17 = .ok (.iload_n 2, 1) := by decide +kernel
theorem dX6_isWord_18 : decode cX6_isWord 18 = .ok (.istore 4, 2) := by decide +kernel
theorem dX6_isWord_20 : decode cX6_isWord 20 = .ok (.iload 4, 2) := by decide +kernel
theorem dX6_isWord_22 : decode cX6_isWord 22 = .ok (.iload_n 3, 1) := by decide +kernel
theorem dX6_isWord_23 : decode cX6_isWord 23 = .ok (.if_icmp .ge 34, 3) := by decide +kernel
theorem dX6_isWord_26 : decode cX6_isWord 26 = .ok (.aload_n 1, 1) := by decide +kernel
theorem dX6_isWord_27 : decode cX6_isWord 27 = .ok (.iload 4, 2) := by decide +kernel
theorem dX6_isWord_29 : decode cX6_isWord 29 = .ok (.invokevirtual 137, 3) := by decide +kernel
theorem dX6_isWord_32 : decode cX6_isWord 32 = .ok (.aload_n 0, 1) := by decide +kernel
theorem dX6_isWord_33 : decode cX6_isWord 33 = .ok (.getfield 9, 3) := by decide +kernel
theorem dX6_isWord_36 : decode cX6_isWord 36 = .ok (.aload_n 0, 1) := by decide +kernel
theorem dX6_isWord_37 : decode cX6_isWord 37 = .ok (.getfield 129, 3) := by decide +kernel
theorem dX6_isWord_40 : decode cX6_isWord 40 = .ok (.iload 4, 2) := by decide +kernel
theorem dX6_isWord_42 : decode cX6_isWord 42 = .ok (.iadd, 1) := by decide +kernel
theorem dX6_isWord_43 : decode cX6_isWord 43 = .ok (.iload_n 2, 1) := by decide +kernel
theorem dX6_isWord_44 : decode cX6_isWord 44 = .ok (.isub, 1) := by decide +kernel
theorem dX6_isWord_45 : decode cX6_isWord 45 = .ok (.baload, 1) := by decide +kernel
theorem dX6_isWord_46 : decode cX6_isWord 46 = .ok (.if_icmp .eq 5, 3) := by decide +kernel
theorem dX6_isWord_49 : decode cX6_isWord 49 = .ok (.iconst 0, 1) := by decide +kernel
theorem dX6_isWord_50 : decode cX6_isWord 50 = .ok (.ireturn, 1) := by decide +kernel
theorem dX6_isWord_51 : decode cX6_isWord 51 = .ok (.iinc 4 1, 3) := by decide +kernel
theorem dX6_isWord_54 : decode cX6_isWord 54 = .ok (.goto (-34), 3) := by decide +kernel
theorem dX6_isWord_57 : decode cX6_isWord 57 = .ok (.iconst 1, 1) := by decide +kernel
theorem dX6_isWord_58 : decode cX6_isWord 58 = .ok (.ireturn, 1) := by decide +kernel
theorem dX6_step_0 : decode cX6_step 0 = .ok (.aload_n 0, 1) := by decide +kernel
theorem dX6_step_1 : decode cX6_step 1 = .ok (.getfield 24, 3) := by decide +kernel
theorem dX6_step_4 : decode cX6_step 4 = .ok (.ifCond .eq 4, 3) := by decide +kernel
theorem dX6_step_7 : decode cX6_step 7 = .ok (.return_, 1) := by decide +kernel
theorem dX6_step_8 : decode cX6_step 8 = .ok (.aload_n 0, 1) := by decide +kernel
theorem dX6_step_9 : decode cX6_step 9 = .ok (.aload_n 0, 1) := by decide +kernel
theorem dX6_step_10 : decode cX6_step 10 = .ok (.getfield 30, 3) := by decide +kernel
theorem dX6_step_13 : decode cX6_step 13 = .ok (.putfield 129, 3) := by decide +kernel
theorem dX6_step_16 : decode cX6_step 16 = .ok (.aload_n 0, 1) := by decide +kernel
theorem dX6_step_17 : decode cX6_step 17 = .ok (.getfield 129, 3) := by decide +kernel
theorem dX6_step_20 : decode cX6_step 20 = .ok (.aload_n 0, 1) := by decide +kernel
theorem dX6_step_21 : decode cX6_step 21 = .ok (.getfield 15, 3) := by decide +kernel
theorem dX6_step_24 : decode cX6_step 24 = .ok (.if_icmp .ge 44, 3) := by decide +kernel
theorem dX6_step_27 : decode cX6_step 27 = .ok (.aload_n 0, 1) := by decide +kernel
theorem dX6_step_28 : decode cX6_step 28 = .ok (.getfield 9, 3) := by decide +kernel
theorem dX6_step_31 : decode cX6_step 31 = .ok (.aload_n 0, 1) := by decide +kernel
theorem dX6_step_32 : decode cX6_step 32 = .ok (.getfield 129, 3) := by decide +kernel
theorem dX6_step_35 : decode cX6_step 35 = .ok (.baload, 1) := by decide +kernel
theorem dX6_step_36 : decode cX6_step 36 = .ok (.bipush 32, 2) := by decide +kernel
theorem dX6_step_38 : decode cX6_step 38 = .ok (.if_icmp .eq 17, 3) := by decide +kernel
theorem dX6_step_41 : decode cX6_step 41 = .ok (.aload_n 0, 1) := by decide +kernel
theorem dX6_step_42 : decode cX6_step 42 = .ok (.getfield 9, 3) := by decide +kernel
theorem dX6_step_45 : decode cX6_step 45 = .ok (.aload_n 0, 1) := by decide +kernel
theorem dX6_step_46 : decode cX6_step 46 = .ok (.getfield 129, 3) := by decide +kernel
theorem dX6_step_49 : decode cX6_step 49 = .ok (.baload, 1) := by decide +kernel
theorem dX6_step_50 : decode cX6_step 50 = .ok (.bipush 10, 2) := by decide +kernel
theorem dX6_step_52 : decode cX6_step 52 = .ok (.if_icmp .ne 16, 3) := by decide +kernel
theorem dX6_step_55 : decode cX6_step 55 = .ok (.aload_n 0, 1) := by decide +kernel
theorem dX6_step_56 : decode cX6_step 56 = .ok (.dup, 1) := by decide +kernel
theorem dX6_step_57 : decode cX6_step 57 = .ok (.getfield 129, 3) := by decide +kernel
theorem dX6_step_60 : decode cX6_step 60 = .ok (.iconst 1, 1) := by decide +kernel
theorem dX6_step_61 : decode cX6_step 61 = .ok (.iadd, 1) := by decide +kernel
theorem dX6_step_62 : decode cX6_step 62 = .ok (.putfield 129, 3) := by decide +kernel
theorem dX6_step_65 : decode cX6_step 65 = .ok (.goto (-49), 3) := by decide +kernel
theorem dX6_step_68 : decode cX6_step 68 = .ok (.aload_n 0, 1) := by decide +kernel
theorem dX6_step_69 : decode cX6_step 69 = .ok (.getfield 129, 3) := by decide +kernel
theorem dX6_step_72 : decode cX6_step 72 = .ok (.aload_n 0, 1) := by decide +kernel
theorem dX6_step_73 : decode cX6_step 73 = .ok (.getfield 15, 3) := by decide +kernel
theorem dX6_step_76 : decode cX6_step 76 = .ok (.if_icmp .lt 19, 3) := by decide +kernel
theorem dX6_step_79 : decode cX6_step 79 = .ok (.aload_n 0, 1) := by decide +kernel
theorem dX6_step_80 : decode cX6_step 80 = .ok (.iconst 0, 1) := by decide +kernel
theorem dX6_step_81 : decode cX6_step 81 = .ok (.putfield 94, 3) := by decide +kernel
theorem dX6_step_84 : decode cX6_step 84 = .ok (.aload_n 0, 1) := by decide +kernel
theorem dX6_step_85 : decode cX6_step 85 = .ok (.aload_n 0, 1) := by decide +kernel
theorem dX6_step_86 : decode cX6_step 86 = .ok (.getfield 129, 3) := by decide +kernel
theorem dX6_step_89 : decode cX6_step 89 = .ok (.putfield 30, 3) := by decide +kernel
theorem dX6_step_92 : decode cX6_step 92 = .ok (.goto 121, 3) := by decide +kernel
theorem dX6_step_95 : decode cX6_step 95 = .ok (.aload_n 0, 1) := by decide +kernel
theorem dX6_step_96 : decode cX6_step 96 = .ok (.getfield 9, 3) := by decide +kernel
theorem dX6_step_99 : decode cX6_step 99 = .ok (.aload_n 0, 1) := by decide +kernel
theorem dX6_step_100 : decode cX6_step 100 = .ok (.getfield 129, 3) := by decide +kernel
theorem dX6_step_103 : decode cX6_step 103 = .ok (.baload, 1) := by decide +kernel
theorem dX6_step_104 : decode cX6_step 104 = .ok (.bipush 97, 2) := by decide +kernel
theorem dX6_step_106 : decode cX6_step 106 = .ok (.bipush 122, 2) := by decide +kernel
theorem dX6_step_108 : decode cX6_step 108 = .ok (.invokestatic 145, 3) := by decide +kernel
theorem dX6_step_111 : decode cX6_step 111 = .ok (.ifCond .eq 27, 3) := by decide +kernel
theorem dX6_step_114 : decode cX6_step 114 = .ok (.aload_n 0, 1) := by decide +kernel
theorem dX6_step_115 : decode cX6_step 115 = .ok (.iconst 1, 1) := by decide +kernel
theorem dX6_step_116 : decode cX6_step 116 = .ok (.putfield 94, 3) := by decide +kernel
theorem dX6_step_119 : decode cX6_step 119 = .ok (.aload_n 0, 1) := by decide +kernel
theorem dX6_step_120 : decode cX6_step 120 = .ok (.aload_n 0, 1) := by decide +kernel
theorem dX6_step_121 : decode cX6_step 121 = .ok (.aload_n 0, 1) := by decide +kernel
theorem dX6_step_122 : decode cX6_step 122 = .ok (.getfield 129, 3) := by decide +kernel
theorem dX6_step_125 : decode cX6_step 125 = .ok (.bipush 97, 2) := by decide +kernel
theorem dX6_step_127 : decode cX6_step 127 = .ok (.bipush 122, 2) := by decide +kernel
theorem dX6_step_129 : decode cX6_step 129 = .ok (.invokevirtual 149, 3) := by decide +kernel
theorem dX6_step_132 : decode cX6_step 132 = .ok (.putfield 30, 3) := by decide +kernel
theorem dX6_step_135 : decode cX6_step 135 = .ok (.goto 78, 3) := by decide +kernel
theorem dX6_step_138 : decode cX6_step 138 = .ok (.aload_n 0, 1) := by decide +kernel
theorem dX6_step_139 : decode cX6_step 139 = .ok (.getfield 9, 3) := by decide +kernel
theorem dX6_step_142 : decode cX6_step 142 = .ok (.aload_n 0, 1) := by decide +kernel
theorem dX6_step_143 : decode cX6_step 143 = .ok (.getfield 129, 3) := by decide +kernel
theorem dX6_step_146 : decode cX6_step 146 = .ok (.baload, 1) := by decide +kernel
theorem dX6_step_147 : decode cX6_step 147 = .ok (.bipush 48, 2) := by decide +kernel
theorem dX6_step_149 : decode cX6_step 149 = .ok (.bipush 57, 2) := by decide +kernel
theorem dX6_step_151 : decode cX6_step 151 = .ok (.invokestatic 145, 3) := by decide +kernel
theorem dX6_step_154 : decode cX6_step 154 = .ok (.ifCond .eq 26, 3) := by decide +kernel
theorem dX6_step_157 : decode cX6_step 157 = .ok (.aload_n 0, 1) := by decide +kernel
theorem dX6_step_158 : decode cX6_step 158 = .ok (.aload_n 0, 1) := by decide +kernel
theorem dX6_step_159 : decode cX6_step 159 = .ok (.aload_n 0, 1) := by decide +kernel
theorem dX6_step_160 : decode cX6_step 160 = .ok (.getfield 129, 3) := by decide +kernel
theorem dX6_step_163 : decode cX6_step 163 = .ok (.bipush 48, 2) := by decide +kernel
theorem dX6_step_165 : decode cX6_step 165 = .ok (.bipush 57, 2) := by decide +kernel
theorem dX6_step_167 : decode cX6_step 167 = .ok (.invokevirtual 149, 3) := by decide +kernel
theorem dX6_step_170 : decode cX6_step 170 = .ok (.putfield 30, 3) := by decide +kernel
theorem dX6_step_173 : decode cX6_step 173 = .ok (.aload_n 0, 1) := by decide +kernel
theorem dX6_step_174 : decode cX6_step 174 = .ok (.invokevirtual 153, 3) := by decide +kernel
theorem dX6_step_177 : decode cX6_step 177 = .ok (.goto 36, 3) := by decide +kernel
theorem dX6_step_180 : decode cX6_step 180 = .ok (.aload_n 0, 1) := by decide +kernel
theorem dX6_step_181 : decode cX6_step 181 = .ok (.aload_n 0, 1) := by decide +kernel
theorem dX6_step_182 : decode cX6_step 182 = .ok (.getfield 9, 3) := by decide +kernel
theorem dX6_step_185 : decode cX6_step 185 = .ok (.aload_n 0, 1) := by decide +kernel
theorem dX6_step_186 : decode cX6_step 186 = .ok (.getfield 129, 3) := by decide +kernel
theorem dX6_step_189 : decode cX6_step 189 = .ok (.baload, 1) := by decide +kernel
theorem dX6_step_190 : decode cX6_step 190 = .ok (.bipush 59, 2) := by decide +kernel
theorem dX6_step_192 : decode cX6_step 192 = .ok (.if_icmp .ne 7, 3) := by decide +kernel
theorem dX6_step_195 : decode cX6_step 195 = .ok (.iconst 3, 1) := by decide +kernel
theorem dX6_step_196 : decode cX6_step 196 = .ok (.goto 4, 3) := by decide +kernel
theorem dX6_step_199 : decode cX6_step 199 = .ok (.iconst 4, 1) := by decide +kernel
theorem dX6_step_200 : decode cX6_step 200 = .ok (.putfield 94, 3) := by decide +kernel
theorem dX6_step_203 : decode cX6_step 203 = .ok (.aload_n 0, 1) := by decide +kernel
theorem dX6_step_204 : decode cX6_step 204 = .ok (.aload_n 0, 1) := by decide +kernel
theorem dX6_step_205 : decode cX6_step 205 = .ok (.getfield 129, 3) := by decide +kernel
theorem dX6_step_208 : decode cX6_step 208 = .ok (.iconst 1, 1) := by decide +kernel
theorem dX6_step_209 : decode cX6_step 209 = .ok (.iadd, 1) := by decide +kernel
theorem dX6_step_210 : decode cX6_step 210 = .ok (.putfield 30, 3) := by decide +kernel
theorem dX6_step_213 : decode cX6_step 213 = .ok (.return_, 1) := by decide +kernel
theorem dX6_takeNumber_0 : decode cX6_takeNumber 0 = .ok (.aload_n 0, 1) := by decide +kernel
theorem dX6_takeNumber_1 : decode cX6_takeNumber 1 = .ok (.iconst 0, 1) := by decide +kernel
theorem dX6_takeNumber_2 : decode cX6_takeNumber 2 = .ok (.putfield 126, 3) := by decide +kernel
theorem dX6_takeNumber_5 : decode cX6_takeNumber 5 = .ok (.aload_n 0, 1) := by decide +kernel
theorem dX6_takeNumber_6 : decode cX6_takeNumber 6 = .ok (.getfield 30, 3) := by decide +kernel
theorem dX6_takeNumber_9 : decode cX6_takeNumber 9 = .ok (.aload_n 0, 1) := by decide +kernel
theorem dX6_takeNumber_10 : decode cX6_takeNumber 10 = .ok (.getfield 129, 3) := by decide +kernel
theorem dX6_takeNumber_13 : decode cX6_takeNumber 13 = .ok (.isub, 1) := by decide +kernel
theorem dX6_takeNumber_14 : decode cX6_takeNumber 14 = .ok (.iconst 3, 1) := by decide +kernel
theorem dX6_takeNumber_15 : decode cX6_takeNumber 15 = .ok (.if_icmp .le 9, 3) := by decide +kernel
theorem dX6_takeNumber_18 : decode cX6_takeNumber 18 = .ok (.aload_n 0, 1) := by decide +kernel
theorem dX6_takeNumber_19 : decode cX6_takeNumber 19 = .ok (.iconst 4, 1) := by decide +kernel
theorem dX6_takeNumber_20 : decode cX6_takeNumber 20 = .ok (.putfield 94, 3) := by decide +kernel
theorem dX6_takeNumber_23 : decode cX6_takeNumber 23 = .ok (.return_, 1) := by decide +kernel
theorem dX6_takeNumber_24 : decode cX6_takeNumber 24 = .ok (.aload_n 0, 1) := by decide +kernel
theorem dX6_takeNumber_25 : decode cX6_takeNumber 25 = .ok (.iconst 2, 1) := by decide +kernel
theorem dX6_takeNumber_26 : decode cX6_takeNumber 26 = .ok (.putfield 94, 3) := by decide +kernel
theorem dX6_takeNumber_29 : decode cX6_takeNumber 29 = .ok (.aload_n 0, 1) := by decide +kernel
theorem dX6_takeNumber_30 : decode cX6_takeNumber 30 = .ok (.getfield 129, 3) := by decide +kernel
theorem dX6_takeNumber_33 : decode cX6_takeNumber 33 = .ok (.istore_n 1, 1) := by decide +kernel
theorem dX6_takeNumber_34 : decode cX6_takeNumber 34 = .ok (.iload_n 1, 1) := by decide +kernel
theorem dX6_takeNumber_35 : decode cX6_takeNumber 35 = .ok (.aload_n 0, 1) := by decide +kernel
theorem dX6_takeNumber_36 : decode cX6_takeNumber 36 = .ok (.getfield 30, 3) := by decide +kernel
theorem dX6_takeNumber_39 : decode cX6_takeNumber 39 = .ok (.if_icmp .ge 30, 3) := by decide +kernel
theorem dX6_takeNumber_42 : decode cX6_takeNumber 42 = .ok (.aload_n 0, 1) := by decide +kernel
theorem dX6_takeNumber_43 : decode cX6_takeNumber 43 = .ok (.aload_n 0, 1) := by decide +kernel
theorem dX6_takeNumber_44 : decode cX6_takeNumber 44 = .ok (.getfield 126, 3) := by decide +kernel
theorem dX6_takeNumber_47 : decode cX6_takeNumber 47 = .ok (.bipush 10, 2) := by decide +kernel
theorem dX6_takeNumber_49 : decode cX6_takeNumber 49 = .ok (.imul, 1) := by decide +kernel
theorem dX6_takeNumber_50 : decode cX6_takeNumber 50 = .ok (.aload_n 0, 1) := by decide +kernel
theorem dX6_takeNumber_51 : decode cX6_takeNumber 51 = .ok (.getfield 9, 3) := by decide +kernel
theorem dX6_takeNumber_54 : decode cX6_takeNumber 54 = .ok (.iload_n 1, 1) := by decide +kernel
theorem dX6_takeNumber_55 : decode cX6_takeNumber 55 = .ok (.baload, 1) := by decide +kernel
theorem dX6_takeNumber_56 : decode cX6_takeNumber 56 = .ok (.bipush 48, 2) := by decide +kernel
theorem dX6_takeNumber_58 : decode cX6_takeNumber 58 = .ok (.isub, 1) := by decide +kernel
theorem dX6_takeNumber_59 : decode cX6_takeNumber 59 = .ok (.iadd, 1) := by decide +kernel
theorem dX6_takeNumber_60 : decode cX6_takeNumber 60 = .ok (.putfield 126, 3) := by decide +kernel
theorem dX6_takeNumber_63 : decode cX6_takeNumber 63 = .ok (.iinc 1 1, 3) := by decide +kernel
theorem dX6_takeNumber_66 : decode cX6_takeNumber 66 = .ok (.goto (-32), 3) := by decide +kernel
theorem dX6_takeNumber_69 : decode cX6_takeNumber 69 = .ok (.return_, 1) := by decide +kernel
theorem dX6_isIn_0 : decode cX6_isIn 0 = .ok (.iload_n 0, 1) := by decide +kernel
theorem dX6_isIn_1 : decode cX6_isIn 1 = .ok (.iload_n 1, 1) := by decide +kernel
theorem dX6_isIn_2 : decode cX6_isIn 2 = .ok (.if_icmp .lt 12, 3) := by decide +kernel
theorem dX6_isIn_5 : decode cX6_isIn 5 = .ok (.iload_n 0, 1) := by decide +kernel
theorem dX6_isIn_6 : decode cX6_isIn 6 = .ok (.iload_n 2, 1) := by decide +kernel
theorem dX6_isIn_7 : decode cX6_isIn 7 = .ok (.if_icmp .gt 7, 3) := by decide +kernel
theorem dX6_isIn_10 : decode cX6_isIn 10 = .ok (.iconst 1, 1) := by decide +kernel
theorem dX6_isIn_11 : decode cX6_isIn 11 = .ok (.goto 4, 3) := by decide +kernel
theorem dX6_isIn_14 : decode cX6_isIn 14 = .ok (.iconst 0, 1) := by decide +kernel
theorem dX6_isIn_15 : decode cX6_isIn 15 = .ok (.ireturn, 1) := by decide +kernel
theorem dX6_behindRun_0 : decode cX6_behindRun 0 = .ok (.iload_n 1, 1) := by decide +kernel
theorem dX6_behindRun_1 : decode cX6_behindRun 1 = .ok (.istore 4, 2) := by decide +kernel
theorem dX6_behindRun_3 : decode cX6_behindRun 3 = .ok (.iload 4, 2) := by decide +kernel
theorem dX6_behindRun_5 : decode cX6_behindRun 5 = .ok (.aload_n 0, 1) := by decide +kernel
theorem dX6_behindRun_6 : decode cX6_behindRun 6 = .ok (.getfield 15, 3) := by decide +kernel
theorem dX6_behindRun_9 : decode cX6_behindRun 9 = .ok (.if_icmp .ge 31, 3) := by decide +kernel
theorem dX6_behindRun_12 : decode cX6_behindRun 12 = .ok (.aload_n 0, 1) := by decide +kernel
theorem dX6_behindRun_13 : decode cX6_behindRun 13 = .ok (.getfield 9, 3) := by decide +kernel
theorem dX6_behindRun_16 : decode cX6_behindRun 16 = .ok (.iload 4, 2) := by decide +kernel
theorem dX6_behindRun_18 : decode cX6_behindRun 18 = .ok (.baload, 1) := by decide +kernel
theorem dX6_behindRun_19 : decode cX6_behindRun 19 = .ok (.iload_n 2, 1) := by decide +kernel
theorem dX6_behindRun_20 : decode cX6_behindRun 20 = .ok (.if_icmp .lt 20, 3) := by decide +kernel
theorem dX6_behindRun_23 : decode cX6_behindRun 23 = .ok (.aload_n 0, 1) := by decide +kernel
theorem dX6_behindRun_24 : decode cX6_behindRun 24 = .ok (.getfield 9, 3) := by decide +kernel
theorem dX6_behindRun_27 : decode cX6_behindRun 27 = .ok (.iload 4, 2) := by decide +kernel
theorem dX6_behindRun_29 : decode cX6_behindRun 29 = .ok (.baload, 1) := by decide +kernel
theorem dX6_behindRun_30 : decode cX6_behindRun 30 = .ok (.iload_n 3, 1) := by decide +kernel
theorem dX6_behindRun_31 : decode cX6_behindRun 31 = .ok (.if_icmp .gt 9, 3) := by decide +kernel
theorem dX6_behindRun_34 : decode cX6_behindRun 34 = .ok (.iinc 4 1, 3) := by decide +kernel
theorem dX6_behindRun_37 : decode cX6_behindRun 37 = .ok (.goto (-34), 3) := by decide +kernel
theorem dX6_behindRun_40 : decode cX6_behindRun 40 = .ok (.iload 4, 2) := by decide +kernel
theorem dX6_behindRun_42 : decode cX6_behindRun 42 = .ok (.ireturn, 1) := by decide +kernel
theorem dX7_init_0 : decode cX7_init 0 = .ok (.aload_n 0, 1) := by decide +kernel
theorem dX7_init_1 : decode cX7_init 1 = .ok (.invokespecial 3, 3) := by decide +kernel
theorem dX7_init_4 : decode cX7_init 4 = .ok (.aload_n 0, 1) := by decide +kernel
theorem dX7_init_5 : decode cX7_init 5 = .ok (.bipush 16, 2) := by decide +kernel
theorem dX7_init_7 : decode cX7_init 7 = .ok (.newarray .int, 2) := by decide +kernel
theorem dX7_init_9 : decode cX7_init 9 = .ok (.putfield 11, 3) := by decide +kernel
theorem dX7_init_12 : decode cX7_init 12 = .ok (.aload_n 0, 1) := by decide +kernel
theorem dX7_init_13 : decode cX7_init 13 = .ok (.iconst 4, 1) := by decide +kernel
theorem dX7_init_14 : decode cX7_init 14 = .ok (.newarray .int, 2) := by decide +kernel
theorem dX7_init_16 : decode cX7_init 16 = .ok (.putfield 15, 3) := by decide +kernel
theorem dX7_init_19 : decode cX7_init 19 = .ok (.aload_n 0, 1) := by decide +kernel
theorem dX7_init_20 : decode cX7_init 20 = .ok (.iconst 4, 1) := by decide +kernel
theorem dX7_init_21 : decode cX7_init 21 = .ok (.newarray .int, 2) := by decide +kernel
theorem dX7_init_23 : decode cX7_init 23 = .ok (.putfield 18, 3) := by decide +kernel
theorem dX7_init_26 : decode cX7_init 26 = .ok (.aload_n 0, 1) := by decide +kernel
theorem dX7_init_27 : decode cX7_init 27 = .ok (.iconst 4, 1) := by decide +kernel
theorem dX7_init_28 : decode cX7_init 28 = .ok (.newarray .int, 2) := by decide +kernel
theorem dX7_init_30 : decode cX7_init 30 = .ok (.putfield 21, 3) := by decide +kernel
theorem dX7_init_33 : decode cX7_init 33 = .ok (.aload_n 0, 1) := by decide +kernel
theorem dX7_init_34 : decode cX7_init 34 = .ok (.iconst 4, 1) := by decide +kernel
theorem dX7_init_35 : decode cX7_init 35 = .ok (.newarray .int, 2) := by decide +kernel
theorem dX7_init_37 : decode cX7_init 37 = .ok (.putfield 24, 3) := by decide +kernel
theorem dX7_init_40 : decode cX7_init 40 = .ok (.aload_n 0, 1) := by decide +kernel
theorem dX7_init_41 : decode cX7_init 41 = .ok (.bipush 30, 2) := by decide +kernel
theorem dX7_init_43 : decode cX7_init 43 = .ok (.newarray .int, 2) := by decide +kernel
theorem dX7_init_45 : decode cX7_init 45 = .ok (.putfield 27, 3) := by decide +kernel
theorem dX7_init_48 : decode cX7_init 48 = .ok (.aload_n 0, 1) := by decide +kernel
theorem dX7_init_49 : decode cX7_init 49 = .ok (.bipush 30, 2) := by decide +kernel
theorem dX7_init_51 : decode cX7_init 51 = .ok (.newarray .int, 2) := by decide +kernel
theorem dX7_init_53 : decode cX7_init 53 = .ok (.putfield 30, 3) := by decide +kernel
theorem dX7_init_56 : decode cX7_init 56 = .ok (.aload_n 0, 1) := by decide +kernel
theorem dX7_init_57 : decode cX7_init 57 = .ok (.bipush 30, 2) := by decide +kernel
theorem dX7_init_59 : decode cX7_init 59 = .ok (.newarray .int, 2) := by decide +kernel
theorem dX7_init_61 : decode cX7_init 61 = .ok (.putfield 33, 3) := by decide +kernel
theorem dX7_init_64 : decode cX7_init 64 = .ok (.aload_n 0, 1) := by decide +kernel
theorem dX7_init_65 : decode cX7_init 65 = .ok (.bipush 30, 2) := by decide +kernel
theorem dX7_init_67 : decode cX7_init 67 = .ok (.newarray .int, 2) := by decide +kernel
theorem dX7_init_69 : decode cX7_init 69 = .ok (.putfield 36, 3) := by decide +kernel
theorem dX7_init_72 : decode cX7_init 72 = .ok (.aload_n 0, 1) := by decide +kernel
theorem dX7_init_73 : decode cX7_init 73 = .ok (.bipush 30, 2) := by decide +kernel
theorem dX7_init_75 : decode cX7_init 75 = .ok (.newarray .int, 2) := by decide +kernel
theorem dX7_init_77 : decode cX7_init 77 = .ok (.putfield 39, 3) := by decide +kernel
theorem dX7_init_80 : decode cX7_init 80 = .ok (.return_, 1) := by decide +kernel
theorem dX7_clear_0 : decode cX7_clear 0 = .ok (.aload_n 0, 1) := by decide +kernel
theorem dX7_clear_1 : decode cX7_clear 1 = .ok (.iconst 0, 1) := by decide +kernel
theorem dX7_clear_2 : decode cX7_clear 2 = .ok (.putfield 42, 3) := by decide +kernel
theorem dX7_clear_5 : decode cX7_clear 5 = .ok (.aload_n 0, 1) := by decide +kernel
theorem dX7_clear_6 : decode cX7_clear 6 = .ok (.iconst 0, 1) := by decide +kernel
theorem dX7_clear_7 : decode cX7_clear 7 = .ok (.putfield 46, 3) := by decide +kernel
theorem dX7_clear_10 : decode cX7_clear 10 = .ok (.aload_n 0, 1) := by decide +kernel
theorem dX7_clear_11 : decode cX7_clear 11 = .ok (.iconst 0, 1) := by decide +kernel
theorem dX7_clear_12 : decode cX7_clear 12 = .ok (.putfield 49, 3) := by decide +kernel
theorem dX7_clear_15 : decode cX7_clear 15 = .ok (.return_, 1) := by decide +kernel
theorem dX7_firstEventFrom_0 : decode cX7_firstEventFrom 0 = .ok (.iconst 0, 1) := by decide +kernel
theorem dX7_firstEventFrom_1 : decode cX7_firstEventFrom 1 = .ok (.istore_n 2, 1) := by decide +kernel
theorem dX7_firstEventFrom_2 : decode cX7_firstEventFrom 2 = .ok (.iload_n 2, 1) := by decide +kernel
theorem dX7_firstEventFrom_3 : decode cX7_firstEventFrom 3 = .ok (.aload_n 0, 1) := by decide +kernel
theorem dX7_firstEventFrom_4 : decode cX7_firstEventFrom 4 = .ok (.getfield 46, 3) := by decide +kernel
theorem dX7_firstEventFrom_7 : decode cX7_firstEventFrom 7 = .ok (.if_icmp .ge 19, 3) := by decide +kernel
theorem dX7_firstEventFrom_10 : decode cX7_firstEventFrom 10 = .ok (.aload_n 0, 1) := by decide +kernel
theorem dX7_firstEventFrom_11 : decode cX7_firstEventFrom 11 = .ok (.getfield 30, 3) := by decide +kernel
theorem dX7_firstEventFrom_14 : decode cX7_firstEventFrom 14 = .ok (.iload_n 2, 1) := by decide +kernel
theorem dX7_firstEventFrom_15 : decode cX7_firstEventFrom 15 = .ok (.iaload, 1) := by decide +kernel
theorem dX7_firstEventFrom_16 : decode cX7_firstEventFrom 16 = .ok (.iload_n 1, 1) := by decide +kernel
theorem dX7_firstEventFrom_17 : decode cX7_firstEventFrom 17 = .ok (.if_icmp .ge 9, 3) := by decide +kernel
theorem dX7_firstEventFrom_20 : decode cX7_firstEventFrom 20 = .ok (.iinc 2 1, 3) := by decide +kernel
theorem dX7_firstEventFrom_23 : decode cX7_firstEventFrom 23 = .ok (.goto (-21), 3) := by decide +kernel
