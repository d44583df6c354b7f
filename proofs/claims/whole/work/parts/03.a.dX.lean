theorem dX0_init_0 : decode cX0_init 0 = .ok (.aload_n 0, 1) := by decide +kernel
theorem dX0_init_1 : decode cX0_init 1 = .ok (.invokespecial 3, 3) := by decide +kernel
theorem dX0_init_4 : decode cX0_init 4 = .ok (.aload_n 0, 1) := by decide +kernel
theorem dX0_init_5 : decode cX0_init 5 = .ok (.bipush 10, 2) := by decide +kernel
theorem dX0_init_7 : decode cX0_init 7 = .ok (.newarray .int, 2) := by decide +kernel
theorem dX0_init_9 : decode cX0_init 9 = .ok (.putfield 9, 3) := by decide +kernel
theorem dX0_init_12 : decode cX0_init 12 = .ok (.return_, 1) := by decide +kernel
theorem dX1_init_0 : decode cX1_init 0 = .ok (.aload_n 0, 1) := by decide +kernel
theorem dX1_init_1 : decode cX1_init 1 = .ok (.invokespecial 1, 3) := by decide +kernel
theorem dX1_init_4 : decode cX1_init 4 = .ok (.return_, 1) := by decide +kernel
theorem dX2_init_0 : decode cX2_init 0 = .ok (.aload_n 0, 1) := by decide +kernel
theorem dX2_init_1 : decode cX2_init 1 = .ok (.invokespecial 1, 3) := by decide +kernel
theorem dX2_init_4 : decode cX2_init 4 = .ok (.return_, 1) := by decide +kernel
theorem dX3_init_0 : decode cX3_init 0 = .ok (.aload_n 0, 1) := by decide +kernel
theorem dX3_init_1 : decode cX3_init 1 = .ok (.invokespecial 1, 3) := by decide +kernel
theorem dX3_init_4 : decode cX3_init 4 = .ok (.aload_n 0, 1) := by decide +kernel
theorem dX3_init_5 : decode cX3_init 5 = .ok (.iconst 4, 1) := by decide +kernel
theorem dX3_init_6 : decode cX3_init 6 = .ok (.newarray .int, 2) := by decide +kernel
theorem dX3_init_8 : decode cX3_init 8 = .ok (.putfield 9, 3) := by decide +kernel
theorem dX3_init_11 : decode cX3_init 11 = .ok (.aload_n 0, 1) := by decide +kernel
theorem dX3_init_12 : decode cX3_init 12 = .ok (.bipush 60, 2) := by decide +kernel
theorem dX3_init_14 : decode cX3_init 14 = .ok (.anewarray 13, 3) := by decide +kernel
theorem dX3_init_17 : decode cX3_init 17 = .ok (.putfield 15, 3) := by decide +kernel
theorem dX3_init_20 : decode cX3_init 20 = .ok (.aload_n 0, 1) := by decide +kernel
theorem dX3_init_21 : decode cX3_init 21 = .ok (.bipush 20, 2) := by decide +kernel
theorem dX3_init_23 : decode cX3_init 23 = .ok (.anewarray 19, 3) := by decide +kernel
theorem dX3_init_26 : decode cX3_init 26 = .ok (.putfield 21, 3) := by decide +kernel
theorem dX3_init_29 : decode cX3_init 29 = .ok (.aload_n 0, 1) := by decide +kernel
theorem dX3_init_30 : decode cX3_init 30 = .ok (.bipush 10, 2) := by decide +kernel
theorem dX3_init_32 : decode cX3_init 32 = .ok (.anewarray 25, 3) := by decide +kernel
theorem dX3_init_35 : decode cX3_init 35 = .ok (.putfield 27, 3) := by decide +kernel
theorem dX3_init_38 : decode cX3_init 38 = .ok (.aload_n 0, 1) := by decide +kernel
theorem dX3_init_39 : decode cX3_init 39 = .ok (.iconst 0, 1) := by decide +kernel
theorem dX3_init_40 : decode cX3_init 40 = .ok (.putfield 31, 3) := by decide +kernel
theorem dX3_init_43 : decode cX3_init 43 = .ok (.aload_n 0, 1) := by decide +kernel
theorem dX3_init_44 : decode cX3_init 44 = .ok (.iconst 0, 1) := by decide +kernel
theorem dX3_init_45 : decode cX3_init 45 = .ok (.putfield 35, 3) := by decide +kernel
theorem dX3_init_48 : decode cX3_init 48 = .ok (.aload_n 0, 1) := by decide +kernel
theorem dX3_init_49 : decode cX3_init 49 = .ok (.iconst 0, 1) := by decide +kernel
theorem dX3_init_50 : decode cX3_init 50 = .ok (.putfield 38, 3) := by decide +kernel
theorem dX3_init_53 : decode cX3_init 53 = .ok (.iconst 0, 1) := by decide +kernel
theorem dX3_init_54 : decode cX3_init 54 = .ok (.istore_n 1, 1) := by decide +kernel
theorem dX3_init_55 : decode cX3_init 55 = .ok (.iload_n 1, 1) := by decide +kernel
theorem dX3_init_56 : decode cX3_init 56 = .ok (.iconst 4, 1) := by decide +kernel
theorem dX3_init_57 : decode cX3_init 57 = .ok (.if_icmp .ge 17, 3) := by decide +kernel
theorem dX3_init_60 : decode cX3_init 60 = .ok (.aload_n 0, 1) := by decide +kernel
theorem dX3_init_61 : decode cX3_init 61 = .ok (.getfield 9, 3) := by decide +kernel
theorem dX3_init_64 : decode cX3_init 64 = .ok (.iload_n 1, 1) := by decide +kernel
theorem dX3_init_65 : decode cX3_init 65 = .ok (.bipush 10, 2) := by decide +kernel
theorem dX3_init_67 : decode cX3_init 67 = .ok (.iastore, 1) := by decide +kernel
theorem dX3_init_68 : decode cX3_init 68 = .ok (.iinc 1 1, 3) := by decide +kernel
theorem dX3_init_71 : decode cX3_init 71 = .ok (.goto (-16), 3) := by decide +kernel
theorem dX3_init_74 : decode cX3_init 74 = .ok (.iconst 0, 1) := by decide +kernel
theorem dX3_init_75 : decode cX3_init 75 = .ok (.istore_n 1, 1) := by decide +kernel
theorem dX3_init_76 : decode cX3_init 76 = .ok (.iload_n 1, 1) := by decide +kernel
theorem dX3_init_77 : decode cX3_init 77 = .ok (.bipush 60, 2) := by decide +kernel
theorem dX3_init_79 : decode cX3_init 79 = .ok (.if_icmp .ge 22, 3) := by decide +kernel
theorem dX3_init_82 : decode cX3_init 82 = .ok (.aload_n 0, 1) := by decide +kernel
theorem dX3_init_83 : decode cX3_init 83 = .ok (.getfield 15, 3) := by decide +kernel
theorem dX3_init_86 : decode cX3_init 86 = .ok (.iload_n 1, 1) := by decide +kernel
theorem dX3_init_87 : decode cX3_init 87 = .ok (.new 13, 3) := by decide +kernel
theorem dX3_init_90 : decode cX3_init 90 = .ok (.dup, 1) := by decide +kernel
theorem dX3_init_91 : decode cX3_init 91 = .ok (.invokespecial 41, 3) := by decide +kernel
theorem dX3_init_94 : decode cX3_init 94 = .ok (.aastore, 1) := by decide +kernel
theorem dX3_init_95 : decode cX3_init 95 = .ok (.iinc 1 1, 3) := by decide +kernel
theorem dX3_init_98 : decode cX3_init 98 = .ok (.goto (-22), 3) := by decide +kernel
theorem dX3_init_101 : decode cX3_init 101 = .ok (.iconst 0, 1) := by decide +kernel
theorem dX3_init_102 : decode cX3_init 102 = .ok (.istore_n 1, 1) := by decide +kernel
theorem dX3_init_103 : decode cX3_init 103 = .ok (.iload_n 1, 1) := by decide +kernel
theorem dX3_init_104 : decode cX3_init 104 = .ok (.bipush 20, 2) := by decide +kernel
theorem dX3_init_106 : decode cX3_init 106 = .ok (.if_icmp .ge 22, 3) := by decide +kernel
theorem dX3_init_109 : decode cX3_init 109 = .ok (.aload_n 0, 1) := by decide +kernel
theorem dX3_init_110 : decode cX3_init 110 = .ok (.getfield 21, 3) := by decide +kernel
theorem dX3_init_113 : decode cX3_init 113 = .ok (.iload_n 1, 1) := by decide +kernel
theorem dX3_init_114 : decode cX3_init 114 = .ok (.new 19, 3) := by decide +kernel
theorem dX3_init_117 : decode cX3_init 117 = .ok (.dup, 1) := by decide +kernel
theorem dX3_init_118 : decode cX3_init 118 = .ok (.invokespecial 42, 3) := by decide +kernel
theorem dX3_init_121 : decode cX3_init 121 = .ok (.aastore, 1) := by decide +kernel
theorem dX3_init_122 : decode cX3_init 122 = .ok (.iinc 1 1, 3) := by decide +kernel
theorem dX3_init_125 : decode cX3_init 125 = .ok (.goto (-22), 3) := by decide +kernel
theorem dX3_init_128 : decode cX3_init 128 = .ok (.iconst 0, 1) := by decide +kernel
theorem dX3_init_129 : decode cX3_init 129 = .ok (.istore_n 1, 1) := by decide +kernel
theorem dX3_init_130 : decode cX3_init 130 = .ok (.iload_n 1, 1) := by decide +kernel
theorem dX3_init_131 : decode cX3_init 131 = .ok (.bipush 10, 2) := by decide +kernel
theorem dX3_init_133 : decode cX3_init 133 = .ok (.if_icmp .ge 22, 3) := by decide +kernel
theorem dX3_init_136 : decode cX3_init 136 = .ok (.aload_n 0, 1) := by decide +kernel
theorem dX3_init_137 : decode cX3_init 137 = .ok (.getfield 27, 3) := by decide +kernel
theorem dX3_init_140 : decode cX3_init 140 = .ok (.iload_n 1, 1) := by decide +kernel
theorem dX3_init_141 : decode cX3_init 141 = .ok (.new 25, 3) := by decide +kernel
theorem dX3_init_144 : decode cX3_init 144 = .ok (.dup, 1) := by decide +kernel
theorem dX3_init_145 : decode cX3_init 145 = .ok (.invokespecial 43, 3) := by decide +kernel
theorem dX3_init_148 : decode cX3_init 148 = .ok (.aastore, 1) := by decide +kernel
theorem dX3_init_149 : decode cX3_init 149 = .ok (.iinc 1 1, 3) := by decide +kernel
theorem dX3_init_152 : decode cX3_init 152 = .ok (.goto (-22), 3) := by decide +kernel
theorem dX3_init_155 : decode cX3_init 155 = .ok (.return_, 1) := by decide +kernel
theorem dX3_rate_0 : decode cX3_rate 0 = .ok (.aload_n 0, 1) := by decide +kernel
theorem dX3_rate_1 : decode cX3_rate 1 = .ok (.iload_n 1, 1) := by decide +kernel
theorem dX3_rate_2 : decode cX3_rate 2 = .ok (.invokevirtual 44, 3) := by decide +kernel
theorem dX3_rate_5 : decode cX3_rate 5 = .ok (.iload_n 2, 1) := by decide +kernel
theorem dX3_rate_6 : decode cX3_rate 6 = .ok (.ifCond .lt 9, 3) := by decide +kernel
theorem dX3_rate_9 : decode cX3_rate 9 = .ok (.iload_n 2, 1) := by decide +kernel
theorem dX3_rate_10 : decode cX3_rate 10 = .ok (.bipush 50, 2) := by decide +kernel
theorem dX3_rate_12 : decode cX3_rate 12 = .ok (.if_icmp .le 13, 3) := by decide +kernel
theorem dX3_rate_15 : decode cX3_rate 15 = .ok (.new 48, 3) := by decide +kernel
theorem dX3_rate_18 : decode cX3_rate 18 = .ok (.dup, 1) := by decide +kernel
theorem dX3_rate_19 : decode cX3_rate 19 = .ok (.ldc 50, 2) := by decide +kernel
theorem dX3_rate_21 : decode cX3_rate 21 = .ok (.invokespecial 52, 3) := by decide +kernel
theorem dX3_rate_24 : decode cX3_rate 24 = .ok (.athrow, 1) := by decide +kernel
theorem dX3_rate_25 : decode cX3_rate 25 = .ok (.aload_n 0, 1) := by decide +kernel
theorem dX3_rate_26 : decode cX3_rate 26 = .ok (.getfield 9, 3) := by decide +kernel
theorem dX3_rate_29 : decode cX3_rate 29 = .ok (.iload_n 1, 1) := by decide +kernel
theorem dX3_rate_30 : decode cX3_rate 30 = .ok (.iaload, 1) := by decide +kernel
theorem dX3_rate_31 : decode cX3_rate 31 = .ok (.istore_n 3, 1) := by decide +kernel
theorem dX3_rate_32 : decode cX3_rate 32 = .ok (.aload_n 0, 1) := by decide +kernel
theorem dX3_rate_33 : decode cX3_rate 33 = .ok (.getfield 9, 3) := by decide +kernel
theorem dX3_rate_36 : decode cX3_rate 36 = .ok (.iload_n 1, 1) := by decide +kernel
theorem dX3_rate_37 : decode cX3_rate 37 = .ok (.iload_n 2, 1) := by decide +kernel
theorem dX3_rate_38 : decode cX3_rate 38 = .ok (.iastore, 1) := by decide +kernel
theorem dX3_rate_39 : decode cX3_rate 39 = .ok (.iload_n 3, 1) := by decide +kernel
theorem dX3_rate_40 : decode cX3_rate 40 = .ok (.ireturn, 1) := by decide +kernel
theorem dX3_buy_0 : decode cX3_buy 0 = .ok (.aload_n 0, 1) := by decide +kernel
theorem dX3_buy_1 : decode cX3_buy 1 = .ok (.iload_n 1, 1) := by decide +kernel
theorem dX3_buy_2 : decode cX3_buy 2 = .ok (.invokevirtual 55, 3) := by decide +kernel
theorem dX3_buy_5 : decode cX3_buy 5 = .ok (.aload_n 0, 1) := by decide +kernel
theorem dX3_buy_6 : decode cX3_buy 6 = .ok (.iload_n 2, 1) := by decide +kernel
theorem dX3_buy_7 : decode cX3_buy 7 = .ok (.invokevirtual 58, 3) := by decide +kernel
theorem dX3_buy_10 : decode cX3_buy 10 = .ok (.astore 5, 2) := by decide +kernel
theorem dX3_buy_12 : decode cX3_buy 12 = .ok (.aload_n 0, 1) := by decide +kernel
theorem dX3_buy_13 : decode cX3_buy 13 = .ok (.iload_n 3, 1) := by decide +kernel
theorem dX3_buy_14 : decode cX3_buy 14 = .ok (.invokevirtual 44, 3) := by decide +kernel
theorem dX3_buy_17 : decode cX3_buy 17 = .ok (.iload 4, 2) := by decide +kernel
theorem dX3_buy_19 : decode cX3_buy 19 = .ok (.iconst 1, 1) := by decide +kernel
theorem dX3_buy_20 : decode cX3_buy 20 = .ok (.if_icmp .lt 11, 3) := by decide +kernel
theorem dX3_buy_23 : decode cX3_buy 23 = .ok (.iload 4, 2) := by decide +kernel
theorem dX3_buy_25 : decode cX3_buy 25 = .ok (.sipush 10000, 3) := by decide +kernel
theorem dX3_buy_28 : decode cX3_buy 28 = .ok (.if_icmp .le 13, 3) := by decide +kernel
theorem dX3_buy_31 : decode cX3_buy 31 = .ok (.new 48, 3) := by decide +kernel
theorem dX3_buy_34 : decode cX3_buy 34 = .ok (.dup, 1) := by decide +kernel
theorem dX3_buy_35 : decode cX3_buy 35 = .ok (.ldc 62, 2) := by decide +kernel
theorem dX3_buy_37 : decode cX3_buy 37 = .ok (.invokespecial 52, 3) := by decide +kernel
theorem dX3_buy_40 : decode cX3_buy 40 = .ok (.athrow, 1) := by decide +kernel
theorem dX3_buy_41 : decode cX3_buy 41 = .ok (.aload_n 0, 1) := by decide +kernel
theorem dX3_buy_42 : decode cX3_buy 42 = .ok (.aload 5, 2) := by decide +kernel
theorem dX3_buy_44 : decode cX3_buy 44 = .ok (.invokevirtual 64, 3) := by decide +kernel
theorem dX3_buy_47 : decode cX3_buy 47 = .ok (.aload_n 0, 1) := by decide +kernel
theorem dX3_buy_48 : decode cX3_buy 48 = .ok (.getfield 31, 3) := by decide +kernel
theorem dX3_buy_51 : decode cX3_buy 51 = .ok (.bipush 60, 2) := by decide +kernel
theorem dX3_buy_53 : decode cX3_buy 53 = .ok (.if_icmp .lt 13, 3) := by decide +kernel
theorem dX3_buy_56 : decode cX3_buy 56 = .ok (.new 68, 3) := by decide +kernel
theorem dX3_buy_59 : decode cX3_buy 59 = .ok (.dup, 1) := by decide +kernel
theorem dX3_buy_60 : decode cX3_buy 60 = .ok (.ldc 70, 2) := by decide +kernel
theorem dX3_buy_62 : decode cX3_buy 62 = .ok (.invokespecial 72, 3) := by decide +kernel
theorem dX3_buy_65 : decode cX3_buy 65 = .ok (.athrow, 1) := by decide +kernel
theorem dX3_buy_66 : decode cX3_buy 66 = .ok (.aload_n 0, 1) := by decide +kernel
theorem dX3_buy_67 : decode cX3_buy 67 = .ok (.getfield 15, 3) := by decide +kernel
theorem dX3_buy_70 : decode cX3_buy 70 = .ok (.aload_n 0, 1) := by decide +kernel
theorem dX3_buy_71 : decode cX3_buy 71 = .ok (.getfield 31, 3) := by decide +kernel
theorem dX3_buy_74 : decode cX3_buy 74 = .ok (.aaload, 1) := by decide +kernel
theorem dX3_buy_75 : decode cX3_buy 75 = .ok (.astore 6, 2) := by decide +kernel
theorem dX3_buy_77 : decode cX3_buy 77 = .ok (.aload 6, 2) := by decide +kernel
theorem dX3_buy_79 : decode cX3_buy 79 = .ok (.iload_n 1, 1) := by decide +kernel
theorem dX3_buy_80 : decode cX3_buy 80 = .ok (.putfield 73, 3) := by decide +kernel
theorem dX3_buy_83 : decode cX3_buy 83 = .ok (.aload 6, 2) := by decide +kernel
theorem dX3_buy_85 : decode cX3_buy 85 = .ok (.iload_n 2, 1) := by decide +kernel
theorem dX3_buy_86 : decode cX3_buy 86 = .ok (.putfield 76, 3) := by decide +kernel
theorem dX3_buy_89 : decode cX3_buy 89 = .ok (.aload 6, 2) := by decide +kernel
theorem dX3_buy_91 : decode cX3_buy 91 = .ok (.iload 4, 2) := by decide +kernel
theorem dX3_buy_93 : decode cX3_buy 93 = .ok (.putfield 79, 3) := by decide +kernel
theorem dX3_buy_96 : decode cX3_buy 96 = .ok (.aload 6, 2) := by decide +kernel
theorem dX3_buy_98 : decode cX3_buy 98 = .ok (.iload 4, 2) := by decide +kernel
theorem dX3_buy_100 : decode cX3_buy 100 = .ok (.aload_n 0, 1) := by decide +kernel
theorem dX3_buy_101 : decode cX3_buy 101 = .ok (.getfield 9, 3) := by decide +kernel
theorem dX3_buy_104 : decode cX3_buy 104 = .ok (.iload_n 3, 1) := by decide +kernel
theorem dX3_buy_105 : decode cX3_buy 105 = .ok (.iaload, 1) := by decide +kernel
theorem dX3_buy_106 : decode cX3_buy 106 = .ok (.imul, 1) := by decide +kernel
theorem dX3_buy_107 : decode cX3_buy 107 = .ok (.bipush 100, 2) := by decide +kernel
theorem dX3_buy_109 : decode cX3_buy 109 = .ok (.idiv, 1) := by decide +kernel
theorem dX3_buy_110 : decode cX3_buy 110 = .ok (.putfield 82, 3) := by decide +kernel
theorem dX3_buy_113 : decode cX3_buy 113 = .ok (.aload 6, 2) := by decide +kernel
theorem dX3_buy_115 : decode cX3_buy 115 = .ok (.aload_n 0, 1) := by decide +kernel
theorem dX3_buy_116 : decode cX3_buy 116 = .ok (.getfield 38, 3) := by decide +kernel
theorem dX3_buy_119 : decode cX3_buy 119 = .ok (.putfield 85, 3) := by decide +kernel
theorem dX3_buy_122 : decode cX3_buy 122 = .ok (.aload 6, 2) := by decide +kernel
theorem dX3_buy_124 : decode cX3_buy 124 = .ok (.iconst 0, 1) := by decide +kernel
theorem dX3_buy_125 : decode cX3_buy 125 = .ok (.putfield 88, 3) := by decide +kernel
theorem dX3_buy_128 : decode cX3_buy 128 = .ok (.aload 6, 2) := by decide +kernel
theorem dX3_buy_130 : decode cX3_buy 130 = .ok (.iconst (-1), 1) := by decide +kernel
theorem dX3_buy_131 : decode cX3_buy 131 = .ok (.putfield 91, 3) := by decide +kernel
theorem dX3_buy_134 : decode cX3_buy 134 = .ok (.aload_n 0, 1) := by decide +kernel
theorem dX3_buy_135 : decode cX3_buy 135 = .ok (.dup, 1) := by decide +kernel
theorem dX3_buy_136 : decode cX3_buy 136 = .ok (.getfield 31, 3) := by decide +kernel
theorem dX3_buy_139 : decode cX3_buy 139 = .ok (.iconst 1, 1) := by decide +kernel
theorem dX3_buy_140 : decode cX3_buy 140 = .ok (.iadd, 1) := by decide +kernel
theorem dX3_buy_141 : decode cX3_buy 141 = .ok (.putfield 31, 3) := by decide +kernel
theorem dX3_buy_144 : decode cX3_buy 144 = .ok (.aload_n 0, 1) := by decide +kernel
theorem dX3_buy_145 : decode cX3_buy 145 = .ok (.getfield 31, 3) := by decide +kernel
theorem dX3_buy_148 : decode cX3_buy 148 = .ok (.iconst 1, 1) := by decide +kernel
theorem dX3_buy_149 : decode cX3_buy 149 = .ok (.isub, 1) := by decide +kernel
theorem dX3_buy_150 : decode cX3_buy 150 = .ok (.ireturn, 1) := by decide +kernel
theorem dX3_giveBack_0 : decode cX3_giveBack 0 = .ok (.aload_n 0, 1) := by decide +kernel
theorem dX3_giveBack_1 : decode cX3_giveBack 1 = .ok (.iload_n 1, 1) := by decide +kernel
theorem dX3_giveBack_2 : decode cX3_giveBack 2 = .ok (.invokevirtual 94, 3) := by decide +kernel
theorem dX3_giveBack_5 : decode cX3_giveBack 5 = .ok (.astore_n 2, 1) := by decide +kernel
theorem dX3_giveBack_6 : decode cX3_giveBack 6 = .ok (.aload_n 0, 1) := by decide +kernel
theorem dX3_giveBack_7 : decode cX3_giveBack 7 = .ok (.aload_n 2, 1) := by decide +kernel
theorem dX3_giveBack_8 : decode cX3_giveBack 8 = .ok (.invokevirtual 98, 3) := by decide +kernel
theorem dX3_giveBack_11 : decode cX3_giveBack 11 = .ok (.aload_n 0, 1) := by decide +kernel
theorem dX3_giveBack_12 : decode cX3_giveBack 12 = .ok (.getfield 38, 3) := by decide +kernel
theorem dX3_giveBack_15 : decode cX3_giveBack 15 = .ok (.aload_n 2, 1) := by decide +kernel
theorem dX3_giveBack_16 : decode cX3_giveBack 16 = .ok (.getfield 85, 3) := by decide +kernel
theorem dX3_giveBack_19 : decode cX3_giveBack 19 = .ok (.isub, 1) := by decide +kernel
theorem dX3_giveBack_20 : decode cX3_giveBack 20 = .ok (.sipush 240, 3) := by decide +kernel
theorem dX3_giveBack_23 : decode cX3_giveBack 23 = .ok (.if_icmp .le 13, 3) := by decide +kernel
theorem dX3_giveBack_26 : decode cX3_giveBack 26 = .ok (.new 68, 3) := by decide +kernel
theorem dX3_giveBack_29 : decode cX3_giveBack 29 = .ok (.dup, 1) := by decide +kernel
theorem dX3_giveBack_30 : decode cX3_giveBack 30 = .ok (.ldc 102, 2) := by decide +kernel
theorem dX3_giveBack_32 : decode cX3_giveBack 32 = .ok (.invokespecial 72, 3) := by decide +kernel
theorem dX3_giveBack_35 : decode cX3_giveBack 35 = .ok (.athrow, 1) := by decide +kernel
theorem dX3_giveBack_36 : decode cX3_giveBack 36 = .ok (.aload_n 0, 1) := by decide +kernel
theorem dX3_giveBack_37 : decode cX3_giveBack 37 = .ok (.aload_n 0, 1) := by decide +kernel
theorem dX3_giveBack_38 : decode cX3_giveBack 38 = .ok (.aload_n 2, 1) := by decide +kernel
theorem dX3_giveBack_39 : decode cX3_giveBack 39 = .ok (.getfield 76, 3) := by decide +kernel
theorem dX3_giveBack_42 : decode cX3_giveBack 42 = .ok (.invokevirtual 58, 3) := by decide +kernel
theorem dX3_giveBack_45 : decode cX3_giveBack 45 = .ok (.invokevirtual 64, 3) := by decide +kernel
theorem dX3_giveBack_48 : decode cX3_giveBack 48 = .ok (.aload_n 2, 1) := by decide +kernel
theorem dX3_giveBack_49 : decode cX3_giveBack 49 = .ok (.iconst 4, 1) := by decide +kernel
theorem dX3_giveBack_50 : decode cX3_giveBack 50 = .ok (.putfield 88, 3) := by decide +kernel
theorem dX3_giveBack_53 : decode cX3_giveBack 53 = .ok (.aload_n 2, 1) := by decide +kernel
theorem dX3_giveBack_54 : decode cX3_giveBack 54 = .ok (.getfield 79, 3) := by decide +kernel
theorem dX3_giveBack_57 : decode cX3_giveBack 57 = .ok (.aload_n 2, 1) := by decide +kernel
theorem dX3_giveBack_58 : decode cX3_giveBack 58 = .ok (.getfield 82, 3) := by decide +kernel
theorem dX3_giveBack_61 : decode cX3_giveBack 61 = .ok (.iadd, 1) := by decide +kernel
theorem dX3_giveBack_62 : decode cX3_giveBack 62 = .ok (.ireturn, 1) := by decide +kernel
theorem dX3_ferry_0 : decode cX3_ferry 0 = .ok (.iload_n 1, 1) := by decide +kernel
theorem dX3_ferry_1 : decode cX3_ferry 1 = .ok (.aload_n 0, 1) := by decide +kernel
theorem dX3_ferry_2 : decode cX3_ferry 2 = .ok (.getfield 38, 3) := by decide +kernel
theorem dX3_ferry_5 : decode cX3_ferry 5 = .ok (.if_icmp .le 10, 3) := by decide +kernel
theorem dX3_ferry_8 : decode cX3_ferry 8 = .ok (.iload_n 1, 1) := by decide +kernel
theorem dX3_ferry_9 : decode cX3_ferry 9 = .ok (.sipush 10000, 3) := by decide +kernel
theorem dX3_ferry_12 : decode cX3_ferry 12 = .ok (.if_icmp .le 13, 3) := by decide +kernel
theorem dX3_ferry_15 : decode cX3_ferry 15 = .ok (.new 48, 3) := by decide +kernel
theorem dX3_ferry_18 : decode cX3_ferry 18 = .ok (.dup, 1) := by decide +kernel
theorem dX3_ferry_19 : decode cX3_ferry 19 = .ok (.ldc 104, 2) := by decide +kernel
theorem dX3_ferry_21 : decode cX3_ferry 21 = .ok (.invokespecial 52, 3) := by decide +kernel
theorem dX3_ferry_24 : decode cX3_ferry 24 = .ok (.athrow, 1) := by decide +kernel
theorem dX3_ferry_25 : decode cX3_ferry 25 = .ok (.iload_n 2, 1) := by decide +kernel
theorem dX3_ferry_26 : decode cX3_ferry 26 = .ok (.iconst 1, 1) := by decide +kernel
theorem dX3_ferry_27 : decode cX3_ferry 27 = .ok (.if_icmp .lt 9, 3) := by decide +kernel
theorem dX3_ferry_30 : decode cX3_ferry 30 = .ok (.iload_n 2, 1) := by decide +kernel
theorem dX3_ferry_31 : decode cX3_ferry 31 = .ok (.bipush 10, 2) := by decide +kernel
theorem dX3_ferry_33 : decode cX3_ferry 33 = .ok (.if_icmp .le 13, 3) := by decide +kernel
theorem dX3_ferry_36 : decode cX3_ferry 36 = .ok (.new 48, 3) := by decide +kernel
theorem dX3_ferry_39 : decode cX3_ferry 39 = .ok (.dup, 1) := by decide +kernel
theorem dX3_ferry_40 : decode cX3_ferry 40 = .ok (.ldc 106, 2) := by decide +kernel
theorem dX3_ferry_42 : decode cX3_ferry 42 = .ok (.invokespecial 52, 3) := by decide +kernel
theorem dX3_ferry_45 : decode cX3_ferry 45 = .ok (.athrow, 1) := by decide +kernel
theorem dX3_ferry_46 : decode cX3_ferry 46 = .ok (.aload_n 0, 1) := by decide +kernel
theorem dX3_ferry_47 : decode cX3_ferry 47 = .ok (.getfield 35, 3) := by decide +kernel
theorem dX3_ferry_50 : decode cX3_ferry 50 = .ok (.bipush 20, 2) := by decide +kernel
theorem dX3_ferry_52 : decode cX3_ferry 52 = .ok (.if_icmp .lt 13, 3) := by decide +kernel
theorem dX3_ferry_55 : decode cX3_ferry 55 = .ok (.new 68, 3) := by decide +kernel
theorem dX3_ferry_58 : decode cX3_ferry 58 = .ok (.dup, 1) := by decide +kernel
theorem dX3_ferry_59 : decode cX3_ferry 59 = .ok (.ldc 108, 2) := by decide +kernel
theorem dX3_ferry_61 : decode cX3_ferry 61 = .ok (.invokespecial 72, 3) := by decide +kernel
theorem dX3_ferry_64 : decode cX3_ferry 64 = .ok (.athrow, 1) := by decide +kernel
theorem dX3_ferry_65 : decode cX3_ferry 65 = .ok (.aload_n 0, 1) := by decide +kernel
theorem dX3_ferry_66 : decode cX3_ferry 66 = .ok (.getfield 21, 3) := by decide +kernel
theorem dX3_ferry_69 : decode cX3_ferry 69 = .ok (.aload_n 0, 1) := by decide +kernel
theorem dX3_ferry_70 : decode cX3_ferry 70 = .ok (.getfield 35, 3) := by decide +kernel
theorem dX3_ferry_73 : decode cX3_ferry 73 = .ok (.aaload, 1) := by decide +kernel
theorem dX3_ferry_74 : decode cX3_ferry 74 = .ok (.astore_n 3, 1) := by decide +kernel
theorem dX3_ferry_75 : decode cX3_ferry 75 = .ok (.aload_n 3, 1) := by decide +kernel
theorem dX3_ferry_76 : decode cX3_ferry 76 = .ok (.iload_n 1, 1) := by decide +kernel
theorem dX3_ferry_77 : decode cX3_ferry 77 = .ok (.putfield 110, 3) := by decide +kernel
theorem dX3_ferry_80 : decode cX3_ferry 80 = .ok (.aload_n 3, 1) := by decide +kernel
theorem dX3_ferry_81 : decode cX3_ferry 81 = .ok (.iload_n 2, 1) := by decide +kernel
theorem dX3_ferry_82 : decode cX3_ferry 82 = .ok (.putfield 113, 3) := by decide +kernel
theorem dX3_ferry_85 : decode cX3_ferry 85 = .ok (.aload_n 0, 1) := by decide +kernel
theorem dX3_ferry_86 : decode cX3_ferry 86 = .ok (.dup, 1) := by decide +kernel
theorem dX3_ferry_87 : decode cX3_ferry 87 = .ok (.getfield 35, 3) := by decide +kernel
theorem dX3_ferry_90 : decode cX3_ferry 90 = .ok (.iconst 1, 1) := by decide +kernel
theorem dX3_ferry_91 : decode cX3_ferry 91 = .ok (.iadd, 1) := by decide +kernel
theorem dX3_ferry_92 : decode cX3_ferry 92 = .ok (.putfield 35, 3) := by decide +kernel
theorem dX3_ferry_95 : decode cX3_ferry 95 = .ok (.aload_n 0, 1) := by decide +kernel
theorem dX3_ferry_96 : decode cX3_ferry 96 = .ok (.getfield 35, 3) := by decide +kernel
theorem dX3_ferry_99 : decode cX3_ferry 99 = .ok (.iconst 1, 1) := by decide +kernel
theorem dX3_ferry_100 : decode cX3_ferry 100 = .ok (.isub, 1) := by decide +kernel
theorem dX3_ferry_101 : decode cX3_ferry 101 = .ok (.ireturn, 1) := by decide +kernel
theorem dX3_seat_0 : decode cX3_seat 0 = .ok (.aload_n 0, 1) := by decide +kernel
theorem dX3_seat_1 : decode cX3_seat 1 = .ok (.iload_n 1, 1) := by decide +kernel
theorem dX3_seat_2 : decode cX3_seat 2 = .ok (.invokevirtual 58, 3) := by decide +kernel
theorem dX3_seat_5 : decode cX3_seat 5 = .ok (.astore_n 3, 1) := by decide +kernel
theorem dX3_seat_6 : decode cX3_seat 6 = .ok (.aload_n 0, 1) := by decide +kernel
theorem dX3_seat_7 : decode cX3_seat 7 = .ok (.iload_n 2, 1) := by decide +kernel
theorem dX3_seat_8 : decode cX3_seat 8 = .ok (.invokevirtual 116, 3) := by decide +kernel
theorem dX3_seat_11 : decode cX3_seat 11 = .ok (.astore 4, 2) := by decide +kernel
theorem dX3_seat_13 : decode cX3_seat 13 = .ok (.aload_n 0, 1) := by decide +kernel
theorem dX3_seat_14 : decode cX3_seat 14 = .ok (.aload 4, 2) := by decide +kernel
theorem dX3_seat_16 : decode cX3_seat 16 = .ok (.invokevirtual 120, 3) := by decide +kernel
theorem dX3_seat_19 : decode cX3_seat 19 = .ok (.aload_n 0, 1) := by decide +kernel
theorem dX3_seat_20 : decode cX3_seat 20 = .ok (.aload_n 3, 1) := by decide +kernel
theorem dX3_seat_21 : decode cX3_seat 21 = .ok (.invokevirtual 64, 3) := by decide +kernel
theorem dX3_seat_24 : decode cX3_seat 24 = .ok (.aload 4, 2) := by decide +kernel
theorem dX3_seat_26 : decode cX3_seat 26 = .ok (.getfield 124, 3) := by decide +kernel
theorem dX3_seat_29 : decode cX3_seat 29 = .ok (.iload_n 1, 1) := by decide +kernel
theorem dX3_seat_30 : decode cX3_seat 30 = .ok (.iaload, 1) := by decide +kernel
theorem dX3_seat_31 : decode cX3_seat 31 = .ok (.ifCond .eq 13, 3) := by decide +kernel
theorem dX3_seat_34 : decode cX3_seat 34 = .ok (.new 68, 3) := by decide +kernel
theorem dX3_seat_37 : decode cX3_seat 37 = .ok (.dup, 1) := by decide +kernel
theorem dX3_seat_38 : decode cX3_seat 38 = .ok (.ldc 127, 2) := by decide +kernel
theorem dX3_seat_40 : decode cX3_seat 40 = .ok (.invokespecial 72, 3) := by decide +kernel
theorem dX3_seat_43 : decode cX3_seat 43 = .ok (.athrow, 1) := by decide +kernel
theorem dX3_seat_44 : decode cX3_seat 44 = .ok (.aload_n 0, 1) := by decide +kernel
theorem dX3_seat_45 : decode cX3_seat 45 = .ok (.aload 4, 2) := by decide +kernel
theorem dX3_seat_47 : decode cX3_seat 47 = .ok (.invokevirtual 129, 3) := by decide +kernel
theorem dX3_seat_50 : decode cX3_seat 50 = .ok (.iconst 1, 1) := by decide +kernel
theorem dX3_seat_51 : decode cX3_seat 51 = .ok (.if_icmp .ge 13, 3) := by decide +kernel
theorem dX3_seat_54 : decode cX3_seat 54 = .ok (.new 68, 3) := by decide +kernel
theorem dX3_seat_57 : decode cX3_seat 57 = .ok (.dup, 1) := by decide +kernel
theorem dX3_seat_58 : decode cX3_seat 58 = .ok (.ldc 133, 2) := by decide +kernel
theorem dX3_seat_60 : decode cX3_seat 60 = .ok (.invokespecial 72, 3) := by decide +kernel
theorem dX3_seat_63 : decode cX3_seat 63 = .ok (.athrow, 1) := by decide +kernel
theorem dX3_seat_64 : decode cX3_seat 64 = .ok (.aload 4, 2) := by decide +kernel
theorem dX3_seat_66 : decode cX3_seat 66 = .ok (.getfield 124, 3) := by decide +kernel
theorem dX3_seat_69 : decode cX3_seat 69 = .ok (.iload_n 1, 1) := by decide +kernel
theorem dX3_seat_70 : decode cX3_seat 70 = .ok (.iconst 1, 1) := by decide +kernel
theorem dX3_seat_71 : decode cX3_seat 71 = .ok (.iastore, 1) := by decide +kernel
theorem dX3_seat_72 : decode cX3_seat 72 = .ok (.aload_n 0, 1) := by decide +kernel
theorem dX3_seat_73 : decode cX3_seat 73 = .ok (.aload 4, 2) := by decide +kernel
theorem dX3_seat_75 : decode cX3_seat 75 = .ok (.invokevirtual 129, 3) := by decide +kernel
theorem dX3_seat_78 : decode cX3_seat 78 = .ok (.ireturn, 1) := by decide +kernel
theorem dX3_leaveSeat_0 : decode cX3_leaveSeat 0 = .ok (.aload_n 0, 1) := by decide +kernel
theorem dX3_leaveSeat_1 : decode cX3_leaveSeat 1 = .ok (.iload_n 1, 1) := by decide +kernel
theorem dX3_leaveSeat_2 : decode cX3_leaveSeat 2 = .ok (.invokevirtual 135, 3) := by decide +kernel
theorem dX3_leaveSeat_5 : decode cX3_leaveSeat 5 = .ok (.aload_n 0, 1) := by decide +kernel
theorem dX3_leaveSeat_6 : decode cX3_leaveSeat 6 = .ok (.iload_n 2, 1) := by decide +kernel
theorem dX3_leaveSeat_7 : decode cX3_leaveSeat 7 = .ok (.invokevirtual 116, 3) := by decide +kernel
theorem dX3_leaveSeat_10 : decode cX3_leaveSeat 10 = .ok (.astore_n 3, 1) := by decide +kernel
theorem dX3_leaveSeat_11 : decode cX3_leaveSeat 11 = .ok (.aload_n 0, 1) := by decide +kernel
theorem dX3_leaveSeat_12 : decode cX3_leaveSeat 12 = .ok (.aload_n 3, 1) := by decide +kernel
theorem dX3_leaveSeat_13 : decode cX3_leaveSeat 13 = .ok (.invokevirtual 120, 3) := by decide +kernel
theorem dX3_leaveSeat_16 : decode cX3_leaveSeat 16 = .ok (.aload_n 0, 1) := by decide +kernel
theorem dX3_leaveSeat_17 : decode cX3_leaveSeat 17 = .ok (.aload_n 3, 1) := by decide +kernel
theorem dX3_leaveSeat_18 : decode cX3_leaveSeat 18 = .ok (.iload_n 1, 1) := by decide +kernel
theorem dX3_leaveSeat_19 : decode cX3_leaveSeat 19 = .ok (.invokevirtual 138, 3) := by decide +kernel
theorem dX3_leaveSeat_22 : decode cX3_leaveSeat 22 = .ok (.aload_n 3, 1) := by decide +kernel
theorem dX3_leaveSeat_23 : decode cX3_leaveSeat 23 = .ok (.getfield 124, 3) := by decide +kernel
theorem dX3_leaveSeat_26 : decode cX3_leaveSeat 26 = .ok (.iload_n 1, 1) := by decide +kernel
theorem dX3_leaveSeat_27 : decode cX3_leaveSeat 27 = .ok (.iconst 0, 1) := by decide +kernel
theorem dX3_leaveSeat_28 : decode cX3_leaveSeat 28 = .ok (.iastore, 1) := by decide +kernel
theorem dX3_leaveSeat_29 : decode cX3_leaveSeat 29 = .ok (.aload_n 0, 1) := by decide +kernel
theorem dX3_leaveSeat_30 : decode cX3_leaveSeat 30 = .ok (.iload_n 1, 1) := by decide +kernel
theorem dX3_leaveSeat_31 : decode cX3_leaveSeat 31 = .ok (.iload_n 2, 1) := by decide +kernel
theorem dX3_leaveSeat_32 : decode cX3_leaveSeat 32 = .ok (.invokevirtual 142, 3) := by decide +kernel
theorem dX3_leaveSeat_35 : decode cX3_leaveSeat 35 = .ok (.ireturn, 1) := by decide +kernel
theorem dX3_aboard_0 : decode cX3_aboard 0 = .ok (.aload_n 0, 1) := by decide +kernel
theorem dX3_aboard_1 : decode cX3_aboard 1 = .ok (.iload_n 1, 1) := by decide +kernel
theorem dX3_aboard_2 : decode cX3_aboard 2 = .ok (.invokevirtual 58, 3) := by decide +kernel
theorem dX3_aboard_5 : decode cX3_aboard 5 = .ok (.astore_n 3, 1) := by decide +kernel
theorem dX3_aboard_6 : decode cX3_aboard 6 = .ok (.aload_n 0, 1) := by decide +kernel
theorem dX3_aboard_7 : decode cX3_aboard 7 = .ok (.iload_n 2, 1) := by decide +kernel
theorem dX3_aboard_8 : decode cX3_aboard 8 = .ok (.invokevirtual 116, 3) := by decide +kernel
theorem dX3_aboard_11 : decode cX3_aboard 11 = .ok (.astore 4, 2) := by decide +kernel
theorem dX3_aboard_13 : decode cX3_aboard 13 = .ok (.aload_n 0, 1) := by decide +kernel
theorem dX3_aboard_14 : decode cX3_aboard 14 = .ok (.aload 4, 2) := by decide +kernel
theorem dX3_aboard_16 : decode cX3_aboard 16 = .ok (.iload_n 1, 1) := by decide +kernel
theorem dX3_aboard_17 : decode cX3_aboard 17 = .ok (.invokevirtual 138, 3) := by decide +kernel
theorem dX3_aboard_20 : decode cX3_aboard 20 = .ok (.aload_n 0, 1) := by decide +kernel
theorem dX3_aboard_21 : decode cX3_aboard 21 = .ok (.aload_n 3, 1) := by decide +kernel
theorem dX3_aboard_22 : decode cX3_aboard 22 = .ok (.invokevirtual 64, 3) := by decide +kernel
theorem dX3_aboard_25 : decode cX3_aboard 25 = .ok (.aload_n 0, 1) := by decide +kernel
theorem dX3_aboard_26 : decode cX3_aboard 26 = .ok (.aload 4, 2) := by decide +kernel
theorem dX3_aboard_28 : decode cX3_aboard 28 = .ok (.iconst 3, 1) := by decide +kernel
theorem dX3_aboard_29 : decode cX3_aboard 29 = .ok (.invokevirtual 146, 3) := by decide +kernel
theorem dX3_aboard_32 : decode cX3_aboard 32 = .ok (.aload_n 0, 1) := by decide +kernel
theorem dX3_aboard_33 : decode cX3_aboard 33 = .ok (.iload_n 1, 1) := by decide +kernel
theorem dX3_aboard_34 : decode cX3_aboard 34 = .ok (.invokevirtual 149, 3) := by decide +kernel
theorem dX3_aboard_37 : decode cX3_aboard 37 = .ok (.ifCond .eq 13, 3) := by decide +kernel
theorem dX3_aboard_40 : decode cX3_aboard 40 = .ok (.new 68, 3) := by decide +kernel
theorem dX3_aboard_43 : decode cX3_aboard 43 = .ok (.dup, 1) := by decide +kernel
theorem dX3_aboard_44 : decode cX3_aboard 44 = .ok (.ldc 153, 2) := by decide +kernel
theorem dX3_aboard_46 : decode cX3_aboard 46 = .ok (.invokespecial 72, 3) := by decide +kernel
theorem dX3_aboard_49 : decode cX3_aboard 49 = .ok (.athrow, 1) := by decide +kernel
theorem dX3_aboard_50 : decode cX3_aboard 50 = .ok (.aload 4, 2) := by decide +kernel
theorem dX3_aboard_52 : decode cX3_aboard 52 = .ok (.getfield 124, 3) := by decide +kernel
theorem dX3_aboard_55 : decode cX3_aboard 55 = .ok (.iload_n 1, 1) := by decide +kernel
theorem dX3_aboard_56 : decode cX3_aboard 56 = .ok (.iconst 2, 1) := by decide +kernel
theorem dX3_aboard_57 : decode cX3_aboard 57 = .ok (.iastore, 1) := by decide +kernel
theorem dX3_aboard_58 : decode cX3_aboard 58 = .ok (.aload_n 0, 1) := by decide +kernel
theorem dX3_aboard_59 : decode cX3_aboard 59 = .ok (.aload 4, 2) := by decide +kernel
theorem dX3_aboard_61 : decode cX3_aboard 61 = .ok (.iconst 2, 1) := by decide +kernel
theorem dX3_aboard_62 : decode cX3_aboard 62 = .ok (.invokevirtual 155, 3) := by decide +kernel
theorem dX3_aboard_65 : decode cX3_aboard 65 = .ok (.ireturn, 1) := by decide +kernel
theorem dX3_stamp_0 : decode cX3_stamp 0 = .ok (.aload_n 0, 1) := by decide +kernel
theorem dX3_stamp_1 : decode cX3_stamp 1 = .ok (.iload_n 1, 1) := by decide +kernel
theorem dX3_stamp_2 : decode cX3_stamp 2 = .ok (.invokevirtual 94, 3) := by decide +kernel
theorem dX3_stamp_5 : decode cX3_stamp 5 = .ok (.astore_n 3, 1) := by decide +kernel
theorem dX3_stamp_6 : decode cX3_stamp 6 = .ok (.aload_n 0, 1) := by decide +kernel
theorem dX3_stamp_7 : decode cX3_stamp 7 = .ok (.iload_n 2, 1) := by decide +kernel
theorem dX3_stamp_8 : decode cX3_stamp 8 = .ok (.invokevirtual 116, 3) := by decide +kernel
theorem dX3_stamp_11 : decode cX3_stamp 11 = .ok (.astore 4, 2) := by decide +kernel
theorem dX3_stamp_13 : decode cX3_stamp 13 = .ok (.aload_n 0, 1) := by decide +kernel
theorem dX3_stamp_14 : decode cX3_stamp 14 = .ok (.aload_n 3, 1) := by decide +kernel
theorem dX3_stamp_15 : decode cX3_stamp 15 = .ok (.invokevirtual 98, 3) := by decide +kernel
theorem dX3_stamp_18 : decode cX3_stamp 18 = .ok (.aload_n 3, 1) := by decide +kernel
theorem dX3_stamp_19 : decode cX3_stamp 19 = .ok (.getfield 79, 3) := by decide +kernel
theorem dX3_stamp_22 : decode cX3_stamp 22 = .ok (.bipush 50, 2) := by decide +kernel
theorem dX3_stamp_24 : decode cX3_stamp 24 = .ok (.if_icmp .ge 13, 3) := by decide +kernel
theorem dX3_stamp_27 : decode cX3_stamp 27 = .ok (.new 68, 3) := by decide +kernel
theorem dX3_stamp_30 : decode cX3_stamp 30 = .ok (.dup, 1) := by decide +kernel
theorem dX3_stamp_31 : decode cX3_stamp 31 = .ok (.ldc 159, 2) := by decide +kernel
theorem dX3_stamp_33 : decode cX3_stamp 33 = .ok (.invokespecial 72, 3) := by decide +kernel
theorem dX3_stamp_36 : decode cX3_stamp 36 = .ok (.athrow, 1) := by decide +kernel
theorem dX3_stamp_37 : decode cX3_stamp 37 = .ok (.aload_n 0, 1) := by decide +kernel
theorem dX3_stamp_38 : decode cX3_stamp 38 = .ok (.aload 4, 2) := by decide +kernel
theorem dX3_stamp_40 : decode cX3_stamp 40 = .ok (.aload_n 3, 1) := by decide +kernel
theorem dX3_stamp_41 : decode cX3_stamp 41 = .ok (.getfield 76, 3) := by decide +kernel
theorem dX3_stamp_44 : decode cX3_stamp 44 = .ok (.invokevirtual 138, 3) := by decide +kernel
theorem dX3_stamp_47 : decode cX3_stamp 47 = .ok (.aload_n 0, 1) := by decide +kernel
theorem dX3_stamp_48 : decode cX3_stamp 48 = .ok (.aload 4, 2) := by decide +kernel
theorem dX3_stamp_50 : decode cX3_stamp 50 = .ok (.bipush 12, 2) := by decide +kernel
theorem dX3_stamp_52 : decode cX3_stamp 52 = .ok (.invokevirtual 146, 3) := by decide +kernel
theorem dX3_stamp_55 : decode cX3_stamp 55 = .ok (.aload_n 3, 1) := by decide +kernel
theorem dX3_stamp_56 : decode cX3_stamp 56 = .ok (.iconst 1, 1) := by decide +kernel
theorem dX3_stamp_57 : decode cX3_stamp 57 = .ok (.putfield 88, 3) := by decide +kernel
theorem dX3_stamp_60 : decode cX3_stamp 60 = .ok (.aload_n 3, 1) := by decide +kernel
theorem dX3_stamp_61 : decode cX3_stamp 61 = .ok (.iload_n 2, 1) := by decide +kernel
theorem dX3_stamp_62 : decode cX3_stamp 62 = .ok (.putfield 91, 3) := by decide +kernel
theorem dX3_stamp_65 : decode cX3_stamp 65 = .ok (.aload_n 3, 1) := by decide +kernel
theorem dX3_stamp_66 : decode cX3_stamp 66 = .ok (.getfield 82, 3) := by decide +kernel
theorem dX3_stamp_69 : decode cX3_stamp 69 = .ok (.ireturn, 1) := by decide +kernel
theorem dX3_check_0 : decode cX3_check 0 = .ok (.aload_n 0, 1) := by decide +kernel
theorem dX3_check_1 : decode cX3_check 1 = .ok (.iload_n 1, 1) := by decide +kernel
theorem dX3_check_2 : decode cX3_check 2 = .ok (.invokevirtual 94, 3) := by decide +kernel
theorem dX3_check_5 : decode cX3_check 5 = .ok (.astore_n 3, 1) := by decide +kernel
theorem dX3_check_6 : decode cX3_check 6 = .ok (.aload_n 3, 1) := by decide +kernel
theorem dX3_check_7 : decode cX3_check 7 = .ok (.getfield 88, 3) := by decide +kernel
theorem dX3_check_10 : decode cX3_check 10 = .ok (.iconst 1, 1) := by decide +kernel
theorem dX3_check_11 : decode cX3_check 11 = .ok (.if_icmp .eq 13, 3) := by decide +kernel
theorem dX3_check_14 : decode cX3_check 14 = .ok (.new 68, 3) := by decide +kernel
theorem dX3_check_17 : decode cX3_check 17 = .ok (.dup, 1) := by decide +kernel
theorem dX3_check_18 : decode cX3_check 18 = .ok (.ldc 161, 2) := by decide +kernel
theorem dX3_check_20 : decode cX3_check 20 = .ok (.invokespecial 72, 3) := by decide +kernel
theorem dX3_check_23 : decode cX3_check 23 = .ok (.athrow, 1) := by decide +kernel
theorem dX3_check_24 : decode cX3_check 24 = .ok (.iload_n 2, 1) := by decide +kernel
theorem dX3_check_25 : decode cX3_check 25 = .ok (.ifCond .ne 27, 3) := by decide +kernel
theorem dX3_check_28 : decode cX3_check 28 = .ok (.aload_n 0, 1) := by decide +kernel
theorem dX3_check_29 : decode cX3_check 29 = .ok (.aload_n 3, 1) := by decide +kernel
theorem dX3_check_30 : decode cX3_check 30 = .ok (.iconst 3, 1) := by decide +kernel
theorem dX3_check_31 : decode cX3_check 31 = .ok (.invokevirtual 163, 3) := by decide +kernel
theorem dX3_check_34 : decode cX3_check 34 = .ok (.aload_n 0, 1) := by decide +kernel
theorem dX3_check_35 : decode cX3_check 35 = .ok (.aload_n 3, 1) := by decide +kernel
theorem dX3_check_36 : decode cX3_check 36 = .ok (.getfield 76, 3) := by decide +kernel
theorem dX3_check_39 : decode cX3_check 39 = .ok (.invokevirtual 58, 3) := by decide +kernel
theorem dX3_check_42 : decode cX3_check 42 = .ok (.dup, 1) := by decide +kernel
theorem dX3_check_43 : decode cX3_check 43 = .ok (.getfield 167, 3) := by decide +kernel
theorem dX3_check_46 : decode cX3_check 46 = .ok (.bipush 50, 2) := by decide +kernel
theorem dX3_check_48 : decode cX3_check 48 = .ok (.iadd, 1) := by decide +kernel
theorem dX3_check_49 : decode cX3_check 49 = .ok (.putfield 167, 3) := by decide +kernel
theorem dX3_check_52 : decode cX3_check 52 = .ok (.aload_n 3, 1) := by decide +kernel
theorem dX3_check_53 : decode cX3_check 53 = .ok (.getfield 88, 3) := by decide +kernel
theorem dX3_check_56 : decode cX3_check 56 = .ok (.ireturn, 1) := by decide +kernel
theorem dX3_comeBack_0 : decode cX3_comeBack 0 = .ok (.aload_n 0, 1) := by decide +kernel
theorem dX3_comeBack_1 : decode cX3_comeBack 1 = .ok (.iload_n 1, 1) := by decide +kernel
theorem dX3_comeBack_2 : decode cX3_comeBack 2 = .ok (.invokevirtual 58, 3) := by decide +kernel
theorem dX3_comeBack_5 : decode cX3_comeBack 5 = .ok (.astore_n 2, 1) := by decide +kernel
theorem dX3_comeBack_6 : decode cX3_comeBack 6 = .ok (.aload_n 2, 1) := by decide +kernel
theorem dX3_comeBack_7 : decode cX3_comeBack 7 = .ok (.getfield 170, 3) := by decide +kernel
theorem dX3_comeBack_10 : decode cX3_comeBack 10 = .ok (.ifCond .ne 13, 3) := by decide +kernel
theorem dX3_comeBack_13 : decode cX3_comeBack 13 = .ok (.new 68, 3) := by decide +kernel
theorem dX3_comeBack_16 : decode cX3_comeBack 16 = .ok (.dup, 1) := by decide +kernel
theorem dX3_comeBack_17 : decode cX3_comeBack 17 = .ok (.ldc 174, 2) := by decide +kernel
theorem dX3_comeBack_19 : decode cX3_comeBack 19 = .ok (.invokespecial 72, 3) := by decide +kernel
theorem dX3_comeBack_22 : decode cX3_comeBack 22 = .ok (.athrow, 1) := by decide +kernel
theorem dX3_comeBack_23 : decode cX3_comeBack 23 = .ok (.aload_n 2, 1) := by decide +kernel
theorem dX3_comeBack_24 : decode cX3_comeBack 24 = .ok (.iconst 0, 1) := by decide +kernel
theorem dX3_comeBack_25 : decode cX3_comeBack 25 = .ok (.putfield 170, 3) := by decide +kernel
theorem dX3_comeBack_28 : decode cX3_comeBack 28 = .ok (.aload_n 2, 1) := by decide +kernel
theorem dX3_comeBack_29 : decode cX3_comeBack 29 = .ok (.getfield 176, 3) := by decide +kernel
theorem dX3_comeBack_32 : decode cX3_comeBack 32 = .ok (.ireturn, 1) := by decide +kernel
theorem dX3_pass_0 : decode cX3_pass 0 = .ok (.iload_n 1, 1) := by decide +kernel
theorem dX3_pass_1 : decode cX3_pass 1 = .ok (.iconst 1, 1) := by decide +kernel
theorem dX3_pass_2 : decode cX3_pass 2 = .ok (.if_icmp .lt 9, 3) := by decide +kernel
theorem dX3_pass_5 : decode cX3_pass 5 = .ok (.iload_n 1, 1) := by decide +kernel
theorem dX3_pass_6 : decode cX3_pass 6 = .ok (.bipush 100, 2) := by decide +kernel
theorem dX3_pass_8 : decode cX3_pass 8 = .ok (.if_icmp .le 13, 3) := by decide +kernel
theorem dX3_pass_11 : decode cX3_pass 11 = .ok (.new 48, 3) := by decide +kernel
theorem dX3_pass_14 : decode cX3_pass 14 = .ok (.dup, 1) := by decide +kernel
theorem dX3_pass_15 : decode cX3_pass 15 = .ok (.ldc 179, 2) := by decide +kernel
theorem dX3_pass_17 : decode cX3_pass 17 = .ok (.invokespecial 52, 3) := by decide +kernel
theorem dX3_pass_20 : decode cX3_pass 20 = .ok (.athrow, 1) := by decide +kernel
theorem dX3_pass_21 : decode cX3_pass 21 = .ok (.iload_n 1, 1) := by decide +kernel
theorem dX3_pass_22 : decode cX3_pass 22 = .ok (.sipush 10000, 3) := by decide +kernel
theorem dX3_pass_25 : decode cX3_pass 25 = .ok (.aload_n 0, 1) := by decide +kernel
theorem dX3_pass_26 : decode cX3_pass 26 = .ok (.getfield 38, 3) := by decide +kernel
theorem dX3_pass_29 : decode cX3_pass 29 = .ok (.isub, 1) := by decide +kernel
theorem dX3_pass_30 : decode cX3_pass 30 = .ok (.if_icmp .le 13, 3) := by decide +kernel
theorem dX3_pass_33 : decode cX3_pass 33 = .ok (.new 68, 3) := by decide +kernel
theorem dX3_pass_36 : decode cX3_pass 36 = .ok (.dup, 1) := by decide +kernel
theorem dX3_pass_37 : decode cX3_pass 37 = .ok (.ldc 181, 2) := by decide +kernel
theorem dX3_pass_39 : decode cX3_pass 39 = .ok (.invokespecial 72, 3) := by decide +kernel
theorem dX3_pass_42 : decode cX3_pass 42 = .ok (.athrow, 1) := by decide +kernel
theorem dX3_pass_43 : decode cX3_pass 43 = .ok (.iconst 0, 1) := by decide +kernel
theorem dX3_pass_44 : decode cX3_pass 44 = .ok (.istore_n 2, 1) := by decide +kernel
theorem dX3_pass_45 : decode cX3_pass 45 = .ok (.iload_n 2, 1) := by decide +kernel
theorem dX3_pass_46 : decode cX3_pass 46 = .ok (.iload_n 1, 1) := by decide +kernel
theorem dX3_pass_47 : decode cX3_pass 47 = .ok (.if_icmp .ge 23, 3) := by decide +kernel
theorem dX3_pass_50 : decode cX3_pass 50 = .ok (.aload_n 0, 1) := by decide +kernel
theorem dX3_pass_51 : decode cX3_pass 51 = .ok (.dup, 1) := by decide +kernel
theorem dX3_pass_52 : decode cX3_pass 52 = .ok (.getfield 38, 3) := by decide +kernel
theorem dX3_pass_55 : decode cX3_pass 55 = .ok (.iconst 1, 1) := by decide +kernel
theorem dX3_pass_56 : decode cX3_pass 56 = .ok (.iadd, 1) := by decide +kernel
theorem dX3_pass_57 : decode cX3_pass 57 = .ok (.putfield 38, 3) := by decide +kernel
theorem dX3_pass_60 : decode cX3_pass 60 = .ok (.aload_n 0, 1) := by decide +kernel
theorem dX3_pass_61 : decode cX3_pass 61 = .ok (.invokevirtual 183, 3) := by decide +kernel
theorem dX3_pass_64 : decode cX3_pass 64 = .ok (.iinc 2 1, 3) := by decide +kernel
theorem dX3_pass_67 : decode cX3_pass 67 = .ok (.goto (-22), 3) := by decide +kernel
theorem dX3_pass_70 : decode cX3_pass 70 = .ok (.aload_n 0, 1) := by decide +kernel
theorem dX3_pass_71 : decode cX3_pass 71 = .ok (.getfield 38, 3) := by decide +kernel
theorem dX3_pass_74 : decode cX3_pass 74 = .ok (.ireturn, 1) := by decide +kernel
theorem dX3_ofReceipt_0 : decode cX3_ofReceipt 0 = .ok (.aload_n 0, 1) := by decide +kernel
theorem dX3_ofReceipt_1 : decode cX3_ofReceipt 1 = .ok (.iload_n 1, 1) := by decide +kernel
theorem dX3_ofReceipt_2 : decode cX3_ofReceipt 2 = .ok (.invokevirtual 94, 3) := by decide +kernel
theorem dX3_ofReceipt_5 : decode cX3_ofReceipt 5 = .ok (.astore_n 3, 1) := by decide +kernel
theorem dX3_ofReceipt_6 : decode cX3_ofReceipt 6 = .ok (.iload_n 2, 1) := by decide +kernel
theorem dX3_ofReceipt_7 : decode cX3_ofReceipt 7 = .ok (.tableswitch 49 0 3 #[29, 34, 39, 44], 29) := by decide +kernel
theorem dX3_ofReceipt_36 : decode cX3_ofReceipt 36 = .ok (.aload_n 3, 1) := by decide +kernel
theorem dX3_ofReceipt_37 : decode cX3_ofReceipt 37 = .ok (.getfield 88, 3) := by decide +kernel
theorem dX3_ofReceipt_40 : decode cX3_ofReceipt 40 = .ok (.ireturn, 1) := by decide +kernel
theorem dX3_ofReceipt_41 : decode cX3_ofReceipt 41 = .ok (.aload_n 3, 1) := by decide +kernel
theorem dX3_ofReceipt_42 : decode cX3_ofReceipt 42 = .ok (.getfield 82, 3) := by decide +kernel
theorem dX3_ofReceipt_45 : decode cX3_ofReceipt 45 = .ok (.ireturn, 1) := by decide +kernel
theorem dX3_ofReceipt_46 : decode cX3_ofReceipt 46 = .ok (.aload_n 3, 1) := by decide +kernel
theorem dX3_ofReceipt_47 : decode cX3_ofReceipt 47 = .ok (.getfield 186, 3) := by decide +kernel
theorem dX3_ofReceipt_50 : decode cX3_ofReceipt 50 = .ok (.ireturn, 1) := by decide +kernel
theorem dX3_ofReceipt_51 : decode cX3_ofReceipt 51 = .ok (.aload_n 3, 1) := by decide +kernel
theorem dX3_ofReceipt_52 : decode cX3_ofReceipt 52 = .ok (.getfield 91, 3) := by decide +kernel
theorem dX3_ofReceipt_55 : decode cX3_ofReceipt 55 = .ok (.ireturn, 1) := by decide +kernel
theorem dX3_ofReceipt_56 : decode cX3_ofReceipt 56 = .ok (.new 48, 3) := by decide +kernel
theorem dX3_ofReceipt_59 : decode cX3_ofReceipt 59 = .ok (.dup, 1) := by decide +kernel
theorem dX3_ofReceipt_60 : decode cX3_ofReceipt 60 = .ok (.ldc 189, 2) := by decide +kernel
theorem dX3_ofReceipt_62 : decode cX3_ofReceipt 62 = .ok (.invokespecial 52, 3) := by decide +kernel
theorem dX3_ofReceipt_65 : decode cX3_ofReceipt 65 = .ok (.athrow, 1) := by decide +kernel
theorem dX3_code_0 : decode cX3_code 0 = .ok (.aload_n 0, 1) := by decide +kernel
theorem dX3_code_1 : decode cX3_code 1 = .ok (.iload_n 1, 1) := by decide +kernel
theorem dX3_code_2 : decode cX3_code 2 = .ok (.invokevirtual 94, 3) := by decide +kernel
theorem dX3_code_5 : decode cX3_code 5 = .ok (.astore_n 3, 1) := by decide +kernel
theorem dX3_code_6 : decode cX3_code 6 = .ok (.iload_n 2, 1) := by decide +kernel
theorem dX3_code_7 : decode cX3_code 7 = .ok (.ifCond .ge 13, 3) := by decide +kernel
theorem dX3_code_10 : decode cX3_code 10 = .ok (.new 191, 3) := by decide +kernel
theorem dX3_code_13 : decode cX3_code 13 = .ok (.dup, 1) := by decide +kernel
theorem dX3_code_14 : decode cX3_code 14 = .ok (.ldc 193, 2) := by decide +kernel
theorem dX3_code_16 : decode cX3_code 16 = .ok (.invokespecial 195, 3) := by decide +kernel
theorem dX3_code_19 : decode cX3_code 19 = .ok (.athrow, 1) := by decide +kernel
theorem dX3_code_20 : decode cX3_code 20 = .ok (.new 196, 3) := by decide +kernel
theorem dX3_code_23 : decode cX3_code 23 = .ok (.dup, 1) := by decide +kernel
theorem dX3_code_24 : decode cX3_code 24 = .ok (.invokespecial 198, 3) := by decide +kernel
theorem dX3_code_27 : decode cX3_code 27 = .ok (.astore 4, 2) := by decide +kernel
theorem dX3_code_29 : decode cX3_code 29 = .ok (.aload 4, 2) := by decide +kernel
theorem dX3_code_31 : decode cX3_code 31 = .ok (.bipush 82, 2) := by decide +kernel
theorem dX3_code_33 : decode cX3_code 33 = .ok (.invokevirtual 199, 3) := by decide +kernel
theorem dX3_code_36 : decode cX3_code 36 = .ok (.iload_n 1, 1) := by decide +kernel
theorem dX3_code_37 : decode cX3_code 37 = .ok (.invokevirtual 203, 3) := by decide +kernel
theorem dX3_code_40 : decode cX3_code 40 = .ok (.bipush 45, 2) := by decide +kernel
theorem dX3_code_42 : decode cX3_code 42 = .ok (.invokevirtual 199, 3) := by decide +kernel
theorem dX3_code_45 : decode cX3_code 45 = .ok (.pop, 1) := by decide +kernel
theorem dX3_code_46 : decode cX3_code 46 = .ok (.aload_n 0, 1) := by decide +kernel
theorem dX3_code_47 : decode cX3_code 47 = .ok (.aload 4, 2) := by decide +kernel
theorem dX3_code_49 : decode cX3_code 49 = .ok (.aload_n 3, 1) := by decide +kernel
theorem dX3_code_50 : decode cX3_code 50 = .ok (.getfield 82, 3) := by decide +kernel
theorem dX3_code_53 : decode cX3_code 53 = .ok (.invokevirtual 206, 3) := by decide +kernel
theorem dX3_code_56 : decode cX3_code 56 = .ok (.iload_n 2, 1) := by decide +kernel
theorem dX3_code_57 : decode cX3_code 57 = .ok (.aload 4, 2) := by decide +kernel
theorem dX3_code_59 : decode cX3_code 59 = .ok (.invokevirtual 210, 3) := by decide +kernel
theorem dX3_code_62 : decode cX3_code 62 = .ok (.if_icmp .ge 12, 3) := by decide +kernel
theorem dX3_code_65 : decode cX3_code 65 = .ok (.aload 4, 2) := by decide +kernel
theorem dX3_code_67 : decode cX3_code 67 = .ok (.iload_n 2, 1) := by decide +kernel
theorem dX3_code_68 : decode cX3_code 68 = .ok (.invokevirtual 214, 3) := by decide +kernel
theorem dX3_code_71 : decode cX3_code 71 = .ok (.goto 4, 3) := by decide +kernel
theorem dX3_code_74 : decode cX3_code 74 = .ok (.iconst 0, 1) := by decide +kernel
theorem dX3_code_75 : decode cX3_code 75 = .ok (.ireturn, 1) := by decide +kernel
theorem dX3_ofTraveller_0 : decode cX3_ofTraveller 0 = .ok (.aload_n 0, 1) := by decide +kernel
theorem dX3_ofTraveller_1 : decode cX3_ofTraveller 1 = .ok (.iload_n 1, 1) := by decide +kernel
theorem dX3_ofTraveller_2 : decode cX3_ofTraveller 2 = .ok (.invokevirtual 58, 3) := by decide +kernel
theorem dX3_ofTraveller_5 : decode cX3_ofTraveller 5 = .ok (.astore_n 3, 1) := by decide +kernel
theorem dX3_ofTraveller_6 : decode cX3_ofTraveller 6 = .ok (.iload_n 2, 1) := by decide +kernel
theorem dX3_ofTraveller_7 : decode cX3_ofTraveller 7 = .ok (.tableswitch 57 0 3 #[29, 34, 39, 44], 29) := by decide +kernel
theorem dX3_ofTraveller_36 : decode cX3_ofTraveller 36 = .ok (.aload_n 3, 1) := by decide +kernel
theorem dX3_ofTraveller_37 : decode cX3_ofTraveller 37 = .ok (.getfield 218, 3) := by decide +kernel
theorem dX3_ofTraveller_40 : decode cX3_ofTraveller 40 = .ok (.ireturn, 1) := by decide +kernel
theorem dX3_ofTraveller_41 : decode cX3_ofTraveller 41 = .ok (.aload_n 3, 1) := by decide +kernel
theorem dX3_ofTraveller_42 : decode cX3_ofTraveller 42 = .ok (.getfield 167, 3) := by decide +kernel
theorem dX3_ofTraveller_45 : decode cX3_ofTraveller 45 = .ok (.ireturn, 1) := by decide +kernel
theorem dX3_ofTraveller_46 : decode cX3_ofTraveller 46 = .ok (.aload_n 3, 1) := by decide +kernel
theorem dX3_ofTraveller_47 : decode cX3_ofTraveller 47 = .ok (.getfield 221, 3) := by decide +kernel
theorem dX3_ofTraveller_50 : decode cX3_ofTraveller 50 = .ok (.ireturn, 1) := by decide +kernel
theorem dX3_ofTraveller_51 : decode cX3_ofTraveller 51 = .ok (.aload_n 3, 1) := by decide +kernel
theorem dX3_ofTraveller_52 : decode cX3_ofTraveller 52 = .ok (.getfield 170, 3) := by decide +kernel
theorem dX3_ofTraveller_55 : decode cX3_ofTraveller 55 = .ok (.ifCond .eq 7, 3) := by decide +kernel
theorem dX3_ofTraveller_58 : decode cX3_ofTraveller 58 = .ok (.iconst 1, 1) := by decide +kernel
theorem dX3_ofTraveller_59 : decode cX3_ofTraveller 59 = .ok (.goto 4, 3) := by decide +kernel
theorem dX3_ofTraveller_62 : decode cX3_ofTraveller 62 = .ok (.iconst 0, 1) := by decide +kernel
theorem dX3_ofTraveller_63 : decode cX3_ofTraveller 63 = .ok (.ireturn, 1) := by decide +kernel
theorem dX3_ofTraveller_64 : decode cX3_ofTraveller 64 = .ok (.new 48, 3) := by decide +kernel
theorem dX3_ofTraveller_67 : decode cX3_ofTraveller 67 = .ok (.dup, 1) := by decide +kernel
theorem dX3_ofTraveller_68 : decode cX3_ofTraveller 68 = .ok (.ldc 189, 2) := by decide +kernel
theorem dX3_ofTraveller_70 : decode cX3_ofTraveller 70 = .ok (.invokespecial 52, 3) := by decide +kernel
theorem dX3_ofTraveller_73 : decode cX3_ofTraveller 73 = .ok (.athrow, 1) := by decide +kernel
theorem dX3_refundsAnew_0 : decode cX3_refundsAnew 0 = .ok (.aload_n 0, 1) := by decide +kernel
theorem dX3_refundsAnew_1 : decode cX3_refundsAnew 1 = .ok (.iload_n 1, 1) := by decide +kernel
theorem dX3_refundsAnew_2 : decode cX3_refundsAnew 2 = .ok (.invokevirtual 135, 3) := by decide +kernel
theorem dX3_refundsAnew_5 : decode cX3_refundsAnew 5 = .ok (.iconst 0, 1) := by decide +kernel
theorem dX3_refundsAnew_6 : decode cX3_refundsAnew 6 = .ok (.istore_n 2, 1) := by decide +kernel
theorem dX3_refundsAnew_7 : decode cX3_refundsAnew 7 = .ok (.iconst 0, 1) := by decide +kernel
theorem dX3_refundsAnew_8 : decode cX3_refundsAnew 8 = .ok (.istore_n 3, 1) := by decide +kernel
theorem dX3_refundsAnew_9 : decode cX3_refundsAnew 9 = .ok (.iload_n 3, 1) := by decide +kernel
theorem dX3_refundsAnew_10 : decode cX3_refundsAnew 10 = .ok (.aload_n 0, 1) := by decide +kernel
theorem dX3_refundsAnew_11 : decode cX3_refundsAnew 11 = .ok (.getfield 35, 3) := by decide +kernel
theorem dX3_refundsAnew_14 : decode cX3_refundsAnew 14 = .ok (.if_icmp .ge 33, 3) := by decide +kernel
theorem dX3_refundsAnew_17 : decode cX3_refundsAnew 17 = .ok (.aload_n 0, 1) := by decide +kernel
theorem dX3_refundsAnew_18 : decode cX3_refundsAnew 18 = .ok (.getfield 21, 3) := by decide +kernel
theorem dX3_refundsAnew_21 : decode cX3_refundsAnew 21 = .ok (.iload_n 3, 1) := by decide +kernel
theorem dX3_refundsAnew_22 : decode cX3_refundsAnew 22 = .ok (.aaload, 1) := by decide +kernel
theorem dX3_refundsAnew_23 : decode cX3_refundsAnew 23 = .ok (.getfield 124, 3) := by decide +kernel
theorem dX3_refundsAnew_26 : decode cX3_refundsAnew 26 = .ok (.iload_n 1, 1) := by decide +kernel
theorem dX3_refundsAnew_27 : decode cX3_refundsAnew 27 = .ok (.iaload, 1) := by decide +kernel
theorem dX3_refundsAnew_28 : decode cX3_refundsAnew 28 = .ok (.iconst 3, 1) := by decide +kernel
theorem dX3_refundsAnew_29 : decode cX3_refundsAnew 29 = .ok (.if_icmp .ne 12, 3) := by decide +kernel
theorem dX3_refundsAnew_32 : decode cX3_refundsAnew 32 = .ok (.iload_n 2, 1) := by decide +kernel
theorem dX3_refundsAnew_33 : decode cX3_refundsAnew 33 = .ok (.aload_n 0, 1) := by decide +kernel
theorem dX3_refundsAnew_34 : decode cX3_refundsAnew 34 = .ok (.iload_n 1, 1) := by decide +kernel
theorem dX3_refundsAnew_35 : decode cX3_refundsAnew 35 = .ok (.iload_n 3, 1) := by decide +kernel
theorem dX3_refundsAnew_36 : decode cX3_refundsAnew 36 = .ok (.invokevirtual 224, 3) := by decide +kernel
theorem dX3_refundsAnew_39 : decode cX3_refundsAnew 39 = .ok (.iadd, 1) := by decide +kernel
theorem dX3_refundsAnew_40 : decode cX3_refundsAnew 40 = .ok (.istore_n 2, 1) := by decide +kernel
theorem dX3_refundsAnew_41 : decode cX3_refundsAnew 41 = .ok (.iinc 3 1, 3) := by decide +kernel
theorem dX3_refundsAnew_44 : decode cX3_refundsAnew 44 = .ok (.goto (-35), 3) := by decide +kernel
theorem dX3_refundsAnew_47 : decode cX3_refundsAnew 47 = .ok (.iload_n 2, 1) := by decide +kernel
theorem dX3_refundsAnew_48 : decode cX3_refundsAnew 48 = .ok (.ireturn, 1) := by decide +kernel
theorem dX3_debt_0 : decode cX3_debt 0 = .ok (.aload_n 0, 1) := by decide +kernel
theorem dX3_debt_1 : decode cX3_debt 1 = .ok (.iload_n 1, 1) := by decide +kernel
theorem dX3_debt_2 : decode cX3_debt 2 = .ok (.invokevirtual 55, 3) := by decide +kernel
theorem dX3_debt_5 : decode cX3_debt 5 = .ok (.iconst 0, 1) := by decide +kernel
theorem dX3_debt_6 : decode cX3_debt 6 = .ok (.istore_n 2, 1) := by decide +kernel
theorem dX3_debt_7 : decode cX3_debt 7 = .ok (.iconst 0, 1) := by decide +kernel
theorem dX3_debt_8 : decode cX3_debt 8 = .ok (.istore_n 3, 1) := by decide +kernel
theorem dX3_debt_9 : decode cX3_debt 9 = .ok (.iload_n 3, 1) := by decide +kernel
theorem dX3_debt_10 : decode cX3_debt 10 = .ok (.aload_n 0, 1) := by decide +kernel
theorem dX3_debt_11 : decode cX3_debt 11 = .ok (.getfield 31, 3) := by decide +kernel
theorem dX3_debt_14 : decode cX3_debt 14 = .ok (.if_icmp .ge 43, 3) := by decide +kernel
theorem dX3_debt_17 : decode cX3_debt 17 = .ok (.aload_n 0, 1) := by decide +kernel
theorem dX3_debt_18 : decode cX3_debt 18 = .ok (.getfield 15, 3) := by decide +kernel
theorem dX3_debt_21 : decode cX3_debt 21 = .ok (.iload_n 3, 1) := by decide +kernel
theorem dX3_debt_22 : decode cX3_debt 22 = .ok (.aaload, 1) := by decide +kernel
theorem dX3_debt_23 : decode cX3_debt 23 = .ok (.astore 4, 2) := by decide +kernel
theorem dX3_debt_25 : decode cX3_debt 25 = .ok (.aload 4, 2) := by decide +kernel
theorem dX3_debt_27 : decode cX3_debt 27 = .ok (.getfield 73, 3) := by decide +kernel
theorem dX3_debt_30 : decode cX3_debt 30 = .ok (.iload_n 1, 1) := by decide +kernel
theorem dX3_debt_31 : decode cX3_debt 31 = .ok (.if_icmp .ne 20, 3) := by decide +kernel
theorem dX3_debt_34 : decode cX3_debt 34 = .ok (.aload 4, 2) := by decide +kernel
theorem dX3_debt_36 : decode cX3_debt 36 = .ok (.getfield 88, 3) := by decide +kernel
theorem dX3_debt_39 : decode cX3_debt 39 = .ok (.iconst 4, 1) := by decide +kernel
theorem dX3_debt_40 : decode cX3_debt 40 = .ok (.if_icmp .eq 11, 3) := by decide +kernel
theorem dX3_debt_43 : decode cX3_debt 43 = .ok (.iload_n 2, 1) := by decide +kernel
theorem dX3_debt_44 : decode cX3_debt 44 = .ok (.aload 4, 2) := by decide +kernel
theorem dX3_debt_46 : decode cX3_debt 46 = .ok (.getfield 82, 3) := by decide +kernel
theorem dX3_debt_49 : decode cX3_debt 49 = .ok (.iadd, 1) := by decide +kernel
theorem dX3_debt_50 : decode cX3_debt 50 = .ok (.istore_n 2, 1) := by decide +kernel
theorem dX3_debt_51 : decode cX3_debt 51 = .ok (.iinc 3 1, 3) := by decide +kernel
theorem dX3_debt_54 : decode cX3_debt 54 = .ok (.goto (-45), 3) := by decide +kernel
theorem dX3_debt_57 : decode cX3_debt 57 = .ok (.iload_n 2, 1) := by decide +kernel
theorem dX3_debt_58 : decode cX3_debt 58 = .ok (.ireturn, 1) := by decide +kernel
theorem dX3_requireShop_0 : decode cX3_requireShop 0 = .ok (.iload_n 1, 1) := by decide +kernel
theorem dX3_requireShop_1 : decode cX3_requireShop 1 = .ok (.ifCond .lt 8, 3) := by decide +kernel
theorem dX3_requireShop_4 : decode cX3_requireShop 4 = .ok (.iload_n 1, 1) := by decide +kernel
theorem dX3_requireShop_5 : decode cX3_requireShop 5 = .ok (.iconst 5, 1) := by decide +kernel
theorem dX3_requireShop_6 : decode cX3_requireShop 6 = .ok (.if_icmp .lt 13, 3) := by decide +kernel
theorem dX3_requireShop_9 : decode cX3_requireShop 9 = .ok (.new 191, 3) := by decide +kernel
theorem dX3_requireShop_12 : decode cX3_requireShop 12 = .ok (.dup, 1) := by decide +kernel
theorem dX3_requireShop_13 : decode cX3_requireShop 13 = .ok (.ldc 227, 2) := by decide +kernel
theorem dX3_requireShop_15 : decode cX3_requireShop 15 = .ok (.invokespecial 195, 3) := by decide +kernel
theorem dX3_requireShop_18 : decode cX3_requireShop 18 = .ok (.athrow, 1) := by decide +kernel
theorem dX3_requireShop_19 : decode cX3_requireShop 19 = .ok (.return_, 1) := by decide +kernel
theorem dX3_requireKind_0 : decode cX3_requireKind 0 = .ok (.iload_n 1, 1) := by decide +kernel
theorem dX3_requireKind_1 : decode cX3_requireKind 1 = .ok (.ifCond .lt 8, 3) := by decide +kernel
theorem dX3_requireKind_4 : decode cX3_requireKind 4 = .ok (.iload_n 1, 1) := by decide +kernel
theorem dX3_requireKind_5 : decode cX3_requireKind 5 = .ok (.iconst 4, 1) := by decide +kernel
theorem dX3_requireKind_6 : decode cX3_requireKind 6 = .ok (.if_icmp .lt 13, 3) := by decide +kernel
theorem dX3_requireKind_9 : decode cX3_requireKind 9 = .ok (.new 191, 3) := by decide +kernel
theorem dX3_requireKind_12 : decode cX3_requireKind 12 = .ok (.dup, 1) := by decide +kernel
theorem dX3_requireKind_13 : decode cX3_requireKind 13 = .ok (.ldc 229, 2) := by decide +kernel
theorem dX3_requireKind_15 : decode cX3_requireKind 15 = .ok (.invokespecial 195, 3) := by decide +kernel
theorem dX3_requireKind_18 : decode cX3_requireKind 18 = .ok (.athrow, 1) := by decide +kernel
theorem dX3_requireKind_19 : decode cX3_requireKind 19 = .ok (.return_, 1) := by decide +kernel
theorem dX3_requireTraveller_0 : decode cX3_requireTraveller 0 = .ok (.iload_n 1, 1) := by decide +kernel
theorem dX3_requireTraveller_1 : decode cX3_requireTraveller 1 = .ok (.ifCond .lt 9, 3) := by decide +kernel
theorem dX3_requireTraveller_4 : decode cX3_requireTraveller 4 = .ok (.iload_n 1, 1) := by decide +kernel
theorem dX3_requireTraveller_5 : decode cX3_requireTraveller 5 = .ok (.bipush 10, 2) := by decide +kernel
theorem dX3_requireTraveller_7 : decode cX3_requireTraveller 7 = .ok (.if_icmp .lt 13, 3) := by decide +kernel
theorem dX3_requireTraveller_10 : decode cX3_requireTraveller 10 = .ok (.new 191, 3) := by decide +kernel
theorem dX3_requireTraveller_13 : decode cX3_requireTraveller 13 = .ok (.dup, 1) := by decide +kernel
theorem dX3_requireTraveller_14 : decode cX3_requireTraveller 14 = .ok (.ldc 231, 2) := by decide +kernel
theorem dX3_requireTraveller_16 : decode cX3_requireTraveller 16 = .ok (.invokespecial 195, 3) := by decide +kernel
theorem dX3_requireTraveller_19 : decode cX3_requireTraveller 19 = .ok (.athrow, 1) := by decide +kernel
theorem dX3_requireTraveller_20 : decode cX3_requireTraveller 20 = .ok (.return_, 1) := by decide +kernel
theorem dX3_travellerNumbered_0 : decode cX3_travellerNumbered 0 = .ok (.aload_n 0, 1) := by decide +kernel
theorem dX3_travellerNumbered_1 : decode cX3_travellerNumbered 1 = .ok (.iload_n 1, 1) := by decide +kernel
theorem dX3_travellerNumbered_2 : decode cX3_travellerNumbered 2 = .ok (.invokevirtual 135, 3) := by decide +kernel
theorem dX3_travellerNumbered_5 : decode cX3_travellerNumbered 5 = .ok (.aload_n 0, 1) := by decide +kernel
theorem dX3_travellerNumbered_6 : decode cX3_travellerNumbered 6 = .ok (.getfield 27, 3) := by decide +kernel
theorem dX3_travellerNumbered_9 : decode cX3_travellerNumbered 9 = .ok (.iload_n 1, 1) := by decide +kernel
theorem dX3_travellerNumbered_10 : decode cX3_travellerNumbered 10 = .ok (.aaload, 1) := by decide +kernel
theorem dX3_travellerNumbered_11 : decode cX3_travellerNumbered 11 = .ok (.areturn, 1) := by decide +kernel
theorem dX3_receiptNumbered_0 : decode cX3_receiptNumbered 0 = .ok (.iload_n 1, 1) := by decide +kernel
theorem dX3_receiptNumbered_1 : decode cX3_receiptNumbered 1 = .ok (.ifCond .lt 11, 3) := by decide +kernel
theorem dX3_receiptNumbered_4 : decode cX3_receiptNumbered 4 = .ok (.iload_n 1, 1) := by decide +kernel
theorem dX3_receiptNumbered_5 : decode cX3_receiptNumbered 5 = .ok (.aload_n 0, 1) := by decide +kernel
theorem dX3_receiptNumbered_6 : decode cX3_receiptNumbered 6 = .ok (.getfield 31, 3) := by decide +kernel
theorem dX3_receiptNumbered_9 : decode cX3_receiptNumbered 9 = .ok (.if_icmp .lt 13, 3) := by decide +kernel
theorem dX3_receiptNumbered_12 : decode cX3_receiptNumbered 12 = .ok (.new 191, 3) := by decide +kernel
theorem dX3_receiptNumbered_15 : decode cX3_receiptNumbered 15 = .ok (.dup, 1) := by decide +kernel
theorem dX3_receiptNumbered_16 : decode cX3_receiptNumbered 16 = .ok (.ldc 233, 2) := by decide +kernel
theorem dX3_receiptNumbered_18 : decode cX3_receiptNumbered 18 = .ok (.invokespecial 195, 3) := by decide +kernel
theorem dX3_receiptNumbered_21 : decode cX3_receiptNumbered 21 = .ok (.athrow, 1) := by decide +kernel
theorem dX3_receiptNumbered_22 : decode cX3_receiptNumbered 22 = .ok (.aload_n 0, 1) := by decide +kernel
theorem dX3_receiptNumbered_23 : decode cX3_receiptNumbered 23 = .ok (.getfield 15, 3) := by decide +kernel
theorem dX3_receiptNumbered_26 : decode cX3_receiptNumbered 26 = .ok (.iload_n 1, 1) := by decide +kernel
theorem dX3_receiptNumbered_27 : decode cX3_receiptNumbered 27 = .ok (.aaload, 1) := by decide +kernel
theorem dX3_receiptNumbered_28 : decode cX3_receiptNumbered 28 = .ok (.areturn, 1) := by decide +kernel
theorem dX3_ferryNumbered_0 : decode cX3_ferryNumbered 0 = .ok (.iload_n 1, 1) := by decide +kernel
theorem dX3_ferryNumbered_1 : decode cX3_ferryNumbered 1 = .ok (.ifCond .lt 11, 3) := by decide +kernel
theorem dX3_ferryNumbered_4 : decode cX3_ferryNumbered 4 = .ok (.iload_n 1, 1) := by decide +kernel
theorem dX3_ferryNumbered_5 : decode cX3_ferryNumbered 5 = .ok (.aload_n 0, 1) := by decide +kernel
theorem dX3_ferryNumbered_6 : decode cX3_ferryNumbered 6 = .ok (.getfield 35, 3) := by decide +kernel
theorem dX3_ferryNumbered_9 : decode cX3_ferryNumbered 9 = .ok (.if_icmp .lt 13, 3) := by decide +kernel
theorem dX3_ferryNumbered_12 : decode cX3_ferryNumbered 12 = .ok (.new 191, 3) := by decide +kernel
theorem dX3_ferryNumbered_15 : decode cX3_ferryNumbered 15 = .ok (.dup, 1) := by decide +kernel
theorem dX3_ferryNumbered_16 : decode cX3_ferryNumbered 16 = .ok (.ldc 235, 2) := by decide +kernel
theorem dX3_ferryNumbered_18 : decode cX3_ferryNumbered 18 = .ok (.invokespecial 195, 3) := by decide +kernel
theorem dX3_ferryNumbered_21 : decode cX3_ferryNumbered 21 = .ok (.athrow, 1) := by decide +kernel
theorem dX3_ferryNumbered_22 : decode cX3_ferryNumbered 22 = .ok (.aload_n 0, 1) := by decide +kernel
theorem dX3_ferryNumbered_23 : decode cX3_ferryNumbered 23 = .ok (.getfield 21, 3) := by decide +kernel
theorem dX3_ferryNumbered_26 : decode cX3_ferryNumbered 26 = .ok (.iload_n 1, 1) := by decide +kernel
theorem dX3_ferryNumbered_27 : decode cX3_ferryNumbered 27 = .ok (.aaload, 1) := by decide +kernel
theorem dX3_ferryNumbered_28 : decode cX3_ferryNumbered 28 = .ok (.areturn, 1) := by decide +kernel
theorem dX3_requireOnIsland_0 : decode cX3_requireOnIsland 0 = .ok (.aload_n 1, 1) := by decide +kernel
theorem dX3_requireOnIsland_1 : decode cX3_requireOnIsland 1 = .ok (.getfield 170, 3) := by decide +kernel
theorem dX3_requireOnIsland_4 : decode cX3_requireOnIsland 4 = .ok (.ifCond .eq 13, 3) := by decide +kernel
theorem dX3_requireOnIsland_7 : decode cX3_requireOnIsland 7 = .ok (.new 68, 3) := by decide +kernel
theorem dX3_requireOnIsland_10 : decode cX3_requireOnIsland 10 = .ok (.dup, 1) := by decide +kernel
theorem dX3_requireOnIsland_11 : decode cX3_requireOnIsland 11 = .ok (.ldc 237, 2) := by decide +kernel
theorem dX3_requireOnIsland_13 : decode cX3_requireOnIsland 13 = .ok (.invokespecial 72, 3) := by decide +kernel
theorem dX3_requireOnIsland_16 : decode cX3_requireOnIsland 16 = .ok (.athrow, 1) := by decide +kernel
theorem dX3_requireOnIsland_17 : decode cX3_requireOnIsland 17 = .ok (.return_, 1) := by decide +kernel
theorem dX3_requireOpen_0 : decode cX3_requireOpen 0 = .ok (.aload_n 1, 1) := by decide +kernel
theorem dX3_requireOpen_1 : decode cX3_requireOpen 1 = .ok (.getfield 88, 3) := by decide +kernel
theorem dX3_requireOpen_4 : decode cX3_requireOpen 4 = .ok (.ifCond .eq 13, 3) := by decide +kernel
theorem dX3_requireOpen_7 : decode cX3_requireOpen 7 = .ok (.new 68, 3) := by decide +kernel
theorem dX3_requireOpen_10 : decode cX3_requireOpen 10 = .ok (.dup, 1) := by decide +kernel
theorem dX3_requireOpen_11 : decode cX3_requireOpen 11 = .ok (.ldc 239, 2) := by decide +kernel
theorem dX3_requireOpen_13 : decode cX3_requireOpen 13 = .ok (.invokespecial 72, 3) := by decide +kernel
theorem dX3_requireOpen_16 : decode cX3_requireOpen 16 = .ok (.athrow, 1) := by decide +kernel
theorem dX3_requireOpen_17 : decode cX3_requireOpen 17 = .ok (.return_, 1) := by decide +kernel
theorem dX3_requireNotSailed_0 : decode cX3_requireNotSailed 0 = .ok (.aload_n 0, 1) := by decide +kernel
theorem dX3_requireNotSailed_1 : decode cX3_requireNotSailed 1 = .ok (.getfield 38, 3) := by decide +kernel
theorem dX3_requireNotSailed_4 : decode cX3_requireNotSailed 4 = .ok (.aload_n 1, 1) := by decide +kernel
theorem dX3_requireNotSailed_5 : decode cX3_requireNotSailed 5 = .ok (.getfield 110, 3) := by decide +kernel
theorem dX3_requireNotSailed_8 : decode cX3_requireNotSailed 8 = .ok (.if_icmp .lt 13, 3) := by decide +kernel
theorem dX3_requireNotSailed_11 : decode cX3_requireNotSailed 11 = .ok (.new 68, 3) := by decide +kernel
theorem dX3_requireNotSailed_14 : decode cX3_requireNotSailed 14 = .ok (.dup, 1) := by decide +kernel
theorem dX3_requireNotSailed_15 : decode cX3_requireNotSailed 15 = .ok (.ldc 241, 2) := by decide +kernel
theorem dX3_requireNotSailed_17 : decode cX3_requireNotSailed 17 = .ok (.invokespecial 72, 3) := by decide +kernel
theorem dX3_requireNotSailed_20 : decode cX3_requireNotSailed 20 = .ok (.athrow, 1) := by decide +kernel
theorem dX3_requireNotSailed_21 : decode cX3_requireNotSailed 21 = .ok (.return_, 1) := by decide +kernel
theorem dX3_requireSeat_0 : decode cX3_requireSeat 0 = .ok (.aload_n 1, 1) := by decide +kernel
theorem dX3_requireSeat_1 : decode cX3_requireSeat 1 = .ok (.getfield 124, 3) := by decide +kernel
theorem dX3_requireSeat_4 : decode cX3_requireSeat 4 = .ok (.iload_n 2, 1) := by decide +kernel
theorem dX3_requireSeat_5 : decode cX3_requireSeat 5 = .ok (.iaload, 1) := by decide +kernel
theorem dX3_requireSeat_6 : decode cX3_requireSeat 6 = .ok (.ifCond .ne 13, 3) := by decide +kernel
theorem dX3_requireSeat_9 : decode cX3_requireSeat 9 = .ok (.new 68, 3) := by decide +kernel
theorem dX3_requireSeat_12 : decode cX3_requireSeat 12 = .ok (.dup, 1) := by decide +kernel
theorem dX3_requireSeat_13 : decode cX3_requireSeat 13 = .ok (.ldc 243, 2) := by decide +kernel
theorem dX3_requireSeat_15 : decode cX3_requireSeat 15 = .ok (.invokespecial 72, 3) := by decide +kernel
theorem dX3_requireSeat_18 : decode cX3_requireSeat 18 = .ok (.athrow, 1) := by decide +kernel
theorem dX3_requireSeat_19 : decode cX3_requireSeat 19 = .ok (.return_, 1) := by decide +kernel
theorem dX3_requireWithin_0 : decode cX3_requireWithin 0 = .ok (.aload_n 0, 1) := by decide +kernel
theorem dX3_requireWithin_1 : decode cX3_requireWithin 1 = .ok (.aload_n 1, 1) := by decide +kernel
theorem dX3_requireWithin_2 : decode cX3_requireWithin 2 = .ok (.invokevirtual 120, 3) := by decide +kernel
theorem dX3_requireWithin_5 : decode cX3_requireWithin 5 = .ok (.aload_n 0, 1) := by decide +kernel
theorem dX3_requireWithin_6 : decode cX3_requireWithin 6 = .ok (.getfield 38, 3) := by decide +kernel
theorem dX3_requireWithin_9 : decode cX3_requireWithin 9 = .ok (.aload_n 1, 1) := by decide +kernel
theorem dX3_requireWithin_10 : decode cX3_requireWithin 10 = .ok (.getfield 110, 3) := by decide +kernel
theorem dX3_requireWithin_13 : decode cX3_requireWithin 13 = .ok (.iload_n 2, 1) := by decide +kernel
theorem dX3_requireWithin_14 : decode cX3_requireWithin 14 = .ok (.isub, 1) := by decide +kernel
theorem dX3_requireWithin_15 : decode cX3_requireWithin 15 = .ok (.if_icmp .ge 13, 3) := by decide +kernel
theorem dX3_requireWithin_18 : decode cX3_requireWithin 18 = .ok (.new 68, 3) := by decide +kernel
theorem dX3_requireWithin_21 : decode cX3_requireWithin 21 = .ok (.dup, 1) := by decide +kernel
theorem dX3_requireWithin_22 : decode cX3_requireWithin 22 = .ok (.ldc 245, 2) := by decide +kernel
theorem dX3_requireWithin_24 : decode cX3_requireWithin 24 = .ok (.invokespecial 72, 3) := by decide +kernel
theorem dX3_requireWithin_27 : decode cX3_requireWithin 27 = .ok (.athrow, 1) := by decide +kernel
theorem dX3_requireWithin_28 : decode cX3_requireWithin 28 = .ok (.return_, 1) := by decide +kernel
theorem dX3_placesWith_0 : decode cX3_placesWith 0 = .ok (.iconst 0, 1) := by decide +kernel
theorem dX3_placesWith_1 : decode cX3_placesWith 1 = .ok (.istore_n 3, 1) := by decide +kernel
theorem dX3_placesWith_2 : decode cX3_placesWith 2 = .ok (.iconst 0, 1) := by decide +kernel
theorem dX3_placesWith_3 : decode cX3_placesWith 3 = .ok (.istore 4, 2) := by decide +kernel
theorem dX3_placesWith_5 : decode cX3_placesWith 5 = .ok (.iload 4, 2) := by decide +kernel
theorem dX3_placesWith_7 : decode cX3_placesWith 7 = .ok (.bipush 10, 2) := by decide +kernel
theorem dX3_placesWith_9 : decode cX3_placesWith 9 = .ok (.if_icmp .ge 23, 3) := by decide +kernel
theorem dX3_placesWith_12 : decode cX3_placesWith 12 = .ok (.aload_n 1, 1) := by decide +kernel
theorem dX3_placesWith_13 : decode cX3_placesWith 13 = .ok (.getfield 124, 3) := by decide +kernel
theorem dX3_placesWith_16 : decode cX3_placesWith 16 = .ok (.iload 4, 2) := by decide +kernel
theorem dX3_placesWith_18 : decode cX3_placesWith 18 = .ok (.iaload, 1) := by decide +kernel
theorem dX3_placesWith_19 : decode cX3_placesWith 19 = .ok (.iload_n 2, 1) := by decide +kernel
theorem dX3_placesWith_20 : decode cX3_placesWith 20 = .ok (.if_icmp .ne 6, 3) := by decide +kernel
theorem dX3_placesWith_23 : decode cX3_placesWith 23 = .ok (.iinc 3 1, 3) := by decide +kernel
theorem dX3_placesWith_26 : decode cX3_placesWith 26 = .ok (.iinc 4 1, 3) := by decide +kernel
theorem dX3_placesWith_29 : decode cX3_placesWith 29 = .ok (.goto (-24), 3) := by decide +kernel
theorem dX3_placesWith_32 : decode cX3_placesWith 32 = .ok (.iload_n 3, 1) := by decide +kernel
theorem dX3_placesWith_33 : decode cX3_placesWith 33 = .ok (.ireturn, 1) := by decide +kernel
theorem dX3_seatsLeft_0 : decode cX3_seatsLeft 0 = .ok (.aload_n 1, 1) := by decide +kernel
theorem dX3_seatsLeft_1 : decode cX3_seatsLeft 1 = .ok (.getfield 113, 3) := by decide +kernel
theorem dX3_seatsLeft_4 : decode cX3_seatsLeft 4 = .ok (.bipush 10, 2) := by decide +kernel
theorem dX3_seatsLeft_6 : decode cX3_seatsLeft 6 = .ok (.aload_n 0, 1) := by decide +kernel
theorem dX3_seatsLeft_7 : decode cX3_seatsLeft 7 = .ok (.aload_n 1, 1) := by decide +kernel
theorem dX3_seatsLeft_8 : decode cX3_seatsLeft 8 = .ok (.iconst 0, 1) := by decide +kernel
theorem dX3_seatsLeft_9 : decode cX3_seatsLeft 9 = .ok (.invokevirtual 155, 3) := by decide +kernel
theorem dX3_seatsLeft_12 : decode cX3_seatsLeft 12 = .ok (.isub, 1) := by decide +kernel
theorem dX3_seatsLeft_13 : decode cX3_seatsLeft 13 = .ok (.isub, 1) := by decide +kernel
theorem dX3_seatsLeft_14 : decode cX3_seatsLeft 14 = .ok (.ireturn, 1) := by decide +kernel
theorem dX3_isAboardSomewhere_0 : decode cX3_isAboardSomewhere 0 = .ok (.iconst 0, 1) := by decide +kernel
theorem dX3_isAboardSomewhere_1 : decode cX3_isAboardSomewhere 1 = .ok (.istore_n 2, 1) := by decide +kernel
theorem dX3_isAboardSomewhere_2 : decode cX3_isAboardSomewhere 2 = .ok (.iload_n 2, 1) := by decide +kernel
theorem dX3_isAboardSomewhere_3 : decode cX3_isAboardSomewhere 3 = .ok (.aload_n 0, 1) := by decide +kernel
theorem dX3_isAboardSomewhere_4 : decode cX3_isAboardSomewhere 4 = .ok (.getfield 35, 3) := by decide +kernel
theorem dX3_isAboardSomewhere_7 : decode cX3_isAboardSomewhere 7 = .ok (.if_icmp .ge 26, 3) := by decide +kernel
theorem dX3_isAboardSomewhere_10 : decode cX3_isAboardSomewhere 10 = .ok (.aload_n 0, 1) := by decide +kernel
theorem dX3_isAboardSomewhere_11 : decode cX3_isAboardSomewhere 11 = .ok (.getfield 21, 3) := by decide +kernel
theorem dX3_isAboardSomewhere_14 : decode cX3_isAboardSomewhere 14 = .ok (.iload_n 2, 1) := by decide +kernel
theorem dX3_isAboardSomewhere_15 : decode cX3_isAboardSomewhere 15 = .ok (.aaload, 1) := by decide +kernel
theorem dX3_isAboardSomewhere_16 : decode cX3_isAboardSomewhere 16 = .ok (.getfield 124, 3) := by decide +kernel
theorem dX3_isAboardSomewhere_19 : decode cX3_isAboardSomewhere 19 = .ok (.iload_n 1, 1) := by decide +kernel
theorem dX3_isAboardSomewhere_20 : decode cX3_isAboardSomewhere 20 = .ok (.iaload, 1) := by decide +kernel
theorem dX3_isAboardSomewhere_21 : decode cX3_isAboardSomewhere 21 = .ok (.iconst 2, 1) := by decide +kernel
theorem dX3_isAboardSomewhere_22 : decode cX3_isAboardSomewhere 22 = .ok (.if_icmp .ne 5, 3) := by decide +kernel
theorem dX3_isAboardSomewhere_25 : decode cX3_isAboardSomewhere 25 = .ok (.iconst 1, 1) := by decide +kernel
theorem dX3_isAboardSomewhere_26 : decode cX3_isAboardSomewhere 26 = .ok (.ireturn, 1) := by decide +kernel
theorem dX3_isAboardSomewhere_27 : decode cX3_isAboardSomewhere 27 = .ok (.iinc 2 1, 3) := by decide +kernel
theorem dX3_isAboardSomewhere_30 : decode cX3_isAboardSomewhere 30 = .ok (.goto (-28), 3) := by decide +kernel
theorem dX3_isAboardSomewhere_33 : decode cX3_isAboardSomewhere 33 = .ok (.iconst 0, 1) := by decide +kernel
theorem dX3_isAboardSomewhere_34 : decode cX3_isAboardSomewhere 34 = .ok (.ireturn, 1) := by decide +kernel
theorem dX3_isStampedFor_0 : decode cX3_isStampedFor 0 = .ok (.aload_n 1, 1) := by decide +kernel
theorem dX3_isStampedFor_1 : decode cX3_isStampedFor 1 = .ok (.getfield 88, 3) := by decide +kernel
theorem dX3_isStampedFor_4 : decode cX3_isStampedFor 4 = .ok (.iconst 1, 1) := by decide +kernel
theorem dX3_isStampedFor_5 : decode cX3_isStampedFor 5 = .ok (.if_icmp .ne 23, 3) := by decide +kernel
theorem dX3_isStampedFor_8 : decode cX3_isStampedFor 8 = .ok (.aload_n 1, 1) := by decide +kernel
theorem dX3_isStampedFor_9 : decode cX3_isStampedFor 9 = .ok (.getfield 76, 3) := by decide +kernel
theorem dX3_isStampedFor_12 : decode cX3_isStampedFor 12 = .ok (.iload_n 2, 1) := by decide +kernel
theorem dX3_isStampedFor_13 : decode cX3_isStampedFor 13 = .ok (.if_icmp .ne 15, 3) := by decide +kernel
theorem dX3_isStampedFor_16 : decode cX3_isStampedFor 16 = .ok (.aload_n 1, 1) := by decide +kernel
theorem dX3_isStampedFor_17 : decode cX3_isStampedFor 17 = .ok (.getfield 91, 3) := by decide +kernel
theorem dX3_isStampedFor_20 : decode cX3_isStampedFor 20 = .ok (.iload_n 3, 1) := by decide +kernel
theorem dX3_isStampedFor_21 : decode cX3_isStampedFor 21 = .ok (.if_icmp .ne 7, 3) := by decide +kernel
theorem dX3_isStampedFor_24 : decode cX3_isStampedFor 24 = .ok (.iconst 1, 1) := by decide +kernel
theorem dX3_isStampedFor_25 : decode cX3_isStampedFor 25 = .ok (.goto 4, 3) := by decide +kernel
theorem dX3_isStampedFor_28 : decode cX3_isStampedFor 28 = .ok (.iconst 0, 1) := by decide +kernel
theorem dX3_isStampedFor_29 : decode cX3_isStampedFor 29 = .ok (.ireturn, 1) := by decide +kernel
theorem dX3_takeStampOff_0 : decode cX3_takeStampOff 0 = .ok (.aload_n 1, 1) := by decide +kernel
theorem dX3_takeStampOff_1 : decode cX3_takeStampOff 1 = .ok (.iload_n 2, 1) := by decide +kernel
theorem dX3_takeStampOff_2 : decode cX3_takeStampOff 2 = .ok (.putfield 88, 3) := by decide +kernel
theorem dX3_takeStampOff_5 : decode cX3_takeStampOff 5 = .ok (.aload_n 1, 1) := by decide +kernel
theorem dX3_takeStampOff_6 : decode cX3_takeStampOff 6 = .ok (.iconst (-1), 1) := by decide +kernel
theorem dX3_takeStampOff_7 : decode cX3_takeStampOff 7 = .ok (.putfield 91, 3) := by decide +kernel
theorem dX3_takeStampOff_10 : decode cX3_takeStampOff 10 = .ok (.return_, 1) := by decide +kernel
theorem dX3_reopenStamped_0 : decode cX3_reopenStamped 0 = .ok (.iconst 0, 1) := by decide +kernel
theorem dX3_reopenStamped_1 : decode cX3_reopenStamped 1 = .ok (.istore_n 3, 1) := by decide +kernel
theorem dX3_reopenStamped_2 : decode cX3_reopenStamped 2 = .ok (.iconst 0, 1) := by decide +kernel
theorem dX3_reopenStamped_3 : decode cX3_reopenStamped 3 = .ok (.istore 4, 2) := by decide +kernel
theorem dX3_reopenStamped_5 : decode cX3_reopenStamped 5 = .ok (.iload 4, 2) := by decide +kernel
theorem dX3_reopenStamped_7 : decode cX3_reopenStamped 7 = .ok (.aload_n 0, 1) := by decide +kernel
theorem dX3_reopenStamped_8 : decode cX3_reopenStamped 8 = .ok (.getfield 31, 3) := by decide +kernel
theorem dX3_reopenStamped_11 : decode cX3_reopenStamped 11 = .ok (.if_icmp .ge 40, 3) := by decide +kernel
theorem dX3_reopenStamped_14 : decode cX3_reopenStamped 14 = .ok (.aload_n 0, 1) := by decide +kernel
theorem dX3_reopenStamped_15 : decode cX3_reopenStamped 15 = .ok (.aload_n 0, 1) := by decide +kernel
theorem dX3_reopenStamped_16 : decode cX3_reopenStamped 16 = .ok (.getfield 15, 3) := by decide +kernel
theorem dX3_reopenStamped_19 : decode cX3_reopenStamped 19 = .ok (.iload 4, 2) := by decide +kernel
theorem dX3_reopenStamped_21 : decode cX3_reopenStamped 21 = .ok (.aaload, 1) := by decide +kernel
theorem dX3_reopenStamped_22 : decode cX3_reopenStamped 22 = .ok (.iload_n 1, 1) := by decide +kernel
theorem dX3_reopenStamped_23 : decode cX3_reopenStamped 23 = .ok (.iload_n 2, 1) := by decide +kernel
theorem dX3_reopenStamped_24 : decode cX3_reopenStamped 24 = .ok (.invokevirtual 247, 3) := by decide +kernel
theorem dX3_reopenStamped_27 : decode cX3_reopenStamped 27 = .ok (.ifCond .eq 18, 3) := by decide +kernel
theorem dX3_reopenStamped_30 : decode cX3_reopenStamped 30 = .ok (.aload_n 0, 1) := by decide +kernel
theorem dX3_reopenStamped_31 : decode cX3_reopenStamped 31 = .ok (.aload_n 0, 1) := by decide +kernel
theorem dX3_reopenStamped_32 : decode cX3_reopenStamped 32 = .ok (.getfield 15, 3) := by decide +kernel
theorem dX3_reopenStamped_35 : decode cX3_reopenStamped 35 = .ok (.iload 4, 2) := by decide +kernel
theorem dX3_reopenStamped_37 : decode cX3_reopenStamped 37 = .ok (.aaload, 1) := by decide +kernel
theorem dX3_reopenStamped_38 : decode cX3_reopenStamped 38 = .ok (.iconst 0, 1) := by decide +kernel
theorem dX3_reopenStamped_39 : decode cX3_reopenStamped 39 = .ok (.invokevirtual 163, 3) := by decide +kernel
theorem dX3_reopenStamped_42 : decode cX3_reopenStamped 42 = .ok (.iinc 3 1, 3) := by decide +kernel
theorem dX3_reopenStamped_45 : decode cX3_reopenStamped 45 = .ok (.iinc 4 1, 3) := by decide +kernel
theorem dX3_reopenStamped_48 : decode cX3_reopenStamped 48 = .ok (.goto (-43), 3) := by decide +kernel
theorem dX3_reopenStamped_51 : decode cX3_reopenStamped 51 = .ok (.iload_n 3, 1) := by decide +kernel
theorem dX3_reopenStamped_52 : decode cX3_reopenStamped 52 = .ok (.ireturn, 1) := by decide +kernel
theorem dX3_sailAllOfNow_0 : decode cX3_sailAllOfNow 0 = .ok (.iconst 0, 1) := by decide +kernel
theorem dX3_sailAllOfNow_1 : decode cX3_sailAllOfNow 1 = .ok (.istore_n 1, 1) := by decide +kernel
theorem dX3_sailAllOfNow_2 : decode cX3_sailAllOfNow 2 = .ok (.iload_n 1, 1) := by decide +kernel
theorem dX3_sailAllOfNow_3 : decode cX3_sailAllOfNow 3 = .ok (.aload_n 0, 1) := by decide +kernel
theorem dX3_sailAllOfNow_4 : decode cX3_sailAllOfNow 4 = .ok (.getfield 35, 3) := by decide +kernel
theorem dX3_sailAllOfNow_7 : decode cX3_sailAllOfNow 7 = .ok (.if_icmp .ge 30, 3) := by decide +kernel
theorem dX3_sailAllOfNow_10 : decode cX3_sailAllOfNow 10 = .ok (.aload_n 0, 1) := by decide +kernel
theorem dX3_sailAllOfNow_11 : decode cX3_sailAllOfNow 11 = .ok (.getfield 21, 3) := by decide +kernel
theorem dX3_sailAllOfNow_14 : decode cX3_sailAllOfNow 14 = .ok (.iload_n 1, 1) := by decide +kernel
theorem dX3_sailAllOfNow_15 : decode cX3_sailAllOfNow 15 = .ok (.aaload, 1) := by decide +kernel
theorem dX3_sailAllOfNow_16 : decode cX3_sailAllOfNow 16 = .ok (.getfield 110, 3) := by decide +kernel
theorem dX3_sailAllOfNow_19 : decode cX3_sailAllOfNow 19 = .ok (.aload_n 0, 1) := by decide +kernel
theorem dX3_sailAllOfNow_20 : decode cX3_sailAllOfNow 20 = .ok (.getfield 38, 3) := by decide +kernel
theorem dX3_sailAllOfNow_23 : decode cX3_sailAllOfNow 23 = .ok (.if_icmp .ne 8, 3) := by decide +kernel
theorem dX3_sailAllOfNow_26 : decode cX3_sailAllOfNow 26 = .ok (.aload_n 0, 1) := by decide +kernel
theorem dX3_sailAllOfNow_27 : decode cX3_sailAllOfNow 27 = .ok (.iload_n 1, 1) := by decide +kernel
theorem dX3_sailAllOfNow_28 : decode cX3_sailAllOfNow 28 = .ok (.invokevirtual 251, 3) := by decide +kernel
theorem dX3_sailAllOfNow_31 : decode cX3_sailAllOfNow 31 = .ok (.iinc 1 1, 3) := by decide +kernel
theorem dX3_sailAllOfNow_34 : decode cX3_sailAllOfNow 34 = .ok (.goto (-32), 3) := by decide +kernel
theorem dX3_sailAllOfNow_37 : decode cX3_sailAllOfNow 37 = .ok (.return_, 1) := by decide +kernel
theorem dX3_sail_0 : decode cX3_sail 0 = .ok (.aload_n 0, 1) := by decide +kernel
theorem dX3_sail_1 : decode cX3_sail 1 = .ok (.getfield 21, 3) := by decide +kernel
theorem dX3_sail_4 : decode cX3_sail 4 = .ok (.iload_n 1, 1) := by decide +kernel
theorem dX3_sail_5 : decode cX3_sail 5 = .ok (.aaload, 1) := by decide +kernel
theorem dX3_sail_6 : decode cX3_sail 6 = .ok (.getfield 124, 3) := by decide +kernel
theorem dX3_sail_9 : decode cX3_sail 9 = .ok (.astore_n 2, 1) := by decide +kernel
theorem dX3_sail_10 : decode cX3_sail 10 = .ok (.iconst 0, 1) := by decide +kernel
theorem dX3_sail_11 : decode cX3_sail 11 = .ok (.istore_n 3, 1) := by decide +kernel
theorem dX3_sail_12 : decode cX3_sail 12 = .ok (.iload_n 3, 1) := by decide +kernel
theorem dX3_sail_13 : decode cX3_sail 13 = .ok (.bipush 10, 2) := by decide +kernel
theorem dX3_sail_15 : decode cX3_sail 15 = .ok (.if_icmp .ge 82, 3) := by decide +kernel
theorem dX3_sail_18 : decode cX3_sail 18 = .ok (.aload_n 2, 1) := by decide +kernel
theorem dX3_sail_19 : decode cX3_sail 19 = .ok (.iload_n 3, 1) := by decide +kernel
theorem dX3_sail_20 : decode cX3_sail 20 = .ok (.iaload, 1) := by decide +kernel
theorem dX3_sail_21 : decode cX3_sail 21 = .ok (.iconst 2, 1) := by decide +kernel
theorem dX3_sail_22 : decode cX3_sail 22 = .ok (.if_icmp .ne 41, 3) := by decide +kernel
theorem dX3_sail_25 : decode cX3_sail 25 = .ok (.aload_n 2, 1) := by decide +kernel
theorem dX3_sail_26 : decode cX3_sail 26 = .ok (.iload_n 3, 1) := by decide +kernel
theorem dX3_sail_27 : decode cX3_sail 27 = .ok (.iconst 3, 1) := by decide +kernel
theorem dX3_sail_28 : decode cX3_sail 28 = .ok (.iastore, 1) := by decide +kernel
theorem dX3_sail_29 : decode cX3_sail 29 = .ok (.aload_n 0, 1) := by decide +kernel
theorem dX3_sail_30 : decode cX3_sail 30 = .ok (.getfield 27, 3) := by decide +kernel
theorem dX3_sail_33 : decode cX3_sail 33 = .ok (.iload_n 3, 1) := by decide +kernel
theorem dX3_sail_34 : decode cX3_sail 34 = .ok (.aaload, 1) := by decide +kernel
theorem dX3_sail_35 : decode cX3_sail 35 = .ok (.iconst 1, 1) := by decide +kernel
theorem dX3_sail_36 : decode cX3_sail 36 = .ok (.putfield 170, 3) := by decide +kernel
theorem dX3_sail_39 : decode cX3_sail 39 = .ok (.aload_n 0, 1) := by decide +kernel
theorem dX3_sail_40 : decode cX3_sail 40 = .ok (.getfield 27, 3) := by decide +kernel
theorem dX3_sail_43 : decode cX3_sail 43 = .ok (.iload_n 3, 1) := by decide +kernel
theorem dX3_sail_44 : decode cX3_sail 44 = .ok (.aaload, 1) := by decide +kernel
theorem dX3_sail_45 : decode cX3_sail 45 = .ok (.dup, 1) := by decide +kernel
theorem dX3_sail_46 : decode cX3_sail 46 = .ok (.getfield 176, 3) := by decide +kernel
theorem dX3_sail_49 : decode cX3_sail 49 = .ok (.iconst 1, 1) := by decide +kernel
theorem dX3_sail_50 : decode cX3_sail 50 = .ok (.iadd, 1) := by decide +kernel
theorem dX3_sail_51 : decode cX3_sail 51 = .ok (.putfield 176, 3) := by decide +kernel
theorem dX3_sail_54 : decode cX3_sail 54 = .ok (.aload_n 0, 1) := by decide +kernel
theorem dX3_sail_55 : decode cX3_sail 55 = .ok (.iload_n 3, 1) := by decide +kernel
theorem dX3_sail_56 : decode cX3_sail 56 = .ok (.iload_n 1, 1) := by decide +kernel
theorem dX3_sail_57 : decode cX3_sail 57 = .ok (.invokevirtual 254, 3) := by decide +kernel
theorem dX3_sail_60 : decode cX3_sail 60 = .ok (.goto 31, 3) := by decide +kernel
theorem dX3_sail_63 : decode cX3_sail 63 = .ok (.aload_n 2, 1) := by decide +kernel
theorem dX3_sail_64 : decode cX3_sail 64 = .ok (.iload_n 3, 1) := by decide +kernel
theorem dX3_sail_65 : decode cX3_sail 65 = .ok (.iaload, 1) := by decide +kernel
theorem dX3_sail_66 : decode cX3_sail 66 = .ok (.iconst 1, 1) := by decide +kernel
theorem dX3_sail_67 : decode cX3_sail 67 = .ok (.if_icmp .ne 24, 3) := by decide +kernel
theorem dX3_sail_70 : decode cX3_sail 70 = .ok (.aload_n 0, 1) := by decide +kernel
theorem dX3_sail_71 : decode cX3_sail 71 = .ok (.getfield 27, 3) := by decide +kernel
theorem dX3_sail_74 : decode cX3_sail 74 = .ok (.iload_n 3, 1) := by decide +kernel
theorem dX3_sail_75 : decode cX3_sail 75 = .ok (.aaload, 1) := by decide +kernel
theorem dX3_sail_76 : decode cX3_sail 76 = .ok (.dup, 1) := by decide +kernel
theorem dX3_sail_77 : decode cX3_sail 77 = .ok (.getfield 221, 3) := by decide +kernel
theorem dX3_sail_80 : decode cX3_sail 80 = .ok (.iconst 1, 1) := by decide +kernel
theorem dX3_sail_81 : decode cX3_sail 81 = .ok (.iadd, 1) := by decide +kernel
theorem dX3_sail_82 : decode cX3_sail 82 = .ok (.putfield 221, 3) := by decide +kernel
theorem dX3_sail_85 : decode cX3_sail 85 = .ok (.aload_n 0, 1) := by decide +kernel
theorem dX3_sail_86 : decode cX3_sail 86 = .ok (.iload_n 3, 1) := by decide +kernel
theorem dX3_sail_87 : decode cX3_sail 87 = .ok (.iload_n 1, 1) := by decide +kernel
theorem dX3_sail_88 : decode cX3_sail 88 = .ok (.invokevirtual 258, 3) := by decide +kernel
theorem dX3_sail_91 : decode cX3_sail 91 = .ok (.iinc 3 1, 3) := by decide +kernel
theorem dX3_sail_94 : decode cX3_sail 94 = .ok (.goto (-82), 3) := by decide +kernel
theorem dX3_sail_97 : decode cX3_sail 97 = .ok (.return_, 1) := by decide +kernel
theorem dX3_payStamped_0 : decode cX3_payStamped 0 = .ok (.sipush 500, 3) := by decide +kernel
theorem dX3_payStamped_3 : decode cX3_payStamped 3 = .ok (.istore_n 3, 1) := by decide +kernel
theorem dX3_payStamped_4 : decode cX3_payStamped 4 = .ok (.iconst 0, 1) := by decide +kernel
theorem dX3_payStamped_5 : decode cX3_payStamped 5 = .ok (.istore 4, 2) := by decide +kernel
theorem dX3_payStamped_7 : decode cX3_payStamped 7 = .ok (.iload 4, 2) := by decide +kernel
theorem dX3_payStamped_9 : decode cX3_payStamped 9 = .ok (.aload_n 0, 1) := by decide +kernel
theorem dX3_payStamped_10 : decode cX3_payStamped 10 = .ok (.getfield 31, 3) := by decide +kernel
theorem dX3_payStamped_13 : decode cX3_payStamped 13 = .ok (.if_icmp .ge 80, 3) := by decide +kernel
theorem dX3_payStamped_16 : decode cX3_payStamped 16 = .ok (.aload_n 0, 1) := by decide +kernel
theorem dX3_payStamped_17 : decode cX3_payStamped 17 = .ok (.getfield 15, 3) := by decide +kernel
theorem dX3_payStamped_20 : decode cX3_payStamped 20 = .ok (.iload 4, 2) := by decide +kernel
theorem dX3_payStamped_22 : decode cX3_payStamped 22 = .ok (.aaload, 1) := by decide +kernel
theorem dX3_payStamped_23 : decode cX3_payStamped 23 = .ok (.astore 5, 2) := by decide +kernel
theorem dX3_payStamped_25 : decode cX3_payStamped 25 = .ok (.aload_n 0, 1) := by decide +kernel
theorem dX3_payStamped_26 : decode cX3_payStamped 26 = .ok (.aload 5, 2) := by decide +kernel
theorem dX3_payStamped_28 : decode cX3_payStamped 28 = .ok (.iload_n 1, 1) := by decide +kernel
theorem dX3_payStamped_29 : decode cX3_payStamped 29 = .ok (.iload_n 2, 1) := by decide +kernel
theorem dX3_payStamped_30 : decode cX3_payStamped 30 = .ok (.invokevirtual 247, 3) := by decide +kernel
theorem dX3_payStamped_33 : decode cX3_payStamped 33 = .ok (.ifCond .eq 54, 3) := by decide +kernel
theorem dX3_payStamped_36 : decode cX3_payStamped 36 = .ok (.aload 5, 2) := by decide +kernel
theorem dX3_payStamped_38 : decode cX3_payStamped 38 = .ok (.iconst 2, 1) := by decide +kernel
theorem dX3_payStamped_39 : decode cX3_payStamped 39 = .ok (.putfield 88, 3) := by decide +kernel
theorem dX3_payStamped_42 : decode cX3_payStamped 42 = .ok (.aload 5, 2) := by decide +kernel
theorem dX3_payStamped_44 : decode cX3_payStamped 44 = .ok (.aload_n 0, 1) := by decide +kernel
theorem dX3_payStamped_45 : decode cX3_payStamped 45 = .ok (.aload 5, 2) := by decide +kernel
theorem dX3_payStamped_47 : decode cX3_payStamped 47 = .ok (.getfield 82, 3) := by decide +kernel
theorem dX3_payStamped_50 : decode cX3_payStamped 50 = .ok (.invokevirtual 261, 3) := by decide +kernel
theorem dX3_payStamped_53 : decode cX3_payStamped 53 = .ok (.iload_n 3, 1) := by decide +kernel
theorem dX3_payStamped_54 : decode cX3_payStamped 54 = .ok (.invokestatic 265, 3) := by decide +kernel
theorem dX3_payStamped_57 : decode cX3_payStamped 57 = .ok (.putfield 186, 3) := by decide +kernel
theorem dX3_payStamped_60 : decode cX3_payStamped 60 = .ok (.iload_n 3, 1) := by decide +kernel
theorem dX3_payStamped_61 : decode cX3_payStamped 61 = .ok (.aload 5, 2) := by decide +kernel
theorem dX3_payStamped_63 : decode cX3_payStamped 63 = .ok (.getfield 186, 3) := by decide +kernel
theorem dX3_payStamped_66 : decode cX3_payStamped 66 = .ok (.isub, 1) := by decide +kernel
theorem dX3_payStamped_67 : decode cX3_payStamped 67 = .ok (.istore_n 3, 1) := by decide +kernel
theorem dX3_payStamped_68 : decode cX3_payStamped 68 = .ok (.aload_n 0, 1) := by decide +kernel
theorem dX3_payStamped_69 : decode cX3_payStamped 69 = .ok (.getfield 27, 3) := by decide +kernel
theorem dX3_payStamped_72 : decode cX3_payStamped 72 = .ok (.iload_n 1, 1) := by decide +kernel
theorem dX3_payStamped_73 : decode cX3_payStamped 73 = .ok (.aaload, 1) := by decide +kernel
theorem dX3_payStamped_74 : decode cX3_payStamped 74 = .ok (.dup, 1) := by decide +kernel
theorem dX3_payStamped_75 : decode cX3_payStamped 75 = .ok (.getfield 218, 3) := by decide +kernel
theorem dX3_payStamped_78 : decode cX3_payStamped 78 = .ok (.aload 5, 2) := by decide +kernel
theorem dX3_payStamped_80 : decode cX3_payStamped 80 = .ok (.getfield 186, 3) := by decide +kernel
theorem dX3_payStamped_83 : decode cX3_payStamped 83 = .ok (.iadd, 1) := by decide +kernel
theorem dX3_payStamped_84 : decode cX3_payStamped 84 = .ok (.putfield 218, 3) := by decide +kernel
theorem dX3_payStamped_87 : decode cX3_payStamped 87 = .ok (.iinc 4 1, 3) := by decide +kernel
theorem dX3_payStamped_90 : decode cX3_payStamped 90 = .ok (.goto (-83), 3) := by decide +kernel
theorem dX3_payStamped_93 : decode cX3_payStamped 93 = .ok (.return_, 1) := by decide +kernel
theorem dX3_wasteStamped_0 : decode cX3_wasteStamped 0 = .ok (.iconst 0, 1) := by decide +kernel
theorem dX3_wasteStamped_1 : decode cX3_wasteStamped 1 = .ok (.istore_n 3, 1) := by decide +kernel
theorem dX3_wasteStamped_2 : decode cX3_wasteStamped 2 = .ok (.iload_n 3, 1) := by decide +kernel
theorem dX3_wasteStamped_3 : decode cX3_wasteStamped 3 = .ok (.aload_n 0, 1) := by decide +kernel
theorem dX3_wasteStamped_4 : decode cX3_wasteStamped 4 = .ok (.getfield 31, 3) := by decide +kernel
theorem dX3_wasteStamped_7 : decode cX3_wasteStamped 7 = .ok (.if_icmp .ge 59, 3) := by decide +kernel
theorem dX3_wasteStamped_10 : decode cX3_wasteStamped 10 = .ok (.aload_n 0, 1) := by decide +kernel
theorem dX3_wasteStamped_11 : decode cX3_wasteStamped 11 = .ok (.getfield 15, 3) := by decide +kernel
theorem dX3_wasteStamped_14 : decode cX3_wasteStamped 14 = .ok (.iload_n 3, 1) := by decide +kernel
theorem dX3_wasteStamped_15 : decode cX3_wasteStamped 15 = .ok (.aaload, 1) := by decide +kernel
theorem dX3_wasteStamped_16 : decode cX3_wasteStamped 16 = .ok (.astore 4, 2) := by decide +kernel
theorem dX3_wasteStamped_18 : decode cX3_wasteStamped 18 = .ok (.aload_n 0, 1) := by decide +kernel
theorem dX3_wasteStamped_19 : decode cX3_wasteStamped 19 = .ok (.aload 4, 2) := by decide +kernel
theorem dX3_wasteStamped_21 : decode cX3_wasteStamped 21 = .ok (.iload_n 1, 1) := by decide +kernel
theorem dX3_wasteStamped_22 : decode cX3_wasteStamped 22 = .ok (.iload_n 2, 1) := by decide +kernel
theorem dX3_wasteStamped_23 : decode cX3_wasteStamped 23 = .ok (.invokevirtual 247, 3) := by decide +kernel
theorem dX3_wasteStamped_26 : decode cX3_wasteStamped 26 = .ok (.ifCond .eq 34, 3) := by decide +kernel
theorem dX3_wasteStamped_29 : decode cX3_wasteStamped 29 = .ok (.aload 4, 2) := by decide +kernel
theorem dX3_wasteStamped_31 : decode cX3_wasteStamped 31 = .ok (.dup, 1) := by decide +kernel
theorem dX3_wasteStamped_32 : decode cX3_wasteStamped 32 = .ok (.getfield 270, 3) := by decide +kernel
theorem dX3_wasteStamped_35 : decode cX3_wasteStamped 35 = .ok (.iconst 1, 1) := by decide +kernel
theorem dX3_wasteStamped_36 : decode cX3_wasteStamped 36 = .ok (.iadd, 1) := by decide +kernel
theorem dX3_wasteStamped_37 : decode cX3_wasteStamped 37 = .ok (.putfield 270, 3) := by decide +kernel
theorem dX3_wasteStamped_40 : decode cX3_wasteStamped 40 = .ok (.aload_n 0, 1) := by decide +kernel
theorem dX3_wasteStamped_41 : decode cX3_wasteStamped 41 = .ok (.aload 4, 2) := by decide +kernel
theorem dX3_wasteStamped_43 : decode cX3_wasteStamped 43 = .ok (.aload 4, 2) := by decide +kernel
theorem dX3_wasteStamped_45 : decode cX3_wasteStamped 45 = .ok (.getfield 270, 3) := by decide +kernel
theorem dX3_wasteStamped_48 : decode cX3_wasteStamped 48 = .ok (.iconst 2, 1) := by decide +kernel
theorem dX3_wasteStamped_49 : decode cX3_wasteStamped 49 = .ok (.if_icmp .lt 7, 3) := by decide +kernel
theorem dX3_wasteStamped_52 : decode cX3_wasteStamped 52 = .ok (.iconst 3, 1) := by decide +kernel
theorem dX3_wasteStamped_53 : decode cX3_wasteStamped 53 = .ok (.goto 4, 3) := by decide +kernel
theorem dX3_wasteStamped_56 : decode cX3_wasteStamped 56 = .ok (.iconst 0, 1) := by decide +kernel
theorem dX3_wasteStamped_57 : decode cX3_wasteStamped 57 = .ok (.invokevirtual 163, 3) := by decide +kernel
theorem dX3_wasteStamped_60 : decode cX3_wasteStamped 60 = .ok (.iinc 3 1, 3) := by decide +kernel
theorem dX3_wasteStamped_63 : decode cX3_wasteStamped 63 = .ok (.goto (-61), 3) := by decide +kernel
theorem dX3_wasteStamped_66 : decode cX3_wasteStamped 66 = .ok (.return_, 1) := by decide +kernel
theorem dX3_refundOfTax_0 : decode cX3_refundOfTax 0 = .ok (.iload_n 1, 1) := by decide +kernel
theorem dX3_refundOfTax_1 : decode cX3_refundOfTax 1 = .ok (.iload_n 1, 1) := by decide +kernel
theorem dX3_refundOfTax_2 : decode cX3_refundOfTax 2 = .ok (.bipush 9, 2) := by decide +kernel
theorem dX3_refundOfTax_4 : decode cX3_refundOfTax 4 = .ok (.iadd, 1) := by decide +kernel
theorem dX3_refundOfTax_5 : decode cX3_refundOfTax 5 = .ok (.bipush 10, 2) := by decide +kernel
theorem dX3_refundOfTax_7 : decode cX3_refundOfTax 7 = .ok (.idiv, 1) := by decide +kernel
theorem dX3_refundOfTax_8 : decode cX3_refundOfTax 8 = .ok (.isub, 1) := by decide +kernel
theorem dX3_refundOfTax_9 : decode cX3_refundOfTax 9 = .ok (.ireturn, 1) := by decide +kernel
theorem dX3_refundsOfSailing_0 : decode cX3_refundsOfSailing 0 = .ok (.iconst 0, 1) := by decide +kernel
theorem dX3_refundsOfSailing_1 : decode cX3_refundsOfSailing 1 = .ok (.istore_n 3, 1) := by decide +kernel
theorem dX3_refundsOfSailing_2 : decode cX3_refundsOfSailing 2 = .ok (.iconst 0, 1) := by decide +kernel
theorem dX3_refundsOfSailing_3 : decode cX3_refundsOfSailing 3 = .ok (.istore 4, 2) := by decide +kernel
theorem dX3_refundsOfSailing_5 : decode cX3_refundsOfSailing 5 = .ok (.iload 4, 2) := by decide +kernel
theorem dX3_refundsOfSailing_7 : decode cX3_refundsOfSailing 7 = .ok (.aload_n 0, 1) := by decide +kernel
theorem dX3_refundsOfSailing_8 : decode cX3_refundsOfSailing 8 = .ok (.getfield 31, 3) := by decide +kernel
theorem dX3_refundsOfSailing_11 : decode cX3_refundsOfSailing 11 = .ok (.if_icmp .ge 48, 3) := by decide +kernel
theorem dX3_refundsOfSailing_14 : decode cX3_refundsOfSailing 14 = .ok (.aload_n 0, 1) := by decide +kernel
theorem dX3_refundsOfSailing_15 : decode cX3_refundsOfSailing 15 = .ok (.getfield 15, 3) := by decide +kernel
theorem dX3_refundsOfSailing_18 : decode cX3_refundsOfSailing 18 = .ok (.iload 4, 2) := by decide +kernel
theorem dX3_refundsOfSailing_20 : decode cX3_refundsOfSailing 20 = .ok (.aaload, 1) := by decide +kernel
theorem dX3_refundsOfSailing_21 : decode cX3_refundsOfSailing 21 = .ok (.astore 5, 2) := by decide +kernel
theorem dX3_refundsOfSailing_23 : decode cX3_refundsOfSailing 23 = .ok (.aload 5, 2) := by decide +kernel
theorem dX3_refundsOfSailing_25 : decode cX3_refundsOfSailing 25 = .ok (.getfield 76, 3) := by decide +kernel
theorem dX3_refundsOfSailing_28 : decode cX3_refundsOfSailing 28 = .ok (.iload_n 1, 1) := by decide +kernel
theorem dX3_refundsOfSailing_29 : decode cX3_refundsOfSailing 29 = .ok (.if_icmp .ne 24, 3) := by decide +kernel
theorem dX3_refundsOfSailing_32 : decode cX3_refundsOfSailing 32 = .ok (.aload 5, 2) := by decide +kernel
theorem dX3_refundsOfSailing_34 : decode cX3_refundsOfSailing 34 = .ok (.getfield 91, 3) := by decide +kernel
theorem dX3_refundsOfSailing_37 : decode cX3_refundsOfSailing 37 = .ok (.iload_n 2, 1) := by decide +kernel
theorem dX3_refundsOfSailing_38 : decode cX3_refundsOfSailing 38 = .ok (.if_icmp .ne 15, 3) := by decide +kernel
theorem dX3_refundsOfSailing_41 : decode cX3_refundsOfSailing 41 = .ok (.iload_n 3, 1) := by decide +kernel
theorem dX3_refundsOfSailing_42 : decode cX3_refundsOfSailing 42 = .ok (.aload_n 0, 1) := by decide +kernel
theorem dX3_refundsOfSailing_43 : decode cX3_refundsOfSailing 43 = .ok (.aload 5, 2) := by decide +kernel
theorem dX3_refundsOfSailing_45 : decode cX3_refundsOfSailing 45 = .ok (.getfield 82, 3) := by decide +kernel
theorem dX3_refundsOfSailing_48 : decode cX3_refundsOfSailing 48 = .ok (.invokevirtual 261, 3) := by decide +kernel
theorem dX3_refundsOfSailing_51 : decode cX3_refundsOfSailing 51 = .ok (.iadd, 1) := by decide +kernel
theorem dX3_refundsOfSailing_52 : decode cX3_refundsOfSailing 52 = .ok (.istore_n 3, 1) := by decide +kernel
theorem dX3_refundsOfSailing_53 : decode cX3_refundsOfSailing 53 = .ok (.iinc 4 1, 3) := by decide +kernel
theorem dX3_refundsOfSailing_56 : decode cX3_refundsOfSailing 56 = .ok (.goto (-51), 3) := by decide +kernel
theorem dX3_refundsOfSailing_59 : decode cX3_refundsOfSailing 59 = .ok (.iload_n 3, 1) := by decide +kernel
theorem dX3_refundsOfSailing_60 : decode cX3_refundsOfSailing 60 = .ok (.sipush 500, 3) := by decide +kernel
theorem dX3_refundsOfSailing_63 : decode cX3_refundsOfSailing 63 = .ok (.invokestatic 265, 3) := by decide +kernel
theorem dX3_refundsOfSailing_66 : decode cX3_refundsOfSailing 66 = .ok (.ireturn, 1) := by decide +kernel
theorem dX3_appendBackwards_0 : decode cX3_appendBackwards 0 = .ok (.iload_n 2, 1) := by decide +kernel
theorem dX3_appendBackwards_1 : decode cX3_appendBackwards 1 = .ok (.istore_n 3, 1) := by decide +kernel
theorem dX3_appendBackwards_2 : decode cX3_appendBackwards 2 = .ok (.iconst 0, 1) := by decide +kernel
theorem dX3_appendBackwards_3 : decode cX3_appendBackwards 3 = .ok (.istore 4, 2) := by decide +kernel
theorem dX3_appendBackwards_5 : decode cX3_appendBackwards 5 = .ok (.iload 4, 2) := by decide +kernel
theorem dX3_appendBackwards_7 : decode cX3_appendBackwards 7 = .ok (.bipush 10, 2) := by decide +kernel
theorem dX3_appendBackwards_9 : decode cX3_appendBackwards 9 = .ok (.if_icmp .ge 36, 3) := by decide +kernel
theorem dX3_appendBackwards_12 : decode cX3_appendBackwards 12 = .ok (.iload 4, 2) := by decide +kernel
theorem dX3_appendBackwards_14 : decode cX3_appendBackwards 14 = .ok (.ifCond .eq 7, 3) := by decide +kernel
theorem dX3_appendBackwards_17 : decode cX3_appendBackwards 17 = .ok (.iload_n 3, 1) := by decide +kernel
theorem dX3_appendBackwards_18 : decode cX3_appendBackwards 18 = .ok (.ifCond .le 27, 3) := by decide +kernel
theorem dX3_appendBackwards_21 : decode cX3_appendBackwards 21 = .ok (.aload_n 1, 1) := by decide +kernel
theorem dX3_appendBackwards_22 : decode cX3_appendBackwards 22 = .ok (.bipush 48, 2) := by decide +kernel
theorem dX3_appendBackwards_24 : decode cX3_appendBackwards 24 = .ok (.iload_n 3, 1) := by decide +kernel
theorem dX3_appendBackwards_25 : decode cX3_appendBackwards 25 = .ok (.bipush 10, 2) := by decide +kernel
theorem dX3_appendBackwards_27 : decode cX3_appendBackwards 27 = .ok (.irem, 1) := by decide +kernel
theorem dX3_appendBackwards_28 : decode cX3_appendBackwards 28 = .ok (.iadd, 1) := by decide +kernel
theorem dX3_appendBackwards_29 : decode cX3_appendBackwards 29 = .ok (.i2c, 1) := by decide +kernel
theorem dX3_appendBackwards_30 : decode cX3_appendBackwards 30 = .ok (.invokevirtual 199, 3) := by decide +kernel
theorem dX3_appendBackwards_33 : decode cX3_appendBackwards 33 = .ok (.pop, 1) := by decide +kernel
theorem dX3_appendBackwards_34 : decode cX3_appendBackwards 34 = .ok (.iload_n 3, 1) := by decide +kernel
theorem dX3_appendBackwards_35 : decode cX3_appendBackwards 35 = .ok (.bipush 10, 2) := by decide +kernel
theorem dX3_appendBackwards_37 : decode cX3_appendBackwards 37 = .ok (.idiv, 1) := by decide +kernel
theorem dX3_appendBackwards_38 : decode cX3_appendBackwards 38 = .ok (.istore_n 3, 1) := by decide +kernel
theorem dX3_appendBackwards_39 : decode cX3_appendBackwards 39 = .ok (.iinc 4 1, 3) := by decide +kernel
theorem dX3_appendBackwards_42 : decode cX3_appendBackwards 42 = .ok (.goto (-37), 3) := by decide +kernel
theorem dX3_appendBackwards_45 : decode cX3_appendBackwards 45 = .ok (.return_, 1) := by decide +kernel
