theorem dX4_init_0 : decode cX4_init 0 = .ok (.aload_n 0, 1) := by decide +kernel
theorem dX4_init_1 : decode cX4_init 1 = .ok (.invokespecial 1, 3) := by decide +kernel
theorem dX4_init_4 : decode cX4_init 4 = .ok (.aload_n 0, 1) := by decide +kernel
theorem dX4_init_5 : decode cX4_init 5 = .ok (.iconst 4, 1) := by decide +kernel
theorem dX4_init_6 : decode cX4_init 6 = .ok (.newarray .int, 2) := by decide +kernel
theorem dX4_init_8 : decode cX4_init 8 = .ok (.putfield 7, 3) := by decide +kernel
theorem dX4_init_11 : decode cX4_init 11 = .ok (.aload_n 0, 1) := by decide +kernel
theorem dX4_init_12 : decode cX4_init 12 = .ok (.bipush 60, 2) := by decide +kernel
theorem dX4_init_14 : decode cX4_init 14 = .ok (.newarray .int, 2) := by decide +kernel
theorem dX4_init_16 : decode cX4_init 16 = .ok (.putfield 13, 3) := by decide +kernel
theorem dX4_init_19 : decode cX4_init 19 = .ok (.aload_n 0, 1) := by decide +kernel
theorem dX4_init_20 : decode cX4_init 20 = .ok (.bipush 60, 2) := by decide +kernel
theorem dX4_init_22 : decode cX4_init 22 = .ok (.newarray .int, 2) := by decide +kernel
theorem dX4_init_24 : decode cX4_init 24 = .ok (.putfield 16, 3) := by decide +kernel
theorem dX4_init_27 : decode cX4_init 27 = .ok (.aload_n 0, 1) := by decide +kernel
theorem dX4_init_28 : decode cX4_init 28 = .ok (.bipush 60, 2) := by decide +kernel
theorem dX4_init_30 : decode cX4_init 30 = .ok (.newarray .int, 2) := by decide +kernel
theorem dX4_init_32 : decode cX4_init 32 = .ok (.putfield 19, 3) := by decide +kernel
theorem dX4_init_35 : decode cX4_init 35 = .ok (.aload_n 0, 1) := by decide +kernel
theorem dX4_init_36 : decode cX4_init 36 = .ok (.bipush 60, 2) := by decide +kernel
theorem dX4_init_38 : decode cX4_init 38 = .ok (.newarray .int, 2) := by decide +kernel
theorem dX4_init_40 : decode cX4_init 40 = .ok (.putfield 22, 3) := by decide +kernel
theorem dX4_init_43 : decode cX4_init 43 = .ok (.aload_n 0, 1) := by decide +kernel
theorem dX4_init_44 : decode cX4_init 44 = .ok (.bipush 60, 2) := by decide +kernel
theorem dX4_init_46 : decode cX4_init 46 = .ok (.newarray .int, 2) := by decide +kernel
theorem dX4_init_48 : decode cX4_init 48 = .ok (.putfield 25, 3) := by decide +kernel
theorem dX4_init_51 : decode cX4_init 51 = .ok (.aload_n 0, 1) := by decide +kernel
theorem dX4_init_52 : decode cX4_init 52 = .ok (.bipush 60, 2) := by decide +kernel
theorem dX4_init_54 : decode cX4_init 54 = .ok (.newarray .int, 2) := by decide +kernel
theorem dX4_init_56 : decode cX4_init 56 = .ok (.putfield 28, 3) := by decide +kernel
theorem dX4_init_59 : decode cX4_init 59 = .ok (.aload_n 0, 1) := by decide +kernel
theorem dX4_init_60 : decode cX4_init 60 = .ok (.bipush 60, 2) := by decide +kernel
theorem dX4_init_62 : decode cX4_init 62 = .ok (.newarray .int, 2) := by decide +kernel
theorem dX4_init_64 : decode cX4_init 64 = .ok (.putfield 31, 3) := by decide +kernel
theorem dX4_init_67 : decode cX4_init 67 = .ok (.aload_n 0, 1) := by decide +kernel
theorem dX4_init_68 : decode cX4_init 68 = .ok (.bipush 60, 2) := by decide +kernel
theorem dX4_init_70 : decode cX4_init 70 = .ok (.newarray .int, 2) := by decide +kernel
theorem dX4_init_72 : decode cX4_init 72 = .ok (.putfield 34, 3) := by decide +kernel
theorem dX4_init_75 : decode cX4_init 75 = .ok (.aload_n 0, 1) := by decide +kernel
theorem dX4_init_76 : decode cX4_init 76 = .ok (.bipush 60, 2) := by decide +kernel
theorem dX4_init_78 : decode cX4_init 78 = .ok (.newarray .int, 2) := by decide +kernel
theorem dX4_init_80 : decode cX4_init 80 = .ok (.putfield 37, 3) := by decide +kernel
theorem dX4_init_83 : decode cX4_init 83 = .ok (.aload_n 0, 1) := by decide +kernel
theorem dX4_init_84 : decode cX4_init 84 = .ok (.bipush 20, 2) := by decide +kernel
theorem dX4_init_86 : decode cX4_init 86 = .ok (.newarray .int, 2) := by decide +kernel
theorem dX4_init_88 : decode cX4_init 88 = .ok (.putfield 40, 3) := by decide +kernel
theorem dX4_init_91 : decode cX4_init 91 = .ok (.aload_n 0, 1) := by decide +kernel
theorem dX4_init_92 : decode cX4_init 92 = .ok (.bipush 20, 2) := by decide +kernel
theorem dX4_init_94 : decode cX4_init 94 = .ok (.newarray .int, 2) := by decide +kernel
theorem dX4_init_96 : decode cX4_init 96 = .ok (.putfield 43, 3) := by decide +kernel
theorem dX4_init_99 : decode cX4_init 99 = .ok (.aload_n 0, 1) := by decide +kernel
theorem dX4_init_100 : decode cX4_init 100 = .ok (.bipush 20, 2) := by decide +kernel
theorem dX4_init_102 : decode cX4_init 102 = .ok (.newarray .int, 2) := by decide +kernel
theorem dX4_init_104 : decode cX4_init 104 = .ok (.putfield 46, 3) := by decide +kernel
theorem dX4_init_107 : decode cX4_init 107 = .ok (.aload_n 0, 1) := by decide +kernel
theorem dX4_init_108 : decode cX4_init 108 = .ok (.bipush 20, 2) := by decide +kernel
theorem dX4_init_110 : decode cX4_init 110 = .ok (.newarray .int, 2) := by decide +kernel
theorem dX4_init_112 : decode cX4_init 112 = .ok (.putfield 49, 3) := by decide +kernel
theorem dX4_init_115 : decode cX4_init 115 = .ok (.aload_n 0, 1) := by decide +kernel
theorem dX4_init_116 : decode cX4_init 116 = .ok (.bipush 10, 2) := by decide +kernel
theorem dX4_init_118 : decode cX4_init 118 = .ok (.newarray .int, 2) := by decide +kernel
theorem dX4_init_120 : decode cX4_init 120 = .ok (.putfield 52, 3) := by decide +kernel
theorem dX4_init_123 : decode cX4_init 123 = .ok (.aload_n 0, 1) := by decide +kernel
theorem dX4_init_124 : decode cX4_init 124 = .ok (.bipush 10, 2) := by decide +kernel
theorem dX4_init_126 : decode cX4_init 126 = .ok (.newarray .int, 2) := by decide +kernel
theorem dX4_init_128 : decode cX4_init 128 = .ok (.putfield 55, 3) := by decide +kernel
theorem dX4_init_131 : decode cX4_init 131 = .ok (.aload_n 0, 1) := by decide +kernel
theorem dX4_init_132 : decode cX4_init 132 = .ok (.bipush 10, 2) := by decide +kernel
theorem dX4_init_134 : decode cX4_init 134 = .ok (.newarray .int, 2) := by decide +kernel
theorem dX4_init_136 : decode cX4_init 136 = .ok (.putfield 58, 3) := by decide +kernel
theorem dX4_init_139 : decode cX4_init 139 = .ok (.aload_n 0, 1) := by decide +kernel
theorem dX4_init_140 : decode cX4_init 140 = .ok (.bipush 10, 2) := by decide +kernel
theorem dX4_init_142 : decode cX4_init 142 = .ok (.newarray .int, 2) := by decide +kernel
theorem dX4_init_144 : decode cX4_init 144 = .ok (.putfield 61, 3) := by decide +kernel
theorem dX4_init_147 : decode cX4_init 147 = .ok (.aload_n 0, 1) := by decide +kernel
theorem dX4_init_148 : decode cX4_init 148 = .ok (.bipush 10, 2) := by decide +kernel
theorem dX4_init_150 : decode cX4_init 150 = .ok (.newarray .int, 2) := by decide +kernel
theorem dX4_init_152 : decode cX4_init 152 = .ok (.putfield 64, 3) := by decide +kernel
theorem dX4_init_155 : decode cX4_init 155 = .ok (.aload_n 0, 1) := by decide +kernel
theorem dX4_init_156 : decode cX4_init 156 = .ok (.bipush 10, 2) := by decide +kernel
theorem dX4_init_158 : decode cX4_init 158 = .ok (.newarray .int, 2) := by decide +kernel
theorem dX4_init_160 : decode cX4_init 160 = .ok (.putfield 67, 3) := by decide +kernel
theorem dX4_init_163 : decode cX4_init 163 = .ok (.aload_n 0, 1) := by decide +kernel
theorem dX4_init_164 : decode cX4_init 164 = .ok (.bipush 10, 2) := by decide +kernel
theorem dX4_init_166 : decode cX4_init 166 = .ok (.newarray .int, 2) := by decide +kernel
theorem dX4_init_168 : decode cX4_init 168 = .ok (.putfield 70, 3) := by decide +kernel
theorem dX4_init_171 : decode cX4_init 171 = .ok (.iconst 0, 1) := by decide +kernel
theorem dX4_init_172 : decode cX4_init 172 = .ok (.istore_n 1, 1) := by decide +kernel
theorem dX4_init_173 : decode cX4_init 173 = .ok (.iload_n 1, 1) := by decide +kernel
theorem dX4_init_174 : decode cX4_init 174 = .ok (.iconst 4, 1) := by decide +kernel
theorem dX4_init_175 : decode cX4_init 175 = .ok (.if_icmp .ge 17, 3) := by decide +kernel
theorem dX4_init_178 : decode cX4_init 178 = .ok (.aload_n 0, 1) := by decide +kernel
theorem dX4_init_179 : decode cX4_init 179 = .ok (.getfield 7, 3) := by decide +kernel
theorem dX4_init_182 : decode cX4_init 182 = .ok (.iload_n 1, 1) := by decide +kernel
theorem dX4_init_183 : decode cX4_init 183 = .ok (.bipush 10, 2) := by decide +kernel
theorem dX4_init_185 : decode cX4_init 185 = .ok (.iastore, 1) := by decide +kernel
theorem dX4_init_186 : decode cX4_init 186 = .ok (.iinc 1 1, 3) := by decide +kernel
theorem dX4_init_189 : decode cX4_init 189 = .ok (.goto (-16), 3) := by decide +kernel
theorem dX4_init_192 : decode cX4_init 192 = .ok (.iconst 0, 1) := by decide +kernel
theorem dX4_init_193 : decode cX4_init 193 = .ok (.istore_n 1, 1) := by decide +kernel
theorem dX4_init_194 : decode cX4_init 194 = .ok (.iload_n 1, 1) := by decide +kernel
theorem dX4_init_195 : decode cX4_init 195 = .ok (.bipush 10, 2) := by decide +kernel
theorem dX4_init_197 : decode cX4_init 197 = .ok (.if_icmp .ge 16, 3) := by decide +kernel
theorem dX4_init_200 : decode cX4_init 200 = .ok (.aload_n 0, 1) := by decide +kernel
theorem dX4_init_201 : decode cX4_init 201 = .ok (.getfield 52, 3) := by decide +kernel
theorem dX4_init_204 : decode cX4_init 204 = .ok (.iload_n 1, 1) := by decide +kernel
theorem dX4_init_205 : decode cX4_init 205 = .ok (.iconst (-1), 1) := by decide +kernel
theorem dX4_init_206 : decode cX4_init 206 = .ok (.iastore, 1) := by decide +kernel
theorem dX4_init_207 : decode cX4_init 207 = .ok (.iinc 1 1, 3) := by decide +kernel
theorem dX4_init_210 : decode cX4_init 210 = .ok (.goto (-16), 3) := by decide +kernel
theorem dX4_init_213 : decode cX4_init 213 = .ok (.return_, 1) := by decide +kernel
theorem dX4_thrown_0 : decode cX4_thrown 0 = .ok (.aload_n 0, 1) := by decide +kernel
theorem dX4_thrown_1 : decode cX4_thrown 1 = .ok (.getfield 73, 3) := by decide +kernel
theorem dX4_thrown_4 : decode cX4_thrown 4 = .ok (.ireturn, 1) := by decide +kernel
theorem dX4_holds_0 : decode cX4_holds 0 = .ok (.aload_n 0, 1) := by decide +kernel
theorem dX4_holds_1 : decode cX4_holds 1 = .ok (.iload_n 1, 1) := by decide +kernel
theorem dX4_holds_2 : decode cX4_holds 2 = .ok (.putfield 73, 3) := by decide +kernel
theorem dX4_holds_5 : decode cX4_holds 5 = .ok (.iload_n 1, 1) := by decide +kernel
theorem dX4_holds_6 : decode cX4_holds 6 = .ok (.ifCond .le 7, 3) := by decide +kernel
theorem dX4_holds_9 : decode cX4_holds 9 = .ok (.iconst 1, 1) := by decide +kernel
theorem dX4_holds_10 : decode cX4_holds 10 = .ok (.goto 4, 3) := by decide +kernel
theorem dX4_holds_13 : decode cX4_holds 13 = .ok (.iconst 0, 1) := by decide +kernel
theorem dX4_holds_14 : decode cX4_holds 14 = .ok (.ireturn, 1) := by decide +kernel
theorem dX4_in_0 : decode cX4_in 0 = .ok (.iload_n 1, 1) := by decide +kernel
theorem dX4_in_1 : decode cX4_in 1 = .ok (.iload_n 2, 1) := by decide +kernel
theorem dX4_in_2 : decode cX4_in 2 = .ok (.if_icmp .lt 12, 3) := by decide +kernel
theorem dX4_in_5 : decode cX4_in 5 = .ok (.iload_n 1, 1) := by decide +kernel
theorem dX4_in_6 : decode cX4_in 6 = .ok (.iload_n 3, 1) := by decide +kernel
theorem dX4_in_7 : decode cX4_in 7 = .ok (.if_icmp .gt 7, 3) := by decide +kernel
theorem dX4_in_10 : decode cX4_in 10 = .ok (.iconst 1, 1) := by decide +kernel
theorem dX4_in_11 : decode cX4_in 11 = .ok (.goto 4, 3) := by decide +kernel
theorem dX4_in_14 : decode cX4_in 14 = .ok (.iconst 0, 1) := by decide +kernel
theorem dX4_in_15 : decode cX4_in 15 = .ok (.ireturn, 1) := by decide +kernel
theorem dX4_isReceipt_0 : decode cX4_isReceipt 0 = .ok (.aload_n 0, 1) := by decide +kernel
theorem dX4_isReceipt_1 : decode cX4_isReceipt 1 = .ok (.iload_n 1, 1) := by decide +kernel
theorem dX4_isReceipt_2 : decode cX4_isReceipt 2 = .ok (.iconst 0, 1) := by decide +kernel
theorem dX4_isReceipt_3 : decode cX4_isReceipt 3 = .ok (.aload_n 0, 1) := by decide +kernel
theorem dX4_isReceipt_4 : decode cX4_isReceipt 4 = .ok (.getfield 77, 3) := by decide +kernel
theorem dX4_isReceipt_7 : decode cX4_isReceipt 7 = .ok (.iconst 1, 1) := by decide +kernel
theorem dX4_isReceipt_8 : decode cX4_isReceipt 8 = .ok (.isub, 1) := by decide +kernel
theorem dX4_isReceipt_9 : decode cX4_isReceipt 9 = .ok (.invokevirtual 80, 3) := by decide +kernel
theorem dX4_isReceipt_12 : decode cX4_isReceipt 12 = .ok (.ireturn, 1) := by decide +kernel
theorem dX4_isFerry_0 : decode cX4_isFerry 0 = .ok (.aload_n 0, 1) := by decide +kernel
theorem dX4_isFerry_1 : decode cX4_isFerry 1 = .ok (.iload_n 1, 1) := by decide +kernel
theorem dX4_isFerry_2 : decode cX4_isFerry 2 = .ok (.iconst 0, 1) := by decide +kernel
theorem dX4_isFerry_3 : decode cX4_isFerry 3 = .ok (.aload_n 0, 1) := by decide +kernel
theorem dX4_isFerry_4 : decode cX4_isFerry 4 = .ok (.getfield 84, 3) := by decide +kernel
theorem dX4_isFerry_7 : decode cX4_isFerry 7 = .ok (.iconst 1, 1) := by decide +kernel
theorem dX4_isFerry_8 : decode cX4_isFerry 8 = .ok (.isub, 1) := by decide +kernel
theorem dX4_isFerry_9 : decode cX4_isFerry 9 = .ok (.invokevirtual 80, 3) := by decide +kernel
theorem dX4_isFerry_12 : decode cX4_isFerry 12 = .ok (.ireturn, 1) := by decide +kernel
theorem dX4_hasSeat_0 : decode cX4_hasSeat 0 = .ok (.aload_n 0, 1) := by decide +kernel
theorem dX4_hasSeat_1 : decode cX4_hasSeat 1 = .ok (.getfield 46, 3) := by decide +kernel
theorem dX4_hasSeat_4 : decode cX4_hasSeat 4 = .ok (.iload_n 2, 1) := by decide +kernel
theorem dX4_hasSeat_5 : decode cX4_hasSeat 5 = .ok (.iaload, 1) := by decide +kernel
theorem dX4_hasSeat_6 : decode cX4_hasSeat 6 = .ok (.iload_n 1, 1) := by decide +kernel
theorem dX4_hasSeat_7 : decode cX4_hasSeat 7 = .ok (.ishr, 1) := by decide +kernel
theorem dX4_hasSeat_8 : decode cX4_hasSeat 8 = .ok (.iconst 1, 1) := by decide +kernel
theorem dX4_hasSeat_9 : decode cX4_hasSeat 9 = .ok (.iand, 1) := by decide +kernel
theorem dX4_hasSeat_10 : decode cX4_hasSeat 10 = .ok (.iconst 1, 1) := by decide +kernel
theorem dX4_hasSeat_11 : decode cX4_hasSeat 11 = .ok (.if_icmp .ne 7, 3) := by decide +kernel
theorem dX4_hasSeat_14 : decode cX4_hasSeat 14 = .ok (.iconst 1, 1) := by decide +kernel
theorem dX4_hasSeat_15 : decode cX4_hasSeat 15 = .ok (.goto 4, 3) := by decide +kernel
theorem dX4_hasSeat_18 : decode cX4_hasSeat 18 = .ok (.iconst 0, 1) := by decide +kernel
theorem dX4_hasSeat_19 : decode cX4_hasSeat 19 = .ok (.ireturn, 1) := by decide +kernel
theorem dX4_rate_0 : decode cX4_rate 0 = .ok (.aload_n 0, 1) := by decide +kernel
theorem dX4_rate_1 : decode cX4_rate 1 = .ok (.aload_n 0, 1) := by decide +kernel
theorem dX4_rate_2 : decode cX4_rate 2 = .ok (.iload_n 1, 1) := by decide +kernel
theorem dX4_rate_3 : decode cX4_rate 3 = .ok (.iconst 0, 1) := by decide +kernel
theorem dX4_rate_4 : decode cX4_rate 4 = .ok (.iconst 3, 1) := by decide +kernel
theorem dX4_rate_5 : decode cX4_rate 5 = .ok (.invokevirtual 80, 3) := by decide +kernel
theorem dX4_rate_8 : decode cX4_rate 8 = .ok (.ifCond .ne 7, 3) := by decide +kernel
theorem dX4_rate_11 : decode cX4_rate 11 = .ok (.iconst 1, 1) := by decide +kernel
theorem dX4_rate_12 : decode cX4_rate 12 = .ok (.goto 19, 3) := by decide +kernel
theorem dX4_rate_15 : decode cX4_rate 15 = .ok (.aload_n 0, 1) := by decide +kernel
theorem dX4_rate_16 : decode cX4_rate 16 = .ok (.iload_n 2, 1) := by decide +kernel
theorem dX4_rate_17 : decode cX4_rate 17 = .ok (.iconst 0, 1) := by decide +kernel
theorem dX4_rate_18 : decode cX4_rate 18 = .ok (.bipush 50, 2) := by decide +kernel
theorem dX4_rate_20 : decode cX4_rate 20 = .ok (.invokevirtual 80, 3) := by decide +kernel
theorem dX4_rate_23 : decode cX4_rate 23 = .ok (.ifCond .eq 7, 3) := by decide +kernel
theorem dX4_rate_26 : decode cX4_rate 26 = .ok (.iconst 0, 1) := by decide +kernel
theorem dX4_rate_27 : decode cX4_rate 27 = .ok (.goto 4, 3) := by decide +kernel
theorem dX4_rate_30 : decode cX4_rate 30 = .ok (.iconst 2, 1) := by decide +kernel
theorem dX4_rate_31 : decode cX4_rate 31 = .ok (.invokevirtual 87, 3) := by decide +kernel
theorem dX4_rate_34 : decode cX4_rate 34 = .ok (.ifCond .eq 5, 3) := by decide +kernel
theorem dX4_rate_37 : decode cX4_rate 37 = .ok (.iconst (-1), 1) := by decide +kernel
theorem dX4_rate_38 : decode cX4_rate 38 = .ok (.ireturn, 1) := by decide +kernel
theorem dX4_rate_39 : decode cX4_rate 39 = .ok (.aload_n 0, 1) := by decide +kernel
theorem dX4_rate_40 : decode cX4_rate 40 = .ok (.getfield 7, 3) := by decide +kernel
theorem dX4_rate_43 : decode cX4_rate 43 = .ok (.iload_n 1, 1) := by decide +kernel
theorem dX4_rate_44 : decode cX4_rate 44 = .ok (.iaload, 1) := by decide +kernel
theorem dX4_rate_45 : decode cX4_rate 45 = .ok (.istore_n 3, 1) := by decide +kernel
theorem dX4_rate_46 : decode cX4_rate 46 = .ok (.aload_n 0, 1) := by decide +kernel
theorem dX4_rate_47 : decode cX4_rate 47 = .ok (.getfield 7, 3) := by decide +kernel
theorem dX4_rate_50 : decode cX4_rate 50 = .ok (.iload_n 1, 1) := by decide +kernel
theorem dX4_rate_51 : decode cX4_rate 51 = .ok (.iload_n 2, 1) := by decide +kernel
theorem dX4_rate_52 : decode cX4_rate 52 = .ok (.iastore, 1) := by decide +kernel
theorem dX4_rate_53 : decode cX4_rate 53 = .ok (.iload_n 3, 1) := by decide +kernel
theorem dX4_rate_54 : decode cX4_rate 54 = .ok (.ireturn, 1) := by decide +kernel
theorem dX4_buy_0 : decode cX4_buy 0 = .ok (.aload_n 0, 1) := by decide +kernel
theorem dX4_buy_1 : decode cX4_buy 1 = .ok (.iload_n 1, 1) := by decide +kernel
theorem dX4_buy_2 : decode cX4_buy 2 = .ok (.iconst 0, 1) := by decide +kernel
theorem dX4_buy_3 : decode cX4_buy 3 = .ok (.iconst 4, 1) := by decide +kernel
theorem dX4_buy_4 : decode cX4_buy 4 = .ok (.invokevirtual 80, 3) := by decide +kernel
theorem dX4_buy_7 : decode cX4_buy 7 = .ok (.ifCond .eq 28, 3) := by decide +kernel
theorem dX4_buy_10 : decode cX4_buy 10 = .ok (.aload_n 0, 1) := by decide +kernel
theorem dX4_buy_11 : decode cX4_buy 11 = .ok (.iload_n 2, 1) := by decide +kernel
theorem dX4_buy_12 : decode cX4_buy 12 = .ok (.iconst 0, 1) := by decide +kernel
theorem dX4_buy_13 : decode cX4_buy 13 = .ok (.bipush 9, 2) := by decide +kernel
theorem dX4_buy_15 : decode cX4_buy 15 = .ok (.invokevirtual 80, 3) := by decide +kernel
theorem dX4_buy_18 : decode cX4_buy 18 = .ok (.ifCond .eq 17, 3) := by decide +kernel
theorem dX4_buy_21 : decode cX4_buy 21 = .ok (.aload_n 0, 1) := by decide +kernel
theorem dX4_buy_22 : decode cX4_buy 22 = .ok (.iload_n 3, 1) := by decide +kernel
theorem dX4_buy_23 : decode cX4_buy 23 = .ok (.iconst 0, 1) := by decide +kernel
theorem dX4_buy_24 : decode cX4_buy 24 = .ok (.iconst 3, 1) := by decide +kernel
theorem dX4_buy_25 : decode cX4_buy 25 = .ok (.invokevirtual 80, 3) := by decide +kernel
theorem dX4_buy_28 : decode cX4_buy 28 = .ok (.ifCond .eq 7, 3) := by decide +kernel
theorem dX4_buy_31 : decode cX4_buy 31 = .ok (.iconst 1, 1) := by decide +kernel
theorem dX4_buy_32 : decode cX4_buy 32 = .ok (.goto 4, 3) := by decide +kernel
theorem dX4_buy_35 : decode cX4_buy 35 = .ok (.iconst 0, 1) := by decide +kernel
theorem dX4_buy_36 : decode cX4_buy 36 = .ok (.istore 5, 2) := by decide +kernel
theorem dX4_buy_38 : decode cX4_buy 38 = .ok (.aload_n 0, 1) := by decide +kernel
theorem dX4_buy_39 : decode cX4_buy 39 = .ok (.iload 5, 2) := by decide +kernel
theorem dX4_buy_41 : decode cX4_buy 41 = .ok (.ifCond .ne 7, 3) := by decide +kernel
theorem dX4_buy_44 : decode cX4_buy 44 = .ok (.iconst 1, 1) := by decide +kernel
theorem dX4_buy_45 : decode cX4_buy 45 = .ok (.goto 44, 3) := by decide +kernel
theorem dX4_buy_48 : decode cX4_buy 48 = .ok (.aload_n 0, 1) := by decide +kernel
theorem dX4_buy_49 : decode cX4_buy 49 = .ok (.iload 4, 2) := by decide +kernel
theorem dX4_buy_51 : decode cX4_buy 51 = .ok (.iconst 1, 1) := by decide +kernel
theorem dX4_buy_52 : decode cX4_buy 52 = .ok (.sipush 10000, 3) := by decide +kernel
theorem dX4_buy_55 : decode cX4_buy 55 = .ok (.invokevirtual 80, 3) := by decide +kernel
theorem dX4_buy_58 : decode cX4_buy 58 = .ok (.ifCond .ne 7, 3) := by decide +kernel
theorem dX4_buy_61 : decode cX4_buy 61 = .ok (.iconst 2, 1) := by decide +kernel
theorem dX4_buy_62 : decode cX4_buy 62 = .ok (.goto 27, 3) := by decide +kernel
theorem dX4_buy_65 : decode cX4_buy 65 = .ok (.aload_n 0, 1) := by decide +kernel
theorem dX4_buy_66 : decode cX4_buy 66 = .ok (.getfield 55, 3) := by decide +kernel
theorem dX4_buy_69 : decode cX4_buy 69 = .ok (.iload_n 2, 1) := by decide +kernel
theorem dX4_buy_70 : decode cX4_buy 70 = .ok (.iaload, 1) := by decide +kernel
theorem dX4_buy_71 : decode cX4_buy 71 = .ok (.iconst 1, 1) := by decide +kernel
theorem dX4_buy_72 : decode cX4_buy 72 = .ok (.if_icmp .eq 12, 3) := by decide +kernel
theorem dX4_buy_75 : decode cX4_buy 75 = .ok (.aload_n 0, 1) := by decide +kernel
theorem dX4_buy_76 : decode cX4_buy 76 = .ok (.getfield 77, 3) := by decide +kernel
theorem dX4_buy_79 : decode cX4_buy 79 = .ok (.bipush 60, 2) := by decide +kernel
theorem dX4_buy_81 : decode cX4_buy 81 = .ok (.if_icmp .ne 7, 3) := by decide +kernel
theorem dX4_buy_84 : decode cX4_buy 84 = .ok (.iconst 3, 1) := by decide +kernel
theorem dX4_buy_85 : decode cX4_buy 85 = .ok (.goto 4, 3) := by decide +kernel
theorem dX4_buy_88 : decode cX4_buy 88 = .ok (.iconst 0, 1) := by decide +kernel
theorem dX4_buy_89 : decode cX4_buy 89 = .ok (.invokevirtual 87, 3) := by decide +kernel
theorem dX4_buy_92 : decode cX4_buy 92 = .ok (.ifCond .eq 5, 3) := by decide +kernel
theorem dX4_buy_95 : decode cX4_buy 95 = .ok (.iconst (-1), 1) := by decide +kernel
theorem dX4_buy_96 : decode cX4_buy 96 = .ok (.ireturn, 1) := by decide +kernel
theorem dX4_buy_97 : decode cX4_buy 97 = .ok (.aload_n 0, 1) := by decide +kernel
theorem dX4_buy_98 : decode cX4_buy 98 = .ok (.getfield 77, 3) := by decide +kernel
theorem dX4_buy_101 : decode cX4_buy 101 = .ok (.istore 6, 2) := by decide +kernel
theorem dX4_buy_103 : decode cX4_buy 103 = .ok (.aload_n 0, 1) := by decide +kernel
theorem dX4_buy_104 : decode cX4_buy 104 = .ok (.getfield 13, 3) := by decide +kernel
theorem dX4_buy_107 : decode cX4_buy 107 = .ok (.iload 6, 2) := by decide +kernel
theorem dX4_buy_109 : decode cX4_buy 109 = .ok (.iload_n 1, 1) := by decide +kernel
theorem dX4_buy_110 : decode cX4_buy 110 = .ok (.iastore, 1) := by decide +kernel
theorem dX4_buy_111 : decode cX4_buy 111 = .ok (.aload_n 0, 1) := by decide +kernel
theorem dX4_buy_112 : decode cX4_buy 112 = .ok (.getfield 16, 3) := by decide +kernel
theorem dX4_buy_115 : decode cX4_buy 115 = .ok (.iload 6, 2) := by decide +kernel
theorem dX4_buy_117 : decode cX4_buy 117 = .ok (.iload_n 2, 1) := by decide +kernel
theorem dX4_buy_118 : decode cX4_buy 118 = .ok (.iastore, 1) := by decide +kernel
theorem dX4_buy_119 : decode cX4_buy 119 = .ok (.aload_n 0, 1) := by decide +kernel
theorem dX4_buy_120 : decode cX4_buy 120 = .ok (.getfield 19, 3) := by decide +kernel
theorem dX4_buy_123 : decode cX4_buy 123 = .ok (.iload 6, 2) := by decide +kernel
theorem dX4_buy_125 : decode cX4_buy 125 = .ok (.iload 4, 2) := by decide +kernel
theorem dX4_buy_127 : decode cX4_buy 127 = .ok (.iastore, 1) := by decide +kernel
theorem dX4_buy_128 : decode cX4_buy 128 = .ok (.aload_n 0, 1) := by decide +kernel
theorem dX4_buy_129 : decode cX4_buy 129 = .ok (.getfield 22, 3) := by decide +kernel
theorem dX4_buy_132 : decode cX4_buy 132 = .ok (.iload 6, 2) := by decide +kernel
theorem dX4_buy_134 : decode cX4_buy 134 = .ok (.iload 4, 2) := by decide +kernel
theorem dX4_buy_136 : decode cX4_buy 136 = .ok (.aload_n 0, 1) := by decide +kernel
theorem dX4_buy_137 : decode cX4_buy 137 = .ok (.getfield 7, 3) := by decide +kernel
theorem dX4_buy_140 : decode cX4_buy 140 = .ok (.iload_n 3, 1) := by decide +kernel
theorem dX4_buy_141 : decode cX4_buy 141 = .ok (.iaload, 1) := by decide +kernel
theorem dX4_buy_142 : decode cX4_buy 142 = .ok (.imul, 1) := by decide +kernel
theorem dX4_buy_143 : decode cX4_buy 143 = .ok (.bipush 100, 2) := by decide +kernel
theorem dX4_buy_145 : decode cX4_buy 145 = .ok (.idiv, 1) := by decide +kernel
theorem dX4_buy_146 : decode cX4_buy 146 = .ok (.iastore, 1) := by decide +kernel
theorem dX4_buy_147 : decode cX4_buy 147 = .ok (.aload_n 0, 1) := by decide +kernel
theorem dX4_buy_148 : decode cX4_buy 148 = .ok (.getfield 25, 3) := by decide +kernel
theorem dX4_buy_151 : decode cX4_buy 151 = .ok (.iload 6, 2) := by decide +kernel
theorem dX4_buy_153 : decode cX4_buy 153 = .ok (.aload_n 0, 1) := by decide +kernel
theorem dX4_buy_154 : decode cX4_buy 154 = .ok (.getfield 91, 3) := by decide +kernel
theorem dX4_buy_157 : decode cX4_buy 157 = .ok (.iastore, 1) := by decide +kernel
theorem dX4_buy_158 : decode cX4_buy 158 = .ok (.aload_n 0, 1) := by decide +kernel
theorem dX4_buy_159 : decode cX4_buy 159 = .ok (.getfield 31, 3) := by decide +kernel
theorem dX4_buy_162 : decode cX4_buy 162 = .ok (.iload 6, 2) := by decide +kernel
theorem dX4_buy_164 : decode cX4_buy 164 = .ok (.iconst (-1), 1) := by decide +kernel
theorem dX4_buy_165 : decode cX4_buy 165 = .ok (.iastore, 1) := by decide +kernel
theorem dX4_buy_166 : decode cX4_buy 166 = .ok (.aload_n 0, 1) := by decide +kernel
theorem dX4_buy_167 : decode cX4_buy 167 = .ok (.dup, 1) := by decide +kernel
theorem dX4_buy_168 : decode cX4_buy 168 = .ok (.getfield 77, 3) := by decide +kernel
theorem dX4_buy_171 : decode cX4_buy 171 = .ok (.iconst 1, 1) := by decide +kernel
theorem dX4_buy_172 : decode cX4_buy 172 = .ok (.iadd, 1) := by decide +kernel
theorem dX4_buy_173 : decode cX4_buy 173 = .ok (.putfield 77, 3) := by decide +kernel
theorem dX4_buy_176 : decode cX4_buy 176 = .ok (.iload 6, 2) := by decide +kernel
theorem dX4_buy_178 : decode cX4_buy 178 = .ok (.ireturn, 1) := by decide +kernel
theorem dX4_giveBack_0 : decode cX4_giveBack 0 = .ok (.aload_n 0, 1) := by decide +kernel
theorem dX4_giveBack_1 : decode cX4_giveBack 1 = .ok (.iload_n 1, 1) := by decide +kernel
theorem dX4_giveBack_2 : decode cX4_giveBack 2 = .ok (.invokevirtual 94, 3) := by decide +kernel
theorem dX4_giveBack_5 : decode cX4_giveBack 5 = .ok (.istore_n 2, 1) := by decide +kernel
theorem dX4_giveBack_6 : decode cX4_giveBack 6 = .ok (.aload_n 0, 1) := by decide +kernel
theorem dX4_giveBack_7 : decode cX4_giveBack 7 = .ok (.iload_n 2, 1) := by decide +kernel
theorem dX4_giveBack_8 : decode cX4_giveBack 8 = .ok (.ifCond .ne 7, 3) := by decide +kernel
theorem dX4_giveBack_11 : decode cX4_giveBack 11 = .ok (.iconst 1, 1) := by decide +kernel
theorem dX4_giveBack_12 : decode cX4_giveBack 12 = .ok (.goto 49, 3) := by decide +kernel
theorem dX4_giveBack_15 : decode cX4_giveBack 15 = .ok (.aload_n 0, 1) := by decide +kernel
theorem dX4_giveBack_16 : decode cX4_giveBack 16 = .ok (.getfield 28, 3) := by decide +kernel
theorem dX4_giveBack_19 : decode cX4_giveBack 19 = .ok (.iload_n 1, 1) := by decide +kernel
theorem dX4_giveBack_20 : decode cX4_giveBack 20 = .ok (.iaload, 1) := by decide +kernel
theorem dX4_giveBack_21 : decode cX4_giveBack 21 = .ok (.ifCond .ne 35, 3) := by decide +kernel
theorem dX4_giveBack_24 : decode cX4_giveBack 24 = .ok (.aload_n 0, 1) := by decide +kernel
theorem dX4_giveBack_25 : decode cX4_giveBack 25 = .ok (.getfield 91, 3) := by decide +kernel
theorem dX4_giveBack_28 : decode cX4_giveBack 28 = .ok (.aload_n 0, 1) := by decide +kernel
theorem dX4_giveBack_29 : decode cX4_giveBack 29 = .ok (.getfield 25, 3) := by decide +kernel
theorem dX4_giveBack_32 : decode cX4_giveBack 32 = .ok (.iload_n 1, 1) := by decide +kernel
theorem dX4_giveBack_33 : decode cX4_giveBack 33 = .ok (.iaload, 1) := by decide +kernel
theorem dX4_giveBack_34 : decode cX4_giveBack 34 = .ok (.isub, 1) := by decide +kernel
theorem dX4_giveBack_35 : decode cX4_giveBack 35 = .ok (.sipush 240, 3) := by decide +kernel
theorem dX4_giveBack_38 : decode cX4_giveBack 38 = .ok (.if_icmp .gt 18, 3) := by decide +kernel
theorem dX4_giveBack_41 : decode cX4_giveBack 41 = .ok (.aload_n 0, 1) := by decide +kernel
theorem dX4_giveBack_42 : decode cX4_giveBack 42 = .ok (.getfield 55, 3) := by decide +kernel
theorem dX4_giveBack_45 : decode cX4_giveBack 45 = .ok (.aload_n 0, 1) := by decide +kernel
theorem dX4_giveBack_46 : decode cX4_giveBack 46 = .ok (.getfield 16, 3) := by decide +kernel
theorem dX4_giveBack_49 : decode cX4_giveBack 49 = .ok (.iload_n 1, 1) := by decide +kernel
theorem dX4_giveBack_50 : decode cX4_giveBack 50 = .ok (.iaload, 1) := by decide +kernel
theorem dX4_giveBack_51 : decode cX4_giveBack 51 = .ok (.iaload, 1) := by decide +kernel
theorem dX4_giveBack_52 : decode cX4_giveBack 52 = .ok (.iconst 1, 1) := by decide +kernel
theorem dX4_giveBack_53 : decode cX4_giveBack 53 = .ok (.if_icmp .ne 7, 3) := by decide +kernel
theorem dX4_giveBack_56 : decode cX4_giveBack 56 = .ok (.iconst 2, 1) := by decide +kernel
theorem dX4_giveBack_57 : decode cX4_giveBack 57 = .ok (.goto 4, 3) := by decide +kernel
theorem dX4_giveBack_60 : decode cX4_giveBack 60 = .ok (.iconst 0, 1) := by decide +kernel
theorem dX4_giveBack_61 : decode cX4_giveBack 61 = .ok (.invokevirtual 87, 3) := by decide +kernel
theorem dX4_giveBack_64 : decode cX4_giveBack 64 = .ok (.ifCond .eq 5, 3) := by decide +kernel
theorem dX4_giveBack_67 : decode cX4_giveBack 67 = .ok (.iconst (-1), 1) := by decide +kernel
theorem dX4_giveBack_68 : decode cX4_giveBack 68 = .ok (.ireturn, 1) := by decide +kernel
theorem dX4_giveBack_69 : decode cX4_giveBack 69 = .ok (.aload_n 0, 1) := by decide +kernel
theorem dX4_giveBack_70 : decode cX4_giveBack 70 = .ok (.getfield 28, 3) := by decide +kernel
theorem dX4_giveBack_73 : decode cX4_giveBack 73 = .ok (.iload_n 1, 1) := by decide +kernel
theorem dX4_giveBack_74 : decode cX4_giveBack 74 = .ok (.iconst 4, 1) := by decide +kernel
theorem dX4_giveBack_75 : decode cX4_giveBack 75 = .ok (.iastore, 1) := by decide +kernel
theorem dX4_giveBack_76 : decode cX4_giveBack 76 = .ok (.aload_n 0, 1) := by decide +kernel
theorem dX4_giveBack_77 : decode cX4_giveBack 77 = .ok (.getfield 19, 3) := by decide +kernel
theorem dX4_giveBack_80 : decode cX4_giveBack 80 = .ok (.iload_n 1, 1) := by decide +kernel
theorem dX4_giveBack_81 : decode cX4_giveBack 81 = .ok (.iaload, 1) := by decide +kernel
theorem dX4_giveBack_82 : decode cX4_giveBack 82 = .ok (.aload_n 0, 1) := by decide +kernel
theorem dX4_giveBack_83 : decode cX4_giveBack 83 = .ok (.getfield 22, 3) := by decide +kernel
theorem dX4_giveBack_86 : decode cX4_giveBack 86 = .ok (.iload_n 1, 1) := by decide +kernel
theorem dX4_giveBack_87 : decode cX4_giveBack 87 = .ok (.iaload, 1) := by decide +kernel
theorem dX4_giveBack_88 : decode cX4_giveBack 88 = .ok (.iadd, 1) := by decide +kernel
theorem dX4_giveBack_89 : decode cX4_giveBack 89 = .ok (.ireturn, 1) := by decide +kernel
theorem dX4_ferry_0 : decode cX4_ferry 0 = .ok (.aload_n 0, 1) := by decide +kernel
theorem dX4_ferry_1 : decode cX4_ferry 1 = .ok (.iload_n 1, 1) := by decide +kernel
theorem dX4_ferry_2 : decode cX4_ferry 2 = .ok (.aload_n 0, 1) := by decide +kernel
theorem dX4_ferry_3 : decode cX4_ferry 3 = .ok (.getfield 91, 3) := by decide +kernel
theorem dX4_ferry_6 : decode cX4_ferry 6 = .ok (.iconst 1, 1) := by decide +kernel
theorem dX4_ferry_7 : decode cX4_ferry 7 = .ok (.iadd, 1) := by decide +kernel
theorem dX4_ferry_8 : decode cX4_ferry 8 = .ok (.sipush 10000, 3) := by decide +kernel
theorem dX4_ferry_11 : decode cX4_ferry 11 = .ok (.invokevirtual 80, 3) := by decide +kernel
theorem dX4_ferry_14 : decode cX4_ferry 14 = .ok (.ifCond .eq 18, 3) := by decide +kernel
theorem dX4_ferry_17 : decode cX4_ferry 17 = .ok (.aload_n 0, 1) := by decide +kernel
theorem dX4_ferry_18 : decode cX4_ferry 18 = .ok (.iload_n 2, 1) := by decide +kernel
theorem dX4_ferry_19 : decode cX4_ferry 19 = .ok (.iconst 1, 1) := by decide +kernel
theorem dX4_ferry_20 : decode cX4_ferry 20 = .ok (.bipush 10, 2) := by decide +kernel
theorem dX4_ferry_22 : decode cX4_ferry 22 = .ok (.invokevirtual 80, 3) := by decide +kernel
theorem dX4_ferry_25 : decode cX4_ferry 25 = .ok (.ifCond .eq 7, 3) := by decide +kernel
theorem dX4_ferry_28 : decode cX4_ferry 28 = .ok (.iconst 1, 1) := by decide +kernel
theorem dX4_ferry_29 : decode cX4_ferry 29 = .ok (.goto 4, 3) := by decide +kernel
theorem dX4_ferry_32 : decode cX4_ferry 32 = .ok (.iconst 0, 1) := by decide +kernel
theorem dX4_ferry_33 : decode cX4_ferry 33 = .ok (.istore_n 3, 1) := by decide +kernel
theorem dX4_ferry_34 : decode cX4_ferry 34 = .ok (.aload_n 0, 1) := by decide +kernel
theorem dX4_ferry_35 : decode cX4_ferry 35 = .ok (.iload_n 3, 1) := by decide +kernel
theorem dX4_ferry_36 : decode cX4_ferry 36 = .ok (.ifCond .ne 7, 3) := by decide +kernel
theorem dX4_ferry_39 : decode cX4_ferry 39 = .ok (.iconst 1, 1) := by decide +kernel
theorem dX4_ferry_40 : decode cX4_ferry 40 = .ok (.goto 17, 3) := by decide +kernel
theorem dX4_ferry_43 : decode cX4_ferry 43 = .ok (.aload_n 0, 1) := by decide +kernel
theorem dX4_ferry_44 : decode cX4_ferry 44 = .ok (.getfield 84, 3) := by decide +kernel
theorem dX4_ferry_47 : decode cX4_ferry 47 = .ok (.bipush 20, 2) := by decide +kernel
theorem dX4_ferry_49 : decode cX4_ferry 49 = .ok (.if_icmp .ne 7, 3) := by decide +kernel
theorem dX4_ferry_52 : decode cX4_ferry 52 = .ok (.iconst 2, 1) := by decide +kernel
theorem dX4_ferry_53 : decode cX4_ferry 53 = .ok (.goto 4, 3) := by decide +kernel
theorem dX4_ferry_56 : decode cX4_ferry 56 = .ok (.iconst 0, 1) := by decide +kernel
theorem dX4_ferry_57 : decode cX4_ferry 57 = .ok (.invokevirtual 87, 3) := by decide +kernel
theorem dX4_ferry_60 : decode cX4_ferry 60 = .ok (.ifCond .eq 5, 3) := by decide +kernel
theorem dX4_ferry_63 : decode cX4_ferry 63 = .ok (.iconst (-1), 1) := by decide +kernel
theorem dX4_ferry_64 : decode cX4_ferry 64 = .ok (.ireturn, 1) := by decide +kernel
theorem dX4_ferry_65 : decode cX4_ferry 65 = .ok (.aload_n 0, 1) := by decide +kernel
theorem dX4_ferry_66 : decode cX4_ferry 66 = .ok (.getfield 40, 3) := by decide +kernel
theorem dX4_ferry_69 : decode cX4_ferry 69 = .ok (.aload_n 0, 1) := by decide +kernel
theorem dX4_ferry_70 : decode cX4_ferry 70 = .ok (.getfield 84, 3) := by decide +kernel
theorem dX4_ferry_73 : decode cX4_ferry 73 = .ok (.iload_n 1, 1) := by decide +kernel
theorem dX4_ferry_74 : decode cX4_ferry 74 = .ok (.iastore, 1) := by decide +kernel
theorem dX4_ferry_75 : decode cX4_ferry 75 = .ok (.aload_n 0, 1) := by decide +kernel
theorem dX4_ferry_76 : decode cX4_ferry 76 = .ok (.getfield 43, 3) := by decide +kernel
theorem dX4_ferry_79 : decode cX4_ferry 79 = .ok (.aload_n 0, 1) := by decide +kernel
theorem dX4_ferry_80 : decode cX4_ferry 80 = .ok (.getfield 84, 3) := by decide +kernel
theorem dX4_ferry_83 : decode cX4_ferry 83 = .ok (.iload_n 2, 1) := by decide +kernel
theorem dX4_ferry_84 : decode cX4_ferry 84 = .ok (.iastore, 1) := by decide +kernel
theorem dX4_ferry_85 : decode cX4_ferry 85 = .ok (.aload_n 0, 1) := by decide +kernel
theorem dX4_ferry_86 : decode cX4_ferry 86 = .ok (.dup, 1) := by decide +kernel
theorem dX4_ferry_87 : decode cX4_ferry 87 = .ok (.getfield 84, 3) := by decide +kernel
theorem dX4_ferry_90 : decode cX4_ferry 90 = .ok (.iconst 1, 1) := by decide +kernel
theorem dX4_ferry_91 : decode cX4_ferry 91 = .ok (.iadd, 1) := by decide +kernel
theorem dX4_ferry_92 : decode cX4_ferry 92 = .ok (.putfield 84, 3) := by decide +kernel
theorem dX4_ferry_95 : decode cX4_ferry 95 = .ok (.aload_n 0, 1) := by decide +kernel
theorem dX4_ferry_96 : decode cX4_ferry 96 = .ok (.getfield 84, 3) := by decide +kernel
theorem dX4_ferry_99 : decode cX4_ferry 99 = .ok (.iconst 1, 1) := by decide +kernel
theorem dX4_ferry_100 : decode cX4_ferry 100 = .ok (.isub, 1) := by decide +kernel
theorem dX4_ferry_101 : decode cX4_ferry 101 = .ok (.ireturn, 1) := by decide +kernel
theorem dX4_left_0 : decode cX4_left 0 = .ok (.aload_n 0, 1) := by decide +kernel
theorem dX4_left_1 : decode cX4_left 1 = .ok (.getfield 43, 3) := by decide +kernel
theorem dX4_left_4 : decode cX4_left 4 = .ok (.iload_n 1, 1) := by decide +kernel
theorem dX4_left_5 : decode cX4_left 5 = .ok (.iaload, 1) := by decide +kernel
theorem dX4_left_6 : decode cX4_left 6 = .ok (.istore_n 2, 1) := by decide +kernel
theorem dX4_left_7 : decode cX4_left 7 = .ok (.iconst 0, 1) := by decide +kernel
theorem dX4_left_8 : decode cX4_left 8 = .ok (.istore_n 3, 1) := by decide +kernel
theorem dX4_left_9 : decode cX4_left 9 = .ok (.iload_n 3, 1) := by decide +kernel
theorem dX4_left_10 : decode cX4_left 10 = .ok (.bipush 10, 2) := by decide +kernel
theorem dX4_left_12 : decode cX4_left 12 = .ok (.if_icmp .ge 26, 3) := by decide +kernel
theorem dX4_left_15 : decode cX4_left 15 = .ok (.iload_n 2, 1) := by decide +kernel
theorem dX4_left_16 : decode cX4_left 16 = .ok (.aload_n 0, 1) := by decide +kernel
theorem dX4_left_17 : decode cX4_left 17 = .ok (.iload_n 3, 1) := by decide +kernel
theorem dX4_left_18 : decode cX4_left 18 = .ok (.iload_n 1, 1) := by decide +kernel
theorem dX4_left_19 : decode cX4_left 19 = .ok (.invokevirtual 97, 3) := by decide +kernel
theorem dX4_left_22 : decode cX4_left 22 = .ok (.ifCond .eq 7, 3) := by decide +kernel
theorem dX4_left_25 : decode cX4_left 25 = .ok (.iconst 1, 1) := by decide +kernel
theorem dX4_left_26 : decode cX4_left 26 = .ok (.goto 4, 3) := by decide +kernel
theorem dX4_left_29 : decode cX4_left 29 = .ok (.iconst 0, 1) := by decide +kernel
theorem dX4_left_30 : decode cX4_left 30 = .ok (.isub, 1) := by decide +kernel
theorem dX4_left_31 : decode cX4_left 31 = .ok (.istore_n 2, 1) := by decide +kernel
theorem dX4_left_32 : decode cX4_left 32 = .ok (.iinc 3 1, 3) := by decide +kernel
theorem dX4_left_35 : decode cX4_left 35 = .ok (.goto (-26), 3) := by decide +kernel
theorem dX4_left_38 : decode cX4_left 38 = .ok (.iload_n 2, 1) := by decide +kernel
theorem dX4_left_39 : decode cX4_left 39 = .ok (.ireturn, 1) := by decide +kernel
theorem dX4_seat_0 : decode cX4_seat 0 = .ok (.aload_n 0, 1) := by decide +kernel
theorem dX4_seat_1 : decode cX4_seat 1 = .ok (.iload_n 1, 1) := by decide +kernel
theorem dX4_seat_2 : decode cX4_seat 2 = .ok (.iconst 0, 1) := by decide +kernel
theorem dX4_seat_3 : decode cX4_seat 3 = .ok (.bipush 9, 2) := by decide +kernel
theorem dX4_seat_5 : decode cX4_seat 5 = .ok (.invokevirtual 80, 3) := by decide +kernel
theorem dX4_seat_8 : decode cX4_seat 8 = .ok (.ifCond .eq 15, 3) := by decide +kernel
theorem dX4_seat_11 : decode cX4_seat 11 = .ok (.aload_n 0, 1) := by decide +kernel
theorem dX4_seat_12 : decode cX4_seat 12 = .ok (.iload_n 2, 1) := by decide +kernel
theorem dX4_seat_13 : decode cX4_seat 13 = .ok (.invokevirtual 101, 3) := by decide +kernel
theorem dX4_seat_16 : decode cX4_seat 16 = .ok (.ifCond .eq 7, 3) := by decide +kernel
theorem dX4_seat_19 : decode cX4_seat 19 = .ok (.iconst 1, 1) := by decide +kernel
theorem dX4_seat_20 : decode cX4_seat 20 = .ok (.goto 4, 3) := by decide +kernel
theorem dX4_seat_23 : decode cX4_seat 23 = .ok (.iconst 0, 1) := by decide +kernel
theorem dX4_seat_24 : decode cX4_seat 24 = .ok (.istore_n 3, 1) := by decide +kernel
theorem dX4_seat_25 : decode cX4_seat 25 = .ok (.aload_n 0, 1) := by decide +kernel
theorem dX4_seat_26 : decode cX4_seat 26 = .ok (.iload_n 3, 1) := by decide +kernel
theorem dX4_seat_27 : decode cX4_seat 27 = .ok (.ifCond .ne 7, 3) := by decide +kernel
theorem dX4_seat_30 : decode cX4_seat 30 = .ok (.iconst 1, 1) := by decide +kernel
theorem dX4_seat_31 : decode cX4_seat 31 = .ok (.goto 45, 3) := by decide +kernel
theorem dX4_seat_34 : decode cX4_seat 34 = .ok (.aload_n 0, 1) := by decide +kernel
theorem dX4_seat_35 : decode cX4_seat 35 = .ok (.getfield 49, 3) := by decide +kernel
theorem dX4_seat_38 : decode cX4_seat 38 = .ok (.iload_n 2, 1) := by decide +kernel
theorem dX4_seat_39 : decode cX4_seat 39 = .ok (.iaload, 1) := by decide +kernel
theorem dX4_seat_40 : decode cX4_seat 40 = .ok (.iconst 1, 1) := by decide +kernel
theorem dX4_seat_41 : decode cX4_seat 41 = .ok (.if_icmp .eq 30, 3) := by decide +kernel
theorem dX4_seat_44 : decode cX4_seat 44 = .ok (.aload_n 0, 1) := by decide +kernel
theorem dX4_seat_45 : decode cX4_seat 45 = .ok (.iload_n 2, 1) := by decide +kernel
theorem dX4_seat_46 : decode cX4_seat 46 = .ok (.invokevirtual 104, 3) := by decide +kernel
theorem dX4_seat_49 : decode cX4_seat 49 = .ok (.ifCond .eq 22, 3) := by decide +kernel
theorem dX4_seat_52 : decode cX4_seat 52 = .ok (.aload_n 0, 1) := by decide +kernel
theorem dX4_seat_53 : decode cX4_seat 53 = .ok (.iload_n 1, 1) := by decide +kernel
theorem dX4_seat_54 : decode cX4_seat 54 = .ok (.iload_n 2, 1) := by decide +kernel
theorem dX4_seat_55 : decode cX4_seat 55 = .ok (.invokevirtual 97, 3) := by decide +kernel
theorem dX4_seat_58 : decode cX4_seat 58 = .ok (.ifCond .ne 13, 3) := by decide +kernel
theorem dX4_seat_61 : decode cX4_seat 61 = .ok (.aload_n 0, 1) := by decide +kernel
theorem dX4_seat_62 : decode cX4_seat 62 = .ok (.getfield 55, 3) := by decide +kernel
theorem dX4_seat_65 : decode cX4_seat 65 = .ok (.iload_n 1, 1) := by decide +kernel
theorem dX4_seat_66 : decode cX4_seat 66 = .ok (.iaload, 1) := by decide +kernel
theorem dX4_seat_67 : decode cX4_seat 67 = .ok (.iconst 1, 1) := by decide +kernel
theorem dX4_seat_68 : decode cX4_seat 68 = .ok (.if_icmp .ne 7, 3) := by decide +kernel
theorem dX4_seat_71 : decode cX4_seat 71 = .ok (.iconst 2, 1) := by decide +kernel
theorem dX4_seat_72 : decode cX4_seat 72 = .ok (.goto 4, 3) := by decide +kernel
theorem dX4_seat_75 : decode cX4_seat 75 = .ok (.iconst 0, 1) := by decide +kernel
theorem dX4_seat_76 : decode cX4_seat 76 = .ok (.invokevirtual 87, 3) := by decide +kernel
theorem dX4_seat_79 : decode cX4_seat 79 = .ok (.ifCond .eq 5, 3) := by decide +kernel
theorem dX4_seat_82 : decode cX4_seat 82 = .ok (.iconst (-1), 1) := by decide +kernel
theorem dX4_seat_83 : decode cX4_seat 83 = .ok (.ireturn, 1) := by decide +kernel
theorem dX4_seat_84 : decode cX4_seat 84 = .ok (.aload_n 0, 1) := by decide +kernel
theorem dX4_seat_85 : decode cX4_seat 85 = .ok (.getfield 46, 3) := by decide +kernel
theorem dX4_seat_88 : decode cX4_seat 88 = .ok (.iload_n 2, 1) := by decide +kernel
theorem dX4_seat_89 : decode cX4_seat 89 = .ok (.dup2, 1) := by decide +kernel
theorem dX4_seat_90 : decode cX4_seat 90 = .ok (.iaload, 1) := by decide +kernel
theorem dX4_seat_91 : decode cX4_seat 91 = .ok (.iconst 1, 1) := by decide +kernel
theorem dX4_seat_92 : decode cX4_seat 92 = .ok (.iload_n 1, 1) := by decide +kernel
theorem dX4_seat_93 : decode cX4_seat 93 = .ok (.ishl, 1) := by decide +kernel
theorem dX4_seat_94 : decode cX4_seat 94 = .ok (.ior, 1) := by decide +kernel
theorem dX4_seat_95 : decode cX4_seat 95 = .ok (.iastore, 1) := by decide +kernel
theorem dX4_seat_96 : decode cX4_seat 96 = .ok (.aload_n 0, 1) := by decide +kernel
theorem dX4_seat_97 : decode cX4_seat 97 = .ok (.iload_n 2, 1) := by decide +kernel
theorem dX4_seat_98 : decode cX4_seat 98 = .ok (.invokevirtual 104, 3) := by decide +kernel
theorem dX4_seat_101 : decode cX4_seat 101 = .ok (.ireturn, 1) := by decide +kernel
theorem dX4_leaveSeat_0 : decode cX4_leaveSeat 0 = .ok (.aload_n 0, 1) := by decide +kernel
theorem dX4_leaveSeat_1 : decode cX4_leaveSeat 1 = .ok (.iload_n 1, 1) := by decide +kernel
theorem dX4_leaveSeat_2 : decode cX4_leaveSeat 2 = .ok (.iconst 0, 1) := by decide +kernel
theorem dX4_leaveSeat_3 : decode cX4_leaveSeat 3 = .ok (.bipush 9, 2) := by decide +kernel
theorem dX4_leaveSeat_5 : decode cX4_leaveSeat 5 = .ok (.invokevirtual 80, 3) := by decide +kernel
theorem dX4_leaveSeat_8 : decode cX4_leaveSeat 8 = .ok (.ifCond .eq 15, 3) := by decide +kernel
theorem dX4_leaveSeat_11 : decode cX4_leaveSeat 11 = .ok (.aload_n 0, 1) := by decide +kernel
theorem dX4_leaveSeat_12 : decode cX4_leaveSeat 12 = .ok (.iload_n 2, 1) := by decide +kernel
theorem dX4_leaveSeat_13 : decode cX4_leaveSeat 13 = .ok (.invokevirtual 101, 3) := by decide +kernel
theorem dX4_leaveSeat_16 : decode cX4_leaveSeat 16 = .ok (.ifCond .eq 7, 3) := by decide +kernel
theorem dX4_leaveSeat_19 : decode cX4_leaveSeat 19 = .ok (.iconst 1, 1) := by decide +kernel
theorem dX4_leaveSeat_20 : decode cX4_leaveSeat 20 = .ok (.goto 4, 3) := by decide +kernel
theorem dX4_leaveSeat_23 : decode cX4_leaveSeat 23 = .ok (.iconst 0, 1) := by decide +kernel
theorem dX4_leaveSeat_24 : decode cX4_leaveSeat 24 = .ok (.istore_n 3, 1) := by decide +kernel
theorem dX4_leaveSeat_25 : decode cX4_leaveSeat 25 = .ok (.aload_n 0, 1) := by decide +kernel
theorem dX4_leaveSeat_26 : decode cX4_leaveSeat 26 = .ok (.iload_n 3, 1) := by decide +kernel
theorem dX4_leaveSeat_27 : decode cX4_leaveSeat 27 = .ok (.ifCond .ne 7, 3) := by decide +kernel
theorem dX4_leaveSeat_30 : decode cX4_leaveSeat 30 = .ok (.iconst 1, 1) := by decide +kernel
theorem dX4_leaveSeat_31 : decode cX4_leaveSeat 31 = .ok (.goto 27, 3) := by decide +kernel
theorem dX4_leaveSeat_34 : decode cX4_leaveSeat 34 = .ok (.aload_n 0, 1) := by decide +kernel
theorem dX4_leaveSeat_35 : decode cX4_leaveSeat 35 = .ok (.getfield 49, 3) := by decide +kernel
theorem dX4_leaveSeat_38 : decode cX4_leaveSeat 38 = .ok (.iload_n 2, 1) := by decide +kernel
theorem dX4_leaveSeat_39 : decode cX4_leaveSeat 39 = .ok (.iaload, 1) := by decide +kernel
theorem dX4_leaveSeat_40 : decode cX4_leaveSeat 40 = .ok (.iconst 1, 1) := by decide +kernel
theorem dX4_leaveSeat_41 : decode cX4_leaveSeat 41 = .ok (.if_icmp .eq 12, 3) := by decide +kernel
theorem dX4_leaveSeat_44 : decode cX4_leaveSeat 44 = .ok (.aload_n 0, 1) := by decide +kernel
theorem dX4_leaveSeat_45 : decode cX4_leaveSeat 45 = .ok (.iload_n 1, 1) := by decide +kernel
theorem dX4_leaveSeat_46 : decode cX4_leaveSeat 46 = .ok (.iload_n 2, 1) := by decide +kernel
theorem dX4_leaveSeat_47 : decode cX4_leaveSeat 47 = .ok (.invokevirtual 97, 3) := by decide +kernel
theorem dX4_leaveSeat_50 : decode cX4_leaveSeat 50 = .ok (.ifCond .ne 7, 3) := by decide +kernel
theorem dX4_leaveSeat_53 : decode cX4_leaveSeat 53 = .ok (.iconst 2, 1) := by decide +kernel
theorem dX4_leaveSeat_54 : decode cX4_leaveSeat 54 = .ok (.goto 4, 3) := by decide +kernel
theorem dX4_leaveSeat_57 : decode cX4_leaveSeat 57 = .ok (.iconst 0, 1) := by decide +kernel
theorem dX4_leaveSeat_58 : decode cX4_leaveSeat 58 = .ok (.invokevirtual 87, 3) := by decide +kernel
theorem dX4_leaveSeat_61 : decode cX4_leaveSeat 61 = .ok (.ifCond .eq 5, 3) := by decide +kernel
theorem dX4_leaveSeat_64 : decode cX4_leaveSeat 64 = .ok (.iconst (-1), 1) := by decide +kernel
theorem dX4_leaveSeat_65 : decode cX4_leaveSeat 65 = .ok (.ireturn, 1) := by decide +kernel
theorem dX4_leaveSeat_66 : decode cX4_leaveSeat 66 = .ok (.aload_n 0, 1) := by decide +kernel
theorem dX4_leaveSeat_67 : decode cX4_leaveSeat 67 = .ok (.getfield 46, 3) := by decide +kernel
theorem dX4_leaveSeat_70 : decode cX4_leaveSeat 70 = .ok (.iload_n 2, 1) := by decide +kernel
theorem dX4_leaveSeat_71 : decode cX4_leaveSeat 71 = .ok (.dup2, 1) := by decide +kernel
theorem dX4_leaveSeat_72 : decode cX4_leaveSeat 72 = .ok (.iaload, 1) := by decide +kernel
theorem dX4_leaveSeat_73 : decode cX4_leaveSeat 73 = .ok (.iconst 1, 1) := by decide +kernel
theorem dX4_leaveSeat_74 : decode cX4_leaveSeat 74 = .ok (.iload_n 1, 1) := by decide +kernel
theorem dX4_leaveSeat_75 : decode cX4_leaveSeat 75 = .ok (.ishl, 1) := by decide +kernel
theorem dX4_leaveSeat_76 : decode cX4_leaveSeat 76 = .ok (.iconst (-1), 1) := by decide +kernel
theorem dX4_leaveSeat_77 : decode cX4_leaveSeat 77 = .ok (.ixor, 1) := by decide +kernel
theorem dX4_leaveSeat_78 : decode cX4_leaveSeat 78 = .ok (.iand, 1) := by decide +kernel
theorem dX4_leaveSeat_79 : decode cX4_leaveSeat 79 = .ok (.iastore, 1) := by decide +kernel
theorem dX4_leaveSeat_80 : decode cX4_leaveSeat 80 = .ok (.aload_n 0, 1) := by decide +kernel
theorem dX4_leaveSeat_81 : decode cX4_leaveSeat 81 = .ok (.getfield 52, 3) := by decide +kernel
theorem dX4_leaveSeat_84 : decode cX4_leaveSeat 84 = .ok (.iload_n 1, 1) := by decide +kernel
theorem dX4_leaveSeat_85 : decode cX4_leaveSeat 85 = .ok (.aload_n 0, 1) := by decide +kernel
theorem dX4_leaveSeat_86 : decode cX4_leaveSeat 86 = .ok (.getfield 52, 3) := by decide +kernel
theorem dX4_leaveSeat_89 : decode cX4_leaveSeat 89 = .ok (.iload_n 1, 1) := by decide +kernel
theorem dX4_leaveSeat_90 : decode cX4_leaveSeat 90 = .ok (.iaload, 1) := by decide +kernel
theorem dX4_leaveSeat_91 : decode cX4_leaveSeat 91 = .ok (.iload_n 2, 1) := by decide +kernel
theorem dX4_leaveSeat_92 : decode cX4_leaveSeat 92 = .ok (.if_icmp .ne 7, 3) := by decide +kernel
theorem dX4_leaveSeat_95 : decode cX4_leaveSeat 95 = .ok (.iconst (-1), 1) := by decide +kernel
theorem dX4_leaveSeat_96 : decode cX4_leaveSeat 96 = .ok (.goto 9, 3) := by decide +kernel
theorem dX4_leaveSeat_99 : decode cX4_leaveSeat 99 = .ok (.aload_n 0, 1) := by decide +kernel
theorem dX4_leaveSeat_100 : decode cX4_leaveSeat 100 = .ok (.getfield 52, 3) := by decide +kernel
theorem dX4_leaveSeat_103 : decode cX4_leaveSeat 103 = .ok (.iload_n 1, 1) := by decide +kernel
theorem dX4_leaveSeat_104 : decode cX4_leaveSeat 104 = .ok (.iaload, 1) := by decide +kernel
theorem dX4_leaveSeat_105 : decode cX4_leaveSeat 105 = .ok (.iastore, 1) := by decide +kernel
theorem dX4_leaveSeat_106 : decode cX4_leaveSeat 106 = .ok (.iconst 0, 1) := by decide +kernel
theorem dX4_leaveSeat_107 : decode cX4_leaveSeat 107 = .ok (.istore 4, 2) := by decide +kernel
theorem dX4_leaveSeat_109 : decode cX4_leaveSeat 109 = .ok (.iconst 0, 1) := by decide +kernel
theorem dX4_leaveSeat_110 : decode cX4_leaveSeat 110 = .ok (.istore 5, 2) := by decide +kernel
theorem dX4_leaveSeat_112 : decode cX4_leaveSeat 112 = .ok (.iload 5, 2) := by decide +kernel
theorem dX4_leaveSeat_114 : decode cX4_leaveSeat 114 = .ok (.aload_n 0, 1) := by decide +kernel
theorem dX4_leaveSeat_115 : decode cX4_leaveSeat 115 = .ok (.getfield 77, 3) := by decide +kernel
theorem dX4_leaveSeat_118 : decode cX4_leaveSeat 118 = .ok (.if_icmp .ge 61, 3) := by decide +kernel
theorem dX4_leaveSeat_121 : decode cX4_leaveSeat 121 = .ok (.aload_n 0, 1) := by decide +kernel
theorem dX4_leaveSeat_122 : decode cX4_leaveSeat 122 = .ok (.getfield 28, 3) := by decide +kernel
theorem dX4_leaveSeat_125 : decode cX4_leaveSeat 125 = .ok (.iload 5, 2) := by decide +kernel
theorem dX4_leaveSeat_127 : decode cX4_leaveSeat 127 = .ok (.iaload, 1) := by decide +kernel
theorem dX4_leaveSeat_128 : decode cX4_leaveSeat 128 = .ok (.iconst 1, 1) := by decide +kernel
theorem dX4_leaveSeat_129 : decode cX4_leaveSeat 129 = .ok (.if_icmp .ne 44, 3) := by decide +kernel
theorem dX4_leaveSeat_132 : decode cX4_leaveSeat 132 = .ok (.aload_n 0, 1) := by decide +kernel
theorem dX4_leaveSeat_133 : decode cX4_leaveSeat 133 = .ok (.getfield 31, 3) := by decide +kernel
theorem dX4_leaveSeat_136 : decode cX4_leaveSeat 136 = .ok (.iload 5, 2) := by decide +kernel
theorem dX4_leaveSeat_138 : decode cX4_leaveSeat 138 = .ok (.iaload, 1) := by decide +kernel
theorem dX4_leaveSeat_139 : decode cX4_leaveSeat 139 = .ok (.iload_n 2, 1) := by decide +kernel
theorem dX4_leaveSeat_140 : decode cX4_leaveSeat 140 = .ok (.if_icmp .ne 33, 3) := by decide +kernel
theorem dX4_leaveSeat_143 : decode cX4_leaveSeat 143 = .ok (.aload_n 0, 1) := by decide +kernel
theorem dX4_leaveSeat_144 : decode cX4_leaveSeat 144 = .ok (.getfield 16, 3) := by decide +kernel
theorem dX4_leaveSeat_147 : decode cX4_leaveSeat 147 = .ok (.iload 5, 2) := by decide +kernel
theorem dX4_leaveSeat_149 : decode cX4_leaveSeat 149 = .ok (.iaload, 1) := by decide +kernel
theorem dX4_leaveSeat_150 : decode cX4_leaveSeat 150 = .ok (.iload_n 1, 1) := by decide +kernel
theorem dX4_leaveSeat_151 : decode cX4_leaveSeat 151 = .ok (.if_icmp .ne 22, 3) := by decide +kernel
theorem dX4_leaveSeat_154 : decode cX4_leaveSeat 154 = .ok (.aload_n 0, 1) := by decide +kernel
theorem dX4_leaveSeat_155 : decode cX4_leaveSeat 155 = .ok (.getfield 28, 3) := by decide +kernel
theorem dX4_leaveSeat_158 : decode cX4_leaveSeat 158 = .ok (.iload 5, 2) := by decide +kernel
theorem dX4_leaveSeat_160 : decode cX4_leaveSeat 160 = .ok (.iconst 0, 1) := by decide +kernel
theorem dX4_leaveSeat_161 : decode cX4_leaveSeat 161 = .ok (.iastore, 1) := by decide +kernel
theorem dX4_leaveSeat_162 : decode cX4_leaveSeat 162 = .ok (.aload_n 0, 1) := by decide +kernel
theorem dX4_leaveSeat_163 : decode cX4_leaveSeat 163 = .ok (.getfield 31, 3) := by decide +kernel
theorem dX4_leaveSeat_166 : decode cX4_leaveSeat 166 = .ok (.iload 5, 2) := by decide +kernel
theorem dX4_leaveSeat_168 : decode cX4_leaveSeat 168 = .ok (.iconst (-1), 1) := by decide +kernel
theorem dX4_leaveSeat_169 : decode cX4_leaveSeat 169 = .ok (.iastore, 1) := by decide +kernel
theorem dX4_leaveSeat_170 : decode cX4_leaveSeat 170 = .ok (.iinc 4 1, 3) := by decide +kernel
theorem dX4_leaveSeat_173 : decode cX4_leaveSeat 173 = .ok (.iinc 5 1, 3) := by decide +kernel
theorem dX4_leaveSeat_176 : decode cX4_leaveSeat 176 = .ok (.goto (-64), 3) := by decide +kernel
theorem dX4_leaveSeat_179 : decode cX4_leaveSeat 179 = .ok (.iload 4, 2) := by decide +kernel
theorem dX4_leaveSeat_181 : decode cX4_leaveSeat 181 = .ok (.ireturn, 1) := by decide +kernel
theorem dX4_aboard_0 : decode cX4_aboard 0 = .ok (.aload_n 0, 1) := by decide +kernel
theorem dX4_aboard_1 : decode cX4_aboard 1 = .ok (.iload_n 1, 1) := by decide +kernel
theorem dX4_aboard_2 : decode cX4_aboard 2 = .ok (.iconst 0, 1) := by decide +kernel
theorem dX4_aboard_3 : decode cX4_aboard 3 = .ok (.bipush 9, 2) := by decide +kernel
theorem dX4_aboard_5 : decode cX4_aboard 5 = .ok (.invokevirtual 80, 3) := by decide +kernel
theorem dX4_aboard_8 : decode cX4_aboard 8 = .ok (.ifCond .eq 15, 3) := by decide +kernel
theorem dX4_aboard_11 : decode cX4_aboard 11 = .ok (.aload_n 0, 1) := by decide +kernel
theorem dX4_aboard_12 : decode cX4_aboard 12 = .ok (.iload_n 2, 1) := by decide +kernel
theorem dX4_aboard_13 : decode cX4_aboard 13 = .ok (.invokevirtual 101, 3) := by decide +kernel
theorem dX4_aboard_16 : decode cX4_aboard 16 = .ok (.ifCond .eq 7, 3) := by decide +kernel
theorem dX4_aboard_19 : decode cX4_aboard 19 = .ok (.iconst 1, 1) := by decide +kernel
theorem dX4_aboard_20 : decode cX4_aboard 20 = .ok (.goto 4, 3) := by decide +kernel
theorem dX4_aboard_23 : decode cX4_aboard 23 = .ok (.iconst 0, 1) := by decide +kernel
theorem dX4_aboard_24 : decode cX4_aboard 24 = .ok (.istore_n 3, 1) := by decide +kernel
theorem dX4_aboard_25 : decode cX4_aboard 25 = .ok (.iload_n 3, 1) := by decide +kernel
theorem dX4_aboard_26 : decode cX4_aboard 26 = .ok (.ifCond .eq 72, 3) := by decide +kernel
theorem dX4_aboard_29 : decode cX4_aboard 29 = .ok (.aload_n 0, 1) := by decide +kernel
theorem dX4_aboard_30 : decode cX4_aboard 30 = .ok (.iload_n 1, 1) := by decide +kernel
theorem dX4_aboard_31 : decode cX4_aboard 31 = .ok (.iload_n 2, 1) := by decide +kernel
theorem dX4_aboard_32 : decode cX4_aboard 32 = .ok (.invokevirtual 97, 3) := by decide +kernel
theorem dX4_aboard_35 : decode cX4_aboard 35 = .ok (.ifCond .eq 59, 3) := by decide +kernel
theorem dX4_aboard_38 : decode cX4_aboard 38 = .ok (.aload_n 0, 1) := by decide +kernel
theorem dX4_aboard_39 : decode cX4_aboard 39 = .ok (.getfield 52, 3) := by decide +kernel
theorem dX4_aboard_42 : decode cX4_aboard 42 = .ok (.iload_n 1, 1) := by decide +kernel
theorem dX4_aboard_43 : decode cX4_aboard 43 = .ok (.iaload, 1) := by decide +kernel
theorem dX4_aboard_44 : decode cX4_aboard 44 = .ok (.ifCond .ge 50, 3) := by decide +kernel
theorem dX4_aboard_47 : decode cX4_aboard 47 = .ok (.aload_n 0, 1) := by decide +kernel
theorem dX4_aboard_48 : decode cX4_aboard 48 = .ok (.getfield 55, 3) := by decide +kernel
theorem dX4_aboard_51 : decode cX4_aboard 51 = .ok (.iload_n 1, 1) := by decide +kernel
theorem dX4_aboard_52 : decode cX4_aboard 52 = .ok (.iaload, 1) := by decide +kernel
theorem dX4_aboard_53 : decode cX4_aboard 53 = .ok (.iconst 1, 1) := by decide +kernel
theorem dX4_aboard_54 : decode cX4_aboard 54 = .ok (.if_icmp .eq 40, 3) := by decide +kernel
theorem dX4_aboard_57 : decode cX4_aboard 57 = .ok (.aload_n 0, 1) := by decide +kernel
theorem dX4_aboard_58 : decode cX4_aboard 58 = .ok (.getfield 49, 3) := by decide +kernel
theorem dX4_aboard_61 : decode cX4_aboard 61 = .ok (.iload_n 2, 1) := by decide +kernel
theorem dX4_aboard_62 : decode cX4_aboard 62 = .ok (.iaload, 1) := by decide +kernel
theorem dX4_aboard_63 : decode cX4_aboard 63 = .ok (.iconst 1, 1) := by decide +kernel
theorem dX4_aboard_64 : decode cX4_aboard 64 = .ok (.if_icmp .eq 30, 3) := by decide +kernel
theorem dX4_aboard_67 : decode cX4_aboard 67 = .ok (.aload_n 0, 1) := by decide +kernel
theorem dX4_aboard_68 : decode cX4_aboard 68 = .ok (.aload_n 0, 1) := by decide +kernel
theorem dX4_aboard_69 : decode cX4_aboard 69 = .ok (.getfield 91, 3) := by decide +kernel
theorem dX4_aboard_72 : decode cX4_aboard 72 = .ok (.aload_n 0, 1) := by decide +kernel
theorem dX4_aboard_73 : decode cX4_aboard 73 = .ok (.getfield 40, 3) := by decide +kernel
theorem dX4_aboard_76 : decode cX4_aboard 76 = .ok (.iload_n 2, 1) := by decide +kernel
theorem dX4_aboard_77 : decode cX4_aboard 77 = .ok (.iaload, 1) := by decide +kernel
theorem dX4_aboard_78 : decode cX4_aboard 78 = .ok (.iconst 3, 1) := by decide +kernel
theorem dX4_aboard_79 : decode cX4_aboard 79 = .ok (.isub, 1) := by decide +kernel
theorem dX4_aboard_80 : decode cX4_aboard 80 = .ok (.aload_n 0, 1) := by decide +kernel
theorem dX4_aboard_81 : decode cX4_aboard 81 = .ok (.getfield 40, 3) := by decide +kernel
theorem dX4_aboard_84 : decode cX4_aboard 84 = .ok (.iload_n 2, 1) := by decide +kernel
theorem dX4_aboard_85 : decode cX4_aboard 85 = .ok (.iaload, 1) := by decide +kernel
theorem dX4_aboard_86 : decode cX4_aboard 86 = .ok (.iconst 1, 1) := by decide +kernel
theorem dX4_aboard_87 : decode cX4_aboard 87 = .ok (.isub, 1) := by decide +kernel
theorem dX4_aboard_88 : decode cX4_aboard 88 = .ok (.invokevirtual 80, 3) := by decide +kernel
theorem dX4_aboard_91 : decode cX4_aboard 91 = .ok (.ifCond .ne 7, 3) := by decide +kernel
theorem dX4_aboard_94 : decode cX4_aboard 94 = .ok (.iconst 1, 1) := by decide +kernel
theorem dX4_aboard_95 : decode cX4_aboard 95 = .ok (.goto 4, 3) := by decide +kernel
theorem dX4_aboard_98 : decode cX4_aboard 98 = .ok (.iconst 0, 1) := by decide +kernel
theorem dX4_aboard_99 : decode cX4_aboard 99 = .ok (.istore 4, 2) := by decide +kernel
theorem dX4_aboard_101 : decode cX4_aboard 101 = .ok (.aload_n 0, 1) := by decide +kernel
theorem dX4_aboard_102 : decode cX4_aboard 102 = .ok (.iload_n 3, 1) := by decide +kernel
theorem dX4_aboard_103 : decode cX4_aboard 103 = .ok (.ifCond .ne 7, 3) := by decide +kernel
theorem dX4_aboard_106 : decode cX4_aboard 106 = .ok (.iconst 1, 1) := by decide +kernel
theorem dX4_aboard_107 : decode cX4_aboard 107 = .ok (.goto 13, 3) := by decide +kernel
theorem dX4_aboard_110 : decode cX4_aboard 110 = .ok (.iload 4, 2) := by decide +kernel
theorem dX4_aboard_112 : decode cX4_aboard 112 = .ok (.ifCond .eq 7, 3) := by decide +kernel
theorem dX4_aboard_115 : decode cX4_aboard 115 = .ok (.iconst 2, 1) := by decide +kernel
theorem dX4_aboard_116 : decode cX4_aboard 116 = .ok (.goto 4, 3) := by decide +kernel
theorem dX4_aboard_119 : decode cX4_aboard 119 = .ok (.iconst 0, 1) := by decide +kernel
theorem dX4_aboard_120 : decode cX4_aboard 120 = .ok (.invokevirtual 87, 3) := by decide +kernel
theorem dX4_aboard_123 : decode cX4_aboard 123 = .ok (.ifCond .eq 5, 3) := by decide +kernel
theorem dX4_aboard_126 : decode cX4_aboard 126 = .ok (.iconst (-1), 1) := by decide +kernel
theorem dX4_aboard_127 : decode cX4_aboard 127 = .ok (.ireturn, 1) := by decide +kernel
theorem dX4_aboard_128 : decode cX4_aboard 128 = .ok (.aload_n 0, 1) := by decide +kernel
theorem dX4_aboard_129 : decode cX4_aboard 129 = .ok (.getfield 52, 3) := by decide +kernel
theorem dX4_aboard_132 : decode cX4_aboard 132 = .ok (.iload_n 1, 1) := by decide +kernel
theorem dX4_aboard_133 : decode cX4_aboard 133 = .ok (.iload_n 2, 1) := by decide +kernel
theorem dX4_aboard_134 : decode cX4_aboard 134 = .ok (.iastore, 1) := by decide +kernel
theorem dX4_aboard_135 : decode cX4_aboard 135 = .ok (.iconst 0, 1) := by decide +kernel
theorem dX4_aboard_136 : decode cX4_aboard 136 = .ok (.istore 5, 2) := by decide +kernel
theorem dX4_aboard_138 : decode cX4_aboard 138 = .ok (.iconst 0, 1) := by decide +kernel
theorem dX4_aboard_139 : decode cX4_aboard 139 = .ok (.istore 6, 2) := by decide +kernel
theorem dX4_aboard_141 : decode cX4_aboard 141 = .ok (.iload 6, 2) := by decide +kernel
theorem dX4_aboard_143 : decode cX4_aboard 143 = .ok (.bipush 10, 2) := by decide +kernel
theorem dX4_aboard_145 : decode cX4_aboard 145 = .ok (.if_icmp .ge 30, 3) := by decide +kernel
theorem dX4_aboard_148 : decode cX4_aboard 148 = .ok (.iload 5, 2) := by decide +kernel
theorem dX4_aboard_150 : decode cX4_aboard 150 = .ok (.aload_n 0, 1) := by decide +kernel
theorem dX4_aboard_151 : decode cX4_aboard 151 = .ok (.getfield 52, 3) := by decide +kernel
theorem dX4_aboard_154 : decode cX4_aboard 154 = .ok (.iload 6, 2) := by decide +kernel
theorem dX4_aboard_156 : decode cX4_aboard 156 = .ok (.iaload, 1) := by decide +kernel
theorem dX4_aboard_157 : decode cX4_aboard 157 = .ok (.iload_n 2, 1) := by decide +kernel
theorem dX4_aboard_158 : decode cX4_aboard 158 = .ok (.if_icmp .ne 7, 3) := by decide +kernel
theorem dX4_aboard_161 : decode cX4_aboard 161 = .ok (.iconst 1, 1) := by decide +kernel
theorem dX4_aboard_162 : decode cX4_aboard 162 = .ok (.goto 4, 3) := by decide +kernel
theorem dX4_aboard_165 : decode cX4_aboard 165 = .ok (.iconst 0, 1) := by decide +kernel
theorem dX4_aboard_166 : decode cX4_aboard 166 = .ok (.iadd, 1) := by decide +kernel
theorem dX4_aboard_167 : decode cX4_aboard 167 = .ok (.istore 5, 2) := by decide +kernel
theorem dX4_aboard_169 : decode cX4_aboard 169 = .ok (.iinc 6 1, 3) := by decide +kernel
theorem dX4_aboard_172 : decode cX4_aboard 172 = .ok (.goto (-31), 3) := by decide +kernel
theorem dX4_aboard_175 : decode cX4_aboard 175 = .ok (.iload 5, 2) := by decide +kernel
theorem dX4_aboard_177 : decode cX4_aboard 177 = .ok (.ireturn, 1) := by decide +kernel
theorem dX4_stamp_0 : decode cX4_stamp 0 = .ok (.aload_n 0, 1) := by decide +kernel
theorem dX4_stamp_1 : decode cX4_stamp 1 = .ok (.iload_n 1, 1) := by decide +kernel
theorem dX4_stamp_2 : decode cX4_stamp 2 = .ok (.invokevirtual 94, 3) := by decide +kernel
theorem dX4_stamp_5 : decode cX4_stamp 5 = .ok (.ifCond .eq 15, 3) := by decide +kernel
theorem dX4_stamp_8 : decode cX4_stamp 8 = .ok (.aload_n 0, 1) := by decide +kernel
theorem dX4_stamp_9 : decode cX4_stamp 9 = .ok (.iload_n 2, 1) := by decide +kernel
theorem dX4_stamp_10 : decode cX4_stamp 10 = .ok (.invokevirtual 101, 3) := by decide +kernel
theorem dX4_stamp_13 : decode cX4_stamp 13 = .ok (.ifCond .eq 7, 3) := by decide +kernel
theorem dX4_stamp_16 : decode cX4_stamp 16 = .ok (.iconst 1, 1) := by decide +kernel
theorem dX4_stamp_17 : decode cX4_stamp 17 = .ok (.goto 4, 3) := by decide +kernel
theorem dX4_stamp_20 : decode cX4_stamp 20 = .ok (.iconst 0, 1) := by decide +kernel
theorem dX4_stamp_21 : decode cX4_stamp 21 = .ok (.istore_n 3, 1) := by decide +kernel
theorem dX4_stamp_22 : decode cX4_stamp 22 = .ok (.iload_n 3, 1) := by decide +kernel
theorem dX4_stamp_23 : decode cX4_stamp 23 = .ok (.ifCond .eq 79, 3) := by decide +kernel
theorem dX4_stamp_26 : decode cX4_stamp 26 = .ok (.aload_n 0, 1) := by decide +kernel
theorem dX4_stamp_27 : decode cX4_stamp 27 = .ok (.getfield 28, 3) := by decide +kernel
theorem dX4_stamp_30 : decode cX4_stamp 30 = .ok (.iload_n 1, 1) := by decide +kernel
theorem dX4_stamp_31 : decode cX4_stamp 31 = .ok (.iaload, 1) := by decide +kernel
theorem dX4_stamp_32 : decode cX4_stamp 32 = .ok (.ifCond .ne 66, 3) := by decide +kernel
theorem dX4_stamp_35 : decode cX4_stamp 35 = .ok (.aload_n 0, 1) := by decide +kernel
theorem dX4_stamp_36 : decode cX4_stamp 36 = .ok (.getfield 19, 3) := by decide +kernel
theorem dX4_stamp_39 : decode cX4_stamp 39 = .ok (.iload_n 1, 1) := by decide +kernel
theorem dX4_stamp_40 : decode cX4_stamp 40 = .ok (.iaload, 1) := by decide +kernel
theorem dX4_stamp_41 : decode cX4_stamp 41 = .ok (.bipush 50, 2) := by decide +kernel
theorem dX4_stamp_43 : decode cX4_stamp 43 = .ok (.if_icmp .lt 55, 3) := by decide +kernel
theorem dX4_stamp_46 : decode cX4_stamp 46 = .ok (.aload_n 0, 1) := by decide +kernel
theorem dX4_stamp_47 : decode cX4_stamp 47 = .ok (.getfield 49, 3) := by decide +kernel
theorem dX4_stamp_50 : decode cX4_stamp 50 = .ok (.iload_n 2, 1) := by decide +kernel
theorem dX4_stamp_51 : decode cX4_stamp 51 = .ok (.iaload, 1) := by decide +kernel
theorem dX4_stamp_52 : decode cX4_stamp 52 = .ok (.iconst 1, 1) := by decide +kernel
theorem dX4_stamp_53 : decode cX4_stamp 53 = .ok (.if_icmp .eq 45, 3) := by decide +kernel
theorem dX4_stamp_56 : decode cX4_stamp 56 = .ok (.aload_n 0, 1) := by decide +kernel
theorem dX4_stamp_57 : decode cX4_stamp 57 = .ok (.aload_n 0, 1) := by decide +kernel
theorem dX4_stamp_58 : decode cX4_stamp 58 = .ok (.getfield 16, 3) := by decide +kernel
theorem dX4_stamp_61 : decode cX4_stamp 61 = .ok (.iload_n 1, 1) := by decide +kernel
theorem dX4_stamp_62 : decode cX4_stamp 62 = .ok (.iaload, 1) := by decide +kernel
theorem dX4_stamp_63 : decode cX4_stamp 63 = .ok (.iload_n 2, 1) := by decide +kernel
theorem dX4_stamp_64 : decode cX4_stamp 64 = .ok (.invokevirtual 97, 3) := by decide +kernel
theorem dX4_stamp_67 : decode cX4_stamp 67 = .ok (.ifCond .eq 31, 3) := by decide +kernel
theorem dX4_stamp_70 : decode cX4_stamp 70 = .ok (.aload_n 0, 1) := by decide +kernel
theorem dX4_stamp_71 : decode cX4_stamp 71 = .ok (.aload_n 0, 1) := by decide +kernel
theorem dX4_stamp_72 : decode cX4_stamp 72 = .ok (.getfield 91, 3) := by decide +kernel
theorem dX4_stamp_75 : decode cX4_stamp 75 = .ok (.aload_n 0, 1) := by decide +kernel
theorem dX4_stamp_76 : decode cX4_stamp 76 = .ok (.getfield 40, 3) := by decide +kernel
theorem dX4_stamp_79 : decode cX4_stamp 79 = .ok (.iload_n 2, 1) := by decide +kernel
theorem dX4_stamp_80 : decode cX4_stamp 80 = .ok (.iaload, 1) := by decide +kernel
theorem dX4_stamp_81 : decode cX4_stamp 81 = .ok (.bipush 12, 2) := by decide +kernel
theorem dX4_stamp_83 : decode cX4_stamp 83 = .ok (.isub, 1) := by decide +kernel
theorem dX4_stamp_84 : decode cX4_stamp 84 = .ok (.aload_n 0, 1) := by decide +kernel
theorem dX4_stamp_85 : decode cX4_stamp 85 = .ok (.getfield 40, 3) := by decide +kernel
theorem dX4_stamp_88 : decode cX4_stamp 88 = .ok (.iload_n 2, 1) := by decide +kernel
theorem dX4_stamp_89 : decode cX4_stamp 89 = .ok (.iaload, 1) := by decide +kernel
theorem dX4_stamp_90 : decode cX4_stamp 90 = .ok (.iconst 1, 1) := by decide +kernel
theorem dX4_stamp_91 : decode cX4_stamp 91 = .ok (.isub, 1) := by decide +kernel
theorem dX4_stamp_92 : decode cX4_stamp 92 = .ok (.invokevirtual 80, 3) := by decide +kernel
theorem dX4_stamp_95 : decode cX4_stamp 95 = .ok (.ifCond .ne 7, 3) := by decide +kernel
theorem dX4_stamp_98 : decode cX4_stamp 98 = .ok (.iconst 1, 1) := by decide +kernel
theorem dX4_stamp_99 : decode cX4_stamp 99 = .ok (.goto 4, 3) := by decide +kernel
theorem dX4_stamp_102 : decode cX4_stamp 102 = .ok (.iconst 0, 1) := by decide +kernel
theorem dX4_stamp_103 : decode cX4_stamp 103 = .ok (.istore 4, 2) := by decide +kernel
theorem dX4_stamp_105 : decode cX4_stamp 105 = .ok (.aload_n 0, 1) := by decide +kernel
theorem dX4_stamp_106 : decode cX4_stamp 106 = .ok (.iload_n 3, 1) := by decide +kernel
theorem dX4_stamp_107 : decode cX4_stamp 107 = .ok (.ifCond .ne 7, 3) := by decide +kernel
theorem dX4_stamp_110 : decode cX4_stamp 110 = .ok (.iconst 1, 1) := by decide +kernel
theorem dX4_stamp_111 : decode cX4_stamp 111 = .ok (.goto 13, 3) := by decide +kernel
theorem dX4_stamp_114 : decode cX4_stamp 114 = .ok (.iload 4, 2) := by decide +kernel
theorem dX4_stamp_116 : decode cX4_stamp 116 = .ok (.ifCond .eq 7, 3) := by decide +kernel
theorem dX4_stamp_119 : decode cX4_stamp 119 = .ok (.iconst 2, 1) := by decide +kernel
theorem dX4_stamp_120 : decode cX4_stamp 120 = .ok (.goto 4, 3) := by decide +kernel
theorem dX4_stamp_123 : decode cX4_stamp 123 = .ok (.iconst 0, 1) := by decide +kernel
theorem dX4_stamp_124 : decode cX4_stamp 124 = .ok (.invokevirtual 87, 3) := by decide +kernel
theorem dX4_stamp_127 : decode cX4_stamp 127 = .ok (.ifCond .eq 5, 3) := by decide +kernel
theorem dX4_stamp_130 : decode cX4_stamp 130 = .ok (.iconst (-1), 1) := by decide +kernel
theorem dX4_stamp_131 : decode cX4_stamp 131 = .ok (.ireturn, 1) := by decide +kernel
theorem dX4_stamp_132 : decode cX4_stamp 132 = .ok (.aload_n 0, 1) := by decide +kernel
theorem dX4_stamp_133 : decode cX4_stamp 133 = .ok (.getfield 28, 3) := by decide +kernel
theorem dX4_stamp_136 : decode cX4_stamp 136 = .ok (.iload_n 1, 1) := by decide +kernel
theorem dX4_stamp_137 : decode cX4_stamp 137 = .ok (.iconst 1, 1) := by decide +kernel
theorem dX4_stamp_138 : decode cX4_stamp 138 = .ok (.iastore, 1) := by decide +kernel
theorem dX4_stamp_139 : decode cX4_stamp 139 = .ok (.aload_n 0, 1) := by decide +kernel
theorem dX4_stamp_140 : decode cX4_stamp 140 = .ok (.getfield 31, 3) := by decide +kernel
theorem dX4_stamp_143 : decode cX4_stamp 143 = .ok (.iload_n 1, 1) := by decide +kernel
theorem dX4_stamp_144 : decode cX4_stamp 144 = .ok (.iload_n 2, 1) := by decide +kernel
theorem dX4_stamp_145 : decode cX4_stamp 145 = .ok (.iastore, 1) := by decide +kernel
theorem dX4_stamp_146 : decode cX4_stamp 146 = .ok (.aload_n 0, 1) := by decide +kernel
theorem dX4_stamp_147 : decode cX4_stamp 147 = .ok (.getfield 22, 3) := by decide +kernel
theorem dX4_stamp_150 : decode cX4_stamp 150 = .ok (.iload_n 1, 1) := by decide +kernel
theorem dX4_stamp_151 : decode cX4_stamp 151 = .ok (.iaload, 1) := by decide +kernel
theorem dX4_stamp_152 : decode cX4_stamp 152 = .ok (.ireturn, 1) := by decide +kernel
theorem dX4_check_0 : decode cX4_check 0 = .ok (.aload_n 0, 1) := by decide +kernel
theorem dX4_check_1 : decode cX4_check 1 = .ok (.iload_n 1, 1) := by decide +kernel
theorem dX4_check_2 : decode cX4_check 2 = .ok (.invokevirtual 94, 3) := by decide +kernel
theorem dX4_check_5 : decode cX4_check 5 = .ok (.istore_n 3, 1) := by decide +kernel
theorem dX4_check_6 : decode cX4_check 6 = .ok (.aload_n 0, 1) := by decide +kernel
theorem dX4_check_7 : decode cX4_check 7 = .ok (.iload_n 3, 1) := by decide +kernel
theorem dX4_check_8 : decode cX4_check 8 = .ok (.ifCond .ne 7, 3) := by decide +kernel
theorem dX4_check_11 : decode cX4_check 11 = .ok (.iconst 1, 1) := by decide +kernel
theorem dX4_check_12 : decode cX4_check 12 = .ok (.goto 18, 3) := by decide +kernel
theorem dX4_check_15 : decode cX4_check 15 = .ok (.aload_n 0, 1) := by decide +kernel
theorem dX4_check_16 : decode cX4_check 16 = .ok (.getfield 28, 3) := by decide +kernel
theorem dX4_check_19 : decode cX4_check 19 = .ok (.iload_n 1, 1) := by decide +kernel
theorem dX4_check_20 : decode cX4_check 20 = .ok (.iaload, 1) := by decide +kernel
theorem dX4_check_21 : decode cX4_check 21 = .ok (.iconst 1, 1) := by decide +kernel
theorem dX4_check_22 : decode cX4_check 22 = .ok (.if_icmp .eq 7, 3) := by decide +kernel
theorem dX4_check_25 : decode cX4_check 25 = .ok (.iconst 2, 1) := by decide +kernel
theorem dX4_check_26 : decode cX4_check 26 = .ok (.goto 4, 3) := by decide +kernel
theorem dX4_check_29 : decode cX4_check 29 = .ok (.iconst 0, 1) := by decide +kernel
theorem dX4_check_30 : decode cX4_check 30 = .ok (.invokevirtual 87, 3) := by decide +kernel
theorem dX4_check_33 : decode cX4_check 33 = .ok (.ifCond .eq 5, 3) := by decide +kernel
theorem dX4_check_36 : decode cX4_check 36 = .ok (.iconst (-1), 1) := by decide +kernel
theorem dX4_check_37 : decode cX4_check 37 = .ok (.ireturn, 1) := by decide +kernel
theorem dX4_check_38 : decode cX4_check 38 = .ok (.iload_n 2, 1) := by decide +kernel
theorem dX4_check_39 : decode cX4_check 39 = .ok (.ifCond .ne 33, 3) := by decide +kernel
theorem dX4_check_42 : decode cX4_check 42 = .ok (.aload_n 0, 1) := by decide +kernel
theorem dX4_check_43 : decode cX4_check 43 = .ok (.getfield 28, 3) := by decide +kernel
theorem dX4_check_46 : decode cX4_check 46 = .ok (.iload_n 1, 1) := by decide +kernel
theorem dX4_check_47 : decode cX4_check 47 = .ok (.iconst 3, 1) := by decide +kernel
theorem dX4_check_48 : decode cX4_check 48 = .ok (.iastore, 1) := by decide +kernel
theorem dX4_check_49 : decode cX4_check 49 = .ok (.aload_n 0, 1) := by decide +kernel
theorem dX4_check_50 : decode cX4_check 50 = .ok (.getfield 31, 3) := by decide +kernel
theorem dX4_check_53 : decode cX4_check 53 = .ok (.iload_n 1, 1) := by decide +kernel
theorem dX4_check_54 : decode cX4_check 54 = .ok (.iconst (-1), 1) := by decide +kernel
theorem dX4_check_55 : decode cX4_check 55 = .ok (.iastore, 1) := by decide +kernel
theorem dX4_check_56 : decode cX4_check 56 = .ok (.aload_n 0, 1) := by decide +kernel
theorem dX4_check_57 : decode cX4_check 57 = .ok (.getfield 64, 3) := by decide +kernel
theorem dX4_check_60 : decode cX4_check 60 = .ok (.aload_n 0, 1) := by decide +kernel
theorem dX4_check_61 : decode cX4_check 61 = .ok (.getfield 16, 3) := by decide +kernel
theorem dX4_check_64 : decode cX4_check 64 = .ok (.iload_n 1, 1) := by decide +kernel
theorem dX4_check_65 : decode cX4_check 65 = .ok (.iaload, 1) := by decide +kernel
theorem dX4_check_66 : decode cX4_check 66 = .ok (.dup2, 1) := by decide +kernel
theorem dX4_check_67 : decode cX4_check 67 = .ok (.iaload, 1) := by decide +kernel
theorem dX4_check_68 : decode cX4_check 68 = .ok (.bipush 50, 2) := by decide +kernel
theorem dX4_check_70 : decode cX4_check 70 = .ok (.iadd, 1) := by decide +kernel
theorem dX4_check_71 : decode cX4_check 71 = .ok (.iastore, 1) := by decide +kernel
theorem dX4_check_72 : decode cX4_check 72 = .ok (.aload_n 0, 1) := by decide +kernel
theorem dX4_check_73 : decode cX4_check 73 = .ok (.getfield 28, 3) := by decide +kernel
theorem dX4_check_76 : decode cX4_check 76 = .ok (.iload_n 1, 1) := by decide +kernel
theorem dX4_check_77 : decode cX4_check 77 = .ok (.iaload, 1) := by decide +kernel
theorem dX4_check_78 : decode cX4_check 78 = .ok (.ireturn, 1) := by decide +kernel
theorem dX4_comeBack_0 : decode cX4_comeBack 0 = .ok (.aload_n 0, 1) := by decide +kernel
theorem dX4_comeBack_1 : decode cX4_comeBack 1 = .ok (.iload_n 1, 1) := by decide +kernel
theorem dX4_comeBack_2 : decode cX4_comeBack 2 = .ok (.iconst 0, 1) := by decide +kernel
theorem dX4_comeBack_3 : decode cX4_comeBack 3 = .ok (.bipush 9, 2) := by decide +kernel
theorem dX4_comeBack_5 : decode cX4_comeBack 5 = .ok (.invokevirtual 80, 3) := by decide +kernel
theorem dX4_comeBack_8 : decode cX4_comeBack 8 = .ok (.istore_n 2, 1) := by decide +kernel
theorem dX4_comeBack_9 : decode cX4_comeBack 9 = .ok (.aload_n 0, 1) := by decide +kernel
theorem dX4_comeBack_10 : decode cX4_comeBack 10 = .ok (.iload_n 2, 1) := by decide +kernel
theorem dX4_comeBack_11 : decode cX4_comeBack 11 = .ok (.ifCond .ne 7, 3) := by decide +kernel
theorem dX4_comeBack_14 : decode cX4_comeBack 14 = .ok (.iconst 1, 1) := by decide +kernel
theorem dX4_comeBack_15 : decode cX4_comeBack 15 = .ok (.goto 17, 3) := by decide +kernel
theorem dX4_comeBack_18 : decode cX4_comeBack 18 = .ok (.aload_n 0, 1) := by decide +kernel
theorem dX4_comeBack_19 : decode cX4_comeBack 19 = .ok (.getfield 55, 3) := by decide +kernel
theorem dX4_comeBack_22 : decode cX4_comeBack 22 = .ok (.iload_n 1, 1) := by decide +kernel
theorem dX4_comeBack_23 : decode cX4_comeBack 23 = .ok (.iaload, 1) := by decide +kernel
theorem dX4_comeBack_24 : decode cX4_comeBack 24 = .ok (.ifCond .ne 7, 3) := by decide +kernel
theorem dX4_comeBack_27 : decode cX4_comeBack 27 = .ok (.iconst 2, 1) := by decide +kernel
theorem dX4_comeBack_28 : decode cX4_comeBack 28 = .ok (.goto 4, 3) := by decide +kernel
theorem dX4_comeBack_31 : decode cX4_comeBack 31 = .ok (.iconst 0, 1) := by decide +kernel
theorem dX4_comeBack_32 : decode cX4_comeBack 32 = .ok (.invokevirtual 87, 3) := by decide +kernel
theorem dX4_comeBack_35 : decode cX4_comeBack 35 = .ok (.ifCond .eq 5, 3) := by decide +kernel
theorem dX4_comeBack_38 : decode cX4_comeBack 38 = .ok (.iconst (-1), 1) := by decide +kernel
theorem dX4_comeBack_39 : decode cX4_comeBack 39 = .ok (.ireturn, 1) := by decide +kernel
theorem dX4_comeBack_40 : decode cX4_comeBack 40 = .ok (.aload_n 0, 1) := by decide +kernel
theorem dX4_comeBack_41 : decode cX4_comeBack 41 = .ok (.getfield 55, 3) := by decide +kernel
theorem dX4_comeBack_44 : decode cX4_comeBack 44 = .ok (.iload_n 1, 1) := by decide +kernel
theorem dX4_comeBack_45 : decode cX4_comeBack 45 = .ok (.iconst 0, 1) := by decide +kernel
theorem dX4_comeBack_46 : decode cX4_comeBack 46 = .ok (.iastore, 1) := by decide +kernel
theorem dX4_comeBack_47 : decode cX4_comeBack 47 = .ok (.aload_n 0, 1) := by decide +kernel
theorem dX4_comeBack_48 : decode cX4_comeBack 48 = .ok (.getfield 58, 3) := by decide +kernel
theorem dX4_comeBack_51 : decode cX4_comeBack 51 = .ok (.iload_n 1, 1) := by decide +kernel
theorem dX4_comeBack_52 : decode cX4_comeBack 52 = .ok (.iaload, 1) := by decide +kernel
theorem dX4_comeBack_53 : decode cX4_comeBack 53 = .ok (.ireturn, 1) := by decide +kernel
theorem dX4_pays_0 : decode cX4_pays 0 = .ok (.aload_n 0, 1) := by decide +kernel
theorem dX4_pays_1 : decode cX4_pays 1 = .ok (.getfield 16, 3) := by decide +kernel
theorem dX4_pays_4 : decode cX4_pays 4 = .ok (.iload_n 1, 1) := by decide +kernel
theorem dX4_pays_5 : decode cX4_pays 5 = .ok (.iaload, 1) := by decide +kernel
theorem dX4_pays_6 : decode cX4_pays 6 = .ok (.istore_n 2, 1) := by decide +kernel
theorem dX4_pays_7 : decode cX4_pays 7 = .ok (.aload_n 0, 1) := by decide +kernel
theorem dX4_pays_8 : decode cX4_pays 8 = .ok (.getfield 22, 3) := by decide +kernel
theorem dX4_pays_11 : decode cX4_pays 11 = .ok (.iload_n 1, 1) := by decide +kernel
theorem dX4_pays_12 : decode cX4_pays 12 = .ok (.iaload, 1) := by decide +kernel
theorem dX4_pays_13 : decode cX4_pays 13 = .ok (.aload_n 0, 1) := by decide +kernel
theorem dX4_pays_14 : decode cX4_pays 14 = .ok (.getfield 22, 3) := by decide +kernel
theorem dX4_pays_17 : decode cX4_pays 17 = .ok (.iload_n 1, 1) := by decide +kernel
theorem dX4_pays_18 : decode cX4_pays 18 = .ok (.iaload, 1) := by decide +kernel
theorem dX4_pays_19 : decode cX4_pays 19 = .ok (.bipush 9, 2) := by decide +kernel
theorem dX4_pays_21 : decode cX4_pays 21 = .ok (.iadd, 1) := by decide +kernel
theorem dX4_pays_22 : decode cX4_pays 22 = .ok (.bipush 10, 2) := by decide +kernel
theorem dX4_pays_24 : decode cX4_pays 24 = .ok (.idiv, 1) := by decide +kernel
theorem dX4_pays_25 : decode cX4_pays 25 = .ok (.isub, 1) := by decide +kernel
theorem dX4_pays_26 : decode cX4_pays 26 = .ok (.istore_n 3, 1) := by decide +kernel
theorem dX4_pays_27 : decode cX4_pays 27 = .ok (.aload_n 0, 1) := by decide +kernel
theorem dX4_pays_28 : decode cX4_pays 28 = .ok (.getfield 70, 3) := by decide +kernel
theorem dX4_pays_31 : decode cX4_pays 31 = .ok (.iload_n 2, 1) := by decide +kernel
theorem dX4_pays_32 : decode cX4_pays 32 = .ok (.iaload, 1) := by decide +kernel
theorem dX4_pays_33 : decode cX4_pays 33 = .ok (.iload_n 3, 1) := by decide +kernel
theorem dX4_pays_34 : decode cX4_pays 34 = .ok (.iadd, 1) := by decide +kernel
theorem dX4_pays_35 : decode cX4_pays 35 = .ok (.sipush 500, 3) := by decide +kernel
theorem dX4_pays_38 : decode cX4_pays 38 = .ok (.if_icmp .le 16, 3) := by decide +kernel
theorem dX4_pays_41 : decode cX4_pays 41 = .ok (.sipush 500, 3) := by decide +kernel
theorem dX4_pays_44 : decode cX4_pays 44 = .ok (.aload_n 0, 1) := by decide +kernel
theorem dX4_pays_45 : decode cX4_pays 45 = .ok (.getfield 70, 3) := by decide +kernel
theorem dX4_pays_48 : decode cX4_pays 48 = .ok (.iload_n 2, 1) := by decide +kernel
theorem dX4_pays_49 : decode cX4_pays 49 = .ok (.iaload, 1) := by decide +kernel
theorem dX4_pays_50 : decode cX4_pays 50 = .ok (.isub, 1) := by decide +kernel
theorem dX4_pays_51 : decode cX4_pays 51 = .ok (.goto 4, 3) := by decide +kernel
theorem dX4_pays_54 : decode cX4_pays 54 = .ok (.iload_n 3, 1) := by decide +kernel
theorem dX4_pays_55 : decode cX4_pays 55 = .ok (.istore_n 3, 1) := by decide +kernel
theorem dX4_pays_56 : decode cX4_pays 56 = .ok (.aload_n 0, 1) := by decide +kernel
theorem dX4_pays_57 : decode cX4_pays 57 = .ok (.getfield 70, 3) := by decide +kernel
theorem dX4_pays_60 : decode cX4_pays 60 = .ok (.iload_n 2, 1) := by decide +kernel
theorem dX4_pays_61 : decode cX4_pays 61 = .ok (.dup2, 1) := by decide +kernel
theorem dX4_pays_62 : decode cX4_pays 62 = .ok (.iaload, 1) := by decide +kernel
theorem dX4_pays_63 : decode cX4_pays 63 = .ok (.iload_n 3, 1) := by decide +kernel
theorem dX4_pays_64 : decode cX4_pays 64 = .ok (.iadd, 1) := by decide +kernel
theorem dX4_pays_65 : decode cX4_pays 65 = .ok (.iastore, 1) := by decide +kernel
theorem dX4_pays_66 : decode cX4_pays 66 = .ok (.aload_n 0, 1) := by decide +kernel
theorem dX4_pays_67 : decode cX4_pays 67 = .ok (.getfield 67, 3) := by decide +kernel
theorem dX4_pays_70 : decode cX4_pays 70 = .ok (.iload_n 2, 1) := by decide +kernel
theorem dX4_pays_71 : decode cX4_pays 71 = .ok (.dup2, 1) := by decide +kernel
theorem dX4_pays_72 : decode cX4_pays 72 = .ok (.iaload, 1) := by decide +kernel
theorem dX4_pays_73 : decode cX4_pays 73 = .ok (.iload_n 3, 1) := by decide +kernel
theorem dX4_pays_74 : decode cX4_pays 74 = .ok (.iadd, 1) := by decide +kernel
theorem dX4_pays_75 : decode cX4_pays 75 = .ok (.iastore, 1) := by decide +kernel
theorem dX4_pays_76 : decode cX4_pays 76 = .ok (.aload_n 0, 1) := by decide +kernel
theorem dX4_pays_77 : decode cX4_pays 77 = .ok (.getfield 34, 3) := by decide +kernel
theorem dX4_pays_80 : decode cX4_pays 80 = .ok (.iload_n 1, 1) := by decide +kernel
theorem dX4_pays_81 : decode cX4_pays 81 = .ok (.iload_n 3, 1) := by decide +kernel
theorem dX4_pays_82 : decode cX4_pays 82 = .ok (.iastore, 1) := by decide +kernel
theorem dX4_pays_83 : decode cX4_pays 83 = .ok (.aload_n 0, 1) := by decide +kernel
theorem dX4_pays_84 : decode cX4_pays 84 = .ok (.getfield 28, 3) := by decide +kernel
theorem dX4_pays_87 : decode cX4_pays 87 = .ok (.iload_n 1, 1) := by decide +kernel
theorem dX4_pays_88 : decode cX4_pays 88 = .ok (.iconst 2, 1) := by decide +kernel
theorem dX4_pays_89 : decode cX4_pays 89 = .ok (.iastore, 1) := by decide +kernel
theorem dX4_pays_90 : decode cX4_pays 90 = .ok (.return_, 1) := by decide +kernel
theorem dX4_fails_0 : decode cX4_fails 0 = .ok (.aload_n 0, 1) := by decide +kernel
theorem dX4_fails_1 : decode cX4_fails 1 = .ok (.getfield 37, 3) := by decide +kernel
theorem dX4_fails_4 : decode cX4_fails 4 = .ok (.iload_n 1, 1) := by decide +kernel
theorem dX4_fails_5 : decode cX4_fails 5 = .ok (.dup2, 1) := by decide +kernel
theorem dX4_fails_6 : decode cX4_fails 6 = .ok (.iaload, 1) := by decide +kernel
theorem dX4_fails_7 : decode cX4_fails 7 = .ok (.iconst 1, 1) := by decide +kernel
theorem dX4_fails_8 : decode cX4_fails 8 = .ok (.iadd, 1) := by decide +kernel
theorem dX4_fails_9 : decode cX4_fails 9 = .ok (.iastore, 1) := by decide +kernel
theorem dX4_fails_10 : decode cX4_fails 10 = .ok (.aload_n 0, 1) := by decide +kernel
theorem dX4_fails_11 : decode cX4_fails 11 = .ok (.getfield 28, 3) := by decide +kernel
theorem dX4_fails_14 : decode cX4_fails 14 = .ok (.iload_n 1, 1) := by decide +kernel
theorem dX4_fails_15 : decode cX4_fails 15 = .ok (.aload_n 0, 1) := by decide +kernel
theorem dX4_fails_16 : decode cX4_fails 16 = .ok (.getfield 37, 3) := by decide +kernel
theorem dX4_fails_19 : decode cX4_fails 19 = .ok (.iload_n 1, 1) := by decide +kernel
theorem dX4_fails_20 : decode cX4_fails 20 = .ok (.iaload, 1) := by decide +kernel
theorem dX4_fails_21 : decode cX4_fails 21 = .ok (.iconst 2, 1) := by decide +kernel
theorem dX4_fails_22 : decode cX4_fails 22 = .ok (.if_icmp .ne 7, 3) := by decide +kernel
theorem dX4_fails_25 : decode cX4_fails 25 = .ok (.iconst 3, 1) := by decide +kernel
theorem dX4_fails_26 : decode cX4_fails 26 = .ok (.goto 4, 3) := by decide +kernel
theorem dX4_fails_29 : decode cX4_fails 29 = .ok (.iconst 0, 1) := by decide +kernel
theorem dX4_fails_30 : decode cX4_fails 30 = .ok (.iastore, 1) := by decide +kernel
theorem dX4_fails_31 : decode cX4_fails 31 = .ok (.aload_n 0, 1) := by decide +kernel
theorem dX4_fails_32 : decode cX4_fails 32 = .ok (.getfield 31, 3) := by decide +kernel
theorem dX4_fails_35 : decode cX4_fails 35 = .ok (.iload_n 1, 1) := by decide +kernel
theorem dX4_fails_36 : decode cX4_fails 36 = .ok (.iconst (-1), 1) := by decide +kernel
theorem dX4_fails_37 : decode cX4_fails 37 = .ok (.iastore, 1) := by decide +kernel
theorem dX4_fails_38 : decode cX4_fails 38 = .ok (.return_, 1) := by decide +kernel
theorem dX4_sails_0 : decode cX4_sails 0 = .ok (.iconst 0, 1) := by decide +kernel
theorem dX4_sails_1 : decode cX4_sails 1 = .ok (.istore_n 2, 1) := by decide +kernel
theorem dX4_sails_2 : decode cX4_sails 2 = .ok (.iconst 0, 1) := by decide +kernel
theorem dX4_sails_3 : decode cX4_sails 3 = .ok (.istore_n 3, 1) := by decide +kernel
theorem dX4_sails_4 : decode cX4_sails 4 = .ok (.iload_n 3, 1) := by decide +kernel
theorem dX4_sails_5 : decode cX4_sails 5 = .ok (.bipush 10, 2) := by decide +kernel
theorem dX4_sails_7 : decode cX4_sails 7 = .ok (.if_icmp .ge 82, 3) := by decide +kernel
theorem dX4_sails_10 : decode cX4_sails 10 = .ok (.aload_n 0, 1) := by decide +kernel
theorem dX4_sails_11 : decode cX4_sails 11 = .ok (.getfield 70, 3) := by decide +kernel
theorem dX4_sails_14 : decode cX4_sails 14 = .ok (.iload_n 3, 1) := by decide +kernel
theorem dX4_sails_15 : decode cX4_sails 15 = .ok (.iconst 0, 1) := by decide +kernel
theorem dX4_sails_16 : decode cX4_sails 16 = .ok (.iastore, 1) := by decide +kernel
theorem dX4_sails_17 : decode cX4_sails 17 = .ok (.aload_n 0, 1) := by decide +kernel
theorem dX4_sails_18 : decode cX4_sails 18 = .ok (.getfield 52, 3) := by decide +kernel
theorem dX4_sails_21 : decode cX4_sails 21 = .ok (.iload_n 3, 1) := by decide +kernel
theorem dX4_sails_22 : decode cX4_sails 22 = .ok (.iaload, 1) := by decide +kernel
theorem dX4_sails_23 : decode cX4_sails 23 = .ok (.iload_n 1, 1) := by decide +kernel
theorem dX4_sails_24 : decode cX4_sails 24 = .ok (.if_icmp .ne 36, 3) := by decide +kernel
theorem dX4_sails_27 : decode cX4_sails 27 = .ok (.iload_n 2, 1) := by decide +kernel
theorem dX4_sails_28 : decode cX4_sails 28 = .ok (.iconst 1, 1) := by decide +kernel
theorem dX4_sails_29 : decode cX4_sails 29 = .ok (.iload_n 3, 1) := by decide +kernel
theorem dX4_sails_30 : decode cX4_sails 30 = .ok (.ishl, 1) := by decide +kernel
theorem dX4_sails_31 : decode cX4_sails 31 = .ok (.ior, 1) := by decide +kernel
theorem dX4_sails_32 : decode cX4_sails 32 = .ok (.istore_n 2, 1) := by decide +kernel
theorem dX4_sails_33 : decode cX4_sails 33 = .ok (.aload_n 0, 1) := by decide +kernel
theorem dX4_sails_34 : decode cX4_sails 34 = .ok (.getfield 55, 3) := by decide +kernel
theorem dX4_sails_37 : decode cX4_sails 37 = .ok (.iload_n 3, 1) := by decide +kernel
theorem dX4_sails_38 : decode cX4_sails 38 = .ok (.iconst 1, 1) := by decide +kernel
theorem dX4_sails_39 : decode cX4_sails 39 = .ok (.iastore, 1) := by decide +kernel
theorem dX4_sails_40 : decode cX4_sails 40 = .ok (.aload_n 0, 1) := by decide +kernel
theorem dX4_sails_41 : decode cX4_sails 41 = .ok (.getfield 58, 3) := by decide +kernel
theorem dX4_sails_44 : decode cX4_sails 44 = .ok (.iload_n 3, 1) := by decide +kernel
theorem dX4_sails_45 : decode cX4_sails 45 = .ok (.dup2, 1) := by decide +kernel
theorem dX4_sails_46 : decode cX4_sails 46 = .ok (.iaload, 1) := by decide +kernel
theorem dX4_sails_47 : decode cX4_sails 47 = .ok (.iconst 1, 1) := by decide +kernel
theorem dX4_sails_48 : decode cX4_sails 48 = .ok (.iadd, 1) := by decide +kernel
theorem dX4_sails_49 : decode cX4_sails 49 = .ok (.iastore, 1) := by decide +kernel
theorem dX4_sails_50 : decode cX4_sails 50 = .ok (.aload_n 0, 1) := by decide +kernel
theorem dX4_sails_51 : decode cX4_sails 51 = .ok (.getfield 52, 3) := by decide +kernel
theorem dX4_sails_54 : decode cX4_sails 54 = .ok (.iload_n 3, 1) := by decide +kernel
theorem dX4_sails_55 : decode cX4_sails 55 = .ok (.iconst (-1), 1) := by decide +kernel
theorem dX4_sails_56 : decode cX4_sails 56 = .ok (.iastore, 1) := by decide +kernel
theorem dX4_sails_57 : decode cX4_sails 57 = .ok (.goto 26, 3) := by decide +kernel
theorem dX4_sails_60 : decode cX4_sails 60 = .ok (.aload_n 0, 1) := by decide +kernel
theorem dX4_sails_61 : decode cX4_sails 61 = .ok (.getfield 61, 3) := by decide +kernel
theorem dX4_sails_64 : decode cX4_sails 64 = .ok (.iload_n 3, 1) := by decide +kernel
theorem dX4_sails_65 : decode cX4_sails 65 = .ok (.dup2, 1) := by decide +kernel
theorem dX4_sails_66 : decode cX4_sails 66 = .ok (.iaload, 1) := by decide +kernel
theorem dX4_sails_67 : decode cX4_sails 67 = .ok (.aload_n 0, 1) := by decide +kernel
theorem dX4_sails_68 : decode cX4_sails 68 = .ok (.iload_n 3, 1) := by decide +kernel
theorem dX4_sails_69 : decode cX4_sails 69 = .ok (.iload_n 1, 1) := by decide +kernel
theorem dX4_sails_70 : decode cX4_sails 70 = .ok (.invokevirtual 97, 3) := by decide +kernel
theorem dX4_sails_73 : decode cX4_sails 73 = .ok (.ifCond .eq 7, 3) := by decide +kernel
theorem dX4_sails_76 : decode cX4_sails 76 = .ok (.iconst 1, 1) := by decide +kernel
theorem dX4_sails_77 : decode cX4_sails 77 = .ok (.goto 4, 3) := by decide +kernel
theorem dX4_sails_80 : decode cX4_sails 80 = .ok (.iconst 0, 1) := by decide +kernel
theorem dX4_sails_81 : decode cX4_sails 81 = .ok (.iadd, 1) := by decide +kernel
theorem dX4_sails_82 : decode cX4_sails 82 = .ok (.iastore, 1) := by decide +kernel
theorem dX4_sails_83 : decode cX4_sails 83 = .ok (.iinc 3 1, 3) := by decide +kernel
theorem dX4_sails_86 : decode cX4_sails 86 = .ok (.goto (-82), 3) := by decide +kernel
theorem dX4_sails_89 : decode cX4_sails 89 = .ok (.iconst 0, 1) := by decide +kernel
theorem dX4_sails_90 : decode cX4_sails 90 = .ok (.istore_n 3, 1) := by decide +kernel
theorem dX4_sails_91 : decode cX4_sails 91 = .ok (.iload_n 3, 1) := by decide +kernel
theorem dX4_sails_92 : decode cX4_sails 92 = .ok (.aload_n 0, 1) := by decide +kernel
theorem dX4_sails_93 : decode cX4_sails 93 = .ok (.getfield 77, 3) := by decide +kernel
theorem dX4_sails_96 : decode cX4_sails 96 = .ok (.if_icmp .ge 56, 3) := by decide +kernel
theorem dX4_sails_99 : decode cX4_sails 99 = .ok (.aload_n 0, 1) := by decide +kernel
theorem dX4_sails_100 : decode cX4_sails 100 = .ok (.getfield 28, 3) := by decide +kernel
theorem dX4_sails_103 : decode cX4_sails 103 = .ok (.iload_n 3, 1) := by decide +kernel
theorem dX4_sails_104 : decode cX4_sails 104 = .ok (.iaload, 1) := by decide +kernel
theorem dX4_sails_105 : decode cX4_sails 105 = .ok (.iconst 1, 1) := by decide +kernel
theorem dX4_sails_106 : decode cX4_sails 106 = .ok (.if_icmp .ne 40, 3) := by decide +kernel
theorem dX4_sails_109 : decode cX4_sails 109 = .ok (.aload_n 0, 1) := by decide +kernel
theorem dX4_sails_110 : decode cX4_sails 110 = .ok (.getfield 31, 3) := by decide +kernel
theorem dX4_sails_113 : decode cX4_sails 113 = .ok (.iload_n 3, 1) := by decide +kernel
theorem dX4_sails_114 : decode cX4_sails 114 = .ok (.iaload, 1) := by decide +kernel
theorem dX4_sails_115 : decode cX4_sails 115 = .ok (.iload_n 1, 1) := by decide +kernel
theorem dX4_sails_116 : decode cX4_sails 116 = .ok (.if_icmp .ne 30, 3) := by decide +kernel
theorem dX4_sails_119 : decode cX4_sails 119 = .ok (.iload_n 2, 1) := by decide +kernel
theorem dX4_sails_120 : decode cX4_sails 120 = .ok (.aload_n 0, 1) := by decide +kernel
theorem dX4_sails_121 : decode cX4_sails 121 = .ok (.getfield 16, 3) := by decide +kernel
theorem dX4_sails_124 : decode cX4_sails 124 = .ok (.iload_n 3, 1) := by decide +kernel
theorem dX4_sails_125 : decode cX4_sails 125 = .ok (.iaload, 1) := by decide +kernel
theorem dX4_sails_126 : decode cX4_sails 126 = .ok (.ishr, 1) := by decide +kernel
theorem dX4_sails_127 : decode cX4_sails 127 = .ok (.iconst 1, 1) := by decide +kernel
theorem dX4_sails_128 : decode cX4_sails 128 = .ok (.iand, 1) := by decide +kernel
theorem dX4_sails_129 : decode cX4_sails 129 = .ok (.iconst 1, 1) := by decide +kernel
theorem dX4_sails_130 : decode cX4_sails 130 = .ok (.if_icmp .ne 11, 3) := by decide +kernel
theorem dX4_sails_133 : decode cX4_sails 133 = .ok (.aload_n 0, 1) := by decide +kernel
theorem dX4_sails_134 : decode cX4_sails 134 = .ok (.iload_n 3, 1) := by decide +kernel
theorem dX4_sails_135 : decode cX4_sails 135 = .ok (.invokevirtual 108, 3) := by decide +kernel
theorem dX4_sails_138 : decode cX4_sails 138 = .ok (.goto 8, 3) := by decide +kernel
theorem dX4_sails_141 : decode cX4_sails 141 = .ok (.aload_n 0, 1) := by decide +kernel
theorem dX4_sails_142 : decode cX4_sails 142 = .ok (.iload_n 3, 1) := by decide +kernel
theorem dX4_sails_143 : decode cX4_sails 143 = .ok (.invokevirtual 112, 3) := by decide +kernel
theorem dX4_sails_146 : decode cX4_sails 146 = .ok (.iinc 3 1, 3) := by decide +kernel
theorem dX4_sails_149 : decode cX4_sails 149 = .ok (.goto (-58), 3) := by decide +kernel
theorem dX4_sails_152 : decode cX4_sails 152 = .ok (.aload_n 0, 1) := by decide +kernel
theorem dX4_sails_153 : decode cX4_sails 153 = .ok (.getfield 49, 3) := by decide +kernel
theorem dX4_sails_156 : decode cX4_sails 156 = .ok (.iload_n 1, 1) := by decide +kernel
theorem dX4_sails_157 : decode cX4_sails 157 = .ok (.iconst 1, 1) := by decide +kernel
theorem dX4_sails_158 : decode cX4_sails 158 = .ok (.iastore, 1) := by decide +kernel
theorem dX4_sails_159 : decode cX4_sails 159 = .ok (.aload_n 0, 1) := by decide +kernel
theorem dX4_sails_160 : decode cX4_sails 160 = .ok (.getfield 46, 3) := by decide +kernel
theorem dX4_sails_163 : decode cX4_sails 163 = .ok (.iload_n 1, 1) := by decide +kernel
theorem dX4_sails_164 : decode cX4_sails 164 = .ok (.iconst 0, 1) := by decide +kernel
theorem dX4_sails_165 : decode cX4_sails 165 = .ok (.iastore, 1) := by decide +kernel
theorem dX4_sails_166 : decode cX4_sails 166 = .ok (.return_, 1) := by decide +kernel
theorem dX4_pass_0 : decode cX4_pass 0 = .ok (.aload_n 0, 1) := by decide +kernel
theorem dX4_pass_1 : decode cX4_pass 1 = .ok (.aload_n 0, 1) := by decide +kernel
theorem dX4_pass_2 : decode cX4_pass 2 = .ok (.iload_n 1, 1) := by decide +kernel
theorem dX4_pass_3 : decode cX4_pass 3 = .ok (.iconst 1, 1) := by decide +kernel
theorem dX4_pass_4 : decode cX4_pass 4 = .ok (.bipush 100, 2) := by decide +kernel
theorem dX4_pass_6 : decode cX4_pass 6 = .ok (.invokevirtual 80, 3) := by decide +kernel
theorem dX4_pass_9 : decode cX4_pass 9 = .ok (.ifCond .ne 7, 3) := by decide +kernel
theorem dX4_pass_12 : decode cX4_pass 12 = .ok (.iconst 1, 1) := by decide +kernel
theorem dX4_pass_13 : decode cX4_pass 13 = .ok (.goto 20, 3) := by decide +kernel
theorem dX4_pass_16 : decode cX4_pass 16 = .ok (.aload_n 0, 1) := by decide +kernel
theorem dX4_pass_17 : decode cX4_pass 17 = .ok (.getfield 91, 3) := by decide +kernel
theorem dX4_pass_20 : decode cX4_pass 20 = .ok (.iload_n 1, 1) := by decide +kernel
theorem dX4_pass_21 : decode cX4_pass 21 = .ok (.iadd, 1) := by decide +kernel
theorem dX4_pass_22 : decode cX4_pass 22 = .ok (.sipush 10000, 3) := by decide +kernel
theorem dX4_pass_25 : decode cX4_pass 25 = .ok (.if_icmp .le 7, 3) := by decide +kernel
theorem dX4_pass_28 : decode cX4_pass 28 = .ok (.iconst 2, 1) := by decide +kernel
theorem dX4_pass_29 : decode cX4_pass 29 = .ok (.goto 4, 3) := by decide +kernel
theorem dX4_pass_32 : decode cX4_pass 32 = .ok (.iconst 0, 1) := by decide +kernel
theorem dX4_pass_33 : decode cX4_pass 33 = .ok (.invokevirtual 87, 3) := by decide +kernel
theorem dX4_pass_36 : decode cX4_pass 36 = .ok (.ifCond .eq 5, 3) := by decide +kernel
theorem dX4_pass_39 : decode cX4_pass 39 = .ok (.iconst (-1), 1) := by decide +kernel
theorem dX4_pass_40 : decode cX4_pass 40 = .ok (.ireturn, 1) := by decide +kernel
theorem dX4_pass_41 : decode cX4_pass 41 = .ok (.iconst 0, 1) := by decide +kernel
theorem dX4_pass_42 : decode cX4_pass 42 = .ok (.istore_n 2, 1) := by decide +kernel
theorem dX4_pass_43 : decode cX4_pass 43 = .ok (.iload_n 2, 1) := by decide +kernel
theorem dX4_pass_44 : decode cX4_pass 44 = .ok (.iload_n 1, 1) := by decide +kernel
theorem dX4_pass_45 : decode cX4_pass 45 = .ok (.if_icmp .ge 62, 3) := by decide +kernel
theorem dX4_pass_48 : decode cX4_pass 48 = .ok (.aload_n 0, 1) := by decide +kernel
theorem dX4_pass_49 : decode cX4_pass 49 = .ok (.dup, 1) := by decide +kernel
theorem dX4_pass_50 : decode cX4_pass 50 = .ok (.getfield 91, 3) := by decide +kernel
theorem dX4_pass_53 : decode cX4_pass 53 = .ok (.iconst 1, 1) := by decide +kernel
theorem dX4_pass_54 : decode cX4_pass 54 = .ok (.iadd, 1) := by decide +kernel
theorem dX4_pass_55 : decode cX4_pass 55 = .ok (.putfield 91, 3) := by decide +kernel
theorem dX4_pass_58 : decode cX4_pass 58 = .ok (.iconst 0, 1) := by decide +kernel
theorem dX4_pass_59 : decode cX4_pass 59 = .ok (.istore_n 3, 1) := by decide +kernel
theorem dX4_pass_60 : decode cX4_pass 60 = .ok (.iload_n 3, 1) := by decide +kernel
theorem dX4_pass_61 : decode cX4_pass 61 = .ok (.aload_n 0, 1) := by decide +kernel
theorem dX4_pass_62 : decode cX4_pass 62 = .ok (.getfield 84, 3) := by decide +kernel
theorem dX4_pass_65 : decode cX4_pass 65 = .ok (.if_icmp .ge 36, 3) := by decide +kernel
theorem dX4_pass_68 : decode cX4_pass 68 = .ok (.aload_n 0, 1) := by decide +kernel
theorem dX4_pass_69 : decode cX4_pass 69 = .ok (.getfield 49, 3) := by decide +kernel
theorem dX4_pass_72 : decode cX4_pass 72 = .ok (.iload_n 3, 1) := by decide +kernel
theorem dX4_pass_73 : decode cX4_pass 73 = .ok (.iaload, 1) := by decide +kernel
theorem dX4_pass_74 : decode cX4_pass 74 = .ok (.ifCond .ne 21, 3) := by decide +kernel
theorem dX4_pass_77 : decode cX4_pass 77 = .ok (.aload_n 0, 1) := by decide +kernel
theorem dX4_pass_78 : decode cX4_pass 78 = .ok (.getfield 40, 3) := by decide +kernel
theorem dX4_pass_81 : decode cX4_pass 81 = .ok (.iload_n 3, 1) := by decide +kernel
theorem dX4_pass_82 : decode cX4_pass 82 = .ok (.iaload, 1) := by decide +kernel
theorem dX4_pass_83 : decode cX4_pass 83 = .ok (.aload_n 0, 1) := by decide +kernel
theorem dX4_pass_84 : decode cX4_pass 84 = .ok (.getfield 91, 3) := by decide +kernel
theorem dX4_pass_87 : decode cX4_pass 87 = .ok (.if_icmp .ne 8, 3) := by decide +kernel
theorem dX4_pass_90 : decode cX4_pass 90 = .ok (.aload_n 0, 1) := by decide +kernel
theorem dX4_pass_91 : decode cX4_pass 91 = .ok (.iload_n 3, 1) := by decide +kernel
theorem dX4_pass_92 : decode cX4_pass 92 = .ok (.invokevirtual 115, 3) := by decide +kernel
theorem dX4_pass_95 : decode cX4_pass 95 = .ok (.iinc 3 1, 3) := by decide +kernel
theorem dX4_pass_98 : decode cX4_pass 98 = .ok (.goto (-38), 3) := by decide +kernel
theorem dX4_pass_101 : decode cX4_pass 101 = .ok (.iinc 2 1, 3) := by decide +kernel
theorem dX4_pass_104 : decode cX4_pass 104 = .ok (.goto (-61), 3) := by decide +kernel
theorem dX4_pass_107 : decode cX4_pass 107 = .ok (.aload_n 0, 1) := by decide +kernel
theorem dX4_pass_108 : decode cX4_pass 108 = .ok (.getfield 91, 3) := by decide +kernel
theorem dX4_pass_111 : decode cX4_pass 111 = .ok (.ireturn, 1) := by decide +kernel
theorem dX4_ofReceipt_0 : decode cX4_ofReceipt 0 = .ok (.aload_n 0, 1) := by decide +kernel
theorem dX4_ofReceipt_1 : decode cX4_ofReceipt 1 = .ok (.aload_n 0, 1) := by decide +kernel
theorem dX4_ofReceipt_2 : decode cX4_ofReceipt 2 = .ok (.iload_n 1, 1) := by decide +kernel
theorem dX4_ofReceipt_3 : decode cX4_ofReceipt 3 = .ok (.invokevirtual 94, 3) := by decide +kernel
theorem dX4_ofReceipt_6 : decode cX4_ofReceipt 6 = .ok (.ifCond .ne 7, 3) := by decide +kernel
theorem dX4_ofReceipt_9 : decode cX4_ofReceipt 9 = .ok (.iconst 1, 1) := by decide +kernel
theorem dX4_ofReceipt_10 : decode cX4_ofReceipt 10 = .ok (.goto 18, 3) := by decide +kernel
theorem dX4_ofReceipt_13 : decode cX4_ofReceipt 13 = .ok (.aload_n 0, 1) := by decide +kernel
theorem dX4_ofReceipt_14 : decode cX4_ofReceipt 14 = .ok (.iload_n 2, 1) := by decide +kernel
theorem dX4_ofReceipt_15 : decode cX4_ofReceipt 15 = .ok (.iconst 0, 1) := by decide +kernel
theorem dX4_ofReceipt_16 : decode cX4_ofReceipt 16 = .ok (.iconst 3, 1) := by decide +kernel
theorem dX4_ofReceipt_17 : decode cX4_ofReceipt 17 = .ok (.invokevirtual 80, 3) := by decide +kernel
theorem dX4_ofReceipt_20 : decode cX4_ofReceipt 20 = .ok (.ifCond .eq 7, 3) := by decide +kernel
theorem dX4_ofReceipt_23 : decode cX4_ofReceipt 23 = .ok (.iconst 0, 1) := by decide +kernel
theorem dX4_ofReceipt_24 : decode cX4_ofReceipt 24 = .ok (.goto 4, 3) := by decide +kernel
theorem dX4_ofReceipt_27 : decode cX4_ofReceipt 27 = .ok (.iconst 2, 1) := by decide +kernel
theorem dX4_ofReceipt_28 : decode cX4_ofReceipt 28 = .ok (.invokevirtual 87, 3) := by decide +kernel
theorem dX4_ofReceipt_31 : decode cX4_ofReceipt 31 = .ok (.ifCond .eq 5, 3) := by decide +kernel
theorem dX4_ofReceipt_34 : decode cX4_ofReceipt 34 = .ok (.iconst (-1), 1) := by decide +kernel
theorem dX4_ofReceipt_35 : decode cX4_ofReceipt 35 = .ok (.ireturn, 1) := by decide +kernel
theorem dX4_ofReceipt_36 : decode cX4_ofReceipt 36 = .ok (.iload_n 2, 1) := by decide +kernel
theorem dX4_ofReceipt_37 : decode cX4_ofReceipt 37 = .ok (.ifCond .ne 12, 3) := by decide +kernel
theorem dX4_ofReceipt_40 : decode cX4_ofReceipt 40 = .ok (.aload_n 0, 1) := by decide +kernel
theorem dX4_ofReceipt_41 : decode cX4_ofReceipt 41 = .ok (.getfield 28, 3) := by decide +kernel
theorem dX4_ofReceipt_44 : decode cX4_ofReceipt 44 = .ok (.iload_n 1, 1) := by decide +kernel
theorem dX4_ofReceipt_45 : decode cX4_ofReceipt 45 = .ok (.iaload, 1) := by decide +kernel
theorem dX4_ofReceipt_46 : decode cX4_ofReceipt 46 = .ok (.goto 37, 3) := by decide +kernel
theorem dX4_ofReceipt_49 : decode cX4_ofReceipt 49 = .ok (.iload_n 2, 1) := by decide +kernel
theorem dX4_ofReceipt_50 : decode cX4_ofReceipt 50 = .ok (.iconst 1, 1) := by decide +kernel
theorem dX4_ofReceipt_51 : decode cX4_ofReceipt 51 = .ok (.if_icmp .ne 12, 3) := by decide +kernel
theorem dX4_ofReceipt_54 : decode cX4_ofReceipt 54 = .ok (.aload_n 0, 1) := by decide +kernel
theorem dX4_ofReceipt_55 : decode cX4_ofReceipt 55 = .ok (.getfield 22, 3) := by decide +kernel
theorem dX4_ofReceipt_58 : decode cX4_ofReceipt 58 = .ok (.iload_n 1, 1) := by decide +kernel
theorem dX4_ofReceipt_59 : decode cX4_ofReceipt 59 = .ok (.iaload, 1) := by decide +kernel
theorem dX4_ofReceipt_60 : decode cX4_ofReceipt 60 = .ok (.goto 23, 3) := by decide +kernel
theorem dX4_ofReceipt_63 : decode cX4_ofReceipt 63 = .ok (.iload_n 2, 1) := by decide +kernel
theorem dX4_ofReceipt_64 : decode cX4_ofReceipt 64 = .ok (.iconst 2, 1) := by decide +kernel
theorem dX4_ofReceipt_65 : decode cX4_ofReceipt 65 = .ok (.if_icmp .ne 12, 3) := by decide +kernel
theorem dX4_ofReceipt_68 : decode cX4_ofReceipt 68 = .ok (.aload_n 0, 1) := by decide +kernel
theorem dX4_ofReceipt_69 : decode cX4_ofReceipt 69 = .ok (.getfield 34, 3) := by decide +kernel
theorem dX4_ofReceipt_72 : decode cX4_ofReceipt 72 = .ok (.iload_n 1, 1) := by decide +kernel
theorem dX4_ofReceipt_73 : decode cX4_ofReceipt 73 = .ok (.iaload, 1) := by decide +kernel
theorem dX4_ofReceipt_74 : decode cX4_ofReceipt 74 = .ok (.goto 9, 3) := by decide +kernel
theorem dX4_ofReceipt_77 : decode cX4_ofReceipt 77 = .ok (.aload_n 0, 1) := by decide +kernel
theorem dX4_ofReceipt_78 : decode cX4_ofReceipt 78 = .ok (.getfield 31, 3) := by decide +kernel
theorem dX4_ofReceipt_81 : decode cX4_ofReceipt 81 = .ok (.iload_n 1, 1) := by decide +kernel
theorem dX4_ofReceipt_82 : decode cX4_ofReceipt 82 = .ok (.iaload, 1) := by decide +kernel
theorem dX4_ofReceipt_83 : decode cX4_ofReceipt 83 = .ok (.ireturn, 1) := by decide +kernel
theorem dX4_digits_0 : decode cX4_digits 0 = .ok (.iload_n 1, 1) := by decide +kernel
theorem dX4_digits_1 : decode cX4_digits 1 = .ok (.bipush 10, 2) := by decide +kernel
theorem dX4_digits_3 : decode cX4_digits 3 = .ok (.if_icmp .ge 7, 3) := by decide +kernel
theorem dX4_digits_6 : decode cX4_digits 6 = .ok (.iconst 1, 1) := by decide +kernel
theorem dX4_digits_7 : decode cX4_digits 7 = .ok (.goto 36, 3) := by decide +kernel
theorem dX4_digits_10 : decode cX4_digits 10 = .ok (.iload_n 1, 1) := by decide +kernel
theorem dX4_digits_11 : decode cX4_digits 11 = .ok (.bipush 100, 2) := by decide +kernel
theorem dX4_digits_13 : decode cX4_digits 13 = .ok (.if_icmp .ge 7, 3) := by decide +kernel
theorem dX4_digits_16 : decode cX4_digits 16 = .ok (.iconst 2, 1) := by decide +kernel
theorem dX4_digits_17 : decode cX4_digits 17 = .ok (.goto 26, 3) := by decide +kernel
theorem dX4_digits_20 : decode cX4_digits 20 = .ok (.iload_n 1, 1) := by decide +kernel
theorem dX4_digits_21 : decode cX4_digits 21 = .ok (.sipush 1000, 3) := by decide +kernel
theorem dX4_digits_24 : decode cX4_digits 24 = .ok (.if_icmp .ge 7, 3) := by decide +kernel
theorem dX4_digits_27 : decode cX4_digits 27 = .ok (.iconst 3, 1) := by decide +kernel
theorem dX4_digits_28 : decode cX4_digits 28 = .ok (.goto 15, 3) := by decide +kernel
theorem dX4_digits_31 : decode cX4_digits 31 = .ok (.iload_n 1, 1) := by decide +kernel
theorem dX4_digits_32 : decode cX4_digits 32 = .ok (.sipush 10000, 3) := by decide +kernel
theorem dX4_digits_35 : decode cX4_digits 35 = .ok (.if_icmp .ge 7, 3) := by decide +kernel
theorem dX4_digits_38 : decode cX4_digits 38 = .ok (.iconst 4, 1) := by decide +kernel
theorem dX4_digits_39 : decode cX4_digits 39 = .ok (.goto 4, 3) := by decide +kernel
theorem dX4_digits_42 : decode cX4_digits 42 = .ok (.iconst 5, 1) := by decide +kernel
theorem dX4_digits_43 : decode cX4_digits 43 = .ok (.ireturn, 1) := by decide +kernel
theorem dX4_digit_0 : decode cX4_digit 0 = .ok (.iload_n 1, 1) := by decide +kernel
theorem dX4_digit_1 : decode cX4_digit 1 = .ok (.istore_n 3, 1) := by decide +kernel
theorem dX4_digit_2 : decode cX4_digit 2 = .ok (.iconst 0, 1) := by decide +kernel
theorem dX4_digit_3 : decode cX4_digit 3 = .ok (.istore 4, 2) := by decide +kernel
theorem dX4_digit_5 : decode cX4_digit 5 = .ok (.iload 4, 2) := by decide +kernel
theorem dX4_digit_7 : decode cX4_digit 7 = .ok (.iload_n 2, 1) := by decide +kernel
theorem dX4_digit_8 : decode cX4_digit 8 = .ok (.if_icmp .ge 14, 3) := by decide +kernel
theorem dX4_digit_11 : decode cX4_digit 11 = .ok (.iload_n 3, 1) := by decide +kernel
theorem dX4_digit_12 : decode cX4_digit 12 = .ok (.bipush 10, 2) := by decide +kernel
theorem dX4_digit_14 : decode cX4_digit 14 = .ok (.idiv, 1) := by decide +kernel
theorem dX4_digit_15 : decode cX4_digit 15 = .ok (.istore_n 3, 1) := by decide +kernel
theorem dX4_digit_16 : decode cX4_digit 16 = .ok (.iinc 4 1, 3) := by decide +kernel
theorem dX4_digit_19 : decode cX4_digit 19 = .ok (.goto (-14), 3) := by decide +kernel
theorem dX4_digit_22 : decode cX4_digit 22 = .ok (.bipush 48, 2) := by decide +kernel
theorem dX4_digit_24 : decode cX4_digit 24 = .ok (.iload_n 3, 1) := by decide +kernel
theorem dX4_digit_25 : decode cX4_digit 25 = .ok (.bipush 10, 2) := by decide +kernel
theorem dX4_digit_27 : decode cX4_digit 27 = .ok (.irem, 1) := by decide +kernel
theorem dX4_digit_28 : decode cX4_digit 28 = .ok (.iadd, 1) := by decide +kernel
theorem dX4_digit_29 : decode cX4_digit 29 = .ok (.i2c, 1) := by decide +kernel
theorem dX4_digit_30 : decode cX4_digit 30 = .ok (.ireturn, 1) := by decide +kernel
theorem dX4_code_0 : decode cX4_code 0 = .ok (.aload_n 0, 1) := by decide +kernel
theorem dX4_code_1 : decode cX4_code 1 = .ok (.aload_n 0, 1) := by decide +kernel
theorem dX4_code_2 : decode cX4_code 2 = .ok (.iload_n 1, 1) := by decide +kernel
theorem dX4_code_3 : decode cX4_code 3 = .ok (.invokevirtual 94, 3) := by decide +kernel
theorem dX4_code_6 : decode cX4_code 6 = .ok (.ifCond .eq 11, 3) := by decide +kernel
theorem dX4_code_9 : decode cX4_code 9 = .ok (.iload_n 2, 1) := by decide +kernel
theorem dX4_code_10 : decode cX4_code 10 = .ok (.ifCond .lt 7, 3) := by decide +kernel
theorem dX4_code_13 : decode cX4_code 13 = .ok (.iconst 0, 1) := by decide +kernel
theorem dX4_code_14 : decode cX4_code 14 = .ok (.goto 4, 3) := by decide +kernel
theorem dX4_code_17 : decode cX4_code 17 = .ok (.iconst 1, 1) := by decide +kernel
theorem dX4_code_18 : decode cX4_code 18 = .ok (.invokevirtual 87, 3) := by decide +kernel
theorem dX4_code_21 : decode cX4_code 21 = .ok (.ifCond .eq 5, 3) := by decide +kernel
theorem dX4_code_24 : decode cX4_code 24 = .ok (.iconst 0, 1) := by decide +kernel
theorem dX4_code_25 : decode cX4_code 25 = .ok (.ireturn, 1) := by decide +kernel
theorem dX4_code_26 : decode cX4_code 26 = .ok (.aload_n 0, 1) := by decide +kernel
theorem dX4_code_27 : decode cX4_code 27 = .ok (.iload_n 1, 1) := by decide +kernel
theorem dX4_code_28 : decode cX4_code 28 = .ok (.invokevirtual 118, 3) := by decide +kernel
theorem dX4_code_31 : decode cX4_code 31 = .ok (.istore_n 3, 1) := by decide +kernel
theorem dX4_code_32 : decode cX4_code 32 = .ok (.iload_n 2, 1) := by decide +kernel
theorem dX4_code_33 : decode cX4_code 33 = .ok (.ifCond .eq 10, 3) := by decide +kernel
theorem dX4_code_36 : decode cX4_code 36 = .ok (.iload_n 2, 1) := by decide +kernel
theorem dX4_code_37 : decode cX4_code 37 = .ok (.iload_n 3, 1) := by decide +kernel
theorem dX4_code_38 : decode cX4_code 38 = .ok (.iconst 1, 1) := by decide +kernel
theorem dX4_code_39 : decode cX4_code 39 = .ok (.iadd, 1) := by decide +kernel
theorem dX4_code_40 : decode cX4_code 40 = .ok (.if_icmp .ne 15, 3) := by decide +kernel
theorem dX4_code_43 : decode cX4_code 43 = .ok (.iload_n 2, 1) := by decide +kernel
theorem dX4_code_44 : decode cX4_code 44 = .ok (.ifCond .ne 8, 3) := by decide +kernel
theorem dX4_code_47 : decode cX4_code 47 = .ok (.bipush 82, 2) := by decide +kernel
theorem dX4_code_49 : decode cX4_code 49 = .ok (.goto 5, 3) := by decide +kernel
theorem dX4_code_52 : decode cX4_code 52 = .ok (.bipush 45, 2) := by decide +kernel
theorem dX4_code_54 : decode cX4_code 54 = .ok (.ireturn, 1) := by decide +kernel
theorem dX4_code_55 : decode cX4_code 55 = .ok (.iload_n 2, 1) := by decide +kernel
theorem dX4_code_56 : decode cX4_code 56 = .ok (.iload_n 3, 1) := by decide +kernel
theorem dX4_code_57 : decode cX4_code 57 = .ok (.if_icmp .gt 12, 3) := by decide +kernel
theorem dX4_code_60 : decode cX4_code 60 = .ok (.aload_n 0, 1) := by decide +kernel
theorem dX4_code_61 : decode cX4_code 61 = .ok (.iload_n 1, 1) := by decide +kernel
theorem dX4_code_62 : decode cX4_code 62 = .ok (.iload_n 3, 1) := by decide +kernel
theorem dX4_code_63 : decode cX4_code 63 = .ok (.iload_n 2, 1) := by decide +kernel
theorem dX4_code_64 : decode cX4_code 64 = .ok (.isub, 1) := by decide +kernel
theorem dX4_code_65 : decode cX4_code 65 = .ok (.invokevirtual 121, 3) := by decide +kernel
theorem dX4_code_68 : decode cX4_code 68 = .ok (.ireturn, 1) := by decide +kernel
theorem dX4_code_69 : decode cX4_code 69 = .ok (.iload_n 2, 1) := by decide +kernel
theorem dX4_code_70 : decode cX4_code 70 = .ok (.iload_n 3, 1) := by decide +kernel
theorem dX4_code_71 : decode cX4_code 71 = .ok (.isub, 1) := by decide +kernel
theorem dX4_code_72 : decode cX4_code 72 = .ok (.iconst 2, 1) := by decide +kernel
theorem dX4_code_73 : decode cX4_code 73 = .ok (.isub, 1) := by decide +kernel
theorem dX4_code_74 : decode cX4_code 74 = .ok (.istore 4, 2) := by decide +kernel
theorem dX4_code_76 : decode cX4_code 76 = .ok (.iload 4, 2) := by decide +kernel
theorem dX4_code_78 : decode cX4_code 78 = .ok (.aload_n 0, 1) := by decide +kernel
theorem dX4_code_79 : decode cX4_code 79 = .ok (.aload_n 0, 1) := by decide +kernel
theorem dX4_code_80 : decode cX4_code 80 = .ok (.getfield 22, 3) := by decide +kernel
theorem dX4_code_83 : decode cX4_code 83 = .ok (.iload_n 1, 1) := by decide +kernel
theorem dX4_code_84 : decode cX4_code 84 = .ok (.iaload, 1) := by decide +kernel
theorem dX4_code_85 : decode cX4_code 85 = .ok (.invokevirtual 118, 3) := by decide +kernel
theorem dX4_code_88 : decode cX4_code 88 = .ok (.if_icmp .ge 18, 3) := by decide +kernel
theorem dX4_code_91 : decode cX4_code 91 = .ok (.aload_n 0, 1) := by decide +kernel
theorem dX4_code_92 : decode cX4_code 92 = .ok (.aload_n 0, 1) := by decide +kernel
theorem dX4_code_93 : decode cX4_code 93 = .ok (.getfield 22, 3) := by decide +kernel
theorem dX4_code_96 : decode cX4_code 96 = .ok (.iload_n 1, 1) := by decide +kernel
theorem dX4_code_97 : decode cX4_code 97 = .ok (.iaload, 1) := by decide +kernel
theorem dX4_code_98 : decode cX4_code 98 = .ok (.iload 4, 2) := by decide +kernel
theorem dX4_code_100 : decode cX4_code 100 = .ok (.invokevirtual 121, 3) := by decide +kernel
theorem dX4_code_103 : decode cX4_code 103 = .ok (.goto 4, 3) := by decide +kernel
theorem dX4_code_106 : decode cX4_code 106 = .ok (.iconst 0, 1) := by decide +kernel
theorem dX4_code_107 : decode cX4_code 107 = .ok (.ireturn, 1) := by decide +kernel
theorem dX4_ofTraveller_0 : decode cX4_ofTraveller 0 = .ok (.aload_n 0, 1) := by decide +kernel
theorem dX4_ofTraveller_1 : decode cX4_ofTraveller 1 = .ok (.aload_n 0, 1) := by decide +kernel
theorem dX4_ofTraveller_2 : decode cX4_ofTraveller 2 = .ok (.iload_n 1, 1) := by decide +kernel
theorem dX4_ofTraveller_3 : decode cX4_ofTraveller 3 = .ok (.iconst 0, 1) := by decide +kernel
theorem dX4_ofTraveller_4 : decode cX4_ofTraveller 4 = .ok (.bipush 9, 2) := by decide +kernel
theorem dX4_ofTraveller_6 : decode cX4_ofTraveller 6 = .ok (.invokevirtual 80, 3) := by decide +kernel
theorem dX4_ofTraveller_9 : decode cX4_ofTraveller 9 = .ok (.ifCond .ne 7, 3) := by decide +kernel
theorem dX4_ofTraveller_12 : decode cX4_ofTraveller 12 = .ok (.iconst 1, 1) := by decide +kernel
theorem dX4_ofTraveller_13 : decode cX4_ofTraveller 13 = .ok (.goto 18, 3) := by decide +kernel
theorem dX4_ofTraveller_16 : decode cX4_ofTraveller 16 = .ok (.aload_n 0, 1) := by decide +kernel
theorem dX4_ofTraveller_17 : decode cX4_ofTraveller 17 = .ok (.iload_n 2, 1) := by decide +kernel
theorem dX4_ofTraveller_18 : decode cX4_ofTraveller 18 = .ok (.iconst 0, 1) := by decide +kernel
theorem dX4_ofTraveller_19 : decode cX4_ofTraveller 19 = .ok (.iconst 3, 1) := by decide +kernel
theorem dX4_ofTraveller_20 : decode cX4_ofTraveller 20 = .ok (.invokevirtual 80, 3) := by decide +kernel
theorem dX4_ofTraveller_23 : decode cX4_ofTraveller 23 = .ok (.ifCond .eq 7, 3) := by decide +kernel
theorem dX4_ofTraveller_26 : decode cX4_ofTraveller 26 = .ok (.iconst 0, 1) := by decide +kernel
theorem dX4_ofTraveller_27 : decode cX4_ofTraveller 27 = .ok (.goto 4, 3) := by decide +kernel
theorem dX4_ofTraveller_30 : decode cX4_ofTraveller 30 = .ok (.iconst 2, 1) := by decide +kernel
theorem dX4_ofTraveller_31 : decode cX4_ofTraveller 31 = .ok (.invokevirtual 87, 3) := by decide +kernel
theorem dX4_ofTraveller_34 : decode cX4_ofTraveller 34 = .ok (.ifCond .eq 5, 3) := by decide +kernel
theorem dX4_ofTraveller_37 : decode cX4_ofTraveller 37 = .ok (.iconst (-1), 1) := by decide +kernel
theorem dX4_ofTraveller_38 : decode cX4_ofTraveller 38 = .ok (.ireturn, 1) := by decide +kernel
theorem dX4_ofTraveller_39 : decode cX4_ofTraveller 39 = .ok (.iload_n 2, 1) := by decide +kernel
theorem dX4_ofTraveller_40 : decode cX4_ofTraveller 40 = .ok (.ifCond .ne 12, 3) := by decide +kernel
theorem dX4_ofTraveller_43 : decode cX4_ofTraveller 43 = .ok (.aload_n 0, 1) := by decide +kernel
theorem dX4_ofTraveller_44 : decode cX4_ofTraveller 44 = .ok (.getfield 67, 3) := by decide +kernel
theorem dX4_ofTraveller_47 : decode cX4_ofTraveller 47 = .ok (.iload_n 1, 1) := by decide +kernel
theorem dX4_ofTraveller_48 : decode cX4_ofTraveller 48 = .ok (.iaload, 1) := by decide +kernel
theorem dX4_ofTraveller_49 : decode cX4_ofTraveller 49 = .ok (.goto 37, 3) := by decide +kernel
theorem dX4_ofTraveller_52 : decode cX4_ofTraveller 52 = .ok (.iload_n 2, 1) := by decide +kernel
theorem dX4_ofTraveller_53 : decode cX4_ofTraveller 53 = .ok (.iconst 1, 1) := by decide +kernel
theorem dX4_ofTraveller_54 : decode cX4_ofTraveller 54 = .ok (.if_icmp .ne 12, 3) := by decide +kernel
theorem dX4_ofTraveller_57 : decode cX4_ofTraveller 57 = .ok (.aload_n 0, 1) := by decide +kernel
theorem dX4_ofTraveller_58 : decode cX4_ofTraveller 58 = .ok (.getfield 64, 3) := by decide +kernel
theorem dX4_ofTraveller_61 : decode cX4_ofTraveller 61 = .ok (.iload_n 1, 1) := by decide +kernel
theorem dX4_ofTraveller_62 : decode cX4_ofTraveller 62 = .ok (.iaload, 1) := by decide +kernel
theorem dX4_ofTraveller_63 : decode cX4_ofTraveller 63 = .ok (.goto 23, 3) := by decide +kernel
theorem dX4_ofTraveller_66 : decode cX4_ofTraveller 66 = .ok (.iload_n 2, 1) := by decide +kernel
theorem dX4_ofTraveller_67 : decode cX4_ofTraveller 67 = .ok (.iconst 2, 1) := by decide +kernel
theorem dX4_ofTraveller_68 : decode cX4_ofTraveller 68 = .ok (.if_icmp .ne 12, 3) := by decide +kernel
theorem dX4_ofTraveller_71 : decode cX4_ofTraveller 71 = .ok (.aload_n 0, 1) := by decide +kernel
theorem dX4_ofTraveller_72 : decode cX4_ofTraveller 72 = .ok (.getfield 61, 3) := by decide +kernel
theorem dX4_ofTraveller_75 : decode cX4_ofTraveller 75 = .ok (.iload_n 1, 1) := by decide +kernel
theorem dX4_ofTraveller_76 : decode cX4_ofTraveller 76 = .ok (.iaload, 1) := by decide +kernel
theorem dX4_ofTraveller_77 : decode cX4_ofTraveller 77 = .ok (.goto 9, 3) := by decide +kernel
theorem dX4_ofTraveller_80 : decode cX4_ofTraveller 80 = .ok (.aload_n 0, 1) := by decide +kernel
theorem dX4_ofTraveller_81 : decode cX4_ofTraveller 81 = .ok (.getfield 55, 3) := by decide +kernel
theorem dX4_ofTraveller_84 : decode cX4_ofTraveller 84 = .ok (.iload_n 1, 1) := by decide +kernel
theorem dX4_ofTraveller_85 : decode cX4_ofTraveller 85 = .ok (.iaload, 1) := by decide +kernel
theorem dX4_ofTraveller_86 : decode cX4_ofTraveller 86 = .ok (.ireturn, 1) := by decide +kernel
theorem dX4_refundsAnew_0 : decode cX4_refundsAnew 0 = .ok (.aload_n 0, 1) := by decide +kernel
theorem dX4_refundsAnew_1 : decode cX4_refundsAnew 1 = .ok (.aload_n 0, 1) := by decide +kernel
theorem dX4_refundsAnew_2 : decode cX4_refundsAnew 2 = .ok (.iload_n 1, 1) := by decide +kernel
theorem dX4_refundsAnew_3 : decode cX4_refundsAnew 3 = .ok (.iconst 0, 1) := by decide +kernel
theorem dX4_refundsAnew_4 : decode cX4_refundsAnew 4 = .ok (.bipush 9, 2) := by decide +kernel
theorem dX4_refundsAnew_6 : decode cX4_refundsAnew 6 = .ok (.invokevirtual 80, 3) := by decide +kernel
theorem dX4_refundsAnew_9 : decode cX4_refundsAnew 9 = .ok (.ifCond .eq 7, 3) := by decide +kernel
theorem dX4_refundsAnew_12 : decode cX4_refundsAnew 12 = .ok (.iconst 0, 1) := by decide +kernel
theorem dX4_refundsAnew_13 : decode cX4_refundsAnew 13 = .ok (.goto 4, 3) := by decide +kernel
theorem dX4_refundsAnew_16 : decode cX4_refundsAnew 16 = .ok (.iconst 1, 1) := by decide +kernel
theorem dX4_refundsAnew_17 : decode cX4_refundsAnew 17 = .ok (.invokevirtual 87, 3) := by decide +kernel
theorem dX4_refundsAnew_20 : decode cX4_refundsAnew 20 = .ok (.ifCond .eq 7, 3) := by decide +kernel
theorem dX4_refundsAnew_23 : decode cX4_refundsAnew 23 = .ok (.iconst (-1), 1) := by decide +kernel
theorem dX4_refundsAnew_24 : decode cX4_refundsAnew 24 = .ok (.goto 9, 3) := by decide +kernel
theorem dX4_refundsAnew_27 : decode cX4_refundsAnew 27 = .ok (.aload_n 0, 1) := by decide +kernel
theorem dX4_refundsAnew_28 : decode cX4_refundsAnew 28 = .ok (.getfield 67, 3) := by decide +kernel
theorem dX4_refundsAnew_31 : decode cX4_refundsAnew 31 = .ok (.iload_n 1, 1) := by decide +kernel
theorem dX4_refundsAnew_32 : decode cX4_refundsAnew 32 = .ok (.iaload, 1) := by decide +kernel
theorem dX4_refundsAnew_33 : decode cX4_refundsAnew 33 = .ok (.ireturn, 1) := by decide +kernel
theorem dX4_debt_0 : decode cX4_debt 0 = .ok (.aload_n 0, 1) := by decide +kernel
theorem dX4_debt_1 : decode cX4_debt 1 = .ok (.aload_n 0, 1) := by decide +kernel
theorem dX4_debt_2 : decode cX4_debt 2 = .ok (.iload_n 1, 1) := by decide +kernel
theorem dX4_debt_3 : decode cX4_debt 3 = .ok (.iconst 0, 1) := by decide +kernel
theorem dX4_debt_4 : decode cX4_debt 4 = .ok (.iconst 4, 1) := by decide +kernel
theorem dX4_debt_5 : decode cX4_debt 5 = .ok (.invokevirtual 80, 3) := by decide +kernel
theorem dX4_debt_8 : decode cX4_debt 8 = .ok (.ifCond .eq 7, 3) := by decide +kernel
theorem dX4_debt_11 : decode cX4_debt 11 = .ok (.iconst 0, 1) := by decide +kernel
theorem dX4_debt_12 : decode cX4_debt 12 = .ok (.goto 4, 3) := by decide +kernel
theorem dX4_debt_15 : decode cX4_debt 15 = .ok (.iconst 1, 1) := by decide +kernel
theorem dX4_debt_16 : decode cX4_debt 16 = .ok (.invokevirtual 87, 3) := by decide +kernel
theorem dX4_debt_19 : decode cX4_debt 19 = .ok (.ifCond .eq 5, 3) := by decide +kernel
theorem dX4_debt_22 : decode cX4_debt 22 = .ok (.iconst (-1), 1) := by decide +kernel
theorem dX4_debt_23 : decode cX4_debt 23 = .ok (.ireturn, 1) := by decide +kernel
theorem dX4_debt_24 : decode cX4_debt 24 = .ok (.iconst 0, 1) := by decide +kernel
theorem dX4_debt_25 : decode cX4_debt 25 = .ok (.istore_n 2, 1) := by decide +kernel
theorem dX4_debt_26 : decode cX4_debt 26 = .ok (.iconst 0, 1) := by decide +kernel
theorem dX4_debt_27 : decode cX4_debt 27 = .ok (.istore_n 3, 1) := by decide +kernel
theorem dX4_debt_28 : decode cX4_debt 28 = .ok (.iload_n 3, 1) := by decide +kernel
theorem dX4_debt_29 : decode cX4_debt 29 = .ok (.aload_n 0, 1) := by decide +kernel
theorem dX4_debt_30 : decode cX4_debt 30 = .ok (.getfield 77, 3) := by decide +kernel
theorem dX4_debt_33 : decode cX4_debt 33 = .ok (.if_icmp .ge 42, 3) := by decide +kernel
theorem dX4_debt_36 : decode cX4_debt 36 = .ok (.iload_n 2, 1) := by decide +kernel
theorem dX4_debt_37 : decode cX4_debt 37 = .ok (.aload_n 0, 1) := by decide +kernel
theorem dX4_debt_38 : decode cX4_debt 38 = .ok (.getfield 13, 3) := by decide +kernel
theorem dX4_debt_41 : decode cX4_debt 41 = .ok (.iload_n 3, 1) := by decide +kernel
theorem dX4_debt_42 : decode cX4_debt 42 = .ok (.iaload, 1) := by decide +kernel
theorem dX4_debt_43 : decode cX4_debt 43 = .ok (.iload_n 1, 1) := by decide +kernel
theorem dX4_debt_44 : decode cX4_debt 44 = .ok (.if_icmp .ne 22, 3) := by decide +kernel
theorem dX4_debt_47 : decode cX4_debt 47 = .ok (.aload_n 0, 1) := by decide +kernel
theorem dX4_debt_48 : decode cX4_debt 48 = .ok (.getfield 28, 3) := by decide +kernel
theorem dX4_debt_51 : decode cX4_debt 51 = .ok (.iload_n 3, 1) := by decide +kernel
theorem dX4_debt_52 : decode cX4_debt 52 = .ok (.iaload, 1) := by decide +kernel
theorem dX4_debt_53 : decode cX4_debt 53 = .ok (.iconst 4, 1) := by decide +kernel
theorem dX4_debt_54 : decode cX4_debt 54 = .ok (.if_icmp .eq 12, 3) := by decide +kernel
theorem dX4_debt_57 : decode cX4_debt 57 = .ok (.aload_n 0, 1) := by decide +kernel
theorem dX4_debt_58 : decode cX4_debt 58 = .ok (.getfield 22, 3) := by decide +kernel
theorem dX4_debt_61 : decode cX4_debt 61 = .ok (.iload_n 3, 1) := by decide +kernel
theorem dX4_debt_62 : decode cX4_debt 62 = .ok (.iaload, 1) := by decide +kernel
theorem dX4_debt_63 : decode cX4_debt 63 = .ok (.goto 4, 3) := by decide +kernel
theorem dX4_debt_66 : decode cX4_debt 66 = .ok (.iconst 0, 1) := by decide +kernel
theorem dX4_debt_67 : decode cX4_debt 67 = .ok (.iadd, 1) := by decide +kernel
theorem dX4_debt_68 : decode cX4_debt 68 = .ok (.istore_n 2, 1) := by decide +kernel
theorem dX4_debt_69 : decode cX4_debt 69 = .ok (.iinc 3 1, 3) := by decide +kernel
theorem dX4_debt_72 : decode cX4_debt 72 = .ok (.goto (-44), 3) := by decide +kernel
theorem dX4_debt_75 : decode cX4_debt 75 = .ok (.iload_n 2, 1) := by decide +kernel
theorem dX4_debt_76 : decode cX4_debt 76 = .ok (.ireturn, 1) := by decide +kernel
