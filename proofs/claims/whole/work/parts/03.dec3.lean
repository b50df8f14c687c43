theorem dX11_judge_46 : decode cX11_judge 46 = .ok (.aload_n 0, 1) := by decide +kernel
theorem dX11_judge_47 : decode cX11_judge 47 = .ok (.getfield 16, 3) := by decide +kernel
theorem dX11_judge_50 : decode cX11_judge 50 = .ok (.invokestatic 60, 3) := by decide +kernel
theorem dX11_judge_53 : decode cX11_judge 53 = .ok (.aload_n 0, 1) := by decide +kernel
theorem dX11_judge_54 : decode cX11_judge 54 = .ok (.iload_n 1, 1) := by decide +kernel
theorem dX11_judge_55 : decode cX11_judge 55 = .ok (.invokevirtual 274, 3) := by decide +kernel
theorem dX11_judge_58 : decode cX11_judge 58 = .ok (.istore_n 3, 1) := by decide +kernel
theorem dX11_judge_59 : decode cX11_judge 59 = .ok (.iload_n 3, 1) := by decide +kernel
theorem dX11_judge_60 : decode cX11_judge 60 = .ok (.aload_n 0, 1) := by decide +kernel
theorem dX11_judge_61 : decode cX11_judge 61 = .ok (.getfield 50, 3) := by decide +kernel
theorem dX11_judge_64 : decode cX11_judge 64 = .ok (.iload_n 1, 1) := by decide +kernel
theorem dX11_judge_65 : decode cX11_judge 65 = .ok (.iaload, 1) := by decide +kernel
theorem dX11_judge_66 : decode cX11_judge 66 = .ok (.if_icmp .ne 7, 3) := by decide +kernel
theorem dX11_judge_69 : decode cX11_judge 69 = .ok (.iconst 0, 1) := by decide +kernel
theorem dX11_judge_70 : decode cX11_judge 70 = .ok (.goto 18, 3) := by decide +kernel
theorem dX11_judge_73 : decode cX11_judge 73 = .ok (.aload_n 0, 1) := by decide +kernel
theorem dX11_judge_74 : decode cX11_judge 74 = .ok (.aload_n 0, 1) := by decide +kernel
theorem dX11_judge_75 : decode cX11_judge 75 = .ok (.getfield 53, 3) := by decide +kernel
theorem dX11_judge_78 : decode cX11_judge 78 = .ok (.bipush 30, 2) := by decide +kernel
theorem dX11_judge_80 : decode cX11_judge 80 = .ok (.iload_n 1, 1) := by decide +kernel
theorem dX11_judge_81 : decode cX11_judge 81 = .ok (.imul, 1) := by decide +kernel
theorem dX11_judge_82 : decode cX11_judge 82 = .ok (.iload_n 3, 1) := by decide +kernel
theorem dX11_judge_83 : decode cX11_judge 83 = .ok (.iadd, 1) := by decide +kernel
theorem dX11_judge_84 : decode cX11_judge 84 = .ok (.laload, 1) := by decide +kernel
theorem dX11_judge_85 : decode cX11_judge 85 = .ok (.invokevirtual 267, 3) := by decide +kernel
theorem dX11_judge_88 : decode cX11_judge 88 = .ok (.istore 4, 2) := by decide +kernel
theorem dX11_judge_90 : decode cX11_judge 90 = .ok (.aload_n 0, 1) := by decide +kernel
theorem dX11_judge_91 : decode cX11_judge 91 = .ok (.invokevirtual 277, 3) := by decide +kernel
theorem dX11_judge_94 : decode cX11_judge 94 = .ok (.istore 5, 2) := by decide +kernel
theorem dX11_judge_96 : decode cX11_judge 96 = .ok (.aload_n 0, 1) := by decide +kernel
theorem dX11_judge_97 : decode cX11_judge 97 = .ok (.getfield 16, 3) := by decide +kernel
theorem dX11_judge_100 : decode cX11_judge 100 = .ok (.aload_n 0, 1) := by decide +kernel
theorem dX11_judge_101 : decode cX11_judge 101 = .ok (.getfield 9, 3) := by decide +kernel
theorem dX11_judge_104 : decode cX11_judge 104 = .ok (.invokestatic 60, 3) := by decide +kernel
theorem dX11_judge_107 : decode cX11_judge 107 = .ok (.iload_n 2, 1) := by decide +kernel
theorem dX11_judge_108 : decode cX11_judge 108 = .ok (.ifCond .ne 16, 3) := by decide +kernel
theorem dX11_judge_111 : decode cX11_judge 111 = .ok (.iload 4, 2) := by decide +kernel
theorem dX11_judge_113 : decode cX11_judge 113 = .ok (.ifCond .ne 7, 3) := by decide +kernel
theorem dX11_judge_116 : decode cX11_judge 116 = .ok (.iconst (-1), 1) := by decide +kernel
theorem dX11_judge_117 : decode cX11_judge 117 = .ok (.goto 19, 3) := by decide +kernel
theorem dX11_judge_120 : decode cX11_judge 120 = .ok (.iload_n 3, 1) := by decide +kernel
theorem dX11_judge_121 : decode cX11_judge 121 = .ok (.goto 15, 3) := by decide +kernel
theorem dX11_judge_124 : decode cX11_judge 124 = .ok (.iload_n 2, 1) := by decide +kernel
theorem dX11_judge_125 : decode cX11_judge 125 = .ok (.iconst 1, 1) := by decide +kernel
theorem dX11_judge_126 : decode cX11_judge 126 = .ok (.if_icmp .ne 8, 3) := by decide +kernel
theorem dX11_judge_129 : decode cX11_judge 129 = .ok (.iload 4, 2) := by decide +kernel
theorem dX11_judge_131 : decode cX11_judge 131 = .ok (.goto 5, 3) := by decide +kernel
theorem dX11_judge_134 : decode cX11_judge 134 = .ok (.iload 5, 2) := by decide +kernel
theorem dX11_judge_136 : decode cX11_judge 136 = .ok (.ireturn, 1) := by decide +kernel
theorem dX11_perform_0 : decode cX11_perform 0 = .ok (.aload_n 0, 1) := by decide +kernel
theorem dX11_perform_1 : decode cX11_perform 1 = .ok (.aload_n 0, 1) := by decide +kernel
theorem dX11_perform_2 : decode cX11_perform 2 = .ok (.iload_n 1, 1) := by decide +kernel
theorem dX11_perform_3 : decode cX11_perform 3 = .ok (.invokevirtual 271, 3) := by decide +kernel
theorem dX11_perform_6 : decode cX11_perform 6 = .ok (.putfield 64, 3) := by decide +kernel
theorem dX11_perform_9 : decode cX11_perform 9 = .ok (.aload_n 0, 1) := by decide +kernel
theorem dX11_perform_10 : decode cX11_perform 10 = .ok (.getfield 64, 3) := by decide +kernel
theorem dX11_perform_13 : decode cX11_perform 13 = .ok (.ifCond .le 7, 3) := by decide +kernel
theorem dX11_perform_16 : decode cX11_perform 16 = .ok (.iconst 0, 1) := by decide +kernel
theorem dX11_perform_17 : decode cX11_perform 17 = .ok (.goto 8, 3) := by decide +kernel
theorem dX11_perform_20 : decode cX11_perform 20 = .ok (.aload_n 0, 1) := by decide +kernel
theorem dX11_perform_21 : decode cX11_perform 21 = .ok (.iload_n 1, 1) := by decide +kernel
theorem dX11_perform_22 : decode cX11_perform 22 = .ok (.invokevirtual 274, 3) := by decide +kernel
theorem dX11_perform_25 : decode cX11_perform 25 = .ok (.ireturn, 1) := by decide +kernel
theorem dX11_laysPrices_0 : decode cX11_laysPrices 0 = .ok (.aload_n 0, 1) := by decide +kernel
theorem dX11_laysPrices_1 : decode cX11_laysPrices 1 = .ok (.iconst 1, 1) := by decide +kernel
theorem dX11_laysPrices_2 : decode cX11_laysPrices 2 = .ok (.putfield 280, 3) := by decide +kernel
theorem dX11_laysPrices_5 : decode cX11_laysPrices 5 = .ok (.aload_n 0, 1) := by decide +kernel
theorem dX11_laysPrices_6 : decode cX11_laysPrices 6 = .ok (.getfield 36, 3) := by decide +kernel
theorem dX11_laysPrices_9 : decode cX11_laysPrices 9 = .ok (.iconst 0, 1) := by decide +kernel
theorem dX11_laysPrices_10 : decode cX11_laysPrices 10 = .ok (.lconst 1, 1) := by decide +kernel
theorem dX11_laysPrices_11 : decode cX11_laysPrices 11 = .ok (.lastore, 1) := by decide +kernel
theorem dX11_laysPrices_12 : decode cX11_laysPrices 12 = .ok (.iconst 0, 1) := by decide +kernel
theorem dX11_laysPrices_13 : decode cX11_laysPrices 13 = .ok (.istore_n 2, 1) := by decide +kernel
theorem dX11_laysPrices_14 : decode cX11_laysPrices 14 = .ok (.iload_n 2, 1) := by decide +kernel
theorem dX11_laysPrices_15 : decode cX11_laysPrices 15 = .ok (.aload_n 0, 1) := by decide +kernel
theorem dX11_laysPrices_16 : decode cX11_laysPrices 16 = .ok (.invokevirtual 193, 3) := by decide +kernel
theorem dX11_laysPrices_19 : decode cX11_laysPrices 19 = .ok (.if_icmp .ge 92, 3) := by decide +kernel
theorem dX11_laysPrices_22 : decode cX11_laysPrices 22 = .ok (.aload_n 0, 1) := by decide +kernel
theorem dX11_laysPrices_23 : decode cX11_laysPrices 23 = .ok (.getfield 280, 3) := by decide +kernel
theorem dX11_laysPrices_26 : decode cX11_laysPrices 26 = .ok (.istore_n 3, 1) := by decide +kernel
theorem dX11_laysPrices_27 : decode cX11_laysPrices 27 = .ok (.lconst 1, 1) := by decide +kernel
theorem dX11_laysPrices_28 : decode cX11_laysPrices 28 = .ok (.lstore 4, 2) := by decide +kernel
theorem dX11_laysPrices_30 : decode cX11_laysPrices 30 = .ok (.iconst 0, 1) := by decide +kernel
theorem dX11_laysPrices_31 : decode cX11_laysPrices 31 = .ok (.istore 6, 2) := by decide +kernel
theorem dX11_laysPrices_33 : decode cX11_laysPrices 33 = .ok (.iload 6, 2) := by decide +kernel
theorem dX11_laysPrices_35 : decode cX11_laysPrices 35 = .ok (.aload_n 0, 1) := by decide +kernel
theorem dX11_laysPrices_36 : decode cX11_laysPrices 36 = .ok (.iload_n 1, 1) := by decide +kernel
theorem dX11_laysPrices_37 : decode cX11_laysPrices 37 = .ok (.iload_n 2, 1) := by decide +kernel
theorem dX11_laysPrices_38 : decode cX11_laysPrices 38 = .ok (.invokevirtual 196, 3) := by decide +kernel
theorem dX11_laysPrices_41 : decode cX11_laysPrices 41 = .ok (.if_icmp .ge 64, 3) := by decide +kernel
theorem dX11_laysPrices_44 : decode cX11_laysPrices 44 = .ok (.lload 4, 2) := by decide +kernel
theorem dX11_laysPrices_46 : decode cX11_laysPrices 46 = .ok (.aload_n 0, 1) := by decide +kernel
theorem dX11_laysPrices_47 : decode cX11_laysPrices 47 = .ok (.iload_n 2, 1) := by decide +kernel
theorem dX11_laysPrices_48 : decode cX11_laysPrices 48 = .ok (.invokevirtual 200, 3) := by decide +kernel
theorem dX11_laysPrices_51 : decode cX11_laysPrices 51 = .ok (.i2l, 1) := by decide +kernel
theorem dX11_laysPrices_52 : decode cX11_laysPrices 52 = .ok (.lmul, 1) := by decide +kernel
theorem dX11_laysPrices_53 : decode cX11_laysPrices 53 = .ok (.lstore 4, 2) := by decide +kernel
theorem dX11_laysPrices_55 : decode cX11_laysPrices 55 = .ok (.iconst 0, 1) := by decide +kernel
theorem dX11_laysPrices_56 : decode cX11_laysPrices 56 = .ok (.istore 7, 2) := by decide +kernel
theorem dX11_laysPrices_58 : decode cX11_laysPrices 58 = .ok (.iload 7, 2) := by decide +kernel
theorem dX11_laysPrices_60 : decode cX11_laysPrices 60 = .ok (.iload_n 3, 1) := by decide +kernel
theorem dX11_laysPrices_61 : decode cX11_laysPrices 61 = .ok (.if_icmp .ge 38, 3) := by decide +kernel
theorem dX11_laysPrices_64 : decode cX11_laysPrices 64 = .ok (.aload_n 0, 1) := by decide +kernel
theorem dX11_laysPrices_65 : decode cX11_laysPrices 65 = .ok (.getfield 36, 3) := by decide +kernel
theorem dX11_laysPrices_68 : decode cX11_laysPrices 68 = .ok (.aload_n 0, 1) := by decide +kernel
theorem dX11_laysPrices_69 : decode cX11_laysPrices 69 = .ok (.getfield 280, 3) := by decide +kernel
theorem dX11_laysPrices_72 : decode cX11_laysPrices 72 = .ok (.aload_n 0, 1) := by decide +kernel
theorem dX11_laysPrices_73 : decode cX11_laysPrices 73 = .ok (.getfield 36, 3) := by decide +kernel
theorem dX11_laysPrices_76 : decode cX11_laysPrices 76 = .ok (.iload 7, 2) := by decide +kernel
theorem dX11_laysPrices_78 : decode cX11_laysPrices 78 = .ok (.laload, 1) := by decide +kernel
theorem dX11_laysPrices_79 : decode cX11_laysPrices 79 = .ok (.lload 4, 2) := by decide +kernel
theorem dX11_laysPrices_81 : decode cX11_laysPrices 81 = .ok (.lmul, 1) := by decide +kernel
theorem dX11_laysPrices_82 : decode cX11_laysPrices 82 = .ok (.lastore, 1) := by decide +kernel
theorem dX11_laysPrices_83 : decode cX11_laysPrices 83 = .ok (.aload_n 0, 1) := by decide +kernel
theorem dX11_laysPrices_84 : decode cX11_laysPrices 84 = .ok (.dup, 1) := by decide +kernel
theorem dX11_laysPrices_85 : decode cX11_laysPrices 85 = .ok (.getfield 280, 3) := by decide +kernel
theorem dX11_laysPrices_88 : decode cX11_laysPrices 88 = .ok (.iconst 1, 1) := by decide +kernel
theorem dX11_laysPrices_89 : decode cX11_laysPrices 89 = .ok (.iadd, 1) := by decide +kernel
theorem dX11_laysPrices_90 : decode cX11_laysPrices 90 = .ok (.putfield 280, 3) := by decide +kernel
theorem dX11_laysPrices_93 : decode cX11_laysPrices 93 = .ok (.iinc 7 1, 3) := by decide +kernel
theorem dX11_laysPrices_96 : decode cX11_laysPrices 96 = .ok (.goto (-38), 3) := by decide +kernel
theorem dX11_laysPrices_99 : decode cX11_laysPrices 99 = .ok (.iinc 6 1, 3) := by decide +kernel
theorem dX11_laysPrices_102 : decode cX11_laysPrices 102 = .ok (.goto (-69), 3) := by decide +kernel
theorem dX11_laysPrices_105 : decode cX11_laysPrices 105 = .ok (.iinc 2 1, 3) := by decide +kernel
theorem dX11_laysPrices_108 : decode cX11_laysPrices 108 = .ok (.goto (-94), 3) := by decide +kernel
theorem dX11_laysPrices_111 : decode cX11_laysPrices 111 = .ok (.iconst 1, 1) := by decide +kernel
theorem dX11_laysPrices_112 : decode cX11_laysPrices 112 = .ok (.istore_n 2, 1) := by decide +kernel
theorem dX11_laysPrices_113 : decode cX11_laysPrices 113 = .ok (.iload_n 2, 1) := by decide +kernel
theorem dX11_laysPrices_114 : decode cX11_laysPrices 114 = .ok (.aload_n 0, 1) := by decide +kernel
theorem dX11_laysPrices_115 : decode cX11_laysPrices 115 = .ok (.getfield 280, 3) := by decide +kernel
theorem dX11_laysPrices_118 : decode cX11_laysPrices 118 = .ok (.if_icmp .ge 68, 3) := by decide +kernel
theorem dX11_laysPrices_121 : decode cX11_laysPrices 121 = .ok (.aload_n 0, 1) := by decide +kernel
theorem dX11_laysPrices_122 : decode cX11_laysPrices 122 = .ok (.getfield 36, 3) := by decide +kernel
theorem dX11_laysPrices_125 : decode cX11_laysPrices 125 = .ok (.iload_n 2, 1) := by decide +kernel
theorem dX11_laysPrices_126 : decode cX11_laysPrices 126 = .ok (.laload, 1) := by decide +kernel
theorem dX11_laysPrices_127 : decode cX11_laysPrices 127 = .ok (.lstore_n 3, 1) := by decide +kernel
theorem dX11_laysPrices_128 : decode cX11_laysPrices 128 = .ok (.iload_n 2, 1) := by decide +kernel
theorem dX11_laysPrices_129 : decode cX11_laysPrices 129 = .ok (.istore 5, 2) := by decide +kernel
theorem dX11_laysPrices_131 : decode cX11_laysPrices 131 = .ok (.iload 5, 2) := by decide +kernel
theorem dX11_laysPrices_133 : decode cX11_laysPrices 133 = .ok (.ifCond .le 39, 3) := by decide +kernel
theorem dX11_laysPrices_136 : decode cX11_laysPrices 136 = .ok (.aload_n 0, 1) := by decide +kernel
theorem dX11_laysPrices_137 : decode cX11_laysPrices 137 = .ok (.getfield 36, 3) := by decide +kernel
theorem dX11_laysPrices_140 : decode cX11_laysPrices 140 = .ok (.iload 5, 2) := by decide +kernel
theorem dX11_laysPrices_142 : decode cX11_laysPrices 142 = .ok (.iconst 1, 1) := by decide +kernel
theorem dX11_laysPrices_143 : decode cX11_laysPrices 143 = .ok (.isub, 1) := by decide +kernel
theorem dX11_laysPrices_144 : decode cX11_laysPrices 144 = .ok (.laload, 1) := by decide +kernel
theorem dX11_laysPrices_145 : decode cX11_laysPrices 145 = .ok (.lload_n 3, 1) := by decide +kernel
theorem dX11_laysPrices_146 : decode cX11_laysPrices 146 = .ok (.lcmp, 1) := by decide +kernel
theorem dX11_laysPrices_147 : decode cX11_laysPrices 147 = .ok (.ifCond .le 25, 3) := by decide +kernel
theorem dX11_laysPrices_150 : decode cX11_laysPrices 150 = .ok (.aload_n 0, 1) := by decide +kernel
theorem dX11_laysPrices_151 : decode cX11_laysPrices 151 = .ok (.getfield 36, 3) := by decide +kernel
theorem dX11_laysPrices_154 : decode cX11_laysPrices 154 = .ok (.iload 5, 2) := by decide +kernel
theorem dX11_laysPrices_156 : decode cX11_laysPrices 156 = .ok (.aload_n 0, 1) := by decide +kernel
theorem dX11_laysPrices_157 : decode cX11_laysPrices 157 = .ok (.getfield 36, 3) := by decide +kernel
theorem dX11_laysPrices_160 : decode cX11_laysPrices 160 = .ok (.iload 5, 2) := by decide +kernel
theorem dX11_laysPrices_162 : decode cX11_laysPrices 162 = .ok (.iconst 1, 1) := by decide +kernel
theorem dX11_laysPrices_163 : decode cX11_laysPrices 163 = .ok (.isub, 1) := by decide +kernel
theorem dX11_laysPrices_164 : decode cX11_laysPrices 164 = .ok (.laload, 1) := by decide +kernel
theorem dX11_laysPrices_165 : decode cX11_laysPrices 165 = .ok (.lastore, 1) := by decide +kernel
theorem dX11_laysPrices_166 : decode cX11_laysPrices 166 = .ok (.iinc 5 (-1), 3) := by decide +kernel
theorem dX11_laysPrices_169 : decode cX11_laysPrices 169 = .ok (.goto (-38), 3) := by decide +kernel
theorem dX11_laysPrices_172 : decode cX11_laysPrices 172 = .ok (.aload_n 0, 1) := by decide +kernel
theorem dX11_laysPrices_173 : decode cX11_laysPrices 173 = .ok (.getfield 36, 3) := by decide +kernel
theorem dX11_laysPrices_176 : decode cX11_laysPrices 176 = .ok (.iload 5, 2) := by decide +kernel
theorem dX11_laysPrices_178 : decode cX11_laysPrices 178 = .ok (.lload_n 3, 1) := by decide +kernel
theorem dX11_laysPrices_179 : decode cX11_laysPrices 179 = .ok (.lastore, 1) := by decide +kernel
theorem dX11_laysPrices_180 : decode cX11_laysPrices 180 = .ok (.iinc 2 1, 3) := by decide +kernel
theorem dX11_laysPrices_183 : decode cX11_laysPrices 183 = .ok (.goto (-70), 3) := by decide +kernel
theorem dX11_laysPrices_186 : decode cX11_laysPrices 186 = .ok (.return_, 1) := by decide +kernel
theorem dX11_prices_0 : decode cX11_prices 0 = .ok (.aload_n 0, 1) := by decide +kernel
theorem dX11_prices_1 : decode cX11_prices 1 = .ok (.iconst 0, 1) := by decide +kernel
theorem dX11_prices_2 : decode cX11_prices 2 = .ok (.putfield 64, 3) := by decide +kernel
theorem dX11_prices_5 : decode cX11_prices 5 = .ok (.aload_n 0, 1) := by decide +kernel
theorem dX11_prices_6 : decode cX11_prices 6 = .ok (.iload_n 1, 1) := by decide +kernel
theorem dX11_prices_7 : decode cX11_prices 7 = .ok (.i2l, 1) := by decide +kernel
theorem dX11_prices_8 : decode cX11_prices 8 = .ok (.invokevirtual 203, 3) := by decide +kernel
theorem dX11_prices_11 : decode cX11_prices 11 = .ok (.ifCond .ne 9, 3) := by decide +kernel
theorem dX11_prices_14 : decode cX11_prices 14 = .ok (.aload_n 0, 1) := by decide +kernel
theorem dX11_prices_15 : decode cX11_prices 15 = .ok (.iconst 1, 1) := by decide +kernel
theorem dX11_prices_16 : decode cX11_prices 16 = .ok (.invokevirtual 178, 3) := by decide +kernel
theorem dX11_prices_19 : decode cX11_prices 19 = .ok (.ireturn, 1) := by decide +kernel
theorem dX11_prices_20 : decode cX11_prices 20 = .ok (.aload_n 0, 1) := by decide +kernel
theorem dX11_prices_21 : decode cX11_prices 21 = .ok (.iload_n 1, 1) := by decide +kernel
theorem dX11_prices_22 : decode cX11_prices 22 = .ok (.invokevirtual 283, 3) := by decide +kernel
theorem dX11_prices_25 : decode cX11_prices 25 = .ok (.aload_n 0, 1) := by decide +kernel
theorem dX11_prices_26 : decode cX11_prices 26 = .ok (.getfield 280, 3) := by decide +kernel
theorem dX11_prices_29 : decode cX11_prices 29 = .ok (.ireturn, 1) := by decide +kernel
theorem dX11_price_0 : decode cX11_price 0 = .ok (.aload_n 0, 1) := by decide +kernel
theorem dX11_price_1 : decode cX11_price 1 = .ok (.iconst 0, 1) := by decide +kernel
theorem dX11_price_2 : decode cX11_price 2 = .ok (.putfield 64, 3) := by decide +kernel
theorem dX11_price_5 : decode cX11_price 5 = .ok (.aload_n 0, 1) := by decide +kernel
theorem dX11_price_6 : decode cX11_price 6 = .ok (.iload_n 1, 1) := by decide +kernel
theorem dX11_price_7 : decode cX11_price 7 = .ok (.i2l, 1) := by decide +kernel
theorem dX11_price_8 : decode cX11_price 8 = .ok (.invokevirtual 203, 3) := by decide +kernel
theorem dX11_price_11 : decode cX11_price 11 = .ok (.ifCond .ne 10, 3) := by decide +kernel
theorem dX11_price_14 : decode cX11_price 14 = .ok (.aload_n 0, 1) := by decide +kernel
theorem dX11_price_15 : decode cX11_price 15 = .ok (.iconst 1, 1) := by decide +kernel
theorem dX11_price_16 : decode cX11_price 16 = .ok (.invokevirtual 178, 3) := by decide +kernel
theorem dX11_price_19 : decode cX11_price 19 = .ok (.i2l, 1) := by decide +kernel
theorem dX11_price_20 : decode cX11_price 20 = .ok (.lreturn, 1) := by decide +kernel
theorem dX11_price_21 : decode cX11_price 21 = .ok (.aload_n 0, 1) := by decide +kernel
theorem dX11_price_22 : decode cX11_price 22 = .ok (.iload_n 1, 1) := by decide +kernel
theorem dX11_price_23 : decode cX11_price 23 = .ok (.invokevirtual 283, 3) := by decide +kernel
theorem dX11_price_26 : decode cX11_price 26 = .ok (.iload_n 2, 1) := by decide +kernel
theorem dX11_price_27 : decode cX11_price 27 = .ok (.i2l, 1) := by decide +kernel
theorem dX11_price_28 : decode cX11_price 28 = .ok (.lconst 0, 1) := by decide +kernel
theorem dX11_price_29 : decode cX11_price 29 = .ok (.aload_n 0, 1) := by decide +kernel
theorem dX11_price_30 : decode cX11_price 30 = .ok (.getfield 280, 3) := by decide +kernel
theorem dX11_price_33 : decode cX11_price 33 = .ok (.iconst 1, 1) := by decide +kernel
theorem dX11_price_34 : decode cX11_price 34 = .ok (.isub, 1) := by decide +kernel
theorem dX11_price_35 : decode cX11_price 35 = .ok (.i2l, 1) := by decide +kernel
theorem dX11_price_36 : decode cX11_price 36 = .ok (.invokestatic 133, 3) := by decide +kernel
theorem dX11_price_39 : decode cX11_price 39 = .ok (.ifCond .eq 12, 3) := by decide +kernel
theorem dX11_price_42 : decode cX11_price 42 = .ok (.aload_n 0, 1) := by decide +kernel
theorem dX11_price_43 : decode cX11_price 43 = .ok (.getfield 36, 3) := by decide +kernel
theorem dX11_price_46 : decode cX11_price 46 = .ok (.iload_n 2, 1) := by decide +kernel
theorem dX11_price_47 : decode cX11_price 47 = .ok (.laload, 1) := by decide +kernel
theorem dX11_price_48 : decode cX11_price 48 = .ok (.goto 6, 3) := by decide +kernel
theorem dX11_price_51 : decode cX11_price 51 = .ok (.ldc2_w 286, 3) := by decide +kernel
theorem dX11_price_54 : decode cX11_price 54 = .ok (.lreturn, 1) := by decide +kernel
theorem dX11_gap_0 : decode cX11_gap 0 = .ok (.aload_n 0, 1) := by decide +kernel
theorem dX11_gap_1 : decode cX11_gap 1 = .ok (.iconst 0, 1) := by decide +kernel
theorem dX11_gap_2 : decode cX11_gap 2 = .ok (.putfield 64, 3) := by decide +kernel
theorem dX11_gap_5 : decode cX11_gap 5 = .ok (.aload_n 0, 1) := by decide +kernel
theorem dX11_gap_6 : decode cX11_gap 6 = .ok (.iload_n 1, 1) := by decide +kernel
theorem dX11_gap_7 : decode cX11_gap 7 = .ok (.i2l, 1) := by decide +kernel
theorem dX11_gap_8 : decode cX11_gap 8 = .ok (.invokevirtual 203, 3) := by decide +kernel
theorem dX11_gap_11 : decode cX11_gap 11 = .ok (.ifCond .ne 10, 3) := by decide +kernel
theorem dX11_gap_14 : decode cX11_gap 14 = .ok (.aload_n 0, 1) := by decide +kernel
theorem dX11_gap_15 : decode cX11_gap 15 = .ok (.iconst 1, 1) := by decide +kernel
theorem dX11_gap_16 : decode cX11_gap 16 = .ok (.invokevirtual 178, 3) := by decide +kernel
theorem dX11_gap_19 : decode cX11_gap 19 = .ok (.i2l, 1) := by decide +kernel
theorem dX11_gap_20 : decode cX11_gap 20 = .ok (.lreturn, 1) := by decide +kernel
theorem dX11_gap_21 : decode cX11_gap 21 = .ok (.aload_n 0, 1) := by decide +kernel
theorem dX11_gap_22 : decode cX11_gap 22 = .ok (.iload_n 1, 1) := by decide +kernel
theorem dX11_gap_23 : decode cX11_gap 23 = .ok (.invokevirtual 283, 3) := by decide +kernel
theorem dX11_gap_26 : decode cX11_gap 26 = .ok (.lconst 0, 1) := by decide +kernel
theorem dX11_gap_27 : decode cX11_gap 27 = .ok (.lstore_n 2, 1) := by decide +kernel
theorem dX11_gap_28 : decode cX11_gap 28 = .ok (.iconst 1, 1) := by decide +kernel
theorem dX11_gap_29 : decode cX11_gap 29 = .ok (.istore 4, 2) := by decide +kernel
theorem dX11_gap_31 : decode cX11_gap 31 = .ok (.iload 4, 2) := by decide +kernel
theorem dX11_gap_33 : decode cX11_gap 33 = .ok (.aload_n 0, 1) := by decide +kernel
theorem dX11_gap_34 : decode cX11_gap 34 = .ok (.getfield 280, 3) := by decide +kernel
theorem dX11_gap_37 : decode cX11_gap 37 = .ok (.if_icmp .ge 31, 3) := by decide +kernel
theorem dX11_gap_40 : decode cX11_gap 40 = .ok (.lload_n 2, 1) := by decide +kernel
theorem dX11_gap_41 : decode cX11_gap 41 = .ok (.aload_n 0, 1) := by decide +kernel
theorem dX11_gap_42 : decode cX11_gap 42 = .ok (.getfield 36, 3) := by decide +kernel
theorem dX11_gap_45 : decode cX11_gap 45 = .ok (.iload 4, 2) := by decide +kernel
theorem dX11_gap_47 : decode cX11_gap 47 = .ok (.laload, 1) := by decide +kernel
theorem dX11_gap_48 : decode cX11_gap 48 = .ok (.aload_n 0, 1) := by decide +kernel
theorem dX11_gap_49 : decode cX11_gap 49 = .ok (.getfield 36, 3) := by decide +kernel
theorem dX11_gap_52 : decode cX11_gap 52 = .ok (.iload 4, 2) := by decide +kernel
theorem dX11_gap_54 : decode cX11_gap 54 = .ok (.iconst 1, 1) := by decide +kernel
theorem dX11_gap_55 : decode cX11_gap 55 = .ok (.isub, 1) := by decide +kernel
theorem dX11_gap_56 : decode cX11_gap 56 = .ok (.laload, 1) := by decide +kernel
theorem dX11_gap_57 : decode cX11_gap 57 = .ok (.lsub, 1) := by decide +kernel
theorem dX11_gap_58 : decode cX11_gap 58 = .ok (.invokestatic 288, 3) := by decide +kernel
theorem dX11_gap_61 : decode cX11_gap 61 = .ok (.lstore_n 2, 1) := by decide +kernel
theorem dX11_gap_62 : decode cX11_gap 62 = .ok (.iinc 4 1, 3) := by decide +kernel
theorem dX11_gap_65 : decode cX11_gap 65 = .ok (.goto (-34), 3) := by decide +kernel
theorem dX11_gap_68 : decode cX11_gap 68 = .ok (.lload_n 2, 1) := by decide +kernel
theorem dX11_gap_69 : decode cX11_gap 69 = .ok (.lreturn, 1) := by decide +kernel
theorem dX11_nearest_0 : decode cX11_nearest 0 = .ok (.aload_n 0, 1) := by decide +kernel
theorem dX11_nearest_1 : decode cX11_nearest 1 = .ok (.iconst 0, 1) := by decide +kernel
theorem dX11_nearest_2 : decode cX11_nearest 2 = .ok (.putfield 64, 3) := by decide +kernel
theorem dX11_nearest_5 : decode cX11_nearest 5 = .ok (.aload_n 0, 1) := by decide +kernel
theorem dX11_nearest_6 : decode cX11_nearest 6 = .ok (.iload_n 1, 1) := by decide +kernel
theorem dX11_nearest_7 : decode cX11_nearest 7 = .ok (.i2l, 1) := by decide +kernel
theorem dX11_nearest_8 : decode cX11_nearest 8 = .ok (.invokevirtual 203, 3) := by decide +kernel
theorem dX11_nearest_11 : decode cX11_nearest 11 = .ok (.ifCond .ne 10, 3) := by decide +kernel
theorem dX11_nearest_14 : decode cX11_nearest 14 = .ok (.aload_n 0, 1) := by decide +kernel
theorem dX11_nearest_15 : decode cX11_nearest 15 = .ok (.iconst 1, 1) := by decide +kernel
theorem dX11_nearest_16 : decode cX11_nearest 16 = .ok (.invokevirtual 178, 3) := by decide +kernel
theorem dX11_nearest_19 : decode cX11_nearest 19 = .ok (.i2l, 1) := by decide +kernel
theorem dX11_nearest_20 : decode cX11_nearest 20 = .ok (.lreturn, 1) := by decide +kernel
theorem dX11_nearest_21 : decode cX11_nearest 21 = .ok (.aload_n 0, 1) := by decide +kernel
theorem dX11_nearest_22 : decode cX11_nearest 22 = .ok (.iload_n 1, 1) := by decide +kernel
theorem dX11_nearest_23 : decode cX11_nearest 23 = .ok (.invokevirtual 283, 3) := by decide +kernel
theorem dX11_nearest_26 : decode cX11_nearest 26 = .ok (.iconst 0, 1) := by decide +kernel
theorem dX11_nearest_27 : decode cX11_nearest 27 = .ok (.istore 4, 2) := by decide +kernel
theorem dX11_nearest_29 : decode cX11_nearest 29 = .ok (.iload 4, 2) := by decide +kernel
theorem dX11_nearest_31 : decode cX11_nearest 31 = .ok (.aload_n 0, 1) := by decide +kernel
theorem dX11_nearest_32 : decode cX11_nearest 32 = .ok (.getfield 280, 3) := by decide +kernel
theorem dX11_nearest_35 : decode cX11_nearest 35 = .ok (.if_icmp .ge 21, 3) := by decide +kernel
theorem dX11_nearest_38 : decode cX11_nearest 38 = .ok (.aload_n 0, 1) := by decide +kernel
theorem dX11_nearest_39 : decode cX11_nearest 39 = .ok (.getfield 36, 3) := by decide +kernel
theorem dX11_nearest_42 : decode cX11_nearest 42 = .ok (.iload 4, 2) := by decide +kernel
theorem dX11_nearest_44 : decode cX11_nearest 44 = .ok (.laload, 1) := by decide +kernel
theorem dX11_nearest_45 : decode cX11_nearest 45 = .ok (.lload_n 2, 1) := by decide +kernel
theorem dX11_nearest_46 : decode cX11_nearest 46 = .ok (.lcmp, 1) := by decide +kernel
theorem dX11_nearest_47 : decode cX11_nearest 47 = .ok (.ifCond .ge 9, 3) := by decide +kernel
theorem dX11_nearest_50 : decode cX11_nearest 50 = .ok (.iinc 4 1, 3) := by decide +kernel
theorem dX11_nearest_53 : decode cX11_nearest 53 = .ok (.goto (-24), 3) := by decide +kernel
theorem dX11_nearest_56 : decode cX11_nearest 56 = .ok (.iload 4, 2) := by decide +kernel
theorem dX11_nearest_58 : decode cX11_nearest 58 = .ok (.ifCond .ne 10, 3) := by decide +kernel
theorem dX11_nearest_61 : decode cX11_nearest 61 = .ok (.aload_n 0, 1) := by decide +kernel
theorem dX11_nearest_62 : decode cX11_nearest 62 = .ok (.getfield 36, 3) := by decide +kernel
theorem dX11_nearest_65 : decode cX11_nearest 65 = .ok (.iconst 0, 1) := by decide +kernel
theorem dX11_nearest_66 : decode cX11_nearest 66 = .ok (.laload, 1) := by decide +kernel
theorem dX11_nearest_67 : decode cX11_nearest 67 = .ok (.lreturn, 1) := by decide +kernel
theorem dX11_nearest_68 : decode cX11_nearest 68 = .ok (.iload 4, 2) := by decide +kernel
theorem dX11_nearest_70 : decode cX11_nearest 70 = .ok (.aload_n 0, 1) := by decide +kernel
theorem dX11_nearest_71 : decode cX11_nearest 71 = .ok (.getfield 280, 3) := by decide +kernel
theorem dX11_nearest_74 : decode cX11_nearest 74 = .ok (.if_icmp .ne 13, 3) := by decide +kernel
theorem dX11_nearest_77 : decode cX11_nearest 77 = .ok (.aload_n 0, 1) := by decide +kernel
theorem dX11_nearest_78 : decode cX11_nearest 78 = .ok (.getfield 36, 3) := by decide +kernel
theorem dX11_nearest_81 : decode cX11_nearest 81 = .ok (.iload 4, 2) := by decide +kernel
theorem dX11_nearest_83 : decode cX11_nearest 83 = .ok (.iconst 1, 1) := by decide +kernel
theorem dX11_nearest_84 : decode cX11_nearest 84 = .ok (.isub, 1) := by decide +kernel
theorem dX11_nearest_85 : decode cX11_nearest 85 = .ok (.laload, 1) := by decide +kernel
theorem dX11_nearest_86 : decode cX11_nearest 86 = .ok (.lreturn, 1) := by decide +kernel
theorem dX11_nearest_87 : decode cX11_nearest 87 = .ok (.aload_n 0, 1) := by decide +kernel
theorem dX11_nearest_88 : decode cX11_nearest 88 = .ok (.getfield 36, 3) := by decide +kernel
theorem dX11_nearest_91 : decode cX11_nearest 91 = .ok (.iload 4, 2) := by decide +kernel
theorem dX11_nearest_93 : decode cX11_nearest 93 = .ok (.laload, 1) := by decide +kernel
theorem dX11_nearest_94 : decode cX11_nearest 94 = .ok (.lload_n 2, 1) := by decide +kernel
theorem dX11_nearest_95 : decode cX11_nearest 95 = .ok (.lsub, 1) := by decide +kernel
theorem dX11_nearest_96 : decode cX11_nearest 96 = .ok (.lload_n 2, 1) := by decide +kernel
theorem dX11_nearest_97 : decode cX11_nearest 97 = .ok (.aload_n 0, 1) := by decide +kernel
theorem dX11_nearest_98 : decode cX11_nearest 98 = .ok (.getfield 36, 3) := by decide +kernel
theorem dX11_nearest_101 : decode cX11_nearest 101 = .ok (.iload 4, 2) := by decide +kernel
theorem dX11_nearest_103 : decode cX11_nearest 103 = .ok (.iconst 1, 1) := by decide +kernel
theorem dX11_nearest_104 : decode cX11_nearest 104 = .ok (.isub, 1) := by decide +kernel
theorem dX11_nearest_105 : decode cX11_nearest 105 = .ok (.laload, 1) := by decide +kernel
theorem dX11_nearest_106 : decode cX11_nearest 106 = .ok (.lsub, 1) := by decide +kernel
theorem dX11_nearest_107 : decode cX11_nearest 107 = .ok (.lcmp, 1) := by decide +kernel
theorem dX11_nearest_108 : decode cX11_nearest 108 = .ok (.ifCond .ge 13, 3) := by decide +kernel
theorem dX11_nearest_111 : decode cX11_nearest 111 = .ok (.aload_n 0, 1) := by decide +kernel
theorem dX11_nearest_112 : decode cX11_nearest 112 = .ok (.getfield 36, 3) := by decide +kernel
theorem dX11_nearest_115 : decode cX11_nearest 115 = .ok (.iload 4, 2) := by decide +kernel
theorem dX11_nearest_117 : decode cX11_nearest 117 = .ok (.laload, 1) := by decide +kernel
theorem dX11_nearest_118 : decode cX11_nearest 118 = .ok (.goto 12, 3) := by decide +kernel
theorem dX11_nearest_121 : decode cX11_nearest 121 = .ok (.aload_n 0, 1) := by decide +kernel
theorem dX11_nearest_122 : decode cX11_nearest 122 = .ok (.getfield 36, 3) := by decide +kernel
theorem dX11_nearest_125 : decode cX11_nearest 125 = .ok (.iload 4, 2) := by decide +kernel
theorem dX11_nearest_127 : decode cX11_nearest 127 = .ok (.iconst 1, 1) := by decide +kernel
theorem dX11_nearest_128 : decode cX11_nearest 128 = .ok (.isub, 1) := by decide +kernel
theorem dX11_nearest_129 : decode cX11_nearest 129 = .ok (.laload, 1) := by decide +kernel
theorem dX11_nearest_130 : decode cX11_nearest 130 = .ok (.lreturn, 1) := by decide +kernel
theorem dX11_half_0 : decode cX11_half 0 = .ok (.aload_n 0, 1) := by decide +kernel
theorem dX11_half_1 : decode cX11_half 1 = .ok (.iconst 0, 1) := by decide +kernel
theorem dX11_half_2 : decode cX11_half 2 = .ok (.putfield 64, 3) := by decide +kernel
theorem dX11_half_5 : decode cX11_half 5 = .ok (.aload_n 0, 1) := by decide +kernel
theorem dX11_half_6 : decode cX11_half 6 = .ok (.iload_n 1, 1) := by decide +kernel
theorem dX11_half_7 : decode cX11_half 7 = .ok (.i2l, 1) := by decide +kernel
theorem dX11_half_8 : decode cX11_half 8 = .ok (.invokevirtual 203, 3) := by decide +kernel
theorem dX11_half_11 : decode cX11_half 11 = .ok (.ifCond .ne 10, 3) := by decide +kernel
theorem dX11_half_14 : decode cX11_half 14 = .ok (.aload_n 0, 1) := by decide +kernel
theorem dX11_half_15 : decode cX11_half 15 = .ok (.iconst 1, 1) := by decide +kernel
theorem dX11_half_16 : decode cX11_half 16 = .ok (.invokevirtual 178, 3) := by decide +kernel
theorem dX11_half_19 : decode cX11_half 19 = .ok (.i2l, 1) := by decide +kernel
theorem dX11_half_20 : decode cX11_half 20 = .ok (.lreturn, 1) := by decide +kernel
theorem dX11_half_21 : decode cX11_half 21 = .ok (.aload_n 0, 1) := by decide +kernel
theorem dX11_half_22 : decode cX11_half 22 = .ok (.iload_n 1, 1) := by decide +kernel
theorem dX11_half_23 : decode cX11_half 23 = .ok (.invokevirtual 283, 3) := by decide +kernel
theorem dX11_half_26 : decode cX11_half 26 = .ok (.aload_n 0, 1) := by decide +kernel
theorem dX11_half_27 : decode cX11_half 27 = .ok (.iload_n 1, 1) := by decide +kernel
theorem dX11_half_28 : decode cX11_half 28 = .ok (.invokevirtual 220, 3) := by decide +kernel
theorem dX11_half_31 : decode cX11_half 31 = .ok (.lstore_n 2, 1) := by decide +kernel
theorem dX11_half_32 : decode cX11_half 32 = .ok (.lconst 1, 1) := by decide +kernel
theorem dX11_half_33 : decode cX11_half 33 = .ok (.lstore 4, 2) := by decide +kernel
theorem dX11_half_35 : decode cX11_half 35 = .ok (.iconst 0, 1) := by decide +kernel
theorem dX11_half_36 : decode cX11_half 36 = .ok (.istore 6, 2) := by decide +kernel
theorem dX11_half_38 : decode cX11_half 38 = .ok (.iload 6, 2) := by decide +kernel
theorem dX11_half_40 : decode cX11_half 40 = .ok (.aload_n 0, 1) := by decide +kernel
theorem dX11_half_41 : decode cX11_half 41 = .ok (.getfield 280, 3) := by decide +kernel
theorem dX11_half_44 : decode cX11_half 44 = .ok (.if_icmp .ge 38, 3) := by decide +kernel
theorem dX11_half_47 : decode cX11_half 47 = .ok (.aload_n 0, 1) := by decide +kernel
theorem dX11_half_48 : decode cX11_half 48 = .ok (.getfield 36, 3) := by decide +kernel
theorem dX11_half_51 : decode cX11_half 51 = .ok (.iload 6, 2) := by decide +kernel
theorem dX11_half_53 : decode cX11_half 53 = .ok (.laload, 1) := by decide +kernel
theorem dX11_half_54 : decode cX11_half 54 = .ok (.lload_n 2, 1) := by decide +kernel
theorem dX11_half_55 : decode cX11_half 55 = .ok (.aload_n 0, 1) := by decide +kernel
theorem dX11_half_56 : decode cX11_half 56 = .ok (.getfield 36, 3) := by decide +kernel
theorem dX11_half_59 : decode cX11_half 59 = .ok (.iload 6, 2) := by decide +kernel
theorem dX11_half_61 : decode cX11_half 61 = .ok (.laload, 1) := by decide +kernel
theorem dX11_half_62 : decode cX11_half 62 = .ok (.ldiv, 1) := by decide +kernel
theorem dX11_half_63 : decode cX11_half 63 = .ok (.lcmp, 1) := by decide +kernel
theorem dX11_half_64 : decode cX11_half 64 = .ok (.ifCond .gt 12, 3) := by decide +kernel
theorem dX11_half_67 : decode cX11_half 67 = .ok (.aload_n 0, 1) := by decide +kernel
theorem dX11_half_68 : decode cX11_half 68 = .ok (.getfield 36, 3) := by decide +kernel
theorem dX11_half_71 : decode cX11_half 71 = .ok (.iload 6, 2) := by decide +kernel
theorem dX11_half_73 : decode cX11_half 73 = .ok (.laload, 1) := by decide +kernel
theorem dX11_half_74 : decode cX11_half 74 = .ok (.lstore 4, 2) := by decide +kernel
theorem dX11_half_76 : decode cX11_half 76 = .ok (.iinc 6 1, 3) := by decide +kernel
theorem dX11_half_79 : decode cX11_half 79 = .ok (.goto (-41), 3) := by decide +kernel
theorem dX11_half_82 : decode cX11_half 82 = .ok (.lload 4, 2) := by decide +kernel
theorem dX11_half_84 : decode cX11_half 84 = .ok (.lreturn, 1) := by decide +kernel
theorem dX11_ten_0 : decode cX11_ten 0 = .ok (.iconst 1, 1) := by decide +kernel
theorem dX11_ten_1 : decode cX11_ten 1 = .ok (.istore_n 1, 1) := by decide +kernel
theorem dX11_ten_2 : decode cX11_ten 2 = .ok (.iconst 0, 1) := by decide +kernel
theorem dX11_ten_3 : decode cX11_ten 3 = .ok (.istore_n 2, 1) := by decide +kernel
theorem dX11_ten_4 : decode cX11_ten 4 = .ok (.iload_n 2, 1) := by decide +kernel
theorem dX11_ten_5 : decode cX11_ten 5 = .ok (.iload_n 0, 1) := by decide +kernel
theorem dX11_ten_6 : decode cX11_ten 6 = .ok (.if_icmp .ge 14, 3) := by decide +kernel
theorem dX11_ten_9 : decode cX11_ten 9 = .ok (.iload_n 1, 1) := by decide +kernel
theorem dX11_ten_10 : decode cX11_ten 10 = .ok (.bipush 10, 2) := by decide +kernel
theorem dX11_ten_12 : decode cX11_ten 12 = .ok (.imul, 1) := by decide +kernel
theorem dX11_ten_13 : decode cX11_ten 13 = .ok (.istore_n 1, 1) := by decide +kernel
theorem dX11_ten_14 : decode cX11_ten 14 = .ok (.iinc 2 1, 3) := by decide +kernel
theorem dX11_ten_17 : decode cX11_ten 17 = .ok (.goto (-13), 3) := by decide +kernel
theorem dX11_ten_20 : decode cX11_ten 20 = .ok (.iload_n 1, 1) := by decide +kernel
theorem dX11_ten_21 : decode cX11_ten 21 = .ok (.ireturn, 1) := by decide +kernel
theorem dX11_meets_0 : decode cX11_meets 0 = .ok (.iload_n 1, 1) := by decide +kernel
theorem dX11_meets_1 : decode cX11_meets 1 = .ok (.bipush 31, 2) := by decide +kernel
theorem dX11_meets_3 : decode cX11_meets 3 = .ok (.imul, 1) := by decide +kernel
theorem dX11_meets_4 : decode cX11_meets 4 = .ok (.iload_n 1, 1) := by decide +kernel
theorem dX11_meets_5 : decode cX11_meets 5 = .ok (.bipush 7, 2) := by decide +kernel
theorem dX11_meets_7 : decode cX11_meets 7 = .ok (.iushr, 1) := by decide +kernel
theorem dX11_meets_8 : decode cX11_meets 8 = .ok (.ixor, 1) := by decide +kernel
theorem dX11_meets_9 : decode cX11_meets 9 = .ok (.sipush 32767, 3) := by decide +kernel
theorem dX11_meets_12 : decode cX11_meets 12 = .ok (.iand, 1) := by decide +kernel
theorem dX11_meets_13 : decode cX11_meets 13 = .ok (.istore_n 2, 1) := by decide +kernel
theorem dX11_meets_14 : decode cX11_meets 14 = .ok (.aload_n 0, 1) := by decide +kernel
theorem dX11_meets_15 : decode cX11_meets 15 = .ok (.getfield 44, 3) := by decide +kernel
theorem dX11_meets_18 : decode cX11_meets 18 = .ok (.iload_n 2, 1) := by decide +kernel
theorem dX11_meets_19 : decode cX11_meets 19 = .ok (.iaload, 1) := by decide +kernel
theorem dX11_meets_20 : decode cX11_meets 20 = .ok (.ifCond .eq 27, 3) := by decide +kernel
theorem dX11_meets_23 : decode cX11_meets 23 = .ok (.aload_n 0, 1) := by decide +kernel
theorem dX11_meets_24 : decode cX11_meets 24 = .ok (.getfield 44, 3) := by decide +kernel
theorem dX11_meets_27 : decode cX11_meets 27 = .ok (.iload_n 2, 1) := by decide +kernel
theorem dX11_meets_28 : decode cX11_meets 28 = .ok (.iaload, 1) := by decide +kernel
theorem dX11_meets_29 : decode cX11_meets 29 = .ok (.iload_n 1, 1) := by decide +kernel
theorem dX11_meets_30 : decode cX11_meets 30 = .ok (.iconst 1, 1) := by decide +kernel
theorem dX11_meets_31 : decode cX11_meets 31 = .ok (.iadd, 1) := by decide +kernel
theorem dX11_meets_32 : decode cX11_meets 32 = .ok (.if_icmp .ne 4, 3) := by decide +kernel
theorem dX11_meets_35 : decode cX11_meets 35 = .ok (.return_, 1) := by decide +kernel
theorem dX11_meets_36 : decode cX11_meets 36 = .ok (.iload_n 2, 1) := by decide +kernel
theorem dX11_meets_37 : decode cX11_meets 37 = .ok (.iconst 1, 1) := by decide +kernel
theorem dX11_meets_38 : decode cX11_meets 38 = .ok (.iadd, 1) := by decide +kernel
theorem dX11_meets_39 : decode cX11_meets 39 = .ok (.sipush 32767, 3) := by decide +kernel
theorem dX11_meets_42 : decode cX11_meets 42 = .ok (.iand, 1) := by decide +kernel
theorem dX11_meets_43 : decode cX11_meets 43 = .ok (.istore_n 2, 1) := by decide +kernel
theorem dX11_meets_44 : decode cX11_meets 44 = .ok (.goto (-30), 3) := by decide +kernel
theorem dX11_meets_47 : decode cX11_meets 47 = .ok (.aload_n 0, 1) := by decide +kernel
theorem dX11_meets_48 : decode cX11_meets 48 = .ok (.getfield 44, 3) := by decide +kernel
theorem dX11_meets_51 : decode cX11_meets 51 = .ok (.iload_n 2, 1) := by decide +kernel
theorem dX11_meets_52 : decode cX11_meets 52 = .ok (.iload_n 1, 1) := by decide +kernel
theorem dX11_meets_53 : decode cX11_meets 53 = .ok (.iconst 1, 1) := by decide +kernel
theorem dX11_meets_54 : decode cX11_meets 54 = .ok (.iadd, 1) := by decide +kernel
theorem dX11_meets_55 : decode cX11_meets 55 = .ok (.iastore, 1) := by decide +kernel
theorem dX11_meets_56 : decode cX11_meets 56 = .ok (.aload_n 0, 1) := by decide +kernel
theorem dX11_meets_57 : decode cX11_meets 57 = .ok (.getfield 40, 3) := by decide +kernel
theorem dX11_meets_60 : decode cX11_meets 60 = .ok (.aload_n 0, 1) := by decide +kernel
theorem dX11_meets_61 : decode cX11_meets 61 = .ok (.getfield 291, 3) := by decide +kernel
theorem dX11_meets_64 : decode cX11_meets 64 = .ok (.iload_n 1, 1) := by decide +kernel
theorem dX11_meets_65 : decode cX11_meets 65 = .ok (.iastore, 1) := by decide +kernel
theorem dX11_meets_66 : decode cX11_meets 66 = .ok (.aload_n 0, 1) := by decide +kernel
theorem dX11_meets_67 : decode cX11_meets 67 = .ok (.dup, 1) := by decide +kernel
theorem dX11_meets_68 : decode cX11_meets 68 = .ok (.getfield 291, 3) := by decide +kernel
theorem dX11_meets_71 : decode cX11_meets 71 = .ok (.iconst 1, 1) := by decide +kernel
theorem dX11_meets_72 : decode cX11_meets 72 = .ok (.iadd, 1) := by decide +kernel
theorem dX11_meets_73 : decode cX11_meets 73 = .ok (.putfield 291, 3) := by decide +kernel
theorem dX11_meets_76 : decode cX11_meets 76 = .ok (.return_, 1) := by decide +kernel
theorem dX11_isAsked_0 : decode cX11_isAsked 0 = .ok (.iconst 0, 1) := by decide +kernel
theorem dX11_isAsked_1 : decode cX11_isAsked 1 = .ok (.istore_n 2, 1) := by decide +kernel
theorem dX11_isAsked_2 : decode cX11_isAsked 2 = .ok (.iload_n 2, 1) := by decide +kernel
theorem dX11_isAsked_3 : decode cX11_isAsked 3 = .ok (.aload_n 0, 1) := by decide +kernel
theorem dX11_isAsked_4 : decode cX11_isAsked 4 = .ok (.invokevirtual 193, 3) := by decide +kernel
theorem dX11_isAsked_7 : decode cX11_isAsked 7 = .ok (.if_icmp .ge 29, 3) := by decide +kernel
theorem dX11_isAsked_10 : decode cX11_isAsked 10 = .ok (.iload_n 1, 1) := by decide +kernel
theorem dX11_isAsked_11 : decode cX11_isAsked 11 = .ok (.iload_n 2, 1) := by decide +kernel
theorem dX11_isAsked_12 : decode cX11_isAsked 12 = .ok (.invokestatic 294, 3) := by decide +kernel
theorem dX11_isAsked_15 : decode cX11_isAsked 15 = .ok (.idiv, 1) := by decide +kernel
theorem dX11_isAsked_16 : decode cX11_isAsked 16 = .ok (.bipush 10, 2) := by decide +kernel
theorem dX11_isAsked_18 : decode cX11_isAsked 18 = .ok (.irem, 1) := by decide +kernel
theorem dX11_isAsked_19 : decode cX11_isAsked 19 = .ok (.aload_n 0, 1) := by decide +kernel
theorem dX11_isAsked_20 : decode cX11_isAsked 20 = .ok (.getfield 33, 3) := by decide +kernel
theorem dX11_isAsked_23 : decode cX11_isAsked 23 = .ok (.iload_n 2, 1) := by decide +kernel
theorem dX11_isAsked_24 : decode cX11_isAsked 24 = .ok (.iaload, 1) := by decide +kernel
theorem dX11_isAsked_25 : decode cX11_isAsked 25 = .ok (.if_icmp .ge 5, 3) := by decide +kernel
theorem dX11_isAsked_28 : decode cX11_isAsked 28 = .ok (.iconst 0, 1) := by decide +kernel
theorem dX11_isAsked_29 : decode cX11_isAsked 29 = .ok (.ireturn, 1) := by decide +kernel
theorem dX11_isAsked_30 : decode cX11_isAsked 30 = .ok (.iinc 2 1, 3) := by decide +kernel
theorem dX11_isAsked_33 : decode cX11_isAsked 33 = .ok (.goto (-31), 3) := by decide +kernel
theorem dX11_isAsked_36 : decode cX11_isAsked 36 = .ok (.iconst 1, 1) := by decide +kernel
theorem dX11_isAsked_37 : decode cX11_isAsked 37 = .ok (.ireturn, 1) := by decide +kernel
theorem dX11_changed_0 : decode cX11_changed 0 = .ok (.iload_n 1, 1) := by decide +kernel
theorem dX11_changed_1 : decode cX11_changed 1 = .ok (.istore_n 3, 1) := by decide +kernel
theorem dX11_changed_2 : decode cX11_changed 2 = .ok (.iconst 0, 1) := by decide +kernel
theorem dX11_changed_3 : decode cX11_changed 3 = .ok (.istore 4, 2) := by decide +kernel
theorem dX11_changed_5 : decode cX11_changed 5 = .ok (.iconst 0, 1) := by decide +kernel
theorem dX11_changed_6 : decode cX11_changed 6 = .ok (.istore 5, 2) := by decide +kernel
theorem dX11_changed_8 : decode cX11_changed 8 = .ok (.iload 5, 2) := by decide +kernel
theorem dX11_changed_10 : decode cX11_changed 10 = .ok (.aload_n 0, 1) := by decide +kernel
theorem dX11_changed_11 : decode cX11_changed 11 = .ok (.invokevirtual 193, 3) := by decide +kernel
theorem dX11_changed_14 : decode cX11_changed 14 = .ok (.if_icmp .ge 87, 3) := by decide +kernel
theorem dX11_changed_17 : decode cX11_changed 17 = .ok (.iload_n 1, 1) := by decide +kernel
theorem dX11_changed_18 : decode cX11_changed 18 = .ok (.iload 5, 2) := by decide +kernel
theorem dX11_changed_20 : decode cX11_changed 20 = .ok (.invokestatic 294, 3) := by decide +kernel
theorem dX11_changed_23 : decode cX11_changed 23 = .ok (.idiv, 1) := by decide +kernel
theorem dX11_changed_24 : decode cX11_changed 24 = .ok (.bipush 10, 2) := by decide +kernel
theorem dX11_changed_26 : decode cX11_changed 26 = .ok (.irem, 1) := by decide +kernel
theorem dX11_changed_27 : decode cX11_changed 27 = .ok (.istore 6, 2) := by decide +kernel
theorem dX11_changed_29 : decode cX11_changed 29 = .ok (.iload 6, 2) := by decide +kernel
theorem dX11_changed_31 : decode cX11_changed 31 = .ok (.aload_n 0, 1) := by decide +kernel
theorem dX11_changed_32 : decode cX11_changed 32 = .ok (.iload_n 2, 1) := by decide +kernel
theorem dX11_changed_33 : decode cX11_changed 33 = .ok (.iconst 0, 1) := by decide +kernel
theorem dX11_changed_34 : decode cX11_changed 34 = .ok (.iload 5, 2) := by decide +kernel
theorem dX11_changed_36 : decode cX11_changed 36 = .ok (.invokevirtual 240, 3) := by decide +kernel
theorem dX11_changed_39 : decode cX11_changed 39 = .ok (.if_icmp .ge 5, 3) := by decide +kernel
theorem dX11_changed_42 : decode cX11_changed 42 = .ok (.iconst (-1), 1) := by decide +kernel
theorem dX11_changed_43 : decode cX11_changed 43 = .ok (.ireturn, 1) := by decide +kernel
theorem dX11_changed_44 : decode cX11_changed 44 = .ok (.iload_n 3, 1) := by decide +kernel
theorem dX11_changed_45 : decode cX11_changed 45 = .ok (.aload_n 0, 1) := by decide +kernel
theorem dX11_changed_46 : decode cX11_changed 46 = .ok (.iload_n 2, 1) := by decide +kernel
theorem dX11_changed_47 : decode cX11_changed 47 = .ok (.iconst 1, 1) := by decide +kernel
theorem dX11_changed_48 : decode cX11_changed 48 = .ok (.iload 5, 2) := by decide +kernel
theorem dX11_changed_50 : decode cX11_changed 50 = .ok (.invokevirtual 240, 3) := by decide +kernel
theorem dX11_changed_53 : decode cX11_changed 53 = .ok (.aload_n 0, 1) := by decide +kernel
theorem dX11_changed_54 : decode cX11_changed 54 = .ok (.iload_n 2, 1) := by decide +kernel
theorem dX11_changed_55 : decode cX11_changed 55 = .ok (.iconst 0, 1) := by decide +kernel
theorem dX11_changed_56 : decode cX11_changed 56 = .ok (.iload 5, 2) := by decide +kernel
theorem dX11_changed_58 : decode cX11_changed 58 = .ok (.invokevirtual 240, 3) := by decide +kernel
theorem dX11_changed_61 : decode cX11_changed 61 = .ok (.isub, 1) := by decide +kernel
theorem dX11_changed_62 : decode cX11_changed 62 = .ok (.iload 5, 2) := by decide +kernel
theorem dX11_changed_64 : decode cX11_changed 64 = .ok (.invokestatic 294, 3) := by decide +kernel
theorem dX11_changed_67 : decode cX11_changed 67 = .ok (.imul, 1) := by decide +kernel
theorem dX11_changed_68 : decode cX11_changed 68 = .ok (.iadd, 1) := by decide +kernel
theorem dX11_changed_69 : decode cX11_changed 69 = .ok (.istore_n 3, 1) := by decide +kernel
theorem dX11_changed_70 : decode cX11_changed 70 = .ok (.iload 4, 2) := by decide +kernel
theorem dX11_changed_72 : decode cX11_changed 72 = .ok (.iload 6, 2) := by decide +kernel
theorem dX11_changed_74 : decode cX11_changed 74 = .ok (.aload_n 0, 1) := by decide +kernel
theorem dX11_changed_75 : decode cX11_changed 75 = .ok (.iload_n 2, 1) := by decide +kernel
theorem dX11_changed_76 : decode cX11_changed 76 = .ok (.iconst 0, 1) := by decide +kernel
theorem dX11_changed_77 : decode cX11_changed 77 = .ok (.iload 5, 2) := by decide +kernel
theorem dX11_changed_79 : decode cX11_changed 79 = .ok (.invokevirtual 240, 3) := by decide +kernel
theorem dX11_changed_82 : decode cX11_changed 82 = .ok (.isub, 1) := by decide +kernel
theorem dX11_changed_83 : decode cX11_changed 83 = .ok (.aload_n 0, 1) := by decide +kernel
theorem dX11_changed_84 : decode cX11_changed 84 = .ok (.iload_n 2, 1) := by decide +kernel
theorem dX11_changed_85 : decode cX11_changed 85 = .ok (.iconst 1, 1) := by decide +kernel
theorem dX11_changed_86 : decode cX11_changed 86 = .ok (.iload 5, 2) := by decide +kernel
theorem dX11_changed_88 : decode cX11_changed 88 = .ok (.invokevirtual 240, 3) := by decide +kernel
theorem dX11_changed_91 : decode cX11_changed 91 = .ok (.iadd, 1) := by decide +kernel
theorem dX11_changed_92 : decode cX11_changed 92 = .ok (.iadd, 1) := by decide +kernel
theorem dX11_changed_93 : decode cX11_changed 93 = .ok (.istore 4, 2) := by decide +kernel
theorem dX11_changed_95 : decode cX11_changed 95 = .ok (.iinc 5 1, 3) := by decide +kernel
theorem dX11_changed_98 : decode cX11_changed 98 = .ok (.goto (-90), 3) := by decide +kernel
theorem dX11_changed_101 : decode cX11_changed 101 = .ok (.iload 4, 2) := by decide +kernel
theorem dX11_changed_103 : decode cX11_changed 103 = .ok (.bipush 9, 2) := by decide +kernel
theorem dX11_changed_105 : decode cX11_changed 105 = .ok (.if_icmp .le 7, 3) := by decide +kernel
theorem dX11_changed_108 : decode cX11_changed 108 = .ok (.iconst (-1), 1) := by decide +kernel
theorem dX11_changed_109 : decode cX11_changed 109 = .ok (.goto 4, 3) := by decide +kernel
theorem dX11_changed_112 : decode cX11_changed 112 = .ok (.iload_n 3, 1) := by decide +kernel
theorem dX11_changed_113 : decode cX11_changed 113 = .ok (.ireturn, 1) := by decide +kernel
theorem dX11_fewest_0 : decode cX11_fewest 0 = .ok (.aload_n 0, 1) := by decide +kernel
theorem dX11_fewest_1 : decode cX11_fewest 1 = .ok (.aload_n 0, 1) := by decide +kernel
theorem dX11_fewest_2 : decode cX11_fewest 2 = .ok (.iload_n 1, 1) := by decide +kernel
theorem dX11_fewest_3 : decode cX11_fewest 3 = .ok (.i2l, 1) := by decide +kernel
theorem dX11_fewest_4 : decode cX11_fewest 4 = .ok (.invokevirtual 203, 3) := by decide +kernel
theorem dX11_fewest_7 : decode cX11_fewest 7 = .ok (.ifCond .ne 7, 3) := by decide +kernel
theorem dX11_fewest_10 : decode cX11_fewest 10 = .ok (.iconst 1, 1) := by decide +kernel
theorem dX11_fewest_11 : decode cX11_fewest 11 = .ok (.goto 16, 3) := by decide +kernel
theorem dX11_fewest_14 : decode cX11_fewest 14 = .ok (.aload_n 0, 1) := by decide +kernel
theorem dX11_fewest_15 : decode cX11_fewest 15 = .ok (.lload_n 2, 1) := by decide +kernel
theorem dX11_fewest_16 : decode cX11_fewest 16 = .ok (.invokevirtual 224, 3) := by decide +kernel
theorem dX11_fewest_19 : decode cX11_fewest 19 = .ok (.ifCond .eq 7, 3) := by decide +kernel
theorem dX11_fewest_22 : decode cX11_fewest 22 = .ok (.iconst 0, 1) := by decide +kernel
theorem dX11_fewest_23 : decode cX11_fewest 23 = .ok (.goto 4, 3) := by decide +kernel
theorem dX11_fewest_26 : decode cX11_fewest 26 = .ok (.iconst 2, 1) := by decide +kernel
theorem dX11_fewest_27 : decode cX11_fewest 27 = .ok (.putfield 64, 3) := by decide +kernel
theorem dX11_fewest_30 : decode cX11_fewest 30 = .ok (.aload_n 0, 1) := by decide +kernel
theorem dX11_fewest_31 : decode cX11_fewest 31 = .ok (.getfield 64, 3) := by decide +kernel
theorem dX11_fewest_34 : decode cX11_fewest 34 = .ok (.ifCond .le 5, 3) := by decide +kernel
theorem dX11_fewest_37 : decode cX11_fewest 37 = .ok (.iconst 0, 1) := by decide +kernel
theorem dX11_fewest_38 : decode cX11_fewest 38 = .ok (.ireturn, 1) := by decide +kernel
theorem dX11_fewest_39 : decode cX11_fewest 39 = .ok (.aload_n 0, 1) := by decide +kernel
theorem dX11_fewest_40 : decode cX11_fewest 40 = .ok (.iload_n 1, 1) := by decide +kernel
theorem dX11_fewest_41 : decode cX11_fewest 41 = .ok (.invokevirtual 297, 3) := by decide +kernel
theorem dX11_fewest_44 : decode cX11_fewest 44 = .ok (.iconst 0, 1) := by decide +kernel
theorem dX11_fewest_45 : decode cX11_fewest 45 = .ok (.istore 4, 2) := by decide +kernel
theorem dX11_fewest_47 : decode cX11_fewest 47 = .ok (.iconst 0, 1) := by decide +kernel
theorem dX11_fewest_48 : decode cX11_fewest 48 = .ok (.istore 5, 2) := by decide +kernel
theorem dX11_fewest_50 : decode cX11_fewest 50 = .ok (.aload_n 0, 1) := by decide +kernel
theorem dX11_fewest_51 : decode cX11_fewest 51 = .ok (.getfield 291, 3) := by decide +kernel
theorem dX11_fewest_54 : decode cX11_fewest 54 = .ok (.istore 6, 2) := by decide +kernel
theorem dX11_fewest_56 : decode cX11_fewest 56 = .ok (.iload 4, 2) := by decide +kernel
theorem dX11_fewest_58 : decode cX11_fewest 58 = .ok (.istore 7, 2) := by decide +kernel
theorem dX11_fewest_60 : decode cX11_fewest 60 = .ok (.iload 7, 2) := by decide +kernel
theorem dX11_fewest_62 : decode cX11_fewest 62 = .ok (.iload 6, 2) := by decide +kernel
theorem dX11_fewest_64 : decode cX11_fewest 64 = .ok (.if_icmp .ge 26, 3) := by decide +kernel
theorem dX11_fewest_67 : decode cX11_fewest 67 = .ok (.aload_n 0, 1) := by decide +kernel
theorem dX11_fewest_68 : decode cX11_fewest 68 = .ok (.aload_n 0, 1) := by decide +kernel
theorem dX11_fewest_69 : decode cX11_fewest 69 = .ok (.getfield 40, 3) := by decide +kernel
theorem dX11_fewest_72 : decode cX11_fewest 72 = .ok (.iload 7, 2) := by decide +kernel
theorem dX11_fewest_74 : decode cX11_fewest 74 = .ok (.iaload, 1) := by decide +kernel
theorem dX11_fewest_75 : decode cX11_fewest 75 = .ok (.invokevirtual 300, 3) := by decide +kernel
theorem dX11_fewest_78 : decode cX11_fewest 78 = .ok (.ifCond .eq 6, 3) := by decide +kernel
theorem dX11_fewest_81 : decode cX11_fewest 81 = .ok (.iload 5, 2) := by decide +kernel
theorem dX11_fewest_83 : decode cX11_fewest 83 = .ok (.ireturn, 1) := by decide +kernel
theorem dX11_fewest_84 : decode cX11_fewest 84 = .ok (.iinc 7 1, 3) := by decide +kernel
theorem dX11_fewest_87 : decode cX11_fewest 87 = .ok (.goto (-27), 3) := by decide +kernel
theorem dX11_fewest_90 : decode cX11_fewest 90 = .ok (.iload 6, 2) := by decide +kernel
theorem dX11_fewest_92 : decode cX11_fewest 92 = .ok (.sipush 3000, 3) := by decide +kernel
theorem dX11_fewest_95 : decode cX11_fewest 95 = .ok (.if_icmp .le 7, 3) := by decide +kernel
theorem dX11_fewest_98 : decode cX11_fewest 98 = .ok (.sipush (-1000), 3) := by decide +kernel
theorem dX11_fewest_101 : decode cX11_fewest 101 = .ok (.ireturn, 1) := by decide +kernel
theorem dX11_fewest_102 : decode cX11_fewest 102 = .ok (.iload 4, 2) := by decide +kernel
theorem dX11_fewest_104 : decode cX11_fewest 104 = .ok (.istore 7, 2) := by decide +kernel
theorem dX11_fewest_106 : decode cX11_fewest 106 = .ok (.iload 7, 2) := by decide +kernel
theorem dX11_fewest_108 : decode cX11_fewest 108 = .ok (.iload 6, 2) := by decide +kernel
theorem dX11_fewest_110 : decode cX11_fewest 110 = .ok (.if_icmp .ge 56, 3) := by decide +kernel
theorem dX11_fewest_113 : decode cX11_fewest 113 = .ok (.iconst 0, 1) := by decide +kernel
theorem dX11_fewest_114 : decode cX11_fewest 114 = .ok (.istore 8, 2) := by decide +kernel
theorem dX11_fewest_116 : decode cX11_fewest 116 = .ok (.iload 8, 2) := by decide +kernel
theorem dX11_fewest_118 : decode cX11_fewest 118 = .ok (.aload_n 0, 1) := by decide +kernel
theorem dX11_fewest_119 : decode cX11_fewest 119 = .ok (.getfield 9, 3) := by decide +kernel
theorem dX11_fewest_122 : decode cX11_fewest 122 = .ok (.iconst 3, 1) := by decide +kernel
theorem dX11_fewest_123 : decode cX11_fewest 123 = .ok (.iaload, 1) := by decide +kernel
theorem dX11_fewest_124 : decode cX11_fewest 124 = .ok (.if_icmp .ge 36, 3) := by decide +kernel
theorem dX11_fewest_127 : decode cX11_fewest 127 = .ok (.aload_n 0, 1) := by decide +kernel
theorem dX11_fewest_128 : decode cX11_fewest 128 = .ok (.aload_n 0, 1) := by decide +kernel
theorem dX11_fewest_129 : decode cX11_fewest 129 = .ok (.getfield 40, 3) := by decide +kernel
theorem dX11_fewest_132 : decode cX11_fewest 132 = .ok (.iload 7, 2) := by decide +kernel
theorem dX11_fewest_134 : decode cX11_fewest 134 = .ok (.iaload, 1) := by decide +kernel
theorem dX11_fewest_135 : decode cX11_fewest 135 = .ok (.iload 8, 2) := by decide +kernel
theorem dX11_fewest_137 : decode cX11_fewest 137 = .ok (.invokevirtual 303, 3) := by decide +kernel
theorem dX11_fewest_140 : decode cX11_fewest 140 = .ok (.istore 9, 2) := by decide +kernel
theorem dX11_fewest_142 : decode cX11_fewest 142 = .ok (.iload 9, 2) := by decide +kernel
theorem dX11_fewest_144 : decode cX11_fewest 144 = .ok (.iconst (-1), 1) := by decide +kernel
theorem dX11_fewest_145 : decode cX11_fewest 145 = .ok (.if_icmp .eq 9, 3) := by decide +kernel
theorem dX11_fewest_148 : decode cX11_fewest 148 = .ok (.aload_n 0, 1) := by decide +kernel
theorem dX11_fewest_149 : decode cX11_fewest 149 = .ok (.iload 9, 2) := by decide +kernel
theorem dX11_fewest_151 : decode cX11_fewest 151 = .ok (.invokevirtual 306, 3) := by decide +kernel
theorem dX11_fewest_154 : decode cX11_fewest 154 = .ok (.iinc 8 1, 3) := by decide +kernel
theorem dX11_fewest_157 : decode cX11_fewest 157 = .ok (.goto (-41), 3) := by decide +kernel
theorem dX11_fewest_160 : decode cX11_fewest 160 = .ok (.iinc 7 1, 3) := by decide +kernel
theorem dX11_fewest_163 : decode cX11_fewest 163 = .ok (.goto (-57), 3) := by decide +kernel
theorem dX11_fewest_166 : decode cX11_fewest 166 = .ok (.aload_n 0, 1) := by decide +kernel
theorem dX11_fewest_167 : decode cX11_fewest 167 = .ok (.getfield 291, 3) := by decide +kernel
theorem dX11_fewest_170 : decode cX11_fewest 170 = .ok (.iload 6, 2) := by decide +kernel
theorem dX11_fewest_172 : decode cX11_fewest 172 = .ok (.if_icmp .ne 5, 3) := by decide +kernel
theorem dX11_fewest_175 : decode cX11_fewest 175 = .ok (.iconst (-1), 1) := by decide +kernel
theorem dX11_fewest_176 : decode cX11_fewest 176 = .ok (.ireturn, 1) := by decide +kernel
theorem dX11_fewest_177 : decode cX11_fewest 177 = .ok (.iload 6, 2) := by decide +kernel
theorem dX11_fewest_179 : decode cX11_fewest 179 = .ok (.istore 4, 2) := by decide +kernel
theorem dX11_fewest_181 : decode cX11_fewest 181 = .ok (.iinc 5 1, 3) := by decide +kernel
theorem dX11_fewest_184 : decode cX11_fewest 184 = .ok (.goto (-134), 3) := by decide +kernel
theorem dX11_between_0 : decode cX11_between 0 = .ok (.aload_n 0, 1) := by decide +kernel
theorem dX11_between_1 : decode cX11_between 1 = .ok (.iconst 0, 1) := by decide +kernel
theorem dX11_between_2 : decode cX11_between 2 = .ok (.putfield 64, 3) := by decide +kernel
theorem dX11_between_5 : decode cX11_between 5 = .ok (.aload_n 0, 1) := by decide +kernel
theorem dX11_between_6 : decode cX11_between 6 = .ok (.iload_n 1, 1) := by decide +kernel
theorem dX11_between_7 : decode cX11_between 7 = .ok (.i2l, 1) := by decide +kernel
theorem dX11_between_8 : decode cX11_between 8 = .ok (.invokevirtual 203, 3) := by decide +kernel
theorem dX11_between_11 : decode cX11_between 11 = .ok (.ifCond .ne 9, 3) := by decide +kernel
theorem dX11_between_14 : decode cX11_between 14 = .ok (.aload_n 0, 1) := by decide +kernel
theorem dX11_between_15 : decode cX11_between 15 = .ok (.iconst 1, 1) := by decide +kernel
theorem dX11_between_16 : decode cX11_between 16 = .ok (.invokevirtual 178, 3) := by decide +kernel
theorem dX11_between_19 : decode cX11_between 19 = .ok (.ireturn, 1) := by decide +kernel
theorem dX11_between_20 : decode cX11_between 20 = .ok (.aload_n 0, 1) := by decide +kernel
theorem dX11_between_21 : decode cX11_between 21 = .ok (.iload_n 1, 1) := by decide +kernel
theorem dX11_between_22 : decode cX11_between 22 = .ok (.invokevirtual 283, 3) := by decide +kernel
theorem dX11_between_25 : decode cX11_between 25 = .ok (.iconst 0, 1) := by decide +kernel
theorem dX11_between_26 : decode cX11_between 26 = .ok (.istore 6, 2) := by decide +kernel
theorem dX11_between_28 : decode cX11_between 28 = .ok (.iconst 0, 1) := by decide +kernel
theorem dX11_between_29 : decode cX11_between 29 = .ok (.istore 7, 2) := by decide +kernel
theorem dX11_between_31 : decode cX11_between 31 = .ok (.iload 7, 2) := by decide +kernel
theorem dX11_between_33 : decode cX11_between 33 = .ok (.aload_n 0, 1) := by decide +kernel
theorem dX11_between_34 : decode cX11_between 34 = .ok (.getfield 280, 3) := by decide +kernel
theorem dX11_between_37 : decode cX11_between 37 = .ok (.if_icmp .ge 35, 3) := by decide +kernel
theorem dX11_between_40 : decode cX11_between 40 = .ok (.iload 6, 2) := by decide +kernel
theorem dX11_between_42 : decode cX11_between 42 = .ok (.aload_n 0, 1) := by decide +kernel
theorem dX11_between_43 : decode cX11_between 43 = .ok (.getfield 36, 3) := by decide +kernel
theorem dX11_between_46 : decode cX11_between 46 = .ok (.iload 7, 2) := by decide +kernel
theorem dX11_between_48 : decode cX11_between 48 = .ok (.laload, 1) := by decide +kernel
theorem dX11_between_49 : decode cX11_between 49 = .ok (.lload_n 2, 1) := by decide +kernel
theorem dX11_between_50 : decode cX11_between 50 = .ok (.lload 4, 2) := by decide +kernel
theorem dX11_between_52 : decode cX11_between 52 = .ok (.invokestatic 133, 3) := by decide +kernel
theorem dX11_between_55 : decode cX11_between 55 = .ok (.ifCond .eq 7, 3) := by decide +kernel
theorem dX11_between_58 : decode cX11_between 58 = .ok (.iconst 1, 1) := by decide +kernel
theorem dX11_between_59 : decode cX11_between 59 = .ok (.goto 4, 3) := by decide +kernel
theorem dX11_between_62 : decode cX11_between 62 = .ok (.iconst 0, 1) := by decide +kernel
theorem dX11_between_63 : decode cX11_between 63 = .ok (.iadd, 1) := by decide +kernel
theorem dX11_between_64 : decode cX11_between 64 = .ok (.istore 6, 2) := by decide +kernel
theorem dX11_between_66 : decode cX11_between 66 = .ok (.iinc 7 1, 3) := by decide +kernel
theorem dX11_between_69 : decode cX11_between 69 = .ok (.goto (-38), 3) := by decide +kernel
theorem dX11_between_72 : decode cX11_between 72 = .ok (.iload 6, 2) := by decide +kernel
theorem dX11_between_74 : decode cX11_between 74 = .ok (.ireturn, 1) := by decide +kernel
theorem dX11_dear_0 : decode cX11_dear 0 = .ok (.aload_n 0, 1) := by decide +kernel
theorem dX11_dear_1 : decode cX11_dear 1 = .ok (.aload_n 0, 1) := by decide +kernel
theorem dX11_dear_2 : decode cX11_dear 2 = .ok (.iload_n 1, 1) := by decide +kernel
theorem dX11_dear_3 : decode cX11_dear 3 = .ok (.i2l, 1) := by decide +kernel
theorem dX11_dear_4 : decode cX11_dear 4 = .ok (.invokevirtual 203, 3) := by decide +kernel
theorem dX11_dear_7 : decode cX11_dear 7 = .ok (.ifCond .ne 7, 3) := by decide +kernel
theorem dX11_dear_10 : decode cX11_dear 10 = .ok (.iconst 1, 1) := by decide +kernel
theorem dX11_dear_11 : decode cX11_dear 11 = .ok (.goto 29, 3) := by decide +kernel
theorem dX11_dear_14 : decode cX11_dear 14 = .ok (.iload_n 2, 1) := by decide +kernel
theorem dX11_dear_15 : decode cX11_dear 15 = .ok (.i2l, 1) := by decide +kernel
theorem dX11_dear_16 : decode cX11_dear 16 = .ok (.ldc2_w 129, 3) := by decide +kernel
theorem dX11_dear_19 : decode cX11_dear 19 = .ok (.ldc2_w 131, 3) := by decide +kernel
theorem dX11_dear_22 : decode cX11_dear 22 = .ok (.invokestatic 133, 3) := by decide +kernel
theorem dX11_dear_25 : decode cX11_dear 25 = .ok (.ifCond .eq 14, 3) := by decide +kernel
theorem dX11_dear_28 : decode cX11_dear 28 = .ok (.iload_n 2, 1) := by decide +kernel
theorem dX11_dear_29 : decode cX11_dear 29 = .ok (.invokestatic 137, 3) := by decide +kernel
theorem dX11_dear_32 : decode cX11_dear 32 = .ok (.ifCond .eq 7, 3) := by decide +kernel
theorem dX11_dear_35 : decode cX11_dear 35 = .ok (.iconst 0, 1) := by decide +kernel
theorem dX11_dear_36 : decode cX11_dear 36 = .ok (.goto 4, 3) := by decide +kernel
theorem dX11_dear_39 : decode cX11_dear 39 = .ok (.iconst 2, 1) := by decide +kernel
theorem dX11_dear_40 : decode cX11_dear 40 = .ok (.putfield 64, 3) := by decide +kernel
theorem dX11_dear_43 : decode cX11_dear 43 = .ok (.aload_n 0, 1) := by decide +kernel
theorem dX11_dear_44 : decode cX11_dear 44 = .ok (.getfield 64, 3) := by decide +kernel
theorem dX11_dear_47 : decode cX11_dear 47 = .ok (.ifCond .le 5, 3) := by decide +kernel
theorem dX11_dear_50 : decode cX11_dear 50 = .ok (.iconst 0, 1) := by decide +kernel
theorem dX11_dear_51 : decode cX11_dear 51 = .ok (.ireturn, 1) := by decide +kernel
theorem dX11_dear_52 : decode cX11_dear 52 = .ok (.iconst 1, 1) := by decide +kernel
theorem dX11_dear_53 : decode cX11_dear 53 = .ok (.istore_n 3, 1) := by decide +kernel
theorem dX11_dear_54 : decode cX11_dear 54 = .ok (.iconst 0, 1) := by decide +kernel
theorem dX11_dear_55 : decode cX11_dear 55 = .ok (.istore 4, 2) := by decide +kernel
theorem dX11_dear_57 : decode cX11_dear 57 = .ok (.iload 4, 2) := by decide +kernel
theorem dX11_dear_59 : decode cX11_dear 59 = .ok (.aload_n 0, 1) := by decide +kernel
theorem dX11_dear_60 : decode cX11_dear 60 = .ok (.invokevirtual 193, 3) := by decide +kernel
theorem dX11_dear_63 : decode cX11_dear 63 = .ok (.if_icmp .ge 35, 3) := by decide +kernel
theorem dX11_dear_66 : decode cX11_dear 66 = .ok (.iload_n 3, 1) := by decide +kernel
theorem dX11_dear_67 : decode cX11_dear 67 = .ok (.aload_n 0, 1) := by decide +kernel
theorem dX11_dear_68 : decode cX11_dear 68 = .ok (.iload 4, 2) := by decide +kernel
theorem dX11_dear_70 : decode cX11_dear 70 = .ok (.invokevirtual 200, 3) := by decide +kernel
theorem dX11_dear_73 : decode cX11_dear 73 = .ok (.iload_n 2, 1) := by decide +kernel
theorem dX11_dear_74 : decode cX11_dear 74 = .ok (.if_icmp .gt 15, 3) := by decide +kernel
theorem dX11_dear_77 : decode cX11_dear 77 = .ok (.aload_n 0, 1) := by decide +kernel
theorem dX11_dear_78 : decode cX11_dear 78 = .ok (.iload_n 1, 1) := by decide +kernel
theorem dX11_dear_79 : decode cX11_dear 79 = .ok (.iload 4, 2) := by decide +kernel
theorem dX11_dear_81 : decode cX11_dear 81 = .ok (.invokevirtual 196, 3) := by decide +kernel
theorem dX11_dear_84 : decode cX11_dear 84 = .ok (.iconst 1, 1) := by decide +kernel
theorem dX11_dear_85 : decode cX11_dear 85 = .ok (.iadd, 1) := by decide +kernel
theorem dX11_dear_86 : decode cX11_dear 86 = .ok (.goto 4, 3) := by decide +kernel
theorem dX11_dear_89 : decode cX11_dear 89 = .ok (.iconst 1, 1) := by decide +kernel
theorem dX11_dear_90 : decode cX11_dear 90 = .ok (.imul, 1) := by decide +kernel
theorem dX11_dear_91 : decode cX11_dear 91 = .ok (.istore_n 3, 1) := by decide +kernel
theorem dX11_dear_92 : decode cX11_dear 92 = .ok (.iinc 4 1, 3) := by decide +kernel
theorem dX11_dear_95 : decode cX11_dear 95 = .ok (.goto (-38), 3) := by decide +kernel
theorem dX11_dear_98 : decode cX11_dear 98 = .ok (.iload_n 3, 1) := by decide +kernel
theorem dX11_dear_99 : decode cX11_dear 99 = .ok (.ireturn, 1) := by decide +kernel
theorem dX11_sideOf_0 : decode cX11_sideOf 0 = .ok (.lconst 1, 1) := by decide +kernel
theorem dX11_sideOf_1 : decode cX11_sideOf 1 = .ok (.lstore_n 3, 1) := by decide +kernel
theorem dX11_sideOf_2 : decode cX11_sideOf 2 = .ok (.iconst 0, 1) := by decide +kernel
theorem dX11_sideOf_3 : decode cX11_sideOf 3 = .ok (.istore 5, 2) := by decide +kernel
theorem dX11_sideOf_5 : decode cX11_sideOf 5 = .ok (.iload 5, 2) := by decide +kernel
theorem dX11_sideOf_7 : decode cX11_sideOf 7 = .ok (.aload_n 0, 1) := by decide +kernel
theorem dX11_sideOf_8 : decode cX11_sideOf 8 = .ok (.invokevirtual 193, 3) := by decide +kernel
theorem dX11_sideOf_11 : decode cX11_sideOf 11 = .ok (.if_icmp .ge 41, 3) := by decide +kernel
theorem dX11_sideOf_14 : decode cX11_sideOf 14 = .ok (.iconst 0, 1) := by decide +kernel
theorem dX11_sideOf_15 : decode cX11_sideOf 15 = .ok (.istore 6, 2) := by decide +kernel
theorem dX11_sideOf_17 : decode cX11_sideOf 17 = .ok (.iload 6, 2) := by decide +kernel
theorem dX11_sideOf_19 : decode cX11_sideOf 19 = .ok (.aload_n 0, 1) := by decide +kernel
theorem dX11_sideOf_20 : decode cX11_sideOf 20 = .ok (.iload_n 1, 1) := by decide +kernel
theorem dX11_sideOf_21 : decode cX11_sideOf 21 = .ok (.iload_n 2, 1) := by decide +kernel
theorem dX11_sideOf_22 : decode cX11_sideOf 22 = .ok (.iload 5, 2) := by decide +kernel
theorem dX11_sideOf_24 : decode cX11_sideOf 24 = .ok (.invokevirtual 240, 3) := by decide +kernel
theorem dX11_sideOf_27 : decode cX11_sideOf 27 = .ok (.if_icmp .ge 19, 3) := by decide +kernel
theorem dX11_sideOf_30 : decode cX11_sideOf 30 = .ok (.lload_n 3, 1) := by decide +kernel
theorem dX11_sideOf_31 : decode cX11_sideOf 31 = .ok (.aload_n 0, 1) := by decide +kernel
theorem dX11_sideOf_32 : decode cX11_sideOf 32 = .ok (.iload 5, 2) := by decide +kernel
theorem dX11_sideOf_34 : decode cX11_sideOf 34 = .ok (.invokevirtual 200, 3) := by decide +kernel
theorem dX11_sideOf_37 : decode cX11_sideOf 37 = .ok (.i2l, 1) := by decide +kernel
theorem dX11_sideOf_38 : decode cX11_sideOf 38 = .ok (.lmul, 1) := by decide +kernel
theorem dX11_sideOf_39 : decode cX11_sideOf 39 = .ok (.lstore_n 3, 1) := by decide +kernel
theorem dX11_sideOf_40 : decode cX11_sideOf 40 = .ok (.iinc 6 1, 3) := by decide +kernel
theorem dX11_sideOf_43 : decode cX11_sideOf 43 = .ok (.goto (-26), 3) := by decide +kernel
theorem dX11_sideOf_46 : decode cX11_sideOf 46 = .ok (.iinc 5 1, 3) := by decide +kernel
theorem dX11_sideOf_49 : decode cX11_sideOf 49 = .ok (.goto (-44), 3) := by decide +kernel
theorem dX11_sideOf_52 : decode cX11_sideOf 52 = .ok (.lload_n 3, 1) := by decide +kernel
theorem dX11_sideOf_53 : decode cX11_sideOf 53 = .ok (.lreturn, 1) := by decide +kernel
theorem dX11_gainer_0 : decode cX11_gainer 0 = .ok (.aload_n 0, 1) := by decide +kernel
theorem dX11_gainer_1 : decode cX11_gainer 1 = .ok (.iconst 0, 1) := by decide +kernel
theorem dX11_gainer_2 : decode cX11_gainer 2 = .ok (.putfield 64, 3) := by decide +kernel
theorem dX11_gainer_5 : decode cX11_gainer 5 = .ok (.iconst (-1), 1) := by decide +kernel
theorem dX11_gainer_6 : decode cX11_gainer 6 = .ok (.istore_n 1, 1) := by decide +kernel
theorem dX11_gainer_7 : decode cX11_gainer 7 = .ok (.iconst 0, 1) := by decide +kernel
theorem dX11_gainer_8 : decode cX11_gainer 8 = .ok (.istore_n 2, 1) := by decide +kernel
theorem dX11_gainer_9 : decode cX11_gainer 9 = .ok (.iload_n 2, 1) := by decide +kernel
theorem dX11_gainer_10 : decode cX11_gainer 10 = .ok (.aload_n 0, 1) := by decide +kernel
theorem dX11_gainer_11 : decode cX11_gainer 11 = .ok (.getfield 9, 3) := by decide +kernel
theorem dX11_gainer_14 : decode cX11_gainer 14 = .ok (.iconst 3, 1) := by decide +kernel
theorem dX11_gainer_15 : decode cX11_gainer 15 = .ok (.iaload, 1) := by decide +kernel
theorem dX11_gainer_16 : decode cX11_gainer 16 = .ok (.if_icmp .ge 46, 3) := by decide +kernel
theorem dX11_gainer_19 : decode cX11_gainer 19 = .ok (.iload_n 1, 1) := by decide +kernel
theorem dX11_gainer_20 : decode cX11_gainer 20 = .ok (.iconst (-1), 1) := by decide +kernel
theorem dX11_gainer_21 : decode cX11_gainer 21 = .ok (.if_icmp .eq 33, 3) := by decide +kernel
theorem dX11_gainer_24 : decode cX11_gainer 24 = .ok (.aload_n 0, 1) := by decide +kernel
theorem dX11_gainer_25 : decode cX11_gainer 25 = .ok (.iload_n 2, 1) := by decide +kernel
theorem dX11_gainer_26 : decode cX11_gainer 26 = .ok (.iconst 1, 1) := by decide +kernel
theorem dX11_gainer_27 : decode cX11_gainer 27 = .ok (.invokevirtual 309, 3) := by decide +kernel
theorem dX11_gainer_30 : decode cX11_gainer 30 = .ok (.aload_n 0, 1) := by decide +kernel
theorem dX11_gainer_31 : decode cX11_gainer 31 = .ok (.iload_n 1, 1) := by decide +kernel
theorem dX11_gainer_32 : decode cX11_gainer 32 = .ok (.iconst 0, 1) := by decide +kernel
theorem dX11_gainer_33 : decode cX11_gainer 33 = .ok (.invokevirtual 309, 3) := by decide +kernel
theorem dX11_gainer_36 : decode cX11_gainer 36 = .ok (.lmul, 1) := by decide +kernel
theorem dX11_gainer_37 : decode cX11_gainer 37 = .ok (.aload_n 0, 1) := by decide +kernel
theorem dX11_gainer_38 : decode cX11_gainer 38 = .ok (.iload_n 1, 1) := by decide +kernel
theorem dX11_gainer_39 : decode cX11_gainer 39 = .ok (.iconst 1, 1) := by decide +kernel
theorem dX11_gainer_40 : decode cX11_gainer 40 = .ok (.invokevirtual 309, 3) := by decide +kernel
theorem dX11_gainer_43 : decode cX11_gainer 43 = .ok (.aload_n 0, 1) := by decide +kernel
theorem dX11_gainer_44 : decode cX11_gainer 44 = .ok (.iload_n 2, 1) := by decide +kernel
theorem dX11_gainer_45 : decode cX11_gainer 45 = .ok (.iconst 0, 1) := by decide +kernel
theorem dX11_gainer_46 : decode cX11_gainer 46 = .ok (.invokevirtual 309, 3) := by decide +kernel
theorem dX11_gainer_49 : decode cX11_gainer 49 = .ok (.lmul, 1) := by decide +kernel
theorem dX11_gainer_50 : decode cX11_gainer 50 = .ok (.lcmp, 1) := by decide +kernel
theorem dX11_gainer_51 : decode cX11_gainer 51 = .ok (.ifCond .le 5, 3) := by decide +kernel
theorem dX11_gainer_54 : decode cX11_gainer 54 = .ok (.iload_n 2, 1) := by decide +kernel
theorem dX11_gainer_55 : decode cX11_gainer 55 = .ok (.istore_n 1, 1) := by decide +kernel
theorem dX11_gainer_56 : decode cX11_gainer 56 = .ok (.iinc 2 1, 3) := by decide +kernel
theorem dX11_gainer_59 : decode cX11_gainer 59 = .ok (.goto (-50), 3) := by decide +kernel
theorem dX11_gainer_62 : decode cX11_gainer 62 = .ok (.iload_n 1, 1) := by decide +kernel
theorem dX11_gainer_63 : decode cX11_gainer 63 = .ok (.ireturn, 1) := by decide +kernel
theorem dX11_worthBy_0 : decode cX11_worthBy 0 = .ok (.lconst 1, 1) := by decide +kernel
theorem dX11_worthBy_1 : decode cX11_worthBy 1 = .ok (.lstore_n 2, 1) := by decide +kernel
theorem dX11_worthBy_2 : decode cX11_worthBy 2 = .ok (.iconst 0, 1) := by decide +kernel
theorem dX11_worthBy_3 : decode cX11_worthBy 3 = .ok (.istore 4, 2) := by decide +kernel
theorem dX11_worthBy_5 : decode cX11_worthBy 5 = .ok (.iload 4, 2) := by decide +kernel
theorem dX11_worthBy_7 : decode cX11_worthBy 7 = .ok (.aload_n 0, 1) := by decide +kernel
theorem dX11_worthBy_8 : decode cX11_worthBy 8 = .ok (.invokevirtual 193, 3) := by decide +kernel
theorem dX11_worthBy_11 : decode cX11_worthBy 11 = .ok (.if_icmp .ge 42, 3) := by decide +kernel
theorem dX11_worthBy_14 : decode cX11_worthBy 14 = .ok (.iload_n 1, 1) := by decide +kernel
theorem dX11_worthBy_15 : decode cX11_worthBy 15 = .ok (.iload 4, 2) := by decide +kernel
theorem dX11_worthBy_17 : decode cX11_worthBy 17 = .ok (.invokestatic 294, 3) := by decide +kernel
theorem dX11_worthBy_20 : decode cX11_worthBy 20 = .ok (.idiv, 1) := by decide +kernel
theorem dX11_worthBy_21 : decode cX11_worthBy 21 = .ok (.bipush 10, 2) := by decide +kernel
theorem dX11_worthBy_23 : decode cX11_worthBy 23 = .ok (.irem, 1) := by decide +kernel
theorem dX11_worthBy_24 : decode cX11_worthBy 24 = .ok (.istore 5, 2) := by decide +kernel
theorem dX11_worthBy_26 : decode cX11_worthBy 26 = .ok (.iload 5, 2) := by decide +kernel
theorem dX11_worthBy_28 : decode cX11_worthBy 28 = .ok (.ifCond .le 19, 3) := by decide +kernel
theorem dX11_worthBy_31 : decode cX11_worthBy 31 = .ok (.lload_n 2, 1) := by decide +kernel
theorem dX11_worthBy_32 : decode cX11_worthBy 32 = .ok (.aload_n 0, 1) := by decide +kernel
theorem dX11_worthBy_33 : decode cX11_worthBy 33 = .ok (.iload 4, 2) := by decide +kernel
theorem dX11_worthBy_35 : decode cX11_worthBy 35 = .ok (.invokevirtual 200, 3) := by decide +kernel
theorem dX11_worthBy_38 : decode cX11_worthBy 38 = .ok (.i2l, 1) := by decide +kernel
theorem dX11_worthBy_39 : decode cX11_worthBy 39 = .ok (.lmul, 1) := by decide +kernel
theorem dX11_worthBy_40 : decode cX11_worthBy 40 = .ok (.lstore_n 2, 1) := by decide +kernel
theorem dX11_worthBy_41 : decode cX11_worthBy 41 = .ok (.iinc 5 (-1), 3) := by decide +kernel
theorem dX11_worthBy_44 : decode cX11_worthBy 44 = .ok (.goto (-18), 3) := by decide +kernel
theorem dX11_worthBy_47 : decode cX11_worthBy 47 = .ok (.iinc 4 1, 3) := by decide +kernel
theorem dX11_worthBy_50 : decode cX11_worthBy 50 = .ok (.goto (-45), 3) := by decide +kernel
theorem dX11_worthBy_53 : decode cX11_worthBy 53 = .ok (.lload_n 2, 1) := by decide +kernel
theorem dX11_worthBy_54 : decode cX11_worthBy 54 = .ok (.lreturn, 1) := by decide +kernel
theorem dX11_beginsMet_0 : decode cX11_beginsMet 0 = .ok (.iconst 0, 1) := by decide +kernel
theorem dX11_beginsMet_1 : decode cX11_beginsMet 1 = .ok (.istore_n 2, 1) := by decide +kernel
theorem dX11_beginsMet_2 : decode cX11_beginsMet 2 = .ok (.iload_n 2, 1) := by decide +kernel
theorem dX11_beginsMet_3 : decode cX11_beginsMet 3 = .ok (.ldc 43, 2) := by decide +kernel
theorem dX11_beginsMet_5 : decode cX11_beginsMet 5 = .ok (.if_icmp .ge 16, 3) := by decide +kernel
theorem dX11_beginsMet_8 : decode cX11_beginsMet 8 = .ok (.aload_n 0, 1) := by decide +kernel
theorem dX11_beginsMet_9 : decode cX11_beginsMet 9 = .ok (.getfield 44, 3) := by decide +kernel
theorem dX11_beginsMet_12 : decode cX11_beginsMet 12 = .ok (.iload_n 2, 1) := by decide +kernel
theorem dX11_beginsMet_13 : decode cX11_beginsMet 13 = .ok (.iconst 0, 1) := by decide +kernel
theorem dX11_beginsMet_14 : decode cX11_beginsMet 14 = .ok (.iastore, 1) := by decide +kernel
theorem dX11_beginsMet_15 : decode cX11_beginsMet 15 = .ok (.iinc 2 1, 3) := by decide +kernel
theorem dX11_beginsMet_18 : decode cX11_beginsMet 18 = .ok (.goto (-16), 3) := by decide +kernel
theorem dX11_beginsMet_21 : decode cX11_beginsMet 21 = .ok (.aload_n 0, 1) := by decide +kernel
theorem dX11_beginsMet_22 : decode cX11_beginsMet 22 = .ok (.iconst 0, 1) := by decide +kernel
theorem dX11_beginsMet_23 : decode cX11_beginsMet 23 = .ok (.putfield 291, 3) := by decide +kernel
theorem dX11_beginsMet_26 : decode cX11_beginsMet 26 = .ok (.iconst 0, 1) := by decide +kernel
theorem dX11_beginsMet_27 : decode cX11_beginsMet 27 = .ok (.istore_n 2, 1) := by decide +kernel
theorem dX11_beginsMet_28 : decode cX11_beginsMet 28 = .ok (.iconst 0, 1) := by decide +kernel
theorem dX11_beginsMet_29 : decode cX11_beginsMet 29 = .ok (.istore_n 3, 1) := by decide +kernel
theorem dX11_beginsMet_30 : decode cX11_beginsMet 30 = .ok (.iload_n 3, 1) := by decide +kernel
theorem dX11_beginsMet_31 : decode cX11_beginsMet 31 = .ok (.aload_n 0, 1) := by decide +kernel
theorem dX11_beginsMet_32 : decode cX11_beginsMet 32 = .ok (.invokevirtual 193, 3) := by decide +kernel
theorem dX11_beginsMet_35 : decode cX11_beginsMet 35 = .ok (.if_icmp .ge 23, 3) := by decide +kernel
theorem dX11_beginsMet_38 : decode cX11_beginsMet 38 = .ok (.iload_n 2, 1) := by decide +kernel
theorem dX11_beginsMet_39 : decode cX11_beginsMet 39 = .ok (.aload_n 0, 1) := by decide +kernel
theorem dX11_beginsMet_40 : decode cX11_beginsMet 40 = .ok (.iload_n 1, 1) := by decide +kernel
theorem dX11_beginsMet_41 : decode cX11_beginsMet 41 = .ok (.iload_n 3, 1) := by decide +kernel
theorem dX11_beginsMet_42 : decode cX11_beginsMet 42 = .ok (.invokevirtual 196, 3) := by decide +kernel
theorem dX11_beginsMet_45 : decode cX11_beginsMet 45 = .ok (.iload_n 3, 1) := by decide +kernel
theorem dX11_beginsMet_46 : decode cX11_beginsMet 46 = .ok (.invokestatic 294, 3) := by decide +kernel
theorem dX11_beginsMet_49 : decode cX11_beginsMet 49 = .ok (.imul, 1) := by decide +kernel
theorem dX11_beginsMet_50 : decode cX11_beginsMet 50 = .ok (.iadd, 1) := by decide +kernel
theorem dX11_beginsMet_51 : decode cX11_beginsMet 51 = .ok (.istore_n 2, 1) := by decide +kernel
theorem dX11_beginsMet_52 : decode cX11_beginsMet 52 = .ok (.iinc 3 1, 3) := by decide +kernel
theorem dX11_beginsMet_55 : decode cX11_beginsMet 55 = .ok (.goto (-25), 3) := by decide +kernel
theorem dX11_beginsMet_58 : decode cX11_beginsMet 58 = .ok (.aload_n 0, 1) := by decide +kernel
theorem dX11_beginsMet_59 : decode cX11_beginsMet 59 = .ok (.iload_n 2, 1) := by decide +kernel
theorem dX11_beginsMet_60 : decode cX11_beginsMet 60 = .ok (.invokevirtual 306, 3) := by decide +kernel
theorem dX11_beginsMet_63 : decode cX11_beginsMet 63 = .ok (.return_, 1) := by decide +kernel
theorem dX11_grows_0 : decode cX11_grows 0 = .ok (.aload_n 0, 1) := by decide +kernel
theorem dX11_grows_1 : decode cX11_grows 1 = .ok (.aload_n 0, 1) := by decide +kernel
theorem dX11_grows_2 : decode cX11_grows 2 = .ok (.iload_n 1, 1) := by decide +kernel
theorem dX11_grows_3 : decode cX11_grows 3 = .ok (.i2l, 1) := by decide +kernel
theorem dX11_grows_4 : decode cX11_grows 4 = .ok (.invokevirtual 203, 3) := by decide +kernel
theorem dX11_grows_7 : decode cX11_grows 7 = .ok (.ifCond .ne 7, 3) := by decide +kernel
theorem dX11_grows_10 : decode cX11_grows 10 = .ok (.iconst 1, 1) := by decide +kernel
theorem dX11_grows_11 : decode cX11_grows 11 = .ok (.goto 20, 3) := by decide +kernel
theorem dX11_grows_14 : decode cX11_grows 14 = .ok (.iload_n 2, 1) := by decide +kernel
theorem dX11_grows_15 : decode cX11_grows 15 = .ok (.i2l, 1) := by decide +kernel
theorem dX11_grows_16 : decode cX11_grows 16 = .ok (.lconst 0, 1) := by decide +kernel
theorem dX11_grows_17 : decode cX11_grows 17 = .ok (.ldc2_w 313, 3) := by decide +kernel
theorem dX11_grows_20 : decode cX11_grows 20 = .ok (.invokestatic 133, 3) := by decide +kernel
theorem dX11_grows_23 : decode cX11_grows 23 = .ok (.ifCond .eq 7, 3) := by decide +kernel
theorem dX11_grows_26 : decode cX11_grows 26 = .ok (.iconst 0, 1) := by decide +kernel
theorem dX11_grows_27 : decode cX11_grows 27 = .ok (.goto 4, 3) := by decide +kernel
theorem dX11_grows_30 : decode cX11_grows 30 = .ok (.iconst 2, 1) := by decide +kernel
theorem dX11_grows_31 : decode cX11_grows 31 = .ok (.putfield 64, 3) := by decide +kernel
theorem dX11_grows_34 : decode cX11_grows 34 = .ok (.aload_n 0, 1) := by decide +kernel
theorem dX11_grows_35 : decode cX11_grows 35 = .ok (.getfield 64, 3) := by decide +kernel
theorem dX11_grows_38 : decode cX11_grows 38 = .ok (.ifCond .le 5, 3) := by decide +kernel
theorem dX11_grows_41 : decode cX11_grows 41 = .ok (.lconst 0, 1) := by decide +kernel
theorem dX11_grows_42 : decode cX11_grows 42 = .ok (.lreturn, 1) := by decide +kernel
theorem dX11_grows_43 : decode cX11_grows 43 = .ok (.aload_n 0, 1) := by decide +kernel
theorem dX11_grows_44 : decode cX11_grows 44 = .ok (.iload_n 1, 1) := by decide +kernel
theorem dX11_grows_45 : decode cX11_grows 45 = .ok (.invokevirtual 297, 3) := by decide +kernel
theorem dX11_grows_48 : decode cX11_grows 48 = .ok (.iconst 0, 1) := by decide +kernel
theorem dX11_grows_49 : decode cX11_grows 49 = .ok (.istore_n 3, 1) := by decide +kernel
theorem dX11_grows_50 : decode cX11_grows 50 = .ok (.iconst 0, 1) := by decide +kernel
theorem dX11_grows_51 : decode cX11_grows 51 = .ok (.istore 4, 2) := by decide +kernel
theorem dX11_grows_53 : decode cX11_grows 53 = .ok (.iload 4, 2) := by decide +kernel
theorem dX11_grows_55 : decode cX11_grows 55 = .ok (.iload_n 2, 1) := by decide +kernel
theorem dX11_grows_56 : decode cX11_grows 56 = .ok (.if_icmp .ge 95, 3) := by decide +kernel
theorem dX11_grows_59 : decode cX11_grows 59 = .ok (.aload_n 0, 1) := by decide +kernel
theorem dX11_grows_60 : decode cX11_grows 60 = .ok (.getfield 291, 3) := by decide +kernel
theorem dX11_grows_63 : decode cX11_grows 63 = .ok (.istore 5, 2) := by decide +kernel
theorem dX11_grows_65 : decode cX11_grows 65 = .ok (.iload_n 3, 1) := by decide +kernel
theorem dX11_grows_66 : decode cX11_grows 66 = .ok (.istore 6, 2) := by decide +kernel
theorem dX11_grows_68 : decode cX11_grows 68 = .ok (.iload 6, 2) := by decide +kernel
theorem dX11_grows_70 : decode cX11_grows 70 = .ok (.iload 5, 2) := by decide +kernel
theorem dX11_grows_72 : decode cX11_grows 72 = .ok (.if_icmp .ge 56, 3) := by decide +kernel
theorem dX11_grows_75 : decode cX11_grows 75 = .ok (.iconst 0, 1) := by decide +kernel
theorem dX11_grows_76 : decode cX11_grows 76 = .ok (.istore 7, 2) := by decide +kernel
theorem dX11_grows_78 : decode cX11_grows 78 = .ok (.iload 7, 2) := by decide +kernel
theorem dX11_grows_80 : decode cX11_grows 80 = .ok (.aload_n 0, 1) := by decide +kernel
theorem dX11_grows_81 : decode cX11_grows 81 = .ok (.getfield 9, 3) := by decide +kernel
theorem dX11_grows_84 : decode cX11_grows 84 = .ok (.iconst 3, 1) := by decide +kernel
theorem dX11_grows_85 : decode cX11_grows 85 = .ok (.iaload, 1) := by decide +kernel
theorem dX11_grows_86 : decode cX11_grows 86 = .ok (.if_icmp .ge 36, 3) := by decide +kernel
theorem dX11_grows_89 : decode cX11_grows 89 = .ok (.aload_n 0, 1) := by decide +kernel
theorem dX11_grows_90 : decode cX11_grows 90 = .ok (.aload_n 0, 1) := by decide +kernel
theorem dX11_grows_91 : decode cX11_grows 91 = .ok (.getfield 40, 3) := by decide +kernel
theorem dX11_grows_94 : decode cX11_grows 94 = .ok (.iload 6, 2) := by decide +kernel
theorem dX11_grows_96 : decode cX11_grows 96 = .ok (.iaload, 1) := by decide +kernel
theorem dX11_grows_97 : decode cX11_grows 97 = .ok (.iload 7, 2) := by decide +kernel
theorem dX11_grows_99 : decode cX11_grows 99 = .ok (.invokevirtual 303, 3) := by decide +kernel
theorem dX11_grows_102 : decode cX11_grows 102 = .ok (.istore 8, 2) := by decide +kernel
theorem dX11_grows_104 : decode cX11_grows 104 = .ok (.iload 8, 2) := by decide +kernel
theorem dX11_grows_106 : decode cX11_grows 106 = .ok (.iconst (-1), 1) := by decide +kernel
theorem dX11_grows_107 : decode cX11_grows 107 = .ok (.if_icmp .eq 9, 3) := by decide +kernel
theorem dX11_grows_110 : decode cX11_grows 110 = .ok (.aload_n 0, 1) := by decide +kernel
theorem dX11_grows_111 : decode cX11_grows 111 = .ok (.iload 8, 2) := by decide +kernel
theorem dX11_grows_113 : decode cX11_grows 113 = .ok (.invokevirtual 306, 3) := by decide +kernel
theorem dX11_grows_116 : decode cX11_grows 116 = .ok (.iinc 7 1, 3) := by decide +kernel
theorem dX11_grows_119 : decode cX11_grows 119 = .ok (.goto (-41), 3) := by decide +kernel
theorem dX11_grows_122 : decode cX11_grows 122 = .ok (.iinc 6 1, 3) := by decide +kernel
theorem dX11_grows_125 : decode cX11_grows 125 = .ok (.goto (-57), 3) := by decide +kernel
theorem dX11_grows_128 : decode cX11_grows 128 = .ok (.aload_n 0, 1) := by decide +kernel
theorem dX11_grows_129 : decode cX11_grows 129 = .ok (.getfield 291, 3) := by decide +kernel
theorem dX11_grows_132 : decode cX11_grows 132 = .ok (.sipush 3000, 3) := by decide +kernel
theorem dX11_grows_135 : decode cX11_grows 135 = .ok (.if_icmp .le 7, 3) := by decide +kernel
theorem dX11_grows_138 : decode cX11_grows 138 = .ok (.ldc2_w 315, 3) := by decide +kernel
theorem dX11_grows_141 : decode cX11_grows 141 = .ok (.lreturn, 1) := by decide +kernel
theorem dX11_grows_142 : decode cX11_grows 142 = .ok (.iload 5, 2) := by decide +kernel
theorem dX11_grows_144 : decode cX11_grows 144 = .ok (.istore_n 3, 1) := by decide +kernel
theorem dX11_grows_145 : decode cX11_grows 145 = .ok (.iinc 4 1, 3) := by decide +kernel
theorem dX11_grows_148 : decode cX11_grows 148 = .ok (.goto (-95), 3) := by decide +kernel
theorem dX11_grows_151 : decode cX11_grows 151 = .ok (.lconst 0, 1) := by decide +kernel
theorem dX11_grows_152 : decode cX11_grows 152 = .ok (.lstore 4, 2) := by decide +kernel
theorem dX11_grows_154 : decode cX11_grows 154 = .ok (.iconst 0, 1) := by decide +kernel
theorem dX11_grows_155 : decode cX11_grows 155 = .ok (.istore 6, 2) := by decide +kernel
theorem dX11_grows_157 : decode cX11_grows 157 = .ok (.iload 6, 2) := by decide +kernel
theorem dX11_grows_159 : decode cX11_grows 159 = .ok (.aload_n 0, 1) := by decide +kernel
theorem dX11_grows_160 : decode cX11_grows 160 = .ok (.getfield 291, 3) := by decide +kernel
theorem dX11_grows_163 : decode cX11_grows 163 = .ok (.if_icmp .ge 27, 3) := by decide +kernel
theorem dX11_grows_166 : decode cX11_grows 166 = .ok (.lload 4, 2) := by decide +kernel
theorem dX11_grows_168 : decode cX11_grows 168 = .ok (.aload_n 0, 1) := by decide +kernel
theorem dX11_grows_169 : decode cX11_grows 169 = .ok (.aload_n 0, 1) := by decide +kernel
theorem dX11_grows_170 : decode cX11_grows 170 = .ok (.getfield 40, 3) := by decide +kernel
theorem dX11_grows_173 : decode cX11_grows 173 = .ok (.iload 6, 2) := by decide +kernel
theorem dX11_grows_175 : decode cX11_grows 175 = .ok (.iaload, 1) := by decide +kernel
theorem dX11_grows_176 : decode cX11_grows 176 = .ok (.invokevirtual 317, 3) := by decide +kernel
theorem dX11_grows_179 : decode cX11_grows 179 = .ok (.invokestatic 288, 3) := by decide +kernel
theorem dX11_grows_182 : decode cX11_grows 182 = .ok (.lstore 4, 2) := by decide +kernel
theorem dX11_grows_184 : decode cX11_grows 184 = .ok (.iinc 6 1, 3) := by decide +kernel
theorem dX11_grows_187 : decode cX11_grows 187 = .ok (.goto (-30), 3) := by decide +kernel
theorem dX11_grows_190 : decode cX11_grows 190 = .ok (.lload 4, 2) := by decide +kernel
theorem dX11_grows_192 : decode cX11_grows 192 = .ok (.lreturn, 1) := by decide +kernel
theorem dX11_swap_0 : decode cX11_swap 0 = .ok (.aload_n 0, 1) := by decide +kernel
theorem dX11_swap_1 : decode cX11_swap 1 = .ok (.aload_n 0, 1) := by decide +kernel
theorem dX11_swap_2 : decode cX11_swap 2 = .ok (.iload_n 1, 1) := by decide +kernel
theorem dX11_swap_3 : decode cX11_swap 3 = .ok (.i2l, 1) := by decide +kernel
theorem dX11_swap_4 : decode cX11_swap 4 = .ok (.invokevirtual 203, 3) := by decide +kernel
theorem dX11_swap_7 : decode cX11_swap 7 = .ok (.ifCond .eq 12, 3) := by decide +kernel
theorem dX11_swap_10 : decode cX11_swap 10 = .ok (.aload_n 0, 1) := by decide +kernel
theorem dX11_swap_11 : decode cX11_swap 11 = .ok (.iload_n 2, 1) := by decide +kernel
theorem dX11_swap_12 : decode cX11_swap 12 = .ok (.i2l, 1) := by decide +kernel
theorem dX11_swap_13 : decode cX11_swap 13 = .ok (.invokevirtual 203, 3) := by decide +kernel
theorem dX11_swap_16 : decode cX11_swap 16 = .ok (.ifCond .ne 7, 3) := by decide +kernel
theorem dX11_swap_19 : decode cX11_swap 19 = .ok (.iconst 1, 1) := by decide +kernel
theorem dX11_swap_20 : decode cX11_swap 20 = .ok (.goto 25, 3) := by decide +kernel
theorem dX11_swap_23 : decode cX11_swap 23 = .ok (.iload_n 1, 1) := by decide +kernel
theorem dX11_swap_24 : decode cX11_swap 24 = .ok (.iload_n 2, 1) := by decide +kernel
theorem dX11_swap_25 : decode cX11_swap 25 = .ok (.if_icmp .eq 15, 3) := by decide +kernel
theorem dX11_swap_28 : decode cX11_swap 28 = .ok (.iload_n 3, 1) := by decide +kernel
theorem dX11_swap_29 : decode cX11_swap 29 = .ok (.i2l, 1) := by decide +kernel
theorem dX11_swap_30 : decode cX11_swap 30 = .ok (.lconst 0, 1) := by decide +kernel
theorem dX11_swap_31 : decode cX11_swap 31 = .ok (.ldc2_w 129, 3) := by decide +kernel
theorem dX11_swap_34 : decode cX11_swap 34 = .ok (.invokestatic 133, 3) := by decide +kernel
theorem dX11_swap_37 : decode cX11_swap 37 = .ok (.ifCond .ne 7, 3) := by decide +kernel
theorem dX11_swap_40 : decode cX11_swap 40 = .ok (.iconst 2, 1) := by decide +kernel
theorem dX11_swap_41 : decode cX11_swap 41 = .ok (.goto 4, 3) := by decide +kernel
theorem dX11_swap_44 : decode cX11_swap 44 = .ok (.iconst 0, 1) := by decide +kernel
theorem dX11_swap_45 : decode cX11_swap 45 = .ok (.putfield 64, 3) := by decide +kernel
theorem dX11_swap_48 : decode cX11_swap 48 = .ok (.aload_n 0, 1) := by decide +kernel
theorem dX11_swap_49 : decode cX11_swap 49 = .ok (.getfield 64, 3) := by decide +kernel
theorem dX11_swap_52 : decode cX11_swap 52 = .ok (.ifCond .le 5, 3) := by decide +kernel
theorem dX11_swap_55 : decode cX11_swap 55 = .ok (.lconst 0, 1) := by decide +kernel
theorem dX11_swap_56 : decode cX11_swap 56 = .ok (.lreturn, 1) := by decide +kernel
theorem dX11_swap_57 : decode cX11_swap 57 = .ok (.iconst (-1), 1) := by decide +kernel
theorem dX11_swap_58 : decode cX11_swap 58 = .ok (.istore 4, 2) := by decide +kernel
theorem dX11_swap_60 : decode cX11_swap 60 = .ok (.iconst (-1), 1) := by decide +kernel
theorem dX11_swap_61 : decode cX11_swap 61 = .ok (.istore 5, 2) := by decide +kernel
theorem dX11_swap_63 : decode cX11_swap 63 = .ok (.lconst 0, 1) := by decide +kernel
theorem dX11_swap_64 : decode cX11_swap 64 = .ok (.lstore 6, 2) := by decide +kernel
theorem dX11_swap_66 : decode cX11_swap 66 = .ok (.iconst 0, 1) := by decide +kernel
theorem dX11_swap_67 : decode cX11_swap 67 = .ok (.istore 8, 2) := by decide +kernel
theorem dX11_swap_69 : decode cX11_swap 69 = .ok (.iload 8, 2) := by decide +kernel
theorem dX11_swap_71 : decode cX11_swap 71 = .ok (.aload_n 0, 1) := by decide +kernel
theorem dX11_swap_72 : decode cX11_swap 72 = .ok (.invokevirtual 193, 3) := by decide +kernel
theorem dX11_swap_75 : decode cX11_swap 75 = .ok (.if_icmp .ge 142, 3) := by decide +kernel
theorem dX11_swap_78 : decode cX11_swap 78 = .ok (.iconst 0, 1) := by decide +kernel
theorem dX11_swap_79 : decode cX11_swap 79 = .ok (.istore 9, 2) := by decide +kernel
theorem dX11_swap_81 : decode cX11_swap 81 = .ok (.iload 9, 2) := by decide +kernel
theorem dX11_swap_83 : decode cX11_swap 83 = .ok (.aload_n 0, 1) := by decide +kernel
theorem dX11_swap_84 : decode cX11_swap 84 = .ok (.invokevirtual 193, 3) := by decide +kernel
theorem dX11_swap_87 : decode cX11_swap 87 = .ok (.if_icmp .ge 124, 3) := by decide +kernel
theorem dX11_swap_90 : decode cX11_swap 90 = .ok (.iload 8, 2) := by decide +kernel
theorem dX11_swap_92 : decode cX11_swap 92 = .ok (.iload 9, 2) := by decide +kernel
theorem dX11_swap_94 : decode cX11_swap 94 = .ok (.if_icmp .eq 111, 3) := by decide +kernel
theorem dX11_swap_97 : decode cX11_swap 97 = .ok (.aload_n 0, 1) := by decide +kernel
theorem dX11_swap_98 : decode cX11_swap 98 = .ok (.iload_n 1, 1) := by decide +kernel
theorem dX11_swap_99 : decode cX11_swap 99 = .ok (.iload 8, 2) := by decide +kernel
theorem dX11_swap_101 : decode cX11_swap 101 = .ok (.invokevirtual 196, 3) := by decide +kernel
theorem dX11_swap_104 : decode cX11_swap 104 = .ok (.ifCond .eq 101, 3) := by decide +kernel
theorem dX11_swap_107 : decode cX11_swap 107 = .ok (.aload_n 0, 1) := by decide +kernel
theorem dX11_swap_108 : decode cX11_swap 108 = .ok (.iload_n 2, 1) := by decide +kernel
theorem dX11_swap_109 : decode cX11_swap 109 = .ok (.iload 9, 2) := by decide +kernel
theorem dX11_swap_111 : decode cX11_swap 111 = .ok (.invokevirtual 196, 3) := by decide +kernel
theorem dX11_swap_114 : decode cX11_swap 114 = .ok (.ifCond .ne 6, 3) := by decide +kernel
theorem dX11_swap_117 : decode cX11_swap 117 = .ok (.goto 88, 3) := by decide +kernel
theorem dX11_swap_120 : decode cX11_swap 120 = .ok (.aload_n 0, 1) := by decide +kernel
theorem dX11_swap_121 : decode cX11_swap 121 = .ok (.iload_n 1, 1) := by decide +kernel
theorem dX11_swap_122 : decode cX11_swap 122 = .ok (.invokevirtual 220, 3) := by decide +kernel
theorem dX11_swap_125 : decode cX11_swap 125 = .ok (.aload_n 0, 1) := by decide +kernel
theorem dX11_swap_126 : decode cX11_swap 126 = .ok (.iload 8, 2) := by decide +kernel
theorem dX11_swap_128 : decode cX11_swap 128 = .ok (.invokevirtual 200, 3) := by decide +kernel
theorem dX11_swap_131 : decode cX11_swap 131 = .ok (.i2l, 1) := by decide +kernel
theorem dX11_swap_132 : decode cX11_swap 132 = .ok (.ldiv, 1) := by decide +kernel
theorem dX11_swap_133 : decode cX11_swap 133 = .ok (.aload_n 0, 1) := by decide +kernel
theorem dX11_swap_134 : decode cX11_swap 134 = .ok (.iload 9, 2) := by decide +kernel
theorem dX11_swap_136 : decode cX11_swap 136 = .ok (.invokevirtual 200, 3) := by decide +kernel
theorem dX11_swap_139 : decode cX11_swap 139 = .ok (.i2l, 1) := by decide +kernel
theorem dX11_swap_140 : decode cX11_swap 140 = .ok (.lmul, 1) := by decide +kernel
theorem dX11_swap_141 : decode cX11_swap 141 = .ok (.aload_n 0, 1) := by decide +kernel
theorem dX11_swap_142 : decode cX11_swap 142 = .ok (.iload_n 2, 1) := by decide +kernel
theorem dX11_swap_143 : decode cX11_swap 143 = .ok (.invokevirtual 220, 3) := by decide +kernel
theorem dX11_swap_146 : decode cX11_swap 146 = .ok (.aload_n 0, 1) := by decide +kernel
theorem dX11_swap_147 : decode cX11_swap 147 = .ok (.iload 9, 2) := by decide +kernel
theorem dX11_swap_149 : decode cX11_swap 149 = .ok (.invokevirtual 200, 3) := by decide +kernel
theorem dX11_swap_152 : decode cX11_swap 152 = .ok (.i2l, 1) := by decide +kernel
theorem dX11_swap_153 : decode cX11_swap 153 = .ok (.ldiv, 1) := by decide +kernel
theorem dX11_swap_154 : decode cX11_swap 154 = .ok (.aload_n 0, 1) := by decide +kernel
theorem dX11_swap_155 : decode cX11_swap 155 = .ok (.iload 8, 2) := by decide +kernel
theorem dX11_swap_157 : decode cX11_swap 157 = .ok (.invokevirtual 200, 3) := by decide +kernel
theorem dX11_swap_160 : decode cX11_swap 160 = .ok (.i2l, 1) := by decide +kernel
theorem dX11_swap_161 : decode cX11_swap 161 = .ok (.lmul, 1) := by decide +kernel
theorem dX11_swap_162 : decode cX11_swap 162 = .ok (.lsub, 1) := by decide +kernel
theorem dX11_swap_163 : decode cX11_swap 163 = .ok (.invokestatic 320, 3) := by decide +kernel
theorem dX11_swap_166 : decode cX11_swap 166 = .ok (.lstore 10, 2) := by decide +kernel
theorem dX11_swap_168 : decode cX11_swap 168 = .ok (.iload 4, 2) := by decide +kernel
theorem dX11_swap_170 : decode cX11_swap 170 = .ok (.iconst (-1), 1) := by decide +kernel
theorem dX11_swap_171 : decode cX11_swap 171 = .ok (.if_icmp .eq 14, 3) := by decide +kernel
theorem dX11_swap_174 : decode cX11_swap 174 = .ok (.lload 10, 2) := by decide +kernel
theorem dX11_swap_176 : decode cX11_swap 176 = .ok (.lload 6, 2) := by decide +kernel
theorem dX11_swap_178 : decode cX11_swap 178 = .ok (.lcmp, 1) := by decide +kernel
theorem dX11_swap_179 : decode cX11_swap 179 = .ok (.ifCond .lt 6, 3) := by decide +kernel
theorem dX11_swap_182 : decode cX11_swap 182 = .ok (.goto 23, 3) := by decide +kernel
theorem dX11_swap_185 : decode cX11_swap 185 = .ok (.aload_n 0, 1) := by decide +kernel
theorem dX11_swap_186 : decode cX11_swap 186 = .ok (.iload 8, 2) := by decide +kernel
theorem dX11_swap_188 : decode cX11_swap 188 = .ok (.invokevirtual 200, 3) := by decide +kernel
theorem dX11_swap_191 : decode cX11_swap 191 = .ok (.istore 4, 2) := by decide +kernel
theorem dX11_swap_193 : decode cX11_swap 193 = .ok (.aload_n 0, 1) := by decide +kernel
theorem dX11_swap_194 : decode cX11_swap 194 = .ok (.iload 9, 2) := by decide +kernel
theorem dX11_swap_196 : decode cX11_swap 196 = .ok (.invokevirtual 200, 3) := by decide +kernel
theorem dX11_swap_199 : decode cX11_swap 199 = .ok (.istore 5, 2) := by decide +kernel
theorem dX11_swap_201 : decode cX11_swap 201 = .ok (.lload 10, 2) := by decide +kernel
theorem dX11_swap_203 : decode cX11_swap 203 = .ok (.lstore 6, 2) := by decide +kernel
theorem dX11_swap_205 : decode cX11_swap 205 = .ok (.iinc 9 1, 3) := by decide +kernel
theorem dX11_swap_208 : decode cX11_swap 208 = .ok (.goto (-127), 3) := by decide +kernel
theorem dX11_swap_211 : decode cX11_swap 211 = .ok (.iinc 8 1, 3) := by decide +kernel
theorem dX11_swap_214 : decode cX11_swap 214 = .ok (.goto (-145), 3) := by decide +kernel
theorem dX11_swap_217 : decode cX11_swap 217 = .ok (.iload 4, 2) := by decide +kernel
theorem dX11_swap_219 : decode cX11_swap 219 = .ok (.iconst (-1), 1) := by decide +kernel
theorem dX11_swap_220 : decode cX11_swap 220 = .ok (.if_icmp .ne 9, 3) := by decide +kernel
theorem dX11_swap_223 : decode cX11_swap 223 = .ok (.ldc2_w 286, 3) := by decide +kernel
theorem dX11_swap_226 : decode cX11_swap 226 = .ok (.goto 26, 3) := by decide +kernel
theorem dX11_swap_229 : decode cX11_swap 229 = .ok (.iload_n 3, 1) := by decide +kernel
theorem dX11_swap_230 : decode cX11_swap 230 = .ok (.ifCond .ne 9, 3) := by decide +kernel
theorem dX11_swap_233 : decode cX11_swap 233 = .ok (.iload 4, 2) := by decide +kernel
theorem dX11_swap_235 : decode cX11_swap 235 = .ok (.i2l, 1) := by decide +kernel
theorem dX11_swap_236 : decode cX11_swap 236 = .ok (.goto 16, 3) := by decide +kernel
theorem dX11_swap_239 : decode cX11_swap 239 = .ok (.iload_n 3, 1) := by decide +kernel
theorem dX11_swap_240 : decode cX11_swap 240 = .ok (.iconst 1, 1) := by decide +kernel
theorem dX11_swap_241 : decode cX11_swap 241 = .ok (.if_icmp .ne 9, 3) := by decide +kernel
theorem dX11_swap_244 : decode cX11_swap 244 = .ok (.iload 5, 2) := by decide +kernel
theorem dX11_swap_246 : decode cX11_swap 246 = .ok (.i2l, 1) := by decide +kernel
theorem dX11_swap_247 : decode cX11_swap 247 = .ok (.goto 5, 3) := by decide +kernel
theorem dX11_swap_250 : decode cX11_swap 250 = .ok (.lload 6, 2) := by decide +kernel
theorem dX11_swap_252 : decode cX11_swap 252 = .ok (.lreturn, 1) := by decide +kernel
theorem dX11_haveAll_0 : decode cX11_haveAll 0 = .ok (.iconst 0, 1) := by decide +kernel
theorem dX11_haveAll_1 : decode cX11_haveAll 1 = .ok (.istore_n 2, 1) := by decide +kernel
theorem dX11_haveAll_2 : decode cX11_haveAll 2 = .ok (.iload_n 2, 1) := by decide +kernel
theorem dX11_haveAll_3 : decode cX11_haveAll 3 = .ok (.aload_n 0, 1) := by decide +kernel
theorem dX11_haveAll_4 : decode cX11_haveAll 4 = .ok (.invokevirtual 193, 3) := by decide +kernel
theorem dX11_haveAll_7 : decode cX11_haveAll 7 = .ok (.if_icmp .ge 65, 3) := by decide +kernel
theorem dX11_haveAll_10 : decode cX11_haveAll 10 = .ok (.iconst 0, 1) := by decide +kernel
theorem dX11_haveAll_11 : decode cX11_haveAll 11 = .ok (.istore_n 3, 1) := by decide +kernel
theorem dX11_haveAll_12 : decode cX11_haveAll 12 = .ok (.iconst 0, 1) := by decide +kernel
theorem dX11_haveAll_13 : decode cX11_haveAll 13 = .ok (.istore 4, 2) := by decide +kernel
theorem dX11_haveAll_15 : decode cX11_haveAll 15 = .ok (.iload 4, 2) := by decide +kernel
theorem dX11_haveAll_17 : decode cX11_haveAll 17 = .ok (.aload_n 0, 1) := by decide +kernel
theorem dX11_haveAll_18 : decode cX11_haveAll 18 = .ok (.invokevirtual 190, 3) := by decide +kernel
theorem dX11_haveAll_21 : decode cX11_haveAll 21 = .ok (.if_icmp .ge 33, 3) := by decide +kernel
theorem dX11_haveAll_24 : decode cX11_haveAll 24 = .ok (.iload_n 3, 1) := by decide +kernel
theorem dX11_haveAll_25 : decode cX11_haveAll 25 = .ok (.iload_n 1, 1) := by decide +kernel
theorem dX11_haveAll_26 : decode cX11_haveAll 26 = .ok (.iload 4, 2) := by decide +kernel
theorem dX11_haveAll_28 : decode cX11_haveAll 28 = .ok (.ishr, 1) := by decide +kernel
theorem dX11_haveAll_29 : decode cX11_haveAll 29 = .ok (.iconst 1, 1) := by decide +kernel
theorem dX11_haveAll_30 : decode cX11_haveAll 30 = .ok (.iand, 1) := by decide +kernel
theorem dX11_haveAll_31 : decode cX11_haveAll 31 = .ok (.iconst 1, 1) := by decide +kernel
theorem dX11_haveAll_32 : decode cX11_haveAll 32 = .ok (.if_icmp .ne 13, 3) := by decide +kernel
theorem dX11_haveAll_35 : decode cX11_haveAll 35 = .ok (.aload_n 0, 1) := by decide +kernel
theorem dX11_haveAll_36 : decode cX11_haveAll 36 = .ok (.iload 4, 2) := by decide +kernel
theorem dX11_haveAll_38 : decode cX11_haveAll 38 = .ok (.iload_n 2, 1) := by decide +kernel
theorem dX11_haveAll_39 : decode cX11_haveAll 39 = .ok (.invokevirtual 196, 3) := by decide +kernel
theorem dX11_haveAll_42 : decode cX11_haveAll 42 = .ok (.goto 4, 3) := by decide +kernel
theorem dX11_haveAll_45 : decode cX11_haveAll 45 = .ok (.iconst 0, 1) := by decide +kernel
theorem dX11_haveAll_46 : decode cX11_haveAll 46 = .ok (.iadd, 1) := by decide +kernel
theorem dX11_haveAll_47 : decode cX11_haveAll 47 = .ok (.istore_n 3, 1) := by decide +kernel
theorem dX11_haveAll_48 : decode cX11_haveAll 48 = .ok (.iinc 4 1, 3) := by decide +kernel
theorem dX11_haveAll_51 : decode cX11_haveAll 51 = .ok (.goto (-36), 3) := by decide +kernel
theorem dX11_haveAll_54 : decode cX11_haveAll 54 = .ok (.iload_n 3, 1) := by decide +kernel
theorem dX11_haveAll_55 : decode cX11_haveAll 55 = .ok (.aload_n 0, 1) := by decide +kernel
theorem dX11_haveAll_56 : decode cX11_haveAll 56 = .ok (.getfield 33, 3) := by decide +kernel
theorem dX11_haveAll_59 : decode cX11_haveAll 59 = .ok (.iload_n 2, 1) := by decide +kernel
theorem dX11_haveAll_60 : decode cX11_haveAll 60 = .ok (.iaload, 1) := by decide +kernel
theorem dX11_haveAll_61 : decode cX11_haveAll 61 = .ok (.if_icmp .ge 5, 3) := by decide +kernel
theorem dX11_haveAll_64 : decode cX11_haveAll 64 = .ok (.iconst 0, 1) := by decide +kernel
theorem dX11_haveAll_65 : decode cX11_haveAll 65 = .ok (.ireturn, 1) := by decide +kernel
theorem dX11_haveAll_66 : decode cX11_haveAll 66 = .ok (.iinc 2 1, 3) := by decide +kernel
theorem dX11_haveAll_69 : decode cX11_haveAll 69 = .ok (.goto (-67), 3) := by decide +kernel
theorem dX11_haveAll_72 : decode cX11_haveAll 72 = .ok (.iconst 1, 1) := by decide +kernel
theorem dX11_haveAll_73 : decode cX11_haveAll 73 = .ok (.ireturn, 1) := by decide +kernel
theorem dX11_bits_0 : decode cX11_bits 0 = .ok (.iconst 0, 1) := by decide +kernel
theorem dX11_bits_1 : decode cX11_bits 1 = .ok (.istore_n 1, 1) := by decide +kernel
theorem dX11_bits_2 : decode cX11_bits 2 = .ok (.iload_n 0, 1) := by decide +kernel
theorem dX11_bits_3 : decode cX11_bits 3 = .ok (.istore_n 2, 1) := by decide +kernel
theorem dX11_bits_4 : decode cX11_bits 4 = .ok (.iload_n 2, 1) := by decide +kernel
theorem dX11_bits_5 : decode cX11_bits 5 = .ok (.ifCond .eq 15, 3) := by decide +kernel
theorem dX11_bits_8 : decode cX11_bits 8 = .ok (.iinc 1 1, 3) := by decide +kernel
theorem dX11_bits_11 : decode cX11_bits 11 = .ok (.iload_n 2, 1) := by decide +kernel
theorem dX11_bits_12 : decode cX11_bits 12 = .ok (.iload_n 2, 1) := by decide +kernel
theorem dX11_bits_13 : decode cX11_bits 13 = .ok (.iconst 1, 1) := by decide +kernel
theorem dX11_bits_14 : decode cX11_bits 14 = .ok (.isub, 1) := by decide +kernel
theorem dX11_bits_15 : decode cX11_bits 15 = .ok (.iand, 1) := by decide +kernel
theorem dX11_bits_16 : decode cX11_bits 16 = .ok (.istore_n 2, 1) := by decide +kernel
theorem dX11_bits_17 : decode cX11_bits 17 = .ok (.goto (-13), 3) := by decide +kernel
theorem dX11_bits_20 : decode cX11_bits 20 = .ok (.iload_n 1, 1) := by decide +kernel
theorem dX11_bits_21 : decode cX11_bits 21 = .ok (.ireturn, 1) := by decide +kernel
theorem dX11_together_0 : decode cX11_together 0 = .ok (.iload_n 1, 1) := by decide +kernel
theorem dX11_together_1 : decode cX11_together 1 = .ok (.i2l, 1) := by decide +kernel
theorem dX11_together_2 : decode cX11_together 2 = .ok (.lconst 0, 1) := by decide +kernel
theorem dX11_together_3 : decode cX11_together 3 = .ok (.iconst 1, 1) := by decide +kernel
theorem dX11_together_4 : decode cX11_together 4 = .ok (.aload_n 0, 1) := by decide +kernel
theorem dX11_together_5 : decode cX11_together 5 = .ok (.invokevirtual 190, 3) := by decide +kernel
theorem dX11_together_8 : decode cX11_together 8 = .ok (.ishl, 1) := by decide +kernel
theorem dX11_together_9 : decode cX11_together 9 = .ok (.iconst 1, 1) := by decide +kernel
theorem dX11_together_10 : decode cX11_together 10 = .ok (.isub, 1) := by decide +kernel
theorem dX11_together_11 : decode cX11_together 11 = .ok (.i2l, 1) := by decide +kernel
theorem dX11_together_12 : decode cX11_together 12 = .ok (.invokestatic 133, 3) := by decide +kernel
theorem dX11_together_15 : decode cX11_together 15 = .ok (.ifCond .eq 18, 3) := by decide +kernel
theorem dX11_together_18 : decode cX11_together 18 = .ok (.iload 4, 2) := by decide +kernel
theorem dX11_together_20 : decode cX11_together 20 = .ok (.i2l, 1) := by decide +kernel
theorem dX11_together_21 : decode cX11_together 21 = .ok (.lconst 0, 1) := by decide +kernel
theorem dX11_together_22 : decode cX11_together 22 = .ok (.lconst 1, 1) := by decide +kernel
theorem dX11_together_23 : decode cX11_together 23 = .ok (.invokestatic 133, 3) := by decide +kernel
theorem dX11_together_26 : decode cX11_together 26 = .ok (.ifCond .eq 7, 3) := by decide +kernel
theorem dX11_together_29 : decode cX11_together 29 = .ok (.iconst 1, 1) := by decide +kernel
theorem dX11_together_30 : decode cX11_together 30 = .ok (.goto 4, 3) := by decide +kernel
theorem dX11_together_33 : decode cX11_together 33 = .ok (.iconst 0, 1) := by decide +kernel
theorem dX11_together_34 : decode cX11_together 34 = .ok (.istore 5, 2) := by decide +kernel
theorem dX11_together_36 : decode cX11_together 36 = .ok (.aload_n 0, 1) := by decide +kernel
theorem dX11_together_37 : decode cX11_together 37 = .ok (.iload 5, 2) := by decide +kernel
theorem dX11_together_39 : decode cX11_together 39 = .ok (.ifCond .eq 15, 3) := by decide +kernel
theorem dX11_together_42 : decode cX11_together 42 = .ok (.aload_n 0, 1) := by decide +kernel
theorem dX11_together_43 : decode cX11_together 43 = .ok (.lload_n 2, 1) := by decide +kernel
theorem dX11_together_44 : decode cX11_together 44 = .ok (.invokevirtual 224, 3) := by decide +kernel
theorem dX11_together_47 : decode cX11_together 47 = .ok (.ifCond .eq 7, 3) := by decide +kernel
theorem dX11_together_50 : decode cX11_together 50 = .ok (.iconst 0, 1) := by decide +kernel
theorem dX11_together_51 : decode cX11_together 51 = .ok (.goto 4, 3) := by decide +kernel
theorem dX11_together_54 : decode cX11_together 54 = .ok (.iconst 1, 1) := by decide +kernel
theorem dX11_together_55 : decode cX11_together 55 = .ok (.putfield 64, 3) := by decide +kernel
theorem dX11_together_58 : decode cX11_together 58 = .ok (.aload_n 0, 1) := by decide +kernel
theorem dX11_together_59 : decode cX11_together 59 = .ok (.getfield 64, 3) := by decide +kernel
theorem dX11_together_62 : decode cX11_together 62 = .ok (.ifCond .le 5, 3) := by decide +kernel
theorem dX11_together_65 : decode cX11_together 65 = .ok (.iconst 0, 1) := by decide +kernel
theorem dX11_together_66 : decode cX11_together 66 = .ok (.ireturn, 1) := by decide +kernel
theorem dX11_together_67 : decode cX11_together 67 = .ok (.iconst (-1), 1) := by decide +kernel
theorem dX11_together_68 : decode cX11_together 68 = .ok (.istore 6, 2) := by decide +kernel
theorem dX11_together_70 : decode cX11_together 70 = .ok (.iconst 0, 1) := by decide +kernel
theorem dX11_together_71 : decode cX11_together 71 = .ok (.istore 7, 2) := by decide +kernel
theorem dX11_together_73 : decode cX11_together 73 = .ok (.iload 7, 2) := by decide +kernel
theorem dX11_together_75 : decode cX11_together 75 = .ok (.iload_n 1, 1) := by decide +kernel
theorem dX11_together_76 : decode cX11_together 76 = .ok (.if_icmp .gt 50, 3) := by decide +kernel
theorem dX11_together_79 : decode cX11_together 79 = .ok (.iload 7, 2) := by decide +kernel
theorem dX11_together_81 : decode cX11_together 81 = .ok (.iload_n 1, 1) := by decide +kernel
theorem dX11_together_82 : decode cX11_together 82 = .ok (.iconst (-1), 1) := by decide +kernel
theorem dX11_together_83 : decode cX11_together 83 = .ok (.ixor, 1) := by decide +kernel
theorem dX11_together_84 : decode cX11_together 84 = .ok (.iand, 1) := by decide +kernel
theorem dX11_together_85 : decode cX11_together 85 = .ok (.ifCond .ne 35, 3) := by decide +kernel
theorem dX11_together_88 : decode cX11_together 88 = .ok (.iload 6, 2) := by decide +kernel
theorem dX11_together_90 : decode cX11_together 90 = .ok (.iconst (-1), 1) := by decide +kernel
theorem dX11_together_91 : decode cX11_together 91 = .ok (.if_icmp .eq 16, 3) := by decide +kernel
theorem dX11_together_94 : decode cX11_together 94 = .ok (.iload 7, 2) := by decide +kernel
theorem dX11_together_96 : decode cX11_together 96 = .ok (.invokestatic 324, 3) := by decide +kernel
theorem dX11_together_99 : decode cX11_together 99 = .ok (.iload 6, 2) := by decide +kernel
theorem dX11_together_101 : decode cX11_together 101 = .ok (.invokestatic 324, 3) := by decide +kernel
theorem dX11_together_104 : decode cX11_together 104 = .ok (.if_icmp .ge 16, 3) := by decide +kernel
theorem dX11_together_107 : decode cX11_together 107 = .ok (.aload_n 0, 1) := by decide +kernel
theorem dX11_together_108 : decode cX11_together 108 = .ok (.iload 7, 2) := by decide +kernel
theorem dX11_together_110 : decode cX11_together 110 = .ok (.invokevirtual 327, 3) := by decide +kernel
theorem dX11_together_113 : decode cX11_together 113 = .ok (.ifCond .eq 7, 3) := by decide +kernel
theorem dX11_together_116 : decode cX11_together 116 = .ok (.iload 7, 2) := by decide +kernel
theorem dX11_together_118 : decode cX11_together 118 = .ok (.istore 6, 2) := by decide +kernel
theorem dX11_together_120 : decode cX11_together 120 = .ok (.iinc 7 1, 3) := by decide +kernel
theorem dX11_together_123 : decode cX11_together 123 = .ok (.goto (-50), 3) := by decide +kernel
theorem dX11_together_126 : decode cX11_together 126 = .ok (.iload 6, 2) := by decide +kernel
theorem dX11_together_128 : decode cX11_together 128 = .ok (.iconst (-1), 1) := by decide +kernel
theorem dX11_together_129 : decode cX11_together 129 = .ok (.if_icmp .ne 7, 3) := by decide +kernel
theorem dX11_together_132 : decode cX11_together 132 = .ok (.iconst (-1), 1) := by decide +kernel
theorem dX11_together_133 : decode cX11_together 133 = .ok (.goto 18, 3) := by decide +kernel
theorem dX11_together_136 : decode cX11_together 136 = .ok (.iload 4, 2) := by decide +kernel
theorem dX11_together_138 : decode cX11_together 138 = .ok (.ifCond .ne 11, 3) := by decide +kernel
theorem dX11_together_141 : decode cX11_together 141 = .ok (.iload 6, 2) := by decide +kernel
theorem dX11_together_143 : decode cX11_together 143 = .ok (.invokestatic 324, 3) := by decide +kernel
theorem dX11_together_146 : decode cX11_together 146 = .ok (.goto 5, 3) := by decide +kernel
theorem dX11_together_149 : decode cX11_together 149 = .ok (.iload 6, 2) := by decide +kernel
theorem dX11_together_151 : decode cX11_together 151 = .ok (.ireturn, 1) := by decide +kernel
theorem dX11_common_0 : decode cX11_common 0 = .ok (.aload_n 0, 1) := by decide +kernel
theorem dX11_common_1 : decode cX11_common 1 = .ok (.iconst 0, 1) := by decide +kernel
theorem dX11_common_2 : decode cX11_common 2 = .ok (.putfield 64, 3) := by decide +kernel
theorem dX11_common_5 : decode cX11_common 5 = .ok (.aload_n 0, 1) := by decide +kernel
theorem dX11_common_6 : decode cX11_common 6 = .ok (.iload_n 1, 1) := by decide +kernel
theorem dX11_common_7 : decode cX11_common 7 = .ok (.i2l, 1) := by decide +kernel
theorem dX11_common_8 : decode cX11_common 8 = .ok (.invokevirtual 203, 3) := by decide +kernel
theorem dX11_common_11 : decode cX11_common 11 = .ok (.ifCond .eq 12, 3) := by decide +kernel
theorem dX11_common_14 : decode cX11_common 14 = .ok (.aload_n 0, 1) := by decide +kernel
theorem dX11_common_15 : decode cX11_common 15 = .ok (.iload_n 2, 1) := by decide +kernel
theorem dX11_common_16 : decode cX11_common 16 = .ok (.i2l, 1) := by decide +kernel
theorem dX11_common_17 : decode cX11_common 17 = .ok (.invokevirtual 203, 3) := by decide +kernel
theorem dX11_common_20 : decode cX11_common 20 = .ok (.ifCond .ne 10, 3) := by decide +kernel
theorem dX11_common_23 : decode cX11_common 23 = .ok (.aload_n 0, 1) := by decide +kernel
theorem dX11_common_24 : decode cX11_common 24 = .ok (.iconst 1, 1) := by decide +kernel
theorem dX11_common_25 : decode cX11_common 25 = .ok (.invokevirtual 178, 3) := by decide +kernel
theorem dX11_common_28 : decode cX11_common 28 = .ok (.i2l, 1) := by decide +kernel
theorem dX11_common_29 : decode cX11_common 29 = .ok (.lreturn, 1) := by decide +kernel
theorem dX11_common_30 : decode cX11_common 30 = .ok (.lconst 1, 1) := by decide +kernel
theorem dX11_common_31 : decode cX11_common 31 = .ok (.lstore_n 3, 1) := by decide +kernel
theorem dX11_common_32 : decode cX11_common 32 = .ok (.iconst 0, 1) := by decide +kernel
theorem dX11_common_33 : decode cX11_common 33 = .ok (.istore 5, 2) := by decide +kernel
theorem dX11_common_35 : decode cX11_common 35 = .ok (.iload 5, 2) := by decide +kernel
theorem dX11_common_37 : decode cX11_common 37 = .ok (.aload_n 0, 1) := by decide +kernel
theorem dX11_common_38 : decode cX11_common 38 = .ok (.invokevirtual 193, 3) := by decide +kernel
theorem dX11_common_41 : decode cX11_common 41 = .ok (.if_icmp .ge 50, 3) := by decide +kernel
theorem dX11_common_44 : decode cX11_common 44 = .ok (.iconst 0, 1) := by decide +kernel
theorem dX11_common_45 : decode cX11_common 45 = .ok (.istore 6, 2) := by decide +kernel
theorem dX11_common_47 : decode cX11_common 47 = .ok (.iload 6, 2) := by decide +kernel
theorem dX11_common_49 : decode cX11_common 49 = .ok (.aload_n 0, 1) := by decide +kernel
theorem dX11_common_50 : decode cX11_common 50 = .ok (.iload_n 1, 1) := by decide +kernel
theorem dX11_common_51 : decode cX11_common 51 = .ok (.iload 5, 2) := by decide +kernel
theorem dX11_common_53 : decode cX11_common 53 = .ok (.invokevirtual 196, 3) := by decide +kernel
theorem dX11_common_56 : decode cX11_common 56 = .ok (.aload_n 0, 1) := by decide +kernel
theorem dX11_common_57 : decode cX11_common 57 = .ok (.iload_n 2, 1) := by decide +kernel
theorem dX11_common_58 : decode cX11_common 58 = .ok (.iload 5, 2) := by decide +kernel
theorem dX11_common_60 : decode cX11_common 60 = .ok (.invokevirtual 196, 3) := by decide +kernel
theorem dX11_common_63 : decode cX11_common 63 = .ok (.invokestatic 214, 3) := by decide +kernel
theorem dX11_common_66 : decode cX11_common 66 = .ok (.if_icmp .ge 19, 3) := by decide +kernel
theorem dX11_common_69 : decode cX11_common 69 = .ok (.lload_n 3, 1) := by decide +kernel
theorem dX11_common_70 : decode cX11_common 70 = .ok (.aload_n 0, 1) := by decide +kernel
theorem dX11_common_71 : decode cX11_common 71 = .ok (.iload 5, 2) := by decide +kernel
theorem dX11_common_73 : decode cX11_common 73 = .ok (.invokevirtual 200, 3) := by decide +kernel
theorem dX11_common_76 : decode cX11_common 76 = .ok (.i2l, 1) := by decide +kernel
theorem dX11_common_77 : decode cX11_common 77 = .ok (.lmul, 1) := by decide +kernel
theorem dX11_common_78 : decode cX11_common 78 = .ok (.lstore_n 3, 1) := by decide +kernel
theorem dX11_common_79 : decode cX11_common 79 = .ok (.iinc 6 1, 3) := by decide +kernel
theorem dX11_common_82 : decode cX11_common 82 = .ok (.goto (-35), 3) := by decide +kernel
theorem dX11_common_85 : decode cX11_common 85 = .ok (.iinc 5 1, 3) := by decide +kernel
theorem dX11_common_88 : decode cX11_common 88 = .ok (.goto (-53), 3) := by decide +kernel
theorem dX11_common_91 : decode cX11_common 91 = .ok (.lload_n 3, 1) := by decide +kernel
theorem dX11_common_92 : decode cX11_common 92 = .ok (.lreturn, 1) := by decide +kernel
theorem dX11_least_0 : decode cX11_least 0 = .ok (.aload_n 0, 1) := by decide +kernel
theorem dX11_least_1 : decode cX11_least 1 = .ok (.iconst 0, 1) := by decide +kernel
theorem dX11_least_2 : decode cX11_least 2 = .ok (.putfield 64, 3) := by decide +kernel
theorem dX11_least_5 : decode cX11_least 5 = .ok (.aload_n 0, 1) := by decide +kernel
theorem dX11_least_6 : decode cX11_least 6 = .ok (.iload_n 1, 1) := by decide +kernel
theorem dX11_least_7 : decode cX11_least 7 = .ok (.i2l, 1) := by decide +kernel
theorem dX11_least_8 : decode cX11_least 8 = .ok (.invokevirtual 203, 3) := by decide +kernel
theorem dX11_least_11 : decode cX11_least 11 = .ok (.ifCond .eq 12, 3) := by decide +kernel
theorem dX11_least_14 : decode cX11_least 14 = .ok (.aload_n 0, 1) := by decide +kernel
theorem dX11_least_15 : decode cX11_least 15 = .ok (.iload_n 2, 1) := by decide +kernel
theorem dX11_least_16 : decode cX11_least 16 = .ok (.i2l, 1) := by decide +kernel
theorem dX11_least_17 : decode cX11_least 17 = .ok (.invokevirtual 203, 3) := by decide +kernel
theorem dX11_least_20 : decode cX11_least 20 = .ok (.ifCond .ne 9, 3) := by decide +kernel
theorem dX11_least_23 : decode cX11_least 23 = .ok (.aload_n 0, 1) := by decide +kernel
theorem dX11_least_24 : decode cX11_least 24 = .ok (.iconst 1, 1) := by decide +kernel
theorem dX11_least_25 : decode cX11_least 25 = .ok (.invokevirtual 178, 3) := by decide +kernel
theorem dX11_least_28 : decode cX11_least 28 = .ok (.ireturn, 1) := by decide +kernel
theorem dX11_least_29 : decode cX11_least 29 = .ok (.iconst 0, 1) := by decide +kernel
theorem dX11_least_30 : decode cX11_least 30 = .ok (.istore_n 3, 1) := by decide +kernel
theorem dX11_least_31 : decode cX11_least 31 = .ok (.iconst 0, 1) := by decide +kernel
theorem dX11_least_32 : decode cX11_least 32 = .ok (.istore 4, 2) := by decide +kernel
theorem dX11_least_34 : decode cX11_least 34 = .ok (.iload 4, 2) := by decide +kernel
theorem dX11_least_36 : decode cX11_least 36 = .ok (.aload_n 0, 1) := by decide +kernel
theorem dX11_least_37 : decode cX11_least 37 = .ok (.invokevirtual 193, 3) := by decide +kernel
theorem dX11_least_40 : decode cX11_least 40 = .ok (.if_icmp .ge 29, 3) := by decide +kernel
theorem dX11_least_43 : decode cX11_least 43 = .ok (.iload_n 3, 1) := by decide +kernel
theorem dX11_least_44 : decode cX11_least 44 = .ok (.aload_n 0, 1) := by decide +kernel
theorem dX11_least_45 : decode cX11_least 45 = .ok (.iload_n 1, 1) := by decide +kernel
theorem dX11_least_46 : decode cX11_least 46 = .ok (.iload 4, 2) := by decide +kernel
theorem dX11_least_48 : decode cX11_least 48 = .ok (.invokevirtual 196, 3) := by decide +kernel
theorem dX11_least_51 : decode cX11_least 51 = .ok (.aload_n 0, 1) := by decide +kernel
theorem dX11_least_52 : decode cX11_least 52 = .ok (.iload_n 2, 1) := by decide +kernel
theorem dX11_least_53 : decode cX11_least 53 = .ok (.iload 4, 2) := by decide +kernel
theorem dX11_least_55 : decode cX11_least 55 = .ok (.invokevirtual 196, 3) := by decide +kernel
theorem dX11_least_58 : decode cX11_least 58 = .ok (.invokestatic 209, 3) := by decide +kernel
theorem dX11_least_61 : decode cX11_least 61 = .ok (.iadd, 1) := by decide +kernel
theorem dX11_least_62 : decode cX11_least 62 = .ok (.istore_n 3, 1) := by decide +kernel
theorem dX11_least_63 : decode cX11_least 63 = .ok (.iinc 4 1, 3) := by decide +kernel
theorem dX11_least_66 : decode cX11_least 66 = .ok (.goto (-32), 3) := by decide +kernel
theorem dX11_least_69 : decode cX11_least 69 = .ok (.iload_n 3, 1) := by decide +kernel
theorem dX11_least_70 : decode cX11_least 70 = .ok (.ireturn, 1) := by decide +kernel
theorem dX11_areFriends_0 : decode cX11_areFriends 0 = .ok (.iconst 0, 1) := by decide +kernel
theorem dX11_areFriends_1 : decode cX11_areFriends 1 = .ok (.istore_n 2, 1) := by decide +kernel
theorem dX11_areFriends_2 : decode cX11_areFriends 2 = .ok (.iload_n 2, 1) := by decide +kernel
theorem dX11_areFriends_3 : decode cX11_areFriends 3 = .ok (.aload_n 0, 1) := by decide +kernel
theorem dX11_areFriends_4 : decode cX11_areFriends 4 = .ok (.invokevirtual 193, 3) := by decide +kernel
theorem dX11_areFriends_7 : decode cX11_areFriends 7 = .ok (.if_icmp .ge 64, 3) := by decide +kernel
theorem dX11_areFriends_10 : decode cX11_areFriends 10 = .ok (.iconst 0, 1) := by decide +kernel
theorem dX11_areFriends_11 : decode cX11_areFriends 11 = .ok (.istore_n 3, 1) := by decide +kernel
theorem dX11_areFriends_12 : decode cX11_areFriends 12 = .ok (.iconst 0, 1) := by decide +kernel
theorem dX11_areFriends_13 : decode cX11_areFriends 13 = .ok (.istore 4, 2) := by decide +kernel
theorem dX11_areFriends_15 : decode cX11_areFriends 15 = .ok (.iload 4, 2) := by decide +kernel
theorem dX11_areFriends_17 : decode cX11_areFriends 17 = .ok (.aload_n 0, 1) := by decide +kernel
theorem dX11_areFriends_18 : decode cX11_areFriends 18 = .ok (.invokevirtual 190, 3) := by decide +kernel
theorem dX11_areFriends_21 : decode cX11_areFriends 21 = .ok (.if_icmp .ge 37, 3) := by decide +kernel
theorem dX11_areFriends_24 : decode cX11_areFriends 24 = .ok (.iload_n 3, 1) := by decide +kernel
theorem dX11_areFriends_25 : decode cX11_areFriends 25 = .ok (.iload_n 1, 1) := by decide +kernel
theorem dX11_areFriends_26 : decode cX11_areFriends 26 = .ok (.iload 4, 2) := by decide +kernel
theorem dX11_areFriends_28 : decode cX11_areFriends 28 = .ok (.ishr, 1) := by decide +kernel
theorem dX11_areFriends_29 : decode cX11_areFriends 29 = .ok (.iconst 1, 1) := by decide +kernel
theorem dX11_areFriends_30 : decode cX11_areFriends 30 = .ok (.iand, 1) := by decide +kernel
theorem dX11_areFriends_31 : decode cX11_areFriends 31 = .ok (.iconst 1, 1) := by decide +kernel
theorem dX11_areFriends_32 : decode cX11_areFriends 32 = .ok (.if_icmp .ne 17, 3) := by decide +kernel
theorem dX11_areFriends_35 : decode cX11_areFriends 35 = .ok (.aload_n 0, 1) := by decide +kernel
theorem dX11_areFriends_36 : decode cX11_areFriends 36 = .ok (.iload 4, 2) := by decide +kernel
theorem dX11_areFriends_38 : decode cX11_areFriends 38 = .ok (.iload_n 2, 1) := by decide +kernel
theorem dX11_areFriends_39 : decode cX11_areFriends 39 = .ok (.invokevirtual 196, 3) := by decide +kernel
theorem dX11_areFriends_42 : decode cX11_areFriends 42 = .ok (.ifCond .le 7, 3) := by decide +kernel
theorem dX11_areFriends_45 : decode cX11_areFriends 45 = .ok (.iconst 1, 1) := by decide +kernel
theorem dX11_areFriends_46 : decode cX11_areFriends 46 = .ok (.goto 4, 3) := by decide +kernel
theorem dX11_areFriends_49 : decode cX11_areFriends 49 = .ok (.iconst 0, 1) := by decide +kernel
theorem dX11_areFriends_50 : decode cX11_areFriends 50 = .ok (.iadd, 1) := by decide +kernel
theorem dX11_areFriends_51 : decode cX11_areFriends 51 = .ok (.istore_n 3, 1) := by decide +kernel
theorem dX11_areFriends_52 : decode cX11_areFriends 52 = .ok (.iinc 4 1, 3) := by decide +kernel
theorem dX11_areFriends_55 : decode cX11_areFriends 55 = .ok (.goto (-40), 3) := by decide +kernel
theorem dX11_areFriends_58 : decode cX11_areFriends 58 = .ok (.iload_n 3, 1) := by decide +kernel
theorem dX11_areFriends_59 : decode cX11_areFriends 59 = .ok (.iconst 1, 1) := by decide +kernel
theorem dX11_areFriends_60 : decode cX11_areFriends 60 = .ok (.if_icmp .le 5, 3) := by decide +kernel
theorem dX11_areFriends_63 : decode cX11_areFriends 63 = .ok (.iconst 0, 1) := by decide +kernel
theorem dX11_areFriends_64 : decode cX11_areFriends 64 = .ok (.ireturn, 1) := by decide +kernel
theorem dX11_areFriends_65 : decode cX11_areFriends 65 = .ok (.iinc 2 1, 3) := by decide +kernel
theorem dX11_areFriends_68 : decode cX11_areFriends 68 = .ok (.goto (-66), 3) := by decide +kernel
theorem dX11_areFriends_71 : decode cX11_areFriends 71 = .ok (.iconst 1, 1) := by decide +kernel
theorem dX11_areFriends_72 : decode cX11_areFriends 72 = .ok (.ireturn, 1) := by decide +kernel
theorem dX11_friends_0 : decode cX11_friends 0 = .ok (.aload_n 0, 1) := by decide +kernel
theorem dX11_friends_1 : decode cX11_friends 1 = .ok (.iconst 0, 1) := by decide +kernel
theorem dX11_friends_2 : decode cX11_friends 2 = .ok (.putfield 64, 3) := by decide +kernel
theorem dX11_friends_5 : decode cX11_friends 5 = .ok (.iconst 0, 1) := by decide +kernel
theorem dX11_friends_6 : decode cX11_friends 6 = .ok (.istore_n 1, 1) := by decide +kernel
theorem dX11_friends_7 : decode cX11_friends 7 = .ok (.iconst 1, 1) := by decide +kernel
theorem dX11_friends_8 : decode cX11_friends 8 = .ok (.istore_n 2, 1) := by decide +kernel
theorem dX11_friends_9 : decode cX11_friends 9 = .ok (.iload_n 2, 1) := by decide +kernel
theorem dX11_friends_10 : decode cX11_friends 10 = .ok (.iconst 1, 1) := by decide +kernel
theorem dX11_friends_11 : decode cX11_friends 11 = .ok (.aload_n 0, 1) := by decide +kernel
theorem dX11_friends_12 : decode cX11_friends 12 = .ok (.invokevirtual 190, 3) := by decide +kernel
theorem dX11_friends_15 : decode cX11_friends 15 = .ok (.ishl, 1) := by decide +kernel
theorem dX11_friends_16 : decode cX11_friends 16 = .ok (.if_icmp .ge 30, 3) := by decide +kernel
theorem dX11_friends_19 : decode cX11_friends 19 = .ok (.iload_n 2, 1) := by decide +kernel
theorem dX11_friends_20 : decode cX11_friends 20 = .ok (.invokestatic 324, 3) := by decide +kernel
theorem dX11_friends_23 : decode cX11_friends 23 = .ok (.iload_n 1, 1) := by decide +kernel
theorem dX11_friends_24 : decode cX11_friends 24 = .ok (.invokestatic 324, 3) := by decide +kernel
theorem dX11_friends_27 : decode cX11_friends 27 = .ok (.if_icmp .le 13, 3) := by decide +kernel
theorem dX11_friends_30 : decode cX11_friends 30 = .ok (.aload_n 0, 1) := by decide +kernel
theorem dX11_friends_31 : decode cX11_friends 31 = .ok (.iload_n 2, 1) := by decide +kernel
theorem dX11_friends_32 : decode cX11_friends 32 = .ok (.invokevirtual 330, 3) := by decide +kernel
theorem dX11_friends_35 : decode cX11_friends 35 = .ok (.ifCond .eq 5, 3) := by decide +kernel
theorem dX11_friends_38 : decode cX11_friends 38 = .ok (.iload_n 2, 1) := by decide +kernel
theorem dX11_friends_39 : decode cX11_friends 39 = .ok (.istore_n 1, 1) := by decide +kernel
theorem dX11_friends_40 : decode cX11_friends 40 = .ok (.iinc 2 1, 3) := by decide +kernel
theorem dX11_friends_43 : decode cX11_friends 43 = .ok (.goto (-34), 3) := by decide +kernel
theorem dX11_friends_46 : decode cX11_friends 46 = .ok (.iload_n 1, 1) := by decide +kernel
theorem dX11_friends_47 : decode cX11_friends 47 = .ok (.ireturn, 1) := by decide +kernel
theorem dX11_stolen_0 : decode cX11_stolen 0 = .ok (.aload_n 0, 1) := by decide +kernel
theorem dX11_stolen_1 : decode cX11_stolen 1 = .ok (.aload_n 0, 1) := by decide +kernel
theorem dX11_stolen_2 : decode cX11_stolen 2 = .ok (.iload_n 1, 1) := by decide +kernel
theorem dX11_stolen_3 : decode cX11_stolen 3 = .ok (.i2l, 1) := by decide +kernel
theorem dX11_stolen_4 : decode cX11_stolen 4 = .ok (.invokevirtual 203, 3) := by decide +kernel
theorem dX11_stolen_7 : decode cX11_stolen 7 = .ok (.ifCond .ne 7, 3) := by decide +kernel
theorem dX11_stolen_10 : decode cX11_stolen 10 = .ok (.iconst 1, 1) := by decide +kernel
theorem dX11_stolen_11 : decode cX11_stolen 11 = .ok (.goto 33, 3) := by decide +kernel
theorem dX11_stolen_14 : decode cX11_stolen 14 = .ok (.lload_n 2, 1) := by decide +kernel
theorem dX11_stolen_15 : decode cX11_stolen 15 = .ok (.ldc2_w 129, 3) := by decide +kernel
theorem dX11_stolen_18 : decode cX11_stolen 18 = .ok (.ldc2_w 247, 3) := by decide +kernel
theorem dX11_stolen_21 : decode cX11_stolen 21 = .ok (.invokestatic 133, 3) := by decide +kernel
theorem dX11_stolen_24 : decode cX11_stolen 24 = .ok (.ifCond .eq 19, 3) := by decide +kernel
theorem dX11_stolen_27 : decode cX11_stolen 27 = .ok (.lload 4, 2) := by decide +kernel
theorem dX11_stolen_29 : decode cX11_stolen 29 = .ok (.lconst 0, 1) := by decide +kernel
theorem dX11_stolen_30 : decode cX11_stolen 30 = .ok (.lload_n 2, 1) := by decide +kernel
theorem dX11_stolen_31 : decode cX11_stolen 31 = .ok (.lconst 1, 1) := by decide +kernel
theorem dX11_stolen_32 : decode cX11_stolen 32 = .ok (.lsub, 1) := by decide +kernel
theorem dX11_stolen_33 : decode cX11_stolen 33 = .ok (.invokestatic 133, 3) := by decide +kernel
theorem dX11_stolen_36 : decode cX11_stolen 36 = .ok (.ifCond .eq 7, 3) := by decide +kernel
theorem dX11_stolen_39 : decode cX11_stolen 39 = .ok (.iconst 0, 1) := by decide +kernel
theorem dX11_stolen_40 : decode cX11_stolen 40 = .ok (.goto 4, 3) := by decide +kernel
theorem dX11_stolen_43 : decode cX11_stolen 43 = .ok (.iconst 2, 1) := by decide +kernel
theorem dX11_stolen_44 : decode cX11_stolen 44 = .ok (.putfield 64, 3) := by decide +kernel
theorem dX11_stolen_47 : decode cX11_stolen 47 = .ok (.aload_n 0, 1) := by decide +kernel
theorem dX11_stolen_48 : decode cX11_stolen 48 = .ok (.getfield 64, 3) := by decide +kernel
theorem dX11_stolen_51 : decode cX11_stolen 51 = .ok (.ifCond .le 5, 3) := by decide +kernel
theorem dX11_stolen_54 : decode cX11_stolen 54 = .ok (.iconst 0, 1) := by decide +kernel
theorem dX11_stolen_55 : decode cX11_stolen 55 = .ok (.ireturn, 1) := by decide +kernel
theorem dX11_stolen_56 : decode cX11_stolen 56 = .ok (.iconst 0, 1) := by decide +kernel
theorem dX11_stolen_57 : decode cX11_stolen 57 = .ok (.istore 6, 2) := by decide +kernel
theorem dX11_stolen_59 : decode cX11_stolen 59 = .ok (.iconst 0, 1) := by decide +kernel
theorem dX11_stolen_60 : decode cX11_stolen 60 = .ok (.istore 7, 2) := by decide +kernel
theorem dX11_stolen_62 : decode cX11_stolen 62 = .ok (.iload 7, 2) := by decide +kernel
theorem dX11_stolen_64 : decode cX11_stolen 64 = .ok (.aload_n 0, 1) := by decide +kernel
theorem dX11_stolen_65 : decode cX11_stolen 65 = .ok (.invokevirtual 193, 3) := by decide +kernel
theorem dX11_stolen_68 : decode cX11_stolen 68 = .ok (.if_icmp .ge 53, 3) := by decide +kernel
theorem dX11_stolen_71 : decode cX11_stolen 71 = .ok (.iload 6, 2) := by decide +kernel
theorem dX11_stolen_73 : decode cX11_stolen 73 = .ok (.aload_n 0, 1) := by decide +kernel
theorem dX11_stolen_74 : decode cX11_stolen 74 = .ok (.iload_n 1, 1) := by decide +kernel
theorem dX11_stolen_75 : decode cX11_stolen 75 = .ok (.iload 7, 2) := by decide +kernel
theorem dX11_stolen_77 : decode cX11_stolen 77 = .ok (.invokevirtual 196, 3) := by decide +kernel
theorem dX11_stolen_80 : decode cX11_stolen 80 = .ok (.ifCond .le 31, 3) := by decide +kernel
theorem dX11_stolen_83 : decode cX11_stolen 83 = .ok (.aload_n 0, 1) := by decide +kernel
theorem dX11_stolen_84 : decode cX11_stolen 84 = .ok (.iload_n 1, 1) := by decide +kernel
theorem dX11_stolen_85 : decode cX11_stolen 85 = .ok (.invokevirtual 220, 3) := by decide +kernel
theorem dX11_stolen_88 : decode cX11_stolen 88 = .ok (.aload_n 0, 1) := by decide +kernel
theorem dX11_stolen_89 : decode cX11_stolen 89 = .ok (.iload 7, 2) := by decide +kernel
theorem dX11_stolen_91 : decode cX11_stolen 91 = .ok (.invokevirtual 200, 3) := by decide +kernel
theorem dX11_stolen_94 : decode cX11_stolen 94 = .ok (.i2l, 1) := by decide +kernel
theorem dX11_stolen_95 : decode cX11_stolen 95 = .ok (.ldiv, 1) := by decide +kernel
theorem dX11_stolen_96 : decode cX11_stolen 96 = .ok (.lload_n 2, 1) := by decide +kernel
theorem dX11_stolen_97 : decode cX11_stolen 97 = .ok (.lrem, 1) := by decide +kernel
theorem dX11_stolen_98 : decode cX11_stolen 98 = .ok (.lload 4, 2) := by decide +kernel
theorem dX11_stolen_100 : decode cX11_stolen 100 = .ok (.lcmp, 1) := by decide +kernel
theorem dX11_stolen_101 : decode cX11_stolen 101 = .ok (.ifCond .ne 10, 3) := by decide +kernel
theorem dX11_stolen_104 : decode cX11_stolen 104 = .ok (.iconst 1, 1) := by decide +kernel
theorem dX11_stolen_105 : decode cX11_stolen 105 = .ok (.iload 7, 2) := by decide +kernel
theorem dX11_stolen_107 : decode cX11_stolen 107 = .ok (.ishl, 1) := by decide +kernel
theorem dX11_stolen_108 : decode cX11_stolen 108 = .ok (.goto 4, 3) := by decide +kernel
theorem dX11_stolen_111 : decode cX11_stolen 111 = .ok (.iconst 0, 1) := by decide +kernel
theorem dX11_stolen_112 : decode cX11_stolen 112 = .ok (.ior, 1) := by decide +kernel
theorem dX11_stolen_113 : decode cX11_stolen 113 = .ok (.istore 6, 2) := by decide +kernel
theorem dX11_stolen_115 : decode cX11_stolen 115 = .ok (.iinc 7 1, 3) := by decide +kernel
theorem dX11_stolen_118 : decode cX11_stolen 118 = .ok (.goto (-56), 3) := by decide +kernel
theorem dX11_stolen_121 : decode cX11_stolen 121 = .ok (.iload 6, 2) := by decide +kernel
theorem dX11_stolen_123 : decode cX11_stolen 123 = .ok (.ireturn, 1) := by decide +kernel
theorem dX11_isFitting_0 : decode cX11_isFitting 0 = .ok (.iconst 0, 1) := by decide +kernel
theorem dX11_isFitting_1 : decode cX11_isFitting 1 = .ok (.istore 4, 2) := by decide +kernel
theorem dX11_isFitting_3 : decode cX11_isFitting 3 = .ok (.iload 4, 2) := by decide +kernel
theorem dX11_isFitting_5 : decode cX11_isFitting 5 = .ok (.aload_n 0, 1) := by decide +kernel
theorem dX11_isFitting_6 : decode cX11_isFitting 6 = .ok (.getfield 50, 3) := by decide +kernel
theorem dX11_isFitting_9 : decode cX11_isFitting 9 = .ok (.iload_n 1, 1) := by decide +kernel
theorem dX11_isFitting_10 : decode cX11_isFitting 10 = .ok (.iaload, 1) := by decide +kernel
theorem dX11_isFitting_11 : decode cX11_isFitting 11 = .ok (.if_icmp .ge 43, 3) := by decide +kernel
theorem dX11_isFitting_14 : decode cX11_isFitting 14 = .ok (.lload_n 2, 1) := by decide +kernel
theorem dX11_isFitting_15 : decode cX11_isFitting 15 = .ok (.aload_n 0, 1) := by decide +kernel
theorem dX11_isFitting_16 : decode cX11_isFitting 16 = .ok (.getfield 53, 3) := by decide +kernel
theorem dX11_isFitting_19 : decode cX11_isFitting 19 = .ok (.bipush 30, 2) := by decide +kernel
theorem dX11_isFitting_21 : decode cX11_isFitting 21 = .ok (.iload_n 1, 1) := by decide +kernel
theorem dX11_isFitting_22 : decode cX11_isFitting 22 = .ok (.imul, 1) := by decide +kernel
theorem dX11_isFitting_23 : decode cX11_isFitting 23 = .ok (.iload 4, 2) := by decide +kernel
theorem dX11_isFitting_25 : decode cX11_isFitting 25 = .ok (.iadd, 1) := by decide +kernel
theorem dX11_isFitting_26 : decode cX11_isFitting 26 = .ok (.laload, 1) := by decide +kernel
theorem dX11_isFitting_27 : decode cX11_isFitting 27 = .ok (.lrem, 1) := by decide +kernel
theorem dX11_isFitting_28 : decode cX11_isFitting 28 = .ok (.aload_n 0, 1) := by decide +kernel
theorem dX11_isFitting_29 : decode cX11_isFitting 29 = .ok (.getfield 53, 3) := by decide +kernel
theorem dX11_isFitting_32 : decode cX11_isFitting 32 = .ok (.bipush 30, 2) := by decide +kernel
theorem dX11_isFitting_34 : decode cX11_isFitting 34 = .ok (.iload_n 1, 1) := by decide +kernel
theorem dX11_isFitting_35 : decode cX11_isFitting 35 = .ok (.imul, 1) := by decide +kernel
theorem dX11_isFitting_36 : decode cX11_isFitting 36 = .ok (.iload 4, 2) := by decide +kernel
theorem dX11_isFitting_38 : decode cX11_isFitting 38 = .ok (.iadd, 1) := by decide +kernel
theorem dX11_isFitting_39 : decode cX11_isFitting 39 = .ok (.iconst 1, 1) := by decide +kernel
theorem dX11_isFitting_40 : decode cX11_isFitting 40 = .ok (.iadd, 1) := by decide +kernel
theorem dX11_isFitting_41 : decode cX11_isFitting 41 = .ok (.laload, 1) := by decide +kernel
theorem dX11_isFitting_42 : decode cX11_isFitting 42 = .ok (.lcmp, 1) := by decide +kernel
theorem dX11_isFitting_43 : decode cX11_isFitting 43 = .ok (.ifCond .eq 5, 3) := by decide +kernel
theorem dX11_isFitting_46 : decode cX11_isFitting 46 = .ok (.iconst 0, 1) := by decide +kernel
theorem dX11_isFitting_47 : decode cX11_isFitting 47 = .ok (.ireturn, 1) := by decide +kernel
theorem dX11_isFitting_48 : decode cX11_isFitting 48 = .ok (.iinc 4 2, 3) := by decide +kernel
theorem dX11_isFitting_51 : decode cX11_isFitting 51 = .ok (.goto (-48), 3) := by decide +kernel
theorem dX11_isFitting_54 : decode cX11_isFitting 54 = .ok (.iconst 1, 1) := by decide +kernel
theorem dX11_isFitting_55 : decode cX11_isFitting 55 = .ok (.ireturn, 1) := by decide +kernel
theorem dX11_bags_0 : decode cX11_bags 0 = .ok (.iload_n 2, 1) := by decide +kernel
theorem dX11_bags_1 : decode cX11_bags 1 = .ok (.ifCond .ne 40, 3) := by decide +kernel
theorem dX11_bags_4 : decode cX11_bags 4 = .ok (.aload_n 0, 1) := by decide +kernel
theorem dX11_bags_5 : decode cX11_bags 5 = .ok (.iload_n 1, 1) := by decide +kernel
theorem dX11_bags_6 : decode cX11_bags 6 = .ok (.lload 4, 2) := by decide +kernel
theorem dX11_bags_8 : decode cX11_bags 8 = .ok (.invokevirtual 333, 3) := by decide +kernel
theorem dX11_bags_11 : decode cX11_bags 11 = .ok (.ifCond .ne 5, 3) := by decide +kernel
theorem dX11_bags_14 : decode cX11_bags 14 = .ok (.iconst 0, 1) := by decide +kernel
theorem dX11_bags_15 : decode cX11_bags 15 = .ok (.ireturn, 1) := by decide +kernel
theorem dX11_bags_16 : decode cX11_bags 16 = .ok (.aload_n 0, 1) := by decide +kernel
theorem dX11_bags_17 : decode cX11_bags 17 = .ok (.getfield 337, 3) := by decide +kernel
theorem dX11_bags_20 : decode cX11_bags 20 = .ok (.ifCond .ne 9, 3) := by decide +kernel
theorem dX11_bags_23 : decode cX11_bags 23 = .ok (.aload_n 0, 1) := by decide +kernel
theorem dX11_bags_24 : decode cX11_bags 24 = .ok (.lload 4, 2) := by decide +kernel
theorem dX11_bags_26 : decode cX11_bags 26 = .ok (.putfield 340, 3) := by decide +kernel
theorem dX11_bags_29 : decode cX11_bags 29 = .ok (.aload_n 0, 1) := by decide +kernel
theorem dX11_bags_30 : decode cX11_bags 30 = .ok (.dup, 1) := by decide +kernel
theorem dX11_bags_31 : decode cX11_bags 31 = .ok (.getfield 337, 3) := by decide +kernel
theorem dX11_bags_34 : decode cX11_bags 34 = .ok (.iconst 1, 1) := by decide +kernel
theorem dX11_bags_35 : decode cX11_bags 35 = .ok (.isub, 1) := by decide +kernel
theorem dX11_bags_36 : decode cX11_bags 36 = .ok (.putfield 337, 3) := by decide +kernel
theorem dX11_bags_39 : decode cX11_bags 39 = .ok (.iconst 1, 1) := by decide +kernel
theorem dX11_bags_40 : decode cX11_bags 40 = .ok (.ireturn, 1) := by decide +kernel
theorem dX11_bags_41 : decode cX11_bags 41 = .ok (.iconst 0, 1) := by decide +kernel
theorem dX11_bags_42 : decode cX11_bags 42 = .ok (.istore 6, 2) := by decide +kernel
theorem dX11_bags_44 : decode cX11_bags 44 = .ok (.iload_n 3, 1) := by decide +kernel
theorem dX11_bags_45 : decode cX11_bags 45 = .ok (.istore 7, 2) := by decide +kernel
theorem dX11_bags_47 : decode cX11_bags 47 = .ok (.iload 7, 2) := by decide +kernel
theorem dX11_bags_49 : decode cX11_bags 49 = .ok (.aload_n 0, 1) := by decide +kernel
theorem dX11_bags_50 : decode cX11_bags 50 = .ok (.invokevirtual 193, 3) := by decide +kernel
theorem dX11_bags_53 : decode cX11_bags 53 = .ok (.if_icmp .ge 34, 3) := by decide +kernel
theorem dX11_bags_56 : decode cX11_bags 56 = .ok (.iload 6, 2) := by decide +kernel
theorem dX11_bags_58 : decode cX11_bags 58 = .ok (.aload_n 0, 1) := by decide +kernel
theorem dX11_bags_59 : decode cX11_bags 59 = .ok (.iload_n 1, 1) := by decide +kernel
theorem dX11_bags_60 : decode cX11_bags 60 = .ok (.iload_n 2, 1) := by decide +kernel
theorem dX11_bags_61 : decode cX11_bags 61 = .ok (.iconst 1, 1) := by decide +kernel
theorem dX11_bags_62 : decode cX11_bags 62 = .ok (.isub, 1) := by decide +kernel
theorem dX11_bags_63 : decode cX11_bags 63 = .ok (.iload 7, 2) := by decide +kernel
theorem dX11_bags_65 : decode cX11_bags 65 = .ok (.lload 4, 2) := by decide +kernel
theorem dX11_bags_67 : decode cX11_bags 67 = .ok (.aload_n 0, 1) := by decide +kernel
theorem dX11_bags_68 : decode cX11_bags 68 = .ok (.iload 7, 2) := by decide +kernel
theorem dX11_bags_70 : decode cX11_bags 70 = .ok (.invokevirtual 200, 3) := by decide +kernel
theorem dX11_bags_73 : decode cX11_bags 73 = .ok (.i2l, 1) := by decide +kernel
theorem dX11_bags_74 : decode cX11_bags 74 = .ok (.lmul, 1) := by decide +kernel
theorem dX11_bags_75 : decode cX11_bags 75 = .ok (.invokevirtual 344, 3) := by decide +kernel
theorem dX11_bags_78 : decode cX11_bags 78 = .ok (.iadd, 1) := by decide +kernel
theorem dX11_bags_79 : decode cX11_bags 79 = .ok (.istore 6, 2) := by decide +kernel
theorem dX11_bags_81 : decode cX11_bags 81 = .ok (.iinc 7 1, 3) := by decide +kernel
theorem dX11_bags_84 : decode cX11_bags 84 = .ok (.goto (-37), 3) := by decide +kernel
theorem dX11_bags_87 : decode cX11_bags 87 = .ok (.iload 6, 2) := by decide +kernel
theorem dX11_bags_89 : decode cX11_bags 89 = .ok (.ireturn, 1) := by decide +kernel
theorem dX11_fitting_0 : decode cX11_fitting 0 = .ok (.aload_n 0, 1) := by decide +kernel
theorem dX11_fitting_1 : decode cX11_fitting 1 = .ok (.aload_n 0, 1) := by decide +kernel
theorem dX11_fitting_2 : decode cX11_fitting 2 = .ok (.iload_n 1, 1) := by decide +kernel
theorem dX11_fitting_3 : decode cX11_fitting 3 = .ok (.invokevirtual 271, 3) := by decide +kernel
theorem dX11_fitting_6 : decode cX11_fitting 6 = .ok (.putfield 64, 3) := by decide +kernel
theorem dX11_fitting_9 : decode cX11_fitting 9 = .ok (.aload_n 0, 1) := by decide +kernel
theorem dX11_fitting_10 : decode cX11_fitting 10 = .ok (.getfield 64, 3) := by decide +kernel
theorem dX11_fitting_13 : decode cX11_fitting 13 = .ok (.ifCond .ne 32, 3) := by decide +kernel
theorem dX11_fitting_16 : decode cX11_fitting 16 = .ok (.iload_n 2, 1) := by decide +kernel
theorem dX11_fitting_17 : decode cX11_fitting 17 = .ok (.i2l, 1) := by decide +kernel
theorem dX11_fitting_18 : decode cX11_fitting 18 = .ok (.lconst 1, 1) := by decide +kernel
theorem dX11_fitting_19 : decode cX11_fitting 19 = .ok (.ldc2_w 348, 3) := by decide +kernel
theorem dX11_fitting_22 : decode cX11_fitting 22 = .ok (.invokestatic 133, 3) := by decide +kernel
theorem dX11_fitting_25 : decode cX11_fitting 25 = .ok (.ifCond .eq 15, 3) := by decide +kernel
theorem dX11_fitting_28 : decode cX11_fitting 28 = .ok (.aload_n 0, 1) := by decide +kernel
theorem dX11_fitting_29 : decode cX11_fitting 29 = .ok (.getfield 50, 3) := by decide +kernel
theorem dX11_fitting_32 : decode cX11_fitting 32 = .ok (.iload_n 1, 1) := by decide +kernel
theorem dX11_fitting_33 : decode cX11_fitting 33 = .ok (.iaload, 1) := by decide +kernel
theorem dX11_fitting_34 : decode cX11_fitting 34 = .ok (.iconst 2, 1) := by decide +kernel
theorem dX11_fitting_35 : decode cX11_fitting 35 = .ok (.irem, 1) := by decide +kernel
theorem dX11_fitting_36 : decode cX11_fitting 36 = .ok (.iconst 1, 1) := by decide +kernel
theorem dX11_fitting_37 : decode cX11_fitting 37 = .ok (.if_icmp .ne 8, 3) := by decide +kernel
theorem dX11_fitting_40 : decode cX11_fitting 40 = .ok (.aload_n 0, 1) := by decide +kernel
theorem dX11_fitting_41 : decode cX11_fitting 41 = .ok (.iconst 3, 1) := by decide +kernel
theorem dX11_fitting_42 : decode cX11_fitting 42 = .ok (.putfield 64, 3) := by decide +kernel
theorem dX11_fitting_45 : decode cX11_fitting 45 = .ok (.iconst 0, 1) := by decide +kernel
theorem dX11_fitting_46 : decode cX11_fitting 46 = .ok (.istore 4, 2) := by decide +kernel
theorem dX11_fitting_48 : decode cX11_fitting 48 = .ok (.aload_n 0, 1) := by decide +kernel
theorem dX11_fitting_49 : decode cX11_fitting 49 = .ok (.getfield 64, 3) := by decide +kernel
theorem dX11_fitting_52 : decode cX11_fitting 52 = .ok (.ifCond .ne 78, 3) := by decide +kernel
theorem dX11_fitting_55 : decode cX11_fitting 55 = .ok (.iload 4, 2) := by decide +kernel
theorem dX11_fitting_57 : decode cX11_fitting 57 = .ok (.aload_n 0, 1) := by decide +kernel
theorem dX11_fitting_58 : decode cX11_fitting 58 = .ok (.getfield 50, 3) := by decide +kernel
theorem dX11_fitting_61 : decode cX11_fitting 61 = .ok (.iload_n 1, 1) := by decide +kernel
theorem dX11_fitting_62 : decode cX11_fitting 62 = .ok (.iaload, 1) := by decide +kernel
theorem dX11_fitting_63 : decode cX11_fitting 63 = .ok (.if_icmp .ge 67, 3) := by decide +kernel
theorem dX11_fitting_66 : decode cX11_fitting 66 = .ok (.aload_n 0, 1) := by decide +kernel
theorem dX11_fitting_67 : decode cX11_fitting 67 = .ok (.getfield 53, 3) := by decide +kernel
theorem dX11_fitting_70 : decode cX11_fitting 70 = .ok (.bipush 30, 2) := by decide +kernel
theorem dX11_fitting_72 : decode cX11_fitting 72 = .ok (.iload_n 1, 1) := by decide +kernel
theorem dX11_fitting_73 : decode cX11_fitting 73 = .ok (.imul, 1) := by decide +kernel
theorem dX11_fitting_74 : decode cX11_fitting 74 = .ok (.iload 4, 2) := by decide +kernel
theorem dX11_fitting_76 : decode cX11_fitting 76 = .ok (.iadd, 1) := by decide +kernel
theorem dX11_fitting_77 : decode cX11_fitting 77 = .ok (.laload, 1) := by decide +kernel
theorem dX11_fitting_78 : decode cX11_fitting 78 = .ok (.lstore 5, 2) := by decide +kernel
theorem dX11_fitting_80 : decode cX11_fitting 80 = .ok (.lload 5, 2) := by decide +kernel
theorem dX11_fitting_82 : decode cX11_fitting 82 = .ok (.ldc2_w 129, 3) := by decide +kernel
theorem dX11_fitting_85 : decode cX11_fitting 85 = .ok (.ldc2_w 261, 3) := by decide +kernel
theorem dX11_fitting_88 : decode cX11_fitting 88 = .ok (.invokestatic 133, 3) := by decide +kernel
theorem dX11_fitting_91 : decode cX11_fitting 91 = .ok (.ifCond .eq 28, 3) := by decide +kernel
theorem dX11_fitting_94 : decode cX11_fitting 94 = .ok (.aload_n 0, 1) := by decide +kernel
theorem dX11_fitting_95 : decode cX11_fitting 95 = .ok (.getfield 53, 3) := by decide +kernel
theorem dX11_fitting_98 : decode cX11_fitting 98 = .ok (.bipush 30, 2) := by decide +kernel
theorem dX11_fitting_100 : decode cX11_fitting 100 = .ok (.iload_n 1, 1) := by decide +kernel
theorem dX11_fitting_101 : decode cX11_fitting 101 = .ok (.imul, 1) := by decide +kernel
theorem dX11_fitting_102 : decode cX11_fitting 102 = .ok (.iload 4, 2) := by decide +kernel
theorem dX11_fitting_104 : decode cX11_fitting 104 = .ok (.iadd, 1) := by decide +kernel
theorem dX11_fitting_105 : decode cX11_fitting 105 = .ok (.iconst 1, 1) := by decide +kernel
theorem dX11_fitting_106 : decode cX11_fitting 106 = .ok (.iadd, 1) := by decide +kernel
theorem dX11_fitting_107 : decode cX11_fitting 107 = .ok (.laload, 1) := by decide +kernel
theorem dX11_fitting_108 : decode cX11_fitting 108 = .ok (.lconst 0, 1) := by decide +kernel
theorem dX11_fitting_109 : decode cX11_fitting 109 = .ok (.lload 5, 2) := by decide +kernel
theorem dX11_fitting_111 : decode cX11_fitting 111 = .ok (.lconst 1, 1) := by decide +kernel
theorem dX11_fitting_112 : decode cX11_fitting 112 = .ok (.lsub, 1) := by decide +kernel
theorem dX11_fitting_113 : decode cX11_fitting 113 = .ok (.invokestatic 133, 3) := by decide +kernel
theorem dX11_fitting_116 : decode cX11_fitting 116 = .ok (.ifCond .ne 8, 3) := by decide +kernel
theorem dX11_fitting_119 : decode cX11_fitting 119 = .ok (.aload_n 0, 1) := by decide +kernel
theorem dX11_fitting_120 : decode cX11_fitting 120 = .ok (.iconst 3, 1) := by decide +kernel
theorem dX11_fitting_121 : decode cX11_fitting 121 = .ok (.putfield 64, 3) := by decide +kernel
theorem dX11_fitting_124 : decode cX11_fitting 124 = .ok (.iinc 4 2, 3) := by decide +kernel
theorem dX11_fitting_127 : decode cX11_fitting 127 = .ok (.goto (-79), 3) := by decide +kernel
theorem dX11_fitting_130 : decode cX11_fitting 130 = .ok (.aload_n 0, 1) := by decide +kernel
theorem dX11_fitting_131 : decode cX11_fitting 131 = .ok (.getfield 64, 3) := by decide +kernel
theorem dX11_fitting_134 : decode cX11_fitting 134 = .ok (.ifCond .le 5, 3) := by decide +kernel
theorem dX11_fitting_137 : decode cX11_fitting 137 = .ok (.lconst 0, 1) := by decide +kernel
theorem dX11_fitting_138 : decode cX11_fitting 138 = .ok (.lreturn, 1) := by decide +kernel
theorem dX11_fitting_139 : decode cX11_fitting 139 = .ok (.aload_n 0, 1) := by decide +kernel
theorem dX11_fitting_140 : decode cX11_fitting 140 = .ok (.iload_n 3, 1) := by decide +kernel
theorem dX11_fitting_141 : decode cX11_fitting 141 = .ok (.putfield 337, 3) := by decide +kernel
theorem dX11_fitting_144 : decode cX11_fitting 144 = .ok (.aload_n 0, 1) := by decide +kernel
theorem dX11_fitting_145 : decode cX11_fitting 145 = .ok (.ldc2_w 286, 3) := by decide +kernel
theorem dX11_fitting_148 : decode cX11_fitting 148 = .ok (.putfield 340, 3) := by decide +kernel
theorem dX11_fitting_151 : decode cX11_fitting 151 = .ok (.aload_n 0, 1) := by decide +kernel
theorem dX11_fitting_152 : decode cX11_fitting 152 = .ok (.iload_n 1, 1) := by decide +kernel
theorem dX11_fitting_153 : decode cX11_fitting 153 = .ok (.iload_n 2, 1) := by decide +kernel
theorem dX11_fitting_154 : decode cX11_fitting 154 = .ok (.iconst 0, 1) := by decide +kernel
theorem dX11_fitting_155 : decode cX11_fitting 155 = .ok (.lconst 1, 1) := by decide +kernel
theorem dX11_fitting_156 : decode cX11_fitting 156 = .ok (.invokevirtual 344, 3) := by decide +kernel
theorem dX11_fitting_159 : decode cX11_fitting 159 = .ok (.istore 4, 2) := by decide +kernel
theorem dX11_fitting_161 : decode cX11_fitting 161 = .ok (.iload_n 3, 1) := by decide +kernel
theorem dX11_fitting_162 : decode cX11_fitting 162 = .ok (.iconst (-1), 1) := by decide +kernel
theorem dX11_fitting_163 : decode cX11_fitting 163 = .ok (.if_icmp .ne 9, 3) := by decide +kernel
theorem dX11_fitting_166 : decode cX11_fitting 166 = .ok (.iload 4, 2) := by decide +kernel
theorem dX11_fitting_168 : decode cX11_fitting 168 = .ok (.i2l, 1) := by decide +kernel
theorem dX11_fitting_169 : decode cX11_fitting 169 = .ok (.goto 27, 3) := by decide +kernel
theorem dX11_fitting_172 : decode cX11_fitting 172 = .ok (.iload_n 3, 1) := by decide +kernel
theorem dX11_fitting_173 : decode cX11_fitting 173 = .ok (.i2l, 1) := by decide +kernel
theorem dX11_fitting_174 : decode cX11_fitting 174 = .ok (.lconst 0, 1) := by decide +kernel
theorem dX11_fitting_175 : decode cX11_fitting 175 = .ok (.iload 4, 2) := by decide +kernel
theorem dX11_fitting_177 : decode cX11_fitting 177 = .ok (.iconst 1, 1) := by decide +kernel
theorem dX11_fitting_178 : decode cX11_fitting 178 = .ok (.isub, 1) := by decide +kernel
theorem dX11_fitting_179 : decode cX11_fitting 179 = .ok (.i2l, 1) := by decide +kernel
theorem dX11_fitting_180 : decode cX11_fitting 180 = .ok (.invokestatic 133, 3) := by decide +kernel
theorem dX11_fitting_183 : decode cX11_fitting 183 = .ok (.ifCond .eq 10, 3) := by decide +kernel
theorem dX11_fitting_186 : decode cX11_fitting 186 = .ok (.aload_n 0, 1) := by decide +kernel
theorem dX11_fitting_187 : decode cX11_fitting 187 = .ok (.getfield 340, 3) := by decide +kernel
theorem dX11_fitting_190 : decode cX11_fitting 190 = .ok (.goto 6, 3) := by decide +kernel
theorem dX11_fitting_193 : decode cX11_fitting 193 = .ok (.ldc2_w 286, 3) := by decide +kernel
theorem dX11_fitting_196 : decode cX11_fitting 196 = .ok (.lreturn, 1) := by decide +kernel
theorem dX11_leastFactor_0 : decode cX11_leastFactor 0 = .ok (.iconst 2, 1) := by decide +kernel
theorem dX11_leastFactor_1 : decode cX11_leastFactor 1 = .ok (.istore_n 1, 1) := by decide +kernel
theorem dX11_leastFactor_2 : decode cX11_leastFactor 2 = .ok (.iload_n 1, 1) := by decide +kernel
theorem dX11_leastFactor_3 : decode cX11_leastFactor 3 = .ok (.iload_n 0, 1) := by decide +kernel
theorem dX11_leastFactor_4 : decode cX11_leastFactor 4 = .ok (.iload_n 1, 1) := by decide +kernel
theorem dX11_leastFactor_5 : decode cX11_leastFactor 5 = .ok (.idiv, 1) := by decide +kernel
theorem dX11_leastFactor_6 : decode cX11_leastFactor 6 = .ok (.if_icmp .gt 17, 3) := by decide +kernel
theorem dX11_leastFactor_9 : decode cX11_leastFactor 9 = .ok (.iload_n 0, 1) := by decide +kernel
theorem dX11_leastFactor_10 : decode cX11_leastFactor 10 = .ok (.iload_n 1, 1) := by decide +kernel
theorem dX11_leastFactor_11 : decode cX11_leastFactor 11 = .ok (.irem, 1) := by decide +kernel
theorem dX11_leastFactor_12 : decode cX11_leastFactor 12 = .ok (.ifCond .ne 5, 3) := by decide +kernel
theorem dX11_leastFactor_15 : decode cX11_leastFactor 15 = .ok (.iload_n 1, 1) := by decide +kernel
theorem dX11_leastFactor_16 : decode cX11_leastFactor 16 = .ok (.ireturn, 1) := by decide +kernel
theorem dX11_leastFactor_17 : decode cX11_leastFactor 17 = .ok (.iinc 1 1, 3) := by decide +kernel
theorem dX11_leastFactor_20 : decode cX11_leastFactor 20 = .ok (.goto (-18), 3) := by decide +kernel
theorem dX11_leastFactor_23 : decode cX11_leastFactor 23 = .ok (.iload_n 0, 1) := by decide +kernel
theorem dX11_leastFactor_24 : decode cX11_leastFactor 24 = .ok (.ireturn, 1) := by decide +kernel
theorem dX11_isCounted_0 : decode cX11_isCounted 0 = .ok (.iload_n 0, 1) := by decide +kernel
theorem dX11_isCounted_1 : decode cX11_isCounted 1 = .ok (.i2l, 1) := by decide +kernel
theorem dX11_isCounted_2 : decode cX11_isCounted 2 = .ok (.lconst 1, 1) := by decide +kernel
theorem dX11_isCounted_3 : decode cX11_isCounted 3 = .ok (.ldc2_w 247, 3) := by decide +kernel
theorem dX11_isCounted_6 : decode cX11_isCounted 6 = .ok (.invokestatic 133, 3) := by decide +kernel
theorem dX11_isCounted_9 : decode cX11_isCounted 9 = .ok (.ireturn, 1) := by decide +kernel
theorem dX11_trial_0 : decode cX11_trial 0 = .ok (.aload_n 0, 1) := by decide +kernel
theorem dX11_trial_1 : decode cX11_trial 1 = .ok (.iload_n 1, 1) := by decide +kernel
theorem dX11_trial_2 : decode cX11_trial 2 = .ok (.invokestatic 350, 3) := by decide +kernel
theorem dX11_trial_5 : decode cX11_trial 5 = .ok (.ifCond .eq 17, 3) := by decide +kernel
theorem dX11_trial_8 : decode cX11_trial 8 = .ok (.iload_n 2, 1) := by decide +kernel
theorem dX11_trial_9 : decode cX11_trial 9 = .ok (.i2l, 1) := by decide +kernel
theorem dX11_trial_10 : decode cX11_trial 10 = .ok (.lconst 0, 1) := by decide +kernel
theorem dX11_trial_11 : decode cX11_trial 11 = .ok (.lconst 1, 1) := by decide +kernel
theorem dX11_trial_12 : decode cX11_trial 12 = .ok (.invokestatic 133, 3) := by decide +kernel
theorem dX11_trial_15 : decode cX11_trial 15 = .ok (.ifCond .eq 7, 3) := by decide +kernel
theorem dX11_trial_18 : decode cX11_trial 18 = .ok (.iconst 0, 1) := by decide +kernel
theorem dX11_trial_19 : decode cX11_trial 19 = .ok (.goto 4, 3) := by decide +kernel
theorem dX11_trial_22 : decode cX11_trial 22 = .ok (.iconst 1, 1) := by decide +kernel
theorem dX11_trial_23 : decode cX11_trial 23 = .ok (.putfield 64, 3) := by decide +kernel
theorem dX11_trial_26 : decode cX11_trial 26 = .ok (.aload_n 0, 1) := by decide +kernel
theorem dX11_trial_27 : decode cX11_trial 27 = .ok (.getfield 64, 3) := by decide +kernel
theorem dX11_trial_30 : decode cX11_trial 30 = .ok (.ifCond .le 5, 3) := by decide +kernel
theorem dX11_trial_33 : decode cX11_trial 33 = .ok (.iconst 0, 1) := by decide +kernel
theorem dX11_trial_34 : decode cX11_trial 34 = .ok (.ireturn, 1) := by decide +kernel
theorem dX11_trial_35 : decode cX11_trial 35 = .ok (.iload_n 2, 1) := by decide +kernel
theorem dX11_trial_36 : decode cX11_trial 36 = .ok (.ifCond .ne 10, 3) := by decide +kernel
theorem dX11_trial_39 : decode cX11_trial 39 = .ok (.iload_n 1, 1) := by decide +kernel
theorem dX11_trial_40 : decode cX11_trial 40 = .ok (.invokestatic 353, 3) := by decide +kernel
theorem dX11_trial_43 : decode cX11_trial 43 = .ok (.goto 9, 3) := by decide +kernel
theorem dX11_trial_46 : decode cX11_trial 46 = .ok (.iload_n 1, 1) := by decide +kernel
theorem dX11_trial_47 : decode cX11_trial 47 = .ok (.invokestatic 353, 3) := by decide +kernel
theorem dX11_trial_50 : decode cX11_trial 50 = .ok (.iconst 1, 1) := by decide +kernel
theorem dX11_trial_51 : decode cX11_trial 51 = .ok (.isub, 1) := by decide +kernel
theorem dX11_trial_52 : decode cX11_trial 52 = .ok (.ireturn, 1) := by decide +kernel
theorem dX11_squares_0 : decode cX11_squares 0 = .ok (.aload_n 0, 1) := by decide +kernel
theorem dX11_squares_1 : decode cX11_squares 1 = .ok (.iload_n 1, 1) := by decide +kernel
theorem dX11_squares_2 : decode cX11_squares 2 = .ok (.i2l, 1) := by decide +kernel
theorem dX11_squares_3 : decode cX11_squares 3 = .ok (.ldc2_w 207, 3) := by decide +kernel
theorem dX11_squares_6 : decode cX11_squares 6 = .ok (.ldc2_w 356, 3) := by decide +kernel
theorem dX11_squares_9 : decode cX11_squares 9 = .ok (.invokestatic 133, 3) := by decide +kernel
theorem dX11_squares_12 : decode cX11_squares 12 = .ok (.ifCond .eq 24, 3) := by decide +kernel
theorem dX11_squares_15 : decode cX11_squares 15 = .ok (.iload_n 1, 1) := by decide +kernel
theorem dX11_squares_16 : decode cX11_squares 16 = .ok (.iconst 2, 1) := by decide +kernel
theorem dX11_squares_17 : decode cX11_squares 17 = .ok (.irem, 1) := by decide +kernel
theorem dX11_squares_18 : decode cX11_squares 18 = .ok (.iconst 1, 1) := by decide +kernel
theorem dX11_squares_19 : decode cX11_squares 19 = .ok (.if_icmp .ne 17, 3) := by decide +kernel
theorem dX11_squares_22 : decode cX11_squares 22 = .ok (.iload_n 2, 1) := by decide +kernel
theorem dX11_squares_23 : decode cX11_squares 23 = .ok (.i2l, 1) := by decide +kernel
theorem dX11_squares_24 : decode cX11_squares 24 = .ok (.lconst 0, 1) := by decide +kernel
theorem dX11_squares_25 : decode cX11_squares 25 = .ok (.lconst 1, 1) := by decide +kernel
theorem dX11_squares_26 : decode cX11_squares 26 = .ok (.invokestatic 133, 3) := by decide +kernel
theorem dX11_squares_29 : decode cX11_squares 29 = .ok (.ifCond .eq 7, 3) := by decide +kernel
theorem dX11_squares_32 : decode cX11_squares 32 = .ok (.iconst 0, 1) := by decide +kernel
theorem dX11_squares_33 : decode cX11_squares 33 = .ok (.goto 4, 3) := by decide +kernel
theorem dX11_squares_36 : decode cX11_squares 36 = .ok (.iconst 1, 1) := by decide +kernel
theorem dX11_squares_37 : decode cX11_squares 37 = .ok (.putfield 64, 3) := by decide +kernel
theorem dX11_squares_40 : decode cX11_squares 40 = .ok (.aload_n 0, 1) := by decide +kernel
theorem dX11_squares_41 : decode cX11_squares 41 = .ok (.getfield 64, 3) := by decide +kernel
theorem dX11_squares_44 : decode cX11_squares 44 = .ok (.ifCond .le 5, 3) := by decide +kernel
theorem dX11_squares_47 : decode cX11_squares 47 = .ok (.iconst 0, 1) := by decide +kernel
theorem dX11_squares_48 : decode cX11_squares 48 = .ok (.ireturn, 1) := by decide +kernel
theorem dX11_squares_49 : decode cX11_squares 49 = .ok (.iconst 1, 1) := by decide +kernel
theorem dX11_squares_50 : decode cX11_squares 50 = .ok (.istore_n 3, 1) := by decide +kernel
theorem dX11_squares_51 : decode cX11_squares 51 = .ok (.iconst 1, 1) := by decide +kernel
theorem dX11_squares_52 : decode cX11_squares 52 = .ok (.istore 4, 2) := by decide +kernel
theorem dX11_squares_54 : decode cX11_squares 54 = .ok (.iconst 1, 1) := by decide +kernel
theorem dX11_squares_55 : decode cX11_squares 55 = .ok (.istore 5, 2) := by decide +kernel
theorem dX11_squares_57 : decode cX11_squares 57 = .ok (.iload 5, 2) := by decide +kernel
theorem dX11_squares_59 : decode cX11_squares 59 = .ok (.iload 5, 2) := by decide +kernel
theorem dX11_squares_61 : decode cX11_squares 61 = .ok (.imul, 1) := by decide +kernel
theorem dX11_squares_62 : decode cX11_squares 62 = .ok (.iload_n 1, 1) := by decide +kernel
theorem dX11_squares_63 : decode cX11_squares 63 = .ok (.if_icmp .gt 23, 3) := by decide +kernel
theorem dX11_squares_66 : decode cX11_squares 66 = .ok (.iload 5, 2) := by decide +kernel
theorem dX11_squares_68 : decode cX11_squares 68 = .ok (.istore 4, 2) := by decide +kernel
theorem dX11_squares_70 : decode cX11_squares 70 = .ok (.iload_n 1, 1) := by decide +kernel
theorem dX11_squares_71 : decode cX11_squares 71 = .ok (.iload 5, 2) := by decide +kernel
theorem dX11_squares_73 : decode cX11_squares 73 = .ok (.irem, 1) := by decide +kernel
theorem dX11_squares_74 : decode cX11_squares 74 = .ok (.ifCond .ne 6, 3) := by decide +kernel
theorem dX11_squares_77 : decode cX11_squares 77 = .ok (.iload 5, 2) := by decide +kernel
theorem dX11_squares_79 : decode cX11_squares 79 = .ok (.istore_n 3, 1) := by decide +kernel
theorem dX11_squares_80 : decode cX11_squares 80 = .ok (.iinc 5 1, 3) := by decide +kernel
theorem dX11_squares_83 : decode cX11_squares 83 = .ok (.goto (-26), 3) := by decide +kernel
theorem dX11_squares_86 : decode cX11_squares 86 = .ok (.iload 4, 2) := by decide +kernel
theorem dX11_squares_88 : decode cX11_squares 88 = .ok (.iload 4, 2) := by decide +kernel
theorem dX11_squares_90 : decode cX11_squares 90 = .ok (.imul, 1) := by decide +kernel
theorem dX11_squares_91 : decode cX11_squares 91 = .ok (.iload_n 1, 1) := by decide +kernel
theorem dX11_squares_92 : decode cX11_squares 92 = .ok (.if_icmp .ne 8, 3) := by decide +kernel
theorem dX11_squares_95 : decode cX11_squares 95 = .ok (.iload 4, 2) := by decide +kernel
theorem dX11_squares_97 : decode cX11_squares 97 = .ok (.goto 7, 3) := by decide +kernel
theorem dX11_squares_100 : decode cX11_squares 100 = .ok (.iload 4, 2) := by decide +kernel
theorem dX11_squares_102 : decode cX11_squares 102 = .ok (.iconst 1, 1) := by decide +kernel
theorem dX11_squares_103 : decode cX11_squares 103 = .ok (.iadd, 1) := by decide +kernel
theorem dX11_squares_104 : decode cX11_squares 104 = .ok (.istore 5, 2) := by decide +kernel
theorem dX11_squares_106 : decode cX11_squares 106 = .ok (.iload_n 2, 1) := by decide +kernel
theorem dX11_squares_107 : decode cX11_squares 107 = .ok (.ifCond .ne 7, 3) := by decide +kernel
theorem dX11_squares_110 : decode cX11_squares 110 = .ok (.iload_n 3, 1) := by decide +kernel
theorem dX11_squares_111 : decode cX11_squares 111 = .ok (.goto 15, 3) := by decide +kernel
theorem dX11_squares_114 : decode cX11_squares 114 = .ok (.iload_n 3, 1) := by decide +kernel
theorem dX11_squares_115 : decode cX11_squares 115 = .ok (.iload_n 1, 1) := by decide +kernel
theorem dX11_squares_116 : decode cX11_squares 116 = .ok (.iload_n 3, 1) := by decide +kernel
theorem dX11_squares_117 : decode cX11_squares 117 = .ok (.idiv, 1) := by decide +kernel
theorem dX11_squares_118 : decode cX11_squares 118 = .ok (.iadd, 1) := by decide +kernel
theorem dX11_squares_119 : decode cX11_squares 119 = .ok (.iconst 2, 1) := by decide +kernel
theorem dX11_squares_120 : decode cX11_squares 120 = .ok (.idiv, 1) := by decide +kernel
theorem dX11_squares_121 : decode cX11_squares 121 = .ok (.iload 5, 2) := by decide +kernel
theorem dX11_squares_123 : decode cX11_squares 123 = .ok (.isub, 1) := by decide +kernel
theorem dX11_squares_124 : decode cX11_squares 124 = .ok (.iconst 1, 1) := by decide +kernel
theorem dX11_squares_125 : decode cX11_squares 125 = .ok (.iadd, 1) := by decide +kernel
theorem dX11_squares_126 : decode cX11_squares 126 = .ok (.ireturn, 1) := by decide +kernel
theorem dX11_shared_0 : decode cX11_shared 0 = .ok (.lload_n 0, 1) := by decide +kernel
theorem dX11_shared_1 : decode cX11_shared 1 = .ok (.lstore 4, 2) := by decide +kernel
theorem dX11_shared_3 : decode cX11_shared 3 = .ok (.lload_n 2, 1) := by decide +kernel
theorem dX11_shared_4 : decode cX11_shared 4 = .ok (.lstore 6, 2) := by decide +kernel
theorem dX11_shared_6 : decode cX11_shared 6 = .ok (.lload 6, 2) := by decide +kernel
theorem dX11_shared_8 : decode cX11_shared 8 = .ok (.lconst 0, 1) := by decide +kernel
theorem dX11_shared_9 : decode cX11_shared 9 = .ok (.lcmp, 1) := by decide +kernel
theorem dX11_shared_10 : decode cX11_shared 10 = .ok (.ifCond .eq 21, 3) := by decide +kernel
theorem dX11_shared_13 : decode cX11_shared 13 = .ok (.lload 4, 2) := by decide +kernel
theorem dX11_shared_15 : decode cX11_shared 15 = .ok (.lload 6, 2) := by decide +kernel
theorem dX11_shared_17 : decode cX11_shared 17 = .ok (.lrem, 1) := by decide +kernel
theorem dX11_shared_18 : decode cX11_shared 18 = .ok (.lstore 8, 2) := by decide +kernel
theorem dX11_shared_20 : decode cX11_shared 20 = .ok (.lload 6, 2) := by decide +kernel
theorem dX11_shared_22 : decode cX11_shared 22 = .ok (.lstore 4, 2) := by decide +kernel
theorem dX11_shared_24 : decode cX11_shared 24 = .ok (.lload 8, 2) := by decide +kernel
theorem dX11_shared_26 : decode cX11_shared 26 = .ok (.lstore 6, 2) := by decide +kernel
theorem dX11_shared_28 : decode cX11_shared 28 = .ok (.goto (-22), 3) := by decide +kernel
theorem dX11_shared_31 : decode cX11_shared 31 = .ok (.lload 4, 2) := by decide +kernel
theorem dX11_shared_33 : decode cX11_shared 33 = .ok (.lreturn, 1) := by decide +kernel
theorem dX11_rounds_0 : decode cX11_rounds 0 = .ok (.aload_n 0, 1) := by decide +kernel
theorem dX11_rounds_1 : decode cX11_rounds 1 = .ok (.iload_n 1, 1) := by decide +kernel
theorem dX11_rounds_2 : decode cX11_rounds 2 = .ok (.i2l, 1) := by decide +kernel
theorem dX11_rounds_3 : decode cX11_rounds 3 = .ok (.ldc2_w 129, 3) := by decide +kernel
theorem dX11_rounds_6 : decode cX11_rounds 6 = .ok (.ldc2_w 247, 3) := by decide +kernel
theorem dX11_rounds_9 : decode cX11_rounds 9 = .ok (.invokestatic 133, 3) := by decide +kernel
theorem dX11_rounds_12 : decode cX11_rounds 12 = .ok (.ifCond .eq 29, 3) := by decide +kernel
theorem dX11_rounds_15 : decode cX11_rounds 15 = .ok (.iload_n 2, 1) := by decide +kernel
theorem dX11_rounds_16 : decode cX11_rounds 16 = .ok (.i2l, 1) := by decide +kernel
theorem dX11_rounds_17 : decode cX11_rounds 17 = .ok (.lconst 0, 1) := by decide +kernel
theorem dX11_rounds_18 : decode cX11_rounds 18 = .ok (.ldc2_w 358, 3) := by decide +kernel
theorem dX11_rounds_21 : decode cX11_rounds 21 = .ok (.invokestatic 133, 3) := by decide +kernel
theorem dX11_rounds_24 : decode cX11_rounds 24 = .ok (.ifCond .eq 17, 3) := by decide +kernel
theorem dX11_rounds_27 : decode cX11_rounds 27 = .ok (.iload_n 3, 1) := by decide +kernel
theorem dX11_rounds_28 : decode cX11_rounds 28 = .ok (.i2l, 1) := by decide +kernel
theorem dX11_rounds_29 : decode cX11_rounds 29 = .ok (.lconst 0, 1) := by decide +kernel
theorem dX11_rounds_30 : decode cX11_rounds 30 = .ok (.lconst 1, 1) := by decide +kernel
theorem dX11_rounds_31 : decode cX11_rounds 31 = .ok (.invokestatic 133, 3) := by decide +kernel
theorem dX11_rounds_34 : decode cX11_rounds 34 = .ok (.ifCond .eq 7, 3) := by decide +kernel
theorem dX11_rounds_37 : decode cX11_rounds 37 = .ok (.iconst 0, 1) := by decide +kernel
theorem dX11_rounds_38 : decode cX11_rounds 38 = .ok (.goto 4, 3) := by decide +kernel
theorem dX11_rounds_41 : decode cX11_rounds 41 = .ok (.iconst 1, 1) := by decide +kernel
theorem dX11_rounds_42 : decode cX11_rounds 42 = .ok (.putfield 64, 3) := by decide +kernel
theorem dX11_rounds_45 : decode cX11_rounds 45 = .ok (.aload_n 0, 1) := by decide +kernel
theorem dX11_rounds_46 : decode cX11_rounds 46 = .ok (.getfield 64, 3) := by decide +kernel
theorem dX11_rounds_49 : decode cX11_rounds 49 = .ok (.ifCond .le 5, 3) := by decide +kernel
theorem dX11_rounds_52 : decode cX11_rounds 52 = .ok (.iconst 0, 1) := by decide +kernel
theorem dX11_rounds_53 : decode cX11_rounds 53 = .ok (.ireturn, 1) := by decide +kernel
theorem dX11_rounds_54 : decode cX11_rounds 54 = .ok (.ldc2_w 129, 3) := by decide +kernel
theorem dX11_rounds_57 : decode cX11_rounds 57 = .ok (.lstore 4, 2) := by decide +kernel
theorem dX11_rounds_59 : decode cX11_rounds 59 = .ok (.ldc2_w 129, 3) := by decide +kernel
theorem dX11_rounds_62 : decode cX11_rounds 62 = .ok (.lstore 6, 2) := by decide +kernel
theorem dX11_rounds_64 : decode cX11_rounds 64 = .ok (.iconst 1, 1) := by decide +kernel
theorem dX11_rounds_65 : decode cX11_rounds 65 = .ok (.istore 8, 2) := by decide +kernel
theorem dX11_rounds_67 : decode cX11_rounds 67 = .ok (.iload 8, 2) := by decide +kernel
theorem dX11_rounds_69 : decode cX11_rounds 69 = .ok (.sipush 2000, 3) := by decide +kernel
theorem dX11_rounds_72 : decode cX11_rounds 72 = .ok (.if_icmp .gt 83, 3) := by decide +kernel
theorem dX11_rounds_75 : decode cX11_rounds 75 = .ok (.lload 4, 2) := by decide +kernel
theorem dX11_rounds_77 : decode cX11_rounds 77 = .ok (.lload 4, 2) := by decide +kernel
theorem dX11_rounds_79 : decode cX11_rounds 79 = .ok (.lmul, 1) := by decide +kernel
theorem dX11_rounds_80 : decode cX11_rounds 80 = .ok (.iload_n 2, 1) := by decide +kernel
theorem dX11_rounds_81 : decode cX11_rounds 81 = .ok (.i2l, 1) := by decide +kernel
theorem dX11_rounds_82 : decode cX11_rounds 82 = .ok (.ladd, 1) := by decide +kernel
theorem dX11_rounds_83 : decode cX11_rounds 83 = .ok (.iload_n 1, 1) := by decide +kernel
theorem dX11_rounds_84 : decode cX11_rounds 84 = .ok (.i2l, 1) := by decide +kernel
theorem dX11_rounds_85 : decode cX11_rounds 85 = .ok (.lrem, 1) := by decide +kernel
theorem dX11_rounds_86 : decode cX11_rounds 86 = .ok (.lstore 4, 2) := by decide +kernel
theorem dX11_rounds_88 : decode cX11_rounds 88 = .ok (.lload 6, 2) := by decide +kernel
theorem dX11_rounds_90 : decode cX11_rounds 90 = .ok (.lload 6, 2) := by decide +kernel
theorem dX11_rounds_92 : decode cX11_rounds 92 = .ok (.lmul, 1) := by decide +kernel
theorem dX11_rounds_93 : decode cX11_rounds 93 = .ok (.iload_n 2, 1) := by decide +kernel
theorem dX11_rounds_94 : decode cX11_rounds 94 = .ok (.i2l, 1) := by decide +kernel
theorem dX11_rounds_95 : decode cX11_rounds 95 = .ok (.ladd, 1) := by decide +kernel
theorem dX11_rounds_96 : decode cX11_rounds 96 = .ok (.iload_n 1, 1) := by decide +kernel
theorem dX11_rounds_97 : decode cX11_rounds 97 = .ok (.i2l, 1) := by decide +kernel
theorem dX11_rounds_98 : decode cX11_rounds 98 = .ok (.lrem, 1) := by decide +kernel
theorem dX11_rounds_99 : decode cX11_rounds 99 = .ok (.lstore 6, 2) := by decide +kernel
theorem dX11_rounds_101 : decode cX11_rounds 101 = .ok (.lload 6, 2) := by decide +kernel
theorem dX11_rounds_103 : decode cX11_rounds 103 = .ok (.lload 6, 2) := by decide +kernel
theorem dX11_rounds_105 : decode cX11_rounds 105 = .ok (.lmul, 1) := by decide +kernel
theorem dX11_rounds_106 : decode cX11_rounds 106 = .ok (.iload_n 2, 1) := by decide +kernel
theorem dX11_rounds_107 : decode cX11_rounds 107 = .ok (.i2l, 1) := by decide +kernel
theorem dX11_rounds_108 : decode cX11_rounds 108 = .ok (.ladd, 1) := by decide +kernel
theorem dX11_rounds_109 : decode cX11_rounds 109 = .ok (.iload_n 1, 1) := by decide +kernel
theorem dX11_rounds_110 : decode cX11_rounds 110 = .ok (.i2l, 1) := by decide +kernel
theorem dX11_rounds_111 : decode cX11_rounds 111 = .ok (.lrem, 1) := by decide +kernel
theorem dX11_rounds_112 : decode cX11_rounds 112 = .ok (.lstore 6, 2) := by decide +kernel
theorem dX11_rounds_114 : decode cX11_rounds 114 = .ok (.iload_n 1, 1) := by decide +kernel
theorem dX11_rounds_115 : decode cX11_rounds 115 = .ok (.i2l, 1) := by decide +kernel
theorem dX11_rounds_116 : decode cX11_rounds 116 = .ok (.lload 4, 2) := by decide +kernel
theorem dX11_rounds_118 : decode cX11_rounds 118 = .ok (.lload 6, 2) := by decide +kernel
theorem dX11_rounds_120 : decode cX11_rounds 120 = .ok (.lsub, 1) := by decide +kernel
theorem dX11_rounds_121 : decode cX11_rounds 121 = .ok (.invokestatic 320, 3) := by decide +kernel
theorem dX11_rounds_124 : decode cX11_rounds 124 = .ok (.invokestatic 360, 3) := by decide +kernel
theorem dX11_rounds_127 : decode cX11_rounds 127 = .ok (.lstore 9, 2) := by decide +kernel
theorem dX11_rounds_129 : decode cX11_rounds 129 = .ok (.lload 9, 2) := by decide +kernel
theorem dX11_rounds_131 : decode cX11_rounds 131 = .ok (.lconst 1, 1) := by decide +kernel
theorem dX11_rounds_132 : decode cX11_rounds 132 = .ok (.lcmp, 1) := by decide +kernel
theorem dX11_rounds_133 : decode cX11_rounds 133 = .ok (.ifCond .le 16, 3) := by decide +kernel
theorem dX11_rounds_136 : decode cX11_rounds 136 = .ok (.iload_n 3, 1) := by decide +kernel
theorem dX11_rounds_137 : decode cX11_rounds 137 = .ok (.ifCond .ne 9, 3) := by decide +kernel
theorem dX11_rounds_140 : decode cX11_rounds 140 = .ok (.lload 9, 2) := by decide +kernel
theorem dX11_rounds_142 : decode cX11_rounds 142 = .ok (.l2i, 1) := by decide +kernel
theorem dX11_rounds_143 : decode cX11_rounds 143 = .ok (.goto 5, 3) := by decide +kernel
theorem dX11_rounds_146 : decode cX11_rounds 146 = .ok (.iload 8, 2) := by decide +kernel
theorem dX11_rounds_148 : decode cX11_rounds 148 = .ok (.ireturn, 1) := by decide +kernel
theorem dX11_rounds_149 : decode cX11_rounds 149 = .ok (.iinc 8 1, 3) := by decide +kernel
theorem dX11_rounds_152 : decode cX11_rounds 152 = .ok (.goto (-85), 3) := by decide +kernel
theorem dX11_rounds_155 : decode cX11_rounds 155 = .ok (.iconst (-1), 1) := by decide +kernel
theorem dX11_rounds_156 : decode cX11_rounds 156 = .ok (.ireturn, 1) := by decide +kernel
theorem dX11_factor_0 : decode cX11_factor 0 = .ok (.aload_n 0, 1) := by decide +kernel
theorem dX11_factor_1 : decode cX11_factor 1 = .ok (.iconst 0, 1) := by decide +kernel
theorem dX11_factor_2 : decode cX11_factor 2 = .ok (.putfield 64, 3) := by decide +kernel
theorem dX11_factor_5 : decode cX11_factor 5 = .ok (.iload_n 1, 1) := by decide +kernel
theorem dX11_factor_6 : decode cX11_factor 6 = .ok (.invokestatic 350, 3) := by decide +kernel
theorem dX11_factor_9 : decode cX11_factor 9 = .ok (.ifCond .ne 9, 3) := by decide +kernel
theorem dX11_factor_12 : decode cX11_factor 12 = .ok (.aload_n 0, 1) := by decide +kernel
theorem dX11_factor_13 : decode cX11_factor 13 = .ok (.iconst 1, 1) := by decide +kernel
theorem dX11_factor_14 : decode cX11_factor 14 = .ok (.invokevirtual 178, 3) := by decide +kernel
theorem dX11_factor_17 : decode cX11_factor 17 = .ok (.ireturn, 1) := by decide +kernel
theorem dX11_factor_18 : decode cX11_factor 18 = .ok (.iload_n 1, 1) := by decide +kernel
theorem dX11_factor_19 : decode cX11_factor 19 = .ok (.istore_n 3, 1) := by decide +kernel
theorem dX11_factor_20 : decode cX11_factor 20 = .ok (.iconst 0, 1) := by decide +kernel
theorem dX11_factor_21 : decode cX11_factor 21 = .ok (.istore 4, 2) := by decide +kernel
theorem dX11_factor_23 : decode cX11_factor 23 = .ok (.iload_n 3, 1) := by decide +kernel
theorem dX11_factor_24 : decode cX11_factor 24 = .ok (.iconst 1, 1) := by decide +kernel
theorem dX11_factor_25 : decode cX11_factor 25 = .ok (.if_icmp .le 29, 3) := by decide +kernel
theorem dX11_factor_28 : decode cX11_factor 28 = .ok (.iload_n 3, 1) := by decide +kernel
theorem dX11_factor_29 : decode cX11_factor 29 = .ok (.invokestatic 353, 3) := by decide +kernel
theorem dX11_factor_32 : decode cX11_factor 32 = .ok (.istore 5, 2) := by decide +kernel
theorem dX11_factor_34 : decode cX11_factor 34 = .ok (.iload 4, 2) := by decide +kernel
theorem dX11_factor_36 : decode cX11_factor 36 = .ok (.iload_n 2, 1) := by decide +kernel
theorem dX11_factor_37 : decode cX11_factor 37 = .ok (.if_icmp .ne 6, 3) := by decide +kernel
theorem dX11_factor_40 : decode cX11_factor 40 = .ok (.iload 5, 2) := by decide +kernel
theorem dX11_factor_42 : decode cX11_factor 42 = .ok (.ireturn, 1) := by decide +kernel
theorem dX11_factor_43 : decode cX11_factor 43 = .ok (.iinc 4 1, 3) := by decide +kernel
theorem dX11_factor_46 : decode cX11_factor 46 = .ok (.iload_n 3, 1) := by decide +kernel
theorem dX11_factor_47 : decode cX11_factor 47 = .ok (.iload 5, 2) := by decide +kernel
theorem dX11_factor_49 : decode cX11_factor 49 = .ok (.idiv, 1) := by decide +kernel
theorem dX11_factor_50 : decode cX11_factor 50 = .ok (.istore_n 3, 1) := by decide +kernel
theorem dX11_factor_51 : decode cX11_factor 51 = .ok (.goto (-28), 3) := by decide +kernel
theorem dX11_factor_54 : decode cX11_factor 54 = .ok (.iload_n 2, 1) := by decide +kernel
theorem dX11_factor_55 : decode cX11_factor 55 = .ok (.iconst (-1), 1) := by decide +kernel
theorem dX11_factor_56 : decode cX11_factor 56 = .ok (.if_icmp .ne 8, 3) := by decide +kernel
theorem dX11_factor_59 : decode cX11_factor 59 = .ok (.iload 4, 2) := by decide +kernel
theorem dX11_factor_61 : decode cX11_factor 61 = .ok (.goto 4, 3) := by decide +kernel
theorem dX11_factor_64 : decode cX11_factor 64 = .ok (.iconst (-1), 1) := by decide +kernel
theorem dX11_factor_65 : decode cX11_factor 65 = .ok (.ireturn, 1) := by decide +kernel
theorem dX11_smooth_0 : decode cX11_smooth 0 = .ok (.aload_n 0, 1) := by decide +kernel
theorem dX11_smooth_1 : decode cX11_smooth 1 = .ok (.iload_n 1, 1) := by decide +kernel
theorem dX11_smooth_2 : decode cX11_smooth 2 = .ok (.i2l, 1) := by decide +kernel
theorem dX11_smooth_3 : decode cX11_smooth 3 = .ok (.lconst 1, 1) := by decide +kernel
theorem dX11_smooth_4 : decode cX11_smooth 4 = .ok (.ldc2_w 363, 3) := by decide +kernel
theorem dX11_smooth_7 : decode cX11_smooth 7 = .ok (.invokestatic 133, 3) := by decide +kernel
theorem dX11_smooth_10 : decode cX11_smooth 10 = .ok (.ifCond .eq 28, 3) := by decide +kernel
theorem dX11_smooth_13 : decode cX11_smooth 13 = .ok (.iload_n 2, 1) := by decide +kernel
theorem dX11_smooth_14 : decode cX11_smooth 14 = .ok (.i2l, 1) := by decide +kernel
theorem dX11_smooth_15 : decode cX11_smooth 15 = .ok (.ldc2_w 129, 3) := by decide +kernel
theorem dX11_smooth_18 : decode cX11_smooth 18 = .ok (.ldc2_w 131, 3) := by decide +kernel
theorem dX11_smooth_21 : decode cX11_smooth 21 = .ok (.invokestatic 133, 3) := by decide +kernel
theorem dX11_smooth_24 : decode cX11_smooth 24 = .ok (.ifCond .eq 14, 3) := by decide +kernel
theorem dX11_smooth_27 : decode cX11_smooth 27 = .ok (.iload_n 2, 1) := by decide +kernel
theorem dX11_smooth_28 : decode cX11_smooth 28 = .ok (.invokestatic 137, 3) := by decide +kernel
theorem dX11_smooth_31 : decode cX11_smooth 31 = .ok (.ifCond .eq 7, 3) := by decide +kernel
theorem dX11_smooth_34 : decode cX11_smooth 34 = .ok (.iconst 0, 1) := by decide +kernel
theorem dX11_smooth_35 : decode cX11_smooth 35 = .ok (.goto 4, 3) := by decide +kernel
theorem dX11_smooth_38 : decode cX11_smooth 38 = .ok (.iconst 1, 1) := by decide +kernel
theorem dX11_smooth_39 : decode cX11_smooth 39 = .ok (.putfield 64, 3) := by decide +kernel
theorem dX11_smooth_42 : decode cX11_smooth 42 = .ok (.aload_n 0, 1) := by decide +kernel
theorem dX11_smooth_43 : decode cX11_smooth 43 = .ok (.getfield 64, 3) := by decide +kernel
theorem dX11_smooth_46 : decode cX11_smooth 46 = .ok (.ifCond .le 5, 3) := by decide +kernel
theorem dX11_smooth_49 : decode cX11_smooth 49 = .ok (.iconst 0, 1) := by decide +kernel
theorem dX11_smooth_50 : decode cX11_smooth 50 = .ok (.ireturn, 1) := by decide +kernel
theorem dX11_smooth_51 : decode cX11_smooth 51 = .ok (.iconst 0, 1) := by decide +kernel
theorem dX11_smooth_52 : decode cX11_smooth 52 = .ok (.istore_n 3, 1) := by decide +kernel
theorem dX11_smooth_53 : decode cX11_smooth 53 = .ok (.iconst 1, 1) := by decide +kernel
theorem dX11_smooth_54 : decode cX11_smooth 54 = .ok (.istore 4, 2) := by decide +kernel
theorem dX11_smooth_56 : decode cX11_smooth 56 = .ok (.iload 4, 2) := by decide +kernel
theorem dX11_smooth_58 : decode cX11_smooth 58 = .ok (.iload_n 1, 1) := by decide +kernel
theorem dX11_smooth_59 : decode cX11_smooth 59 = .ok (.if_icmp .gt 60, 3) := by decide +kernel
theorem dX11_smooth_62 : decode cX11_smooth 62 = .ok (.iload 4, 2) := by decide +kernel
theorem dX11_smooth_64 : decode cX11_smooth 64 = .ok (.istore 5, 2) := by decide +kernel
theorem dX11_smooth_66 : decode cX11_smooth 66 = .ok (.iconst 2, 1) := by decide +kernel
theorem dX11_smooth_67 : decode cX11_smooth 67 = .ok (.istore 6, 2) := by decide +kernel
theorem dX11_smooth_69 : decode cX11_smooth 69 = .ok (.iload 6, 2) := by decide +kernel
theorem dX11_smooth_71 : decode cX11_smooth 71 = .ok (.iload_n 2, 1) := by decide +kernel
theorem dX11_smooth_72 : decode cX11_smooth 72 = .ok (.if_icmp .gt 27, 3) := by decide +kernel
theorem dX11_smooth_75 : decode cX11_smooth 75 = .ok (.iload 5, 2) := by decide +kernel
theorem dX11_smooth_77 : decode cX11_smooth 77 = .ok (.iload 6, 2) := by decide +kernel
theorem dX11_smooth_79 : decode cX11_smooth 79 = .ok (.irem, 1) := by decide +kernel
theorem dX11_smooth_80 : decode cX11_smooth 80 = .ok (.ifCond .ne 13, 3) := by decide +kernel
theorem dX11_smooth_83 : decode cX11_smooth 83 = .ok (.iload 5, 2) := by decide +kernel
theorem dX11_smooth_85 : decode cX11_smooth 85 = .ok (.iload 6, 2) := by decide +kernel
theorem dX11_smooth_87 : decode cX11_smooth 87 = .ok (.idiv, 1) := by decide +kernel
theorem dX11_smooth_88 : decode cX11_smooth 88 = .ok (.istore 5, 2) := by decide +kernel
theorem dX11_smooth_90 : decode cX11_smooth 90 = .ok (.goto (-15), 3) := by decide +kernel
theorem dX11_smooth_93 : decode cX11_smooth 93 = .ok (.iinc 6 1, 3) := by decide +kernel
theorem dX11_smooth_96 : decode cX11_smooth 96 = .ok (.goto (-27), 3) := by decide +kernel
theorem dX11_smooth_99 : decode cX11_smooth 99 = .ok (.iload_n 3, 1) := by decide +kernel
theorem dX11_smooth_100 : decode cX11_smooth 100 = .ok (.iload 5, 2) := by decide +kernel
theorem dX11_smooth_102 : decode cX11_smooth 102 = .ok (.iconst 1, 1) := by decide +kernel
theorem dX11_smooth_103 : decode cX11_smooth 103 = .ok (.if_icmp .ne 7, 3) := by decide +kernel
theorem dX11_smooth_106 : decode cX11_smooth 106 = .ok (.iconst 1, 1) := by decide +kernel
theorem dX11_smooth_107 : decode cX11_smooth 107 = .ok (.goto 4, 3) := by decide +kernel
theorem dX11_smooth_110 : decode cX11_smooth 110 = .ok (.iconst 0, 1) := by decide +kernel
theorem dX11_smooth_111 : decode cX11_smooth 111 = .ok (.iadd, 1) := by decide +kernel
theorem dX11_smooth_112 : decode cX11_smooth 112 = .ok (.istore_n 3, 1) := by decide +kernel
theorem dX11_smooth_113 : decode cX11_smooth 113 = .ok (.iinc 4 1, 3) := by decide +kernel
theorem dX11_smooth_116 : decode cX11_smooth 116 = .ok (.goto (-60), 3) := by decide +kernel
theorem dX11_smooth_119 : decode cX11_smooth 119 = .ok (.iload_n 3, 1) := by decide +kernel
theorem dX11_smooth_120 : decode cX11_smooth 120 = .ok (.ireturn, 1) := by decide +kernel
theorem dX11_primesTo_0 : decode cX11_primesTo 0 = .ok (.aload_n 0, 1) := by decide +kernel
theorem dX11_primesTo_1 : decode cX11_primesTo 1 = .ok (.iconst 0, 1) := by decide +kernel
theorem dX11_primesTo_2 : decode cX11_primesTo 2 = .ok (.putfield 64, 3) := by decide +kernel
theorem dX11_primesTo_5 : decode cX11_primesTo 5 = .ok (.iload_n 1, 1) := by decide +kernel
theorem dX11_primesTo_6 : decode cX11_primesTo 6 = .ok (.i2l, 1) := by decide +kernel
theorem dX11_primesTo_7 : decode cX11_primesTo 7 = .ok (.lconst 1, 1) := by decide +kernel
theorem dX11_primesTo_8 : decode cX11_primesTo 8 = .ok (.ldc2_w 363, 3) := by decide +kernel
theorem dX11_primesTo_11 : decode cX11_primesTo 11 = .ok (.invokestatic 133, 3) := by decide +kernel
theorem dX11_primesTo_14 : decode cX11_primesTo 14 = .ok (.ifCond .ne 9, 3) := by decide +kernel
theorem dX11_primesTo_17 : decode cX11_primesTo 17 = .ok (.aload_n 0, 1) := by decide +kernel
theorem dX11_primesTo_18 : decode cX11_primesTo 18 = .ok (.iconst 1, 1) := by decide +kernel
theorem dX11_primesTo_19 : decode cX11_primesTo 19 = .ok (.invokevirtual 178, 3) := by decide +kernel
theorem dX11_primesTo_22 : decode cX11_primesTo 22 = .ok (.ireturn, 1) := by decide +kernel
theorem dX11_primesTo_23 : decode cX11_primesTo 23 = .ok (.iconst 0, 1) := by decide +kernel
theorem dX11_primesTo_24 : decode cX11_primesTo 24 = .ok (.istore_n 2, 1) := by decide +kernel
theorem dX11_primesTo_25 : decode cX11_primesTo 25 = .ok (.iconst 2, 1) := by decide +kernel
theorem dX11_primesTo_26 : decode cX11_primesTo 26 = .ok (.istore_n 3, 1) := by decide +kernel
theorem dX11_primesTo_27 : decode cX11_primesTo 27 = .ok (.iload_n 3, 1) := by decide +kernel
theorem dX11_primesTo_28 : decode cX11_primesTo 28 = .ok (.iload_n 1, 1) := by decide +kernel
theorem dX11_primesTo_29 : decode cX11_primesTo 29 = .ok (.if_icmp .gt 24, 3) := by decide +kernel
theorem dX11_primesTo_32 : decode cX11_primesTo 32 = .ok (.iload_n 2, 1) := by decide +kernel
theorem dX11_primesTo_33 : decode cX11_primesTo 33 = .ok (.iload_n 3, 1) := by decide +kernel
theorem dX11_primesTo_34 : decode cX11_primesTo 34 = .ok (.invokestatic 137, 3) := by decide +kernel
theorem dX11_primesTo_37 : decode cX11_primesTo 37 = .ok (.ifCond .eq 7, 3) := by decide +kernel
theorem dX11_primesTo_40 : decode cX11_primesTo 40 = .ok (.iconst 1, 1) := by decide +kernel
theorem dX11_primesTo_41 : decode cX11_primesTo 41 = .ok (.goto 4, 3) := by decide +kernel
theorem dX11_primesTo_44 : decode cX11_primesTo 44 = .ok (.iconst 0, 1) := by decide +kernel
theorem dX11_primesTo_45 : decode cX11_primesTo 45 = .ok (.iadd, 1) := by decide +kernel
theorem dX11_primesTo_46 : decode cX11_primesTo 46 = .ok (.istore_n 2, 1) := by decide +kernel
theorem dX11_primesTo_47 : decode cX11_primesTo 47 = .ok (.iinc 3 1, 3) := by decide +kernel
theorem dX11_primesTo_50 : decode cX11_primesTo 50 = .ok (.goto (-23), 3) := by decide +kernel
theorem dX11_primesTo_53 : decode cX11_primesTo 53 = .ok (.iload_n 2, 1) := by decide +kernel
theorem dX11_primesTo_54 : decode cX11_primesTo 54 = .ok (.ireturn, 1) := by decide +kernel
theorem dX11_powerBy_0 : decode cX11_powerBy 0 = .ok (.lconst 1, 1) := by decide +kernel
theorem dX11_powerBy_1 : decode cX11_powerBy 1 = .ok (.lload_n 3, 1) := by decide +kernel
theorem dX11_powerBy_2 : decode cX11_powerBy 2 = .ok (.lrem, 1) := by decide +kernel
theorem dX11_powerBy_3 : decode cX11_powerBy 3 = .ok (.lstore 5, 2) := by decide +kernel
theorem dX11_powerBy_5 : decode cX11_powerBy 5 = .ok (.lload_n 0, 1) := by decide +kernel
theorem dX11_powerBy_6 : decode cX11_powerBy 6 = .ok (.lload_n 3, 1) := by decide +kernel
theorem dX11_powerBy_7 : decode cX11_powerBy 7 = .ok (.lrem, 1) := by decide +kernel
theorem dX11_powerBy_8 : decode cX11_powerBy 8 = .ok (.lstore 7, 2) := by decide +kernel
theorem dX11_powerBy_10 : decode cX11_powerBy 10 = .ok (.iload_n 2, 1) := by decide +kernel
theorem dX11_powerBy_11 : decode cX11_powerBy 11 = .ok (.istore 9, 2) := by decide +kernel
theorem dX11_powerBy_13 : decode cX11_powerBy 13 = .ok (.iload 9, 2) := by decide +kernel
theorem dX11_powerBy_15 : decode cX11_powerBy 15 = .ok (.ifCond .le 38, 3) := by decide +kernel
theorem dX11_powerBy_18 : decode cX11_powerBy 18 = .ok (.iload 9, 2) := by decide +kernel
theorem dX11_powerBy_20 : decode cX11_powerBy 20 = .ok (.iconst 1, 1) := by decide +kernel
theorem dX11_powerBy_21 : decode cX11_powerBy 21 = .ok (.iand, 1) := by decide +kernel
theorem dX11_powerBy_22 : decode cX11_powerBy 22 = .ok (.iconst 1, 1) := by decide +kernel
theorem dX11_powerBy_23 : decode cX11_powerBy 23 = .ok (.if_icmp .ne 12, 3) := by decide +kernel
theorem dX11_powerBy_26 : decode cX11_powerBy 26 = .ok (.lload 5, 2) := by decide +kernel
theorem dX11_powerBy_28 : decode cX11_powerBy 28 = .ok (.lload 7, 2) := by decide +kernel
theorem dX11_powerBy_30 : decode cX11_powerBy 30 = .ok (.lmul, 1) := by decide +kernel
theorem dX11_powerBy_31 : decode cX11_powerBy 31 = .ok (.lload_n 3, 1) := by decide +kernel
theorem dX11_powerBy_32 : decode cX11_powerBy 32 = .ok (.lrem, 1) := by decide +kernel
theorem dX11_powerBy_33 : decode cX11_powerBy 33 = .ok (.lstore 5, 2) := by decide +kernel
theorem dX11_powerBy_35 : decode cX11_powerBy 35 = .ok (.lload 7, 2) := by decide +kernel
theorem dX11_powerBy_37 : decode cX11_powerBy 37 = .ok (.lload 7, 2) := by decide +kernel
theorem dX11_powerBy_39 : decode cX11_powerBy 39 = .ok (.lmul, 1) := by decide +kernel
theorem dX11_powerBy_40 : decode cX11_powerBy 40 = .ok (.lload_n 3, 1) := by decide +kernel
theorem dX11_powerBy_41 : decode cX11_powerBy 41 = .ok (.lrem, 1) := by decide +kernel
theorem dX11_powerBy_42 : decode cX11_powerBy 42 = .ok (.lstore 7, 2) := by decide +kernel
theorem dX11_powerBy_44 : decode cX11_powerBy 44 = .ok (.iload 9, 2) := by decide +kernel
theorem dX11_powerBy_46 : decode cX11_powerBy 46 = .ok (.iconst 1, 1) := by decide +kernel
theorem dX11_powerBy_47 : decode cX11_powerBy 47 = .ok (.ishr, 1) := by decide +kernel
theorem dX11_powerBy_48 : decode cX11_powerBy 48 = .ok (.istore 9, 2) := by decide +kernel
theorem dX11_powerBy_50 : decode cX11_powerBy 50 = .ok (.goto (-37), 3) := by decide +kernel
theorem dX11_powerBy_53 : decode cX11_powerBy 53 = .ok (.lload 5, 2) := by decide +kernel
theorem dX11_powerBy_55 : decode cX11_powerBy 55 = .ok (.lreturn, 1) := by decide +kernel
theorem dX11_witness_0 : decode cX11_witness 0 = .ok (.aload_n 0, 1) := by decide +kernel
theorem dX11_witness_1 : decode cX11_witness 1 = .ok (.iconst 0, 1) := by decide +kernel
theorem dX11_witness_2 : decode cX11_witness 2 = .ok (.putfield 64, 3) := by decide +kernel
theorem dX11_witness_5 : decode cX11_witness 5 = .ok (.iload_n 1, 1) := by decide +kernel
theorem dX11_witness_6 : decode cX11_witness 6 = .ok (.i2l, 1) := by decide +kernel
theorem dX11_witness_7 : decode cX11_witness 7 = .ok (.ldc2_w 129, 3) := by decide +kernel
theorem dX11_witness_10 : decode cX11_witness 10 = .ok (.ldc2_w 247, 3) := by decide +kernel
theorem dX11_witness_13 : decode cX11_witness 13 = .ok (.invokestatic 133, 3) := by decide +kernel
theorem dX11_witness_16 : decode cX11_witness 16 = .ok (.ifCond .ne 9, 3) := by decide +kernel
theorem dX11_witness_19 : decode cX11_witness 19 = .ok (.aload_n 0, 1) := by decide +kernel
theorem dX11_witness_20 : decode cX11_witness 20 = .ok (.iconst 1, 1) := by decide +kernel
theorem dX11_witness_21 : decode cX11_witness 21 = .ok (.invokevirtual 178, 3) := by decide +kernel
theorem dX11_witness_24 : decode cX11_witness 24 = .ok (.ireturn, 1) := by decide +kernel
theorem dX11_witness_25 : decode cX11_witness 25 = .ok (.iconst 2, 1) := by decide +kernel
theorem dX11_witness_26 : decode cX11_witness 26 = .ok (.istore_n 2, 1) := by decide +kernel
theorem dX11_witness_27 : decode cX11_witness 27 = .ok (.iload_n 2, 1) := by decide +kernel
theorem dX11_witness_28 : decode cX11_witness 28 = .ok (.bipush 60, 2) := by decide +kernel
theorem dX11_witness_30 : decode cX11_witness 30 = .ok (.if_icmp .gt 31, 3) := by decide +kernel
theorem dX11_witness_33 : decode cX11_witness 33 = .ok (.iload_n 2, 1) := by decide +kernel
theorem dX11_witness_34 : decode cX11_witness 34 = .ok (.iload_n 1, 1) := by decide +kernel
theorem dX11_witness_35 : decode cX11_witness 35 = .ok (.if_icmp .ge 26, 3) := by decide +kernel
theorem dX11_witness_38 : decode cX11_witness 38 = .ok (.iload_n 2, 1) := by decide +kernel
theorem dX11_witness_39 : decode cX11_witness 39 = .ok (.i2l, 1) := by decide +kernel
theorem dX11_witness_40 : decode cX11_witness 40 = .ok (.iload_n 1, 1) := by decide +kernel
theorem dX11_witness_41 : decode cX11_witness 41 = .ok (.iconst 1, 1) := by decide +kernel
theorem dX11_witness_42 : decode cX11_witness 42 = .ok (.isub, 1) := by decide +kernel
theorem dX11_witness_43 : decode cX11_witness 43 = .ok (.iload_n 1, 1) := by decide +kernel
theorem dX11_witness_44 : decode cX11_witness 44 = .ok (.i2l, 1) := by decide +kernel
theorem dX11_witness_45 : decode cX11_witness 45 = .ok (.invokestatic 365, 3) := by decide +kernel
theorem dX11_witness_48 : decode cX11_witness 48 = .ok (.lconst 1, 1) := by decide +kernel
theorem dX11_witness_49 : decode cX11_witness 49 = .ok (.lcmp, 1) := by decide +kernel
theorem dX11_witness_50 : decode cX11_witness 50 = .ok (.ifCond .eq 5, 3) := by decide +kernel
theorem dX11_witness_53 : decode cX11_witness 53 = .ok (.iload_n 2, 1) := by decide +kernel
theorem dX11_witness_54 : decode cX11_witness 54 = .ok (.ireturn, 1) := by decide +kernel
theorem dX11_witness_55 : decode cX11_witness 55 = .ok (.iinc 2 1, 3) := by decide +kernel
theorem dX11_witness_58 : decode cX11_witness 58 = .ok (.goto (-31), 3) := by decide +kernel
theorem dX11_witness_61 : decode cX11_witness 61 = .ok (.iconst (-1), 1) := by decide +kernel
theorem dX11_witness_62 : decode cX11_witness 62 = .ok (.ireturn, 1) := by decide +kernel
theorem dX11_order_0 : decode cX11_order 0 = .ok (.aload_n 0, 1) := by decide +kernel
theorem dX11_order_1 : decode cX11_order 1 = .ok (.iload_n 2, 1) := by decide +kernel
theorem dX11_order_2 : decode cX11_order 2 = .ok (.i2l, 1) := by decide +kernel
theorem dX11_order_3 : decode cX11_order 3 = .ok (.ldc2_w 129, 3) := by decide +kernel
theorem dX11_order_6 : decode cX11_order 6 = .ok (.ldc2_w 369, 3) := by decide +kernel
theorem dX11_order_9 : decode cX11_order 9 = .ok (.invokestatic 133, 3) := by decide +kernel
theorem dX11_order_12 : decode cX11_order 12 = .ok (.ifCond .eq 20, 3) := by decide +kernel
theorem dX11_order_15 : decode cX11_order 15 = .ok (.iload_n 1, 1) := by decide +kernel
theorem dX11_order_16 : decode cX11_order 16 = .ok (.i2l, 1) := by decide +kernel
theorem dX11_order_17 : decode cX11_order 17 = .ok (.lconst 1, 1) := by decide +kernel
theorem dX11_order_18 : decode cX11_order 18 = .ok (.iload_n 2, 1) := by decide +kernel
theorem dX11_order_19 : decode cX11_order 19 = .ok (.iconst 1, 1) := by decide +kernel
theorem dX11_order_20 : decode cX11_order 20 = .ok (.isub, 1) := by decide +kernel
theorem dX11_order_21 : decode cX11_order 21 = .ok (.i2l, 1) := by decide +kernel
theorem dX11_order_22 : decode cX11_order 22 = .ok (.invokestatic 133, 3) := by decide +kernel
theorem dX11_order_25 : decode cX11_order 25 = .ok (.ifCond .eq 7, 3) := by decide +kernel
theorem dX11_order_28 : decode cX11_order 28 = .ok (.iconst 0, 1) := by decide +kernel
theorem dX11_order_29 : decode cX11_order 29 = .ok (.goto 4, 3) := by decide +kernel
theorem dX11_order_32 : decode cX11_order 32 = .ok (.iconst 1, 1) := by decide +kernel
theorem dX11_order_33 : decode cX11_order 33 = .ok (.putfield 64, 3) := by decide +kernel
theorem dX11_order_36 : decode cX11_order 36 = .ok (.aload_n 0, 1) := by decide +kernel
theorem dX11_order_37 : decode cX11_order 37 = .ok (.getfield 64, 3) := by decide +kernel
theorem dX11_order_40 : decode cX11_order 40 = .ok (.ifCond .le 5, 3) := by decide +kernel
theorem dX11_order_43 : decode cX11_order 43 = .ok (.iconst 0, 1) := by decide +kernel
theorem dX11_order_44 : decode cX11_order 44 = .ok (.ireturn, 1) := by decide +kernel
theorem dX11_order_45 : decode cX11_order 45 = .ok (.iload_n 1, 1) := by decide +kernel
theorem dX11_order_46 : decode cX11_order 46 = .ok (.i2l, 1) := by decide +kernel
theorem dX11_order_47 : decode cX11_order 47 = .ok (.iload_n 2, 1) := by decide +kernel
theorem dX11_order_48 : decode cX11_order 48 = .ok (.i2l, 1) := by decide +kernel
theorem dX11_order_49 : decode cX11_order 49 = .ok (.invokestatic 360, 3) := by decide +kernel
theorem dX11_order_52 : decode cX11_order 52 = .ok (.lconst 1, 1) := by decide +kernel
theorem dX11_order_53 : decode cX11_order 53 = .ok (.lcmp, 1) := by decide +kernel
theorem dX11_order_54 : decode cX11_order 54 = .ok (.ifCond .eq 5, 3) := by decide +kernel
theorem dX11_order_57 : decode cX11_order 57 = .ok (.iconst (-1), 1) := by decide +kernel
theorem dX11_order_58 : decode cX11_order 58 = .ok (.ireturn, 1) := by decide +kernel
theorem dX11_order_59 : decode cX11_order 59 = .ok (.iconst 1, 1) := by decide +kernel
theorem dX11_order_60 : decode cX11_order 60 = .ok (.istore_n 3, 1) := by decide +kernel
theorem dX11_order_61 : decode cX11_order 61 = .ok (.iload_n 1, 1) := by decide +kernel
theorem dX11_order_62 : decode cX11_order 62 = .ok (.istore 4, 2) := by decide +kernel
theorem dX11_order_64 : decode cX11_order 64 = .ok (.iload 4, 2) := by decide +kernel
theorem dX11_order_66 : decode cX11_order 66 = .ok (.iconst 1, 1) := by decide +kernel
theorem dX11_order_67 : decode cX11_order 67 = .ok (.if_icmp .eq 17, 3) := by decide +kernel
theorem dX11_order_70 : decode cX11_order 70 = .ok (.iinc 3 1, 3) := by decide +kernel
theorem dX11_order_73 : decode cX11_order 73 = .ok (.iload 4, 2) := by decide +kernel
theorem dX11_order_75 : decode cX11_order 75 = .ok (.iload_n 1, 1) := by decide +kernel
theorem dX11_order_76 : decode cX11_order 76 = .ok (.imul, 1) := by decide +kernel
theorem dX11_order_77 : decode cX11_order 77 = .ok (.iload_n 2, 1) := by decide +kernel
theorem dX11_order_78 : decode cX11_order 78 = .ok (.irem, 1) := by decide +kernel
theorem dX11_order_79 : decode cX11_order 79 = .ok (.istore 4, 2) := by decide +kernel
theorem dX11_order_81 : decode cX11_order 81 = .ok (.goto (-17), 3) := by decide +kernel
theorem dX11_order_84 : decode cX11_order 84 = .ok (.iload_n 3, 1) := by decide +kernel
theorem dX11_order_85 : decode cX11_order 85 = .ok (.ireturn, 1) := by decide +kernel
theorem dX11_debt_0 : decode cX11_debt 0 = .ok (.aload_n 0, 1) := by decide +kernel
theorem dX11_debt_1 : decode cX11_debt 1 = .ok (.getfield 9, 3) := by decide +kernel
theorem dX11_debt_4 : decode cX11_debt 4 = .ok (.sipush 156, 3) := by decide +kernel
theorem dX11_debt_7 : decode cX11_debt 7 = .ok (.iconst 5, 1) := by decide +kernel
theorem dX11_debt_8 : decode cX11_debt 8 = .ok (.iload_n 1, 1) := by decide +kernel
theorem dX11_debt_9 : decode cX11_debt 9 = .ok (.imul, 1) := by decide +kernel
theorem dX11_debt_10 : decode cX11_debt 10 = .ok (.iadd, 1) := by decide +kernel
theorem dX11_debt_11 : decode cX11_debt 11 = .ok (.iload_n 2, 1) := by decide +kernel
theorem dX11_debt_12 : decode cX11_debt 12 = .ok (.iadd, 1) := by decide +kernel
theorem dX11_debt_13 : decode cX11_debt 13 = .ok (.iaload, 1) := by decide +kernel
theorem dX11_debt_14 : decode cX11_debt 14 = .ok (.ireturn, 1) := by decide +kernel
theorem dX11_owe_0 : decode cX11_owe 0 = .ok (.aload_n 0, 1) := by decide +kernel
theorem dX11_owe_1 : decode cX11_owe 1 = .ok (.aload_n 0, 1) := by decide +kernel
theorem dX11_owe_2 : decode cX11_owe 2 = .ok (.iload_n 1, 1) := by decide +kernel
theorem dX11_owe_3 : decode cX11_owe 3 = .ok (.i2l, 1) := by decide +kernel
theorem dX11_owe_4 : decode cX11_owe 4 = .ok (.invokevirtual 203, 3) := by decide +kernel
theorem dX11_owe_7 : decode cX11_owe 7 = .ok (.ifCond .eq 12, 3) := by decide +kernel
theorem dX11_owe_10 : decode cX11_owe 10 = .ok (.aload_n 0, 1) := by decide +kernel
theorem dX11_owe_11 : decode cX11_owe 11 = .ok (.iload_n 2, 1) := by decide +kernel
theorem dX11_owe_12 : decode cX11_owe 12 = .ok (.i2l, 1) := by decide +kernel
theorem dX11_owe_13 : decode cX11_owe 13 = .ok (.invokevirtual 203, 3) := by decide +kernel
theorem dX11_owe_16 : decode cX11_owe 16 = .ok (.ifCond .ne 7, 3) := by decide +kernel
theorem dX11_owe_19 : decode cX11_owe 19 = .ok (.iconst 1, 1) := by decide +kernel
theorem dX11_owe_20 : decode cX11_owe 20 = .ok (.goto 44, 3) := by decide +kernel
theorem dX11_owe_23 : decode cX11_owe 23 = .ok (.iload_n 1, 1) := by decide +kernel
theorem dX11_owe_24 : decode cX11_owe 24 = .ok (.iload_n 2, 1) := by decide +kernel
theorem dX11_owe_25 : decode cX11_owe 25 = .ok (.if_icmp .eq 14, 3) := by decide +kernel
theorem dX11_owe_28 : decode cX11_owe 28 = .ok (.lload_n 3, 1) := by decide +kernel
theorem dX11_owe_29 : decode cX11_owe 29 = .ok (.lconst 1, 1) := by decide +kernel
theorem dX11_owe_30 : decode cX11_owe 30 = .ok (.ldc2_w 356, 3) := by decide +kernel
theorem dX11_owe_33 : decode cX11_owe 33 = .ok (.invokestatic 133, 3) := by decide +kernel
theorem dX11_owe_36 : decode cX11_owe 36 = .ok (.ifCond .ne 7, 3) := by decide +kernel
theorem dX11_owe_39 : decode cX11_owe 39 = .ok (.iconst 2, 1) := by decide +kernel
theorem dX11_owe_40 : decode cX11_owe 40 = .ok (.goto 24, 3) := by decide +kernel
theorem dX11_owe_43 : decode cX11_owe 43 = .ok (.aload_n 0, 1) := by decide +kernel
theorem dX11_owe_44 : decode cX11_owe 44 = .ok (.iload_n 1, 1) := by decide +kernel
theorem dX11_owe_45 : decode cX11_owe 45 = .ok (.iload_n 2, 1) := by decide +kernel
theorem dX11_owe_46 : decode cX11_owe 46 = .ok (.invokevirtual 371, 3) := by decide +kernel
theorem dX11_owe_49 : decode cX11_owe 49 = .ok (.i2l, 1) := by decide +kernel
theorem dX11_owe_50 : decode cX11_owe 50 = .ok (.lload_n 3, 1) := by decide +kernel
theorem dX11_owe_51 : decode cX11_owe 51 = .ok (.lmul, 1) := by decide +kernel
theorem dX11_owe_52 : decode cX11_owe 52 = .ok (.ldc2_w 247, 3) := by decide +kernel
theorem dX11_owe_55 : decode cX11_owe 55 = .ok (.lcmp, 1) := by decide +kernel
theorem dX11_owe_56 : decode cX11_owe 56 = .ok (.ifCond .le 7, 3) := by decide +kernel
theorem dX11_owe_59 : decode cX11_owe 59 = .ok (.iconst 3, 1) := by decide +kernel
theorem dX11_owe_60 : decode cX11_owe 60 = .ok (.goto 4, 3) := by decide +kernel
theorem dX11_owe_63 : decode cX11_owe 63 = .ok (.iconst 0, 1) := by decide +kernel
theorem dX11_owe_64 : decode cX11_owe 64 = .ok (.putfield 64, 3) := by decide +kernel
theorem dX11_owe_67 : decode cX11_owe 67 = .ok (.aload_n 0, 1) := by decide +kernel
theorem dX11_owe_68 : decode cX11_owe 68 = .ok (.getfield 64, 3) := by decide +kernel
theorem dX11_owe_71 : decode cX11_owe 71 = .ok (.ifCond .le 5, 3) := by decide +kernel
theorem dX11_owe_74 : decode cX11_owe 74 = .ok (.lconst 0, 1) := by decide +kernel
theorem dX11_owe_75 : decode cX11_owe 75 = .ok (.lreturn, 1) := by decide +kernel
theorem dX11_owe_76 : decode cX11_owe 76 = .ok (.aload_n 0, 1) := by decide +kernel
theorem dX11_owe_77 : decode cX11_owe 77 = .ok (.getfield 9, 3) := by decide +kernel
theorem dX11_owe_80 : decode cX11_owe 80 = .ok (.sipush 156, 3) := by decide +kernel
theorem dX11_owe_83 : decode cX11_owe 83 = .ok (.iconst 5, 1) := by decide +kernel
theorem dX11_owe_84 : decode cX11_owe 84 = .ok (.iload_n 1, 1) := by decide +kernel
theorem dX11_owe_85 : decode cX11_owe 85 = .ok (.imul, 1) := by decide +kernel
theorem dX11_owe_86 : decode cX11_owe 86 = .ok (.iadd, 1) := by decide +kernel
theorem dX11_owe_87 : decode cX11_owe 87 = .ok (.iload_n 2, 1) := by decide +kernel
theorem dX11_owe_88 : decode cX11_owe 88 = .ok (.iadd, 1) := by decide +kernel
theorem dX11_owe_89 : decode cX11_owe 89 = .ok (.dup2, 1) := by decide +kernel
theorem dX11_owe_90 : decode cX11_owe 90 = .ok (.iaload, 1) := by decide +kernel
theorem dX11_owe_91 : decode cX11_owe 91 = .ok (.lload_n 3, 1) := by decide +kernel
theorem dX11_owe_92 : decode cX11_owe 92 = .ok (.l2i, 1) := by decide +kernel
theorem dX11_owe_93 : decode cX11_owe 93 = .ok (.imul, 1) := by decide +kernel
theorem dX11_owe_94 : decode cX11_owe 94 = .ok (.iastore, 1) := by decide +kernel
theorem dX11_owe_95 : decode cX11_owe 95 = .ok (.aload_n 0, 1) := by decide +kernel
theorem dX11_owe_96 : decode cX11_owe 96 = .ok (.iload_n 1, 1) := by decide +kernel
theorem dX11_owe_97 : decode cX11_owe 97 = .ok (.iload_n 2, 1) := by decide +kernel
theorem dX11_owe_98 : decode cX11_owe 98 = .ok (.invokevirtual 371, 3) := by decide +kernel
theorem dX11_owe_101 : decode cX11_owe 101 = .ok (.i2l, 1) := by decide +kernel
theorem dX11_owe_102 : decode cX11_owe 102 = .ok (.lreturn, 1) := by decide +kernel
theorem dX11_owed_0 : decode cX11_owed 0 = .ok (.aload_n 0, 1) := by decide +kernel
theorem dX11_owed_1 : decode cX11_owed 1 = .ok (.iconst 0, 1) := by decide +kernel
theorem dX11_owed_2 : decode cX11_owed 2 = .ok (.putfield 64, 3) := by decide +kernel
theorem dX11_owed_5 : decode cX11_owed 5 = .ok (.aload_n 0, 1) := by decide +kernel
theorem dX11_owed_6 : decode cX11_owed 6 = .ok (.iload_n 1, 1) := by decide +kernel
theorem dX11_owed_7 : decode cX11_owed 7 = .ok (.i2l, 1) := by decide +kernel
theorem dX11_owed_8 : decode cX11_owed 8 = .ok (.invokevirtual 203, 3) := by decide +kernel
theorem dX11_owed_11 : decode cX11_owed 11 = .ok (.ifCond .eq 22, 3) := by decide +kernel
theorem dX11_owed_14 : decode cX11_owed 14 = .ok (.aload_n 0, 1) := by decide +kernel
theorem dX11_owed_15 : decode cX11_owed 15 = .ok (.iload_n 2, 1) := by decide +kernel
theorem dX11_owed_16 : decode cX11_owed 16 = .ok (.i2l, 1) := by decide +kernel
theorem dX11_owed_17 : decode cX11_owed 17 = .ok (.invokevirtual 203, 3) := by decide +kernel
theorem dX11_owed_20 : decode cX11_owed 20 = .ok (.ifCond .eq 13, 3) := by decide +kernel
theorem dX11_owed_23 : decode cX11_owed 23 = .ok (.aload_n 0, 1) := by decide +kernel
theorem dX11_owed_24 : decode cX11_owed 24 = .ok (.iload_n 1, 1) := by decide +kernel
theorem dX11_owed_25 : decode cX11_owed 25 = .ok (.iload_n 2, 1) := by decide +kernel
theorem dX11_owed_26 : decode cX11_owed 26 = .ok (.invokevirtual 371, 3) := by decide +kernel
theorem dX11_owed_29 : decode cX11_owed 29 = .ok (.i2l, 1) := by decide +kernel
theorem dX11_owed_30 : decode cX11_owed 30 = .ok (.goto 9, 3) := by decide +kernel
theorem dX11_owed_33 : decode cX11_owed 33 = .ok (.aload_n 0, 1) := by decide +kernel
theorem dX11_owed_34 : decode cX11_owed 34 = .ok (.iconst 1, 1) := by decide +kernel
theorem dX11_owed_35 : decode cX11_owed 35 = .ok (.invokevirtual 178, 3) := by decide +kernel
theorem dX11_owed_38 : decode cX11_owed 38 = .ok (.i2l, 1) := by decide +kernel
theorem dX11_owed_39 : decode cX11_owed 39 = .ok (.lreturn, 1) := by decide +kernel
theorem dX11_strikes_0 : decode cX11_strikes 0 = .ok (.iload_n 3, 1) := by decide +kernel
theorem dX11_strikes_1 : decode cX11_strikes 1 = .ok (.iconst (-1), 1) := by decide +kernel
theorem dX11_strikes_2 : decode cX11_strikes 2 = .ok (.if_icmp .ne 7, 3) := by decide +kernel
theorem dX11_strikes_5 : decode cX11_strikes 5 = .ok (.iload_n 2, 1) := by decide +kernel
theorem dX11_strikes_6 : decode cX11_strikes 6 = .ok (.goto 4, 3) := by decide +kernel
theorem dX11_strikes_9 : decode cX11_strikes 9 = .ok (.iload_n 3, 1) := by decide +kernel
theorem dX11_strikes_10 : decode cX11_strikes 10 = .ok (.istore 4, 2) := by decide +kernel
theorem dX11_strikes_12 : decode cX11_strikes 12 = .ok (.aload_n 0, 1) := by decide +kernel
theorem dX11_strikes_13 : decode cX11_strikes 13 = .ok (.iload_n 1, 1) := by decide +kernel
theorem dX11_strikes_14 : decode cX11_strikes 14 = .ok (.iload_n 2, 1) := by decide +kernel
theorem dX11_strikes_15 : decode cX11_strikes 15 = .ok (.invokevirtual 371, 3) := by decide +kernel
theorem dX11_strikes_18 : decode cX11_strikes 18 = .ok (.istore 5, 2) := by decide +kernel
theorem dX11_strikes_20 : decode cX11_strikes 20 = .ok (.iload_n 3, 1) := by decide +kernel
theorem dX11_strikes_21 : decode cX11_strikes 21 = .ok (.iconst (-1), 1) := by decide +kernel
theorem dX11_strikes_22 : decode cX11_strikes 22 = .ok (.if_icmp .ne 8, 3) := by decide +kernel
theorem dX11_strikes_25 : decode cX11_strikes 25 = .ok (.iload 5, 2) := by decide +kernel
theorem dX11_strikes_27 : decode cX11_strikes 27 = .ok (.goto 9, 3) := by decide +kernel
theorem dX11_strikes_30 : decode cX11_strikes 30 = .ok (.aload_n 0, 1) := by decide +kernel
theorem dX11_strikes_31 : decode cX11_strikes 31 = .ok (.iload_n 2, 1) := by decide +kernel
theorem dX11_strikes_32 : decode cX11_strikes 32 = .ok (.iload_n 3, 1) := by decide +kernel
theorem dX11_strikes_33 : decode cX11_strikes 33 = .ok (.invokevirtual 371, 3) := by decide +kernel
theorem dX11_strikes_36 : decode cX11_strikes 36 = .ok (.istore 6, 2) := by decide +kernel
theorem dX11_strikes_38 : decode cX11_strikes 38 = .ok (.aload_n 0, 1) := by decide +kernel
theorem dX11_strikes_39 : decode cX11_strikes 39 = .ok (.iload 4, 2) := by decide +kernel
theorem dX11_strikes_41 : decode cX11_strikes 41 = .ok (.iload_n 1, 1) := by decide +kernel
theorem dX11_strikes_42 : decode cX11_strikes 42 = .ok (.invokevirtual 371, 3) := by decide +kernel
theorem dX11_strikes_45 : decode cX11_strikes 45 = .ok (.istore 7, 2) := by decide +kernel
theorem dX11_strikes_47 : decode cX11_strikes 47 = .ok (.iload 5, 2) := by decide +kernel
theorem dX11_strikes_49 : decode cX11_strikes 49 = .ok (.i2l, 1) := by decide +kernel
theorem dX11_strikes_50 : decode cX11_strikes 50 = .ok (.iload 6, 2) := by decide +kernel
theorem dX11_strikes_52 : decode cX11_strikes 52 = .ok (.i2l, 1) := by decide +kernel
theorem dX11_strikes_53 : decode cX11_strikes 53 = .ok (.invokestatic 360, 3) := by decide +kernel
theorem dX11_strikes_56 : decode cX11_strikes 56 = .ok (.iload 7, 2) := by decide +kernel
theorem dX11_strikes_58 : decode cX11_strikes 58 = .ok (.i2l, 1) := by decide +kernel
theorem dX11_strikes_59 : decode cX11_strikes 59 = .ok (.invokestatic 360, 3) := by decide +kernel
theorem dX11_strikes_62 : decode cX11_strikes 62 = .ok (.l2i, 1) := by decide +kernel
theorem dX11_strikes_63 : decode cX11_strikes 63 = .ok (.istore 8, 2) := by decide +kernel
theorem dX11_strikes_65 : decode cX11_strikes 65 = .ok (.iload 8, 2) := by decide +kernel
theorem dX11_strikes_67 : decode cX11_strikes 67 = .ok (.iconst 2, 1) := by decide +kernel
theorem dX11_strikes_68 : decode cX11_strikes 68 = .ok (.if_icmp .ge 5, 3) := by decide +kernel
theorem dX11_strikes_71 : decode cX11_strikes 71 = .ok (.iconst 0, 1) := by decide +kernel
theorem dX11_strikes_72 : decode cX11_strikes 72 = .ok (.ireturn, 1) := by decide +kernel
theorem dX11_strikes_73 : decode cX11_strikes 73 = .ok (.aload_n 0, 1) := by decide +kernel
theorem dX11_strikes_74 : decode cX11_strikes 74 = .ok (.getfield 9, 3) := by decide +kernel
theorem dX11_strikes_77 : decode cX11_strikes 77 = .ok (.sipush 156, 3) := by decide +kernel
theorem dX11_strikes_80 : decode cX11_strikes 80 = .ok (.iconst 5, 1) := by decide +kernel
theorem dX11_strikes_81 : decode cX11_strikes 81 = .ok (.iload_n 1, 1) := by decide +kernel
theorem dX11_strikes_82 : decode cX11_strikes 82 = .ok (.imul, 1) := by decide +kernel
theorem dX11_strikes_83 : decode cX11_strikes 83 = .ok (.iadd, 1) := by decide +kernel
theorem dX11_strikes_84 : decode cX11_strikes 84 = .ok (.iload_n 2, 1) := by decide +kernel
theorem dX11_strikes_85 : decode cX11_strikes 85 = .ok (.iadd, 1) := by decide +kernel
theorem dX11_strikes_86 : decode cX11_strikes 86 = .ok (.dup2, 1) := by decide +kernel
theorem dX11_strikes_87 : decode cX11_strikes 87 = .ok (.iaload, 1) := by decide +kernel
theorem dX11_strikes_88 : decode cX11_strikes 88 = .ok (.iload 8, 2) := by decide +kernel
theorem dX11_strikes_90 : decode cX11_strikes 90 = .ok (.idiv, 1) := by decide +kernel
theorem dX11_strikes_91 : decode cX11_strikes 91 = .ok (.iastore, 1) := by decide +kernel
theorem dX11_strikes_92 : decode cX11_strikes 92 = .ok (.iload_n 3, 1) := by decide +kernel
theorem dX11_strikes_93 : decode cX11_strikes 93 = .ok (.iconst (-1), 1) := by decide +kernel
theorem dX11_strikes_94 : decode cX11_strikes 94 = .ok (.if_icmp .eq 22, 3) := by decide +kernel
theorem dX11_strikes_97 : decode cX11_strikes 97 = .ok (.aload_n 0, 1) := by decide +kernel
theorem dX11_strikes_98 : decode cX11_strikes 98 = .ok (.getfield 9, 3) := by decide +kernel
theorem dX11_strikes_101 : decode cX11_strikes 101 = .ok (.sipush 156, 3) := by decide +kernel
theorem dX11_strikes_104 : decode cX11_strikes 104 = .ok (.iconst 5, 1) := by decide +kernel
theorem dX11_strikes_105 : decode cX11_strikes 105 = .ok (.iload_n 2, 1) := by decide +kernel
theorem dX11_strikes_106 : decode cX11_strikes 106 = .ok (.imul, 1) := by decide +kernel
theorem dX11_strikes_107 : decode cX11_strikes 107 = .ok (.iadd, 1) := by decide +kernel
theorem dX11_strikes_108 : decode cX11_strikes 108 = .ok (.iload_n 3, 1) := by decide +kernel
theorem dX11_strikes_109 : decode cX11_strikes 109 = .ok (.iadd, 1) := by decide +kernel
theorem dX11_strikes_110 : decode cX11_strikes 110 = .ok (.dup2, 1) := by decide +kernel
theorem dX11_strikes_111 : decode cX11_strikes 111 = .ok (.iaload, 1) := by decide +kernel
theorem dX11_strikes_112 : decode cX11_strikes 112 = .ok (.iload 8, 2) := by decide +kernel
theorem dX11_strikes_114 : decode cX11_strikes 114 = .ok (.idiv, 1) := by decide +kernel
theorem dX11_strikes_115 : decode cX11_strikes 115 = .ok (.iastore, 1) := by decide +kernel
theorem dX11_strikes_116 : decode cX11_strikes 116 = .ok (.aload_n 0, 1) := by decide +kernel
theorem dX11_strikes_117 : decode cX11_strikes 117 = .ok (.getfield 9, 3) := by decide +kernel
theorem dX11_strikes_120 : decode cX11_strikes 120 = .ok (.sipush 156, 3) := by decide +kernel
theorem dX11_strikes_123 : decode cX11_strikes 123 = .ok (.iconst 5, 1) := by decide +kernel
theorem dX11_strikes_124 : decode cX11_strikes 124 = .ok (.iload 4, 2) := by decide +kernel
theorem dX11_strikes_126 : decode cX11_strikes 126 = .ok (.imul, 1) := by decide +kernel
theorem dX11_strikes_127 : decode cX11_strikes 127 = .ok (.iadd, 1) := by decide +kernel
theorem dX11_strikes_128 : decode cX11_strikes 128 = .ok (.iload_n 1, 1) := by decide +kernel
theorem dX11_strikes_129 : decode cX11_strikes 129 = .ok (.iadd, 1) := by decide +kernel
theorem dX11_strikes_130 : decode cX11_strikes 130 = .ok (.dup2, 1) := by decide +kernel
theorem dX11_strikes_131 : decode cX11_strikes 131 = .ok (.iaload, 1) := by decide +kernel
theorem dX11_strikes_132 : decode cX11_strikes 132 = .ok (.iload 8, 2) := by decide +kernel
theorem dX11_strikes_134 : decode cX11_strikes 134 = .ok (.idiv, 1) := by decide +kernel
theorem dX11_strikes_135 : decode cX11_strikes 135 = .ok (.iastore, 1) := by decide +kernel
theorem dX11_strikes_136 : decode cX11_strikes 136 = .ok (.iconst 1, 1) := by decide +kernel
theorem dX11_strikes_137 : decode cX11_strikes 137 = .ok (.ireturn, 1) := by decide +kernel
theorem dX11_strikesFirst_0 : decode cX11_strikesFirst 0 = .ok (.iconst 0, 1) := by decide +kernel
theorem dX11_strikesFirst_1 : decode cX11_strikesFirst 1 = .ok (.istore_n 1, 1) := by decide +kernel
theorem dX11_strikesFirst_2 : decode cX11_strikesFirst 2 = .ok (.iload_n 1, 1) := by decide +kernel
theorem dX11_strikesFirst_3 : decode cX11_strikesFirst 3 = .ok (.aload_n 0, 1) := by decide +kernel
theorem dX11_strikesFirst_4 : decode cX11_strikesFirst 4 = .ok (.invokevirtual 190, 3) := by decide +kernel
theorem dX11_strikesFirst_7 : decode cX11_strikesFirst 7 = .ok (.if_icmp .ge 39, 3) := by decide +kernel
theorem dX11_strikesFirst_10 : decode cX11_strikesFirst 10 = .ok (.iload_n 1, 1) := by decide +kernel
theorem dX11_strikesFirst_11 : decode cX11_strikesFirst 11 = .ok (.iconst 1, 1) := by decide +kernel
theorem dX11_strikesFirst_12 : decode cX11_strikesFirst 12 = .ok (.iadd, 1) := by decide +kernel
theorem dX11_strikesFirst_13 : decode cX11_strikesFirst 13 = .ok (.istore_n 2, 1) := by decide +kernel
theorem dX11_strikesFirst_14 : decode cX11_strikesFirst 14 = .ok (.iload_n 2, 1) := by decide +kernel
theorem dX11_strikesFirst_15 : decode cX11_strikesFirst 15 = .ok (.aload_n 0, 1) := by decide +kernel
theorem dX11_strikesFirst_16 : decode cX11_strikesFirst 16 = .ok (.invokevirtual 190, 3) := by decide +kernel
theorem dX11_strikesFirst_19 : decode cX11_strikesFirst 19 = .ok (.if_icmp .ge 21, 3) := by decide +kernel
theorem dX11_strikesFirst_22 : decode cX11_strikesFirst 22 = .ok (.aload_n 0, 1) := by decide +kernel
theorem dX11_strikesFirst_23 : decode cX11_strikesFirst 23 = .ok (.iload_n 1, 1) := by decide +kernel
theorem dX11_strikesFirst_24 : decode cX11_strikesFirst 24 = .ok (.iload_n 2, 1) := by decide +kernel
theorem dX11_strikesFirst_25 : decode cX11_strikesFirst 25 = .ok (.iconst (-1), 1) := by decide +kernel
theorem dX11_strikesFirst_26 : decode cX11_strikesFirst 26 = .ok (.invokevirtual 374, 3) := by decide +kernel
theorem dX11_strikesFirst_29 : decode cX11_strikesFirst 29 = .ok (.ifCond .eq 5, 3) := by decide +kernel
theorem dX11_strikesFirst_32 : decode cX11_strikesFirst 32 = .ok (.iconst 1, 1) := by decide +kernel
theorem dX11_strikesFirst_33 : decode cX11_strikesFirst 33 = .ok (.ireturn, 1) := by decide +kernel
theorem dX11_strikesFirst_34 : decode cX11_strikesFirst 34 = .ok (.iinc 2 1, 3) := by decide +kernel
theorem dX11_strikesFirst_37 : decode cX11_strikesFirst 37 = .ok (.goto (-23), 3) := by decide +kernel
theorem dX11_strikesFirst_40 : decode cX11_strikesFirst 40 = .ok (.iinc 1 1, 3) := by decide +kernel
theorem dX11_strikesFirst_43 : decode cX11_strikesFirst 43 = .ok (.goto (-41), 3) := by decide +kernel
theorem dX11_strikesFirst_46 : decode cX11_strikesFirst 46 = .ok (.iconst 0, 1) := by decide +kernel
theorem dX11_strikesFirst_47 : decode cX11_strikesFirst 47 = .ok (.istore_n 1, 1) := by decide +kernel
theorem dX11_strikesFirst_48 : decode cX11_strikesFirst 48 = .ok (.iload_n 1, 1) := by decide +kernel
theorem dX11_strikesFirst_49 : decode cX11_strikesFirst 49 = .ok (.aload_n 0, 1) := by decide +kernel
theorem dX11_strikesFirst_50 : decode cX11_strikesFirst 50 = .ok (.invokevirtual 190, 3) := by decide +kernel
theorem dX11_strikesFirst_53 : decode cX11_strikesFirst 53 = .ok (.if_icmp .ge 62, 3) := by decide +kernel
theorem dX11_strikesFirst_56 : decode cX11_strikesFirst 56 = .ok (.iload_n 1, 1) := by decide +kernel
theorem dX11_strikesFirst_57 : decode cX11_strikesFirst 57 = .ok (.iconst 1, 1) := by decide +kernel
theorem dX11_strikesFirst_58 : decode cX11_strikesFirst 58 = .ok (.iadd, 1) := by decide +kernel
theorem dX11_strikesFirst_59 : decode cX11_strikesFirst 59 = .ok (.istore_n 2, 1) := by decide +kernel
theorem dX11_strikesFirst_60 : decode cX11_strikesFirst 60 = .ok (.iload_n 2, 1) := by decide +kernel
theorem dX11_strikesFirst_61 : decode cX11_strikesFirst 61 = .ok (.aload_n 0, 1) := by decide +kernel
theorem dX11_strikesFirst_62 : decode cX11_strikesFirst 62 = .ok (.invokevirtual 190, 3) := by decide +kernel
theorem dX11_strikesFirst_65 : decode cX11_strikesFirst 65 = .ok (.if_icmp .ge 44, 3) := by decide +kernel
theorem dX11_strikesFirst_68 : decode cX11_strikesFirst 68 = .ok (.iload_n 1, 1) := by decide +kernel
theorem dX11_strikesFirst_69 : decode cX11_strikesFirst 69 = .ok (.iconst 1, 1) := by decide +kernel
theorem dX11_strikesFirst_70 : decode cX11_strikesFirst 70 = .ok (.iadd, 1) := by decide +kernel
theorem dX11_strikesFirst_71 : decode cX11_strikesFirst 71 = .ok (.istore_n 3, 1) := by decide +kernel
theorem dX11_strikesFirst_72 : decode cX11_strikesFirst 72 = .ok (.iload_n 3, 1) := by decide +kernel
theorem dX11_strikesFirst_73 : decode cX11_strikesFirst 73 = .ok (.aload_n 0, 1) := by decide +kernel
theorem dX11_strikesFirst_74 : decode cX11_strikesFirst 74 = .ok (.invokevirtual 190, 3) := by decide +kernel
theorem dX11_strikesFirst_77 : decode cX11_strikesFirst 77 = .ok (.if_icmp .ge 26, 3) := by decide +kernel
theorem dX11_strikesFirst_80 : decode cX11_strikesFirst 80 = .ok (.iload_n 2, 1) := by decide +kernel
theorem dX11_strikesFirst_81 : decode cX11_strikesFirst 81 = .ok (.iload_n 3, 1) := by decide +kernel
theorem dX11_strikesFirst_82 : decode cX11_strikesFirst 82 = .ok (.if_icmp .eq 15, 3) := by decide +kernel
theorem dX11_strikesFirst_85 : decode cX11_strikesFirst 85 = .ok (.aload_n 0, 1) := by decide +kernel
theorem dX11_strikesFirst_86 : decode cX11_strikesFirst 86 = .ok (.iload_n 1, 1) := by decide +kernel
theorem dX11_strikesFirst_87 : decode cX11_strikesFirst 87 = .ok (.iload_n 2, 1) := by decide +kernel
theorem dX11_strikesFirst_88 : decode cX11_strikesFirst 88 = .ok (.iload_n 3, 1) := by decide +kernel
theorem dX11_strikesFirst_89 : decode cX11_strikesFirst 89 = .ok (.invokevirtual 374, 3) := by decide +kernel
theorem dX11_strikesFirst_92 : decode cX11_strikesFirst 92 = .ok (.ifCond .eq 5, 3) := by decide +kernel
theorem dX11_strikesFirst_95 : decode cX11_strikesFirst 95 = .ok (.iconst 1, 1) := by decide +kernel
theorem dX11_strikesFirst_96 : decode cX11_strikesFirst 96 = .ok (.ireturn, 1) := by decide +kernel
theorem dX11_strikesFirst_97 : decode cX11_strikesFirst 97 = .ok (.iinc 3 1, 3) := by decide +kernel
theorem dX11_strikesFirst_100 : decode cX11_strikesFirst 100 = .ok (.goto (-28), 3) := by decide +kernel
theorem dX11_strikesFirst_103 : decode cX11_strikesFirst 103 = .ok (.iinc 2 1, 3) := by decide +kernel
theorem dX11_strikesFirst_106 : decode cX11_strikesFirst 106 = .ok (.goto (-46), 3) := by decide +kernel
theorem dX11_strikesFirst_109 : decode cX11_strikesFirst 109 = .ok (.iinc 1 1, 3) := by decide +kernel
theorem dX11_strikesFirst_112 : decode cX11_strikesFirst 112 = .ok (.goto (-64), 3) := by decide +kernel
theorem dX11_strikesFirst_115 : decode cX11_strikesFirst 115 = .ok (.iconst 0, 1) := by decide +kernel
theorem dX11_strikesFirst_116 : decode cX11_strikesFirst 116 = .ok (.ireturn, 1) := by decide +kernel
theorem dX11_struck_0 : decode cX11_struck 0 = .ok (.aload_n 0, 1) := by decide +kernel
theorem dX11_struck_1 : decode cX11_struck 1 = .ok (.iconst 0, 1) := by decide +kernel
theorem dX11_struck_2 : decode cX11_struck 2 = .ok (.putfield 64, 3) := by decide +kernel
theorem dX11_struck_5 : decode cX11_struck 5 = .ok (.iconst 0, 1) := by decide +kernel
theorem dX11_struck_6 : decode cX11_struck 6 = .ok (.istore_n 1, 1) := by decide +kernel
theorem dX11_struck_7 : decode cX11_struck 7 = .ok (.aload_n 0, 1) := by decide +kernel
theorem dX11_struck_8 : decode cX11_struck 8 = .ok (.invokevirtual 378, 3) := by decide +kernel
theorem dX11_struck_11 : decode cX11_struck 11 = .ok (.ifCond .eq 9, 3) := by decide +kernel
theorem dX11_struck_14 : decode cX11_struck 14 = .ok (.iinc 1 1, 3) := by decide +kernel
theorem dX11_struck_17 : decode cX11_struck 17 = .ok (.goto (-10), 3) := by decide +kernel
theorem dX11_struck_20 : decode cX11_struck 20 = .ok (.iload_n 1, 1) := by decide +kernel
theorem dX11_struck_21 : decode cX11_struck 21 = .ok (.ireturn, 1) := by decide +kernel
theorem dX11_isTray_0 : decode cX11_isTray 0 = .ok (.iload_n 0, 1) := by decide +kernel
theorem dX11_isTray_1 : decode cX11_isTray 1 = .ok (.i2l, 1) := by decide +kernel
theorem dX11_isTray_2 : decode cX11_isTray 2 = .ok (.lconst 0, 1) := by decide +kernel
theorem dX11_isTray_3 : decode cX11_isTray 3 = .ok (.ldc2_w 207, 3) := by decide +kernel
theorem dX11_isTray_6 : decode cX11_isTray 6 = .ok (.invokestatic 133, 3) := by decide +kernel
theorem dX11_isTray_9 : decode cX11_isTray 9 = .ok (.ireturn, 1) := by decide +kernel
theorem dX11_tray_0 : decode cX11_tray 0 = .ok (.aload_n 0, 1) := by decide +kernel
theorem dX11_tray_1 : decode cX11_tray 1 = .ok (.iload_n 1, 1) := by decide +kernel
theorem dX11_tray_2 : decode cX11_tray 2 = .ok (.invokestatic 258, 3) := by decide +kernel
theorem dX11_tray_5 : decode cX11_tray 5 = .ok (.ifCond .ne 7, 3) := by decide +kernel
theorem dX11_tray_8 : decode cX11_tray 8 = .ok (.iconst 1, 1) := by decide +kernel
theorem dX11_tray_9 : decode cX11_tray 9 = .ok (.goto 32, 3) := by decide +kernel
theorem dX11_tray_12 : decode cX11_tray 12 = .ok (.iload_n 2, 1) := by decide +kernel
theorem dX11_tray_13 : decode cX11_tray 13 = .ok (.i2l, 1) := by decide +kernel
theorem dX11_tray_14 : decode cX11_tray 14 = .ok (.lconst 0, 1) := by decide +kernel
theorem dX11_tray_15 : decode cX11_tray 15 = .ok (.ldc2_w 207, 3) := by decide +kernel
theorem dX11_tray_18 : decode cX11_tray 18 = .ok (.invokestatic 133, 3) := by decide +kernel
theorem dX11_tray_21 : decode cX11_tray 21 = .ok (.ifCond .eq 15, 3) := by decide +kernel
theorem dX11_tray_24 : decode cX11_tray 24 = .ok (.iload_n 3, 1) := by decide +kernel
theorem dX11_tray_25 : decode cX11_tray 25 = .ok (.i2l, 1) := by decide +kernel
theorem dX11_tray_26 : decode cX11_tray 26 = .ok (.lconst 0, 1) := by decide +kernel
theorem dX11_tray_27 : decode cX11_tray 27 = .ok (.ldc2_w 381, 3) := by decide +kernel
theorem dX11_tray_30 : decode cX11_tray 30 = .ok (.invokestatic 133, 3) := by decide +kernel
theorem dX11_tray_33 : decode cX11_tray 33 = .ok (.ifCond .ne 7, 3) := by decide +kernel
theorem dX11_tray_36 : decode cX11_tray 36 = .ok (.iconst 2, 1) := by decide +kernel
theorem dX11_tray_37 : decode cX11_tray 37 = .ok (.goto 4, 3) := by decide +kernel
theorem dX11_tray_40 : decode cX11_tray 40 = .ok (.iconst 0, 1) := by decide +kernel
theorem dX11_tray_41 : decode cX11_tray 41 = .ok (.putfield 64, 3) := by decide +kernel
theorem dX11_tray_44 : decode cX11_tray 44 = .ok (.aload_n 0, 1) := by decide +kernel
theorem dX11_tray_45 : decode cX11_tray 45 = .ok (.getfield 64, 3) := by decide +kernel
theorem dX11_tray_48 : decode cX11_tray 48 = .ok (.ifCond .le 4, 3) := by decide +kernel
theorem dX11_tray_51 : decode cX11_tray 51 = .ok (.return_, 1) := by decide +kernel
theorem dX11_tray_52 : decode cX11_tray 52 = .ok (.aload_n 0, 1) := by decide +kernel
theorem dX11_tray_53 : decode cX11_tray 53 = .ok (.getfield 47, 3) := by decide +kernel
theorem dX11_tray_56 : decode cX11_tray 56 = .ok (.iload_n 1, 1) := by decide +kernel
theorem dX11_tray_57 : decode cX11_tray 57 = .ok (.iload_n 2, 1) := by decide +kernel
theorem dX11_tray_58 : decode cX11_tray 58 = .ok (.iastore, 1) := by decide +kernel
theorem dX11_tray_59 : decode cX11_tray 59 = .ok (.aload_n 0, 1) := by decide +kernel
theorem dX11_tray_60 : decode cX11_tray 60 = .ok (.getfield 50, 3) := by decide +kernel
theorem dX11_tray_63 : decode cX11_tray 63 = .ok (.iload_n 1, 1) := by decide +kernel
theorem dX11_tray_64 : decode cX11_tray 64 = .ok (.iload_n 3, 1) := by decide +kernel
theorem dX11_tray_65 : decode cX11_tray 65 = .ok (.iastore, 1) := by decide +kernel
theorem dX11_tray_66 : decode cX11_tray 66 = .ok (.iconst 0, 1) := by decide +kernel
theorem dX11_tray_67 : decode cX11_tray 67 = .ok (.istore 4, 2) := by decide +kernel
theorem dX11_tray_69 : decode cX11_tray 69 = .ok (.iload 4, 2) := by decide +kernel
theorem dX11_tray_71 : decode cX11_tray 71 = .ok (.bipush 30, 2) := by decide +kernel
theorem dX11_tray_73 : decode cX11_tray 73 = .ok (.if_icmp .ge 22, 3) := by decide +kernel
theorem dX11_tray_76 : decode cX11_tray 76 = .ok (.aload_n 0, 1) := by decide +kernel
theorem dX11_tray_77 : decode cX11_tray 77 = .ok (.getfield 53, 3) := by decide +kernel
theorem dX11_tray_80 : decode cX11_tray 80 = .ok (.bipush 30, 2) := by decide +kernel
theorem dX11_tray_82 : decode cX11_tray 82 = .ok (.iload_n 1, 1) := by decide +kernel
theorem dX11_tray_83 : decode cX11_tray 83 = .ok (.imul, 1) := by decide +kernel
theorem dX11_tray_84 : decode cX11_tray 84 = .ok (.iload 4, 2) := by decide +kernel
theorem dX11_tray_86 : decode cX11_tray 86 = .ok (.iadd, 1) := by decide +kernel
theorem dX11_tray_87 : decode cX11_tray 87 = .ok (.lconst 0, 1) := by decide +kernel
theorem dX11_tray_88 : decode cX11_tray 88 = .ok (.lastore, 1) := by decide +kernel
theorem dX11_tray_89 : decode cX11_tray 89 = .ok (.iinc 4 1, 3) := by decide +kernel
theorem dX11_tray_92 : decode cX11_tray 92 = .ok (.goto (-23), 3) := by decide +kernel
theorem dX11_tray_95 : decode cX11_tray 95 = .ok (.return_, 1) := by decide +kernel
theorem dX11_cut_0 : decode cX11_cut 0 = .ok (.bipush 64, 2) := by decide +kernel
theorem dX11_cut_2 : decode cX11_cut 2 = .ok (.bipush 8, 2) := by decide +kernel
theorem dX11_cut_4 : decode cX11_cut 4 = .ok (.aload_n 0, 1) := by decide +kernel
theorem dX11_cut_5 : decode cX11_cut 5 = .ok (.getfield 47, 3) := by decide +kernel
theorem dX11_cut_8 : decode cX11_cut 8 = .ok (.iload_n 1, 1) := by decide +kernel
theorem dX11_cut_9 : decode cX11_cut 9 = .ok (.iaload, 1) := by decide +kernel
theorem dX11_cut_10 : decode cX11_cut 10 = .ok (.ishl, 1) := by decide +kernel
theorem dX11_cut_11 : decode cX11_cut 11 = .ok (.isub, 1) := by decide +kernel
theorem dX11_cut_12 : decode cX11_cut 12 = .ok (.istore 5, 2) := by decide +kernel
theorem dX11_cut_14 : decode cX11_cut 14 = .ok (.aload_n 0, 1) := by decide +kernel
theorem dX11_cut_15 : decode cX11_cut 15 = .ok (.getfield 53, 3) := by decide +kernel
theorem dX11_cut_18 : decode cX11_cut 18 = .ok (.bipush 30, 2) := by decide +kernel
theorem dX11_cut_20 : decode cX11_cut 20 = .ok (.iload_n 1, 1) := by decide +kernel
theorem dX11_cut_21 : decode cX11_cut 21 = .ok (.imul, 1) := by decide +kernel
theorem dX11_cut_22 : decode cX11_cut 22 = .ok (.iload_n 2, 1) := by decide +kernel
theorem dX11_cut_23 : decode cX11_cut 23 = .ok (.iadd, 1) := by decide +kernel
theorem dX11_cut_24 : decode cX11_cut 24 = .ok (.lload_n 3, 1) := by decide +kernel
theorem dX11_cut_25 : decode cX11_cut 25 = .ok (.iload 5, 2) := by decide +kernel
theorem dX11_cut_27 : decode cX11_cut 27 = .ok (.lshl, 1) := by decide +kernel
theorem dX11_cut_28 : decode cX11_cut 28 = .ok (.iload 5, 2) := by decide +kernel
theorem dX11_cut_30 : decode cX11_cut 30 = .ok (.lshr, 1) := by decide +kernel
theorem dX11_cut_31 : decode cX11_cut 31 = .ok (.lastore, 1) := by decide +kernel
theorem dX11_cut_32 : decode cX11_cut 32 = .ok (.aload_n 0, 1) := by decide +kernel
theorem dX11_cut_33 : decode cX11_cut 33 = .ok (.getfield 53, 3) := by decide +kernel
theorem dX11_cut_36 : decode cX11_cut 36 = .ok (.bipush 30, 2) := by decide +kernel
theorem dX11_cut_38 : decode cX11_cut 38 = .ok (.iload_n 1, 1) := by decide +kernel
theorem dX11_cut_39 : decode cX11_cut 39 = .ok (.imul, 1) := by decide +kernel
theorem dX11_cut_40 : decode cX11_cut 40 = .ok (.iload_n 2, 1) := by decide +kernel
theorem dX11_cut_41 : decode cX11_cut 41 = .ok (.iadd, 1) := by decide +kernel
theorem dX11_cut_42 : decode cX11_cut 42 = .ok (.laload, 1) := by decide +kernel
theorem dX11_cut_43 : decode cX11_cut 43 = .ok (.lreturn, 1) := by decide +kernel
theorem dX11_write_0 : decode cX11_write 0 = .ok (.aload_n 0, 1) := by decide +kernel
theorem dX11_write_1 : decode cX11_write 1 = .ok (.aload_n 0, 1) := by decide +kernel
theorem dX11_write_2 : decode cX11_write 2 = .ok (.iload_n 1, 1) := by decide +kernel
theorem dX11_write_3 : decode cX11_write 3 = .ok (.invokevirtual 271, 3) := by decide +kernel
theorem dX11_write_6 : decode cX11_write 6 = .ok (.putfield 64, 3) := by decide +kernel
theorem dX11_write_9 : decode cX11_write 9 = .ok (.aload_n 0, 1) := by decide +kernel
theorem dX11_write_10 : decode cX11_write 10 = .ok (.getfield 64, 3) := by decide +kernel
theorem dX11_write_13 : decode cX11_write 13 = .ok (.ifCond .le 5, 3) := by decide +kernel
theorem dX11_write_16 : decode cX11_write 16 = .ok (.lconst 0, 1) := by decide +kernel
theorem dX11_write_17 : decode cX11_write 17 = .ok (.lreturn, 1) := by decide +kernel
theorem dX11_write_18 : decode cX11_write 18 = .ok (.iload_n 2, 1) := by decide +kernel
theorem dX11_write_19 : decode cX11_write 19 = .ok (.i2l, 1) := by decide +kernel
theorem dX11_write_20 : decode cX11_write 20 = .ok (.lconst 0, 1) := by decide +kernel
theorem dX11_write_21 : decode cX11_write 21 = .ok (.aload_n 0, 1) := by decide +kernel
theorem dX11_write_22 : decode cX11_write 22 = .ok (.getfield 50, 3) := by decide +kernel
theorem dX11_write_25 : decode cX11_write 25 = .ok (.iload_n 1, 1) := by decide +kernel
theorem dX11_write_26 : decode cX11_write 26 = .ok (.iaload, 1) := by decide +kernel
theorem dX11_write_27 : decode cX11_write 27 = .ok (.iconst 1, 1) := by decide +kernel
theorem dX11_write_28 : decode cX11_write 28 = .ok (.isub, 1) := by decide +kernel
theorem dX11_write_29 : decode cX11_write 29 = .ok (.i2l, 1) := by decide +kernel
theorem dX11_write_30 : decode cX11_write 30 = .ok (.invokestatic 133, 3) := by decide +kernel
theorem dX11_write_33 : decode cX11_write 33 = .ok (.ifCond .eq 13, 3) := by decide +kernel
theorem dX11_write_36 : decode cX11_write 36 = .ok (.aload_n 0, 1) := by decide +kernel
theorem dX11_write_37 : decode cX11_write 37 = .ok (.iload_n 1, 1) := by decide +kernel
theorem dX11_write_38 : decode cX11_write 38 = .ok (.iload_n 2, 1) := by decide +kernel
theorem dX11_write_39 : decode cX11_write 39 = .ok (.lload_n 3, 1) := by decide +kernel
theorem dX11_write_40 : decode cX11_write 40 = .ok (.invokevirtual 383, 3) := by decide +kernel
theorem dX11_write_43 : decode cX11_write 43 = .ok (.goto 9, 3) := by decide +kernel
theorem dX11_write_46 : decode cX11_write 46 = .ok (.aload_n 0, 1) := by decide +kernel
theorem dX11_write_47 : decode cX11_write 47 = .ok (.iconst 3, 1) := by decide +kernel
theorem dX11_write_48 : decode cX11_write 48 = .ok (.invokevirtual 178, 3) := by decide +kernel
theorem dX11_write_51 : decode cX11_write 51 = .ok (.i2l, 1) := by decide +kernel
theorem dX11_write_52 : decode cX11_write 52 = .ok (.lreturn, 1) := by decide +kernel
theorem dX11_pour_0 : decode cX11_pour 0 = .ok (.aload_n 0, 1) := by decide +kernel
theorem dX11_pour_1 : decode cX11_pour 1 = .ok (.aload_n 0, 1) := by decide +kernel
theorem dX11_pour_2 : decode cX11_pour 2 = .ok (.iload_n 1, 1) := by decide +kernel
theorem dX11_pour_3 : decode cX11_pour 3 = .ok (.invokevirtual 271, 3) := by decide +kernel
theorem dX11_pour_6 : decode cX11_pour 6 = .ok (.putfield 64, 3) := by decide +kernel
theorem dX11_pour_9 : decode cX11_pour 9 = .ok (.aload_n 0, 1) := by decide +kernel
theorem dX11_pour_10 : decode cX11_pour 10 = .ok (.getfield 64, 3) := by decide +kernel
theorem dX11_pour_13 : decode cX11_pour 13 = .ok (.ifCond .le 5, 3) := by decide +kernel
theorem dX11_pour_16 : decode cX11_pour 16 = .ok (.iconst 0, 1) := by decide +kernel
theorem dX11_pour_17 : decode cX11_pour 17 = .ok (.ireturn, 1) := by decide +kernel
theorem dX11_pour_18 : decode cX11_pour 18 = .ok (.aload_n 0, 1) := by decide +kernel
theorem dX11_pour_19 : decode cX11_pour 19 = .ok (.getfield 50, 3) := by decide +kernel
theorem dX11_pour_22 : decode cX11_pour 22 = .ok (.iload_n 1, 1) := by decide +kernel
theorem dX11_pour_23 : decode cX11_pour 23 = .ok (.iaload, 1) := by decide +kernel
theorem dX11_pour_24 : decode cX11_pour 24 = .ok (.aload_n 0, 1) := by decide +kernel
theorem dX11_pour_25 : decode cX11_pour 25 = .ok (.invokevirtual 190, 3) := by decide +kernel
theorem dX11_pour_28 : decode cX11_pour 28 = .ok (.invokestatic 214, 3) := by decide +kernel
theorem dX11_pour_31 : decode cX11_pour 31 = .ok (.istore_n 2, 1) := by decide +kernel
theorem dX11_pour_32 : decode cX11_pour 32 = .ok (.iconst 0, 1) := by decide +kernel
theorem dX11_pour_33 : decode cX11_pour 33 = .ok (.istore_n 3, 1) := by decide +kernel
theorem dX11_pour_34 : decode cX11_pour 34 = .ok (.iload_n 3, 1) := by decide +kernel
theorem dX11_pour_35 : decode cX11_pour 35 = .ok (.iload_n 2, 1) := by decide +kernel
theorem dX11_pour_36 : decode cX11_pour 36 = .ok (.if_icmp .ge 21, 3) := by decide +kernel
theorem dX11_pour_39 : decode cX11_pour 39 = .ok (.aload_n 0, 1) := by decide +kernel
theorem dX11_pour_40 : decode cX11_pour 40 = .ok (.iload_n 1, 1) := by decide +kernel
theorem dX11_pour_41 : decode cX11_pour 41 = .ok (.iload_n 3, 1) := by decide +kernel
theorem dX11_pour_42 : decode cX11_pour 42 = .ok (.aload_n 0, 1) := by decide +kernel
theorem dX11_pour_43 : decode cX11_pour 43 = .ok (.iload_n 3, 1) := by decide +kernel
theorem dX11_pour_44 : decode cX11_pour 44 = .ok (.invokevirtual 220, 3) := by decide +kernel
theorem dX11_pour_47 : decode cX11_pour 47 = .ok (.invokevirtual 383, 3) := by decide +kernel
theorem dX11_pour_50 : decode cX11_pour 50 = .ok (.pop2, 1) := by decide +kernel
theorem dX11_pour_51 : decode cX11_pour 51 = .ok (.iinc 3 1, 3) := by decide +kernel
theorem dX11_pour_54 : decode cX11_pour 54 = .ok (.goto (-20), 3) := by decide +kernel
theorem dX11_pour_57 : decode cX11_pour 57 = .ok (.iload_n 2, 1) := by decide +kernel
theorem dX11_pour_58 : decode cX11_pour 58 = .ok (.ireturn, 1) := by decide +kernel
theorem dX11_image_0 : decode cX11_image 0 = .ok (.aload_n 0, 1) := by decide +kernel
theorem dX11_image_1 : decode cX11_image 1 = .ok (.iload_n 1, 1) := by decide +kernel
theorem dX11_image_2 : decode cX11_image 2 = .ok (.i2l, 1) := by decide +kernel
theorem dX11_image_3 : decode cX11_image 3 = .ok (.lconst 0, 1) := by decide +kernel
theorem dX11_image_4 : decode cX11_image 4 = .ok (.ldc2_w 129, 3) := by decide +kernel
theorem dX11_image_7 : decode cX11_image 7 = .ok (.invokestatic 133, 3) := by decide +kernel
theorem dX11_image_10 : decode cX11_image 10 = .ok (.ifCond .eq 7, 3) := by decide +kernel
theorem dX11_image_13 : decode cX11_image 13 = .ok (.iconst 0, 1) := by decide +kernel
theorem dX11_image_14 : decode cX11_image 14 = .ok (.goto 4, 3) := by decide +kernel
theorem dX11_image_17 : decode cX11_image 17 = .ok (.iconst 1, 1) := by decide +kernel
theorem dX11_image_18 : decode cX11_image 18 = .ok (.putfield 64, 3) := by decide +kernel
theorem dX11_image_21 : decode cX11_image 21 = .ok (.aload_n 0, 1) := by decide +kernel
theorem dX11_image_22 : decode cX11_image 22 = .ok (.getfield 64, 3) := by decide +kernel
theorem dX11_image_25 : decode cX11_image 25 = .ok (.ifCond .le 4, 3) := by decide +kernel
theorem dX11_image_28 : decode cX11_image 28 = .ok (.return_, 1) := by decide +kernel
theorem dX11_image_29 : decode cX11_image 29 = .ok (.aload_n 0, 1) := by decide +kernel
theorem dX11_image_30 : decode cX11_image 30 = .ok (.getfield 22, 3) := by decide +kernel
theorem dX11_image_33 : decode cX11_image 33 = .ok (.iload_n 1, 1) := by decide +kernel
theorem dX11_image_34 : decode cX11_image 34 = .ok (.iconst 1, 1) := by decide +kernel
theorem dX11_image_35 : decode cX11_image 35 = .ok (.bastore, 1) := by decide +kernel
theorem dX11_image_36 : decode cX11_image 36 = .ok (.iconst 0, 1) := by decide +kernel
theorem dX11_image_37 : decode cX11_image 37 = .ok (.istore_n 2, 1) := by decide +kernel
theorem dX11_image_38 : decode cX11_image 38 = .ok (.iload_n 2, 1) := by decide +kernel
theorem dX11_image_39 : decode cX11_image 39 = .ok (.sipush 181, 3) := by decide +kernel
theorem dX11_image_42 : decode cX11_image 42 = .ok (.if_icmp .ge 27, 3) := by decide +kernel
theorem dX11_image_45 : decode cX11_image 45 = .ok (.aload_n 0, 1) := by decide +kernel
theorem dX11_image_46 : decode cX11_image 46 = .ok (.getfield 19, 3) := by decide +kernel
theorem dX11_image_49 : decode cX11_image 49 = .ok (.sipush 181, 3) := by decide +kernel
theorem dX11_image_52 : decode cX11_image 52 = .ok (.iload_n 1, 1) := by decide +kernel
theorem dX11_image_53 : decode cX11_image 53 = .ok (.imul, 1) := by decide +kernel
theorem dX11_image_54 : decode cX11_image 54 = .ok (.iload_n 2, 1) := by decide +kernel
theorem dX11_image_55 : decode cX11_image 55 = .ok (.iadd, 1) := by decide +kernel
theorem dX11_image_56 : decode cX11_image 56 = .ok (.aload_n 0, 1) := by decide +kernel
theorem dX11_image_57 : decode cX11_image 57 = .ok (.getfield 9, 3) := by decide +kernel
theorem dX11_image_60 : decode cX11_image 60 = .ok (.iload_n 2, 1) := by decide +kernel
theorem dX11_image_61 : decode cX11_image 61 = .ok (.iaload, 1) := by decide +kernel
theorem dX11_image_62 : decode cX11_image 62 = .ok (.iastore, 1) := by decide +kernel
theorem dX11_image_63 : decode cX11_image 63 = .ok (.iinc 2 1, 3) := by decide +kernel
theorem dX11_image_66 : decode cX11_image 66 = .ok (.goto (-28), 3) := by decide +kernel
theorem dX11_image_69 : decode cX11_image 69 = .ok (.return_, 1) := by decide +kernel
theorem dX11_restore_0 : decode cX11_restore 0 = .ok (.aload_n 0, 1) := by decide +kernel
theorem dX11_restore_1 : decode cX11_restore 1 = .ok (.iload_n 1, 1) := by decide +kernel
theorem dX11_restore_2 : decode cX11_restore 2 = .ok (.i2l, 1) := by decide +kernel
theorem dX11_restore_3 : decode cX11_restore 3 = .ok (.lconst 0, 1) := by decide +kernel
theorem dX11_restore_4 : decode cX11_restore 4 = .ok (.ldc2_w 129, 3) := by decide +kernel
theorem dX11_restore_7 : decode cX11_restore 7 = .ok (.invokestatic 133, 3) := by decide +kernel
theorem dX11_restore_10 : decode cX11_restore 10 = .ok (.ifCond .ne 7, 3) := by decide +kernel
theorem dX11_restore_13 : decode cX11_restore 13 = .ok (.iconst 1, 1) := by decide +kernel
theorem dX11_restore_14 : decode cX11_restore 14 = .ok (.goto 17, 3) := by decide +kernel
theorem dX11_restore_17 : decode cX11_restore 17 = .ok (.aload_n 0, 1) := by decide +kernel
theorem dX11_restore_18 : decode cX11_restore 18 = .ok (.getfield 22, 3) := by decide +kernel
theorem dX11_restore_21 : decode cX11_restore 21 = .ok (.iload_n 1, 1) := by decide +kernel
theorem dX11_restore_22 : decode cX11_restore 22 = .ok (.baload, 1) := by decide +kernel
theorem dX11_restore_23 : decode cX11_restore 23 = .ok (.ifCond .ne 7, 3) := by decide +kernel
theorem dX11_restore_26 : decode cX11_restore 26 = .ok (.iconst 2, 1) := by decide +kernel
theorem dX11_restore_27 : decode cX11_restore 27 = .ok (.goto 4, 3) := by decide +kernel
theorem dX11_restore_30 : decode cX11_restore 30 = .ok (.iconst 0, 1) := by decide +kernel
theorem dX11_restore_31 : decode cX11_restore 31 = .ok (.putfield 64, 3) := by decide +kernel
theorem dX11_restore_34 : decode cX11_restore 34 = .ok (.aload_n 0, 1) := by decide +kernel
theorem dX11_restore_35 : decode cX11_restore 35 = .ok (.getfield 64, 3) := by decide +kernel
theorem dX11_restore_38 : decode cX11_restore 38 = .ok (.ifCond .le 4, 3) := by decide +kernel
theorem dX11_restore_41 : decode cX11_restore 41 = .ok (.return_, 1) := by decide +kernel
theorem dX11_restore_42 : decode cX11_restore 42 = .ok (.iconst 0, 1) := by decide +kernel
theorem dX11_restore_43 : decode cX11_restore 43 = .ok (.istore_n 2, 1) := by decide +kernel
theorem dX11_restore_44 : decode cX11_restore 44 = .ok (.iload_n 2, 1) := by decide +kernel
theorem dX11_restore_45 : decode cX11_restore 45 = .ok (.sipush 181, 3) := by decide +kernel
theorem dX11_restore_48 : decode cX11_restore 48 = .ok (.if_icmp .ge 27, 3) := by decide +kernel
theorem dX11_restore_51 : decode cX11_restore 51 = .ok (.aload_n 0, 1) := by decide +kernel
theorem dX11_restore_52 : decode cX11_restore 52 = .ok (.getfield 9, 3) := by decide +kernel
theorem dX11_restore_55 : decode cX11_restore 55 = .ok (.iload_n 2, 1) := by decide +kernel
theorem dX11_restore_56 : decode cX11_restore 56 = .ok (.aload_n 0, 1) := by decide +kernel
theorem dX11_restore_57 : decode cX11_restore 57 = .ok (.getfield 19, 3) := by decide +kernel
theorem dX11_restore_60 : decode cX11_restore 60 = .ok (.sipush 181, 3) := by decide +kernel
theorem dX11_restore_63 : decode cX11_restore 63 = .ok (.iload_n 1, 1) := by decide +kernel
theorem dX11_restore_64 : decode cX11_restore 64 = .ok (.imul, 1) := by decide +kernel
theorem dX11_restore_65 : decode cX11_restore 65 = .ok (.iload_n 2, 1) := by decide +kernel
theorem dX11_restore_66 : decode cX11_restore 66 = .ok (.iadd, 1) := by decide +kernel
theorem dX11_restore_67 : decode cX11_restore 67 = .ok (.iaload, 1) := by decide +kernel
theorem dX11_restore_68 : decode cX11_restore 68 = .ok (.iastore, 1) := by decide +kernel
theorem dX11_restore_69 : decode cX11_restore 69 = .ok (.iinc 2 1, 3) := by decide +kernel
theorem dX11_restore_72 : decode cX11_restore 72 = .ok (.goto (-28), 3) := by decide +kernel
theorem dX11_restore_75 : decode cX11_restore 75 = .ok (.return_, 1) := by decide +kernel
theorem dX11_count_0 : decode cX11_count 0 = .ok (.aload_n 0, 1) := by decide +kernel
theorem dX11_count_1 : decode cX11_count 1 = .ok (.iconst 0, 1) := by decide +kernel
theorem dX11_count_2 : decode cX11_count 2 = .ok (.putfield 64, 3) := by decide +kernel
theorem dX11_count_5 : decode cX11_count 5 = .ok (.iconst 0, 1) := by decide +kernel
theorem dX11_count_6 : decode cX11_count 6 = .ok (.istore_n 2, 1) := by decide +kernel
theorem dX11_count_7 : decode cX11_count 7 = .ok (.iconst 0, 1) := by decide +kernel
theorem dX11_count_8 : decode cX11_count 8 = .ok (.istore_n 3, 1) := by decide +kernel
theorem dX11_count_9 : decode cX11_count 9 = .ok (.iconst 0, 1) := by decide +kernel
theorem dX11_count_10 : decode cX11_count 10 = .ok (.istore 4, 2) := by decide +kernel
theorem dX11_count_12 : decode cX11_count 12 = .ok (.iconst 0, 1) := by decide +kernel
theorem dX11_count_13 : decode cX11_count 13 = .ok (.istore 5, 2) := by decide +kernel
theorem dX11_count_15 : decode cX11_count 15 = .ok (.iload 5, 2) := by decide +kernel
theorem dX11_count_17 : decode cX11_count 17 = .ok (.aload_n 0, 1) := by decide +kernel
theorem dX11_count_18 : decode cX11_count 18 = .ok (.invokevirtual 190, 3) := by decide +kernel
theorem dX11_count_21 : decode cX11_count 21 = .ok (.if_icmp .ge 18, 3) := by decide +kernel
theorem dX11_count_24 : decode cX11_count 24 = .ok (.iload_n 2, 1) := by decide +kernel
theorem dX11_count_25 : decode cX11_count 25 = .ok (.aload_n 0, 1) := by decide +kernel
theorem dX11_count_26 : decode cX11_count 26 = .ok (.iload 5, 2) := by decide +kernel
theorem dX11_count_28 : decode cX11_count 28 = .ok (.invokevirtual 217, 3) := by decide +kernel
theorem dX11_count_31 : decode cX11_count 31 = .ok (.iadd, 1) := by decide +kernel
theorem dX11_count_32 : decode cX11_count 32 = .ok (.istore_n 2, 1) := by decide +kernel
theorem dX11_count_33 : decode cX11_count 33 = .ok (.iinc 5 1, 3) := by decide +kernel
theorem dX11_count_36 : decode cX11_count 36 = .ok (.goto (-21), 3) := by decide +kernel
theorem dX11_count_39 : decode cX11_count 39 = .ok (.iconst 0, 1) := by decide +kernel
theorem dX11_count_40 : decode cX11_count 40 = .ok (.istore 5, 2) := by decide +kernel
theorem dX11_count_42 : decode cX11_count 42 = .ok (.iload 5, 2) := by decide +kernel
theorem dX11_count_44 : decode cX11_count 44 = .ok (.aload_n 0, 1) := by decide +kernel
theorem dX11_count_45 : decode cX11_count 45 = .ok (.invokevirtual 193, 3) := by decide +kernel
theorem dX11_count_48 : decode cX11_count 48 = .ok (.if_icmp .ge 23, 3) := by decide +kernel
theorem dX11_count_51 : decode cX11_count 51 = .ok (.iload_n 3, 1) := by decide +kernel
theorem dX11_count_52 : decode cX11_count 52 = .ok (.aload_n 0, 1) := by decide +kernel
theorem dX11_count_53 : decode cX11_count 53 = .ok (.getfield 9, 3) := by decide +kernel
theorem dX11_count_56 : decode cX11_count 56 = .ok (.sipush 148, 3) := by decide +kernel
theorem dX11_count_59 : decode cX11_count 59 = .ok (.iload 5, 2) := by decide +kernel
theorem dX11_count_61 : decode cX11_count 61 = .ok (.iadd, 1) := by decide +kernel
theorem dX11_count_62 : decode cX11_count 62 = .ok (.iaload, 1) := by decide +kernel
theorem dX11_count_63 : decode cX11_count 63 = .ok (.iadd, 1) := by decide +kernel
theorem dX11_count_64 : decode cX11_count 64 = .ok (.istore_n 3, 1) := by decide +kernel
theorem dX11_count_65 : decode cX11_count 65 = .ok (.iinc 5 1, 3) := by decide +kernel
theorem dX11_count_68 : decode cX11_count 68 = .ok (.goto (-26), 3) := by decide +kernel
theorem dX11_count_71 : decode cX11_count 71 = .ok (.iconst 0, 1) := by decide +kernel
theorem dX11_count_72 : decode cX11_count 72 = .ok (.istore 5, 2) := by decide +kernel
theorem dX11_count_74 : decode cX11_count 74 = .ok (.iload 5, 2) := by decide +kernel
theorem dX11_count_76 : decode cX11_count 76 = .ok (.aload_n 0, 1) := by decide +kernel
theorem dX11_count_77 : decode cX11_count 77 = .ok (.invokevirtual 190, 3) := by decide +kernel
theorem dX11_count_80 : decode cX11_count 80 = .ok (.if_icmp .ge 49, 3) := by decide +kernel
theorem dX11_count_83 : decode cX11_count 83 = .ok (.iconst 0, 1) := by decide +kernel
theorem dX11_count_84 : decode cX11_count 84 = .ok (.istore 6, 2) := by decide +kernel
theorem dX11_count_86 : decode cX11_count 86 = .ok (.iload 6, 2) := by decide +kernel
theorem dX11_count_88 : decode cX11_count 88 = .ok (.aload_n 0, 1) := by decide +kernel
theorem dX11_count_89 : decode cX11_count 89 = .ok (.invokevirtual 190, 3) := by decide +kernel
theorem dX11_count_92 : decode cX11_count 92 = .ok (.if_icmp .ge 31, 3) := by decide +kernel
theorem dX11_count_95 : decode cX11_count 95 = .ok (.iload 4, 2) := by decide +kernel
theorem dX11_count_97 : decode cX11_count 97 = .ok (.aload_n 0, 1) := by decide +kernel
theorem dX11_count_98 : decode cX11_count 98 = .ok (.iload 5, 2) := by decide +kernel
theorem dX11_count_100 : decode cX11_count 100 = .ok (.iload 6, 2) := by decide +kernel
theorem dX11_count_102 : decode cX11_count 102 = .ok (.invokevirtual 371, 3) := by decide +kernel
theorem dX11_count_105 : decode cX11_count 105 = .ok (.iconst 1, 1) := by decide +kernel
theorem dX11_count_106 : decode cX11_count 106 = .ok (.if_icmp .le 7, 3) := by decide +kernel
theorem dX11_count_109 : decode cX11_count 109 = .ok (.iconst 1, 1) := by decide +kernel
theorem dX11_count_110 : decode cX11_count 110 = .ok (.goto 4, 3) := by decide +kernel
theorem dX11_count_113 : decode cX11_count 113 = .ok (.iconst 0, 1) := by decide +kernel
theorem dX11_count_114 : decode cX11_count 114 = .ok (.iadd, 1) := by decide +kernel
theorem dX11_count_115 : decode cX11_count 115 = .ok (.istore 4, 2) := by decide +kernel
theorem dX11_count_117 : decode cX11_count 117 = .ok (.iinc 6 1, 3) := by decide +kernel
theorem dX11_count_120 : decode cX11_count 120 = .ok (.goto (-34), 3) := by decide +kernel
theorem dX11_count_123 : decode cX11_count 123 = .ok (.iinc 5 1, 3) := by decide +kernel
theorem dX11_count_126 : decode cX11_count 126 = .ok (.goto (-52), 3) := by decide +kernel
theorem dX11_count_129 : decode cX11_count 129 = .ok (.iload_n 1, 1) := by decide +kernel
theorem dX11_count_130 : decode cX11_count 130 = .ok (.tableswitch 82 0 7 #[46, 53, 58, 63, 70, 72, 74, 77], 46) := by decide +kernel
theorem dX11_count_176 : decode cX11_count 176 = .ok (.aload_n 0, 1) := by decide +kernel
theorem dX11_count_177 : decode cX11_count 177 = .ok (.getfield 9, 3) := by decide +kernel
theorem dX11_count_180 : decode cX11_count 180 = .ok (.iconst 0, 1) := by decide +kernel
theorem dX11_count_181 : decode cX11_count 181 = .ok (.iaload, 1) := by decide +kernel
theorem dX11_count_182 : decode cX11_count 182 = .ok (.ireturn, 1) := by decide +kernel
theorem dX11_count_183 : decode cX11_count 183 = .ok (.aload_n 0, 1) := by decide +kernel
theorem dX11_count_184 : decode cX11_count 184 = .ok (.invokevirtual 193, 3) := by decide +kernel
theorem dX11_count_187 : decode cX11_count 187 = .ok (.ireturn, 1) := by decide +kernel
theorem dX11_count_188 : decode cX11_count 188 = .ok (.aload_n 0, 1) := by decide +kernel
theorem dX11_count_189 : decode cX11_count 189 = .ok (.invokevirtual 190, 3) := by decide +kernel
theorem dX11_count_192 : decode cX11_count 192 = .ok (.ireturn, 1) := by decide +kernel
theorem dX11_count_193 : decode cX11_count 193 = .ok (.aload_n 0, 1) := by decide +kernel
theorem dX11_count_194 : decode cX11_count 194 = .ok (.getfield 9, 3) := by decide +kernel
theorem dX11_count_197 : decode cX11_count 197 = .ok (.iconst 3, 1) := by decide +kernel
theorem dX11_count_198 : decode cX11_count 198 = .ok (.iaload, 1) := by decide +kernel
theorem dX11_count_199 : decode cX11_count 199 = .ok (.ireturn, 1) := by decide +kernel
theorem dX11_count_200 : decode cX11_count 200 = .ok (.iload_n 2, 1) := by decide +kernel
theorem dX11_count_201 : decode cX11_count 201 = .ok (.ireturn, 1) := by decide +kernel
theorem dX11_count_202 : decode cX11_count 202 = .ok (.iload_n 3, 1) := by decide +kernel
theorem dX11_count_203 : decode cX11_count 203 = .ok (.ireturn, 1) := by decide +kernel
theorem dX11_count_204 : decode cX11_count 204 = .ok (.iload 4, 2) := by decide +kernel
theorem dX11_count_206 : decode cX11_count 206 = .ok (.ireturn, 1) := by decide +kernel
theorem dX11_count_207 : decode cX11_count 207 = .ok (.aload_n 0, 1) := by decide +kernel
theorem dX11_count_208 : decode cX11_count 208 = .ok (.getfield 67, 3) := by decide +kernel
theorem dX11_count_211 : decode cX11_count 211 = .ok (.ireturn, 1) := by decide +kernel
theorem dX11_count_212 : decode cX11_count 212 = .ok (.iconst (-1), 1) := by decide +kernel
theorem dX11_count_213 : decode cX11_count 213 = .ok (.ireturn, 1) := by decide +kernel
theorem dJ6_bitCount_0f7a4_0 : decode cJ6_bitCount_0f7a4 0 = .ok (.iload_n 0, 1) := by decide +kernel
theorem dJ6_bitCount_0f7a4_1 : decode cJ6_bitCount_0f7a4 1 = .ok (.iload_n 0, 1) := by decide +kernel
theorem dJ6_bitCount_0f7a4_2 : decode cJ6_bitCount_0f7a4 2 = .ok (.iconst 1, 1) := by decide +kernel
theorem dJ6_bitCount_0f7a4_3 : decode cJ6_bitCount_0f7a4 3 = .ok (.iushr, 1) := by decide +kernel
theorem dJ6_bitCount_0f7a4_4 : decode cJ6_bitCount_0f7a4 4 = .ok (.ldc_w 265, 3) := by decide +kernel
theorem dJ6_bitCount_0f7a4_7 : decode cJ6_bitCount_0f7a4 7 = .ok (.iand, 1) := by decide +kernel
theorem dJ6_bitCount_0f7a4_8 : decode cJ6_bitCount_0f7a4 8 = .ok (.isub, 1) := by decide +kernel
theorem dJ6_bitCount_0f7a4_9 : decode cJ6_bitCount_0f7a4 9 = .ok (.istore_n 0, 1) := by decide +kernel
theorem dJ6_bitCount_0f7a4_10 : decode cJ6_bitCount_0f7a4 10 = .ok (.iload_n 0, 1) := by decide +kernel
theorem dJ6_bitCount_0f7a4_11 : decode cJ6_bitCount_0f7a4 11 = .ok (.ldc_w 266, 3) := by decide +kernel
theorem dJ6_bitCount_0f7a4_14 : decode cJ6_bitCount_0f7a4 14 = .ok (.iand, 1) := by decide +kernel
theorem dJ6_bitCount_0f7a4_15 : decode cJ6_bitCount_0f7a4 15 = .ok (.iload_n 0, 1) := by decide +kernel
theorem dJ6_bitCount_0f7a4_16 : decode cJ6_bitCount_0f7a4 16 = .ok (.iconst 2, 1) := by decide +kernel
theorem dJ6_bitCount_0f7a4_17 : decode cJ6_bitCount_0f7a4 17 = .ok (.iushr, 1) := by decide +kernel
theorem dJ6_bitCount_0f7a4_18 : decode cJ6_bitCount_0f7a4 18 = .ok (.ldc_w 266, 3) := by decide +kernel
theorem dJ6_bitCount_0f7a4_21 : decode cJ6_bitCount_0f7a4 21 = .ok (.iand, 1) := by decide +kernel
theorem dJ6_bitCount_0f7a4_22 : decode cJ6_bitCount_0f7a4 22 = .ok (.iadd, 1) := by decide +kernel
theorem dJ6_bitCount_0f7a4_23 : decode cJ6_bitCount_0f7a4 23 = .ok (.istore_n 0, 1) := by decide +kernel
theorem dJ6_bitCount_0f7a4_24 : decode cJ6_bitCount_0f7a4 24 = .ok (.iload_n 0, 1) := by decide +kernel
theorem dJ6_bitCount_0f7a4_25 : decode cJ6_bitCount_0f7a4 25 = .ok (.iload_n 0, 1) := by decide +kernel
theorem dJ6_bitCount_0f7a4_26 : decode cJ6_bitCount_0f7a4 26 = .ok (.iconst 4, 1) := by decide +kernel
theorem dJ6_bitCount_0f7a4_27 : decode cJ6_bitCount_0f7a4 27 = .ok (.iushr, 1) := by decide +kernel
theorem dJ6_bitCount_0f7a4_28 : decode cJ6_bitCount_0f7a4 28 = .ok (.iadd, 1) := by decide +kernel
theorem dJ6_bitCount_0f7a4_29 : decode cJ6_bitCount_0f7a4 29 = .ok (.ldc_w 267, 3) := by decide +kernel
theorem dJ6_bitCount_0f7a4_32 : decode cJ6_bitCount_0f7a4 32 = .ok (.iand, 1) := by decide +kernel
theorem dJ6_bitCount_0f7a4_33 : decode cJ6_bitCount_0f7a4 33 = .ok (.istore_n 0, 1) := by decide +kernel
theorem dJ6_bitCount_0f7a4_34 : decode cJ6_bitCount_0f7a4 34 = .ok (.iload_n 0, 1) := by decide +kernel
theorem dJ6_bitCount_0f7a4_35 : decode cJ6_bitCount_0f7a4 35 = .ok (.iload_n 0, 1) := by decide +kernel
theorem dJ6_bitCount_0f7a4_36 : decode cJ6_bitCount_0f7a4 36 = .ok (.bipush 8, 2) := by decide +kernel
theorem dJ6_bitCount_0f7a4_38 : decode cJ6_bitCount_0f7a4 38 = .ok (.iushr, 1) := by decide +kernel
theorem dJ6_bitCount_0f7a4_39 : decode cJ6_bitCount_0f7a4 39 = .ok (.iadd, 1) := by decide +kernel
theorem dJ6_bitCount_0f7a4_40 : decode cJ6_bitCount_0f7a4 40 = .ok (.istore_n 0, 1) := by decide +kernel
theorem dJ6_bitCount_0f7a4_41 : decode cJ6_bitCount_0f7a4 41 = .ok (.iload_n 0, 1) := by decide +kernel
theorem dJ6_bitCount_0f7a4_42 : decode cJ6_bitCount_0f7a4 42 = .ok (.iload_n 0, 1) := by decide +kernel
theorem dJ6_bitCount_0f7a4_43 : decode cJ6_bitCount_0f7a4 43 = .ok (.bipush 16, 2) := by decide +kernel
theorem dJ6_bitCount_0f7a4_45 : decode cJ6_bitCount_0f7a4 45 = .ok (.iushr, 1) := by decide +kernel
theorem dJ6_bitCount_0f7a4_46 : decode cJ6_bitCount_0f7a4 46 = .ok (.iadd, 1) := by decide +kernel
theorem dJ6_bitCount_0f7a4_47 : decode cJ6_bitCount_0f7a4 47 = .ok (.istore_n 0, 1) := by decide +kernel
theorem dJ6_bitCount_0f7a4_48 : decode cJ6_bitCount_0f7a4 48 = .ok (.iload_n 0, 1) := by decide +kernel
theorem dJ6_bitCount_0f7a4_49 : decode cJ6_bitCount_0f7a4 49 = .ok (.bipush 63, 2) := by decide +kernel
theorem dJ6_bitCount_0f7a4_51 : decode cJ6_bitCount_0f7a4 51 = .ok (.iand, 1) := by decide +kernel
theorem dJ6_bitCount_0f7a4_52 : decode cJ6_bitCount_0f7a4 52 = .ok (.ireturn, 1) := by decide +kernel
theorem dJ9_abs_067f4_0 : decode cJ9_abs_067f4 0 = .ok (.lload_n 0, 1) := by decide +kernel
theorem dJ9_abs_067f4_1 : decode cJ9_abs_067f4 1 = .ok (.lconst 0, 1) := by decide +kernel
theorem dJ9_abs_067f4_2 : decode cJ9_abs_067f4 2 = .ok (.lcmp, 1) := by decide +kernel
theorem dJ9_abs_067f4_3 : decode cJ9_abs_067f4 3 = .ok (.ifCond .ge 8, 3) := by decide +kernel
theorem dJ9_abs_067f4_6 : decode cJ9_abs_067f4 6 = .ok (.lload_n 0, 1) := by decide +kernel
theorem dJ9_abs_067f4_7 : decode cJ9_abs_067f4 7 = .ok (.lneg, 1) := by decide +kernel
theorem dJ9_abs_067f4_8 : decode cJ9_abs_067f4 8 = .ok (.goto 4, 3) := by decide +kernel
theorem dJ9_abs_067f4_11 : decode cJ9_abs_067f4 11 = .ok (.lload_n 0, 1) := by decide +kernel
theorem dJ9_abs_067f4_12 : decode cJ9_abs_067f4 12 = .ok (.lreturn, 1) := by decide +kernel
theorem dJ9_max_7cf53_0 : decode cJ9_max_7cf53 0 = .ok (.iload_n 0, 1) := by decide +kernel
theorem dJ9_max_7cf53_1 : decode cJ9_max_7cf53 1 = .ok (.iload_n 1, 1) := by decide +kernel
theorem dJ9_max_7cf53_2 : decode cJ9_max_7cf53 2 = .ok (.if_icmp .lt 7, 3) := by decide +kernel
theorem dJ9_max_7cf53_5 : decode cJ9_max_7cf53 5 = .ok (.iload_n 0, 1) := by decide +kernel
theorem dJ9_max_7cf53_6 : decode cJ9_max_7cf53 6 = .ok (.goto 4, 3) := by decide +kernel
theorem dJ9_max_7cf53_9 : decode cJ9_max_7cf53 9 = .ok (.iload_n 1, 1) := by decide +kernel
theorem dJ9_max_7cf53_10 : decode cJ9_max_7cf53 10 = .ok (.ireturn, 1) := by decide +kernel
theorem dJ9_max_f86c9_0 : decode cJ9_max_f86c9 0 = .ok (.lload_n 0, 1) := by decide +kernel
theorem dJ9_max_f86c9_1 : decode cJ9_max_f86c9 1 = .ok (.lload_n 2, 1) := by decide +kernel
theorem dJ9_max_f86c9_2 : decode cJ9_max_f86c9 2 = .ok (.lcmp, 1) := by decide +kernel
theorem dJ9_max_f86c9_3 : decode cJ9_max_f86c9 3 = .ok (.ifCond .lt 7, 3) := by decide +kernel
theorem dJ9_max_f86c9_6 : decode cJ9_max_f86c9 6 = .ok (.lload_n 0, 1) := by decide +kernel
theorem dJ9_max_f86c9_7 : decode cJ9_max_f86c9 7 = .ok (.goto 4, 3) := by decide +kernel
theorem dJ9_max_f86c9_10 : decode cJ9_max_f86c9 10 = .ok (.lload_n 2, 1) := by decide +kernel
theorem dJ9_max_f86c9_11 : decode cJ9_max_f86c9 11 = .ok (.lreturn, 1) := by decide +kernel
theorem dJ9_min_7cf53_0 : decode cJ9_min_7cf53 0 = .ok (.iload_n 0, 1) := by decide +kernel
theorem dJ9_min_7cf53_1 : decode cJ9_min_7cf53 1 = .ok (.iload_n 1, 1) := by decide +kernel
theorem dJ9_min_7cf53_2 : decode cJ9_min_7cf53 2 = .ok (.if_icmp .gt 7, 3) := by decide +kernel
theorem dJ9_min_7cf53_5 : decode cJ9_min_7cf53 5 = .ok (.iload_n 0, 1) := by decide +kernel
theorem dJ9_min_7cf53_6 : decode cJ9_min_7cf53 6 = .ok (.goto 4, 3) := by decide +kernel
theorem dJ9_min_7cf53_9 : decode cJ9_min_7cf53 9 = .ok (.iload_n 1, 1) := by decide +kernel
theorem dJ9_min_7cf53_10 : decode cJ9_min_7cf53 10 = .ok (.ireturn, 1) := by decide +kernel
theorem dJ0_length_8abf5_0 : decode cJ0_length_8abf5 0 = .ok (.aload_n 0, 1) := by decide +kernel
theorem dJ0_length_8abf5_1 : decode cJ0_length_8abf5 1 = .ok (.getfield 9, 3) := by decide +kernel
theorem dJ0_length_8abf5_4 : decode cJ0_length_8abf5 4 = .ok (.arraylength, 1) := by decide +kernel
theorem dJ0_length_8abf5_5 : decode cJ0_length_8abf5 5 = .ok (.aload_n 0, 1) := by decide +kernel
theorem dJ0_length_8abf5_6 : decode cJ0_length_8abf5 6 = .ok (.invokevirtual 335, 3) := by decide +kernel
theorem dJ0_length_8abf5_9 : decode cJ0_length_8abf5 9 = .ok (.ishr, 1) := by decide +kernel
theorem dJ0_length_8abf5_10 : decode cJ0_length_8abf5 10 = .ok (.ireturn, 1) := by decide +kernel
theorem dJ0_charAt_5068e_0 : decode cJ0_charAt_5068e 0 = .ok (.aload_n 0, 1) := by decide +kernel
theorem dJ0_charAt_5068e_1 : decode cJ0_charAt_5068e 1 = .ok (.invokevirtual 492, 3) := by decide +kernel
theorem dJ0_charAt_5068e_4 : decode cJ0_charAt_5068e 4 = .ok (.ifCond .eq 12, 3) := by decide +kernel
theorem dJ0_charAt_5068e_7 : decode cJ0_charAt_5068e 7 = .ok (.aload_n 0, 1) := by decide +kernel
theorem dJ0_charAt_5068e_8 : decode cJ0_charAt_5068e 8 = .ok (.getfield 9, 3) := by decide +kernel
theorem dJ0_charAt_5068e_11 : decode cJ0_charAt_5068e 11 = .ok (.iload_n 1, 1) := by decide +kernel
theorem dJ0_charAt_5068e_12 : decode cJ0_charAt_5068e 12 = .ok (.invokestatic 495, 3) := by decide +kernel
theorem dJ0_charAt_5068e_15 : decode cJ0_charAt_5068e 15 = .ok (.ireturn, 1) := by decide +kernel
theorem dJ0_charAt_5068e_16 : decode cJ0_charAt_5068e 16 = .ok (.aload_n 0, 1) := by decide +kernel
theorem dJ0_charAt_5068e_17 : decode cJ0_charAt_5068e 17 = .ok (.getfield 9, 3) := by decide +kernel
theorem dJ0_charAt_5068e_20 : decode cJ0_charAt_5068e 20 = .ok (.iload_n 1, 1) := by decide +kernel
theorem dJ0_charAt_5068e_21 : decode cJ0_charAt_5068e 21 = .ok (.invokestatic 498, 3) := by decide +kernel
theorem dJ0_charAt_5068e_24 : decode cJ0_charAt_5068e 24 = .ok (.ireturn, 1) := by decide +kernel
theorem dJ0_coder_7d493_0 : decode cJ0_coder_7d493 0 = .ok (.getstatic 38, 3) := by decide +kernel
theorem dJ0_coder_7d493_3 : decode cJ0_coder_7d493 3 = .ok (.ifCond .eq 10, 3) := by decide +kernel
theorem dJ0_coder_7d493_6 : decode cJ0_coder_7d493 6 = .ok (.aload_n 0, 1) := by decide +kernel
theorem dJ0_coder_7d493_7 : decode cJ0_coder_7d493 7 = .ok (.getfield 15, 3) := by decide +kernel
theorem dJ0_coder_7d493_10 : decode cJ0_coder_7d493 10 = .ok (.goto 4, 3) := by decide +kernel
theorem dJ0_coder_7d493_13 : decode cJ0_coder_7d493 13 = .ok (.iconst 1, 1) := by decide +kernel
theorem dJ0_coder_7d493_14 : decode cJ0_coder_7d493 14 = .ok (.ireturn, 1) := by decide +kernel
theorem dJ0_isLatin1_aae02_0 : decode cJ0_isLatin1_aae02 0 = .ok (.getstatic 38, 3) := by decide +kernel
theorem dJ0_isLatin1_aae02_3 : decode cJ0_isLatin1_aae02 3 = .ok (.ifCond .eq 14, 3) := by decide +kernel
theorem dJ0_isLatin1_aae02_6 : decode cJ0_isLatin1_aae02 6 = .ok (.aload_n 0, 1) := by decide +kernel
theorem dJ0_isLatin1_aae02_7 : decode cJ0_isLatin1_aae02 7 = .ok (.getfield 15, 3) := by decide +kernel
theorem dJ0_isLatin1_aae02_10 : decode cJ0_isLatin1_aae02 10 = .ok (.ifCond .ne 7, 3) := by decide +kernel
theorem dJ0_isLatin1_aae02_13 : decode cJ0_isLatin1_aae02 13 = .ok (.iconst 1, 1) := by decide +kernel
theorem dJ0_isLatin1_aae02_14 : decode cJ0_isLatin1_aae02 14 = .ok (.goto 4, 3) := by decide +kernel
theorem dJ0_isLatin1_aae02_17 : decode cJ0_isLatin1_aae02 17 = .ok (.iconst 0, 1) := by decide +kernel
theorem dJ0_isLatin1_aae02_18 : decode cJ0_isLatin1_aae02 18 = .ok (.ireturn, 1) := by decide +kernel
theorem dJ0_checkIndex_df160_0 : decode cJ0_checkIndex_df160 0 = .ok (.iload_n 0, 1) := by decide +kernel
theorem dJ0_checkIndex_df160_1 : decode cJ0_checkIndex_df160 1 = .ok (.iload_n 1, 1) := by decide +kernel
theorem dJ0_checkIndex_df160_2 : decode cJ0_checkIndex_df160 2 = .ok (.getstatic 1053, 3) := by decide +kernel
theorem dJ0_checkIndex_df160_5 : decode cJ0_checkIndex_df160 5 = .ok (.invokestatic 1059, 3) := by decide +kernel
theorem dJ0_checkIndex_df160_8 : decode cJ0_checkIndex_df160 8 = .ok (.pop, 1) := by decide +kernel
theorem dJ0_checkIndex_df160_9 : decode cJ0_checkIndex_df160 9 = .ok (.return_, 1) := by decide +kernel
theorem dJ1_charAt_3b067_0 : decode cJ1_charAt_3b067 0 = .ok (.iload_n 1, 1) := by decide +kernel
theorem dJ1_charAt_3b067_1 : decode cJ1_charAt_3b067 1 = .ok (.aload_n 0, 1) := by decide +kernel
theorem dJ1_charAt_3b067_2 : decode cJ1_charAt_3b067 2 = .ok (.arraylength, 1) := by decide +kernel
theorem dJ1_charAt_3b067_3 : decode cJ1_charAt_3b067 3 = .ok (.invokestatic 9, 3) := by decide +kernel
theorem dJ1_charAt_3b067_6 : decode cJ1_charAt_3b067 6 = .ok (.aload_n 0, 1) := by decide +kernel
theorem dJ1_charAt_3b067_7 : decode cJ1_charAt_3b067 7 = .ok (.iload_n 1, 1) := by decide +kernel
theorem dJ1_charAt_3b067_8 : decode cJ1_charAt_3b067 8 = .ok (.baload, 1) := by decide +kernel
theorem dJ1_charAt_3b067_9 : decode cJ1_charAt_3b067 9 = .ok (.sipush 255, 3) := by decide +kernel
theorem dJ1_charAt_3b067_12 : decode cJ1_charAt_3b067 12 = .ok (.iand, 1) := by decide +kernel
theorem dJ1_charAt_3b067_13 : decode cJ1_charAt_3b067 13 = .ok (.i2c, 1) := by decide +kernel
theorem dJ1_charAt_3b067_14 : decode cJ1_charAt_3b067 14 = .ok (.ireturn, 1) := by decide +kernel
theorem dJ2_getChar_3b067_0 : decode cJ2_getChar_3b067 0 = .ok (.getstatic 44, 3) := by decide +kernel
theorem dJ2_getChar_3b067_3 : decode cJ2_getChar_3b067 3 = .ok (.ifCond .ne 25, 3) := by decide +kernel
theorem dJ2_getChar_3b067_6 : decode cJ2_getChar_3b067 6 = .ok (.iload_n 1, 1) := by decide +kernel
theorem dJ2_getChar_3b067_7 : decode cJ2_getChar_3b067 7 = .ok (.ifCond .lt 11, 3) := by decide +kernel
theorem dJ2_getChar_3b067_10 : decode cJ2_getChar_3b067 10 = .ok (.iload_n 1, 1) := by decide +kernel
theorem dJ2_getChar_3b067_11 : decode cJ2_getChar_3b067 11 = .ok (.aload_n 0, 1) := by decide +kernel
theorem dJ2_getChar_3b067_12 : decode cJ2_getChar_3b067 12 = .ok (.invokestatic 48, 3) := by decide +kernel
theorem dJ2_getChar_3b067_15 : decode cJ2_getChar_3b067 15 = .ok (.if_icmp .lt 13, 3) := by decide +kernel
theorem dJ2_getChar_3b067_18 : decode cJ2_getChar_3b067 18 = .ok (.new 52, 3) := by decide +kernel
theorem dJ2_getChar_3b067_21 : decode cJ2_getChar_3b067 21 = .ok (.dup, 1) := by decide +kernel
theorem dJ2_getChar_3b067_22 : decode cJ2_getChar_3b067 22 = .ok (.ldc 54, 2) := by decide +kernel
theorem dJ2_getChar_3b067_24 : decode cJ2_getChar_3b067 24 = .ok (.invokespecial 56, 3) := by decide +kernel
theorem dJ2_getChar_3b067_27 : decode cJ2_getChar_3b067 27 = .ok (.athrow, 1) := by decide +kernel
theorem dJ2_getChar_3b067_28 : decode cJ2_getChar_3b067 28 = .ok (.iload_n 1, 1) := by decide +kernel
theorem dJ2_getChar_3b067_29 : decode cJ2_getChar_3b067 29 = .ok (.iconst 1, 1) := by decide +kernel
theorem dJ2_getChar_3b067_30 : decode cJ2_getChar_3b067 30 = .ok (.ishl, 1) := by decide +kernel
theorem dJ2_getChar_3b067_31 : decode cJ2_getChar_3b067 31 = .ok (.istore_n 1, 1) := by decide +kernel
theorem dJ2_getChar_3b067_32 : decode cJ2_getChar_3b067 32 = .ok (.aload_n 0, 1) := by decide +kernel
theorem dJ2_getChar_3b067_33 : decode cJ2_getChar_3b067 33 = .ok (.iload_n 1, 1) := by decide +kernel
theorem dJ2_getChar_3b067_34 : decode cJ2_getChar_3b067 34 = .ok (.iinc 1 1, 3) := by decide +kernel
theorem dJ2_getChar_3b067_37 : decode cJ2_getChar_3b067 37 = .ok (.baload, 1) := by decide +kernel
theorem dJ2_getChar_3b067_38 : decode cJ2_getChar_3b067 38 = .ok (.sipush 255, 3) := by decide +kernel
theorem dJ2_getChar_3b067_41 : decode cJ2_getChar_3b067 41 = .ok (.iand, 1) := by decide +kernel
theorem dJ2_getChar_3b067_42 : decode cJ2_getChar_3b067 42 = .ok (.getstatic 59, 3) := by decide +kernel
theorem dJ2_getChar_3b067_45 : decode cJ2_getChar_3b067 45 = .ok (.ishl, 1) := by decide +kernel
theorem dJ2_getChar_3b067_46 : decode cJ2_getChar_3b067 46 = .ok (.aload_n 0, 1) := by decide +kernel
theorem dJ2_getChar_3b067_47 : decode cJ2_getChar_3b067 47 = .ok (.iload_n 1, 1) := by decide +kernel
theorem dJ2_getChar_3b067_48 : decode cJ2_getChar_3b067 48 = .ok (.baload, 1) := by decide +kernel
theorem dJ2_getChar_3b067_49 : decode cJ2_getChar_3b067 49 = .ok (.sipush 255, 3) := by decide +kernel
theorem dJ2_getChar_3b067_52 : decode cJ2_getChar_3b067 52 = .ok (.iand, 1) := by decide +kernel
theorem dJ2_getChar_3b067_53 : decode cJ2_getChar_3b067 53 = .ok (.getstatic 63, 3) := by decide +kernel
theorem dJ2_getChar_3b067_56 : decode cJ2_getChar_3b067 56 = .ok (.ishl, 1) := by decide +kernel
theorem dJ2_getChar_3b067_57 : decode cJ2_getChar_3b067 57 = .ok (.ior, 1) := by decide +kernel
theorem dJ2_getChar_3b067_58 : decode cJ2_getChar_3b067 58 = .ok (.i2c, 1) := by decide +kernel
theorem dJ2_getChar_3b067_59 : decode cJ2_getChar_3b067 59 = .ok (.ireturn, 1) := by decide +kernel
theorem dJ2_length_9d52b_0 : decode cJ2_length_9d52b 0 = .ok (.aload_n 0, 1) := by decide +kernel
theorem dJ2_length_9d52b_1 : decode cJ2_length_9d52b 1 = .ok (.arraylength, 1) := by decide +kernel
theorem dJ2_length_9d52b_2 : decode cJ2_length_9d52b 2 = .ok (.iconst 1, 1) := by decide +kernel
theorem dJ2_length_9d52b_3 : decode cJ2_length_9d52b 3 = .ok (.ishr, 1) := by decide +kernel
theorem dJ2_length_9d52b_4 : decode cJ2_length_9d52b 4 = .ok (.ireturn, 1) := by decide +kernel
theorem dJ2_charAt_3b067_0 : decode cJ2_charAt_3b067 0 = .ok (.iload_n 1, 1) := by decide +kernel
theorem dJ2_charAt_3b067_1 : decode cJ2_charAt_3b067 1 = .ok (.aload_n 0, 1) := by decide +kernel
theorem dJ2_charAt_3b067_2 : decode cJ2_charAt_3b067 2 = .ok (.invokestatic 67, 3) := by decide +kernel
theorem dJ2_charAt_3b067_5 : decode cJ2_charAt_3b067 5 = .ok (.aload_n 0, 1) := by decide +kernel
theorem dJ2_charAt_3b067_6 : decode cJ2_charAt_3b067 6 = .ok (.iload_n 1, 1) := by decide +kernel
theorem dJ2_charAt_3b067_7 : decode cJ2_charAt_3b067 7 = .ok (.invokestatic 71, 3) := by decide +kernel
theorem dJ2_charAt_3b067_10 : decode cJ2_charAt_3b067 10 = .ok (.ireturn, 1) := by decide +kernel
theorem dJ2_checkIndex_2214a_0 : decode cJ2_checkIndex_2214a 0 = .ok (.iload_n 0, 1) := by decide +kernel
theorem dJ2_checkIndex_2214a_1 : decode cJ2_checkIndex_2214a 1 = .ok (.aload_n 1, 1) := by decide +kernel
theorem dJ2_checkIndex_2214a_2 : decode cJ2_checkIndex_2214a 2 = .ok (.invokestatic 48, 3) := by decide +kernel
theorem dJ2_checkIndex_2214a_5 : decode cJ2_checkIndex_2214a 5 = .ok (.invokestatic 414, 3) := by decide +kernel
theorem dJ2_checkIndex_2214a_8 : decode cJ2_checkIndex_2214a 8 = .ok (.return_, 1) := by decide +kernel
theorem dJ7_fill_d0a16_0 : decode cJ7_fill_d0a16 0 = .ok (.iconst 0, 1) := by decide +kernel
theorem dJ7_fill_d0a16_1 : decode cJ7_fill_d0a16 1 = .ok (.istore_n 3, 1) := by decide +kernel
theorem dJ7_fill_d0a16_2 : decode cJ7_fill_d0a16 2 = .ok (.aload_n 0, 1) := by decide +kernel
theorem dJ7_fill_d0a16_3 : decode cJ7_fill_d0a16 3 = .ok (.arraylength, 1) := by decide +kernel
theorem dJ7_fill_d0a16_4 : decode cJ7_fill_d0a16 4 = .ok (.istore 4, 2) := by decide +kernel
theorem dJ7_fill_d0a16_6 : decode cJ7_fill_d0a16 6 = .ok (.iload_n 3, 1) := by decide +kernel
theorem dJ7_fill_d0a16_7 : decode cJ7_fill_d0a16 7 = .ok (.iload 4, 2) := by decide +kernel
theorem dJ7_fill_d0a16_9 : decode cJ7_fill_d0a16 9 = .ok (.if_icmp .ge 13, 3) := by decide +kernel
theorem dJ7_fill_d0a16_12 : decode cJ7_fill_d0a16 12 = .ok (.aload_n 0, 1) := by decide +kernel
theorem dJ7_fill_d0a16_13 : decode cJ7_fill_d0a16 13 = .ok (.iload_n 3, 1) := by decide +kernel
theorem dJ7_fill_d0a16_14 : decode cJ7_fill_d0a16 14 = .ok (.lload_n 1, 1) := by decide +kernel
theorem dJ7_fill_d0a16_15 : decode cJ7_fill_d0a16 15 = .ok (.lastore, 1) := by decide +kernel
theorem dJ7_fill_d0a16_16 : decode cJ7_fill_d0a16 16 = .ok (.iinc 3 1, 3) := by decide +kernel
theorem dJ7_fill_d0a16_19 : decode cJ7_fill_d0a16 19 = .ok (.goto (-13), 3) := by decide +kernel
theorem dJ7_fill_d0a16_22 : decode cJ7_fill_d0a16 22 = .ok (.return_, 1) := by decide +kernel
theorem dJ7_fill_53178_0 : decode cJ7_fill_53178 0 = .ok (.iconst 0, 1) := by decide +kernel
theorem dJ7_fill_53178_1 : decode cJ7_fill_53178 1 = .ok (.istore_n 2, 1) := by decide +kernel
theorem dJ7_fill_53178_2 : decode cJ7_fill_53178 2 = .ok (.aload_n 0, 1) := by decide +kernel
theorem dJ7_fill_53178_3 : decode cJ7_fill_53178 3 = .ok (.arraylength, 1) := by decide +kernel
theorem dJ7_fill_53178_4 : decode cJ7_fill_53178 4 = .ok (.istore_n 3, 1) := by decide +kernel
theorem dJ7_fill_53178_5 : decode cJ7_fill_53178 5 = .ok (.iload_n 2, 1) := by decide +kernel
theorem dJ7_fill_53178_6 : decode cJ7_fill_53178 6 = .ok (.iload_n 3, 1) := by decide +kernel
theorem dJ7_fill_53178_7 : decode cJ7_fill_53178 7 = .ok (.if_icmp .ge 13, 3) := by decide +kernel
theorem dJ7_fill_53178_10 : decode cJ7_fill_53178 10 = .ok (.aload_n 0, 1) := by decide +kernel
theorem dJ7_fill_53178_11 : decode cJ7_fill_53178 11 = .ok (.iload_n 2, 1) := by decide +kernel
theorem dJ7_fill_53178_12 : decode cJ7_fill_53178 12 = .ok (.iload_n 1, 1) := by decide +kernel
theorem dJ7_fill_53178_13 : decode cJ7_fill_53178 13 = .ok (.iastore, 1) := by decide +kernel
theorem dJ7_fill_53178_14 : decode cJ7_fill_53178 14 = .ok (.iinc 2 1, 3) := by decide +kernel
theorem dJ7_fill_53178_17 : decode cJ7_fill_53178 17 = .ok (.goto (-12), 3) := by decide +kernel
theorem dJ7_fill_53178_20 : decode cJ7_fill_53178 20 = .ok (.return_, 1) := by decide +kernel
theorem dJ3_checkIndex_8e157_0 : decode cJ3_checkIndex_8e157 0 = .ok (.iload_n 0, 1) := by decide +kernel
theorem dJ3_checkIndex_8e157_1 : decode cJ3_checkIndex_8e157 1 = .ok (.ifCond .lt 8, 3) := by decide +kernel
theorem dJ3_checkIndex_8e157_4 : decode cJ3_checkIndex_8e157 4 = .ok (.iload_n 0, 1) := by decide +kernel
theorem dJ3_checkIndex_8e157_5 : decode cJ3_checkIndex_8e157 5 = .ok (.iload_n 1, 1) := by decide +kernel
theorem dJ3_checkIndex_8e157_6 : decode cJ3_checkIndex_8e157 6 = .ok (.if_icmp .lt 10, 3) := by decide +kernel
theorem dJ3_checkIndex_8e157_9 : decode cJ3_checkIndex_8e157 9 = .ok (.aload_n 2, 1) := by decide +kernel
theorem dJ3_checkIndex_8e157_10 : decode cJ3_checkIndex_8e157 10 = .ok (.iload_n 0, 1) := by decide +kernel
theorem dJ3_checkIndex_8e157_11 : decode cJ3_checkIndex_8e157 11 = .ok (.iload_n 1, 1) := by decide +kernel
theorem dJ3_checkIndex_8e157_12 : decode cJ3_checkIndex_8e157 12 = .ok (.invokestatic 95, 3) := by decide +kernel
theorem dJ3_checkIndex_8e157_15 : decode cJ3_checkIndex_8e157 15 = .ok (.athrow, 1) := by decide +kernel
theorem dJ3_checkIndex_8e157_16 : decode cJ3_checkIndex_8e157 16 = .ok (.iload_n 0, 1) := by decide +kernel
theorem dJ3_checkIndex_8e157_17 : decode cJ3_checkIndex_8e157 17 = .ok (.ireturn, 1) := by decide +kernel
theorem dL_town_0 : decode cL_town 0 = .ok (.aload_n 2, 1) := by decide +kernel
theorem dL_town_1 : decode cL_town 1 = .ok (.iconst 0, 1) := by decide +kernel
theorem dL_town_2 : decode cL_town 2 = .ok (.aload_n 0, 1) := by decide +kernel
theorem dL_town_3 : decode cL_town 3 = .ok (.iload_n 1, 1) := by decide +kernel
theorem dL_town_4 : decode cL_town 4 = .ok (.invokevirtual 7, 3) := by decide +kernel
theorem dL_town_7 : decode cL_town 7 = .ok (.i2l, 1) := by decide +kernel
theorem dL_town_8 : decode cL_town 8 = .ok (.lastore, 1) := by decide +kernel
theorem dL_town_9 : decode cL_town 9 = .ok (.goto 6, 3) := by decide +kernel
theorem dL_town_12 : decode cL_town 12 = .ok (.astore_n 3, 1) := by decide +kernel
theorem dL_town_13 : decode cL_town 13 = .ok (.iconst 1, 1) := by decide +kernel
theorem dL_town_14 : decode cL_town 14 = .ok (.ireturn, 1) := by decide +kernel
theorem dL_town_15 : decode cL_town 15 = .ok (.iconst 0, 1) := by decide +kernel
theorem dL_town_16 : decode cL_town 16 = .ok (.ireturn, 1) := by decide +kernel
theorem dL_coin_0 : decode cL_coin 0 = .ok (.aload_n 2, 1) := by decide +kernel
theorem dL_coin_1 : decode cL_coin 1 = .ok (.iconst 0, 1) := by decide +kernel
theorem dL_coin_2 : decode cL_coin 2 = .ok (.aload_n 0, 1) := by decide +kernel
theorem dL_coin_3 : decode cL_coin 3 = .ok (.iload_n 1, 1) := by decide +kernel
theorem dL_coin_4 : decode cL_coin 4 = .ok (.invokevirtual 15, 3) := by decide +kernel
theorem dL_coin_7 : decode cL_coin 7 = .ok (.i2l, 1) := by decide +kernel
theorem dL_coin_8 : decode cL_coin 8 = .ok (.lastore, 1) := by decide +kernel
theorem dL_coin_9 : decode cL_coin 9 = .ok (.goto 6, 3) := by decide +kernel
theorem dL_coin_12 : decode cL_coin 12 = .ok (.astore_n 3, 1) := by decide +kernel
theorem dL_coin_13 : decode cL_coin 13 = .ok (.iconst 1, 1) := by decide +kernel
theorem dL_coin_14 : decode cL_coin 14 = .ok (.ireturn, 1) := by decide +kernel
theorem dL_coin_15 : decode cL_coin 15 = .ok (.iconst 0, 1) := by decide +kernel
theorem dL_coin_16 : decode cL_coin 16 = .ok (.ireturn, 1) := by decide +kernel
theorem dL_has_0 : decode cL_has 0 = .ok (.aload_n 3, 1) := by decide +kernel
theorem dL_has_1 : decode cL_has 1 = .ok (.iconst 0, 1) := by decide +kernel
theorem dL_has_2 : decode cL_has 2 = .ok (.aload_n 0, 1) := by decide +kernel
theorem dL_has_3 : decode cL_has 3 = .ok (.iload_n 1, 1) := by decide +kernel
theorem dL_has_4 : decode cL_has 4 = .ok (.iload_n 2, 1) := by decide +kernel
theorem dL_has_5 : decode cL_has 5 = .ok (.invokevirtual 20, 3) := by decide +kernel
theorem dL_has_8 : decode cL_has 8 = .ok (.i2l, 1) := by decide +kernel
theorem dL_has_9 : decode cL_has 9 = .ok (.lastore, 1) := by decide +kernel
theorem dL_has_10 : decode cL_has 10 = .ok (.goto 7, 3) := by decide +kernel
theorem dL_has_13 : decode cL_has 13 = .ok (.astore 4, 2) := by decide +kernel
theorem dL_has_15 : decode cL_has 15 = .ok (.iconst 1, 1) := by decide +kernel
theorem dL_has_16 : decode cL_has 16 = .ok (.ireturn, 1) := by decide +kernel
theorem dL_has_17 : decode cL_has 17 = .ok (.iconst 0, 1) := by decide +kernel
theorem dL_has_18 : decode cL_has 18 = .ok (.ireturn, 1) := by decide +kernel
theorem dL_purse_0 : decode cL_purse 0 = .ok (.aload_n 3, 1) := by decide +kernel
theorem dL_purse_1 : decode cL_purse 1 = .ok (.iconst 0, 1) := by decide +kernel
theorem dL_purse_2 : decode cL_purse 2 = .ok (.aload_n 0, 1) := by decide +kernel
theorem dL_purse_3 : decode cL_purse 3 = .ok (.iload_n 1, 1) := by decide +kernel
theorem dL_purse_4 : decode cL_purse 4 = .ok (.iload_n 2, 1) := by decide +kernel
theorem dL_purse_5 : decode cL_purse 5 = .ok (.invokevirtual 24, 3) := by decide +kernel
theorem dL_purse_8 : decode cL_purse 8 = .ok (.i2l, 1) := by decide +kernel
theorem dL_purse_9 : decode cL_purse 9 = .ok (.lastore, 1) := by decide +kernel
theorem dL_purse_10 : decode cL_purse 10 = .ok (.goto 11, 3) := by decide +kernel
theorem dL_purse_13 : decode cL_purse 13 = .ok (.astore 4, 2) := by decide +kernel
theorem dL_purse_15 : decode cL_purse 15 = .ok (.iconst 1, 1) := by decide +kernel
theorem dL_purse_16 : decode cL_purse 16 = .ok (.ireturn, 1) := by decide +kernel
theorem dL_purse_17 : decode cL_purse 17 = .ok (.astore 4, 2) := by decide +kernel
theorem dL_purse_19 : decode cL_purse 19 = .ok (.iconst 2, 1) := by decide +kernel
theorem dL_purse_20 : decode cL_purse 20 = .ok (.ireturn, 1) := by decide +kernel
theorem dL_purse_21 : decode cL_purse 21 = .ok (.iconst 0, 1) := by decide +kernel
theorem dL_purse_22 : decode cL_purse 22 = .ok (.ireturn, 1) := by decide +kernel
theorem dL_worth_0 : decode cL_worth 0 = .ok (.aload_n 2, 1) := by decide +kernel
theorem dL_worth_1 : decode cL_worth 1 = .ok (.iconst 0, 1) := by decide +kernel
theorem dL_worth_2 : decode cL_worth 2 = .ok (.aload_n 0, 1) := by decide +kernel
theorem dL_worth_3 : decode cL_worth 3 = .ok (.iload_n 1, 1) := by decide +kernel
theorem dL_worth_4 : decode cL_worth 4 = .ok (.invokevirtual 27, 3) := by decide +kernel
theorem dL_worth_7 : decode cL_worth 7 = .ok (.lastore, 1) := by decide +kernel
theorem dL_worth_8 : decode cL_worth 8 = .ok (.goto 6, 3) := by decide +kernel
theorem dL_worth_11 : decode cL_worth 11 = .ok (.astore_n 3, 1) := by decide +kernel
theorem dL_worth_12 : decode cL_worth 12 = .ok (.iconst 1, 1) := by decide +kernel
theorem dL_worth_13 : decode cL_worth 13 = .ok (.ireturn, 1) := by decide +kernel
theorem dL_worth_14 : decode cL_worth 14 = .ok (.iconst 0, 1) := by decide +kernel
theorem dL_worth_15 : decode cL_worth 15 = .ok (.ireturn, 1) := by decide +kernel
theorem dL_change_0 : decode cL_change 0 = .ok (.aload_n 3, 1) := by decide +kernel
theorem dL_change_1 : decode cL_change 1 = .ok (.iconst 0, 1) := by decide +kernel
theorem dL_change_2 : decode cL_change 2 = .ok (.aload_n 0, 1) := by decide +kernel
theorem dL_change_3 : decode cL_change 3 = .ok (.iload_n 1, 1) := by decide +kernel
theorem dL_change_4 : decode cL_change 4 = .ok (.iload_n 2, 1) := by decide +kernel
theorem dL_change_5 : decode cL_change 5 = .ok (.invokevirtual 31, 3) := by decide +kernel
theorem dL_change_8 : decode cL_change 8 = .ok (.i2l, 1) := by decide +kernel
theorem dL_change_9 : decode cL_change 9 = .ok (.lastore, 1) := by decide +kernel
theorem dL_change_10 : decode cL_change 10 = .ok (.goto 11, 3) := by decide +kernel
theorem dL_change_13 : decode cL_change 13 = .ok (.astore 4, 2) := by decide +kernel
theorem dL_change_15 : decode cL_change 15 = .ok (.iconst 1, 1) := by decide +kernel
theorem dL_change_16 : decode cL_change 16 = .ok (.ireturn, 1) := by decide +kernel
theorem dL_change_17 : decode cL_change 17 = .ok (.astore 4, 2) := by decide +kernel
theorem dL_change_19 : decode cL_change 19 = .ok (.iconst 2, 1) := by decide +kernel
theorem dL_change_20 : decode cL_change 20 = .ok (.ireturn, 1) := by decide +kernel
theorem dL_change_21 : decode cL_change 21 = .ok (.iconst 0, 1) := by decide +kernel
theorem dL_change_22 : decode cL_change 22 = .ok (.ireturn, 1) := by decide +kernel
theorem dL_may_0 : decode cL_may 0 = .ok (.aload 5, 2) := by decide +kernel
theorem dL_may_2 : decode cL_may 2 = .ok (.iconst 0, 1) := by decide +kernel
theorem dL_may_3 : decode cL_may 3 = .ok (.aload_n 0, 1) := by decide +kernel
theorem dL_may_4 : decode cL_may 4 = .ok (.iload_n 1, 1) := by decide +kernel
theorem dL_may_5 : decode cL_may 5 = .ok (.iload_n 2, 1) := by decide +kernel
theorem dL_may_6 : decode cL_may 6 = .ok (.lload_n 3, 1) := by decide +kernel
theorem dL_may_7 : decode cL_may 7 = .ok (.invokevirtual 34, 3) := by decide +kernel
theorem dL_may_10 : decode cL_may 10 = .ok (.i2l, 1) := by decide +kernel
theorem dL_may_11 : decode cL_may 11 = .ok (.lastore, 1) := by decide +kernel
theorem dL_may_12 : decode cL_may 12 = .ok (.goto 11, 3) := by decide +kernel
theorem dL_may_15 : decode cL_may 15 = .ok (.astore 6, 2) := by decide +kernel
theorem dL_may_17 : decode cL_may 17 = .ok (.iconst 1, 1) := by decide +kernel
theorem dL_may_18 : decode cL_may 18 = .ok (.ireturn, 1) := by decide +kernel
theorem dL_may_19 : decode cL_may 19 = .ok (.astore 6, 2) := by decide +kernel
theorem dL_may_21 : decode cL_may 21 = .ok (.iconst 2, 1) := by decide +kernel
theorem dL_may_22 : decode cL_may 22 = .ok (.ireturn, 1) := by decide +kernel
theorem dL_may_23 : decode cL_may 23 = .ok (.iconst 0, 1) := by decide +kernel
theorem dL_may_24 : decode cL_may 24 = .ok (.ireturn, 1) := by decide +kernel
theorem dL_pay_0 : decode cL_pay 0 = .ok (.aload 5, 2) := by decide +kernel
theorem dL_pay_2 : decode cL_pay 2 = .ok (.iconst 0, 1) := by decide +kernel
theorem dL_pay_3 : decode cL_pay 3 = .ok (.aload_n 0, 1) := by decide +kernel
theorem dL_pay_4 : decode cL_pay 4 = .ok (.iload_n 1, 1) := by decide +kernel
theorem dL_pay_5 : decode cL_pay 5 = .ok (.iload_n 2, 1) := by decide +kernel
theorem dL_pay_6 : decode cL_pay 6 = .ok (.lload_n 3, 1) := by decide +kernel
theorem dL_pay_7 : decode cL_pay 7 = .ok (.invokevirtual 38, 3) := by decide +kernel
theorem dL_pay_10 : decode cL_pay 10 = .ok (.i2l, 1) := by decide +kernel
theorem dL_pay_11 : decode cL_pay 11 = .ok (.lastore, 1) := by decide +kernel
theorem dL_pay_12 : decode cL_pay 12 = .ok (.goto 11, 3) := by decide +kernel
theorem dL_pay_15 : decode cL_pay 15 = .ok (.astore 6, 2) := by decide +kernel
theorem dL_pay_17 : decode cL_pay 17 = .ok (.iconst 1, 1) := by decide +kernel
theorem dL_pay_18 : decode cL_pay 18 = .ok (.ireturn, 1) := by decide +kernel
theorem dL_pay_19 : decode cL_pay 19 = .ok (.astore 6, 2) := by decide +kernel
theorem dL_pay_21 : decode cL_pay 21 = .ok (.iconst 2, 1) := by decide +kernel
theorem dL_pay_22 : decode cL_pay 22 = .ok (.ireturn, 1) := by decide +kernel
theorem dL_pay_23 : decode cL_pay 23 = .ok (.iconst 0, 1) := by decide +kernel
theorem dL_pay_24 : decode cL_pay 24 = .ok (.ireturn, 1) := by decide +kernel
theorem dL_changes_0 : decode cL_changes 0 = .ok (.aload_n 3, 1) := by decide +kernel
theorem dL_changes_1 : decode cL_changes 1 = .ok (.iconst 0, 1) := by decide +kernel
theorem dL_changes_2 : decode cL_changes 2 = .ok (.aload_n 0, 1) := by decide +kernel
theorem dL_changes_3 : decode cL_changes 3 = .ok (.iload_n 1, 1) := by decide +kernel
theorem dL_changes_4 : decode cL_changes 4 = .ok (.iload_n 2, 1) := by decide +kernel
theorem dL_changes_5 : decode cL_changes 5 = .ok (.invokevirtual 41, 3) := by decide +kernel
theorem dL_changes_8 : decode cL_changes 8 = .ok (.i2l, 1) := by decide +kernel
theorem dL_changes_9 : decode cL_changes 9 = .ok (.lastore, 1) := by decide +kernel
theorem dL_changes_10 : decode cL_changes 10 = .ok (.goto 7, 3) := by decide +kernel
theorem dL_changes_13 : decode cL_changes 13 = .ok (.astore 4, 2) := by decide +kernel
theorem dL_changes_15 : decode cL_changes 15 = .ok (.iconst 1, 1) := by decide +kernel
theorem dL_changes_16 : decode cL_changes 16 = .ok (.ireturn, 1) := by decide +kernel
theorem dL_changes_17 : decode cL_changes 17 = .ok (.iconst 0, 1) := by decide +kernel
theorem dL_changes_18 : decode cL_changes 18 = .ok (.ireturn, 1) := by decide +kernel
theorem dL_tax_0 : decode cL_tax 0 = .ok (.aload_n 2, 1) := by decide +kernel
theorem dL_tax_1 : decode cL_tax 1 = .ok (.iconst 0, 1) := by decide +kernel
theorem dL_tax_2 : decode cL_tax 2 = .ok (.aload_n 0, 1) := by decide +kernel
theorem dL_tax_3 : decode cL_tax 3 = .ok (.iload_n 1, 1) := by decide +kernel
theorem dL_tax_4 : decode cL_tax 4 = .ok (.invokevirtual 44, 3) := by decide +kernel
theorem dL_tax_7 : decode cL_tax 7 = .ok (.i2l, 1) := by decide +kernel
theorem dL_tax_8 : decode cL_tax 8 = .ok (.lastore, 1) := by decide +kernel
theorem dL_tax_9 : decode cL_tax 9 = .ok (.goto 6, 3) := by decide +kernel
theorem dL_tax_12 : decode cL_tax 12 = .ok (.astore_n 3, 1) := by decide +kernel
theorem dL_tax_13 : decode cL_tax 13 = .ok (.iconst 1, 1) := by decide +kernel
theorem dL_tax_14 : decode cL_tax 14 = .ok (.ireturn, 1) := by decide +kernel
theorem dL_tax_15 : decode cL_tax 15 = .ok (.iconst 0, 1) := by decide +kernel
theorem dL_tax_16 : decode cL_tax 16 = .ok (.ireturn, 1) := by decide +kernel
theorem dL_strike_0 : decode cL_strike 0 = .ok (.aload_n 3, 1) := by decide +kernel
theorem dL_strike_1 : decode cL_strike 1 = .ok (.iconst 0, 1) := by decide +kernel
theorem dL_strike_2 : decode cL_strike 2 = .ok (.aload_n 0, 1) := by decide +kernel
theorem dL_strike_3 : decode cL_strike 3 = .ok (.iload_n 1, 1) := by decide +kernel
theorem dL_strike_4 : decode cL_strike 4 = .ok (.iload_n 2, 1) := by decide +kernel
theorem dL_strike_5 : decode cL_strike 5 = .ok (.invokevirtual 47, 3) := by decide +kernel
theorem dL_strike_8 : decode cL_strike 8 = .ok (.i2l, 1) := by decide +kernel
theorem dL_strike_9 : decode cL_strike 9 = .ok (.lastore, 1) := by decide +kernel
theorem dL_strike_10 : decode cL_strike 10 = .ok (.goto 15, 3) := by decide +kernel
theorem dL_strike_13 : decode cL_strike 13 = .ok (.astore 4, 2) := by decide +kernel
theorem dL_strike_15 : decode cL_strike 15 = .ok (.iconst 1, 1) := by decide +kernel
theorem dL_strike_16 : decode cL_strike 16 = .ok (.ireturn, 1) := by decide +kernel
theorem dL_strike_17 : decode cL_strike 17 = .ok (.astore 4, 2) := by decide +kernel
theorem dL_strike_19 : decode cL_strike 19 = .ok (.iconst 2, 1) := by decide +kernel
theorem dL_strike_20 : decode cL_strike 20 = .ok (.ireturn, 1) := by decide +kernel
theorem dL_strike_21 : decode cL_strike 21 = .ok (.astore 4, 2) := by decide +kernel
theorem dL_strike_23 : decode cL_strike 23 = .ok (.iconst 3, 1) := by decide +kernel
theorem dL_strike_24 : decode cL_strike 24 = .ok (.ireturn, 1) := by decide +kernel
theorem dL_strike_25 : decode cL_strike 25 = .ok (.iconst 0, 1) := by decide +kernel
theorem dL_strike_26 : decode cL_strike 26 = .ok (.ireturn, 1) := by decide +kernel
theorem dL_readOut_0 : decode cL_readOut 0 = .ok (.aload_n 3, 1) := by decide +kernel
theorem dL_readOut_1 : decode cL_readOut 1 = .ok (.iconst 0, 1) := by decide +kernel
theorem dL_readOut_2 : decode cL_readOut 2 = .ok (.aload_n 0, 1) := by decide +kernel
theorem dL_readOut_3 : decode cL_readOut 3 = .ok (.lload_n 1, 1) := by decide +kernel
theorem dL_readOut_4 : decode cL_readOut 4 = .ok (.invokevirtual 52, 3) := by decide +kernel
theorem dL_readOut_7 : decode cL_readOut 7 = .ok (.lastore, 1) := by decide +kernel
theorem dL_readOut_8 : decode cL_readOut 8 = .ok (.goto 7, 3) := by decide +kernel
theorem dL_readOut_11 : decode cL_readOut 11 = .ok (.astore 4, 2) := by decide +kernel
theorem dL_readOut_13 : decode cL_readOut 13 = .ok (.iconst 1, 1) := by decide +kernel
theorem dL_readOut_14 : decode cL_readOut 14 = .ok (.ireturn, 1) := by decide +kernel
theorem dL_readOut_15 : decode cL_readOut 15 = .ok (.iconst 0, 1) := by decide +kernel
theorem dL_readOut_16 : decode cL_readOut 16 = .ok (.ireturn, 1) := by decide +kernel
theorem dL_year_0 : decode cL_year 0 = .ok (.aload_n 3, 1) := by decide +kernel
theorem dL_year_1 : decode cL_year 1 = .ok (.iconst 0, 1) := by decide +kernel
theorem dL_year_2 : decode cL_year 2 = .ok (.aload_n 0, 1) := by decide +kernel
theorem dL_year_3 : decode cL_year 3 = .ok (.iload_n 1, 1) := by decide +kernel
theorem dL_year_4 : decode cL_year 4 = .ok (.iload_n 2, 1) := by decide +kernel
theorem dL_year_5 : decode cL_year 5 = .ok (.invokevirtual 56, 3) := by decide +kernel
theorem dL_year_8 : decode cL_year 8 = .ok (.i2l, 1) := by decide +kernel
theorem dL_year_9 : decode cL_year 9 = .ok (.lastore, 1) := by decide +kernel
theorem dL_year_10 : decode cL_year 10 = .ok (.goto 11, 3) := by decide +kernel
theorem dL_year_13 : decode cL_year 13 = .ok (.astore 4, 2) := by decide +kernel
theorem dL_year_15 : decode cL_year 15 = .ok (.iconst 1, 1) := by decide +kernel
theorem dL_year_16 : decode cL_year 16 = .ok (.ireturn, 1) := by decide +kernel
theorem dL_year_17 : decode cL_year 17 = .ok (.astore 4, 2) := by decide +kernel
theorem dL_year_19 : decode cL_year 19 = .ok (.iconst 2, 1) := by decide +kernel
theorem dL_year_20 : decode cL_year 20 = .ok (.ireturn, 1) := by decide +kernel
theorem dL_year_21 : decode cL_year 21 = .ok (.iconst 0, 1) := by decide +kernel
theorem dL_year_22 : decode cL_year 22 = .ok (.ireturn, 1) := by decide +kernel
theorem dL_judge_0 : decode cL_judge 0 = .ok (.aload_n 3, 1) := by decide +kernel
theorem dL_judge_1 : decode cL_judge 1 = .ok (.iconst 0, 1) := by decide +kernel
theorem dL_judge_2 : decode cL_judge 2 = .ok (.aload_n 0, 1) := by decide +kernel
theorem dL_judge_3 : decode cL_judge 3 = .ok (.iload_n 1, 1) := by decide +kernel
theorem dL_judge_4 : decode cL_judge 4 = .ok (.iload_n 2, 1) := by decide +kernel
theorem dL_judge_5 : decode cL_judge 5 = .ok (.invokevirtual 59, 3) := by decide +kernel
theorem dL_judge_8 : decode cL_judge 8 = .ok (.i2l, 1) := by decide +kernel
theorem dL_judge_9 : decode cL_judge 9 = .ok (.lastore, 1) := by decide +kernel
theorem dL_judge_10 : decode cL_judge 10 = .ok (.goto 15, 3) := by decide +kernel
theorem dL_judge_13 : decode cL_judge 13 = .ok (.astore 4, 2) := by decide +kernel
theorem dL_judge_15 : decode cL_judge 15 = .ok (.iconst 1, 1) := by decide +kernel
theorem dL_judge_16 : decode cL_judge 16 = .ok (.ireturn, 1) := by decide +kernel
theorem dL_judge_17 : decode cL_judge 17 = .ok (.astore 4, 2) := by decide +kernel
theorem dL_judge_19 : decode cL_judge 19 = .ok (.iconst 2, 1) := by decide +kernel
theorem dL_judge_20 : decode cL_judge 20 = .ok (.ireturn, 1) := by decide +kernel
theorem dL_judge_21 : decode cL_judge 21 = .ok (.astore 4, 2) := by decide +kernel
theorem dL_judge_23 : decode cL_judge 23 = .ok (.iconst 3, 1) := by decide +kernel
theorem dL_judge_24 : decode cL_judge 24 = .ok (.ireturn, 1) := by decide +kernel
theorem dL_judge_25 : decode cL_judge 25 = .ok (.iconst 0, 1) := by decide +kernel
theorem dL_judge_26 : decode cL_judge 26 = .ok (.ireturn, 1) := by decide +kernel
theorem dL_perform_0 : decode cL_perform 0 = .ok (.aload_n 2, 1) := by decide +kernel
theorem dL_perform_1 : decode cL_perform 1 = .ok (.iconst 0, 1) := by decide +kernel
theorem dL_perform_2 : decode cL_perform 2 = .ok (.aload_n 0, 1) := by decide +kernel
theorem dL_perform_3 : decode cL_perform 3 = .ok (.iload_n 1, 1) := by decide +kernel
theorem dL_perform_4 : decode cL_perform 4 = .ok (.invokevirtual 62, 3) := by decide +kernel
theorem dL_perform_7 : decode cL_perform 7 = .ok (.i2l, 1) := by decide +kernel
theorem dL_perform_8 : decode cL_perform 8 = .ok (.lastore, 1) := by decide +kernel
theorem dL_perform_9 : decode cL_perform 9 = .ok (.goto 9, 3) := by decide +kernel
theorem dL_perform_12 : decode cL_perform 12 = .ok (.astore_n 3, 1) := by decide +kernel
theorem dL_perform_13 : decode cL_perform 13 = .ok (.iconst 1, 1) := by decide +kernel
theorem dL_perform_14 : decode cL_perform 14 = .ok (.ireturn, 1) := by decide +kernel
theorem dL_perform_15 : decode cL_perform 15 = .ok (.astore_n 3, 1) := by decide +kernel
theorem dL_perform_16 : decode cL_perform 16 = .ok (.iconst 2, 1) := by decide +kernel
theorem dL_perform_17 : decode cL_perform 17 = .ok (.ireturn, 1) := by decide +kernel
theorem dL_perform_18 : decode cL_perform 18 = .ok (.iconst 0, 1) := by decide +kernel
theorem dL_perform_19 : decode cL_perform 19 = .ok (.ireturn, 1) := by decide +kernel
theorem dL_prices_0 : decode cL_prices 0 = .ok (.aload_n 2, 1) := by decide +kernel
theorem dL_prices_1 : decode cL_prices 1 = .ok (.iconst 0, 1) := by decide +kernel
theorem dL_prices_2 : decode cL_prices 2 = .ok (.aload_n 0, 1) := by decide +kernel
theorem dL_prices_3 : decode cL_prices 3 = .ok (.iload_n 1, 1) := by decide +kernel
theorem dL_prices_4 : decode cL_prices 4 = .ok (.invokevirtual 65, 3) := by decide +kernel
theorem dL_prices_7 : decode cL_prices 7 = .ok (.i2l, 1) := by decide +kernel
theorem dL_prices_8 : decode cL_prices 8 = .ok (.lastore, 1) := by decide +kernel
theorem dL_prices_9 : decode cL_prices 9 = .ok (.goto 6, 3) := by decide +kernel
theorem dL_prices_12 : decode cL_prices 12 = .ok (.astore_n 3, 1) := by decide +kernel
theorem dL_prices_13 : decode cL_prices 13 = .ok (.iconst 1, 1) := by decide +kernel
theorem dL_prices_14 : decode cL_prices 14 = .ok (.ireturn, 1) := by decide +kernel
theorem dL_prices_15 : decode cL_prices 15 = .ok (.iconst 0, 1) := by decide +kernel
theorem dL_prices_16 : decode cL_prices 16 = .ok (.ireturn, 1) := by decide +kernel
theorem dL_price_0 : decode cL_price 0 = .ok (.aload_n 3, 1) := by decide +kernel
theorem dL_price_1 : decode cL_price 1 = .ok (.iconst 0, 1) := by decide +kernel
theorem dL_price_2 : decode cL_price 2 = .ok (.aload_n 0, 1) := by decide +kernel
theorem dL_price_3 : decode cL_price 3 = .ok (.iload_n 1, 1) := by decide +kernel
theorem dL_price_4 : decode cL_price 4 = .ok (.iload_n 2, 1) := by decide +kernel
theorem dL_price_5 : decode cL_price 5 = .ok (.invokevirtual 68, 3) := by decide +kernel
theorem dL_price_8 : decode cL_price 8 = .ok (.lastore, 1) := by decide +kernel
theorem dL_price_9 : decode cL_price 9 = .ok (.goto 7, 3) := by decide +kernel
theorem dL_price_12 : decode cL_price 12 = .ok (.astore 4, 2) := by decide +kernel
theorem dL_price_14 : decode cL_price 14 = .ok (.iconst 1, 1) := by decide +kernel
theorem dL_price_15 : decode cL_price 15 = .ok (.ireturn, 1) := by decide +kernel
theorem dL_price_16 : decode cL_price 16 = .ok (.iconst 0, 1) := by decide +kernel
theorem dL_price_17 : decode cL_price 17 = .ok (.ireturn, 1) := by decide +kernel
theorem dL_gap_0 : decode cL_gap 0 = .ok (.aload_n 2, 1) := by decide +kernel
theorem dL_gap_1 : decode cL_gap 1 = .ok (.iconst 0, 1) := by decide +kernel
theorem dL_gap_2 : decode cL_gap 2 = .ok (.aload_n 0, 1) := by decide +kernel
theorem dL_gap_3 : decode cL_gap 3 = .ok (.iload_n 1, 1) := by decide +kernel
theorem dL_gap_4 : decode cL_gap 4 = .ok (.invokevirtual 72, 3) := by decide +kernel
theorem dL_gap_7 : decode cL_gap 7 = .ok (.lastore, 1) := by decide +kernel
theorem dL_gap_8 : decode cL_gap 8 = .ok (.goto 6, 3) := by decide +kernel
theorem dL_gap_11 : decode cL_gap 11 = .ok (.astore_n 3, 1) := by decide +kernel
theorem dL_gap_12 : decode cL_gap 12 = .ok (.iconst 1, 1) := by decide +kernel
theorem dL_gap_13 : decode cL_gap 13 = .ok (.ireturn, 1) := by decide +kernel
theorem dL_gap_14 : decode cL_gap 14 = .ok (.iconst 0, 1) := by decide +kernel
theorem dL_gap_15 : decode cL_gap 15 = .ok (.ireturn, 1) := by decide +kernel
theorem dL_nearest_0 : decode cL_nearest 0 = .ok (.aload 4, 2) := by decide +kernel
theorem dL_nearest_2 : decode cL_nearest 2 = .ok (.iconst 0, 1) := by decide +kernel
theorem dL_nearest_3 : decode cL_nearest 3 = .ok (.aload_n 0, 1) := by decide +kernel
theorem dL_nearest_4 : decode cL_nearest 4 = .ok (.iload_n 1, 1) := by decide +kernel
theorem dL_nearest_5 : decode cL_nearest 5 = .ok (.lload_n 2, 1) := by decide +kernel
theorem dL_nearest_6 : decode cL_nearest 6 = .ok (.invokevirtual 75, 3) := by decide +kernel
theorem dL_nearest_9 : decode cL_nearest 9 = .ok (.lastore, 1) := by decide +kernel
theorem dL_nearest_10 : decode cL_nearest 10 = .ok (.goto 7, 3) := by decide +kernel
theorem dL_nearest_13 : decode cL_nearest 13 = .ok (.astore 5, 2) := by decide +kernel
theorem dL_nearest_15 : decode cL_nearest 15 = .ok (.iconst 1, 1) := by decide +kernel
theorem dL_nearest_16 : decode cL_nearest 16 = .ok (.ireturn, 1) := by decide +kernel
theorem dL_nearest_17 : decode cL_nearest 17 = .ok (.iconst 0, 1) := by decide +kernel
theorem dL_nearest_18 : decode cL_nearest 18 = .ok (.ireturn, 1) := by decide +kernel
theorem dL_half_0 : decode cL_half 0 = .ok (.aload_n 2, 1) := by decide +kernel
theorem dL_half_1 : decode cL_half 1 = .ok (.iconst 0, 1) := by decide +kernel
theorem dL_half_2 : decode cL_half 2 = .ok (.aload_n 0, 1) := by decide +kernel
theorem dL_half_3 : decode cL_half 3 = .ok (.iload_n 1, 1) := by decide +kernel
theorem dL_half_4 : decode cL_half 4 = .ok (.invokevirtual 79, 3) := by decide +kernel
theorem dL_half_7 : decode cL_half 7 = .ok (.lastore, 1) := by decide +kernel
theorem dL_half_8 : decode cL_half 8 = .ok (.goto 6, 3) := by decide +kernel
theorem dL_half_11 : decode cL_half 11 = .ok (.astore_n 3, 1) := by decide +kernel
theorem dL_half_12 : decode cL_half 12 = .ok (.iconst 1, 1) := by decide +kernel
theorem dL_half_13 : decode cL_half 13 = .ok (.ireturn, 1) := by decide +kernel
theorem dL_half_14 : decode cL_half 14 = .ok (.iconst 0, 1) := by decide +kernel
theorem dL_half_15 : decode cL_half 15 = .ok (.ireturn, 1) := by decide +kernel
theorem dL_fewest_0 : decode cL_fewest 0 = .ok (.aload 4, 2) := by decide +kernel
theorem dL_fewest_2 : decode cL_fewest 2 = .ok (.iconst 0, 1) := by decide +kernel
theorem dL_fewest_3 : decode cL_fewest 3 = .ok (.aload_n 0, 1) := by decide +kernel
theorem dL_fewest_4 : decode cL_fewest 4 = .ok (.iload_n 1, 1) := by decide +kernel
theorem dL_fewest_5 : decode cL_fewest 5 = .ok (.lload_n 2, 1) := by decide +kernel
theorem dL_fewest_6 : decode cL_fewest 6 = .ok (.invokevirtual 82, 3) := by decide +kernel
theorem dL_fewest_9 : decode cL_fewest 9 = .ok (.i2l, 1) := by decide +kernel
theorem dL_fewest_10 : decode cL_fewest 10 = .ok (.lastore, 1) := by decide +kernel
theorem dL_fewest_11 : decode cL_fewest 11 = .ok (.goto 11, 3) := by decide +kernel
theorem dL_fewest_14 : decode cL_fewest 14 = .ok (.astore 5, 2) := by decide +kernel
theorem dL_fewest_16 : decode cL_fewest 16 = .ok (.iconst 1, 1) := by decide +kernel
theorem dL_fewest_17 : decode cL_fewest 17 = .ok (.ireturn, 1) := by decide +kernel
theorem dL_fewest_18 : decode cL_fewest 18 = .ok (.astore 5, 2) := by decide +kernel
theorem dL_fewest_20 : decode cL_fewest 20 = .ok (.iconst 2, 1) := by decide +kernel
theorem dL_fewest_21 : decode cL_fewest 21 = .ok (.ireturn, 1) := by decide +kernel
theorem dL_fewest_22 : decode cL_fewest 22 = .ok (.iconst 0, 1) := by decide +kernel
theorem dL_fewest_23 : decode cL_fewest 23 = .ok (.ireturn, 1) := by decide +kernel
theorem dL_together_0 : decode cL_together 0 = .ok (.aload 5, 2) := by decide +kernel
theorem dL_together_2 : decode cL_together 2 = .ok (.iconst 0, 1) := by decide +kernel
theorem dL_together_3 : decode cL_together 3 = .ok (.aload_n 0, 1) := by decide +kernel
theorem dL_together_4 : decode cL_together 4 = .ok (.iload_n 1, 1) := by decide +kernel
theorem dL_together_5 : decode cL_together 5 = .ok (.lload_n 2, 1) := by decide +kernel
theorem dL_together_6 : decode cL_together 6 = .ok (.iload 4, 2) := by decide +kernel
theorem dL_together_8 : decode cL_together 8 = .ok (.invokevirtual 86, 3) := by decide +kernel
theorem dL_together_11 : decode cL_together 11 = .ok (.i2l, 1) := by decide +kernel
theorem dL_together_12 : decode cL_together 12 = .ok (.lastore, 1) := by decide +kernel
theorem dL_together_13 : decode cL_together 13 = .ok (.goto 7, 3) := by decide +kernel
theorem dL_together_16 : decode cL_together 16 = .ok (.astore 6, 2) := by decide +kernel
theorem dL_together_18 : decode cL_together 18 = .ok (.iconst 1, 1) := by decide +kernel
theorem dL_together_19 : decode cL_together 19 = .ok (.ireturn, 1) := by decide +kernel
theorem dL_together_20 : decode cL_together 20 = .ok (.iconst 0, 1) := by decide +kernel
theorem dL_together_21 : decode cL_together 21 = .ok (.ireturn, 1) := by decide +kernel
theorem dL_between_0 : decode cL_between 0 = .ok (.aload 6, 2) := by decide +kernel
theorem dL_between_2 : decode cL_between 2 = .ok (.iconst 0, 1) := by decide +kernel
theorem dL_between_3 : decode cL_between 3 = .ok (.aload_n 0, 1) := by decide +kernel
theorem dL_between_4 : decode cL_between 4 = .ok (.iload_n 1, 1) := by decide +kernel
theorem dL_between_5 : decode cL_between 5 = .ok (.lload_n 2, 1) := by decide +kernel
theorem dL_between_6 : decode cL_between 6 = .ok (.lload 4, 2) := by decide +kernel
theorem dL_between_8 : decode cL_between 8 = .ok (.invokevirtual 90, 3) := by decide +kernel
theorem dL_between_11 : decode cL_between 11 = .ok (.i2l, 1) := by decide +kernel
theorem dL_between_12 : decode cL_between 12 = .ok (.lastore, 1) := by decide +kernel
theorem dL_between_13 : decode cL_between 13 = .ok (.goto 7, 3) := by decide +kernel
theorem dL_between_16 : decode cL_between 16 = .ok (.astore 7, 2) := by decide +kernel
theorem dL_between_18 : decode cL_between 18 = .ok (.iconst 1, 1) := by decide +kernel
theorem dL_between_19 : decode cL_between 19 = .ok (.ireturn, 1) := by decide +kernel
theorem dL_between_20 : decode cL_between 20 = .ok (.iconst 0, 1) := by decide +kernel
theorem dL_between_21 : decode cL_between 21 = .ok (.ireturn, 1) := by decide +kernel
theorem dL_dear_0 : decode cL_dear 0 = .ok (.aload_n 3, 1) := by decide +kernel
theorem dL_dear_1 : decode cL_dear 1 = .ok (.iconst 0, 1) := by decide +kernel
theorem dL_dear_2 : decode cL_dear 2 = .ok (.aload_n 0, 1) := by decide +kernel
theorem dL_dear_3 : decode cL_dear 3 = .ok (.iload_n 1, 1) := by decide +kernel
theorem dL_dear_4 : decode cL_dear 4 = .ok (.iload_n 2, 1) := by decide +kernel
theorem dL_dear_5 : decode cL_dear 5 = .ok (.invokevirtual 94, 3) := by decide +kernel
theorem dL_dear_8 : decode cL_dear 8 = .ok (.i2l, 1) := by decide +kernel
theorem dL_dear_9 : decode cL_dear 9 = .ok (.lastore, 1) := by decide +kernel
theorem dL_dear_10 : decode cL_dear 10 = .ok (.goto 11, 3) := by decide +kernel
theorem dL_dear_13 : decode cL_dear 13 = .ok (.astore 4, 2) := by decide +kernel
theorem dL_dear_15 : decode cL_dear 15 = .ok (.iconst 1, 1) := by decide +kernel
theorem dL_dear_16 : decode cL_dear 16 = .ok (.ireturn, 1) := by decide +kernel
theorem dL_dear_17 : decode cL_dear 17 = .ok (.astore 4, 2) := by decide +kernel
theorem dL_dear_19 : decode cL_dear 19 = .ok (.iconst 2, 1) := by decide +kernel
theorem dL_dear_20 : decode cL_dear 20 = .ok (.ireturn, 1) := by decide +kernel
theorem dL_dear_21 : decode cL_dear 21 = .ok (.iconst 0, 1) := by decide +kernel
theorem dL_dear_22 : decode cL_dear 22 = .ok (.ireturn, 1) := by decide +kernel
theorem dL_grows_0 : decode cL_grows 0 = .ok (.aload_n 3, 1) := by decide +kernel
theorem dL_grows_1 : decode cL_grows 1 = .ok (.iconst 0, 1) := by decide +kernel
theorem dL_grows_2 : decode cL_grows 2 = .ok (.aload_n 0, 1) := by decide +kernel
theorem dL_grows_3 : decode cL_grows 3 = .ok (.iload_n 1, 1) := by decide +kernel
theorem dL_grows_4 : decode cL_grows 4 = .ok (.iload_n 2, 1) := by decide +kernel
theorem dL_grows_5 : decode cL_grows 5 = .ok (.invokevirtual 97, 3) := by decide +kernel
theorem dL_grows_8 : decode cL_grows 8 = .ok (.lastore, 1) := by decide +kernel
theorem dL_grows_9 : decode cL_grows 9 = .ok (.goto 11, 3) := by decide +kernel
theorem dL_grows_12 : decode cL_grows 12 = .ok (.astore 4, 2) := by decide +kernel
theorem dL_grows_14 : decode cL_grows 14 = .ok (.iconst 1, 1) := by decide +kernel
theorem dL_grows_15 : decode cL_grows 15 = .ok (.ireturn, 1) := by decide +kernel
theorem dL_grows_16 : decode cL_grows 16 = .ok (.astore 4, 2) := by decide +kernel
theorem dL_grows_18 : decode cL_grows 18 = .ok (.iconst 2, 1) := by decide +kernel
theorem dL_grows_19 : decode cL_grows 19 = .ok (.ireturn, 1) := by decide +kernel
theorem dL_grows_20 : decode cL_grows 20 = .ok (.iconst 0, 1) := by decide +kernel
theorem dL_grows_21 : decode cL_grows 21 = .ok (.ireturn, 1) := by decide +kernel
theorem dL_swap_0 : decode cL_swap 0 = .ok (.aload 4, 2) := by decide +kernel
theorem dL_swap_2 : decode cL_swap 2 = .ok (.iconst 0, 1) := by decide +kernel
theorem dL_swap_3 : decode cL_swap 3 = .ok (.aload_n 0, 1) := by decide +kernel
theorem dL_swap_4 : decode cL_swap 4 = .ok (.iload_n 1, 1) := by decide +kernel
theorem dL_swap_5 : decode cL_swap 5 = .ok (.iload_n 2, 1) := by decide +kernel
theorem dL_swap_6 : decode cL_swap 6 = .ok (.iload_n 3, 1) := by decide +kernel
theorem dL_swap_7 : decode cL_swap 7 = .ok (.invokevirtual 100, 3) := by decide +kernel
theorem dL_swap_10 : decode cL_swap 10 = .ok (.lastore, 1) := by decide +kernel
theorem dL_swap_11 : decode cL_swap 11 = .ok (.goto 11, 3) := by decide +kernel
theorem dL_swap_14 : decode cL_swap 14 = .ok (.astore 5, 2) := by decide +kernel
theorem dL_swap_16 : decode cL_swap 16 = .ok (.iconst 1, 1) := by decide +kernel
theorem dL_swap_17 : decode cL_swap 17 = .ok (.ireturn, 1) := by decide +kernel
theorem dL_swap_18 : decode cL_swap 18 = .ok (.astore 5, 2) := by decide +kernel
theorem dL_swap_20 : decode cL_swap 20 = .ok (.iconst 2, 1) := by decide +kernel
theorem dL_swap_21 : decode cL_swap 21 = .ok (.ireturn, 1) := by decide +kernel
theorem dL_swap_22 : decode cL_swap 22 = .ok (.iconst 0, 1) := by decide +kernel
theorem dL_swap_23 : decode cL_swap 23 = .ok (.ireturn, 1) := by decide +kernel
theorem dL_common_0 : decode cL_common 0 = .ok (.aload_n 3, 1) := by decide +kernel
theorem dL_common_1 : decode cL_common 1 = .ok (.iconst 0, 1) := by decide +kernel
theorem dL_common_2 : decode cL_common 2 = .ok (.aload_n 0, 1) := by decide +kernel
theorem dL_common_3 : decode cL_common 3 = .ok (.iload_n 1, 1) := by decide +kernel
theorem dL_common_4 : decode cL_common 4 = .ok (.iload_n 2, 1) := by decide +kernel
theorem dL_common_5 : decode cL_common 5 = .ok (.invokevirtual 104, 3) := by decide +kernel
theorem dL_common_8 : decode cL_common 8 = .ok (.lastore, 1) := by decide +kernel
theorem dL_common_9 : decode cL_common 9 = .ok (.goto 7, 3) := by decide +kernel
theorem dL_common_12 : decode cL_common 12 = .ok (.astore 4, 2) := by decide +kernel
theorem dL_common_14 : decode cL_common 14 = .ok (.iconst 1, 1) := by decide +kernel
theorem dL_common_15 : decode cL_common 15 = .ok (.ireturn, 1) := by decide +kernel
theorem dL_common_16 : decode cL_common 16 = .ok (.iconst 0, 1) := by decide +kernel
theorem dL_common_17 : decode cL_common 17 = .ok (.ireturn, 1) := by decide +kernel
theorem dL_least_0 : decode cL_least 0 = .ok (.aload_n 3, 1) := by decide +kernel
theorem dL_least_1 : decode cL_least 1 = .ok (.iconst 0, 1) := by decide +kernel
theorem dL_least_2 : decode cL_least 2 = .ok (.aload_n 0, 1) := by decide +kernel
theorem dL_least_3 : decode cL_least 3 = .ok (.iload_n 1, 1) := by decide +kernel
theorem dL_least_4 : decode cL_least 4 = .ok (.iload_n 2, 1) := by decide +kernel
theorem dL_least_5 : decode cL_least 5 = .ok (.invokevirtual 107, 3) := by decide +kernel
theorem dL_least_8 : decode cL_least 8 = .ok (.i2l, 1) := by decide +kernel
theorem dL_least_9 : decode cL_least 9 = .ok (.lastore, 1) := by decide +kernel
theorem dL_least_10 : decode cL_least 10 = .ok (.goto 7, 3) := by decide +kernel
theorem dL_least_13 : decode cL_least 13 = .ok (.astore 4, 2) := by decide +kernel
theorem dL_least_15 : decode cL_least 15 = .ok (.iconst 1, 1) := by decide +kernel
theorem dL_least_16 : decode cL_least 16 = .ok (.ireturn, 1) := by decide +kernel
theorem dL_least_17 : decode cL_least 17 = .ok (.iconst 0, 1) := by decide +kernel
theorem dL_least_18 : decode cL_least 18 = .ok (.ireturn, 1) := by decide +kernel
theorem dL_stolen_0 : decode cL_stolen 0 = .ok (.aload 6, 2) := by decide +kernel
theorem dL_stolen_2 : decode cL_stolen 2 = .ok (.iconst 0, 1) := by decide +kernel
theorem dL_stolen_3 : decode cL_stolen 3 = .ok (.aload_n 0, 1) := by decide +kernel
theorem dL_stolen_4 : decode cL_stolen 4 = .ok (.iload_n 1, 1) := by decide +kernel
theorem dL_stolen_5 : decode cL_stolen 5 = .ok (.lload_n 2, 1) := by decide +kernel
theorem dL_stolen_6 : decode cL_stolen 6 = .ok (.lload 4, 2) := by decide +kernel
theorem dL_stolen_8 : decode cL_stolen 8 = .ok (.invokevirtual 110, 3) := by decide +kernel
theorem dL_stolen_11 : decode cL_stolen 11 = .ok (.i2l, 1) := by decide +kernel
theorem dL_stolen_12 : decode cL_stolen 12 = .ok (.lastore, 1) := by decide +kernel
theorem dL_stolen_13 : decode cL_stolen 13 = .ok (.goto 11, 3) := by decide +kernel
theorem dL_stolen_16 : decode cL_stolen 16 = .ok (.astore 7, 2) := by decide +kernel
theorem dL_stolen_18 : decode cL_stolen 18 = .ok (.iconst 1, 1) := by decide +kernel
theorem dL_stolen_19 : decode cL_stolen 19 = .ok (.ireturn, 1) := by decide +kernel
theorem dL_stolen_20 : decode cL_stolen 20 = .ok (.astore 7, 2) := by decide +kernel
theorem dL_stolen_22 : decode cL_stolen 22 = .ok (.iconst 2, 1) := by decide +kernel
theorem dL_stolen_23 : decode cL_stolen 23 = .ok (.ireturn, 1) := by decide +kernel
theorem dL_stolen_24 : decode cL_stolen 24 = .ok (.iconst 0, 1) := by decide +kernel
theorem dL_stolen_25 : decode cL_stolen 25 = .ok (.ireturn, 1) := by decide +kernel
theorem dL_fitting_0 : decode cL_fitting 0 = .ok (.aload 4, 2) := by decide +kernel
theorem dL_fitting_2 : decode cL_fitting 2 = .ok (.iconst 0, 1) := by decide +kernel
theorem dL_fitting_3 : decode cL_fitting 3 = .ok (.aload_n 0, 1) := by decide +kernel
theorem dL_fitting_4 : decode cL_fitting 4 = .ok (.iload_n 1, 1) := by decide +kernel
theorem dL_fitting_5 : decode cL_fitting 5 = .ok (.iload_n 2, 1) := by decide +kernel
theorem dL_fitting_6 : decode cL_fitting 6 = .ok (.iload_n 3, 1) := by decide +kernel
theorem dL_fitting_7 : decode cL_fitting 7 = .ok (.invokevirtual 113, 3) := by decide +kernel
theorem dL_fitting_10 : decode cL_fitting 10 = .ok (.lastore, 1) := by decide +kernel
theorem dL_fitting_11 : decode cL_fitting 11 = .ok (.goto 15, 3) := by decide +kernel
theorem dL_fitting_14 : decode cL_fitting 14 = .ok (.astore 5, 2) := by decide +kernel
theorem dL_fitting_16 : decode cL_fitting 16 = .ok (.iconst 1, 1) := by decide +kernel
theorem dL_fitting_17 : decode cL_fitting 17 = .ok (.ireturn, 1) := by decide +kernel
theorem dL_fitting_18 : decode cL_fitting 18 = .ok (.astore 5, 2) := by decide +kernel
theorem dL_fitting_20 : decode cL_fitting 20 = .ok (.iconst 2, 1) := by decide +kernel
theorem dL_fitting_21 : decode cL_fitting 21 = .ok (.ireturn, 1) := by decide +kernel
theorem dL_fitting_22 : decode cL_fitting 22 = .ok (.astore 5, 2) := by decide +kernel
theorem dL_fitting_24 : decode cL_fitting 24 = .ok (.iconst 3, 1) := by decide +kernel
theorem dL_fitting_25 : decode cL_fitting 25 = .ok (.ireturn, 1) := by decide +kernel
theorem dL_fitting_26 : decode cL_fitting 26 = .ok (.iconst 0, 1) := by decide +kernel
theorem dL_fitting_27 : decode cL_fitting 27 = .ok (.ireturn, 1) := by decide +kernel
theorem dL_trial_0 : decode cL_trial 0 = .ok (.aload_n 3, 1) := by decide +kernel
theorem dL_trial_1 : decode cL_trial 1 = .ok (.iconst 0, 1) := by decide +kernel
theorem dL_trial_2 : decode cL_trial 2 = .ok (.aload_n 0, 1) := by decide +kernel
theorem dL_trial_3 : decode cL_trial 3 = .ok (.iload_n 1, 1) := by decide +kernel
theorem dL_trial_4 : decode cL_trial 4 = .ok (.iload_n 2, 1) := by decide +kernel
theorem dL_trial_5 : decode cL_trial 5 = .ok (.invokevirtual 116, 3) := by decide +kernel
theorem dL_trial_8 : decode cL_trial 8 = .ok (.i2l, 1) := by decide +kernel
theorem dL_trial_9 : decode cL_trial 9 = .ok (.lastore, 1) := by decide +kernel
theorem dL_trial_10 : decode cL_trial 10 = .ok (.goto 7, 3) := by decide +kernel
theorem dL_trial_13 : decode cL_trial 13 = .ok (.astore 4, 2) := by decide +kernel
theorem dL_trial_15 : decode cL_trial 15 = .ok (.iconst 1, 1) := by decide +kernel
theorem dL_trial_16 : decode cL_trial 16 = .ok (.ireturn, 1) := by decide +kernel
theorem dL_trial_17 : decode cL_trial 17 = .ok (.iconst 0, 1) := by decide +kernel
theorem dL_trial_18 : decode cL_trial 18 = .ok (.ireturn, 1) := by decide +kernel
theorem dL_squares_0 : decode cL_squares 0 = .ok (.aload_n 3, 1) := by decide +kernel
theorem dL_squares_1 : decode cL_squares 1 = .ok (.iconst 0, 1) := by decide +kernel
theorem dL_squares_2 : decode cL_squares 2 = .ok (.aload_n 0, 1) := by decide +kernel
theorem dL_squares_3 : decode cL_squares 3 = .ok (.iload_n 1, 1) := by decide +kernel
theorem dL_squares_4 : decode cL_squares 4 = .ok (.iload_n 2, 1) := by decide +kernel
theorem dL_squares_5 : decode cL_squares 5 = .ok (.invokevirtual 119, 3) := by decide +kernel
theorem dL_squares_8 : decode cL_squares 8 = .ok (.i2l, 1) := by decide +kernel
theorem dL_squares_9 : decode cL_squares 9 = .ok (.lastore, 1) := by decide +kernel
theorem dL_squares_10 : decode cL_squares 10 = .ok (.goto 7, 3) := by decide +kernel
theorem dL_squares_13 : decode cL_squares 13 = .ok (.astore 4, 2) := by decide +kernel
theorem dL_squares_15 : decode cL_squares 15 = .ok (.iconst 1, 1) := by decide +kernel
theorem dL_squares_16 : decode cL_squares 16 = .ok (.ireturn, 1) := by decide +kernel
theorem dL_squares_17 : decode cL_squares 17 = .ok (.iconst 0, 1) := by decide +kernel
theorem dL_squares_18 : decode cL_squares 18 = .ok (.ireturn, 1) := by decide +kernel
theorem dL_rounds_0 : decode cL_rounds 0 = .ok (.aload 4, 2) := by decide +kernel
theorem dL_rounds_2 : decode cL_rounds 2 = .ok (.iconst 0, 1) := by decide +kernel
theorem dL_rounds_3 : decode cL_rounds 3 = .ok (.aload_n 0, 1) := by decide +kernel
theorem dL_rounds_4 : decode cL_rounds 4 = .ok (.iload_n 1, 1) := by decide +kernel
theorem dL_rounds_5 : decode cL_rounds 5 = .ok (.iload_n 2, 1) := by decide +kernel
theorem dL_rounds_6 : decode cL_rounds 6 = .ok (.iload_n 3, 1) := by decide +kernel
theorem dL_rounds_7 : decode cL_rounds 7 = .ok (.invokevirtual 122, 3) := by decide +kernel
theorem dL_rounds_10 : decode cL_rounds 10 = .ok (.i2l, 1) := by decide +kernel
theorem dL_rounds_11 : decode cL_rounds 11 = .ok (.lastore, 1) := by decide +kernel
theorem dL_rounds_12 : decode cL_rounds 12 = .ok (.goto 7, 3) := by decide +kernel
theorem dL_rounds_15 : decode cL_rounds 15 = .ok (.astore 5, 2) := by decide +kernel
theorem dL_rounds_17 : decode cL_rounds 17 = .ok (.iconst 1, 1) := by decide +kernel
theorem dL_rounds_18 : decode cL_rounds 18 = .ok (.ireturn, 1) := by decide +kernel
theorem dL_rounds_19 : decode cL_rounds 19 = .ok (.iconst 0, 1) := by decide +kernel
theorem dL_rounds_20 : decode cL_rounds 20 = .ok (.ireturn, 1) := by decide +kernel
theorem dL_factor_0 : decode cL_factor 0 = .ok (.aload_n 3, 1) := by decide +kernel
theorem dL_factor_1 : decode cL_factor 1 = .ok (.iconst 0, 1) := by decide +kernel
theorem dL_factor_2 : decode cL_factor 2 = .ok (.aload_n 0, 1) := by decide +kernel
theorem dL_factor_3 : decode cL_factor 3 = .ok (.iload_n 1, 1) := by decide +kernel
theorem dL_factor_4 : decode cL_factor 4 = .ok (.iload_n 2, 1) := by decide +kernel
theorem dL_factor_5 : decode cL_factor 5 = .ok (.invokevirtual 126, 3) := by decide +kernel
theorem dL_factor_8 : decode cL_factor 8 = .ok (.i2l, 1) := by decide +kernel
theorem dL_factor_9 : decode cL_factor 9 = .ok (.lastore, 1) := by decide +kernel
theorem dL_factor_10 : decode cL_factor 10 = .ok (.goto 7, 3) := by decide +kernel
theorem dL_factor_13 : decode cL_factor 13 = .ok (.astore 4, 2) := by decide +kernel
theorem dL_factor_15 : decode cL_factor 15 = .ok (.iconst 1, 1) := by decide +kernel
theorem dL_factor_16 : decode cL_factor 16 = .ok (.ireturn, 1) := by decide +kernel
theorem dL_factor_17 : decode cL_factor 17 = .ok (.iconst 0, 1) := by decide +kernel
theorem dL_factor_18 : decode cL_factor 18 = .ok (.ireturn, 1) := by decide +kernel
theorem dL_smooth_0 : decode cL_smooth 0 = .ok (.aload_n 3, 1) := by decide +kernel
theorem dL_smooth_1 : decode cL_smooth 1 = .ok (.iconst 0, 1) := by decide +kernel
theorem dL_smooth_2 : decode cL_smooth 2 = .ok (.aload_n 0, 1) := by decide +kernel
theorem dL_smooth_3 : decode cL_smooth 3 = .ok (.iload_n 1, 1) := by decide +kernel
theorem dL_smooth_4 : decode cL_smooth 4 = .ok (.iload_n 2, 1) := by decide +kernel
theorem dL_smooth_5 : decode cL_smooth 5 = .ok (.invokevirtual 129, 3) := by decide +kernel
theorem dL_smooth_8 : decode cL_smooth 8 = .ok (.i2l, 1) := by decide +kernel
theorem dL_smooth_9 : decode cL_smooth 9 = .ok (.lastore, 1) := by decide +kernel
theorem dL_smooth_10 : decode cL_smooth 10 = .ok (.goto 7, 3) := by decide +kernel
theorem dL_smooth_13 : decode cL_smooth 13 = .ok (.astore 4, 2) := by decide +kernel
theorem dL_smooth_15 : decode cL_smooth 15 = .ok (.iconst 1, 1) := by decide +kernel
theorem dL_smooth_16 : decode cL_smooth 16 = .ok (.ireturn, 1) := by decide +kernel
theorem dL_smooth_17 : decode cL_smooth 17 = .ok (.iconst 0, 1) := by decide +kernel
theorem dL_smooth_18 : decode cL_smooth 18 = .ok (.ireturn, 1) := by decide +kernel
theorem dL_primesTo_0 : decode cL_primesTo 0 = .ok (.aload_n 2, 1) := by decide +kernel
theorem dL_primesTo_1 : decode cL_primesTo 1 = .ok (.iconst 0, 1) := by decide +kernel
theorem dL_primesTo_2 : decode cL_primesTo 2 = .ok (.aload_n 0, 1) := by decide +kernel
theorem dL_primesTo_3 : decode cL_primesTo 3 = .ok (.iload_n 1, 1) := by decide +kernel
theorem dL_primesTo_4 : decode cL_primesTo 4 = .ok (.invokevirtual 132, 3) := by decide +kernel
theorem dL_primesTo_7 : decode cL_primesTo 7 = .ok (.i2l, 1) := by decide +kernel
theorem dL_primesTo_8 : decode cL_primesTo 8 = .ok (.lastore, 1) := by decide +kernel
theorem dL_primesTo_9 : decode cL_primesTo 9 = .ok (.goto 6, 3) := by decide +kernel
theorem dL_primesTo_12 : decode cL_primesTo 12 = .ok (.astore_n 3, 1) := by decide +kernel
theorem dL_primesTo_13 : decode cL_primesTo 13 = .ok (.iconst 1, 1) := by decide +kernel
theorem dL_primesTo_14 : decode cL_primesTo 14 = .ok (.ireturn, 1) := by decide +kernel
theorem dL_primesTo_15 : decode cL_primesTo 15 = .ok (.iconst 0, 1) := by decide +kernel
theorem dL_primesTo_16 : decode cL_primesTo 16 = .ok (.ireturn, 1) := by decide +kernel
theorem dL_witness_0 : decode cL_witness 0 = .ok (.aload_n 2, 1) := by decide +kernel
theorem dL_witness_1 : decode cL_witness 1 = .ok (.iconst 0, 1) := by decide +kernel
theorem dL_witness_2 : decode cL_witness 2 = .ok (.aload_n 0, 1) := by decide +kernel
theorem dL_witness_3 : decode cL_witness 3 = .ok (.iload_n 1, 1) := by decide +kernel
theorem dL_witness_4 : decode cL_witness 4 = .ok (.invokevirtual 135, 3) := by decide +kernel
theorem dL_witness_7 : decode cL_witness 7 = .ok (.i2l, 1) := by decide +kernel
theorem dL_witness_8 : decode cL_witness 8 = .ok (.lastore, 1) := by decide +kernel
theorem dL_witness_9 : decode cL_witness 9 = .ok (.goto 6, 3) := by decide +kernel
theorem dL_witness_12 : decode cL_witness 12 = .ok (.astore_n 3, 1) := by decide +kernel
theorem dL_witness_13 : decode cL_witness 13 = .ok (.iconst 1, 1) := by decide +kernel
theorem dL_witness_14 : decode cL_witness 14 = .ok (.ireturn, 1) := by decide +kernel
theorem dL_witness_15 : decode cL_witness 15 = .ok (.iconst 0, 1) := by decide +kernel
theorem dL_witness_16 : decode cL_witness 16 = .ok (.ireturn, 1) := by decide +kernel
theorem dL_order_0 : decode cL_order 0 = .ok (.aload_n 3, 1) := by decide +kernel
theorem dL_order_1 : decode cL_order 1 = .ok (.iconst 0, 1) := by decide +kernel
theorem dL_order_2 : decode cL_order 2 = .ok (.aload_n 0, 1) := by decide +kernel
theorem dL_order_3 : decode cL_order 3 = .ok (.iload_n 1, 1) := by decide +kernel
theorem dL_order_4 : decode cL_order 4 = .ok (.iload_n 2, 1) := by decide +kernel
theorem dL_order_5 : decode cL_order 5 = .ok (.invokevirtual 138, 3) := by decide +kernel
theorem dL_order_8 : decode cL_order 8 = .ok (.i2l, 1) := by decide +kernel
theorem dL_order_9 : decode cL_order 9 = .ok (.lastore, 1) := by decide +kernel
theorem dL_order_10 : decode cL_order 10 = .ok (.goto 7, 3) := by decide +kernel
theorem dL_order_13 : decode cL_order 13 = .ok (.astore 4, 2) := by decide +kernel
theorem dL_order_15 : decode cL_order 15 = .ok (.iconst 1, 1) := by decide +kernel
theorem dL_order_16 : decode cL_order 16 = .ok (.ireturn, 1) := by decide +kernel
theorem dL_order_17 : decode cL_order 17 = .ok (.iconst 0, 1) := by decide +kernel
theorem dL_order_18 : decode cL_order 18 = .ok (.ireturn, 1) := by decide +kernel
theorem dL_owe_0 : decode cL_owe 0 = .ok (.aload 5, 2) := by decide +kernel
theorem dL_owe_2 : decode cL_owe 2 = .ok (.iconst 0, 1) := by decide +kernel
theorem dL_owe_3 : decode cL_owe 3 = .ok (.aload_n 0, 1) := by decide +kernel
theorem dL_owe_4 : decode cL_owe 4 = .ok (.iload_n 1, 1) := by decide +kernel
theorem dL_owe_5 : decode cL_owe 5 = .ok (.iload_n 2, 1) := by decide +kernel
theorem dL_owe_6 : decode cL_owe 6 = .ok (.lload_n 3, 1) := by decide +kernel
theorem dL_owe_7 : decode cL_owe 7 = .ok (.invokevirtual 141, 3) := by decide +kernel
theorem dL_owe_10 : decode cL_owe 10 = .ok (.lastore, 1) := by decide +kernel
theorem dL_owe_11 : decode cL_owe 11 = .ok (.goto 15, 3) := by decide +kernel
theorem dL_owe_14 : decode cL_owe 14 = .ok (.astore 6, 2) := by decide +kernel
theorem dL_owe_16 : decode cL_owe 16 = .ok (.iconst 1, 1) := by decide +kernel
theorem dL_owe_17 : decode cL_owe 17 = .ok (.ireturn, 1) := by decide +kernel
theorem dL_owe_18 : decode cL_owe 18 = .ok (.astore 6, 2) := by decide +kernel
theorem dL_owe_20 : decode cL_owe 20 = .ok (.iconst 2, 1) := by decide +kernel
theorem dL_owe_21 : decode cL_owe 21 = .ok (.ireturn, 1) := by decide +kernel
theorem dL_owe_22 : decode cL_owe 22 = .ok (.astore 6, 2) := by decide +kernel
theorem dL_owe_24 : decode cL_owe 24 = .ok (.iconst 3, 1) := by decide +kernel
theorem dL_owe_25 : decode cL_owe 25 = .ok (.ireturn, 1) := by decide +kernel
theorem dL_owe_26 : decode cL_owe 26 = .ok (.iconst 0, 1) := by decide +kernel
theorem dL_owe_27 : decode cL_owe 27 = .ok (.ireturn, 1) := by decide +kernel
theorem dL_owed_0 : decode cL_owed 0 = .ok (.aload_n 3, 1) := by decide +kernel
theorem dL_owed_1 : decode cL_owed 1 = .ok (.iconst 0, 1) := by decide +kernel
theorem dL_owed_2 : decode cL_owed 2 = .ok (.aload_n 0, 1) := by decide +kernel
theorem dL_owed_3 : decode cL_owed 3 = .ok (.iload_n 1, 1) := by decide +kernel
theorem dL_owed_4 : decode cL_owed 4 = .ok (.iload_n 2, 1) := by decide +kernel
theorem dL_owed_5 : decode cL_owed 5 = .ok (.invokevirtual 145, 3) := by decide +kernel
theorem dL_owed_8 : decode cL_owed 8 = .ok (.lastore, 1) := by decide +kernel
theorem dL_owed_9 : decode cL_owed 9 = .ok (.goto 7, 3) := by decide +kernel
theorem dL_owed_12 : decode cL_owed 12 = .ok (.astore 4, 2) := by decide +kernel
theorem dL_owed_14 : decode cL_owed 14 = .ok (.iconst 1, 1) := by decide +kernel
theorem dL_owed_15 : decode cL_owed 15 = .ok (.ireturn, 1) := by decide +kernel
theorem dL_owed_16 : decode cL_owed 16 = .ok (.iconst 0, 1) := by decide +kernel
theorem dL_owed_17 : decode cL_owed 17 = .ok (.ireturn, 1) := by decide +kernel
theorem dL_tray_0 : decode cL_tray 0 = .ok (.aload_n 0, 1) := by decide +kernel
theorem dL_tray_1 : decode cL_tray 1 = .ok (.iload_n 1, 1) := by decide +kernel
theorem dL_tray_2 : decode cL_tray 2 = .ok (.iload_n 2, 1) := by decide +kernel
theorem dL_tray_3 : decode cL_tray 3 = .ok (.iload_n 3, 1) := by decide +kernel
theorem dL_tray_4 : decode cL_tray 4 = .ok (.invokevirtual 148, 3) := by decide +kernel
theorem dL_tray_7 : decode cL_tray 7 = .ok (.goto 11, 3) := by decide +kernel
theorem dL_tray_10 : decode cL_tray 10 = .ok (.astore 4, 2) := by decide +kernel
theorem dL_tray_12 : decode cL_tray 12 = .ok (.iconst 1, 1) := by decide +kernel
theorem dL_tray_13 : decode cL_tray 13 = .ok (.ireturn, 1) := by decide +kernel
theorem dL_tray_14 : decode cL_tray 14 = .ok (.astore 4, 2) := by decide +kernel
theorem dL_tray_16 : decode cL_tray 16 = .ok (.iconst 2, 1) := by decide +kernel
theorem dL_tray_17 : decode cL_tray 17 = .ok (.ireturn, 1) := by decide +kernel
theorem dL_tray_18 : decode cL_tray 18 = .ok (.iconst 0, 1) := by decide +kernel
theorem dL_tray_19 : decode cL_tray 19 = .ok (.ireturn, 1) := by decide +kernel
theorem dL_write_0 : decode cL_write 0 = .ok (.aload 5, 2) := by decide +kernel
theorem dL_write_2 : decode cL_write 2 = .ok (.iconst 0, 1) := by decide +kernel
theorem dL_write_3 : decode cL_write 3 = .ok (.aload_n 0, 1) := by decide +kernel
theorem dL_write_4 : decode cL_write 4 = .ok (.iload_n 1, 1) := by decide +kernel
theorem dL_write_5 : decode cL_write 5 = .ok (.iload_n 2, 1) := by decide +kernel
theorem dL_write_6 : decode cL_write 6 = .ok (.lload_n 3, 1) := by decide +kernel
theorem dL_write_7 : decode cL_write 7 = .ok (.invokevirtual 152, 3) := by decide +kernel
theorem dL_write_10 : decode cL_write 10 = .ok (.lastore, 1) := by decide +kernel
theorem dL_write_11 : decode cL_write 11 = .ok (.goto 15, 3) := by decide +kernel
theorem dL_write_14 : decode cL_write 14 = .ok (.astore 6, 2) := by decide +kernel
theorem dL_write_16 : decode cL_write 16 = .ok (.iconst 1, 1) := by decide +kernel
theorem dL_write_17 : decode cL_write 17 = .ok (.ireturn, 1) := by decide +kernel
theorem dL_write_18 : decode cL_write 18 = .ok (.astore 6, 2) := by decide +kernel
theorem dL_write_20 : decode cL_write 20 = .ok (.iconst 2, 1) := by decide +kernel
theorem dL_write_21 : decode cL_write 21 = .ok (.ireturn, 1) := by decide +kernel
theorem dL_write_22 : decode cL_write 22 = .ok (.astore 6, 2) := by decide +kernel
theorem dL_write_24 : decode cL_write 24 = .ok (.iconst 3, 1) := by decide +kernel
theorem dL_write_25 : decode cL_write 25 = .ok (.ireturn, 1) := by decide +kernel
theorem dL_write_26 : decode cL_write 26 = .ok (.iconst 0, 1) := by decide +kernel
theorem dL_write_27 : decode cL_write 27 = .ok (.ireturn, 1) := by decide +kernel
theorem dL_pour_0 : decode cL_pour 0 = .ok (.aload_n 2, 1) := by decide +kernel
theorem dL_pour_1 : decode cL_pour 1 = .ok (.iconst 0, 1) := by decide +kernel
theorem dL_pour_2 : decode cL_pour 2 = .ok (.aload_n 0, 1) := by decide +kernel
theorem dL_pour_3 : decode cL_pour 3 = .ok (.iload_n 1, 1) := by decide +kernel
theorem dL_pour_4 : decode cL_pour 4 = .ok (.invokevirtual 157, 3) := by decide +kernel
theorem dL_pour_7 : decode cL_pour 7 = .ok (.i2l, 1) := by decide +kernel
theorem dL_pour_8 : decode cL_pour 8 = .ok (.lastore, 1) := by decide +kernel
theorem dL_pour_9 : decode cL_pour 9 = .ok (.goto 9, 3) := by decide +kernel
theorem dL_pour_12 : decode cL_pour 12 = .ok (.astore_n 3, 1) := by decide +kernel
theorem dL_pour_13 : decode cL_pour 13 = .ok (.iconst 1, 1) := by decide +kernel
theorem dL_pour_14 : decode cL_pour 14 = .ok (.ireturn, 1) := by decide +kernel
theorem dL_pour_15 : decode cL_pour 15 = .ok (.astore_n 3, 1) := by decide +kernel
theorem dL_pour_16 : decode cL_pour 16 = .ok (.iconst 2, 1) := by decide +kernel
theorem dL_pour_17 : decode cL_pour 17 = .ok (.ireturn, 1) := by decide +kernel
theorem dL_pour_18 : decode cL_pour 18 = .ok (.iconst 0, 1) := by decide +kernel
theorem dL_pour_19 : decode cL_pour 19 = .ok (.ireturn, 1) := by decide +kernel
theorem dL_image_0 : decode cL_image 0 = .ok (.aload_n 0, 1) := by decide +kernel
theorem dL_image_1 : decode cL_image 1 = .ok (.iload_n 1, 1) := by decide +kernel
theorem dL_image_2 : decode cL_image 2 = .ok (.invokevirtual 160, 3) := by decide +kernel
theorem dL_image_5 : decode cL_image 5 = .ok (.goto 6, 3) := by decide +kernel
theorem dL_image_8 : decode cL_image 8 = .ok (.astore_n 2, 1) := by decide +kernel
theorem dL_image_9 : decode cL_image 9 = .ok (.iconst 1, 1) := by decide +kernel
theorem dL_image_10 : decode cL_image 10 = .ok (.ireturn, 1) := by decide +kernel
theorem dL_image_11 : decode cL_image 11 = .ok (.iconst 0, 1) := by decide +kernel
theorem dL_image_12 : decode cL_image 12 = .ok (.ireturn, 1) := by decide +kernel
theorem dL_restore_0 : decode cL_restore 0 = .ok (.aload_n 0, 1) := by decide +kernel
theorem dL_restore_1 : decode cL_restore 1 = .ok (.iload_n 1, 1) := by decide +kernel
theorem dL_restore_2 : decode cL_restore 2 = .ok (.invokevirtual 164, 3) := by decide +kernel
theorem dL_restore_5 : decode cL_restore 5 = .ok (.goto 9, 3) := by decide +kernel
theorem dL_restore_8 : decode cL_restore 8 = .ok (.astore_n 2, 1) := by decide +kernel
theorem dL_restore_9 : decode cL_restore 9 = .ok (.iconst 1, 1) := by decide +kernel
theorem dL_restore_10 : decode cL_restore 10 = .ok (.ireturn, 1) := by decide +kernel
theorem dL_restore_11 : decode cL_restore 11 = .ok (.astore_n 2, 1) := by decide +kernel
theorem dL_restore_12 : decode cL_restore 12 = .ok (.iconst 2, 1) := by decide +kernel
theorem dL_restore_13 : decode cL_restore 13 = .ok (.ireturn, 1) := by decide +kernel
theorem dL_restore_14 : decode cL_restore 14 = .ok (.iconst 0, 1) := by decide +kernel
theorem dL_restore_15 : decode cL_restore 15 = .ok (.ireturn, 1) := by decide +kernel
