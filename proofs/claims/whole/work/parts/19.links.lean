theorem fl_0_11 : look (FLt 0) 11 = some (0, 0) := rfl
theorem fl_0_21 : look (FLt 0) 21 = some (7, 1) := rfl
theorem fl_1_9 : look (FLt 1) 9 = some (1, 0) := rfl
theorem fl_2_7 : look (FLt 2) 7 = some (2, 0) := rfl
theorem fl_4_9 : look (FLt 4) 9 = some (3, 0) := rfl
theorem fl_4_15 : look (FLt 4) 15 = some (3, 1) := rfl
theorem fl_4_19 : look (FLt 4) 19 = some (3, 2) := rfl
theorem fl_4_24 : look (FLt 4) 24 = some (7, 1) := rfl
theorem fl_5_9 : look (FLt 5) 9 = some (4, 0) := rfl
theorem fl_5_15 : look (FLt 5) 15 = some (4, 1) := rfl
theorem fl_5_21 : look (FLt 5) 21 = some (4, 2) := rfl
theorem fl_5_28 : look (FLt 5) 28 = some (4, 3) := rfl
theorem fl_5_32 : look (FLt 5) 32 = some (4, 4) := rfl
theorem fl_5_77 : look (FLt 5) 77 = some (7, 1) := rfl
theorem fl_5_87 : look (FLt 5) 87 = some (7, 0) := rfl
theorem fl_5_90 : look (FLt 5) 90 = some (7, 2) := rfl
theorem fl_5_106 : look (FLt 5) 106 = some (7, 3) := rfl
theorem fl_6_9 : look (FLt 6) 9 = some (5, 0) := rfl
theorem fl_6_15 : look (FLt 6) 15 = some (5, 1) := rfl
theorem fl_6_18 : look (FLt 6) 18 = some (5, 2) := rfl
theorem fl_6_21 : look (FLt 6) 21 = some (5, 3) := rfl
theorem fl_6_25 : look (FLt 6) 25 = some (5, 4) := rfl
theorem fl_6_29 : look (FLt 6) 29 = some (5, 5) := rfl
theorem fl_6_32 : look (FLt 6) 32 = some (5, 6) := rfl
theorem fl_6_35 : look (FLt 6) 35 = some (5, 7) := rfl
theorem fl_6_44 : look (FLt 6) 44 = some (7, 3) := rfl
theorem fl_6_72 : look (FLt 6) 72 = some (7, 1) := rfl
theorem fl_7_9 : look (FLt 7) 9 = some (6, 0) := rfl
theorem fl_7_15 : look (FLt 7) 15 = some (6, 1) := rfl
theorem fl_7_18 : look (FLt 7) 18 = some (6, 2) := rfl
theorem fl_7_21 : look (FLt 7) 21 = some (6, 3) := rfl
theorem fl_7_24 : look (FLt 7) 24 = some (6, 4) := rfl
theorem fl_7_28 : look (FLt 7) 28 = some (6, 5) := rfl
theorem fl_7_31 : look (FLt 7) 31 = some (6, 6) := rfl
theorem fl_8_9 : look (FLt 8) 9 = some (7, 0) := rfl
theorem fl_8_15 : look (FLt 8) 15 = some (7, 1) := rfl
theorem fl_8_18 : look (FLt 8) 18 = some (7, 2) := rfl
theorem fl_8_21 : look (FLt 8) 21 = some (7, 3) := rfl
theorem fl_8_27 : look (FLt 8) 27 = some (7, 4) := rfl
theorem fl_8_31 : look (FLt 8) 31 = some (7, 5) := rfl
theorem fl_8_35 : look (FLt 8) 35 = some (7, 6) := rfl
theorem fl_8_38 : look (FLt 8) 38 = some (7, 7) := rfl
theorem fl_8_41 : look (FLt 8) 41 = some (7, 8) := rfl
theorem fl_8_128 : look (FLt 8) 128 = some (8, 1) := rfl
theorem fl_9_9 : look (FLt 9) 9 = some (8, 0) := rfl
theorem fl_9_15 : look (FLt 9) 15 = some (8, 1) := rfl
theorem fl_9_18 : look (FLt 9) 18 = some (8, 2) := rfl
theorem fl_10_9 : look (FLt 10) 9 = some (9, 0) := rfl
theorem fl_10_13 : look (FLt 10) 13 = some (9, 1) := rfl
theorem fl_10_17 : look (FLt 10) 17 = some (9, 2) := rfl
theorem fl_10_20 : look (FLt 10) 20 = some (9, 3) := rfl
theorem fl_10_26 : look (FLt 10) 26 = some (9, 4) := rfl
theorem fl_10_30 : look (FLt 10) 30 = some (9, 5) := rfl
theorem fl_10_33 : look (FLt 10) 33 = some (9, 6) := rfl
theorem fl_10_37 : look (FLt 10) 37 = some (9, 7) := rfl
theorem fl_10_43 : look (FLt 10) 43 = some (9, 8) := rfl
theorem fl_10_47 : look (FLt 10) 47 = some (9, 9) := rfl
theorem fl_10_53 : look (FLt 10) 53 = some (9, 10) := rfl
theorem fl_10_60 : look (FLt 10) 60 = some (9, 11) := rfl
theorem fl_10_67 : look (FLt 10) 67 = some (9, 12) := rfl
theorem fl_10_74 : look (FLt 10) 74 = some (9, 13) := rfl
theorem fl_10_81 : look (FLt 10) 81 = some (9, 14) := rfl
theorem fl_10_101 : look (FLt 10) 101 = some (4, 0) := rfl
theorem fl_10_104 : look (FLt 10) 104 = some (4, 1) := rfl
theorem fl_10_107 : look (FLt 10) 107 = some (4, 2) := rfl
theorem fl_10_114 : look (FLt 10) 114 = some (7, 0) := rfl
theorem fl_10_117 : look (FLt 10) 117 = some (7, 1) := rfl
theorem fl_10_211 : look (FLt 10) 211 = some (7, 2) := rfl
theorem fl_10_216 : look (FLt 10) 216 = some (2, 0) := rfl
theorem fl_10_234 : look (FLt 10) 234 = some (8, 1) := rfl
theorem fl_10_250 : look (FLt 10) 250 = some (3, 0) := rfl
theorem fl_10_276 : look (FLt 10) 276 = some (5, 0) := rfl
theorem fl_10_305 : look (FLt 10) 305 = some (7, 3) := rfl
theorem fl_10_378 : look (FLt 10) 378 = some (7, 4) := rfl
theorem fl_10_461 : look (FLt 10) 461 = some (8, 0) := rfl
theorem fl_11_9 : look (FLt 11) 9 = some (10, 0) := rfl
theorem fl_11_13 : look (FLt 11) 13 = some (10, 1) := rfl
theorem fl_11_16 : look (FLt 11) 16 = some (10, 2) := rfl
theorem fl_11_19 : look (FLt 11) 19 = some (10, 3) := rfl
theorem fl_11_22 : look (FLt 11) 22 = some (10, 4) := rfl
theorem fl_11_26 : look (FLt 11) 26 = some (10, 6) := rfl
theorem fl_11_29 : look (FLt 11) 29 = some (10, 16) := rfl
theorem fl_11_33 : look (FLt 11) 33 = some (10, 17) := rfl
theorem fl_11_36 : look (FLt 11) 36 = some (10, 19) := rfl
theorem fl_11_40 : look (FLt 11) 40 = some (10, 21) := rfl
theorem fl_11_44 : look (FLt 11) 44 = some (10, 22) := rfl
theorem fl_11_47 : look (FLt 11) 47 = some (10, 26) := rfl
theorem fl_11_50 : look (FLt 11) 50 = some (10, 27) := rfl
theorem fl_11_53 : look (FLt 11) 53 = some (10, 28) := rfl
theorem fl_11_64 : look (FLt 11) 64 = some (10, 5) := rfl
theorem fl_11_67 : look (FLt 11) 67 = some (10, 7) := rfl
theorem fl_11_70 : look (FLt 11) 70 = some (10, 8) := rfl
theorem fl_11_73 : look (FLt 11) 73 = some (10, 9) := rfl
theorem fl_11_76 : look (FLt 11) 76 = some (10, 10) := rfl
theorem fl_11_79 : look (FLt 11) 79 = some (10, 11) := rfl
theorem fl_11_93 : look (FLt 11) 93 = some (10, 12) := rfl
theorem fl_11_96 : look (FLt 11) 96 = some (10, 13) := rfl
theorem fl_11_99 : look (FLt 11) 99 = some (10, 14) := rfl
theorem fl_11_187 : look (FLt 11) 187 = some (10, 15) := rfl
theorem fl_11_250 : look (FLt 11) 250 = some (10, 18) := rfl
theorem fl_11_280 : look (FLt 11) 280 = some (10, 20) := rfl
theorem fl_11_291 : look (FLt 11) 291 = some (10, 23) := rfl
theorem fl_11_337 : look (FLt 11) 337 = some (10, 24) := rfl
theorem fl_11_340 : look (FLt 11) 340 = some (10, 25) := rfl
theorem cl_0_15 : look (CLt 0) 15 = some (MJ7_fill_53178, true, 2) := rfl
theorem cl_0_26 : look (CLt 0) 26 = some (MX0_productOf, false, 2) := rfl
theorem cl_0_30 : look (CLt 0) 30 = some (MX9_allRestsOf, false, 1) := rfl
theorem cl_0_36 : look (CLt 0) 36 = some (MX0_nextRow, false, 2) := rfl
theorem cl_0_42 : look (CLt 0) 42 = some (MX8_primeOf, false, 1) := rfl
theorem cl_0_52 : look (CLt 0) 52 = some (MX0_raiseFrom, false, 2) := rfl
theorem cl_1_15 : look (CLt 1) 15 = some (MJ7_fill_d0a16, true, 2) := rfl
theorem cl_1_27 : look (CLt 1) 27 = some (MX1_isPair, true, 2) := rfl
theorem cl_1_31 : look (CLt 1) 31 = some (MX1_strikeTwo, false, 0) := rfl
theorem cl_1_35 : look (CLt 1) 35 = some (MX1_strikeThree, false, 0) := rfl
theorem cl_1_38 : look (CLt 1) 38 = some (MX1_of, false, 2) := rfl
theorem cl_1_42 : look (CLt 1) 42 = some (MX3_commonFactor, true, 2) := rfl
theorem cl_1_48 : look (CLt 1) 48 = some (MX1_divide, false, 3) := rfl
theorem cl_1_52 : look (CLt 1) 52 = some (MX1_strikeRing, false, 3) := rfl
theorem cl_1_58 : look (CLt 1) 58 = some (MX1_set, false, 3) := rfl
theorem cl_4_35 : look (CLt 4) 35 = some (MX8_held, false, 2) := rfl
theorem cl_4_39 : look (CLt 4) 39 = some (MX8_primeOf, false, 1) := rfl
theorem cl_4_43 : look (CLt 4) 43 = some (MX4_mergeTimes, false, 2) := rfl
theorem cl_4_47 : look (CLt 4) 47 = some (MX4_at, false, 1) := rfl
theorem cl_5_35 : look (CLt 5) 35 = some (MX7_cutAll, false, 2) := rfl
theorem cl_5_39 : look (CLt 5) 39 = some (MX8_empty, false, 0) := rfl
theorem cl_5_42 : look (CLt 5) 42 = some (MX5_readMint, false, 0) := rfl
theorem cl_5_46 : look (CLt 5) 46 = some (MX5_isNext, false, 1) := rfl
theorem cl_5_50 : look (CLt 5) 50 = some (MX5_readPurse, false, 0) := rfl
theorem cl_5_53 : look (CLt 5) 53 = some (MX5_readChange, false, 0) := rfl
theorem cl_5_56 : look (CLt 5) 56 = some (MX5_stop, false, 1) := rfl
theorem cl_5_59 : look (CLt 5) 59 = some (MX7_kindOf, false, 1) := rfl
theorem cl_5_63 : look (CLt 5) 63 = some (MX7_startOf, false, 1) := rfl
theorem cl_5_66 : look (CLt 5) 66 = some (MX7_valueOf, false, 1) := rfl
theorem cl_5_69 : look (CLt 5) 69 = some (MX3_isSmallPrime, true, 1) := rfl
theorem cl_5_74 : look (CLt 5) 74 = some (MX8_numberOf, false, 1) := rfl
theorem cl_5_80 : look (CLt 5) 80 = some (MX8_addCoin, false, 1) := rfl
theorem cl_5_84 : look (CLt 5) 84 = some (MX5_endLine, false, 0) := rfl
theorem cl_5_93 : look (CLt 5) 93 = some (MX5_readPursed, false, 0) := rfl
theorem cl_5_96 : look (CLt 5) 96 = some (MX8_many, false, 1) := rfl
theorem cl_5_99 : look (CLt 5) 99 = some (MX8_come, false, 3) := rfl
theorem cl_5_103 : look (CLt 5) 103 = some (MX5_readTimes, false, 1) := rfl
theorem cl_5_109 : look (CLt 5) 109 = some (MX5_readSide, false, 1) := rfl
theorem cl_5_112 : look (CLt 5) 112 = some (MX8_addToSide, false, 3) := rfl
theorem cl_6_38 : look (CLt 6) 38 = some (MJ7_fill_d0a16, true, 2) := rfl
theorem cl_6_53 : look (CLt 6) 53 = some (MX8_onSide, false, 3) := rfl
theorem cl_6_57 : look (CLt 6) 57 = some (MX8_held, false, 2) := rfl
theorem cl_6_60 : look (CLt 6) 60 = some (MX6_meet, false, 1) := rfl
theorem cl_6_64 : look (CLt 6) 64 = some (MX6_tryChange, false, 3) := rfl
theorem cl_6_68 : look (CLt 6) 68 = some (MX6_holds, true, 2) := rfl
theorem cl_6_75 : look (CLt 6) 75 = some (MX8_primeOf, false, 1) := rfl
theorem cl_6_79 : look (CLt 6) 79 = some (MX6_often, true, 2) := rfl
theorem cl_6_82 : look (CLt 6) 82 = some (MX3_whole, true, 2) := rfl
theorem cl_6_92 : look (CLt 6) 92 = some (MX6_rankOf, false, 1) := rfl
theorem cl_7_49 : look (CLt 7) 49 = some (MX7_skipBlanks, false, 0) := rfl
theorem cl_7_52 : look (CLt 7) 52 = some (MX7_cutOne, false, 0) := rfl
theorem cl_7_55 : look (CLt 7) 55 = some (MX7_signAt, false, 1) := rfl
theorem cl_7_59 : look (CLt 7) 59 = some (MX7_isLetter, true, 1) := rfl
theorem cl_7_63 : look (CLt 7) 63 = some (MX7_skipLetters, false, 0) := rfl
theorem cl_7_66 : look (CLt 7) 66 = some (MX7_kindOfWord, false, 1) := rfl
theorem cl_7_69 : look (CLt 7) 69 = some (MX7_isDigit, true, 1) := rfl
theorem cl_7_72 : look (CLt 7) 72 = some (MX7_readDigits, false, 0) := rfl
theorem cl_7_78 : look (CLt 7) 78 = some (MX7_isWord, false, 2) := rfl
theorem cl_7_90 : look (CLt 7) 90 = some (MJ0_length_8abf5, false, 0) := rfl
theorem cl_7_94 : look (CLt 7) 94 = some (MJ0_charAt_5068e, false, 1) := rfl
theorem cl_8_44 : look (CLt 8) 44 = some (MX1_forgive, false, 0) := rfl
theorem cl_8_47 : look (CLt 8) 47 = some (MJ7_fill_53178, true, 2) := rfl
theorem cl_8_53 : look (CLt 8) 53 = some (MX1_takeOver, false, 1) := rfl
theorem cl_8_69 : look (CLt 8) 69 = some (MX8_held, false, 2) := rfl
theorem cl_8_72 : look (CLt 8) 72 = some (MX8_many, false, 1) := rfl
theorem cl_8_76 : look (CLt 8) 76 = some (MX8_coinBits, false, 1) := rfl
theorem cl_8_79 : look (CLt 8) 79 = some (MJ6_bitCount_0f7a4, true, 1) := rfl
theorem cl_8_84 : look (CLt 8) 84 = some (MX8_primeOf, false, 1) := rfl
theorem cl_8_87 : look (CLt 8) 87 = some (MX3_whole, true, 2) := rfl
theorem cl_8_93 : look (CLt 8) 93 = some (MX8_worthOf, false, 1) := rfl
theorem cl_8_101 : look (CLt 8) 101 = some (MX8_come, false, 3) := rfl
theorem cl_8_105 : look (CLt 8) 105 = some (MX8_isSidePlace, true, 3) := rfl
theorem cl_8_109 : look (CLt 8) 109 = some (MX8_onSide, false, 3) := rfl
theorem cl_8_113 : look (CLt 8) 113 = some (MX8_greatestCoin, false, 1) := rfl
theorem cl_8_125 : look (CLt 8) 125 = some (MX8_numberOf, false, 1) := rfl
theorem cl_8_132 : look (CLt 8) 132 = some (MX9_at, false, 1) := rfl
theorem cl_8_135 : look (CLt 8) 135 = some (MX8_dealFault, false, 1) := rfl
theorem cl_9_31 : look (CLt 9) 31 = some (MJ7_fill_d0a16, true, 2) := rfl
theorem cl_9_37 : look (CLt 9) 37 = some (MX9_cutToSort, false, 1) := rfl
theorem cl_9_41 : look (CLt 9) 41 = some (MX9_at, false, 1) := rfl
theorem cl_10_86 : look (CLt 10) 86 = some (MX10_lay, false, 1) := rfl
theorem cl_10_97 : look (CLt 10) 97 = some (MX5_read, false, 2) := rfl
theorem cl_10_110 : look (CLt 10) 110 = some (MX8_become, false, 1) := rfl
theorem cl_10_125 : look (CLt 10) 125 = some (MX8_primeOf, false, 1) := rfl
theorem cl_10_129 : look (CLt 10) 129 = some (MX10_needPerson, false, 1) := rfl
theorem cl_10_132 : look (CLt 10) 132 = some (MX8_numberOf, false, 1) := rfl
theorem cl_10_135 : look (CLt 10) 135 = some (MX8_held, false, 2) := rfl
theorem cl_10_139 : look (CLt 10) 139 = some (MX10_needWhat, false, 2) := rfl
theorem cl_10_143 : look (CLt 10) 143 = some (MX8_many, false, 1) := rfl
theorem cl_10_146 : look (CLt 10) 146 = some (MX8_unlike, false, 1) := rfl
theorem cl_10_149 : look (CLt 10) 149 = some (MX8_greatestCoin, false, 1) := rfl
theorem cl_10_152 : look (CLt 10) 152 = some (MX8_leastCoin, false, 1) := rfl
theorem cl_10_155 : look (CLt 10) 155 = some (MX8_worthOf, false, 1) := rfl
theorem cl_10_159 : look (CLt 10) 159 = some (MX10_needChange, false, 1) := rfl
theorem cl_10_162 : look (CLt 10) 162 = some (MX8_sideWorth, false, 2) := rfl
theorem cl_10_165 : look (CLt 10) 165 = some (MX10_needTwo, false, 2) := rfl
theorem cl_10_168 : look (CLt 10) 168 = some (MX10_payFault, false, 3) := rfl
theorem cl_10_172 : look (CLt 10) 172 = some (MX8_handOver, false, 3) := rfl
theorem cl_10_176 : look (CLt 10) 176 = some (MX8_changeFault, false, 2) := rfl
theorem cl_10_179 : look (CLt 10) 179 = some (MX8_makeChange, false, 2) := rfl
theorem cl_10_182 : look (CLt 10) 182 = some (MX8_taxOne, false, 1) := rfl
theorem cl_10_192 : look (CLt 10) 192 = some (MX8_come, false, 3) := rfl
theorem cl_10_196 : look (CLt 10) 196 = some (MX8_inTreasury, false, 1) := rfl
theorem cl_10_203 : look (CLt 10) 203 = some (MX3_power, true, 3) := rfl
theorem cl_10_219 : look (CLt 10) 219 = some (MX10_yearStep, false, 0) := rfl
theorem cl_10_223 : look (CLt 10) 223 = some (MX10_needTray, false, 1) := rfl
theorem cl_10_227 : look (CLt 10) 227 = some (MX8_makeDeals, false, 1) := rfl
theorem cl_10_231 : look (CLt 10) 231 = some (MX8_richest, false, 0) := rfl
theorem cl_10_236 : look (CLt 10) 236 = some (MX9_at, false, 1) := rfl
theorem cl_10_239 : look (CLt 10) 239 = some (MX8_dealFault, false, 1) := rfl
theorem cl_10_243 : look (CLt 10) 243 = some (MX8_smoothPrices, false, 2) := rfl
theorem cl_10_246 : look (CLt 10) 246 = some (MX4_fill, false, 2) := rfl
theorem cl_10_253 : look (CLt 10) 253 = some (MX4_at, false, 1) := rfl
theorem cl_10_254 : look (CLt 10) 254 = some (MX4_widest, false, 0) := rfl
theorem cl_10_258 : look (CLt 10) 258 = some (MX4_nearestTo, false, 1) := rfl
theorem cl_10_262 : look (CLt 10) 262 = some (MX4_rootOf, false, 1) := rfl
theorem cl_10_265 : look (CLt 10) 265 = some (MX10_needPrice, false, 1) := rfl
theorem cl_10_269 : look (CLt 10) 269 = some (MX6_begin, false, 2) := rfl
theorem cl_10_272 : look (CLt 10) 272 = some (MX6_newOneHolds, false, 1) := rfl
theorem cl_10_279 : look (CLt 10) 279 = some (MX6_hasNew, false, 0) := rfl
theorem cl_10_283 : look (CLt 10) 283 = some (MX6_step, false, 0) := rfl
theorem cl_10_286 : look (CLt 10) 286 = some (MX10_needSet, false, 1) := rfl
theorem cl_10_289 : look (CLt 10) 289 = some (MJ6_bitCount_0f7a4, true, 1) := rfl
theorem cl_10_294 : look (CLt 10) 294 = some (MX8_allHold, false, 2) := rfl
theorem cl_10_298 : look (CLt 10) 298 = some (MX4_within, false, 2) := rfl
theorem cl_10_302 : look (CLt 10) 302 = some (MX10_needSmallPrime, false, 1) := rfl
theorem cl_10_310 : look (CLt 10) 310 = some (MX6_dearestNew, false, 1) := rfl
theorem cl_10_322 : look (CLt 10) 322 = some (MX8_differBySwap, false, 4) := rfl
theorem cl_10_326 : look (CLt 10) 326 = some (MX3_commonFactor, true, 2) := rfl
theorem cl_10_331 : look (CLt 10) 331 = some (MX8_shareNoPrime, false, 1) := rfl
theorem cl_10_339 : look (CLt 10) 339 = some (MX9_tellsRests, false, 0) := rfl
theorem cl_10_344 : look (CLt 10) 344 = some (MX0_seek, false, 4) := rfl
theorem cl_10_348 : look (CLt 10) 348 = some (MX10_needNumber, false, 2) := rfl
theorem cl_10_351 : look (CLt 10) 351 = some (MX3_leastFactor, true, 1) := rfl
theorem cl_10_357 : look (CLt 10) 357 = some (MX3_rootAbove, true, 1) := rfl
theorem cl_10_365 : look (CLt 10) 365 = some (MX10_needSmallNumber, false, 1) := rfl
theorem cl_10_368 : look (CLt 10) 368 = some (MX3_isSmooth, true, 2) := rfl
theorem cl_10_382 : look (CLt 10) 382 = some (MX1_of, false, 2) := rfl
theorem cl_10_390 : look (CLt 10) 390 = some (MX1_set, false, 3) := rfl
theorem cl_10_394 : look (CLt 10) 394 = some (MX1_strikeAll, false, 0) := rfl
theorem cl_10_401 : look (CLt 10) 401 = some (MX9_layRow, false, 2) := rfl
theorem cl_10_409 : look (CLt 10) 409 = some (MX9_put, false, 2) := rfl
theorem cl_10_416 : look (CLt 10) 416 = some (MX10_needImage, false, 1) := rfl
theorem cl_10_421 : look (CLt 10) 421 = some (MX8_manyInPurses, false, 0) := rfl
theorem cl_10_424 : look (CLt 10) 424 = some (MX8_manyInTreasury, false, 0) := rfl
theorem cl_10_427 : look (CLt 10) 427 = some (MX1_aboveOne, false, 0) := rfl
theorem cl_10_430 : look (CLt 10) 430 = some (MX8_takeApart, false, 2) := rfl
theorem cl_10_434 : look (CLt 10) 434 = some (MX2_below, false, 1) := rfl
theorem cl_10_454 : look (CLt 10) 454 = some (MX3_isSmallPrime, true, 1) := rfl
theorem cl_11_56 : look (CLt 11) 56 = some (MX11_begins, true, 1) := rfl
theorem cl_11_60 : look (CLt 11) 60 = some (MX11_copies, true, 2) := rfl
theorem cl_11_82 : look (CLt 11) 82 = some (MX11_isLetter, true, 1) := rfl
theorem cl_11_86 : look (CLt 11) 86 = some (MX11_see, false, 1) := rfl
theorem cl_11_90 : look (CLt 11) 90 = some (MX11_isDigit, true, 1) := rfl
theorem cl_11_102 : look (CLt 11) 102 = some (MJ0_length_8abf5, false, 0) := rfl
theorem cl_11_107 : look (CLt 11) 107 = some (MJ0_charAt_5068e, false, 1) := rfl
theorem cl_11_111 : look (CLt 11) 111 = some (MX11_isWord, false, 1) := rfl
theorem cl_11_115 : look (CLt 11) 115 = some (MX11_reads, false, 0) := rfl
theorem cl_11_118 : look (CLt 11) 118 = some (MX11_took, false, 1) := rfl
theorem cl_11_121 : look (CLt 11) 121 = some (MX11_blames, false, 1) := rfl
theorem cl_11_125 : look (CLt 11) 125 = some (MX11_isNumber, false, 0) := rfl
theorem cl_11_133 : look (CLt 11) 133 = some (MX11_within, true, 3) := rfl
theorem cl_11_137 : look (CLt 11) 137 = some (MX11_isPrime, true, 1) := rfl
theorem cl_11_140 : look (CLt 11) 140 = some (MX11_coinOf, true, 2) := rfl
theorem cl_11_146 : look (CLt 11) 146 = some (MX11_must, false, 1) := rfl
theorem cl_11_150 : look (CLt 11) 150 = some (MX11_readPrime, false, 0) := rfl
theorem cl_11_153 : look (CLt 11) 153 = some (MX11_inPurse, false, 1) := rfl
theorem cl_11_160 : look (CLt 11) 160 = some (MX11_readSide, false, 1) := rfl
theorem cl_11_167 : look (CLt 11) 167 = some (MX11_readPurse, false, 0) := rfl
theorem cl_11_172 : look (CLt 11) 172 = some (MX11_readChange, false, 0) := rfl
theorem cl_11_175 : look (CLt 11) 175 = some (MX11_readStop, false, 0) := rfl
theorem cl_11_178 : look (CLt 11) 178 = some (MX11_fails, false, 1) := rfl
theorem cl_11_181 : look (CLt 11) 181 = some (MX11_readMint, false, 0) := rfl
theorem cl_11_184 : look (CLt 11) 184 = some (MX11_readLine, false, 0) := rfl
theorem cl_11_190 : look (CLt 11) 190 = some (MX11_people, false, 0) := rfl
theorem cl_11_193 : look (CLt 11) 193 = some (MX11_coins, false, 0) := rfl
theorem cl_11_196 : look (CLt 11) 196 = some (MX11_of, false, 2) := rfl
theorem cl_11_200 : look (CLt 11) 200 = some (MX11_prime, false, 1) := rfl
theorem cl_11_203 : look (CLt 11) 203 = some (MX11_isPerson, false, 1) := rfl
theorem cl_11_217 : look (CLt 11) 217 = some (MX11_size, false, 1) := rfl
theorem cl_11_220 : look (CLt 11) 220 = some (MX11_worthOf, false, 1) := rfl
theorem cl_11_224 : look (CLt 11) 224 = some (MX11_laysPrice, false, 1) := rfl
theorem cl_11_227 : look (CLt 11) 227 = some (MX11_hasAll, false, 1) := rfl
theorem cl_11_230 : look (CLt 11) 230 = some (MX11_askedMany, false, 0) := rfl
theorem cl_11_233 : look (CLt 11) 233 = some (MX11_payFault, false, 2) := rfl
theorem cl_11_236 : look (CLt 11) 236 = some (MX11_whyNot, false, 3) := rfl
theorem cl_11_240 : look (CLt 11) 240 = some (MX11_side, false, 3) := rfl
theorem cl_11_244 : look (CLt 11) 244 = some (MX11_taxes, false, 1) := rfl
theorem cl_11_255 : look (CLt 11) 255 = some (MX11_draw, false, 1) := rfl
theorem cl_11_258 : look (CLt 11) 258 = some (MX11_isTray, true, 1) := rfl
theorem cl_11_267 : look (CLt 11) 267 = some (MX11_dealWhy, false, 1) := rfl
theorem cl_11_271 : look (CLt 11) 271 = some (MX11_trayFault, false, 1) := rfl
theorem cl_11_274 : look (CLt 11) 274 = some (MX11_goesBy, false, 1) := rfl
theorem cl_11_277 : look (CLt 11) 277 = some (MX11_richest, false, 0) := rfl
theorem cl_11_283 : look (CLt 11) 283 = some (MX11_laysPrices, false, 1) := rfl
theorem cl_11_294 : look (CLt 11) 294 = some (MX11_ten, true, 1) := rfl
theorem cl_11_297 : look (CLt 11) 297 = some (MX11_beginsMet, false, 1) := rfl
theorem cl_11_300 : look (CLt 11) 300 = some (MX11_isAsked, false, 1) := rfl
theorem cl_11_303 : look (CLt 11) 303 = some (MX11_changed, false, 2) := rfl
theorem cl_11_306 : look (CLt 11) 306 = some (MX11_meets, false, 1) := rfl
theorem cl_11_309 : look (CLt 11) 309 = some (MX11_sideOf, false, 2) := rfl
theorem cl_11_317 : look (CLt 11) 317 = some (MX11_worthBy, false, 1) := rfl
theorem cl_11_324 : look (CLt 11) 324 = some (MX11_bits, true, 1) := rfl
theorem cl_11_327 : look (CLt 11) 327 = some (MX11_haveAll, false, 1) := rfl
theorem cl_11_330 : look (CLt 11) 330 = some (MX11_areFriends, false, 1) := rfl
theorem cl_11_333 : look (CLt 11) 333 = some (MX11_isFitting, false, 2) := rfl
theorem cl_11_344 : look (CLt 11) 344 = some (MX11_bags, false, 4) := rfl
theorem cl_11_350 : look (CLt 11) 350 = some (MX11_isCounted, true, 1) := rfl
theorem cl_11_353 : look (CLt 11) 353 = some (MX11_leastFactor, true, 1) := rfl
theorem cl_11_360 : look (CLt 11) 360 = some (MX11_shared, true, 2) := rfl
theorem cl_11_365 : look (CLt 11) 365 = some (MX11_powerBy, true, 3) := rfl
theorem cl_11_371 : look (CLt 11) 371 = some (MX11_debt, false, 2) := rfl
theorem cl_11_374 : look (CLt 11) 374 = some (MX11_strikes, false, 3) := rfl
theorem cl_11_378 : look (CLt 11) 378 = some (MX11_strikesFirst, false, 0) := rfl
theorem cl_11_383 : look (CLt 11) 383 = some (MX11_cut, false, 3) := rfl
theorem cl_12_7 : look (CLt 12) 7 = some (MX10_town, false, 1) := rfl
theorem cl_12_15 : look (CLt 12) 15 = some (MX10_coin, false, 1) := rfl
theorem cl_12_20 : look (CLt 12) 20 = some (MX10_has, false, 2) := rfl
theorem cl_12_24 : look (CLt 12) 24 = some (MX10_purse, false, 2) := rfl
theorem cl_12_27 : look (CLt 12) 27 = some (MX10_worth, false, 1) := rfl
theorem cl_12_31 : look (CLt 12) 31 = some (MX10_change, false, 2) := rfl
theorem cl_12_34 : look (CLt 12) 34 = some (MX10_may, false, 3) := rfl
theorem cl_12_38 : look (CLt 12) 38 = some (MX10_pay, false, 3) := rfl
theorem cl_12_41 : look (CLt 12) 41 = some (MX10_changes, false, 2) := rfl
theorem cl_12_44 : look (CLt 12) 44 = some (MX10_tax, false, 1) := rfl
theorem cl_12_47 : look (CLt 12) 47 = some (MX10_strike, false, 2) := rfl
theorem cl_12_52 : look (CLt 12) 52 = some (MX10_readOut, false, 1) := rfl
theorem cl_12_56 : look (CLt 12) 56 = some (MX10_year, false, 2) := rfl
theorem cl_12_59 : look (CLt 12) 59 = some (MX10_judge, false, 2) := rfl
theorem cl_12_62 : look (CLt 12) 62 = some (MX10_perform, false, 1) := rfl
theorem cl_12_65 : look (CLt 12) 65 = some (MX10_prices, false, 1) := rfl
theorem cl_12_68 : look (CLt 12) 68 = some (MX10_price, false, 2) := rfl
theorem cl_12_72 : look (CLt 12) 72 = some (MX10_gap, false, 1) := rfl
theorem cl_12_75 : look (CLt 12) 75 = some (MX10_nearest, false, 2) := rfl
theorem cl_12_79 : look (CLt 12) 79 = some (MX10_half, false, 1) := rfl
theorem cl_12_82 : look (CLt 12) 82 = some (MX10_fewest, false, 2) := rfl
theorem cl_12_86 : look (CLt 12) 86 = some (MX10_together, false, 3) := rfl
theorem cl_12_90 : look (CLt 12) 90 = some (MX10_between, false, 3) := rfl
theorem cl_12_94 : look (CLt 12) 94 = some (MX10_dear, false, 2) := rfl
theorem cl_12_97 : look (CLt 12) 97 = some (MX10_grows, false, 2) := rfl
theorem cl_12_100 : look (CLt 12) 100 = some (MX10_swap, false, 3) := rfl
theorem cl_12_104 : look (CLt 12) 104 = some (MX10_common, false, 2) := rfl
theorem cl_12_107 : look (CLt 12) 107 = some (MX10_least, false, 2) := rfl
theorem cl_12_110 : look (CLt 12) 110 = some (MX10_stolen, false, 3) := rfl
theorem cl_12_113 : look (CLt 12) 113 = some (MX10_fitting, false, 3) := rfl
theorem cl_12_116 : look (CLt 12) 116 = some (MX10_trial, false, 2) := rfl
theorem cl_12_119 : look (CLt 12) 119 = some (MX10_squares, false, 2) := rfl
theorem cl_12_122 : look (CLt 12) 122 = some (MX10_rounds, false, 3) := rfl
theorem cl_12_126 : look (CLt 12) 126 = some (MX10_factor, false, 2) := rfl
theorem cl_12_129 : look (CLt 12) 129 = some (MX10_smooth, false, 2) := rfl
theorem cl_12_132 : look (CLt 12) 132 = some (MX10_primesTo, false, 1) := rfl
theorem cl_12_135 : look (CLt 12) 135 = some (MX10_witness, false, 1) := rfl
theorem cl_12_138 : look (CLt 12) 138 = some (MX10_order, false, 2) := rfl
theorem cl_12_141 : look (CLt 12) 141 = some (MX10_owe, false, 3) := rfl
theorem cl_12_145 : look (CLt 12) 145 = some (MX10_owed, false, 2) := rfl
theorem cl_12_148 : look (CLt 12) 148 = some (MX10_tray, false, 3) := rfl
theorem cl_12_152 : look (CLt 12) 152 = some (MX10_write, false, 3) := rfl
theorem cl_12_157 : look (CLt 12) 157 = some (MX10_pour, false, 1) := rfl
theorem cl_12_160 : look (CLt 12) 160 = some (MX10_image, false, 1) := rfl
theorem cl_12_164 : look (CLt 12) 164 = some (MX10_restore, false, 1) := rfl
theorem cl_12_171 : look (CLt 12) 171 = some (MX10_feed, false, 5) := rfl
theorem cl_12_175 : look (CLt 12) 175 = some (MX11_feed, false, 5) := rfl
theorem cl_12_181 : look (CLt 12) 181 = some (MX11_town, false, 1) := rfl
theorem cl_12_182 : look (CLt 12) 182 = some (MX11_thrown, false, 0) := rfl
theorem cl_12_186 : look (CLt 12) 186 = some (MX10_fault, false, 1) := rfl
theorem cl_12_189 : look (CLt 12) 189 = some (MX11_fault, false, 1) := rfl
theorem cl_12_192 : look (CLt 12) 192 = some (MX11_coin, false, 1) := rfl
theorem cl_12_196 : look (CLt 12) 196 = some (MX11_has, false, 2) := rfl
theorem cl_12_199 : look (CLt 12) 199 = some (MX11_purse, false, 2) := rfl
theorem cl_12_202 : look (CLt 12) 202 = some (MX11_worth, false, 1) := rfl
theorem cl_12_205 : look (CLt 12) 205 = some (MX11_change, false, 2) := rfl
theorem cl_12_211 : look (CLt 12) 211 = some (MX11_may, false, 3) := rfl
theorem cl_12_214 : look (CLt 12) 214 = some (MX11_pay, false, 3) := rfl
theorem cl_12_217 : look (CLt 12) 217 = some (MX11_changes, false, 2) := rfl
theorem cl_12_220 : look (CLt 12) 220 = some (MX11_tax, false, 1) := rfl
theorem cl_12_223 : look (CLt 12) 223 = some (MX11_strike, false, 2) := rfl
theorem cl_12_224 : look (CLt 12) 224 = some (MX10_treasury, false, 1) := rfl
theorem cl_12_227 : look (CLt 12) 227 = some (MX11_treasury, false, 1) := rfl
theorem cl_12_231 : look (CLt 12) 231 = some (MX11_readOut, false, 1) := rfl
theorem cl_12_234 : look (CLt 12) 234 = some (MX11_year, false, 2) := rfl
theorem cl_12_237 : look (CLt 12) 237 = some (MX11_judge, false, 2) := rfl
theorem cl_12_240 : look (CLt 12) 240 = some (MX11_perform, false, 1) := rfl
theorem cl_12_243 : look (CLt 12) 243 = some (MX11_prices, false, 1) := rfl
theorem cl_12_246 : look (CLt 12) 246 = some (MX11_price, false, 2) := rfl
theorem cl_12_249 : look (CLt 12) 249 = some (MX11_gap, false, 1) := rfl
theorem cl_12_253 : look (CLt 12) 253 = some (MX11_nearest, false, 2) := rfl
theorem cl_12_256 : look (CLt 12) 256 = some (MX11_half, false, 1) := rfl
theorem cl_12_259 : look (CLt 12) 259 = some (MX11_fewest, false, 2) := rfl
theorem cl_12_263 : look (CLt 12) 263 = some (MX11_together, false, 3) := rfl
theorem cl_12_267 : look (CLt 12) 267 = some (MX11_between, false, 3) := rfl
theorem cl_12_270 : look (CLt 12) 270 = some (MX11_dear, false, 2) := rfl
theorem cl_12_271 : look (CLt 12) 271 = some (MX10_gainer, false, 0) := rfl
theorem cl_12_274 : look (CLt 12) 274 = some (MX11_gainer, false, 0) := rfl
theorem cl_12_277 : look (CLt 12) 277 = some (MX11_grows, false, 2) := rfl
theorem cl_12_281 : look (CLt 12) 281 = some (MX11_swap, false, 3) := rfl
theorem cl_12_284 : look (CLt 12) 284 = some (MX11_common, false, 2) := rfl
theorem cl_12_287 : look (CLt 12) 287 = some (MX11_least, false, 2) := rfl
theorem cl_12_288 : look (CLt 12) 288 = some (MX10_friends, false, 0) := rfl
theorem cl_12_291 : look (CLt 12) 291 = some (MX11_friends, false, 0) := rfl
theorem cl_12_294 : look (CLt 12) 294 = some (MX11_stolen, false, 3) := rfl
theorem cl_12_297 : look (CLt 12) 297 = some (MX11_fitting, false, 3) := rfl
theorem cl_12_300 : look (CLt 12) 300 = some (MX11_trial, false, 2) := rfl
theorem cl_12_303 : look (CLt 12) 303 = some (MX11_squares, false, 2) := rfl
theorem cl_12_306 : look (CLt 12) 306 = some (MX11_rounds, false, 3) := rfl
theorem cl_12_309 : look (CLt 12) 309 = some (MX11_factor, false, 2) := rfl
theorem cl_12_312 : look (CLt 12) 312 = some (MX11_smooth, false, 2) := rfl
theorem cl_12_315 : look (CLt 12) 315 = some (MX11_primesTo, false, 1) := rfl
theorem cl_12_318 : look (CLt 12) 318 = some (MX11_witness, false, 1) := rfl
theorem cl_12_321 : look (CLt 12) 321 = some (MX11_order, false, 2) := rfl
theorem cl_12_324 : look (CLt 12) 324 = some (MX11_owe, false, 3) := rfl
theorem cl_12_327 : look (CLt 12) 327 = some (MX11_owed, false, 2) := rfl
theorem cl_12_328 : look (CLt 12) 328 = some (MX10_struck, false, 0) := rfl
theorem cl_12_331 : look (CLt 12) 331 = some (MX11_struck, false, 0) := rfl
theorem cl_12_335 : look (CLt 12) 335 = some (MX11_tray, false, 3) := rfl
theorem cl_12_338 : look (CLt 12) 338 = some (MX11_write, false, 3) := rfl
theorem cl_12_341 : look (CLt 12) 341 = some (MX11_pour, false, 1) := rfl
theorem cl_12_345 : look (CLt 12) 345 = some (MX11_image, false, 1) := rfl
theorem cl_12_348 : look (CLt 12) 348 = some (MX11_restore, false, 1) := rfl
theorem cl_12_349 : look (CLt 12) 349 = some (MX10_count, false, 1) := rfl
theorem cl_12_352 : look (CLt 12) 352 = some (MX11_count, false, 1) := rfl
theorem cl_13_335 : look (CLt 13) 335 = some (MJ0_coder_7d493, false, 0) := rfl
theorem cl_13_492 : look (CLt 13) 492 = some (MJ0_isLatin1_aae02, false, 0) := rfl
theorem cl_13_495 : look (CLt 13) 495 = some (MJ1_charAt_3b067, true, 2) := rfl
theorem cl_13_1059 : look (CLt 13) 1059 = some (MJ3_checkIndex_8e157, true, 3) := rfl
theorem cl_14_9 : look (CLt 14) 9 = some (MJ0_checkIndex_df160, true, 2) := rfl
theorem cr_X0_seek : 0 < 11 ∧ 10 = 10 + 0 ∧ (mY MX0_seek).cls = (cTb 0).1 := ⟨by decide, rfl, rfl⟩
theorem cr_X0_productOf : 0 < 11 ∧ 10 = 10 + 0 ∧ (mY MX0_productOf).cls = (cTb 0).1 := ⟨by decide, rfl, rfl⟩
theorem cr_X0_nextRow : 0 < 11 ∧ 10 = 10 + 0 ∧ (mY MX0_nextRow).cls = (cTb 0).1 := ⟨by decide, rfl, rfl⟩
theorem cr_X0_raiseFrom : 0 < 11 ∧ 10 = 10 + 0 ∧ (mY MX0_raiseFrom).cls = (cTb 0).1 := ⟨by decide, rfl, rfl⟩
theorem cr_X1_forgive : 1 < 11 ∧ 11 = 10 + 1 ∧ (mY MX1_forgive).cls = (cTb 1).1 := ⟨by decide, rfl, rfl⟩
theorem cr_X1_takeOver : 1 < 11 ∧ 11 = 10 + 1 ∧ (mY MX1_takeOver).cls = (cTb 1).1 := ⟨by decide, rfl, rfl⟩
theorem cr_X1_isPair : 1 < 11 ∧ 11 = 10 + 1 ∧ (mY MX1_isPair).cls = (cTb 1).1 := ⟨by decide, rfl, rfl⟩
theorem cr_X1_of : 1 < 11 ∧ 11 = 10 + 1 ∧ (mY MX1_of).cls = (cTb 1).1 := ⟨by decide, rfl, rfl⟩
theorem cr_X1_set : 1 < 11 ∧ 11 = 10 + 1 ∧ (mY MX1_set).cls = (cTb 1).1 := ⟨by decide, rfl, rfl⟩
theorem cr_X1_aboveOne : 1 < 11 ∧ 11 = 10 + 1 ∧ (mY MX1_aboveOne).cls = (cTb 1).1 := ⟨by decide, rfl, rfl⟩
theorem cr_X1_strikeAll : 1 < 11 ∧ 11 = 10 + 1 ∧ (mY MX1_strikeAll).cls = (cTb 1).1 := ⟨by decide, rfl, rfl⟩
theorem cr_X1_strikeTwo : 1 < 11 ∧ 11 = 10 + 1 ∧ (mY MX1_strikeTwo).cls = (cTb 1).1 := ⟨by decide, rfl, rfl⟩
theorem cr_X1_strikeThree : 1 < 11 ∧ 11 = 10 + 1 ∧ (mY MX1_strikeThree).cls = (cTb 1).1 := ⟨by decide, rfl, rfl⟩
theorem cr_X1_strikeRing : 1 < 11 ∧ 11 = 10 + 1 ∧ (mY MX1_strikeRing).cls = (cTb 1).1 := ⟨by decide, rfl, rfl⟩
theorem cr_X1_divide : 1 < 11 ∧ 11 = 10 + 1 ∧ (mY MX1_divide).cls = (cTb 1).1 := ⟨by decide, rfl, rfl⟩
theorem cr_X2_below : 2 < 11 ∧ 12 = 10 + 2 ∧ (mY MX2_below).cls = (cTb 2).1 := ⟨by decide, rfl, rfl⟩
theorem cr_X4_at : 3 < 11 ∧ 13 = 10 + 3 ∧ (mY MX4_at).cls = (cTb 3).1 := ⟨by decide, rfl, rfl⟩
theorem cr_X4_fill : 3 < 11 ∧ 13 = 10 + 3 ∧ (mY MX4_fill).cls = (cTb 3).1 := ⟨by decide, rfl, rfl⟩
theorem cr_X4_mergeTimes : 3 < 11 ∧ 13 = 10 + 3 ∧ (mY MX4_mergeTimes).cls = (cTb 3).1 := ⟨by decide, rfl, rfl⟩
theorem cr_X4_widest : 3 < 11 ∧ 13 = 10 + 3 ∧ (mY MX4_widest).cls = (cTb 3).1 := ⟨by decide, rfl, rfl⟩
theorem cr_X4_nearestTo : 3 < 11 ∧ 13 = 10 + 3 ∧ (mY MX4_nearestTo).cls = (cTb 3).1 := ⟨by decide, rfl, rfl⟩
theorem cr_X4_rootOf : 3 < 11 ∧ 13 = 10 + 3 ∧ (mY MX4_rootOf).cls = (cTb 3).1 := ⟨by decide, rfl, rfl⟩
theorem cr_X4_within : 3 < 11 ∧ 13 = 10 + 3 ∧ (mY MX4_within).cls = (cTb 3).1 := ⟨by decide, rfl, rfl⟩
theorem cr_X5_read : 4 < 11 ∧ 14 = 10 + 4 ∧ (mY MX5_read).cls = (cTb 4).1 := ⟨by decide, rfl, rfl⟩
theorem cr_X5_isNext : 4 < 11 ∧ 14 = 10 + 4 ∧ (mY MX5_isNext).cls = (cTb 4).1 := ⟨by decide, rfl, rfl⟩
theorem cr_X5_stop : 4 < 11 ∧ 14 = 10 + 4 ∧ (mY MX5_stop).cls = (cTb 4).1 := ⟨by decide, rfl, rfl⟩
theorem cr_X5_readMint : 4 < 11 ∧ 14 = 10 + 4 ∧ (mY MX5_readMint).cls = (cTb 4).1 := ⟨by decide, rfl, rfl⟩
theorem cr_X5_endLine : 4 < 11 ∧ 14 = 10 + 4 ∧ (mY MX5_endLine).cls = (cTb 4).1 := ⟨by decide, rfl, rfl⟩
theorem cr_X5_readPurse : 4 < 11 ∧ 14 = 10 + 4 ∧ (mY MX5_readPurse).cls = (cTb 4).1 := ⟨by decide, rfl, rfl⟩
theorem cr_X5_readPursed : 4 < 11 ∧ 14 = 10 + 4 ∧ (mY MX5_readPursed).cls = (cTb 4).1 := ⟨by decide, rfl, rfl⟩
theorem cr_X5_readTimes : 4 < 11 ∧ 14 = 10 + 4 ∧ (mY MX5_readTimes).cls = (cTb 4).1 := ⟨by decide, rfl, rfl⟩
theorem cr_X5_readChange : 4 < 11 ∧ 14 = 10 + 4 ∧ (mY MX5_readChange).cls = (cTb 4).1 := ⟨by decide, rfl, rfl⟩
theorem cr_X5_readSide : 4 < 11 ∧ 14 = 10 + 4 ∧ (mY MX5_readSide).cls = (cTb 4).1 := ⟨by decide, rfl, rfl⟩
theorem cr_X6_begin : 5 < 11 ∧ 15 = 10 + 5 ∧ (mY MX6_begin).cls = (cTb 5).1 := ⟨by decide, rfl, rfl⟩
theorem cr_X6_hasNew : 5 < 11 ∧ 15 = 10 + 5 ∧ (mY MX6_hasNew).cls = (cTb 5).1 := ⟨by decide, rfl, rfl⟩
theorem cr_X6_step : 5 < 11 ∧ 15 = 10 + 5 ∧ (mY MX6_step).cls = (cTb 5).1 := ⟨by decide, rfl, rfl⟩
theorem cr_X6_newOneHolds : 5 < 11 ∧ 15 = 10 + 5 ∧ (mY MX6_newOneHolds).cls = (cTb 5).1 := ⟨by decide, rfl, rfl⟩
theorem cr_X6_dearestNew : 5 < 11 ∧ 15 = 10 + 5 ∧ (mY MX6_dearestNew).cls = (cTb 5).1 := ⟨by decide, rfl, rfl⟩
theorem cr_X6_often : 5 < 11 ∧ 15 = 10 + 5 ∧ (mY MX6_often).cls = (cTb 5).1 := ⟨by decide, rfl, rfl⟩
theorem cr_X6_holds : 5 < 11 ∧ 15 = 10 + 5 ∧ (mY MX6_holds).cls = (cTb 5).1 := ⟨by decide, rfl, rfl⟩
theorem cr_X6_tryChange : 5 < 11 ∧ 15 = 10 + 5 ∧ (mY MX6_tryChange).cls = (cTb 5).1 := ⟨by decide, rfl, rfl⟩
theorem cr_X6_meet : 5 < 11 ∧ 15 = 10 + 5 ∧ (mY MX6_meet).cls = (cTb 5).1 := ⟨by decide, rfl, rfl⟩
theorem cr_X6_rankOf : 5 < 11 ∧ 15 = 10 + 5 ∧ (mY MX6_rankOf).cls = (cTb 5).1 := ⟨by decide, rfl, rfl⟩
theorem cr_X7_kindOf : 6 < 11 ∧ 16 = 10 + 6 ∧ (mY MX7_kindOf).cls = (cTb 6).1 := ⟨by decide, rfl, rfl⟩
theorem cr_X7_startOf : 6 < 11 ∧ 16 = 10 + 6 ∧ (mY MX7_startOf).cls = (cTb 6).1 := ⟨by decide, rfl, rfl⟩
theorem cr_X7_valueOf : 6 < 11 ∧ 16 = 10 + 6 ∧ (mY MX7_valueOf).cls = (cTb 6).1 := ⟨by decide, rfl, rfl⟩
theorem cr_X7_cutAll : 6 < 11 ∧ 16 = 10 + 6 ∧ (mY MX7_cutAll).cls = (cTb 6).1 := ⟨by decide, rfl, rfl⟩
theorem cr_X7_cutOne : 6 < 11 ∧ 16 = 10 + 6 ∧ (mY MX7_cutOne).cls = (cTb 6).1 := ⟨by decide, rfl, rfl⟩
theorem cr_X7_signAt : 6 < 11 ∧ 16 = 10 + 6 ∧ (mY MX7_signAt).cls = (cTb 6).1 := ⟨by decide, rfl, rfl⟩
theorem cr_X7_isLetter : 6 < 11 ∧ 16 = 10 + 6 ∧ (mY MX7_isLetter).cls = (cTb 6).1 := ⟨by decide, rfl, rfl⟩
theorem cr_X7_isDigit : 6 < 11 ∧ 16 = 10 + 6 ∧ (mY MX7_isDigit).cls = (cTb 6).1 := ⟨by decide, rfl, rfl⟩
theorem cr_X7_skipBlanks : 6 < 11 ∧ 16 = 10 + 6 ∧ (mY MX7_skipBlanks).cls = (cTb 6).1 := ⟨by decide, rfl, rfl⟩
theorem cr_X7_skipLetters : 6 < 11 ∧ 16 = 10 + 6 ∧ (mY MX7_skipLetters).cls = (cTb 6).1 := ⟨by decide, rfl, rfl⟩
theorem cr_X7_readDigits : 6 < 11 ∧ 16 = 10 + 6 ∧ (mY MX7_readDigits).cls = (cTb 6).1 := ⟨by decide, rfl, rfl⟩
theorem cr_X7_kindOfWord : 6 < 11 ∧ 16 = 10 + 6 ∧ (mY MX7_kindOfWord).cls = (cTb 6).1 := ⟨by decide, rfl, rfl⟩
theorem cr_X7_isWord : 6 < 11 ∧ 16 = 10 + 6 ∧ (mY MX7_isWord).cls = (cTb 6).1 := ⟨by decide, rfl, rfl⟩
theorem cr_X8_empty : 7 < 11 ∧ 17 = 10 + 7 ∧ (mY MX8_empty).cls = (cTb 7).1 := ⟨by decide, rfl, rfl⟩
theorem cr_X8_become : 7 < 11 ∧ 17 = 10 + 7 ∧ (mY MX8_become).cls = (cTb 7).1 := ⟨by decide, rfl, rfl⟩
theorem cr_X8_addCoin : 7 < 11 ∧ 17 = 10 + 7 ∧ (mY MX8_addCoin).cls = (cTb 7).1 := ⟨by decide, rfl, rfl⟩
theorem cr_X8_primeOf : 7 < 11 ∧ 17 = 10 + 7 ∧ (mY MX8_primeOf).cls = (cTb 7).1 := ⟨by decide, rfl, rfl⟩
theorem cr_X8_numberOf : 7 < 11 ∧ 17 = 10 + 7 ∧ (mY MX8_numberOf).cls = (cTb 7).1 := ⟨by decide, rfl, rfl⟩
theorem cr_X8_takeApart : 7 < 11 ∧ 17 = 10 + 7 ∧ (mY MX8_takeApart).cls = (cTb 7).1 := ⟨by decide, rfl, rfl⟩
theorem cr_X8_held : 7 < 11 ∧ 17 = 10 + 7 ∧ (mY MX8_held).cls = (cTb 7).1 := ⟨by decide, rfl, rfl⟩
theorem cr_X8_come : 7 < 11 ∧ 17 = 10 + 7 ∧ (mY MX8_come).cls = (cTb 7).1 := ⟨by decide, rfl, rfl⟩
theorem cr_X8_many : 7 < 11 ∧ 17 = 10 + 7 ∧ (mY MX8_many).cls = (cTb 7).1 := ⟨by decide, rfl, rfl⟩
theorem cr_X8_manyInPurses : 7 < 11 ∧ 17 = 10 + 7 ∧ (mY MX8_manyInPurses).cls = (cTb 7).1 := ⟨by decide, rfl, rfl⟩
theorem cr_X8_unlike : 7 < 11 ∧ 17 = 10 + 7 ∧ (mY MX8_unlike).cls = (cTb 7).1 := ⟨by decide, rfl, rfl⟩
theorem cr_X8_coinBits : 7 < 11 ∧ 17 = 10 + 7 ∧ (mY MX8_coinBits).cls = (cTb 7).1 := ⟨by decide, rfl, rfl⟩
theorem cr_X8_greatestCoin : 7 < 11 ∧ 17 = 10 + 7 ∧ (mY MX8_greatestCoin).cls = (cTb 7).1 := ⟨by decide, rfl, rfl⟩
theorem cr_X8_leastCoin : 7 < 11 ∧ 17 = 10 + 7 ∧ (mY MX8_leastCoin).cls = (cTb 7).1 := ⟨by decide, rfl, rfl⟩
theorem cr_X8_worthOf : 7 < 11 ∧ 17 = 10 + 7 ∧ (mY MX8_worthOf).cls = (cTb 7).1 := ⟨by decide, rfl, rfl⟩
theorem cr_X8_richest : 7 < 11 ∧ 17 = 10 + 7 ∧ (mY MX8_richest).cls = (cTb 7).1 := ⟨by decide, rfl, rfl⟩
theorem cr_X8_smoothPrices : 7 < 11 ∧ 17 = 10 + 7 ∧ (mY MX8_smoothPrices).cls = (cTb 7).1 := ⟨by decide, rfl, rfl⟩
theorem cr_X8_allHold : 7 < 11 ∧ 17 = 10 + 7 ∧ (mY MX8_allHold).cls = (cTb 7).1 := ⟨by decide, rfl, rfl⟩
theorem cr_X8_shareNoPrime : 7 < 11 ∧ 17 = 10 + 7 ∧ (mY MX8_shareNoPrime).cls = (cTb 7).1 := ⟨by decide, rfl, rfl⟩
theorem cr_X8_differBySwap : 7 < 11 ∧ 17 = 10 + 7 ∧ (mY MX8_differBySwap).cls = (cTb 7).1 := ⟨by decide, rfl, rfl⟩
theorem cr_X8_handOver : 7 < 11 ∧ 17 = 10 + 7 ∧ (mY MX8_handOver).cls = (cTb 7).1 := ⟨by decide, rfl, rfl⟩
theorem cr_X8_isSidePlace : 7 < 11 ∧ 17 = 10 + 7 ∧ (mY MX8_isSidePlace).cls = (cTb 7).1 := ⟨by decide, rfl, rfl⟩
theorem cr_X8_onSide : 7 < 11 ∧ 17 = 10 + 7 ∧ (mY MX8_onSide).cls = (cTb 7).1 := ⟨by decide, rfl, rfl⟩
theorem cr_X8_addToSide : 7 < 11 ∧ 17 = 10 + 7 ∧ (mY MX8_addToSide).cls = (cTb 7).1 := ⟨by decide, rfl, rfl⟩
theorem cr_X8_sideWorth : 7 < 11 ∧ 17 = 10 + 7 ∧ (mY MX8_sideWorth).cls = (cTb 7).1 := ⟨by decide, rfl, rfl⟩
theorem cr_X8_changeFault : 7 < 11 ∧ 17 = 10 + 7 ∧ (mY MX8_changeFault).cls = (cTb 7).1 := ⟨by decide, rfl, rfl⟩
theorem cr_X8_makeChange : 7 < 11 ∧ 17 = 10 + 7 ∧ (mY MX8_makeChange).cls = (cTb 7).1 := ⟨by decide, rfl, rfl⟩
theorem cr_X8_inTreasury : 7 < 11 ∧ 17 = 10 + 7 ∧ (mY MX8_inTreasury).cls = (cTb 7).1 := ⟨by decide, rfl, rfl⟩
theorem cr_X8_manyInTreasury : 7 < 11 ∧ 17 = 10 + 7 ∧ (mY MX8_manyInTreasury).cls = (cTb 7).1 := ⟨by decide, rfl, rfl⟩
theorem cr_X8_taxOne : 7 < 11 ∧ 17 = 10 + 7 ∧ (mY MX8_taxOne).cls = (cTb 7).1 := ⟨by decide, rfl, rfl⟩
theorem cr_X8_dealFault : 7 < 11 ∧ 17 = 10 + 7 ∧ (mY MX8_dealFault).cls = (cTb 7).1 := ⟨by decide, rfl, rfl⟩
theorem cr_X8_makeDeals : 7 < 11 ∧ 17 = 10 + 7 ∧ (mY MX8_makeDeals).cls = (cTb 7).1 := ⟨by decide, rfl, rfl⟩
theorem cr_X9_layRow : 8 < 11 ∧ 18 = 10 + 8 ∧ (mY MX9_layRow).cls = (cTb 8).1 := ⟨by decide, rfl, rfl⟩
theorem cr_X9_at : 8 < 11 ∧ 18 = 10 + 8 ∧ (mY MX9_at).cls = (cTb 8).1 := ⟨by decide, rfl, rfl⟩
theorem cr_X9_put : 8 < 11 ∧ 18 = 10 + 8 ∧ (mY MX9_put).cls = (cTb 8).1 := ⟨by decide, rfl, rfl⟩
theorem cr_X9_cutToSort : 8 < 11 ∧ 18 = 10 + 8 ∧ (mY MX9_cutToSort).cls = (cTb 8).1 := ⟨by decide, rfl, rfl⟩
theorem cr_X9_tellsRests : 8 < 11 ∧ 18 = 10 + 8 ∧ (mY MX9_tellsRests).cls = (cTb 8).1 := ⟨by decide, rfl, rfl⟩
theorem cr_X9_allRestsOf : 8 < 11 ∧ 18 = 10 + 8 ∧ (mY MX9_allRestsOf).cls = (cTb 8).1 := ⟨by decide, rfl, rfl⟩
theorem cr_X10_feed : 9 < 11 ∧ 19 = 10 + 9 ∧ (mY MX10_feed).cls = (cTb 9).1 := ⟨by decide, rfl, rfl⟩
theorem cr_X10_town : 9 < 11 ∧ 19 = 10 + 9 ∧ (mY MX10_town).cls = (cTb 9).1 := ⟨by decide, rfl, rfl⟩
theorem cr_X10_fault : 9 < 11 ∧ 19 = 10 + 9 ∧ (mY MX10_fault).cls = (cTb 9).1 := ⟨by decide, rfl, rfl⟩
theorem cr_X10_coin : 9 < 11 ∧ 19 = 10 + 9 ∧ (mY MX10_coin).cls = (cTb 9).1 := ⟨by decide, rfl, rfl⟩
theorem cr_X10_has : 9 < 11 ∧ 19 = 10 + 9 ∧ (mY MX10_has).cls = (cTb 9).1 := ⟨by decide, rfl, rfl⟩
theorem cr_X10_purse : 9 < 11 ∧ 19 = 10 + 9 ∧ (mY MX10_purse).cls = (cTb 9).1 := ⟨by decide, rfl, rfl⟩
theorem cr_X10_worth : 9 < 11 ∧ 19 = 10 + 9 ∧ (mY MX10_worth).cls = (cTb 9).1 := ⟨by decide, rfl, rfl⟩
theorem cr_X10_change : 9 < 11 ∧ 19 = 10 + 9 ∧ (mY MX10_change).cls = (cTb 9).1 := ⟨by decide, rfl, rfl⟩
theorem cr_X10_may : 9 < 11 ∧ 19 = 10 + 9 ∧ (mY MX10_may).cls = (cTb 9).1 := ⟨by decide, rfl, rfl⟩
theorem cr_X10_pay : 9 < 11 ∧ 19 = 10 + 9 ∧ (mY MX10_pay).cls = (cTb 9).1 := ⟨by decide, rfl, rfl⟩
theorem cr_X10_changes : 9 < 11 ∧ 19 = 10 + 9 ∧ (mY MX10_changes).cls = (cTb 9).1 := ⟨by decide, rfl, rfl⟩
theorem cr_X10_tax : 9 < 11 ∧ 19 = 10 + 9 ∧ (mY MX10_tax).cls = (cTb 9).1 := ⟨by decide, rfl, rfl⟩
theorem cr_X10_strike : 9 < 11 ∧ 19 = 10 + 9 ∧ (mY MX10_strike).cls = (cTb 9).1 := ⟨by decide, rfl, rfl⟩
theorem cr_X10_treasury : 9 < 11 ∧ 19 = 10 + 9 ∧ (mY MX10_treasury).cls = (cTb 9).1 := ⟨by decide, rfl, rfl⟩
theorem cr_X10_readOut : 9 < 11 ∧ 19 = 10 + 9 ∧ (mY MX10_readOut).cls = (cTb 9).1 := ⟨by decide, rfl, rfl⟩
theorem cr_X10_year : 9 < 11 ∧ 19 = 10 + 9 ∧ (mY MX10_year).cls = (cTb 9).1 := ⟨by decide, rfl, rfl⟩
theorem cr_X10_judge : 9 < 11 ∧ 19 = 10 + 9 ∧ (mY MX10_judge).cls = (cTb 9).1 := ⟨by decide, rfl, rfl⟩
theorem cr_X10_perform : 9 < 11 ∧ 19 = 10 + 9 ∧ (mY MX10_perform).cls = (cTb 9).1 := ⟨by decide, rfl, rfl⟩
theorem cr_X10_prices : 9 < 11 ∧ 19 = 10 + 9 ∧ (mY MX10_prices).cls = (cTb 9).1 := ⟨by decide, rfl, rfl⟩
theorem cr_X10_price : 9 < 11 ∧ 19 = 10 + 9 ∧ (mY MX10_price).cls = (cTb 9).1 := ⟨by decide, rfl, rfl⟩
theorem cr_X10_gap : 9 < 11 ∧ 19 = 10 + 9 ∧ (mY MX10_gap).cls = (cTb 9).1 := ⟨by decide, rfl, rfl⟩
theorem cr_X10_nearest : 9 < 11 ∧ 19 = 10 + 9 ∧ (mY MX10_nearest).cls = (cTb 9).1 := ⟨by decide, rfl, rfl⟩
theorem cr_X10_half : 9 < 11 ∧ 19 = 10 + 9 ∧ (mY MX10_half).cls = (cTb 9).1 := ⟨by decide, rfl, rfl⟩
theorem cr_X10_fewest : 9 < 11 ∧ 19 = 10 + 9 ∧ (mY MX10_fewest).cls = (cTb 9).1 := ⟨by decide, rfl, rfl⟩
theorem cr_X10_together : 9 < 11 ∧ 19 = 10 + 9 ∧ (mY MX10_together).cls = (cTb 9).1 := ⟨by decide, rfl, rfl⟩
theorem cr_X10_between : 9 < 11 ∧ 19 = 10 + 9 ∧ (mY MX10_between).cls = (cTb 9).1 := ⟨by decide, rfl, rfl⟩
theorem cr_X10_dear : 9 < 11 ∧ 19 = 10 + 9 ∧ (mY MX10_dear).cls = (cTb 9).1 := ⟨by decide, rfl, rfl⟩
theorem cr_X10_gainer : 9 < 11 ∧ 19 = 10 + 9 ∧ (mY MX10_gainer).cls = (cTb 9).1 := ⟨by decide, rfl, rfl⟩
theorem cr_X10_grows : 9 < 11 ∧ 19 = 10 + 9 ∧ (mY MX10_grows).cls = (cTb 9).1 := ⟨by decide, rfl, rfl⟩
theorem cr_X10_swap : 9 < 11 ∧ 19 = 10 + 9 ∧ (mY MX10_swap).cls = (cTb 9).1 := ⟨by decide, rfl, rfl⟩
theorem cr_X10_common : 9 < 11 ∧ 19 = 10 + 9 ∧ (mY MX10_common).cls = (cTb 9).1 := ⟨by decide, rfl, rfl⟩
theorem cr_X10_least : 9 < 11 ∧ 19 = 10 + 9 ∧ (mY MX10_least).cls = (cTb 9).1 := ⟨by decide, rfl, rfl⟩
theorem cr_X10_friends : 9 < 11 ∧ 19 = 10 + 9 ∧ (mY MX10_friends).cls = (cTb 9).1 := ⟨by decide, rfl, rfl⟩
theorem cr_X10_stolen : 9 < 11 ∧ 19 = 10 + 9 ∧ (mY MX10_stolen).cls = (cTb 9).1 := ⟨by decide, rfl, rfl⟩
theorem cr_X10_fitting : 9 < 11 ∧ 19 = 10 + 9 ∧ (mY MX10_fitting).cls = (cTb 9).1 := ⟨by decide, rfl, rfl⟩
theorem cr_X10_trial : 9 < 11 ∧ 19 = 10 + 9 ∧ (mY MX10_trial).cls = (cTb 9).1 := ⟨by decide, rfl, rfl⟩
theorem cr_X10_squares : 9 < 11 ∧ 19 = 10 + 9 ∧ (mY MX10_squares).cls = (cTb 9).1 := ⟨by decide, rfl, rfl⟩
theorem cr_X10_rounds : 9 < 11 ∧ 19 = 10 + 9 ∧ (mY MX10_rounds).cls = (cTb 9).1 := ⟨by decide, rfl, rfl⟩
theorem cr_X10_factor : 9 < 11 ∧ 19 = 10 + 9 ∧ (mY MX10_factor).cls = (cTb 9).1 := ⟨by decide, rfl, rfl⟩
theorem cr_X10_smooth : 9 < 11 ∧ 19 = 10 + 9 ∧ (mY MX10_smooth).cls = (cTb 9).1 := ⟨by decide, rfl, rfl⟩
theorem cr_X10_primesTo : 9 < 11 ∧ 19 = 10 + 9 ∧ (mY MX10_primesTo).cls = (cTb 9).1 := ⟨by decide, rfl, rfl⟩
theorem cr_X10_witness : 9 < 11 ∧ 19 = 10 + 9 ∧ (mY MX10_witness).cls = (cTb 9).1 := ⟨by decide, rfl, rfl⟩
theorem cr_X10_order : 9 < 11 ∧ 19 = 10 + 9 ∧ (mY MX10_order).cls = (cTb 9).1 := ⟨by decide, rfl, rfl⟩
theorem cr_X10_owe : 9 < 11 ∧ 19 = 10 + 9 ∧ (mY MX10_owe).cls = (cTb 9).1 := ⟨by decide, rfl, rfl⟩
theorem cr_X10_owed : 9 < 11 ∧ 19 = 10 + 9 ∧ (mY MX10_owed).cls = (cTb 9).1 := ⟨by decide, rfl, rfl⟩
theorem cr_X10_struck : 9 < 11 ∧ 19 = 10 + 9 ∧ (mY MX10_struck).cls = (cTb 9).1 := ⟨by decide, rfl, rfl⟩
theorem cr_X10_tray : 9 < 11 ∧ 19 = 10 + 9 ∧ (mY MX10_tray).cls = (cTb 9).1 := ⟨by decide, rfl, rfl⟩
theorem cr_X10_write : 9 < 11 ∧ 19 = 10 + 9 ∧ (mY MX10_write).cls = (cTb 9).1 := ⟨by decide, rfl, rfl⟩
theorem cr_X10_pour : 9 < 11 ∧ 19 = 10 + 9 ∧ (mY MX10_pour).cls = (cTb 9).1 := ⟨by decide, rfl, rfl⟩
theorem cr_X10_image : 9 < 11 ∧ 19 = 10 + 9 ∧ (mY MX10_image).cls = (cTb 9).1 := ⟨by decide, rfl, rfl⟩
theorem cr_X10_restore : 9 < 11 ∧ 19 = 10 + 9 ∧ (mY MX10_restore).cls = (cTb 9).1 := ⟨by decide, rfl, rfl⟩
theorem cr_X10_count : 9 < 11 ∧ 19 = 10 + 9 ∧ (mY MX10_count).cls = (cTb 9).1 := ⟨by decide, rfl, rfl⟩
theorem cr_X10_lay : 9 < 11 ∧ 19 = 10 + 9 ∧ (mY MX10_lay).cls = (cTb 9).1 := ⟨by decide, rfl, rfl⟩
theorem cr_X10_payFault : 9 < 11 ∧ 19 = 10 + 9 ∧ (mY MX10_payFault).cls = (cTb 9).1 := ⟨by decide, rfl, rfl⟩
theorem cr_X10_yearStep : 9 < 11 ∧ 19 = 10 + 9 ∧ (mY MX10_yearStep).cls = (cTb 9).1 := ⟨by decide, rfl, rfl⟩
theorem cr_X10_needPerson : 9 < 11 ∧ 19 = 10 + 9 ∧ (mY MX10_needPerson).cls = (cTb 9).1 := ⟨by decide, rfl, rfl⟩
theorem cr_X10_needTwo : 9 < 11 ∧ 19 = 10 + 9 ∧ (mY MX10_needTwo).cls = (cTb 9).1 := ⟨by decide, rfl, rfl⟩
theorem cr_X10_needChange : 9 < 11 ∧ 19 = 10 + 9 ∧ (mY MX10_needChange).cls = (cTb 9).1 := ⟨by decide, rfl, rfl⟩
theorem cr_X10_needWhat : 9 < 11 ∧ 19 = 10 + 9 ∧ (mY MX10_needWhat).cls = (cTb 9).1 := ⟨by decide, rfl, rfl⟩
theorem cr_X10_needSet : 9 < 11 ∧ 19 = 10 + 9 ∧ (mY MX10_needSet).cls = (cTb 9).1 := ⟨by decide, rfl, rfl⟩
theorem cr_X10_needPrice : 9 < 11 ∧ 19 = 10 + 9 ∧ (mY MX10_needPrice).cls = (cTb 9).1 := ⟨by decide, rfl, rfl⟩
theorem cr_X10_needNumber : 9 < 11 ∧ 19 = 10 + 9 ∧ (mY MX10_needNumber).cls = (cTb 9).1 := ⟨by decide, rfl, rfl⟩
theorem cr_X10_needSmallNumber : 9 < 11 ∧ 19 = 10 + 9 ∧ (mY MX10_needSmallNumber).cls = (cTb 9).1 := ⟨by decide, rfl, rfl⟩
theorem cr_X10_needSmallPrime : 9 < 11 ∧ 19 = 10 + 9 ∧ (mY MX10_needSmallPrime).cls = (cTb 9).1 := ⟨by decide, rfl, rfl⟩
theorem cr_X10_needImage : 9 < 11 ∧ 19 = 10 + 9 ∧ (mY MX10_needImage).cls = (cTb 9).1 := ⟨by decide, rfl, rfl⟩
theorem cr_X10_needTray : 9 < 11 ∧ 19 = 10 + 9 ∧ (mY MX10_needTray).cls = (cTb 9).1 := ⟨by decide, rfl, rfl⟩
theorem cr_X11_thrown : 10 < 11 ∧ 20 = 10 + 10 ∧ (mY MX11_thrown).cls = (cTb 10).1 := ⟨by decide, rfl, rfl⟩
theorem cr_X11_fails : 10 < 11 ∧ 20 = 10 + 10 ∧ (mY MX11_fails).cls = (cTb 10).1 := ⟨by decide, rfl, rfl⟩
theorem cr_X11_within : 10 < 11 ∧ 20 = 10 + 10 ∧ (mY MX11_within).cls = (cTb 10).1 := ⟨by decide, rfl, rfl⟩
theorem cr_X11_begins : 10 < 11 ∧ 20 = 10 + 10 ∧ (mY MX11_begins).cls = (cTb 10).1 := ⟨by decide, rfl, rfl⟩
theorem cr_X11_copies : 10 < 11 ∧ 20 = 10 + 10 ∧ (mY MX11_copies).cls = (cTb 10).1 := ⟨by decide, rfl, rfl⟩
theorem cr_X11_isPrime : 10 < 11 ∧ 20 = 10 + 10 ∧ (mY MX11_isPrime).cls = (cTb 10).1 := ⟨by decide, rfl, rfl⟩
theorem cr_X11_feed : 10 < 11 ∧ 20 = 10 + 10 ∧ (mY MX11_feed).cls = (cTb 10).1 := ⟨by decide, rfl, rfl⟩
theorem cr_X11_see : 10 < 11 ∧ 20 = 10 + 10 ∧ (mY MX11_see).cls = (cTb 10).1 := ⟨by decide, rfl, rfl⟩
theorem cr_X11_isLetter : 10 < 11 ∧ 20 = 10 + 10 ∧ (mY MX11_isLetter).cls = (cTb 10).1 := ⟨by decide, rfl, rfl⟩
theorem cr_X11_isDigit : 10 < 11 ∧ 20 = 10 + 10 ∧ (mY MX11_isDigit).cls = (cTb 10).1 := ⟨by decide, rfl, rfl⟩
theorem cr_X11_reads : 10 < 11 ∧ 20 = 10 + 10 ∧ (mY MX11_reads).cls = (cTb 10).1 := ⟨by decide, rfl, rfl⟩
theorem cr_X11_blames : 10 < 11 ∧ 20 = 10 + 10 ∧ (mY MX11_blames).cls = (cTb 10).1 := ⟨by decide, rfl, rfl⟩
theorem cr_X11_isWord : 10 < 11 ∧ 20 = 10 + 10 ∧ (mY MX11_isWord).cls = (cTb 10).1 := ⟨by decide, rfl, rfl⟩
theorem cr_X11_took : 10 < 11 ∧ 20 = 10 + 10 ∧ (mY MX11_took).cls = (cTb 10).1 := ⟨by decide, rfl, rfl⟩
theorem cr_X11_must : 10 < 11 ∧ 20 = 10 + 10 ∧ (mY MX11_must).cls = (cTb 10).1 := ⟨by decide, rfl, rfl⟩
theorem cr_X11_isNumber : 10 < 11 ∧ 20 = 10 + 10 ∧ (mY MX11_isNumber).cls = (cTb 10).1 := ⟨by decide, rfl, rfl⟩
theorem cr_X11_coinOf : 10 < 11 ∧ 20 = 10 + 10 ∧ (mY MX11_coinOf).cls = (cTb 10).1 := ⟨by decide, rfl, rfl⟩
theorem cr_X11_readPrime : 10 < 11 ∧ 20 = 10 + 10 ∧ (mY MX11_readPrime).cls = (cTb 10).1 := ⟨by decide, rfl, rfl⟩
theorem cr_X11_readMint : 10 < 11 ∧ 20 = 10 + 10 ∧ (mY MX11_readMint).cls = (cTb 10).1 := ⟨by decide, rfl, rfl⟩
theorem cr_X11_inPurse : 10 < 11 ∧ 20 = 10 + 10 ∧ (mY MX11_inPurse).cls = (cTb 10).1 := ⟨by decide, rfl, rfl⟩
theorem cr_X11_readPurse : 10 < 11 ∧ 20 = 10 + 10 ∧ (mY MX11_readPurse).cls = (cTb 10).1 := ⟨by decide, rfl, rfl⟩
theorem cr_X11_readSide : 10 < 11 ∧ 20 = 10 + 10 ∧ (mY MX11_readSide).cls = (cTb 10).1 := ⟨by decide, rfl, rfl⟩
theorem cr_X11_readChange : 10 < 11 ∧ 20 = 10 + 10 ∧ (mY MX11_readChange).cls = (cTb 10).1 := ⟨by decide, rfl, rfl⟩
theorem cr_X11_readStop : 10 < 11 ∧ 20 = 10 + 10 ∧ (mY MX11_readStop).cls = (cTb 10).1 := ⟨by decide, rfl, rfl⟩
theorem cr_X11_readLine : 10 < 11 ∧ 20 = 10 + 10 ∧ (mY MX11_readLine).cls = (cTb 10).1 := ⟨by decide, rfl, rfl⟩
theorem cr_X11_town : 10 < 11 ∧ 20 = 10 + 10 ∧ (mY MX11_town).cls = (cTb 10).1 := ⟨by decide, rfl, rfl⟩
theorem cr_X11_fault : 10 < 11 ∧ 20 = 10 + 10 ∧ (mY MX11_fault).cls = (cTb 10).1 := ⟨by decide, rfl, rfl⟩
theorem cr_X11_coins : 10 < 11 ∧ 20 = 10 + 10 ∧ (mY MX11_coins).cls = (cTb 10).1 := ⟨by decide, rfl, rfl⟩
theorem cr_X11_people : 10 < 11 ∧ 20 = 10 + 10 ∧ (mY MX11_people).cls = (cTb 10).1 := ⟨by decide, rfl, rfl⟩
theorem cr_X11_isPerson : 10 < 11 ∧ 20 = 10 + 10 ∧ (mY MX11_isPerson).cls = (cTb 10).1 := ⟨by decide, rfl, rfl⟩
theorem cr_X11_prime : 10 < 11 ∧ 20 = 10 + 10 ∧ (mY MX11_prime).cls = (cTb 10).1 := ⟨by decide, rfl, rfl⟩
theorem cr_X11_of : 10 < 11 ∧ 20 = 10 + 10 ∧ (mY MX11_of).cls = (cTb 10).1 := ⟨by decide, rfl, rfl⟩
theorem cr_X11_size : 10 < 11 ∧ 20 = 10 + 10 ∧ (mY MX11_size).cls = (cTb 10).1 := ⟨by decide, rfl, rfl⟩
theorem cr_X11_worthOf : 10 < 11 ∧ 20 = 10 + 10 ∧ (mY MX11_worthOf).cls = (cTb 10).1 := ⟨by decide, rfl, rfl⟩
theorem cr_X11_coin : 10 < 11 ∧ 20 = 10 + 10 ∧ (mY MX11_coin).cls = (cTb 10).1 := ⟨by decide, rfl, rfl⟩
theorem cr_X11_has : 10 < 11 ∧ 20 = 10 + 10 ∧ (mY MX11_has).cls = (cTb 10).1 := ⟨by decide, rfl, rfl⟩
theorem cr_X11_purse : 10 < 11 ∧ 20 = 10 + 10 ∧ (mY MX11_purse).cls = (cTb 10).1 := ⟨by decide, rfl, rfl⟩
theorem cr_X11_worth : 10 < 11 ∧ 20 = 10 + 10 ∧ (mY MX11_worth).cls = (cTb 10).1 := ⟨by decide, rfl, rfl⟩
theorem cr_X11_change : 10 < 11 ∧ 20 = 10 + 10 ∧ (mY MX11_change).cls = (cTb 10).1 := ⟨by decide, rfl, rfl⟩
theorem cr_X11_laysPrice : 10 < 11 ∧ 20 = 10 + 10 ∧ (mY MX11_laysPrice).cls = (cTb 10).1 := ⟨by decide, rfl, rfl⟩
theorem cr_X11_askedMany : 10 < 11 ∧ 20 = 10 + 10 ∧ (mY MX11_askedMany).cls = (cTb 10).1 := ⟨by decide, rfl, rfl⟩
theorem cr_X11_hasAll : 10 < 11 ∧ 20 = 10 + 10 ∧ (mY MX11_hasAll).cls = (cTb 10).1 := ⟨by decide, rfl, rfl⟩
theorem cr_X11_whyNot : 10 < 11 ∧ 20 = 10 + 10 ∧ (mY MX11_whyNot).cls = (cTb 10).1 := ⟨by decide, rfl, rfl⟩
theorem cr_X11_payFault : 10 < 11 ∧ 20 = 10 + 10 ∧ (mY MX11_payFault).cls = (cTb 10).1 := ⟨by decide, rfl, rfl⟩
theorem cr_X11_may : 10 < 11 ∧ 20 = 10 + 10 ∧ (mY MX11_may).cls = (cTb 10).1 := ⟨by decide, rfl, rfl⟩
theorem cr_X11_pay : 10 < 11 ∧ 20 = 10 + 10 ∧ (mY MX11_pay).cls = (cTb 10).1 := ⟨by decide, rfl, rfl⟩
theorem cr_X11_side : 10 < 11 ∧ 20 = 10 + 10 ∧ (mY MX11_side).cls = (cTb 10).1 := ⟨by decide, rfl, rfl⟩
theorem cr_X11_changes : 10 < 11 ∧ 20 = 10 + 10 ∧ (mY MX11_changes).cls = (cTb 10).1 := ⟨by decide, rfl, rfl⟩
theorem cr_X11_taxes : 10 < 11 ∧ 20 = 10 + 10 ∧ (mY MX11_taxes).cls = (cTb 10).1 := ⟨by decide, rfl, rfl⟩
theorem cr_X11_tax : 10 < 11 ∧ 20 = 10 + 10 ∧ (mY MX11_tax).cls = (cTb 10).1 := ⟨by decide, rfl, rfl⟩
theorem cr_X11_strike : 10 < 11 ∧ 20 = 10 + 10 ∧ (mY MX11_strike).cls = (cTb 10).1 := ⟨by decide, rfl, rfl⟩
theorem cr_X11_treasury : 10 < 11 ∧ 20 = 10 + 10 ∧ (mY MX11_treasury).cls = (cTb 10).1 := ⟨by decide, rfl, rfl⟩
theorem cr_X11_readOut : 10 < 11 ∧ 20 = 10 + 10 ∧ (mY MX11_readOut).cls = (cTb 10).1 := ⟨by decide, rfl, rfl⟩
theorem cr_X11_draw : 10 < 11 ∧ 20 = 10 + 10 ∧ (mY MX11_draw).cls = (cTb 10).1 := ⟨by decide, rfl, rfl⟩
theorem cr_X11_year : 10 < 11 ∧ 20 = 10 + 10 ∧ (mY MX11_year).cls = (cTb 10).1 := ⟨by decide, rfl, rfl⟩
theorem cr_X11_trayFault : 10 < 11 ∧ 20 = 10 + 10 ∧ (mY MX11_trayFault).cls = (cTb 10).1 := ⟨by decide, rfl, rfl⟩
theorem cr_X11_dealWhy : 10 < 11 ∧ 20 = 10 + 10 ∧ (mY MX11_dealWhy).cls = (cTb 10).1 := ⟨by decide, rfl, rfl⟩
theorem cr_X11_goesBy : 10 < 11 ∧ 20 = 10 + 10 ∧ (mY MX11_goesBy).cls = (cTb 10).1 := ⟨by decide, rfl, rfl⟩
theorem cr_X11_richest : 10 < 11 ∧ 20 = 10 + 10 ∧ (mY MX11_richest).cls = (cTb 10).1 := ⟨by decide, rfl, rfl⟩
theorem cr_X11_judge : 10 < 11 ∧ 20 = 10 + 10 ∧ (mY MX11_judge).cls = (cTb 10).1 := ⟨by decide, rfl, rfl⟩
theorem cr_X11_perform : 10 < 11 ∧ 20 = 10 + 10 ∧ (mY MX11_perform).cls = (cTb 10).1 := ⟨by decide, rfl, rfl⟩
theorem cr_X11_laysPrices : 10 < 11 ∧ 20 = 10 + 10 ∧ (mY MX11_laysPrices).cls = (cTb 10).1 := ⟨by decide, rfl, rfl⟩
theorem cr_X11_prices : 10 < 11 ∧ 20 = 10 + 10 ∧ (mY MX11_prices).cls = (cTb 10).1 := ⟨by decide, rfl, rfl⟩
theorem cr_X11_price : 10 < 11 ∧ 20 = 10 + 10 ∧ (mY MX11_price).cls = (cTb 10).1 := ⟨by decide, rfl, rfl⟩
theorem cr_X11_gap : 10 < 11 ∧ 20 = 10 + 10 ∧ (mY MX11_gap).cls = (cTb 10).1 := ⟨by decide, rfl, rfl⟩
theorem cr_X11_nearest : 10 < 11 ∧ 20 = 10 + 10 ∧ (mY MX11_nearest).cls = (cTb 10).1 := ⟨by decide, rfl, rfl⟩
theorem cr_X11_half : 10 < 11 ∧ 20 = 10 + 10 ∧ (mY MX11_half).cls = (cTb 10).1 := ⟨by decide, rfl, rfl⟩
theorem cr_X11_ten : 10 < 11 ∧ 20 = 10 + 10 ∧ (mY MX11_ten).cls = (cTb 10).1 := ⟨by decide, rfl, rfl⟩
theorem cr_X11_meets : 10 < 11 ∧ 20 = 10 + 10 ∧ (mY MX11_meets).cls = (cTb 10).1 := ⟨by decide, rfl, rfl⟩
theorem cr_X11_isAsked : 10 < 11 ∧ 20 = 10 + 10 ∧ (mY MX11_isAsked).cls = (cTb 10).1 := ⟨by decide, rfl, rfl⟩
theorem cr_X11_changed : 10 < 11 ∧ 20 = 10 + 10 ∧ (mY MX11_changed).cls = (cTb 10).1 := ⟨by decide, rfl, rfl⟩
theorem cr_X11_fewest : 10 < 11 ∧ 20 = 10 + 10 ∧ (mY MX11_fewest).cls = (cTb 10).1 := ⟨by decide, rfl, rfl⟩
theorem cr_X11_between : 10 < 11 ∧ 20 = 10 + 10 ∧ (mY MX11_between).cls = (cTb 10).1 := ⟨by decide, rfl, rfl⟩
theorem cr_X11_dear : 10 < 11 ∧ 20 = 10 + 10 ∧ (mY MX11_dear).cls = (cTb 10).1 := ⟨by decide, rfl, rfl⟩
theorem cr_X11_sideOf : 10 < 11 ∧ 20 = 10 + 10 ∧ (mY MX11_sideOf).cls = (cTb 10).1 := ⟨by decide, rfl, rfl⟩
theorem cr_X11_gainer : 10 < 11 ∧ 20 = 10 + 10 ∧ (mY MX11_gainer).cls = (cTb 10).1 := ⟨by decide, rfl, rfl⟩
theorem cr_X11_worthBy : 10 < 11 ∧ 20 = 10 + 10 ∧ (mY MX11_worthBy).cls = (cTb 10).1 := ⟨by decide, rfl, rfl⟩
theorem cr_X11_beginsMet : 10 < 11 ∧ 20 = 10 + 10 ∧ (mY MX11_beginsMet).cls = (cTb 10).1 := ⟨by decide, rfl, rfl⟩
theorem cr_X11_grows : 10 < 11 ∧ 20 = 10 + 10 ∧ (mY MX11_grows).cls = (cTb 10).1 := ⟨by decide, rfl, rfl⟩
theorem cr_X11_swap : 10 < 11 ∧ 20 = 10 + 10 ∧ (mY MX11_swap).cls = (cTb 10).1 := ⟨by decide, rfl, rfl⟩
theorem cr_X11_haveAll : 10 < 11 ∧ 20 = 10 + 10 ∧ (mY MX11_haveAll).cls = (cTb 10).1 := ⟨by decide, rfl, rfl⟩
theorem cr_X11_bits : 10 < 11 ∧ 20 = 10 + 10 ∧ (mY MX11_bits).cls = (cTb 10).1 := ⟨by decide, rfl, rfl⟩
theorem cr_X11_together : 10 < 11 ∧ 20 = 10 + 10 ∧ (mY MX11_together).cls = (cTb 10).1 := ⟨by decide, rfl, rfl⟩
theorem cr_X11_common : 10 < 11 ∧ 20 = 10 + 10 ∧ (mY MX11_common).cls = (cTb 10).1 := ⟨by decide, rfl, rfl⟩
theorem cr_X11_least : 10 < 11 ∧ 20 = 10 + 10 ∧ (mY MX11_least).cls = (cTb 10).1 := ⟨by decide, rfl, rfl⟩
theorem cr_X11_areFriends : 10 < 11 ∧ 20 = 10 + 10 ∧ (mY MX11_areFriends).cls = (cTb 10).1 := ⟨by decide, rfl, rfl⟩
theorem cr_X11_friends : 10 < 11 ∧ 20 = 10 + 10 ∧ (mY MX11_friends).cls = (cTb 10).1 := ⟨by decide, rfl, rfl⟩
theorem cr_X11_stolen : 10 < 11 ∧ 20 = 10 + 10 ∧ (mY MX11_stolen).cls = (cTb 10).1 := ⟨by decide, rfl, rfl⟩
theorem cr_X11_isFitting : 10 < 11 ∧ 20 = 10 + 10 ∧ (mY MX11_isFitting).cls = (cTb 10).1 := ⟨by decide, rfl, rfl⟩
theorem cr_X11_bags : 10 < 11 ∧ 20 = 10 + 10 ∧ (mY MX11_bags).cls = (cTb 10).1 := ⟨by decide, rfl, rfl⟩
theorem cr_X11_fitting : 10 < 11 ∧ 20 = 10 + 10 ∧ (mY MX11_fitting).cls = (cTb 10).1 := ⟨by decide, rfl, rfl⟩
theorem cr_X11_leastFactor : 10 < 11 ∧ 20 = 10 + 10 ∧ (mY MX11_leastFactor).cls = (cTb 10).1 := ⟨by decide, rfl, rfl⟩
theorem cr_X11_isCounted : 10 < 11 ∧ 20 = 10 + 10 ∧ (mY MX11_isCounted).cls = (cTb 10).1 := ⟨by decide, rfl, rfl⟩
theorem cr_X11_trial : 10 < 11 ∧ 20 = 10 + 10 ∧ (mY MX11_trial).cls = (cTb 10).1 := ⟨by decide, rfl, rfl⟩
theorem cr_X11_squares : 10 < 11 ∧ 20 = 10 + 10 ∧ (mY MX11_squares).cls = (cTb 10).1 := ⟨by decide, rfl, rfl⟩
theorem cr_X11_shared : 10 < 11 ∧ 20 = 10 + 10 ∧ (mY MX11_shared).cls = (cTb 10).1 := ⟨by decide, rfl, rfl⟩
theorem cr_X11_rounds : 10 < 11 ∧ 20 = 10 + 10 ∧ (mY MX11_rounds).cls = (cTb 10).1 := ⟨by decide, rfl, rfl⟩
theorem cr_X11_factor : 10 < 11 ∧ 20 = 10 + 10 ∧ (mY MX11_factor).cls = (cTb 10).1 := ⟨by decide, rfl, rfl⟩
theorem cr_X11_smooth : 10 < 11 ∧ 20 = 10 + 10 ∧ (mY MX11_smooth).cls = (cTb 10).1 := ⟨by decide, rfl, rfl⟩
theorem cr_X11_primesTo : 10 < 11 ∧ 20 = 10 + 10 ∧ (mY MX11_primesTo).cls = (cTb 10).1 := ⟨by decide, rfl, rfl⟩
theorem cr_X11_powerBy : 10 < 11 ∧ 20 = 10 + 10 ∧ (mY MX11_powerBy).cls = (cTb 10).1 := ⟨by decide, rfl, rfl⟩
theorem cr_X11_witness : 10 < 11 ∧ 20 = 10 + 10 ∧ (mY MX11_witness).cls = (cTb 10).1 := ⟨by decide, rfl, rfl⟩
theorem cr_X11_order : 10 < 11 ∧ 20 = 10 + 10 ∧ (mY MX11_order).cls = (cTb 10).1 := ⟨by decide, rfl, rfl⟩
theorem cr_X11_debt : 10 < 11 ∧ 20 = 10 + 10 ∧ (mY MX11_debt).cls = (cTb 10).1 := ⟨by decide, rfl, rfl⟩
theorem cr_X11_owe : 10 < 11 ∧ 20 = 10 + 10 ∧ (mY MX11_owe).cls = (cTb 10).1 := ⟨by decide, rfl, rfl⟩
theorem cr_X11_owed : 10 < 11 ∧ 20 = 10 + 10 ∧ (mY MX11_owed).cls = (cTb 10).1 := ⟨by decide, rfl, rfl⟩
theorem cr_X11_strikes : 10 < 11 ∧ 20 = 10 + 10 ∧ (mY MX11_strikes).cls = (cTb 10).1 := ⟨by decide, rfl, rfl⟩
theorem cr_X11_strikesFirst : 10 < 11 ∧ 20 = 10 + 10 ∧ (mY MX11_strikesFirst).cls = (cTb 10).1 := ⟨by decide, rfl, rfl⟩
theorem cr_X11_struck : 10 < 11 ∧ 20 = 10 + 10 ∧ (mY MX11_struck).cls = (cTb 10).1 := ⟨by decide, rfl, rfl⟩
theorem cr_X11_isTray : 10 < 11 ∧ 20 = 10 + 10 ∧ (mY MX11_isTray).cls = (cTb 10).1 := ⟨by decide, rfl, rfl⟩
theorem cr_X11_tray : 10 < 11 ∧ 20 = 10 + 10 ∧ (mY MX11_tray).cls = (cTb 10).1 := ⟨by decide, rfl, rfl⟩
theorem cr_X11_cut : 10 < 11 ∧ 20 = 10 + 10 ∧ (mY MX11_cut).cls = (cTb 10).1 := ⟨by decide, rfl, rfl⟩
theorem cr_X11_write : 10 < 11 ∧ 20 = 10 + 10 ∧ (mY MX11_write).cls = (cTb 10).1 := ⟨by decide, rfl, rfl⟩
theorem cr_X11_pour : 10 < 11 ∧ 20 = 10 + 10 ∧ (mY MX11_pour).cls = (cTb 10).1 := ⟨by decide, rfl, rfl⟩
theorem cr_X11_image : 10 < 11 ∧ 20 = 10 + 10 ∧ (mY MX11_image).cls = (cTb 10).1 := ⟨by decide, rfl, rfl⟩
theorem cr_X11_restore : 10 < 11 ∧ 20 = 10 + 10 ∧ (mY MX11_restore).cls = (cTb 10).1 := ⟨by decide, rfl, rfl⟩
theorem cr_X11_count : 10 < 11 ∧ 20 = 10 + 10 ∧ (mY MX11_count).cls = (cTb 10).1 := ⟨by decide, rfl, rfl⟩
